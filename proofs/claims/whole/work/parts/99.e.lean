/-! the story's lines: name -/
theorem c_addName {N z n : Nat} {σ : pS} {v u : Int32} (hN : 20000 < N) (hn : n < 10) (h1 : σ.1 (z + 25) 1 = nI n) : fX8_addName N (G1 z) (z + 25) v u σ = some (putF (rowA (sA (sA σ (z + 26) (nI n) v) (z + 27) (nI n) u) (z + 28) (fun t => if t < 6 then σ.2.1 (z + 28) t ||| (((v >>> (nI t &&& 31)) &&& 1) <<< (nI n &&& 31)) else σ.2.1 (z + 28) t)) (z + 25) 1 (nI (n + 1))) := by
  unfold fX8_addName
  simp only [g1r_0_0, g1r_0_1, g1r_0_2, g1r_0_3, g1r_0_4, g1r_0_5, g1r_0_6, g1r_0_7, g1r_0_8, g1r_1_5, g1n_2, g1r_3_0, g1r_3_1, g1r_3_2, g1r_4_9, g1r_4_10, g1r_4_11, g1r_4_12, g1r_4_13, g1r_4_14, g1r_4_15, g1r_4_16, g1r_4_17, g1n_5, g1n_6, g1n_7, g1n_8, g1n_9, g1n_10, g1n_11, g1n_12, g1n_13, g1r_14_2, g1r_14_3, g1r_14_4, g1r_14_5, g1r_14_6, g1n_15, g1n_16, g1n_17, g1n_18, g1n_19, g1r_20_7, g1r_20_8, g1n_21, g1r_22_2, g1n_23, g1r_24_0, g1r_24_1, g1r_24_2, g1r_25_9, g1r_25_10, g1r_25_11, g1r_25_12, g1r_25_13, g1r_25_14, g1r_25_15, g1r_25_16, g1r_25_17, g1n_26, g1n_27, g1n_28, g1n_29, g1n_30, g1n_31, g1n_32, g1n_33, g1n_34, g1r_35_2, g1r_35_3, g1r_35_4, g1r_35_5, g1r_35_6, g1n_36, g1n_37, g1n_38, g1n_39, g1n_40, g1r_41_7, g1r_41_8, g1n_42, g1r_43_2, g1n_44, g1r_45_0, g1r_45_1, g1r_45_2, g1r_46_9, g1r_46_10, g1r_46_11, g1r_46_12, g1r_46_13, g1r_46_14, g1r_46_15, g1r_46_16, g1r_46_17, g1n_47, g1n_48, g1n_49, g1n_50, g1n_51, g1n_52, g1n_53, g1n_54, g1n_55, g1r_56_2, g1r_56_3, g1r_56_4, g1r_56_5, g1r_56_6, g1n_57, g1n_58, g1n_59, g1n_60, g1n_61, g1r_62_7, g1r_62_8, g1n_63, g1r_64_2, g1n_65, g1r_66_2, g1n_67, g1r_68_7, g1r_68_8, g1n_69, g1r_70_2, g1n_71, g1r_72_7, g1r_72_8, g1n_73, g1r_74_2, g1n_75, g1r_76_7, g1r_76_8, g1n_77, g1r_78_2, g1n_79, g1r_80_7, g1r_80_8, g1n_81, g1r_82_2, g1n_83, g1r_84_7, g1r_84_8, g1n_85, g1r_86_2, g1n_87, g1r_88_7, g1r_88_8, g1n_89, g1r_90_2, g1n_91, g1r_92_7, g1r_92_8, g1n_93, g1r_94_2, g1n_95, g1r_96_7, g1r_96_8, g1n_97, g1r_98_2, g1n_99, g1r_100_7, g1r_100_8, g1n_101, g1r_102_2, g1n_103, g1r_104_7, g1r_104_8, g1n_105, g1r_106_2, g1n_107, g1r_108_7, g1r_108_8, g1n_109, g1r_110_2, g1n_111, g1r_112_7, g1r_112_8, g1n_113, g1r_114_2, g1n_115, g1r_116_7, g1r_116_8, g1n_117, g1r_118_2, g1n_119, g1r_120_0, g1r_120_1, g1r_120_2, g1r_121_7, g1r_121_8, g1n_122, g1r_123_2, g1n_124, g1n_125, g1n_126, g1r_127_0, g1r_127_1, g1r_127_2, g1r_127_3, g1r_128_7, g1r_128_8, g1n_129, g1r_130_2, g1n_131, g1n_132, g1n_133, g1n_134, g1r_135_7, g1n_136, g1n_150]
  rw [h1, if_neg (nI_pos (by omega)), if_neg (show ¬ (10 : Int32) ≤ nI n from lit_lt (m := 10) hn (by decide)), ck_nI (by omega) (by omega), sa1, h1, ck_nI (by omega) (by omega)]
  unfold fX8_addName_b38
  simp only [g1r_0_0, g1r_0_1, g1r_0_2, g1r_0_3, g1r_0_4, g1r_0_5, g1r_0_6, g1r_0_7, g1r_0_8, g1r_1_5, g1n_2, g1r_3_0, g1r_3_1, g1r_3_2, g1r_4_9, g1r_4_10, g1r_4_11, g1r_4_12, g1r_4_13, g1r_4_14, g1r_4_15, g1r_4_16, g1r_4_17, g1n_5, g1n_6, g1n_7, g1n_8, g1n_9, g1n_10, g1n_11, g1n_12, g1n_13, g1r_14_2, g1r_14_3, g1r_14_4, g1r_14_5, g1r_14_6, g1n_15, g1n_16, g1n_17, g1n_18, g1n_19, g1r_20_7, g1r_20_8, g1n_21, g1r_22_2, g1n_23, g1r_24_0, g1r_24_1, g1r_24_2, g1r_25_9, g1r_25_10, g1r_25_11, g1r_25_12, g1r_25_13, g1r_25_14, g1r_25_15, g1r_25_16, g1r_25_17, g1n_26, g1n_27, g1n_28, g1n_29, g1n_30, g1n_31, g1n_32, g1n_33, g1n_34, g1r_35_2, g1r_35_3, g1r_35_4, g1r_35_5, g1r_35_6, g1n_36, g1n_37, g1n_38, g1n_39, g1n_40, g1r_41_7, g1r_41_8, g1n_42, g1r_43_2, g1n_44, g1r_45_0, g1r_45_1, g1r_45_2, g1r_46_9, g1r_46_10, g1r_46_11, g1r_46_12, g1r_46_13, g1r_46_14, g1r_46_15, g1r_46_16, g1r_46_17, g1n_47, g1n_48, g1n_49, g1n_50, g1n_51, g1n_52, g1n_53, g1n_54, g1n_55, g1r_56_2, g1r_56_3, g1r_56_4, g1r_56_5, g1r_56_6, g1n_57, g1n_58, g1n_59, g1n_60, g1n_61, g1r_62_7, g1r_62_8, g1n_63, g1r_64_2, g1n_65, g1r_66_2, g1n_67, g1r_68_7, g1r_68_8, g1n_69, g1r_70_2, g1n_71, g1r_72_7, g1r_72_8, g1n_73, g1r_74_2, g1n_75, g1r_76_7, g1r_76_8, g1n_77, g1r_78_2, g1n_79, g1r_80_7, g1r_80_8, g1n_81, g1r_82_2, g1n_83, g1r_84_7, g1r_84_8, g1n_85, g1r_86_2, g1n_87, g1r_88_7, g1r_88_8, g1n_89, g1r_90_2, g1n_91, g1r_92_7, g1r_92_8, g1n_93, g1r_94_2, g1n_95, g1r_96_7, g1r_96_8, g1n_97, g1r_98_2, g1n_99, g1r_100_7, g1r_100_8, g1n_101, g1r_102_2, g1n_103, g1r_104_7, g1r_104_8, g1n_105, g1r_106_2, g1n_107, g1r_108_7, g1r_108_8, g1n_109, g1r_110_2, g1n_111, g1r_112_7, g1r_112_8, g1n_113, g1r_114_2, g1n_115, g1r_116_7, g1r_116_8, g1n_117, g1r_118_2, g1n_119, g1r_120_0, g1r_120_1, g1r_120_2, g1r_121_7, g1r_121_8, g1n_122, g1r_123_2, g1n_124, g1n_125, g1n_126, g1r_127_0, g1r_127_1, g1r_127_2, g1r_127_3, g1r_128_7, g1r_128_8, g1n_129, g1r_130_2, g1n_131, g1n_132, g1n_133, g1n_134, g1r_135_7, g1n_136, g1n_150]
  have e0 : sA (sA σ (z + 26) (nI n) v) (z + 27) (nI n) u = rowA (sA (sA σ (z + 26) (nI n) v) (z + 27) (nI n) u) (z + 28) (fun t => if t < 0 then σ.2.1 (z + 28) t ||| (((v >>> (nI t &&& 31)) &&& 1) <<< (nI n &&& 31)) else σ.2.1 (z + 28) t) := by
    have : (fun t => if t < 0 then σ.2.1 (z + 28) t ||| (((v >>> (nI t &&& 31)) &&& 1) <<< (nI n &&& 31)) else σ.2.1 (z + 28) t) = (sA (sA σ (z + 26) (nI n) v) (z + 27) (nI n) u).2.1 (z + 28) := by
      funext t
      rw [if_neg (by omega), sA_o (by omega), sA_o (by omega)]
    rw [this, rowA_self]
  rw [show ((0 : Int32), sA (sA σ (z + 26) (nI n) v) (z + 27) (nI n) u) = (nI 0, rowA (sA (sA σ (z + 26) (nI n) v) (z + 27) (nI n) u) (z + 28) (fun t => if t < 0 then σ.2.1 (z + 28) t ||| (((v >>> (nI t &&& 31)) &&& 1) <<< (nI n &&& 31)) else σ.2.1 (z + 28) t)) from by rw [← e0]; rfl]
  refine lp_for (fun k => (nI k, rowA (sA (sA σ (z + 26) (nI n) v) (z + 27) (nI n) u) (z + 28) (fun t => if t < k then σ.2.1 (z + 28) t ||| (((v >>> (nI t &&& 31)) &&& 1) <<< (nI n &&& 31)) else σ.2.1 (z + 28) t))) 6 _ (by omega) ?_ ?_
  · intro k hk q
    dsimp only
    have f1 : (rowA (sA (sA σ (z + 26) (nI n) v) (z + 27) (nI n) u) (z + 28) (fun t => if t < k then σ.2.1 (z + 28) t ||| (((v >>> (nI t &&& 31)) &&& 1) <<< (nI n &&& 31)) else σ.2.1 (z + 28) t)).1 (z + 25) 1 = nI n := h1
    rw [if_neg (l6 hk), ck_nI (by omega) (by omega), ck_nI (by omega) (by omega), gA_row, nI_clamp (by omega), if_neg (by omega), sA_rowA (nI_clamp (by omega)), f1, nI_1]
    congr 2
    refine congrArg _ ?_
    funext t
    by_cases q1 : t = k
    · rw [if_pos q1, if_pos (by omega), q1]
    · by_cases q2 : t < k
      · rw [if_neg q1, if_pos q2, if_pos (by omega)]
      · rw [if_neg q1, if_neg q2, if_neg (by omega)]
  · intro q
    dsimp only
    rw [if_pos l6e, show (rowA (sA (sA σ (z + 26) (nI n) v) (z + 27) (nI n) u) (z + 28) (fun t => if t < 6 then σ.2.1 (z + 28) t ||| (((v >>> (nI t &&& 31)) &&& 1) <<< (nI n &&& 31)) else σ.2.1 (z + 28) t)).1 (z + 25) 1 = nI n from h1, nI_1]
theorem shl_0 : ∀ n, n < 32 → (0 : Int32) <<< (nI n &&& 31) = 0 := by decide +kernel
theorem bit_app {v : Int32} {t n i : Nat} (ht : t < 6) (hn : n < 10) : bit (((v >>> (nI t &&& 31)) &&& 1) <<< (nI n &&& 31)) i = (decide (i = n) && bit v t) := by
  have e : (v >>> (nI t &&& 31)) &&& 1 = if bit v t = true then (1 : Int32) else 0 := by
    apply bit_ext
    intro k hk
    rw [bit_and, bit_1]
    by_cases q : k = 0
    · rw [q, bit_shr (by omega) (by omega), Nat.add_zero]
      by_cases q2 : bit v t = true
      · rw [if_pos q2, q2, bit_1]
        rfl
      · rw [if_neg q2, bit_0, Bool.eq_false_iff.mpr q2]
        rfl
    · rw [decide_eq_false q, Bool.and_false]
      by_cases q2 : bit v t = true
      · rw [if_pos q2, bit_1, decide_eq_false q]
      · rw [if_neg q2, bit_0]
  rw [e]
  by_cases q2 : bit v t = true
  · rw [if_pos q2, q2, Bool.and_true, bit_shl1 (by omega)]
  · rw [if_neg q2, Bool.eq_false_iff.mpr q2, Bool.and_false, shl_0 n (by omega), bit_0]
theorem w_name {N z y L p b n : Nat} {B : Nat → Int32} {τ1 τ2 ω : pS} {v u : Int32} (jt : JT z y B L p ω (PT y τ2 p b)) (f1 : FC z τ1 ω) (w1 : WorldR ω (z + 25) (τ2.2.1 (y + 1))) (ec : τ2.2.1 (y + 1) 0 = nI n) (hn : n < 10) (hv : 0 ≤ v.toInt ∧ v.toInt < 64) (hu : 1 ≤ u.toInt ∧ u.toInt ≤ 9) : LPost z y B L τ1 τ2 (some (1, putF (rowA (sA (sA (putF (putF ω (z + 41) 3 (ω.1 (z + 41) 3 ||| ((1 : Int32) <<< (nI n &&& 31)))) (z + 41) 2 (jmax 0 (ω.1 (z + 41) 2))) (z + 26) (nI n) v) (z + 27) (nI n) u) (z + 28) (fun t => if t < 6 then ω.2.1 (z + 28) t ||| (((v >>> (nI t &&& 31)) &&& 1) <<< (nI n &&& 31)) else ω.2.1 (z + 28) t)) (z + 25) 1 (nI (n + 1)))) (some (1, sA (sA (sA (sA (PT y τ2 p b) (y + 1) (nI (17 + 2 * n)) v) (y + 1) (nI (18 + 2 * n)) u) (y + 1) 12 (gA (sA (sA (PT y τ2 p b) (y + 1) (nI (17 + 2 * n)) v) (y + 1) (nI (18 + 2 * n)) u) (y + 1) 12 ||| ((1 : Int32) <<< (nI n &&& 31)))) (y + 1) 0 (gA (sA (sA (sA (PT y τ2 p b) (y + 1) (nI (17 + 2 * n)) v) (y + 1) (nI (18 + 2 * n)) u) (y + 1) 12 (gA (sA (sA (PT y τ2 p b) (y + 1) (nI (17 + 2 * n)) v) (y + 1) (nI (18 + 2 * n)) u) (y + 1) 12 ||| ((1 : Int32) <<< (nI n &&& 31)))) (y + 1) 0 + 1))) := by
  have wi := w1.1
  have hc : cN (τ2.2.1 (y + 1)) 0 = n := by
    unfold cN
    rw [ec, nI_toInt (by omega)]
    omega
  have hw : (sA (sA (sA (sA (PT y τ2 p b) (y + 1) (nI (17 + 2 * n)) v) (y + 1) (nI (18 + 2 * n)) u) (y + 1) 12 (gA (sA (sA (PT y τ2 p b) (y + 1) (nI (17 + 2 * n)) v) (y + 1) (nI (18 + 2 * n)) u) (y + 1) 12 ||| ((1 : Int32) <<< (nI n &&& 31)))) (y + 1) 0 (gA (sA (sA (sA (PT y τ2 p b) (y + 1) (nI (17 + 2 * n)) v) (y + 1) (nI (18 + 2 * n)) u) (y + 1) 12 (gA (sA (sA (PT y τ2 p b) (y + 1) (nI (17 + 2 * n)) v) (y + 1) (nI (18 + 2 * n)) u) (y + 1) 12 ||| ((1 : Int32) <<< (nI n &&& 31)))) (y + 1) 0 + 1)).2.1 (y + 1) = va_up (va_up (va_up (va_up (τ2.2.1 (y + 1)) (17 + 2 * n) v) (18 + 2 * n) u) 12 (τ2.2.1 (y + 1) 12 ||| ((1 : Int32) <<< (nI n &&& 31)))) 0 (nI (n + 1)) := by
    rw [sA_w (n := 0) rfl, sA_w (n := 12) rfl, sA_w (n := 18 + 2 * n) (nI_clamp (by omega)), sA_w (n := 17 + 2 * n) (nI_clamp (by omega))]
    have g12 : gA (sA (sA (PT y τ2 p b) (y + 1) (nI (17 + 2 * n)) v) (y + 1) (nI (18 + 2 * n)) u) (y + 1) 12 = τ2.2.1 (y + 1) 12 := by
      show (sA (sA (PT y τ2 p b) (y + 1) (nI (17 + 2 * n)) v) (y + 1) (nI (18 + 2 * n)) u).2.1 (y + 1) 12 = _
      rw [sA_w (n := 18 + 2 * n) (nI_clamp (by omega)), sA_w (n := 17 + 2 * n) (nI_clamp (by omega)), va_up_ne _ _ (by omega), va_up_ne _ _ (by omega), PT_2]
    rw [g12]
    congr 1
    show (sA (sA (sA (PT y τ2 p b) (y + 1) (nI (17 + 2 * n)) v) (y + 1) (nI (18 + 2 * n)) u) (y + 1) 12 (τ2.2.1 (y + 1) 12 ||| ((1 : Int32) <<< (nI n &&& 31)))).2.1 (y + 1) 0 + 1 = _
    rw [sA_w (n := 12) rfl, sA_w (n := 18 + 2 * n) (nI_clamp (by omega)), sA_w (n := 17 + 2 * n) (nI_clamp (by omega)), va_up_ne _ _ (by omega), va_up_ne _ _ (by omega), va_up_ne _ _ (by omega), PT_2, ec, nI_1]
  have ew : ∀ k, k ≠ 0 ∧ k ≠ 12 ∧ k ≠ 17 + 2 * n ∧ k ≠ 18 + 2 * n → va_up (va_up (va_up (va_up (τ2.2.1 (y + 1)) (17 + 2 * n) v) (18 + 2 * n) u) 12 (τ2.2.1 (y + 1) 12 ||| ((1 : Int32) <<< (nI n &&& 31)))) 0 (nI (n + 1)) k = τ2.2.1 (y + 1) k := fun k a => by rw [va_up_ne _ _ a.1, va_up_ne _ _ a.2.1, va_up_ne _ _ a.2.2.2, va_up_ne _ _ a.2.2.1]
  have wc : va_up (va_up (va_up (va_up (τ2.2.1 (y + 1)) (17 + 2 * n) v) (18 + 2 * n) u) 12 (τ2.2.1 (y + 1) 12 ||| ((1 : Int32) <<< (nI n &&& 31)))) 0 (nI (n + 1)) 0 = nI (n + 1) := va_up_self _ _ _
  have w12 : va_up (va_up (va_up (va_up (τ2.2.1 (y + 1)) (17 + 2 * n) v) (18 + 2 * n) u) 12 (τ2.2.1 (y + 1) 12 ||| ((1 : Int32) <<< (nI n &&& 31)))) 0 (nI (n + 1)) 12 = τ2.2.1 (y + 1) 12 ||| ((1 : Int32) <<< (nI n &&& 31)) := by rw [va_up_ne _ _ (by omega), va_up_self]
  have wv : va_up (va_up (va_up (va_up (τ2.2.1 (y + 1)) (17 + 2 * n) v) (18 + 2 * n) u) 12 (τ2.2.1 (y + 1) 12 ||| ((1 : Int32) <<< (nI n &&& 31)))) 0 (nI (n + 1)) (17 + 2 * n) = v := by rw [va_up_ne _ _ (by omega), va_up_ne _ _ (by omega), va_up_ne _ _ (by omega), va_up_self]
  have wu : va_up (va_up (va_up (va_up (τ2.2.1 (y + 1)) (17 + 2 * n) v) (18 + 2 * n) u) 12 (τ2.2.1 (y + 1) 12 ||| ((1 : Int32) <<< (nI n &&& 31)))) 0 (nI (n + 1)) (18 + 2 * n) = u := by rw [va_up_ne _ _ (by omega), va_up_ne _ _ (by omega), va_up_self]
  generalize hW : va_up (va_up (va_up (va_up (τ2.2.1 (y + 1)) (17 + 2 * n) v) (18 + 2 * n) u) 12 (τ2.2.1 (y + 1) 12 ||| ((1 : Int32) <<< (nI n &&& 31)))) 0 (nI (n + 1)) = w' at hw ew wc w12 wv wu
  have cc : cN w' 0 = n + 1 := by
    unfold cN
    rw [wc, nI_toInt (by omega)]
    omega
  have du : DU z ω (putF (rowA (sA (sA (putF (putF ω (z + 41) 3 (ω.1 (z + 41) 3 ||| ((1 : Int32) <<< (nI n &&& 31)))) (z + 41) 2 (jmax 0 (ω.1 (z + 41) 2))) (z + 26) (nI n) v) (z + 27) (nI n) u) (z + 28) (fun t => if t < 6 then ω.2.1 (z + 28) t ||| (((v >>> (nI t &&& 31)) &&& 1) <<< (nI n &&& 31)) else ω.2.1 (z + 28) t)) (z + 25) 1 (nI (n + 1))) := (((((DU.r.pf (by omega)).pf (by omega)).sa (by omega)).sa (by omega)).row (by omega)).pf (by omega)
  have hB := wi.hB
  refine ⟨1, _, _, rfl, rfl, f1.t du.fc, FY.pt.sa.sa.sa.sa, Or.inl ⟨rfl, ⟨p, jt.mv du (fun _ => rfl) (by rw [sA_o (by omega), sA_o (by omega), sA_o (by omega), sA_o (by omega)])⟩, ?_, ?_⟩⟩
  · rw [hw]
    have fo : ∀ a, a ≠ 25 → a ≠ 41 → (putF (rowA (sA (sA (putF (putF ω (z + 41) 3 (ω.1 (z + 41) 3 ||| ((1 : Int32) <<< (nI n &&& 31)))) (z + 41) 2 (jmax 0 (ω.1 (z + 41) 2))) (z + 26) (nI n) v) (z + 27) (nI n) u) (z + 28) (fun t => if t < 6 then ω.2.1 (z + 28) t ||| (((v >>> (nI t &&& 31)) &&& 1) <<< (nI n &&& 31)) else ω.2.1 (z + 28) t)) (z + 25) 1 (nI (n + 1))).1 (z + a) = ω.1 (z + a) := fun a h1 h2 => by
      rw [pf_o (by omega)]
      show (putF (putF ω (z + 41) 3 _) (z + 41) 2 _).1 (z + a) = _
      rw [pf_o (by omega), pf_o (by omega)]
    have ro : ∀ a, a ≠ 26 → a ≠ 27 → a ≠ 28 → (putF (rowA (sA (sA (putF (putF ω (z + 41) 3 (ω.1 (z + 41) 3 ||| ((1 : Int32) <<< (nI n &&& 31)))) (z + 41) 2 (jmax 0 (ω.1 (z + 41) 2))) (z + 26) (nI n) v) (z + 27) (nI n) u) (z + 28) (fun t => if t < 6 then ω.2.1 (z + 28) t ||| (((v >>> (nI t &&& 31)) &&& 1) <<< (nI n &&& 31)) else ω.2.1 (z + 28) t)) (z + 25) 1 (nI (n + 1))).2.1 (z + a) = ω.2.1 (z + a) := fun a h1 h2 h3 => by
      rw [pfA, row_o (by omega), sA_o (by omega), sA_o (by omega), pfA, pfA]
    refine wor_mk w1 ?_ (fun k hk => ew k (by omega)) (fun k => by rw [fo 35 (by omega) (by omega)]) (fun k => by rw [fo 43 (by omega) (by omega)]) (fun o ho => ro o (by omega) (by omega) (by omega)) ?_ ?_
    · refine wi.st (fun k hk => ew k (by omega)) ?_ ?_ ?_ ?_ ?_ ?_ ?_ ?_ ?_ ?_ ?_ ?_ ?_ ?_ ?_ ?_
      · rw [wc, nI_toInt (by omega)]
        omega
      · rw [ew 1 (by omega)]
        exact ⟨Int.le_refl _, wi.2.1.2⟩
      · rw [ew 2 (by omega)]
        exact wi.2.2.1
      · rw [ew 3 (by omega)]
        exact wi.2.2.2.1
      · rw [ew 4 (by omega)]
        exact wi.2.2.2.2.1
      · rw [ew 7 (by omega)]
        exact wi.2.2.2.2.2.2.2.1
      · rw [ew 8 (by omega)]
        exact wi.2.2.2.2.2.2.2.2.1
      · rw [ew 10 (by omega)]
        exact wi.yr
      · rw [ew 11 (by omega), wc, nI_toInt (by omega)]
        rw [ec, nI_toInt (by omega)] at hB
        rcases hB with ⟨h1, h2⟩
        refine ⟨h1, ?_⟩
        rcases h2 with h2 | h2
        · left
          omega
        · exact Or.inr h2
      · intro i hi
        rw [w12, bit_or, bit_shl1 (by omega), Bool.or_eq_true] at hi
        rw [cc]
        rcases hi with hi | hi
        · have := wi.pos i hi
          omega
        · have := of_decide_eq_true hi
          omega
      · rw [ew 14 (by omega)]
        exact wi.2.2.2.2.2.2.2.2.2.2.2.2.2.2.1
      · intro i hi
        rw [cc] at hi
        by_cases q : i = n
        · rw [q, wv, wu]
          exact ⟨hv, hu⟩
        · rw [ew (17 + 2 * i) (by omega), ew (18 + 2 * i) (by omega)]
          exact wi.na i (by omega)
      · exact wi.s37 (ew 1 (by omega)) (by rw [ew 2 (by omega)]; exact Int.le_refl _) (fun k a b => ew k (by omega))
      · exact wi.s55 (ew 2 (by omega)) (fun k a b => ew k (by omega))
      · exact wi.s67 (ew 3 (by omega)) (fun k a b => ew k (by omega))
      · exact wi.s75 (ew 4 (by omega)) (fun k a b => ew k (by omega))
    · have ta := w1.2.1
      refine tale_of ?_ (fun k hk => ?_)
      · have t0 := ta.1
        have fr : (rowA (sA (sA (putF (putF ω (z + 41) 3 (ω.1 (z + 41) 3 ||| ((1 : Int32) <<< (nI n &&& 31)))) (z + 41) 2 (jmax 0 (ω.1 (z + 41) 2))) (z + 26) (nI n) v) (z + 27) (nI n) u) (z + 28) (fun t => if t < 6 then ω.2.1 (z + 28) t ||| (((v >>> (nI t &&& 31)) &&& 1) <<< (nI n &&& 31)) else ω.2.1 (z + 28) t)).1 (z + 25) = ω.1 (z + 25) := by
          show (putF (putF ω (z + 41) 3 _) (z + 41) 2 _).1 (z + 25) = _
          rw [pf_o (by omega), pf_o (by omega)]
        rw [pf0n (by decide), pf0, pf0n (by decide), pf0n (by decide), pf0n (by decide), pf0n (by decide), pf0n (by decide), pf0n (by decide), pf0n (by decide), fr, ew 5 (by omega), wc, ew 2 (by omega), ew 3 (by omega), ew 1 (by omega), ew 4 (by omega), ew 8 (by omega), ew 10 (by omega), ew 14 (by omega)]
        exact ⟨t0.1, rfl, t0.2.2.1, t0.2.2.2.1, t0.2.2.2.2.1, t0.2.2.2.2.2.1, t0.2.2.2.2.2.2.1, t0.2.2.2.2.2.2.2.1, t0.2.2.2.2.2.2.2.2⟩
      · by_cases q : k = 0
        · subst q
          refine ⟨fun i hi => ?_, fun t ht i => ?_⟩
          · rw [cc] at hi
            show (rowA (sA (sA (putF (putF ω (z + 41) 3 (ω.1 (z + 41) 3 ||| ((1 : Int32) <<< (nI n &&& 31)))) (z + 41) 2 (jmax 0 (ω.1 (z + 41) 2))) (z + 26) (nI n) v) (z + 27) (nI n) u) (z + 28) (fun t => if t < 6 then ω.2.1 (z + 28) t ||| (((v >>> (nI t &&& 31)) &&& 1) <<< (nI n &&& 31)) else ω.2.1 (z + 28) t)).2.1 (z + 26) i = _ ∧ (rowA (sA (sA (putF (putF ω (z + 41) 3 (ω.1 (z + 41) 3 ||| ((1 : Int32) <<< (nI n &&& 31)))) (z + 41) 2 (jmax 0 (ω.1 (z + 41) 2))) (z + 26) (nI n) v) (z + 27) (nI n) u) (z + 28) (fun t => if t < 6 then ω.2.1 (z + 28) t ||| (((v >>> (nI t &&& 31)) &&& 1) <<< (nI n &&& 31)) else ω.2.1 (z + 28) t)).2.1 (z + 27) i = _
            rw [row_o (by omega), row_o (by omega), sA_o (by omega), sA_w (n := n) (nI_clamp (by omega)), sA_w (n := n) (nI_clamp (by omega)), sA_o (by omega), pfA, pfA]
            by_cases q : i = n
            · rw [q, wv, wu, va_up_self, va_up_self]
              exact ⟨rfl, rfl⟩
            · rw [va_up_ne _ _ q, va_up_ne _ _ q, ew (17 + 2 * i) (by omega), ew (18 + 2 * i) (by omega)]
              exact ta.2.1 i (by omega)
          · show bit ((rowA (sA (sA (putF (putF ω (z + 41) 3 (ω.1 (z + 41) 3 ||| ((1 : Int32) <<< (nI n &&& 31)))) (z + 41) 2 (jmax 0 (ω.1 (z + 41) 2))) (z + 26) (nI n) v) (z + 27) (nI n) u) (z + 28) (fun t => if t < 6 then ω.2.1 (z + 28) t ||| (((v >>> (nI t &&& 31)) &&& 1) <<< (nI n &&& 31)) else ω.2.1 (z + 28) t)).2.1 (z + 28) t) i = _
            rw [row_s, if_pos ht, bit_or, bit_app ht hn, show bit (ω.2.1 (z + 28) t) i = _ from ta.2.2.1 t ht i, hc, cc]
            by_cases q : i = n
            · rw [q, wv]
              simp
            · by_cases q2 : i < n
              · rw [ew (17 + 2 * i) (by omega), decide_eq_false q, Bool.false_and, Bool.or_false, decide_eq_true q2, decide_eq_true (show i < n + 1 by omega)]
              · rw [decide_eq_false q, Bool.false_and, Bool.or_false, decide_eq_false q2, decide_eq_false (show ¬ i < n + 1 by omega), Bool.false_and, Bool.false_and]
        · exact trow_e wi hk (tale_to ta k hk) (fun j hj => by
            have := ro (25 + (1 + j)) (by omega) (by omega) (by omega)
            rw [← Nat.add_assoc] at this
            exact this) (fun j hj => ew j (by omega))
    · obtain ⟨m1, m2, m3, m4, m5, m6, m7, m8⟩ := w1.2.2.2.1
      have m1 : ω.1 (z + 41) 0 = _ := m1
      have m2 : ω.1 (z + 41) 1 = _ := m2
      have m3 : ω.1 (z + 41) 2 = _ := m3
      have m4 : ω.1 (z + 41) 3 = _ := m4
      have m6 : ω.1 (z + 41) 5 = _ := m6
      have m7 : ω.1 (z + 41) 6 = _ := m7
      have c1' : cN w' 1 = cN (τ2.2.1 (y + 1)) 1 := by
        unfold cN
        rw [ew 1 (by omega)]
      have fm : (putF (rowA (sA (sA (putF (putF ω (z + 41) 3 (ω.1 (z + 41) 3 ||| ((1 : Int32) <<< (nI n &&& 31)))) (z + 41) 2 (jmax 0 (ω.1 (z + 41) 2))) (z + 26) (nI n) v) (z + 27) (nI n) u) (z + 28) (fun t => if t < 6 then ω.2.1 (z + 28) t ||| (((v >>> (nI t &&& 31)) &&& 1) <<< (nI n &&& 31)) else ω.2.1 (z + 28) t)) (z + 25) 1 (nI (n + 1))).1 (z + 41) = (putF (putF ω (z + 41) 3 (ω.1 (z + 41) 3 ||| ((1 : Int32) <<< (nI n &&& 31)))) (z + 41) 2 (jmax 0 (ω.1 (z + 41) 2))).1 (z + 41) := by
        rw [pf_o (by omega)]
        rfl
      have c1 := wi.c1
      unfold MindR
      rw [c1', fm, ro 42 (by omega) (by omega) (by omega), pf0n (by decide), pf0n (by decide), pf0n (by decide), pf0n (by decide), pf0, pf0n (by decide), pf0, pf0n (by decide), pf0n (by decide), pf0n (by decide), pf0n (by decide), pf0n (by decide), pf0n (by decide), m3, m4, ew 7 (by omega), ew 9 (by omega), wc, ew 11 (by omega), w12, ew 16 (by omega), ew 13 (by omega)]
      refine ⟨m1, m2, ?_, rfl, fun i => ?_, m6, m7, fun i hi => ?_⟩
      · rw [if_neg (nI_ne0 (by omega) (by omega)), ec]
        rw [ec, nI_toInt (by omega)] at hB
        by_cases q : n = 0
        · rw [q, if_pos (show nI 0 = 0 from rfl)]
          have : τ2.2.1 (y + 1) 11 = 0 := by
            rcases hB.2 with h | h
            · have := hB.1
              omega
            · exact h
          rw [this]
          decide
        · rw [if_neg (nI_ne0 (by omega) (by omega))]
          unfold jmax
          by_cases q2 : (0 : Int32) < τ2.2.1 (y + 1) 11
          · rw [if_pos q2]
          · rw [if_neg q2]
            rw [i_lt, show (0 : Int32).toInt = 0 from rfl] at q2
            apply i_ext
            have := hB.1
            rw [show (0 : Int32).toInt = 0 from rfl]
            omega
      · rw [m5 i]
        by_cases q : i < cN (τ2.2.1 (y + 1)) 1
        · rw [ew (39 + 3 * i) (by omega)]
        · rw [decide_eq_false q, Bool.false_and, Bool.false_and]
      · rw [ew (38 + 3 * i) (by omega)]
        exact m8 i hi
  · rw [hw, ew 5 (by omega)]
theorem j_name {N z y L f : Nat} {B : Nat → Int32} {τ1 τ2 : pS} (hN : 20000 < N) (j : JW z y B L f τ1 τ2) (hf : f < en ltr B L f) (g : WorldR τ1 (z + 25) (τ2.2.1 (y + 1))) : LPost z y B L τ1 τ2 (fX7_readsName N (G1 z) (z + 1) (z + 24) τ1) (fX12_readName N (G2 y) y τ2) := by
  have wi := g.1
  have c0 := wi.c0
  have e3 : τ2.2.1 (y + 1) 0 = nI (cN (τ2.2.1 (y + 1)) 0) := nI_cN wi.1.1
  have t3 : τ1.1 (z + 25) 1 = τ2.2.1 (y + 1) 0 := g.2.1.1.2.1
  unfold fX7_readsName fX12_readName
  simp only [g1r_0_0, g1r_0_1, g1r_0_2, g1r_0_3, g1r_0_4, g1r_0_5, g1r_0_6, g1r_0_7, g1r_0_8, g1r_1_5, g1n_2, g1r_3_0, g1r_3_1, g1r_3_2, g1r_4_9, g1r_4_10, g1r_4_11, g1r_4_12, g1r_4_13, g1r_4_14, g1r_4_15, g1r_4_16, g1r_4_17, g1n_5, g1n_6, g1n_7, g1n_8, g1n_9, g1n_10, g1n_11, g1n_12, g1n_13, g1r_14_2, g1r_14_3, g1r_14_4, g1r_14_5, g1r_14_6, g1n_15, g1n_16, g1n_17, g1n_18, g1n_19, g1r_20_7, g1r_20_8, g1n_21, g1r_22_2, g1n_23, g1r_24_0, g1r_24_1, g1r_24_2, g1r_25_9, g1r_25_10, g1r_25_11, g1r_25_12, g1r_25_13, g1r_25_14, g1r_25_15, g1r_25_16, g1r_25_17, g1n_26, g1n_27, g1n_28, g1n_29, g1n_30, g1n_31, g1n_32, g1n_33, g1n_34, g1r_35_2, g1r_35_3, g1r_35_4, g1r_35_5, g1r_35_6, g1n_36, g1n_37, g1n_38, g1n_39, g1n_40, g1r_41_7, g1r_41_8, g1n_42, g1r_43_2, g1n_44, g1r_45_0, g1r_45_1, g1r_45_2, g1r_46_9, g1r_46_10, g1r_46_11, g1r_46_12, g1r_46_13, g1r_46_14, g1r_46_15, g1r_46_16, g1r_46_17, g1n_47, g1n_48, g1n_49, g1n_50, g1n_51, g1n_52, g1n_53, g1n_54, g1n_55, g1r_56_2, g1r_56_3, g1r_56_4, g1r_56_5, g1r_56_6, g1n_57, g1n_58, g1n_59, g1n_60, g1n_61, g1r_62_7, g1r_62_8, g1n_63, g1r_64_2, g1n_65, g1r_66_2, g1n_67, g1r_68_7, g1r_68_8, g1n_69, g1r_70_2, g1n_71, g1r_72_7, g1r_72_8, g1n_73, g1r_74_2, g1n_75, g1r_76_7, g1r_76_8, g1n_77, g1r_78_2, g1n_79, g1r_80_7, g1r_80_8, g1n_81, g1r_82_2, g1n_83, g1r_84_7, g1r_84_8, g1n_85, g1r_86_2, g1n_87, g1r_88_7, g1r_88_8, g1n_89, g1r_90_2, g1n_91, g1r_92_7, g1r_92_8, g1n_93, g1r_94_2, g1n_95, g1r_96_7, g1r_96_8, g1n_97, g1r_98_2, g1n_99, g1r_100_7, g1r_100_8, g1n_101, g1r_102_2, g1n_103, g1r_104_7, g1r_104_8, g1n_105, g1r_106_2, g1n_107, g1r_108_7, g1r_108_8, g1n_109, g1r_110_2, g1n_111, g1r_112_7, g1r_112_8, g1n_113, g1r_114_2, g1n_115, g1r_116_7, g1r_116_8, g1n_117, g1r_118_2, g1n_119, g1r_120_0, g1r_120_1, g1r_120_2, g1r_121_7, g1r_121_8, g1n_122, g1r_123_2, g1n_124, g1n_125, g1n_126, g1r_127_0, g1r_127_1, g1r_127_2, g1r_127_3, g1r_128_7, g1r_128_8, g1n_129, g1r_130_2, g1n_131, g1n_132, g1n_133, g1n_134, g1r_135_7, g1n_136, g1n_150]
  rw [r_names, b_some, t3, e3]
  generalize hn : cN (τ2.2.1 (y + 1)) 0 = n at c0 e3
  by_cases u : n < 10
  · rw [if_pos (show nI n < 10 from nI_lt (b := 10) u (by omega)), if_neg (show ¬ nI n = 10 from fun q => by
      have := (nI_eq (a := n) (b := 10) (by omega) (by omega)).mp q
      omega)]
    obtain ⟨υ, x1, x2, x3⟩ := j.adv hN hf
    obtain ⟨v, ω, p', b', a1, a2, a3, a4⟩ := x3.told hN
    rw [x1, b_some, a1, b_some, a2, b_some]
    dsimp only
    rcases a4 with ⟨v0, v1, jt⟩ | ⟨rfl, hb⟩
    · rw [if_neg (ne_m1 v0), if_pos (ge_0 v0)]
      obtain ⟨u2, ψ, p2, b2, c1, c2, c3⟩ := jt.after (lo := 1) (hi := 9) hN sw_credit (by decide)
      rw [PT_PT] at c1 c3
      rw [c1, b_some]
      rcases c3 with ⟨χ, d1, d2, d3, d4, d5⟩ | ⟨rfl, d1, d2⟩
      · have bd2 := bds d3 d4
        have u0 : 0 ≤ u2.toInt := by
          have := bd2.1
          rw [show (1 : Int32).toInt = 1 from rfl] at this
          omega
        have w1 : WorldR ψ (z + 25) (τ2.2.1 (y + 1)) := wor_TF c2 (wor_TF a3 (wor_TF x2 g))
        have t4 : ψ.1 (z + 25) 1 = nI n := (w1.2.1.1.2.1).trans e3
        rw [d1, b_some]
        dsimp only
        rw [if_neg (show ¬ (1 : Int32) = 0 by decide), d2, b_some]
        dsimp only
        rw [if_neg (ne_m1 u0), t4, pf0n (show 2 ≠ 3 by decide), c_addName hN u (by rw [pf_o (by omega), pf_o (by omega)]; exact t4), b_some]
        unfold fX12_readName_b35
        simp only [g2r_0_1, g2r_0_2, g2r_0_3, g2r_0_4, g2r_0_5, g2r_0_8, g2r_0_15, g2r_0_17, g2r_0_25, g2r_0_26, g2r_0_27, g2r_0_28, g2n_1, g2n_2, g2n_3, g2n_4, g2n_5, g2n_6, g2n_7, g2n_8, g2n_9, g2n_10, g2n_11, g2n_12]
        rw [if_pos (ge_0 u0), show (17 : Int32) + 2 * nI n + 0 = nI (17 + 2 * n) from ixr (b := 17) (s := 2) (c := 0), show (17 : Int32) + 2 * nI n + 1 = nI (18 + 2 * n) from (ixr (b := 17) (s := 2) (c := 1)).trans (by congr 1; omega), ck_nI (by omega) (by omega), ck_nI (by omega) (by omega)]
        exact w_name (N := N) d5 (x2.fc.t (a3.fc.t c2.fc)) w1 e3 u ⟨v0, v1⟩ bd2
      · unfold fX12_readName_b35
        dsimp only
        rw [if_neg (show ¬ (0 : Int32) ≤ -1 by decide)]
        refine lp_no (υ1 := ψ) ?_ rfl (x2.fc.t (a3.fc.t c2.fc)) FY.pt d1 PT_f12
        rcases d2 with d2 | ⟨χ, d2, d3⟩
        · rw [d2, b_some]
          dsimp only
          rw [if_pos rfl]
        · rw [d2, b_some]
          dsimp only
          rw [if_neg (show ¬ (1 : Int32) = 0 by decide), d3, b_some]
          dsimp only
          rw [if_pos rfl]
    · unfold fX12_readName_b35
      rw [if_pos rfl, if_neg (show ¬ (0 : Int32) ≤ -1 by decide), if_neg (show ¬ (0 : Int32) ≤ -1 by decide)]
      exact lp_no rfl rfl (x2.fc.t a3.fc) FY.pt hb PT_f12
  · have hn8 : n = 10 := by omega
    rw [hn8, if_neg (show ¬ nI 10 < 10 by decide), if_pos (show nI 10 = 10 from rfl)]
    exact lp_no rfl rfl FC.r FY.r j.2.1.2.1 j.2.2.2.2.2.1
