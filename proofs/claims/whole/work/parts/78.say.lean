/-! say, does, would -/
theorem gd_say {N z y : Nat} (hN : 20000 < N) : Gd_say N (G1 z) (G2 y) z y (z + 150) (Sim z y) := by
  intro σ1 σ2 h c1 c2
  unfold fL_say
  apply gd_w
  unfold fX11_say fX12_say
  refine ww_pre h (fun τ => if_pos rfl) rfl (fun i j hi hj hi6 hj6 e1 e2 => ?_)
  subst e1
  subst e2
  simp only [g1r_0_0, g1r_0_1, g1r_0_2, g1r_0_3, g1r_0_4, g1r_0_5, g1r_0_6, g1r_0_7, g1r_0_8, g1r_1_5, g1n_2, g1r_3_0, g1r_3_1, g1r_3_2, g1r_4_9, g1r_4_10, g1r_4_11, g1r_4_12, g1r_4_13, g1r_4_14, g1r_4_15, g1r_4_16, g1r_4_17, g1n_5, g1n_6, g1n_7, g1n_8, g1n_9, g1n_10, g1n_11, g1n_12, g1n_13, g1r_14_2, g1r_14_3, g1r_14_4, g1r_14_5, g1r_14_6, g1n_15, g1n_16, g1n_17, g1n_18, g1n_19, g1r_20_7, g1r_20_8, g1n_21, g1r_22_2, g1n_23, g1r_24_0, g1r_24_1, g1r_24_2, g1r_25_9, g1r_25_10, g1r_25_11, g1r_25_12, g1r_25_13, g1r_25_14, g1r_25_15, g1r_25_16, g1r_25_17, g1n_26, g1n_27, g1n_28, g1n_29, g1n_30, g1n_31, g1n_32, g1n_33, g1n_34, g1r_35_2, g1r_35_3, g1r_35_4, g1r_35_5, g1r_35_6, g1n_36, g1n_37, g1n_38, g1n_39, g1n_40, g1r_41_7, g1r_41_8, g1n_42, g1r_43_2, g1n_44, g1r_45_0, g1r_45_1, g1r_45_2, g1r_46_9, g1r_46_10, g1r_46_11, g1r_46_12, g1r_46_13, g1r_46_14, g1r_46_15, g1r_46_16, g1r_46_17, g1n_47, g1n_48, g1n_49, g1n_50, g1n_51, g1n_52, g1n_53, g1n_54, g1n_55, g1r_56_2, g1r_56_3, g1r_56_4, g1r_56_5, g1r_56_6, g1n_57, g1n_58, g1n_59, g1n_60, g1n_61, g1r_62_7, g1r_62_8, g1n_63, g1r_64_2, g1n_65, g1r_66_2, g1n_67, g1r_68_7, g1r_68_8, g1n_69, g1r_70_2, g1n_71, g1r_72_7, g1r_72_8, g1n_73, g1r_74_2, g1n_75, g1r_76_7, g1r_76_8, g1n_77, g1r_78_2, g1n_79, g1r_80_7, g1r_80_8, g1n_81, g1r_82_2, g1n_83, g1r_84_7, g1r_84_8, g1n_85, g1r_86_2, g1n_87, g1r_88_7, g1r_88_8, g1n_89, g1r_90_2, g1n_91, g1r_92_7, g1r_92_8, g1n_93, g1r_94_2, g1n_95, g1r_96_7, g1r_96_8, g1n_97, g1r_98_2, g1n_99, g1r_100_7, g1r_100_8, g1n_101, g1r_102_2, g1n_103, g1r_104_7, g1r_104_8, g1n_105, g1r_106_2, g1n_107, g1r_108_7, g1r_108_8, g1n_109, g1r_110_2, g1n_111, g1r_112_7, g1r_112_8, g1n_113, g1r_114_2, g1n_115, g1r_116_7, g1r_116_8, g1n_117, g1r_118_2, g1n_119, g1r_120_0, g1r_120_1, g1r_120_2, g1r_121_7, g1r_121_8, g1n_122, g1r_123_2, g1n_124, g1n_125, g1n_126, g1r_127_0, g1r_127_1, g1r_127_2, g1r_127_3, g1r_128_7, g1r_128_8, g1n_129, g1r_130_2, g1n_131, g1n_132, g1n_133, g1n_134, g1r_135_7, g1n_136, g1n_150]
  unfold fX12_say_b27
  rw [r_t0, b_some, if_pos rfl, r_gone, b_some, ite01, pfA, r_isNear (by omega), b_some, ite01, pfA, h.ask, has_fn (by omega), b_some, ite01]
  have nb := h.mind.2.2.2.2.1 i
  rw [decide_eq_true hi, Bool.true_and] at nb
  have ex : ∀ x12, x12 = fX12_say_b50 N (G2 y) y (nI i) (nI j) (putF σ2 y 0 0) → GDw z y (fun e => if e.1 = "java/lang/IndexOutOfBoundsException" then some (1, e.2) else if e.1 = "java/lang/IllegalStateException" then some (2, e.2) else none) (some (.inr ("java/lang/IllegalStateException", σ1))) x12 := by
    intro x12 e
    subst e
    exact gdw_ex (k := 2) (fun τ => (if_neg ise_ne).trans (if_pos rfl)) (by decide) rfl rfl pf0 h.th
  rcases h.wi.a01 with q | q
  · rw [if_pos q, if_neg (show ¬ σ2.2.1 (y + 1) 13 = 1 from by rw [q]; decide), nb]
    by_cases n1 : σ2.2.1 (y + 1) (39 + 3 * i) = 1
    · rw [if_pos (decide_eq_true n1), if_pos n1]
      obtain ⟨τ1, τ2, a, b, hs, b0, ew⟩ := h.t0.rem hN
      have ew' : τ2.2.1 (y + 1) = σ2.2.1 (y + 1) := ew
      obtain ⟨υ1, a1, a2, a3⟩ := c_speak (N := N) (i := i) (j := j) hN (Nat.le_refl _) ma_20 hs.mr (by rw [ew']; exact hi) (by rw [ew']; exact hj)
      obtain ⟨υ2, b1, b2, b3⟩ := r_says (N := N) (i := i) (j := j) hN hs.wi hs.hl (by rw [ew']; exact hj)
      unfold fX12_say_b55
      simp only [g2r_0_1, g2r_0_2, g2r_0_3, g2r_0_4, g2r_0_5, g2r_0_8, g2r_0_15, g2r_0_17, g2r_0_25, g2r_0_26, g2r_0_27, g2r_0_28, g2n_1, g2n_2, g2n_3, g2n_4, g2n_5, g2n_6, g2n_7, g2n_8, g2n_9, g2n_10, g2n_11, g2n_12]
      rw [a, b_some, a1, b_some, r_t0, b_some, if_pos rfl, b, b_some, b1, b_some]
      have hs2 : Sim z y υ1 υ2 := hs.ms (by rw [b2]; exact a2) a3 b3 (by rw [b2]; exact em_S)
      refine gdw_ok (τ2 := υ2) rfl ?_ ?_ hs2
      · show some (υ2.2.1 (y + 1) 7, υ2) = _
        rw [hs2.dn.1]
      · rw [b3.f (by omega), b0, pf0]
    · rw [if_neg (fun q => n1 (of_decide_eq_true q)), if_neg n1]
      exact ex _ rfl
  · rw [if_neg (show ¬ σ2.2.1 (y + 1) 13 = 0 from by rw [q]; decide), if_pos q]
    exact ex _ rfl
theorem gd_does {N z y : Nat} (hN : 20000 < N) : Gd_does N (G1 z) (G2 y) z y (z + 150) (Sim z y) := by
  intro σ1 σ2 h c1
  unfold fL_does
  apply gd_w
  unfold fX11_does fX12_does
  refine deed_pre h (fun τ => if_pos rfl) (fun k hk hk6 e1 => ?_)
  subst e1
  simp only [g1r_0_0, g1r_0_1, g1r_0_2, g1r_0_3, g1r_0_4, g1r_0_5, g1r_0_6, g1r_0_7, g1r_0_8, g1r_1_5, g1n_2, g1r_3_0, g1r_3_1, g1r_3_2, g1r_4_9, g1r_4_10, g1r_4_11, g1r_4_12, g1r_4_13, g1r_4_14, g1r_4_15, g1r_4_16, g1r_4_17, g1n_5, g1n_6, g1n_7, g1n_8, g1n_9, g1n_10, g1n_11, g1n_12, g1n_13, g1r_14_2, g1r_14_3, g1r_14_4, g1r_14_5, g1r_14_6, g1n_15, g1n_16, g1n_17, g1n_18, g1n_19, g1r_20_7, g1r_20_8, g1n_21, g1r_22_2, g1n_23, g1r_24_0, g1r_24_1, g1r_24_2, g1r_25_9, g1r_25_10, g1r_25_11, g1r_25_12, g1r_25_13, g1r_25_14, g1r_25_15, g1r_25_16, g1r_25_17, g1n_26, g1n_27, g1n_28, g1n_29, g1n_30, g1n_31, g1n_32, g1n_33, g1n_34, g1r_35_2, g1r_35_3, g1r_35_4, g1r_35_5, g1r_35_6, g1n_36, g1n_37, g1n_38, g1n_39, g1n_40, g1r_41_7, g1r_41_8, g1n_42, g1r_43_2, g1n_44, g1r_45_0, g1r_45_1, g1r_45_2, g1r_46_9, g1r_46_10, g1r_46_11, g1r_46_12, g1r_46_13, g1r_46_14, g1r_46_15, g1r_46_16, g1r_46_17, g1n_47, g1n_48, g1n_49, g1n_50, g1n_51, g1n_52, g1n_53, g1n_54, g1n_55, g1r_56_2, g1r_56_3, g1r_56_4, g1r_56_5, g1r_56_6, g1n_57, g1n_58, g1n_59, g1n_60, g1n_61, g1r_62_7, g1r_62_8, g1n_63, g1r_64_2, g1n_65, g1r_66_2, g1n_67, g1r_68_7, g1r_68_8, g1n_69, g1r_70_2, g1n_71, g1r_72_7, g1r_72_8, g1n_73, g1r_74_2, g1n_75, g1r_76_7, g1r_76_8, g1n_77, g1r_78_2, g1n_79, g1r_80_7, g1r_80_8, g1n_81, g1r_82_2, g1n_83, g1r_84_7, g1r_84_8, g1n_85, g1r_86_2, g1n_87, g1r_88_7, g1r_88_8, g1n_89, g1r_90_2, g1n_91, g1r_92_7, g1r_92_8, g1n_93, g1r_94_2, g1n_95, g1r_96_7, g1r_96_8, g1n_97, g1r_98_2, g1n_99, g1r_100_7, g1r_100_8, g1n_101, g1r_102_2, g1n_103, g1r_104_7, g1r_104_8, g1n_105, g1r_106_2, g1n_107, g1r_108_7, g1r_108_8, g1n_109, g1r_110_2, g1n_111, g1r_112_7, g1r_112_8, g1n_113, g1r_114_2, g1n_115, g1r_116_7, g1r_116_8, g1n_117, g1r_118_2, g1n_119, g1r_120_0, g1r_120_1, g1r_120_2, g1r_121_7, g1r_121_8, g1n_122, g1r_123_2, g1n_124, g1n_125, g1n_126, g1r_127_0, g1r_127_1, g1r_127_2, g1r_127_3, g1r_128_7, g1r_128_8, g1n_129, g1r_130_2, g1n_131, g1n_132, g1n_133, g1n_134, g1r_135_7, g1n_136, g1n_150]
  rw [r_gone, b_some, pfA, h.ask]
  rcases h.wi.a01 with q | q
  · rw [if_pos q, if_neg (show ¬ σ2.2.1 (y + 1) 13 = 1 from by rw [q]; decide), r_t0, b_some, if_pos rfl]
    obtain ⟨τ1, τ2, a, b, hs, b0, ew⟩ := h.t0.rem hN
    have ew' : τ2.2.1 (y + 1) = σ2.2.1 (y + 1) := ew
    obtain ⟨υ1, a1, a2, a3⟩ := c_soothe (N := N) (d := k) hN (Nat.le_refl _) hs.mr (by rw [ew']; exact hk)
    obtain ⟨υ2, b1, b2, b3⟩ := r_isDone (N := N) (d := k) hN hs.wi hs.hl (by rw [ew']; exact hk)
    simp only [g2r_0_1, g2r_0_2, g2r_0_3, g2r_0_4, g2r_0_5, g2r_0_8, g2r_0_15, g2r_0_17, g2r_0_25, g2r_0_26, g2r_0_27, g2r_0_28, g2n_1, g2n_2, g2n_3, g2n_4, g2n_5, g2n_6, g2n_7, g2n_8, g2n_9, g2n_10, g2n_11, g2n_12]
    rw [a, b_some, a1, b_some, b, b_some, b1, b_some]
    have hs2 : Sim z y υ1 υ2 := hs.ms (by rw [b2]; exact a2) a3 b3 (by rw [b2]; exact em_D)
    refine gdw_ok (τ2 := υ2) rfl ?_ ?_ hs2
    · show some (υ2.2.1 (y + 1) 7, υ2) = _
      rw [hs2.dn.1]
    · rw [b3.f (by omega), b0, pf0]
  · rw [if_neg (show ¬ σ2.2.1 (y + 1) 13 = 0 from by rw [q]; decide), if_pos q]
    exact gdw_ex (k := 2) (fun τ => (if_neg ise_ne).trans (if_pos rfl)) (by decide) rfl rfl pf0 h.th
