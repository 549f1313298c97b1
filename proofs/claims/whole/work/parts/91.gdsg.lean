/-! siege, plan, keeps -/
theorem c_open {N z y n : Nat} {σ1 σ2 : pS} (hN : 20000 < N) (hn : n ≤ 12) (h : Sim z y σ1 σ2) : ∃ τ, fX6_open N (G1 z) (z + 120) (z + 3) (nI n) σ1 = some τ ∧ SG z (σ2.2.1 (y + 1)) n σ1 τ := by
  unfold fX6_open
  simp only [g1r_0_0, g1r_0_1, g1r_0_2, g1r_0_3, g1r_0_4, g1r_0_5, g1r_0_6, g1r_0_7, g1r_0_8, g1r_1_5, g1n_2, g1r_3_0, g1r_3_1, g1r_3_2, g1r_4_9, g1r_4_10, g1r_4_11, g1r_4_12, g1r_4_13, g1r_4_14, g1r_4_15, g1r_4_16, g1r_4_17, g1n_5, g1n_6, g1n_7, g1n_8, g1n_9, g1n_10, g1n_11, g1n_12, g1n_13, g1r_14_2, g1r_14_3, g1r_14_4, g1r_14_5, g1r_14_6, g1n_15, g1n_16, g1n_17, g1n_18, g1n_19, g1r_20_7, g1r_20_8, g1n_21, g1r_22_2, g1n_23, g1r_24_0, g1r_24_1, g1r_24_2, g1r_25_9, g1r_25_10, g1r_25_11, g1r_25_12, g1r_25_13, g1r_25_14, g1r_25_15, g1r_25_16, g1r_25_17, g1n_26, g1n_27, g1n_28, g1n_29, g1n_30, g1n_31, g1n_32, g1n_33, g1n_34, g1r_35_2, g1r_35_3, g1r_35_4, g1r_35_5, g1r_35_6, g1n_36, g1n_37, g1n_38, g1n_39, g1n_40, g1r_41_7, g1r_41_8, g1n_42, g1r_43_2, g1n_44, g1r_45_0, g1r_45_1, g1r_45_2, g1r_46_9, g1r_46_10, g1r_46_11, g1r_46_12, g1r_46_13, g1r_46_14, g1r_46_15, g1r_46_16, g1r_46_17, g1n_47, g1n_48, g1n_49, g1n_50, g1n_51, g1n_52, g1n_53, g1n_54, g1n_55, g1r_56_2, g1r_56_3, g1r_56_4, g1r_56_5, g1r_56_6, g1n_57, g1n_58, g1n_59, g1n_60, g1n_61, g1r_62_7, g1r_62_8, g1n_63, g1r_64_2, g1n_65, g1r_66_2, g1n_67, g1r_68_7, g1r_68_8, g1n_69, g1r_70_2, g1n_71, g1r_72_7, g1r_72_8, g1n_73, g1r_74_2, g1n_75, g1r_76_7, g1r_76_8, g1n_77, g1r_78_2, g1n_79, g1r_80_7, g1r_80_8, g1n_81, g1r_82_2, g1n_83, g1r_84_7, g1r_84_8, g1n_85, g1r_86_2, g1n_87, g1r_88_7, g1r_88_8, g1n_89, g1r_90_2, g1n_91, g1r_92_7, g1r_92_8, g1n_93, g1r_94_2, g1n_95, g1r_96_7, g1r_96_8, g1n_97, g1r_98_2, g1n_99, g1r_100_7, g1r_100_8, g1n_101, g1r_102_2, g1n_103, g1r_104_7, g1r_104_8, g1n_105, g1r_106_2, g1n_107, g1r_108_7, g1r_108_8, g1n_109, g1r_110_2, g1n_111, g1r_112_7, g1r_112_8, g1n_113, g1r_114_2, g1n_115, g1r_116_7, g1r_116_8, g1n_117, g1r_118_2, g1n_119, g1r_120_0, g1r_120_1, g1r_120_2, g1r_121_7, g1r_121_8, g1n_122, g1r_123_2, g1n_124, g1n_125, g1n_126, g1r_127_0, g1r_127_1, g1r_127_2, g1r_127_3, g1r_128_7, g1r_128_8, g1n_129, g1r_130_2, g1n_131, g1n_132, g1n_133, g1n_134, g1r_135_7, g1n_136, g1n_150]
  obtain ⟨τ1, a1, a2, a3⟩ := c_dream (N := N) (o := 121) (by omega) ma_121 h
  rw [a1, b_some]
  have e9 : τ1.1 (z + 20) 1 = σ2.2.1 (y + 1) 9 := (h.keep a3 E2.r).dn.2
  rw [e9]
  have e0 : E1 z σ1 (putF (putF τ1 (z + 120) 3 (σ2.2.1 (y + 1) 9)) (z + 120) 4 (nI n)) := E1.pd (E1.pd a3 (by omega)) (by omega)
  have fl : ∀ τ : pS, (∀ a k, τ.1 a k = (putF (putF τ1 (z + 120) 3 (σ2.2.1 (y + 1) 9)) (z + 120) 4 (nI n)).1 a k) → τ.1 (z + 120) 3 = σ2.2.1 (y + 1) 9 ∧ τ.1 (z + 120) 4 = nI n ∧ τ.1 (z + 121) 2 = bea (σ2.2.1 (y + 1)) ∧ τ.1 (z + 121) 3 = σ2.2.1 (y + 1) 12 := by
    intro τ ht
    rw [ht, ht, ht, ht]
    exact ⟨by rw [pf0n (by decide), pf0], pf0, by rw [pf_o (by omega), pf_o (by omega)]; exact a2.2.2.2.1.2.2.1, by rw [pf_o (by omega), pf_o (by omega)]; exact a2.2.2.2.1.2.2.2.1⟩
  suffices hh : ∃ q, SG z (σ2.2.1 (y + 1)) n σ1 q ∧ fX6_open_b29 N (G1 z) (z + 120) (0, putF (putF τ1 (z + 120) 3 (σ2.2.1 (y + 1) 9)) (z + 120) 4 (nI n)) = some q by
    obtain ⟨q, q1, q2⟩ := hh
    exact ⟨q, q2, q1⟩
  unfold fX6_open_b29
  simp only [g1r_0_0, g1r_0_1, g1r_0_2, g1r_0_3, g1r_0_4, g1r_0_5, g1r_0_6, g1r_0_7, g1r_0_8, g1r_1_5, g1n_2, g1r_3_0, g1r_3_1, g1r_3_2, g1r_4_9, g1r_4_10, g1r_4_11, g1r_4_12, g1r_4_13, g1r_4_14, g1r_4_15, g1r_4_16, g1r_4_17, g1n_5, g1n_6, g1n_7, g1n_8, g1n_9, g1n_10, g1n_11, g1n_12, g1n_13, g1r_14_2, g1r_14_3, g1r_14_4, g1r_14_5, g1r_14_6, g1n_15, g1n_16, g1n_17, g1n_18, g1n_19, g1r_20_7, g1r_20_8, g1n_21, g1r_22_2, g1n_23, g1r_24_0, g1r_24_1, g1r_24_2, g1r_25_9, g1r_25_10, g1r_25_11, g1r_25_12, g1r_25_13, g1r_25_14, g1r_25_15, g1r_25_16, g1r_25_17, g1n_26, g1n_27, g1n_28, g1n_29, g1n_30, g1n_31, g1n_32, g1n_33, g1n_34, g1r_35_2, g1r_35_3, g1r_35_4, g1r_35_5, g1r_35_6, g1n_36, g1n_37, g1n_38, g1n_39, g1n_40, g1r_41_7, g1r_41_8, g1n_42, g1r_43_2, g1n_44, g1r_45_0, g1r_45_1, g1r_45_2, g1r_46_9, g1r_46_10, g1r_46_11, g1r_46_12, g1r_46_13, g1r_46_14, g1r_46_15, g1r_46_16, g1r_46_17, g1n_47, g1n_48, g1n_49, g1n_50, g1n_51, g1n_52, g1n_53, g1n_54, g1n_55, g1r_56_2, g1r_56_3, g1r_56_4, g1r_56_5, g1r_56_6, g1n_57, g1n_58, g1n_59, g1n_60, g1n_61, g1r_62_7, g1r_62_8, g1n_63, g1r_64_2, g1n_65, g1r_66_2, g1n_67, g1r_68_7, g1r_68_8, g1n_69, g1r_70_2, g1n_71, g1r_72_7, g1r_72_8, g1n_73, g1r_74_2, g1n_75, g1r_76_7, g1r_76_8, g1n_77, g1r_78_2, g1n_79, g1r_80_7, g1r_80_8, g1n_81, g1r_82_2, g1n_83, g1r_84_7, g1r_84_8, g1n_85, g1r_86_2, g1n_87, g1r_88_7, g1r_88_8, g1n_89, g1r_90_2, g1n_91, g1r_92_7, g1r_92_8, g1n_93, g1r_94_2, g1n_95, g1r_96_7, g1r_96_8, g1n_97, g1r_98_2, g1n_99, g1r_100_7, g1r_100_8, g1n_101, g1r_102_2, g1n_103, g1r_104_7, g1r_104_8, g1n_105, g1r_106_2, g1n_107, g1r_108_7, g1r_108_8, g1n_109, g1r_110_2, g1n_111, g1r_112_7, g1r_112_8, g1n_113, g1r_114_2, g1n_115, g1r_116_7, g1r_116_8, g1n_117, g1r_118_2, g1n_119, g1r_120_0, g1r_120_1, g1r_120_2, g1r_121_7, g1r_121_8, g1n_122, g1r_123_2, g1n_124, g1n_125, g1n_126, g1r_127_0, g1r_127_1, g1r_127_2, g1r_127_3, g1r_128_7, g1r_128_8, g1n_129, g1r_130_2, g1n_131, g1n_132, g1n_133, g1n_134, g1r_135_7, g1n_136, g1n_150]
  refine lp_forR (fun k b => ∃ τ, b = (nI k, τ) ∧ E1 z σ1 τ ∧ (∀ a k, τ.1 a k = (putF (putF τ1 (z + 120) 3 (σ2.2.1 (y + 1) 9)) (z + 120) 4 (nI n)).1 a k) ∧ ∀ i, i < k → τ.2.1 (z + 125) i = -1 ∧ τ.2.1 (z + 126) i = -1) _ 1200 (by omega) ?_ ?_ ⟨_, rfl, e0, fun _ _ => rfl, fun i hi => by omega⟩
  · rintro k hk _ ⟨τ, rfl, h1, h2, h3⟩
    left
    refine ⟨(nI (k + 1), sA (sA τ (z + 125) (nI k) (-1)) (z + 126) (nI k) (-1)), ⟨_, rfl, EE.sa (EE.sa h1 (rlA_d (by omega))) (rlA_d (by omega)), h2, fun i hi => ?_⟩, fun q => ?_⟩
    · rw [sA_o (by omega), sA_w (n := k) (nI_clamp (by omega)), sA_w (n := k) (nI_clamp (by omega)), sA_o (by omega)]
      by_cases e : i = k
      · rw [e, va_up_self, va_up_self]
        exact ⟨rfl, rfl⟩
      · rw [up_ne e, up_ne e]
        exact h3 i (by omega)
    · dsimp only
      rw [if_neg (show ¬ (1200 : Int32) ≤ nI k from lit_lt (m := 1200) hk (by decide)), ck_nI (by omega) (by omega), ck_nI (by omega) (by omega), nI_1]
  · rintro _ ⟨τ, rfl, h1, h2, h3⟩
    refine ⟨τ, ⟨h1, fl τ h2, fun k d hk hd => ?_, fun k d hk hd => ?_⟩, fun q => ?_⟩
    · exact Or.inl (h3 _ (by omega)).1
    · exact Or.inl (h3 _ (by omega)).2
    · dsimp only
      rw [if_pos (show (1200 : Int32) ≤ nI 1200 from lit_end)]
theorem w7 {w : Nat → Int32} (hw : WInv w) : ∃ d, d < 100 ∧ w 7 = nI d := by
  have a := hw.m.1
  exact ⟨(w 7).toInt.toNat, by omega, nI_cN a.1⟩
theorem c_fr {N z y n k d : Nat} {σ1 σ2 τ : pS} (hN : 20000 < N) (h : Sim z y σ1 σ2) (hn : n ≤ 12) (hk : k ≤ n) (hd : d < 100) (g : SG z (σ2.2.1 (y + 1)) n σ1 τ) : ∃ υ, fX6_fewestFrom N (G1 z) (z + 120) (z + 3) (nI k) (nI d) τ = some (nI (clV (Tr (σ2.2.1 (y + 1)) n (n - k) d)), υ) ∧ SG z (σ2.2.1 (y + 1)) n σ1 υ := c_from (N := N) hN h hn (n - k) k d τ 15 (by omega) hd g (by omega)
theorem siege_rng {c1 : Int32} (g0 : ¬ c1 < 1) (g1 : ¬ (12 : Int32) < c1) : ∃ n, 1 ≤ n ∧ n ≤ 12 ∧ c1 = nI n := by
  obtain ⟨n, hn, rfl⟩ := nI_rng (m := 12) (by omega) (fun q => g0 (by
    rw [i_lt, show (0 : Int32).toInt = 0 from rfl] at q
    rw [i_lt, show (1 : Int32).toInt = 1 from rfl]
    omega)) g1
  refine ⟨n, ?_, hn, rfl⟩
  rw [i_lt, nI_toInt (by omega), show (1 : Int32).toInt = 1 from rfl] at g0
  omega
theorem r_siegeOf {N y n d : Nat} {κ : pS} {w : Nat → Int32} (hN : 20000 < N) (hw : WInv w) (hl : HasLaw w) (hκ : κ.2.1 (y + 1) = w) (hn : n ≤ 12) (hn1 : 1 ≤ n) (h13 : ¬ w 13 = 1) (hd : d < 100) (e7 : w 7 = nI d) : ∃ τ, fX12_siegeOf N (G2 y) y (nI n) κ = some (nI (Tr w n n d), τ) ∧ RR y κ τ ∧ ∀ k, k ≤ n → tab y (Tr w n (n - k)) k τ := by
  obtain ⟨τ, t1, t2, t3⟩ := r_lays (N := N) (y := y) (n := n) (f := 0) (κ := κ) hN hw hl hκ hn hn1 (by omega)
  have hv : τ.2.1 (y + 1) = w := t2.w.trans hκ
  refine ⟨τ, ?_, t2, fun k hk => t3 k (by omega) hk⟩
  unfold fX12_siegeOf
  simp only [g2r_0_1, g2r_0_2, g2r_0_3, g2r_0_4, g2r_0_5, g2r_0_8, g2r_0_15, g2r_0_17, g2r_0_25, g2r_0_26, g2r_0_27, g2r_0_28, g2n_1, g2n_2, g2n_3, g2n_4, g2n_5, g2n_6, g2n_7, g2n_8, g2n_9, g2n_10, g2n_11, g2n_12]
  rw [r_gone, b_some, ite01, hκ, if_neg h13]
  show (fX12_laysTill N (G2 y) y (nI 0) (nI n) κ).bind _ = _
  rw [t1, b_some, show inB 7 2081 = true by decide, ck_t, show gA τ (y + 1) 7 = nI d from by show τ.2.1 (y + 1) 7 = _; rw [hv, e7]]
  show (fX12_tillOf N (G2 y) y (nI 0) (nI d) τ).bind _ = _
  rw [r_tillOf (by omega) hd, b_some, t3 0 (by omega) (by omega) d hd, Nat.sub_zero]
theorem gd_siege {N z y : Nat} (hN : 20000 < N) : Gd_siege N (G1 z) (G2 y) z y (z + 150) (Sim z y) := by
  intro σ1 σ2 h c1
  unfold fL_siege
  apply gd_w
  unfold fX11_siege fX12_siege fX12_noSiege
  simp only [r_inn, b_some]
  by_cases g0 : c1 < 1
  · rw [if_pos g0, if_pos g0]
    exact gdw_ex (k := 1) (fun τ => if_pos rfl) (by decide) rfl rfl pf0 h.th
  by_cases g1 : 12 < c1
  · rw [if_neg g0, if_pos g1, if_neg g0, if_pos g1]
    exact gdw_ex (k := 1) (fun τ => if_pos rfl) (by decide) rfl rfl pf0 h.th
  rw [if_neg g0, if_neg g1, if_neg g0, if_neg g1, if_neg (by decide), b_some, r_t0, b_some, if_pos rfl]
  obtain ⟨n, hn1, hn, rfl⟩ := siege_rng g0 g1
  unfold fX11_siege_b17
  rw [c_need1, b_some, e_inl]
  simp only [g1r_0_0, g1r_0_1, g1r_0_2, g1r_0_3, g1r_0_4, g1r_0_5, g1r_0_6, g1r_0_7, g1r_0_8, g1r_1_5, g1n_2, g1r_3_0, g1r_3_1, g1r_3_2, g1r_4_9, g1r_4_10, g1r_4_11, g1r_4_12, g1r_4_13, g1r_4_14, g1r_4_15, g1r_4_16, g1r_4_17, g1n_5, g1n_6, g1n_7, g1n_8, g1n_9, g1n_10, g1n_11, g1n_12, g1n_13, g1r_14_2, g1r_14_3, g1r_14_4, g1r_14_5, g1r_14_6, g1n_15, g1n_16, g1n_17, g1n_18, g1n_19, g1r_20_7, g1r_20_8, g1n_21, g1r_22_2, g1n_23, g1r_24_0, g1r_24_1, g1r_24_2, g1r_25_9, g1r_25_10, g1r_25_11, g1r_25_12, g1r_25_13, g1r_25_14, g1r_25_15, g1r_25_16, g1r_25_17, g1n_26, g1n_27, g1n_28, g1n_29, g1n_30, g1n_31, g1n_32, g1n_33, g1n_34, g1r_35_2, g1r_35_3, g1r_35_4, g1r_35_5, g1r_35_6, g1n_36, g1n_37, g1n_38, g1n_39, g1n_40, g1r_41_7, g1r_41_8, g1n_42, g1r_43_2, g1n_44, g1r_45_0, g1r_45_1, g1r_45_2, g1r_46_9, g1r_46_10, g1r_46_11, g1r_46_12, g1r_46_13, g1r_46_14, g1r_46_15, g1r_46_16, g1r_46_17, g1n_47, g1n_48, g1n_49, g1n_50, g1n_51, g1n_52, g1n_53, g1n_54, g1n_55, g1r_56_2, g1r_56_3, g1r_56_4, g1r_56_5, g1r_56_6, g1n_57, g1n_58, g1n_59, g1n_60, g1n_61, g1r_62_7, g1r_62_8, g1n_63, g1r_64_2, g1n_65, g1r_66_2, g1n_67, g1r_68_7, g1r_68_8, g1n_69, g1r_70_2, g1n_71, g1r_72_7, g1r_72_8, g1n_73, g1r_74_2, g1n_75, g1r_76_7, g1r_76_8, g1n_77, g1r_78_2, g1n_79, g1r_80_7, g1r_80_8, g1n_81, g1r_82_2, g1n_83, g1r_84_7, g1r_84_8, g1n_85, g1r_86_2, g1n_87, g1r_88_7, g1r_88_8, g1n_89, g1r_90_2, g1n_91, g1r_92_7, g1r_92_8, g1n_93, g1r_94_2, g1n_95, g1r_96_7, g1r_96_8, g1n_97, g1r_98_2, g1n_99, g1r_100_7, g1r_100_8, g1n_101, g1r_102_2, g1n_103, g1r_104_7, g1r_104_8, g1n_105, g1r_106_2, g1n_107, g1r_108_7, g1r_108_8, g1n_109, g1r_110_2, g1n_111, g1r_112_7, g1r_112_8, g1n_113, g1r_114_2, g1n_115, g1r_116_7, g1r_116_8, g1n_117, g1r_118_2, g1n_119, g1r_120_0, g1r_120_1, g1r_120_2, g1r_121_7, g1r_121_8, g1n_122, g1r_123_2, g1n_124, g1n_125, g1n_126, g1r_127_0, g1r_127_1, g1r_127_2, g1r_127_3, g1r_128_7, g1r_128_8, g1n_129, g1r_130_2, g1n_131, g1n_132, g1n_133, g1n_134, g1r_135_7, g1n_136, g1n_150]
  have wi := h.wi
  rw [h.ask]
  obtain ⟨d, hd, e7⟩ := w7 wi
  rcases wi.a01 with q | q
  · obtain ⟨τ2, t1, t2, t3⟩ := r_siegeOf (N := N) (y := y) (n := n) (κ := putF σ2 y 0 0) hN wi h.hl rfl hn hn1 (show ¬ σ2.2.1 (y + 1) 13 = 1 from by rw [q]; decide) hd e7
    obtain ⟨τ, o1, o2⟩ := c_open (N := N) hN hn h
    have e0 : τ.1 (z + 20) 0 = nI d := (h.keep o2.1 E2.r).dn.1.trans e7
    obtain ⟨υ, f1, f2⟩ := c_fr (N := N) (k := 0) hN h hn (by omega) hd o2
    have B := Bd_T (w := σ2.2.1 (y + 1)) (n := n) n d
    have hb := cl_le B (by omega)
    rw [if_pos q]
    unfold fX6_fewestNights
    simp only [g1r_0_0, g1r_0_1, g1r_0_2, g1r_0_3, g1r_0_4, g1r_0_5, g1r_0_6, g1r_0_7, g1r_0_8, g1r_1_5, g1n_2, g1r_3_0, g1r_3_1, g1r_3_2, g1r_4_9, g1r_4_10, g1r_4_11, g1r_4_12, g1r_4_13, g1r_4_14, g1r_4_15, g1r_4_16, g1r_4_17, g1n_5, g1n_6, g1n_7, g1n_8, g1n_9, g1n_10, g1n_11, g1n_12, g1n_13, g1r_14_2, g1r_14_3, g1r_14_4, g1r_14_5, g1r_14_6, g1n_15, g1n_16, g1n_17, g1n_18, g1n_19, g1r_20_7, g1r_20_8, g1n_21, g1r_22_2, g1n_23, g1r_24_0, g1r_24_1, g1r_24_2, g1r_25_9, g1r_25_10, g1r_25_11, g1r_25_12, g1r_25_13, g1r_25_14, g1r_25_15, g1r_25_16, g1r_25_17, g1n_26, g1n_27, g1n_28, g1n_29, g1n_30, g1n_31, g1n_32, g1n_33, g1n_34, g1r_35_2, g1r_35_3, g1r_35_4, g1r_35_5, g1r_35_6, g1n_36, g1n_37, g1n_38, g1n_39, g1n_40, g1r_41_7, g1r_41_8, g1n_42, g1r_43_2, g1n_44, g1r_45_0, g1r_45_1, g1r_45_2, g1r_46_9, g1r_46_10, g1r_46_11, g1r_46_12, g1r_46_13, g1r_46_14, g1r_46_15, g1r_46_16, g1r_46_17, g1n_47, g1n_48, g1n_49, g1n_50, g1n_51, g1n_52, g1n_53, g1n_54, g1n_55, g1r_56_2, g1r_56_3, g1r_56_4, g1r_56_5, g1r_56_6, g1n_57, g1n_58, g1n_59, g1n_60, g1n_61, g1r_62_7, g1r_62_8, g1n_63, g1r_64_2, g1n_65, g1r_66_2, g1n_67, g1r_68_7, g1r_68_8, g1n_69, g1r_70_2, g1n_71, g1r_72_7, g1r_72_8, g1n_73, g1r_74_2, g1n_75, g1r_76_7, g1r_76_8, g1n_77, g1r_78_2, g1n_79, g1r_80_7, g1r_80_8, g1n_81, g1r_82_2, g1n_83, g1r_84_7, g1r_84_8, g1n_85, g1r_86_2, g1n_87, g1r_88_7, g1r_88_8, g1n_89, g1r_90_2, g1n_91, g1r_92_7, g1r_92_8, g1n_93, g1r_94_2, g1n_95, g1r_96_7, g1r_96_8, g1n_97, g1r_98_2, g1n_99, g1r_100_7, g1r_100_8, g1n_101, g1r_102_2, g1n_103, g1r_104_7, g1r_104_8, g1n_105, g1r_106_2, g1n_107, g1r_108_7, g1r_108_8, g1n_109, g1r_110_2, g1n_111, g1r_112_7, g1r_112_8, g1n_113, g1r_114_2, g1n_115, g1r_116_7, g1r_116_8, g1n_117, g1r_118_2, g1n_119, g1r_120_0, g1r_120_1, g1r_120_2, g1r_121_7, g1r_121_8, g1n_122, g1r_123_2, g1n_124, g1n_125, g1n_126, g1r_127_0, g1r_127_1, g1r_127_2, g1r_127_3, g1r_128_7, g1r_128_8, g1n_129, g1r_130_2, g1n_131, g1n_132, g1n_133, g1n_134, g1r_135_7, g1n_136, g1n_150]
    rw [o1, b_some, e0]
    show GDw z y _ (((fX6_fewestFrom N (G1 z) (z + 120) (z + 3) (nI 0) (nI d) τ).bind _).bind _) _
    rw [f1, b_some, b_some, Nat.sub_zero, t1, b_some]
    unfold fX11_orNone
    by_cases u : Tr (σ2.2.1 (y + 1)) n n d = 1000000
    · rw [if_neg (show ¬ nI (clV (Tr (σ2.2.1 (y + 1)) n n d)) < 1000 from nI_nlt (b := 1000) ((cl_far B (by omega)).mpr u) (by omega)), if_neg (show ¬ nI (Tr (σ2.2.1 (y + 1)) n n d) < 1000000 from by rw [u]; decide)]
      exact gdw_ok rfl rfl ((t2.f (by omega)).trans pf0) (h.keep f2.1 (E2.t0.t t2.e))
    · have u1 : clV (Tr (σ2.2.1 (y + 1)) n n d) = Tr (σ2.2.1 (y + 1)) n n d := if_neg u
      have u2 : ¬ 1000 ≤ clV (Tr (σ2.2.1 (y + 1)) n n d) := fun g => u ((cl_far B (by omega)).mp g)
      rw [if_pos (show nI (clV (Tr (σ2.2.1 (y + 1)) n n d)) < 1000 from nI_lt (b := 1000) (by omega) (by omega)), if_pos (show nI (Tr (σ2.2.1 (y + 1)) n n d) < 1000000 from nI_lt (b := 1000000) (by omega) (by omega)), u1]
      exact gdw_ok rfl rfl ((t2.f (by omega)).trans pf0) (h.keep f2.1 (E2.t0.t t2.e))
  · rw [if_neg (show ¬ σ2.2.1 (y + 1) 13 = 0 from by rw [q]; decide)]
    unfold fX12_siegeOf
    rw [r_gone, b_some, ite01, pfA, if_pos q, b_some, if_neg (show ¬ (1000000 : Int32) < 1000000 by decide)]
    exact gdw_ok rfl rfl pf0 h.t0
/-- which word, and who -/
def plI (w : Nat → Int32) (T : Nat → Nat) (d due j : Nat) : Nat → Nat → Option Nat
  | 0, _ => none
  | m + 1, c => if enB w c = true ∧ TBN w 0 T d c j = due then some c else plI w T d due j m (c + 1)
def plO (w : Nat → Int32) (T : Nat → Nat) (d due : Nat) : Nat → Nat → Int32
  | 0, _ => -1
  | m + 1, j => match plI w T d due j (cN w 1) 0 with
    | some c => nI (10 * j + c)
    | none => plO w T d due m (j + 1)
theorem cl_inj {r a b : Nat} (ha : Bd r a) (hb : Bd r b) (hr : r ≤ 13) : nI (clV a) = nI (clV b) ↔ a = b := by
  have h1 := cl_le ha hr
  have h2 := cl_le hb hr
  rw [nI_eq (by omega) (by omega)]
  unfold Bd at ha hb
  unfold clV
  split <;> split <;> omega
theorem pl_c {N z y n d due j : Nat} {σ1 σ2 : pS} (hN : 20000 < N) (h : Sim z y σ1 σ2) (hn : n ≤ 12) (hn1 : 1 ≤ n) (hd : d < 100) (hj : j < cN (σ2.2.1 (y + 1)) 2) (hB : Bd n due) : ∀ (m c M : Nat) (τ : pS), c + m = cN (σ2.2.1 (y + 1)) 1 → m < M → SG z (σ2.2.1 (y + 1)) n σ1 τ → ∃ υ, SG z (σ2.2.1 (y + 1)) n σ1 υ ∧ ∀ p : Int32 × pS → Option (Int32 × pS), lp (fun (k66 : Int32 × pS → Option (Int32 × pS)) (b : Int32 × pS) => if (b.2.1 (z + 4) 4) ≤ b.1 then (p (nI j + (1 : Int32), b.2)) else ((fX6_isEnemyNear N (G1 z) (z + 3) b.1 b.2).bind (fun q1 => if q1 = 0 then (k66 (b.1 + (1 : Int32), b.2)) else ((fX6_fewestWith N (G1 z) (fX6_fewestFrom_r N (G1 z)) (z + 120) (z + 3) (0 : Int32) (nI d) b.1 (nI j) b.2).bind (fun q2 => if q2.1 = nI (clV due) then (some (((10 : Int32) * nI j) + b.1, q2.2)) else (k66 (b.1 + (1 : Int32), q2.2))))))) M (nI c, τ) = match plI (σ2.2.1 (y + 1)) (Tr (σ2.2.1 (y + 1)) n (n - 1)) d due j m c with
    | some c' => some (nI (10 * j + c'), υ)
    | none => p (nI (j + 1), υ) := by
  have c1 := h.wi.c1
  have BT : ∀ d, Bd (n - 1) (Tr (σ2.2.1 (y + 1)) n (n - 1) d) := Bd_T (n - 1)
  have hrc : rcOK z (σ2.2.1 (y + 1)) n σ1 0 (n - 1) (fX6_fewestFrom_r N (G1 z)) := fun d' τ' hd' g' => c_from (N := N) hN h hn (n - 1) 1 d' τ' 15 (by omega) hd' g' (by omega)
  intro m
  induction m with
  | zero =>
    intro c M τ e hM g
    obtain ⟨M', rfl⟩ : ∃ M', M = M' + 1 := ⟨M - 1, by omega⟩
    have et : τ.1 (z + 4) 4 = σ2.2.1 (y + 1) 1 := (h.keep g.1 E2.r).tale.1.2.2.2.2.1
    refine ⟨τ, g, fun p => ?_⟩
    show (if τ.1 (z + 4) 4 ≤ nI c then _ else _) = p (nI (j + 1), τ)
    rw [et, show c = cN (σ2.2.1 (y + 1)) 1 by omega, if_pos (cnt_eN h.wi.2.1.1), nI_1]
  | succ m ih =>
    intro c M τ e hM g
    obtain ⟨M', rfl⟩ : ∃ M', M = M' + 1 := ⟨M - 1, by omega⟩
    have hc : c < cN (σ2.2.1 (y + 1)) 1 := by omega
    have et : τ.1 (z + 4) 4 = σ2.2.1 (y + 1) 1 := (h.keep g.1 E2.r).tale.1.2.2.2.2.1
    by_cases en : enB (σ2.2.1 (y + 1)) c = true
    · obtain ⟨α, a1, a2⟩ := c_with (N := N) (k := 0) (r := n - 1) (c := c) (j := j) hN h hn (by omega) (fun _ => hrc) g hd hj
      have BB := Bd_TB (w := σ2.2.1 (y + 1)) (k := 0) (d := d) (c := c) (j := j) BT
      rw [show n - 1 + 1 = n by omega] at BB
      by_cases u : TBN (σ2.2.1 (y + 1)) 0 (Tr (σ2.2.1 (y + 1)) n (n - 1)) d c j = due
      · refine ⟨α, a2, fun p => ?_⟩
        have ep : plI (σ2.2.1 (y + 1)) (Tr (σ2.2.1 (y + 1)) n (n - 1)) d due j (m + 1) c = some c := if_pos ⟨en, u⟩
        rw [ep]
        show (if τ.1 (z + 4) 4 ≤ nI c then _ else ((fX6_isEnemyNear N (G1 z) (z + 3) (nI c) τ).bind (fun q1 => if q1 = 0 then _ else ((fX6_fewestWith N (G1 z) (fX6_fewestFrom_r N (G1 z)) (z + 120) (z + 3) (nI 0) (nI d) (nI c) (nI j) τ).bind _)))) = some (nI (10 * j + c), α)
        rw [et, if_neg (cnt_lt h.wi.2.1.1 hc), c_enemy h g.1 hc, b_some, if_pos en, if_neg (by decide), a1, b_some]
        dsimp only
        rw [if_pos ((cl_inj BB hB (by omega)).mpr u), show (10 : Int32) * nI j + nI c = nI (10 * j + c) from by rw [show (10 : Int32) = nI 10 from rfl, nI_mul, nI_add]]
      · obtain ⟨υ, u1, u2⟩ := ih (c + 1) M' α (by omega) (by omega) a2
        refine ⟨υ, u1, fun p => ?_⟩
        have ep : plI (σ2.2.1 (y + 1)) (Tr (σ2.2.1 (y + 1)) n (n - 1)) d due j (m + 1) c = plI (σ2.2.1 (y + 1)) (Tr (σ2.2.1 (y + 1)) n (n - 1)) d due j m (c + 1) := if_neg (fun q => u q.2)
        rw [ep]
        refine Eq.trans ?_ (u2 p)
        show (if τ.1 (z + 4) 4 ≤ nI c then _ else ((fX6_isEnemyNear N (G1 z) (z + 3) (nI c) τ).bind (fun q1 => if q1 = 0 then _ else ((fX6_fewestWith N (G1 z) (fX6_fewestFrom_r N (G1 z)) (z + 120) (z + 3) (nI 0) (nI d) (nI c) (nI j) τ).bind _)))) = _
        rw [et, if_neg (cnt_lt h.wi.2.1.1 hc), c_enemy h g.1 hc, b_some, if_pos en, if_neg (by decide), a1, b_some]
        dsimp only
        rw [if_neg (fun q => u ((cl_inj BB hB (by omega)).mp q)), ← nI_1 c]
    · obtain ⟨υ, u1, u2⟩ := ih (c + 1) M' τ (by omega) (by omega) g
      refine ⟨υ, u1, fun p => ?_⟩
      have ep : plI (σ2.2.1 (y + 1)) (Tr (σ2.2.1 (y + 1)) n (n - 1)) d due j (m + 1) c = plI (σ2.2.1 (y + 1)) (Tr (σ2.2.1 (y + 1)) n (n - 1)) d due j m (c + 1) := if_neg (fun q => en q.1)
      rw [ep]
      refine Eq.trans ?_ (u2 p)
      show (if τ.1 (z + 4) 4 ≤ nI c then _ else ((fX6_isEnemyNear N (G1 z) (z + 3) (nI c) τ).bind _)) = _
      rw [et, if_neg (cnt_lt h.wi.2.1.1 hc), c_enemy h g.1 hc, b_some, if_neg en, if_pos rfl, ← nI_1 c]
theorem plo_c {N z y n d due : Nat} {σ1 σ2 : pS} (hN : 20000 < N) (h : Sim z y σ1 σ2) (hn : n ≤ 12) (hn1 : 1 ≤ n) (hd : d < 100) (hB : Bd n due) : ∀ (m j M : Nat) (τ : pS), j + m = cN (σ2.2.1 (y + 1)) 2 → m < M → SG z (σ2.2.1 (y + 1)) n σ1 τ → ∃ υ, SG z (σ2.2.1 (y + 1)) n σ1 υ ∧ lp (fun (k51 : Int32 × pS → Option (Int32 × pS)) (b : Int32 × pS) => if (b.2.1 (z + 4) 2) ≤ b.1 then (some ((-1 : Int32), b.2)) else (fX6_opening_b66 N (G1 z) k51 (z + 120) (z + 3) (nI d) (nI (clV due)) b.1 ((0 : Int32), b.2))) M (nI j, τ) = some (plO (σ2.2.1 (y + 1)) (Tr (σ2.2.1 (y + 1)) n (n - 1)) d due m j, υ) := by
  have c1 := h.wi.c1
  intro m
  induction m with
  | zero =>
    intro j M τ e hM g
    obtain ⟨M', rfl⟩ : ∃ M', M = M' + 1 := ⟨M - 1, by omega⟩
    have et : τ.1 (z + 4) 2 = σ2.2.1 (y + 1) 2 := (h.keep g.1 E2.r).tale.1.2.2.1
    refine ⟨τ, g, ?_⟩
    show (if τ.1 (z + 4) 2 ≤ nI j then _ else _) = some (-1, τ)
    rw [et, show j = cN (σ2.2.1 (y + 1)) 2 by omega, if_pos (cnt_eN h.wi.2.2.1.1)]
  | succ m ih =>
    intro j M τ e hM g
    obtain ⟨M', rfl⟩ : ∃ M', M = M' + 1 := ⟨M - 1, by omega⟩
    have hj : j < cN (σ2.2.1 (y + 1)) 2 := by omega
    have et : τ.1 (z + 4) 2 = σ2.2.1 (y + 1) 2 := (h.keep g.1 E2.r).tale.1.2.2.1
    obtain ⟨α, a1, a2⟩ := pl_c (N := N) (due := due) hN h hn hn1 hd hj hB (cN (σ2.2.1 (y + 1)) 1) 0 N τ (by omega) (by omega) g
    obtain ⟨υ, u1, u2⟩ := ih (j + 1) M' α (by omega) (by omega) a1
    show ∃ υ, SG z (σ2.2.1 (y + 1)) n σ1 υ ∧ (if τ.1 (z + 4) 2 ≤ nI j then _ else (fX6_opening_b66 N (G1 z) (lp _ M') (z + 120) (z + 3) (nI d) (nI (clV due)) (nI j) ((0 : Int32), τ))) = some (match plI (σ2.2.1 (y + 1)) (Tr (σ2.2.1 (y + 1)) n (n - 1)) d due j (cN (σ2.2.1 (y + 1)) 1) 0 with
      | some c => nI (10 * j + c)
      | none => plO (σ2.2.1 (y + 1)) (Tr (σ2.2.1 (y + 1)) n (n - 1)) d due m (j + 1), υ)
    rw [et, if_neg (cnt_lt h.wi.2.2.1.1 hj)]
    generalize hk : lp (fun (k51 : Int32 × pS → Option (Int32 × pS)) (b : Int32 × pS) => if (b.2.1 (z + 4) 2) ≤ b.1 then (some ((-1 : Int32), b.2)) else (fX6_opening_b66 N (G1 z) k51 (z + 120) (z + 3) (nI d) (nI (clV due)) b.1 ((0 : Int32), b.2))) M' = kk at u2 ⊢
    have a2' := a2 kk
    unfold fX6_opening_b66
    simp only [g1r_3_0]
    cases f : plI (σ2.2.1 (y + 1)) (Tr (σ2.2.1 (y + 1)) n (n - 1)) d due j (cN (σ2.2.1 (y + 1)) 1) 0 with
    | some c =>
      rw [f] at a2'
      exact ⟨α, a1, a2'⟩
    | none =>
      rw [f] at a2'
      exact ⟨υ, u1, a2'.trans u2⟩
theorem pl_r {N y n d due j : Nat} {κ : pS} {w : Nat → Int32} (hN : 20000 < N) (hw : WInv w) (hl : HasLaw w) (hκ : κ.2.1 (y + 1) = w) (hn : n ≤ 12) (hn1 : 1 ≤ n) (hd : d < 100) (e7 : w 7 = nI d) (hj : j < cN w 2) (hB : Bd n due) (ht : tab y (Tr w n (n - 1)) 1 κ) : ∀ (m c M : Nat) (τ : pS), c + m = cN w 1 → m < M → QQ y κ τ → ∃ υ, QQ y κ υ ∧ ∀ p : Int32 × pS → Option (Int32 × pS), lp (fun (k63 : Int32 × pS → Option (Int32 × pS)) (b : Int32 × pS) => (fX12_courtiers N (G2 y) y b.2).bind (fun q1 => if q1 ≤ b.1 then (p (nI j + (1 : Int32), b.2)) else ((fX12_isEnemy N (G2 y) y b.1 b.2).bind (fun q2 => if q2 = 0 then (k63 (b.1 + (1 : Int32), b.2)) else (ck (inB (7 : Int32) 2081) ((fX12_tillBy N (G2 y) y (0 : Int32) (gA b.2 (y + 1) (7 : Int32)) b.1 (nI j) b.2).bind (fun q3 => if q3.1 = nI due then (some (((10 : Int32) * nI j) + b.1, q3.2)) else (k63 (b.1 + (1 : Int32), q3.2))))))))) M (nI c, τ) = match plI w (Tr w n (n - 1)) d due j m c with
    | some c' => some (nI (10 * j + c'), υ)
    | none => p (nI (j + 1), υ) := by
  have c1 := hw.c1
  have BT : ∀ d, Bd (n - 1) (Tr w n (n - 1) d) := Bd_T (n - 1)
  intro m
  induction m with
  | zero =>
    intro c M τ e hM g
    obtain ⟨M', rfl⟩ : ∃ M', M = M' + 1 := ⟨M - 1, by omega⟩
    have hv : τ.2.1 (y + 1) = w := (g.2 _ (by omega)).trans hκ
    refine ⟨τ, g, fun p => ?_⟩
    show (fX12_courtiers N (G2 y) y τ).bind (fun q1 => if q1 ≤ nI c then _ else _) = p (nI (j + 1), τ)
    rw [r_court, b_some, hv, show c = cN w 1 by omega, if_pos (cnt_eN hw.2.1.1), nI_1]
  | succ m ih =>
    intro c M τ e hM g
    obtain ⟨M', rfl⟩ : ∃ M', M = M' + 1 := ⟨M - 1, by omega⟩
    have hc : c < cN w 1 := by omega
    have hv : τ.2.1 (y + 1) = w := (g.2 _ (by omega)).trans hκ
    have h7 : gA τ (y + 1) 7 = nI d := by
      show τ.2.1 (y + 1) 7 = _
      rw [hv, e7]
    by_cases en : enB w c = true
    · obtain ⟨α, a1, a2⟩ := r_tby (N := N) (y := y) (k := 0) (d := d) (c := c) (j := j) (σ := τ) (r := n - 1) hN hw hl hv (by omega) hd hj (by omega) BT (ht.q g)
      have BB := Bd_TB (w := w) (k := 0) (d := d) (c := c) (j := j) BT
      rw [show n - 1 + 1 = n by omega] at BB
      have b1 := BB.m (by omega)
      have b2 := hB.m (by omega)
      by_cases u : TBN w 0 (Tr w n (n - 1)) d c j = due
      · refine ⟨α, g.t a2, fun p => ?_⟩
        have ep : plI w (Tr w n (n - 1)) d due j (m + 1) c = some c := if_pos ⟨en, u⟩
        rw [ep]
        show (fX12_courtiers N (G2 y) y τ).bind (fun q1 => if q1 ≤ nI c then _ else ((fX12_isEnemy N (G2 y) y (nI c) τ).bind (fun q2 => if q2 = 0 then _ else ((fX12_tillBy N (G2 y) y (nI 0) (gA τ (y + 1) 7) (nI c) (nI j) τ).bind _)))) = some (nI (10 * j + c), α)
        rw [r_court, b_some, hv, if_neg (cnt_lt hw.2.1.1 hc), r_enemy hv (by omega), b_some, if_pos en, if_neg (by decide), h7, a1, b_some]
        dsimp only
        rw [if_pos (by rw [u]), show (10 : Int32) * nI j + nI c = nI (10 * j + c) from by rw [show (10 : Int32) = nI 10 from rfl, nI_mul, nI_add]]
      · obtain ⟨υ, u1, u2⟩ := ih (c + 1) M' α (by omega) (by omega) (g.t a2)
        refine ⟨υ, u1, fun p => ?_⟩
        have ep : plI w (Tr w n (n - 1)) d due j (m + 1) c = plI w (Tr w n (n - 1)) d due j m (c + 1) := if_neg (fun q => u q.2)
        rw [ep]
        refine Eq.trans ?_ (u2 p)
        show (fX12_courtiers N (G2 y) y τ).bind (fun q1 => if q1 ≤ nI c then _ else ((fX12_isEnemy N (G2 y) y (nI c) τ).bind (fun q2 => if q2 = 0 then _ else ((fX12_tillBy N (G2 y) y (nI 0) (gA τ (y + 1) 7) (nI c) (nI j) τ).bind _)))) = _
        rw [r_court, b_some, hv, if_neg (cnt_lt hw.2.1.1 hc), r_enemy hv (by omega), b_some, if_pos en, if_neg (by decide), h7, a1, b_some]
        dsimp only
        rw [if_neg (fun q => u ((nI_eq (by omega) (by omega)).mp q)), ← nI_1 c]
    · obtain ⟨υ, u1, u2⟩ := ih (c + 1) M' τ (by omega) (by omega) g
      refine ⟨υ, u1, fun p => ?_⟩
      have ep : plI w (Tr w n (n - 1)) d due j (m + 1) c = plI w (Tr w n (n - 1)) d due j m (c + 1) := if_neg (fun q => en q.1)
      rw [ep]
      refine Eq.trans ?_ (u2 p)
      show (fX12_courtiers N (G2 y) y τ).bind (fun q1 => if q1 ≤ nI c then _ else ((fX12_isEnemy N (G2 y) y (nI c) τ).bind _)) = _
      rw [r_court, b_some, hv, if_neg (cnt_lt hw.2.1.1 hc), r_enemy hv (by omega), b_some, if_neg en, if_pos rfl, ← nI_1 c]
theorem plo_r {N y n d due : Nat} {κ : pS} {w : Nat → Int32} (hN : 20000 < N) (hw : WInv w) (hl : HasLaw w) (hκ : κ.2.1 (y + 1) = w) (hn : n ≤ 12) (hn1 : 1 ≤ n) (hd : d < 100) (e7 : w 7 = nI d) (hB : Bd n due) (ht : tab y (Tr w n (n - 1)) 1 κ) : ∀ (m j M : Nat) (τ : pS), j + m = cN w 2 → m < M → QQ y κ τ → ∃ υ, QQ y κ υ ∧ lp (fun (k52 : Int32 × pS → Option (Int32 × pS)) (b : Int32 × pS) => (fX12_words N (G2 y) y b.2).bind (fun q4 => if q4 ≤ b.1 then (some ((-1 : Int32), b.2)) else (fX12_plan_b63 N (G2 y) k52 y (nI due) b.1 ((0 : Int32), b.2)))) M (nI j, τ) = some (plO w (Tr w n (n - 1)) d due m j, υ) := by
  have c1 := hw.c1
  intro m
  induction m with
  | zero =>
    intro j M τ e hM g
    obtain ⟨M', rfl⟩ : ∃ M', M = M' + 1 := ⟨M - 1, by omega⟩
    have hv : τ.2.1 (y + 1) = w := (g.2 _ (by omega)).trans hκ
    refine ⟨τ, g, ?_⟩
    show (fX12_words N (G2 y) y τ).bind (fun q4 => if q4 ≤ nI j then _ else _) = some (-1, τ)
    rw [r_words, b_some, hv, show j = cN w 2 by omega, if_pos (cnt_eN hw.2.2.1.1)]
  | succ m ih =>
    intro j M τ e hM g
    obtain ⟨M', rfl⟩ : ∃ M', M = M' + 1 := ⟨M - 1, by omega⟩
    have hj : j < cN w 2 := by omega
    have hv : τ.2.1 (y + 1) = w := (g.2 _ (by omega)).trans hκ
    obtain ⟨α, a1, a2⟩ := pl_r (N := N) (due := due) hN hw hl hκ hn hn1 hd e7 hj hB ht (cN w 1) 0 N τ (by omega) (by omega) g
    obtain ⟨υ, u1, u2⟩ := ih (j + 1) M' α (by omega) (by omega) a1
    show ∃ υ, QQ y κ υ ∧ (fX12_words N (G2 y) y τ).bind (fun q4 => if q4 ≤ nI j then _ else (fX12_plan_b63 N (G2 y) (lp _ M') y (nI due) (nI j) ((0 : Int32), τ))) = some (match plI w (Tr w n (n - 1)) d due j (cN w 1) 0 with
      | some c => nI (10 * j + c)
      | none => plO w (Tr w n (n - 1)) d due m (j + 1), υ)
    rw [r_words, b_some, hv, if_neg (cnt_lt hw.2.2.1.1 hj)]
    generalize hk : lp (fun (k52 : Int32 × pS → Option (Int32 × pS)) (b : Int32 × pS) => (fX12_words N (G2 y) y b.2).bind (fun q4 => if q4 ≤ b.1 then (some ((-1 : Int32), b.2)) else (fX12_plan_b63 N (G2 y) k52 y (nI due) b.1 ((0 : Int32), b.2)))) M' = kk at u2 ⊢
    have a2' := a2 kk
    unfold fX12_plan_b63
    simp only [g2r_0_1, g2n_1]
    cases f : plI w (Tr w n (n - 1)) d due j (cN w 1) 0 with
    | some c =>
      rw [f] at a2'
      exact ⟨α, a1, a2'⟩
    | none =>
      rw [f] at a2'
      exact ⟨υ, u1, a2'.trans u2⟩
theorem gd_plan {N z y : Nat} (hN : 20000 < N) : Gd_plan N (G1 z) (G2 y) z y (z + 150) (Sim z y) := by
  intro σ1 σ2 h c1
  unfold fL_plan
  apply gd_w
  unfold fX11_plan fX12_plan fX12_noSiege
  simp only [r_inn, b_some]
  by_cases g0 : c1 < 1
  · rw [if_pos g0, if_pos g0]
    exact gdw_ex (k := 1) (fun τ => if_pos rfl) (by decide) rfl rfl pf0 h.th
  by_cases g1 : 12 < c1
  · rw [if_neg g0, if_pos g1, if_neg g0, if_pos g1]
    exact gdw_ex (k := 1) (fun τ => if_pos rfl) (by decide) rfl rfl pf0 h.th
  rw [if_neg g0, if_neg g1, if_neg g0, if_neg g1, if_neg (by decide), b_some, r_t0, b_some, if_pos rfl]
  obtain ⟨n, hn1, hn, rfl⟩ := siege_rng g0 g1
  unfold fX11_plan_b17
  rw [c_need1, b_some, e_inl]
  simp only [g1r_0_0, g1r_0_1, g1r_0_2, g1r_0_3, g1r_0_4, g1r_0_5, g1r_0_6, g1r_0_7, g1r_0_8, g1r_1_5, g1n_2, g1r_3_0, g1r_3_1, g1r_3_2, g1r_4_9, g1r_4_10, g1r_4_11, g1r_4_12, g1r_4_13, g1r_4_14, g1r_4_15, g1r_4_16, g1r_4_17, g1n_5, g1n_6, g1n_7, g1n_8, g1n_9, g1n_10, g1n_11, g1n_12, g1n_13, g1r_14_2, g1r_14_3, g1r_14_4, g1r_14_5, g1r_14_6, g1n_15, g1n_16, g1n_17, g1n_18, g1n_19, g1r_20_7, g1r_20_8, g1n_21, g1r_22_2, g1n_23, g1r_24_0, g1r_24_1, g1r_24_2, g1r_25_9, g1r_25_10, g1r_25_11, g1r_25_12, g1r_25_13, g1r_25_14, g1r_25_15, g1r_25_16, g1r_25_17, g1n_26, g1n_27, g1n_28, g1n_29, g1n_30, g1n_31, g1n_32, g1n_33, g1n_34, g1r_35_2, g1r_35_3, g1r_35_4, g1r_35_5, g1r_35_6, g1n_36, g1n_37, g1n_38, g1n_39, g1n_40, g1r_41_7, g1r_41_8, g1n_42, g1r_43_2, g1n_44, g1r_45_0, g1r_45_1, g1r_45_2, g1r_46_9, g1r_46_10, g1r_46_11, g1r_46_12, g1r_46_13, g1r_46_14, g1r_46_15, g1r_46_16, g1r_46_17, g1n_47, g1n_48, g1n_49, g1n_50, g1n_51, g1n_52, g1n_53, g1n_54, g1n_55, g1r_56_2, g1r_56_3, g1r_56_4, g1r_56_5, g1r_56_6, g1n_57, g1n_58, g1n_59, g1n_60, g1n_61, g1r_62_7, g1r_62_8, g1n_63, g1r_64_2, g1n_65, g1r_66_2, g1n_67, g1r_68_7, g1r_68_8, g1n_69, g1r_70_2, g1n_71, g1r_72_7, g1r_72_8, g1n_73, g1r_74_2, g1n_75, g1r_76_7, g1r_76_8, g1n_77, g1r_78_2, g1n_79, g1r_80_7, g1r_80_8, g1n_81, g1r_82_2, g1n_83, g1r_84_7, g1r_84_8, g1n_85, g1r_86_2, g1n_87, g1r_88_7, g1r_88_8, g1n_89, g1r_90_2, g1n_91, g1r_92_7, g1r_92_8, g1n_93, g1r_94_2, g1n_95, g1r_96_7, g1r_96_8, g1n_97, g1r_98_2, g1n_99, g1r_100_7, g1r_100_8, g1n_101, g1r_102_2, g1n_103, g1r_104_7, g1r_104_8, g1n_105, g1r_106_2, g1n_107, g1r_108_7, g1r_108_8, g1n_109, g1r_110_2, g1n_111, g1r_112_7, g1r_112_8, g1n_113, g1r_114_2, g1n_115, g1r_116_7, g1r_116_8, g1n_117, g1r_118_2, g1n_119, g1r_120_0, g1r_120_1, g1r_120_2, g1r_121_7, g1r_121_8, g1n_122, g1r_123_2, g1n_124, g1n_125, g1n_126, g1r_127_0, g1r_127_1, g1r_127_2, g1r_127_3, g1r_128_7, g1r_128_8, g1n_129, g1r_130_2, g1n_131, g1n_132, g1n_133, g1n_134, g1r_135_7, g1n_136, g1n_150]
  have wi := h.wi
  have c2 := wi.c2
  rw [h.ask]
  obtain ⟨d, hd, e7⟩ := w7 wi
  rcases wi.a01 with q | q
  · obtain ⟨τ2, t1, t2, t3⟩ := r_siegeOf (N := N) (y := y) (n := n) (κ := putF σ2 y 0 0) hN wi h.hl rfl hn hn1 (show ¬ σ2.2.1 (y + 1) 13 = 1 from by rw [q]; decide) hd e7
    have hv2 : τ2.2.1 (y + 1) = σ2.2.1 (y + 1) := t2.w
    obtain ⟨τ, o1, o2⟩ := c_open (N := N) hN hn h
    have e0 : τ.1 (z + 20) 0 = nI d := (h.keep o2.1 E2.r).dn.1.trans e7
    obtain ⟨υ, f1, f2⟩ := c_fr (N := N) (k := 0) hN h hn (by omega) hd o2
    rw [Nat.sub_zero] at f1
    have B := Bd_T (w := σ2.2.1 (y + 1)) (n := n) n d
    have hb := cl_le B (by omega)
    have hm := B.m (by omega)
    have BT : ∀ d, Bd (n - 1) (Tr (σ2.2.1 (y + 1)) n (n - 1) d) := Bd_T (n - 1)
    have hrc : rcOK z (σ2.2.1 (y + 1)) n σ1 0 (n - 1) (fX6_fewestFrom_r N (G1 z)) := fun d' τ' hd' g' => c_from (N := N) hN h hn (n - 1) 1 d' τ' 15 (by omega) hd' g' (by omega)
    rw [if_pos q]
    unfold fX6_opening
    simp only [g1r_0_0, g1r_0_1, g1r_0_2, g1r_0_3, g1r_0_4, g1r_0_5, g1r_0_6, g1r_0_7, g1r_0_8, g1r_1_5, g1n_2, g1r_3_0, g1r_3_1, g1r_3_2, g1r_4_9, g1r_4_10, g1r_4_11, g1r_4_12, g1r_4_13, g1r_4_14, g1r_4_15, g1r_4_16, g1r_4_17, g1n_5, g1n_6, g1n_7, g1n_8, g1n_9, g1n_10, g1n_11, g1n_12, g1n_13, g1r_14_2, g1r_14_3, g1r_14_4, g1r_14_5, g1r_14_6, g1n_15, g1n_16, g1n_17, g1n_18, g1n_19, g1r_20_7, g1r_20_8, g1n_21, g1r_22_2, g1n_23, g1r_24_0, g1r_24_1, g1r_24_2, g1r_25_9, g1r_25_10, g1r_25_11, g1r_25_12, g1r_25_13, g1r_25_14, g1r_25_15, g1r_25_16, g1r_25_17, g1n_26, g1n_27, g1n_28, g1n_29, g1n_30, g1n_31, g1n_32, g1n_33, g1n_34, g1r_35_2, g1r_35_3, g1r_35_4, g1r_35_5, g1r_35_6, g1n_36, g1n_37, g1n_38, g1n_39, g1n_40, g1r_41_7, g1r_41_8, g1n_42, g1r_43_2, g1n_44, g1r_45_0, g1r_45_1, g1r_45_2, g1r_46_9, g1r_46_10, g1r_46_11, g1r_46_12, g1r_46_13, g1r_46_14, g1r_46_15, g1r_46_16, g1r_46_17, g1n_47, g1n_48, g1n_49, g1n_50, g1n_51, g1n_52, g1n_53, g1n_54, g1n_55, g1r_56_2, g1r_56_3, g1r_56_4, g1r_56_5, g1r_56_6, g1n_57, g1n_58, g1n_59, g1n_60, g1n_61, g1r_62_7, g1r_62_8, g1n_63, g1r_64_2, g1n_65, g1r_66_2, g1n_67, g1r_68_7, g1r_68_8, g1n_69, g1r_70_2, g1n_71, g1r_72_7, g1r_72_8, g1n_73, g1r_74_2, g1n_75, g1r_76_7, g1r_76_8, g1n_77, g1r_78_2, g1n_79, g1r_80_7, g1r_80_8, g1n_81, g1r_82_2, g1n_83, g1r_84_7, g1r_84_8, g1n_85, g1r_86_2, g1n_87, g1r_88_7, g1r_88_8, g1n_89, g1r_90_2, g1n_91, g1r_92_7, g1r_92_8, g1n_93, g1r_94_2, g1n_95, g1r_96_7, g1r_96_8, g1n_97, g1r_98_2, g1n_99, g1r_100_7, g1r_100_8, g1n_101, g1r_102_2, g1n_103, g1r_104_7, g1r_104_8, g1n_105, g1r_106_2, g1n_107, g1r_108_7, g1r_108_8, g1n_109, g1r_110_2, g1n_111, g1r_112_7, g1r_112_8, g1n_113, g1r_114_2, g1n_115, g1r_116_7, g1r_116_8, g1n_117, g1r_118_2, g1n_119, g1r_120_0, g1r_120_1, g1r_120_2, g1r_121_7, g1r_121_8, g1n_122, g1r_123_2, g1n_124, g1n_125, g1n_126, g1r_127_0, g1r_127_1, g1r_127_2, g1r_127_3, g1r_128_7, g1r_128_8, g1n_129, g1r_130_2, g1n_131, g1n_132, g1n_133, g1n_134, g1r_135_7, g1n_136, g1n_150]
    rw [o1, b_some, e0]
    show GDw z y _ (((fX6_fewestFrom N (G1 z) (z + 120) (z + 3) (nI 0) (nI d) τ).bind _).bind _) _
    rw [f1, b_some, t1, b_some]
    by_cases u : Tr (σ2.2.1 (y + 1)) n n d = 1000000
    · rw [if_pos (show (1000 : Int32) ≤ nI (clV (Tr (σ2.2.1 (y + 1)) n n d)) from nI_le (a := 1000) ((cl_far B (by omega)).mpr u) (by omega)), if_pos (show (1000000 : Int32) ≤ nI (Tr (σ2.2.1 (y + 1)) n n d) from by rw [u]; decide)]
      exact gdw_ok rfl rfl ((t2.f (by omega)).trans pf0) (h.keep f2.1 (E2.t0.t t2.e))
    · have u2 : ¬ 1000 ≤ clV (Tr (σ2.2.1 (y + 1)) n n d) := fun g => u ((cl_far B (by omega)).mp g)
      rw [if_neg (show ¬ (1000 : Int32) ≤ nI (clV (Tr (σ2.2.1 (y + 1)) n n d)) from nI_ge (b := 1000) (by omega) (by omega)), if_neg (show ¬ (1000000 : Int32) ≤ nI (Tr (σ2.2.1 (y + 1)) n n d) from nI_ge (b := 1000000) (by omega) (by omega))]
      obtain ⟨α, a1, a2⟩ := c_latest (N := N) (k := 0) (r := n - 1) (x := d) (rc := fX6_fewestFrom_r N (G1 z)) hN h hn (by omega) (fun _ => hrc) f2 hd
      have tb := t3 1 (by omega)
      obtain ⟨β, b1, b2⟩ := r_bds (N := N) (y := y) (k := 0) (x := d) (σ := τ2) (r := n - 1) hN wi h.hl hv2 (by omega) hd (by omega) BT tb
      have BB := Bd_BD (w := σ2.2.1 (y + 1)) (k := 0) (x := d) BT
      rw [show n - 1 + 1 = n by omega] at BB
      have bm := BB.m (by omega)
      simp only [g2r_0_1, g2r_0_2, g2r_0_3, g2r_0_4, g2r_0_5, g2r_0_8, g2r_0_15, g2r_0_17, g2r_0_25, g2r_0_26, g2r_0_27, g2r_0_28, g2n_1, g2n_2, g2n_3, g2n_4, g2n_5, g2n_6, g2n_7, g2n_8, g2n_9, g2n_10, g2n_11, g2n_12]
      rw [show inB 7 2081 = true by decide, ck_t, show gA τ2 (y + 1) 7 = nI d from by show τ2.2.1 (y + 1) 7 = _; rw [hv2, e7]]
      show GDw z y _ (((fX6_latestBehind N (G1 z) (fX6_fewestFrom_r N (G1 z)) (z + 120) (z + 3) (nI 0) (nI d) υ).bind _).bind _) ((fX12_behindDeeds N (G2 y) y (nI 0) (nI d) τ2).bind _)
      rw [a1, b_some, b1, b_some]
      unfold fX6_oneMore
      rw [b_some, cl_more (Bd_mx BT _) (by omega)]
      dsimp only
      by_cases v : BDN (σ2.2.1 (y + 1)) 0 (Tr (σ2.2.1 (y + 1)) n (n - 1)) d = Tr (σ2.2.1 (y + 1)) n n d
      · rw [if_pos (show nI (clV (min 1000000 (mxN (σ2.2.1 (y + 1)) 0 (Tr (σ2.2.1 (y + 1)) n (n - 1)) d (cN (σ2.2.1 (y + 1)) 3) + 1))) = nI (clV (Tr (σ2.2.1 (y + 1)) n n d)) from (cl_inj BB B (by omega)).mpr v), if_pos (by rw [v])]
        exact gdw_ok rfl rfl (((t2.q b2).f (by omega)).trans pf0) (h.keep a2.1 (E2.t0.t (t2.q b2).e))
      · rw [if_neg (show ¬ nI (clV (min 1000000 (mxN (σ2.2.1 (y + 1)) 0 (Tr (σ2.2.1 (y + 1)) n (n - 1)) d (cN (σ2.2.1 (y + 1)) 3) + 1))) = nI (clV (Tr (σ2.2.1 (y + 1)) n n d)) from fun g => v ((cl_inj BB B (by omega)).mp g)), if_neg (fun g => v ((nI_eq (by omega) (by omega)).mp g))]
        obtain ⟨γ, x1, x2⟩ := plo_c (N := N) (due := Tr (σ2.2.1 (y + 1)) n n d) hN h hn hn1 hd B (cN (σ2.2.1 (y + 1)) 2) 0 N α (by omega) (by omega) a2
        obtain ⟨δ, y1, y2⟩ := plo_r (N := N) (y := y) (due := Tr (σ2.2.1 (y + 1)) n n d) (κ := τ2) hN wi h.hl hv2 hn hn1 hd e7 B tb (cN (σ2.2.1 (y + 1)) 2) 0 N β (by omega) (by omega) b2
        unfold fX6_opening_b51 fX12_plan_b52
        simp only [g1r_3_0]
        refine gdw_ok (v := plO (σ2.2.1 (y + 1)) (Tr (σ2.2.1 (y + 1)) n (n - 1)) d (Tr (σ2.2.1 (y + 1)) n n d) (cN (σ2.2.1 (y + 1)) 2) 0) (τ1 := γ) (τ2 := δ) ?_ y2 (((t2.q y1).f (by omega)).trans pf0) (h.keep x1.1 (E2.t0.t (t2.q y1).e))
        show (lp _ N (nI 0, α)).bind _ = _
        rw [x2]
        rfl
  · rw [if_neg (show ¬ σ2.2.1 (y + 1) 13 = 0 from by rw [q]; decide)]
    unfold fX12_siegeOf
    rw [r_gone, b_some, ite01, pfA, if_pos q]
    exact gdw_ok rfl rfl pf0 h.t0
/-- the deed that keeps the longest -/
def kpT (w : Nat → Int32) (T : Nat → Nat) (d e : Nat) (x : Int32 × Nat) : Int32 × Nat := if T (bdN w 0 d e) ≤ x.2 then x else (nI e, T (bdN w 0 d e))
def kpS (w : Nat → Int32) (T : Nat → Nat) (d : Nat) : Nat → Int32 × Nat := itN (kpT w T d) (-1, T d)
theorem kpS_s {w : Nat → Int32} {T : Nat → Nat} {d e : Nat} : kpS w T d (e + 1) = kpT w T d e (kpS w T d e) := rfl
theorem kp_bd {w : Nat → Int32} {T : Nat → Nat} {d r : Nat} (h : ∀ d, Bd r (T d)) : ∀ e, Bd r (kpS w T d e).2 := by
  intro e
  induction e with
  | zero => exact h d
  | succ e ih =>
    rw [kpS_s]
    unfold kpT
    split
    · exact ih
    · exact h _
theorem cl_leI {r a b : Nat} (ha : Bd r a) (hb : Bd r b) (hr : r ≤ 13) : nI (clV a) ≤ nI (clV b) ↔ a ≤ b := by
  have h1 := cl_le ha hr
  have h2 := cl_le hb hr
  rw [nI_leI (by omega) (by omega)]
  unfold Bd at ha hb
  unfold clV
  split <;> split <;> omega
theorem gd_keeps {N z y : Nat} (hN : 20000 < N) : Gd_keeps N (G1 z) (G2 y) z y (z + 150) (Sim z y) := by
  intro σ1 σ2 h c1 c2
  unfold fL_keeps
  apply gd_w
  unfold fX11_keeps fX12_keeps
  simp only [r_inn, b_some]
  by_cases g0 : c1 < 0
  · rw [if_pos g0, if_pos g0]
    exact gdw_ex (k := 1) (fun τ => if_pos rfl) (by decide) rfl rfl pf0 h.th
  by_cases g1 : 99 < c1
  · rw [if_neg g0, if_pos g1, if_neg g0, if_pos g1]
    exact gdw_ex (k := 1) (fun τ => if_pos rfl) (by decide) rfl rfl pf0 h.th
  rw [if_neg g0, if_neg g1, if_neg g0, if_neg g1, if_neg (show ¬ (1 : Int32) = 0 by decide)]
  by_cases g2 : c2 < 0
  · rw [if_pos g2, if_pos g2]
    exact gdw_ex (k := 1) (fun τ => if_pos rfl) (by decide) rfl rfl pf0 h.th
  by_cases g3 : 11 < c2
  · rw [if_neg g2, if_pos (show (12 : Int32) ≤ c2 from by
      rw [i_lt, show (11 : Int32).toInt = 11 from rfl] at g3
      rw [i_le, show (12 : Int32).toInt = 12 from rfl]
      omega), if_neg g2, if_pos g3]
    exact gdw_ex (k := 1) (fun τ => if_pos rfl) (by decide) rfl rfl pf0 h.th
  rw [if_neg g2, if_neg (show ¬ (12 : Int32) ≤ c2 from by
      rw [i_lt, show (11 : Int32).toInt = 11 from rfl] at g3
      rw [i_le, show (12 : Int32).toInt = 12 from rfl]
      omega), if_neg g2, if_neg g3, if_neg (show ¬ (1 : Int32) = 0 by decide)]
  obtain ⟨d, hd, rfl⟩ := nI_rng (m := 99) (by omega) g0 g1
  obtain ⟨m, hm, rfl⟩ := nI_rng (m := 11) (by omega) g2 g3
  have wi := h.wi
  have c3 := wi.c3
  unfold fX11_keeps_b26 fX12_keeps_b31
  rw [c_need1, b_some, e_inl, r_t0, b_some, if_pos rfl]
  simp only [g1r_0_0, g1r_0_1, g1r_0_2, g1r_0_3, g1r_0_4, g1r_0_5, g1r_0_6, g1r_0_7, g1r_0_8, g1r_1_5, g1n_2, g1r_3_0, g1r_3_1, g1r_3_2, g1r_4_9, g1r_4_10, g1r_4_11, g1r_4_12, g1r_4_13, g1r_4_14, g1r_4_15, g1r_4_16, g1r_4_17, g1n_5, g1n_6, g1n_7, g1n_8, g1n_9, g1n_10, g1n_11, g1n_12, g1n_13, g1r_14_2, g1r_14_3, g1r_14_4, g1r_14_5, g1r_14_6, g1n_15, g1n_16, g1n_17, g1n_18, g1n_19, g1r_20_7, g1r_20_8, g1n_21, g1r_22_2, g1n_23, g1r_24_0, g1r_24_1, g1r_24_2, g1r_25_9, g1r_25_10, g1r_25_11, g1r_25_12, g1r_25_13, g1r_25_14, g1r_25_15, g1r_25_16, g1r_25_17, g1n_26, g1n_27, g1n_28, g1n_29, g1n_30, g1n_31, g1n_32, g1n_33, g1n_34, g1r_35_2, g1r_35_3, g1r_35_4, g1r_35_5, g1r_35_6, g1n_36, g1n_37, g1n_38, g1n_39, g1n_40, g1r_41_7, g1r_41_8, g1n_42, g1r_43_2, g1n_44, g1r_45_0, g1r_45_1, g1r_45_2, g1r_46_9, g1r_46_10, g1r_46_11, g1r_46_12, g1r_46_13, g1r_46_14, g1r_46_15, g1r_46_16, g1r_46_17, g1n_47, g1n_48, g1n_49, g1n_50, g1n_51, g1n_52, g1n_53, g1n_54, g1n_55, g1r_56_2, g1r_56_3, g1r_56_4, g1r_56_5, g1r_56_6, g1n_57, g1n_58, g1n_59, g1n_60, g1n_61, g1r_62_7, g1r_62_8, g1n_63, g1r_64_2, g1n_65, g1r_66_2, g1n_67, g1r_68_7, g1r_68_8, g1n_69, g1r_70_2, g1n_71, g1r_72_7, g1r_72_8, g1n_73, g1r_74_2, g1n_75, g1r_76_7, g1r_76_8, g1n_77, g1r_78_2, g1n_79, g1r_80_7, g1r_80_8, g1n_81, g1r_82_2, g1n_83, g1r_84_7, g1r_84_8, g1n_85, g1r_86_2, g1n_87, g1r_88_7, g1r_88_8, g1n_89, g1r_90_2, g1n_91, g1r_92_7, g1r_92_8, g1n_93, g1r_94_2, g1n_95, g1r_96_7, g1r_96_8, g1n_97, g1r_98_2, g1n_99, g1r_100_7, g1r_100_8, g1n_101, g1r_102_2, g1n_103, g1r_104_7, g1r_104_8, g1n_105, g1r_106_2, g1n_107, g1r_108_7, g1r_108_8, g1n_109, g1r_110_2, g1n_111, g1r_112_7, g1r_112_8, g1n_113, g1r_114_2, g1n_115, g1r_116_7, g1r_116_8, g1n_117, g1r_118_2, g1n_119, g1r_120_0, g1r_120_1, g1r_120_2, g1r_121_7, g1r_121_8, g1n_122, g1r_123_2, g1n_124, g1n_125, g1n_126, g1r_127_0, g1r_127_1, g1r_127_2, g1r_127_3, g1r_128_7, g1r_128_8, g1n_129, g1r_130_2, g1n_131, g1n_132, g1n_133, g1n_134, g1r_135_7, g1n_136, g1n_150]
  unfold fX6_bestDefence fX12_bestDeed
  rw [nI_1]
  obtain ⟨τ2, t1, t2, t3⟩ := r_lays (N := N) (y := y) (n := m + 1) (f := 1) (κ := putF σ2 y 0 0) hN wi h.hl rfl (by omega) (by omega) (by omega)
  have hv2 : τ2.2.1 (y + 1) = σ2.2.1 (y + 1) := t2.w
  have tb := t3 1 (by omega) (by omega)
  rw [show m + 1 - 1 = m by omega] at tb
  obtain ⟨τ, o1, o2⟩ := c_open (N := N) (n := m + 1) hN (by omega) h
  obtain ⟨υ, f1, f2⟩ := c_fr (N := N) (k := 1) (d := d) hN h (by omega) (by omega) (by omega) o2
  rw [show m + 1 - 1 = m by omega] at f1
  have BT : ∀ d, Bd m (Tr (σ2.2.1 (y + 1)) (m + 1) m d) := Bd_T m
  have BK := fun e => kp_bd (w := σ2.2.1 (y + 1)) (d := d) BT e
  have A : ∃ q : Int32 × pS, (q.1 = (kpS (σ2.2.1 (y + 1)) (Tr (σ2.2.1 (y + 1)) (m + 1) m) d (cN (σ2.2.1 (y + 1)) 3)).1 ∧ SG z (σ2.2.1 (y + 1)) (m + 1) σ1 q.2) ∧ fX6_bestDefence_b23 N (G1 z) (z + 120) (z + 3) (nI d) (-1, nI (clV (Tr (σ2.2.1 (y + 1)) (m + 1) m d)), 0, υ) = some q := by
    unfold fX6_bestDefence_b23
    simp only [g1r_3_0]
    refine lp_forR (fun e b => ∃ τ, b = ((kpS (σ2.2.1 (y + 1)) (Tr (σ2.2.1 (y + 1)) (m + 1) m) d e).1, nI (clV (kpS (σ2.2.1 (y + 1)) (Tr (σ2.2.1 (y + 1)) (m + 1) m) d e).2), nI e, τ) ∧ SG z (σ2.2.1 (y + 1)) (m + 1) σ1 τ) _ (cN (σ2.2.1 (y + 1)) 3) (by omega) ?_ ?_ ⟨υ, rfl, f2⟩
    · rintro e he _ ⟨τ, rfl, gg⟩
      left
      have et : τ.1 (z + 4) 3 = σ2.2.1 (y + 1) 3 := (h.keep gg.1 E2.r).tale.1.2.2.2.1
      obtain ⟨α, a1, a2⟩ := c_eased (N := N) (k := 0) (d := d) (e := e) hN h gg (by omega) he
      obtain ⟨β, b1, b2⟩ := c_fr (N := N) (k := 1) (d := bdN (σ2.2.1 (y + 1)) 0 d e) hN h (by omega) (by omega) (bdN_eq wi h.hl he (by omega)).2 a2
      rw [show m + 1 - 1 = m by omega] at b1
      refine ⟨((kpS (σ2.2.1 (y + 1)) (Tr (σ2.2.1 (y + 1)) (m + 1) m) d (e + 1)).1, nI (clV (kpS (σ2.2.1 (y + 1)) (Tr (σ2.2.1 (y + 1)) (m + 1) m) d (e + 1)).2), nI (e + 1), β), ⟨β, rfl, b2⟩, fun p => ?_⟩
      dsimp only
      rw [et, if_neg (cnt_lt wi.2.2.2.1.1 he)]
      show (fX6_easedOn N (G1 z) (z + 120) (z + 3) (nI 0) (nI d) (nI e) τ).bind (fun q1 => (fX6_fewestFrom N (G1 z) (z + 120) (z + 3) (nI 1) q1.1 q1.2).bind _) = _
      rw [a1, b_some, b1, b_some, kpS_s, nI_1]
      unfold kpT
      by_cases u : Tr (σ2.2.1 (y + 1)) (m + 1) m (bdN (σ2.2.1 (y + 1)) 0 d e) ≤ (kpS (σ2.2.1 (y + 1)) (Tr (σ2.2.1 (y + 1)) (m + 1) m) d e).2
      · rw [if_pos u, if_pos ((cl_leI (BT _) (BK e) (by omega)).mpr u)]
      · rw [if_neg u, if_neg (fun g => u ((cl_leI (BT _) (BK e) (by omega)).mp g))]
    · rintro _ ⟨τ, rfl, gg⟩
      have et : τ.1 (z + 4) 3 = σ2.2.1 (y + 1) 3 := (h.keep gg.1 E2.r).tale.1.2.2.2.1
      refine ⟨(_, _), ⟨rfl, gg⟩, fun p => ?_⟩
      dsimp only
      rw [et, if_pos (cnt_eN wi.2.2.2.1.1)]
  have R : ∃ q : Int32 × pS, (q.1 = (kpS (σ2.2.1 (y + 1)) (Tr (σ2.2.1 (y + 1)) (m + 1) m) d (cN (σ2.2.1 (y + 1)) 3)).1 ∧ QQ y τ2 q.2) ∧ fX12_bestDeed_b15 N (G2 y) y 0 (nI d) (-1, nI (Tr (σ2.2.1 (y + 1)) (m + 1) m d), 0, τ2) = some q := by
    unfold fX12_bestDeed_b15
    simp only [g2r_0_1, g2r_0_2, g2r_0_3, g2r_0_4, g2r_0_5, g2r_0_8, g2r_0_15, g2r_0_17, g2r_0_25, g2r_0_26, g2r_0_27, g2r_0_28, g2n_1, g2n_2, g2n_3, g2n_4, g2n_5, g2n_6, g2n_7, g2n_8, g2n_9, g2n_10, g2n_11, g2n_12]
    refine lp_forR (fun e b => ∃ τ, b = ((kpS (σ2.2.1 (y + 1)) (Tr (σ2.2.1 (y + 1)) (m + 1) m) d e).1, nI (kpS (σ2.2.1 (y + 1)) (Tr (σ2.2.1 (y + 1)) (m + 1) m) d e).2, nI e, τ) ∧ QQ y τ2 τ) _ (cN (σ2.2.1 (y + 1)) 3) (by omega) ?_ ?_ ⟨τ2, rfl, QQ.r⟩
    · rintro e he _ ⟨τ, rfl, gg⟩
      left
      have hv : τ.2.1 (y + 1) = σ2.2.1 (y + 1) := (gg.2 _ (by omega)).trans hv2
      obtain ⟨β, b1, b2⟩ := r_bd (N := N) (y := y) (k := 0) (x := d) (e := e) (σ := τ) hN wi h.hl hv (by omega) he
      have m1 := (BK e).m (by omega)
      have m2 := (BT (bdN (σ2.2.1 (y + 1)) 0 d e)).m (by omega)
      have bl := (bdN_eq (k := 0) (d := d) wi h.hl he (by omega)).2
      refine ⟨((kpS (σ2.2.1 (y + 1)) (Tr (σ2.2.1 (y + 1)) (m + 1) m) d (e + 1)).1, nI (kpS (σ2.2.1 (y + 1)) (Tr (σ2.2.1 (y + 1)) (m + 1) m) d (e + 1)).2, nI (e + 1), β), ⟨β, rfl, gg.t b1⟩, fun p => ?_⟩
      dsimp only
      rw [r_deeds, b_some, hv, if_neg (cnt_lt wi.2.2.2.1.1 he), r_howMany, b_some, hv, show inB 9 2081 = true by decide, ck_t]
      show (fX12_looks N (G2 y) y (nI d) (τ.2.1 (y + 1) 9 + nI 0) (bc (σ2.2.1 (y + 1) 12)) τ).bind (fun q3 => (fX12_behindDeed N (G2 y) y (nI e) q3).bind (fun q4 => (fX12_tillOf N (G2 y) y (nI 1) q4.1 q4.2).bind _)) = _
      rw [hv, r_looks, b_some, b2, b_some, r_tillOf (by omega) bl, b_some, (tb.q (gg.t b1)) _ bl, kpS_s]
      unfold fX12_bestDeed_b70 kpT
      rw [jmax_nI (by omega) (by omega), nI_1]
      by_cases u : Tr (σ2.2.1 (y + 1)) (m + 1) m (bdN (σ2.2.1 (y + 1)) 0 d e) ≤ (kpS (σ2.2.1 (y + 1)) (Tr (σ2.2.1 (y + 1)) (m + 1) m) d e).2
      · rw [if_pos u, if_pos (nI_le u (by omega)), Nat.max_eq_left u]
      · rw [if_neg u, if_neg (nI_ge (by omega) (by omega)), Nat.max_eq_right (by omega)]
    · rintro _ ⟨τ, rfl, gg⟩
      have hv : τ.2.1 (y + 1) = σ2.2.1 (y + 1) := (gg.2 _ (by omega)).trans hv2
      refine ⟨(_, _), ⟨rfl, gg⟩, fun p => ?_⟩
      dsimp only
      rw [r_deeds, b_some, hv, if_pos (cnt_eN wi.2.2.2.1.1)]
  obtain ⟨⟨qa, υ1⟩, ⟨qa1, qa2⟩, qa3⟩ := A
  obtain ⟨⟨qr, υ2⟩, ⟨qr1, qr2⟩, qr3⟩ := R
  have qa1' : qa = _ := qa1
  have qr1' : qr = _ := qr1
  rw [qa1'] at qa3
  rw [qr1'] at qr3
  rw [o1, b_some]
  show GDw z y _ (((fX6_fewestFrom N (G1 z) (z + 120) (z + 3) (nI 1) (nI d) τ).bind _).bind _) ((fX12_laysTill N (G2 y) y (nI 1) (nI (m + 1)) (putF σ2 y 0 0)).bind (fun q2 => ((fX12_tillOf N (G2 y) y (nI 1) (nI d) q2).bind _).bind _))
  rw [f1, b_some, t1, b_some, r_tillOf (by omega) (by omega), b_some, tb d (by omega), qa3, qr3]
  exact gdw_ok rfl rfl (((t2.q qr2).f (by omega)).trans pf0) (h.keep qa2.1 (E2.t0.t (t2.q qr2).e))
