/-! so many nights by draws -/
def gbS (x : (Nat → Int32) × Nat) : (Nat → Int32) × Nat := if x.1 13 = 0 ∧ x.1 9 < x.1 10 then (onW x.1, x.2 + 1) else x
def gbW (w : Nat → Int32) : Nat → (Nat → Int32) × Nat := itN (fun _ x => gbS x) (w, 0)
theorem gbW_s {w : Nat → Int32} {n : Nat} : gbW w (n + 1) = gbS (gbW w n) := rfl
theorem gb_1 {w : Nat → Int32} {n : Nat} : (gbW w (n + 1)).1 = onW (gbW w n).1 := by
  rw [gbW_s]
  unfold gbS
  by_cases q : (gbW w n).1 13 = 0 ∧ (gbW w n).1 9 < (gbW w n).1 10
  · rw [if_pos q]
  · rw [if_neg q]
    exact (if_neg q).symm
theorem Sv.gb {w : Nat → Int32} (hw : WInv w) (hl : HasLaw w) : ∀ n, Sv w (gbW w n).1 := by
  intro n
  induction n with
  | zero => exact Sv.r hw hl
  | succ n ih =>
    rw [gb_1]
    exact ih.on
theorem gb_stop {w : Nat → Int32} {k : Nat} (h : ¬ ((gbW w k).1 13 = 0 ∧ (gbW w k).1 9 < (gbW w k).1 10)) : ∀ n, gbW w (k + n) = gbW w k := by
  intro n
  induction n with
  | zero => rfl
  | succ n ih =>
    rw [← Nat.add_assoc, gbW_s, ih]
    unfold gbS
    rw [if_neg h]
theorem ov_1 {x : Nat → Int32} (hw : WInv x) (q : ¬ (x 13 = 0 ∧ x 9 < x 10)) : (if x 13 = 1 then (1 : Int32) else if x 9 < x 10 then 0 else 1) = 1 := by
  by_cases a : x 13 = 1
  · rw [if_pos a]
  · have a0 : x 13 = 0 := by
      rcases hw.a01 with g | g
      · exact g
      · exact absurd g a
    rw [if_neg a, if_neg (fun r => q ⟨a0, r⟩)]
theorem ov_0 {x : Nat → Int32} (q : x 13 = 0 ∧ x 9 < x 10) : (if x 13 = 1 then (1 : Int32) else if x 9 < x 10 then 0 else 1) = 0 := by
  rw [if_neg (show ¬ x 13 = 1 from by rw [q.1]; decide), if_pos q.2]
theorem cn_0 {x : Nat → Int32} (q : ¬ (x 13 = 0 ∧ x 9 < x 10)) : (if x 13 = 0 then (if x 10 ≤ x 9 then (0 : Int32) else 1) else 0) = 0 := by
  by_cases a : x 13 = 0
  · rw [if_pos a, if_pos (i_nlt.mp (fun r => q ⟨a, r⟩))]
  · rw [if_neg a]
theorem cn_1 {x : Nat → Int32} (q : x 13 = 0 ∧ x 9 < x 10) : (if x 13 = 0 then (if x 10 ≤ x 9 then (0 : Int32) else 1) else 0) = 1 := by
  rw [if_pos q.1, if_neg (i_nle.mpr q.2)]
theorem r_goesBy {N y n : Nat} {σ : pS} (hN : 20000 < N) (hn : n ≤ 60) (hw : WInv (σ.2.1 (y + 1))) (hl : HasLaw (σ.2.1 (y + 1))) : ∃ τ, fX12_goesBy N (G2 y) y (nI n) σ = some (nI (gbW (σ.2.1 (y + 1)) n).2, τ) ∧ τ.2.1 (y + 1) = (gbW (σ.2.1 (y + 1)) n).1 ∧ SS y σ τ := by
  unfold fX12_goesBy
  generalize hwe : σ.2.1 (y + 1) = w at hw hl ⊢
  have S := Sv.gb hw hl
  suffices hh : ∃ r : Int32 × pS, (r.1 = nI (gbW w n).2 ∧ r.2.2.1 (y + 1) = (gbW w n).1 ∧ SS y σ r.2) ∧ fX12_goesBy_b2 N (G2 y) y (nI n) (0, σ) = some r by
    obtain ⟨⟨r1, r⟩, ⟨h0, h1, h2⟩, h3⟩ := hh
    have h0' : r1 = nI (gbW w n).2 := h0
    subst h0'
    exact ⟨r, h3, h1, h2⟩
  unfold fX12_goesBy_b2
  refine lp_forR (fun k b => ∃ τ, b = (nI k, τ) ∧ τ.2.1 (y + 1) = (gbW w k).1 ∧ (gbW w k).2 = k ∧ SS y σ τ) _ n (by omega) ?_ ?_ ⟨σ, rfl, hwe, rfl, SS.r⟩
  · rintro k hk _ ⟨τ, rfl, hmr, hc, he⟩
    have s := S k
    by_cases q : (gbW w k).1 13 = 0 ∧ (gbW w k).1 9 < (gbW w k).1 10
    · left
      obtain ⟨υ, a1, a2, a3⟩ := r_one (N := N) (y := y) (σ := τ) hN (by rw [hmr]; exact s.1) (by rw [hmr]; exact s.2.1)
      refine ⟨(nI (k + 1), υ), ⟨υ, rfl, ?_, ?_, he.t a3⟩, fun p => ?_⟩
      · rw [a2, hmr, gb_1]
        exact (if_pos q).symm
      · rw [gbW_s]
        unfold gbS
        rw [if_pos q, hc]
      · dsimp only
        rw [if_neg (nI_ge hk (by omega)), r_over, b_some, hmr, ov_0 q, if_pos rfl, a1, b_some, nI_1]
    · right
      have e : gbW w n = gbW w k := by
        rw [show n = k + (n - k) by omega, gb_stop q]
      refine ⟨(nI k, τ), ⟨?_, ?_, he⟩, fun p => ?_⟩
      · rw [e, hc]
      · rw [e]
        exact hmr
      · dsimp only
        rw [if_neg (nI_ge hk (by omega)), r_over, b_some, hmr, ov_1 s.1 q, if_neg (by decide)]
  · rintro _ ⟨τ, rfl, hmr, hc, he⟩
    refine ⟨(nI n, τ), ⟨by rw [hc], hmr, he⟩, fun p => ?_⟩
    dsimp only
    rw [if_pos lit_end]
theorem gd_nights {N z y : Nat} (hN : 20000 < N) : Gd_nights N (G1 z) (G2 y) z y (z + 150) (Sim z y) := by
  intro σ1 σ2 h c1
  unfold fL_nights
  apply gd_w
  unfold fX11_nights fX12_nights
  simp only [r_inn, b_some]
  by_cases g0 : c1 < 1
  · rw [if_pos g0, if_pos g0]
    exact gdw_ex (k := 1) (fun τ => if_pos rfl) (by decide) rfl rfl pf0 h.th
  by_cases g1 : 60 < c1
  · rw [if_neg g0, if_pos g1, if_neg g0, if_pos g1]
    exact gdw_ex (k := 1) (fun τ => if_pos rfl) (by decide) rfl rfl pf0 h.th
  rw [if_neg g0, if_neg g1, if_neg g0, if_neg g1, if_neg (by decide)]
  obtain ⟨n, hn, rfl⟩ := nI_rng (m := 60) (by omega) (fun q => g0 (by
    rw [i_lt, show (0 : Int32).toInt = 0 from rfl] at q
    rw [i_lt, show (1 : Int32).toInt = 1 from rfl]
    omega)) g1
  unfold fX11_nights_b17 fX12_nights_b21
  rw [c_need1, b_some, e_inl, r_t0, b_some, if_pos rfl]
  simp only [g1r_0_0, g1r_0_1, g1r_0_2, g1r_0_3, g1r_0_4, g1r_0_5, g1r_0_6, g1r_0_7, g1r_0_8, g1r_1_5, g1n_2, g1r_3_0, g1r_3_1, g1r_3_2, g1r_4_9, g1r_4_10, g1r_4_11, g1r_4_12, g1r_4_13, g1r_4_14, g1r_4_15, g1r_4_16, g1r_4_17, g1n_5, g1n_6, g1n_7, g1n_8, g1n_9, g1n_10, g1n_11, g1n_12, g1n_13, g1r_14_2, g1r_14_3, g1r_14_4, g1r_14_5, g1r_14_6, g1n_15, g1n_16, g1n_17, g1n_18, g1n_19, g1r_20_7, g1r_20_8, g1n_21, g1r_22_2, g1n_23, g1r_24_0, g1r_24_1, g1r_24_2, g1r_25_9, g1r_25_10, g1r_25_11, g1r_25_12, g1r_25_13, g1r_25_14, g1r_25_15, g1r_25_16, g1r_25_17, g1n_26, g1n_27, g1n_28, g1n_29, g1n_30, g1n_31, g1n_32, g1n_33, g1n_34, g1r_35_2, g1r_35_3, g1r_35_4, g1r_35_5, g1r_35_6, g1n_36, g1n_37, g1n_38, g1n_39, g1n_40, g1r_41_7, g1r_41_8, g1n_42, g1r_43_2, g1n_44, g1r_45_0, g1r_45_1, g1r_45_2, g1r_46_9, g1r_46_10, g1r_46_11, g1r_46_12, g1r_46_13, g1r_46_14, g1r_46_15, g1r_46_16, g1r_46_17, g1n_47, g1n_48, g1n_49, g1n_50, g1n_51, g1n_52, g1n_53, g1n_54, g1n_55, g1r_56_2, g1r_56_3, g1r_56_4, g1r_56_5, g1r_56_6, g1n_57, g1n_58, g1n_59, g1n_60, g1n_61, g1r_62_7, g1r_62_8, g1n_63, g1r_64_2, g1n_65, g1r_66_2, g1n_67, g1r_68_7, g1r_68_8, g1n_69, g1r_70_2, g1n_71, g1r_72_7, g1r_72_8, g1n_73, g1r_74_2, g1n_75, g1r_76_7, g1r_76_8, g1n_77, g1r_78_2, g1n_79, g1r_80_7, g1r_80_8, g1n_81, g1r_82_2, g1n_83, g1r_84_7, g1r_84_8, g1n_85, g1r_86_2, g1n_87, g1r_88_7, g1r_88_8, g1n_89, g1r_90_2, g1n_91, g1r_92_7, g1r_92_8, g1n_93, g1r_94_2, g1n_95, g1r_96_7, g1r_96_8, g1n_97, g1r_98_2, g1n_99, g1r_100_7, g1r_100_8, g1n_101, g1r_102_2, g1n_103, g1r_104_7, g1r_104_8, g1n_105, g1r_106_2, g1n_107, g1r_108_7, g1r_108_8, g1n_109, g1r_110_2, g1n_111, g1r_112_7, g1r_112_8, g1n_113, g1r_114_2, g1n_115, g1r_116_7, g1r_116_8, g1n_117, g1r_118_2, g1n_119, g1r_120_0, g1r_120_1, g1r_120_2, g1r_121_7, g1r_121_8, g1n_122, g1r_123_2, g1n_124, g1n_125, g1n_126, g1r_127_0, g1r_127_1, g1r_127_2, g1r_127_3, g1r_128_7, g1r_128_8, g1n_129, g1r_130_2, g1n_131, g1n_132, g1n_133, g1n_134, g1r_135_7, g1n_136, g1n_150]
  obtain ⟨τ1, τ2, a, b, hs, b0, ew⟩ := h.t0.rem hN
  rw [a, b_some, b, b_some]
  obtain ⟨υ2, c1, c2, c3⟩ := r_goesBy (N := N) (y := y) (σ := τ2) (n := n) hN hn hs.wi hs.hl
  rw [c1, b_some]
  have S := Sv.gb hs.wi hs.hl
  have A : ∃ r, (∃ υ, MR True z (z + 20) υ (gbW (τ2.2.1 (y + 1)) n).1 ∧ CC z (z + 20) τ1 υ ∧ r = .inl (nI (gbW (τ2.2.1 (y + 1)) n).2, υ)) ∧ fX11_nights_b38 N (G1 z) z (nI n) (0, 0, τ1) = some r := by
    unfold fX11_nights_b38
    simp only [g1r_0_0, g1r_0_1, g1r_0_2, g1r_0_3, g1r_0_4, g1r_0_5, g1r_0_6, g1r_0_7, g1r_0_8, g1r_1_5, g1n_2, g1r_3_0, g1r_3_1, g1r_3_2, g1r_4_9, g1r_4_10, g1r_4_11, g1r_4_12, g1r_4_13, g1r_4_14, g1r_4_15, g1r_4_16, g1r_4_17, g1n_5, g1n_6, g1n_7, g1n_8, g1n_9, g1n_10, g1n_11, g1n_12, g1n_13, g1r_14_2, g1r_14_3, g1r_14_4, g1r_14_5, g1r_14_6, g1n_15, g1n_16, g1n_17, g1n_18, g1n_19, g1r_20_7, g1r_20_8, g1n_21, g1r_22_2, g1n_23, g1r_24_0, g1r_24_1, g1r_24_2, g1r_25_9, g1r_25_10, g1r_25_11, g1r_25_12, g1r_25_13, g1r_25_14, g1r_25_15, g1r_25_16, g1r_25_17, g1n_26, g1n_27, g1n_28, g1n_29, g1n_30, g1n_31, g1n_32, g1n_33, g1n_34, g1r_35_2, g1r_35_3, g1r_35_4, g1r_35_5, g1r_35_6, g1n_36, g1n_37, g1n_38, g1n_39, g1n_40, g1r_41_7, g1r_41_8, g1n_42, g1r_43_2, g1n_44, g1r_45_0, g1r_45_1, g1r_45_2, g1r_46_9, g1r_46_10, g1r_46_11, g1r_46_12, g1r_46_13, g1r_46_14, g1r_46_15, g1r_46_16, g1r_46_17, g1n_47, g1n_48, g1n_49, g1n_50, g1n_51, g1n_52, g1n_53, g1n_54, g1n_55, g1r_56_2, g1r_56_3, g1r_56_4, g1r_56_5, g1r_56_6, g1n_57, g1n_58, g1n_59, g1n_60, g1n_61, g1r_62_7, g1r_62_8, g1n_63, g1r_64_2, g1n_65, g1r_66_2, g1n_67, g1r_68_7, g1r_68_8, g1n_69, g1r_70_2, g1n_71, g1r_72_7, g1r_72_8, g1n_73, g1r_74_2, g1n_75, g1r_76_7, g1r_76_8, g1n_77, g1r_78_2, g1n_79, g1r_80_7, g1r_80_8, g1n_81, g1r_82_2, g1n_83, g1r_84_7, g1r_84_8, g1n_85, g1r_86_2, g1n_87, g1r_88_7, g1r_88_8, g1n_89, g1r_90_2, g1n_91, g1r_92_7, g1r_92_8, g1n_93, g1r_94_2, g1n_95, g1r_96_7, g1r_96_8, g1n_97, g1r_98_2, g1n_99, g1r_100_7, g1r_100_8, g1n_101, g1r_102_2, g1n_103, g1r_104_7, g1r_104_8, g1n_105, g1r_106_2, g1n_107, g1r_108_7, g1r_108_8, g1n_109, g1r_110_2, g1n_111, g1r_112_7, g1r_112_8, g1n_113, g1r_114_2, g1n_115, g1r_116_7, g1r_116_8, g1n_117, g1r_118_2, g1n_119, g1r_120_0, g1r_120_1, g1r_120_2, g1r_121_7, g1r_121_8, g1n_122, g1r_123_2, g1n_124, g1n_125, g1n_126, g1r_127_0, g1r_127_1, g1r_127_2, g1r_127_3, g1r_128_7, g1r_128_8, g1n_129, g1r_130_2, g1n_131, g1n_132, g1n_133, g1n_134, g1r_135_7, g1n_136, g1n_150]
    refine lp_forR (fun k b => ∃ τ, b = (nI k, nI k, τ) ∧ MR True z (z + 20) τ (gbW (τ2.2.1 (y + 1)) k).1 ∧ (gbW (τ2.2.1 (y + 1)) k).2 = k ∧ CC z (z + 20) τ1 τ) _ n (by omega) ?_ ?_ ⟨τ1, rfl, hs.mr, rfl, CC.r⟩
    · rintro k hk _ ⟨τ, rfl, hmr, hc, he⟩
      obtain ⟨υ, b1, b2, b3⟩ := c_night (N := N) hN (Nat.le_refl _) ma_20 hmr
      by_cases q : (gbW (τ2.2.1 (y + 1)) k).1 13 = 0 ∧ (gbW (τ2.2.1 (y + 1)) k).1 9 < (gbW (τ2.2.1 (y + 1)) k).1 10
      · left
        rw [cn_1 q] at b1
        refine ⟨(nI (k + 1), nI (k + 1), υ), ⟨υ, rfl, by rw [gb_1]; exact b2, ?_, he.t b3⟩, fun p => ?_⟩
        · rw [gbW_s]
          unfold gbS
          rw [if_pos q, hc]
        · dsimp only
          rw [if_neg (nI_ge hk (by omega)), b1, b_some, if_neg (show ¬ (1 : Int32) = 0 by decide), nI_1]
      · right
        rw [cn_0 q] at b1
        have e : gbW (τ2.2.1 (y + 1)) n = gbW (τ2.2.1 (y + 1)) k := by
          rw [show n = k + (n - k) by omega, gb_stop q]
        refine ⟨_, ⟨υ, ?_, he.t b3, rfl⟩, fun p => ?_⟩
        · rw [e]
          exact b2.w (if_neg q)
        · dsimp only
          rw [if_neg (nI_ge hk (by omega)), b1, b_some, if_pos rfl, e, hc]
    · rintro _ ⟨τ, rfl, hmr, hc, he⟩
      refine ⟨_, ⟨τ, hmr, he, rfl⟩, fun p => ?_⟩
      dsimp only
      rw [if_pos lit_end, hc]
  obtain ⟨_, ⟨υ1, d1, d2, rfl⟩, d3⟩ := A
  rw [d3]
  refine gdw_ok (τ2 := υ2) rfl rfl ?_ (hs.ms (by rw [c2]; exact d1) d2 c3 (by rw [c2]; exact (S n).2.2))
  rw [c3.f (by omega), b0, pf0]
/-- a trial of the class -/
theorem c_try {N z y n : Nat} {σ1 σ2 : pS} {s : Int32} (hN : 20000 < N) (hn : n ≤ 60) (h : Sim z y σ1 σ2) : ∃ τ, fX11_tryNights N (G1 z) z (nI n) s σ1 = some τ ∧ MR False z (z + 116) τ (gbW (va_up (σ2.2.1 (y + 1)) 16 s) n).1 ∧ E1 z σ1 τ := by
  unfold fX11_tryNights
  simp only [g1r_0_0, g1r_0_1, g1r_0_2, g1r_0_3, g1r_0_4, g1r_0_5, g1r_0_6, g1r_0_7, g1r_0_8, g1r_1_5, g1n_2, g1r_3_0, g1r_3_1, g1r_3_2, g1r_4_9, g1r_4_10, g1r_4_11, g1r_4_12, g1r_4_13, g1r_4_14, g1r_4_15, g1r_4_16, g1r_4_17, g1n_5, g1n_6, g1n_7, g1n_8, g1n_9, g1n_10, g1n_11, g1n_12, g1n_13, g1r_14_2, g1r_14_3, g1r_14_4, g1r_14_5, g1r_14_6, g1n_15, g1n_16, g1n_17, g1n_18, g1n_19, g1r_20_7, g1r_20_8, g1n_21, g1r_22_2, g1n_23, g1r_24_0, g1r_24_1, g1r_24_2, g1r_25_9, g1r_25_10, g1r_25_11, g1r_25_12, g1r_25_13, g1r_25_14, g1r_25_15, g1r_25_16, g1r_25_17, g1n_26, g1n_27, g1n_28, g1n_29, g1n_30, g1n_31, g1n_32, g1n_33, g1n_34, g1r_35_2, g1r_35_3, g1r_35_4, g1r_35_5, g1r_35_6, g1n_36, g1n_37, g1n_38, g1n_39, g1n_40, g1r_41_7, g1r_41_8, g1n_42, g1r_43_2, g1n_44, g1r_45_0, g1r_45_1, g1r_45_2, g1r_46_9, g1r_46_10, g1r_46_11, g1r_46_12, g1r_46_13, g1r_46_14, g1r_46_15, g1r_46_16, g1r_46_17, g1n_47, g1n_48, g1n_49, g1n_50, g1n_51, g1n_52, g1n_53, g1n_54, g1n_55, g1r_56_2, g1r_56_3, g1r_56_4, g1r_56_5, g1r_56_6, g1n_57, g1n_58, g1n_59, g1n_60, g1n_61, g1r_62_7, g1r_62_8, g1n_63, g1r_64_2, g1n_65, g1r_66_2, g1n_67, g1r_68_7, g1r_68_8, g1n_69, g1r_70_2, g1n_71, g1r_72_7, g1r_72_8, g1n_73, g1r_74_2, g1n_75, g1r_76_7, g1r_76_8, g1n_77, g1r_78_2, g1n_79, g1r_80_7, g1r_80_8, g1n_81, g1r_82_2, g1n_83, g1r_84_7, g1r_84_8, g1n_85, g1r_86_2, g1n_87, g1r_88_7, g1r_88_8, g1n_89, g1r_90_2, g1n_91, g1r_92_7, g1r_92_8, g1n_93, g1r_94_2, g1n_95, g1r_96_7, g1r_96_8, g1n_97, g1r_98_2, g1n_99, g1r_100_7, g1r_100_8, g1n_101, g1r_102_2, g1n_103, g1r_104_7, g1r_104_8, g1n_105, g1r_106_2, g1n_107, g1r_108_7, g1r_108_8, g1n_109, g1r_110_2, g1n_111, g1r_112_7, g1r_112_8, g1n_113, g1r_114_2, g1n_115, g1r_116_7, g1r_116_8, g1n_117, g1r_118_2, g1n_119, g1r_120_0, g1r_120_1, g1r_120_2, g1r_121_7, g1r_121_8, g1n_122, g1r_123_2, g1n_124, g1n_125, g1n_126, g1r_127_0, g1r_127_1, g1r_127_2, g1r_127_3, g1r_128_7, g1r_128_8, g1n_129, g1r_130_2, g1n_131, g1n_132, g1n_133, g1n_134, g1r_135_7, g1n_136, g1n_150]
  obtain ⟨τ1, a1, a2, a3⟩ := c_dream (N := N) (o := 116) (by omega) ma_116 h
  rw [a1, b_some]
  have m0 : MR False z (z + 116) (putF τ1 (z + 116) 5 s) (va_up (σ2.2.1 (y + 1)) 16 s) := a2.upd (by omega) rfl (by omega) (MInv_c h.wi.m (fun k hk => up_ne hk)) (mind_16 a2.2.2.2.1)
  suffices hh : ∃ r, (MR False z (z + 116) r (gbW (va_up (σ2.2.1 (y + 1)) 16 s) n).1 ∧ E1 z σ1 r) ∧ fX11_tryNights_b24 N (G1 z) z (nI n) (0, putF τ1 (z + 116) 5 s) = some r by
    obtain ⟨r, ⟨h1, h2⟩, h3⟩ := hh
    exact ⟨r, h3, h1, h2⟩
  unfold fX11_tryNights_b24
  simp only [g1r_0_0, g1r_0_1, g1r_0_2, g1r_0_3, g1r_0_4, g1r_0_5, g1r_0_6, g1r_0_7, g1r_0_8, g1r_1_5, g1n_2, g1r_3_0, g1r_3_1, g1r_3_2, g1r_4_9, g1r_4_10, g1r_4_11, g1r_4_12, g1r_4_13, g1r_4_14, g1r_4_15, g1r_4_16, g1r_4_17, g1n_5, g1n_6, g1n_7, g1n_8, g1n_9, g1n_10, g1n_11, g1n_12, g1n_13, g1r_14_2, g1r_14_3, g1r_14_4, g1r_14_5, g1r_14_6, g1n_15, g1n_16, g1n_17, g1n_18, g1n_19, g1r_20_7, g1r_20_8, g1n_21, g1r_22_2, g1n_23, g1r_24_0, g1r_24_1, g1r_24_2, g1r_25_9, g1r_25_10, g1r_25_11, g1r_25_12, g1r_25_13, g1r_25_14, g1r_25_15, g1r_25_16, g1r_25_17, g1n_26, g1n_27, g1n_28, g1n_29, g1n_30, g1n_31, g1n_32, g1n_33, g1n_34, g1r_35_2, g1r_35_3, g1r_35_4, g1r_35_5, g1r_35_6, g1n_36, g1n_37, g1n_38, g1n_39, g1n_40, g1r_41_7, g1r_41_8, g1n_42, g1r_43_2, g1n_44, g1r_45_0, g1r_45_1, g1r_45_2, g1r_46_9, g1r_46_10, g1r_46_11, g1r_46_12, g1r_46_13, g1r_46_14, g1r_46_15, g1r_46_16, g1r_46_17, g1n_47, g1n_48, g1n_49, g1n_50, g1n_51, g1n_52, g1n_53, g1n_54, g1n_55, g1r_56_2, g1r_56_3, g1r_56_4, g1r_56_5, g1r_56_6, g1n_57, g1n_58, g1n_59, g1n_60, g1n_61, g1r_62_7, g1r_62_8, g1n_63, g1r_64_2, g1n_65, g1r_66_2, g1n_67, g1r_68_7, g1r_68_8, g1n_69, g1r_70_2, g1n_71, g1r_72_7, g1r_72_8, g1n_73, g1r_74_2, g1n_75, g1r_76_7, g1r_76_8, g1n_77, g1r_78_2, g1n_79, g1r_80_7, g1r_80_8, g1n_81, g1r_82_2, g1n_83, g1r_84_7, g1r_84_8, g1n_85, g1r_86_2, g1n_87, g1r_88_7, g1r_88_8, g1n_89, g1r_90_2, g1n_91, g1r_92_7, g1r_92_8, g1n_93, g1r_94_2, g1n_95, g1r_96_7, g1r_96_8, g1n_97, g1r_98_2, g1n_99, g1r_100_7, g1r_100_8, g1n_101, g1r_102_2, g1n_103, g1r_104_7, g1r_104_8, g1n_105, g1r_106_2, g1n_107, g1r_108_7, g1r_108_8, g1n_109, g1r_110_2, g1n_111, g1r_112_7, g1r_112_8, g1n_113, g1r_114_2, g1n_115, g1r_116_7, g1r_116_8, g1n_117, g1r_118_2, g1n_119, g1r_120_0, g1r_120_1, g1r_120_2, g1r_121_7, g1r_121_8, g1n_122, g1r_123_2, g1n_124, g1n_125, g1n_126, g1r_127_0, g1r_127_1, g1r_127_2, g1r_127_3, g1r_128_7, g1r_128_8, g1n_129, g1r_130_2, g1n_131, g1n_132, g1n_133, g1n_134, g1r_135_7, g1n_136, g1n_150]
  refine lp_forR (fun k b => ∃ τ, b = (nI k, τ) ∧ MR False z (z + 116) τ (gbW (va_up (σ2.2.1 (y + 1)) 16 s) k).1 ∧ E1 z σ1 τ) _ n (by omega) ?_ ?_ ⟨_, rfl, m0, a3.pd (by omega)⟩
  · rintro k hk _ ⟨τ, rfl, hmr, he⟩
    left
    obtain ⟨υ, b1, b2, b3⟩ := c_night (N := N) hN (by omega) ma_116 hmr
    refine ⟨(nI (k + 1), υ), ⟨υ, rfl, by rw [gb_1]; exact b2, he.t (b3.d (by omega))⟩, fun p => ?_⟩
    dsimp only
    rw [if_neg (nI_ge hk (by omega)), b1, b_some, nI_1]
  · rintro _ ⟨τ, rfl, hmr, he⟩
    refine ⟨τ, ⟨hmr, he⟩, fun p => ?_⟩
    dsimp only
    rw [if_pos lit_end]
theorem gd_trial {N z y : Nat} (hN : 20000 < N) : Gd_trial N (G1 z) (G2 y) z y (z + 150) (Sim z y) := by
  intro σ1 σ2 h c1 c2 hz
  unfold fL_trial
  apply gd_w
  unfold fX11_trial fX12_trial
  simp only [r_inn, b_some]
  by_cases g0 : c1 < 0
  · rw [if_pos g0, if_pos g0]
    exact gdw_ex (k := 1) (fun τ => if_pos rfl) (by decide) rfl rfl pf0 h.th
  by_cases g1 : 60 < c1
  · rw [if_neg g0, if_pos g1, if_neg g0, if_pos g1]
    exact gdw_ex (k := 1) (fun τ => if_pos rfl) (by decide) rfl rfl pf0 h.th
  rw [if_neg g0, if_neg g1, if_neg g0, if_neg g1, if_neg (by decide)]
  obtain ⟨n, hn, rfl⟩ := nI_rng (m := 60) (by omega) g0 g1
  unfold fX11_trial_b16 fX12_trial_b21
  rw [c_need1, b_some, e_inl, r_t0, b_some, if_pos rfl]
  simp only [g1r_0_0, g1r_0_1, g1r_0_2, g1r_0_3, g1r_0_4, g1r_0_5, g1r_0_6, g1r_0_7, g1r_0_8, g1r_1_5, g1n_2, g1r_3_0, g1r_3_1, g1r_3_2, g1r_4_9, g1r_4_10, g1r_4_11, g1r_4_12, g1r_4_13, g1r_4_14, g1r_4_15, g1r_4_16, g1r_4_17, g1n_5, g1n_6, g1n_7, g1n_8, g1n_9, g1n_10, g1n_11, g1n_12, g1n_13, g1r_14_2, g1r_14_3, g1r_14_4, g1r_14_5, g1r_14_6, g1n_15, g1n_16, g1n_17, g1n_18, g1n_19, g1r_20_7, g1r_20_8, g1n_21, g1r_22_2, g1n_23, g1r_24_0, g1r_24_1, g1r_24_2, g1r_25_9, g1r_25_10, g1r_25_11, g1r_25_12, g1r_25_13, g1r_25_14, g1r_25_15, g1r_25_16, g1r_25_17, g1n_26, g1n_27, g1n_28, g1n_29, g1n_30, g1n_31, g1n_32, g1n_33, g1n_34, g1r_35_2, g1r_35_3, g1r_35_4, g1r_35_5, g1r_35_6, g1n_36, g1n_37, g1n_38, g1n_39, g1n_40, g1r_41_7, g1r_41_8, g1n_42, g1r_43_2, g1n_44, g1r_45_0, g1r_45_1, g1r_45_2, g1r_46_9, g1r_46_10, g1r_46_11, g1r_46_12, g1r_46_13, g1r_46_14, g1r_46_15, g1r_46_16, g1r_46_17, g1n_47, g1n_48, g1n_49, g1n_50, g1n_51, g1n_52, g1n_53, g1n_54, g1n_55, g1r_56_2, g1r_56_3, g1r_56_4, g1r_56_5, g1r_56_6, g1n_57, g1n_58, g1n_59, g1n_60, g1n_61, g1r_62_7, g1r_62_8, g1n_63, g1r_64_2, g1n_65, g1r_66_2, g1n_67, g1r_68_7, g1r_68_8, g1n_69, g1r_70_2, g1n_71, g1r_72_7, g1r_72_8, g1n_73, g1r_74_2, g1n_75, g1r_76_7, g1r_76_8, g1n_77, g1r_78_2, g1n_79, g1r_80_7, g1r_80_8, g1n_81, g1r_82_2, g1n_83, g1r_84_7, g1r_84_8, g1n_85, g1r_86_2, g1n_87, g1r_88_7, g1r_88_8, g1n_89, g1r_90_2, g1n_91, g1r_92_7, g1r_92_8, g1n_93, g1r_94_2, g1n_95, g1r_96_7, g1r_96_8, g1n_97, g1r_98_2, g1n_99, g1r_100_7, g1r_100_8, g1n_101, g1r_102_2, g1n_103, g1r_104_7, g1r_104_8, g1n_105, g1r_106_2, g1n_107, g1r_108_7, g1r_108_8, g1n_109, g1r_110_2, g1n_111, g1r_112_7, g1r_112_8, g1n_113, g1r_114_2, g1n_115, g1r_116_7, g1r_116_8, g1n_117, g1r_118_2, g1n_119, g1r_120_0, g1r_120_1, g1r_120_2, g1r_121_7, g1r_121_8, g1n_122, g1r_123_2, g1n_124, g1n_125, g1n_126, g1r_127_0, g1r_127_1, g1r_127_2, g1r_127_3, g1r_128_7, g1r_128_8, g1n_129, g1r_130_2, g1n_131, g1n_132, g1n_133, g1n_134, g1r_135_7, g1n_136, g1n_150]
  obtain ⟨τ1, a1, a2, a3⟩ := c_try (N := N) (s := σ1.1 (z + 20) 5) hN hn h
  rw [h.mind.2.2.2.2.2.1] at a1 a2
  rw [up_same rfl] at a2
  obtain ⟨κ, k1, k2, k3, k4, k5⟩ := r_keep (N := N) (y := y) (σ := putF σ2 y 0 0) hN
  have k2' : κ.2.1 (y + 1) = σ2.2.1 (y + 1) := k2
  obtain ⟨υ2, c1, c2', c3⟩ := r_goesBy (N := N) (y := y) (σ := κ) (n := n) hN hn (by rw [k2']; exact h.wi) (by rw [k2']; exact h.hl)
  rw [k2'] at c2'
  have S := Sv.gb h.wi h.hl n
  rw [h.mind.2.2.2.2.2.1, a1, b_some, k1, b_some, c1, b_some]
  simp only [g2r_0_1, g2r_0_2, g2r_0_3, g2r_0_4, g2r_0_5, g2r_0_8, g2r_0_15, g2r_0_17, g2r_0_25, g2r_0_26, g2r_0_27, g2r_0_28, g2n_1, g2n_2, g2n_3, g2n_4, g2n_5, g2n_6, g2n_7, g2n_8, g2n_9, g2n_10, g2n_11, g2n_12]
  unfold fX12_trial_b61
  have hb := k3 υ2 c3 (by rw [c2']; exact S.2.2)
  have e2 := k4 _ c3.w (row_s (σ := υ2) (a := y + 1) (f := (putF σ2 y 0 0).2.1 (y + 1)))
  have e0 := (k5 _ (c3.w (f := (putF σ2 y 0 0).2.1 (y + 1)))).trans pf0
  rw [hb, b_some]
  by_cases q : c2 = 0
  · rw [if_pos q, if_pos q]
    refine gdw_ok rfl ?_ e0 (h.keep a3 (E2.t0.t e2))
    show some (υ2.2.1 (y + 1) 7, _) = _
    rw [c2', a2.2.2.2.1.1]
  · rw [if_neg q, if_neg q, a2.2.2.2.1.2.2.2.2.2.2.1]
    rcases S.1.a01 with g | g
    · rw [if_pos g]
      refine gdw_ok rfl ?_ e0 (h.keep a3 (E2.t0.t e2))
      show some (υ2.2.1 (y + 1) 13, _) = _
      rw [c2', g]
    · rw [if_neg (show ¬ (gbW (σ2.2.1 (y + 1)) n).1 13 = 0 from by rw [g]; decide)]
      refine gdw_ok rfl ?_ e0 (h.keep a3 (E2.t0.t e2))
      show some (υ2.2.1 (y + 1) 13, _) = _
      rw [c2', g]
def spS (w : Nat → Int32) (n : Nat) : Nat → Int32 := itN (fun k x => x + (gbW (va_up w 16 (nI (k + 1))) n).1 13) 0
theorem spS_s {w : Nat → Int32} {n k : Nat} : spS w n (k + 1) = spS w n k + (gbW (va_up w 16 (nI (k + 1))) n).1 13 := rfl
theorem gd_span {N z y : Nat} (hN : 20000 < N) : Gd_span N (G1 z) (G2 y) z y (z + 150) (Sim z y) := by
  intro σ1 σ2 h c1
  unfold fL_span
  apply gd_w
  unfold fX11_span fX12_span
  simp only [r_inn, b_some]
  by_cases g0 : c1 < 0
  · rw [if_pos g0, if_pos g0]
    exact gdw_ex (k := 1) (fun τ => if_pos rfl) (by decide) rfl rfl pf0 h.th
  by_cases g1 : 60 < c1
  · rw [if_neg g0, if_pos g1, if_neg g0, if_pos g1]
    exact gdw_ex (k := 1) (fun τ => if_pos rfl) (by decide) rfl rfl pf0 h.th
  rw [if_neg g0, if_neg g1, if_neg g0, if_neg g1, if_neg (by decide)]
  obtain ⟨n, hn, rfl⟩ := nI_rng (m := 60) (by omega) g0 g1
  unfold fX11_span_b16 fX12_span_b21
  rw [c_need1, b_some, e_inl, r_t0, b_some, if_pos rfl]
  obtain ⟨κ, k1, k2, k3, k4, k5⟩ := r_keep (N := N) (y := y) (σ := putF σ2 y 0 0) hN
  have k2' : κ.2.1 (y + 1) = σ2.2.1 (y + 1) := k2
  rw [k1, b_some]
  have W : ∀ s, WInv (va_up (σ2.2.1 (y + 1)) 16 s) ∧ HasLaw (va_up (σ2.2.1 (y + 1)) 16 s) := fun s => ⟨h.wi.act (em_up rfl) (MInv_c h.wi.m (fun k hk => up_ne hk)), h.hl.s (em_up rfl)⟩
  have S := fun s => Sv.gb (W s).1 (W s).2 n
  have A : ∃ r, (∃ υ, E1 z σ1 υ ∧ r = .inl (spS (σ2.2.1 (y + 1)) n 6, υ)) ∧ fX11_span_b23 N (G1 z) z (nI n) (0, 1, σ1) = some r := by
    unfold fX11_span_b23
    simp only [g1r_0_0, g1r_0_1, g1r_0_2, g1r_0_3, g1r_0_4, g1r_0_5, g1r_0_6, g1r_0_7, g1r_0_8, g1r_1_5, g1n_2, g1r_3_0, g1r_3_1, g1r_3_2, g1r_4_9, g1r_4_10, g1r_4_11, g1r_4_12, g1r_4_13, g1r_4_14, g1r_4_15, g1r_4_16, g1r_4_17, g1n_5, g1n_6, g1n_7, g1n_8, g1n_9, g1n_10, g1n_11, g1n_12, g1n_13, g1r_14_2, g1r_14_3, g1r_14_4, g1r_14_5, g1r_14_6, g1n_15, g1n_16, g1n_17, g1n_18, g1n_19, g1r_20_7, g1r_20_8, g1n_21, g1r_22_2, g1n_23, g1r_24_0, g1r_24_1, g1r_24_2, g1r_25_9, g1r_25_10, g1r_25_11, g1r_25_12, g1r_25_13, g1r_25_14, g1r_25_15, g1r_25_16, g1r_25_17, g1n_26, g1n_27, g1n_28, g1n_29, g1n_30, g1n_31, g1n_32, g1n_33, g1n_34, g1r_35_2, g1r_35_3, g1r_35_4, g1r_35_5, g1r_35_6, g1n_36, g1n_37, g1n_38, g1n_39, g1n_40, g1r_41_7, g1r_41_8, g1n_42, g1r_43_2, g1n_44, g1r_45_0, g1r_45_1, g1r_45_2, g1r_46_9, g1r_46_10, g1r_46_11, g1r_46_12, g1r_46_13, g1r_46_14, g1r_46_15, g1r_46_16, g1r_46_17, g1n_47, g1n_48, g1n_49, g1n_50, g1n_51, g1n_52, g1n_53, g1n_54, g1n_55, g1r_56_2, g1r_56_3, g1r_56_4, g1r_56_5, g1r_56_6, g1n_57, g1n_58, g1n_59, g1n_60, g1n_61, g1r_62_7, g1r_62_8, g1n_63, g1r_64_2, g1n_65, g1r_66_2, g1n_67, g1r_68_7, g1r_68_8, g1n_69, g1r_70_2, g1n_71, g1r_72_7, g1r_72_8, g1n_73, g1r_74_2, g1n_75, g1r_76_7, g1r_76_8, g1n_77, g1r_78_2, g1n_79, g1r_80_7, g1r_80_8, g1n_81, g1r_82_2, g1n_83, g1r_84_7, g1r_84_8, g1n_85, g1r_86_2, g1n_87, g1r_88_7, g1r_88_8, g1n_89, g1r_90_2, g1n_91, g1r_92_7, g1r_92_8, g1n_93, g1r_94_2, g1n_95, g1r_96_7, g1r_96_8, g1n_97, g1r_98_2, g1n_99, g1r_100_7, g1r_100_8, g1n_101, g1r_102_2, g1n_103, g1r_104_7, g1r_104_8, g1n_105, g1r_106_2, g1n_107, g1r_108_7, g1r_108_8, g1n_109, g1r_110_2, g1n_111, g1r_112_7, g1r_112_8, g1n_113, g1r_114_2, g1n_115, g1r_116_7, g1r_116_8, g1n_117, g1r_118_2, g1n_119, g1r_120_0, g1r_120_1, g1r_120_2, g1r_121_7, g1r_121_8, g1n_122, g1r_123_2, g1n_124, g1n_125, g1n_126, g1r_127_0, g1r_127_1, g1r_127_2, g1r_127_3, g1r_128_7, g1r_128_8, g1n_129, g1r_130_2, g1n_131, g1n_132, g1n_133, g1n_134, g1r_135_7, g1n_136, g1n_150]
    refine lp_forR (fun k b => ∃ τ, b = (spS (σ2.2.1 (y + 1)) n k, nI (k + 1), τ) ∧ E1 z σ1 τ) _ 6 (by omega) ?_ ?_ ⟨σ1, rfl, EE.r⟩
    · rintro k hk _ ⟨τ, rfl, he⟩
      left
      obtain ⟨υ, b1, b2, b3⟩ := c_try (N := N) (s := nI (k + 1)) hN hn (h.keep he E2.r)
      have e6 : υ.1 (z + 116) 6 = (gbW (va_up (σ2.2.1 (y + 1)) 16 (nI (k + 1))) n).1 13 := b2.2.2.2.1.2.2.2.2.2.2.1
      refine ⟨(spS (σ2.2.1 (y + 1)) n (k + 1), nI (k + 1 + 1), υ), ⟨υ, rfl, he.t b3⟩, fun p => ?_⟩
      dsimp only
      rw [if_neg (show ¬ (6 : Int32) < nI (k + 1) from nI_nlt (a := 6) (by omega) (by omega)), b1, b_some, e6, spS_s, nI_1]
      rcases (S (nI (k + 1))).1.a01 with g | g
      · rw [if_pos g, g]
      · rw [if_neg (show ¬ (gbW (va_up (σ2.2.1 (y + 1)) 16 (nI (k + 1))) n).1 13 = 0 from by rw [g]; decide), g]
    · rintro _ ⟨τ, rfl, he⟩
      refine ⟨_, ⟨τ, he, rfl⟩, fun p => ?_⟩
      dsimp only
      rw [if_pos (show (6 : Int32) < nI (6 + 1) from nI_lt (a := 6) (b := 7) (by omega) (by omega))]
  have B : ∃ r, (∃ υ, SS y κ υ ∧ υ.2.1 (y + 1) = σ2.2.1 (y + 1) ∧ r = (spS (σ2.2.1 (y + 1)) n 6, υ)) ∧ fX12_span_b38 N (G2 y) y (nI n) (0, 1, κ) = some r := by
    unfold fX12_span_b38
    simp only [g2r_0_1, g2r_0_2, g2r_0_3, g2r_0_4, g2r_0_5, g2r_0_8, g2r_0_15, g2r_0_17, g2r_0_25, g2r_0_26, g2r_0_27, g2r_0_28, g2n_1, g2n_2, g2n_3, g2n_4, g2n_5, g2n_6, g2n_7, g2n_8, g2n_9, g2n_10, g2n_11, g2n_12]
    refine lp_forR (fun k b => ∃ τ, b = (spS (σ2.2.1 (y + 1)) n k, nI (k + 1), τ) ∧ SS y κ τ ∧ τ.2.1 (y + 1) = σ2.2.1 (y + 1)) _ 6 (by omega) ?_ ?_ ⟨κ, rfl, SS.r, k2'⟩
    · rintro k hk _ ⟨τ, rfl, he, hmr⟩
      left
      have ws : (sA τ (y + 1) 16 (nI (k + 1))).2.1 (y + 1) = va_up (σ2.2.1 (y + 1)) 16 (nI (k + 1)) := by rw [sA_w (n := 16) rfl, hmr]
      obtain ⟨υ, b1, b2, b3⟩ := r_goesBy (N := N) (y := y) (σ := sA τ (y + 1) 16 (nI (k + 1))) (n := n) hN hn (by rw [ws]; exact (W _).1) (by rw [ws]; exact (W _).2)
      rw [ws] at b2
      have sv := S (nI (k + 1))
      have su : SS y κ υ := (he.a).t b3
      have hb := k3 υ su (by
        intro j hj
        rw [b2, sv.2.2 j hj]
        exact em_up rfl j hj)
      refine ⟨(spS (σ2.2.1 (y + 1)) n (k + 1), nI (k + 1 + 1), rowA υ (y + 1) ((putF σ2 y 0 0).2.1 (y + 1))), ⟨_, rfl, su.w, row_s⟩, fun p => ?_⟩
      dsimp only
      rw [if_neg (show ¬ (6 : Int32) < nI (k + 1) from nI_nlt (a := 6) (by omega) (by omega)), show inB 16 2081 = true from by decide, ck_t, b1, b_some, show inB 13 2081 = true from by decide, ck_t, hb, b_some, spS_s, nI_1, ← b2]
      rfl
    · rintro _ ⟨τ, rfl, he, hmr⟩
      refine ⟨_, ⟨τ, he, hmr, rfl⟩, fun p => ?_⟩
      dsimp only
      rw [if_pos (show (6 : Int32) < nI (6 + 1) from nI_lt (a := 6) (b := 7) (by omega) (by omega))]
  obtain ⟨_, ⟨υ1, e1, rfl⟩, h1⟩ := A
  obtain ⟨_, ⟨υ2, e2, e3, rfl⟩, h2⟩ := B
  rw [h1, h2]
  exact gdw_ok rfl rfl ((k5 _ e2).trans pf0) (h.keep e1 (E2.t0.t (k4 _ e2 e3)))
