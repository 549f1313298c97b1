/-! log, began, led, loudest -/
theorem gA15 {σ : pS} {a : Nat} : gA σ a 15 = σ.2.1 a 15 := rfl
theorem gA8 {σ : pS} {a : Nat} : gA σ a 8 = σ.2.1 a 8 := rfl
theorem c_part1 {N z i : Nat} {σ : pS} {w : Nat → Int32} (hw : WInv w) (h : LogR (σ.1 (z + 22)) (σ.2.1 (z + 23)) w) (hi : i < cN w 15) : fX2_part N (G1 z) (z + 22) (nI i) 1 σ = some (w (84 + 5 * i)) := by
  rw [show 84 + 5 * i = 83 + 5 * i + 1 by omega]
  exact c_part (j := 1) hw h hi (by decide)
theorem r_ofLog1 {N y i : Nat} {σ : pS} (hi : i < 60) : fX12_ofLog N (G2 y) y (nI i) 1 σ = some (σ.2.1 (y + 1) (84 + 5 * i)) := by
  rw [show 84 + 5 * i = 83 + 5 * i + 1 by omega]
  exact r_ofLog (j := 1) hi (by decide)
theorem c_part2 {N z i : Nat} {σ : pS} {w : Nat → Int32} (hw : WInv w) (h : LogR (σ.1 (z + 22)) (σ.2.1 (z + 23)) w) (hi : i < cN w 15) : fX2_part N (G1 z) (z + 22) (nI i) 2 σ = some (w (85 + 5 * i)) := by
  rw [show 85 + 5 * i = 83 + 5 * i + 2 by omega]
  exact c_part (j := 2) hw h hi (by decide)
theorem r_ofLog2 {N y i : Nat} {σ : pS} (hi : i < 60) : fX12_ofLog N (G2 y) y (nI i) 2 σ = some (σ.2.1 (y + 1) (85 + 5 * i)) := by
  rw [show 85 + 5 * i = 83 + 5 * i + 2 by omega]
  exact r_ofLog (j := 2) hi (by decide)
theorem c_part3 {N z i : Nat} {σ : pS} {w : Nat → Int32} (hw : WInv w) (h : LogR (σ.1 (z + 22)) (σ.2.1 (z + 23)) w) (hi : i < cN w 15) : fX2_part N (G1 z) (z + 22) (nI i) 3 σ = some (w (86 + 5 * i)) := by
  rw [show 86 + 5 * i = 83 + 5 * i + 3 by omega]
  exact c_part (j := 3) hw h hi (by decide)
theorem r_ofLog3 {N y i : Nat} {σ : pS} (hi : i < 60) : fX12_ofLog N (G2 y) y (nI i) 3 σ = some (σ.2.1 (y + 1) (86 + 5 * i)) := by
  rw [show 86 + 5 * i = 83 + 5 * i + 3 by omega]
  exact r_ofLog (j := 3) hi (by decide)
theorem gd_log {N z y : Nat} : Gd_log N (G1 z) (G2 y) z y (z + 150) (Sim z y) := by
  intro σ1 σ2 h c1 c2
  unfold fL_log
  apply gd_w
  have wi := h.wi
  have c15 := wi.c15
  unfold fX11_log fX12_log
  rw [r_inn, b_some]
  by_cases g0 : c2 < 0
  · rw [if_pos g0, if_pos g0]
    exact gdw_ex (k := 1) (fun τ => if_pos rfl) (by decide) rfl rfl pf0 h.th
  by_cases g1 : 4 < c2
  · rw [if_neg g0, if_neg g0, if_pos g1, if_neg (i_nle.mpr g1)]
    exact gdw_ex (k := 1) (fun τ => if_pos rfl) (by decide) rfl rfl pf0 h.th
  · rw [if_neg g0, if_neg g0, if_neg g1, if_pos (i_nlt.mp g1), if_neg (by decide)]
    obtain ⟨j, hj, rfl⟩ := nI_of2 (M := 4) (n := 4) rfl g0 (i_nlt.mp g1)
    unfold fX12_log_b20
    simp only [g1r_0_0, g1r_0_1, g1r_0_2, g1r_0_3, g1r_0_4, g1r_0_5, g1r_0_6, g1r_0_7, g1r_0_8, g1r_1_5, g1n_2, g1r_3_0, g1r_3_1, g1r_3_2, g1r_4_9, g1r_4_10, g1r_4_11, g1r_4_12, g1r_4_13, g1r_4_14, g1r_4_15, g1r_4_16, g1r_4_17, g1n_5, g1n_6, g1n_7, g1n_8, g1n_9, g1n_10, g1n_11, g1n_12, g1n_13, g1r_14_2, g1r_14_3, g1r_14_4, g1r_14_5, g1r_14_6, g1n_15, g1n_16, g1n_17, g1n_18, g1n_19, g1r_20_7, g1r_20_8, g1n_21, g1r_22_2, g1n_23, g1r_24_0, g1r_24_1, g1r_24_2, g1r_25_9, g1r_25_10, g1r_25_11, g1r_25_12, g1r_25_13, g1r_25_14, g1r_25_15, g1r_25_16, g1r_25_17, g1n_26, g1n_27, g1n_28, g1n_29, g1n_30, g1n_31, g1n_32, g1n_33, g1n_34, g1r_35_2, g1r_35_3, g1r_35_4, g1r_35_5, g1r_35_6, g1n_36, g1n_37, g1n_38, g1n_39, g1n_40, g1r_41_7, g1r_41_8, g1n_42, g1r_43_2, g1n_44, g1r_45_0, g1r_45_1, g1r_45_2, g1r_46_9, g1r_46_10, g1r_46_11, g1r_46_12, g1r_46_13, g1r_46_14, g1r_46_15, g1r_46_16, g1r_46_17, g1n_47, g1n_48, g1n_49, g1n_50, g1n_51, g1n_52, g1n_53, g1n_54, g1n_55, g1r_56_2, g1r_56_3, g1r_56_4, g1r_56_5, g1r_56_6, g1n_57, g1n_58, g1n_59, g1n_60, g1n_61, g1r_62_7, g1r_62_8, g1n_63, g1r_64_2, g1n_65, g1r_66_2, g1n_67, g1r_68_7, g1r_68_8, g1n_69, g1r_70_2, g1n_71, g1r_72_7, g1r_72_8, g1n_73, g1r_74_2, g1n_75, g1r_76_7, g1r_76_8, g1n_77, g1r_78_2, g1n_79, g1r_80_7, g1r_80_8, g1n_81, g1r_82_2, g1n_83, g1r_84_7, g1r_84_8, g1n_85, g1r_86_2, g1n_87, g1r_88_7, g1r_88_8, g1n_89, g1r_90_2, g1n_91, g1r_92_7, g1r_92_8, g1n_93, g1r_94_2, g1n_95, g1r_96_7, g1r_96_8, g1n_97, g1r_98_2, g1n_99, g1r_100_7, g1r_100_8, g1n_101, g1r_102_2, g1n_103, g1r_104_7, g1r_104_8, g1n_105, g1r_106_2, g1n_107, g1r_108_7, g1r_108_8, g1n_109, g1r_110_2, g1n_111, g1r_112_7, g1r_112_8, g1n_113, g1r_114_2, g1n_115, g1r_116_7, g1r_116_8, g1n_117, g1r_118_2, g1n_119, g1r_120_0, g1r_120_1, g1r_120_2, g1r_121_7, g1r_121_8, g1n_122, g1r_123_2, g1n_124, g1n_125, g1n_126, g1r_127_0, g1r_127_1, g1r_127_2, g1r_127_3, g1r_128_7, g1r_128_8, g1n_129, g1r_130_2, g1n_131, g1n_132, g1n_133, g1n_134, g1r_135_7, g1n_136, g1n_150, g2r_0_1, g2r_0_2, g2r_0_3, g2r_0_4, g2r_0_5, g2r_0_8, g2r_0_15, g2r_0_17, g2r_0_25, g2r_0_26, g2r_0_27, g2r_0_28, g2n_1, g2n_2, g2n_3, g2n_4, g2n_5, g2n_6, g2n_7, g2n_8, g2n_9, g2n_10, g2n_11, g2n_12]
    rw [r_t0, b_some, if_pos rfl, r_inn, b_some, gA15, pfA]
    by_cases h0 : c1 < 0
    · refine gdw_ok (v := -1) (τ1 := σ1) (τ2 := putF σ2 y 0 0) ?_ ?_ pf0 h.t0
      · unfold fX2_part
        rw [if_pos h0]
        rfl
      · rw [if_pos h0]
        rfl
    by_cases h1 : c1 < σ2.2.1 (y + 1) 15
    · obtain ⟨i, hi, _, rfl⟩ := nI_lt_of h0 h1
      refine gdw_ok (v := σ2.2.1 (y + 1) (83 + 5 * i + j)) (τ1 := σ1) (τ2 := putF σ2 y 0 0) ?_ ?_ pf0 h.t0
      · rw [c_part wi h.log hi (by omega)]
        rfl
      · have hi' : i < cN (σ2.2.1 (y + 1)) 15 := hi
        rw [if_neg h0, if_neg (fun q => (lt_m1 c15.1).mp q h1), if_neg (by decide), r_ofLog (by omega) (by omega)]
        rfl
    · refine gdw_ok (v := -1) (τ1 := σ1) (τ2 := putF σ2 y 0 0) ?_ ?_ pf0 h.t0
      · unfold fX2_part
        rw [if_neg h0, h.log.1, if_neg h1]
        rfl
      · rw [if_neg h0, if_pos ((lt_m1 c15.1).mpr h1)]
        rfl
/-- how many of the newest lie above -/
def bgS (w : Nat → Int32) : Nat → Nat → Nat
  | 0, _ => 0
  | n + 1, i => if w (86 + 5 * i) ≤ w 8 / 2 then 0 else 1 + bgS w n (i + 1)
theorem bg_le {w : Nat → Int32} : ∀ n i, bgS w n i ≤ n := by
  intro n
  induction n with
  | zero => intro i; exact Nat.le_refl _
  | succ n ih =>
    intro i
    have := ih (i + 1)
    unfold bgS
    split
    · omega
    · omega
theorem bg_in {w : Nat → Int32} : ∀ n i k, k < bgS w n i → ¬ w (86 + 5 * (i + k)) ≤ w 8 / 2 := by
  intro n
  induction n with
  | zero =>
    intro i k hk
    have e : bgS w 0 i = 0 := rfl
    rw [e] at hk
    omega
  | succ n ih =>
    intro i k hk
    unfold bgS at hk
    by_cases q : w (86 + 5 * i) ≤ w 8 / 2
    · rw [if_pos q] at hk
      omega
    · rw [if_neg q] at hk
      cases k with
      | zero => exact q
      | succ k =>
        have := ih (i + 1) k (by omega)
        rw [show i + 1 + k = i + (k + 1) by omega] at this
        exact this
theorem bg_out {w : Nat → Int32} : ∀ n i, bgS w n i < n → w (86 + 5 * (i + bgS w n i)) ≤ w 8 / 2 := by
  intro n
  induction n with
  | zero => intro i h; omega
  | succ n ih =>
    intro i h
    unfold bgS at h ⊢
    by_cases q : w (86 + 5 * i) ≤ w 8 / 2
    · rw [if_pos q]
      exact q
    · rw [if_neg q] at h ⊢
      have := ih (i + 1) (by omega)
      rw [show i + 1 + bgS w n (i + 1) = i + (1 + bgS w n (i + 1)) by omega] at this
      exact this
theorem gd_began {N z y : Nat} (hN : 20000 < N) : Gd_began N (G1 z) (G2 y) z y (z + 150) (Sim z y) := by
  intro σ1 σ2 h
  have wi := h.wi
  have c15 := wi.c15
  have bl := bg_le (w := σ2.2.1 (y + 1)) (cN (σ2.2.1 (y + 1)) 15) 0
  have bi := bg_in (w := σ2.2.1 (y + 1)) (cN (σ2.2.1 (y + 1)) 15) 0
  have bo := bg_out (w := σ2.2.1 (y + 1)) (cN (σ2.2.1 (y + 1)) 15) 0
  refine ⟨nI (bgS (σ2.2.1 (y + 1)) (cN (σ2.2.1 (y + 1)) 15) 0) + (-1), putF σ2 y 0 0, ?_, ?_, h.t0⟩
  · unfold fX11_began fX2_streakAbove fX2_streakAbove_b4
    simp only [g1r_0_0, g1r_0_1, g1r_0_2, g1r_0_3, g1r_0_4, g1r_0_5, g1r_0_6, g1r_0_7, g1r_0_8, g1r_1_5, g1n_2, g1r_3_0, g1r_3_1, g1r_3_2, g1r_4_9, g1r_4_10, g1r_4_11, g1r_4_12, g1r_4_13, g1r_4_14, g1r_4_15, g1r_4_16, g1r_4_17, g1n_5, g1n_6, g1n_7, g1n_8, g1n_9, g1n_10, g1n_11, g1n_12, g1n_13, g1r_14_2, g1r_14_3, g1r_14_4, g1r_14_5, g1r_14_6, g1n_15, g1n_16, g1n_17, g1n_18, g1n_19, g1r_20_7, g1r_20_8, g1n_21, g1r_22_2, g1n_23, g1r_24_0, g1r_24_1, g1r_24_2, g1r_25_9, g1r_25_10, g1r_25_11, g1r_25_12, g1r_25_13, g1r_25_14, g1r_25_15, g1r_25_16, g1r_25_17, g1n_26, g1n_27, g1n_28, g1n_29, g1n_30, g1n_31, g1n_32, g1n_33, g1n_34, g1r_35_2, g1r_35_3, g1r_35_4, g1r_35_5, g1r_35_6, g1n_36, g1n_37, g1n_38, g1n_39, g1n_40, g1r_41_7, g1r_41_8, g1n_42, g1r_43_2, g1n_44, g1r_45_0, g1r_45_1, g1r_45_2, g1r_46_9, g1r_46_10, g1r_46_11, g1r_46_12, g1r_46_13, g1r_46_14, g1r_46_15, g1r_46_16, g1r_46_17, g1n_47, g1n_48, g1n_49, g1n_50, g1n_51, g1n_52, g1n_53, g1n_54, g1n_55, g1r_56_2, g1r_56_3, g1r_56_4, g1r_56_5, g1r_56_6, g1n_57, g1n_58, g1n_59, g1n_60, g1n_61, g1r_62_7, g1r_62_8, g1n_63, g1r_64_2, g1n_65, g1r_66_2, g1n_67, g1r_68_7, g1r_68_8, g1n_69, g1r_70_2, g1n_71, g1r_72_7, g1r_72_8, g1n_73, g1r_74_2, g1n_75, g1r_76_7, g1r_76_8, g1n_77, g1r_78_2, g1n_79, g1r_80_7, g1r_80_8, g1n_81, g1r_82_2, g1n_83, g1r_84_7, g1r_84_8, g1n_85, g1r_86_2, g1n_87, g1r_88_7, g1r_88_8, g1n_89, g1r_90_2, g1n_91, g1r_92_7, g1r_92_8, g1n_93, g1r_94_2, g1n_95, g1r_96_7, g1r_96_8, g1n_97, g1r_98_2, g1n_99, g1r_100_7, g1r_100_8, g1n_101, g1r_102_2, g1n_103, g1r_104_7, g1r_104_8, g1n_105, g1r_106_2, g1n_107, g1r_108_7, g1r_108_8, g1n_109, g1r_110_2, g1n_111, g1r_112_7, g1r_112_8, g1n_113, g1r_114_2, g1n_115, g1r_116_7, g1r_116_8, g1n_117, g1r_118_2, g1n_119, g1r_120_0, g1r_120_1, g1r_120_2, g1r_121_7, g1r_121_8, g1n_122, g1r_123_2, g1n_124, g1n_125, g1n_126, g1r_127_0, g1r_127_1, g1r_127_2, g1r_127_3, g1r_128_7, g1r_128_8, g1n_129, g1r_130_2, g1n_131, g1n_132, g1n_133, g1n_134, g1r_135_7, g1n_136, g1n_150]
    rw [show ∀ x : Option Int32, (x.bind fun q1 => some q1) = x from fun x => by cases x <;> rfl, h.tale.1.2.2.2.2.2.2.1, h.log.1]
    refine lp_for (fun k => (nI k + (-1), nI k)) (bgS (σ2.2.1 (y + 1)) (cN (σ2.2.1 (y + 1)) 15) 0) _ (by omega) ?_ ?_
    · intro k hk q
      have := bi k hk
      rw [Nat.zero_add] at this
      dsimp only
      rw [if_neg (cnt_lt c15.1 (show k < cN (σ2.2.1 (y + 1)) 15 by omega)), c_part3 wi h.log (by omega), b_some, if_neg this, nI_1, dn_s]
    · intro q
      dsimp only
      by_cases e : bgS (σ2.2.1 (y + 1)) (cN (σ2.2.1 (y + 1)) 15) 0 < cN (σ2.2.1 (y + 1)) 15
      · have := bo e
        rw [Nat.zero_add] at this
        rw [if_neg (cnt_lt c15.1 e), c_part3 wi h.log e, b_some, if_pos this]
      · have e2 : bgS (σ2.2.1 (y + 1)) (cN (σ2.2.1 (y + 1)) 15) 0 = cN (σ2.2.1 (y + 1)) 15 := by omega
        rw [e2, if_pos (cnt_eN c15.1)]
  · unfold fX12_began fX12_began_b7
    simp only [g2r_0_1, g2r_0_2, g2r_0_3, g2r_0_4, g2r_0_5, g2r_0_8, g2r_0_15, g2r_0_17, g2r_0_25, g2r_0_26, g2r_0_27, g2r_0_28, g2n_1, g2n_2, g2n_3, g2n_4, g2n_5, g2n_6, g2n_7, g2n_8, g2n_9, g2n_10, g2n_11, g2n_12]
    refine lp_for (fun k => (nI k, putF σ2 y 0 0)) (bgS (σ2.2.1 (y + 1)) (cN (σ2.2.1 (y + 1)) 15) 0) _ (by omega) ?_ ?_
    · intro k hk q
      have := bi k hk
      rw [Nat.zero_add] at this
      dsimp only
      rw [gA15, gA8, pfA, show ∀ x : Option (Int32 × pS), ck (inB 15 2081) x = x from fun _ => rfl, if_neg (cnt_lt c15.1 (show k < cN (σ2.2.1 (y + 1)) 15 by omega)), r_ofLog3 (by omega), b_some, show ∀ x : Option (Int32 × pS), ck (inB 8 2081) x = x from fun _ => rfl, pfA, if_neg this, nI_1]
    · intro q
      dsimp only
      rw [gA15, gA8, pfA, show ∀ x : Option (Int32 × pS), ck (inB 15 2081) x = x from fun _ => rfl, show nI (bgS (σ2.2.1 (y + 1)) (cN (σ2.2.1 (y + 1)) 15) 0) - 1 = nI (bgS (σ2.2.1 (y + 1)) (cN (σ2.2.1 (y + 1)) 15) 0) + (-1) from Int32.sub_eq_add_neg _ _]
      by_cases e : bgS (σ2.2.1 (y + 1)) (cN (σ2.2.1 (y + 1)) 15) 0 < cN (σ2.2.1 (y + 1)) 15
      · have := bo e
        rw [Nat.zero_add] at this
        rw [if_neg (cnt_lt c15.1 e), r_ofLog3 (by omega), b_some, show ∀ x : Option (Int32 × pS), ck (inB 8 2081) x = x from fun _ => rfl, pfA, if_pos this]
      · have e2 : bgS (σ2.2.1 (y + 1)) (cN (σ2.2.1 (y + 1)) 15) 0 = cN (σ2.2.1 (y + 1)) 15 := by omega
        rw [e2, if_pos (cnt_eN c15.1)]
/-! led -/
def ldS (w : Nat → Int32) (who word : Int32) : Nat → Int32 := itN (fun k x => x + (if w (84 + 5 * k) = who ∧ (word = -1 ∨ w (85 + 5 * k) = word) then 1 else 0)) 0
theorem ldS_s {w : Nat → Int32} {who word : Int32} {k : Nat} : ldS w who word (k + 1) = ldS w who word k + (if w (84 + 5 * k) = who ∧ (word = -1 ∨ w (85 + 5 * k) = word) then 1 else 0) := by
  unfold ldS
  rw [itN]
theorem c_rowsOf {N z : Nat} {σ : pS} {w : Nat → Int32} {c1 c2 : Int32} (hN : 20000 < N) (hw : WInv w) (h : LogR (σ.1 (z + 22)) (σ.2.1 (z + 23)) w) : fX2_rowsOf N (G1 z) (z + 22) c1 c2 σ = some (ldS w c1 c2 (cN w 15)) := by
  have c15 := hw.c15
  unfold fX2_rowsOf fX2_rowsOf_b5
  rw [h.1]
  refine lp_for (fun k => (ldS w c1 c2 k, nI k)) (cN w 15) _ (by omega) ?_ ?_
  · intro k hk q
    dsimp only
    rw [if_neg (cnt_lt c15.1 hk), c_part1 hw h hk, b_some, c_part2 hw h hk, b_some, ldS_s]
    unfold fX2_rowsOf_b41 fX2_rowsOf_b45 fX2_rowsOf_b46
    rw [if_neg (show ¬ (1 : Int32) = 0 by decide), if_pos (show (0 : Int32) = 0 from rfl), nI_1]
    by_cases a : w (84 + 5 * k) = c1
    · rw [if_pos a]
      by_cases b : c2 = -1
      · rw [if_pos b, if_pos ⟨a, Or.inl b⟩]
      · rw [if_neg b]
        by_cases c : w (85 + 5 * k) = c2
        · rw [if_pos c, if_pos ⟨a, Or.inr c⟩]
        · rw [if_neg c, if_neg (fun q => q.2.elim b c)]
    · rw [if_neg a, if_neg (fun q => a q.1)]
  · intro q
    dsimp only
    rw [if_pos (cnt_eN c15.1)]
theorem r_led {N y : Nat} {σ : pS} {c1 c2 : Int32} (hN : 20000 < N) (hw : WInv (σ.2.1 (y + 1))) : fX12_led_b46 N (G2 y) y c1 c2 (0, 0, σ) = some (ldS (σ.2.1 (y + 1)) c1 c2 (cN (σ.2.1 (y + 1)) 15), σ) := by
  have c15 := hw.c15
  unfold fX12_led_b46
  simp only [g2r_0_1, g2r_0_2, g2r_0_3, g2r_0_4, g2r_0_5, g2r_0_8, g2r_0_15, g2r_0_17, g2r_0_25, g2r_0_26, g2r_0_27, g2r_0_28, g2n_1, g2n_2, g2n_3, g2n_4, g2n_5, g2n_6, g2n_7, g2n_8, g2n_9, g2n_10, g2n_11, g2n_12]
  refine lp_for (fun k => (ldS (σ.2.1 (y + 1)) c1 c2 k, nI k, σ)) (cN (σ.2.1 (y + 1)) 15) _ (by omega) ?_ ?_
  · intro k hk q
    dsimp only
    rw [gA15, show ∀ x : Option (Int32 × pS), ck (inB 15 2081) x = x from fun _ => rfl, if_neg (cnt_lt c15.1 hk), r_ofLog1 (by omega), b_some, r_ofLog2 (by omega), b_some, ldS_s]
    unfold fX12_led_b86 fX12_led_b90
    rw [nI_1]
    by_cases a : σ.2.1 (y + 1) (84 + 5 * k) = c1
    · rw [if_pos a]
      by_cases b : c2 = -1
      · rw [if_pos b, if_pos ⟨a, Or.inl b⟩]
      · rw [if_neg b]
        by_cases c : σ.2.1 (y + 1) (85 + 5 * k) = c2
        · rw [if_pos c, if_pos ⟨a, Or.inr c⟩]
        · rw [if_neg c, if_neg (fun q => q.2.elim b c)]
    · rw [if_neg a, if_neg (fun q => a q.1)]
  · intro q
    dsimp only
    rw [gA15, if_pos (cnt_eN c15.1)]
    rfl
theorem gd_led {N z y : Nat} (hN : 20000 < N) : Gd_led N (G1 z) (G2 y) z y (z + 150) (Sim z y) := by
  intro σ1 σ2 h c1 c2
  unfold fL_led
  apply gd_w
  have wi := h.wi
  unfold fX11_led fX12_led
  rw [c_needWho h.tale.1.2.2.2.2.1, r_noWho (σ := putF σ2 y 0 0) wi.2.1.1, pfA, r_noWord (σ := putF σ2 y 0 0) wi.2.2.1.1, pfA]
  have ok : GDw z y (fun e => if e.1 = "java/lang/IndexOutOfBoundsException" then (some ((1 : Int32), e.2)) else (none)) (fX11_led_b15 N (G1 z) z c1 c2 σ1) (fX12_led_b31 N (G2 y) y c1 c2 (putF σ2 y 0 0)) := by
    unfold fX11_led_b15 fX12_led_b31 fX12_led_b32
    simp only [g1r_0_0, g1r_0_1, g1r_0_2, g1r_0_3, g1r_0_4, g1r_0_5, g1r_0_6, g1r_0_7, g1r_0_8, g1r_1_5, g1n_2, g1r_3_0, g1r_3_1, g1r_3_2, g1r_4_9, g1r_4_10, g1r_4_11, g1r_4_12, g1r_4_13, g1r_4_14, g1r_4_15, g1r_4_16, g1r_4_17, g1n_5, g1n_6, g1n_7, g1n_8, g1n_9, g1n_10, g1n_11, g1n_12, g1n_13, g1r_14_2, g1r_14_3, g1r_14_4, g1r_14_5, g1r_14_6, g1n_15, g1n_16, g1n_17, g1n_18, g1n_19, g1r_20_7, g1r_20_8, g1n_21, g1r_22_2, g1n_23, g1r_24_0, g1r_24_1, g1r_24_2, g1r_25_9, g1r_25_10, g1r_25_11, g1r_25_12, g1r_25_13, g1r_25_14, g1r_25_15, g1r_25_16, g1r_25_17, g1n_26, g1n_27, g1n_28, g1n_29, g1n_30, g1n_31, g1n_32, g1n_33, g1n_34, g1r_35_2, g1r_35_3, g1r_35_4, g1r_35_5, g1r_35_6, g1n_36, g1n_37, g1n_38, g1n_39, g1n_40, g1r_41_7, g1r_41_8, g1n_42, g1r_43_2, g1n_44, g1r_45_0, g1r_45_1, g1r_45_2, g1r_46_9, g1r_46_10, g1r_46_11, g1r_46_12, g1r_46_13, g1r_46_14, g1r_46_15, g1r_46_16, g1r_46_17, g1n_47, g1n_48, g1n_49, g1n_50, g1n_51, g1n_52, g1n_53, g1n_54, g1n_55, g1r_56_2, g1r_56_3, g1r_56_4, g1r_56_5, g1r_56_6, g1n_57, g1n_58, g1n_59, g1n_60, g1n_61, g1r_62_7, g1r_62_8, g1n_63, g1r_64_2, g1n_65, g1r_66_2, g1n_67, g1r_68_7, g1r_68_8, g1n_69, g1r_70_2, g1n_71, g1r_72_7, g1r_72_8, g1n_73, g1r_74_2, g1n_75, g1r_76_7, g1r_76_8, g1n_77, g1r_78_2, g1n_79, g1r_80_7, g1r_80_8, g1n_81, g1r_82_2, g1n_83, g1r_84_7, g1r_84_8, g1n_85, g1r_86_2, g1n_87, g1r_88_7, g1r_88_8, g1n_89, g1r_90_2, g1n_91, g1r_92_7, g1r_92_8, g1n_93, g1r_94_2, g1n_95, g1r_96_7, g1r_96_8, g1n_97, g1r_98_2, g1n_99, g1r_100_7, g1r_100_8, g1n_101, g1r_102_2, g1n_103, g1r_104_7, g1r_104_8, g1n_105, g1r_106_2, g1n_107, g1r_108_7, g1r_108_8, g1n_109, g1r_110_2, g1n_111, g1r_112_7, g1r_112_8, g1n_113, g1r_114_2, g1n_115, g1r_116_7, g1r_116_8, g1n_117, g1r_118_2, g1n_119, g1r_120_0, g1r_120_1, g1r_120_2, g1r_121_7, g1r_121_8, g1n_122, g1r_123_2, g1n_124, g1n_125, g1n_126, g1r_127_0, g1r_127_1, g1r_127_2, g1r_127_3, g1r_128_7, g1r_128_8, g1n_129, g1r_130_2, g1n_131, g1n_132, g1n_133, g1n_134, g1r_135_7, g1n_136, g1n_150]
    rw [c_rowsOf hN wi h.log, b_some, r_t0, b_some, if_pos rfl, r_led (σ := putF σ2 y 0 0) hN wi]
    exact gdw_ok rfl rfl pf0 h.t0
  by_cases h0 : c1 < 0
  · rw [if_pos h0, if_pos h0]
    exact gdw_ex (fun τ => if_pos rfl) (by decide) rfl rfl pf0 h.th
  by_cases h1 : c1 < σ2.2.1 (y + 1) 1
  · rw [if_neg h0, if_neg h0, if_pos h1, if_pos h1, b_some, b_some, e_inl, if_pos rfl]
    by_cases m1 : c2 = -1
    · rw [if_pos m1, if_pos m1]
      exact ok
    · rw [if_neg m1, if_neg m1, c_needWord h.tale.1.2.2.1]
      by_cases g0 : c2 < 0
      · rw [if_pos g0, if_pos g0]
        exact gdw_ex (fun τ => if_pos rfl) (by decide) rfl rfl pf0 h.th
      by_cases g1 : c2 < σ2.2.1 (y + 1) 2
      · rw [if_neg g0, if_neg g0, if_pos g1, if_pos g1, b_some, b_some, e_inl, if_pos rfl]
        exact ok
      · rw [if_neg g0, if_neg g0, if_neg g1, if_neg g1]
        exact gdw_ex (fun τ => if_pos rfl) (by decide) rfl rfl pf0 h.th
  · rw [if_neg h0, if_neg h0, if_neg h1, if_neg h1]
    exact gdw_ex (fun τ => if_pos rfl) (by decide) rfl rfl pf0 h.th
/-! loudest -/
def rcT (w : Nat → Int32) (who : Int32) (L j : Nat) (x : Int32 × Int32) : Int32 × Int32 := if x.2 < w (86 + 5 * (L - 1 - j)) then (x.1 + (if w (84 + 5 * (L - 1 - j)) = who then 1 else 0), w (86 + 5 * (L - 1 - j))) else x
def rcS (w : Nat → Int32) (who : Int32) (L : Nat) : Nat → Int32 × Int32 := itN (rcT w who L) (0, -1)
theorem rcS_s {w : Nat → Int32} {who : Int32} {L k : Nat} : rcS w who L (k + 1) = rcT w who L k (rcS w who L k) := by
  unfold rcS
  rw [itN]
def rcV (w : Nat → Int32) (who : Int32) : Int32 := (rcS w who (cN w 15) (cN w 15)).1
theorem rc_bd {w : Nat → Int32} {who : Int32} {L : Nat} : ∀ n, n ≤ 60 → 0 ≤ (rcS w who L n).1.toInt ∧ (rcS w who L n).1.toInt ≤ n := by
  intro n
  induction n with
  | zero =>
    intro _
    show 0 ≤ (0 : Int32).toInt ∧ (0 : Int32).toInt ≤ ((0 : Nat) : Int)
    decide
  | succ n ih =>
    intro hn
    have := ih (by omega)
    have e1 : (1 : Int32).toInt = 1 := rfl
    rw [rcS_s, rcT]
    split
    · split
      · show 0 ≤ ((rcS w who L n).1 + 1).toInt ∧ ((rcS w who L n).1 + 1).toInt ≤ ((n + 1 : Nat) : Int)
        rw [i_add (by omega) (by omega), e1]
        omega
      · show 0 ≤ ((rcS w who L n).1 + 0).toInt ∧ ((rcS w who L n).1 + 0).toInt ≤ ((n + 1 : Nat) : Int)
        rw [Int32.add_zero]
        omega
    · omega
theorem rc_mono {w : Nat → Int32} {who : Int32} {L : Nat} : ∀ n, n ≤ 59 → (rcS w who L n).1.toInt ≤ (rcS w who L (n + 1)).1.toInt := by
  intro n hn
  have := rc_bd (w := w) (who := who) (L := L) n (by omega)
  have e1 : (1 : Int32).toInt = 1 := rfl
  rw [rcS_s, rcT]
  split
  · split
    · show _ ≤ ((rcS w who L n).1 + 1).toInt
      rw [i_add (by omega) (by omega), e1]
      omega
    · show _ ≤ ((rcS w who L n).1 + 0).toInt
      rw [Int32.add_zero]
      omega
  · omega
theorem rc_pos {w : Nat → Int32} {L : Nat} (hL : 0 < L) (hd : 0 ≤ (w (86 + 5 * (L - 1))).toInt) : ∀ n, n ≤ 59 → 1 ≤ (rcS w (w (84 + 5 * (L - 1))) L (n + 1)).1.toInt := by
  intro n
  induction n with
  | zero =>
    intro _
    rw [rcS_s, rcT]
    have e0 : rcS w (w (84 + 5 * (L - 1))) L 0 = (0, -1) := rfl
    rw [e0, Nat.sub_zero, if_pos (by rw [i_lt, show (-1 : Int32).toInt = -1 from rfl]; omega), if_pos rfl]
    show (1 : Int) ≤ ((0 : Int32) + 1).toInt
    decide
  | succ n ih =>
    intro hn
    have a := ih (by omega)
    have b := rc_mono (w := w) (who := w (84 + 5 * (L - 1))) (L := L) (n + 1) (by omega)
    omega
theorem c_recordsOf {N z : Nat} {σ : pS} {w : Nat → Int32} {c : Int32} (hN : 20000 < N) (hw : WInv w) (h : LogR (σ.1 (z + 22)) (σ.2.1 (z + 23)) w) : fX2_recordsOf N (G1 z) (z + 22) c σ = some (rcV w c) := by
  have c15 := hw.c15
  unfold fX2_recordsOf fX2_recordsOf_b12
  rw [h.1, show w 15 - 1 = nI (cN w 15) + (-1) from by rw [Int32.sub_eq_add_neg]; exact congrArg (· + (-1)) (nI_cN c15.1)]
  refine lp_for (fun j => ((rcS w c (cN w 15) j).1, (rcS w c (cN w 15) j).2, nI (cN w 15 - j) + (-1))) (cN w 15) _ (by omega) ?_ ?_
  · intro j hj q
    obtain ⟨k, hk⟩ : ∃ k, cN w 15 - j = k + 1 := ⟨cN w 15 - j - 1, by omega⟩
    have hk2 : cN w 15 - 1 - j = k := by omega
    dsimp only
    rw [hk, show cN w 15 - (j + 1) = k by omega, dn_s, if_neg (nI_pos (by omega)), c_part3 hw h (by omega), b_some, b_some, c_part1 hw h (by omega), b_some, rcS_s, rcT, hk2]
    by_cases e : (rcS w c (cN w 15) j).2 < w (86 + 5 * k)
    · rw [if_neg (i_nle.mpr e), if_pos e]
      by_cases g : w (84 + 5 * k) = c
      · rw [if_pos g, if_pos g]
      · rw [if_neg g, if_neg g]
    · rw [if_pos (i_nlt.mp e), if_neg e]
  · intro q
    dsimp only
    rw [Nat.sub_self, if_pos (by decide)]
    rfl
theorem r_recordsOf {N y : Nat} {σ : pS} {c : Int32} (hN : 20000 < N) (hw : WInv (σ.2.1 (y + 1))) : fX12_recordsOf N (G2 y) y c σ = some (rcV (σ.2.1 (y + 1)) c) := by
  have c15 := hw.c15
  unfold fX12_recordsOf fX12_recordsOf_b15
  simp only [g2r_0_1, g2r_0_2, g2r_0_3, g2r_0_4, g2r_0_5, g2r_0_8, g2r_0_15, g2r_0_17, g2r_0_25, g2r_0_26, g2r_0_27, g2r_0_28, g2n_1, g2n_2, g2n_3, g2n_4, g2n_5, g2n_6, g2n_7, g2n_8, g2n_9, g2n_10, g2n_11, g2n_12]
  rw [gA15, show σ.2.1 (y + 1) 15 - 1 = nI (cN (σ.2.1 (y + 1)) 15) + (-1) from by rw [Int32.sub_eq_add_neg]; exact congrArg (· + (-1)) (nI_cN c15.1), show ∀ x : Option Int32, ck (inB 15 2081) x = x from fun _ => rfl]
  refine lp_for (fun j => ((rcS (σ.2.1 (y + 1)) c (cN (σ.2.1 (y + 1)) 15) j).1, (rcS (σ.2.1 (y + 1)) c (cN (σ.2.1 (y + 1)) 15) j).2, nI (cN (σ.2.1 (y + 1)) 15 - j) + (-1))) (cN (σ.2.1 (y + 1)) 15) _ (by omega) ?_ ?_
  · intro j hj q
    obtain ⟨k, hk⟩ : ∃ k, cN (σ.2.1 (y + 1)) 15 - j = k + 1 := ⟨cN (σ.2.1 (y + 1)) 15 - j - 1, by omega⟩
    have hk2 : cN (σ.2.1 (y + 1)) 15 - 1 - j = k := by omega
    dsimp only
    rw [hk, show cN (σ.2.1 (y + 1)) 15 - (j + 1) = k by omega, dn_s, if_neg (nI_pos (by omega)), r_ofLog3 (by omega), b_some, rcS_s, rcT, hk2]
    unfold fX12_recordsOf_b36 fX12_recordsOf_b59 fX12_recordsOf_b60
    rw [r_ofLog3 (by omega), b_some, b_some, r_ofLog1 (by omega), b_some, if_pos rfl, if_neg (show ¬ (1 : Int32) = 0 by decide)]
    unfold jmax
    by_cases e : (rcS (σ.2.1 (y + 1)) c (cN (σ.2.1 (y + 1)) 15) j).2 < σ.2.1 (y + 1) (86 + 5 * k)
    · rw [if_neg (i_nle.mpr e), if_pos e, if_pos e]
      by_cases g : σ.2.1 (y + 1) (84 + 5 * k) = c
      · rw [if_pos g, if_pos g]
      · rw [if_neg g, if_neg g]
    · rw [if_pos (i_nlt.mp e), if_neg e, if_neg e, Int32.add_zero]
  · intro q
    dsimp only
    rw [Nat.sub_self, if_pos (by decide)]
    rfl
def lbT (R : Nat → Int32) (c : Nat) : Option Nat → Option Nat
  | none => some c
  | some b => if R b < R c then some c else some b
def lbS (R : Nat → Int32) : Nat → Option Nat := itN (lbT R) none
theorem lbS_s {R : Nat → Int32} {k : Nat} : lbS R (k + 1) = lbT R k (lbS R k) := by
  unfold lbS
  rw [itN]
theorem lb_max {R : Nat → Int32} : ∀ n, 0 < n → ∃ b, lbS R n = some b ∧ b < n ∧ ∀ c, c < n → (R c).toInt ≤ (R b).toInt := by
  intro n
  induction n with
  | zero => intro h; omega
  | succ n ih =>
    intro _
    rw [lbS_s]
    rcases Nat.eq_zero_or_pos n with e | e
    · subst e
      exact ⟨0, rfl, by omega, fun c hc => by rw [show c = 0 by omega]; exact Int.le_refl _⟩
    · obtain ⟨b, h1, h2, h3⟩ := ih e
      rw [h1, lbT]
      by_cases q : R b < R n
      · refine ⟨n, if_pos q, by omega, fun c hc => ?_⟩
        rw [i_lt] at q
        by_cases e2 : c = n
        · rw [e2]
          exact Int.le_refl _
        · have := h3 c (by omega)
          omega
      · refine ⟨b, if_neg q, by omega, fun c hc => ?_⟩
        rw [i_lt] at q
        by_cases e2 : c = n
        · rw [e2]
          omega
        · exact h3 c (by omega)
def clP (R : Nat → Int32) : Option Nat → Int32 × Int32
  | none => (-1, 0)
  | some b => if 0 < R b then (nI b, R b) else (-1, 0)
theorem gd_loudest {N z y : Nat} (hN : 20000 < N) : Gd_loudest N (G1 z) (G2 y) z y (z + 150) (Sim z y) := by
  intro σ1 σ2 h
  have wi := h.wi
  have c15 := wi.c15
  have c1 := wi.c1
  have w1 := wi.2.1
  have R0 : ∀ c, 0 ≤ (rcV (σ2.2.1 (y + 1)) (nI c)).toInt := fun c => (rc_bd _ c15.2).1
  have hA : fX11_loudest N (G1 z) z σ1 = some (clP (fun c => rcV (σ2.2.1 (y + 1)) (nI c)) (lbS (fun c => rcV (σ2.2.1 (y + 1)) (nI c)) (cN (σ2.2.1 (y + 1)) 1))).1 := by
    unfold fX11_loudest fX11_loudest_b18
    simp only [g1r_0_0, g1r_0_1, g1r_0_2, g1r_0_3, g1r_0_4, g1r_0_5, g1r_0_6, g1r_0_7, g1r_0_8, g1r_1_5, g1n_2, g1r_3_0, g1r_3_1, g1r_3_2, g1r_4_9, g1r_4_10, g1r_4_11, g1r_4_12, g1r_4_13, g1r_4_14, g1r_4_15, g1r_4_16, g1r_4_17, g1n_5, g1n_6, g1n_7, g1n_8, g1n_9, g1n_10, g1n_11, g1n_12, g1n_13, g1r_14_2, g1r_14_3, g1r_14_4, g1r_14_5, g1r_14_6, g1n_15, g1n_16, g1n_17, g1n_18, g1n_19, g1r_20_7, g1r_20_8, g1n_21, g1r_22_2, g1n_23, g1r_24_0, g1r_24_1, g1r_24_2, g1r_25_9, g1r_25_10, g1r_25_11, g1r_25_12, g1r_25_13, g1r_25_14, g1r_25_15, g1r_25_16, g1r_25_17, g1n_26, g1n_27, g1n_28, g1n_29, g1n_30, g1n_31, g1n_32, g1n_33, g1n_34, g1r_35_2, g1r_35_3, g1r_35_4, g1r_35_5, g1r_35_6, g1n_36, g1n_37, g1n_38, g1n_39, g1n_40, g1r_41_7, g1r_41_8, g1n_42, g1r_43_2, g1n_44, g1r_45_0, g1r_45_1, g1r_45_2, g1r_46_9, g1r_46_10, g1r_46_11, g1r_46_12, g1r_46_13, g1r_46_14, g1r_46_15, g1r_46_16, g1r_46_17, g1n_47, g1n_48, g1n_49, g1n_50, g1n_51, g1n_52, g1n_53, g1n_54, g1n_55, g1r_56_2, g1r_56_3, g1r_56_4, g1r_56_5, g1r_56_6, g1n_57, g1n_58, g1n_59, g1n_60, g1n_61, g1r_62_7, g1r_62_8, g1n_63, g1r_64_2, g1n_65, g1r_66_2, g1n_67, g1r_68_7, g1r_68_8, g1n_69, g1r_70_2, g1n_71, g1r_72_7, g1r_72_8, g1n_73, g1r_74_2, g1n_75, g1r_76_7, g1r_76_8, g1n_77, g1r_78_2, g1n_79, g1r_80_7, g1r_80_8, g1n_81, g1r_82_2, g1n_83, g1r_84_7, g1r_84_8, g1n_85, g1r_86_2, g1n_87, g1r_88_7, g1r_88_8, g1n_89, g1r_90_2, g1n_91, g1r_92_7, g1r_92_8, g1n_93, g1r_94_2, g1n_95, g1r_96_7, g1r_96_8, g1n_97, g1r_98_2, g1n_99, g1r_100_7, g1r_100_8, g1n_101, g1r_102_2, g1n_103, g1r_104_7, g1r_104_8, g1n_105, g1r_106_2, g1n_107, g1r_108_7, g1r_108_8, g1n_109, g1r_110_2, g1n_111, g1r_112_7, g1r_112_8, g1n_113, g1r_114_2, g1n_115, g1r_116_7, g1r_116_8, g1n_117, g1r_118_2, g1n_119, g1r_120_0, g1r_120_1, g1r_120_2, g1r_121_7, g1r_121_8, g1n_122, g1r_123_2, g1n_124, g1n_125, g1n_126, g1r_127_0, g1r_127_1, g1r_127_2, g1r_127_3, g1r_128_7, g1r_128_8, g1n_129, g1r_130_2, g1n_131, g1n_132, g1n_133, g1n_134, g1r_135_7, g1n_136, g1n_150]
    rw [h.tale.1.2.2.2.2.1]
    refine lp_for (fun k => ((clP (fun c => rcV (σ2.2.1 (y + 1)) (nI c)) (lbS (fun c => rcV (σ2.2.1 (y + 1)) (nI c)) k)).1, (clP (fun c => rcV (σ2.2.1 (y + 1)) (nI c)) (lbS (fun c => rcV (σ2.2.1 (y + 1)) (nI c)) k)).2, nI k)) (cN (σ2.2.1 (y + 1)) 1) _ (by omega) ?_ ?_
    · intro k hk q
      dsimp only
      rw [if_neg (cnt_lt w1.1 hk), c_recordsOf hN wi h.log, b_some, nI_1, lbS_s]
      have rk := R0 k
      have z0 : (0 : Int32).toInt = 0 := rfl
      cases lbS (fun c => rcV (σ2.2.1 (y + 1)) (nI c)) k with
      | none =>
        rw [lbT, clP, clP]
        try dsimp only
        by_cases e : 0 < rcV (σ2.2.1 (y + 1)) (nI k)
        · rw [if_pos e, if_neg (i_nle.mpr e)]
        · rw [if_neg e, if_pos (i_nlt.mp e)]
      | some b =>
        have rb := R0 b
        rw [lbT]
        try dsimp only
        by_cases g : rcV (σ2.2.1 (y + 1)) (nI b) < rcV (σ2.2.1 (y + 1)) (nI k)
        · rw [if_pos g, clP, clP]
          try dsimp only
          rw [i_lt] at g
          rw [if_pos (show 0 < rcV (σ2.2.1 (y + 1)) (nI k) from by rw [i_lt]; omega)]
          by_cases e : 0 < rcV (σ2.2.1 (y + 1)) (nI b)
          · rw [if_pos e, if_neg (by rw [i_le]; dsimp only; omega)]
          · rw [if_neg e, if_neg (by rw [i_le]; dsimp only; omega)]
        · rw [if_neg g, clP]
          try dsimp only
          rw [i_lt] at g
          by_cases e : 0 < rcV (σ2.2.1 (y + 1)) (nI b)
          · rw [if_pos e, if_pos (by rw [i_le]; dsimp only; omega)]
          · rw [if_neg e, if_pos (by rw [i_lt] at e; rw [i_le]; dsimp only; omega)]
    · intro q
      dsimp only
      rw [if_pos (cnt_eN w1.1)]
  by_cases hL : σ2.2.1 (y + 1) 15 ≤ 0
  · refine ⟨-1, putF σ2 y 0 0, ?_, ?_, h.t0⟩
    · have L0 : cN (σ2.2.1 (y + 1)) 15 = 0 := by
        rw [i_le, show (0 : Int32).toInt = 0 from rfl] at hL
        unfold cN
        omega
      have Rz : ∀ c, rcV (σ2.2.1 (y + 1)) (nI c) = 0 := by
        intro c
        unfold rcV
        rw [L0]
        rfl
      rw [hA]
      cases lbS (fun c => rcV (σ2.2.1 (y + 1)) (nI c)) (cN (σ2.2.1 (y + 1)) 1) with
      | none => rfl
      | some b =>
        rw [clP]
        try dsimp only
        rw [Rz b, if_neg (by decide)]
    · unfold fX12_loudest fX12_loudest_b9
      simp only [g2r_0_1, g2r_0_2, g2r_0_3, g2r_0_4, g2r_0_5, g2r_0_8, g2r_0_15, g2r_0_17, g2r_0_25, g2r_0_26, g2r_0_27, g2r_0_28, g2n_1, g2n_2, g2n_3, g2n_4, g2n_5, g2n_6, g2n_7, g2n_8, g2n_9, g2n_10, g2n_11, g2n_12]
      refine lp_one (by omega) (fun q => ?_)
      dsimp only
      rw [r_court, b_some, gA15, pfA]
      by_cases e : σ2.2.1 (y + 1) 1 ≤ 0
      · rw [if_pos e]
      · rw [if_neg e, if_pos hL]
        rfl
  · have Lp : 0 < cN (σ2.2.1 (y + 1)) 15 := by
      rw [i_le, show (0 : Int32).toInt = 0 from rfl] at hL
      unfold cN
      omega
    refine ⟨oD (-1) (lbS (fun c => rcV (σ2.2.1 (y + 1)) (nI c)) (cN (σ2.2.1 (y + 1)) 1)), putF σ2 y 0 0, ?_, ?_, h.t0⟩
    · rw [hA]
      obtain ⟨lo1, lo2, lo3, lo4, lo5⟩ := wi.lo (cN (σ2.2.1 (y + 1)) 15 - 1) (by omega)
      have p1 := rc_pos (w := σ2.2.1 (y + 1)) Lp lo4.1 (cN (σ2.2.1 (y + 1)) 15 - 1) (by omega)
      rw [show cN (σ2.2.1 (y + 1)) 15 - 1 + 1 = cN (σ2.2.1 (y + 1)) 15 by omega] at p1
      have cp : 0 < cN (σ2.2.1 (y + 1)) 1 := by unfold cN; omega
      obtain ⟨b, b1, b2, b3⟩ := lb_max (R := fun c => rcV (σ2.2.1 (y + 1)) (nI c)) _ cp
      have b4 := b3 (σ2.2.1 (y + 1) (84 + 5 * (cN (σ2.2.1 (y + 1)) 15 - 1))).toInt.toNat (by rw [show cN (σ2.2.1 (y + 1)) 1 = (σ2.2.1 (y + 1) 1).toInt.toNat from rfl]; omega)
      try dsimp only at b4
      rw [← nI_cN lo2.1] at b4
      have p2 : 1 ≤ (rcV (σ2.2.1 (y + 1)) (σ2.2.1 (y + 1) (84 + 5 * (cN (σ2.2.1 (y + 1)) 15 - 1)))).toInt := p1
      rw [b1, clP]
      try dsimp only
      rw [if_pos (by rw [i_lt, show (0 : Int32).toInt = 0 from rfl]; omega)]
      rfl
    · unfold fX12_loudest fX12_loudest_b9
      simp only [g2r_0_1, g2r_0_2, g2r_0_3, g2r_0_4, g2r_0_5, g2r_0_8, g2r_0_15, g2r_0_17, g2r_0_25, g2r_0_26, g2r_0_27, g2r_0_28, g2n_1, g2n_2, g2n_3, g2n_4, g2n_5, g2n_6, g2n_7, g2n_8, g2n_9, g2n_10, g2n_11, g2n_12]
      refine lp_for (fun k => (oD (-1) (lbS (fun c => rcV (σ2.2.1 (y + 1)) (nI c)) k), nI k, putF σ2 y 0 0)) (cN (σ2.2.1 (y + 1)) 1) _ (by omega) ?_ ?_
      · intro k hk q
        try dsimp only
        rw [r_court, b_some, gA15, pfA, if_neg (cnt_lt w1.1 hk), show ∀ x : Option (Int32 × pS), ck (inB 15 2081) x = x from fun _ => rfl, if_neg hL, r_recordsOf (σ := putF σ2 y 0 0) hN wi, b_some, r_recordsOf (σ := putF σ2 y 0 0) hN wi, b_some, nI_1, lbS_s, pfA]
        cases hb : lbS (fun c => rcV (σ2.2.1 (y + 1)) (nI c)) k with
        | none =>
          rw [if_pos (show oD (-1) none < 0 from by decide)]
          rfl
        | some b =>
          have kp : 0 < k := by
            rcases Nat.eq_zero_or_pos k with e | e
            · rw [e] at hb
              cases hb
            · exact e
          obtain ⟨b', b1, b2, _⟩ := lb_max (R := fun c => rcV (σ2.2.1 (y + 1)) (nI c)) k kp
          have : b = b' := Option.some.inj (hb.symm.trans b1)
          rw [if_neg (show ¬ oD (-1) (some b) < 0 from nI_pos (by omega)), lbT, show oD (-1) (some b) = nI b from rfl]
          try dsimp only
          by_cases g : rcV (σ2.2.1 (y + 1)) (nI b) < rcV (σ2.2.1 (y + 1)) (nI k)
          · rw [if_neg (i_nle.mpr g), if_pos g]
            rfl
          · rw [if_pos (i_nlt.mp g), if_neg g]
            rfl
      · intro q
        try dsimp only
        rw [r_court, b_some, pfA, if_pos (cnt_eN w1.1)]
