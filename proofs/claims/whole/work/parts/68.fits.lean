/-! fits -/
def ftR (w : Nat → Int32) (c : Int32) (i : Nat) (x : Int32) : Nat → Int32 := itN (fun j x => x + (if bwV w (w 7) (w 9) (bc (w 12)) (nI i) j - w 7 = c then 1 else 0)) x
def ftS (w : Nat → Int32) (c : Int32) : Nat → Int32 := itN (fun i x => ftR w c i x (cN w 2)) 0
theorem ftR_s {w : Nat → Int32} {c x : Int32} {i k : Nat} : ftR w c i x (k + 1) = ftR w c i x k + (if bwV w (w 7) (w 9) (bc (w 12)) (nI i) k - w 7 = c then 1 else 0) := rfl
theorem ftS_s {w : Nat → Int32} {c : Int32} {k : Nat} : ftS w c (k + 1) = ftR w c k (ftS w c k) (cN w 2) := by
  unfold ftS
  rw [itN]
theorem ft_eq {w : Nat → Int32} {n l who : Int32} {word : Nat} (hw : WInv w) (h : HasLaw w) (hwd : word < cN w 2) : jmin (99 - w 7) (stV w (w 7) n l who word) = bwV w (w 7) n l who word - w 7 := by
  have hd := hw.m.1
  have s := stV_bd (d := w 7) (n := n) (l := l) (who := who) hw h hwd
  have b := bwV_eq (n := n) (l := l) (who := who) hw h hwd hd
  have z9 : (99 : Int32).toInt = 99 := rfl
  have e : (99 - w 7).toInt = 99 - (w 7).toInt := by
    rw [i_sub (by omega) (by omega), z9]
  apply i_ext
  rw [i_sub (by omega) (by omega), b]
  unfold jmin
  split
  · rename_i q
    rw [i_lt] at q
    omega
  · rename_i q
    rw [i_lt] at q
    omega
theorem fit_c {N z y i : Nat} {σ1 σ2 τ : pS} {c x : Int32} (hN : 20000 < N) (h : Sim z y σ1 σ2) (ht : TT z σ1 τ) : ∃ r, (∃ υ, TT z σ1 υ ∧ r = fun p : Int32 × Int32 × pS → Option (Int32 × pS) => p (ftR (σ2.2.1 (y + 1)) c i x (cN (σ2.2.1 (y + 1)) 2), nI (i + 1), υ)) ∧ ∀ p, fX11_fits_b21 N (G1 z) p z c (nI i) (x, 0, τ) = r p := by
  have wi := h.wi
  have c2 := wi.c2
  unfold fX11_fits_b21
  simp only [g1r_0_0, g1r_0_1, g1r_0_2, g1r_0_3, g1r_0_4, g1r_0_5, g1r_0_6, g1r_0_7, g1r_0_8, g1r_1_5, g1n_2, g1r_3_0, g1r_3_1, g1r_3_2, g1r_4_9, g1r_4_10, g1r_4_11, g1r_4_12, g1r_4_13, g1r_4_14, g1r_4_15, g1r_4_16, g1r_4_17, g1n_5, g1n_6, g1n_7, g1n_8, g1n_9, g1n_10, g1n_11, g1n_12, g1n_13, g1r_14_2, g1r_14_3, g1r_14_4, g1r_14_5, g1r_14_6, g1n_15, g1n_16, g1n_17, g1n_18, g1n_19, g1r_20_7, g1r_20_8, g1n_21, g1r_22_2, g1n_23, g1r_24_0, g1r_24_1, g1r_24_2, g1r_25_9, g1r_25_10, g1r_25_11, g1r_25_12, g1r_25_13, g1r_25_14, g1r_25_15, g1r_25_16, g1r_25_17, g1n_26, g1n_27, g1n_28, g1n_29, g1n_30, g1n_31, g1n_32, g1n_33, g1n_34, g1r_35_2, g1r_35_3, g1r_35_4, g1r_35_5, g1r_35_6, g1n_36, g1n_37, g1n_38, g1n_39, g1n_40, g1r_41_7, g1r_41_8, g1n_42, g1r_43_2, g1n_44, g1r_45_0, g1r_45_1, g1r_45_2, g1r_46_9, g1r_46_10, g1r_46_11, g1r_46_12, g1r_46_13, g1r_46_14, g1r_46_15, g1r_46_16, g1r_46_17, g1n_47, g1n_48, g1n_49, g1n_50, g1n_51, g1n_52, g1n_53, g1n_54, g1n_55, g1r_56_2, g1r_56_3, g1r_56_4, g1r_56_5, g1r_56_6, g1n_57, g1n_58, g1n_59, g1n_60, g1n_61, g1r_62_7, g1r_62_8, g1n_63, g1r_64_2, g1n_65, g1r_66_2, g1n_67, g1r_68_7, g1r_68_8, g1n_69, g1r_70_2, g1n_71, g1r_72_7, g1r_72_8, g1n_73, g1r_74_2, g1n_75, g1r_76_7, g1r_76_8, g1n_77, g1r_78_2, g1n_79, g1r_80_7, g1r_80_8, g1n_81, g1r_82_2, g1n_83, g1r_84_7, g1r_84_8, g1n_85, g1r_86_2, g1n_87, g1r_88_7, g1r_88_8, g1n_89, g1r_90_2, g1n_91, g1r_92_7, g1r_92_8, g1n_93, g1r_94_2, g1n_95, g1r_96_7, g1r_96_8, g1n_97, g1r_98_2, g1n_99, g1r_100_7, g1r_100_8, g1n_101, g1r_102_2, g1n_103, g1r_104_7, g1r_104_8, g1n_105, g1r_106_2, g1n_107, g1r_108_7, g1r_108_8, g1n_109, g1r_110_2, g1n_111, g1r_112_7, g1r_112_8, g1n_113, g1r_114_2, g1n_115, g1r_116_7, g1r_116_8, g1n_117, g1r_118_2, g1n_119, g1r_120_0, g1r_120_1, g1r_120_2, g1r_121_7, g1r_121_8, g1n_122, g1r_123_2, g1n_124, g1n_125, g1n_126, g1r_127_0, g1r_127_1, g1r_127_2, g1r_127_3, g1r_128_7, g1r_128_8, g1n_129, g1r_130_2, g1n_131, g1n_132, g1n_133, g1n_134, g1r_135_7, g1n_136, g1n_150]
  refine lp_forRQ (fun k b => ∃ τ, b = (ftR (σ2.2.1 (y + 1)) c i x k, nI k, τ) ∧ TT z σ1 τ) _ (cN (σ2.2.1 (y + 1)) 2) (by omega) ?_ ?_ ⟨τ, rfl, ht⟩
  · rintro k hk b ⟨τ, rfl, ht⟩
    obtain ⟨υ, t1, h1⟩ := c_stingOf (z := z) (m := z + 20) (σ := τ) (who := nI i) hN h.wi (ht.tal h.tale) (ht.law h.law) ((ht.f (by omega)).trans h.bea) hk
    refine ⟨(ftR (σ2.2.1 (y + 1)) c i x (k + 1), nI (k + 1), υ), ⟨υ, rfl, ht.t t1⟩, fun p q => ?_⟩
    dsimp only
    rw [ht.f (by omega), h.tale.1.2.2.1, if_neg (cnt_lt wi.2.2.1.1 hk), h1, b_some, ht.f (by omega), ht.f (by omega), ht.f (by omega), h.dn.1, h.dn.2, h.pos, nI_1]
    dsimp only
    rw [ft_eq wi h.hl hk]
    rw [ftR_s]
    by_cases e : bwV (σ2.2.1 (y + 1)) (σ2.2.1 (y + 1) 7) (σ2.2.1 (y + 1) 9) (bc (σ2.2.1 (y + 1) 12)) (nI i) k - σ2.2.1 (y + 1) 7 = c
    · rw [if_pos e, if_pos e]
    · rw [if_neg e, if_neg e]
  · rintro b ⟨τ, rfl, ht⟩
    refine ⟨_, ⟨τ, ht, rfl⟩, fun p q => ?_⟩
    dsimp only
    rw [ht.f (by omega), h.tale.1.2.2.1, if_pos (cnt_eN wi.2.2.1.1), nI_1]
theorem fit_r {N z y i : Nat} {σ1 σ2 τ : pS} {c x : Int32} (hN : 20000 < N) (h : Sim z y σ1 σ2) (ht : LL y (lkN y (putF σ2 y 0 0)) τ) : ∃ r, (∃ υ, LL y (lkN y (putF σ2 y 0 0)) υ ∧ r = fun p : Int32 × Int32 × pS → Option (Int32 × pS) => p (ftR (σ2.2.1 (y + 1)) c i x (cN (σ2.2.1 (y + 1)) 2), nI (i + 1), υ)) ∧ ∀ p, fX12_fits_b24 N (G2 y) p y c (nI i) (x, 0, τ) = r p := by
  have wi := h.wi
  have c2 := wi.c2
  unfold fX12_fits_b24
  simp only [g2r_0_1, g2r_0_2, g2r_0_3, g2r_0_4, g2r_0_5, g2r_0_8, g2r_0_15, g2r_0_17, g2r_0_25, g2r_0_26, g2r_0_27, g2r_0_28, g2n_1, g2n_2, g2n_3, g2n_4, g2n_5, g2n_6, g2n_7, g2n_8, g2n_9, g2n_10, g2n_11, g2n_12]
  refine lp_forRQ (fun k b => ∃ τ, b = (ftR (σ2.2.1 (y + 1)) c i x k, nI k, τ) ∧ LL y (lkN y (putF σ2 y 0 0)) τ) _ (cN (σ2.2.1 (y + 1)) 2) (by omega) ?_ ?_ ⟨τ, rfl, ht⟩
  · rintro k hk b ⟨τ, rfl, ht⟩
    have hw : τ.2.1 (y + 1) = σ2.2.1 (y + 1) := ht.w
    obtain ⟨υ, l2, h2⟩ := r_behindWord (N := N) (y := y) (σ := τ) (who := nI i) (word := k) hN (by rw [hw]; exact h.wi) (by rw [hw]; exact h.hl) (by rw [hw]; exact hk)
    refine ⟨(ftR (σ2.2.1 (y + 1)) c i x (k + 1), nI (k + 1), υ), ⟨υ, rfl, ht.t l2⟩, fun p q => ?_⟩
    dsimp only
    rw [r_words, b_some, hw, if_neg (cnt_lt wi.2.2.1.1 hk), h2, b_some, hw, ht.f (by omega), ht.f (by omega), ht.f (by omega), lkN_21, lkN_22, lkN_23, nI_1, pfA]
    dsimp only
    rw [show gA υ (y + 1) 7 = σ2.2.1 (y + 1) 7 from (congrFun l2.w 7).trans (congrFun hw 7)]
    rw [ftR_s, show ∀ x : Option (Int32 × pS), ck (inB 7 2081) x = x from fun _ => rfl]
    by_cases e : bwV (σ2.2.1 (y + 1)) (σ2.2.1 (y + 1) 7) (σ2.2.1 (y + 1) 9) (bc (σ2.2.1 (y + 1) 12)) (nI i) k - σ2.2.1 (y + 1) 7 = c
    · rw [if_pos e, if_pos e]
    · rw [if_neg e, if_neg e]
  · rintro b ⟨τ, rfl, ht⟩
    refine ⟨_, ⟨τ, ht, rfl⟩, fun p q => ?_⟩
    dsimp only
    rw [r_words, b_some, show τ.2.1 (y + 1) = σ2.2.1 (y + 1) from ht.w, if_pos (cnt_eN wi.2.2.1.1), nI_1]
theorem gd_fits {N z y : Nat} (hN : 20000 < N) : Gd_fits N (G1 z) (G2 y) z y (z + 150) (Sim z y) := by
  intro σ1 σ2 h c
  have wi := h.wi
  have c1 := wi.c1
  have A : ∃ r, (∃ τ1, TT z σ1 τ1 ∧ r = (ftS (σ2.2.1 (y + 1)) c (cN (σ2.2.1 (y + 1)) 1), τ1)) ∧ fX11_fits N (G1 z) z c σ1 = some r := by
    unfold fX11_fits fX11_fits_b4
    simp only [g1r_0_0, g1r_0_1, g1r_0_2, g1r_0_3, g1r_0_4, g1r_0_5, g1r_0_6, g1r_0_7, g1r_0_8, g1r_1_5, g1n_2, g1r_3_0, g1r_3_1, g1r_3_2, g1r_4_9, g1r_4_10, g1r_4_11, g1r_4_12, g1r_4_13, g1r_4_14, g1r_4_15, g1r_4_16, g1r_4_17, g1n_5, g1n_6, g1n_7, g1n_8, g1n_9, g1n_10, g1n_11, g1n_12, g1n_13, g1r_14_2, g1r_14_3, g1r_14_4, g1r_14_5, g1r_14_6, g1n_15, g1n_16, g1n_17, g1n_18, g1n_19, g1r_20_7, g1r_20_8, g1n_21, g1r_22_2, g1n_23, g1r_24_0, g1r_24_1, g1r_24_2, g1r_25_9, g1r_25_10, g1r_25_11, g1r_25_12, g1r_25_13, g1r_25_14, g1r_25_15, g1r_25_16, g1r_25_17, g1n_26, g1n_27, g1n_28, g1n_29, g1n_30, g1n_31, g1n_32, g1n_33, g1n_34, g1r_35_2, g1r_35_3, g1r_35_4, g1r_35_5, g1r_35_6, g1n_36, g1n_37, g1n_38, g1n_39, g1n_40, g1r_41_7, g1r_41_8, g1n_42, g1r_43_2, g1n_44, g1r_45_0, g1r_45_1, g1r_45_2, g1r_46_9, g1r_46_10, g1r_46_11, g1r_46_12, g1r_46_13, g1r_46_14, g1r_46_15, g1r_46_16, g1r_46_17, g1n_47, g1n_48, g1n_49, g1n_50, g1n_51, g1n_52, g1n_53, g1n_54, g1n_55, g1r_56_2, g1r_56_3, g1r_56_4, g1r_56_5, g1r_56_6, g1n_57, g1n_58, g1n_59, g1n_60, g1n_61, g1r_62_7, g1r_62_8, g1n_63, g1r_64_2, g1n_65, g1r_66_2, g1n_67, g1r_68_7, g1r_68_8, g1n_69, g1r_70_2, g1n_71, g1r_72_7, g1r_72_8, g1n_73, g1r_74_2, g1n_75, g1r_76_7, g1r_76_8, g1n_77, g1r_78_2, g1n_79, g1r_80_7, g1r_80_8, g1n_81, g1r_82_2, g1n_83, g1r_84_7, g1r_84_8, g1n_85, g1r_86_2, g1n_87, g1r_88_7, g1r_88_8, g1n_89, g1r_90_2, g1n_91, g1r_92_7, g1r_92_8, g1n_93, g1r_94_2, g1n_95, g1r_96_7, g1r_96_8, g1n_97, g1r_98_2, g1n_99, g1r_100_7, g1r_100_8, g1n_101, g1r_102_2, g1n_103, g1r_104_7, g1r_104_8, g1n_105, g1r_106_2, g1n_107, g1r_108_7, g1r_108_8, g1n_109, g1r_110_2, g1n_111, g1r_112_7, g1r_112_8, g1n_113, g1r_114_2, g1n_115, g1r_116_7, g1r_116_8, g1n_117, g1r_118_2, g1n_119, g1r_120_0, g1r_120_1, g1r_120_2, g1r_121_7, g1r_121_8, g1n_122, g1r_123_2, g1n_124, g1n_125, g1n_126, g1r_127_0, g1r_127_1, g1r_127_2, g1r_127_3, g1r_128_7, g1r_128_8, g1n_129, g1r_130_2, g1n_131, g1n_132, g1n_133, g1n_134, g1r_135_7, g1n_136, g1n_150]
    refine lp_forR (fun k b => ∃ τ, b = (ftS (σ2.2.1 (y + 1)) c k, nI k, τ) ∧ TT z σ1 τ) _ (cN (σ2.2.1 (y + 1)) 1) (by omega) ?_ ?_ ⟨σ1, rfl, TT.r⟩
    · rintro k hk b ⟨τ, rfl, ht⟩
      left
      obtain ⟨_, ⟨υ, t1, rfl⟩, h1⟩ := fit_c (i := k) (c := c) (x := ftS (σ2.2.1 (y + 1)) c k) hN h ht
      refine ⟨(ftS (σ2.2.1 (y + 1)) c (k + 1), nI (k + 1), υ), ⟨υ, rfl, t1⟩, fun q => ?_⟩
      dsimp only
      rw [ht.f (by omega), h.tale.1.2.2.2.2.1, if_neg (cnt_lt wi.2.1.1 hk), h1, ftS_s]
    · rintro b ⟨τ, rfl, ht⟩
      refine ⟨_, ⟨τ, ht, rfl⟩, fun q => ?_⟩
      dsimp only
      rw [ht.f (by omega), h.tale.1.2.2.2.2.1, if_pos (cnt_eN wi.2.1.1)]
  have B : ∃ r, (∃ τ2, LL y (lkN y (putF σ2 y 0 0)) τ2 ∧ r = (ftS (σ2.2.1 (y + 1)) c (cN (σ2.2.1 (y + 1)) 1), τ2)) ∧ fX12_fits N (G2 y) y c σ2 = some r := by
    unfold fX12_fits fX12_fits_b13
    rw [r_looksNow, b_some]
    refine lp_forR (fun k b => ∃ τ, b = (ftS (σ2.2.1 (y + 1)) c k, nI k, τ) ∧ LL y (lkN y (putF σ2 y 0 0)) τ) _ (cN (σ2.2.1 (y + 1)) 1) (by omega) ?_ ?_ ⟨_, rfl, LL.r⟩
    · rintro k hk b ⟨τ, rfl, ht⟩
      left
      obtain ⟨_, ⟨υ, t1, rfl⟩, h1⟩ := fit_r (i := k) (c := c) (x := ftS (σ2.2.1 (y + 1)) c k) hN h ht
      refine ⟨(ftS (σ2.2.1 (y + 1)) c (k + 1), nI (k + 1), υ), ⟨υ, rfl, t1⟩, fun q => ?_⟩
      dsimp only
      rw [r_court, b_some, show τ.2.1 (y + 1) = σ2.2.1 (y + 1) from ht.w, if_neg (cnt_lt wi.2.1.1 hk), h1, ftS_s]
    · rintro b ⟨τ, rfl, ht⟩
      refine ⟨_, ⟨τ, ht, rfl⟩, fun q => ?_⟩
      dsimp only
      rw [r_court, b_some, show τ.2.1 (y + 1) = σ2.2.1 (y + 1) from ht.w, if_pos (cnt_eN wi.2.1.1)]
  obtain ⟨_, ⟨τ1, t1, rfl⟩, h1⟩ := A
  obtain ⟨_, ⟨τ2, t2, rfl⟩, h2⟩ := B
  exact ⟨_, τ1, τ2, h1, h2, h.keep (t1.e rfl rfl) ((E2.t0.t lkN_e).t t2.e)⟩
