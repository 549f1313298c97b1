/-! calls that may throw -/
theorem gJ_sJ {σ : pS} {a : Nat} {i : Int32} {v : Int64} : gJ (sJ σ a i v) a i = v := by
  show (if a = a ∧ _ = _ then v else _) = v
  rw [if_pos ⟨rfl, rfl⟩]
def OKr (z y : Nat) (x11 : Option ((Int32 × pS) ⊕ (String × pS))) (x12 : Option (Int32 × pS)) : Prop := ∃ (v : Int32) (τ1 τ2 : pS), x11 = some (.inl (v, τ1)) ∧ x12 = some (v, τ2) ∧ τ2.1 y 0 = 0 ∧ Sim z y τ1 τ2
def EXr (z y : Nat) (s : String) (k : Int32) (x11 : Option ((Int32 × pS) ⊕ (String × pS))) (x12 : Option (Int32 × pS)) : Prop := ∃ (w : Int32) (τ1 τ2 : pS), x11 = some (.inr (s, τ1)) ∧ x12 = some (w, τ2) ∧ τ2.1 y 0 = k ∧ Sim z y τ1 τ2
theorem gd_ok {N z y : Nat} {x11 : Option ((Int32 × pS) ⊕ (String × pS))} {x12 : Option (Int32 × pS)} {H : String × pS → Option (Int32 × pS)} (h : OKr z y x11 x12) : ∃ (k w : Int32) (τ1 τ2 : pS), x11.bind (fun q => q.elim (fun zs => ck (inB (0 : Int32) (pN (G1 z) (z + 150))) (some ((0 : Int32), sJ zs.2 (z + 150) (0 : Int32) zs.1.toInt64))) H) = some (k, τ1) ∧ x12 = some (w, τ2) ∧ fX12_thrown N (G2 y) y τ2 = some k ∧ (k = 0 → gJ τ1 (z + 150) 0 = w.toInt64) ∧ Sim z y τ1 τ2 := by
  obtain ⟨v, τ1, τ2, h1, h2, h3, h4⟩ := h
  refine ⟨0, v, sJ τ1 (z + 150) 0 v.toInt64, τ2, ?_, h2, ?_, fun _ => gJ_sJ, h4.keep EE.r.sj E2.r⟩
  · rw [h1, g1n_150]
    rfl
  · rw [r_thrown, h3]
theorem gd_ex {N z y : Nat} {s : String} {k : Int32} {x11 : Option ((Int32 × pS) ⊕ (String × pS))} {x12 : Option (Int32 × pS)} {F : Int32 × pS → Option (Int32 × pS)} {H : String × pS → Option (Int32 × pS)} (h : EXr z y s k x11 x12) (hk : k ≠ 0) (hH : ∀ τ, H (s, τ) = some (k, τ)) : ∃ (k w : Int32) (τ1 τ2 : pS), x11.bind (fun q => q.elim F H) = some (k, τ1) ∧ x12 = some (w, τ2) ∧ fX12_thrown N (G2 y) y τ2 = some k ∧ (k = 0 → gJ τ1 (z + 150) 0 = w.toInt64) ∧ Sim z y τ1 τ2 := by
  obtain ⟨w, τ1, τ2, h1, h2, h3, h4⟩ := h
  refine ⟨k, w, τ1, τ2, ?_, h2, ?_, fun e => absurd e hk, h4⟩
  · rw [h1]
    exact hH τ1
  · rw [r_thrown, h3]
theorem c_needName {N z : Nat} {c x : Int32} {σ : pS} (h : σ.1 (z + 4) 1 = x) : fX11_needName N (G1 z) z c σ = if c < 0 then some (.inr ("java/lang/IndexOutOfBoundsException", σ)) else if c < x then some (.inl σ) else some (.inr ("java/lang/IndexOutOfBoundsException", σ)) := by
  unfold fX11_needName
  simp only [g1r_0_0, g1r_0_1, g1r_0_2, g1r_0_3, g1r_0_4, g1r_0_5, g1r_0_6, g1r_0_7, g1r_0_8, g1r_1_5, g1n_2, g1r_3_0, g1r_3_1, g1r_3_2, g1r_4_9, g1r_4_10, g1r_4_11, g1r_4_12, g1r_4_13, g1r_4_14, g1r_4_15, g1r_4_16, g1r_4_17, g1n_5, g1n_6, g1n_7, g1n_8, g1n_9, g1n_10, g1n_11, g1n_12, g1n_13, g1r_14_2, g1r_14_3, g1r_14_4, g1r_14_5, g1r_14_6, g1n_15, g1n_16, g1n_17, g1n_18, g1n_19, g1r_20_7, g1r_20_8, g1n_21, g1r_22_2, g1n_23, g1r_24_0, g1r_24_1, g1r_24_2, g1r_25_9, g1r_25_10, g1r_25_11, g1r_25_12, g1r_25_13, g1r_25_14, g1r_25_15, g1r_25_16, g1r_25_17, g1n_26, g1n_27, g1n_28, g1n_29, g1n_30, g1n_31, g1n_32, g1n_33, g1n_34, g1r_35_2, g1r_35_3, g1r_35_4, g1r_35_5, g1r_35_6, g1n_36, g1n_37, g1n_38, g1n_39, g1n_40, g1r_41_7, g1r_41_8, g1n_42, g1r_43_2, g1n_44, g1r_45_0, g1r_45_1, g1r_45_2, g1r_46_9, g1r_46_10, g1r_46_11, g1r_46_12, g1r_46_13, g1r_46_14, g1r_46_15, g1r_46_16, g1r_46_17, g1n_47, g1n_48, g1n_49, g1n_50, g1n_51, g1n_52, g1n_53, g1n_54, g1n_55, g1r_56_2, g1r_56_3, g1r_56_4, g1r_56_5, g1r_56_6, g1n_57, g1n_58, g1n_59, g1n_60, g1n_61, g1r_62_7, g1r_62_8, g1n_63, g1r_64_2, g1n_65, g1r_66_2, g1n_67, g1r_68_7, g1r_68_8, g1n_69, g1r_70_2, g1n_71, g1r_72_7, g1r_72_8, g1n_73, g1r_74_2, g1n_75, g1r_76_7, g1r_76_8, g1n_77, g1r_78_2, g1n_79, g1r_80_7, g1r_80_8, g1n_81, g1r_82_2, g1n_83, g1r_84_7, g1r_84_8, g1n_85, g1r_86_2, g1n_87, g1r_88_7, g1r_88_8, g1n_89, g1r_90_2, g1n_91, g1r_92_7, g1r_92_8, g1n_93, g1r_94_2, g1n_95, g1r_96_7, g1r_96_8, g1n_97, g1r_98_2, g1n_99, g1r_100_7, g1r_100_8, g1n_101, g1r_102_2, g1n_103, g1r_104_7, g1r_104_8, g1n_105, g1r_106_2, g1n_107, g1r_108_7, g1r_108_8, g1n_109, g1r_110_2, g1n_111, g1r_112_7, g1r_112_8, g1n_113, g1r_114_2, g1n_115, g1r_116_7, g1r_116_8, g1n_117, g1r_118_2, g1n_119, g1r_120_0, g1r_120_1, g1r_120_2, g1r_121_7, g1r_121_8, g1n_122, g1r_123_2, g1n_124, g1n_125, g1n_126, g1r_127_0, g1r_127_1, g1r_127_2, g1r_127_3, g1r_128_7, g1r_128_8, g1n_129, g1r_130_2, g1n_131, g1n_132, g1n_133, g1n_134, g1r_135_7, g1n_136, g1n_150]
  rw [h]
theorem c_needWho {N z : Nat} {c x : Int32} {σ : pS} (h : σ.1 (z + 4) 4 = x) : fX11_needWho N (G1 z) z c σ = if c < 0 then some (.inr ("java/lang/IndexOutOfBoundsException", σ)) else if c < x then some (.inl σ) else some (.inr ("java/lang/IndexOutOfBoundsException", σ)) := by
  unfold fX11_needWho
  simp only [g1r_0_0, g1r_0_1, g1r_0_2, g1r_0_3, g1r_0_4, g1r_0_5, g1r_0_6, g1r_0_7, g1r_0_8, g1r_1_5, g1n_2, g1r_3_0, g1r_3_1, g1r_3_2, g1r_4_9, g1r_4_10, g1r_4_11, g1r_4_12, g1r_4_13, g1r_4_14, g1r_4_15, g1r_4_16, g1r_4_17, g1n_5, g1n_6, g1n_7, g1n_8, g1n_9, g1n_10, g1n_11, g1n_12, g1n_13, g1r_14_2, g1r_14_3, g1r_14_4, g1r_14_5, g1r_14_6, g1n_15, g1n_16, g1n_17, g1n_18, g1n_19, g1r_20_7, g1r_20_8, g1n_21, g1r_22_2, g1n_23, g1r_24_0, g1r_24_1, g1r_24_2, g1r_25_9, g1r_25_10, g1r_25_11, g1r_25_12, g1r_25_13, g1r_25_14, g1r_25_15, g1r_25_16, g1r_25_17, g1n_26, g1n_27, g1n_28, g1n_29, g1n_30, g1n_31, g1n_32, g1n_33, g1n_34, g1r_35_2, g1r_35_3, g1r_35_4, g1r_35_5, g1r_35_6, g1n_36, g1n_37, g1n_38, g1n_39, g1n_40, g1r_41_7, g1r_41_8, g1n_42, g1r_43_2, g1n_44, g1r_45_0, g1r_45_1, g1r_45_2, g1r_46_9, g1r_46_10, g1r_46_11, g1r_46_12, g1r_46_13, g1r_46_14, g1r_46_15, g1r_46_16, g1r_46_17, g1n_47, g1n_48, g1n_49, g1n_50, g1n_51, g1n_52, g1n_53, g1n_54, g1n_55, g1r_56_2, g1r_56_3, g1r_56_4, g1r_56_5, g1r_56_6, g1n_57, g1n_58, g1n_59, g1n_60, g1n_61, g1r_62_7, g1r_62_8, g1n_63, g1r_64_2, g1n_65, g1r_66_2, g1n_67, g1r_68_7, g1r_68_8, g1n_69, g1r_70_2, g1n_71, g1r_72_7, g1r_72_8, g1n_73, g1r_74_2, g1n_75, g1r_76_7, g1r_76_8, g1n_77, g1r_78_2, g1n_79, g1r_80_7, g1r_80_8, g1n_81, g1r_82_2, g1n_83, g1r_84_7, g1r_84_8, g1n_85, g1r_86_2, g1n_87, g1r_88_7, g1r_88_8, g1n_89, g1r_90_2, g1n_91, g1r_92_7, g1r_92_8, g1n_93, g1r_94_2, g1n_95, g1r_96_7, g1r_96_8, g1n_97, g1r_98_2, g1n_99, g1r_100_7, g1r_100_8, g1n_101, g1r_102_2, g1n_103, g1r_104_7, g1r_104_8, g1n_105, g1r_106_2, g1n_107, g1r_108_7, g1r_108_8, g1n_109, g1r_110_2, g1n_111, g1r_112_7, g1r_112_8, g1n_113, g1r_114_2, g1n_115, g1r_116_7, g1r_116_8, g1n_117, g1r_118_2, g1n_119, g1r_120_0, g1r_120_1, g1r_120_2, g1r_121_7, g1r_121_8, g1n_122, g1r_123_2, g1n_124, g1n_125, g1n_126, g1r_127_0, g1r_127_1, g1r_127_2, g1r_127_3, g1r_128_7, g1r_128_8, g1n_129, g1r_130_2, g1n_131, g1n_132, g1n_133, g1n_134, g1r_135_7, g1n_136, g1n_150]
  rw [h]
theorem c_needWord {N z : Nat} {c x : Int32} {σ : pS} (h : σ.1 (z + 4) 2 = x) : fX11_needWord N (G1 z) z c σ = if c < 0 then some (.inr ("java/lang/IndexOutOfBoundsException", σ)) else if c < x then some (.inl σ) else some (.inr ("java/lang/IndexOutOfBoundsException", σ)) := by
  unfold fX11_needWord
  simp only [g1r_0_0, g1r_0_1, g1r_0_2, g1r_0_3, g1r_0_4, g1r_0_5, g1r_0_6, g1r_0_7, g1r_0_8, g1r_1_5, g1n_2, g1r_3_0, g1r_3_1, g1r_3_2, g1r_4_9, g1r_4_10, g1r_4_11, g1r_4_12, g1r_4_13, g1r_4_14, g1r_4_15, g1r_4_16, g1r_4_17, g1n_5, g1n_6, g1n_7, g1n_8, g1n_9, g1n_10, g1n_11, g1n_12, g1n_13, g1r_14_2, g1r_14_3, g1r_14_4, g1r_14_5, g1r_14_6, g1n_15, g1n_16, g1n_17, g1n_18, g1n_19, g1r_20_7, g1r_20_8, g1n_21, g1r_22_2, g1n_23, g1r_24_0, g1r_24_1, g1r_24_2, g1r_25_9, g1r_25_10, g1r_25_11, g1r_25_12, g1r_25_13, g1r_25_14, g1r_25_15, g1r_25_16, g1r_25_17, g1n_26, g1n_27, g1n_28, g1n_29, g1n_30, g1n_31, g1n_32, g1n_33, g1n_34, g1r_35_2, g1r_35_3, g1r_35_4, g1r_35_5, g1r_35_6, g1n_36, g1n_37, g1n_38, g1n_39, g1n_40, g1r_41_7, g1r_41_8, g1n_42, g1r_43_2, g1n_44, g1r_45_0, g1r_45_1, g1r_45_2, g1r_46_9, g1r_46_10, g1r_46_11, g1r_46_12, g1r_46_13, g1r_46_14, g1r_46_15, g1r_46_16, g1r_46_17, g1n_47, g1n_48, g1n_49, g1n_50, g1n_51, g1n_52, g1n_53, g1n_54, g1n_55, g1r_56_2, g1r_56_3, g1r_56_4, g1r_56_5, g1r_56_6, g1n_57, g1n_58, g1n_59, g1n_60, g1n_61, g1r_62_7, g1r_62_8, g1n_63, g1r_64_2, g1n_65, g1r_66_2, g1n_67, g1r_68_7, g1r_68_8, g1n_69, g1r_70_2, g1n_71, g1r_72_7, g1r_72_8, g1n_73, g1r_74_2, g1n_75, g1r_76_7, g1r_76_8, g1n_77, g1r_78_2, g1n_79, g1r_80_7, g1r_80_8, g1n_81, g1r_82_2, g1n_83, g1r_84_7, g1r_84_8, g1n_85, g1r_86_2, g1n_87, g1r_88_7, g1r_88_8, g1n_89, g1r_90_2, g1n_91, g1r_92_7, g1r_92_8, g1n_93, g1r_94_2, g1n_95, g1r_96_7, g1r_96_8, g1n_97, g1r_98_2, g1n_99, g1r_100_7, g1r_100_8, g1n_101, g1r_102_2, g1n_103, g1r_104_7, g1r_104_8, g1n_105, g1r_106_2, g1n_107, g1r_108_7, g1r_108_8, g1n_109, g1r_110_2, g1n_111, g1r_112_7, g1r_112_8, g1n_113, g1r_114_2, g1n_115, g1r_116_7, g1r_116_8, g1n_117, g1r_118_2, g1n_119, g1r_120_0, g1r_120_1, g1r_120_2, g1r_121_7, g1r_121_8, g1n_122, g1r_123_2, g1n_124, g1n_125, g1n_126, g1r_127_0, g1r_127_1, g1r_127_2, g1r_127_3, g1r_128_7, g1r_128_8, g1n_129, g1r_130_2, g1n_131, g1n_132, g1n_133, g1n_134, g1r_135_7, g1n_136, g1n_150]
  rw [h]
theorem c_needDeed {N z : Nat} {c x : Int32} {σ : pS} (h : σ.1 (z + 4) 3 = x) : fX11_needDeed N (G1 z) z c σ = if c < 0 then some (.inr ("java/lang/IndexOutOfBoundsException", σ)) else if c < x then some (.inl σ) else some (.inr ("java/lang/IndexOutOfBoundsException", σ)) := by
  unfold fX11_needDeed
  simp only [g1r_0_0, g1r_0_1, g1r_0_2, g1r_0_3, g1r_0_4, g1r_0_5, g1r_0_6, g1r_0_7, g1r_0_8, g1r_1_5, g1n_2, g1r_3_0, g1r_3_1, g1r_3_2, g1r_4_9, g1r_4_10, g1r_4_11, g1r_4_12, g1r_4_13, g1r_4_14, g1r_4_15, g1r_4_16, g1r_4_17, g1n_5, g1n_6, g1n_7, g1n_8, g1n_9, g1n_10, g1n_11, g1n_12, g1n_13, g1r_14_2, g1r_14_3, g1r_14_4, g1r_14_5, g1r_14_6, g1n_15, g1n_16, g1n_17, g1n_18, g1n_19, g1r_20_7, g1r_20_8, g1n_21, g1r_22_2, g1n_23, g1r_24_0, g1r_24_1, g1r_24_2, g1r_25_9, g1r_25_10, g1r_25_11, g1r_25_12, g1r_25_13, g1r_25_14, g1r_25_15, g1r_25_16, g1r_25_17, g1n_26, g1n_27, g1n_28, g1n_29, g1n_30, g1n_31, g1n_32, g1n_33, g1n_34, g1r_35_2, g1r_35_3, g1r_35_4, g1r_35_5, g1r_35_6, g1n_36, g1n_37, g1n_38, g1n_39, g1n_40, g1r_41_7, g1r_41_8, g1n_42, g1r_43_2, g1n_44, g1r_45_0, g1r_45_1, g1r_45_2, g1r_46_9, g1r_46_10, g1r_46_11, g1r_46_12, g1r_46_13, g1r_46_14, g1r_46_15, g1r_46_16, g1r_46_17, g1n_47, g1n_48, g1n_49, g1n_50, g1n_51, g1n_52, g1n_53, g1n_54, g1n_55, g1r_56_2, g1r_56_3, g1r_56_4, g1r_56_5, g1r_56_6, g1n_57, g1n_58, g1n_59, g1n_60, g1n_61, g1r_62_7, g1r_62_8, g1n_63, g1r_64_2, g1n_65, g1r_66_2, g1n_67, g1r_68_7, g1r_68_8, g1n_69, g1r_70_2, g1n_71, g1r_72_7, g1r_72_8, g1n_73, g1r_74_2, g1n_75, g1r_76_7, g1r_76_8, g1n_77, g1r_78_2, g1n_79, g1r_80_7, g1r_80_8, g1n_81, g1r_82_2, g1n_83, g1r_84_7, g1r_84_8, g1n_85, g1r_86_2, g1n_87, g1r_88_7, g1r_88_8, g1n_89, g1r_90_2, g1n_91, g1r_92_7, g1r_92_8, g1n_93, g1r_94_2, g1n_95, g1r_96_7, g1r_96_8, g1n_97, g1r_98_2, g1n_99, g1r_100_7, g1r_100_8, g1n_101, g1r_102_2, g1n_103, g1r_104_7, g1r_104_8, g1n_105, g1r_106_2, g1n_107, g1r_108_7, g1r_108_8, g1n_109, g1r_110_2, g1n_111, g1r_112_7, g1r_112_8, g1n_113, g1r_114_2, g1n_115, g1r_116_7, g1r_116_8, g1n_117, g1r_118_2, g1n_119, g1r_120_0, g1r_120_1, g1r_120_2, g1r_121_7, g1r_121_8, g1n_122, g1r_123_2, g1n_124, g1n_125, g1n_126, g1r_127_0, g1r_127_1, g1r_127_2, g1r_127_3, g1r_128_7, g1r_128_8, g1n_129, g1r_130_2, g1n_131, g1n_132, g1n_133, g1n_134, g1r_135_7, g1n_136, g1n_150]
  rw [h]
/-- an index that is none: thrown 1 on both sides, nothing else touched -/
theorem Sim.th {z y : Nat} {σ1 σ2 : pS} (h : Sim z y σ1 σ2) {k : Int32} : Sim z y σ1 (putF (putF σ2 y 0 0) y 0 k) := h.keep EE.r (E2.t0.pf (by omega))
theorem Sim.t0 {z y : Nat} {σ1 σ2 : pS} (h : Sim z y σ1 σ2) : Sim z y σ1 (putF σ2 y 0 0) := h.keep EE.r E2.t0
def GDw (z y : Nat) (H : String × pS → Option (Int32 × pS)) (x11 : Option ((Int32 × pS) ⊕ (String × pS))) (x12 : Option (Int32 × pS)) : Prop := OKr z y x11 x12 ∨ ∃ (s : String) (k : Int32), (∀ τ, H (s, τ) = some (k, τ)) ∧ k ≠ 0 ∧ EXr z y s k x11 x12
theorem gd_w {N z y : Nat} {x11 : Option ((Int32 × pS) ⊕ (String × pS))} {x12 : Option (Int32 × pS)} {H : String × pS → Option (Int32 × pS)} (h : GDw z y H x11 x12) : ∃ (k w : Int32) (τ1 τ2 : pS), x11.bind (fun q => q.elim (fun zs => ck (inB (0 : Int32) (pN (G1 z) (z + 150))) (some ((0 : Int32), sJ zs.2 (z + 150) (0 : Int32) zs.1.toInt64))) H) = some (k, τ1) ∧ x12 = some (w, τ2) ∧ fX12_thrown N (G2 y) y τ2 = some k ∧ (k = 0 → gJ τ1 (z + 150) 0 = w.toInt64) ∧ Sim z y τ1 τ2 := by
  rcases h with h | ⟨s, k, h1, h2, h3⟩
  · exact gd_ok h
  · exact gd_ex h3 h2 h1
theorem gdw_ok {z y : Nat} {H : String × pS → Option (Int32 × pS)} {x11 : Option ((Int32 × pS) ⊕ (String × pS))} {x12 : Option (Int32 × pS)} {v : Int32} {τ1 τ2 : pS} (h1 : x11 = some (.inl (v, τ1))) (h2 : x12 = some (v, τ2)) (h3 : τ2.1 y 0 = 0) (h4 : Sim z y τ1 τ2) : GDw z y H x11 x12 := Or.inl ⟨v, τ1, τ2, h1, h2, h3, h4⟩
theorem gdw_ex {z y : Nat} {H : String × pS → Option (Int32 × pS)} {x11 : Option ((Int32 × pS) ⊕ (String × pS))} {x12 : Option (Int32 × pS)} {s : String} {k w : Int32} {τ1 τ2 : pS} (hH : ∀ τ, H (s, τ) = some (k, τ)) (hk : k ≠ 0) (h1 : x11 = some (.inr (s, τ1))) (h2 : x12 = some (w, τ2)) (h3 : τ2.1 y 0 = k) (h4 : Sim z y τ1 τ2) : GDw z y H x11 x12 := Or.inr ⟨s, k, hH, hk, w, τ1, τ2, h1, h2, h3, h4⟩
theorem WInv.c0 {w : Nat → Int32} (h : WInv w) : cN w 0 ≤ 10 := by
  have := h.1
  unfold cN
  omega
theorem WInv.c1 {w : Nat → Int32} (h : WInv w) : cN w 1 ≤ 6 := by
  have := h.2.1
  unfold cN
  omega
theorem WInv.c2 {w : Nat → Int32} (h : WInv w) : cN w 2 ≤ 6 := by
  have := h.2.2.1
  unfold cN
  omega
theorem WInv.c3 {w : Nat → Int32} (h : WInv w) : cN w 3 ≤ 4 := by
  have := h.2.2.2.1
  unfold cN
  omega
theorem WInv.c4 {w : Nat → Int32} (h : WInv w) : cN w 4 ≤ 8 := by
  have := h.2.2.2.2.1
  unfold cN
  omega
theorem name_pre {N z y : Nat} {σ1 σ2 : pS} {c : Int32} {H : String × pS → Option (Int32 × pS)} {K : pS → Option ((Int32 × pS) ⊕ (String × pS))} {R : Int32 × pS → Option (Int32 × pS)} (h : Sim z y σ1 σ2) (hH : ∀ τ, H ("java/lang/IndexOutOfBoundsException", τ) = some (1, τ)) (hk : ∀ k, k < cN (σ2.2.1 (y + 1)) 0 → k < 10 → c = nI k → GDw z y H (K σ1) (R (0, putF σ2 y 0 0))) : GDw z y H ((fX11_needName N (G1 z) z c σ1).bind (fun q => q.elim K (fun e => some (.inr e)))) ((fX12_noName N (G2 y) y c (putF σ2 y 0 0)).bind (fun q => (fX12_throwsIf N (G2 y) y q 1 (putF σ2 y 0 0)).bind (fun q => if q.1 = 0 then R q else some (0, q.2)))) := by
  have wi := h.wi
  rw [c_needName h.tale.1.2.1, r_noName (σ := putF σ2 y 0 0) wi.1.1, pfA]
  by_cases h0 : c < 0
  · rw [if_pos h0, if_pos h0]
    exact gdw_ex hH (by decide) rfl rfl pf0 h.th
  by_cases h1 : c < σ2.2.1 (y + 1) 0
  · rw [if_neg h0, if_neg h0, if_pos h1, if_pos h1, b_some, b_some, e_inl, r_t0, b_some, if_pos rfl]
    obtain ⟨k, hk1, _, rfl⟩ := nI_lt_of h0 h1
    exact hk k hk1 (Nat.lt_of_lt_of_le hk1 wi.c0) rfl
  · rw [if_neg h0, if_neg h0, if_neg h1, if_neg h1]
    exact gdw_ex hH (by decide) rfl rfl pf0 h.th
theorem who_pre {N z y : Nat} {σ1 σ2 : pS} {c : Int32} {H : String × pS → Option (Int32 × pS)} {K : pS → Option ((Int32 × pS) ⊕ (String × pS))} {R : Int32 × pS → Option (Int32 × pS)} (h : Sim z y σ1 σ2) (hH : ∀ τ, H ("java/lang/IndexOutOfBoundsException", τ) = some (1, τ)) (hk : ∀ k, k < cN (σ2.2.1 (y + 1)) 1 → k < 6 → c = nI k → GDw z y H (K σ1) (R (0, putF σ2 y 0 0))) : GDw z y H ((fX11_needWho N (G1 z) z c σ1).bind (fun q => q.elim K (fun e => some (.inr e)))) ((fX12_noWho N (G2 y) y c (putF σ2 y 0 0)).bind (fun q => (fX12_throwsIf N (G2 y) y q 1 (putF σ2 y 0 0)).bind (fun q => if q.1 = 0 then R q else some (0, q.2)))) := by
  have wi := h.wi
  rw [c_needWho h.tale.1.2.2.2.2.1, r_noWho (σ := putF σ2 y 0 0) wi.2.1.1, pfA]
  by_cases h0 : c < 0
  · rw [if_pos h0, if_pos h0]
    exact gdw_ex hH (by decide) rfl rfl pf0 h.th
  by_cases h1 : c < σ2.2.1 (y + 1) 1
  · rw [if_neg h0, if_neg h0, if_pos h1, if_pos h1, b_some, b_some, e_inl, r_t0, b_some, if_pos rfl]
    obtain ⟨k, hk1, _, rfl⟩ := nI_lt_of h0 h1
    exact hk k hk1 (Nat.lt_of_lt_of_le hk1 wi.c1) rfl
  · rw [if_neg h0, if_neg h0, if_neg h1, if_neg h1]
    exact gdw_ex hH (by decide) rfl rfl pf0 h.th
theorem word_pre {N z y : Nat} {σ1 σ2 : pS} {c : Int32} {H : String × pS → Option (Int32 × pS)} {K : pS → Option ((Int32 × pS) ⊕ (String × pS))} {R : Int32 × pS → Option (Int32 × pS)} (h : Sim z y σ1 σ2) (hH : ∀ τ, H ("java/lang/IndexOutOfBoundsException", τ) = some (1, τ)) (hk : ∀ k, k < cN (σ2.2.1 (y + 1)) 2 → k < 6 → c = nI k → GDw z y H (K σ1) (R (0, putF σ2 y 0 0))) : GDw z y H ((fX11_needWord N (G1 z) z c σ1).bind (fun q => q.elim K (fun e => some (.inr e)))) ((fX12_noWord N (G2 y) y c (putF σ2 y 0 0)).bind (fun q => (fX12_throwsIf N (G2 y) y q 1 (putF σ2 y 0 0)).bind (fun q => if q.1 = 0 then R q else some (0, q.2)))) := by
  have wi := h.wi
  rw [c_needWord h.tale.1.2.2.1, r_noWord (σ := putF σ2 y 0 0) wi.2.2.1.1, pfA]
  by_cases h0 : c < 0
  · rw [if_pos h0, if_pos h0]
    exact gdw_ex hH (by decide) rfl rfl pf0 h.th
  by_cases h1 : c < σ2.2.1 (y + 1) 2
  · rw [if_neg h0, if_neg h0, if_pos h1, if_pos h1, b_some, b_some, e_inl, r_t0, b_some, if_pos rfl]
    obtain ⟨k, hk1, _, rfl⟩ := nI_lt_of h0 h1
    exact hk k hk1 (Nat.lt_of_lt_of_le hk1 wi.c2) rfl
  · rw [if_neg h0, if_neg h0, if_neg h1, if_neg h1]
    exact gdw_ex hH (by decide) rfl rfl pf0 h.th
theorem deed_pre {N z y : Nat} {σ1 σ2 : pS} {c : Int32} {H : String × pS → Option (Int32 × pS)} {K : pS → Option ((Int32 × pS) ⊕ (String × pS))} {R : Int32 × pS → Option (Int32 × pS)} (h : Sim z y σ1 σ2) (hH : ∀ τ, H ("java/lang/IndexOutOfBoundsException", τ) = some (1, τ)) (hk : ∀ k, k < cN (σ2.2.1 (y + 1)) 3 → k < 4 → c = nI k → GDw z y H (K σ1) (R (0, putF σ2 y 0 0))) : GDw z y H ((fX11_needDeed N (G1 z) z c σ1).bind (fun q => q.elim K (fun e => some (.inr e)))) ((fX12_noDeed N (G2 y) y c (putF σ2 y 0 0)).bind (fun q => (fX12_throwsIf N (G2 y) y q 1 (putF σ2 y 0 0)).bind (fun q => if q.1 = 0 then R q else some (0, q.2)))) := by
  have wi := h.wi
  rw [c_needDeed h.tale.1.2.2.2.1, r_noDeed (σ := putF σ2 y 0 0) wi.2.2.2.1.1, pfA]
  by_cases h0 : c < 0
  · rw [if_pos h0, if_pos h0]
    exact gdw_ex hH (by decide) rfl rfl pf0 h.th
  by_cases h1 : c < σ2.2.1 (y + 1) 3
  · rw [if_neg h0, if_neg h0, if_pos h1, if_pos h1, b_some, b_some, e_inl, r_t0, b_some, if_pos rfl]
    obtain ⟨k, hk1, _, rfl⟩ := nI_lt_of h0 h1
    exact hk k hk1 (Nat.lt_of_lt_of_le hk1 wi.c3) rfl
  · rw [if_neg h0, if_neg h0, if_neg h1, if_neg h1]
    exact gdw_ex hH (by decide) rfl rfl pf0 h.th
/-- who and word -/
theorem ww_pre {N z y : Nat} {σ1 σ2 : pS} {c1 c2 : Int32} {H : String × pS → Option (Int32 × pS)} {K : pS → Option ((Int32 × pS) ⊕ (String × pS))} {B0 B1 : Option (Int32 × pS)} (h : Sim z y σ1 σ2) (hH : ∀ τ, H ("java/lang/IndexOutOfBoundsException", τ) = some (1, τ)) (hB : B1 = some (0, putF (putF σ2 y 0 0) y 0 1)) (hk : ∀ i j, i < cN (σ2.2.1 (y + 1)) 1 → j < cN (σ2.2.1 (y + 1)) 2 → i < 6 → j < 6 → c1 = nI i → c2 = nI j → GDw z y H (K σ1) B0) : GDw z y H ((fX11_needWho N (G1 z) z c1 σ1).bind (fun q => q.elim (fun zs => (fX11_needWord N (G1 z) z c2 zs).bind (fun q => q.elim K (fun e => some (.inr e)))) (fun e => some (.inr e)))) ((fX12_noWho N (G2 y) y c1 (putF σ2 y 0 0)).bind (fun q => if q = 0 then ((fX12_noWord N (G2 y) y c2 (putF σ2 y 0 0)).bind (fun q => if q = 0 then B0 else B1)) else B1)) := by
  have wi := h.wi
  rw [c_needWho h.tale.1.2.2.2.2.1, r_noWho (σ := putF σ2 y 0 0) wi.2.1.1, pfA, r_noWord (σ := putF σ2 y 0 0) wi.2.2.1.1, pfA]
  by_cases h0 : c1 < 0
  · rw [if_pos h0, if_pos h0]
    exact gdw_ex hH (by decide) rfl hB pf0 h.th
  by_cases h1 : c1 < σ2.2.1 (y + 1) 1
  · rw [if_neg h0, if_neg h0, if_pos h1, if_pos h1, b_some, b_some, e_inl, if_pos rfl, c_needWord h.tale.1.2.2.1]
    by_cases g0 : c2 < 0
    · rw [if_pos g0, if_pos g0]
      exact gdw_ex hH (by decide) rfl hB pf0 h.th
    by_cases g1 : c2 < σ2.2.1 (y + 1) 2
    · rw [if_neg g0, if_neg g0, if_pos g1, if_pos g1, b_some, b_some, e_inl, if_pos rfl]
      obtain ⟨i, hi, _, rfl⟩ := nI_lt_of h0 h1
      obtain ⟨j, hj, _, rfl⟩ := nI_lt_of g0 g1
      exact hk i j hi hj (Nat.lt_of_lt_of_le hi wi.c1) (Nat.lt_of_lt_of_le hj wi.c2) rfl rfl
    · rw [if_neg g0, if_neg g0, if_neg g1, if_neg g1]
      exact gdw_ex hH (by decide) rfl hB pf0 h.th
  · rw [if_neg h0, if_neg h0, if_neg h1, if_neg h1]
    exact gdw_ex hH (by decide) rfl hB pf0 h.th
theorem gd_word {N z y : Nat} : Gd_word N (G1 z) (G2 y) z y (z + 150) (Sim z y) := by
  intro σ1 σ2 h c1 c2 hc2
  unfold fL_word
  apply gd_w
  unfold fX11_word fX12_word
  refine word_pre h (fun τ => if_pos rfl) (fun k hk hk6 e1 => ?_)
  subst e1
  have tk := h.tale.2.2.2.1 k hk
  simp only [g1r_0_0, g1r_0_1, g1r_0_2, g1r_0_3, g1r_0_4, g1r_0_5, g1r_0_6, g1r_0_7, g1r_0_8, g1r_1_5, g1n_2, g1r_3_0, g1r_3_1, g1r_3_2, g1r_4_9, g1r_4_10, g1r_4_11, g1r_4_12, g1r_4_13, g1r_4_14, g1r_4_15, g1r_4_16, g1r_4_17, g1n_5, g1n_6, g1n_7, g1n_8, g1n_9, g1n_10, g1n_11, g1n_12, g1n_13, g1r_14_2, g1r_14_3, g1r_14_4, g1r_14_5, g1r_14_6, g1n_15, g1n_16, g1n_17, g1n_18, g1n_19, g1r_20_7, g1r_20_8, g1n_21, g1r_22_2, g1n_23, g1r_24_0, g1r_24_1, g1r_24_2, g1r_25_9, g1r_25_10, g1r_25_11, g1r_25_12, g1r_25_13, g1r_25_14, g1r_25_15, g1r_25_16, g1r_25_17, g1n_26, g1n_27, g1n_28, g1n_29, g1n_30, g1n_31, g1n_32, g1n_33, g1n_34, g1r_35_2, g1r_35_3, g1r_35_4, g1r_35_5, g1r_35_6, g1n_36, g1n_37, g1n_38, g1n_39, g1n_40, g1r_41_7, g1r_41_8, g1n_42, g1r_43_2, g1n_44, g1r_45_0, g1r_45_1, g1r_45_2, g1r_46_9, g1r_46_10, g1r_46_11, g1r_46_12, g1r_46_13, g1r_46_14, g1r_46_15, g1r_46_16, g1r_46_17, g1n_47, g1n_48, g1n_49, g1n_50, g1n_51, g1n_52, g1n_53, g1n_54, g1n_55, g1r_56_2, g1r_56_3, g1r_56_4, g1r_56_5, g1r_56_6, g1n_57, g1n_58, g1n_59, g1n_60, g1n_61, g1r_62_7, g1r_62_8, g1n_63, g1r_64_2, g1n_65, g1r_66_2, g1n_67, g1r_68_7, g1r_68_8, g1n_69, g1r_70_2, g1n_71, g1r_72_7, g1r_72_8, g1n_73, g1r_74_2, g1n_75, g1r_76_7, g1r_76_8, g1n_77, g1r_78_2, g1n_79, g1r_80_7, g1r_80_8, g1n_81, g1r_82_2, g1n_83, g1r_84_7, g1r_84_8, g1n_85, g1r_86_2, g1n_87, g1r_88_7, g1r_88_8, g1n_89, g1r_90_2, g1n_91, g1r_92_7, g1r_92_8, g1n_93, g1r_94_2, g1n_95, g1r_96_7, g1r_96_8, g1n_97, g1r_98_2, g1n_99, g1r_100_7, g1r_100_8, g1n_101, g1r_102_2, g1n_103, g1r_104_7, g1r_104_8, g1n_105, g1r_106_2, g1n_107, g1r_108_7, g1r_108_8, g1n_109, g1r_110_2, g1n_111, g1r_112_7, g1r_112_8, g1n_113, g1r_114_2, g1n_115, g1r_116_7, g1r_116_8, g1n_117, g1r_118_2, g1n_119, g1r_120_0, g1r_120_1, g1r_120_2, g1r_121_7, g1r_121_8, g1n_122, g1r_123_2, g1n_124, g1n_125, g1n_126, g1r_127_0, g1r_127_1, g1r_127_2, g1r_127_3, g1r_128_7, g1r_128_8, g1n_129, g1r_130_2, g1n_131, g1n_132, g1n_133, g1n_134, g1r_135_7, g1n_136, g1n_150]
  by_cases e : c2 = 0
  · rw [if_pos e, if_pos e, at_fn g1n_8 hk6 (by omega), b_some]
    unfold fX12_word_b33
    rw [r_ofWord0 (by omega)]
    exact gdw_ok rfl (congrArg (fun x => some (x, putF σ2 y 0 0)) tk.1.symm) pf0 h.t0
  · rw [if_neg e, if_neg e, at_fn g1n_9 hk6 (by omega), b_some]
    unfold fX12_word_b33
    rw [r_ofWord1 (by omega)]
    exact gdw_ok rfl (congrArg (fun x => some (x, putF σ2 y 0 0)) tk.2.symm) pf0 h.t0
theorem in_out {c : Int32} {m : Nat} (hm : m < 2147483648) (h : ∀ j, j ≤ m → c ≠ nI j) : (if c < 0 then (0 : Int32) else if nI m < c then 0 else 1) = 0 := by
  by_cases h0 : c < 0
  · rw [if_pos h0]
  · by_cases h1 : nI m < c
    · rw [if_neg h0, if_pos h1]
    · exfalso
      obtain ⟨j, hj, rfl⟩ := nI_of h0
      rw [i_lt, nI_toInt (by omega), nI_toInt (by omega)] at h1
      exact h j (by omega) rfl
theorem nse_ne : ¬ ("java/util/NoSuchElementException" : String) = "java/lang/IndexOutOfBoundsException" := by decide
theorem gd_court {N z y : Nat} : Gd_court N (G1 z) (G2 y) z y (z + 150) (Sim z y) := by
  intro σ1 σ2 h c1 c2
  unfold fL_court
  apply gd_w
  unfold fX11_court fX12_court
  refine who_pre h (fun τ => if_pos rfl) (fun k hk hk6 e1 => ?_)
  subst e1
  have wi := h.wi
  have t := h.tale
  have m := h.mind
  simp only [g1r_0_0, g1r_0_1, g1r_0_2, g1r_0_3, g1r_0_4, g1r_0_5, g1r_0_6, g1r_0_7, g1r_0_8, g1r_1_5, g1n_2, g1r_3_0, g1r_3_1, g1r_3_2, g1r_4_9, g1r_4_10, g1r_4_11, g1r_4_12, g1r_4_13, g1r_4_14, g1r_4_15, g1r_4_16, g1r_4_17, g1n_5, g1n_6, g1n_7, g1n_8, g1n_9, g1n_10, g1n_11, g1n_12, g1n_13, g1r_14_2, g1r_14_3, g1r_14_4, g1r_14_5, g1r_14_6, g1n_15, g1n_16, g1n_17, g1n_18, g1n_19, g1r_20_7, g1r_20_8, g1n_21, g1r_22_2, g1n_23, g1r_24_0, g1r_24_1, g1r_24_2, g1r_25_9, g1r_25_10, g1r_25_11, g1r_25_12, g1r_25_13, g1r_25_14, g1r_25_15, g1r_25_16, g1r_25_17, g1n_26, g1n_27, g1n_28, g1n_29, g1n_30, g1n_31, g1n_32, g1n_33, g1n_34, g1r_35_2, g1r_35_3, g1r_35_4, g1r_35_5, g1r_35_6, g1n_36, g1n_37, g1n_38, g1n_39, g1n_40, g1r_41_7, g1r_41_8, g1n_42, g1r_43_2, g1n_44, g1r_45_0, g1r_45_1, g1r_45_2, g1r_46_9, g1r_46_10, g1r_46_11, g1r_46_12, g1r_46_13, g1r_46_14, g1r_46_15, g1r_46_16, g1r_46_17, g1n_47, g1n_48, g1n_49, g1n_50, g1n_51, g1n_52, g1n_53, g1n_54, g1n_55, g1r_56_2, g1r_56_3, g1r_56_4, g1r_56_5, g1r_56_6, g1n_57, g1n_58, g1n_59, g1n_60, g1n_61, g1r_62_7, g1r_62_8, g1n_63, g1r_64_2, g1n_65, g1r_66_2, g1n_67, g1r_68_7, g1r_68_8, g1n_69, g1r_70_2, g1n_71, g1r_72_7, g1r_72_8, g1n_73, g1r_74_2, g1n_75, g1r_76_7, g1r_76_8, g1n_77, g1r_78_2, g1n_79, g1r_80_7, g1r_80_8, g1n_81, g1r_82_2, g1n_83, g1r_84_7, g1r_84_8, g1n_85, g1r_86_2, g1n_87, g1r_88_7, g1r_88_8, g1n_89, g1r_90_2, g1n_91, g1r_92_7, g1r_92_8, g1n_93, g1r_94_2, g1n_95, g1r_96_7, g1r_96_8, g1n_97, g1r_98_2, g1n_99, g1r_100_7, g1r_100_8, g1n_101, g1r_102_2, g1n_103, g1r_104_7, g1r_104_8, g1n_105, g1r_106_2, g1n_107, g1r_108_7, g1r_108_8, g1n_109, g1r_110_2, g1n_111, g1r_112_7, g1r_112_8, g1n_113, g1r_114_2, g1n_115, g1r_116_7, g1r_116_8, g1n_117, g1r_118_2, g1n_119, g1r_120_0, g1r_120_1, g1r_120_2, g1r_121_7, g1r_121_8, g1n_122, g1r_123_2, g1n_124, g1n_125, g1n_126, g1r_127_0, g1r_127_1, g1r_127_2, g1r_127_3, g1r_128_7, g1r_128_8, g1n_129, g1r_130_2, g1n_131, g1n_132, g1n_133, g1n_134, g1r_135_7, g1n_136, g1n_150, r_inn, b_some]
  by_cases e0 : c2 = 0
  · subst e0
    rw [if_pos rfl, at_fn g1n_12 hk6 (by omega), b_some]
    refine gdw_ok rfl ?_ pf0 h.t0
    show fX12_court_b33 N (G2 y) y (nI k) 0 0 _ = _
    unfold fX12_court_b33
    rw [r_t0, b_some, if_pos rfl, r_ofWho0 (by omega)]
    exact congrArg (fun x => some (x, putF σ2 y 0 0)) (t.2.2.2.2.2.1 k hk).symm
  by_cases e1 : c2 = 1
  · subst e1
    rw [if_neg e0, if_pos rfl, at_fn g1n_21 hk6 (by omega), b_some]
    refine gdw_ok rfl ?_ pf0 h.t0
    show fX12_court_b33 N (G2 y) y (nI k) 1 0 _ = _
    unfold fX12_court_b33
    rw [r_t0, b_some, if_pos rfl, r_ofWho1 (by omega)]
    exact congrArg (fun x => some (x, putF σ2 y 0 0)) (m.2.2.2.2.2.2.2 k hk).symm
  by_cases e2 : c2 = 2
  · subst e2
    rw [if_neg e0, if_neg e1, if_pos rfl, has_fn (by omega), b_some, ite01, m.2.2.2.2.1 k]
    have hk' : k < cN (σ2.2.1 (y + 1)) 1 := hk
    refine gdw_ok (v := σ2.2.1 (y + 1) (39 + 3 * k)) (τ1 := σ1) (τ2 := putF σ2 y 0 0) ?_ ?_ pf0 h.t0
    · rcases (wi.2.2.2.2.2.2.2.2.2.2.2.2.2.2.2.2.2.1 k hk).2.2 with e | e
      · rw [e]
        simp
      · rw [e]
        simp [hk']
    · show fX12_court_b33 N (G2 y) y (nI k) 2 0 _ = _
      unfold fX12_court_b33
      rw [r_t0, b_some, if_pos rfl, r_ofWho2 (by omega)]
      rfl
  · rw [if_neg e0, if_neg e1, if_neg e2, show (if c2 < 0 then (0 : Int32) else if 2 < c2 then 0 else 1) = 0 from in_out (m := 2) (by omega) (fun j hj => by
          match j, hj with
          | 0, _ => exact e0
          | 1, _ => exact e1
          | 2, _ => exact e2)]
    exact gdw_ex (k := 2) (fun τ => (if_neg nse_ne).trans (if_pos rfl)) (by decide) rfl rfl pf0 h.th
theorem gd_duty {N z y : Nat} : Gd_duty N (G1 z) (G2 y) z y (z + 150) (Sim z y) := by
  intro σ1 σ2 h c1
  unfold fL_duty
  have wi := h.wi
  have t := h.tale
  have e5 := t.1.2.2.2.2.2.1
  have no : (if (if c1 < 0 then (0 : Int32) else if (σ2.2.1 (y + 1) 4) - 1 < c1 then 0 else 1) = 0 then fX12_duty_b25 N (G2 y) y c1 1 (putF σ2 y 0 0) else fX12_duty_b25 N (G2 y) y c1 0 (putF σ2 y 0 0)) = fX12_duty_b25 N (G2 y) y c1 (if c1 < 0 then 1 else if c1 < σ2.2.1 (y + 1) 4 then 0 else 1) (putF σ2 y 0 0) := by
    by_cases h0 : c1 < 0
    · rw [if_pos h0, if_pos h0, if_pos rfl]
    · by_cases h1 : c1 < σ2.2.1 (y + 1) 4
      · rw [if_neg h0, if_neg h0, if_pos h1, if_neg (fun q => (lt_m1 wi.2.2.2.2.1.1).mp q h1), if_neg (by decide)]
      · rw [if_neg h0, if_neg h0, if_neg h1, if_pos ((lt_m1 wi.2.2.2.2.1.1).mpr h1), if_pos rfl]
  have hr : fX12_duty N (G2 y) y c1 σ2 = fX12_duty_b25 N (G2 y) y c1 (if c1 < 0 then 1 else if c1 < σ2.2.1 (y + 1) 4 then 0 else 1) (putF σ2 y 0 0) := by
    unfold fX12_duty
    rw [r_duties, b_some, r_inn, b_some]
    exact no
  by_cases h0 : c1 < 0
  · refine gd_ex (s := "java/lang/IndexOutOfBoundsException") (k := 1) ⟨0, σ1, _, ?_, ?_, pf0, h.th⟩ (by decide) (fun τ => if_pos rfl)
    · unfold fX11_duty
      rw [if_pos h0]
    · rw [hr, if_pos h0]
      rfl
  by_cases h1 : c1 < σ2.2.1 (y + 1) 4
  · obtain ⟨k, hk, _, rfl⟩ := nI_lt_of h0 h1
    have hk8 : k < 8 := by have := wi.2.2.2.2.1; omega
    refine gd_ok ⟨σ2.2.1 (y + 1) (75 + k), σ1, putF σ2 y 0 0, ?_, ?_, pf0, h.t0⟩
    · unfold fX11_duty
      simp only [g1r_0_0, g1r_0_1, g1r_0_2, g1r_0_3, g1r_0_4, g1r_0_5, g1r_0_6, g1r_0_7, g1r_0_8, g1r_1_5, g1n_2, g1r_3_0, g1r_3_1, g1r_3_2, g1r_4_9, g1r_4_10, g1r_4_11, g1r_4_12, g1r_4_13, g1r_4_14, g1r_4_15, g1r_4_16, g1r_4_17, g1n_5, g1n_6, g1n_7, g1n_8, g1n_9, g1n_10, g1n_11, g1n_12, g1n_13, g1r_14_2, g1r_14_3, g1r_14_4, g1r_14_5, g1r_14_6, g1n_15, g1n_16, g1n_17, g1n_18, g1n_19, g1r_20_7, g1r_20_8, g1n_21, g1r_22_2, g1n_23, g1r_24_0, g1r_24_1, g1r_24_2, g1r_25_9, g1r_25_10, g1r_25_11, g1r_25_12, g1r_25_13, g1r_25_14, g1r_25_15, g1r_25_16, g1r_25_17, g1n_26, g1n_27, g1n_28, g1n_29, g1n_30, g1n_31, g1n_32, g1n_33, g1n_34, g1r_35_2, g1r_35_3, g1r_35_4, g1r_35_5, g1r_35_6, g1n_36, g1n_37, g1n_38, g1n_39, g1n_40, g1r_41_7, g1r_41_8, g1n_42, g1r_43_2, g1n_44, g1r_45_0, g1r_45_1, g1r_45_2, g1r_46_9, g1r_46_10, g1r_46_11, g1r_46_12, g1r_46_13, g1r_46_14, g1r_46_15, g1r_46_16, g1r_46_17, g1n_47, g1n_48, g1n_49, g1n_50, g1n_51, g1n_52, g1n_53, g1n_54, g1n_55, g1r_56_2, g1r_56_3, g1r_56_4, g1r_56_5, g1r_56_6, g1n_57, g1n_58, g1n_59, g1n_60, g1n_61, g1r_62_7, g1r_62_8, g1n_63, g1r_64_2, g1n_65, g1r_66_2, g1n_67, g1r_68_7, g1r_68_8, g1n_69, g1r_70_2, g1n_71, g1r_72_7, g1r_72_8, g1n_73, g1r_74_2, g1n_75, g1r_76_7, g1r_76_8, g1n_77, g1r_78_2, g1n_79, g1r_80_7, g1r_80_8, g1n_81, g1r_82_2, g1n_83, g1r_84_7, g1r_84_8, g1n_85, g1r_86_2, g1n_87, g1r_88_7, g1r_88_8, g1n_89, g1r_90_2, g1n_91, g1r_92_7, g1r_92_8, g1n_93, g1r_94_2, g1n_95, g1r_96_7, g1r_96_8, g1n_97, g1r_98_2, g1n_99, g1r_100_7, g1r_100_8, g1n_101, g1r_102_2, g1n_103, g1r_104_7, g1r_104_8, g1n_105, g1r_106_2, g1n_107, g1r_108_7, g1r_108_8, g1n_109, g1r_110_2, g1n_111, g1r_112_7, g1r_112_8, g1n_113, g1r_114_2, g1n_115, g1r_116_7, g1r_116_8, g1n_117, g1r_118_2, g1n_119, g1r_120_0, g1r_120_1, g1r_120_2, g1r_121_7, g1r_121_8, g1n_122, g1r_123_2, g1n_124, g1n_125, g1n_126, g1r_127_0, g1r_127_1, g1r_127_2, g1r_127_3, g1r_128_7, g1r_128_8, g1n_129, g1r_130_2, g1n_131, g1n_132, g1n_133, g1n_134, g1r_135_7, g1n_136, g1n_150]
      rw [e5, if_neg h0, if_pos h1, at_fn g1n_13 hk8 (by omega), b_some, ← t.2.2.2.2.2.2 k hk]
    · rw [hr, if_neg h0, if_pos h1]
      unfold fX12_duty_b25
      rw [r_t0, b_some, if_pos rfl]
      simp only [g2r_0_1, g2r_0_2, g2r_0_3, g2r_0_4, g2r_0_5, g2r_0_8, g2r_0_15, g2r_0_17, g2r_0_25, g2r_0_26, g2r_0_27, g2r_0_28, g2n_1, g2n_2, g2n_3, g2n_4, g2n_5, g2n_6, g2n_7, g2n_8, g2n_9, g2n_10, g2n_11, g2n_12]
      rw [show (75 : Int32) + nI k = nI (75 + k) from nI_add 75 k, ck_nI (by omega) (by omega), gA_nI (by omega)]
      rfl
  · refine gd_ex (s := "java/lang/IndexOutOfBoundsException") (k := 1) ⟨0, σ1, _, ?_, ?_, pf0, h.th⟩ (by decide) (fun τ => if_pos rfl)
    · unfold fX11_duty
      simp only [g1r_0_0, g1r_0_1, g1r_0_2, g1r_0_3, g1r_0_4, g1r_0_5, g1r_0_6, g1r_0_7, g1r_0_8, g1r_1_5, g1n_2, g1r_3_0, g1r_3_1, g1r_3_2, g1r_4_9, g1r_4_10, g1r_4_11, g1r_4_12, g1r_4_13, g1r_4_14, g1r_4_15, g1r_4_16, g1r_4_17, g1n_5, g1n_6, g1n_7, g1n_8, g1n_9, g1n_10, g1n_11, g1n_12, g1n_13, g1r_14_2, g1r_14_3, g1r_14_4, g1r_14_5, g1r_14_6, g1n_15, g1n_16, g1n_17, g1n_18, g1n_19, g1r_20_7, g1r_20_8, g1n_21, g1r_22_2, g1n_23, g1r_24_0, g1r_24_1, g1r_24_2, g1r_25_9, g1r_25_10, g1r_25_11, g1r_25_12, g1r_25_13, g1r_25_14, g1r_25_15, g1r_25_16, g1r_25_17, g1n_26, g1n_27, g1n_28, g1n_29, g1n_30, g1n_31, g1n_32, g1n_33, g1n_34, g1r_35_2, g1r_35_3, g1r_35_4, g1r_35_5, g1r_35_6, g1n_36, g1n_37, g1n_38, g1n_39, g1n_40, g1r_41_7, g1r_41_8, g1n_42, g1r_43_2, g1n_44, g1r_45_0, g1r_45_1, g1r_45_2, g1r_46_9, g1r_46_10, g1r_46_11, g1r_46_12, g1r_46_13, g1r_46_14, g1r_46_15, g1r_46_16, g1r_46_17, g1n_47, g1n_48, g1n_49, g1n_50, g1n_51, g1n_52, g1n_53, g1n_54, g1n_55, g1r_56_2, g1r_56_3, g1r_56_4, g1r_56_5, g1r_56_6, g1n_57, g1n_58, g1n_59, g1n_60, g1n_61, g1r_62_7, g1r_62_8, g1n_63, g1r_64_2, g1n_65, g1r_66_2, g1n_67, g1r_68_7, g1r_68_8, g1n_69, g1r_70_2, g1n_71, g1r_72_7, g1r_72_8, g1n_73, g1r_74_2, g1n_75, g1r_76_7, g1r_76_8, g1n_77, g1r_78_2, g1n_79, g1r_80_7, g1r_80_8, g1n_81, g1r_82_2, g1n_83, g1r_84_7, g1r_84_8, g1n_85, g1r_86_2, g1n_87, g1r_88_7, g1r_88_8, g1n_89, g1r_90_2, g1n_91, g1r_92_7, g1r_92_8, g1n_93, g1r_94_2, g1n_95, g1r_96_7, g1r_96_8, g1n_97, g1r_98_2, g1n_99, g1r_100_7, g1r_100_8, g1n_101, g1r_102_2, g1n_103, g1r_104_7, g1r_104_8, g1n_105, g1r_106_2, g1n_107, g1r_108_7, g1r_108_8, g1n_109, g1r_110_2, g1n_111, g1r_112_7, g1r_112_8, g1n_113, g1r_114_2, g1n_115, g1r_116_7, g1r_116_8, g1n_117, g1r_118_2, g1n_119, g1r_120_0, g1r_120_1, g1r_120_2, g1r_121_7, g1r_121_8, g1n_122, g1r_123_2, g1n_124, g1n_125, g1n_126, g1r_127_0, g1r_127_1, g1r_127_2, g1r_127_3, g1r_128_7, g1r_128_8, g1n_129, g1r_130_2, g1n_131, g1n_132, g1n_133, g1n_134, g1r_135_7, g1n_136, g1n_150]
      rw [e5, if_neg h0, if_neg h1]
    · rw [hr, if_neg h0, if_neg h1]
      rfl
