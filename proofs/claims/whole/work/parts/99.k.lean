/-! the law's texts: the class's reader and the reference's steps -/
/-- the class's reader: its state, its depth, what waits (the top first), the steps so far -/
def CL (z : Nat) (τ : pS) (s : Int32) (d : Nat) (W E : List Int32) : Prop := τ.1 (z + 135) 0 = s ∧ τ.1 (z + 135) 5 = nI d ∧ τ.1 (z + 135) 6 = nI W.length ∧ (∀ i, i < W.length → τ.2.1 (z + 136) (W.length - 1 - i) = W.getD i 0) ∧ τ.1 (z + 35) 1 = nI E.length ∧ ∀ i, i < E.length → τ.2.1 (z + 39) i = E.getD i 0
/-- only the reader's state and the draft's steps change -/
def LQ (z : Nat) (τ υ : pS) : Prop := (∀ o k, ¬ (o = 135 ∧ (k = 0 ∨ k = 4 ∨ k = 5 ∨ k = 6)) → ¬ (o = 35 ∧ k = 1) → υ.1 (z + o) k = τ.1 (z + o) k) ∧ ∀ o, o ≠ 136 → o ≠ 39 → υ.2.1 (z + o) = τ.2.1 (z + o)
theorem LQ.r {z : Nat} {τ : pS} : LQ z τ τ := ⟨fun _ _ _ _ => rfl, fun _ _ _ => rfl⟩
theorem LQ.t {z : Nat} {σ τ υ : pS} (h : LQ z σ τ) (g : LQ z τ υ) : LQ z σ υ := ⟨fun o k a b => (g.1 o k a b).trans (h.1 o k a b), fun o a b => (g.2 o a b).trans (h.2 o a b)⟩
theorem LQ.pf {z k : Nat} {σ τ : pS} {v : Int32} (h : LQ z σ τ) (hk : k = 0 ∨ k = 4 ∨ k = 5 ∨ k = 6) : LQ z σ (putF τ (z + 135) k v) := ⟨fun o j a b => by
  rw [pf1, if_neg (fun q => a ⟨by omega, by omega⟩)]
  exact h.1 o j a b, h.2⟩
theorem LQ.p1 {z : Nat} {σ τ : pS} {v : Int32} (h : LQ z σ τ) : LQ z σ (putF τ (z + 35) 1 v) := ⟨fun o j a b => by
  rw [pf1, if_neg (fun q => b ⟨by omega, by omega⟩)]
  exact h.1 o j a b, h.2⟩
theorem LQ.sa {z o : Nat} {σ τ : pS} {i v : Int32} (h : LQ z σ τ) (ho : o = 136 ∨ o = 39) : LQ z σ (sA τ (z + o) i v) := ⟨h.1, fun j a b => by
  rw [sA_o (by omega)]
  exact h.2 j a b⟩
theorem LQ.by {z L : Nat} {B : Nat → Int32} {σ τ : pS} (h : LQ z σ τ) (b : BY z B L σ) : BY z B L τ := ⟨b.1, (h.1 1 0 (by omega) (by omega)).trans b.2.1, fun i hi => by
  rw [h.2 2 (by omega) (by omega)]
  exact b.2.2 i hi⟩
theorem LQ.ct {z L f : Nat} {B : Nat → Int32} {σ τ : pS} (h : LQ z σ τ) (c : CT z B L f σ) : CT z B L f τ := by
  unfold CT at c ⊢
  rw [h.1 1 1 (by omega) (by omega), h.1 1 2 (by omega) (by omega), h.1 1 3 (by omega) (by omega), h.1 1 4 (by omega) (by omega)]
  exact c
theorem getD_app {E : List Int32} {v : Int32} {i : Nat} (hi : i < E.length) : (E ++ [v]).getD i 0 = E.getD i 0 := by
  simp [List.getD, List.getElem?_append_left hi]
theorem getD_end {E : List Int32} {v : Int32} : (E ++ [v]).getD E.length 0 = v := by
  simp [List.getD]
theorem c_addStep {N z d : Nat} {τ : pS} {s v : Int32} {W E : List Int32} (h : CL z τ s d W E) (hE : E.length < 400) : ∃ υ, fX0_addStep N (G1 z) (z + 35) v τ = some υ ∧ CL z υ s d W (E ++ [v]) ∧ LQ z τ υ ∧ υ.1 (z + 135) = τ.1 (z + 135) := by
  obtain ⟨h0, h5, h6, hW, h1, hS⟩ := h
  unfold fX0_addStep
  simp only [g1r_0_0, g1r_0_1, g1r_0_2, g1r_0_3, g1r_0_4, g1r_0_5, g1r_0_6, g1r_0_7, g1r_0_8, g1r_1_5, g1n_2, g1r_3_0, g1r_3_1, g1r_3_2, g1r_4_9, g1r_4_10, g1r_4_11, g1r_4_12, g1r_4_13, g1r_4_14, g1r_4_15, g1r_4_16, g1r_4_17, g1n_5, g1n_6, g1n_7, g1n_8, g1n_9, g1n_10, g1n_11, g1n_12, g1n_13, g1r_14_2, g1r_14_3, g1r_14_4, g1r_14_5, g1r_14_6, g1n_15, g1n_16, g1n_17, g1n_18, g1n_19, g1r_20_7, g1r_20_8, g1n_21, g1r_22_2, g1n_23, g1r_24_0, g1r_24_1, g1r_24_2, g1r_25_9, g1r_25_10, g1r_25_11, g1r_25_12, g1r_25_13, g1r_25_14, g1r_25_15, g1r_25_16, g1r_25_17, g1n_26, g1n_27, g1n_28, g1n_29, g1n_30, g1n_31, g1n_32, g1n_33, g1n_34, g1r_35_2, g1r_35_3, g1r_35_4, g1r_35_5, g1r_35_6, g1n_36, g1n_37, g1n_38, g1n_39, g1n_40, g1r_41_7, g1r_41_8, g1n_42, g1r_43_2, g1n_44, g1r_45_0, g1r_45_1, g1r_45_2, g1r_46_9, g1r_46_10, g1r_46_11, g1r_46_12, g1r_46_13, g1r_46_14, g1r_46_15, g1r_46_16, g1r_46_17, g1n_47, g1n_48, g1n_49, g1n_50, g1n_51, g1n_52, g1n_53, g1n_54, g1n_55, g1r_56_2, g1r_56_3, g1r_56_4, g1r_56_5, g1r_56_6, g1n_57, g1n_58, g1n_59, g1n_60, g1n_61, g1r_62_7, g1r_62_8, g1n_63, g1r_64_2, g1n_65, g1r_66_2, g1n_67, g1r_68_7, g1r_68_8, g1n_69, g1r_70_2, g1n_71, g1r_72_7, g1r_72_8, g1n_73, g1r_74_2, g1n_75, g1r_76_7, g1r_76_8, g1n_77, g1r_78_2, g1n_79, g1r_80_7, g1r_80_8, g1n_81, g1r_82_2, g1n_83, g1r_84_7, g1r_84_8, g1n_85, g1r_86_2, g1n_87, g1r_88_7, g1r_88_8, g1n_89, g1r_90_2, g1n_91, g1r_92_7, g1r_92_8, g1n_93, g1r_94_2, g1n_95, g1r_96_7, g1r_96_8, g1n_97, g1r_98_2, g1n_99, g1r_100_7, g1r_100_8, g1n_101, g1r_102_2, g1n_103, g1r_104_7, g1r_104_8, g1n_105, g1r_106_2, g1n_107, g1r_108_7, g1r_108_8, g1n_109, g1r_110_2, g1n_111, g1r_112_7, g1r_112_8, g1n_113, g1r_114_2, g1n_115, g1r_116_7, g1r_116_8, g1n_117, g1r_118_2, g1n_119, g1r_120_0, g1r_120_1, g1r_120_2, g1r_121_7, g1r_121_8, g1n_122, g1r_123_2, g1n_124, g1n_125, g1n_126, g1r_127_0, g1r_127_1, g1r_127_2, g1r_127_3, g1r_128_7, g1r_128_8, g1n_129, g1r_130_2, g1n_131, g1n_132, g1n_133, g1n_134, g1r_135_7, g1n_136, g1n_150]
  rw [h1, if_neg (nI_pos (by omega)), if_neg (show ¬ (400 : Int32) ≤ nI E.length from lit_lt (m := 400) hE (by decide)), ck_nI (by omega) (by omega), sa1, h1, nI_1]
  refine ⟨_, rfl, ⟨?_, ?_, ?_, fun i hi => ?_, ?_, fun i hi => ?_⟩, (LQ.r.sa (Or.inr rfl)).p1, ?_⟩
  · rw [pf_o (by omega), sa1]
    exact h0
  · rw [pf_o (by omega), sa1]
    exact h5
  · rw [pf_o (by omega), sa1]
    exact h6
  · rw [pfA, sA_o (by omega)]
    exact hW i hi
  · rw [pf0, List.length_append]
    rfl
  · rw [pfA, sA_w (n := E.length) (nI_clamp (by omega))]
    by_cases q : i = E.length
    · rw [q, va_up_self, getD_end]
    · rw [List.length_append] at hi
      have hi2 : i < E.length := by
        have : ([v] : List Int32).length = 1 := rfl
        omega
      rw [va_up_ne _ _ q, getD_app hi2]
      exact hS i hi2
  · rw [pf_o (by omega), sa1]
theorem c_top {N z d : Nat} {τ : pS} {s : Int32} {W E : List Int32} (h : CL z τ s d W E) (hW : W.length ≤ 20) : fX1_topWaiting N (G1 z) (z + 135) τ = some (W.headD (-1)) := by
  obtain ⟨h0, h5, h6, hw, h1, hS⟩ := h
  unfold fX1_topWaiting fX1_topWaiting_b20 fX1_topWaiting_b21
  simp only [g1r_0_0, g1r_0_1, g1r_0_2, g1r_0_3, g1r_0_4, g1r_0_5, g1r_0_6, g1r_0_7, g1r_0_8, g1r_1_5, g1n_2, g1r_3_0, g1r_3_1, g1r_3_2, g1r_4_9, g1r_4_10, g1r_4_11, g1r_4_12, g1r_4_13, g1r_4_14, g1r_4_15, g1r_4_16, g1r_4_17, g1n_5, g1n_6, g1n_7, g1n_8, g1n_9, g1n_10, g1n_11, g1n_12, g1n_13, g1r_14_2, g1r_14_3, g1r_14_4, g1r_14_5, g1r_14_6, g1n_15, g1n_16, g1n_17, g1n_18, g1n_19, g1r_20_7, g1r_20_8, g1n_21, g1r_22_2, g1n_23, g1r_24_0, g1r_24_1, g1r_24_2, g1r_25_9, g1r_25_10, g1r_25_11, g1r_25_12, g1r_25_13, g1r_25_14, g1r_25_15, g1r_25_16, g1r_25_17, g1n_26, g1n_27, g1n_28, g1n_29, g1n_30, g1n_31, g1n_32, g1n_33, g1n_34, g1r_35_2, g1r_35_3, g1r_35_4, g1r_35_5, g1r_35_6, g1n_36, g1n_37, g1n_38, g1n_39, g1n_40, g1r_41_7, g1r_41_8, g1n_42, g1r_43_2, g1n_44, g1r_45_0, g1r_45_1, g1r_45_2, g1r_46_9, g1r_46_10, g1r_46_11, g1r_46_12, g1r_46_13, g1r_46_14, g1r_46_15, g1r_46_16, g1r_46_17, g1n_47, g1n_48, g1n_49, g1n_50, g1n_51, g1n_52, g1n_53, g1n_54, g1n_55, g1r_56_2, g1r_56_3, g1r_56_4, g1r_56_5, g1r_56_6, g1n_57, g1n_58, g1n_59, g1n_60, g1n_61, g1r_62_7, g1r_62_8, g1n_63, g1r_64_2, g1n_65, g1r_66_2, g1n_67, g1r_68_7, g1r_68_8, g1n_69, g1r_70_2, g1n_71, g1r_72_7, g1r_72_8, g1n_73, g1r_74_2, g1n_75, g1r_76_7, g1r_76_8, g1n_77, g1r_78_2, g1n_79, g1r_80_7, g1r_80_8, g1n_81, g1r_82_2, g1n_83, g1r_84_7, g1r_84_8, g1n_85, g1r_86_2, g1n_87, g1r_88_7, g1r_88_8, g1n_89, g1r_90_2, g1n_91, g1r_92_7, g1r_92_8, g1n_93, g1r_94_2, g1n_95, g1r_96_7, g1r_96_8, g1n_97, g1r_98_2, g1n_99, g1r_100_7, g1r_100_8, g1n_101, g1r_102_2, g1n_103, g1r_104_7, g1r_104_8, g1n_105, g1r_106_2, g1n_107, g1r_108_7, g1r_108_8, g1n_109, g1r_110_2, g1n_111, g1r_112_7, g1r_112_8, g1n_113, g1r_114_2, g1n_115, g1r_116_7, g1r_116_8, g1n_117, g1r_118_2, g1n_119, g1r_120_0, g1r_120_1, g1r_120_2, g1r_121_7, g1r_121_8, g1n_122, g1r_123_2, g1n_124, g1n_125, g1n_126, g1r_127_0, g1r_127_1, g1r_127_2, g1r_127_3, g1r_128_7, g1r_128_8, g1n_129, g1r_130_2, g1n_131, g1n_132, g1n_133, g1n_134, g1r_135_7, g1n_136, g1n_150]
  rw [h6]
  cases W with
  | nil =>
    rw [if_pos (show nI ([] : List Int32).length ≤ 0 from Int32.le_refl _), if_pos trivial]
    rfl
  | cons a W =>
    have hl : (a :: W).length = W.length + 1 := rfl
    rw [hl] at hW hw
    have := hw 0 (by omega)
    rw [hl, if_neg (nI_nle (by omega) (by omega)), if_neg (show ¬ (20 : Int32) < nI (W.length + 1) from nI_nlt (a := 20) (by omega) (by omega)), if_neg (show ¬ (1 : Int32) = 0 by decide), nI_p1, ck_nI (by omega) (by omega), gA_nI (by omega)]
    rw [show W.length + 1 - 1 - 0 = W.length by omega] at this
    rw [this]
    rfl
theorem CL.pf {z k d : Nat} {τ : pS} {s v : Int32} {W E : List Int32} (h : CL z τ s d W E) (hk : k ≠ 0 ∧ k ≠ 5 ∧ k ≠ 6) : CL z (putF τ (z + 135) k v) s d W E := by
  obtain ⟨h0, h5, h6, hw, h1, hS⟩ := h
  refine ⟨?_, ?_, ?_, hw, ?_, hS⟩
  · rw [pf0n (by omega)]
    exact h0
  · rw [pf0n (by omega)]
    exact h5
  · rw [pf0n (by omega)]
    exact h6
  · rw [pf_o (by omega)]
    exact h1
theorem CL.st {z d : Nat} {τ : pS} {s v : Int32} {W E : List Int32} (h : CL z τ s d W E) : CL z (putF τ (z + 135) 0 v) v d W E := by
  obtain ⟨h0, h5, h6, hw, h1, hS⟩ := h
  refine ⟨pf0, ?_, ?_, hw, ?_, hS⟩
  · rw [pf0n (by omega)]
    exact h5
  · rw [pf0n (by omega)]
    exact h6
  · rw [pf_o (by omega)]
    exact h1
theorem CL.dp {z d e : Nat} {τ : pS} {s : Int32} {W E : List Int32} (h : CL z τ s d W E) : CL z (putF τ (z + 135) 5 (nI e)) s e W E := by
  obtain ⟨h0, h5, h6, hw, h1, hS⟩ := h
  refine ⟨?_, pf0, ?_, hw, ?_, hS⟩
  · rw [pf0n (by omega)]
    exact h0
  · rw [pf0n (by omega)]
    exact h6
  · rw [pf_o (by omega)]
    exact h1
theorem CL.pop {z d : Nat} {τ : pS} {s a : Int32} {W E : List Int32} (h : CL z τ s d (a :: W) E) : CL z (putF τ (z + 135) 6 (nI W.length)) s d W E := by
  obtain ⟨h0, h5, h6, hw, h1, hS⟩ := h
  refine ⟨?_, ?_, pf0, fun i hi => ?_, ?_, hS⟩
  · rw [pf0n (by omega)]
    exact h0
  · rw [pf0n (by omega)]
    exact h5
  · have := hw (i + 1) (by show i + 1 < W.length + 1; omega)
    rw [show (a :: W).length = W.length + 1 from rfl, show W.length + 1 - 1 - (i + 1) = W.length - 1 - i by omega] at this
    exact this
  · rw [pf_o (by omega)]
    exact h1
theorem c_push {N z d : Nat} {τ : pS} {s v : Int32} {W E : List Int32} (h : CL z τ s d W E) (hW : W.length < 20) : ∃ υ, fX1_pushWaiting N (G1 z) (z + 135) v τ = some υ ∧ CL z υ s d (v :: W) E ∧ LQ z τ υ := by
  obtain ⟨h0, h5, h6, hw, h1, hS⟩ := h
  unfold fX1_pushWaiting
  simp only [g1r_0_0, g1r_0_1, g1r_0_2, g1r_0_3, g1r_0_4, g1r_0_5, g1r_0_6, g1r_0_7, g1r_0_8, g1r_1_5, g1n_2, g1r_3_0, g1r_3_1, g1r_3_2, g1r_4_9, g1r_4_10, g1r_4_11, g1r_4_12, g1r_4_13, g1r_4_14, g1r_4_15, g1r_4_16, g1r_4_17, g1n_5, g1n_6, g1n_7, g1n_8, g1n_9, g1n_10, g1n_11, g1n_12, g1n_13, g1r_14_2, g1r_14_3, g1r_14_4, g1r_14_5, g1r_14_6, g1n_15, g1n_16, g1n_17, g1n_18, g1n_19, g1r_20_7, g1r_20_8, g1n_21, g1r_22_2, g1n_23, g1r_24_0, g1r_24_1, g1r_24_2, g1r_25_9, g1r_25_10, g1r_25_11, g1r_25_12, g1r_25_13, g1r_25_14, g1r_25_15, g1r_25_16, g1r_25_17, g1n_26, g1n_27, g1n_28, g1n_29, g1n_30, g1n_31, g1n_32, g1n_33, g1n_34, g1r_35_2, g1r_35_3, g1r_35_4, g1r_35_5, g1r_35_6, g1n_36, g1n_37, g1n_38, g1n_39, g1n_40, g1r_41_7, g1r_41_8, g1n_42, g1r_43_2, g1n_44, g1r_45_0, g1r_45_1, g1r_45_2, g1r_46_9, g1r_46_10, g1r_46_11, g1r_46_12, g1r_46_13, g1r_46_14, g1r_46_15, g1r_46_16, g1r_46_17, g1n_47, g1n_48, g1n_49, g1n_50, g1n_51, g1n_52, g1n_53, g1n_54, g1n_55, g1r_56_2, g1r_56_3, g1r_56_4, g1r_56_5, g1r_56_6, g1n_57, g1n_58, g1n_59, g1n_60, g1n_61, g1r_62_7, g1r_62_8, g1n_63, g1r_64_2, g1n_65, g1r_66_2, g1n_67, g1r_68_7, g1r_68_8, g1n_69, g1r_70_2, g1n_71, g1r_72_7, g1r_72_8, g1n_73, g1r_74_2, g1n_75, g1r_76_7, g1r_76_8, g1n_77, g1r_78_2, g1n_79, g1r_80_7, g1r_80_8, g1n_81, g1r_82_2, g1n_83, g1r_84_7, g1r_84_8, g1n_85, g1r_86_2, g1n_87, g1r_88_7, g1r_88_8, g1n_89, g1r_90_2, g1n_91, g1r_92_7, g1r_92_8, g1n_93, g1r_94_2, g1n_95, g1r_96_7, g1r_96_8, g1n_97, g1r_98_2, g1n_99, g1r_100_7, g1r_100_8, g1n_101, g1r_102_2, g1n_103, g1r_104_7, g1r_104_8, g1n_105, g1r_106_2, g1n_107, g1r_108_7, g1r_108_8, g1n_109, g1r_110_2, g1n_111, g1r_112_7, g1r_112_8, g1n_113, g1r_114_2, g1n_115, g1r_116_7, g1r_116_8, g1n_117, g1r_118_2, g1n_119, g1r_120_0, g1r_120_1, g1r_120_2, g1r_121_7, g1r_121_8, g1n_122, g1r_123_2, g1n_124, g1n_125, g1n_126, g1r_127_0, g1r_127_1, g1r_127_2, g1r_127_3, g1r_128_7, g1r_128_8, g1n_129, g1r_130_2, g1n_131, g1n_132, g1n_133, g1n_134, g1r_135_7, g1n_136, g1n_150]
  rw [h6, if_neg (nI_pos (by omega)), if_neg (show ¬ (20 : Int32) ≤ nI W.length from lit_lt (m := 20) hW (by decide)), ck_nI (by omega) (by omega), sa1, h6, nI_1]
  refine ⟨_, rfl, ⟨?_, ?_, pf0, fun i hi => ?_, ?_, fun i hi => ?_⟩, (LQ.r.sa (Or.inl rfl)).pf (by omega)⟩
  · rw [pf0n (by omega), sa1]
    exact h0
  · rw [pf0n (by omega), sa1]
    exact h5
  · have hi : i < W.length + 1 := hi
    rw [pfA, sA_w (n := W.length) (nI_clamp (by omega)), show (v :: W).length = W.length + 1 from rfl]
    cases i with
    | zero =>
      rw [show W.length + 1 - 1 - 0 = W.length by omega, va_up_self]
      rfl
    | succ i =>
      rw [show W.length + 1 - 1 - (i + 1) = W.length - 1 - i by omega, va_up_ne _ _ (by omega)]
      exact hw i (by omega)
  · rw [pf_o (by omega), sa1]
    exact h1
  · rw [pfA, sA_o (by omega)]
    exact hS i hi
theorem nI_m1 {n : Nat} : nI (n + 1) - 1 = nI n := nI_p1 n
theorem c_release {N z d : Nat} {τ : pS} {s v : Int32} {W E : List Int32} (h : CL z τ s d W E) (hW : W.length ≤ 20) (hE : E.length < 400) (hv : v ≠ -1) : ∃ υ, fX1_release N (G1 z) (z + 135) (z + 35) v τ = some υ ∧ LQ z τ υ ∧ υ.1 (z + 135) 0 = τ.1 (z + 135) 0 ∧ ((∃ W', W = v :: W' ∧ CL z υ s d W' (E ++ [v])) ∨ (W.headD (-1) ≠ v ∧ υ = τ)) := by
  unfold fX1_release
  rw [c_top h hW, b_some]
  by_cases q : W.headD (-1) = v
  · rw [if_pos q]
    obtain ⟨υ, x1, x2, x3, x4⟩ := c_addStep (N := N) (v := v) h hE
    rw [x1, b_some]
    cases W with
    | nil => exact absurd q.symm hv
    | cons a W =>
      have q : a = v := q
      subst q
      rw [x2.2.2.1, show (a :: W).length = W.length + 1 from rfl, nI_m1]
      refine ⟨_, rfl, x3.pf (by omega), ?_, Or.inl ⟨W, rfl, x2.pop⟩⟩
      rw [pf0n (by omega), x4]
  · rw [if_neg q]
    exact ⟨τ, rfl, LQ.r, rfl, Or.inr ⟨q, rfl⟩⟩
/-- the atom ends: all NOTs on top are let go -/
theorem c_nots {N z : Nat} {W0 : List Int32} (hN : 20000 < N) (h0 : W0.headD (-1) ≠ 1011) : ∀ (j i d M : Nat) (τ : pS) (s : Int32) (E : List Int32), CL z τ s (d + j) (List.replicate j 1011 ++ W0) E → i + j ≤ 6 → 6 - i < M → E.length + j ≤ 400 → W0.length + j ≤ 20 → ∃ υ, lp (fun (k19 : Int32 × pS → Option (pS)) (b : Int32 × pS) => if (6 : Int32) ≤ b.1 then (fX1_endAtom_b68 N (G1 z) (z + 135) b.2) else ((fX1_topWaiting N (G1 z) (z + 135) b.2).bind (fun q1 => if q1 = (1011 : Int32) then ((fX0_addStep N (G1 z) (z + 35) (1011 : Int32) b.2).bind (fun q2 => k19 (b.1 + (1 : Int32), putF (putF q2 (z + 135) 6 ((q2.1 (z + 135) 6) - (1 : Int32))) (z + 135) 5 (((putF q2 (z + 135) 6 ((q2.1 (z + 135) 6) - (1 : Int32))).1 (z + 135) 5) - (1 : Int32))))) else (fX1_endAtom_b68 N (G1 z) (z + 135) b.2)))) M (nI i, τ) = some υ ∧ CL z υ 8 d W0 (E ++ List.replicate j 1011) ∧ LQ z τ υ := by
  intro j
  induction j with
  | zero =>
    intro i d M τ s E h hi hM hE hW
    have h : CL z τ s d W0 E := h
    rw [show E ++ List.replicate 0 1011 = E by simp]
    refine ⟨putF τ (z + 135) 0 8, lp_one (by omega) (fun q => ?_), h.st, LQ.r.pf (by omega)⟩
    dsimp only
    by_cases c : i = 6
    · rw [c, if_pos l6e]
      rfl
    · rw [if_neg (l6 (by omega)), c_top h (by omega), b_some, if_neg h0]
      rfl
  | succ j ih =>
    intro i d M τ s E h hi hM hE hW
    obtain ⟨M, rfl⟩ : ∃ M', M = M' + 1 := ⟨M - 1, by omega⟩
    have hl : (List.replicate j (1011 : Int32) ++ W0).length = W0.length + j := by
      rw [List.length_append, List.length_replicate]
      omega
    have h : CL z τ s (d + (j + 1)) (1011 :: (List.replicate j 1011 ++ W0)) E := h
    have tp : fX1_topWaiting N (G1 z) (z + 135) τ = some 1011 := c_top (N := N) h (by rw [List.length_cons, hl]; omega)
    obtain ⟨υ, x1, x2, x3, x4⟩ := c_addStep (N := N) (v := 1011) h (by omega)
    have x5 : CL z (putF (putF υ (z + 135) 6 (nI (List.replicate j 1011 ++ W0).length)) (z + 135) 5 (nI (d + j))) s (d + j) (List.replicate j 1011 ++ W0) (E ++ [1011]) := x2.pop.dp
    obtain ⟨ω, y1, y2, y3⟩ := ih (i + 1) d M _ s (E ++ [1011]) x5 (by omega) (by omega) (by rw [List.length_append]; show E.length + 1 + j ≤ 400; omega) (by omega)
    refine ⟨ω, ?_, ?_, (x3.t ((LQ.r.pf (by omega)).pf (by omega))).t y3⟩
    · show (if (6 : Int32) ≤ nI i then _ else ((fX1_topWaiting N (G1 z) (z + 135) τ).bind (fun q1 => if q1 = (1011 : Int32) then ((fX0_addStep N (G1 z) (z + 35) (1011 : Int32) τ).bind (fun q2 => lp _ M (nI i + (1 : Int32), putF (putF q2 (z + 135) 6 ((q2.1 (z + 135) 6) - (1 : Int32))) (z + 135) 5 (((putF q2 (z + 135) 6 ((q2.1 (z + 135) 6) - (1 : Int32))).1 (z + 135) 5) - (1 : Int32))))) else _))) = _
      rw [if_neg (l6 (by omega)), tp, b_some, if_pos rfl, x1, b_some, pf0n (show 5 ≠ 6 by decide), x2.2.1, x2.2.2.1, List.length_cons, nI_m1, show d + (j + 1) = d + j + 1 by omega, nI_m1, nI_1]
      exact y1
    · rw [show E ++ List.replicate (j + 1) 1011 = E ++ [1011] ++ List.replicate j 1011 by
        rw [List.append_assoc]
        rfl]
      exact y2
theorem c_endAtom {N z j d : Nat} {W0 E : List Int32} {τ : pS} {s : Int32} (hN : 20000 < N) (h0 : W0.headD (-1) ≠ 1011) (h : CL z τ s (d + j) (List.replicate j 1011 ++ W0) E) (hj : j ≤ 6) (hE : E.length + j + 1 ≤ 400) (hW : W0.length + j ≤ 20) : ∃ υ, fX1_endAtom N (G1 z) (z + 135) (z + 35) τ = some υ ∧ CL z υ 8 d W0 (E ++ (if s = 7 then [τ.1 (z + 135) 4] else []) ++ List.replicate j 1011) ∧ LQ z τ υ := by
  unfold fX1_endAtom fX1_endAtom_b17 fX1_endAtom_b19
  rw [h.1]
  by_cases q : s = 7
  · rw [if_pos q, if_pos q]
    obtain ⟨υ, x1, x2, x3, x4⟩ := c_addStep (N := N) (v := τ.1 (z + 135) 4) h (by omega)
    rw [x1, b_some]
    obtain ⟨ω, y1, y2, y3⟩ := c_nots (N := N) (z := z) hN h0 j 0 d N υ s _ x2 (by omega) (by omega) (by rw [List.length_append]; show E.length + 1 + j ≤ 400; omega) hW
    exact ⟨ω, y1, y2, x3.t y3⟩
  · rw [if_neg q, if_neg q, List.append_nil]
    exact c_nots (N := N) (z := z) hN h0 j 0 d N τ s E h (by omega) (by omega) (by omega) hW
