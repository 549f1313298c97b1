/-! image, back, undo -/
def PI (o k : Nat) : Bool := decide (o < 46 ∨ 66 ≤ o) && !(o == 0 && k == 10)
def QI (o : Nat) : Bool := decide (o < 46 ∨ 66 ≤ o)
theorem r_image {N y : Nat} {σ : pS} (hN : 20000 < N) : fX12_image N (G2 y) y σ = some (putF (rowA (putF σ y 0 0) (y + 2) (cpF (σ.2.1 (y + 2)) (σ.2.1 (y + 1)) 0 1232)) y 6 1) := by
  unfold fX12_image fX12_image_b7
  simp only [g2r_0_1, g2r_0_2, g2r_0_3, g2r_0_4, g2r_0_5, g2r_0_8, g2r_0_15, g2r_0_17, g2r_0_25, g2r_0_26, g2r_0_27, g2r_0_28, g2n_1, g2n_2, g2n_3, g2n_4, g2n_5, g2n_6, g2n_7, g2n_8, g2n_9, g2n_10, g2n_11, g2n_12]
  have h0 : ((0 : Int32), putF σ y 0 0) = (nI 0, rowA (putF σ y 0 0) (y + 2) (cpF (σ.2.1 (y + 2)) (σ.2.1 (y + 1)) 0 0)) := by
    rw [cpF_0, show σ.2.1 (y + 2) = (putF σ y 0 0).2.1 (y + 2) from rfl, rowA_self]
    rfl
  rw [h0]
  refine lp_for (fun k => (nI k, rowA (putF σ y 0 0) (y + 2) (cpF (σ.2.1 (y + 2)) (σ.2.1 (y + 1)) 0 k))) 1232 _ (by omega) ?_ ?_
  · intro k hk q
    dsimp only
    rw [if_neg (show ¬ (1232 : Int32) ≤ nI k from lit_lt (m := 1232) hk (by decide)), ck_nI (by omega) (by omega), ck_nI (by omega) (by omega), gA_nI (by omega), row_o (by omega), sA_rowA (nI_clamp (by omega)), pfA, cpF_s0, nI_1]
  · intro q
    dsimp only
    rw [if_pos (show (1232 : Int32) ≤ nI 1232 from lit_end)]
theorem r_back {N y : Nat} {σ : pS} (hN : 20000 < N) (h6 : ¬ σ.1 y 6 = 0) : fX12_back N (G2 y) y σ = some (1, putF (rowA (putF σ y 0 0) (y + 1) (cpF (σ.2.1 (y + 1)) (σ.2.1 (y + 2)) 0 1232)) y 7 0) := by
  unfold fX12_back fX12_back_b16
  simp only [g2r_0_1, g2r_0_2, g2r_0_3, g2r_0_4, g2r_0_5, g2r_0_8, g2r_0_15, g2r_0_17, g2r_0_25, g2r_0_26, g2r_0_27, g2r_0_28, g2n_1, g2n_2, g2n_3, g2n_4, g2n_5, g2n_6, g2n_7, g2n_8, g2n_9, g2n_10, g2n_11, g2n_12]
  rw [pf0n (by decide), if_neg h6]
  have h0 : ((0 : Int32), putF σ y 0 0) = (nI 0, rowA (putF σ y 0 0) (y + 1) (cpF (σ.2.1 (y + 1)) (σ.2.1 (y + 2)) 0 0)) := by
    rw [cpF_0, show σ.2.1 (y + 1) = (putF σ y 0 0).2.1 (y + 1) from rfl, rowA_self]
    rfl
  rw [h0]
  refine lp_for (fun k => (nI k, rowA (putF σ y 0 0) (y + 1) (cpF (σ.2.1 (y + 1)) (σ.2.1 (y + 2)) 0 k))) 1232 _ (by omega) ?_ ?_
  · intro k hk q
    dsimp only
    rw [if_neg (show ¬ (1232 : Int32) ≤ nI k from lit_lt (m := 1232) hk (by decide)), ck_nI (by omega) (by omega), ck_nI (by omega) (by omega), gA_nI (by omega), row_o (by omega), sA_rowA (nI_clamp (by omega)), pfA, cpF_s0, nI_1]
  · intro q
    dsimp only
    rw [if_pos (show (1232 : Int32) ≤ nI 1232 from lit_end)]
theorem cpF_lt {D S : Nat → Int32} {n k : Nat} (h : k < n) : cpF D S 0 n k = S k := by
  have := cpF_in (D := D) (S := S) (lo := 0) h
  rw [Nat.zero_add] at this
  exact this
theorem cpF_ge {D S : Nat → Int32} {n k : Nat} (h : n ≤ k) : cpF D S 0 n k = D k := cpF_out (by omega)
theorem gd_image {N z y : Nat} (hN : 20000 < N) : Gd_image N (G1 z) (G2 y) z y (z + 150) (Sim z y) := by
  intro σ1 σ2 h
  obtain ⟨τ, t1, t2, t3, t4, t5⟩ := c_copyW (N := N) (z := z) (A := z + 45) (B := z + 3) (a := z + 46) (b := z + 4) (by omega) wa_46 wa_4 h.1
  refine ⟨putF τ z 10 1, _, ?_, r_image hN, ?_⟩
  · unfold fX11_image
    simp only [g1r_0_0, g1r_0_1, g1r_0_2, g1r_0_3, g1r_0_4, g1r_0_5, g1r_0_6, g1r_0_7, g1r_0_8, g1r_1_5, g1n_2, g1r_3_0, g1r_3_1, g1r_3_2, g1r_4_9, g1r_4_10, g1r_4_11, g1r_4_12, g1r_4_13, g1r_4_14, g1r_4_15, g1r_4_16, g1r_4_17, g1n_5, g1n_6, g1n_7, g1n_8, g1n_9, g1n_10, g1n_11, g1n_12, g1n_13, g1r_14_2, g1r_14_3, g1r_14_4, g1r_14_5, g1r_14_6, g1n_15, g1n_16, g1n_17, g1n_18, g1n_19, g1r_20_7, g1r_20_8, g1n_21, g1r_22_2, g1n_23, g1r_24_0, g1r_24_1, g1r_24_2, g1r_25_9, g1r_25_10, g1r_25_11, g1r_25_12, g1r_25_13, g1r_25_14, g1r_25_15, g1r_25_16, g1r_25_17, g1n_26, g1n_27, g1n_28, g1n_29, g1n_30, g1n_31, g1n_32, g1n_33, g1n_34, g1r_35_2, g1r_35_3, g1r_35_4, g1r_35_5, g1r_35_6, g1n_36, g1n_37, g1n_38, g1n_39, g1n_40, g1r_41_7, g1r_41_8, g1n_42, g1r_43_2, g1n_44, g1r_45_0, g1r_45_1, g1r_45_2, g1r_46_9, g1r_46_10, g1r_46_11, g1r_46_12, g1r_46_13, g1r_46_14, g1r_46_15, g1r_46_16, g1r_46_17, g1n_47, g1n_48, g1n_49, g1n_50, g1n_51, g1n_52, g1n_53, g1n_54, g1n_55, g1r_56_2, g1r_56_3, g1r_56_4, g1r_56_5, g1r_56_6, g1n_57, g1n_58, g1n_59, g1n_60, g1n_61, g1r_62_7, g1r_62_8, g1n_63, g1r_64_2, g1n_65, g1r_66_2, g1n_67, g1r_68_7, g1r_68_8, g1n_69, g1r_70_2, g1n_71, g1r_72_7, g1r_72_8, g1n_73, g1r_74_2, g1n_75, g1r_76_7, g1r_76_8, g1n_77, g1r_78_2, g1n_79, g1r_80_7, g1r_80_8, g1n_81, g1r_82_2, g1n_83, g1r_84_7, g1r_84_8, g1n_85, g1r_86_2, g1n_87, g1r_88_7, g1r_88_8, g1n_89, g1r_90_2, g1n_91, g1r_92_7, g1r_92_8, g1n_93, g1r_94_2, g1n_95, g1r_96_7, g1r_96_8, g1n_97, g1r_98_2, g1n_99, g1r_100_7, g1r_100_8, g1n_101, g1r_102_2, g1n_103, g1r_104_7, g1r_104_8, g1n_105, g1r_106_2, g1n_107, g1r_108_7, g1r_108_8, g1n_109, g1r_110_2, g1n_111, g1r_112_7, g1r_112_8, g1n_113, g1r_114_2, g1n_115, g1r_116_7, g1r_116_8, g1n_117, g1r_118_2, g1n_119, g1r_120_0, g1r_120_1, g1r_120_2, g1r_121_7, g1r_121_8, g1n_122, g1r_123_2, g1n_124, g1n_125, g1n_126, g1r_127_0, g1r_127_1, g1r_127_2, g1r_127_3, g1r_128_7, g1r_128_8, g1n_129, g1r_130_2, g1n_131, g1n_132, g1n_133, g1n_134, g1r_135_7, g1n_136, g1n_150]
    rw [t1, b_some]
  obtain ⟨h1, h2, h3, ⟨h4, h5, h6⟩, h7, h8⟩ := h
  have e1 : EE PI QI z σ1 (putF τ z 10 1) := by
    refine ⟨fun o k e => ?_, fun o e => ?_⟩
    · unfold PI at e
      simp at e
      rw [pf1, if_neg (fun q => by
        have := q.1
        have := q.2
        omega)]
      exact t3 _ _ (by omega)
    · unfold QI at e
      simp at e
      exact t4 _ (by omega)
  have f0 : ∀ k, k ≠ 0 → k ≠ 6 → (putF (rowA (putF σ2 y 0 0) (y + 2) (cpF (σ2.2.1 (y + 2)) (σ2.2.1 (y + 1)) 0 1232)) y 6 1).1 y k = σ2.1 y k := by
    intro k a b
    rw [pf0n b]
    show (putF σ2 y 0 0).1 y k = _
    rw [pf0n a]
  have a0 : ∀ j, j ≠ 2 → (putF (rowA (putF σ2 y 0 0) (y + 2) (cpF (σ2.2.1 (y + 2)) (σ2.2.1 (y + 1)) 0 1232)) y 6 1).2.1 (y + j) = σ2.2.1 (y + j) := by
    intro j hj
    rw [pfA, row_o (by omega)]
    rfl
  unfold Sim
  rw [f0 7 (by decide) (by decide), f0 14 (by decide) (by decide), f0 9 (by decide) (by decide), a0 1 (by decide), a0 5 (by decide), a0 6 (by decide), pf0, pf0]
  refine ⟨e1.wor (fun k => ⟨rfl, rfl, rfl⟩) rfl (by decide) h1, e1.past (fun o a b k => by unfold PI; simp; omega) (fun o a b => by unfold QI; simp; omega) h2, h3, ⟨rfl, Or.inr rfl, fun _ => ?_⟩, (e1.1 0 9 rfl).trans h7, (e1.1 1 0 rfl).trans h8.1, h8.2.1, h8.2.2.1, fun i hi => ?_⟩
  · have k1 : EE (fun o _ => decide (46 ≤ o)) (fun o => decide (46 ≤ o)) z τ (putF τ z 10 1) := by
      refine ⟨fun o k e => ?_, fun o e => rfl⟩
      simp at e
      rw [pf1, if_neg (by omega)]
    refine k1.wor (fun k => ⟨rfl, rfl, rfl⟩) rfl (by decide) ?_
    rw [pfA, row_s]
    exact world_b (fun k hk => cpF_lt hk) t2
  · rw [e1.2 2 rfl]
    exact h8.2.2.2 i hi
/-- the world is another one: the tape, the image and the fault stay, no act is remembered -/
def PB (o k : Nat) : Bool := (decide (o < 4 ∨ 24 ≤ o)) && !(o == 66 && k == 0)
def QB (o : Nat) : Bool := decide (o < 4 ∨ 24 ≤ o)
theorem Sim.new {z y : Nat} {σ1 σ2 τ1 τ2 : pS} (h : Sim z y σ1 σ2) (e1 : ∀ o k, (o = 0 ∧ k = 10 ∨ 46 ≤ o ∧ o < 66 ∨ o = 66 ∧ k = 1) → τ1.1 (z + o) k = σ1.1 (z + o) k) (eA : ∀ o, 46 ≤ o → o < 66 → τ1.2.1 (z + o) = σ1.2.1 (z + o)) (f : τ2.1 y 6 = σ2.1 y 6) (a : τ2.2.1 (y + 2) = σ2.2.1 (y + 2)) (hw : WorldR τ1 (z + 4) (τ2.2.1 (y + 1))) (h7 : τ2.1 y 7 = 0) (hp : τ1.1 (z + 66) 0 = 0) (h14 : τ1.1 z 9 = τ2.1 y 14) (ht : τ1.1 (z + 1) 0 = τ2.1 y 9 ∧ 0 ≤ (τ2.1 y 9).toInt ∧ (τ2.1 y 9).toInt ≤ 400 ∧ ∀ i, i < (τ2.1 y 9).toInt.toNat → τ1.2.1 (z + 2) i = τ2.2.1 (y + 6) i ∧ ByteR (τ2.2.1 (y + 6) i)) : Sim z y τ1 τ2 := by
  obtain ⟨h1, h2, h3, ⟨h4, h5, h6⟩, _, _⟩ := h
  obtain ⟨_, _, j, hj, p1, _⟩ := h2
  have k1 : EE (fun o _ => decide (46 ≤ o ∧ o < 66)) (fun o => decide (46 ≤ o ∧ o < 66)) z σ1 τ1 := ⟨fun o k e => e1 o k (by simp at e; omega), fun o e => eA o (by simp at e; omega) (by simp at e; omega)⟩
  refine ⟨hw, ⟨by rw [h7]; decide, by rw [h7]; exact hp, j, hj, (e1 66 1 (by omega)).trans p1, fun i hi => ?_⟩, by rw [h7]; decide, ⟨?_, by rw [f]; exact h5, fun e => ?_⟩, h14, ht⟩
  · rw [h7, show (0 : Int32).toInt.toNat = 0 from rfl] at hi
    omega
  · rw [f]
    exact (e1 0 10 (by omega)).trans h4
  · rw [f] at e
    rw [a]
    exact k1.wor (fun k => ⟨rfl, rfl, rfl⟩) rfl (by decide) (h6 e)
theorem gd_back {N z y : Nat} (hN : 20000 < N) : Gd_back N (G1 z) (G2 y) z y (z + 150) (Sim z y) := by
  intro σ1 σ2 h
  have hk := h.2.2.2.1
  by_cases e : σ2.1 y 6 = 0
  · refine ⟨0, σ1, putF σ2 y 0 0, ?_, ?_, h.t0⟩
    · unfold fX11_back
      rw [hk.1, if_pos e]
    · unfold fX12_back
      rw [pf0n (by decide), if_pos e]
  · have e1 : σ2.1 y 6 = 1 := by
      rcases hk.2.1 with q | q
      · exact absurd q e
      · exact q
    obtain ⟨τ, t1, t2, t3, t4, t5⟩ := c_copyW (N := N) (z := z) (A := z + 3) (B := z + 45) (a := z + 4) (b := z + 46) (by omega) wa_4 wa_46 (hk.2.2 e1)
    refine ⟨1, putF τ (z + 66) 0 0, _, ?_, r_back hN e, ?_⟩
    · unfold fX11_back
      simp only [g1r_0_0, g1r_0_1, g1r_0_2, g1r_0_3, g1r_0_4, g1r_0_5, g1r_0_6, g1r_0_7, g1r_0_8, g1r_1_5, g1n_2, g1r_3_0, g1r_3_1, g1r_3_2, g1r_4_9, g1r_4_10, g1r_4_11, g1r_4_12, g1r_4_13, g1r_4_14, g1r_4_15, g1r_4_16, g1r_4_17, g1n_5, g1n_6, g1n_7, g1n_8, g1n_9, g1n_10, g1n_11, g1n_12, g1n_13, g1r_14_2, g1r_14_3, g1r_14_4, g1r_14_5, g1r_14_6, g1n_15, g1n_16, g1n_17, g1n_18, g1n_19, g1r_20_7, g1r_20_8, g1n_21, g1r_22_2, g1n_23, g1r_24_0, g1r_24_1, g1r_24_2, g1r_25_9, g1r_25_10, g1r_25_11, g1r_25_12, g1r_25_13, g1r_25_14, g1r_25_15, g1r_25_16, g1r_25_17, g1n_26, g1n_27, g1n_28, g1n_29, g1n_30, g1n_31, g1n_32, g1n_33, g1n_34, g1r_35_2, g1r_35_3, g1r_35_4, g1r_35_5, g1r_35_6, g1n_36, g1n_37, g1n_38, g1n_39, g1n_40, g1r_41_7, g1r_41_8, g1n_42, g1r_43_2, g1n_44, g1r_45_0, g1r_45_1, g1r_45_2, g1r_46_9, g1r_46_10, g1r_46_11, g1r_46_12, g1r_46_13, g1r_46_14, g1r_46_15, g1r_46_16, g1r_46_17, g1n_47, g1n_48, g1n_49, g1n_50, g1n_51, g1n_52, g1n_53, g1n_54, g1n_55, g1r_56_2, g1r_56_3, g1r_56_4, g1r_56_5, g1r_56_6, g1n_57, g1n_58, g1n_59, g1n_60, g1n_61, g1r_62_7, g1r_62_8, g1n_63, g1r_64_2, g1n_65, g1r_66_2, g1n_67, g1r_68_7, g1r_68_8, g1n_69, g1r_70_2, g1n_71, g1r_72_7, g1r_72_8, g1n_73, g1r_74_2, g1n_75, g1r_76_7, g1r_76_8, g1n_77, g1r_78_2, g1n_79, g1r_80_7, g1r_80_8, g1n_81, g1r_82_2, g1n_83, g1r_84_7, g1r_84_8, g1n_85, g1r_86_2, g1n_87, g1r_88_7, g1r_88_8, g1n_89, g1r_90_2, g1n_91, g1r_92_7, g1r_92_8, g1n_93, g1r_94_2, g1n_95, g1r_96_7, g1r_96_8, g1n_97, g1r_98_2, g1n_99, g1r_100_7, g1r_100_8, g1n_101, g1r_102_2, g1n_103, g1r_104_7, g1r_104_8, g1n_105, g1r_106_2, g1n_107, g1r_108_7, g1r_108_8, g1n_109, g1r_110_2, g1n_111, g1r_112_7, g1r_112_8, g1n_113, g1r_114_2, g1n_115, g1r_116_7, g1r_116_8, g1n_117, g1r_118_2, g1n_119, g1r_120_0, g1r_120_1, g1r_120_2, g1r_121_7, g1r_121_8, g1n_122, g1r_123_2, g1n_124, g1n_125, g1n_126, g1r_127_0, g1r_127_1, g1r_127_2, g1r_127_3, g1r_128_7, g1r_128_8, g1n_129, g1r_130_2, g1n_131, g1n_132, g1n_133, g1n_134, g1r_135_7, g1n_136, g1n_150]
      rw [hk.1, if_neg e, t1, b_some]
      rfl
    have f0 : ∀ k, k ≠ 0 → k ≠ 7 → (putF (rowA (putF σ2 y 0 0) (y + 1) (cpF (σ2.2.1 (y + 1)) (σ2.2.1 (y + 2)) 0 1232)) y 7 0).1 y k = σ2.1 y k := by
      intro k a b
      rw [pf0n b]
      show (putF σ2 y 0 0).1 y k = _
      rw [pf0n a]
    have a0 : ∀ j, j ≠ 1 → (putF (rowA (putF σ2 y 0 0) (y + 1) (cpF (σ2.2.1 (y + 1)) (σ2.2.1 (y + 2)) 0 1232)) y 7 0).2.1 (y + j) = σ2.2.1 (y + j) := by
      intro j hj
      rw [pfA, row_o (by omega)]
      rfl
    have c0 : ∀ o k, (o < 4 ∨ 24 ≤ o) → ¬ (o = 66 ∧ k = 0) → (putF τ (z + 66) 0 0).1 (z + o) k = σ1.1 (z + o) k := by
      intro o k a b
      rw [pf1, if_neg (by omega)]
      exact t3 _ _ (by omega)
    have k1 : EE (fun o _ => decide (o < 66)) (fun _ => true) z τ (putF τ (z + 66) 0 0) := by
      refine ⟨fun o k e => ?_, fun o e => rfl⟩
      simp at e
      rw [pf1, if_neg (by omega)]
    refine h.new (fun o k hh => c0 o k (by omega) (by omega)) (fun o a b => t4 _ (by omega)) (f0 6 (by decide) (by decide)) (a0 2 (by decide)) ?_ pf0 pf0 ?_ ?_
    · refine k1.wor (fun k => ⟨rfl, rfl, rfl⟩) rfl (by decide) ?_
      rw [pfA, row_s]
      exact world_b (fun k hk => cpF_lt hk) t2
    · rw [f0 14 (by decide) (by decide)]
      exact (c0 0 9 (by omega) (by omega)).trans h.2.2.2.2.1
    · have ht := h.2.2.2.2.2
      rw [f0 9 (by decide) (by decide), a0 6 (by decide)]
      refine ⟨(c0 1 0 (by omega) (by omega)).trans ht.1, ht.2.1, ht.2.2.1, fun i hi => ?_⟩
      rw [show (putF τ (z + 66) 0 0).2.1 (z + 2) = σ1.2.1 (z + 2) from t4 _ (by omega)]
      exact ht.2.2.2 i hi
theorem r_undo {N y n : Nat} {σ : pS} (hN : 20000 < N) (hn : n < 12) (h7 : σ.1 y 7 = nI (n + 1)) : fX12_undo N (G2 y) y σ = some (1, rowA (putF (putF σ y 0 0) y 7 (nI n)) (y + 1) (cpF (σ.2.1 (y + 1)) (fun k => σ.2.1 (y + 5) (383 * n + k)) 0 383)) := by
  unfold fX12_undo fX12_undo_b26
  simp only [g2r_0_1, g2r_0_2, g2r_0_3, g2r_0_4, g2r_0_5, g2r_0_8, g2r_0_15, g2r_0_17, g2r_0_25, g2r_0_26, g2r_0_27, g2r_0_28, g2n_1, g2n_2, g2n_3, g2n_4, g2n_5, g2n_6, g2n_7, g2n_8, g2n_9, g2n_10, g2n_11, g2n_12]
  rw [pf0n (by decide), h7, if_neg (nI_ne0 (by omega) (by omega)), nI_p1]
  have h0 : ((0 : Int32), putF (putF σ y 0 0) y 7 (nI n)) = (nI 0, rowA (putF (putF σ y 0 0) y 7 (nI n)) (y + 1) (cpF (σ.2.1 (y + 1)) (fun k => σ.2.1 (y + 5) (383 * n + k)) 0 0)) := by
    rw [cpF_0, show σ.2.1 (y + 1) = (putF (putF σ y 0 0) y 7 (nI n)).2.1 (y + 1) from rfl, rowA_self]
    rfl
  rw [h0]
  refine lp_for (fun k => (nI k, rowA (putF (putF σ y 0 0) y 7 (nI n)) (y + 1) (cpF (σ.2.1 (y + 1)) (fun k => σ.2.1 (y + 5) (383 * n + k)) 0 k))) 383 _ (by omega) ?_ ?_
  · intro k hk q
    dsimp only
    rw [if_neg (show ¬ (383 : Int32) ≤ nI k from lit_lt (m := 383) hk (by decide)), show (rowA (putF (putF σ y 0 0) y 7 (nI n)) (y + 1) (cpF (σ.2.1 (y + 1)) (fun k => σ.2.1 (y + 5) (383 * n + k)) 0 k)).1 y 7 = nI n from pf0, show (383 : Int32) * nI n + nI k = nI (383 * n + k) from by rw [show (383 : Int32) = nI 383 from rfl, nI_mul, nI_add], ck_nI (by omega) (by omega), ck_nI (by omega) (by omega), gA_nI (by omega), row_o (by omega), sA_rowA (nI_clamp (by omega)), pfA, pfA, cpF_s0 (S := fun k => σ.2.1 (y + 5) (383 * n + k)), nI_1]
  · intro q
    dsimp only
    rw [if_pos (show (383 : Int32) ≤ nI 383 from lit_end)]
theorem gd_undo {N z y : Nat} (hN : 20000 < N) : Gd_undo N (G1 z) (G2 y) z y (z + 150) (Sim z y) := by
  intro σ1 σ2 h
  obtain ⟨hn, p0, j, hj, p1, pr⟩ := h.2.1
  have n12 := h.2.2.1
  have e7 : σ2.1 y 7 = nI (σ2.1 y 7).toInt.toNat := nI_cN n12.1
  generalize hnn : (σ2.1 y 7).toInt.toNat = n at hn p0 pr e7
  unfold fX11_undo fX4_recall fX4_newestRow
  simp only [g1r_0_0, g1r_0_1, g1r_0_2, g1r_0_3, g1r_0_4, g1r_0_5, g1r_0_6, g1r_0_7, g1r_0_8, g1r_1_5, g1n_2, g1r_3_0, g1r_3_1, g1r_3_2, g1r_4_9, g1r_4_10, g1r_4_11, g1r_4_12, g1r_4_13, g1r_4_14, g1r_4_15, g1r_4_16, g1r_4_17, g1n_5, g1n_6, g1n_7, g1n_8, g1n_9, g1n_10, g1n_11, g1n_12, g1n_13, g1r_14_2, g1r_14_3, g1r_14_4, g1r_14_5, g1r_14_6, g1n_15, g1n_16, g1n_17, g1n_18, g1n_19, g1r_20_7, g1r_20_8, g1n_21, g1r_22_2, g1n_23, g1r_24_0, g1r_24_1, g1r_24_2, g1r_25_9, g1r_25_10, g1r_25_11, g1r_25_12, g1r_25_13, g1r_25_14, g1r_25_15, g1r_25_16, g1r_25_17, g1n_26, g1n_27, g1n_28, g1n_29, g1n_30, g1n_31, g1n_32, g1n_33, g1n_34, g1r_35_2, g1r_35_3, g1r_35_4, g1r_35_5, g1r_35_6, g1n_36, g1n_37, g1n_38, g1n_39, g1n_40, g1r_41_7, g1r_41_8, g1n_42, g1r_43_2, g1n_44, g1r_45_0, g1r_45_1, g1r_45_2, g1r_46_9, g1r_46_10, g1r_46_11, g1r_46_12, g1r_46_13, g1r_46_14, g1r_46_15, g1r_46_16, g1r_46_17, g1n_47, g1n_48, g1n_49, g1n_50, g1n_51, g1n_52, g1n_53, g1n_54, g1n_55, g1r_56_2, g1r_56_3, g1r_56_4, g1r_56_5, g1r_56_6, g1n_57, g1n_58, g1n_59, g1n_60, g1n_61, g1r_62_7, g1r_62_8, g1n_63, g1r_64_2, g1n_65, g1r_66_2, g1n_67, g1r_68_7, g1r_68_8, g1n_69, g1r_70_2, g1n_71, g1r_72_7, g1r_72_8, g1n_73, g1r_74_2, g1n_75, g1r_76_7, g1r_76_8, g1n_77, g1r_78_2, g1n_79, g1r_80_7, g1r_80_8, g1n_81, g1r_82_2, g1n_83, g1r_84_7, g1r_84_8, g1n_85, g1r_86_2, g1n_87, g1r_88_7, g1r_88_8, g1n_89, g1r_90_2, g1n_91, g1r_92_7, g1r_92_8, g1n_93, g1r_94_2, g1n_95, g1r_96_7, g1r_96_8, g1n_97, g1r_98_2, g1n_99, g1r_100_7, g1r_100_8, g1n_101, g1r_102_2, g1n_103, g1r_104_7, g1r_104_8, g1n_105, g1r_106_2, g1n_107, g1r_108_7, g1r_108_8, g1n_109, g1r_110_2, g1n_111, g1r_112_7, g1r_112_8, g1n_113, g1r_114_2, g1n_115, g1r_116_7, g1r_116_8, g1n_117, g1r_118_2, g1n_119, g1r_120_0, g1r_120_1, g1r_120_2, g1r_121_7, g1r_121_8, g1n_122, g1r_123_2, g1n_124, g1n_125, g1n_126, g1r_127_0, g1r_127_1, g1r_127_2, g1r_127_3, g1r_128_7, g1r_128_8, g1n_129, g1r_130_2, g1n_131, g1n_132, g1n_133, g1n_134, g1r_135_7, g1n_136, g1n_150]
  rw [p1, if_neg (nI_pos (by omega)), if_neg (show ¬ (12 : Int32) ≤ nI j from lit_lt (m := 12) hj (by decide)), ck_nI hj (by omega), nI_clamp (by omega), b_some]
  by_cases e : n = 0
  · subst e
    refine ⟨0, σ1, putF σ2 y 0 0, ?_, ?_, h.t0⟩
    · show ((if σ1.1 (z + 66) 0 = 0 then _ else _ : Option (Int32 × pS))).bind _ = _
      rw [p0, if_pos (show nI 0 = 0 from rfl)]
      rfl
    · unfold fX12_undo
      rw [pf0n (by decide), e7, if_pos (show nI 0 = 0 from rfl)]
  obtain ⟨n, rfl⟩ : ∃ m, n = m + 1 := ⟨n - 1, by omega⟩
  obtain ⟨d1, d2, d3, d4⟩ := pr 0 (by omega)
  rw [show (j + 12 - 0) % 12 = j by omega, show n + 1 - 1 - 0 = n by omega] at d3 d4
  rw [show n + 1 - 1 - 0 = n by omega] at d1 d2
  obtain ⟨τ, g1, g2, g3, g4, g5, g6, g7, g8⟩ := c_copyM (N := N) (σ := σ1) (show z + 20 + 4 ≤ z + (68 + 4 * j) ∨ z + (68 + 4 * j) + 4 ≤ z + 20 by omega) ma_20 (ma_past hj) (by
    rw [d3.2.2.2.2.2.2.1]
    exact isZ_of d1.a01)
  have h66 : ∀ k, τ.1 (z + 66) k = σ1.1 (z + 66) k := fun k => g4 _ _ (by omega) (by omega)
  have jj : (if nI j ≤ 0 then (11 : Int32) else nI j - 1) = nI ((j + 11) % 12) := by
    by_cases q : j = 0
    · rw [q]
      decide
    · obtain ⟨i, rfl⟩ : ∃ i, j = i + 1 := ⟨j - 1, by omega⟩
      rw [if_neg (nI_nle (by omega) (by omega)), nI_p1, show (i + 1 + 11) % 12 = i by omega]
  refine ⟨1, putF (putF τ (z + 66) 1 (nI ((j + 11) % 12))) (z + 66) 0 (nI n), _, ?_, r_undo hN (by omega) e7, ?_⟩
  · show ((if σ1.1 (z + 66) 0 = 0 then _ else ((fX3_copyFrom N (G1 z) (z + 20) (pQ (G1 z) (z + 67) j) σ1).bind _) : Option (Int32 × pS))).bind _ = _
    rw [p0, if_neg (nI_ne0 (by omega) (by omega)), pq_past hj, g1, b_some, h66, p1]
    unfold fX4_recall_b42
    by_cases q : nI j ≤ 0
    · rw [if_pos q] at jj
      rw [if_pos q, b_some, pf0n (by decide), h66, p0, nI_p1, jj]
      rfl
    · rw [if_neg q] at jj
      rw [if_neg q, b_some, pf0n (by decide), h66, p0, nI_p1, jj]
      rfl
  have hr : (j + 11) % 12 < 12 := Nat.mod_lt _ (by omega)
  have F : ∀ c k, c ≠ 66 → (putF (putF τ (z + 66) 1 (nI ((j + 11) % 12))) (z + 66) 0 (nI n)).1 (z + c) k = τ.1 (z + c) k := fun c k hc => by rw [pf_o (by omega), pf_o (by omega)]
  have ef : ∀ k, k < 383 → cpF (σ2.2.1 (y + 1)) (fun k => σ2.2.1 (y + 5) (383 * n + k)) 0 383 k = σ2.2.1 (y + 5) (383 * n + k) := fun k hk => cpF_lt hk
  have ew : ∀ k, mindK k = false → cpF (σ2.2.1 (y + 1)) (fun k => σ2.2.1 (y + 5) (383 * n + k)) 0 383 k = σ2.2.1 (y + 1) k := by
    intro k hk
    rcases Nat.lt_or_ge k 383 with q | q
    · rw [ef k q]
      exact d2 k q hk
    · exact cpF_ge q
  have nw : (rowA (putF (putF σ2 y 0 0) y 7 (nI n)) (y + 1) (cpF (σ2.2.1 (y + 1)) (fun k => σ2.2.1 (y + 5) (383 * n + k)) 0 383)).2.1 (y + 1) = cpF (σ2.2.1 (y + 1)) (fun k => σ2.2.1 (y + 5) (383 * n + k)) 0 383 := row_s
  have n7 : (rowA (putF (putF σ2 y 0 0) y 7 (nI n)) (y + 1) (cpF (σ2.2.1 (y + 1)) (fun k => σ2.2.1 (y + 5) (383 * n + k)) 0 383)).1 y 7 = nI n := pf0
  have a5 : (rowA (putF (putF σ2 y 0 0) y 7 (nI n)) (y + 1) (cpF (σ2.2.1 (y + 1)) (fun k => σ2.2.1 (y + 5) (383 * n + k)) 0 383)).2.1 (y + 5) = σ2.2.1 (y + 5) := row_o (by omega)
  refine h.act ⟨fun o k e => ?_, fun o e => ?_⟩ (fun k hk => ?_) (fun i hi => row_o (by omega)) (by rw [nw]; exact ew) ?_ ?_ ?_ ?_ ?_
  · have h20 : o ≠ 20 := fun q => by rw [q] at e; cases e
    have h22 : o ≠ 22 := fun q => by rw [q] at e; cases e
    have h66' : o ≠ 66 := fun q => by rw [q] at e; cases e
    rw [F o k h66']
    exact g4 _ _ (by omega) (by omega)
  · have h21 : o ≠ 21 := fun q => by rw [q] at e; cases e
    have h23 : o ≠ 23 := fun q => by rw [q] at e; cases e
    exact g7 _ (by omega) (by omega)
  · show (putF (putF σ2 y 0 0) y 7 (nI n)).1 y k = _
    rw [pf0n (by omega), pf0n (by omega)]
  · rw [nw]
    exact MInv_w d1.c1 d1.c15.2 ef d1.m
  · rw [nw]
    refine mind_w d1.c1 ef (mind_c d1.c1 (fun k hk => ?_) (fun i hi => ?_) d3)
    · rw [F 20 k (by decide)]
      exact g2 k hk
    · have := g5 i hi
      rw [show z + (68 + 4 * j) + 1 = z + (69 + 4 * j) by omega] at this
      exact this
  · rw [nw]
    refine log_w d1.c15.2 ef (log_p (fun k hk => ?_) (fun i hi => ?_) d4)
    · rw [F 22 k (by decide)]
      have := g3 k hk
      rw [show z + (68 + 4 * j) + 2 = z + (70 + 4 * j) by omega] at this
      exact this
    · have := g6 i hi
      rw [show z + (68 + 4 * j) + 3 = z + (71 + 4 * j) by omega] at this
      exact this
  · rw [nw, n7, a5, nI_toInt (by omega), Int.toNat_natCast]
    refine ⟨by omega, pf0, (j + 11) % 12, hr, by rw [pf0n (by decide), pf0], fun i hi => ?_⟩
    obtain ⟨b1, b2, b3, b4⟩ := pr (i + 1) (by omega)
    have em : ((j + 11) % 12 + 12 - i) % 12 = (j + 12 - (i + 1)) % 12 := by omega
    have rr : (j + 12 - (i + 1)) % 12 < 12 := Nat.mod_lt _ (by omega)
    rw [em, show n - 1 - i = n + 1 - 1 - (i + 1) by omega]
    refine ⟨b1, fun k hk hm => (b2 k hk hm).trans (ew k hm).symm, ?_, ?_⟩
    · rw [show (putF (putF τ (z + 66) 1 (nI ((j + 11) % 12))) (z + 66) 0 (nI n)).1 (z + (68 + 4 * ((j + 12 - (i + 1)) % 12))) = σ1.1 (z + (68 + 4 * ((j + 12 - (i + 1)) % 12))) from funext fun k => (F _ k (by omega)).trans (g4 _ _ (by omega) (by omega)), show (putF (putF τ (z + 66) 1 (nI ((j + 11) % 12))) (z + 66) 0 (nI n)).2.1 (z + (69 + 4 * ((j + 12 - (i + 1)) % 12))) = σ1.2.1 (z + (69 + 4 * ((j + 12 - (i + 1)) % 12))) from g7 _ (by omega) (by omega)]
      exact b3
    · rw [show (putF (putF τ (z + 66) 1 (nI ((j + 11) % 12))) (z + 66) 0 (nI n)).1 (z + (70 + 4 * ((j + 12 - (i + 1)) % 12))) = σ1.1 (z + (70 + 4 * ((j + 12 - (i + 1)) % 12))) from funext fun k => (F _ k (by omega)).trans (g4 _ _ (by omega) (by omega)), show (putF (putF τ (z + 66) 1 (nI ((j + 11) % 12))) (z + 66) 0 (nI n)).2.1 (z + (71 + 4 * ((j + 12 - (i + 1)) % 12))) = σ1.2.1 (z + (71 + 4 * ((j + 12 - (i + 1)) % 12))) from g7 _ (by omega) (by omega)]
      exact b4
  · rw [n7, nI_toInt (by omega)]
    omega
