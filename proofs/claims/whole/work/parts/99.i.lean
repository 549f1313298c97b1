/-! the story -/
def PK (o k : Nat) : Bool := (decide (o < 25 ∨ 45 ≤ o)) && !(o == 0 && k == 9) && !(o == 1)
def QK (o : Nat) : Bool := decide (o < 25 ∨ 45 ≤ o)
theorem past_w3 {σ : pS} {z n : Nat} {a w w' : Nat → Int32} (h : PastR σ z a w n) (e : ∀ k, k < 383 → w' k = w k) : PastR σ z a w' n := by
  obtain ⟨h1, h2, j, h3, h4, h5⟩ := h
  refine ⟨h1, h2, j, h3, h4, fun i hi => ?_⟩
  obtain ⟨a1, a2, a3⟩ := h5 i hi
  exact ⟨a1, fun k hk hm => (a2 k hk hm).trans (e k hk).symm, a3⟩
/-- the text is used up, all else stays -/
theorem Sim.usd {z y : Nat} {σ1 σ2 τ1 τ2 : pS} (h : Sim z y σ1 σ2) (e1 : EE PK QK z σ1 τ1) (f : ∀ k, (k = 6 ∨ k = 7) → τ2.1 y k = σ2.1 y k) (a : ∀ j, (j = 2 ∨ j = 5) → τ2.2.1 (y + j) = σ2.2.1 (y + j)) (ew : ∀ k, k < 1232 → τ2.2.1 (y + 1) k = σ2.2.1 (y + 1) k) (h14 : τ1.1 z 9 = τ2.1 y 14) (h10 : τ1.1 (z + 1) 0 = 0) (h9 : τ2.1 y 9 = 0) : Sim z y τ1 τ2 := by
  obtain ⟨h1, h2, h3, ⟨h4, h5, h6⟩, h7, h8⟩ := h
  unfold Sim
  rw [f 6 (by omega), f 7 (by omega), a 2 (by omega), a 5 (by omega), h9]
  refine ⟨world_b ew (e1.wor (fun k => ⟨rfl, rfl, rfl⟩) rfl (by decide) h1), past_w3 (e1.past (fun o a b k => by unfold PK; simp; omega) (fun o a b => by unfold QK; simp; omega) h2) (fun k hk => ew k (by omega)), h3, ⟨(e1.1 0 10 rfl).trans h4, h5, fun e => e1.wor (fun k => ⟨rfl, rfl, rfl⟩) rfl (by decide) (h6 e)⟩, h14, h10, by decide, by decide, fun i hi => ?_⟩
  rw [show (0 : Int32).toInt.toNat = 0 from rfl] at hi
  omega
theorem lp_forO {β α : Type} {body : (β → Option α) → β → Option α} (st : Nat → β) (n : Nat) (r : Option α) {N : Nat} (hN : n < N) (hs : ∀ k, k < n → ∀ q, body q (st k) = q (st (k + 1))) (he : ∀ q, body q (st n) = r) : lp body N (st 0) = r := by
  have H : ∀ (m k M : Nat), k + m = n → m < M → lp body M (st k) = r := by
    intro m
    induction m with
    | zero =>
      intro k M h1 h2
      have e : k = n := by omega
      subst e
      exact lp_one (by omega) he
    | succ m ih =>
      intro k M h1 h2
      obtain ⟨M, rfl⟩ : ∃ M', M = M' + 1 := ⟨M - 1, by omega⟩
      show body (lp body M) (st k) = r
      rw [hs k (by omega)]
      exact ih (k + 1) M (by omega) (by omega)
  exact H n 0 N (by omega) hN
theorem r_before {N y : Nat} {σ : pS} (hN : 20000 < N) : fX12_story N (G2 y) y σ = (fX12_readAll N (G2 y) y 1 (rowA σ (y + 3) (cpF (σ.2.1 (y + 3)) (σ.2.1 (y + 1)) 0 1232))).bind (fun q3 => if 0 ≤ q3.1 then (fX12_story_b46 N (G2 y) y q3.1 (-1 : Int32) q3.2) else (fX12_story_b46 N (G2 y) y q3.1 (q3.2.1 y 12) q3.2)) := by
  unfold fX12_story fX12_story_b2
  simp only [g2r_0_1, g2r_0_3, g2n_1, g2n_3]
  have h0 : ((0 : Int32), σ) = (nI 0, rowA σ (y + 3) (cpF (σ.2.1 (y + 3)) (σ.2.1 (y + 1)) 0 0)) := by
    rw [cpF_0, rowA_self]
    rfl
  rw [h0]
  refine lp_forO (N := N) (fun k => (nI k, rowA σ (y + 3) (cpF (σ.2.1 (y + 3)) (σ.2.1 (y + 1)) 0 k))) 1232 _ (by omega) ?_ ?_
  · intro k hk q
    dsimp only
    rw [if_neg (show ¬ (1232 : Int32) ≤ nI k from lit_lt (m := 1232) hk (by decide)), ck_nI (by omega) (by omega), ck_nI (by omega) (by omega), gA_nI (by omega), row_o (by omega), sA_rowA (nI_clamp (by omega)), cpF_s0, nI_1]
  · intro q
    dsimp only
    rw [if_pos (show (1232 : Int32) ≤ nI 1232 from lit_end)]
theorem r_after {N y : Nat} {σ : pS} (hN : 20000 < N) : fX12_story_b90 N (G2 y) y σ = some (0, rowA σ (y + 1) (cpF (σ.2.1 (y + 1)) (σ.2.1 (y + 3)) 0 1232)) := by
  unfold fX12_story_b90 fX12_story_b92
  simp only [g2r_0_1, g2r_0_3, g2n_1, g2n_3]
  have h0 : ((0 : Int32), σ) = (nI 0, rowA σ (y + 1) (cpF (σ.2.1 (y + 1)) (σ.2.1 (y + 3)) 0 0)) := by
    rw [cpF_0, rowA_self]
    rfl
  rw [h0]
  refine lp_for (fun k => (nI k, rowA σ (y + 1) (cpF (σ.2.1 (y + 1)) (σ.2.1 (y + 3)) 0 k))) 1232 _ (by omega) ?_ ?_
  · intro k hk q
    dsimp only
    rw [if_neg (show ¬ (1232 : Int32) ≤ nI k from lit_lt (m := 1232) hk (by decide)), ck_nI (by omega) (by omega), ck_nI (by omega) (by omega), gA_nI (by omega), row_o (by omega), sA_rowA (nI_clamp (by omega)), cpF_s0, nI_1]
  · intro q
    dsimp only
    rw [if_pos (show (1232 : Int32) ≤ nI 1232 from lit_end)]
theorem WInv.txt {w w' : Nat → Int32} (h : WInv w) (e : ∀ k, k ≠ 5 → w' k = w k) (b5 : 0 ≤ (w' 5).toInt ∧ (w' 5).toInt ≤ 12) : WInv w' := by
  have lo := h.lo
  have wi := h
  obtain ⟨h0, h1, h2, h3, h4, h5, h6, h7, h8, h9, h10, h11, h12, h13, h14, h15, h17, h37, h55, h67, h75, h83⟩ := h
  have c : ∀ k, k ≠ 5 → cN w' k = cN w k := fun k hk => by
    unfold cN
    rw [e k hk]
  refine ⟨by rw [e 0 (by omega)]; exact h0, by rw [e 1 (by omega)]; exact h1, by rw [e 2 (by omega)]; exact h2, by rw [e 3 (by omega)]; exact h3, by rw [e 4 (by omega)]; exact h4, b5, by rw [e 6 (by omega)]; exact h6, by rw [e 7 (by omega)]; exact h7, by rw [e 8 (by omega)]; exact h8, by rw [e 9 (by omega)]; exact h9, by rw [e 10 (by omega)]; exact h10, by rw [e 11 (by omega), e 0 (by omega)]; exact h11, by rw [e 12 (by omega), c 0 (by omega)]; exact h12, by rw [e 13 (by omega)]; exact h13, by rw [e 14 (by omega)]; exact h14, by rw [e 15 (by omega)]; exact h15, wi.s17 (e 0 (by omega)) (fun k a b => e k (by omega)), wi.s37 (e 1 (by omega)) (by rw [e 2 (by omega)]; exact Int.le_refl _) (fun k a b => e k (by omega)), wi.s55 (e 2 (by omega)) (fun k a b => e k (by omega)), wi.s67 (e 3 (by omega)) (fun k a b => e k (by omega)), wi.s75 (e 4 (by omega)) (fun k a b => e k (by omega)), fun i hi => ?_⟩
  rw [c 15 (by omega)] at hi
  rw [e (83 + 5 * i) (by omega), e (84 + 5 * i) (by omega), e (85 + 5 * i) (by omega), e (86 + 5 * i) (by omega), e (87 + 5 * i) (by omega), e 1 (by omega)]
  exact lo i hi
theorem uoe_ne : ¬ ("java/lang/UnsupportedOperationException" : String) = "java/lang/IllegalArgumentException" := by decide
theorem gd_story {N z y : Nat} (hN : 20000 < N) : Gd_story N (G1 z) (G2 y) z y (z + 150) (Sim z y) := by
  intro σ1 σ2 h
  unfold fL_story
  apply gd_w
  obtain ⟨τ, t1, t2, t3, t4, t5⟩ := c_copyW (N := N) (z := z) (A := z + 24) (B := z + 3) (a := z + 25) (b := z + 4) (by omega) wa_25 wa_4 h.1
  have ht := h.2.2.2.2.2
  have h9 : σ2.1 y 9 = nI (σ2.1 y 9).toInt.toNat := nI_cN ht.2.1
  have b1 : BY z (σ2.2.1 (y + 6)) (σ2.1 y 9).toInt.toNat τ := ⟨by omega, (t3 (z + 1) 0 (by omega)).trans (ht.1.trans h9), fun i hi => by
    rw [t4 (z + 2) (by omega)]
    exact ht.2.2.2 i hi⟩
  have sr : ∀ j, j ≠ 3 → (rowA σ2 (y + 3) (cpF (σ2.2.1 (y + 3)) (σ2.2.1 (y + 1)) 0 1232)).2.1 (y + j) = σ2.2.1 (y + j) := fun j hj => row_o (by omega)
  have sr3 : (rowA σ2 (y + 3) (cpF (σ2.2.1 (y + 3)) (σ2.2.1 (y + 1)) 0 1232)).2.1 (y + 3) = cpF (σ2.2.1 (y + 3)) (σ2.2.1 (y + 1)) 0 1232 := row_s
  obtain ⟨v, r, υ1, υ2, x1, x2, x3, x4, x5⟩ := j_reads (N := N) (τ2 := rowA σ2 (y + 3) (cpF (σ2.2.1 (y + 3)) (σ2.2.1 (y + 1)) 0 1232)) hN b1 h9 (sr 6 (by omega)) (by
    rw [sr 1 (by omega)]
    exact t2)
  rw [r_before hN, x2, b_some]
  have uf : ∀ k, k ≠ 0 → k ≠ 9 → k ≠ 10 → k ≠ 11 → k ≠ 12 → k ≠ 16 → υ2.1 y k = σ2.1 y k := fun k a1 a2 a3 a4 a5 a6 => by
    rw [x4.1 k a3 a5]
    unfold upT
    rw [pf0n a6, pf0n a3, pf0n a2, pf0n a4, pf0n a1]
    rfl
  have u9 : υ2.1 y 9 = 0 := by
    rw [x4.1 9 (by decide) (by decide)]
    unfold upT
    rw [pf0n (by decide), pf0n (by decide), pf0]
  have u0 : υ2.1 y 0 = 0 := by
    rw [x4.1 0 (by decide) (by decide)]
    unfold upT
    rw [pf0n (by decide), pf0n (by decide), pf0n (by decide), pf0n (by decide), pf0]
  have ua : ∀ j, j ≠ 1 → j ≠ 3 → υ2.2.1 (y + j) = σ2.2.1 (y + j) := fun j a1 a3 => (x4.2 j a1).trans (sr j a3)
  have ua3 : υ2.2.1 (y + 3) = cpF (σ2.2.1 (y + 3)) (σ2.2.1 (y + 1)) 0 1232 := (x4.2 3 (by decide)).trans sr3
  have cf : ∀ o k, (o < 25 ∨ 45 ≤ o) → ¬ (o = 1 ∧ 1 ≤ k) → υ1.1 (z + o) k = σ1.1 (z + o) k := fun o k a1 a2 => (x3.1 o k a1 a2).trans (t3 _ _ (by omega))
  have ca : ∀ o, (o < 25 ∨ 45 ≤ o) → υ1.2.1 (z + o) = σ1.2.1 (z + o) := fun o a1 => (x3.2 o a1).trans (t4 _ (by omega))
  have ek : ∀ X : Int32, EE PK QK z σ1 (putF (putF υ1 z 9 X) (z + 1) 0 0) := by
    intro X
    refine ⟨fun o k e => ?_, fun o e => ?_⟩
    · unfold PK at e
      simp at e
      rw [pf1, if_neg (by omega), pf1, if_neg (by omega)]
      exact cf o k (by omega) (by omega)
    · unfold QK at e
      simp at e
      exact ca o (by omega)
  have sim : ∀ (X c : Int32), Sim z y (putF (putF υ1 z 9 X) (z + 1) 0 0) (rowA (putF (putF υ2 y 14 X) y 0 c) (y + 1) (cpF ((putF (putF υ2 y 14 X) y 0 c).2.1 (y + 1)) ((putF (putF υ2 y 14 X) y 0 c).2.1 (y + 3)) 0 1232)) := by
    intro X c
    refine h.usd (ek X) (fun k hk => ?_) (fun j hj => ?_) (fun k hk => ?_) ?_ pf0 ?_
    · show (putF (putF υ2 y 14 X) y 0 c).1 y k = _
      rw [pf0n (by omega), pf0n (by omega)]
      exact uf k (by omega) (by omega) (by omega) (by omega) (by omega) (by omega)
    · rw [row_o (by omega), pfA, pfA]
      exact ua j (by omega) (by omega)
    · rw [row_s, cpF_lt hk, pfA, pfA, ua3, cpF_lt hk]
    · show (putF (putF υ1 z 9 X) (z + 1) 0 0).1 z 9 = (putF (putF υ2 y 14 X) y 0 c).1 y 14
      rw [pf_o (by omega), pf0, pf0n (by decide), pf0]
    · show (putF (putF υ2 y 14 X) y 0 c).1 y 9 = 0
      rw [pf0n (by decide), pf0n (by decide)]
      exact u9
  unfold fX11_story
  simp only [g1r_0_0, g1r_0_1, g1r_0_2, g1r_0_3, g1r_0_4, g1r_0_5, g1r_0_6, g1r_0_7, g1r_0_8, g1r_1_5, g1n_2, g1r_3_0, g1r_3_1, g1r_3_2, g1r_4_9, g1r_4_10, g1r_4_11, g1r_4_12, g1r_4_13, g1r_4_14, g1r_4_15, g1r_4_16, g1r_4_17, g1n_5, g1n_6, g1n_7, g1n_8, g1n_9, g1n_10, g1n_11, g1n_12, g1n_13, g1r_14_2, g1r_14_3, g1r_14_4, g1r_14_5, g1r_14_6, g1n_15, g1n_16, g1n_17, g1n_18, g1n_19, g1r_20_7, g1r_20_8, g1n_21, g1r_22_2, g1n_23, g1r_24_0, g1r_24_1, g1r_24_2, g1r_25_9, g1r_25_10, g1r_25_11, g1r_25_12, g1r_25_13, g1r_25_14, g1r_25_15, g1r_25_16, g1r_25_17, g1n_26, g1n_27, g1n_28, g1n_29, g1n_30, g1n_31, g1n_32, g1n_33, g1n_34, g1r_35_2, g1r_35_3, g1r_35_4, g1r_35_5, g1r_35_6, g1n_36, g1n_37, g1n_38, g1n_39, g1n_40, g1r_41_7, g1r_41_8, g1n_42, g1r_43_2, g1n_44, g1r_45_0, g1r_45_1, g1r_45_2, g1r_46_9, g1r_46_10, g1r_46_11, g1r_46_12, g1r_46_13, g1r_46_14, g1r_46_15, g1r_46_16, g1r_46_17, g1n_47, g1n_48, g1n_49, g1n_50, g1n_51, g1n_52, g1n_53, g1n_54, g1n_55, g1r_56_2, g1r_56_3, g1r_56_4, g1r_56_5, g1r_56_6, g1n_57, g1n_58, g1n_59, g1n_60, g1n_61, g1r_62_7, g1r_62_8, g1n_63, g1r_64_2, g1n_65, g1r_66_2, g1n_67, g1r_68_7, g1r_68_8, g1n_69, g1r_70_2, g1n_71, g1r_72_7, g1r_72_8, g1n_73, g1r_74_2, g1n_75, g1r_76_7, g1r_76_8, g1n_77, g1r_78_2, g1n_79, g1r_80_7, g1r_80_8, g1n_81, g1r_82_2, g1n_83, g1r_84_7, g1r_84_8, g1n_85, g1r_86_2, g1n_87, g1r_88_7, g1r_88_8, g1n_89, g1r_90_2, g1n_91, g1r_92_7, g1r_92_8, g1n_93, g1r_94_2, g1n_95, g1r_96_7, g1r_96_8, g1n_97, g1r_98_2, g1n_99, g1r_100_7, g1r_100_8, g1n_101, g1r_102_2, g1n_103, g1r_104_7, g1r_104_8, g1n_105, g1r_106_2, g1n_107, g1r_108_7, g1r_108_8, g1n_109, g1r_110_2, g1n_111, g1r_112_7, g1r_112_8, g1n_113, g1r_114_2, g1n_115, g1r_116_7, g1r_116_8, g1n_117, g1r_118_2, g1n_119, g1r_120_0, g1r_120_1, g1r_120_2, g1r_121_7, g1r_121_8, g1n_122, g1r_123_2, g1n_124, g1n_125, g1n_126, g1r_127_0, g1r_127_1, g1r_127_2, g1r_127_3, g1r_128_7, g1r_128_8, g1n_129, g1r_130_2, g1n_131, g1n_132, g1n_133, g1n_134, g1r_135_7, g1n_136, g1n_150]
  rw [t1, b_some, x1, b_some]
  unfold fX11_useTapeUp fX11_useTapeUp_b16 fX12_story_b46 fX12_story_b59 fX12_story_b83
  simp only [g1r_0_0, g1r_0_1, g1r_0_2, g1r_0_3, g1r_0_4, g1r_0_5, g1r_0_6, g1r_0_7, g1r_0_8, g1r_1_5, g1n_2, g1r_3_0, g1r_3_1, g1r_3_2, g1r_4_9, g1r_4_10, g1r_4_11, g1r_4_12, g1r_4_13, g1r_4_14, g1r_4_15, g1r_4_16, g1r_4_17, g1n_5, g1n_6, g1n_7, g1n_8, g1n_9, g1n_10, g1n_11, g1n_12, g1n_13, g1r_14_2, g1r_14_3, g1r_14_4, g1r_14_5, g1r_14_6, g1n_15, g1n_16, g1n_17, g1n_18, g1n_19, g1r_20_7, g1r_20_8, g1n_21, g1r_22_2, g1n_23, g1r_24_0, g1r_24_1, g1r_24_2, g1r_25_9, g1r_25_10, g1r_25_11, g1r_25_12, g1r_25_13, g1r_25_14, g1r_25_15, g1r_25_16, g1r_25_17, g1n_26, g1n_27, g1n_28, g1n_29, g1n_30, g1n_31, g1n_32, g1n_33, g1n_34, g1r_35_2, g1r_35_3, g1r_35_4, g1r_35_5, g1r_35_6, g1n_36, g1n_37, g1n_38, g1n_39, g1n_40, g1r_41_7, g1r_41_8, g1n_42, g1r_43_2, g1n_44, g1r_45_0, g1r_45_1, g1r_45_2, g1r_46_9, g1r_46_10, g1r_46_11, g1r_46_12, g1r_46_13, g1r_46_14, g1r_46_15, g1r_46_16, g1r_46_17, g1n_47, g1n_48, g1n_49, g1n_50, g1n_51, g1n_52, g1n_53, g1n_54, g1n_55, g1r_56_2, g1r_56_3, g1r_56_4, g1r_56_5, g1r_56_6, g1n_57, g1n_58, g1n_59, g1n_60, g1n_61, g1r_62_7, g1r_62_8, g1n_63, g1r_64_2, g1n_65, g1r_66_2, g1n_67, g1r_68_7, g1r_68_8, g1n_69, g1r_70_2, g1n_71, g1r_72_7, g1r_72_8, g1n_73, g1r_74_2, g1n_75, g1r_76_7, g1r_76_8, g1n_77, g1r_78_2, g1n_79, g1r_80_7, g1r_80_8, g1n_81, g1r_82_2, g1n_83, g1r_84_7, g1r_84_8, g1n_85, g1r_86_2, g1n_87, g1r_88_7, g1r_88_8, g1n_89, g1r_90_2, g1n_91, g1r_92_7, g1r_92_8, g1n_93, g1r_94_2, g1n_95, g1r_96_7, g1r_96_8, g1n_97, g1r_98_2, g1n_99, g1r_100_7, g1r_100_8, g1n_101, g1r_102_2, g1n_103, g1r_104_7, g1r_104_8, g1n_105, g1r_106_2, g1n_107, g1r_108_7, g1r_108_8, g1n_109, g1r_110_2, g1n_111, g1r_112_7, g1r_112_8, g1n_113, g1r_114_2, g1n_115, g1r_116_7, g1r_116_8, g1n_117, g1r_118_2, g1n_119, g1r_120_0, g1r_120_1, g1r_120_2, g1r_121_7, g1r_121_8, g1n_122, g1r_123_2, g1n_124, g1n_125, g1n_126, g1r_127_0, g1r_127_1, g1r_127_2, g1r_127_3, g1r_128_7, g1r_128_8, g1n_129, g1r_130_2, g1n_131, g1n_132, g1n_133, g1n_134, g1r_135_7, g1n_136, g1n_150, g2r_0_1, g2r_0_2, g2r_0_3, g2r_0_4, g2r_0_5, g2r_0_8, g2r_0_15, g2r_0_17, g2r_0_25, g2r_0_26, g2r_0_27, g2r_0_28, g2n_1, g2n_2, g2n_3, g2n_4, g2n_5, g2n_6, g2n_7, g2n_8, g2n_9, g2n_10, g2n_11, g2n_12]
  rcases x5 with ⟨rfl, hr, g', w5⟩ | ⟨rfl, rfl, b, hb1, hb2⟩
  · have w5 : υ2.2.1 (y + 1) 5 = σ2.2.1 (y + 1) 5 := w5.trans (congrFun (sr 1 (by omega)) 5)
    rw [if_neg (show ¬ (1 : Int32) = 0 by decide), b_some, if_neg (show ¬ (1 : Int32) = 0 by decide), if_pos hr, if_pos hr, r_t0, b_some]
    dsimp only
    rw [if_pos rfl]
    have c4 : (putF (putF υ1 z 9 (-1)) (z + 1) 0 0).1 (z + 4) 0 = σ2.2.1 (y + 1) 5 := by
      rw [pf_o (by omega), pf_o (by omega), cf 4 0 (by omega) (by omega)]
      exact h.1.2.1.1.1
    have g5 : gA (putF υ2 y 14 (-1)) (y + 1) 5 = σ2.2.1 (y + 1) 5 := w5
    have n5 := h.1.1.2.2.2.2.2.1
    rw [c4]
    show GDw z y _ _ (if gA (putF υ2 y 14 (-1)) (y + 1) 5 = 12 then _ else _)
    rw [g5]
    by_cases e12 : σ2.2.1 (y + 1) 5 = 12
    · rw [if_pos e12, e12, if_neg (show ¬ (12 : Int32) < 12 by decide), r_t1, b_some]
      dsimp only
      rw [if_neg (show ¬ (1 : Int32) = 0 by decide), r_after hN]
      refine gdw_ex (k := 2) (fun τ => (if_neg uoe_ne).trans (if_pos rfl)) (by decide) rfl rfl ?_ (sim (-1) 2)
      exact pf0
    · have lt12 : σ2.2.1 (y + 1) 5 < 12 := by
        rw [i_lt, show (12 : Int32).toInt = 12 from rfl]
        have : ¬ (σ2.2.1 (y + 1) 5).toInt = 12 := fun q => e12 (i_ext q)
        omega
      rw [if_neg e12, if_pos lt12, r_t0, b_some]
      dsimp only
      rw [if_pos rfl]
      have wd := g'.1
      have gw : WorldR (putF (putF υ1 z 9 (-1)) (z + 1) 0 0) (z + 25) (υ2.2.1 (y + 1)) := by
        have k1 : EE (fun o _ => decide (25 ≤ o)) (fun _ => true) z υ1 (putF (putF υ1 z 9 (-1)) (z + 1) 0 0) := ⟨fun o k e => by
          simp at e
          rw [pf_o (by omega), pf_o (by omega)], fun o e => rfl⟩
        exact k1.wor (fun k => ⟨rfl, rfl, rfl⟩) rfl (by decide) g'
      have d5 : (putF (putF υ1 z 9 (-1)) (z + 1) 0 0).1 (z + 25) 0 = υ2.2.1 (y + 1) 5 := gw.2.1.1.1
      rw [d5]
      have t5i : (υ2.2.1 (y + 1) 5 + 1).toInt = (σ2.2.1 (y + 1) 5).toInt + 1 := by
        rw [w5, i_add (by rw [show (1 : Int32).toInt = 1 from rfl]; omega) (by rw [show (1 : Int32).toInt = 1 from rfl]; omega)]
        rfl
      rw [i_lt, show (12 : Int32).toInt = 12 from rfl] at lt12
      have hw : (sA (putF υ2 y 14 (-1)) (y + 1) 5 (gA (putF υ2 y 14 (-1)) (y + 1) 5 + 1)).2.1 (y + 1) = va_up (υ2.2.1 (y + 1)) 5 (υ2.2.1 (y + 1) 5 + 1) := by
        rw [sA_w (n := 5) rfl]
        rfl
      have ew : ∀ k, k ≠ 5 → va_up (υ2.2.1 (y + 1)) 5 (υ2.2.1 (y + 1) 5 + 1) k = υ2.2.1 (y + 1) k := fun k a => va_up_ne _ _ a
      have wc : va_up (υ2.2.1 (y + 1)) 5 (υ2.2.1 (y + 1) 5 + 1) 5 = υ2.2.1 (y + 1) 5 + 1 := va_up_self _ _ _
      have gn : WorldR (putF (putF (putF υ1 z 9 (-1)) (z + 1) 0 0) (z + 25) 0 (υ2.2.1 (y + 1) 5 + 1)) (z + 25) (va_up (υ2.2.1 (y + 1)) 5 (υ2.2.1 (y + 1) 5 + 1)) := by
        refine wor_mk gw (wd.txt ew (by rw [wc, t5i]; omega)) (fun k hk => ew k (by omega)) (fun k => by rw [pf_o (by omega)]) (fun k => by rw [pf_o (by omega)]) (fun o ho => by rw [pfA]) ?_ ?_
        · have ta := gw.2.1
          refine tale_of ?_ (fun k hk => ?_)
          · have t0 := ta.1
            rw [pf0, pf0n (by decide), pf0n (by decide), pf0n (by decide), pf0n (by decide), pf0n (by decide), pf0n (by decide), pf0n (by decide), pf0n (by decide), wc, ew 0 (by omega), ew 2 (by omega), ew 3 (by omega), ew 1 (by omega), ew 4 (by omega), ew 8 (by omega), ew 10 (by omega), ew 14 (by omega)]
            exact ⟨rfl, t0.2⟩
          · exact trow_e wd hk (tale_to ta k hk) (fun j hj => by rw [pfA]) (fun j hj => ew j (by omega))
        · exact mind_e (fun k => by rw [pf_o (by omega)]) (fun k => by rw [pfA]) (fun k hk => ew k (by omega)) wd.c1 gw.2.2.2.1
      obtain ⟨ψ, p1, p2, p3, p4, p5⟩ := c_copyW (N := N) (z := z) (A := z + 3) (B := z + 24) (a := z + 4) (b := z + 25) (by omega) wa_4 wa_25 gn
      rw [p1, b_some]
      unfold fX4_forget
      rw [b_some]
      have pw : WorldR (putF ψ (z + 66) 0 0) (z + 4) (va_up (υ2.2.1 (y + 1)) 5 (υ2.2.1 (y + 1) 5 + 1)) := by
        have k1 : EE (fun o _ => decide (o < 66)) (fun _ => true) z ψ (putF ψ (z + 66) 0 0) := ⟨fun o k e => by
          simp at e
          rw [pf_o (by omega)], fun o e => rfl⟩
        exact k1.wor (fun k => ⟨rfl, rfl, rfl⟩) rfl (by decide) p2
      have q0 : ∀ o k, (o < 4 ∨ 24 ≤ o) → ¬ (o = 66 ∧ k = 0) → ¬ (o = 25 ∧ k = 0) → ¬ (o = 1 ∧ k = 0) → ¬ (o = 0 ∧ k = 9) → (putF ψ (z + 66) 0 0).1 (z + o) k = υ1.1 (z + o) k := fun o k a1 a2 a3 a4 a5 => by
        rw [pf1, if_neg (by omega), p3 _ _ (by omega), pf1, if_neg (by omega), pf1, if_neg (by omega), pf1, if_neg (by omega)]
      refine gdw_ok (v := υ2.2.1 (y + 1) 5 + 1) (τ1 := putF ψ (z + 66) 0 0) (τ2 := putF (sA (putF υ2 y 14 (-1)) (y + 1) 5 (gA (putF υ2 y 14 (-1)) (y + 1) 5 + 1)) y 7 0) ?_ ?_ ?_ ?_
      · rw [show (putF ψ (z + 66) 0 0).1 (z + 4) 0 = υ2.2.1 (y + 1) 5 + 1 from (pw.2.1.1.1).trans wc]
      · show some ((sA (putF υ2 y 14 (-1)) (y + 1) 5 (gA (putF υ2 y 14 (-1)) (y + 1) 5 + 1)).2.1 (y + 1) 5, _) = _
        rw [hw, wc]
      · rw [pf0n (by decide), sa1, pf0n (by decide)]
        exact u0
      · refine h.new (fun o k hh => (q0 o k (by omega) (by omega) (by omega) (by omega) (by omega)).trans (cf o k (by omega) (by omega))) (fun o a b => ?_) ?_ ?_ ?_ pf0 pf0 ?_ ?_
        · show ψ.2.1 (z + o) = _
          rw [p4 _ (by omega)]
          exact ca o (by omega)
        · rw [pf0n (by decide), sa1, pf0n (by decide)]
          exact uf 6 (by decide) (by decide) (by decide) (by decide) (by decide) (by decide)
        · rw [pfA, sA_o (by omega), pfA]
          exact ua 2 (by decide) (by decide)
        · rw [pfA, hw]
          exact pw
        · rw [pf0n (by decide), sa1, pf0, pf_o (by omega), p3 _ _ (by omega), pf_o (by omega), pf_o (by omega), pf0]
        · rw [pf0n (by decide), sa1, pf0n (by decide), u9]
          refine ⟨?_, by decide, by decide, fun i hi => ?_⟩
          · rw [pf_o (by omega), p3 _ _ (by omega), pf_o (by omega), pf0]
          · rw [show (0 : Int32).toInt.toNat = 0 from rfl] at hi
            omega
  · rw [if_pos rfl, b_some, if_pos rfl, if_neg (show ¬ (0 : Int32) ≤ -1 by decide), if_neg (show ¬ (0 : Int32) ≤ -1 by decide), r_t1, b_some]
    dsimp only
    rw [if_neg (show ¬ (1 : Int32) = 0 by decide), r_after hN, hb1, hb2]
    exact gdw_ex (k := 1) (fun τ => if_pos rfl) (by decide) rfl rfl pf0 (sim (nI b) 1)
