/-! queries over sets of names, traits, seals -/
theorem lp_forK {β α : Type} {body : (β → Option α) → β → Option α} (st : Nat → β) (n : Nat) (r : Option α) {N : Nat} (hN : n < N) (hs : ∀ k, k < n → ∀ q, body q (st k) = q (st (k + 1))) (he : ∀ q, body q (st n) = r) : lp body N (st 0) = r := by
  have H : ∀ (m k M : Nat), k + m = n → m < M → lp body M (st k) = r := by
    intro m
    induction m with
    | zero =>
      intro k M hk hM
      obtain ⟨M', rfl⟩ : ∃ M', M = M' + 1 := ⟨M - 1, by omega⟩
      have e : k = n := by omega
      subst e
      exact he _
    | succ m ih =>
      intro k M hk hM
      obtain ⟨M', rfl⟩ : ∃ M', M = M' + 1 := ⟨M - 1, by omega⟩
      show body (lp body M') (st k) = r
      rw [hs k (by omega)]
      exact ih (k + 1) M' (by omega) (by omega)
  exact H n 0 N (by omega) hN
theorem lit_lt {m k : Nat} (h : k < m) (hm : m < 2147483648) : ¬ nI m ≤ nI k := nI_ge h (by omega)
theorem lit_end {m : Nat} : nI m ≤ nI m := Int32.le_refl _
theorem l6 {k : Nat} (h : k < 6) : ¬ (6 : Int32) ≤ nI k := lit_lt (m := 6) h (by decide)
theorem l6e : (6 : Int32) ≤ nI 6 := lit_end
theorem Sim.pos {z y : Nat} {σ1 σ2 : pS} (h : Sim z y σ1 σ2) : σ1.1 (z + 20) 3 = σ2.2.1 (y + 1) 12 := h.mind.2.2.2.1
theorem Sim.bea {z y : Nat} {σ1 σ2 : pS} (h : Sim z y σ1 σ2) : σ1.1 (z + 20) 2 = bea (σ2.2.1 (y + 1)) := h.mind.2.2.1
theorem nar_le {w : Nat → Int32} (h : WInv w) {s : Int32} {t : Nat} : ∀ i, bit (nar w s t) i = true → bit s i = true := by
  intro i hi
  rw [bit_nar h] at hi
  simp only [Bool.and_eq_true] at hi
  exact hi.2.1
theorem gd_hides {N z y : Nat} (hN : 20000 < N) : Gd_hides N (G1 z) (G2 y) z y (z + 150) (Sim z y) := by
  intro σ1 σ2 h
  have wi := h.wi
  refine ⟨orL (fun t => decide (¬ nar (σ2.2.1 (y + 1)) (σ2.2.1 (y + 1) 12) t = σ2.2.1 (y + 1) 12)) 6, putF σ2 y 0 0, ?_, ?_, h.t0⟩
  · unfold fX11_hides fX11_hides_b4
    simp only [g1r_0_0, g1r_0_1, g1r_0_2, g1r_0_3, g1r_0_4, g1r_0_5, g1r_0_6, g1r_0_7, g1r_0_8, g1r_1_5, g1n_2, g1r_3_0, g1r_3_1, g1r_3_2, g1r_4_9, g1r_4_10, g1r_4_11, g1r_4_12, g1r_4_13, g1r_4_14, g1r_4_15, g1r_4_16, g1r_4_17, g1n_5, g1n_6, g1n_7, g1n_8, g1n_9, g1n_10, g1n_11, g1n_12, g1n_13, g1r_14_2, g1r_14_3, g1r_14_4, g1r_14_5, g1r_14_6, g1n_15, g1n_16, g1n_17, g1n_18, g1n_19, g1r_20_7, g1r_20_8, g1n_21, g1r_22_2, g1n_23, g1r_24_0, g1r_24_1, g1r_24_2, g1r_25_9, g1r_25_10, g1r_25_11, g1r_25_12, g1r_25_13, g1r_25_14, g1r_25_15, g1r_25_16, g1r_25_17, g1n_26, g1n_27, g1n_28, g1n_29, g1n_30, g1n_31, g1n_32, g1n_33, g1n_34, g1r_35_2, g1r_35_3, g1r_35_4, g1r_35_5, g1r_35_6, g1n_36, g1n_37, g1n_38, g1n_39, g1n_40, g1r_41_7, g1r_41_8, g1n_42, g1r_43_2, g1n_44, g1r_45_0, g1r_45_1, g1r_45_2, g1r_46_9, g1r_46_10, g1r_46_11, g1r_46_12, g1r_46_13, g1r_46_14, g1r_46_15, g1r_46_16, g1r_46_17, g1n_47, g1n_48, g1n_49, g1n_50, g1n_51, g1n_52, g1n_53, g1n_54, g1n_55, g1r_56_2, g1r_56_3, g1r_56_4, g1r_56_5, g1r_56_6, g1n_57, g1n_58, g1n_59, g1n_60, g1n_61, g1r_62_7, g1r_62_8, g1n_63, g1r_64_2, g1n_65, g1r_66_2, g1n_67, g1r_68_7, g1r_68_8, g1n_69, g1r_70_2, g1n_71, g1r_72_7, g1r_72_8, g1n_73, g1r_74_2, g1n_75, g1r_76_7, g1r_76_8, g1n_77, g1r_78_2, g1n_79, g1r_80_7, g1r_80_8, g1n_81, g1r_82_2, g1n_83, g1r_84_7, g1r_84_8, g1n_85, g1r_86_2, g1n_87, g1r_88_7, g1r_88_8, g1n_89, g1r_90_2, g1n_91, g1r_92_7, g1r_92_8, g1n_93, g1r_94_2, g1n_95, g1r_96_7, g1r_96_8, g1n_97, g1r_98_2, g1n_99, g1r_100_7, g1r_100_8, g1n_101, g1r_102_2, g1n_103, g1r_104_7, g1r_104_8, g1n_105, g1r_106_2, g1n_107, g1r_108_7, g1r_108_8, g1n_109, g1r_110_2, g1n_111, g1r_112_7, g1r_112_8, g1n_113, g1r_114_2, g1n_115, g1r_116_7, g1r_116_8, g1n_117, g1r_118_2, g1n_119, g1r_120_0, g1r_120_1, g1r_120_2, g1r_121_7, g1r_121_8, g1n_122, g1r_123_2, g1n_124, g1n_125, g1n_126, g1r_127_0, g1r_127_1, g1r_127_2, g1r_127_3, g1r_128_7, g1r_128_8, g1n_129, g1r_130_2, g1n_131, g1n_132, g1n_133, g1n_134, g1r_135_7, g1n_136, g1n_150]
    rw [h.pos, h.bea]
    refine lp_for (fun k => (orL (fun t => decide (¬ nar (σ2.2.1 (y + 1)) (σ2.2.1 (y + 1) 12) t = σ2.2.1 (y + 1) 12)) k, nI k)) 6 _ (by omega) ?_ ?_
    · intro k hk q
      try dsimp only
      rw [if_neg (l6 hk), c_narrowed wi h.tale hk wi.pos, b_some]
      exact orL_qn (by simp)
    · intro q
      try dsimp only
      rw [if_pos l6e]
  · unfold fX12_hides fX12_hides_b9
    refine lp_for (fun k => (orL (fun t => decide (¬ nar (σ2.2.1 (y + 1)) (σ2.2.1 (y + 1) 12) t = σ2.2.1 (y + 1) 12)) k, nI k, putF σ2 y 0 0)) 6 _ (by omega) ?_ ?_
    · intro k hk q
      simp only [g2r_0_1, g2r_0_2, g2r_0_3, g2r_0_4, g2r_0_5, g2r_0_8, g2r_0_15, g2r_0_17, g2r_0_25, g2r_0_26, g2r_0_27, g2r_0_28, g2n_1, g2n_2, g2n_3, g2n_4, g2n_5, g2n_6, g2n_7, g2n_8, g2n_9, g2n_10, g2n_11, g2n_12]
      try dsimp only
      rw [if_neg (l6 hk)]
      show (fX12_staysOf N (G2 y) y (σ2.2.1 (y + 1) 12) (nI k) (putF σ2 y 0 0)).bind _ = _
      rw [r_staysOf (σ := putF σ2 y 0 0) hN wi (by omega), b_some, bc_fn, b_some, r_howMany, b_some]
      refine orL_qns ?_
      rw [pfA, bc_sub wi.c0 wi.pos (nar_le wi)]
      simp
    · intro q
      try dsimp only
      rw [if_pos l6e]
theorem gd_shared {N z y : Nat} (hN : 20000 < N) : Gd_shared N (G1 z) (G2 y) z y (z + 150) (Sim z y) := by
  intro σ1 σ2 h
  have wi := h.wi
  refine ⟨orL (fun t => decide (¬ σ2.2.1 (y + 1) 12 = 0 ∧ σ2.2.1 (y + 1) 12 &&& (hv (σ2.2.1 (y + 1)) t ^^^ (-1)) = 0)) 6, putF σ2 y 0 0, ?_, ?_, h.t0⟩
  · unfold fX11_shared fX11_shared_b4
    simp only [g1r_0_0, g1r_0_1, g1r_0_2, g1r_0_3, g1r_0_4, g1r_0_5, g1r_0_6, g1r_0_7, g1r_0_8, g1r_1_5, g1n_2, g1r_3_0, g1r_3_1, g1r_3_2, g1r_4_9, g1r_4_10, g1r_4_11, g1r_4_12, g1r_4_13, g1r_4_14, g1r_4_15, g1r_4_16, g1r_4_17, g1n_5, g1n_6, g1n_7, g1n_8, g1n_9, g1n_10, g1n_11, g1n_12, g1n_13, g1r_14_2, g1r_14_3, g1r_14_4, g1r_14_5, g1r_14_6, g1n_15, g1n_16, g1n_17, g1n_18, g1n_19, g1r_20_7, g1r_20_8, g1n_21, g1r_22_2, g1n_23, g1r_24_0, g1r_24_1, g1r_24_2, g1r_25_9, g1r_25_10, g1r_25_11, g1r_25_12, g1r_25_13, g1r_25_14, g1r_25_15, g1r_25_16, g1r_25_17, g1n_26, g1n_27, g1n_28, g1n_29, g1n_30, g1n_31, g1n_32, g1n_33, g1n_34, g1r_35_2, g1r_35_3, g1r_35_4, g1r_35_5, g1r_35_6, g1n_36, g1n_37, g1n_38, g1n_39, g1n_40, g1r_41_7, g1r_41_8, g1n_42, g1r_43_2, g1n_44, g1r_45_0, g1r_45_1, g1r_45_2, g1r_46_9, g1r_46_10, g1r_46_11, g1r_46_12, g1r_46_13, g1r_46_14, g1r_46_15, g1r_46_16, g1r_46_17, g1n_47, g1n_48, g1n_49, g1n_50, g1n_51, g1n_52, g1n_53, g1n_54, g1n_55, g1r_56_2, g1r_56_3, g1r_56_4, g1r_56_5, g1r_56_6, g1n_57, g1n_58, g1n_59, g1n_60, g1n_61, g1r_62_7, g1r_62_8, g1n_63, g1r_64_2, g1n_65, g1r_66_2, g1n_67, g1r_68_7, g1r_68_8, g1n_69, g1r_70_2, g1n_71, g1r_72_7, g1r_72_8, g1n_73, g1r_74_2, g1n_75, g1r_76_7, g1r_76_8, g1n_77, g1r_78_2, g1n_79, g1r_80_7, g1r_80_8, g1n_81, g1r_82_2, g1n_83, g1r_84_7, g1r_84_8, g1n_85, g1r_86_2, g1n_87, g1r_88_7, g1r_88_8, g1n_89, g1r_90_2, g1n_91, g1r_92_7, g1r_92_8, g1n_93, g1r_94_2, g1n_95, g1r_96_7, g1r_96_8, g1n_97, g1r_98_2, g1n_99, g1r_100_7, g1r_100_8, g1n_101, g1r_102_2, g1n_103, g1r_104_7, g1r_104_8, g1n_105, g1r_106_2, g1n_107, g1r_108_7, g1r_108_8, g1n_109, g1r_110_2, g1n_111, g1r_112_7, g1r_112_8, g1n_113, g1r_114_2, g1n_115, g1r_116_7, g1r_116_8, g1n_117, g1r_118_2, g1n_119, g1r_120_0, g1r_120_1, g1r_120_2, g1r_121_7, g1r_121_8, g1n_122, g1r_123_2, g1n_124, g1n_125, g1n_126, g1r_127_0, g1r_127_1, g1r_127_2, g1r_127_3, g1r_128_7, g1r_128_8, g1n_129, g1r_130_2, g1n_131, g1n_132, g1n_133, g1n_134, g1r_135_7, g1n_136, g1n_150]
    rw [h.pos]
    have key := lp_for (body := fun (k4 : Int32 × Int32 → Option (Int32)) (b : Int32 × Int32) => if (6 : Int32) ≤ b.2 then (if σ2.2.1 (y + 1) 12 = 0 then (some (0 : Int32)) else (some b.1)) else ((fX11_at N (G1 z) (z + 7) b.2 σ1).bind (fun q1 => if (σ2.2.1 (y + 1) 12 &&& (q1 ^^^ (-1 : Int32))) = 0 then (k4 (b.1 ||| ((1 : Int32) <<< (b.2 &&& 31)), b.2 + (1 : Int32))) else (k4 (b.1, b.2 + (1 : Int32)))))) (fun k => (orL (fun t => decide (σ2.2.1 (y + 1) 12 &&& (hv (σ2.2.1 (y + 1)) t ^^^ (-1)) = 0)) k, nI k)) 6 (if σ2.2.1 (y + 1) 12 = 0 then 0 else orL (fun t => decide (σ2.2.1 (y + 1) 12 &&& (hv (σ2.2.1 (y + 1)) t ^^^ (-1)) = 0)) 6) (N := N) (by omega) ?_ ?_
    · refine key.trans ?_
      congr 1
      by_cases e : σ2.2.1 (y + 1) 12 = 0
      · rw [if_pos e]
        apply bit_ext
        intro i _
        rw [bit_0, bit_orL (by omega)]
        simp [e]
      · rw [if_neg e]
        exact orL_congr (fun k _ => by simp [e])
    · intro k hk q
      try dsimp only
      rw [if_neg (l6 hk), at_fn g1n_7 hk (by omega), b_some, show σ1.2.1 (z + 7) k = hv (σ2.2.1 (y + 1)) k from bear_eq wi h.tale hk]
      exact orL_q0 decide_eq_true_iff.symm
    · intro q
      try dsimp only
      rw [if_pos l6e]
      split <;> rfl
  · unfold fX12_shared fX12_shared_b9
    refine lp_for (fun k => (orL (fun t => decide (¬ σ2.2.1 (y + 1) 12 = 0 ∧ σ2.2.1 (y + 1) 12 &&& (hv (σ2.2.1 (y + 1)) t ^^^ (-1)) = 0)) k, nI k, putF σ2 y 0 0)) 6 _ (by omega) ?_ ?_
    · intro k hk q
      simp only [g2r_0_1, g2r_0_2, g2r_0_3, g2r_0_4, g2r_0_5, g2r_0_8, g2r_0_15, g2r_0_17, g2r_0_25, g2r_0_26, g2r_0_27, g2r_0_28, g2n_1, g2n_2, g2n_3, g2n_4, g2n_5, g2n_6, g2n_7, g2n_8, g2n_9, g2n_10, g2n_11, g2n_12]
      try dsimp only
      rw [if_neg (l6 hk), r_howMany, b_some, pfA]
      obtain ⟨c, c1, c2, c3⟩ := bc_bd wi.c0 wi.pos
      rw [c2]
      refine Eq.trans ?_ (orL_qs (c := ¬ σ2.2.1 (y + 1) 12 = 0 ∧ σ2.2.1 (y + 1) 12 &&& (hv (σ2.2.1 (y + 1)) k ^^^ (-1)) = 0) (p := fun t => decide (¬ σ2.2.1 (y + 1) 12 = 0 ∧ σ2.2.1 (y + 1) 12 &&& (hv (σ2.2.1 (y + 1)) t ^^^ (-1)) = 0)) (q := q) (k := k) (σ := putF σ2 y 0 0) decide_eq_true_iff.symm)
      by_cases e : σ2.2.1 (y + 1) 12 = 0
      · rw [if_pos (show nI c ≤ 0 from by rw [c3.mpr e]; decide), if_neg (fun q => q.1 e)]
        rfl
      · rw [if_neg (show ¬ nI c ≤ 0 from nI_nle (Nat.pos_of_ne_zero (fun q => e (c3.mp q))) (by omega))]
        show (fX12_whoHave N (G2 y) y (nI k) (putF σ2 y 0 0)).bind _ = _
        rw [r_whoHave (σ := putF σ2 y 0 0) hN wi (by omega), b_some]
        show (if σ2.2.1 (y + 1) 12 &&& (hv (σ2.2.1 (y + 1)) k ^^^ (-1)) = 0 then _ else _) = _
        by_cases e2 : σ2.2.1 (y + 1) 12 &&& (hv (σ2.2.1 (y + 1)) k ^^^ (-1)) = 0
        · rw [if_pos e2, if_pos ⟨e, e2⟩]
        · rw [if_neg e2, if_neg (fun q => e2 q.2)]
          rfl
    · intro q
      try dsimp only
      rw [if_pos l6e]
/-! sums of credit -/
def crS (w : Nat → Int32) (s : Int32) : Int32 := itN (fun i x => x + (if bit s i = true then w (18 + 2 * i) else 0)) 0 (cN w 0)
theorem r_creditOf {N y : Nat} {s : Int32} {σ : pS} (hN : 20000 < N) (hw : WInv (σ.2.1 (y + 1))) : fX12_creditOf N (G2 y) y s σ = some (crS (σ.2.1 (y + 1)) s) := by
  unfold fX12_creditOf fX12_creditOf_b4
  have c0 := hw.c0
  refine lp_for (fun k => (itN (fun i x => x + (if bit s i = true then σ.2.1 (y + 1) (18 + 2 * i) else 0)) 0 k, nI k)) (cN (σ.2.1 (y + 1)) 0) _ (by omega) ?_ ?_
  · intro k hk q
    simp only [r_names, b_some]
    rw [if_neg (cnt_lt hw.1.1 hk), has_fn2 (by omega), b_some, ite01, itN]
    by_cases a : bit s k = true
    · rw [if_pos a, if_pos a, r_ofName1 (by omega), b_some, nI_1]
    · rw [if_neg a, if_neg a, nI_1]
  · intro q
    simp only [r_names, b_some]
    rw [if_pos (cnt_eN hw.1.1)]
    rfl
theorem c_creditOf {N z : Nat} {s : Int32} {σ : pS} {w : Nat → Int32} (hN : 20000 < N) (hw : WInv w) (h : TaleR (σ.1 (z + 4)) (fun j => σ.2.1 (z + (5 + j))) w) : fX8_creditOf N (G1 z) (z + 4) s σ = some (crS w s) := by
  unfold fX8_creditOf fX8_creditOf_b4
  simp only [g1r_0_0, g1r_0_1, g1r_0_2, g1r_0_3, g1r_0_4, g1r_0_5, g1r_0_6, g1r_0_7, g1r_0_8, g1r_1_5, g1n_2, g1r_3_0, g1r_3_1, g1r_3_2, g1r_4_9, g1r_4_10, g1r_4_11, g1r_4_12, g1r_4_13, g1r_4_14, g1r_4_15, g1r_4_16, g1r_4_17, g1n_5, g1n_6, g1n_7, g1n_8, g1n_9, g1n_10, g1n_11, g1n_12, g1n_13, g1r_14_2, g1r_14_3, g1r_14_4, g1r_14_5, g1r_14_6, g1n_15, g1n_16, g1n_17, g1n_18, g1n_19, g1r_20_7, g1r_20_8, g1n_21, g1r_22_2, g1n_23, g1r_24_0, g1r_24_1, g1r_24_2, g1r_25_9, g1r_25_10, g1r_25_11, g1r_25_12, g1r_25_13, g1r_25_14, g1r_25_15, g1r_25_16, g1r_25_17, g1n_26, g1n_27, g1n_28, g1n_29, g1n_30, g1n_31, g1n_32, g1n_33, g1n_34, g1r_35_2, g1r_35_3, g1r_35_4, g1r_35_5, g1r_35_6, g1n_36, g1n_37, g1n_38, g1n_39, g1n_40, g1r_41_7, g1r_41_8, g1n_42, g1r_43_2, g1n_44, g1r_45_0, g1r_45_1, g1r_45_2, g1r_46_9, g1r_46_10, g1r_46_11, g1r_46_12, g1r_46_13, g1r_46_14, g1r_46_15, g1r_46_16, g1r_46_17, g1n_47, g1n_48, g1n_49, g1n_50, g1n_51, g1n_52, g1n_53, g1n_54, g1n_55, g1r_56_2, g1r_56_3, g1r_56_4, g1r_56_5, g1r_56_6, g1n_57, g1n_58, g1n_59, g1n_60, g1n_61, g1r_62_7, g1r_62_8, g1n_63, g1r_64_2, g1n_65, g1r_66_2, g1n_67, g1r_68_7, g1r_68_8, g1n_69, g1r_70_2, g1n_71, g1r_72_7, g1r_72_8, g1n_73, g1r_74_2, g1n_75, g1r_76_7, g1r_76_8, g1n_77, g1r_78_2, g1n_79, g1r_80_7, g1r_80_8, g1n_81, g1r_82_2, g1n_83, g1r_84_7, g1r_84_8, g1n_85, g1r_86_2, g1n_87, g1r_88_7, g1r_88_8, g1n_89, g1r_90_2, g1n_91, g1r_92_7, g1r_92_8, g1n_93, g1r_94_2, g1n_95, g1r_96_7, g1r_96_8, g1n_97, g1r_98_2, g1n_99, g1r_100_7, g1r_100_8, g1n_101, g1r_102_2, g1n_103, g1r_104_7, g1r_104_8, g1n_105, g1r_106_2, g1n_107, g1r_108_7, g1r_108_8, g1n_109, g1r_110_2, g1n_111, g1r_112_7, g1r_112_8, g1n_113, g1r_114_2, g1n_115, g1r_116_7, g1r_116_8, g1n_117, g1r_118_2, g1n_119, g1r_120_0, g1r_120_1, g1r_120_2, g1r_121_7, g1r_121_8, g1n_122, g1r_123_2, g1n_124, g1n_125, g1n_126, g1r_127_0, g1r_127_1, g1r_127_2, g1r_127_3, g1r_128_7, g1r_128_8, g1n_129, g1r_130_2, g1n_131, g1n_132, g1n_133, g1n_134, g1r_135_7, g1n_136, g1n_150]
  have c0 := hw.c0
  rw [h.1.2.1]
  refine lp_for (fun k => (itN (fun i x => x + (if bit s i = true then w (18 + 2 * i) else 0)) 0 k, nI k)) (cN w 0) _ (by omega) ?_ ?_
  · intro k hk q
    rw [if_neg (cnt_lt hw.1.1 hk), has_fn (by omega), b_some, ite01, itN]
    by_cases a : bit s k = true
    · rw [if_pos a, if_pos a, at_fn g1n_6 (by omega : k < 10) (by omega), b_some, nI_1, show σ.2.1 (z + 6) k = w (18 + 2 * k) from (h.2.1 k hk).2]
    · rw [if_neg a, if_neg a, nI_1]
  · intro q
    rw [if_pos (cnt_eN hw.1.1)]
    rfl
theorem crS_bd {w : Nat → Int32} (hw : WInv w) (s : Int32) : ∀ n, n ≤ cN w 0 → 0 ≤ (itN (fun i x => x + (if bit s i = true then w (18 + 2 * i) else 0)) 0 n).toInt ∧ (itN (fun i x => x + (if bit s i = true then w (18 + 2 * i) else 0)) 0 n).toInt ≤ 9 * n := by
  intro n
  have c0 := hw.c0
  induction n with
  | zero =>
    intro _
    show 0 ≤ (0 : Int32).toInt ∧ (0 : Int32).toInt ≤ 9 * ((0 : Nat) : Int)
    decide
  | succ n ih =>
    intro hn
    obtain ⟨a, b⟩ := ih (by omega)
    have cr := ((hw.2.2.2.2.2.2.2.2.2.2.2.2.2.2.2.2.1 n (by omega)).2)
    rw [itN]
    by_cases e : bit s n = true
    · rw [if_pos e, i_add (by omega) (by omega)]
      omega
    · rw [if_neg e, Int32.add_zero]
      omega
def bel (w : Nat → Int32) (s : Int32) : Int32 := if crS w (w 12) = 0 then 0 else (10000 * crS w (s &&& w 12)) / crS w (w 12)
theorem r_beliefOf {N y : Nat} {s : Int32} {σ : pS} (hN : 20000 < N) (hw : WInv (σ.2.1 (y + 1))) : fX12_beliefOf N (G2 y) y s σ = some (bel (σ.2.1 (y + 1)) s) := by
  unfold fX12_beliefOf bel
  simp only [g2r_0_1, g2r_0_2, g2r_0_3, g2r_0_4, g2r_0_5, g2r_0_8, g2r_0_15, g2r_0_17, g2r_0_25, g2r_0_26, g2r_0_27, g2r_0_28, g2n_1, g2n_2, g2n_3, g2n_4, g2n_5, g2n_6, g2n_7, g2n_8, g2n_9, g2n_10, g2n_11, g2n_12]
  show (fX12_creditOf N (G2 y) y (σ.2.1 (y + 1) 12) σ).bind _ = _
  rw [r_creditOf hN hw, b_some]
  by_cases e : crS (σ.2.1 (y + 1)) (σ.2.1 (y + 1) 12) = 0
  · rw [if_pos e, if_pos e]
  · rw [if_neg e, if_neg e]
    show (fX12_creditOf N (G2 y) y (s &&& σ.2.1 (y + 1) 12) σ).bind _ = _
    rw [r_creditOf hN hw, b_some, decide_eq_true e]
    rfl
theorem c_beliefIn {N z y : Nat} {s : Int32} {σ1 σ2 : pS} (hN : 20000 < N) (h : Sim z y σ1 σ2) : fX11_beliefIn N (G1 z) z s σ1 = some (bel (σ2.2.1 (y + 1)) s) := by
  unfold fX11_beliefIn bel
  simp only [g1r_0_0, g1r_0_1, g1r_0_2, g1r_0_3, g1r_0_4, g1r_0_5, g1r_0_6, g1r_0_7, g1r_0_8, g1r_1_5, g1n_2, g1r_3_0, g1r_3_1, g1r_3_2, g1r_4_9, g1r_4_10, g1r_4_11, g1r_4_12, g1r_4_13, g1r_4_14, g1r_4_15, g1r_4_16, g1r_4_17, g1n_5, g1n_6, g1n_7, g1n_8, g1n_9, g1n_10, g1n_11, g1n_12, g1n_13, g1r_14_2, g1r_14_3, g1r_14_4, g1r_14_5, g1r_14_6, g1n_15, g1n_16, g1n_17, g1n_18, g1n_19, g1r_20_7, g1r_20_8, g1n_21, g1r_22_2, g1n_23, g1r_24_0, g1r_24_1, g1r_24_2, g1r_25_9, g1r_25_10, g1r_25_11, g1r_25_12, g1r_25_13, g1r_25_14, g1r_25_15, g1r_25_16, g1r_25_17, g1n_26, g1n_27, g1n_28, g1n_29, g1n_30, g1n_31, g1n_32, g1n_33, g1n_34, g1r_35_2, g1r_35_3, g1r_35_4, g1r_35_5, g1r_35_6, g1n_36, g1n_37, g1n_38, g1n_39, g1n_40, g1r_41_7, g1r_41_8, g1n_42, g1r_43_2, g1n_44, g1r_45_0, g1r_45_1, g1r_45_2, g1r_46_9, g1r_46_10, g1r_46_11, g1r_46_12, g1r_46_13, g1r_46_14, g1r_46_15, g1r_46_16, g1r_46_17, g1n_47, g1n_48, g1n_49, g1n_50, g1n_51, g1n_52, g1n_53, g1n_54, g1n_55, g1r_56_2, g1r_56_3, g1r_56_4, g1r_56_5, g1r_56_6, g1n_57, g1n_58, g1n_59, g1n_60, g1n_61, g1r_62_7, g1r_62_8, g1n_63, g1r_64_2, g1n_65, g1r_66_2, g1n_67, g1r_68_7, g1r_68_8, g1n_69, g1r_70_2, g1n_71, g1r_72_7, g1r_72_8, g1n_73, g1r_74_2, g1n_75, g1r_76_7, g1r_76_8, g1n_77, g1r_78_2, g1n_79, g1r_80_7, g1r_80_8, g1n_81, g1r_82_2, g1n_83, g1r_84_7, g1r_84_8, g1n_85, g1r_86_2, g1n_87, g1r_88_7, g1r_88_8, g1n_89, g1r_90_2, g1n_91, g1r_92_7, g1r_92_8, g1n_93, g1r_94_2, g1n_95, g1r_96_7, g1r_96_8, g1n_97, g1r_98_2, g1n_99, g1r_100_7, g1r_100_8, g1n_101, g1r_102_2, g1n_103, g1r_104_7, g1r_104_8, g1n_105, g1r_106_2, g1n_107, g1r_108_7, g1r_108_8, g1n_109, g1r_110_2, g1n_111, g1r_112_7, g1r_112_8, g1n_113, g1r_114_2, g1n_115, g1r_116_7, g1r_116_8, g1n_117, g1r_118_2, g1n_119, g1r_120_0, g1r_120_1, g1r_120_2, g1r_121_7, g1r_121_8, g1n_122, g1r_123_2, g1n_124, g1n_125, g1n_126, g1r_127_0, g1r_127_1, g1r_127_2, g1r_127_3, g1r_128_7, g1r_128_8, g1n_129, g1r_130_2, g1n_131, g1n_132, g1n_133, g1n_134, g1r_135_7, g1n_136, g1n_150]
  rw [h.pos, c_creditOf hN h.wi h.tale, b_some, c_creditOf hN h.wi h.tale, b_some]
  have bd := crS_bd h.wi (σ2.2.1 (y + 1) 12) _ (Nat.le_refl _)
  by_cases e : crS (σ2.2.1 (y + 1)) (σ2.2.1 (y + 1) 12) = 0
  · rw [if_pos e, if_neg (by rw [e]; decide)]
  · have e1 : 0 < crS (σ2.2.1 (y + 1)) (σ2.2.1 (y + 1) 12) := by
      rw [i_lt]
      have : (crS (σ2.2.1 (y + 1)) (σ2.2.1 (y + 1) 12)).toInt ≠ 0 := fun q => e (i_ext q)
      have b0 : 0 ≤ (crS (σ2.2.1 (y + 1)) (σ2.2.1 (y + 1) 12)).toInt := bd.1
      rw [show (0 : Int32).toInt = 0 from rfl]
      omega
    rw [if_neg e, if_pos e1, decide_eq_true e, Int32.mul_comm, show σ2.2.1 (y + 1) 12 &&& s = s &&& σ2.2.1 (y + 1) 12 from Int32.and_comm _ _]
    rfl
theorem r_noTrait {N : Nat} {G : pG} {c : Int32} {σ : pS} : fX12_noTrait N G c σ = some (if c < 0 then 1 else if c < 6 then 0 else 1) := by
  unfold fX12_noTrait
  rw [r_inn, b_some]
  exact no_fn (x := 6) (by decide)
/-- one trait -/
theorem trait_pre {N z y : Nat} {σ1 σ2 : pS} {c : Int32} {H : String × pS → Option (Int32 × pS)} {K : pS → Option ((Int32 × pS) ⊕ (String × pS))} {R : Int32 × pS → Option (Int32 × pS)} (h : Sim z y σ1 σ2) (hH : ∀ τ, H ("java/lang/IndexOutOfBoundsException", τ) = some (1, τ)) (hk : ∀ k, k < 6 → c = nI k → GDw z y H (K σ1) (R (0, putF σ2 y 0 0))) : GDw z y H ((fX11_needTrait N (G1 z) z c σ1).bind (fun q => q.elim K (fun e => some (.inr e)))) ((fX12_noTrait N (G2 y) c (putF σ2 y 0 0)).bind (fun q => (fX12_throwsIf N (G2 y) y q 1 (putF σ2 y 0 0)).bind (fun q => if q.1 = 0 then R q else some (0, q.2)))) := by
  rw [r_noTrait]
  unfold fX11_needTrait
  by_cases h0 : c < 0
  · rw [if_pos h0, if_pos h0]
    exact gdw_ex hH (by decide) rfl rfl pf0 h.th
  by_cases h1 : c < 6
  · rw [if_neg h0, if_neg h0, if_pos h1, if_pos h1, b_some, b_some, e_inl, r_t0, b_some, if_pos rfl]
    obtain ⟨k, hk1, _, rfl⟩ := nI_lt_of h0 h1
    exact hk k hk1 rfl
  · rw [if_neg h0, if_neg h0, if_neg h1, if_neg h1]
    exact gdw_ex hH (by decide) rfl rfl pf0 h.th
theorem gd_belief {N z y : Nat} (hN : 20000 < N) : Gd_belief N (G1 z) (G2 y) z y (z + 150) (Sim z y) := by
  intro σ1 σ2 h c1
  unfold fL_belief
  apply gd_w
  unfold fX11_belief fX12_belief
  refine trait_pre h (fun τ => if_pos rfl) (fun k hk e1 => ?_)
  subst e1
  simp only [g1r_0_0, g1r_0_1, g1r_0_2, g1r_0_3, g1r_0_4, g1r_0_5, g1r_0_6, g1r_0_7, g1r_0_8, g1r_1_5, g1n_2, g1r_3_0, g1r_3_1, g1r_3_2, g1r_4_9, g1r_4_10, g1r_4_11, g1r_4_12, g1r_4_13, g1r_4_14, g1r_4_15, g1r_4_16, g1r_4_17, g1n_5, g1n_6, g1n_7, g1n_8, g1n_9, g1n_10, g1n_11, g1n_12, g1n_13, g1r_14_2, g1r_14_3, g1r_14_4, g1r_14_5, g1r_14_6, g1n_15, g1n_16, g1n_17, g1n_18, g1n_19, g1r_20_7, g1r_20_8, g1n_21, g1r_22_2, g1n_23, g1r_24_0, g1r_24_1, g1r_24_2, g1r_25_9, g1r_25_10, g1r_25_11, g1r_25_12, g1r_25_13, g1r_25_14, g1r_25_15, g1r_25_16, g1r_25_17, g1n_26, g1n_27, g1n_28, g1n_29, g1n_30, g1n_31, g1n_32, g1n_33, g1n_34, g1r_35_2, g1r_35_3, g1r_35_4, g1r_35_5, g1r_35_6, g1n_36, g1n_37, g1n_38, g1n_39, g1n_40, g1r_41_7, g1r_41_8, g1n_42, g1r_43_2, g1n_44, g1r_45_0, g1r_45_1, g1r_45_2, g1r_46_9, g1r_46_10, g1r_46_11, g1r_46_12, g1r_46_13, g1r_46_14, g1r_46_15, g1r_46_16, g1r_46_17, g1n_47, g1n_48, g1n_49, g1n_50, g1n_51, g1n_52, g1n_53, g1n_54, g1n_55, g1r_56_2, g1r_56_3, g1r_56_4, g1r_56_5, g1r_56_6, g1n_57, g1n_58, g1n_59, g1n_60, g1n_61, g1r_62_7, g1r_62_8, g1n_63, g1r_64_2, g1n_65, g1r_66_2, g1n_67, g1r_68_7, g1r_68_8, g1n_69, g1r_70_2, g1n_71, g1r_72_7, g1r_72_8, g1n_73, g1r_74_2, g1n_75, g1r_76_7, g1r_76_8, g1n_77, g1r_78_2, g1n_79, g1r_80_7, g1r_80_8, g1n_81, g1r_82_2, g1n_83, g1r_84_7, g1r_84_8, g1n_85, g1r_86_2, g1n_87, g1r_88_7, g1r_88_8, g1n_89, g1r_90_2, g1n_91, g1r_92_7, g1r_92_8, g1n_93, g1r_94_2, g1n_95, g1r_96_7, g1r_96_8, g1n_97, g1r_98_2, g1n_99, g1r_100_7, g1r_100_8, g1n_101, g1r_102_2, g1n_103, g1r_104_7, g1r_104_8, g1n_105, g1r_106_2, g1n_107, g1r_108_7, g1r_108_8, g1n_109, g1r_110_2, g1n_111, g1r_112_7, g1r_112_8, g1n_113, g1r_114_2, g1n_115, g1r_116_7, g1r_116_8, g1n_117, g1r_118_2, g1n_119, g1r_120_0, g1r_120_1, g1r_120_2, g1r_121_7, g1r_121_8, g1n_122, g1r_123_2, g1n_124, g1n_125, g1n_126, g1r_127_0, g1r_127_1, g1r_127_2, g1r_127_3, g1r_128_7, g1r_128_8, g1n_129, g1r_130_2, g1n_131, g1n_132, g1n_133, g1n_134, g1r_135_7, g1n_136, g1n_150]
  rw [at_fn g1n_7 hk (by omega), b_some, c_beliefIn hN h, b_some, r_whoHave (σ := putF σ2 y 0 0) hN h.wi (by omega), b_some, r_beliefOf (σ := putF σ2 y 0 0) hN h.wi, b_some, show σ1.2.1 (z + 7) k = hv (σ2.2.1 (y + 1)) k from bear_eq h.wi h.tale hk]
  exact gdw_ok rfl rfl pf0 h.t0
theorem shr_and {x : Int32} {k : Nat} (hk : k < 32) : (x >>> (nI k &&& 31)) &&& (1 : Int32) = if bit x k = true then 1 else 0 := by
  by_cases e : bit x k = true
  · rw [if_pos e]
    exact (has_bit hk).mpr e
  · rw [if_neg e]
    apply bit_ext
    intro i hi
    rw [bit_and, bit_1, bit_0]
    by_cases h0 : i = 0
    · subst h0
      rw [bit_shr hk (by omega)]
      simpa using e
    · simp [h0]
theorem gd_name {N z y : Nat} (hN : 20000 < N) : Gd_name N (G1 z) (G2 y) z y (z + 150) (Sim z y) := by
  intro σ1 σ2 h c1 c2
  unfold fL_name
  apply gd_w
  unfold fX11_name fX12_name
  refine name_pre h (fun τ => if_pos rfl) (fun k hk hk6 e1 => ?_)
  subst e1
  have wi := h.wi
  have t := h.tale
  simp only [g1r_0_0, g1r_0_1, g1r_0_2, g1r_0_3, g1r_0_4, g1r_0_5, g1r_0_6, g1r_0_7, g1r_0_8, g1r_1_5, g1n_2, g1r_3_0, g1r_3_1, g1r_3_2, g1r_4_9, g1r_4_10, g1r_4_11, g1r_4_12, g1r_4_13, g1r_4_14, g1r_4_15, g1r_4_16, g1r_4_17, g1n_5, g1n_6, g1n_7, g1n_8, g1n_9, g1n_10, g1n_11, g1n_12, g1n_13, g1r_14_2, g1r_14_3, g1r_14_4, g1r_14_5, g1r_14_6, g1n_15, g1n_16, g1n_17, g1n_18, g1n_19, g1r_20_7, g1r_20_8, g1n_21, g1r_22_2, g1n_23, g1r_24_0, g1r_24_1, g1r_24_2, g1r_25_9, g1r_25_10, g1r_25_11, g1r_25_12, g1r_25_13, g1r_25_14, g1r_25_15, g1r_25_16, g1r_25_17, g1n_26, g1n_27, g1n_28, g1n_29, g1n_30, g1n_31, g1n_32, g1n_33, g1n_34, g1r_35_2, g1r_35_3, g1r_35_4, g1r_35_5, g1r_35_6, g1n_36, g1n_37, g1n_38, g1n_39, g1n_40, g1r_41_7, g1r_41_8, g1n_42, g1r_43_2, g1n_44, g1r_45_0, g1r_45_1, g1r_45_2, g1r_46_9, g1r_46_10, g1r_46_11, g1r_46_12, g1r_46_13, g1r_46_14, g1r_46_15, g1r_46_16, g1r_46_17, g1n_47, g1n_48, g1n_49, g1n_50, g1n_51, g1n_52, g1n_53, g1n_54, g1n_55, g1r_56_2, g1r_56_3, g1r_56_4, g1r_56_5, g1r_56_6, g1n_57, g1n_58, g1n_59, g1n_60, g1n_61, g1r_62_7, g1r_62_8, g1n_63, g1r_64_2, g1n_65, g1r_66_2, g1n_67, g1r_68_7, g1r_68_8, g1n_69, g1r_70_2, g1n_71, g1r_72_7, g1r_72_8, g1n_73, g1r_74_2, g1n_75, g1r_76_7, g1r_76_8, g1n_77, g1r_78_2, g1n_79, g1r_80_7, g1r_80_8, g1n_81, g1r_82_2, g1n_83, g1r_84_7, g1r_84_8, g1n_85, g1r_86_2, g1n_87, g1r_88_7, g1r_88_8, g1n_89, g1r_90_2, g1n_91, g1r_92_7, g1r_92_8, g1n_93, g1r_94_2, g1n_95, g1r_96_7, g1r_96_8, g1n_97, g1r_98_2, g1n_99, g1r_100_7, g1r_100_8, g1n_101, g1r_102_2, g1n_103, g1r_104_7, g1r_104_8, g1n_105, g1r_106_2, g1n_107, g1r_108_7, g1r_108_8, g1n_109, g1r_110_2, g1n_111, g1r_112_7, g1r_112_8, g1n_113, g1r_114_2, g1n_115, g1r_116_7, g1r_116_8, g1n_117, g1r_118_2, g1n_119, g1r_120_0, g1r_120_1, g1r_120_2, g1r_121_7, g1r_121_8, g1n_122, g1r_123_2, g1n_124, g1n_125, g1n_126, g1r_127_0, g1r_127_1, g1r_127_2, g1r_127_3, g1r_128_7, g1r_128_8, g1n_129, g1r_130_2, g1n_131, g1n_132, g1n_133, g1n_134, g1r_135_7, g1n_136, g1n_150, r_inn, b_some]
  by_cases e0 : c2 = 0
  · subst e0
    rw [if_pos rfl, at_fn g1n_5 hk6 (by omega), b_some]
    refine gdw_ok rfl ?_ pf0 h.t0
    show fX12_name_b33 N (G2 y) y (nI k) 0 0 _ = _
    unfold fX12_name_b33
    rw [r_t0, b_some, if_pos rfl, if_neg (by decide), r_ofName0 (by omega)]
    exact congrArg (fun x => some (x, putF σ2 y 0 0)) (t.2.1 k hk).1.symm
  by_cases e1 : c2 = 1
  · subst e1
    rw [if_neg e0, if_pos rfl, at_fn g1n_6 hk6 (by omega), b_some]
    refine gdw_ok rfl ?_ pf0 h.t0
    show fX12_name_b33 N (G2 y) y (nI k) 1 0 _ = _
    unfold fX12_name_b33
    rw [r_t0, b_some, if_pos rfl, if_neg (by decide), r_ofName1 (by omega)]
    exact congrArg (fun x => some (x, putF σ2 y 0 0)) (t.2.1 k hk).2.symm
  by_cases e2 : c2 = 2
  · subst e2
    rw [if_neg e0, if_neg e1, if_pos rfl, has_fn (by omega), b_some, ite01, h.pos]
    refine gdw_ok (v := if bit (σ2.2.1 (y + 1) 12) k = true then 1 else 0) (τ1 := σ1) (τ2 := putF σ2 y 0 0) ?_ ?_ pf0 h.t0
    · split <;> rfl
    · show fX12_name_b33 N (G2 y) y (nI k) 2 0 _ = _
      unfold fX12_name_b33
      rw [r_t0, b_some, if_pos rfl, if_pos (by decide), if_pos rfl]
      simp only [g2r_0_1, g2r_0_2, g2r_0_3, g2r_0_4, g2r_0_5, g2r_0_8, g2r_0_15, g2r_0_17, g2r_0_25, g2r_0_26, g2r_0_27, g2r_0_28, g2n_1, g2n_2, g2n_3, g2n_4, g2n_5, g2n_6, g2n_7, g2n_8, g2n_9, g2n_10, g2n_11, g2n_12]
      show some ((σ2.2.1 (y + 1) 12 >>> (nI k &&& 31)) &&& 1, _) = _
      rw [shr_and (by omega)]
  by_cases e3 : c2 = 3
  · subst e3
    rw [if_neg e0, if_neg e1, if_neg e2, if_pos rfl, c_beliefIn hN h, b_some]
    refine gdw_ok rfl ?_ pf0 h.t0
    show fX12_name_b33 N (G2 y) y (nI k) 3 0 _ = _
    unfold fX12_name_b33
    rw [r_t0, b_some, if_pos rfl, if_pos (by decide), if_neg (by decide), r_beliefOf (σ := putF σ2 y 0 0) hN wi]
    rfl
  · rw [if_neg e0, if_neg e1, if_neg e2, if_neg e3, show (if c2 < 0 then (0 : Int32) else if 3 < c2 then 0 else 1) = 0 from in_out (m := 3) (by omega) (fun j hj => by
          match j, hj with
          | 0, _ => exact e0
          | 1, _ => exact e1
          | 2, _ => exact e2
          | 3, _ => exact e3)]
    exact gdw_ex (k := 2) (fun τ => (if_neg nse_ne).trans (if_pos rfl)) (by decide) rfl rfl pf0 h.th
