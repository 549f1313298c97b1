/-! the story's lines: deed, word -/
theorem JT.after {N z y L p s1 s2 : Nat} {B : Nat → Int32} {τ1 τ2 : pS} {lo hi : Int32} (hN : 20000 < N) (j : JT z y B L p τ1 τ2) (sw : sameW s1 s2) (hlo : 0 ≤ lo.toInt) : ∃ v υ p' b', fX12_after N (G2 y) y s2 lo hi τ2 = some (v, PT y τ2 p' b') ∧ TF z τ1 υ ∧ ((∃ ω, fX9_passWord N (G1 z) (z + 1) s1 τ1 = some (1, ω) ∧ fX9_passNumber N (G1 z) (z + 1) lo hi ω = some (v, υ) ∧ lo ≤ v ∧ v ≤ hi ∧ JT z y B L p' υ (PT y τ2 p' b')) ∨ (v = -1 ∧ υ.1 (z + 1) 2 = nI b' ∧ (fX9_passWord N (G1 z) (z + 1) s1 τ1 = some (0, υ) ∨ ∃ ω, fX9_passWord N (G1 z) (z + 1) s1 τ1 = some (1, ω) ∧ fX9_passNumber N (G1 z) (z + 1) lo hi ω = some (-1, υ)))) := by
  obtain ⟨l1, w⟩ := j.letters hN
  obtain ⟨v, i1, i2, i3⟩ := w.is hN sw
  unfold fX9_passWord fX12_after
  rw [i1, l1, b_some, b_some, i2, b_some]
  rcases i3 with ⟨rfl, hf⟩ | rfl
  · obtain ⟨υ, x1, x2, x3⟩ := w.adv hN hf
    obtain ⟨v, ω, p', b', a1, a2, a3, a4⟩ := x3.num (lo := lo) (hi := hi) hN hlo
    rw [PT_PT] at a2 a4
    rw [if_neg (show ¬ (1 : Int32) = 0 by decide), x1, b_some, if_neg (show ¬ (1 : Int32) = 0 by decide), a2, b_some]
    refine ⟨v, ω, p', b', rfl, x2.t a3, ?_⟩
    rcases a4 with ⟨q1, q2, q3⟩ | ⟨rfl, q2⟩
    · exact Or.inl ⟨υ, rfl, a1, q1, q2, q3⟩
    · exact Or.inr ⟨rfl, q2, Or.inr ⟨υ, rfl, a1⟩⟩
  · rw [if_pos rfl, if_pos rfl]
    exact ⟨-1, τ1, _, _, rfl, TF.r, Or.inr ⟨rfl, w.2.1.2.1, Or.inl rfl⟩⟩
theorem ixr {b c s n : Nat} : nI b + nI s * nI n + nI c = nI (b + s * n + c) := by
  rw [nI_mul, nI_add, nI_add]
theorem bds {lo hi v : Int32} (h1 : lo ≤ v) (h2 : v ≤ hi) : lo.toInt ≤ v.toInt ∧ v.toInt ≤ hi.toInt := ⟨i_le.mp h1, i_le.mp h2⟩
theorem ne_m1 {v : Int32} (h : 0 ≤ v.toInt) : ¬ v = -1 := fun q => by
  rw [q] at h
  exact absurd h (by decide)
theorem ge_0 {v : Int32} (h : 0 ≤ v.toInt) : (0 : Int32) ≤ v := by
  rw [i_le]
  exact h
theorem w_deed {N z y L p b n : Nat} {B : Nat → Int32} {τ1 τ2 ω : pS} {v u : Int32} (jt : JT z y B L p ω (PT y τ2 p b)) (f1 : FC z τ1 ω) (w1 : WorldR ω (z + 25) (τ2.2.1 (y + 1))) (ec : τ2.2.1 (y + 1) 3 = nI n) (hn : n < 4) (hv : 0 ≤ v.toInt ∧ v.toInt ≤ 20) (hu : 0 ≤ u.toInt ∧ u.toInt ≤ 9) : LPost z y B L τ1 τ2 ((fX8_addDeed N (G1 z) (z + 25) v u ω).bind (fun q5 => some ((1 : Int32), q5))) (fX12_readDeed_b37 N (G2 y) y (nI n) v u (PT y τ2 p b)) := by
  have wi := w1.1
  have hc : cN (τ2.2.1 (y + 1)) 3 = n := by
    unfold cN
    rw [ec, nI_toInt (by omega)]
    omega
  have t5 : ω.1 (z + 25) 3 = nI n := (w1.2.1.1.2.2.2.1).trans ec
  unfold fX8_addDeed fX12_readDeed_b37
  rw [if_pos (ge_0 hu.1)]
  simp only [g1r_0_0, g1r_0_1, g1r_0_2, g1r_0_3, g1r_0_4, g1r_0_5, g1r_0_6, g1r_0_7, g1r_0_8, g1r_1_5, g1n_2, g1r_3_0, g1r_3_1, g1r_3_2, g1r_4_9, g1r_4_10, g1r_4_11, g1r_4_12, g1r_4_13, g1r_4_14, g1r_4_15, g1r_4_16, g1r_4_17, g1n_5, g1n_6, g1n_7, g1n_8, g1n_9, g1n_10, g1n_11, g1n_12, g1n_13, g1r_14_2, g1r_14_3, g1r_14_4, g1r_14_5, g1r_14_6, g1n_15, g1n_16, g1n_17, g1n_18, g1n_19, g1r_20_7, g1r_20_8, g1n_21, g1r_22_2, g1n_23, g1r_24_0, g1r_24_1, g1r_24_2, g1r_25_9, g1r_25_10, g1r_25_11, g1r_25_12, g1r_25_13, g1r_25_14, g1r_25_15, g1r_25_16, g1r_25_17, g1n_26, g1n_27, g1n_28, g1n_29, g1n_30, g1n_31, g1n_32, g1n_33, g1n_34, g1r_35_2, g1r_35_3, g1r_35_4, g1r_35_5, g1r_35_6, g1n_36, g1n_37, g1n_38, g1n_39, g1n_40, g1r_41_7, g1r_41_8, g1n_42, g1r_43_2, g1n_44, g1r_45_0, g1r_45_1, g1r_45_2, g1r_46_9, g1r_46_10, g1r_46_11, g1r_46_12, g1r_46_13, g1r_46_14, g1r_46_15, g1r_46_16, g1r_46_17, g1n_47, g1n_48, g1n_49, g1n_50, g1n_51, g1n_52, g1n_53, g1n_54, g1n_55, g1r_56_2, g1r_56_3, g1r_56_4, g1r_56_5, g1r_56_6, g1n_57, g1n_58, g1n_59, g1n_60, g1n_61, g1r_62_7, g1r_62_8, g1n_63, g1r_64_2, g1n_65, g1r_66_2, g1n_67, g1r_68_7, g1r_68_8, g1n_69, g1r_70_2, g1n_71, g1r_72_7, g1r_72_8, g1n_73, g1r_74_2, g1n_75, g1r_76_7, g1r_76_8, g1n_77, g1r_78_2, g1n_79, g1r_80_7, g1r_80_8, g1n_81, g1r_82_2, g1n_83, g1r_84_7, g1r_84_8, g1n_85, g1r_86_2, g1n_87, g1r_88_7, g1r_88_8, g1n_89, g1r_90_2, g1n_91, g1r_92_7, g1r_92_8, g1n_93, g1r_94_2, g1n_95, g1r_96_7, g1r_96_8, g1n_97, g1r_98_2, g1n_99, g1r_100_7, g1r_100_8, g1n_101, g1r_102_2, g1n_103, g1r_104_7, g1r_104_8, g1n_105, g1r_106_2, g1n_107, g1r_108_7, g1r_108_8, g1n_109, g1r_110_2, g1n_111, g1r_112_7, g1r_112_8, g1n_113, g1r_114_2, g1n_115, g1r_116_7, g1r_116_8, g1n_117, g1r_118_2, g1n_119, g1r_120_0, g1r_120_1, g1r_120_2, g1r_121_7, g1r_121_8, g1n_122, g1r_123_2, g1n_124, g1n_125, g1n_126, g1r_127_0, g1r_127_1, g1r_127_2, g1r_127_3, g1r_128_7, g1r_128_8, g1n_129, g1r_130_2, g1n_131, g1n_132, g1n_133, g1n_134, g1r_135_7, g1n_136, g1n_150, g2r_0_1, g2r_0_2, g2r_0_3, g2r_0_4, g2r_0_5, g2r_0_8, g2r_0_15, g2r_0_17, g2r_0_25, g2r_0_26, g2r_0_27, g2r_0_28, g2n_1, g2n_2, g2n_3, g2n_4, g2n_5, g2n_6, g2n_7, g2n_8, g2n_9, g2n_10, g2n_11, g2n_12]
  rw [t5, if_neg (nI_pos (by omega)), if_neg (show ¬ (4 : Int32) ≤ nI n from lit_lt (m := 4) hn (by decide)), ck_nI (by omega) (by omega), sa1, t5, ck_nI (by omega) (by omega), b_some, sa1, sa1, t5, nI_1, show (67 : Int32) + 2 * nI n + 0 = nI (67 + 2 * n) from ixr (b := 67) (s := 2) (c := 0), show (67 : Int32) + 2 * nI n + 1 = nI (68 + 2 * n) from (ixr (b := 67) (s := 2) (c := 1)).trans (by congr 1; omega), ck_nI (by omega) (by omega), ck_nI (by omega) (by omega)]
  have hw : (sA (sA (sA (PT y τ2 p b) (y + 1) (nI (67 + 2 * n)) v) (y + 1) (nI (68 + 2 * n)) u) (y + 1) 3 (gA (sA (sA (PT y τ2 p b) (y + 1) (nI (67 + 2 * n)) v) (y + 1) (nI (68 + 2 * n)) u) (y + 1) 3 + 1)).2.1 (y + 1) = va_up (va_up (va_up (τ2.2.1 (y + 1)) (67 + 2 * n) v) (68 + 2 * n) u) 3 (nI (n + 1)) := by
    rw [sA_w (n := 3) rfl, sA_w (n := 68 + 2 * n) (nI_clamp (by omega)), sA_w (n := 67 + 2 * n) (nI_clamp (by omega))]
    congr 1
    show (sA (sA (PT y τ2 p b) (y + 1) (nI (67 + 2 * n)) v) (y + 1) (nI (68 + 2 * n)) u).2.1 (y + 1) 3 + 1 = _
    rw [sA_w (n := 68 + 2 * n) (nI_clamp (by omega)), sA_w (n := 67 + 2 * n) (nI_clamp (by omega)), va_up_ne _ _ (by omega), va_up_ne _ _ (by omega), PT_2, ec, nI_1]
  have ew : ∀ k, k ≠ 3 ∧ k ≠ 67 + 2 * n ∧ k ≠ 68 + 2 * n → va_up (va_up (va_up (τ2.2.1 (y + 1)) (67 + 2 * n) v) (68 + 2 * n) u) 3 (nI (n + 1)) k = τ2.2.1 (y + 1) k := fun k a => by rw [va_up_ne _ _ a.1, va_up_ne _ _ a.2.2, va_up_ne _ _ a.2.1]
  have wc : va_up (va_up (va_up (τ2.2.1 (y + 1)) (67 + 2 * n) v) (68 + 2 * n) u) 3 (nI (n + 1)) 3 = nI (n + 1) := va_up_self _ _ _
  have wv : va_up (va_up (va_up (τ2.2.1 (y + 1)) (67 + 2 * n) v) (68 + 2 * n) u) 3 (nI (n + 1)) (67 + 2 * n) = v := by rw [va_up_ne _ _ (by omega), va_up_ne _ _ (by omega), va_up_self]
  have wu : va_up (va_up (va_up (τ2.2.1 (y + 1)) (67 + 2 * n) v) (68 + 2 * n) u) 3 (nI (n + 1)) (68 + 2 * n) = u := by rw [va_up_ne _ _ (by omega), va_up_self]
  generalize hW : va_up (va_up (va_up (τ2.2.1 (y + 1)) (67 + 2 * n) v) (68 + 2 * n) u) 3 (nI (n + 1)) = w' at hw ew wc wv wu
  have cc : cN w' 3 = n + 1 := by
    unfold cN
    rw [wc, nI_toInt (by omega)]
    omega
  have du : DU z ω (putF (sA (sA ω (z + 31) (nI n) v) (z + 32) (nI n) u) (z + 25) 3 (nI (n + 1))) := ((DU.r.sa (by omega)).sa (by omega)).pf (by omega)
  refine ⟨1, _, _, rfl, rfl, f1.t du.fc, FY.pt.sa.sa.sa, Or.inl ⟨rfl, ⟨p, jt.mv du (fun _ => rfl) (by rw [sA_o (by omega), sA_o (by omega), sA_o (by omega)])⟩, ?_, ?_⟩⟩
  · rw [hw]
    refine wor_mk w1 ?_ (fun k hk => ew k (by omega)) (fun k => by rw [pf_o (by omega), sa1, sa1]) (fun k => by rw [pf_o (by omega), sa1, sa1]) (fun o ho => by rw [pfA, sA_o (by omega), sA_o (by omega)]) ?_ ?_
    · refine wi.st (fun k hk => ew k (by omega)) ?_ ?_ ?_ ?_ ?_ ?_ ?_ ?_ ?_ ?_ ?_ ?_ ?_ ?_ ?_ ?_
      · rw [ew 0 (by omega)]
        exact wi.1
      · rw [ew 1 (by omega)]
        exact ⟨Int.le_refl _, wi.2.1.2⟩
      · rw [ew 2 (by omega)]
        exact wi.2.2.1
      · rw [wc, nI_toInt (by omega)]
        omega
      · rw [ew 4 (by omega)]
        exact wi.2.2.2.2.1
      · rw [ew 7 (by omega)]
        exact wi.2.2.2.2.2.2.2.1
      · rw [ew 8 (by omega)]
        exact wi.2.2.2.2.2.2.2.2.1
      · rw [ew 10 (by omega)]
        exact wi.yr
      · rw [ew 11 (by omega), ew 0 (by omega)]
        exact wi.hB
      · unfold cN
        rw [ew 12 (by omega), ew 0 (by omega)]
        exact wi.pos
      · rw [ew 14 (by omega)]
        exact wi.2.2.2.2.2.2.2.2.2.2.2.2.2.2.1
      · exact wi.s17 (ew 0 (by omega)) (fun k a b => ew k (by omega))
      · exact wi.s37 (ew 1 (by omega)) (by rw [ew 2 (by omega)]; exact Int.le_refl _) (fun k a b => ew k (by omega))
      · exact wi.s55 (ew 2 (by omega)) (fun k a b => ew k (by omega))
      · intro i hi
        rw [cc] at hi
        by_cases q : i = n
        · rw [q, wv, wu]
          exact ⟨hv, hu⟩
        · rw [ew (67 + 2 * i) (by omega), ew (68 + 2 * i) (by omega)]
          exact wi.de i (by omega)
      · exact wi.s75 (ew 4 (by omega)) (fun k a b => ew k (by omega))
    · have ta := w1.2.1
      refine tale_of ?_ (fun k hk => ?_)
      · have t0 := ta.1
        rw [pf0n (by decide), pf0n (by decide), pf0n (by decide), pf0, pf0n (by decide), pf0n (by decide), pf0n (by decide), pf0n (by decide), pf0n (by decide), ew 5 (by omega), ew 0 (by omega), ew 2 (by omega), wc, ew 1 (by omega), ew 4 (by omega), ew 8 (by omega), ew 10 (by omega), ew 14 (by omega)]
        exact ⟨t0.1, t0.2.1, t0.2.2.1, rfl, t0.2.2.2.2.1, t0.2.2.2.2.2.1, t0.2.2.2.2.2.2.1, t0.2.2.2.2.2.2.2.1, t0.2.2.2.2.2.2.2.2⟩
      · by_cases q : k = 2
        · subst q
          intro i hi
          rw [cc] at hi
          show (sA (sA ω (z + 31) (nI n) v) (z + 32) (nI n) u).2.1 (z + 31) i = _ ∧ (sA (sA ω (z + 31) (nI n) v) (z + 32) (nI n) u).2.1 (z + 32) i = _
          rw [sA_o (by omega), sA_w (n := n) (nI_clamp (by omega)), sA_w (n := n) (nI_clamp (by omega)), sA_o (by omega)]
          by_cases q : i = n
          · rw [q, wv, wu, va_up_self, va_up_self]
            exact ⟨rfl, rfl⟩
          · rw [va_up_ne _ _ q, va_up_ne _ _ q, ew (67 + 2 * i) (by omega), ew (68 + 2 * i) (by omega)]
            exact ta.2.2.2.2.1 i (by omega)
        · exact trow_e wi hk (tale_to ta k hk) (fun j hj => by
            show (sA (sA ω (z + 31) (nI n) v) (z + 32) (nI n) u).2.1 (z + 25 + (1 + j)) = _
            rw [sA_o (by omega), sA_o (by omega)]) (fun j hj => ew j (by omega))
    · exact mind_e (fun k => by rw [pf_o (by omega), sa1, sa1]) (fun k => by rw [pfA, sA_o (by omega), sA_o (by omega)]) (fun k hk => ew k (by omega)) wi.c1 w1.2.2.2.1
  · rw [hw, ew 5 (by omega)]
theorem w_word {N z y L p b n : Nat} {B : Nat → Int32} {τ1 τ2 ω : pS} {v u : Int32} (jt : JT z y B L p ω (PT y τ2 p b)) (f1 : FC z τ1 ω) (w1 : WorldR ω (z + 25) (τ2.2.1 (y + 1))) (ec : τ2.2.1 (y + 1) 2 = nI n) (hn : n < 6) (hv : 0 ≤ v.toInt ∧ v.toInt ≤ 20) (hu : -1 ≤ u.toInt ∧ u.toInt < 6) : LPost z y B L τ1 τ2 (fX7_readsWord_b53 N (G1 z) (z + 25) v u ω) (fX12_readWord_b66 N (G2 y) y (nI n) v u (PT y τ2 p b)) := by
  have wi := w1.1
  have hc : cN (τ2.2.1 (y + 1)) 2 = n := by
    unfold cN
    rw [ec, nI_toInt (by omega)]
    omega
  have t5 : ω.1 (z + 25) 2 = nI n := (w1.2.1.1.2.2.1).trans ec
  unfold fX7_readsWord_b53 fX8_addWord fX12_readWord_b66
  simp only [g1r_0_0, g1r_0_1, g1r_0_2, g1r_0_3, g1r_0_4, g1r_0_5, g1r_0_6, g1r_0_7, g1r_0_8, g1r_1_5, g1n_2, g1r_3_0, g1r_3_1, g1r_3_2, g1r_4_9, g1r_4_10, g1r_4_11, g1r_4_12, g1r_4_13, g1r_4_14, g1r_4_15, g1r_4_16, g1r_4_17, g1n_5, g1n_6, g1n_7, g1n_8, g1n_9, g1n_10, g1n_11, g1n_12, g1n_13, g1r_14_2, g1r_14_3, g1r_14_4, g1r_14_5, g1r_14_6, g1n_15, g1n_16, g1n_17, g1n_18, g1n_19, g1r_20_7, g1r_20_8, g1n_21, g1r_22_2, g1n_23, g1r_24_0, g1r_24_1, g1r_24_2, g1r_25_9, g1r_25_10, g1r_25_11, g1r_25_12, g1r_25_13, g1r_25_14, g1r_25_15, g1r_25_16, g1r_25_17, g1n_26, g1n_27, g1n_28, g1n_29, g1n_30, g1n_31, g1n_32, g1n_33, g1n_34, g1r_35_2, g1r_35_3, g1r_35_4, g1r_35_5, g1r_35_6, g1n_36, g1n_37, g1n_38, g1n_39, g1n_40, g1r_41_7, g1r_41_8, g1n_42, g1r_43_2, g1n_44, g1r_45_0, g1r_45_1, g1r_45_2, g1r_46_9, g1r_46_10, g1r_46_11, g1r_46_12, g1r_46_13, g1r_46_14, g1r_46_15, g1r_46_16, g1r_46_17, g1n_47, g1n_48, g1n_49, g1n_50, g1n_51, g1n_52, g1n_53, g1n_54, g1n_55, g1r_56_2, g1r_56_3, g1r_56_4, g1r_56_5, g1r_56_6, g1n_57, g1n_58, g1n_59, g1n_60, g1n_61, g1r_62_7, g1r_62_8, g1n_63, g1r_64_2, g1n_65, g1r_66_2, g1n_67, g1r_68_7, g1r_68_8, g1n_69, g1r_70_2, g1n_71, g1r_72_7, g1r_72_8, g1n_73, g1r_74_2, g1n_75, g1r_76_7, g1r_76_8, g1n_77, g1r_78_2, g1n_79, g1r_80_7, g1r_80_8, g1n_81, g1r_82_2, g1n_83, g1r_84_7, g1r_84_8, g1n_85, g1r_86_2, g1n_87, g1r_88_7, g1r_88_8, g1n_89, g1r_90_2, g1n_91, g1r_92_7, g1r_92_8, g1n_93, g1r_94_2, g1n_95, g1r_96_7, g1r_96_8, g1n_97, g1r_98_2, g1n_99, g1r_100_7, g1r_100_8, g1n_101, g1r_102_2, g1n_103, g1r_104_7, g1r_104_8, g1n_105, g1r_106_2, g1n_107, g1r_108_7, g1r_108_8, g1n_109, g1r_110_2, g1n_111, g1r_112_7, g1r_112_8, g1n_113, g1r_114_2, g1n_115, g1r_116_7, g1r_116_8, g1n_117, g1r_118_2, g1n_119, g1r_120_0, g1r_120_1, g1r_120_2, g1r_121_7, g1r_121_8, g1n_122, g1r_123_2, g1n_124, g1n_125, g1n_126, g1r_127_0, g1r_127_1, g1r_127_2, g1r_127_3, g1r_128_7, g1r_128_8, g1n_129, g1r_130_2, g1n_131, g1n_132, g1n_133, g1n_134, g1r_135_7, g1n_136, g1n_150, g2r_0_1, g2r_0_2, g2r_0_3, g2r_0_4, g2r_0_5, g2r_0_8, g2r_0_15, g2r_0_17, g2r_0_25, g2r_0_26, g2r_0_27, g2r_0_28, g2n_1, g2n_2, g2n_3, g2n_4, g2n_5, g2n_6, g2n_7, g2n_8, g2n_9, g2n_10, g2n_11, g2n_12]
  rw [t5, if_neg (nI_pos (by omega)), if_neg (show ¬ (6 : Int32) ≤ nI n from lit_lt (m := 6) hn (by decide)), ck_nI (by omega) (by omega), sa1, t5, ck_nI (by omega) (by omega), b_some, sa1, sa1, t5, nI_1, show (55 : Int32) + 2 * nI n + 0 = nI (55 + 2 * n) from ixr (b := 55) (s := 2) (c := 0), show (55 : Int32) + 2 * nI n + 1 = nI (56 + 2 * n) from (ixr (b := 55) (s := 2) (c := 1)).trans (by congr 1; omega), ck_nI (by omega) (by omega), ck_nI (by omega) (by omega)]
  have hw : (sA (sA (sA (PT y τ2 p b) (y + 1) (nI (55 + 2 * n)) v) (y + 1) (nI (56 + 2 * n)) u) (y + 1) 2 (gA (sA (sA (PT y τ2 p b) (y + 1) (nI (55 + 2 * n)) v) (y + 1) (nI (56 + 2 * n)) u) (y + 1) 2 + 1)).2.1 (y + 1) = va_up (va_up (va_up (τ2.2.1 (y + 1)) (55 + 2 * n) v) (56 + 2 * n) u) 2 (nI (n + 1)) := by
    rw [sA_w (n := 2) rfl, sA_w (n := 56 + 2 * n) (nI_clamp (by omega)), sA_w (n := 55 + 2 * n) (nI_clamp (by omega))]
    congr 1
    show (sA (sA (PT y τ2 p b) (y + 1) (nI (55 + 2 * n)) v) (y + 1) (nI (56 + 2 * n)) u).2.1 (y + 1) 2 + 1 = _
    rw [sA_w (n := 56 + 2 * n) (nI_clamp (by omega)), sA_w (n := 55 + 2 * n) (nI_clamp (by omega)), va_up_ne _ _ (by omega), va_up_ne _ _ (by omega), PT_2, ec, nI_1]
  have ew : ∀ k, k ≠ 2 ∧ k ≠ 55 + 2 * n ∧ k ≠ 56 + 2 * n → va_up (va_up (va_up (τ2.2.1 (y + 1)) (55 + 2 * n) v) (56 + 2 * n) u) 2 (nI (n + 1)) k = τ2.2.1 (y + 1) k := fun k a => by rw [va_up_ne _ _ a.1, va_up_ne _ _ a.2.2, va_up_ne _ _ a.2.1]
  have wc : va_up (va_up (va_up (τ2.2.1 (y + 1)) (55 + 2 * n) v) (56 + 2 * n) u) 2 (nI (n + 1)) 2 = nI (n + 1) := va_up_self _ _ _
  have wv : va_up (va_up (va_up (τ2.2.1 (y + 1)) (55 + 2 * n) v) (56 + 2 * n) u) 2 (nI (n + 1)) (55 + 2 * n) = v := by rw [va_up_ne _ _ (by omega), va_up_ne _ _ (by omega), va_up_self]
  have wu : va_up (va_up (va_up (τ2.2.1 (y + 1)) (55 + 2 * n) v) (56 + 2 * n) u) 2 (nI (n + 1)) (56 + 2 * n) = u := by rw [va_up_ne _ _ (by omega), va_up_self]
  generalize hW : va_up (va_up (va_up (τ2.2.1 (y + 1)) (55 + 2 * n) v) (56 + 2 * n) u) 2 (nI (n + 1)) = w' at hw ew wc wv wu
  have cc : cN w' 2 = n + 1 := by
    unfold cN
    rw [wc, nI_toInt (by omega)]
    omega
  have du : DU z ω (putF (sA (sA ω (z + 29) (nI n) v) (z + 30) (nI n) u) (z + 25) 2 (nI (n + 1))) := ((DU.r.sa (by omega)).sa (by omega)).pf (by omega)
  refine ⟨1, _, _, rfl, rfl, f1.t du.fc, FY.pt.sa.sa.sa, Or.inl ⟨rfl, ⟨p, jt.mv du (fun _ => rfl) (by rw [sA_o (by omega), sA_o (by omega), sA_o (by omega)])⟩, ?_, ?_⟩⟩
  · rw [hw]
    refine wor_mk w1 ?_ (fun k hk => ew k (by omega)) (fun k => by rw [pf_o (by omega), sa1, sa1]) (fun k => by rw [pf_o (by omega), sa1, sa1]) (fun o ho => by rw [pfA, sA_o (by omega), sA_o (by omega)]) ?_ ?_
    · refine wi.st (fun k hk => ew k (by omega)) ?_ ?_ ?_ ?_ ?_ ?_ ?_ ?_ ?_ ?_ ?_ ?_ ?_ ?_ ?_ ?_
      · rw [ew 0 (by omega)]
        exact wi.1
      · rw [ew 1 (by omega)]
        exact ⟨Int.le_refl _, wi.2.1.2⟩
      · rw [wc, nI_toInt (by omega)]
        omega
      · rw [ew 3 (by omega)]
        exact wi.2.2.2.1
      · rw [ew 4 (by omega)]
        exact wi.2.2.2.2.1
      · rw [ew 7 (by omega)]
        exact wi.2.2.2.2.2.2.2.1
      · rw [ew 8 (by omega)]
        exact wi.2.2.2.2.2.2.2.2.1
      · rw [ew 10 (by omega)]
        exact wi.yr
      · rw [ew 11 (by omega), ew 0 (by omega)]
        exact wi.hB
      · unfold cN
        rw [ew 12 (by omega), ew 0 (by omega)]
        exact wi.pos
      · rw [ew 14 (by omega)]
        exact wi.2.2.2.2.2.2.2.2.2.2.2.2.2.2.1
      · exact wi.s17 (ew 0 (by omega)) (fun k a b => ew k (by omega))
      · refine wi.s37 (ew 1 (by omega)) ?_ (fun k a b => ew k (by omega))
        rw [wc, ec, nI_toInt (by omega), nI_toInt (by omega)]
        omega
      · intro i hi
        rw [cc] at hi
        by_cases q : i = n
        · rw [q, wv, wu]
          exact ⟨hv, hu⟩
        · rw [ew (55 + 2 * i) (by omega), ew (56 + 2 * i) (by omega)]
          exact wi.wo i (by omega)
      · exact wi.s67 (ew 3 (by omega)) (fun k a b => ew k (by omega))
      · exact wi.s75 (ew 4 (by omega)) (fun k a b => ew k (by omega))
    · have ta := w1.2.1
      refine tale_of ?_ (fun k hk => ?_)
      · have t0 := ta.1
        rw [pf0n (by decide), pf0n (by decide), pf0, pf0n (by decide), pf0n (by decide), pf0n (by decide), pf0n (by decide), pf0n (by decide), pf0n (by decide), ew 5 (by omega), ew 0 (by omega), wc, ew 3 (by omega), ew 1 (by omega), ew 4 (by omega), ew 8 (by omega), ew 10 (by omega), ew 14 (by omega)]
        exact ⟨t0.1, t0.2.1, rfl, t0.2.2.2.1, t0.2.2.2.2.1, t0.2.2.2.2.2.1, t0.2.2.2.2.2.2.1, t0.2.2.2.2.2.2.2.1, t0.2.2.2.2.2.2.2.2⟩
      · by_cases q : k = 1
        · subst q
          intro i hi
          rw [cc] at hi
          show (sA (sA ω (z + 29) (nI n) v) (z + 30) (nI n) u).2.1 (z + 29) i = _ ∧ (sA (sA ω (z + 29) (nI n) v) (z + 30) (nI n) u).2.1 (z + 30) i = _
          rw [sA_o (by omega), sA_w (n := n) (nI_clamp (by omega)), sA_w (n := n) (nI_clamp (by omega)), sA_o (by omega)]
          by_cases q : i = n
          · rw [q, wv, wu, va_up_self, va_up_self]
            exact ⟨rfl, rfl⟩
          · rw [va_up_ne _ _ q, va_up_ne _ _ q, ew (55 + 2 * i) (by omega), ew (56 + 2 * i) (by omega)]
            exact ta.2.2.2.1 i (by omega)
        · exact trow_e wi hk (tale_to ta k hk) (fun j hj => by
            show (sA (sA ω (z + 29) (nI n) v) (z + 30) (nI n) u).2.1 (z + 25 + (1 + j)) = _
            rw [sA_o (by omega), sA_o (by omega)]) (fun j hj => ew j (by omega))
    · exact mind_e (fun k => by rw [pf_o (by omega), sa1, sa1]) (fun k => by rw [pfA, sA_o (by omega), sA_o (by omega)]) (fun k hk => ew k (by omega)) wi.c1 w1.2.2.2.1
  · rw [hw, ew 5 (by omega)]
theorem sw_costs : sameW 5 51 := by
  unfold sameW
  decide +kernel
theorem sw_of : sameW 3 49 := by
  unfold sameW
  decide +kernel
theorem sw_credit : sameW 1 47 := by
  unfold sameW
  decide +kernel
theorem j_deed {N z y L f : Nat} {B : Nat → Int32} {τ1 τ2 : pS} (hN : 20000 < N) (j : JW z y B L f τ1 τ2) (hf : f < en ltr B L f) (g : WorldR τ1 (z + 25) (τ2.2.1 (y + 1))) : LPost z y B L τ1 τ2 (fX7_readsDeed N (G1 z) (z + 1) (z + 25) τ1) (fX12_readDeed N (G2 y) y τ2) := by
  have wi := g.1
  have c3 := wi.c3
  have e3 : τ2.2.1 (y + 1) 3 = nI (cN (τ2.2.1 (y + 1)) 3) := nI_cN wi.2.2.2.1.1
  have t3 : τ1.1 (z + 25) 3 = τ2.2.1 (y + 1) 3 := g.2.1.1.2.2.2.1
  unfold fX7_readsDeed fX12_readDeed
  rw [r_deeds, b_some, t3, e3]
  generalize hn : cN (τ2.2.1 (y + 1)) 3 = n at c3 e3
  by_cases u : n < 4
  · rw [if_pos (show nI n < 4 from nI_lt (b := 4) u (by omega)), if_neg (show ¬ nI n = 4 from fun q => by
      have := (nI_eq (a := n) (b := 4) (by omega) (by omega)).mp q
      omega)]
    obtain ⟨υ, x1, x2, x3⟩ := j.adv hN hf
    obtain ⟨v, ω, p', b', a1, a2, a3, a4⟩ := x3.num (lo := 0) (hi := 20) hN (by decide)
    rw [x1, b_some, a1, b_some, a2, b_some]
    dsimp only
    rcases a4 with ⟨q1, q2, jt⟩ | ⟨rfl, hb⟩
    · have bd := bds q1 q2
      have v0 : 0 ≤ v.toInt := bd.1
      rw [if_neg (ne_m1 v0), if_pos (ge_0 v0)]
      obtain ⟨u2, ψ, p2, b2, c1, c2, c3⟩ := jt.after (lo := 0) (hi := 9) hN sw_costs (by decide)
      rw [PT_PT] at c1 c3
      rw [c1, b_some]
      rcases c3 with ⟨χ, d1, d2, d3, d4, d5⟩ | ⟨rfl, d1, d2⟩
      · have bd2 := bds d3 d4
        rw [d1, b_some]
        dsimp only
        rw [if_neg (show ¬ (1 : Int32) = 0 by decide), d2, b_some]
        dsimp only
        rw [if_neg (ne_m1 bd2.1)]
        exact w_deed d5 (x2.fc.t (a3.fc.t c2.fc)) (wor_TF c2 (wor_TF a3 (wor_TF x2 g))) e3 u bd bd2
      · unfold fX12_readDeed_b37
        dsimp only
        rw [if_neg (show ¬ (0 : Int32) ≤ -1 by decide)]
        refine lp_no (υ1 := ψ) ?_ rfl (x2.fc.t (a3.fc.t c2.fc)) FY.pt d1 PT_f12
        rcases d2 with d2 | ⟨χ, d2, d3⟩
        · rw [d2, b_some]
          dsimp only
          rw [if_pos rfl]
        · rw [d2, b_some]
          dsimp only
          rw [if_neg (show ¬ (1 : Int32) = 0 by decide), d3, b_some]
          dsimp only
          rw [if_pos rfl]
    · unfold fX12_readDeed_b37
      rw [if_pos rfl, if_neg (show ¬ (0 : Int32) ≤ -1 by decide), if_neg (show ¬ (0 : Int32) ≤ -1 by decide)]
      exact lp_no rfl rfl (x2.fc.t a3.fc) FY.pt hb PT_f12
  · have hn8 : n = 4 := by omega
    rw [hn8, if_neg (show ¬ nI 4 < 4 by decide), if_pos (show nI 4 = 4 from rfl)]
    exact lp_no rfl rfl FC.r FY.r j.2.1.2.1 j.2.2.2.2.2.1
theorem j_word {N z y L f : Nat} {B : Nat → Int32} {τ1 τ2 : pS} (hN : 20000 < N) (j : JW z y B L f τ1 τ2) (hf : f < en ltr B L f) (g : WorldR τ1 (z + 25) (τ2.2.1 (y + 1))) : LPost z y B L τ1 τ2 (fX7_readsWord N (G1 z) (z + 1) (z + 25) τ1) (fX12_readWord N (G2 y) y τ2) := by
  have wi := g.1
  have c3 := wi.c2
  have e3 : τ2.2.1 (y + 1) 2 = nI (cN (τ2.2.1 (y + 1)) 2) := nI_cN wi.2.2.1.1
  have t3 : τ1.1 (z + 25) 2 = τ2.2.1 (y + 1) 2 := g.2.1.1.2.2.1
  unfold fX7_readsWord fX12_readWord
  rw [r_words, b_some, t3, e3]
  generalize hn : cN (τ2.2.1 (y + 1)) 2 = n at c3 e3
  by_cases u : n < 6
  · rw [if_pos (show nI n < 6 from nI_lt (b := 6) u (by omega)), if_neg (show ¬ nI n = 6 from fun q => by
      have := (nI_eq (a := n) (b := 6) (by omega) (by omega)).mp q
      omega)]
    obtain ⟨υ, x1, x2, x3⟩ := j.adv hN hf
    obtain ⟨v, ω, p', b', a1, a2, a3, a4⟩ := x3.num (lo := 0) (hi := 20) hN (by decide)
    rw [x1, b_some, a1, b_some, a2, b_some]
    dsimp only
    rcases a4 with ⟨q1, q2, jt⟩ | ⟨rfl, hb⟩
    · have bd := bds q1 q2
      have v0 : 0 ≤ v.toInt := bd.1
      rw [if_neg (ne_m1 v0), if_pos (ge_0 v0)]
      obtain ⟨o, ψ, p2, b2, c1, c2, c3, c4, c5⟩ := jt.pass hN sw_of
      rw [PT_PT] at c2 c4
      rw [c1, b_some, c2, b_some]
      dsimp only
      have w1 : WorldR ψ (z + 25) (τ2.2.1 (y + 1)) := wor_TF c3 (wor_TF a3 (wor_TF x2 g))
      have fc : FC z τ1 ψ := x2.fc.t (a3.fc.t c3.fc)
      rcases c5 with rfl | ⟨rfl, _⟩
      · rw [if_neg (show ¬ (1 : Int32) = 0 by decide), if_neg (show ¬ (1 : Int32) = 0 by decide)]
        obtain ⟨t, s, χ, p3, b3, d1, d2, d3, d4⟩ := c4.one hN
        rw [PT_PT] at d2 d4
        rw [d1, b_some, d2, b_some]
        dsimp only
        rcases d4 with ⟨k1, k2, k3, k4, k5, k6⟩ | ⟨rfl, k2, k3⟩
        · rw [if_neg (ne_m1 k1), if_neg k3, bc_fn, b_some, if_pos k4, ntz_fn, k5, b_some]
          exact w_word k6 (fc.t d3.fc) (wor_TF d3 w1) e3 u bd ⟨by omega, k2⟩
        · rw [if_pos rfl]
          refine lp_no (υ2 := PT y τ2 p3 b3) rfl ?_ (fc.t d3.fc) FY.pt k3 PT_f12
          by_cases k4 : s < 0
          · rw [if_pos k4]
          · rw [if_neg k4, bc_fn, b_some, if_neg (by
              rcases k2 with k2 | k2
              · exact absurd k2 k4
              · exact k2)]
      · rw [if_pos rfl, if_pos rfl]
        exact w_word c4 fc w1 e3 u bd ⟨by decide, by decide⟩
    · rw [if_pos rfl, if_neg (show ¬ (0 : Int32) ≤ -1 by decide)]
      exact lp_no rfl rfl (x2.fc.t a3.fc) FY.pt hb PT_f12
  · have hn8 : n = 6 := by omega
    rw [hn8, if_neg (show ¬ nI 6 < 6 by decide), if_pos (show nI 6 = 6 from rfl)]
    exact lp_no rfl rfl FC.r FY.r j.2.1.2.1 j.2.2.2.2.2.1
