/-! the story's lines: friend, enemy, name -/
theorem w_member {N z y L p b n : Nat} {B : Nat → Int32} {τ1 τ2 ω : pS} {v c : Int32} (jt : JT z y B L p ω (PT y τ2 p b)) (f1 : FC z τ1 ω) (w1 : WorldR ω (z + 25) (τ2.2.1 (y + 1))) (ec : τ2.2.1 (y + 1) 1 = nI n) (hn : n < 6) (hv : 0 ≤ v.toInt ∧ v.toInt < (τ2.2.1 (y + 1) 2).toInt) (hc01 : c = 0 ∨ c = 1) : LPost z y B L τ1 τ2 (some (1, putF (sA (sA (putF ω (z + 41) 4 (ω.1 (z + 41) 4 ||| ((1 : Int32) <<< (nI n &&& 31)))) (z + 42) (nI n) v) (z + 33) (nI n) c) (z + 25) 4 (nI (n + 1)))) (some (1, sA (sA (sA (sA (PT y τ2 p b) (y + 1) (nI (37 + 3 * n)) c) (y + 1) (nI (38 + 3 * n)) v) (y + 1) (nI (39 + 3 * n)) 1) (y + 1) 1 (gA (sA (sA (sA (PT y τ2 p b) (y + 1) (nI (37 + 3 * n)) c) (y + 1) (nI (38 + 3 * n)) v) (y + 1) (nI (39 + 3 * n)) 1) (y + 1) 1 + 1))) := by
  have wi := w1.1
  have hc : cN (τ2.2.1 (y + 1)) 1 = n := by
    unfold cN
    rw [ec, nI_toInt (by omega)]
    omega
  have hw : (sA (sA (sA (sA (PT y τ2 p b) (y + 1) (nI (37 + 3 * n)) c) (y + 1) (nI (38 + 3 * n)) v) (y + 1) (nI (39 + 3 * n)) 1) (y + 1) 1 (gA (sA (sA (sA (PT y τ2 p b) (y + 1) (nI (37 + 3 * n)) c) (y + 1) (nI (38 + 3 * n)) v) (y + 1) (nI (39 + 3 * n)) 1) (y + 1) 1 + 1)).2.1 (y + 1) = va_up (va_up (va_up (va_up (τ2.2.1 (y + 1)) (37 + 3 * n) c) (38 + 3 * n) v) (39 + 3 * n) 1) 1 (nI (n + 1)) := by
    rw [sA_w (n := 1) rfl, sA_w (n := 39 + 3 * n) (nI_clamp (by omega)), sA_w (n := 38 + 3 * n) (nI_clamp (by omega)), sA_w (n := 37 + 3 * n) (nI_clamp (by omega))]
    congr 1
    show (sA (sA (sA (PT y τ2 p b) (y + 1) (nI (37 + 3 * n)) c) (y + 1) (nI (38 + 3 * n)) v) (y + 1) (nI (39 + 3 * n)) 1).2.1 (y + 1) 1 + 1 = _
    rw [sA_w (n := 39 + 3 * n) (nI_clamp (by omega)), sA_w (n := 38 + 3 * n) (nI_clamp (by omega)), sA_w (n := 37 + 3 * n) (nI_clamp (by omega)), va_up_ne _ _ (by omega), va_up_ne _ _ (by omega), va_up_ne _ _ (by omega), PT_2, ec, nI_1]
  have ew : ∀ k, k ≠ 1 ∧ k ≠ 37 + 3 * n ∧ k ≠ 38 + 3 * n ∧ k ≠ 39 + 3 * n → va_up (va_up (va_up (va_up (τ2.2.1 (y + 1)) (37 + 3 * n) c) (38 + 3 * n) v) (39 + 3 * n) 1) 1 (nI (n + 1)) k = τ2.2.1 (y + 1) k := fun k a => by rw [va_up_ne _ _ a.1, va_up_ne _ _ a.2.2.2, va_up_ne _ _ a.2.2.1, va_up_ne _ _ a.2.1]
  have wc : va_up (va_up (va_up (va_up (τ2.2.1 (y + 1)) (37 + 3 * n) c) (38 + 3 * n) v) (39 + 3 * n) 1) 1 (nI (n + 1)) 1 = nI (n + 1) := va_up_self _ _ _
  have w0 : va_up (va_up (va_up (va_up (τ2.2.1 (y + 1)) (37 + 3 * n) c) (38 + 3 * n) v) (39 + 3 * n) 1) 1 (nI (n + 1)) (37 + 3 * n) = c := by rw [va_up_ne _ _ (by omega), va_up_ne _ _ (by omega), va_up_ne _ _ (by omega), va_up_self]
  have wv : va_up (va_up (va_up (va_up (τ2.2.1 (y + 1)) (37 + 3 * n) c) (38 + 3 * n) v) (39 + 3 * n) 1) 1 (nI (n + 1)) (38 + 3 * n) = v := by rw [va_up_ne _ _ (by omega), va_up_ne _ _ (by omega), va_up_self]
  have w2 : va_up (va_up (va_up (va_up (τ2.2.1 (y + 1)) (37 + 3 * n) c) (38 + 3 * n) v) (39 + 3 * n) 1) 1 (nI (n + 1)) (39 + 3 * n) = 1 := by rw [va_up_ne _ _ (by omega), va_up_self]
  generalize hW : va_up (va_up (va_up (va_up (τ2.2.1 (y + 1)) (37 + 3 * n) c) (38 + 3 * n) v) (39 + 3 * n) 1) 1 (nI (n + 1)) = w' at hw ew wc w0 wv w2
  have cc : cN w' 1 = n + 1 := by
    unfold cN
    rw [wc, nI_toInt (by omega)]
    omega
  have du : DU z ω (putF (sA (sA (putF ω (z + 41) 4 (ω.1 (z + 41) 4 ||| ((1 : Int32) <<< (nI n &&& 31)))) (z + 42) (nI n) v) (z + 33) (nI n) c) (z + 25) 4 (nI (n + 1))) := (((DU.r.pf (by omega)).sa (by omega)).sa (by omega)).pf (by omega)
  refine ⟨1, _, _, rfl, rfl, f1.t du.fc, FY.pt.sa.sa.sa.sa, Or.inl ⟨rfl, ⟨p, jt.mv du (fun _ => rfl) (by rw [sA_o (by omega), sA_o (by omega), sA_o (by omega), sA_o (by omega)])⟩, ?_, ?_⟩⟩
  · rw [hw]
    refine wor_mk w1 ?_ (fun k hk => ew k (by omega)) (fun k => by rw [pf_o (by omega), sa1, sa1, pf_o (by omega)]) (fun k => by rw [pf_o (by omega), sa1, sa1, pf_o (by omega)]) (fun o ho => by rw [pfA, sA_o (by omega), sA_o (by omega), pfA]) ?_ ?_
    · refine wi.st (fun k hk => ew k (by omega)) ?_ ?_ ?_ ?_ ?_ ?_ ?_ ?_ ?_ ?_ ?_ ?_ ?_ ?_ ?_ ?_
      · rw [ew 0 (by omega)]
        exact wi.1
      · rw [wc, ec, nI_toInt (by omega), nI_toInt (by omega)]
        omega
      · rw [ew 2 (by omega)]
        exact wi.2.2.1
      · rw [ew 3 (by omega)]
        exact wi.2.2.2.1
      · rw [ew 4 (by omega)]
        exact wi.2.2.2.2.1
      · rw [ew 7 (by omega)]
        exact wi.2.2.2.2.2.2.2.1
      · rw [ew 8 (by omega)]
        exact wi.2.2.2.2.2.2.2.2.1
      · rw [ew 10 (by omega)]
        exact wi.yr
      · rw [ew 11 (by omega), ew 0 (by omega)]
        exact wi.hB
      · unfold cN
        rw [ew 12 (by omega), ew 0 (by omega)]
        exact wi.pos
      · rw [ew 14 (by omega)]
        exact wi.2.2.2.2.2.2.2.2.2.2.2.2.2.2.1
      · exact wi.s17 (ew 0 (by omega)) (fun k a b => ew k (by omega))
      · intro i hi
        rw [cc] at hi
        rw [ew 2 (by omega)]
        by_cases q : i = n
        · rw [q, w0, wv, w2]
          exact ⟨hc01, hv, Or.inr rfl⟩
        · rw [ew (37 + 3 * i) (by omega), ew (38 + 3 * i) (by omega), ew (39 + 3 * i) (by omega)]
          exact wi.2.2.2.2.2.2.2.2.2.2.2.2.2.2.2.2.2.1 i (by omega)
      · exact wi.s55 (ew 2 (by omega)) (fun k a b => ew k (by omega))
      · exact wi.s67 (ew 3 (by omega)) (fun k a b => ew k (by omega))
      · exact wi.s75 (ew 4 (by omega)) (fun k a b => ew k (by omega))
    · have ta := w1.2.1
      refine tale_of ?_ (fun k hk => ?_)
      · have t0 := ta.1
        rw [pf0n (by decide), pf0n (by decide), pf0n (by decide), pf0n (by decide), pf0, pf0n (by decide), pf0n (by decide), pf0n (by decide), pf0n (by decide), sa1, sa1, pf_o (show z + 25 ≠ z + 41 by omega), ew 5 (by omega), ew 0 (by omega), ew 2 (by omega), ew 3 (by omega), wc, ew 4 (by omega), ew 8 (by omega), ew 10 (by omega), ew 14 (by omega)]
        exact ⟨t0.1, t0.2.1, t0.2.2.1, t0.2.2.2.1, rfl, t0.2.2.2.2.2.1, t0.2.2.2.2.2.2.1, t0.2.2.2.2.2.2.2.1, t0.2.2.2.2.2.2.2.2⟩
      · by_cases q : k = 3
        · subst q
          intro i hi
          rw [cc] at hi
          show (sA (sA (putF ω (z + 41) 4 (ω.1 (z + 41) 4 ||| ((1 : Int32) <<< (nI n &&& 31)))) (z + 42) (nI n) v) (z + 33) (nI n) c).2.1 (z + 33) i = _
          rw [sA_w (n := n) (nI_clamp (by omega)), sA_o (by omega)]
          by_cases q : i = n
          · rw [q, w0, va_up_self]
          · rw [va_up_ne _ _ q, ew (37 + 3 * i) (by omega)]
            exact ta.2.2.2.2.2.1 i (by omega)
        · exact trow_e wi hk (tale_to ta k hk) (fun j hj => by
            show (sA (sA (putF ω (z + 41) 4 (ω.1 (z + 41) 4 ||| ((1 : Int32) <<< (nI n &&& 31)))) (z + 42) (nI n) v) (z + 33) (nI n) c).2.1 (z + 25 + (1 + j)) = _
            rw [sA_o (by omega), sA_o (by omega), pfA]) (fun j hj => ew j (by omega))
    · obtain ⟨m1, m2, m3, m4, m5, m6, m7, m8⟩ := w1.2.2.2.1
      unfold MindR
      rw [cc, pf_o (show z + 41 ≠ z + 25 by omega), sa1, sa1, pf0n (by decide), pf0n (by decide), pf0n (by decide), pf0n (by decide), pf0, pf0n (by decide), pf0n (by decide), pfA, sA_o (show z + 42 ≠ z + 33 by omega), sA_w (n := n) (nI_clamp (by omega)), pfA, ew 7 (by omega), ew 9 (by omega), ew 0 (by omega), ew 11 (by omega), ew 12 (by omega), ew 16 (by omega), ew 13 (by omega)]
      refine ⟨m1, m2, m3, m4, fun i => ?_, m6, m7, fun i hi => ?_⟩
      · rw [bit_or, bit_shl1 (by omega), show bit (ω.1 (z + 41) 4) i = _ from m5 i, hc]
        by_cases q : i = n
        · rw [q, w2]
          simp
        · by_cases q2 : i < n
          · rw [ew (39 + 3 * i) (by omega), decide_eq_false q, Bool.or_false, decide_eq_true q2, decide_eq_true (show i < n + 1 by omega)]
          · rw [decide_eq_false q, Bool.or_false, decide_eq_false q2, decide_eq_false (show ¬ i < n + 1 by omega), Bool.false_and, Bool.false_and]
      · by_cases q : i = n
        · rw [q, wv, va_up_self]
        · rw [va_up_ne _ _ q, ew (38 + 3 * i) (by omega)]
          exact m8 i (by omega)
  · rw [hw, ew 5 (by omega)]
theorem j_member {N z y L f : Nat} {B : Nat → Int32} {τ1 τ2 : pS} {c : Int32} (hN : 20000 < N) (j : JW z y B L f τ1 τ2) (hf : f < en ltr B L f) (g : WorldR τ1 (z + 25) (τ2.2.1 (y + 1))) (hc01 : c = 0 ∨ c = 1) : LPost z y B L τ1 τ2 (fX7_readsMember N (G1 z) (z + 1) (z + 24) c τ1) (fX12_readWho N (G2 y) y c τ2) := by
  have wi := g.1
  have c3 := wi.c1
  have e3 : τ2.2.1 (y + 1) 1 = nI (cN (τ2.2.1 (y + 1)) 1) := nI_cN wi.2.1.1
  have t3 : τ1.1 (z + 25) 4 = τ2.2.1 (y + 1) 1 := g.2.1.1.2.2.2.2.1
  have w20 := wi.2.2.1
  unfold fX7_readsMember fX12_readWho
  simp only [g1r_0_0, g1r_0_1, g1r_0_2, g1r_0_3, g1r_0_4, g1r_0_5, g1r_0_6, g1r_0_7, g1r_0_8, g1r_1_5, g1n_2, g1r_3_0, g1r_3_1, g1r_3_2, g1r_4_9, g1r_4_10, g1r_4_11, g1r_4_12, g1r_4_13, g1r_4_14, g1r_4_15, g1r_4_16, g1r_4_17, g1n_5, g1n_6, g1n_7, g1n_8, g1n_9, g1n_10, g1n_11, g1n_12, g1n_13, g1r_14_2, g1r_14_3, g1r_14_4, g1r_14_5, g1r_14_6, g1n_15, g1n_16, g1n_17, g1n_18, g1n_19, g1r_20_7, g1r_20_8, g1n_21, g1r_22_2, g1n_23, g1r_24_0, g1r_24_1, g1r_24_2, g1r_25_9, g1r_25_10, g1r_25_11, g1r_25_12, g1r_25_13, g1r_25_14, g1r_25_15, g1r_25_16, g1r_25_17, g1n_26, g1n_27, g1n_28, g1n_29, g1n_30, g1n_31, g1n_32, g1n_33, g1n_34, g1r_35_2, g1r_35_3, g1r_35_4, g1r_35_5, g1r_35_6, g1n_36, g1n_37, g1n_38, g1n_39, g1n_40, g1r_41_7, g1r_41_8, g1n_42, g1r_43_2, g1n_44, g1r_45_0, g1r_45_1, g1r_45_2, g1r_46_9, g1r_46_10, g1r_46_11, g1r_46_12, g1r_46_13, g1r_46_14, g1r_46_15, g1r_46_16, g1r_46_17, g1n_47, g1n_48, g1n_49, g1n_50, g1n_51, g1n_52, g1n_53, g1n_54, g1n_55, g1r_56_2, g1r_56_3, g1r_56_4, g1r_56_5, g1r_56_6, g1n_57, g1n_58, g1n_59, g1n_60, g1n_61, g1r_62_7, g1r_62_8, g1n_63, g1r_64_2, g1n_65, g1r_66_2, g1n_67, g1r_68_7, g1r_68_8, g1n_69, g1r_70_2, g1n_71, g1r_72_7, g1r_72_8, g1n_73, g1r_74_2, g1n_75, g1r_76_7, g1r_76_8, g1n_77, g1r_78_2, g1n_79, g1r_80_7, g1r_80_8, g1n_81, g1r_82_2, g1n_83, g1r_84_7, g1r_84_8, g1n_85, g1r_86_2, g1n_87, g1r_88_7, g1r_88_8, g1n_89, g1r_90_2, g1n_91, g1r_92_7, g1r_92_8, g1n_93, g1r_94_2, g1n_95, g1r_96_7, g1r_96_8, g1n_97, g1r_98_2, g1n_99, g1r_100_7, g1r_100_8, g1n_101, g1r_102_2, g1n_103, g1r_104_7, g1r_104_8, g1n_105, g1r_106_2, g1n_107, g1r_108_7, g1r_108_8, g1n_109, g1r_110_2, g1n_111, g1r_112_7, g1r_112_8, g1n_113, g1r_114_2, g1n_115, g1r_116_7, g1r_116_8, g1n_117, g1r_118_2, g1n_119, g1r_120_0, g1r_120_1, g1r_120_2, g1r_121_7, g1r_121_8, g1n_122, g1r_123_2, g1n_124, g1n_125, g1n_126, g1r_127_0, g1r_127_1, g1r_127_2, g1r_127_3, g1r_128_7, g1r_128_8, g1n_129, g1r_130_2, g1n_131, g1n_132, g1n_133, g1n_134, g1r_135_7, g1n_136, g1n_150]
  rw [r_court, b_some, t3, e3]
  generalize hn : cN (τ2.2.1 (y + 1)) 1 = n at c3 e3
  by_cases u : n < 6
  · rw [if_pos (show nI n < 6 from nI_lt (b := 6) u (by omega)), if_neg (show ¬ nI n = 6 from fun q => by
      have := (nI_eq (a := n) (b := 6) (by omega) (by omega)).mp q
      omega), r_words, b_some]
    obtain ⟨υ, x1, x2, x3⟩ := j.adv hN hf
    rw [x1, b_some]
    rw [show υ.1 (z + 25) 2 = τ2.2.1 (y + 1) 2 from (wor_TF x2 g).2.1.1.2.2.1]
    obtain ⟨v, ω, p', b', a1, a2, a3, a4⟩ := x3.num (lo := 0) (hi := τ2.2.1 (y + 1) 2 - 1) hN (by decide)
    rw [a1, b_some, a2, b_some]
    dsimp only
    rcases a4 with ⟨q1, q2, jt⟩ | ⟨rfl, hb⟩
    · have v0 : 0 ≤ v.toInt := (bds q1 q2).1
      have v1 : v.toInt < (τ2.2.1 (y + 1) 2).toInt := by
        have := (bds q1 q2).2
        rw [i_sub (by rw [show (1 : Int32).toInt = 1 from rfl]; omega) (by rw [show (1 : Int32).toInt = 1 from rfl]; omega), show (1 : Int32).toInt = 1 from rfl] at this
        omega
      have w1 : WorldR ω (z + 25) (τ2.2.1 (y + 1)) := wor_TF a3 (wor_TF x2 g)
      have t4 : ω.1 (z + 25) 4 = nI n := (w1.2.1.1.2.2.2.2.1).trans e3
      rw [if_neg (ne_m1 v0), if_pos (ge_0 v0)]
      unfold fX3_setHabit fX8_addMember
      simp only [g1r_0_0, g1r_0_1, g1r_0_2, g1r_0_3, g1r_0_4, g1r_0_5, g1r_0_6, g1r_0_7, g1r_0_8, g1r_1_5, g1n_2, g1r_3_0, g1r_3_1, g1r_3_2, g1r_4_9, g1r_4_10, g1r_4_11, g1r_4_12, g1r_4_13, g1r_4_14, g1r_4_15, g1r_4_16, g1r_4_17, g1n_5, g1n_6, g1n_7, g1n_8, g1n_9, g1n_10, g1n_11, g1n_12, g1n_13, g1r_14_2, g1r_14_3, g1r_14_4, g1r_14_5, g1r_14_6, g1n_15, g1n_16, g1n_17, g1n_18, g1n_19, g1r_20_7, g1r_20_8, g1n_21, g1r_22_2, g1n_23, g1r_24_0, g1r_24_1, g1r_24_2, g1r_25_9, g1r_25_10, g1r_25_11, g1r_25_12, g1r_25_13, g1r_25_14, g1r_25_15, g1r_25_16, g1r_25_17, g1n_26, g1n_27, g1n_28, g1n_29, g1n_30, g1n_31, g1n_32, g1n_33, g1n_34, g1r_35_2, g1r_35_3, g1r_35_4, g1r_35_5, g1r_35_6, g1n_36, g1n_37, g1n_38, g1n_39, g1n_40, g1r_41_7, g1r_41_8, g1n_42, g1r_43_2, g1n_44, g1r_45_0, g1r_45_1, g1r_45_2, g1r_46_9, g1r_46_10, g1r_46_11, g1r_46_12, g1r_46_13, g1r_46_14, g1r_46_15, g1r_46_16, g1r_46_17, g1n_47, g1n_48, g1n_49, g1n_50, g1n_51, g1n_52, g1n_53, g1n_54, g1n_55, g1r_56_2, g1r_56_3, g1r_56_4, g1r_56_5, g1r_56_6, g1n_57, g1n_58, g1n_59, g1n_60, g1n_61, g1r_62_7, g1r_62_8, g1n_63, g1r_64_2, g1n_65, g1r_66_2, g1n_67, g1r_68_7, g1r_68_8, g1n_69, g1r_70_2, g1n_71, g1r_72_7, g1r_72_8, g1n_73, g1r_74_2, g1n_75, g1r_76_7, g1r_76_8, g1n_77, g1r_78_2, g1n_79, g1r_80_7, g1r_80_8, g1n_81, g1r_82_2, g1n_83, g1r_84_7, g1r_84_8, g1n_85, g1r_86_2, g1n_87, g1r_88_7, g1r_88_8, g1n_89, g1r_90_2, g1n_91, g1r_92_7, g1r_92_8, g1n_93, g1r_94_2, g1n_95, g1r_96_7, g1r_96_8, g1n_97, g1r_98_2, g1n_99, g1r_100_7, g1r_100_8, g1n_101, g1r_102_2, g1n_103, g1r_104_7, g1r_104_8, g1n_105, g1r_106_2, g1n_107, g1r_108_7, g1r_108_8, g1n_109, g1r_110_2, g1n_111, g1r_112_7, g1r_112_8, g1n_113, g1r_114_2, g1n_115, g1r_116_7, g1r_116_8, g1n_117, g1r_118_2, g1n_119, g1r_120_0, g1r_120_1, g1r_120_2, g1r_121_7, g1r_121_8, g1n_122, g1r_123_2, g1n_124, g1n_125, g1n_126, g1r_127_0, g1r_127_1, g1r_127_2, g1r_127_3, g1r_128_7, g1r_128_8, g1n_129, g1r_130_2, g1n_131, g1n_132, g1n_133, g1n_134, g1r_135_7, g1n_136, g1n_150, g2r_0_1, g2r_0_2, g2r_0_3, g2r_0_4, g2r_0_5, g2r_0_8, g2r_0_15, g2r_0_17, g2r_0_25, g2r_0_26, g2r_0_27, g2r_0_28, g2n_1, g2n_2, g2n_3, g2n_4, g2n_5, g2n_6, g2n_7, g2n_8, g2n_9, g2n_10, g2n_11, g2n_12]
      rw [if_neg (nI_pos (by omega)), if_neg (show ¬ (6 : Int32) ≤ nI n from lit_lt (m := 6) u (by decide)), ck_nI (by omega) (by omega), b_some, sa1, pf_o (show z + 25 ≠ z + 41 by omega), t4, if_neg (nI_pos (by omega)), if_neg (show ¬ (6 : Int32) ≤ nI n from lit_lt (m := 6) u (by decide)), ck_nI (by omega) (by omega), b_some, sa1, sa1, pf_o (show z + 25 ≠ z + 41 by omega), t4, nI_1, show (37 : Int32) + 3 * nI n + 0 = nI (37 + 3 * n) from ixr (b := 37) (s := 3) (c := 0), show (37 : Int32) + 3 * nI n + 1 = nI (38 + 3 * n) from (ixr (b := 37) (s := 3) (c := 1)).trans (by congr 1; omega), show (37 : Int32) + 3 * nI n + 2 = nI (39 + 3 * n) from (ixr (b := 37) (s := 3) (c := 2)).trans (by congr 1; omega), ck_nI (by omega) (by omega), ck_nI (by omega) (by omega), ck_nI (by omega) (by omega)]
      exact w_member (N := N) jt (x2.fc.t a3.fc) w1 e3 u ⟨v0, v1⟩ hc01
    · rw [if_pos rfl, if_neg (show ¬ (0 : Int32) ≤ -1 by decide)]
      exact lp_no rfl rfl (x2.fc.t a3.fc) FY.pt hb PT_f12
  · have hn8 : n = 6 := by omega
    rw [hn8, if_neg (show ¬ nI 6 < 6 by decide), if_pos (show nI 6 = 6 from rfl)]
    exact lp_no rfl rfl FC.r FY.r j.2.1.2.1 j.2.2.2.2.2.1
