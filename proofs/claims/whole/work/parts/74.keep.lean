/-! crumb, keep -/
theorem ise_ne : ¬ ("java/lang/IllegalStateException" : String) = "java/lang/IndexOutOfBoundsException" := by decide
theorem Sim.ask {z y : Nat} {σ1 σ2 : pS} (h : Sim z y σ1 σ2) : σ1.1 (z + 20) 6 = σ2.2.1 (y + 1) 13 := h.mind.2.2.2.2.2.2.1
theorem WInv.a01 {w : Nat → Int32} (h : WInv w) : w 13 = 0 ∨ w 13 = 1 := h.m.2.2.2.2.1
theorem gd_crumb {N z y : Nat} (hN : 20000 < N) : Gd_crumb N (G1 z) (G2 y) z y (z + 150) (Sim z y) := by
  intro σ1 σ2 h c1
  unfold fL_crumb
  apply gd_w
  unfold fX11_crumb fX12_crumb
  refine trait_pre h (fun τ => if_pos rfl) (fun k hk e1 => ?_)
  subst e1
  simp only [g1r_0_0, g1r_0_1, g1r_0_2, g1r_0_3, g1r_0_4, g1r_0_5, g1r_0_6, g1r_0_7, g1r_0_8, g1r_1_5, g1n_2, g1r_3_0, g1r_3_1, g1r_3_2, g1r_4_9, g1r_4_10, g1r_4_11, g1r_4_12, g1r_4_13, g1r_4_14, g1r_4_15, g1r_4_16, g1r_4_17, g1n_5, g1n_6, g1n_7, g1n_8, g1n_9, g1n_10, g1n_11, g1n_12, g1n_13, g1r_14_2, g1r_14_3, g1r_14_4, g1r_14_5, g1r_14_6, g1n_15, g1n_16, g1n_17, g1n_18, g1n_19, g1r_20_7, g1r_20_8, g1n_21, g1r_22_2, g1n_23, g1r_24_0, g1r_24_1, g1r_24_2, g1r_25_9, g1r_25_10, g1r_25_11, g1r_25_12, g1r_25_13, g1r_25_14, g1r_25_15, g1r_25_16, g1r_25_17, g1n_26, g1n_27, g1n_28, g1n_29, g1n_30, g1n_31, g1n_32, g1n_33, g1n_34, g1r_35_2, g1r_35_3, g1r_35_4, g1r_35_5, g1r_35_6, g1n_36, g1n_37, g1n_38, g1n_39, g1n_40, g1r_41_7, g1r_41_8, g1n_42, g1r_43_2, g1n_44, g1r_45_0, g1r_45_1, g1r_45_2, g1r_46_9, g1r_46_10, g1r_46_11, g1r_46_12, g1r_46_13, g1r_46_14, g1r_46_15, g1r_46_16, g1r_46_17, g1n_47, g1n_48, g1n_49, g1n_50, g1n_51, g1n_52, g1n_53, g1n_54, g1n_55, g1r_56_2, g1r_56_3, g1r_56_4, g1r_56_5, g1r_56_6, g1n_57, g1n_58, g1n_59, g1n_60, g1n_61, g1r_62_7, g1r_62_8, g1n_63, g1r_64_2, g1n_65, g1r_66_2, g1n_67, g1r_68_7, g1r_68_8, g1n_69, g1r_70_2, g1n_71, g1r_72_7, g1r_72_8, g1n_73, g1r_74_2, g1n_75, g1r_76_7, g1r_76_8, g1n_77, g1r_78_2, g1n_79, g1r_80_7, g1r_80_8, g1n_81, g1r_82_2, g1n_83, g1r_84_7, g1r_84_8, g1n_85, g1r_86_2, g1n_87, g1r_88_7, g1r_88_8, g1n_89, g1r_90_2, g1n_91, g1r_92_7, g1r_92_8, g1n_93, g1r_94_2, g1n_95, g1r_96_7, g1r_96_8, g1n_97, g1r_98_2, g1n_99, g1r_100_7, g1r_100_8, g1n_101, g1r_102_2, g1n_103, g1r_104_7, g1r_104_8, g1n_105, g1r_106_2, g1n_107, g1r_108_7, g1r_108_8, g1n_109, g1r_110_2, g1n_111, g1r_112_7, g1r_112_8, g1n_113, g1r_114_2, g1n_115, g1r_116_7, g1r_116_8, g1n_117, g1r_118_2, g1n_119, g1r_120_0, g1r_120_1, g1r_120_2, g1r_121_7, g1r_121_8, g1n_122, g1r_123_2, g1n_124, g1n_125, g1n_126, g1r_127_0, g1r_127_1, g1r_127_2, g1r_127_3, g1r_128_7, g1r_128_8, g1n_129, g1r_130_2, g1n_131, g1n_132, g1n_133, g1n_134, g1r_135_7, g1n_136, g1n_150]
  rw [h.ask, h.tale.1.2.1, r_gone, b_some, ite01, pfA, r_names, b_some, pfA]
  have ex : ∀ x12, x12 = fX12_crumb_b32 N (G2 y) y (nI k) (putF σ2 y 0 0) → GDw z y (fun e => if e.1 = "java/lang/IndexOutOfBoundsException" then some (1, e.2) else if e.1 = "java/lang/IllegalStateException" then some (2, e.2) else none) (some (.inr ("java/lang/IllegalStateException", σ1))) x12 := by
    intro x12 e
    subst e
    exact gdw_ex (k := 2) (fun τ => (if_neg ise_ne).trans (if_pos rfl)) (by decide) rfl rfl pf0 h.th
  rcases h.wi.a01 with q | q
  · rw [if_pos q, if_neg (show ¬ σ2.2.1 (y + 1) 13 = 1 from by rw [q]; decide)]
    by_cases n0 : σ2.2.1 (y + 1) 0 = 0
    · rw [if_pos n0, if_pos n0]
      exact ex _ rfl
    · rw [if_neg n0, if_neg n0]
      obtain ⟨τ1, τ2, a, b, hs, b0, ew⟩ := h.t0.rem hN
      have wi := hs.wi
      unfold fX12_crumb_b37
      simp only [g2r_0_1, g2r_0_2, g2r_0_3, g2r_0_4, g2r_0_5, g2r_0_8, g2r_0_15, g2r_0_17, g2r_0_25, g2r_0_26, g2r_0_27, g2r_0_28, g2n_1, g2n_2, g2n_3, g2n_4, g2n_5, g2n_6, g2n_7, g2n_8, g2n_9, g2n_10, g2n_11, g2n_12]
      rw [a, b_some, hs.pos, hs.bea, c_narrowed wi hs.tale hk wi.pos, b_some, pf0, bc_fn, b_some, r_t0, b_some, if_pos rfl, b, b_some]
      have st : fX12_staysOf N (G2 y) y (gA τ2 (y + 1) 12) (nI k) τ2 = some (nar (τ2.2.1 (y + 1)) (τ2.2.1 (y + 1) 12) k) := r_staysOf hN wi (by omega)
      rw [st, b_some, r_howMany, b_some]
      have hw : (sA τ2 (y + 1) 12 (nar (τ2.2.1 (y + 1)) (τ2.2.1 (y + 1) 12) k)).2.1 (y + 1) = va_up (τ2.2.1 (y + 1)) 12 (nar (τ2.2.1 (y + 1)) (τ2.2.1 (y + 1) 12) k) := sA_w rfl
      rw [hw, va_up_self]
      refine gdw_ok rfl rfl ?_ ?_
      · show τ2.1 y 0 = 0
        rw [b0, pf0]
      · refine hs.mu (EE.r.pf rfl) (fun k hk => rfl) (fun k hk => sA_o (by omega)) ?_ ?_ ?_ ?_
        · rw [hw]
          exact em_up rfl
        · rw [hw]
          exact MInv_12 wi.m (nar_sub wi)
        · rw [hw, pf_w]
          exact mind_12 hs.mind
        · rw [hw, pf_o (by omega)]
          exact log_up (by omega) hs.log
  · rw [if_neg (show ¬ σ2.2.1 (y + 1) 13 = 0 from by rw [q]; decide), if_pos q]
    exact ex _ rfl
theorem and_not_eq {x : Int32} {i : Nat} (hi : i < 32) : x &&& (((1 : Int32) <<< (nI i &&& 31)) ^^^ (-1)) = x ↔ bit x i = false := by
  constructor
  · intro h
    have e : bit (x &&& (((1 : Int32) <<< (nI i &&& 31)) ^^^ (-1))) i = bit x i := by rw [h]
    rw [bit_and, bit_not hi, bit_shl1 hi] at e
    simp at e
    exact e
  · intro h
    apply bit_ext
    intro j hj
    rw [bit_and, bit_not hj, bit_shl1 hi]
    by_cases q : j = i
    · rw [q, h]
      simp
    · simp [q]
theorem or_eq {x : Int32} {i : Nat} (hi : i < 32) : x ||| ((1 : Int32) <<< (nI i &&& 31)) = x ↔ bit x i = true := by
  constructor
  · intro h
    have e : bit (x ||| ((1 : Int32) <<< (nI i &&& 31))) i = bit x i := by rw [h]
    rw [bit_or, bit_shl1 hi] at e
    simp at e
    exact e
  · intro h
    apply bit_ext
    intro j hj
    rw [bit_or, bit_shl1 hi]
    by_cases q : j = i
    · rw [q, h]
      simp
    · simp [q]
theorem WInv.ne {w : Nat → Int32} (h : WInv w) : ∀ i, i < cN w 1 → w (39 + 3 * i) = 0 ∨ w (39 + 3 * i) = 1 := fun i hi => (h.m.2.2.2.2.2.2.1 i hi).2
theorem keep_step {z y i : Nat} {τ1 τ2 : pS} {v n : Int32} (hs : Sim z y τ1 τ2) (hi : i < cN (τ2.2.1 (y + 1)) 1) (hv : v = 0 ∨ v = 1) (hb : ∀ k, k < 32 → bit n k = if k = i then decide (v = 1) else bit (τ1.1 (z + 20) 4) k) : Sim z y (putF τ1 (z + 20) 4 n) (sA τ2 (y + 1) (nI (39 + 3 * i)) v) := by
  have wi := hs.wi
  have c1 := wi.c1
  have hw : (sA τ2 (y + 1) (nI (39 + 3 * i)) v).2.1 (y + 1) = va_up (τ2.2.1 (y + 1)) (39 + 3 * i) v := sA_w (nI_clamp (by omega))
  refine hs.mu (EE.r.pf rfl) (fun k hk => rfl) (fun k hk => sA_o (by omega)) ?_ ?_ ?_ ?_
  · rw [hw]
    exact em_up (mk_hab i (by omega)).2
  · rw [hw]
    exact MInv_near wi.m (by omega) hv
  · rw [hw]
    obtain ⟨m0, m1, m2, m3, m4, m5, m6, m7⟩ := hs.mind
    have en : ∀ k, k ≠ 39 + 3 * i → va_up (τ2.2.1 (y + 1)) (39 + 3 * i) v k = τ2.2.1 (y + 1) k := fun k hk => up_ne hk
    have e1 : cN (va_up (τ2.2.1 (y + 1)) (39 + 3 * i) v) 1 = cN (τ2.2.1 (y + 1)) 1 := by unfold cN; rw [en 1 (by omega)]
    unfold MindR
    rw [pf0n (by decide), pf0n (by decide), pf0n (by decide), pf0n (by decide), pf0, pf0n (by decide), pf0n (by decide), en 7 (by omega), en 9 (by omega), en 0 (by omega), en 11 (by omega), en 12 (by omega), en 16 (by omega), en 13 (by omega), e1]
    refine ⟨m0, m1, m2, m3, fun k => ?_, m5, m6, fun k hk => ?_⟩
    · rcases Nat.lt_or_ge k 32 with q | q
      · rw [hb k q]
        by_cases e : k = i
        · rw [if_pos e, e, va_up_self, decide_eq_true hi, Bool.true_and]
        · rw [if_neg e, m4 k, en (39 + 3 * k) (by omega)]
      · rw [bit_hi q, decide_eq_false (show ¬ k < cN (τ2.2.1 (y + 1)) 1 by omega), Bool.false_and]
    · rw [en (38 + 3 * k) (by omega)]
      exact m7 k hk
  · rw [hw, pf_o (by omega)]
    exact log_up (by omega) hs.log
theorem gd_keep {N z y : Nat} (hN : 20000 < N) : Gd_keep N (G1 z) (G2 y) z y (z + 150) (Sim z y) := by
  intro σ1 σ2 h c1 c2 hz
  have wi0 := h.wi
  have nd := c_needWho (N := N) (c := c1) (σ := σ1) h.tale.1.2.2.2.2.1
  have no := r_noWho (N := N) (y := y) (c := c1) (σ := putF σ2 y 0 0) wi0.2.1.1
  rw [pfA] at no
  have ex : fX11_keep N (G1 z) z c1 c2 σ1 = some (.inr ("java/lang/IndexOutOfBoundsException", σ1)) → fX12_keep N (G2 y) y c1 c2 σ2 = some (0, putF (putF σ2 y 0 0) y 0 1) → ∃ (k w : Int32) (τ1 τ2 : pS), fL_keep N (G1 z) z c1 c2 (z + 150) σ1 = some (k, τ1) ∧ fX12_keep N (G2 y) y c1 c2 σ2 = some (w, τ2) ∧ fX12_thrown N (G2 y) y τ2 = some k ∧ (k = 0 → gJ τ1 (z + 150) 0 = (if w = 0 then 0 else 1)) ∧ Sim z y τ1 τ2 := by
    intro h1 h2
    refine ⟨1, 0, σ1, _, ?_, h2, ?_, fun q => absurd q (by decide), h.th⟩
    · unfold fL_keep
      rw [h1, b_some, e_inr]
      exact if_pos rfl
    · rw [r_thrown, pf0]
  by_cases h0 : c1 < 0
  · refine ex ?_ ?_
    · unfold fX11_keep
      rw [nd, if_pos h0]
      rfl
    · unfold fX12_keep
      rw [no, if_pos h0]
      rfl
  by_cases h1 : c1 < σ2.2.1 (y + 1) 1
  · obtain ⟨i, hi, _, rfl⟩ := nI_lt_of h0 h1
    obtain ⟨τ1, τ2, a, b, hs, b0, ew⟩ := h.t0.rem hN
    have wi := hs.wi
    have c1 := wi.c1
    have ew' : τ2.2.1 (y + 1) = σ2.2.1 (y + 1) := ew
    have hi' : i < cN (τ2.2.1 (y + 1)) 1 := by rw [ew']; exact hi
    have t0 : ∀ v x, (sA τ2 (y + 1) x v).1 y 0 = 0 := by
      intro v x
      show τ2.1 y 0 = 0
      rw [b0, pf0]
    have nb := hs.mind.2.2.2.2.1 i
    rw [decide_eq_true hi', Bool.true_and] at nb
    have near01 := wi.ne i hi'
    suffices hh : ∃ (v : Int32) (υ1 υ2 : pS), fX11_keep N (G1 z) z (nI i) c2 σ1 = some (.inl (v, υ1)) ∧ fX12_keep N (G2 y) y (nI i) c2 σ2 = some (v, υ2) ∧ (v = 0 ∨ v = 1) ∧ υ2.1 y 0 = 0 ∧ Sim z y υ1 υ2 by
      obtain ⟨v, υ1, υ2, g1, g2, g3, g4, g5⟩ := hh
      refine ⟨0, v, sJ υ1 (z + 150) 0 (if v = 0 then 0 else 1), υ2, ?_, g2, ?_, fun _ => gJ_sJ, g5.keep EE.r.sj E2.r⟩
      · unfold fL_keep fL_keep_b16
        rw [g1, b_some, e_inl, g1n_150]
        rcases g3 with q | q
        · rw [q]
          rfl
        · rw [q]
          rfl
      · rw [r_thrown, g4]
    have f11 : ∀ x, fX11_keep_b56 N (G1 z) z (τ1.1 (z + 20) 4) (z + 20) x τ1 = some (.inl (if x = τ1.1 (z + 20) 4 then 0 else 1, putF τ1 (z + 20) 4 x)) := by
      intro x
      unfold fX11_keep_b56
      simp only [g1r_0_0, g1r_0_1, g1r_0_2, g1r_0_3, g1r_0_4, g1r_0_5, g1r_0_6, g1r_0_7, g1r_0_8, g1r_1_5, g1n_2, g1r_3_0, g1r_3_1, g1r_3_2, g1r_4_9, g1r_4_10, g1r_4_11, g1r_4_12, g1r_4_13, g1r_4_14, g1r_4_15, g1r_4_16, g1r_4_17, g1n_5, g1n_6, g1n_7, g1n_8, g1n_9, g1n_10, g1n_11, g1n_12, g1n_13, g1r_14_2, g1r_14_3, g1r_14_4, g1r_14_5, g1r_14_6, g1n_15, g1n_16, g1n_17, g1n_18, g1n_19, g1r_20_7, g1r_20_8, g1n_21, g1r_22_2, g1n_23, g1r_24_0, g1r_24_1, g1r_24_2, g1r_25_9, g1r_25_10, g1r_25_11, g1r_25_12, g1r_25_13, g1r_25_14, g1r_25_15, g1r_25_16, g1r_25_17, g1n_26, g1n_27, g1n_28, g1n_29, g1n_30, g1n_31, g1n_32, g1n_33, g1n_34, g1r_35_2, g1r_35_3, g1r_35_4, g1r_35_5, g1r_35_6, g1n_36, g1n_37, g1n_38, g1n_39, g1n_40, g1r_41_7, g1r_41_8, g1n_42, g1r_43_2, g1n_44, g1r_45_0, g1r_45_1, g1r_45_2, g1r_46_9, g1r_46_10, g1r_46_11, g1r_46_12, g1r_46_13, g1r_46_14, g1r_46_15, g1r_46_16, g1r_46_17, g1n_47, g1n_48, g1n_49, g1n_50, g1n_51, g1n_52, g1n_53, g1n_54, g1n_55, g1r_56_2, g1r_56_3, g1r_56_4, g1r_56_5, g1r_56_6, g1n_57, g1n_58, g1n_59, g1n_60, g1n_61, g1r_62_7, g1r_62_8, g1n_63, g1r_64_2, g1n_65, g1r_66_2, g1n_67, g1r_68_7, g1r_68_8, g1n_69, g1r_70_2, g1n_71, g1r_72_7, g1r_72_8, g1n_73, g1r_74_2, g1n_75, g1r_76_7, g1r_76_8, g1n_77, g1r_78_2, g1n_79, g1r_80_7, g1r_80_8, g1n_81, g1r_82_2, g1n_83, g1r_84_7, g1r_84_8, g1n_85, g1r_86_2, g1n_87, g1r_88_7, g1r_88_8, g1n_89, g1r_90_2, g1n_91, g1r_92_7, g1r_92_8, g1n_93, g1r_94_2, g1n_95, g1r_96_7, g1r_96_8, g1n_97, g1r_98_2, g1n_99, g1r_100_7, g1r_100_8, g1n_101, g1r_102_2, g1n_103, g1r_104_7, g1r_104_8, g1n_105, g1r_106_2, g1n_107, g1r_108_7, g1r_108_8, g1n_109, g1r_110_2, g1n_111, g1r_112_7, g1r_112_8, g1n_113, g1r_114_2, g1n_115, g1r_116_7, g1r_116_8, g1n_117, g1r_118_2, g1n_119, g1r_120_0, g1r_120_1, g1r_120_2, g1r_121_7, g1r_121_8, g1n_122, g1r_123_2, g1n_124, g1n_125, g1n_126, g1r_127_0, g1r_127_1, g1r_127_2, g1r_127_3, g1r_128_7, g1r_128_8, g1n_129, g1r_130_2, g1n_131, g1n_132, g1n_133, g1n_134, g1r_135_7, g1n_136, g1n_150]
      rw [pf0]
      split <;> rfl
    have f12 : ∀ x v, fX12_keep_b51 N (G2 y) c2 x (y + 1) (nI (39 + 3 * i)) v τ2 = some (if x = c2 then 0 else 1, sA τ2 (y + 1) (nI (39 + 3 * i)) v) := by
      intro x v
      unfold fX12_keep_b51
      rw [g2n_1, ck_nI (by omega) (by omega)]
      split <;> rfl
    have e12 : fX12_keep N (G2 y) y (nI i) c2 σ2 = if c2 = 0 then some (if (if τ2.2.1 (y + 1) (39 + 3 * i) = 1 then 1 else 0) = c2 then 0 else 1, sA τ2 (y + 1) (nI (39 + 3 * i)) 0) else some (if (if τ2.2.1 (y + 1) (39 + 3 * i) = 1 then 1 else 0) = c2 then 0 else 1, sA τ2 (y + 1) (nI (39 + 3 * i)) 1) := by
      unfold fX12_keep
      rw [no, if_neg h0, if_pos h1, b_some, r_t0, b_some, if_pos rfl]
      simp only [g2r_0_1, g2r_0_2, g2r_0_3, g2r_0_4, g2r_0_5, g2r_0_8, g2r_0_15, g2r_0_17, g2r_0_25, g2r_0_26, g2r_0_27, g2r_0_28, g2n_1, g2n_2, g2n_3, g2n_4, g2n_5, g2n_6, g2n_7, g2n_8, g2n_9, g2n_10, g2n_11, g2n_12]
      rw [b, b_some, r_isNear (by omega), b_some, show (37 : Int32) + 3 * nI i + 2 = nI (37 + 3 * i + 2) from ix3 37 3 i 2, show 37 + 3 * i + 2 = 39 + 3 * i by omega, f12, f12]
    have e11 : fX11_keep N (G1 z) z (nI i) c2 σ1 = if c2 = 0 then some (.inl (if τ1.1 (z + 20) 4 &&& (((1 : Int32) <<< (nI i &&& 31)) ^^^ (-1)) = τ1.1 (z + 20) 4 then 0 else 1, putF τ1 (z + 20) 4 (τ1.1 (z + 20) 4 &&& (((1 : Int32) <<< (nI i &&& 31)) ^^^ (-1))))) else some (.inl (if τ1.1 (z + 20) 4 ||| ((1 : Int32) <<< (nI i &&& 31)) = τ1.1 (z + 20) 4 then 0 else 1, putF τ1 (z + 20) 4 (τ1.1 (z + 20) 4 ||| ((1 : Int32) <<< (nI i &&& 31))))) := by
      unfold fX11_keep
      rw [nd, if_neg h0, if_pos h1, b_some, e_inl]
      simp only [g1r_0_0, g1r_0_1, g1r_0_2, g1r_0_3, g1r_0_4, g1r_0_5, g1r_0_6, g1r_0_7, g1r_0_8, g1r_1_5, g1n_2, g1r_3_0, g1r_3_1, g1r_3_2, g1r_4_9, g1r_4_10, g1r_4_11, g1r_4_12, g1r_4_13, g1r_4_14, g1r_4_15, g1r_4_16, g1r_4_17, g1n_5, g1n_6, g1n_7, g1n_8, g1n_9, g1n_10, g1n_11, g1n_12, g1n_13, g1r_14_2, g1r_14_3, g1r_14_4, g1r_14_5, g1r_14_6, g1n_15, g1n_16, g1n_17, g1n_18, g1n_19, g1r_20_7, g1r_20_8, g1n_21, g1r_22_2, g1n_23, g1r_24_0, g1r_24_1, g1r_24_2, g1r_25_9, g1r_25_10, g1r_25_11, g1r_25_12, g1r_25_13, g1r_25_14, g1r_25_15, g1r_25_16, g1r_25_17, g1n_26, g1n_27, g1n_28, g1n_29, g1n_30, g1n_31, g1n_32, g1n_33, g1n_34, g1r_35_2, g1r_35_3, g1r_35_4, g1r_35_5, g1r_35_6, g1n_36, g1n_37, g1n_38, g1n_39, g1n_40, g1r_41_7, g1r_41_8, g1n_42, g1r_43_2, g1n_44, g1r_45_0, g1r_45_1, g1r_45_2, g1r_46_9, g1r_46_10, g1r_46_11, g1r_46_12, g1r_46_13, g1r_46_14, g1r_46_15, g1r_46_16, g1r_46_17, g1n_47, g1n_48, g1n_49, g1n_50, g1n_51, g1n_52, g1n_53, g1n_54, g1n_55, g1r_56_2, g1r_56_3, g1r_56_4, g1r_56_5, g1r_56_6, g1n_57, g1n_58, g1n_59, g1n_60, g1n_61, g1r_62_7, g1r_62_8, g1n_63, g1r_64_2, g1n_65, g1r_66_2, g1n_67, g1r_68_7, g1r_68_8, g1n_69, g1r_70_2, g1n_71, g1r_72_7, g1r_72_8, g1n_73, g1r_74_2, g1n_75, g1r_76_7, g1r_76_8, g1n_77, g1r_78_2, g1n_79, g1r_80_7, g1r_80_8, g1n_81, g1r_82_2, g1n_83, g1r_84_7, g1r_84_8, g1n_85, g1r_86_2, g1n_87, g1r_88_7, g1r_88_8, g1n_89, g1r_90_2, g1n_91, g1r_92_7, g1r_92_8, g1n_93, g1r_94_2, g1n_95, g1r_96_7, g1r_96_8, g1n_97, g1r_98_2, g1n_99, g1r_100_7, g1r_100_8, g1n_101, g1r_102_2, g1n_103, g1r_104_7, g1r_104_8, g1n_105, g1r_106_2, g1n_107, g1r_108_7, g1r_108_8, g1n_109, g1r_110_2, g1n_111, g1r_112_7, g1r_112_8, g1n_113, g1r_114_2, g1n_115, g1r_116_7, g1r_116_8, g1n_117, g1r_118_2, g1n_119, g1r_120_0, g1r_120_1, g1r_120_2, g1r_121_7, g1r_121_8, g1n_122, g1r_123_2, g1n_124, g1n_125, g1n_126, g1r_127_0, g1r_127_1, g1r_127_2, g1r_127_3, g1r_128_7, g1r_128_8, g1n_129, g1r_130_2, g1n_131, g1n_132, g1n_133, g1n_134, g1r_135_7, g1n_136, g1n_150]
      rw [a, b_some, f11, f11]
    rw [e11, e12]
    have vv : ∀ {c : Prop} [Decidable c], (if c then (0 : Int32) else 1) = 0 ∨ (if c then (0 : Int32) else 1) = 1 := by
      intro c _
      split
      · exact Or.inl rfl
      · exact Or.inr rfl
    by_cases q : c2 = 0
    · rw [if_pos q, if_pos q]
      have iff1 : (τ1.1 (z + 20) 4 &&& (((1 : Int32) <<< (nI i &&& 31)) ^^^ (-1)) = τ1.1 (z + 20) 4) ↔ ((if τ2.2.1 (y + 1) (39 + 3 * i) = 1 then (1 : Int32) else 0) = c2) := by
        rw [and_not_eq (by omega), nb, q]
        rcases near01 with g | g <;> rw [g] <;> decide
      have ev : (if τ1.1 (z + 20) 4 &&& (((1 : Int32) <<< (nI i &&& 31)) ^^^ (-1)) = τ1.1 (z + 20) 4 then (0 : Int32) else 1) = if (if τ2.2.1 (y + 1) (39 + 3 * i) = 1 then (1 : Int32) else 0) = c2 then 0 else 1 := by
        simp only [iff1]
      rw [ev]
      refine ⟨_, _, _, rfl, rfl, vv, t0 _ _, keep_step hs hi' (Or.inl rfl) (fun k hk => ?_)⟩
      rw [bit_and, bit_not hk, bit_shl1 (by omega)]
      by_cases e : k = i
      · rw [if_pos e, decide_eq_true e]
        simp
      · rw [if_neg e, decide_eq_false e]
        simp
    · rw [if_neg q, if_neg q]
      have c2v : c2 = 1 := by
        have : c2 = 0 ∨ c2 = 1 := by simpa [isZ] using hz
        rcases this with g | g
        · exact absurd g q
        · exact g
      have iff1 : (τ1.1 (z + 20) 4 ||| ((1 : Int32) <<< (nI i &&& 31)) = τ1.1 (z + 20) 4) ↔ ((if τ2.2.1 (y + 1) (39 + 3 * i) = 1 then (1 : Int32) else 0) = c2) := by
        rw [or_eq (by omega), nb, c2v]
        rcases near01 with g | g <;> rw [g] <;> decide
      have ev : (if τ1.1 (z + 20) 4 ||| ((1 : Int32) <<< (nI i &&& 31)) = τ1.1 (z + 20) 4 then (0 : Int32) else 1) = if (if τ2.2.1 (y + 1) (39 + 3 * i) = 1 then (1 : Int32) else 0) = c2 then 0 else 1 := by
        simp only [iff1]
      rw [ev]
      refine ⟨_, _, _, rfl, rfl, vv, t0 _ _, keep_step hs hi' (Or.inr rfl) (fun k hk => ?_)⟩
      rw [bit_or, bit_shl1 (by omega)]
      by_cases e : k = i
      · rw [if_pos e, decide_eq_true e]
        simp
      · rw [if_neg e, decide_eq_false e]
        simp
  · refine ex ?_ ?_
    · unfold fX11_keep
      rw [nd, if_neg h0, if_neg h1]
      rfl
    · unfold fX12_keep
      rw [no, if_neg h0, if_neg h1]
      rfl
