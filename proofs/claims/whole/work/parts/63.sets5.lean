/-! likeliest, similar, alike -/
def lkT (w : Nat → Int32) (n : Nat) : Option Nat → Option Nat
  | none => if bit (w 12) n = true then some n else none
  | some m => if bit (w 12) n = true then (if w (18 + 2 * m) < w (18 + 2 * n) then some n else some m) else some m
def lkS (w : Nat → Int32) : Nat → Option Nat := itN (lkT w) none
def crI (w : Nat → Int32) : Option Nat → Int32
  | none => 0
  | some m => w (18 + 2 * m)
theorem lk_lt {w : Nat → Int32} : ∀ n m, lkS w n = some m → m < n := by
  intro n
  induction n with
  | zero =>
    intro m h
    cases h
  | succ n ih =>
    intro m h
    have h' : lkT w n (lkS w n) = some m := h
    cases e : lkS w n with
    | none =>
      rw [e, lkT] at h'
      split at h'
      · cases h'
        omega
      · cases h'
    | some k =>
      have := ih k e
      rw [e, lkT] at h'
      split at h'
      · split at h'
        · cases h'
          omega
        · cases h'
          omega
      · cases h'
        omega
theorem WInv.na {w : Nat → Int32} (h : WInv w) : ∀ i, i < cN w 0 → (0 ≤ (w (17 + 2 * i)).toInt ∧ (w (17 + 2 * i)).toInt < 64) ∧ (1 ≤ (w (18 + 2 * i)).toInt ∧ (w (18 + 2 * i)).toInt ≤ 9) := h.2.2.2.2.2.2.2.2.2.2.2.2.2.2.2.2.1
theorem gd_likeliest {N z y : Nat} (hN : 20000 < N) : Gd_likeliest N (G1 z) (G2 y) z y (z + 150) (Sim z y) := by
  intro σ1 σ2 h
  have wi := h.wi
  have c0 := wi.c0
  refine ⟨oD (-1) (lkS (σ2.2.1 (y + 1)) (cN (σ2.2.1 (y + 1)) 0)), putF σ2 y 0 0, ?_, ?_, h.t0⟩
  · unfold fX11_likeliest fX11_likeliest_b6
    simp only [g1r_0_0, g1r_0_1, g1r_0_2, g1r_0_3, g1r_0_4, g1r_0_5, g1r_0_6, g1r_0_7, g1r_0_8, g1r_1_5, g1n_2, g1r_3_0, g1r_3_1, g1r_3_2, g1r_4_9, g1r_4_10, g1r_4_11, g1r_4_12, g1r_4_13, g1r_4_14, g1r_4_15, g1r_4_16, g1r_4_17, g1n_5, g1n_6, g1n_7, g1n_8, g1n_9, g1n_10, g1n_11, g1n_12, g1n_13, g1r_14_2, g1r_14_3, g1r_14_4, g1r_14_5, g1r_14_6, g1n_15, g1n_16, g1n_17, g1n_18, g1n_19, g1r_20_7, g1r_20_8, g1n_21, g1r_22_2, g1n_23, g1r_24_0, g1r_24_1, g1r_24_2, g1r_25_9, g1r_25_10, g1r_25_11, g1r_25_12, g1r_25_13, g1r_25_14, g1r_25_15, g1r_25_16, g1r_25_17, g1n_26, g1n_27, g1n_28, g1n_29, g1n_30, g1n_31, g1n_32, g1n_33, g1n_34, g1r_35_2, g1r_35_3, g1r_35_4, g1r_35_5, g1r_35_6, g1n_36, g1n_37, g1n_38, g1n_39, g1n_40, g1r_41_7, g1r_41_8, g1n_42, g1r_43_2, g1n_44, g1r_45_0, g1r_45_1, g1r_45_2, g1r_46_9, g1r_46_10, g1r_46_11, g1r_46_12, g1r_46_13, g1r_46_14, g1r_46_15, g1r_46_16, g1r_46_17, g1n_47, g1n_48, g1n_49, g1n_50, g1n_51, g1n_52, g1n_53, g1n_54, g1n_55, g1r_56_2, g1r_56_3, g1r_56_4, g1r_56_5, g1r_56_6, g1n_57, g1n_58, g1n_59, g1n_60, g1n_61, g1r_62_7, g1r_62_8, g1n_63, g1r_64_2, g1n_65, g1r_66_2, g1n_67, g1r_68_7, g1r_68_8, g1n_69, g1r_70_2, g1n_71, g1r_72_7, g1r_72_8, g1n_73, g1r_74_2, g1n_75, g1r_76_7, g1r_76_8, g1n_77, g1r_78_2, g1n_79, g1r_80_7, g1r_80_8, g1n_81, g1r_82_2, g1n_83, g1r_84_7, g1r_84_8, g1n_85, g1r_86_2, g1n_87, g1r_88_7, g1r_88_8, g1n_89, g1r_90_2, g1n_91, g1r_92_7, g1r_92_8, g1n_93, g1r_94_2, g1n_95, g1r_96_7, g1r_96_8, g1n_97, g1r_98_2, g1n_99, g1r_100_7, g1r_100_8, g1n_101, g1r_102_2, g1n_103, g1r_104_7, g1r_104_8, g1n_105, g1r_106_2, g1n_107, g1r_108_7, g1r_108_8, g1n_109, g1r_110_2, g1n_111, g1r_112_7, g1r_112_8, g1n_113, g1r_114_2, g1n_115, g1r_116_7, g1r_116_8, g1n_117, g1r_118_2, g1n_119, g1r_120_0, g1r_120_1, g1r_120_2, g1r_121_7, g1r_121_8, g1n_122, g1r_123_2, g1n_124, g1n_125, g1n_126, g1r_127_0, g1r_127_1, g1r_127_2, g1r_127_3, g1r_128_7, g1r_128_8, g1n_129, g1r_130_2, g1n_131, g1n_132, g1n_133, g1n_134, g1r_135_7, g1n_136, g1n_150]
    rw [h.pos, h.tale.1.2.1]
    refine lp_for (fun k => (oD (-1) (lkS (σ2.2.1 (y + 1)) k), crI (σ2.2.1 (y + 1)) (lkS (σ2.2.1 (y + 1)) k), nI k)) (cN (σ2.2.1 (y + 1)) 0) _ (by omega) ?_ ?_
    · intro k hk q
      have cr := (wi.na k hk).2
      dsimp only
      rw [if_neg (cnt_lt wi.1.1 hk), has_fn (by omega), b_some, ite01, at_fn g1n_6 (by omega : k < 10) (by omega), b_some, b_some, nI_1, show σ1.2.1 (z + 6) k = σ2.2.1 (y + 1) (18 + 2 * k) from (h.tale.2.1 k hk).2]
      show _ = q (oD (-1) (lkT (σ2.2.1 (y + 1)) k (lkS (σ2.2.1 (y + 1)) k)), crI (σ2.2.1 (y + 1)) (lkT (σ2.2.1 (y + 1)) k (lkS (σ2.2.1 (y + 1)) k)), nI (k + 1))
      cases lkS (σ2.2.1 (y + 1)) k with
      | none =>
        rw [lkT]
        by_cases e : bit (σ2.2.1 (y + 1) 12) k = true
        · rw [if_pos e, if_pos e, if_neg (show ¬ σ2.2.1 (y + 1) (18 + 2 * k) ≤ crI _ none from by rw [i_le, crI, show (0 : Int32).toInt = 0 from rfl]; omega)]
          rfl
        · rw [if_neg e, if_neg e]
      | some m =>
        rw [lkT]
        by_cases e : bit (σ2.2.1 (y + 1) 12) k = true
        · rw [if_pos e, if_pos e]
          by_cases g : σ2.2.1 (y + 1) (18 + 2 * m) < σ2.2.1 (y + 1) (18 + 2 * k)
          · rw [if_pos g, if_neg (show ¬ σ2.2.1 (y + 1) (18 + 2 * k) ≤ crI _ (some m) from by rw [i_lt] at g; rw [i_le, crI]; omega)]
            rfl
          · rw [if_neg g, if_pos (show σ2.2.1 (y + 1) (18 + 2 * k) ≤ crI _ (some m) from by rw [i_lt] at g; rw [i_le, crI]; omega)]
        · rw [if_neg e, if_neg e]
    · intro q
      dsimp only
      rw [if_pos (cnt_eN wi.1.1)]
  · unfold fX12_likeliest fX12_likeliest_b9
    refine lp_for (fun k => (oD (-1) (lkS (σ2.2.1 (y + 1)) k), nI k, putF σ2 y 0 0)) (cN (σ2.2.1 (y + 1)) 0) _ (by omega) ?_ ?_
    · intro k hk q
      simp only [g2r_0_1, g2r_0_2, g2r_0_3, g2r_0_4, g2r_0_5, g2r_0_8, g2r_0_15, g2r_0_17, g2r_0_25, g2r_0_26, g2r_0_27, g2r_0_28, g2n_1, g2n_2, g2n_3, g2n_4, g2n_5, g2n_6, g2n_7, g2n_8, g2n_9, g2n_10, g2n_11, g2n_12, r_names, b_some, pfA]
      rw [if_neg (cnt_lt wi.1.1 hk)]
      show (fX12_has N (G2 y) (σ2.2.1 (y + 1) 12) (nI k) (putF σ2 y 0 0)).bind _ = _
      rw [has_fn2 (by omega), b_some, ite01, nI_1, r_ofName1 (by omega), b_some, pfA]
      have lk := lk_lt (w := σ2.2.1 (y + 1)) k
      show _ = q (oD (-1) (lkT (σ2.2.1 (y + 1)) k (lkS (σ2.2.1 (y + 1)) k)), nI (k + 1), putF σ2 y 0 0)
      cases hl : lkS (σ2.2.1 (y + 1)) k with
      | none =>
        rw [lkT]
        by_cases e : bit (σ2.2.1 (y + 1) 12) k = true
        · rw [if_pos e, if_pos e, if_pos (show oD (-1) none < 0 from by decide)]
          rfl
        · rw [if_neg e, if_neg e]
      | some m =>
        have hm := lk m hl
        rw [lkT]
        by_cases e : bit (σ2.2.1 (y + 1) 12) k = true
        · rw [if_pos e, if_pos e, if_neg (show ¬ oD (-1) (some m) < 0 from nI_pos (by omega)), show oD (-1) (some m) = nI m from rfl, r_ofName1 (by omega), b_some, pfA]
          by_cases g : σ2.2.1 (y + 1) (18 + 2 * m) < σ2.2.1 (y + 1) (18 + 2 * k)
          · rw [if_pos g, if_neg (by rw [i_lt] at g; rw [i_le]; omega)]
            rfl
          · rw [if_neg g, if_pos (by rw [i_lt] at g; rw [i_le]; omega)]
            rfl
        · rw [if_neg e, if_neg e]
    · intro q
      simp only [r_names, b_some, pfA]
      rw [if_pos (cnt_eN wi.1.1)]
theorem c_need0 {N z : Nat} {σ : pS} : fX11_need N (G1 z) z 0 σ = some (.inr ("java/lang/IllegalArgumentException", σ)) := rfl
theorem c_need1 {N z : Nat} {σ : pS} : fX11_need N (G1 z) z 1 σ = some (.inl σ) := rfl
theorem iae_ne : ¬ ("java/lang/IllegalArgumentException" : String) = "java/lang/IndexOutOfBoundsException" := by decide
theorem orL_qs2 {α : Type} {p : Nat → Bool} {c : Prop} [Decidable c] {k : Nat} {σ : pS} {q : Int32 × Int32 × pS → α} (h : c ↔ p k = true) : (if c then q (orL p k ||| ((1 : Int32) <<< (nI k &&& 31)), nI k + 1, σ) else q (orL p k, nI k + 1, σ)) = q (orL p (k + 1), nI (k + 1), σ) := by
  rw [show orL p k = orL p k ||| 0 from or_0.symm]
  by_cases e : c
  · rw [if_pos e, or_0, orL_t (h.mp e), nI_1]
  · rw [if_neg e, or_0, orL_f (fun q => e (h.mpr q)), nI_1]
theorem gd_similar {N z y : Nat} (hN : 20000 < N) : Gd_similar N (G1 z) (G2 y) z y (z + 150) (Sim z y) := by
  intro σ1 σ2 h c1 c2
  unfold fL_similar
  apply gd_w
  unfold fX11_similar fX12_similar
  refine name_pre h (fun τ => if_pos rfl) (fun n hn hn6 e1 => ?_)
  subst e1
  have wi := h.wi
  have c0 := wi.c0
  have t := h.tale
  simp only [r_inn, b_some]
  by_cases g0 : c2 < 0
  · rw [if_pos g0, if_pos g0]
    exact gdw_ex (k := 2) (fun τ => (if_neg iae_ne).trans (if_pos rfl)) (by decide) rfl rfl pf0 h.th
  by_cases g1 : 6 < c2
  · rw [if_neg g0, if_pos g1, if_neg g0, if_pos g1]
    exact gdw_ex (k := 2) (fun τ => (if_neg iae_ne).trans (if_pos rfl)) (by decide) rfl rfl pf0 h.th
  · rw [if_neg g0, if_neg g1, if_neg g0, if_neg g1]
    have n10 : n < 10 := hn6
    refine gdw_ok (v := orL (fun i => decide (¬ i = n ∧ ¬ c2 < bc (σ2.2.1 (y + 1) (17 + 2 * i) ^^^ σ2.2.1 (y + 1) (17 + 2 * n)))) (cN (σ2.2.1 (y + 1)) 0)) (τ1 := σ1) (τ2 := putF σ2 y 0 0) ?_ ?_ pf0 h.t0
    · unfold fX11_similar_b21 fX11_similar_b29
      rw [c_need1, b_some, e_inl]
      simp only [g1r_0_0, g1r_0_1, g1r_0_2, g1r_0_3, g1r_0_4, g1r_0_5, g1r_0_6, g1r_0_7, g1r_0_8, g1r_1_5, g1n_2, g1r_3_0, g1r_3_1, g1r_3_2, g1r_4_9, g1r_4_10, g1r_4_11, g1r_4_12, g1r_4_13, g1r_4_14, g1r_4_15, g1r_4_16, g1r_4_17, g1n_5, g1n_6, g1n_7, g1n_8, g1n_9, g1n_10, g1n_11, g1n_12, g1n_13, g1r_14_2, g1r_14_3, g1r_14_4, g1r_14_5, g1r_14_6, g1n_15, g1n_16, g1n_17, g1n_18, g1n_19, g1r_20_7, g1r_20_8, g1n_21, g1r_22_2, g1n_23, g1r_24_0, g1r_24_1, g1r_24_2, g1r_25_9, g1r_25_10, g1r_25_11, g1r_25_12, g1r_25_13, g1r_25_14, g1r_25_15, g1r_25_16, g1r_25_17, g1n_26, g1n_27, g1n_28, g1n_29, g1n_30, g1n_31, g1n_32, g1n_33, g1n_34, g1r_35_2, g1r_35_3, g1r_35_4, g1r_35_5, g1r_35_6, g1n_36, g1n_37, g1n_38, g1n_39, g1n_40, g1r_41_7, g1r_41_8, g1n_42, g1r_43_2, g1n_44, g1r_45_0, g1r_45_1, g1r_45_2, g1r_46_9, g1r_46_10, g1r_46_11, g1r_46_12, g1r_46_13, g1r_46_14, g1r_46_15, g1r_46_16, g1r_46_17, g1n_47, g1n_48, g1n_49, g1n_50, g1n_51, g1n_52, g1n_53, g1n_54, g1n_55, g1r_56_2, g1r_56_3, g1r_56_4, g1r_56_5, g1r_56_6, g1n_57, g1n_58, g1n_59, g1n_60, g1n_61, g1r_62_7, g1r_62_8, g1n_63, g1r_64_2, g1n_65, g1r_66_2, g1n_67, g1r_68_7, g1r_68_8, g1n_69, g1r_70_2, g1n_71, g1r_72_7, g1r_72_8, g1n_73, g1r_74_2, g1n_75, g1r_76_7, g1r_76_8, g1n_77, g1r_78_2, g1n_79, g1r_80_7, g1r_80_8, g1n_81, g1r_82_2, g1n_83, g1r_84_7, g1r_84_8, g1n_85, g1r_86_2, g1n_87, g1r_88_7, g1r_88_8, g1n_89, g1r_90_2, g1n_91, g1r_92_7, g1r_92_8, g1n_93, g1r_94_2, g1n_95, g1r_96_7, g1r_96_8, g1n_97, g1r_98_2, g1n_99, g1r_100_7, g1r_100_8, g1n_101, g1r_102_2, g1n_103, g1r_104_7, g1r_104_8, g1n_105, g1r_106_2, g1n_107, g1r_108_7, g1r_108_8, g1n_109, g1r_110_2, g1n_111, g1r_112_7, g1r_112_8, g1n_113, g1r_114_2, g1n_115, g1r_116_7, g1r_116_8, g1n_117, g1r_118_2, g1n_119, g1r_120_0, g1r_120_1, g1r_120_2, g1r_121_7, g1r_121_8, g1n_122, g1r_123_2, g1n_124, g1n_125, g1n_126, g1r_127_0, g1r_127_1, g1r_127_2, g1r_127_3, g1r_128_7, g1r_128_8, g1n_129, g1r_130_2, g1n_131, g1n_132, g1n_133, g1n_134, g1r_135_7, g1n_136, g1n_150]
      refine lp_for (fun k => (orL (fun i => decide (¬ i = n ∧ ¬ c2 < bc (σ2.2.1 (y + 1) (17 + 2 * i) ^^^ σ2.2.1 (y + 1) (17 + 2 * n)))) k, nI k, σ1)) (cN (σ2.2.1 (y + 1)) 0) _ (by omega) ?_ ?_
      · intro k hk q
        dsimp only
        rw [t.1.2.1, if_neg (cnt_lt wi.1.1 hk)]
        refine Eq.trans ?_ (orL_qs2 (c := ¬ k = n ∧ ¬ c2 < bc (σ2.2.1 (y + 1) (17 + 2 * k) ^^^ σ2.2.1 (y + 1) (17 + 2 * n))) (p := fun i => decide (¬ i = n ∧ ¬ c2 < bc (σ2.2.1 (y + 1) (17 + 2 * i) ^^^ σ2.2.1 (y + 1) (17 + 2 * n)))) (q := q) (k := k) (σ := σ1) decide_eq_true_iff.symm)
        by_cases e : k = n
        · rw [if_pos (by rw [e]), if_neg (fun q => q.1 e)]
        · rw [if_neg (fun q => e ((nI_eq (by omega) (by omega)).mp q))]
          unfold fX8_difference
          simp only [g1r_0_0, g1r_0_1, g1r_0_2, g1r_0_3, g1r_0_4, g1r_0_5, g1r_0_6, g1r_0_7, g1r_0_8, g1r_1_5, g1n_2, g1r_3_0, g1r_3_1, g1r_3_2, g1r_4_9, g1r_4_10, g1r_4_11, g1r_4_12, g1r_4_13, g1r_4_14, g1r_4_15, g1r_4_16, g1r_4_17, g1n_5, g1n_6, g1n_7, g1n_8, g1n_9, g1n_10, g1n_11, g1n_12, g1n_13, g1r_14_2, g1r_14_3, g1r_14_4, g1r_14_5, g1r_14_6, g1n_15, g1n_16, g1n_17, g1n_18, g1n_19, g1r_20_7, g1r_20_8, g1n_21, g1r_22_2, g1n_23, g1r_24_0, g1r_24_1, g1r_24_2, g1r_25_9, g1r_25_10, g1r_25_11, g1r_25_12, g1r_25_13, g1r_25_14, g1r_25_15, g1r_25_16, g1r_25_17, g1n_26, g1n_27, g1n_28, g1n_29, g1n_30, g1n_31, g1n_32, g1n_33, g1n_34, g1r_35_2, g1r_35_3, g1r_35_4, g1r_35_5, g1r_35_6, g1n_36, g1n_37, g1n_38, g1n_39, g1n_40, g1r_41_7, g1r_41_8, g1n_42, g1r_43_2, g1n_44, g1r_45_0, g1r_45_1, g1r_45_2, g1r_46_9, g1r_46_10, g1r_46_11, g1r_46_12, g1r_46_13, g1r_46_14, g1r_46_15, g1r_46_16, g1r_46_17, g1n_47, g1n_48, g1n_49, g1n_50, g1n_51, g1n_52, g1n_53, g1n_54, g1n_55, g1r_56_2, g1r_56_3, g1r_56_4, g1r_56_5, g1r_56_6, g1n_57, g1n_58, g1n_59, g1n_60, g1n_61, g1r_62_7, g1r_62_8, g1n_63, g1r_64_2, g1n_65, g1r_66_2, g1n_67, g1r_68_7, g1r_68_8, g1n_69, g1r_70_2, g1n_71, g1r_72_7, g1r_72_8, g1n_73, g1r_74_2, g1n_75, g1r_76_7, g1r_76_8, g1n_77, g1r_78_2, g1n_79, g1r_80_7, g1r_80_8, g1n_81, g1r_82_2, g1n_83, g1r_84_7, g1r_84_8, g1n_85, g1r_86_2, g1n_87, g1r_88_7, g1r_88_8, g1n_89, g1r_90_2, g1n_91, g1r_92_7, g1r_92_8, g1n_93, g1r_94_2, g1n_95, g1r_96_7, g1r_96_8, g1n_97, g1r_98_2, g1n_99, g1r_100_7, g1r_100_8, g1n_101, g1r_102_2, g1n_103, g1r_104_7, g1r_104_8, g1n_105, g1r_106_2, g1n_107, g1r_108_7, g1r_108_8, g1n_109, g1r_110_2, g1n_111, g1r_112_7, g1r_112_8, g1n_113, g1r_114_2, g1n_115, g1r_116_7, g1r_116_8, g1n_117, g1r_118_2, g1n_119, g1r_120_0, g1r_120_1, g1r_120_2, g1r_121_7, g1r_121_8, g1n_122, g1r_123_2, g1n_124, g1n_125, g1n_126, g1r_127_0, g1r_127_1, g1r_127_2, g1r_127_3, g1r_128_7, g1r_128_8, g1n_129, g1r_130_2, g1n_131, g1n_132, g1n_133, g1n_134, g1r_135_7, g1n_136, g1n_150]
          rw [at_fn g1n_5 n10 (by omega), b_some, at_fn g1n_5 (by omega : k < 10) (by omega), b_some, bc_fn, b_some, b_some, show σ1.2.1 (z + 5) k = σ2.2.1 (y + 1) (17 + 2 * k) from (t.2.1 k hk).1, show σ1.2.1 (z + 5) n = σ2.2.1 (y + 1) (17 + 2 * n) from (t.2.1 n hn).1, show σ2.2.1 (y + 1) (17 + 2 * n) ^^^ σ2.2.1 (y + 1) (17 + 2 * k) = σ2.2.1 (y + 1) (17 + 2 * k) ^^^ σ2.2.1 (y + 1) (17 + 2 * n) from Int32.xor_comm _ _]
          by_cases g : c2 < bc (σ2.2.1 (y + 1) (17 + 2 * k) ^^^ σ2.2.1 (y + 1) (17 + 2 * n))
          · rw [if_pos g, if_neg (fun q => q.2 g)]
          · rw [if_neg g, if_pos ⟨e, g⟩]
      · intro q
        dsimp only
        rw [t.1.2.1, if_pos (cnt_eN wi.1.1)]
    · rw [if_neg (by decide)]
      unfold fX12_similar_b34 fX12_similar_b48
      rw [r_t0, b_some, if_pos rfl]
      refine lp_for (fun k => (orL (fun i => decide (¬ i = n ∧ ¬ c2 < bc (σ2.2.1 (y + 1) (17 + 2 * i) ^^^ σ2.2.1 (y + 1) (17 + 2 * n)))) k, nI k, putF σ2 y 0 0)) (cN (σ2.2.1 (y + 1)) 0) _ (by omega) ?_ ?_
      · intro k hk q
        simp only [r_names, b_some, pfA]
        rw [if_neg (cnt_lt wi.1.1 hk)]
        refine Eq.trans ?_ (orL_qs (c := ¬ k = n ∧ ¬ c2 < bc (σ2.2.1 (y + 1) (17 + 2 * k) ^^^ σ2.2.1 (y + 1) (17 + 2 * n))) (p := fun i => decide (¬ i = n ∧ ¬ c2 < bc (σ2.2.1 (y + 1) (17 + 2 * i) ^^^ σ2.2.1 (y + 1) (17 + 2 * n)))) (q := q) (k := k) (σ := putF σ2 y 0 0) decide_eq_true_iff.symm)
        by_cases e : k = n
        · rw [if_pos (by rw [e]), if_neg (fun q => q.1 e)]
          rfl
        · rw [if_neg (fun q => e ((nI_eq (by omega) (by omega)).mp q)), r_ofName0 (by omega), b_some, r_ofName0 (by omega), b_some, bc_fn, b_some, pfA]
          by_cases g : c2 < bc (σ2.2.1 (y + 1) (17 + 2 * k) ^^^ σ2.2.1 (y + 1) (17 + 2 * n))
          · rw [if_pos g, if_neg (fun q => q.2 g)]
            rfl
          · rw [if_neg g, if_pos ⟨e, g⟩]
      · intro q
        simp only [r_names, b_some, pfA]
        rw [if_pos (cnt_eN wi.1.1)]
theorem xor_0 {a b : Int32} : a ^^^ b = 0 ↔ a = b := by
  constructor
  · intro h
    apply bit_ext
    intro i _
    have e : bit (a ^^^ b) i = bit 0 i := by rw [h]
    rw [bit_xor, bit_0] at e
    cases x : bit a i <;> cases y : bit b i <;> rw [x, y] at e <;> first | rfl | cases e
  · intro h
    rw [h]
    apply bit_ext
    intro i _
    rw [bit_xor, bit_0, Bool.xor_self]
theorem bcx {a b : Int32} (ha : 0 ≤ a.toInt ∧ a.toInt < 64) (hb : 0 ≤ b.toInt ∧ b.toInt < 64) : bc (a ^^^ b) = 0 ↔ a = b := by
  obtain ⟨m, hm, rfl⟩ := small64 ha.1 ha.2
  obtain ⟨n, hn, rfl⟩ := small64 hb.1 hb.2
  obtain ⟨c, c1, c2, c3⟩ := bc_bd (s := nI m ^^^ nI n) (n := 6) (by omega) (fun i hi => by
    rw [bit_xor] at hi
    cases x : bit (nI m) i
    · cases y : bit (nI n) i
      · rw [x, y] at hi
        cases hi
      · exact bits64 hn y
    · exact bits64 hm x)
  rw [c2, ← xor_0 (a := nI m) (b := nI n), ← c3]
  constructor
  · intro e
    rcases Nat.eq_zero_or_pos c with q | q
    · exact q
    · exact absurd e (nI_ne0 q (by omega))
  · intro e
    rw [e]
    rfl
def alR (w : Nat → Int32) (a : Nat) (x : Int32) : Nat → Int32 := itN (fun b x => x + (if w (17 + 2 * a) = w (17 + 2 * b) then 1 else 0)) x
def alS (w : Nat → Int32) : Nat → Int32 := itN (fun a x => alR w a x a) 0
theorem gd_alike {N z y : Nat} (hN : 20000 < N) : Gd_alike N (G1 z) (G2 y) z y (z + 150) (Sim z y) := by
  intro σ1 σ2 h
  have wi := h.wi
  have c0 := wi.c0
  have t := h.tale
  refine ⟨alS (σ2.2.1 (y + 1)) (cN (σ2.2.1 (y + 1)) 0), putF σ2 y 0 0, ?_, ?_, h.t0⟩
  · unfold fX11_alike fX11_alike_b4
    simp only [g1r_0_0, g1r_0_1, g1r_0_2, g1r_0_3, g1r_0_4, g1r_0_5, g1r_0_6, g1r_0_7, g1r_0_8, g1r_1_5, g1n_2, g1r_3_0, g1r_3_1, g1r_3_2, g1r_4_9, g1r_4_10, g1r_4_11, g1r_4_12, g1r_4_13, g1r_4_14, g1r_4_15, g1r_4_16, g1r_4_17, g1n_5, g1n_6, g1n_7, g1n_8, g1n_9, g1n_10, g1n_11, g1n_12, g1n_13, g1r_14_2, g1r_14_3, g1r_14_4, g1r_14_5, g1r_14_6, g1n_15, g1n_16, g1n_17, g1n_18, g1n_19, g1r_20_7, g1r_20_8, g1n_21, g1r_22_2, g1n_23, g1r_24_0, g1r_24_1, g1r_24_2, g1r_25_9, g1r_25_10, g1r_25_11, g1r_25_12, g1r_25_13, g1r_25_14, g1r_25_15, g1r_25_16, g1r_25_17, g1n_26, g1n_27, g1n_28, g1n_29, g1n_30, g1n_31, g1n_32, g1n_33, g1n_34, g1r_35_2, g1r_35_3, g1r_35_4, g1r_35_5, g1r_35_6, g1n_36, g1n_37, g1n_38, g1n_39, g1n_40, g1r_41_7, g1r_41_8, g1n_42, g1r_43_2, g1n_44, g1r_45_0, g1r_45_1, g1r_45_2, g1r_46_9, g1r_46_10, g1r_46_11, g1r_46_12, g1r_46_13, g1r_46_14, g1r_46_15, g1r_46_16, g1r_46_17, g1n_47, g1n_48, g1n_49, g1n_50, g1n_51, g1n_52, g1n_53, g1n_54, g1n_55, g1r_56_2, g1r_56_3, g1r_56_4, g1r_56_5, g1r_56_6, g1n_57, g1n_58, g1n_59, g1n_60, g1n_61, g1r_62_7, g1r_62_8, g1n_63, g1r_64_2, g1n_65, g1r_66_2, g1n_67, g1r_68_7, g1r_68_8, g1n_69, g1r_70_2, g1n_71, g1r_72_7, g1r_72_8, g1n_73, g1r_74_2, g1n_75, g1r_76_7, g1r_76_8, g1n_77, g1r_78_2, g1n_79, g1r_80_7, g1r_80_8, g1n_81, g1r_82_2, g1n_83, g1r_84_7, g1r_84_8, g1n_85, g1r_86_2, g1n_87, g1r_88_7, g1r_88_8, g1n_89, g1r_90_2, g1n_91, g1r_92_7, g1r_92_8, g1n_93, g1r_94_2, g1n_95, g1r_96_7, g1r_96_8, g1n_97, g1r_98_2, g1n_99, g1r_100_7, g1r_100_8, g1n_101, g1r_102_2, g1n_103, g1r_104_7, g1r_104_8, g1n_105, g1r_106_2, g1n_107, g1r_108_7, g1r_108_8, g1n_109, g1r_110_2, g1n_111, g1r_112_7, g1r_112_8, g1n_113, g1r_114_2, g1n_115, g1r_116_7, g1r_116_8, g1n_117, g1r_118_2, g1n_119, g1r_120_0, g1r_120_1, g1r_120_2, g1r_121_7, g1r_121_8, g1n_122, g1r_123_2, g1n_124, g1n_125, g1n_126, g1r_127_0, g1r_127_1, g1r_127_2, g1r_127_3, g1r_128_7, g1r_128_8, g1n_129, g1r_130_2, g1n_131, g1n_132, g1n_133, g1n_134, g1r_135_7, g1n_136, g1n_150]
    rw [t.1.2.1]
    refine lp_for (fun k => (alS (σ2.2.1 (y + 1)) k, nI k)) (cN (σ2.2.1 (y + 1)) 0) _ (by omega) ?_ ?_
    · intro k hk q
      dsimp only
      rw [if_neg (cnt_lt wi.1.1 hk)]
      unfold fX11_alike_b20
      simp only [g1r_0_0, g1r_0_1, g1r_0_2, g1r_0_3, g1r_0_4, g1r_0_5, g1r_0_6, g1r_0_7, g1r_0_8, g1r_1_5, g1n_2, g1r_3_0, g1r_3_1, g1r_3_2, g1r_4_9, g1r_4_10, g1r_4_11, g1r_4_12, g1r_4_13, g1r_4_14, g1r_4_15, g1r_4_16, g1r_4_17, g1n_5, g1n_6, g1n_7, g1n_8, g1n_9, g1n_10, g1n_11, g1n_12, g1n_13, g1r_14_2, g1r_14_3, g1r_14_4, g1r_14_5, g1r_14_6, g1n_15, g1n_16, g1n_17, g1n_18, g1n_19, g1r_20_7, g1r_20_8, g1n_21, g1r_22_2, g1n_23, g1r_24_0, g1r_24_1, g1r_24_2, g1r_25_9, g1r_25_10, g1r_25_11, g1r_25_12, g1r_25_13, g1r_25_14, g1r_25_15, g1r_25_16, g1r_25_17, g1n_26, g1n_27, g1n_28, g1n_29, g1n_30, g1n_31, g1n_32, g1n_33, g1n_34, g1r_35_2, g1r_35_3, g1r_35_4, g1r_35_5, g1r_35_6, g1n_36, g1n_37, g1n_38, g1n_39, g1n_40, g1r_41_7, g1r_41_8, g1n_42, g1r_43_2, g1n_44, g1r_45_0, g1r_45_1, g1r_45_2, g1r_46_9, g1r_46_10, g1r_46_11, g1r_46_12, g1r_46_13, g1r_46_14, g1r_46_15, g1r_46_16, g1r_46_17, g1n_47, g1n_48, g1n_49, g1n_50, g1n_51, g1n_52, g1n_53, g1n_54, g1n_55, g1r_56_2, g1r_56_3, g1r_56_4, g1r_56_5, g1r_56_6, g1n_57, g1n_58, g1n_59, g1n_60, g1n_61, g1r_62_7, g1r_62_8, g1n_63, g1r_64_2, g1n_65, g1r_66_2, g1n_67, g1r_68_7, g1r_68_8, g1n_69, g1r_70_2, g1n_71, g1r_72_7, g1r_72_8, g1n_73, g1r_74_2, g1n_75, g1r_76_7, g1r_76_8, g1n_77, g1r_78_2, g1n_79, g1r_80_7, g1r_80_8, g1n_81, g1r_82_2, g1n_83, g1r_84_7, g1r_84_8, g1n_85, g1r_86_2, g1n_87, g1r_88_7, g1r_88_8, g1n_89, g1r_90_2, g1n_91, g1r_92_7, g1r_92_8, g1n_93, g1r_94_2, g1n_95, g1r_96_7, g1r_96_8, g1n_97, g1r_98_2, g1n_99, g1r_100_7, g1r_100_8, g1n_101, g1r_102_2, g1n_103, g1r_104_7, g1r_104_8, g1n_105, g1r_106_2, g1n_107, g1r_108_7, g1r_108_8, g1n_109, g1r_110_2, g1n_111, g1r_112_7, g1r_112_8, g1n_113, g1r_114_2, g1n_115, g1r_116_7, g1r_116_8, g1n_117, g1r_118_2, g1n_119, g1r_120_0, g1r_120_1, g1r_120_2, g1r_121_7, g1r_121_8, g1n_122, g1r_123_2, g1n_124, g1n_125, g1n_126, g1r_127_0, g1r_127_1, g1r_127_2, g1r_127_3, g1r_128_7, g1r_128_8, g1n_129, g1r_130_2, g1n_131, g1n_132, g1n_133, g1n_134, g1r_135_7, g1n_136, g1n_150]
      refine lp_forK (fun j => (alR (σ2.2.1 (y + 1)) k (alS (σ2.2.1 (y + 1)) k) j, nI j)) k _ (by omega) ?_ ?_
      · intro j hj q2
        dsimp only
        rw [if_neg (lit_lt hj (by omega))]
        unfold fX8_difference
        simp only [g1r_0_0, g1r_0_1, g1r_0_2, g1r_0_3, g1r_0_4, g1r_0_5, g1r_0_6, g1r_0_7, g1r_0_8, g1r_1_5, g1n_2, g1r_3_0, g1r_3_1, g1r_3_2, g1r_4_9, g1r_4_10, g1r_4_11, g1r_4_12, g1r_4_13, g1r_4_14, g1r_4_15, g1r_4_16, g1r_4_17, g1n_5, g1n_6, g1n_7, g1n_8, g1n_9, g1n_10, g1n_11, g1n_12, g1n_13, g1r_14_2, g1r_14_3, g1r_14_4, g1r_14_5, g1r_14_6, g1n_15, g1n_16, g1n_17, g1n_18, g1n_19, g1r_20_7, g1r_20_8, g1n_21, g1r_22_2, g1n_23, g1r_24_0, g1r_24_1, g1r_24_2, g1r_25_9, g1r_25_10, g1r_25_11, g1r_25_12, g1r_25_13, g1r_25_14, g1r_25_15, g1r_25_16, g1r_25_17, g1n_26, g1n_27, g1n_28, g1n_29, g1n_30, g1n_31, g1n_32, g1n_33, g1n_34, g1r_35_2, g1r_35_3, g1r_35_4, g1r_35_5, g1r_35_6, g1n_36, g1n_37, g1n_38, g1n_39, g1n_40, g1r_41_7, g1r_41_8, g1n_42, g1r_43_2, g1n_44, g1r_45_0, g1r_45_1, g1r_45_2, g1r_46_9, g1r_46_10, g1r_46_11, g1r_46_12, g1r_46_13, g1r_46_14, g1r_46_15, g1r_46_16, g1r_46_17, g1n_47, g1n_48, g1n_49, g1n_50, g1n_51, g1n_52, g1n_53, g1n_54, g1n_55, g1r_56_2, g1r_56_3, g1r_56_4, g1r_56_5, g1r_56_6, g1n_57, g1n_58, g1n_59, g1n_60, g1n_61, g1r_62_7, g1r_62_8, g1n_63, g1r_64_2, g1n_65, g1r_66_2, g1n_67, g1r_68_7, g1r_68_8, g1n_69, g1r_70_2, g1n_71, g1r_72_7, g1r_72_8, g1n_73, g1r_74_2, g1n_75, g1r_76_7, g1r_76_8, g1n_77, g1r_78_2, g1n_79, g1r_80_7, g1r_80_8, g1n_81, g1r_82_2, g1n_83, g1r_84_7, g1r_84_8, g1n_85, g1r_86_2, g1n_87, g1r_88_7, g1r_88_8, g1n_89, g1r_90_2, g1n_91, g1r_92_7, g1r_92_8, g1n_93, g1r_94_2, g1n_95, g1r_96_7, g1r_96_8, g1n_97, g1r_98_2, g1n_99, g1r_100_7, g1r_100_8, g1n_101, g1r_102_2, g1n_103, g1r_104_7, g1r_104_8, g1n_105, g1r_106_2, g1n_107, g1r_108_7, g1r_108_8, g1n_109, g1r_110_2, g1n_111, g1r_112_7, g1r_112_8, g1n_113, g1r_114_2, g1n_115, g1r_116_7, g1r_116_8, g1n_117, g1r_118_2, g1n_119, g1r_120_0, g1r_120_1, g1r_120_2, g1r_121_7, g1r_121_8, g1n_122, g1r_123_2, g1n_124, g1n_125, g1n_126, g1r_127_0, g1r_127_1, g1r_127_2, g1r_127_3, g1r_128_7, g1r_128_8, g1n_129, g1r_130_2, g1n_131, g1n_132, g1n_133, g1n_134, g1r_135_7, g1n_136, g1n_150]
        rw [at_fn g1n_5 (by omega : k < 10) (by omega), b_some, at_fn g1n_5 (by omega : j < 10) (by omega), b_some, bc_fn, b_some, b_some, show σ1.2.1 (z + 5) k = σ2.2.1 (y + 1) (17 + 2 * k) from (t.2.1 k hk).1, show σ1.2.1 (z + 5) j = σ2.2.1 (y + 1) (17 + 2 * j) from (t.2.1 j (by omega)).1, nI_1]
        show _ = q2 (alR (σ2.2.1 (y + 1)) k (alS (σ2.2.1 (y + 1)) k) j + (if σ2.2.1 (y + 1) (17 + 2 * k) = σ2.2.1 (y + 1) (17 + 2 * j) then 1 else 0), nI (j + 1))
        have hx := bcx (wi.na k hk).1 (wi.na j (by omega)).1
        by_cases e : σ2.2.1 (y + 1) (17 + 2 * k) = σ2.2.1 (y + 1) (17 + 2 * j)
        · rw [if_pos e, if_pos (hx.mpr e)]
        · rw [if_neg e, if_neg (fun q => e (hx.mp q))]
      · intro q2
        dsimp only
        rw [if_pos lit_end, nI_1]
        rfl
    · intro q
      dsimp only
      rw [if_pos (cnt_eN wi.1.1)]
  · unfold fX12_alike fX12_alike_b9
    refine lp_for (fun k => (alS (σ2.2.1 (y + 1)) k, nI k, putF σ2 y 0 0)) (cN (σ2.2.1 (y + 1)) 0) _ (by omega) ?_ ?_
    · intro k hk q
      simp only [r_names, b_some, pfA]
      rw [if_neg (cnt_lt wi.1.1 hk)]
      unfold fX12_alike_b19
      refine lp_forK (fun j => (alR (σ2.2.1 (y + 1)) k (alS (σ2.2.1 (y + 1)) k) j, nI j, putF σ2 y 0 0)) k _ (by omega) ?_ ?_
      · intro j hj q2
        dsimp only
        rw [if_neg (lit_lt hj (by omega)), r_ofName0 (by omega), b_some, r_ofName0 (by omega), b_some, pfA, nI_1]
        show _ = q2 (alR (σ2.2.1 (y + 1)) k (alS (σ2.2.1 (y + 1)) k) j + (if σ2.2.1 (y + 1) (17 + 2 * k) = σ2.2.1 (y + 1) (17 + 2 * j) then 1 else 0), nI (j + 1), putF σ2 y 0 0)
        by_cases e : σ2.2.1 (y + 1) (17 + 2 * k) = σ2.2.1 (y + 1) (17 + 2 * j)
        · rw [if_pos e, if_pos e]
        · rw [if_neg e, if_neg e]
      · intro q2
        dsimp only
        rw [if_pos lit_end, nI_1]
        rfl
    · intro q
      simp only [r_names, b_some, pfA]
      rw [if_pos (cnt_eN wi.1.1)]
