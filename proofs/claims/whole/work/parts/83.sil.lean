/-! silence -/
def clN (w : Nat → Int32) (s : Int32) : Nat → Nat → Int32 := itN (fun c x => if bit s c = true then va_up x (39 + 3 * c) 0 else x) w
theorem clN_s {w : Nat → Int32} {s : Int32} {n : Nat} : clN w s (n + 1) = if bit s n = true then va_up (clN w s n) (39 + 3 * n) 0 else clN w s n := rfl
theorem cl_at {w : Nat → Int32} {s : Int32} : ∀ n i, clN w s n (39 + 3 * i) = if i < n ∧ bit s i = true then 0 else w (39 + 3 * i) := by
  intro n
  induction n with
  | zero =>
    intro i
    rw [if_neg (by omega)]
    rfl
  | succ n ih =>
    intro i
    rw [clN_s]
    by_cases b : bit s n = true
    · rw [if_pos b]
      by_cases e : i = n
      · subst e
        rw [va_up_self, if_pos ⟨by omega, b⟩]
      · rw [up_ne (by omega), ih i]
        by_cases q : i < n ∧ bit s i = true
        · rw [if_pos q, if_pos ⟨by omega, q.2⟩]
        · rw [if_neg q, if_neg (fun g => q ⟨by omega, g.2⟩)]
    · rw [if_neg b, ih i]
      by_cases q : i < n ∧ bit s i = true
      · rw [if_pos q, if_pos ⟨by omega, q.2⟩]
      · rw [if_neg q, if_neg (fun g => by
          by_cases e : i = n
          · rw [e] at g
            exact b g.2
          · exact q ⟨by omega, g.2⟩)]
theorem cl_ne {w : Nat → Int32} {s : Int32} {k : Nat} (h : ∀ i, k ≠ 39 + 3 * i) : ∀ n, clN w s n k = w k := by
  intro n
  induction n with
  | zero => rfl
  | succ n ih =>
    rw [clN_s]
    split
    · rw [up_ne (h n), ih]
    · exact ih
theorem MInv_cl {w : Nat → Int32} {s : Int32} (hw : WInv w) : ∀ n, n ≤ 6 → MInv (clN w s n) := by
  intro n
  induction n with
  | zero => intro _; exact hw.m
  | succ n ih =>
    intro hn
    rw [clN_s]
    split
    · exact MInv_near (ih (by omega)) (by omega) (Or.inl rfl)
    · exact ih (by omega)
theorem em_cl {w : Nat → Int32} {s : Int32} : ∀ n, n ≤ 6 → ∀ k, mindK k = false → clN w s n k = w k := by
  intro n
  induction n with
  | zero => intro _ k _; rfl
  | succ n ih =>
    intro hn k hk
    rw [clN_s]
    split
    · rw [em_up (mk_hab n (by omega)).2 k hk]
      exact ih (by omega) k hk
    · exact ih (by omega) k hk
def clW (w : Nat → Int32) (s : Int32) : Nat → Int32 := clN w s (cN w 1)
theorem Sv.cl {w : Nat → Int32} {s : Int32} {n : Nat} (hw : WInv w) (hl : HasLaw w) (hn : n ≤ cN w 1) : Sv w (clN w s n) := by
  have c1 := hw.c1
  exact ⟨hw.act (em_cl n (by omega)) (MInv_cl hw n (by omega)), hl.s (em_cl n (by omega)), em_cl n (by omega)⟩
def quP (w : Nat → Int32) (n k : Nat) : Bool := decide (ahW (clW w (nI k)) (-1) n 13 = 0)
theorem MR.cl {z m : Nat} {σ : pS} {w : Nat → Int32} {s : Int32} (hm : z + 20 ≤ m) (h : MR False z m σ w) : MR False z m (putF σ m 4 (σ.1 m 4 &&& (s ^^^ (-1)))) (clW w s) := by
  have sv := Sv.cl (s := s) h.1 h.hl (Nat.le_refl (cN w 1))
  obtain ⟨hw, ht, hlaw, hmind, hlog⟩ := h
  have c1 := hw.c1
  have k1 : CC z m σ (putF σ m 4 (σ.1 m 4 &&& (s ^^^ (-1)))) := CC.r.pf
  refine ⟨sv.1, tale_w hw sv.2.2 (k1.tal hm ht), law_S sv.2.2 (k1.law hm hlaw), ?_, fun q => q.elim⟩
  rw [pf_w]
  obtain ⟨m0, m1, m2, m3, m4, m5, m6, m7⟩ := hmind
  have en : ∀ k, (∀ i, k ≠ 39 + 3 * i) → clW w s k = w k := fun k hk => cl_ne hk _
  have e1 : cN (clW w s) 1 = cN w 1 := by unfold cN; rw [en 1 (by omega)]
  have fn : ∀ k, k ≠ 4 → va_up (σ.1 m) 4 (σ.1 m 4 &&& (s ^^^ (-1))) k = σ.1 m k := fun k hk => up_ne hk
  unfold MindR
  refine ⟨by rw [fn 0 (by omega), en 7 (by omega)]; exact m0, by rw [fn 1 (by omega), en 9 (by omega)]; exact m1, by rw [fn 2 (by omega), en 0 (by omega), en 11 (by omega)]; exact m2, by rw [fn 3 (by omega), en 12 (by omega)]; exact m3, fun i => ?_, by rw [fn 5 (by omega), en 16 (by omega)]; exact m5, by rw [fn 6 (by omega), en 13 (by omega)]; exact m6, fun i hi => by rw [e1] at hi; rw [en (38 + 3 * i) (by omega)]; exact m7 i hi⟩
  rw [va_up_self, e1, bit_and, m4 i]
  by_cases hi : i < cN w 1
  · rw [decide_eq_true hi, Bool.true_and, Bool.true_and, bit_not (by omega)]
    show _ = decide (clN w s (cN w 1) (39 + 3 * i) = 1)
    rw [cl_at]
    cases b : bit s i
    · rw [if_neg (fun q => by cases q.2), Bool.not_false, Bool.and_true]
    · rw [if_pos ⟨hi, rfl⟩, Bool.not_true, Bool.and_false]
      rfl
  · rw [decide_eq_false hi, Bool.false_and, Bool.false_and, Bool.false_and]
theorem c_quiet {N z y n k : Nat} {σ1 σ2 : pS} (hN : 20000 < N) (hn : n ≤ 60) (h : Sim z y σ1 σ2) : ∃ τ, fX11_staysQuiet N (G1 z) z (nI k) (nI n) σ1 = some (if quP (σ2.2.1 (y + 1)) n k = true then 1 else 0, τ) ∧ E1 z σ1 τ := by
  unfold fX11_staysQuiet
  simp only [g1r_0_0, g1r_0_1, g1r_0_2, g1r_0_3, g1r_0_4, g1r_0_5, g1r_0_6, g1r_0_7, g1r_0_8, g1r_1_5, g1n_2, g1r_3_0, g1r_3_1, g1r_3_2, g1r_4_9, g1r_4_10, g1r_4_11, g1r_4_12, g1r_4_13, g1r_4_14, g1r_4_15, g1r_4_16, g1r_4_17, g1n_5, g1n_6, g1n_7, g1n_8, g1n_9, g1n_10, g1n_11, g1n_12, g1n_13, g1r_14_2, g1r_14_3, g1r_14_4, g1r_14_5, g1r_14_6, g1n_15, g1n_16, g1n_17, g1n_18, g1n_19, g1r_20_7, g1r_20_8, g1n_21, g1r_22_2, g1n_23, g1r_24_0, g1r_24_1, g1r_24_2, g1r_25_9, g1r_25_10, g1r_25_11, g1r_25_12, g1r_25_13, g1r_25_14, g1r_25_15, g1r_25_16, g1r_25_17, g1n_26, g1n_27, g1n_28, g1n_29, g1n_30, g1n_31, g1n_32, g1n_33, g1n_34, g1r_35_2, g1r_35_3, g1r_35_4, g1r_35_5, g1r_35_6, g1n_36, g1n_37, g1n_38, g1n_39, g1n_40, g1r_41_7, g1r_41_8, g1n_42, g1r_43_2, g1n_44, g1r_45_0, g1r_45_1, g1r_45_2, g1r_46_9, g1r_46_10, g1r_46_11, g1r_46_12, g1r_46_13, g1r_46_14, g1r_46_15, g1r_46_16, g1r_46_17, g1n_47, g1n_48, g1n_49, g1n_50, g1n_51, g1n_52, g1n_53, g1n_54, g1n_55, g1r_56_2, g1r_56_3, g1r_56_4, g1r_56_5, g1r_56_6, g1n_57, g1n_58, g1n_59, g1n_60, g1n_61, g1r_62_7, g1r_62_8, g1n_63, g1r_64_2, g1n_65, g1r_66_2, g1n_67, g1r_68_7, g1r_68_8, g1n_69, g1r_70_2, g1n_71, g1r_72_7, g1r_72_8, g1n_73, g1r_74_2, g1n_75, g1r_76_7, g1r_76_8, g1n_77, g1r_78_2, g1n_79, g1r_80_7, g1r_80_8, g1n_81, g1r_82_2, g1n_83, g1r_84_7, g1r_84_8, g1n_85, g1r_86_2, g1n_87, g1r_88_7, g1r_88_8, g1n_89, g1r_90_2, g1n_91, g1r_92_7, g1r_92_8, g1n_93, g1r_94_2, g1n_95, g1r_96_7, g1r_96_8, g1n_97, g1r_98_2, g1n_99, g1r_100_7, g1r_100_8, g1n_101, g1r_102_2, g1n_103, g1r_104_7, g1r_104_8, g1n_105, g1r_106_2, g1n_107, g1r_108_7, g1r_108_8, g1n_109, g1r_110_2, g1n_111, g1r_112_7, g1r_112_8, g1n_113, g1r_114_2, g1n_115, g1r_116_7, g1r_116_8, g1n_117, g1r_118_2, g1n_119, g1r_120_0, g1r_120_1, g1r_120_2, g1r_121_7, g1r_121_8, g1n_122, g1r_123_2, g1n_124, g1n_125, g1n_126, g1r_127_0, g1r_127_1, g1r_127_2, g1r_127_3, g1r_128_7, g1r_128_8, g1n_129, g1r_130_2, g1n_131, g1n_132, g1n_133, g1n_134, g1r_135_7, g1n_136, g1n_150]
  obtain ⟨τ1, a1, a2, a3⟩ := c_dream (N := N) (o := 116) (by omega) ma_116 h
  rw [a1, b_some]
  have m0 := a2.cl (s := nI k) (by omega)
  have S := Sv.ah (d := -1) m0.1 m0.hl (Or.inl rfl)
  suffices hh : ∃ r : Int32 × pS, (r.1 = (if quP (σ2.2.1 (y + 1)) n k = true then 1 else 0) ∧ E1 z σ1 r.2) ∧ fX11_staysQuiet_b31 N (G1 z) z (nI n) (0, putF τ1 (z + 116) 4 (τ1.1 (z + 116) 4 &&& (nI k ^^^ (-1)))) = some r by
    obtain ⟨⟨r1, r⟩, ⟨h1, h2⟩, h3⟩ := hh
    have h1' : r1 = _ := h1
    subst h1'
    exact ⟨r, h3, h2⟩
  unfold fX11_staysQuiet_b31
  simp only [g1r_0_0, g1r_0_1, g1r_0_2, g1r_0_3, g1r_0_4, g1r_0_5, g1r_0_6, g1r_0_7, g1r_0_8, g1r_1_5, g1n_2, g1r_3_0, g1r_3_1, g1r_3_2, g1r_4_9, g1r_4_10, g1r_4_11, g1r_4_12, g1r_4_13, g1r_4_14, g1r_4_15, g1r_4_16, g1r_4_17, g1n_5, g1n_6, g1n_7, g1n_8, g1n_9, g1n_10, g1n_11, g1n_12, g1n_13, g1r_14_2, g1r_14_3, g1r_14_4, g1r_14_5, g1r_14_6, g1n_15, g1n_16, g1n_17, g1n_18, g1n_19, g1r_20_7, g1r_20_8, g1n_21, g1r_22_2, g1n_23, g1r_24_0, g1r_24_1, g1r_24_2, g1r_25_9, g1r_25_10, g1r_25_11, g1r_25_12, g1r_25_13, g1r_25_14, g1r_25_15, g1r_25_16, g1r_25_17, g1n_26, g1n_27, g1n_28, g1n_29, g1n_30, g1n_31, g1n_32, g1n_33, g1n_34, g1r_35_2, g1r_35_3, g1r_35_4, g1r_35_5, g1r_35_6, g1n_36, g1n_37, g1n_38, g1n_39, g1n_40, g1r_41_7, g1r_41_8, g1n_42, g1r_43_2, g1n_44, g1r_45_0, g1r_45_1, g1r_45_2, g1r_46_9, g1r_46_10, g1r_46_11, g1r_46_12, g1r_46_13, g1r_46_14, g1r_46_15, g1r_46_16, g1r_46_17, g1n_47, g1n_48, g1n_49, g1n_50, g1n_51, g1n_52, g1n_53, g1n_54, g1n_55, g1r_56_2, g1r_56_3, g1r_56_4, g1r_56_5, g1r_56_6, g1n_57, g1n_58, g1n_59, g1n_60, g1n_61, g1r_62_7, g1r_62_8, g1n_63, g1r_64_2, g1n_65, g1r_66_2, g1n_67, g1r_68_7, g1r_68_8, g1n_69, g1r_70_2, g1n_71, g1r_72_7, g1r_72_8, g1n_73, g1r_74_2, g1n_75, g1r_76_7, g1r_76_8, g1n_77, g1r_78_2, g1n_79, g1r_80_7, g1r_80_8, g1n_81, g1r_82_2, g1n_83, g1r_84_7, g1r_84_8, g1n_85, g1r_86_2, g1n_87, g1r_88_7, g1r_88_8, g1n_89, g1r_90_2, g1n_91, g1r_92_7, g1r_92_8, g1n_93, g1r_94_2, g1n_95, g1r_96_7, g1r_96_8, g1n_97, g1r_98_2, g1n_99, g1r_100_7, g1r_100_8, g1n_101, g1r_102_2, g1n_103, g1r_104_7, g1r_104_8, g1n_105, g1r_106_2, g1n_107, g1r_108_7, g1r_108_8, g1n_109, g1r_110_2, g1n_111, g1r_112_7, g1r_112_8, g1n_113, g1r_114_2, g1n_115, g1r_116_7, g1r_116_8, g1n_117, g1r_118_2, g1n_119, g1r_120_0, g1r_120_1, g1r_120_2, g1r_121_7, g1r_121_8, g1n_122, g1r_123_2, g1n_124, g1n_125, g1n_126, g1r_127_0, g1r_127_1, g1r_127_2, g1r_127_3, g1r_128_7, g1r_128_8, g1n_129, g1r_130_2, g1n_131, g1n_132, g1n_133, g1n_134, g1r_135_7, g1n_136, g1n_150]
  refine lp_forR (fun j b => ∃ τ, b = (nI j, τ) ∧ MR False z (z + 116) τ (ahW (clW (σ2.2.1 (y + 1)) (nI k)) (-1) j) ∧ E1 z σ1 τ) _ n (by omega) ?_ ?_ ⟨_, rfl, m0, a3.pd (by omega)⟩
  · rintro j hj _ ⟨τ, rfl, hmr, he⟩
    left
    obtain ⟨υ, b1, b2, b3⟩ := c_plain (N := N) (d := -1) hN (by omega) ma_116 hmr (Or.inl rfl)
    refine ⟨(nI (j + 1), υ), ⟨υ, rfl, b2, he.t (b3.d (by omega))⟩, fun q => ?_⟩
    dsimp only
    rw [if_neg (nI_ge hj (by omega)), b1, b_some, nI_1]
  · rintro _ ⟨τ, rfl, hmr, he⟩
    refine ⟨(if quP (σ2.2.1 (y + 1)) n k = true then 1 else 0, τ), ⟨rfl, he⟩, fun q => ?_⟩
    dsimp only
    rw [if_pos lit_end, hmr.2.2.2.1.2.2.2.2.2.2.1]
    unfold quP
    by_cases e : ahW (clW (σ2.2.1 (y + 1)) (nI k)) (-1) n 13 = 0
    · rw [if_pos e, if_pos (decide_eq_true e)]
    · rw [if_neg e, if_neg (fun g => e (of_decide_eq_true g))]
/-- the reference at one set -/
theorem r_sil132 {N y n : Nat} {κ τ : pS} {w v : Nat → Int32} {x2 x3 x4 : Int32} (hN : 20000 < N) (hn : n ≤ 60) (k3 : ∀ τ, SS y κ τ → (∀ k, mindK k = false → τ.2.1 (y + 1) k = w k) → fX12_bringsBack N (G2 y) y τ = some (rowA τ (y + 1) w)) (sv : Sv w v) (hv : τ.2.1 (y + 1) = v) (hs : SS y κ τ) : ∃ r, (∃ υ, SS y κ υ ∧ υ.2.1 (y + 1) = w ∧ r = fun p : Int32 × Int32 × pS → Option (Int32 × pS) => p (if ahW v (-1) n 13 = 0 then x4 else x3, x4 + (-1), υ)) ∧ ∀ p, fX12_silence_b132 N (G2 y) p y (nI n) x2 x3 x4 (0, τ) = r p := by
  have S := Sv.ah (d := -1) sv.1 sv.2.1 (Or.inl rfl)
  unfold fX12_silence_b132
  refine lp_forRQ (fun j b => ∃ τ', b = (nI j, τ') ∧ τ'.2.1 (y + 1) = ahW v (-1) j ∧ SS y κ τ') _ n (by omega) ?_ ?_ ⟨τ, rfl, hv, hs⟩
  · rintro j hj _ ⟨τ', rfl, hmr, he⟩
    obtain ⟨υ, b1, b2, b3⟩ := r_calm (N := N) (y := y) (σ := τ') (d := -1) hN (by rw [hmr]; exact (S j).1) (by rw [hmr]; exact (S j).2.1) (Or.inl rfl)
    refine ⟨(nI (j + 1), υ), ⟨υ, rfl, by rw [b2, hmr]; rfl, he.t b3⟩, fun p q => ?_⟩
    dsimp only
    rw [if_neg (nI_ge hj (by omega)), b1, b_some, nI_1]
  · rintro _ ⟨τ', rfl, hmr, he⟩
    have hb := k3 τ' he (by
      intro k hk
      rw [hmr, (S n).2.2 k hk, sv.2.2 k hk])
    refine ⟨_, ⟨rowA τ' (y + 1) w, he.w, row_s, rfl⟩, fun p q => ?_⟩
    dsimp only
    unfold fX12_silence_b162
    rw [if_pos lit_end, r_gone, b_some, ite01, hmr, hb, b_some]
    rcases (S n).1.a01 with g | g
    · rw [if_neg (show ¬ ahW v (-1) n 13 = 1 from by rw [g]; decide), if_pos g, b_some]
    · rw [if_pos g, if_neg (show ¬ ahW v (-1) n 13 = 0 from by rw [g]; decide)]
theorem r_sil86 {N y n k : Nat} {κ τ : pS} {w : Nat → Int32} {x2 x3 : Int32} (hN : 20000 < N) (hn : n ≤ 60) (hw : WInv w) (hl : HasLaw w) (k3 : ∀ τ, SS y κ τ → (∀ k, mindK k = false → τ.2.1 (y + 1) k = w k) → fX12_bringsBack N (G2 y) y τ = some (rowA τ (y + 1) w)) (hv : τ.2.1 (y + 1) = w) (hs : SS y κ τ) : ∃ υ, SS y κ υ ∧ υ.2.1 (y + 1) = w ∧ ∀ p, fX12_silence_b86 N (G2 y) p y (nI n) x2 x3 (nI k) τ = p (if quP w n k = true then nI k else x3, nI k + (-1), υ) := by
  have c1 := hw.c1
  suffices hh : ∃ r, (∃ υ, SS y κ υ ∧ υ.2.1 (y + 1) = w ∧ r = fun p : Int32 × Int32 × pS → Option (Int32 × pS) => p (if ahW (clW w (nI k)) (-1) n 13 = 0 then nI k else x3, nI k + (-1), υ)) ∧ ∀ p, fX12_silence_b89 N (G2 y) p y (nI n) x2 x3 (nI k) (0, τ) = r p by
    obtain ⟨_, ⟨υ, h1, h2, rfl⟩, h3⟩ := hh
    refine ⟨υ, h1, h2, fun p => ?_⟩
    unfold fX12_silence_b86
    rw [h3]
    dsimp only
    unfold quP
    by_cases e : ahW (clW w (nI k)) (-1) n 13 = 0
    · rw [if_pos e, if_pos (decide_eq_true e)]
    · rw [if_neg e, if_neg (fun g => e (of_decide_eq_true g))]
  unfold fX12_silence_b89
  simp only [g2r_0_1, g2r_0_2, g2r_0_3, g2r_0_4, g2r_0_5, g2r_0_8, g2r_0_15, g2r_0_17, g2r_0_25, g2r_0_26, g2r_0_27, g2r_0_28, g2n_1, g2n_2, g2n_3, g2n_4, g2n_5, g2n_6, g2n_7, g2n_8, g2n_9, g2n_10, g2n_11, g2n_12]
  refine lp_forRQ (fun c b => ∃ τ', b = (nI c, τ') ∧ τ'.2.1 (y + 1) = clN w (nI k) c ∧ SS y κ τ') _ (cN w 1) (by omega) ?_ ?_ ⟨τ, rfl, hv, hs⟩
  · rintro c hc _ ⟨τ', rfl, hmr, he⟩
    have e1 : clN w (nI k) c 1 = w 1 := cl_ne (by omega) _
    by_cases b : bit (nI k) c = true
    · refine ⟨(nI (c + 1), sA τ' (y + 1) (nI (39 + 3 * c)) 0), ⟨_, rfl, ?_, he.a⟩, fun p q => ?_⟩
      · rw [sA_w (n := 39 + 3 * c) (nI_clamp (by omega)), hmr, clN_s, if_pos b]
      · dsimp only
        rw [r_court, b_some, hmr, e1, if_neg (cnt_lt hw.2.1.1 hc), has_fn2 (by omega), b_some, ite01, if_pos b, show (37 : Int32) + 3 * nI c + 2 = nI (37 + 3 * c + 2) from ix3 37 3 c 2, ck_nI (by omega) (by omega), show 37 + 3 * c + 2 = 39 + 3 * c by omega, nI_1]
    · refine ⟨(nI (c + 1), τ'), ⟨_, rfl, ?_, he⟩, fun p q => ?_⟩
      · rw [hmr, clN_s, if_neg b]
      · dsimp only
        rw [r_court, b_some, hmr, e1, if_neg (cnt_lt hw.2.1.1 hc), has_fn2 (by omega), b_some, ite01, if_neg b, nI_1]
  · rintro _ ⟨τ', rfl, hmr, he⟩
    have e1 : clN w (nI k) (cN w 1) 1 = w 1 := cl_ne (by omega) _
    obtain ⟨r, h1, h2⟩ := r_sil132 (N := N) (y := y) (n := n) (κ := κ) (τ := τ') (w := w) (v := clW w (nI k)) (x2 := x2) (x3 := x3) (x4 := nI k) hN hn k3 (Sv.cl hw hl (Nat.le_refl _)) hmr he
    refine ⟨r, h1, fun p q => ?_⟩
    dsimp only
    rw [r_court, b_some, hmr, e1, if_pos (cnt_eN hw.2.1.1), h2]
def siP (w : Nat → Int32) (nr : Int32) (n k : Nat) : Bool := decide (nI k &&& (nr ^^^ (-1)) = 0) && quP w n k
theorem sub64 : ∀ k, k < 64 → ∀ m, m < 64 → nI k &&& (nI m ^^^ (-1)) = 0 → k ≤ m := by decide +kernel
theorem sil_c {N z y n : Nat} {σ1 σ2 : pS} (hN : 20000 < N) (hn : n ≤ 60) (h : Sim z y σ1 σ2) : ∃ r, (∃ f υ, Bst (siP (σ2.2.1 (y + 1)) (σ1.1 (z + 20) 4) n) pcN 0 64 f ∧ E1 z σ1 υ ∧ r = .inl (oD (-1) f, υ)) ∧ fX11_silence_b29 N (G1 z) z (nI n) (-1, 1000, 0, σ1) = some r := by
  unfold fX11_silence_b29
  simp only [g1r_0_0, g1r_0_1, g1r_0_2, g1r_0_3, g1r_0_4, g1r_0_5, g1r_0_6, g1r_0_7, g1r_0_8, g1r_1_5, g1n_2, g1r_3_0, g1r_3_1, g1r_3_2, g1r_4_9, g1r_4_10, g1r_4_11, g1r_4_12, g1r_4_13, g1r_4_14, g1r_4_15, g1r_4_16, g1r_4_17, g1n_5, g1n_6, g1n_7, g1n_8, g1n_9, g1n_10, g1n_11, g1n_12, g1n_13, g1r_14_2, g1r_14_3, g1r_14_4, g1r_14_5, g1r_14_6, g1n_15, g1n_16, g1n_17, g1n_18, g1n_19, g1r_20_7, g1r_20_8, g1n_21, g1r_22_2, g1n_23, g1r_24_0, g1r_24_1, g1r_24_2, g1r_25_9, g1r_25_10, g1r_25_11, g1r_25_12, g1r_25_13, g1r_25_14, g1r_25_15, g1r_25_16, g1r_25_17, g1n_26, g1n_27, g1n_28, g1n_29, g1n_30, g1n_31, g1n_32, g1n_33, g1n_34, g1r_35_2, g1r_35_3, g1r_35_4, g1r_35_5, g1r_35_6, g1n_36, g1n_37, g1n_38, g1n_39, g1n_40, g1r_41_7, g1r_41_8, g1n_42, g1r_43_2, g1n_44, g1r_45_0, g1r_45_1, g1r_45_2, g1r_46_9, g1r_46_10, g1r_46_11, g1r_46_12, g1r_46_13, g1r_46_14, g1r_46_15, g1r_46_16, g1r_46_17, g1n_47, g1n_48, g1n_49, g1n_50, g1n_51, g1n_52, g1n_53, g1n_54, g1n_55, g1r_56_2, g1r_56_3, g1r_56_4, g1r_56_5, g1r_56_6, g1n_57, g1n_58, g1n_59, g1n_60, g1n_61, g1r_62_7, g1r_62_8, g1n_63, g1r_64_2, g1n_65, g1r_66_2, g1n_67, g1r_68_7, g1r_68_8, g1n_69, g1r_70_2, g1n_71, g1r_72_7, g1r_72_8, g1n_73, g1r_74_2, g1n_75, g1r_76_7, g1r_76_8, g1n_77, g1r_78_2, g1n_79, g1r_80_7, g1r_80_8, g1n_81, g1r_82_2, g1n_83, g1r_84_7, g1r_84_8, g1n_85, g1r_86_2, g1n_87, g1r_88_7, g1r_88_8, g1n_89, g1r_90_2, g1n_91, g1r_92_7, g1r_92_8, g1n_93, g1r_94_2, g1n_95, g1r_96_7, g1r_96_8, g1n_97, g1r_98_2, g1n_99, g1r_100_7, g1r_100_8, g1n_101, g1r_102_2, g1n_103, g1r_104_7, g1r_104_8, g1n_105, g1r_106_2, g1n_107, g1r_108_7, g1r_108_8, g1n_109, g1r_110_2, g1n_111, g1r_112_7, g1r_112_8, g1n_113, g1r_114_2, g1n_115, g1r_116_7, g1r_116_8, g1n_117, g1r_118_2, g1n_119, g1r_120_0, g1r_120_1, g1r_120_2, g1r_121_7, g1r_121_8, g1n_122, g1r_123_2, g1n_124, g1n_125, g1n_126, g1r_127_0, g1r_127_1, g1r_127_2, g1r_127_3, g1r_128_7, g1r_128_8, g1n_129, g1r_130_2, g1n_131, g1n_132, g1n_133, g1n_134, g1r_135_7, g1n_136, g1n_150]
  refine lp_forR (fun k b => ∃ f τ, Bst (siP (σ2.2.1 (y + 1)) (σ1.1 (z + 20) 4) n) pcN 0 k f ∧ E1 z σ1 τ ∧ b = (oD (-1) f, fwI f, nI k, τ)) _ 64 (by omega) ?_ ?_ ⟨none, σ1, Bst.z, EE.r, rfl⟩
  · rintro k hk _ ⟨f, τ, hf, he, rfl⟩
    left
    have l10 := pcN_10 k
    have e4 : τ.1 (z + 20) 4 = σ1.1 (z + 20) 4 := he.1 20 4 rfl
    obtain ⟨υ, b1, b2⟩ := c_quiet (N := N) (k := k) hN hn (h.keep he E2.r)
    unfold fX11_silence_b59
    dsimp only
    simp only [if_neg (l64 hk), e4, bc_fn, b_some, bc_pc k (by omega), b1]
    by_cases s : nI k &&& (σ1.1 (z + 20) 4 ^^^ (-1)) = 0
    · by_cases l : fwI f ≤ nI (pcN k)
      · cases f with
        | none => exact absurd l (nI_ge (b := 1000) (by omega) (by omega))
        | some m =>
          have l11 := pcN_10 m
          refine ⟨(oD (-1) (some m), fwI (some m), nI (k + 1), τ), ⟨some m, τ, hf.up_g ((nI_leI (by omega) (by omega)).mp l), he, rfl⟩, fun q => ?_⟩
          rw [if_pos s, if_neg (by decide), if_pos l, nI_1]
      · by_cases u : quP (σ2.2.1 (y + 1)) n k = true
        · have P1 : siP (σ2.2.1 (y + 1)) (σ1.1 (z + 20) 4) n k = true := by
            unfold siP
            rw [decide_eq_true s, u]
            rfl
          refine ⟨(nI k, nI (pcN k), nI (k + 1), υ), ⟨some k, υ, ?_, he.t b2, rfl⟩, fun q => ?_⟩
          · cases f with
            | none => exact hf.up_0 P1
            | some m =>
              have l11 := pcN_10 m
              refine hf.up_l P1 ?_
              have : ¬ pcN m ≤ pcN k := fun e => l ((nI_leI (by omega) (by omega)).mpr e)
              omega
          · rw [if_pos s, if_neg (by decide), if_neg l, if_pos u, if_neg (by decide), nI_1]
        · have P0 : siP (σ2.2.1 (y + 1)) (σ1.1 (z + 20) 4) n k = false := by
            unfold siP
            rw [decide_eq_true s, Bool.true_and]
            exact Bool.eq_false_iff.mpr u
          refine ⟨(oD (-1) f, fwI f, nI (k + 1), υ), ⟨f, υ, hf.up_n P0, he.t b2, rfl⟩, fun q => ?_⟩
          rw [if_pos s, if_neg (by decide), if_neg l, if_neg u, if_pos rfl, nI_1]
    · have P0 : siP (σ2.2.1 (y + 1)) (σ1.1 (z + 20) 4) n k = false := by
        unfold siP
        rw [decide_eq_false s, Bool.false_and]
      refine ⟨(oD (-1) f, fwI f, nI (k + 1), τ), ⟨f, τ, hf.up_n P0, he, rfl⟩, fun q => ?_⟩
      rw [if_neg s, if_pos trivial, nI_1]
  · rintro _ ⟨f, τ, hf, he, rfl⟩
    refine ⟨_, ⟨f, τ, hf, he, rfl⟩, fun q => ?_⟩
    dsimp only
    rw [if_pos l64e]
theorem sil_r {N y n m : Nat} {κ : pS} {w : Nat → Int32} (hN : 20000 < N) (hn : n ≤ 60) (hm : m < 64) (hw : WInv w) (hl : HasLaw w) (k3 : ∀ τ, SS y κ τ → (∀ k, mindK k = false → τ.2.1 (y + 1) k = w k) → fX12_bringsBack N (G2 y) y τ = some (rowA τ (y + 1) w)) (hv : κ.2.1 (y + 1) = w) : ∃ r, (∃ f υ, Bst (siP w (nI m) n) pcN 0 64 f ∧ SS y κ υ ∧ υ.2.1 (y + 1) = w ∧ r = (oD (-1) f, υ)) ∧ fX12_silence_b53 N (G2 y) y (nI n) (nI m) (-1, nI m, κ) = some r := by
  have h0 : ((-1 : Int32), nI m, κ) = (oD (-1) none, nI (m + 1 - 0) + (-1), κ) := by
    rw [Nat.sub_zero, dn_s]
    rfl
  rw [h0]
  unfold fX12_silence_b53
  refine lp_forR (fun j b => ∃ f τ, Bst (siP w (nI m) n) pcN (m + 1 - j) 64 f ∧ SS y κ τ ∧ τ.2.1 (y + 1) = w ∧ b = (oD (-1) f, nI (m + 1 - j) + (-1), τ)) _ (m + 1) (by omega) ?_ ?_ ⟨none, κ, ?_, SS.r, hv, rfl⟩
  · rintro j hj _ ⟨f, τ, hf, he, hmr, rfl⟩
    left
    obtain ⟨k, hk⟩ : ∃ k, m + 1 - j = k + 1 := ⟨m - j, by omega⟩
    have hk64 : k < 64 := by omega
    rw [hk] at hf
    rw [hk, show m + 1 - (j + 1) = k by omega, dn_s]
    dsimp only
    simp only [if_neg (show ¬ nI k < 0 from nI_pos (by omega)), bc_fn, b_some]
    by_cases s : nI k &&& (nI m ^^^ (-1)) = 0
    · obtain ⟨υ, b1, b2, b3⟩ := r_sil86 (N := N) (y := y) (n := n) (k := k) (κ := κ) (τ := τ) (x2 := nI m) (x3 := oD (-1) f) hN hn hw hl k3 hmr he
      have P1 : quP w n k = true → siP w (nI m) n k = true := by
        intro u
        unfold siP
        rw [decide_eq_true s, u]
        rfl
      have P0 : ¬ quP w n k = true → siP w (nI m) n k = false := by
        intro u
        unfold siP
        rw [decide_eq_true s, Bool.true_and]
        exact Bool.eq_false_iff.mpr u
      cases f with
      | none =>
        by_cases u : quP w n k = true
        · refine ⟨(oD (-1) (some k), nI k + (-1), υ), ⟨some k, υ, hf.dn_0 hk64 (P1 u), b1, b2, rfl⟩, fun q => ?_⟩
          rw [if_pos s, if_pos (show oD (-1) none < 0 by decide), b3, if_pos u]
          rfl
        · refine ⟨(oD (-1) none, nI k + (-1), υ), ⟨none, υ, hf.dn_n (P0 u), b1, b2, rfl⟩, fun q => ?_⟩
          rw [if_pos s, if_pos (show oD (-1) none < 0 by decide), b3, if_neg u]
      | some a =>
        have ha : a < 64 := hf.1.2.1
        by_cases l : bc (nI k) ≤ bc (nI a)
        · have l2 : pcN k ≤ pcN a := (bc_le (by omega) (by omega)).mp l
          by_cases u : quP w n k = true
          · refine ⟨(oD (-1) (some k), nI k + (-1), υ), ⟨some k, υ, hf.dn_l hk64 (P1 u) l2, b1, b2, rfl⟩, fun q => ?_⟩
            rw [if_pos s, if_neg (show ¬ oD (-1) (some a) < 0 from nI_pos (by omega)), if_pos (show bc (nI k) ≤ bc (oD (-1) (some a)) from l), b3, if_pos u]
            rfl
          · refine ⟨(oD (-1) (some a), nI k + (-1), υ), ⟨some a, υ, hf.dn_n (P0 u), b1, b2, rfl⟩, fun q => ?_⟩
            rw [if_pos s, if_neg (show ¬ oD (-1) (some a) < 0 from nI_pos (by omega)), if_pos (show bc (nI k) ≤ bc (oD (-1) (some a)) from l), b3, if_neg u]
        · have l2 : pcN a < pcN k := by
            have : ¬ pcN k ≤ pcN a := fun e => l ((bc_le (by omega) (by omega)).mpr e)
            omega
          refine ⟨(oD (-1) (some a), nI k + (-1), τ), ⟨some a, τ, hf.dn_g l2, he, hmr, rfl⟩, fun q => ?_⟩
          rw [if_pos s, if_neg (show ¬ oD (-1) (some a) < 0 from nI_pos (by omega)), if_neg (show ¬ bc (nI k) ≤ bc (oD (-1) (some a)) from l)]
    · have P0 : siP w (nI m) n k = false := by
        unfold siP
        rw [decide_eq_false s, Bool.false_and]
      refine ⟨(oD (-1) f, nI k + (-1), τ), ⟨f, τ, hf.dn_n P0, he, hmr, rfl⟩, fun q => ?_⟩
      rw [if_neg s]
  · rintro _ ⟨f, τ, hf, he, hmr, rfl⟩
    rw [Nat.sub_self] at hf
    refine ⟨_, ⟨f, τ, hf, he, hmr, rfl⟩, fun q => ?_⟩
    dsimp only
    rw [if_pos (show nI (m + 1 - (m + 1)) + (-1) < 0 from by rw [Nat.sub_self]; decide)]
  · intro j a b
    unfold siP
    rw [decide_eq_false (fun q => by
      have := sub64 j b m hm q
      omega), Bool.false_and]
theorem gd_silence {N z y : Nat} (hN : 20000 < N) : Gd_silence N (G1 z) (G2 y) z y (z + 150) (Sim z y) := by
  intro σ1 σ2 h c1
  unfold fL_silence
  apply gd_w
  unfold fX11_silence fX12_silence
  have wi := h.wi
  have c6 := wi.c1
  simp only [r_inn, b_some]
  by_cases g0 : c1 < 1
  · rw [if_pos g0, if_pos g0]
    exact gdw_ex (k := 1) (fun τ => if_pos rfl) (by decide) rfl rfl pf0 h.th
  by_cases g1 : 60 < c1
  · rw [if_neg g0, if_pos g1, if_neg g0, if_pos g1]
    exact gdw_ex (k := 1) (fun τ => if_pos rfl) (by decide) rfl rfl pf0 h.th
  rw [if_neg g0, if_neg g1, if_neg g0, if_neg g1, if_neg (by decide)]
  obtain ⟨n, hn, rfl⟩ := nI_rng (m := 60) (by omega) (fun q => g0 (by
    rw [i_lt, show (0 : Int32).toInt = 0 from rfl] at q
    rw [i_lt, show (1 : Int32).toInt = 1 from rfl]
    omega)) g1
  unfold fX11_silence_b17 fX12_silence_b21
  rw [c_need1, b_some, e_inl, r_t0, b_some, if_pos rfl]
  obtain ⟨_, ⟨f, υ1, hf, e1, rfl⟩, h1⟩ := sil_c (N := N) hN hn h
  rw [h1, r_gone, b_some, ite01, pfA]
  rcases wi.a01 with q | q
  · rw [if_neg (show ¬ σ2.2.1 (y + 1) 13 = 1 from by rw [q]; decide), r_nearOnes (σ := putF σ2 y 0 0) hN wi.2.1.1 wi.2.1.2, b_some, show (putF σ2 y 0 0).2.1 (y + 1) = σ2.2.1 (y + 1) from rfl, near_eq h.mind wi.2.1.2]
    obtain ⟨κ, k1, k2, k3, k4, k5⟩ := r_keep (N := N) (y := y) (σ := putF σ2 y 0 0) hN
    obtain ⟨m, hm, em⟩ : ∃ m, m < 2 ^ 6 ∧ σ1.1 (z + 20) 4 = nI m := small_bits (fun i hi => by
      rw [h.mind.2.2.2.2.1 i] at hi
      simp at hi
      omega) (by omega)
    obtain ⟨_, ⟨f', υ2, hf', s2, w2, rfl⟩, h2⟩ := sil_r (N := N) (y := y) (n := n) (m := m) (κ := κ) (w := σ2.2.1 (y + 1)) hN hn hm wi h.hl k3 k2
    rw [k1, b_some, em, h2]
    rw [em] at hf
    rw [hf.uniq hf']
    exact gdw_ok rfl rfl ((k5 _ s2).trans pf0) (h.keep e1 (E2.t0.t (k4 _ s2 w2)))
  · rw [if_pos q]
    have ah : ∀ s j, ahW (clW (σ2.2.1 (y + 1)) s) (-1) j = clW (σ2.2.1 (y + 1)) s := by
      intro s j
      have e13 : clW (σ2.2.1 (y + 1)) s 13 = 1 := (cl_ne (by omega) _).trans q
      induction j with
      | zero => rfl
      | succ j ih =>
        rw [ahW_s, ih]
        exact if_neg (fun g => by
          rw [e13] at g
          exact absurd g.1 (by decide))
    have P0 : ∀ k, siP (σ2.2.1 (y + 1)) (σ1.1 (z + 20) 4) n k = false := by
      intro k
      unfold siP quP
      rw [ah, decide_eq_false (show ¬ clW (σ2.2.1 (y + 1)) (nI k) 13 = 0 from by
        rw [show clW (σ2.2.1 (y + 1)) (nI k) 13 = 1 from (cl_ne (by omega) _).trans q]
        decide), Bool.and_false]
    cases f with
    | none => exact gdw_ok rfl rfl pf0 (h.keep e1 E2.t0)
    | some a =>
      have := hf.1.2.2
      rw [P0 a] at this
      cases this
