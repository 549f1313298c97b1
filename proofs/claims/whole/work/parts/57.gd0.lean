/-! the first of the document's calls -/
theorem ite01 {α : Type} {c : Prop} [Decidable c] {A B : α} : (if (if c then (1 : Int32) else 0) = 0 then A else B) = if c then B else A := by
  split
  · exact if_neg (by decide)
  · exact if_pos rfl
theorem ite01' {α : Type} {c : Prop} [Decidable c] {A B : α} : (if (if c then (0 : Int32) else 1) = 0 then A else B) = if c then A else B := by
  split
  · exact if_pos rfl
  · exact if_neg (by decide)
/-- one more bit, or none -/
theorem orL_q {α : Type} {p : Nat → Bool} {c : Prop} [Decidable c] {k : Nat} {q : Int32 × Int32 → α} (h : c ↔ p k = true) : (if c then q (orL p k ||| ((1 : Int32) <<< (nI k &&& 31)), nI k + 1) else q (orL p k ||| 0, nI k + 1)) = q (orL p (k + 1), nI (k + 1)) := by
  by_cases e : c
  · rw [if_pos e, orL_t (h.mp e), nI_1]
  · rw [if_neg e, orL_f (fun q => e (h.mpr q)), nI_1, or_0]
theorem orL_q0 {α : Type} {p : Nat → Bool} {c : Prop} [Decidable c] {k : Nat} {q : Int32 × Int32 → α} (h : c ↔ p k = true) : (if c then q (orL p k ||| ((1 : Int32) <<< (nI k &&& 31)), nI k + 1) else q (orL p k, nI k + 1)) = q (orL p (k + 1), nI (k + 1)) := by
  by_cases e : c
  · rw [if_pos e, orL_t (h.mp e), nI_1]
  · rw [if_neg e, orL_f (fun q => e (h.mpr q)), nI_1]
theorem orL_qn {α : Type} {p : Nat → Bool} {c : Prop} [Decidable c] {k : Nat} {q : Int32 × Int32 → α} (h : c ↔ ¬ p k = true) : (if c then q (orL p k, nI k + 1) else q (orL p k ||| ((1 : Int32) <<< (nI k &&& 31)), nI k + 1)) = q (orL p (k + 1), nI (k + 1)) := by
  by_cases e : c
  · rw [if_pos e, orL_f (h.mp e), nI_1]
  · have e2 : p k = true := by
      cases e3 : p k
      · exact absurd (h.mpr (by rw [e3]; decide)) e
      · rfl
    rw [if_neg e, orL_t e2, nI_1]
theorem orL_qs {α : Type} {p : Nat → Bool} {c : Prop} [Decidable c] {k : Nat} {σ : pS} {q : Int32 × Int32 × pS → α} (h : c ↔ p k = true) : (if c then q (orL p k ||| ((1 : Int32) <<< (nI k &&& 31)), nI k + 1, σ) else q (orL p k ||| 0, nI k + 1, σ)) = q (orL p (k + 1), nI (k + 1), σ) := by
  by_cases e : c
  · rw [if_pos e, orL_t (h.mp e), nI_1]
  · rw [if_neg e, orL_f (fun q => e (h.mpr q)), nI_1, or_0]
theorem orL_qns {α : Type} {p : Nat → Bool} {c : Prop} [Decidable c] {k : Nat} {σ : pS} {q : Int32 × Int32 × pS → α} (h : c ↔ ¬ p k = true) : (if c then q (orL p k ||| 0, nI k + 1, σ) else q (orL p k ||| ((1 : Int32) <<< (nI k &&& 31)), nI k + 1, σ)) = q (orL p (k + 1), nI (k + 1), σ) := by
  by_cases e : c
  · rw [if_pos e, orL_f (h.mp e), nI_1, or_0]
  · have e2 : p k = true := by
      cases e3 : p k
      · exact absurd (h.mpr (by rw [e3]; decide)) e
      · rfl
    rw [if_neg e, orL_t e2, nI_1]
/-- the end of a count -/
theorem cnt_lt {x : Int32} {k : Nat} (h0 : 0 ≤ x.toInt) (h : k < x.toInt.toNat) : ¬ x ≤ nI k := by
  have := i_hi x
  rw [i_le, nI_toInt (by omega)]
  omega
theorem cnt_end {x : Int32} (h0 : 0 ≤ x.toInt) : x ≤ nI x.toInt.toNat := by
  have := i_hi x
  rw [i_le, nI_toInt (by omega)]
  omega
theorem cnt_eN {w : Nat → Int32} {j : Nat} (h0 : 0 ≤ (w j).toInt) : w j ≤ nI (cN w j) := cnt_end h0
theorem r_nearOnes {N y : Nat} {σ : pS} (hN : 20000 < N) (h0 : 0 ≤ (σ.2.1 (y + 1) 1).toInt) (h1 : (σ.2.1 (y + 1) 1).toInt ≤ 6) : fX12_nearOnes N (G2 y) y σ = some (orL (fun i => decide (σ.2.1 (y + 1) (39 + 3 * i) = 1)) (cN (σ.2.1 (y + 1)) 1)) := by
  unfold fX12_nearOnes fX12_nearOnes_b4
  refine lp_for (fun k => (orL (fun i => decide (σ.2.1 (y + 1) (39 + 3 * i) = 1)) k, nI k)) (cN (σ.2.1 (y + 1)) 1) _ (by unfold cN; omega) ?_ ?_
  · intro k hk q
    have hk6 : k < 6 := by unfold cN at hk; omega
    simp only [r_court, b_some]
    rw [if_neg (cnt_lt h0 hk), r_isNear (by omega), b_some, ite01]
    exact orL_q decide_eq_true_iff.symm
  · intro q
    simp only [r_court, b_some]
    rw [if_pos (cnt_eN h0)]
theorem near_eq {f h w : Nat → Int32} (m : MindR f h w) (h1 : (w 1).toInt ≤ 6) : orL (fun i => decide (w (39 + 3 * i) = 1)) (cN w 1) = f 4 := by
  apply bit_ext
  intro i hi
  rw [bit_orL (by unfold cN; omega), m.2.2.2.2.1 i]
theorem gd_fault {N z y : Nat} : Gd_fault N (G1 z) (G2 y) z y (z + 150) (Sim z y) := by
  intro σ1 σ2 h
  refine ⟨σ1.1 z 9, putF σ2 y 0 0, rfl, ?_, h.keep EE.r E2.t0⟩
  show some ((putF σ2 y 0 0).1 y 14, _) = _
  rw [pf0n (by decide), h.2.2.2.2.1]
theorem gd_end {N z y : Nat} : Gd_end N (G1 z) (G2 y) z y (z + 150) (Sim z y) := by
  intro σ1 σ2 h c
  obtain ⟨e, t0, t1, t2⟩ := h.2.2.2.2.2
  unfold fX11_end fX12_end
  rw [g1r_0_0, pf0n (by decide), e]
  by_cases h0 : c < 0
  · exact ⟨0, σ1, putF σ2 y 0 0, by rw [if_pos h0], by rw [if_pos h0], h.keep EE.r E2.t0⟩
  · by_cases h1 : c ≤ σ2.1 y 9
    · refine ⟨1, _, _, by rw [if_neg h0, if_pos h1], by rw [if_neg h0, if_pos h1], ?_⟩
      rw [i_lt] at h0
      rw [i_le] at h1
      have z0 : (0 : Int32).toInt = 0 := by decide
      refine h.tape (EE.r.pf rfl) ?_ (fun j hj => rfl) ?_
      · intro k hk
        rw [pf0n (by omega), pf0n (by omega)]
      · rw [pf0, pf0]
        exact ⟨rfl, by omega, by omega, fun i hi => t2 i (by omega)⟩
    · exact ⟨0, σ1, putF σ2 y 0 0, by rw [if_neg h0, if_neg h1], by rw [if_neg h0, if_neg h1], h.keep EE.r E2.t0⟩
theorem MInv_c {w w' : Nat → Int32} (h : MInv w) (e : ∀ k, k ≠ 16 → w' k = w k) : MInv w' := by
  unfold MInv cN at h ⊢
  simp only [e 0 (by omega), e 1 (by omega), e 2 (by omega), e 7 (by omega), e 9 (by omega), e 11 (by omega), e 12 (by omega), e 13 (by omega), e 15 (by omega), show ∀ i, w' (38 + 3 * i) = w (38 + 3 * i) from fun i => e _ (by omega), show ∀ i, w' (39 + 3 * i) = w (39 + 3 * i) from fun i => e _ (by omega), show ∀ i, w' (83 + 5 * i) = w (83 + 5 * i) from fun i => e _ (by omega), show ∀ i, w' (84 + 5 * i) = w (84 + 5 * i) from fun i => e _ (by omega), show ∀ i, w' (85 + 5 * i) = w (85 + 5 * i) from fun i => e _ (by omega), show ∀ i, w' (86 + 5 * i) = w (86 + 5 * i) from fun i => e _ (by omega), show ∀ i, w' (87 + 5 * i) = w (87 + 5 * i) from fun i => e _ (by omega)]
  exact h
theorem log_c {f p w w' : Nat → Int32} (h : LogR f p w) (e : ∀ k, (k = 15 ∨ 83 ≤ k) → w' k = w k) : LogR f p w' := by
  unfold LogR pk cN at h ⊢
  simp only [e 15 (by omega), show ∀ i, w' (83 + 5 * i) = w (83 + 5 * i) from fun i => e _ (by omega), show ∀ i, w' (84 + 5 * i) = w (84 + 5 * i) from fun i => e _ (by omega), show ∀ i, w' (85 + 5 * i) = w (85 + 5 * i) from fun i => e _ (by omega), show ∀ i, w' (86 + 5 * i) = w (86 + 5 * i) from fun i => e _ (by omega), show ∀ i, w' (87 + 5 * i) = w (87 + 5 * i) from fun i => e _ (by omega)]
  exact h
theorem sA_w {σ : pS} {a n : Nat} {i v : Int32} (h : i.toNatClampNeg = n) : (sA σ a i v).2.1 a = va_up (σ.2.1 a) n v := by
  subst h
  funext j
  show (if a = a ∧ j = i.toNatClampNeg then v else σ.2.1 a j) = _
  by_cases e : j = i.toNatClampNeg
  · rw [if_pos ⟨rfl, e⟩, e, va_up_self]
  · rw [if_neg (fun q => e q.2), va_up_ne _ _ e]
theorem sA_o {σ : pS} {a b : Nat} {i v : Int32} (h : b ≠ a) : (sA σ a i v).2.1 b = σ.2.1 b := by
  funext j
  show (if b = a ∧ j = i.toNatClampNeg then v else σ.2.1 b j) = _
  rw [if_neg (fun q => h q.1)]
theorem pf_o {σ : pS} {a b k : Nat} {v : Int32} (h : b ≠ a) : (putF σ a k v).1 b = σ.1 b := by
  funext j
  rw [pf1, if_neg (fun q => h q.1)]
theorem gd_seed {N z y : Nat} : Gd_seed N (G1 z) (G2 y) z y (z + 150) (Sim z y) := by
  intro σ1 σ2 h c
  have m := h.mind
  refine ⟨σ2.2.1 (y + 1) 16, putF σ1 (z + 20) 5 c, sA (putF σ2 y 0 0) (y + 1) 16 c, ?_, ?_, ?_⟩
  · unfold fX11_seed
    simp only [g1r_0_0, g1r_0_1, g1r_0_2, g1r_0_3, g1r_0_4, g1r_0_5, g1r_0_6, g1r_0_7, g1r_0_8, g1r_1_5, g1n_2, g1r_3_0, g1r_3_1, g1r_3_2, g1r_4_9, g1r_4_10, g1r_4_11, g1r_4_12, g1r_4_13, g1r_4_14, g1r_4_15, g1r_4_16, g1r_4_17, g1n_5, g1n_6, g1n_7, g1n_8, g1n_9, g1n_10, g1n_11, g1n_12, g1n_13, g1r_14_2, g1r_14_3, g1r_14_4, g1r_14_5, g1r_14_6, g1n_15, g1n_16, g1n_17, g1n_18, g1n_19, g1r_20_7, g1r_20_8, g1n_21, g1r_22_2, g1n_23, g1r_24_0, g1r_24_1, g1r_24_2, g1r_25_9, g1r_25_10, g1r_25_11, g1r_25_12, g1r_25_13, g1r_25_14, g1r_25_15, g1r_25_16, g1r_25_17, g1n_26, g1n_27, g1n_28, g1n_29, g1n_30, g1n_31, g1n_32, g1n_33, g1n_34, g1r_35_2, g1r_35_3, g1r_35_4, g1r_35_5, g1r_35_6, g1n_36, g1n_37, g1n_38, g1n_39, g1n_40, g1r_41_7, g1r_41_8, g1n_42, g1r_43_2, g1n_44, g1r_45_0, g1r_45_1, g1r_45_2, g1r_46_9, g1r_46_10, g1r_46_11, g1r_46_12, g1r_46_13, g1r_46_14, g1r_46_15, g1r_46_16, g1r_46_17, g1n_47, g1n_48, g1n_49, g1n_50, g1n_51, g1n_52, g1n_53, g1n_54, g1n_55, g1r_56_2, g1r_56_3, g1r_56_4, g1r_56_5, g1r_56_6, g1n_57, g1n_58, g1n_59, g1n_60, g1n_61, g1r_62_7, g1r_62_8, g1n_63, g1r_64_2, g1n_65, g1r_66_2, g1n_67, g1r_68_7, g1r_68_8, g1n_69, g1r_70_2, g1n_71, g1r_72_7, g1r_72_8, g1n_73, g1r_74_2, g1n_75, g1r_76_7, g1r_76_8, g1n_77, g1r_78_2, g1n_79, g1r_80_7, g1r_80_8, g1n_81, g1r_82_2, g1n_83, g1r_84_7, g1r_84_8, g1n_85, g1r_86_2, g1n_87, g1r_88_7, g1r_88_8, g1n_89, g1r_90_2, g1n_91, g1r_92_7, g1r_92_8, g1n_93, g1r_94_2, g1n_95, g1r_96_7, g1r_96_8, g1n_97, g1r_98_2, g1n_99, g1r_100_7, g1r_100_8, g1n_101, g1r_102_2, g1n_103, g1r_104_7, g1r_104_8, g1n_105, g1r_106_2, g1n_107, g1r_108_7, g1r_108_8, g1n_109, g1r_110_2, g1n_111, g1r_112_7, g1r_112_8, g1n_113, g1r_114_2, g1n_115, g1r_116_7, g1r_116_8, g1n_117, g1r_118_2, g1n_119, g1r_120_0, g1r_120_1, g1r_120_2, g1r_121_7, g1r_121_8, g1n_122, g1r_123_2, g1n_124, g1n_125, g1n_126, g1r_127_0, g1r_127_1, g1r_127_2, g1r_127_3, g1r_128_7, g1r_128_8, g1n_129, g1r_130_2, g1n_131, g1n_132, g1n_133, g1n_134, g1r_135_7, g1n_136, g1n_150]
    rw [m.2.2.2.2.2.1]
  · unfold fX12_seed
    simp only [g2r_0_1, g2r_0_2, g2r_0_3, g2r_0_4, g2r_0_5, g2r_0_8, g2r_0_15, g2r_0_17, g2r_0_25, g2r_0_26, g2r_0_27, g2r_0_28, g2n_1, g2n_2, g2n_3, g2n_4, g2n_5, g2n_6, g2n_7, g2n_8, g2n_9, g2n_10, g2n_11, g2n_12]
    rfl
  · have hw : (sA (putF σ2 y 0 0) (y + 1) 16 c).2.1 (y + 1) = va_up (σ2.2.1 (y + 1)) 16 c := sA_w rfl
    have e16 : ∀ k, k ≠ 16 → va_up (σ2.2.1 (y + 1)) 16 c k = σ2.2.1 (y + 1) k := fun k hk => va_up_ne _ _ hk
    have em : ∀ k, mindK k = false → va_up (σ2.2.1 (y + 1)) 16 c k = σ2.2.1 (y + 1) k := by
      intro k hk
      refine e16 k (fun q => ?_)
      rw [q] at hk
      exact absurd hk (by decide)
    have a5 : (sA (putF σ2 y 0 0) (y + 1) 16 c).2.1 (y + 5) = σ2.2.1 (y + 5) := sA_o (by omega)
    refine h.act (EE.r.pf rfl) ?_ ?_ ?_ ?_ ?_ ?_ ?_ ?_
    · intro k hk
      show (putF σ2 y 0 0).1 y k = _
      rw [pf0n (by omega)]
    · intro j hj
      exact sA_o (by omega)
    · rw [hw]
      exact em
    · rw [hw]
      exact MInv_c h.wi.m e16
    · rw [hw]
      obtain ⟨m0, m1, m2, m3, m4, m5, m6, m7⟩ := m
      unfold MindR cN
      rw [pf0, pf0n (by decide), pf0n (by decide), pf0n (by decide), pf0n (by decide), pf0n (by decide), pf0n (by decide), e16 7 (by decide), e16 9 (by decide), e16 0 (by decide), e16 11 (by decide), e16 12 (by decide), e16 13 (by decide), e16 1 (by decide), va_up_self]
      refine ⟨m0, m1, m2, m3, ?_, rfl, m6, ?_⟩
      · intro i
        rw [e16 (39 + 3 * i) (by omega)]
        exact m4 i
      · intro i hi
        rw [e16 (38 + 3 * i) (by omega)]
        exact m7 i hi
    · rw [hw, pf_o (by omega)]
      exact log_c h.log (fun k hk => e16 k (by omega))
    · rw [hw, a5]
      show PastR _ z _ _ ((putF σ2 y 0 0).1 y 7).toInt.toNat
      rw [pf0n (by decide)]
      exact past_w em ((EE.r (P := rmF) (Q := rmA)).pf (z := z) (o := 20) (k := 5) rfl |>.past (fun o a b k => by simp [rmF, a, b]) (fun o a b => by simp [rmA, a, b]) h.2.1)
    · show 0 ≤ ((putF σ2 y 0 0).1 y 7).toInt ∧ ((putF σ2 y 0 0).1 y 7).toInt ≤ 12
      rw [pf0n (by decide)]
      exact h.2.2.1
theorem gd_count {N z y : Nat} (hN : 20000 < N) : Gd_count N (G1 z) (G2 y) z y (z + 150) (Sim z y) := by
  intro σ1 σ2 h c
  obtain ⟨t0, _⟩ := h.tale
  obtain ⟨q5, q0, q2, q3, q1, q4, q8, q10, q14⟩ := t0
  obtain ⟨m0, m1, m2, m3, m4, m5, m6, m7⟩ := h.mind
  have mm := h.mind
  have wi := h.wi
  obtain ⟨l0, _⟩ := h.log
  have la := h.law.1
  have hp := h.2.1
  have hs := h.2.2.1
  suffices hh : ∃ v, fX11_count N (G1 z) z c σ1 = some v ∧ fX12_count N (G2 y) y c σ2 = some (v, putF σ2 y 0 0) by
    obtain ⟨v, h1, h2⟩ := hh
    exact ⟨v, _, h1, h2, h.keep EE.r E2.t0⟩
  unfold fX11_count fX12_count
  simp only [g1r_0_0, g1r_0_1, g1r_0_2, g1r_0_3, g1r_0_4, g1r_0_5, g1r_0_6, g1r_0_7, g1r_0_8, g1r_1_5, g1n_2, g1r_3_0, g1r_3_1, g1r_3_2, g1r_4_9, g1r_4_10, g1r_4_11, g1r_4_12, g1r_4_13, g1r_4_14, g1r_4_15, g1r_4_16, g1r_4_17, g1n_5, g1n_6, g1n_7, g1n_8, g1n_9, g1n_10, g1n_11, g1n_12, g1n_13, g1r_14_2, g1r_14_3, g1r_14_4, g1r_14_5, g1r_14_6, g1n_15, g1n_16, g1n_17, g1n_18, g1n_19, g1r_20_7, g1r_20_8, g1n_21, g1r_22_2, g1n_23, g1r_24_0, g1r_24_1, g1r_24_2, g1r_25_9, g1r_25_10, g1r_25_11, g1r_25_12, g1r_25_13, g1r_25_14, g1r_25_15, g1r_25_16, g1r_25_17, g1n_26, g1n_27, g1n_28, g1n_29, g1n_30, g1n_31, g1n_32, g1n_33, g1n_34, g1r_35_2, g1r_35_3, g1r_35_4, g1r_35_5, g1r_35_6, g1n_36, g1n_37, g1n_38, g1n_39, g1n_40, g1r_41_7, g1r_41_8, g1n_42, g1r_43_2, g1n_44, g1r_45_0, g1r_45_1, g1r_45_2, g1r_46_9, g1r_46_10, g1r_46_11, g1r_46_12, g1r_46_13, g1r_46_14, g1r_46_15, g1r_46_16, g1r_46_17, g1n_47, g1n_48, g1n_49, g1n_50, g1n_51, g1n_52, g1n_53, g1n_54, g1n_55, g1r_56_2, g1r_56_3, g1r_56_4, g1r_56_5, g1r_56_6, g1n_57, g1n_58, g1n_59, g1n_60, g1n_61, g1r_62_7, g1r_62_8, g1n_63, g1r_64_2, g1n_65, g1r_66_2, g1n_67, g1r_68_7, g1r_68_8, g1n_69, g1r_70_2, g1n_71, g1r_72_7, g1r_72_8, g1n_73, g1r_74_2, g1n_75, g1r_76_7, g1r_76_8, g1n_77, g1r_78_2, g1n_79, g1r_80_7, g1r_80_8, g1n_81, g1r_82_2, g1n_83, g1r_84_7, g1r_84_8, g1n_85, g1r_86_2, g1n_87, g1r_88_7, g1r_88_8, g1n_89, g1r_90_2, g1n_91, g1r_92_7, g1r_92_8, g1n_93, g1r_94_2, g1n_95, g1r_96_7, g1r_96_8, g1n_97, g1r_98_2, g1n_99, g1r_100_7, g1r_100_8, g1n_101, g1r_102_2, g1n_103, g1r_104_7, g1r_104_8, g1n_105, g1r_106_2, g1n_107, g1r_108_7, g1r_108_8, g1n_109, g1r_110_2, g1n_111, g1r_112_7, g1r_112_8, g1n_113, g1r_114_2, g1n_115, g1r_116_7, g1r_116_8, g1n_117, g1r_118_2, g1n_119, g1r_120_0, g1r_120_1, g1r_120_2, g1r_121_7, g1r_121_8, g1n_122, g1r_123_2, g1n_124, g1n_125, g1n_126, g1r_127_0, g1r_127_1, g1r_127_2, g1r_127_3, g1r_128_7, g1r_128_8, g1n_129, g1r_130_2, g1n_131, g1n_132, g1n_133, g1n_134, g1r_135_7, g1n_136, g1n_150, g2r_0_1, g2r_0_2, g2r_0_3, g2r_0_4, g2r_0_5, g2r_0_8, g2r_0_15, g2r_0_17, g2r_0_25, g2r_0_26, g2r_0_27, g2r_0_28, g2n_1, g2n_2, g2n_3, g2n_4, g2n_5, g2n_6, g2n_7, g2n_8, g2n_9, g2n_10, g2n_11, g2n_12]
  rw [q5, q0, q2, q3, q1, q4, q8, q10, q14, m0, m1, m2, m3, m6, l0, la, hp.2.1, r_nearOnes (σ := putF σ2 y 0 0) hN wi.2.1.1 wi.2.1.2, show (putF σ2 y 0 0).2.1 (y + 1) = σ2.2.1 (y + 1) from rfl, near_eq mm wi.2.1.2, pf0n (by decide), ← nI_cN hs.1, r_names, r_inn]
  by_cases c0 : c = 0
  · subst c0
    exact ⟨_, rfl, rfl⟩
  by_cases c1 : c = 1
  · subst c1
    exact ⟨_, rfl, rfl⟩
  by_cases c2 : c = 2
  · subst c2
    exact ⟨_, rfl, rfl⟩
  by_cases c3 : c = 3
  · subst c3
    exact ⟨_, rfl, rfl⟩
  by_cases c4 : c = 4
  · subst c4
    exact ⟨_, rfl, rfl⟩
  by_cases c5 : c = 5
  · subst c5
    exact ⟨_, rfl, rfl⟩
  by_cases c6 : c = 6
  · subst c6
    refine ⟨_, rfl, ?_⟩
    show (if σ2.2.1 (y + 1) 6 = 1 then _ else _) = _
    by_cases e : σ2.2.1 (y + 1) 6 = 1
    · rw [if_pos e, if_pos e]
      rfl
    · rw [if_neg e, if_neg e]
  by_cases c7 : c = 7
  · subst c7
    exact ⟨_, rfl, rfl⟩
  by_cases c8 : c = 8
  · subst c8
    exact ⟨_, rfl, rfl⟩
  by_cases c9 : c = 9
  · subst c9
    exact ⟨_, rfl, rfl⟩
  by_cases c10 : c = 10
  · subst c10
    exact ⟨_, rfl, rfl⟩
  by_cases c11 : c = 11
  · subst c11
    refine ⟨_, rfl, ?_⟩
    show (if σ2.2.1 (y + 1) 0 = 0 then _ else _) = _
    by_cases e : σ2.2.1 (y + 1) 0 = 0
    · rw [if_pos e, if_pos e]
    · rw [if_neg e, if_neg e]
      rfl
  by_cases c12 : c = 12
  · subst c12
    exact ⟨_, rfl, rfl⟩
  by_cases c13 : c = 13
  · subst c13
    refine ⟨σ2.2.1 (y + 1) 13, ?_, rfl⟩
    show (if σ2.2.1 (y + 1) 13 = 0 then _ else _) = _
    rcases wi.2.2.2.2.2.2.2.2.2.2.2.2.2.1 with e | e
    · rw [if_pos e, e]
    · rw [if_neg (by rw [e]; decide), e]
  by_cases c14 : c = 14
  · subst c14
    exact ⟨_, rfl, rfl⟩
  by_cases c15 : c = 15
  · subst c15
    exact ⟨_, rfl, rfl⟩
  by_cases c16 : c = 16
  · subst c16
    exact ⟨_, rfl, rfl⟩
  by_cases c17 : c = 17
  · subst c17
    exact ⟨_, rfl, rfl⟩
  by_cases c18 : c = 18
  · subst c18
    exact ⟨_, rfl, rfl⟩
  have nn : (if c < 0 then (0 : Int32) else if 14 < c then 0 else 1) = 0 := by
    by_cases h0 : c < 0
    · rw [if_pos h0]
    · by_cases h1 : 14 < c
      · rw [if_neg h0, if_pos h1]
      · exfalso
        obtain ⟨k, hk, rfl⟩ := nI_of2 (M := 14) (n := 14) rfl h0 (by rw [i_lt] at h1; rw [i_le]; omega)
        match k, hk with
        | 0, _ => exact c0 rfl
        | 1, _ => exact c1 rfl
        | 2, _ => exact c2 rfl
        | 3, _ => exact c3 rfl
        | 4, _ => exact c4 rfl
        | 5, _ => exact c5 rfl
        | 6, _ => exact c6 rfl
        | 7, _ => exact c7 rfl
        | 8, _ => exact c8 rfl
        | 9, _ => exact c9 rfl
        | 10, _ => exact c10 rfl
        | 11, _ => exact c11 rfl
        | 12, _ => exact c12 rfl
        | 13, _ => exact c13 rfl
        | 14, _ => exact c14 rfl
  refine ⟨-1, ?_, ?_⟩
  · simp only [c0, c1, c2, c3, c4, c5, c6, c7, c8, c9, c10, c11, c12, c13, c14, c15, c16, c17, c18, if_false]
  · simp only [c6, c7, c8, c9, c10, c11, c12, c13, c14, c15, c16, c17, c18, if_false, b_some, nn, if_true]
