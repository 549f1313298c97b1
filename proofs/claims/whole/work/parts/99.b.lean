/-! the story's lines: frames; duty -/
/-- with the class only the thing that is read and the draft change -/
def FC (z : Nat) (τ υ : pS) : Prop := (∀ o k, (o < 25 ∨ 45 ≤ o) → ¬ (o = 1 ∧ 1 ≤ k) → υ.1 (z + o) k = τ.1 (z + o) k) ∧ ∀ o, (o < 25 ∨ 45 ≤ o) → υ.2.1 (z + o) = τ.2.1 (z + o)
/-- only the draft changes -/
def DU (z : Nat) (τ υ : pS) : Prop := (∀ o k, (o < 25 ∨ 45 ≤ o) → υ.1 (z + o) k = τ.1 (z + o) k) ∧ ∀ o, (o < 25 ∨ 45 ≤ o) → υ.2.1 (z + o) = τ.2.1 (z + o)
theorem FC.r {z : Nat} {τ : pS} : FC z τ τ := ⟨fun _ _ _ _ => rfl, fun _ _ => rfl⟩
theorem FC.t {z : Nat} {σ τ υ : pS} (h : FC z σ τ) (g : FC z τ υ) : FC z σ υ := ⟨fun o k a b => (g.1 o k a b).trans (h.1 o k a b), fun o a => (g.2 o a).trans (h.2 o a)⟩
theorem TF.fc {z : Nat} {τ υ : pS} (h : TF z τ υ) : FC z τ υ := ⟨fun o k a b => h.1 _ _ (by omega), fun o a => by rw [h.2]⟩
theorem DU.fc {z : Nat} {τ υ : pS} (h : DU z τ υ) : FC z τ υ := ⟨fun o k a _ => h.1 o k a, h.2⟩
theorem DU.r {z : Nat} {τ : pS} : DU z τ τ := ⟨fun _ _ _ => rfl, fun _ _ => rfl⟩
theorem DU.pf {z o k : Nat} {σ τ : pS} {v : Int32} (h : DU z σ τ) (ho : 25 ≤ o ∧ o < 45) : DU z σ (putF τ (z + o) k v) := ⟨fun a j e => by
  rw [pf_o (by omega)]
  exact h.1 a j e, h.2⟩
theorem DU.sa {z o : Nat} {σ τ : pS} {i v : Int32} (h : DU z σ τ) (ho : 25 ≤ o ∧ o < 45) : DU z σ (sA τ (z + o) i v) := ⟨h.1, fun a e => by
  rw [sA_o (by omega)]
  exact h.2 a e⟩
theorem DU.row {z o : Nat} {σ τ : pS} {f : Nat → Int32} (h : DU z σ τ) (ho : 25 ≤ o ∧ o < 45) : DU z σ (rowA τ (z + o) f) := ⟨h.1, fun a e => by
  rw [row_o (by omega)]
  exact h.2 a e⟩
/-- with the reference only the point and the world change -/
def FY (y : Nat) (τ υ : pS) : Prop := (∀ k, k ≠ 10 → k ≠ 12 → υ.1 y k = τ.1 y k) ∧ ∀ j, j ≠ 1 → υ.2.1 (y + j) = τ.2.1 (y + j)
theorem FY.r {y : Nat} {τ : pS} : FY y τ τ := ⟨fun _ _ _ => rfl, fun _ _ => rfl⟩
theorem FY.t {y : Nat} {σ τ υ : pS} (h : FY y σ τ) (g : FY y τ υ) : FY y σ υ := ⟨fun k a b => (g.1 k a b).trans (h.1 k a b), fun o a => (g.2 o a).trans (h.2 o a)⟩
theorem FY.pt {y p b : Nat} {τ : pS} : FY y τ (PT y τ p b) := ⟨fun k a b => PT_fo a b, fun _ _ => rfl⟩
theorem FY.sa {y : Nat} {σ τ : pS} {i v : Int32} (h : FY y σ τ) : FY y σ (sA τ (y + 1) i v) := ⟨h.1, fun j e => by
  rw [sA_o (by omega)]
  exact h.2 j e⟩
theorem FY.row {y : Nat} {σ τ : pS} {f : Nat → Int32} (h : FY y σ τ) : FY y σ (rowA τ (y + 1) f) := ⟨h.1, fun j e => by
  rw [row_o (by omega)]
  exact h.2 j e⟩
theorem JT.mv {z y L p : Nat} {B : Nat → Int32} {τ1 τ2 υ1 υ2 : pS} (j : JT z y B L p τ1 τ2) (h1 : DU z τ1 υ1) (h2 : ∀ k, υ2.1 y k = τ2.1 y k) (h3 : υ2.2.1 (y + 6) = τ2.2.1 (y + 6)) : JT z y B L p υ1 υ2 := by
  obtain ⟨b, c, r, e⟩ := j
  refine ⟨⟨b.1, (h1.1 1 0 (by omega)).trans b.2.1, fun i hi => ?_⟩, ?_, ⟨r.1, r.2.1, (h2 _).trans r.2.2.1, (h2 _).trans r.2.2.2⟩, h3.trans e⟩
  · rw [h1.2 2 (by omega)]
    exact b.2.2 i hi
  · unfold CT at c ⊢
    rw [h1.1 1 1 (by omega), h1.1 1 2 (by omega), h1.1 1 3 (by omega), h1.1 1 4 (by omega)]
    exact c
theorem wor_TF {z : Nat} {τ υ : pS} {w : Nat → Int32} (h : TF z τ υ) (g : WorldR τ (z + 25) w) : WorldR υ (z + 25) w := by
  have e : EE (fun o _ => decide (2 ≤ o)) (fun _ => true) z τ υ := ⟨fun o k e => by
    simp at e
    exact h.1 _ _ (by omega), fun o _ => by rw [h.2]⟩
  exact e.wor (fun k => ⟨rfl, rfl, rfl⟩) rfl (by decide) g
/-- what a line's reader owes -/
def LPost (z y : Nat) (B : Nat → Int32) (L : Nat) (τ1 τ2 : pS) (R1 R2 : Option (Int32 × pS)) : Prop := ∃ v υ1 υ2, R1 = some (v, υ1) ∧ R2 = some (v, υ2) ∧ FC z τ1 υ1 ∧ FY y τ2 υ2 ∧ ((v = 1 ∧ (∃ p, JT z y B L p υ1 υ2) ∧ WorldR υ1 (z + 25) (υ2.2.1 (y + 1)) ∧ υ2.2.1 (y + 1) 5 = τ2.2.1 (y + 1) 5) ∨ (v = 0 ∧ ∃ b, υ1.1 (z + 1) 2 = nI b ∧ υ2.1 y 12 = nI b))
theorem lp_no {z y L b : Nat} {B : Nat → Int32} {τ1 τ2 υ1 υ2 : pS} {R1 R2 : Option (Int32 × pS)} (h1 : R1 = some (0, υ1)) (h2 : R2 = some (0, υ2)) (f1 : FC z τ1 υ1) (f2 : FY y τ2 υ2) (hb : υ1.1 (z + 1) 2 = nI b) (hb2 : υ2.1 y 12 = nI b) : LPost z y B L τ1 τ2 R1 R2 := ⟨0, υ1, υ2, h1, h2, f1, f2, Or.inr ⟨rfl, b, hb, hb2⟩⟩
/-- the parts of the world, and what is to be shown of the next one -/
theorem wor_mk {σ τ : pS} {z : Nat} {w w' : Nat → Int32} (h : WorldR σ (z + 25) w) (wi : WInv w') (ew : ∀ k, (k = 6 ∨ k = 15 ∨ 83 ≤ k) → w' k = w k) (eL : ∀ k, τ.1 (z + 35) k = σ.1 (z + 35) k) (eG : ∀ k, τ.1 (z + 43) k = σ.1 (z + 43) k) (eA : ∀ o, (36 ≤ o ∧ o < 40 ∨ o = 44) → τ.2.1 (z + o) = σ.2.1 (z + o)) (ta : TaleR (τ.1 (z + 25)) (fun j => τ.2.1 (z + 25 + (1 + j))) w') (mi : MindR (τ.1 (z + 41)) (τ.2.1 (z + 42)) w') : WorldR τ (z + 25) w' := by
  obtain ⟨h1, h2, h3, h4, h5⟩ := h
  refine ⟨wi, ta, ?_, mi, ?_⟩
  · have e1 : τ.1 (z + 25 + 10) = σ.1 (z + 25 + 10) := funext fun k => eL k
    rw [e1, show τ.2.1 (z + 25 + 11) = σ.2.1 (z + 25 + 11) from eA 36 (by omega), show τ.2.1 (z + 25 + 12) = σ.2.1 (z + 25 + 12) from eA 37 (by omega), show τ.2.1 (z + 25 + 13) = σ.2.1 (z + 25 + 13) from eA 38 (by omega), show τ.2.1 (z + 25 + 14) = σ.2.1 (z + 25 + 14) from eA 39 (by omega)]
    exact law_w (ew 6 (by omega)) (fun k hk => ew k (by omega)) h3
  · have e1 : τ.1 (z + 25 + 18) = σ.1 (z + 25 + 18) := funext fun k => eG k
    rw [e1, show τ.2.1 (z + 25 + 19) = σ.2.1 (z + 25 + 19) from eA 44 (by omega)]
    exact log_c h5 (fun k hk => ew k (by omega))
theorem j_duty {N z y L f : Nat} {B : Nat → Int32} {τ1 τ2 : pS} (hN : 20000 < N) (j : JW z y B L f τ1 τ2) (hf : f < en ltr B L f) (g : WorldR τ1 (z + 25) (τ2.2.1 (y + 1))) : LPost z y B L τ1 τ2 (fX7_readsDuty N (G1 z) (z + 1) (z + 25) τ1) (fX12_readDuty N (G2 y) y τ2) := by
  have wi := g.1
  have c4 := wi.c4
  have n0 : 0 ≤ (τ2.2.1 (y + 1) 4).toInt := wi.2.2.2.2.1.1
  have e4 : τ2.2.1 (y + 1) 4 = nI (cN (τ2.2.1 (y + 1)) 4) := nI_cN n0
  have t4 : τ1.1 (z + 25) 5 = τ2.2.1 (y + 1) 4 := g.2.1.1.2.2.2.2.2.1
  unfold fX7_readsDuty fX12_readDuty
  rw [r_duties, b_some, t4, e4]
  generalize hn : cN (τ2.2.1 (y + 1)) 4 = n at c4 e4
  by_cases u : n < 8
  · rw [if_pos (show nI n < 8 from nI_lt (b := 8) u (by omega)), if_neg (show ¬ nI n = 8 from fun q => by
      have := (nI_eq (a := n) (b := 8) (by omega) (by omega)).mp q
      omega)]
    obtain ⟨υ, x1, x2, x3⟩ := j.adv hN hf
    obtain ⟨v, ω, p', b', a1, a2, a3, a4⟩ := x3.told hN
    rw [x1, b_some, a1, b_some, a2, b_some]
    dsimp only
    rcases a4 with ⟨v0, v1, jt⟩ | ⟨rfl, hb⟩
    · have w1 : WorldR ω (z + 25) (τ2.2.1 (y + 1)) := wor_TF a3 (wor_TF x2 g)
      have t5 : ω.1 (z + 25) 5 = nI n := (w1.2.1.1.2.2.2.2.2.1).trans e4
      rw [if_neg (fun q => by rw [q] at v0; exact absurd v0 (by decide)), if_pos (by rw [i_le]; exact v0), r_duties, b_some, PT_2, e4]
      unfold fX8_addDuty
      simp only [g1r_0_0, g1r_0_1, g1r_0_2, g1r_0_3, g1r_0_4, g1r_0_5, g1r_0_6, g1r_0_7, g1r_0_8, g1r_1_5, g1n_2, g1r_3_0, g1r_3_1, g1r_3_2, g1r_4_9, g1r_4_10, g1r_4_11, g1r_4_12, g1r_4_13, g1r_4_14, g1r_4_15, g1r_4_16, g1r_4_17, g1n_5, g1n_6, g1n_7, g1n_8, g1n_9, g1n_10, g1n_11, g1n_12, g1n_13, g1r_14_2, g1r_14_3, g1r_14_4, g1r_14_5, g1r_14_6, g1n_15, g1n_16, g1n_17, g1n_18, g1n_19, g1r_20_7, g1r_20_8, g1n_21, g1r_22_2, g1n_23, g1r_24_0, g1r_24_1, g1r_24_2, g1r_25_9, g1r_25_10, g1r_25_11, g1r_25_12, g1r_25_13, g1r_25_14, g1r_25_15, g1r_25_16, g1r_25_17, g1n_26, g1n_27, g1n_28, g1n_29, g1n_30, g1n_31, g1n_32, g1n_33, g1n_34, g1r_35_2, g1r_35_3, g1r_35_4, g1r_35_5, g1r_35_6, g1n_36, g1n_37, g1n_38, g1n_39, g1n_40, g1r_41_7, g1r_41_8, g1n_42, g1r_43_2, g1n_44, g1r_45_0, g1r_45_1, g1r_45_2, g1r_46_9, g1r_46_10, g1r_46_11, g1r_46_12, g1r_46_13, g1r_46_14, g1r_46_15, g1r_46_16, g1r_46_17, g1n_47, g1n_48, g1n_49, g1n_50, g1n_51, g1n_52, g1n_53, g1n_54, g1n_55, g1r_56_2, g1r_56_3, g1r_56_4, g1r_56_5, g1r_56_6, g1n_57, g1n_58, g1n_59, g1n_60, g1n_61, g1r_62_7, g1r_62_8, g1n_63, g1r_64_2, g1n_65, g1r_66_2, g1n_67, g1r_68_7, g1r_68_8, g1n_69, g1r_70_2, g1n_71, g1r_72_7, g1r_72_8, g1n_73, g1r_74_2, g1n_75, g1r_76_7, g1r_76_8, g1n_77, g1r_78_2, g1n_79, g1r_80_7, g1r_80_8, g1n_81, g1r_82_2, g1n_83, g1r_84_7, g1r_84_8, g1n_85, g1r_86_2, g1n_87, g1r_88_7, g1r_88_8, g1n_89, g1r_90_2, g1n_91, g1r_92_7, g1r_92_8, g1n_93, g1r_94_2, g1n_95, g1r_96_7, g1r_96_8, g1n_97, g1r_98_2, g1n_99, g1r_100_7, g1r_100_8, g1n_101, g1r_102_2, g1n_103, g1r_104_7, g1r_104_8, g1n_105, g1r_106_2, g1n_107, g1r_108_7, g1r_108_8, g1n_109, g1r_110_2, g1n_111, g1r_112_7, g1r_112_8, g1n_113, g1r_114_2, g1n_115, g1r_116_7, g1r_116_8, g1n_117, g1r_118_2, g1n_119, g1r_120_0, g1r_120_1, g1r_120_2, g1r_121_7, g1r_121_8, g1n_122, g1r_123_2, g1n_124, g1n_125, g1n_126, g1r_127_0, g1r_127_1, g1r_127_2, g1r_127_3, g1r_128_7, g1r_128_8, g1n_129, g1r_130_2, g1n_131, g1n_132, g1n_133, g1n_134, g1r_135_7, g1n_136, g1n_150, g2r_0_1, g2r_0_2, g2r_0_3, g2r_0_4, g2r_0_5, g2r_0_8, g2r_0_15, g2r_0_17, g2r_0_25, g2r_0_26, g2r_0_27, g2r_0_28, g2n_1, g2n_2, g2n_3, g2n_4, g2n_5, g2n_6, g2n_7, g2n_8, g2n_9, g2n_10, g2n_11, g2n_12]
      rw [t5, if_neg (nI_pos (by omega)), if_neg (show ¬ (8 : Int32) ≤ nI n from lit_lt (m := 8) u (by decide)), ck_nI (by omega) (by omega), b_some, sa1, t5, nI_1, show (75 : Int32) + nI n = nI (75 + n) from by rw [show (75 : Int32) = nI 75 from rfl, nI_add], ck_nI (by omega) (by omega)]
      have hw : (sA (sA (PT y τ2 p' b') (y + 1) (nI (75 + n)) v) (y + 1) 4 (gA (sA (PT y τ2 p' b') (y + 1) (nI (75 + n)) v) (y + 1) 4 + 1)).2.1 (y + 1) = va_up (va_up (τ2.2.1 (y + 1)) (75 + n) v) 4 (nI (n + 1)) := by
        rw [sA_w (n := 4) rfl, sA_w (n := 75 + n) (nI_clamp (by omega))]
        congr 1
        show (sA (PT y τ2 p' b') (y + 1) (nI (75 + n)) v).2.1 (y + 1) 4 + 1 = _
        rw [sA_w (n := 75 + n) (nI_clamp (by omega)), va_up_ne _ _ (by omega), PT_2, e4, nI_1]
      have ew : ∀ k, k ≠ 4 → k ≠ 75 + n → va_up (va_up (τ2.2.1 (y + 1)) (75 + n) v) 4 (nI (n + 1)) k = τ2.2.1 (y + 1) k := fun k a b => by rw [va_up_ne _ _ a, va_up_ne _ _ b]
      have w4 : va_up (va_up (τ2.2.1 (y + 1)) (75 + n) v) 4 (nI (n + 1)) 4 = nI (n + 1) := va_up_self _ _ _
      have wv : va_up (va_up (τ2.2.1 (y + 1)) (75 + n) v) 4 (nI (n + 1)) (75 + n) = v := by rw [va_up_ne _ _ (by omega), va_up_self]
      have c4' : cN (va_up (va_up (τ2.2.1 (y + 1)) (75 + n) v) 4 (nI (n + 1))) 4 = n + 1 := by
        unfold cN
        rw [w4, nI_toInt (by omega)]
        omega
      have du : DU z ω (putF (sA ω (z + 34) (nI n) v) (z + 25) 5 (nI (n + 1))) := (DU.r.sa (by omega)).pf (by omega)
      refine ⟨1, _, _, rfl, rfl, x2.fc.t (a3.fc.t du.fc), FY.pt.sa.sa, Or.inl ⟨rfl, ⟨p', jt.mv du (fun _ => rfl) (by rw [sA_o (by omega), sA_o (by omega)])⟩, ?_, ?_⟩⟩
      · rw [hw]
        refine wor_mk w1 ?_ (fun k hk => ew k (by omega) (by omega)) (fun k => by rw [pf_o (by omega), sa1]) (fun k => by rw [pf_o (by omega), sa1]) (fun o ho => by rw [pfA, sA_o (by omega)]) ?_ ?_
        · refine wi.st (fun k hk => ew k (by omega) (by omega)) ?_ ?_ ?_ ?_ ?_ ?_ ?_ ?_ ?_ ?_ ?_ ?_ ?_ ?_ ?_ ?_
          · rw [ew 0 (by omega) (by omega)]
            exact wi.1
          · rw [ew 1 (by omega) (by omega)]
            exact ⟨Int.le_refl _, wi.2.1.2⟩
          · rw [ew 2 (by omega) (by omega)]
            exact wi.2.2.1
          · rw [ew 3 (by omega) (by omega)]
            exact wi.2.2.2.1
          · rw [w4, nI_toInt (by omega)]
            omega
          · rw [ew 7 (by omega) (by omega)]
            exact wi.2.2.2.2.2.2.2.1
          · rw [ew 8 (by omega) (by omega)]
            exact wi.2.2.2.2.2.2.2.2.1
          · rw [ew 10 (by omega) (by omega)]
            exact wi.yr
          · rw [ew 11 (by omega) (by omega), ew 0 (by omega) (by omega)]
            exact wi.hB
          · unfold cN
            rw [ew 12 (by omega) (by omega), ew 0 (by omega) (by omega)]
            exact wi.pos
          · rw [ew 14 (by omega) (by omega)]
            exact wi.2.2.2.2.2.2.2.2.2.2.2.2.2.2.1
          · exact wi.s17 (ew 0 (by omega) (by omega)) (fun k a b => ew k (by omega) (by omega))
          · exact wi.s37 (ew 1 (by omega) (by omega)) (by rw [ew 2 (by omega) (by omega)]; exact Int.le_refl _) (fun k a b => ew k (by omega) (by omega))
          · exact wi.s55 (ew 2 (by omega) (by omega)) (fun k a b => ew k (by omega) (by omega))
          · exact wi.s67 (ew 3 (by omega) (by omega)) (fun k a b => ew k (by omega) (by omega))
          · intro i hi
            rw [c4'] at hi
            by_cases q : i = n
            · rw [q, wv]
              exact ⟨v0, v1⟩
            · rw [ew _ (by omega) (by omega)]
              exact wi.du i (by omega)
        · have ta := w1.2.1
          refine tale_of ?_ (fun k hk => ?_)
          · have t0 := ta.1
            rw [pf0n (by decide), pf0n (by decide), pf0n (by decide), pf0n (by decide), pf0n (by decide), pf0, pf0n (by decide), pf0n (by decide), pf0n (by decide), ew 5 (by omega) (by omega), ew 0 (by omega) (by omega), ew 2 (by omega) (by omega), ew 3 (by omega) (by omega), ew 1 (by omega) (by omega), w4, ew 8 (by omega) (by omega), ew 10 (by omega) (by omega), ew 14 (by omega) (by omega)]
            exact ⟨t0.1, t0.2.1, t0.2.2.1, t0.2.2.2.1, t0.2.2.2.2.1, rfl, t0.2.2.2.2.2.2⟩
          · by_cases q : k = 4
            · subst q
              intro i hi
              rw [c4'] at hi
              show (sA ω (z + 34) (nI n) v).2.1 (z + 34) i = _
              rw [sA_w (n := n) (nI_clamp (by omega))]
              by_cases q : i = n
              · rw [q, wv, va_up_self]
              · rw [va_up_ne _ _ q, ew _ (by omega) (by omega)]
                exact ta.2.2.2.2.2.2 i (by omega)
            · exact trow_e wi hk (tale_to ta k hk) (fun j hj => by
                show (sA ω (z + 34) (nI n) v).2.1 (z + 25 + (1 + j)) = _
                rw [sA_o (by omega)]) (fun j hj => ew j (by omega) (by omega))
        · exact mind_e (fun k => by rw [pf_o (by omega), sa1]) (fun k => by rw [pfA, sA_o (by omega)]) (fun k hk => ew k (by omega) (by omega)) wi.c1 w1.2.2.2.1
      · rw [hw, ew 5 (by omega) (by omega)]
    · rw [if_pos rfl, if_neg (show ¬ (0 : Int32) ≤ -1 by decide)]
      exact lp_no rfl rfl (x2.fc.t a3.fc) FY.pt hb PT_f12
  · have hn8 : n = 8 := by omega
    rw [hn8, if_neg (show ¬ nI 8 < 8 by decide), if_pos (show nI 8 = 8 from rfl)]
    exact lp_no rfl rfl FC.r FY.r j.2.1.2.1 j.2.2.2.2.2.1
