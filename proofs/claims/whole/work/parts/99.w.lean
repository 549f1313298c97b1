/-! the law's texts: what a line's begin and end do -/
/-- what the reading of lines may change, with the class -/
def LG (z : Nat) (τ υ : pS) : Prop := (∀ o k, ¬ (o = 1 ∧ 1 ≤ k) → o ≠ 135 → o ≠ 35 → υ.1 (z + o) k = τ.1 (z + o) k) ∧ ∀ o, ¬ (36 ≤ o ∧ o ≤ 39) → o ≠ 136 → υ.2.1 (z + o) = τ.2.1 (z + o)
theorem LG.r {z : Nat} {τ : pS} : LG z τ τ := ⟨fun _ _ _ _ _ => rfl, fun _ _ _ => rfl⟩
theorem LG.t {z : Nat} {σ τ υ : pS} (h : LG z σ τ) (g : LG z τ υ) : LG z σ υ := ⟨fun o k a b c => (g.1 o k a b c).trans (h.1 o k a b c), fun o a b => (g.2 o a b).trans (h.2 o a b)⟩
theorem LXf.lg {z : Nat} {τ υ : pS} (h : LXf z τ υ) : LG z τ υ := ⟨fun o k a b c => h.1 o k a (by omega) (by omega), fun o a b => h.2 o b (by omega)⟩
/-- the tape stays too -/
def LH (z : Nat) (τ υ : pS) : Prop := (∀ o k, o ≠ 135 → o ≠ 35 → υ.1 (z + o) k = τ.1 (z + o) k) ∧ ∀ o, ¬ (36 ≤ o ∧ o ≤ 39) → o ≠ 136 → υ.2.1 (z + o) = τ.2.1 (z + o)
theorem LH.r {z : Nat} {τ : pS} : LH z τ τ := ⟨fun _ _ _ _ => rfl, fun _ _ _ => rfl⟩
theorem LH.t {z : Nat} {σ τ υ : pS} (h : LH z σ τ) (g : LH z τ υ) : LH z σ υ := ⟨fun o k b c => (g.1 o k b c).trans (h.1 o k b c), fun o a b => (g.2 o a b).trans (h.2 o a b)⟩
theorem LH.lg {z : Nat} {τ υ : pS} (h : LH z τ υ) : LG z τ υ := ⟨fun o k _ b c => h.1 o k b c, h.2⟩
theorem LQ.lh {z : Nat} {τ υ : pS} (h : LQ z τ υ) : LH z τ υ := ⟨fun o k b c => h.1 o k (by omega) (by omega), fun o a b => h.2 o b (by omega)⟩
theorem LH.pf {z k o : Nat} {σ τ : pS} {v : Int32} (h : LH z σ τ) (ho : o = 135 ∨ o = 35) : LH z σ (putF τ (z + o) k v) := ⟨fun o' j a b => by
  rw [pf_o (by omega)]
  exact h.1 o' j a b, h.2⟩
theorem LH.sa {z o : Nat} {σ τ : pS} {i v : Int32} (h : LH z σ τ) (ho : 36 ≤ o ∧ o ≤ 39) : LH z σ (sA τ (z + o) i v) := ⟨h.1, fun j a b => by
  rw [sA_o (by omega)]
  exact h.2 j a b⟩
theorem JT.lh {z y L p : Nat} {B : Nat → Int32} {τ1 τ2 υ : pS} (j : JT z y B L p τ1 τ2) (h : LH z τ1 υ) : JT z y B L p υ τ2 := by
  obtain ⟨b, c, r⟩ := j
  refine ⟨⟨b.1, (h.1 1 0 (by omega) (by omega)).trans b.2.1, fun i hi => ?_⟩, ?_, r⟩
  · rw [h.2 2 (by omega) (by omega)]
    exact b.2.2 i hi
  · unfold CT at c ⊢
    rw [h.1 1 1 (by omega) (by omega), h.1 1 2 (by omega) (by omega), h.1 1 3 (by omega) (by omega), h.1 1 4 (by omega) (by omega)]
    exact c
def FlG (N z k : Nat) (τ : pS) (b : Nat) : Prop := ∃ υ, (∀ M, 400 < M + k → lp (lawB N z) M (nI k, τ) = some (0, υ)) ∧ υ.1 (z + 1) 2 = nI b ∧ LG z τ υ
theorem Fl.g {N z k b : Nat} {τ : pS} (h : Fl N z k τ b) : FlG N z k τ b := by
  obtain ⟨υ, a1, a2, a3⟩ := h
  exact ⟨υ, a1, a2, a3.lg⟩
theorem Rc.flg {N z k k1 b : Nat} {τ τ1 : pS} (h : Rc N z k τ k1 τ1) (x : LG z τ τ1) (g : FlG N z k1 τ1 b) : FlG N z k τ b := by
  obtain ⟨υ, a1, a2, a3⟩ := g
  refine ⟨υ, fun M hM => ?_, a2, x.t a3⟩
  obtain ⟨M1, b1, b2⟩ := h M hM
  rw [b2]
  exact a1 M1 (by omega)
theorem FlG.no {N z k b : Nat} {τ υ : pS} (hk : k < 400) (h1 : τ.1 (z + 1) 1 ≠ 0) (h2 : fX1_takes N (G1 z) (z + 135) (z + 1) (z + 35) τ = some (0, υ)) (hb : υ.1 (z + 1) 2 = nI b) (x : LG z τ υ) : FlG N z k τ b := by
  refine ⟨υ, fun M hM => ?_, hb, x⟩
  obtain ⟨M, rfl⟩ : ∃ M', M = M' + 1 := ⟨M - 1, by omega⟩
  show (if (400 : Int32) ≤ nI k then _ else (if (τ.1 (z + 1) 1) = 0 then _ else ((fX1_takes N (G1 z) (z + 135) (z + 1) (z + 35) τ).bind (fun q2 => if q2.1 = 0 then (some ((0 : Int32), q2.2)) else _)))) = _
  rw [if_neg (show ¬ (400 : Int32) ≤ nI k from lit_lt (m := 400) hk (by decide)), if_neg h1, h2, b_some]
  dsimp only
  rw [if_pos rfl]
/-- what the reading of lines may change, with the reference -/
def FV (y : Nat) (τ υ : pS) : Prop := (∀ k, k ≠ 10 → k ≠ 12 → k ≠ 13 → k ≠ 16 → υ.1 y k = τ.1 y k) ∧ (∀ j, j ≠ 1 → υ.2.1 (y + j) = τ.2.1 (y + j)) ∧ ∀ k, k < 1233 → υ.2.1 (y + 1) k = τ.2.1 (y + 1) k
theorem FV.r {y : Nat} {τ : pS} : FV y τ τ := ⟨fun _ _ _ _ _ => rfl, fun _ _ => rfl, fun _ _ => rfl⟩
theorem FV.t {y : Nat} {σ τ υ : pS} (h : FV y σ τ) (g : FV y τ υ) : FV y σ υ := ⟨fun k a b c d => (g.1 k a b c d).trans (h.1 k a b c d), fun j a => (g.2.1 j a).trans (h.2.1 j a), fun k a => (g.2.2 k a).trans (h.2.2 k a)⟩
theorem FZ.fv {y : Nat} {τ υ : pS} (h : FZ y τ υ) : FV y τ υ := ⟨h.1, h.2.1, fun k hk => h.2.2 k (by omega)⟩
theorem FV.sa {y c : Nat} {σ : pS} {v : Int32} (hc : 1233 ≤ c ∧ c < 2000) : FV y σ (sA σ (y + 1) (nI c) v) := ⟨fun _ _ _ _ _ => rfl, fun j hj => sA_o (by omega), fun k hk => by rw [sA_w (n := c) (nI_clamp (by omega)), va_up_ne _ _ (by omega)]⟩
theorem JT.sa {z y L p : Nat} {B : Nat → Int32} {τ1 τ2 : pS} {i v : Int32} (j : JT z y B L p τ1 τ2) : JT z y B L p τ1 (sA τ2 (y + 1) i v) := ⟨j.1, j.2.1, j.2.2.1, by
  rw [sA_o (by omega)]
  exact j.2.2.2⟩
theorem RE.sa {y c : Nat} {σ : pS} {v : Int32} {R : List (Int32 × Int32)} (h : RE y σ R) (hc : c < 1281) : RE y (sA σ (y + 1) (nI c) v) R := ⟨h.1, fun i hi => by
  rw [sA_w (n := c) (nI_clamp (by omega)), va_up_ne _ _ (by omega), va_up_ne _ _ (by omega)]
  exact h.2 i hi⟩
/-- a line that is read -/
def LRow (K A En w : Nat → Int32) (E : List Int32) (R : List (Int32 × Int32)) (i : Nat) : Prop := (w (1233 + 4 * i) = 0 ∨ w (1233 + 4 * i) = 1 ∨ w (1233 + 4 * i) = 2) ∧ (0 ≤ (w (1234 + 4 * i)).toInt ∧ (w (1234 + 4 * i)).toInt ≤ 20) ∧ K i = (if w (1233 + 4 * i) = 2 then 1 else 0) ∧ A i = (if w (1233 + 4 * i) = 1 then 0 - w (1234 + 4 * i) else w (1234 + 4 * i)) ∧ ∃ E0 C E1 R0 Rn R1, E = E0 ++ C ++ E1 ∧ R = R0 ++ Rn ++ R1 ∧ cB En i = E0.length ∧ En i = nI (E0.length + C.length) ∧ w (1235 + 4 * i) = nI R0.length ∧ w (1236 + 4 * i) = nI (R0.length + Rn.length) ∧ ((C = [] ∧ Rn = []) ∨ ∃ m, Cd Rn C m)
theorem LRow.k {K A En w K' A' En' w' : Nat → Int32} {E X : List Int32} {R Y : List (Int32 × Int32)} {i : Nat} (h : LRow K A En w E R i) (k : K' i = K i) (a : A' i = A i) (n : ∀ j, j ≤ i → En' j = En j) (e : ∀ c, 1233 + 4 * i ≤ c → c ≤ 1236 + 4 * i → w' c = w c) : LRow K' A' En' w' (E ++ X) (R ++ Y) i := by
  obtain ⟨h1, h2, h3, h4, E0, C, E1, R0, Rn, R1, rfl, rfl, h5, h6, h7, h8, h9⟩ := h
  have eb : cB En' i = cB En i := by
    cases i with
    | zero => rfl
    | succ i =>
      show (En' i).toInt.toNat = (En i).toInt.toNat
      rw [n i (by omega)]
  unfold LRow
  rw [k, a, n i (Nat.le_refl _), e _ (by omega) (by omega), e (1234 + 4 * i) (by omega) (by omega), e (1235 + 4 * i) (by omega) (by omega), e (1236 + 4 * i) (by omega) (by omega), eb]
  exact ⟨h1, h2, h3, h4, E0, C, E1 ++ X, R0, Rn, R1 ++ Y, by simp only [List.append_assoc], by simp only [List.append_assoc], h5, h6, h7, h8, h9⟩
def LI (z y n : Nat) (τ1 τ2 : pS) (E : List Int32) (R : List (Int32 × Int32)) : Prop := τ1.1 (z + 35) 0 = nI n ∧ CL z τ1 0 0 [] E ∧ RE y τ2 R ∧ cB (τ1.2.1 (z + 38)) n = E.length ∧ ∀ i, i < n → LRow (τ1.2.1 (z + 36)) (τ1.2.1 (z + 37)) (τ1.2.1 (z + 38)) (τ2.2.1 (y + 1)) E R i
theorem c_rel0 {N z d : Nat} {τ : pS} {s v : Int32} {E : List Int32} (c : CL z τ s d [] E) (hv : v ≠ -1) : fX1_release N (G1 z) (z + 135) (z + 35) v τ = some τ := by
  unfold fX1_release
  rw [c_top c (by show 0 ≤ 20; omega), b_some, if_neg (fun q => hv q.symm)]
theorem c_line {N z n : Nat} {τ υ2 : pS} {s : Int32} {E : List Int32} (c : CL z υ2 s 0 [] E) (lq : LQ z τ υ2) (h0 : τ.1 (z + 35) 0 = nI n) (hn : n < 12) : ∃ υ, (fX0_addLine N (G1 z) (z + 35) (υ2.1 (z + 135) 1) ((υ2.1 (z + 135) 2) * (υ2.1 (z + 135) 3)) υ2).bind (fun q3 => some ((1 : Int32), putF q3 (z + 135) 0 (0 : Int32))) = some (1, υ) ∧ LH z τ υ ∧ CL z υ 0 0 [] E ∧ υ.1 (z + 35) 0 = nI (n + 1) ∧ υ.2.1 (z + 36) = va_up (τ.2.1 (z + 36)) n (τ.1 (z + 135) 1) ∧ υ.2.1 (z + 37) = va_up (τ.2.1 (z + 37)) n (τ.1 (z + 135) 2 * τ.1 (z + 135) 3) ∧ υ.2.1 (z + 38) = va_up (τ.2.1 (z + 38)) n (nI E.length) := by
  have e0 : υ2.1 (z + 35) 0 = nI n := (lq.1 35 0 (by omega) (by omega)).trans h0
  have e1 : υ2.1 (z + 135) 1 = τ.1 (z + 135) 1 := lq.1 135 1 (by omega) (by omega)
  have e2 : υ2.1 (z + 135) 2 = τ.1 (z + 135) 2 := lq.1 135 2 (by omega) (by omega)
  have e3 : υ2.1 (z + 135) 3 = τ.1 (z + 135) 3 := lq.1 135 3 (by omega) (by omega)
  obtain ⟨c0, c5, c6, cw, c1, cs⟩ := c
  unfold fX0_addLine
  simp only [g1r_0_0, g1r_0_1, g1r_0_2, g1r_0_3, g1r_0_4, g1r_0_5, g1r_0_6, g1r_0_7, g1r_0_8, g1r_1_5, g1n_2, g1r_3_0, g1r_3_1, g1r_3_2, g1r_4_9, g1r_4_10, g1r_4_11, g1r_4_12, g1r_4_13, g1r_4_14, g1r_4_15, g1r_4_16, g1r_4_17, g1n_5, g1n_6, g1n_7, g1n_8, g1n_9, g1n_10, g1n_11, g1n_12, g1n_13, g1r_14_2, g1r_14_3, g1r_14_4, g1r_14_5, g1r_14_6, g1n_15, g1n_16, g1n_17, g1n_18, g1n_19, g1r_20_7, g1r_20_8, g1n_21, g1r_22_2, g1n_23, g1r_24_0, g1r_24_1, g1r_24_2, g1r_25_9, g1r_25_10, g1r_25_11, g1r_25_12, g1r_25_13, g1r_25_14, g1r_25_15, g1r_25_16, g1r_25_17, g1n_26, g1n_27, g1n_28, g1n_29, g1n_30, g1n_31, g1n_32, g1n_33, g1n_34, g1r_35_2, g1r_35_3, g1r_35_4, g1r_35_5, g1r_35_6, g1n_36, g1n_37, g1n_38, g1n_39, g1n_40, g1r_41_7, g1r_41_8, g1n_42, g1r_43_2, g1n_44, g1r_45_0, g1r_45_1, g1r_45_2, g1r_46_9, g1r_46_10, g1r_46_11, g1r_46_12, g1r_46_13, g1r_46_14, g1r_46_15, g1r_46_16, g1r_46_17, g1n_47, g1n_48, g1n_49, g1n_50, g1n_51, g1n_52, g1n_53, g1n_54, g1n_55, g1r_56_2, g1r_56_3, g1r_56_4, g1r_56_5, g1r_56_6, g1n_57, g1n_58, g1n_59, g1n_60, g1n_61, g1r_62_7, g1r_62_8, g1n_63, g1r_64_2, g1n_65, g1r_66_2, g1n_67, g1r_68_7, g1r_68_8, g1n_69, g1r_70_2, g1n_71, g1r_72_7, g1r_72_8, g1n_73, g1r_74_2, g1n_75, g1r_76_7, g1r_76_8, g1n_77, g1r_78_2, g1n_79, g1r_80_7, g1r_80_8, g1n_81, g1r_82_2, g1n_83, g1r_84_7, g1r_84_8, g1n_85, g1r_86_2, g1n_87, g1r_88_7, g1r_88_8, g1n_89, g1r_90_2, g1n_91, g1r_92_7, g1r_92_8, g1n_93, g1r_94_2, g1n_95, g1r_96_7, g1r_96_8, g1n_97, g1r_98_2, g1n_99, g1r_100_7, g1r_100_8, g1n_101, g1r_102_2, g1n_103, g1r_104_7, g1r_104_8, g1n_105, g1r_106_2, g1n_107, g1r_108_7, g1r_108_8, g1n_109, g1r_110_2, g1n_111, g1r_112_7, g1r_112_8, g1n_113, g1r_114_2, g1n_115, g1r_116_7, g1r_116_8, g1n_117, g1r_118_2, g1n_119, g1r_120_0, g1r_120_1, g1r_120_2, g1r_121_7, g1r_121_8, g1n_122, g1r_123_2, g1n_124, g1n_125, g1n_126, g1r_127_0, g1r_127_1, g1r_127_2, g1r_127_3, g1r_128_7, g1r_128_8, g1n_129, g1r_130_2, g1n_131, g1n_132, g1n_133, g1n_134, g1r_135_7, g1n_136, g1n_150]
  simp only [sa1]
  rw [e0, c1, e1, e2, e3, if_neg (nI_pos (by omega)), if_neg (show ¬ (12 : Int32) ≤ nI n from lit_lt (m := 12) hn (by decide)), ck_nI (by omega) (by omega), ck_nI (by omega) (by omega), ck_nI (by omega) (by omega), b_some, nI_1]
  refine ⟨_, rfl, ?_, ⟨pf0, ?_, ?_, fun i hi => absurd hi (Nat.not_lt_zero _), ?_, fun i hi => ?_⟩, ?_, ?_, ?_, ?_⟩
  · exact ((((lq.lh.sa (o := 36) (by omega)).sa (o := 37) (by omega)).sa (o := 38) (by omega)).pf (Or.inr rfl)).pf (Or.inl rfl)
  · rw [pf0n (by decide), pf_o (by omega)]
    exact c5
  · rw [pf0n (by decide), pf_o (by omega)]
    exact c6
  · rw [pf_o (by omega), pf0n (by decide)]
    exact c1
  · rw [pfA, pfA, sA_o (by omega), sA_o (by omega), sA_o (by omega)]
    exact cs i hi
  · rw [pf_o (by omega), pf0]
  · rw [pfA, pfA, sA_o (by omega), sA_o (by omega), sA_w (n := n) (nI_clamp (by omega)), lq.2 36 (by omega) (by omega)]
  · rw [pfA, pfA, sA_o (by omega), sA_w (n := n) (nI_clamp (by omega)), sA_o (by omega), lq.2 37 (by omega) (by omega)]
  · rw [pfA, pfA, sA_w (n := n) (nI_clamp (by omega)), sA_o (by omega), sA_o (by omega), lq.2 38 (by omega) (by omega)]
/-- the line ends -/
theorem c_ends {N z n : Nat} {τ : pS} {s : Int32} {P E : List Int32} (c : CL z τ s 0 P E) (hs : (s = 2 ∧ P = []) ∨ s = 8) (hP : P ∈ ([[], [1012], [1013], [1012, 1013]] : List (List Int32))) (hE : E.length + 1 < 400) (h0 : τ.1 (z + 35) 0 = nI n) (hn : n < 12) : ∃ υ, fX1_endsLine_b14 N (G1 z) (z + 135) (z + 35) τ = some (1, υ) ∧ LH z τ υ ∧ CL z υ 0 0 [] (E ++ P) ∧ υ.1 (z + 35) 0 = nI (n + 1) ∧ υ.2.1 (z + 36) = va_up (τ.2.1 (z + 36)) n (τ.1 (z + 135) 1) ∧ υ.2.1 (z + 37) = va_up (τ.2.1 (z + 37)) n (τ.1 (z + 135) 2 * τ.1 (z + 135) 3) ∧ υ.2.1 (z + 38) = va_up (τ.2.1 (z + 38)) n (nI (E ++ P).length) := by
  have n1 : ¬ (1 : Int32) = 0 := by decide
  have g : ∃ υ1 υ2, fX1_release N (G1 z) (z + 135) (z + 35) 1012 τ = some υ1 ∧ fX1_release N (G1 z) (z + 135) (z + 35) 1013 υ1 = some υ2 ∧ LQ z τ υ2 ∧ CL z υ2 s 0 [] (E ++ P) := by
    rcases hs with ⟨rfl, rfl⟩ | rfl
    · exact ⟨τ, τ, c_rel0 c (by decide), c_rel0 c (by decide), LQ.r, by rw [List.append_nil]; exact c⟩
    · exact c_rel2 (W := []) (by rw [List.append_nil]; exact c) hP (by decide) (by decide) (by show 2 ≤ 20; omega) hE
  obtain ⟨υ1, υ2, g1, g2, lq, cc⟩ := g
  have e : fX1_endsLine_b14 N (G1 z) (z + 135) (z + 35) τ = fX1_endsLine_b31 N (G1 z) (z + 135) (z + 35) τ := by
    unfold fX1_endsLine_b14
    rw [c.1]
    rcases hs with ⟨rfl, _⟩ | rfl
    · rw [if_pos rfl]
    · rw [if_neg (show ¬ (8 : Int32) = 2 by decide), if_pos rfl]
  rw [e]
  unfold fX1_endsLine_b31
  rw [c.2.1, if_pos (show nI 0 ≤ 0 from Int32.le_refl _), g1, b_some, g2, b_some]
  exact c_line cc lq h0 hn
