/-! cheapest -/
def dbV (w : Nat → Int32) (s : Int32) : Nat → Int32 := itN (fun d v => if bit s d = true then bdV w v (w 9) (bc (w 12)) d else v) (w 7)
theorem dbV_s {w : Nat → Int32} {s : Int32} {n : Nat} : dbV w s (n + 1) = if bit s n = true then bdV w (dbV w s n) (w 9) (bc (w 12)) n else dbV w s n := rfl
def coV (w : Nat → Int32) (s : Int32) : Nat → Int32 := itN (fun d x => x + (if bit s d = true then w (68 + 2 * d) else 0)) 0
theorem coV_s {w : Nat → Int32} {s : Int32} {n : Nat} : coV w s (n + 1) = coV w s n + (if bit s n = true then w (68 + 2 * n) else 0) := rfl
def dbE (w : Nat → Int32) (k : Nat) : Int32 := dbV w (nI k) (cN w 3)
def cst (w : Nat → Int32) (k : Nat) : Int32 := coV w (nI k) (cN w 3)
theorem coV_bd {w : Nat → Int32} {s : Int32} (hw : WInv w) : ∀ n, n ≤ cN w 3 → 0 ≤ (coV w s n).toInt ∧ (coV w s n).toInt ≤ 9 * n := by
  have c3 := hw.c3
  intro n
  induction n with
  | zero =>
    intro _
    show 0 ≤ (0 : Int32).toInt ∧ (0 : Int32).toInt ≤ 9 * ((0 : Nat) : Int)
    decide
  | succ n ih =>
    intro hn
    obtain ⟨a, b⟩ := ih (by omega)
    have d := (hw.de n (by omega)).2
    rw [coV_s]
    split
    · rw [i_add (by omega) (by omega)]
      omega
    · rw [i_add (by rw [show (0 : Int32).toInt = 0 from rfl]; omega) (by rw [show (0 : Int32).toInt = 0 from rfl]; omega), show (0 : Int32).toInt = 0 from rfl]
      omega
theorem cst_bd {w : Nat → Int32} (hw : WInv w) (k : Nat) : 0 ≤ (cst w k).toInt ∧ (cst w k).toInt ≤ 36 := by
  have a := coV_bd (s := nI k) hw (cN w 3) (Nat.le_refl _)
  have c3 := hw.c3
  unfold cst
  omega
theorem sh_pow : ∀ d, d ≤ 4 → (1 : Int32) <<< (nI d &&& 31) = nI (2 ^ d) := by decide
theorem c_costsOf {N z k : Nat} {σ : pS} {w : Nat → Int32} (hN : 20000 < N) (hw : WInv w) (ht : TalC σ z w) : fX8_costsOf N (G1 z) (z + 4) (nI k) σ = some (cst w k) := by
  have c3 := hw.c3
  unfold fX8_costsOf fX8_costsOf_b4
  simp only [g1r_4_15]
  refine lp_for (fun d => (coV w (nI k) d, nI d)) (cN w 3) _ (by omega) ?_ ?_
  · intro d hd q
    dsimp only
    rw [ht.1.2.2.2.1, if_neg (cnt_lt hw.2.2.2.1.1 hd), has_fn (by omega), b_some, ite01, at_fn g1n_11 (by omega) (by omega), b_some, show σ.2.1 (z + 11) d = w (68 + 2 * d) from (ht.2.2.2.2.1 d hd).2, coV_s, nI_1]
    split <;> rfl
  · intro q
    dsimp only
    rw [ht.1.2.2.2.1, if_pos (cnt_eN hw.2.2.2.1.1)]
    rfl
theorem c_doubtB {N z y k : Nat} {σ1 σ2 : pS} (hN : 20000 < N) (h : Sim z y σ1 σ2) : ∃ τ, fX11_doubtBehind N (G1 z) z (nI k) σ1 = some (dbE (σ2.2.1 (y + 1)) k, τ) ∧ E1 z σ1 τ := by
  have wi := h.wi
  have c3 := wi.c3
  unfold fX11_doubtBehind
  simp only [g1r_0_0, g1r_0_1, g1r_0_2, g1r_0_3, g1r_0_4, g1r_0_5, g1r_0_6, g1r_0_7, g1r_0_8, g1r_1_5, g1n_2, g1r_3_0, g1r_3_1, g1r_3_2, g1r_4_9, g1r_4_10, g1r_4_11, g1r_4_12, g1r_4_13, g1r_4_14, g1r_4_15, g1r_4_16, g1r_4_17, g1n_5, g1n_6, g1n_7, g1n_8, g1n_9, g1n_10, g1n_11, g1n_12, g1n_13, g1r_14_2, g1r_14_3, g1r_14_4, g1r_14_5, g1r_14_6, g1n_15, g1n_16, g1n_17, g1n_18, g1n_19, g1r_20_7, g1r_20_8, g1n_21, g1r_22_2, g1n_23, g1r_24_0, g1r_24_1, g1r_24_2, g1r_25_9, g1r_25_10, g1r_25_11, g1r_25_12, g1r_25_13, g1r_25_14, g1r_25_15, g1r_25_16, g1r_25_17, g1n_26, g1n_27, g1n_28, g1n_29, g1n_30, g1n_31, g1n_32, g1n_33, g1n_34, g1r_35_2, g1r_35_3, g1r_35_4, g1r_35_5, g1r_35_6, g1n_36, g1n_37, g1n_38, g1n_39, g1n_40, g1r_41_7, g1r_41_8, g1n_42, g1r_43_2, g1n_44, g1r_45_0, g1r_45_1, g1r_45_2, g1r_46_9, g1r_46_10, g1r_46_11, g1r_46_12, g1r_46_13, g1r_46_14, g1r_46_15, g1r_46_16, g1r_46_17, g1n_47, g1n_48, g1n_49, g1n_50, g1n_51, g1n_52, g1n_53, g1n_54, g1n_55, g1r_56_2, g1r_56_3, g1r_56_4, g1r_56_5, g1r_56_6, g1n_57, g1n_58, g1n_59, g1n_60, g1n_61, g1r_62_7, g1r_62_8, g1n_63, g1r_64_2, g1n_65, g1r_66_2, g1n_67, g1r_68_7, g1r_68_8, g1n_69, g1r_70_2, g1n_71, g1r_72_7, g1r_72_8, g1n_73, g1r_74_2, g1n_75, g1r_76_7, g1r_76_8, g1n_77, g1r_78_2, g1n_79, g1r_80_7, g1r_80_8, g1n_81, g1r_82_2, g1n_83, g1r_84_7, g1r_84_8, g1n_85, g1r_86_2, g1n_87, g1r_88_7, g1r_88_8, g1n_89, g1r_90_2, g1n_91, g1r_92_7, g1r_92_8, g1n_93, g1r_94_2, g1n_95, g1r_96_7, g1r_96_8, g1n_97, g1r_98_2, g1n_99, g1r_100_7, g1r_100_8, g1n_101, g1r_102_2, g1n_103, g1r_104_7, g1r_104_8, g1n_105, g1r_106_2, g1n_107, g1r_108_7, g1r_108_8, g1n_109, g1r_110_2, g1n_111, g1r_112_7, g1r_112_8, g1n_113, g1r_114_2, g1n_115, g1r_116_7, g1r_116_8, g1n_117, g1r_118_2, g1n_119, g1r_120_0, g1r_120_1, g1r_120_2, g1r_121_7, g1r_121_8, g1n_122, g1r_123_2, g1n_124, g1n_125, g1n_126, g1r_127_0, g1r_127_1, g1r_127_2, g1r_127_3, g1r_128_7, g1r_128_8, g1n_129, g1r_130_2, g1n_131, g1n_132, g1n_133, g1n_134, g1r_135_7, g1n_136, g1n_150]
  obtain ⟨τ1, a1, a2, a3⟩ := c_dream (N := N) (o := 116) (by omega) ma_116 h
  rw [a1, b_some]
  suffices hh : ∃ r : Int32 × pS, (r.1 = dbE (σ2.2.1 (y + 1)) k ∧ E1 z σ1 r.2) ∧ fX11_doubtBehind_b16 N (G1 z) z (nI k) (0, τ1) = some r by
    obtain ⟨⟨r1, r⟩, ⟨h1, h2⟩, h3⟩ := hh
    have h1' : r1 = _ := h1
    subst h1'
    exact ⟨r, h3, h2⟩
  unfold fX11_doubtBehind_b16
  simp only [g1r_0_0, g1r_0_1, g1r_0_2, g1r_0_3, g1r_0_4, g1r_0_5, g1r_0_6, g1r_0_7, g1r_0_8, g1r_1_5, g1n_2, g1r_3_0, g1r_3_1, g1r_3_2, g1r_4_9, g1r_4_10, g1r_4_11, g1r_4_12, g1r_4_13, g1r_4_14, g1r_4_15, g1r_4_16, g1r_4_17, g1n_5, g1n_6, g1n_7, g1n_8, g1n_9, g1n_10, g1n_11, g1n_12, g1n_13, g1r_14_2, g1r_14_3, g1r_14_4, g1r_14_5, g1r_14_6, g1n_15, g1n_16, g1n_17, g1n_18, g1n_19, g1r_20_7, g1r_20_8, g1n_21, g1r_22_2, g1n_23, g1r_24_0, g1r_24_1, g1r_24_2, g1r_25_9, g1r_25_10, g1r_25_11, g1r_25_12, g1r_25_13, g1r_25_14, g1r_25_15, g1r_25_16, g1r_25_17, g1n_26, g1n_27, g1n_28, g1n_29, g1n_30, g1n_31, g1n_32, g1n_33, g1n_34, g1r_35_2, g1r_35_3, g1r_35_4, g1r_35_5, g1r_35_6, g1n_36, g1n_37, g1n_38, g1n_39, g1n_40, g1r_41_7, g1r_41_8, g1n_42, g1r_43_2, g1n_44, g1r_45_0, g1r_45_1, g1r_45_2, g1r_46_9, g1r_46_10, g1r_46_11, g1r_46_12, g1r_46_13, g1r_46_14, g1r_46_15, g1r_46_16, g1r_46_17, g1n_47, g1n_48, g1n_49, g1n_50, g1n_51, g1n_52, g1n_53, g1n_54, g1n_55, g1r_56_2, g1r_56_3, g1r_56_4, g1r_56_5, g1r_56_6, g1n_57, g1n_58, g1n_59, g1n_60, g1n_61, g1r_62_7, g1r_62_8, g1n_63, g1r_64_2, g1n_65, g1r_66_2, g1n_67, g1r_68_7, g1r_68_8, g1n_69, g1r_70_2, g1n_71, g1r_72_7, g1r_72_8, g1n_73, g1r_74_2, g1n_75, g1r_76_7, g1r_76_8, g1n_77, g1r_78_2, g1n_79, g1r_80_7, g1r_80_8, g1n_81, g1r_82_2, g1n_83, g1r_84_7, g1r_84_8, g1n_85, g1r_86_2, g1n_87, g1r_88_7, g1r_88_8, g1n_89, g1r_90_2, g1n_91, g1r_92_7, g1r_92_8, g1n_93, g1r_94_2, g1n_95, g1r_96_7, g1r_96_8, g1n_97, g1r_98_2, g1n_99, g1r_100_7, g1r_100_8, g1n_101, g1r_102_2, g1n_103, g1r_104_7, g1r_104_8, g1n_105, g1r_106_2, g1n_107, g1r_108_7, g1r_108_8, g1n_109, g1r_110_2, g1n_111, g1r_112_7, g1r_112_8, g1n_113, g1r_114_2, g1n_115, g1r_116_7, g1r_116_8, g1n_117, g1r_118_2, g1n_119, g1r_120_0, g1r_120_1, g1r_120_2, g1r_121_7, g1r_121_8, g1n_122, g1r_123_2, g1n_124, g1n_125, g1n_126, g1r_127_0, g1r_127_1, g1r_127_2, g1r_127_3, g1r_128_7, g1r_128_8, g1n_129, g1r_130_2, g1n_131, g1n_132, g1n_133, g1n_134, g1r_135_7, g1n_136, g1n_150]
  refine lp_forR (fun d b => ∃ τ, b = (nI d, τ) ∧ (τ.1 (z + 116) 0 = dbV (σ2.2.1 (y + 1)) (nI k) d ∧ τ.1 (z + 116) 1 = σ2.2.1 (y + 1) 9 ∧ τ.1 (z + 116) 3 = σ2.2.1 (y + 1) 12) ∧ E1 z σ1 τ) _ (cN (σ2.2.1 (y + 1)) 3) (by omega) ?_ ?_ ⟨τ1, rfl, ⟨a2.2.2.2.1.1, a2.2.2.2.1.2.1, a2.2.2.2.1.2.2.2.1⟩, a3⟩
  · rintro d hd _ ⟨τ, rfl, ⟨f0, f1, f3⟩, he⟩
    left
    have hs := h.keep he E2.r
    by_cases b : bit (nI k) d = true
    · obtain ⟨υ, t1, e1⟩ := c_easeOf (N := N) (z := z) (m := z + 116) (σ := τ) hN wi hs.tale hs.law hd
      rw [f0, f1, f3] at e1
      refine ⟨(nI (d + 1), putF υ (z + 116) 0 (bdV (σ2.2.1 (y + 1)) (dbV (σ2.2.1 (y + 1)) (nI k) d) (σ2.2.1 (y + 1) 9) (bc (σ2.2.1 (y + 1) 12)) d)), ⟨_, rfl, ⟨?_, ?_, ?_⟩, ?_⟩, fun q => ?_⟩
      · rw [pf0, dbV_s, if_pos b]
      · rw [pf0n (by decide), t1.f (by omega), f1]
      · rw [pf0n (by decide), t1.f (by omega), f3]
      · exact E1.pd (he.t (t1.e rfl rfl)) (by omega)
      · dsimp only
        rw [hs.tale.1.2.2.2.1, if_neg (cnt_lt wi.2.2.2.1.1 hd), has_fn (by omega), b_some, ite01, if_pos b]
        unfold fX10_soothe
        rw [e1, b_some, b_some, f0, nI_1]
        rfl
    · refine ⟨(nI (d + 1), τ), ⟨_, rfl, ⟨?_, f1, f3⟩, he⟩, fun q => ?_⟩
      · rw [dbV_s, if_neg b, f0]
      · dsimp only
        rw [hs.tale.1.2.2.2.1, if_neg (cnt_lt wi.2.2.2.1.1 hd), has_fn (by omega), b_some, ite01, if_neg b, nI_1]
  · rintro _ ⟨τ, rfl, ⟨f0, f1, f3⟩, he⟩
    have hs := h.keep he E2.r
    refine ⟨(dbE (σ2.2.1 (y + 1)) k, τ), ⟨rfl, he⟩, fun q => ?_⟩
    dsimp only
    rw [hs.tale.1.2.2.2.1, if_pos (cnt_eN wi.2.2.2.1.1), f0]
    rfl
/-- look, at what is told -/
def lk3 (y : Nat) (σ : pS) (a b c : Int32) : pS := putF (putF (putF σ y 21 a) y 22 b) y 23 c
theorem r_looks {N y : Nat} {G : pG} {σ : pS} {a b c : Int32} : fX12_looks N G y a b c σ = some (lk3 y σ a b c) := rfl
theorem lk3_f {y : Nat} {σ : pS} {a b c : Int32} : (lk3 y σ a b c).1 y 21 = a ∧ (lk3 y σ a b c).1 y 22 = b ∧ (lk3 y σ a b c).1 y 23 = c := by
  unfold lk3
  exact ⟨by rw [pf0n (by decide), pf0n (by decide), pf0], by rw [pf0n (by decide), pf0], pf0⟩
theorem SS.k3 {y : Nat} {σ : pS} {a b c : Int32} : SS y σ (lk3 y σ a b c) := by
  refine ⟨fun a k e => ?_, fun a _ _ => rfl⟩
  unfold lk3
  rw [pf1, if_neg (fun q => e ⟨q.1, by omega⟩), pf1, if_neg (fun q => e ⟨q.1, by omega⟩), pf1, if_neg (fun q => e ⟨q.1, by omega⟩)]
/-- one set more -/
def chT (w : Nat → Int32) (c : Int32) (k : Nat) : Option Nat → Option Nat
  | none => if c < dbE w k then none else some k
  | some m => if c < dbE w k then some m else if cst w k < cst w m then some k else some m
def chS (w : Nat → Int32) (c : Int32) : Nat → Option Nat := itN (chT w c) none
theorem chS_s {w : Nat → Int32} {c : Int32} {k : Nat} : chS w c (k + 1) = chT w c k (chS w c k) := rfl
def leV (w : Nat → Int32) (D : Int32) : Option Nat → Int32
  | none => D
  | some m => cst w m
def chV (w : Nat → Int32) (c2 : Int32) (f : Option Nat) : Int32 := if c2 = 0 then oD (-1) f else leV w (-1) f
theorem ch_lt {w : Nat → Int32} {c : Int32} : ∀ n m, chS w c n = some m → m < n := by
  intro n
  induction n with
  | zero => intro m h; cases h
  | succ n ih =>
    intro m h
    rw [chS_s] at h
    cases f : chS w c n with
    | none =>
      rw [f] at h
      unfold chT at h
      dsimp only at h
      split at h
      · cases h
      · injection h with h
        omega
    | some a =>
      have := ih a f
      rw [f] at h
      unfold chT at h
      dsimp only at h
      split at h
      · injection h with h
        omega
      · split at h
        · injection h with h
          omega
        · injection h with h
          omega
theorem che_c {N z y : Nat} {σ1 σ2 : pS} {c1 c2 : Int32} (hN : 20000 < N) (h : Sim z y σ1 σ2) : ∃ r, (∃ υ, E1 z σ1 υ ∧ r = .inl (chV (σ2.2.1 (y + 1)) c2 (chS (σ2.2.1 (y + 1)) c1 (2 ^ cN (σ2.2.1 (y + 1)) 3)), υ)) ∧ fX11_cheapest_b29 N (G1 z) z c1 c2 (-1, 1000, 0, σ1) = some r := by
  have wi := h.wi
  have c3 := wi.c3
  have p16 : 2 ^ cN (σ2.2.1 (y + 1)) 3 ≤ 2 ^ 4 := Nat.pow_le_pow_right (by omega) c3
  have e3 : (1 : Int32) <<< (σ2.2.1 (y + 1) 3 &&& 31) = nI (2 ^ cN (σ2.2.1 (y + 1)) 3) := by
    have e : σ2.2.1 (y + 1) 3 = nI (cN (σ2.2.1 (y + 1)) 3) := nI_cN wi.2.2.2.1.1
    generalize cN (σ2.2.1 (y + 1)) 3 = n at c3 e ⊢
    rw [e]
    exact sh_pow n c3
  unfold fX11_cheapest_b29
  simp only [g1r_0_0, g1r_0_1, g1r_0_2, g1r_0_3, g1r_0_4, g1r_0_5, g1r_0_6, g1r_0_7, g1r_0_8, g1r_1_5, g1n_2, g1r_3_0, g1r_3_1, g1r_3_2, g1r_4_9, g1r_4_10, g1r_4_11, g1r_4_12, g1r_4_13, g1r_4_14, g1r_4_15, g1r_4_16, g1r_4_17, g1n_5, g1n_6, g1n_7, g1n_8, g1n_9, g1n_10, g1n_11, g1n_12, g1n_13, g1r_14_2, g1r_14_3, g1r_14_4, g1r_14_5, g1r_14_6, g1n_15, g1n_16, g1n_17, g1n_18, g1n_19, g1r_20_7, g1r_20_8, g1n_21, g1r_22_2, g1n_23, g1r_24_0, g1r_24_1, g1r_24_2, g1r_25_9, g1r_25_10, g1r_25_11, g1r_25_12, g1r_25_13, g1r_25_14, g1r_25_15, g1r_25_16, g1r_25_17, g1n_26, g1n_27, g1n_28, g1n_29, g1n_30, g1n_31, g1n_32, g1n_33, g1n_34, g1r_35_2, g1r_35_3, g1r_35_4, g1r_35_5, g1r_35_6, g1n_36, g1n_37, g1n_38, g1n_39, g1n_40, g1r_41_7, g1r_41_8, g1n_42, g1r_43_2, g1n_44, g1r_45_0, g1r_45_1, g1r_45_2, g1r_46_9, g1r_46_10, g1r_46_11, g1r_46_12, g1r_46_13, g1r_46_14, g1r_46_15, g1r_46_16, g1r_46_17, g1n_47, g1n_48, g1n_49, g1n_50, g1n_51, g1n_52, g1n_53, g1n_54, g1n_55, g1r_56_2, g1r_56_3, g1r_56_4, g1r_56_5, g1r_56_6, g1n_57, g1n_58, g1n_59, g1n_60, g1n_61, g1r_62_7, g1r_62_8, g1n_63, g1r_64_2, g1n_65, g1r_66_2, g1n_67, g1r_68_7, g1r_68_8, g1n_69, g1r_70_2, g1n_71, g1r_72_7, g1r_72_8, g1n_73, g1r_74_2, g1n_75, g1r_76_7, g1r_76_8, g1n_77, g1r_78_2, g1n_79, g1r_80_7, g1r_80_8, g1n_81, g1r_82_2, g1n_83, g1r_84_7, g1r_84_8, g1n_85, g1r_86_2, g1n_87, g1r_88_7, g1r_88_8, g1n_89, g1r_90_2, g1n_91, g1r_92_7, g1r_92_8, g1n_93, g1r_94_2, g1n_95, g1r_96_7, g1r_96_8, g1n_97, g1r_98_2, g1n_99, g1r_100_7, g1r_100_8, g1n_101, g1r_102_2, g1n_103, g1r_104_7, g1r_104_8, g1n_105, g1r_106_2, g1n_107, g1r_108_7, g1r_108_8, g1n_109, g1r_110_2, g1n_111, g1r_112_7, g1r_112_8, g1n_113, g1r_114_2, g1n_115, g1r_116_7, g1r_116_8, g1n_117, g1r_118_2, g1n_119, g1r_120_0, g1r_120_1, g1r_120_2, g1r_121_7, g1r_121_8, g1n_122, g1r_123_2, g1n_124, g1n_125, g1n_126, g1r_127_0, g1r_127_1, g1r_127_2, g1r_127_3, g1r_128_7, g1r_128_8, g1n_129, g1r_130_2, g1n_131, g1n_132, g1n_133, g1n_134, g1r_135_7, g1n_136, g1n_150]
  refine lp_forR (fun k b => ∃ τ, E1 z σ1 τ ∧ b = (oD (-1) (chS (σ2.2.1 (y + 1)) c1 k), leV (σ2.2.1 (y + 1)) 1000 (chS (σ2.2.1 (y + 1)) c1 k), nI k, τ)) _ (2 ^ cN (σ2.2.1 (y + 1)) 3) (by omega) ?_ ?_ ⟨σ1, EE.r, rfl⟩
  · rintro k hk _ ⟨τ, he, rfl⟩
    left
    have hs := h.keep he E2.r
    have et : τ.1 (z + 4) 3 = σ2.2.1 (y + 1) 3 := hs.tale.1.2.2.2.1
    obtain ⟨υ, b1, b2⟩ := c_doubtB (N := N) (k := k) hN hs
    have hb := cst_bd wi k
    rw [chS_s]
    dsimp only
    rw [et, e3]
    simp only [if_neg (show ¬ nI (2 ^ cN (σ2.2.1 (y + 1)) 3) ≤ nI k from nI_ge hk (by omega)), c_costsOf hN wi hs.tale, b_some, b1]
    cases f : chS (σ2.2.1 (y + 1)) c1 k with
    | none =>
      have l : ¬ leV (σ2.2.1 (y + 1)) 1000 none ≤ cst (σ2.2.1 (y + 1)) k := by
        rw [i_le]
        show ¬ (1000 : Int32).toInt ≤ _
        rw [show (1000 : Int32).toInt = 1000 from rfl]
        omega
      unfold chT
      dsimp only
      by_cases u : c1 < dbE (σ2.2.1 (y + 1)) k
      · refine ⟨(oD (-1) none, leV (σ2.2.1 (y + 1)) 1000 none, nI (k + 1), υ), ⟨υ, he.t b2, by rw [if_pos u]⟩, fun q => ?_⟩
        rw [if_neg l, if_pos u, nI_1]
      · refine ⟨(oD (-1) (some k), leV (σ2.2.1 (y + 1)) 1000 (some k), nI (k + 1), υ), ⟨υ, he.t b2, by rw [if_neg u]⟩, fun q => ?_⟩
        rw [if_neg l, if_neg u, nI_1]
        rfl
    | some m =>
      unfold chT
      dsimp only
      by_cases l : leV (σ2.2.1 (y + 1)) 1000 (some m) ≤ cst (σ2.2.1 (y + 1)) k
      · have l2 : ¬ cst (σ2.2.1 (y + 1)) k < cst (σ2.2.1 (y + 1)) m := i_nlt.mpr l
        refine ⟨(oD (-1) (some m), leV (σ2.2.1 (y + 1)) 1000 (some m), nI (k + 1), τ), ⟨τ, he, ?_⟩, fun q => ?_⟩
        · rw [if_neg l2]
          split <;> rfl
        · rw [if_pos l, nI_1]
      · have l2 : cst (σ2.2.1 (y + 1)) k < cst (σ2.2.1 (y + 1)) m := i_nle.mp l
        by_cases u : c1 < dbE (σ2.2.1 (y + 1)) k
        · refine ⟨(oD (-1) (some m), leV (σ2.2.1 (y + 1)) 1000 (some m), nI (k + 1), υ), ⟨υ, he.t b2, by rw [if_pos u]⟩, fun q => ?_⟩
          rw [if_neg l, if_pos u, nI_1]
        · refine ⟨(oD (-1) (some k), leV (σ2.2.1 (y + 1)) 1000 (some k), nI (k + 1), υ), ⟨υ, he.t b2, by rw [if_neg u, if_pos l2]⟩, fun q => ?_⟩
          rw [if_neg l, if_neg u, nI_1]
          rfl
  · rintro _ ⟨τ, he, rfl⟩
    have hs := h.keep he E2.r
    have et : τ.1 (z + 4) 3 = σ2.2.1 (y + 1) 3 := hs.tale.1.2.2.2.1
    refine ⟨_, ⟨τ, he, rfl⟩, fun q => ?_⟩
    dsimp only
    rw [et, e3, if_pos lit_end]
    unfold chV
    by_cases g : c2 = 0
    · rw [if_pos g, if_pos g]
    · rw [if_neg g, if_neg g]
      unfold fX11_orNone
      cases f : chS (σ2.2.1 (y + 1)) c1 (2 ^ cN (σ2.2.1 (y + 1)) 3) with
      | none =>
        rw [if_neg (show ¬ leV (σ2.2.1 (y + 1)) 1000 none < 1000 from (by decide : ¬ (1000 : Int32) < 1000))]
        rfl
      | some m =>
        have hb := cst_bd wi m
        rw [if_pos (show leV (σ2.2.1 (y + 1)) 1000 (some m) < 1000 from by
          rw [i_lt]
          show (cst (σ2.2.1 (y + 1)) m).toInt < (1000 : Int32).toInt
          rw [show (1000 : Int32).toInt = 1000 from rfl]
          omega)]
        rfl
theorem r_ch66 {N y k : Nat} {κ τ : pS} {w : Nat → Int32} {c1 c2 x3 x4 : Int32} (hN : 20000 < N) (hw : WInv w) (hl : HasLaw w) (hv : τ.2.1 (y + 1) = w) (hs : SS y κ τ) : ∃ r, (∃ υ, SS y κ υ ∧ υ.2.1 (y + 1) = w ∧ r = fun p : Int32 × Int32 × Int32 × pS → Option (Int32 × pS) => if c1 < dbE w k then p (x3, x4, nI k + 1, υ) else if cst w k < x4 then p (nI k, cst w k, nI k + 1, υ) else p (x3, x4, nI k + 1, υ)) ∧ ∀ p, fX12_cheapest_b66 N (G2 y) p y c1 c2 x3 x4 (nI k) (w 7, 0, 0, τ) = r p := by
  have c3 := hw.c3
  unfold fX12_cheapest_b66
  simp only [g2r_0_1, g2r_0_2, g2r_0_3, g2r_0_4, g2r_0_5, g2r_0_8, g2r_0_15, g2r_0_17, g2r_0_25, g2r_0_26, g2r_0_27, g2r_0_28, g2n_1, g2n_2, g2n_3, g2n_4, g2n_5, g2n_6, g2n_7, g2n_8, g2n_9, g2n_10, g2n_11, g2n_12]
  refine lp_forRQ (fun d b => ∃ τ', b = (dbV w (nI k) d, coV w (nI k) d, nI d, τ') ∧ SS y κ τ' ∧ τ'.2.1 (y + 1) = w) _ (cN w 3) (by omega) ?_ ?_ ⟨τ, rfl, hs, hv⟩
  · rintro d hd _ ⟨τ', rfl, he, hmr⟩
    by_cases b : bit (nI k) d = true
    · obtain ⟨υ, l2, h2⟩ := r_behindDeed (N := N) (y := y) (σ := lk3 y τ' (dbV w (nI k) d) (w 9) (bc (w 12))) (deed := d) hN (by rw [show (lk3 y τ' (dbV w (nI k) d) (w 9) (bc (w 12))).2.1 (y + 1) = w from hmr]; exact hw) (by rw [show (lk3 y τ' (dbV w (nI k) d) (w 9) (bc (w 12))).2.1 (y + 1) = w from hmr]; exact hl) (by rw [show (lk3 y τ' (dbV w (nI k) d) (w 9) (bc (w 12))).2.1 (y + 1) = w from hmr]; exact hd)
      rw [show (lk3 y τ' (dbV w (nI k) d) (w 9) (bc (w 12))).2.1 (y + 1) = w from hmr, lk3_f.1, lk3_f.2.1, lk3_f.2.2] at h2
      have uw : υ.2.1 (y + 1) = w := l2.w.trans hmr
      refine ⟨(dbV w (nI k) (d + 1), coV w (nI k) (d + 1), nI (d + 1), υ), ⟨υ, rfl, (he.t SS.k3).t (SS.l l2), uw⟩, fun p q => ?_⟩
      dsimp only
      rw [r_deeds, b_some, hmr, if_neg (cnt_lt hw.2.2.2.1.1 hd), has_fn2 (by omega), b_some, ite01, if_pos b, r_howMany, b_some, hmr, show inB 9 2081 = true by decide, ck_t]
      show (fX12_looks N (G2 y) y (dbV w (nI k) d) (τ'.2.1 (y + 1) 9) (bc (w 12)) τ').bind _ = _
      rw [hmr, r_looks, b_some, h2, b_some, r_ofDeed1 (by omega), b_some, uw, dbV_s, coV_s, if_pos b, if_pos b, nI_1]
    · refine ⟨(dbV w (nI k) (d + 1), coV w (nI k) (d + 1), nI (d + 1), τ'), ⟨τ', rfl, he, hmr⟩, fun p q => ?_⟩
      dsimp only
      rw [r_deeds, b_some, hmr, if_neg (cnt_lt hw.2.2.2.1.1 hd), has_fn2 (by omega), b_some, ite01, if_neg b, dbV_s, coV_s, if_neg b, if_neg b, Int32.add_zero, nI_1]
  · rintro _ ⟨τ', rfl, he, hmr⟩
    refine ⟨_, ⟨τ', he, hmr, rfl⟩, fun p q => ?_⟩
    dsimp only
    rw [r_deeds, b_some, hmr, if_pos (cnt_eN hw.2.2.2.1.1)]
    rfl
theorem che_r {N y : Nat} {κ : pS} {w : Nat → Int32} {c1 c2 : Int32} (hN : 20000 < N) (hw : WInv w) (hl : HasLaw w) (hv : κ.2.1 (y + 1) = w) : ∃ r, (∃ υ, SS y κ υ ∧ υ.2.1 (y + 1) = w ∧ r = (chV w c2 (chS w c1 (2 ^ cN w 3)), υ)) ∧ fX12_cheapest_b40 N (G2 y) y c1 c2 (-1, 1000000, 0, κ) = some r := by
  have c3 := hw.c3
  have p16 : 2 ^ cN w 3 ≤ 2 ^ 4 := Nat.pow_le_pow_right (by omega) c3
  have e3 : (1 : Int32) <<< (w 3 &&& 31) = nI (2 ^ cN w 3) := by
    have e : w 3 = nI (cN w 3) := nI_cN hw.2.2.2.1.1
    generalize cN w 3 = n at c3 e ⊢
    rw [e]
    exact sh_pow n c3
  unfold fX12_cheapest_b40
  simp only [g2r_0_1, g2r_0_2, g2r_0_3, g2r_0_4, g2r_0_5, g2r_0_8, g2r_0_15, g2r_0_17, g2r_0_25, g2r_0_26, g2r_0_27, g2r_0_28, g2n_1, g2n_2, g2n_3, g2n_4, g2n_5, g2n_6, g2n_7, g2n_8, g2n_9, g2n_10, g2n_11, g2n_12]
  refine lp_forR (fun k b => ∃ τ, SS y κ τ ∧ τ.2.1 (y + 1) = w ∧ b = (oD (-1) (chS w c1 k), leV w 1000000 (chS w c1 k), nI k, τ)) _ (2 ^ cN w 3) (by omega) ?_ ?_ ⟨κ, SS.r, hv, rfl⟩
  · rintro k hk _ ⟨τ, he, hmr, rfl⟩
    left
    have hb := cst_bd hw k
    obtain ⟨_, ⟨υ, u1, u2, rfl⟩, u3⟩ := r_ch66 (N := N) (y := y) (k := k) (κ := κ) (τ := τ) (c1 := c1) (c2 := c2) (x3 := oD (-1) (chS w c1 k)) (x4 := leV w 1000000 (chS w c1 k)) hN hw hl hmr he
    refine ⟨(oD (-1) (chS w c1 (k + 1)), leV w 1000000 (chS w c1 (k + 1)), nI (k + 1), υ), ⟨υ, u1, u2, rfl⟩, fun q => ?_⟩
    dsimp only
    rw [r_deeds, b_some, hmr, e3, if_neg (nI_ge hk (by omega))]
    show fX12_cheapest_b66 N (G2 y) q y c1 c2 (oD (-1) (chS w c1 k)) (leV w 1000000 (chS w c1 k)) (nI k) (τ.2.1 (y + 1) 7, 0, 0, τ) = _
    rw [hmr, u3, chS_s]
    dsimp only
    rw [nI_1]
    cases f : chS w c1 k with
    | none =>
      have l : cst w k < leV w 1000000 none := by
        rw [i_lt]
        show _ < (1000000 : Int32).toInt
        rw [show (1000000 : Int32).toInt = 1000000 from rfl]
        omega
      unfold chT
      dsimp only
      by_cases u : c1 < dbE w k
      · rw [if_pos u, if_pos u]
      · rw [if_neg u, if_neg u, if_pos l]
        rfl
    | some m =>
      unfold chT
      dsimp only
      by_cases u : c1 < dbE w k
      · rw [if_pos u, if_pos u]
      · rw [if_neg u, if_neg u]
        by_cases l : cst w k < cst w m
        · rw [if_pos l, if_pos (show cst w k < leV w 1000000 (some m) from l)]
          rfl
        · rw [if_neg l, if_neg (show ¬ cst w k < leV w 1000000 (some m) from l)]
  · rintro _ ⟨τ, he, hmr, rfl⟩
    refine ⟨_, ⟨τ, he, hmr, rfl⟩, fun q => ?_⟩
    dsimp only
    rw [r_deeds, b_some, hmr, e3, if_pos lit_end]
    unfold chV fX12_cheapest_b168
    cases f : chS w c1 (2 ^ cN w 3) with
    | none =>
      rw [if_pos (show oD (-1) none < 0 by decide)]
      split <;> rfl
    | some m =>
      have := ch_lt _ _ f
      rw [if_neg (show ¬ oD (-1) (some m) < 0 from nI_pos (by omega))]
      split <;> rfl
theorem gd_cheapest {N z y : Nat} (hN : 20000 < N) : Gd_cheapest N (G1 z) (G2 y) z y (z + 150) (Sim z y) := by
  intro σ1 σ2 h c1 c2 hz
  unfold fL_cheapest
  apply gd_w
  unfold fX11_cheapest fX12_cheapest
  simp only [r_inn, b_some]
  by_cases g0 : c1 < 0
  · rw [if_pos g0, if_pos g0]
    exact gdw_ex (k := 1) (fun τ => if_pos rfl) (by decide) rfl rfl pf0 h.th
  by_cases g1 : 99 < c1
  · rw [if_neg g0, if_pos g1, if_neg g0, if_pos g1]
    exact gdw_ex (k := 1) (fun τ => if_pos rfl) (by decide) rfl rfl pf0 h.th
  rw [if_neg g0, if_neg g1, if_neg g0, if_neg g1, if_neg (by decide)]
  unfold fX11_cheapest_b16 fX12_cheapest_b21
  rw [c_need1, b_some, e_inl, r_t0, b_some, if_pos rfl]
  obtain ⟨_, ⟨υ1, e1, rfl⟩, h1⟩ := che_c (N := N) (c1 := c1) (c2 := c2) hN h
  obtain ⟨_, ⟨υ2, e2, e3, rfl⟩, h2⟩ := che_r (N := N) (y := y) (κ := putF σ2 y 0 0) (w := σ2.2.1 (y + 1)) (c1 := c1) (c2 := c2) hN h.wi h.hl rfl
  rw [h1, h2]
  refine gdw_ok rfl rfl ((e2.f (by omega)).trans pf0) (h.keep e1 (E2.t0.t ⟨fun k hk => e2.f (by omega), fun j hj => ?_⟩))
  by_cases q : j = 1
  · subst q
    exact e3
  · exact e2.2 _ (by omega) (by omega)
