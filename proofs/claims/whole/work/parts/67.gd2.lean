/-! stings, deed, fits, sharpest -/
theorem lp_forRQ {Q β α : Type} {body : Q → (β → Option α) → β → Option α} (I : Nat → β → Prop) (R : (Q → Option α) → Prop) (n : Nat) {N : Nat} (hN : n < N) (hs : ∀ k, k < n → ∀ b, I k b → ∃ b', I (k + 1) b' ∧ ∀ p q, body p q b = q b') (he : ∀ b, I n b → ∃ r : Q → Option α, R r ∧ ∀ p q, body p q b = r p) {b : β} (h0 : I 0 b) : ∃ r, R r ∧ ∀ p, lp (body p) N b = r p := by
  have H : ∀ (m k M : Nat) (b : β), k + m = n → m < M → I k b → ∃ r, R r ∧ ∀ p, lp (body p) M b = r p := by
    intro m
    induction m with
    | zero =>
      intro k M b hk hM hI
      obtain ⟨M', rfl⟩ : ∃ M', M = M' + 1 := ⟨M - 1, by omega⟩
      have e : k = n := by omega
      subst e
      obtain ⟨r, h1, h2⟩ := he b hI
      exact ⟨r, h1, fun p => h2 p _⟩
    | succ m ih =>
      intro k M b hk hM hI
      obtain ⟨M', rfl⟩ : ∃ M', M = M' + 1 := ⟨M - 1, by omega⟩
      obtain ⟨b', h1, h2⟩ := hs k (by omega) b hI
      obtain ⟨r, h3, h4⟩ := ih (k + 1) M' b' (by omega) (by omega) h1
      refine ⟨r, h3, fun p => ?_⟩
      show body p (lp (body p) M') b = r p
      rw [h2, h4]
  exact H n 0 N b (by omega) hN h0
theorem smK_bd {f K A E S w g : Nat → Int32} {t kd : Int32} (h : LawR f K A E S w) : ∀ n, n ≤ nL w → 0 ≤ (smK w g t kd n).toInt ∧ (smK w g t kd n).toInt ≤ 20 * n := by
  intro n
  induction n with
  | zero =>
    intro _
    show 0 ≤ (0 : Int32).toInt ∧ (0 : Int32).toInt ≤ 20 * ((0 : Nat) : Int)
    decide
  | succ n ih =>
    intro hn
    have h6 : w 6 = 1 := by
      by_cases e : w 6 = 1
      · exact e
      · rw [show nL w = 0 from if_neg e] at hn
        omega
    rw [show nL w = cN w 383 from if_pos h6] at hn ih
    obtain ⟨a, b⟩ := ih (by omega)
    obtain ⟨hb, hl'⟩ := h.2 h6
    have k2 := (hl' n (by omega)).2.1
    have c12 : cN w 383 ≤ 12 := by unfold cN; omega
    have e2 : smK w g t kd (n + 1) = if w (384 + 4 * n) = kd ∧ hl w g t n = true then smK w g t kd n + w (385 + 4 * n) else smK w g t kd n := rfl
    rw [e2]
    split
    · rw [i_add (by omega) (by omega)]
      omega
    · omega
theorem nL_12 {f K A E S w : Nat → Int32} (h : LawR f K A E S w) : nL w ≤ 12 := by
  unfold nL
  split
  · rename_i h6
    have := (h.2 h6).1
    unfold cN
    omega
  · omega
theorem stV_bd {w : Nat → Int32} {d n l who : Int32} {word : Nat} (hw : WInv w) (h : HasLaw w) (hwd : word < cN w 2) : 0 ≤ (stV w d n l who word).toInt ∧ (stV w d n l who word).toInt ≤ 260 := by
  obtain ⟨f, K, A, E, S, h⟩ := h
  have a := smK_bd (g := gS (nI word) 0 d n l who) (t := trV w word) (kd := 0) h _ (Nat.le_refl _)
  have b := smK_bd (g := gS (nI word) 0 d n l who) (t := trV w word) (kd := 1) h _ (Nat.le_refl _)
  have c := (hw.wo word hwd).1
  have m := nL_12 h
  unfold stV jmax
  have e1 : (smK w (gS (nI word) 0 d n l who) (trV w word) 0 (nL w) - smK w (gS (nI word) 0 d n l who) (trV w word) 1 (nL w)).toInt = (smK w (gS (nI word) 0 d n l who) (trV w word) 0 (nL w)).toInt - (smK w (gS (nI word) 0 d n l who) (trV w word) 1 (nL w)).toInt := i_sub (by omega) (by omega)
  have e2 : (w (55 + 2 * word) + (smK w (gS (nI word) 0 d n l who) (trV w word) 0 (nL w) - smK w (gS (nI word) 0 d n l who) (trV w word) 1 (nL w))).toInt = (w (55 + 2 * word)).toInt + ((smK w (gS (nI word) 0 d n l who) (trV w word) 0 (nL w)).toInt - (smK w (gS (nI word) 0 d n l who) (trV w word) 1 (nL w)).toInt) := by
    rw [i_add (by omega) (by omega), e1]
  have z0 : (0 : Int32).toInt = 0 := rfl
  split
  · rename_i q
    rw [i_lt] at q
    omega
  · rename_i q
    omega
theorem eaV_bd {w : Nat → Int32} {d n l : Int32} {deed : Nat} (hw : WInv w) (h : HasLaw w) (hd : deed < cN w 3) : 0 ≤ (eaV w d n l deed).toInt ∧ (eaV w d n l deed).toInt ≤ 260 := by
  obtain ⟨f, K, A, E, S, h⟩ := h
  have a := smK_bd (g := gS 0 (nI deed) d n l 0) (t := 0) (kd := 2) h _ (Nat.le_refl _)
  have c := (hw.de deed hd).1
  have m := nL_12 h
  unfold eaV
  rw [i_add (by omega) (by omega)]
  omega
theorem bwV_eq {w : Nat → Int32} {d n l who : Int32} {word : Nat} (hw : WInv w) (h : HasLaw w) (hwd : word < cN w 2) (hd : 0 ≤ d.toInt ∧ d.toInt ≤ 99) : (bwV w d n l who word).toInt = min 99 (d.toInt + (stV w d n l who word).toInt) := by
  have s := stV_bd (d := d) (n := n) (l := l) (who := who) hw h hwd
  unfold bwV jmin
  have e : (d + stV w d n l who word).toInt = d.toInt + (stV w d n l who word).toInt := i_add (by omega) (by omega)
  have z9 : (99 : Int32).toInt = 99 := rfl
  split
  · rename_i q
    rw [i_lt] at q
    omega
  · rename_i q
    rw [i_lt] at q
    omega
theorem bwV_bd {w : Nat → Int32} {d n l who : Int32} {word : Nat} (hw : WInv w) (h : HasLaw w) (hwd : word < cN w 2) (hd : 0 ≤ d.toInt ∧ d.toInt ≤ 99) : 0 ≤ (bwV w d n l who word).toInt ∧ (bwV w d n l who word).toInt ≤ 99 := by
  have s := stV_bd (d := d) (n := n) (l := l) (who := who) hw h hwd
  rw [bwV_eq hw h hwd hd]
  omega
theorem bdV_bd {w : Nat → Int32} {d n l : Int32} {deed : Nat} (hw : WInv w) (h : HasLaw w) (hdd : deed < cN w 3) (hd : 0 ≤ d.toInt ∧ d.toInt ≤ 99) : 0 ≤ (bdV w d n l deed).toInt ∧ (bdV w d n l deed).toInt ≤ 99 := by
  have s := eaV_bd (d := d) (n := n) (l := l) hw h hdd
  unfold bdV jmax
  have e : (d - eaV w d n l deed).toInt = d.toInt - (eaV w d n l deed).toInt := i_sub (by omega) (by omega)
  have z9 : (0 : Int32).toInt = 0 := rfl
  split
  · rename_i q
    rw [i_lt] at q
    omega
  · omega
/-- look, now -/
def lkN (y : Nat) (σ : pS) : pS := putF (putF (putF σ y 21 (σ.2.1 (y + 1) 7)) y 22 (σ.2.1 (y + 1) 9)) y 23 (bc (σ.2.1 (y + 1) 12))
theorem r_looksNow {N y : Nat} {σ : pS} : fX12_looksNow N (G2 y) y σ = some (lkN y σ) := by
  unfold fX12_looksNow fX12_looks
  simp only [g2r_0_1, g2r_0_2, g2r_0_3, g2r_0_4, g2r_0_5, g2r_0_8, g2r_0_15, g2r_0_17, g2r_0_25, g2r_0_26, g2r_0_27, g2r_0_28, g2n_1, g2n_2, g2n_3, g2n_4, g2n_5, g2n_6, g2n_7, g2n_8, g2n_9, g2n_10, g2n_11, g2n_12]
  show (fX12_howMany N (G2 y) y σ).bind _ = _
  rw [r_howMany]
  rfl
theorem lkN_e {y : Nat} {σ : pS} : E2 y σ (lkN y σ) := ((E2.r.pf (by omega)).pf (by omega)).pf (by omega)
theorem lkN_0 {y : Nat} {σ : pS} : (lkN y σ).1 y 0 = σ.1 y 0 := by
  unfold lkN
  rw [pf0n (by decide), pf0n (by decide), pf0n (by decide)]
theorem lkN_21 {y : Nat} {σ : pS} : (lkN y σ).1 y 21 = σ.2.1 (y + 1) 7 := by
  unfold lkN
  rw [pf0n (by decide), pf0n (by decide), pf0]
theorem lkN_22 {y : Nat} {σ : pS} : (lkN y σ).1 y 22 = σ.2.1 (y + 1) 9 := by
  unfold lkN
  rw [pf0n (by decide), pf0]
theorem lkN_23 {y : Nat} {σ : pS} : (lkN y σ).1 y 23 = bc (σ.2.1 (y + 1) 12) := by
  unfold lkN
  rw [pf0]
theorem Sim.hl {z y : Nat} {σ1 σ2 : pS} (h : Sim z y σ1 σ2) : HasLaw (σ2.2.1 (y + 1)) := ⟨_, _, _, _, _, h.law⟩
theorem Sim.dn {z y : Nat} {σ1 σ2 : pS} (h : Sim z y σ1 σ2) : σ1.1 (z + 20) 0 = σ2.2.1 (y + 1) 7 ∧ σ1.1 (z + 20) 1 = σ2.2.1 (y + 1) 9 := ⟨h.mind.1, h.mind.2.1⟩
theorem gd_stings {N z y : Nat} (hN : 20000 < N) : Gd_stings N (G1 z) (G2 y) z y (z + 150) (Sim z y) := by
  intro σ1 σ2 h c1 c2
  unfold fL_stings
  apply gd_w
  unfold fX11_stings fX12_stings
  refine ww_pre h (fun τ => if_pos rfl) rfl (fun i j hi hj hi6 hj6 e1 e2 => ?_)
  subst e1
  subst e2
  simp only [g1r_0_0, g1r_0_1, g1r_0_2, g1r_0_3, g1r_0_4, g1r_0_5, g1r_0_6, g1r_0_7, g1r_0_8, g1r_1_5, g1n_2, g1r_3_0, g1r_3_1, g1r_3_2, g1r_4_9, g1r_4_10, g1r_4_11, g1r_4_12, g1r_4_13, g1r_4_14, g1r_4_15, g1r_4_16, g1r_4_17, g1n_5, g1n_6, g1n_7, g1n_8, g1n_9, g1n_10, g1n_11, g1n_12, g1n_13, g1r_14_2, g1r_14_3, g1r_14_4, g1r_14_5, g1r_14_6, g1n_15, g1n_16, g1n_17, g1n_18, g1n_19, g1r_20_7, g1r_20_8, g1n_21, g1r_22_2, g1n_23, g1r_24_0, g1r_24_1, g1r_24_2, g1r_25_9, g1r_25_10, g1r_25_11, g1r_25_12, g1r_25_13, g1r_25_14, g1r_25_15, g1r_25_16, g1r_25_17, g1n_26, g1n_27, g1n_28, g1n_29, g1n_30, g1n_31, g1n_32, g1n_33, g1n_34, g1r_35_2, g1r_35_3, g1r_35_4, g1r_35_5, g1r_35_6, g1n_36, g1n_37, g1n_38, g1n_39, g1n_40, g1r_41_7, g1r_41_8, g1n_42, g1r_43_2, g1n_44, g1r_45_0, g1r_45_1, g1r_45_2, g1r_46_9, g1r_46_10, g1r_46_11, g1r_46_12, g1r_46_13, g1r_46_14, g1r_46_15, g1r_46_16, g1r_46_17, g1n_47, g1n_48, g1n_49, g1n_50, g1n_51, g1n_52, g1n_53, g1n_54, g1n_55, g1r_56_2, g1r_56_3, g1r_56_4, g1r_56_5, g1r_56_6, g1n_57, g1n_58, g1n_59, g1n_60, g1n_61, g1r_62_7, g1r_62_8, g1n_63, g1r_64_2, g1n_65, g1r_66_2, g1n_67, g1r_68_7, g1r_68_8, g1n_69, g1r_70_2, g1n_71, g1r_72_7, g1r_72_8, g1n_73, g1r_74_2, g1n_75, g1r_76_7, g1r_76_8, g1n_77, g1r_78_2, g1n_79, g1r_80_7, g1r_80_8, g1n_81, g1r_82_2, g1n_83, g1r_84_7, g1r_84_8, g1n_85, g1r_86_2, g1n_87, g1r_88_7, g1r_88_8, g1n_89, g1r_90_2, g1n_91, g1r_92_7, g1r_92_8, g1n_93, g1r_94_2, g1n_95, g1r_96_7, g1r_96_8, g1n_97, g1r_98_2, g1n_99, g1r_100_7, g1r_100_8, g1n_101, g1r_102_2, g1n_103, g1r_104_7, g1r_104_8, g1n_105, g1r_106_2, g1n_107, g1r_108_7, g1r_108_8, g1n_109, g1r_110_2, g1n_111, g1r_112_7, g1r_112_8, g1n_113, g1r_114_2, g1n_115, g1r_116_7, g1r_116_8, g1n_117, g1r_118_2, g1n_119, g1r_120_0, g1r_120_1, g1r_120_2, g1r_121_7, g1r_121_8, g1n_122, g1r_123_2, g1n_124, g1n_125, g1n_126, g1r_127_0, g1r_127_1, g1r_127_2, g1r_127_3, g1r_128_7, g1r_128_8, g1n_129, g1r_130_2, g1n_131, g1n_132, g1n_133, g1n_134, g1r_135_7, g1n_136, g1n_150]
  obtain ⟨τ1, t1, h1⟩ := c_stingOf (z := z) (m := z + 20) (who := nI i) hN h.wi h.tale h.law h.bea hj
  obtain ⟨τ2, l2, h2⟩ := r_stingsBy (N := N) (y := y) (σ := lkN y (putF σ2 y 0 0)) (who := nI i) (word := j) hN h.wi h.hl hj
  rw [h1, b_some]
  unfold fX12_stings_b27
  rw [r_t0, b_some, if_pos rfl, r_looksNow, b_some, h2, b_some, lkN_21, lkN_22, lkN_23, h.dn.1, h.dn.2, h.pos]
  refine gdw_ok rfl rfl ?_ (h.keep (t1.e rfl rfl) ((E2.t0.t lkN_e).t l2.e))
  rw [l2.f (by omega), lkN_0, pf0]
theorem gd_deed {N z y : Nat} (hN : 20000 < N) : Gd_deed N (G1 z) (G2 y) z y (z + 150) (Sim z y) := by
  intro σ1 σ2 h c1 c2
  unfold fL_deed
  apply gd_w
  unfold fX11_deed fX12_deed
  refine deed_pre h (fun τ => if_pos rfl) (fun k hk hk6 e1 => ?_)
  subst e1
  have wi := h.wi
  have t := h.tale
  simp only [g1r_0_0, g1r_0_1, g1r_0_2, g1r_0_3, g1r_0_4, g1r_0_5, g1r_0_6, g1r_0_7, g1r_0_8, g1r_1_5, g1n_2, g1r_3_0, g1r_3_1, g1r_3_2, g1r_4_9, g1r_4_10, g1r_4_11, g1r_4_12, g1r_4_13, g1r_4_14, g1r_4_15, g1r_4_16, g1r_4_17, g1n_5, g1n_6, g1n_7, g1n_8, g1n_9, g1n_10, g1n_11, g1n_12, g1n_13, g1r_14_2, g1r_14_3, g1r_14_4, g1r_14_5, g1r_14_6, g1n_15, g1n_16, g1n_17, g1n_18, g1n_19, g1r_20_7, g1r_20_8, g1n_21, g1r_22_2, g1n_23, g1r_24_0, g1r_24_1, g1r_24_2, g1r_25_9, g1r_25_10, g1r_25_11, g1r_25_12, g1r_25_13, g1r_25_14, g1r_25_15, g1r_25_16, g1r_25_17, g1n_26, g1n_27, g1n_28, g1n_29, g1n_30, g1n_31, g1n_32, g1n_33, g1n_34, g1r_35_2, g1r_35_3, g1r_35_4, g1r_35_5, g1r_35_6, g1n_36, g1n_37, g1n_38, g1n_39, g1n_40, g1r_41_7, g1r_41_8, g1n_42, g1r_43_2, g1n_44, g1r_45_0, g1r_45_1, g1r_45_2, g1r_46_9, g1r_46_10, g1r_46_11, g1r_46_12, g1r_46_13, g1r_46_14, g1r_46_15, g1r_46_16, g1r_46_17, g1n_47, g1n_48, g1n_49, g1n_50, g1n_51, g1n_52, g1n_53, g1n_54, g1n_55, g1r_56_2, g1r_56_3, g1r_56_4, g1r_56_5, g1r_56_6, g1n_57, g1n_58, g1n_59, g1n_60, g1n_61, g1r_62_7, g1r_62_8, g1n_63, g1r_64_2, g1n_65, g1r_66_2, g1n_67, g1r_68_7, g1r_68_8, g1n_69, g1r_70_2, g1n_71, g1r_72_7, g1r_72_8, g1n_73, g1r_74_2, g1n_75, g1r_76_7, g1r_76_8, g1n_77, g1r_78_2, g1n_79, g1r_80_7, g1r_80_8, g1n_81, g1r_82_2, g1n_83, g1r_84_7, g1r_84_8, g1n_85, g1r_86_2, g1n_87, g1r_88_7, g1r_88_8, g1n_89, g1r_90_2, g1n_91, g1r_92_7, g1r_92_8, g1n_93, g1r_94_2, g1n_95, g1r_96_7, g1r_96_8, g1n_97, g1r_98_2, g1n_99, g1r_100_7, g1r_100_8, g1n_101, g1r_102_2, g1n_103, g1r_104_7, g1r_104_8, g1n_105, g1r_106_2, g1n_107, g1r_108_7, g1r_108_8, g1n_109, g1r_110_2, g1n_111, g1r_112_7, g1r_112_8, g1n_113, g1r_114_2, g1n_115, g1r_116_7, g1r_116_8, g1n_117, g1r_118_2, g1n_119, g1r_120_0, g1r_120_1, g1r_120_2, g1r_121_7, g1r_121_8, g1n_122, g1r_123_2, g1n_124, g1n_125, g1n_126, g1r_127_0, g1r_127_1, g1r_127_2, g1r_127_3, g1r_128_7, g1r_128_8, g1n_129, g1r_130_2, g1n_131, g1n_132, g1n_133, g1n_134, g1r_135_7, g1n_136, g1n_150, r_inn, b_some]
  have hk0 : Sim z y σ1 (lkN y (putF σ2 y 0 0)) := h.keep EE.r (E2.t0.t lkN_e)
  have hz0 : (lkN y (putF σ2 y 0 0)).1 y 0 = 0 := by rw [lkN_0, pf0]
  by_cases e0 : c2 = 0
  · subst e0
    rw [if_pos rfl, at_fn g1n_10 hk6 (by omega), b_some]
    refine gdw_ok rfl ?_ hz0 hk0
    show fX12_deed_b33 N (G2 y) y (nI k) 0 0 _ = _
    unfold fX12_deed_b33
    rw [r_t0, b_some, if_pos rfl, r_looksNow, b_some, if_neg (by decide), r_ofDeed0 (by omega)]
    exact congrArg (fun x => some (x, lkN y (putF σ2 y 0 0))) (t.2.2.2.2.1 k hk).1.symm
  by_cases e1 : c2 = 1
  · subst e1
    rw [if_neg e0, if_pos rfl, at_fn g1n_11 hk6 (by omega), b_some]
    refine gdw_ok rfl ?_ hz0 hk0
    show fX12_deed_b33 N (G2 y) y (nI k) 1 0 _ = _
    unfold fX12_deed_b33
    rw [r_t0, b_some, if_pos rfl, r_looksNow, b_some, if_neg (by decide), r_ofDeed1 (by omega)]
    exact congrArg (fun x => some (x, lkN y (putF σ2 y 0 0))) (t.2.2.2.2.1 k hk).2.symm
  by_cases e2 : c2 = 2
  · subst e2
    obtain ⟨τ1, t1, h1⟩ := c_easeOf (z := z) (m := z + 20) (deed := k) hN h.wi h.tale h.law hk
    obtain ⟨τ2, l2, h2⟩ := r_easesBy (N := N) (y := y) (σ := lkN y (putF σ2 y 0 0)) (deed := k) hN h.wi h.hl hk
    rw [if_neg e0, if_neg e1, if_pos rfl, h1, b_some]
    refine gdw_ok (τ2 := τ2) rfl ?_ ?_ (h.keep (t1.e rfl rfl) ((E2.t0.t lkN_e).t l2.e))
    · show fX12_deed_b33 N (G2 y) y (nI k) 2 0 _ = _
      unfold fX12_deed_b33
      rw [r_t0, b_some, if_pos rfl, r_looksNow, b_some, if_pos rfl, h2, b_some, lkN_21, lkN_22, lkN_23, h.dn.1, h.dn.2, h.pos]
      rfl
    · rw [l2.f (by omega), hz0]
  · rw [if_neg e0, if_neg e1, if_neg e2, show (if c2 < 0 then (0 : Int32) else if 2 < c2 then 0 else 1) = 0 from in_out (m := 2) (by omega) (fun j hj => by
          match j, hj with
          | 0, _ => exact e0
          | 1, _ => exact e1
          | 2, _ => exact e2)]
    exact gdw_ex (k := 2) (fun τ => (if_neg nse_ne).trans (if_pos rfl)) (by decide) rfl rfl pf0 h.th
/-! sharpest -/
def shT (w : Nat → Int32) (who : Int32) (n : Nat) (x : Int32 × Int32) : Int32 × Int32 := if x.2 < stV w (w 7) (w 9) (bc (w 12)) who n then (nI n, stV w (w 7) (w 9) (bc (w 12)) who n) else x
def shS (w : Nat → Int32) (who : Int32) : Nat → Int32 × Int32 := itN (shT w who) (-1, -1)
theorem TT.f {z m k : Nat} {σ τ : pS} (h : TT z σ τ) (hm : m ≠ z + 14) : τ.1 m k = σ.1 m k := h.1 m k (fun q => hm q.1)
theorem gd_sharpest {N z y : Nat} (hN : 20000 < N) : Gd_sharpest N (G1 z) (G2 y) z y (z + 150) (Sim z y) := by
  intro σ1 σ2 h c1
  unfold fL_sharpest
  apply gd_w
  unfold fX11_sharpest fX12_sharpest
  refine who_pre h (fun τ => if_pos rfl) (fun i hi hi6 e1 => ?_)
  subst e1
  have wi := h.wi
  have c2 := wi.c2
  have A : ∃ r, (∃ τ1, TT z σ1 τ1 ∧ r = .inl ((shS (σ2.2.1 (y + 1)) (nI i) (cN (σ2.2.1 (y + 1)) 2)).1, τ1)) ∧ fX11_sharpest_b12 N (G1 z) z (nI i) (-1, -1, 0, σ1) = some r := by
    unfold fX11_sharpest_b12
    simp only [g1r_0_0, g1r_0_1, g1r_0_2, g1r_0_3, g1r_0_4, g1r_0_5, g1r_0_6, g1r_0_7, g1r_0_8, g1r_1_5, g1n_2, g1r_3_0, g1r_3_1, g1r_3_2, g1r_4_9, g1r_4_10, g1r_4_11, g1r_4_12, g1r_4_13, g1r_4_14, g1r_4_15, g1r_4_16, g1r_4_17, g1n_5, g1n_6, g1n_7, g1n_8, g1n_9, g1n_10, g1n_11, g1n_12, g1n_13, g1r_14_2, g1r_14_3, g1r_14_4, g1r_14_5, g1r_14_6, g1n_15, g1n_16, g1n_17, g1n_18, g1n_19, g1r_20_7, g1r_20_8, g1n_21, g1r_22_2, g1n_23, g1r_24_0, g1r_24_1, g1r_24_2, g1r_25_9, g1r_25_10, g1r_25_11, g1r_25_12, g1r_25_13, g1r_25_14, g1r_25_15, g1r_25_16, g1r_25_17, g1n_26, g1n_27, g1n_28, g1n_29, g1n_30, g1n_31, g1n_32, g1n_33, g1n_34, g1r_35_2, g1r_35_3, g1r_35_4, g1r_35_5, g1r_35_6, g1n_36, g1n_37, g1n_38, g1n_39, g1n_40, g1r_41_7, g1r_41_8, g1n_42, g1r_43_2, g1n_44, g1r_45_0, g1r_45_1, g1r_45_2, g1r_46_9, g1r_46_10, g1r_46_11, g1r_46_12, g1r_46_13, g1r_46_14, g1r_46_15, g1r_46_16, g1r_46_17, g1n_47, g1n_48, g1n_49, g1n_50, g1n_51, g1n_52, g1n_53, g1n_54, g1n_55, g1r_56_2, g1r_56_3, g1r_56_4, g1r_56_5, g1r_56_6, g1n_57, g1n_58, g1n_59, g1n_60, g1n_61, g1r_62_7, g1r_62_8, g1n_63, g1r_64_2, g1n_65, g1r_66_2, g1n_67, g1r_68_7, g1r_68_8, g1n_69, g1r_70_2, g1n_71, g1r_72_7, g1r_72_8, g1n_73, g1r_74_2, g1n_75, g1r_76_7, g1r_76_8, g1n_77, g1r_78_2, g1n_79, g1r_80_7, g1r_80_8, g1n_81, g1r_82_2, g1n_83, g1r_84_7, g1r_84_8, g1n_85, g1r_86_2, g1n_87, g1r_88_7, g1r_88_8, g1n_89, g1r_90_2, g1n_91, g1r_92_7, g1r_92_8, g1n_93, g1r_94_2, g1n_95, g1r_96_7, g1r_96_8, g1n_97, g1r_98_2, g1n_99, g1r_100_7, g1r_100_8, g1n_101, g1r_102_2, g1n_103, g1r_104_7, g1r_104_8, g1n_105, g1r_106_2, g1n_107, g1r_108_7, g1r_108_8, g1n_109, g1r_110_2, g1n_111, g1r_112_7, g1r_112_8, g1n_113, g1r_114_2, g1n_115, g1r_116_7, g1r_116_8, g1n_117, g1r_118_2, g1n_119, g1r_120_0, g1r_120_1, g1r_120_2, g1r_121_7, g1r_121_8, g1n_122, g1r_123_2, g1n_124, g1n_125, g1n_126, g1r_127_0, g1r_127_1, g1r_127_2, g1r_127_3, g1r_128_7, g1r_128_8, g1n_129, g1r_130_2, g1n_131, g1n_132, g1n_133, g1n_134, g1r_135_7, g1n_136, g1n_150]
    refine lp_forR (fun k b => ∃ τ, b = ((shS (σ2.2.1 (y + 1)) (nI i) k).1, (shS (σ2.2.1 (y + 1)) (nI i) k).2, nI k, τ) ∧ TT z σ1 τ) _ (cN (σ2.2.1 (y + 1)) 2) (by omega) ?_ ?_ ⟨σ1, rfl, TT.r⟩
    · rintro k hk b ⟨τ, rfl, ht⟩
      left
      obtain ⟨υ, t1, h1⟩ := c_stingOf (z := z) (m := z + 20) (σ := τ) (who := nI i) hN h.wi (ht.tal h.tale) (ht.law h.law) ((ht.f (by omega)).trans h.bea) hk
      refine ⟨((shS (σ2.2.1 (y + 1)) (nI i) (k + 1)).1, (shS (σ2.2.1 (y + 1)) (nI i) (k + 1)).2, nI (k + 1), υ), ⟨υ, rfl, ht.t t1⟩, fun q => ?_⟩
      dsimp only
      rw [ht.f (by omega), h.tale.1.2.2.1, if_neg (cnt_lt wi.2.2.1.1 hk), h1, b_some, ht.f (by omega), ht.f (by omega), ht.f (by omega), h.dn.1, h.dn.2, h.pos, nI_1]
      show _ = q ((shT (σ2.2.1 (y + 1)) (nI i) k (shS (σ2.2.1 (y + 1)) (nI i) k)).1, (shT (σ2.2.1 (y + 1)) (nI i) k (shS (σ2.2.1 (y + 1)) (nI i) k)).2, _, _)
      unfold shT
      by_cases e : (shS (σ2.2.1 (y + 1)) (nI i) k).2 < stV (σ2.2.1 (y + 1)) (σ2.2.1 (y + 1) 7) (σ2.2.1 (y + 1) 9) (bc (σ2.2.1 (y + 1) 12)) (nI i) k
      · rw [if_pos e, if_neg (i_nle.mpr e)]
      · rw [if_neg e, if_pos (i_nlt.mp e)]
    · rintro b ⟨τ, rfl, ht⟩
      refine ⟨_, ⟨τ, ht, rfl⟩, fun q => ?_⟩
      dsimp only
      rw [ht.f (by omega), h.tale.1.2.2.1, if_pos (cnt_eN wi.2.2.1.1)]
  have B : ∃ r, (∃ τ2, LL y (lkN y (putF σ2 y 0 0)) τ2 ∧ r = ((shS (σ2.2.1 (y + 1)) (nI i) (cN (σ2.2.1 (y + 1)) 2)).1, τ2)) ∧ fX12_sharpest_b31 N (G2 y) y (nI i) (-1, -1, 0, lkN y (putF σ2 y 0 0)) = some r := by
    unfold fX12_sharpest_b31
    refine lp_forR (fun k b => ∃ τ, b = ((shS (σ2.2.1 (y + 1)) (nI i) k).1, (shS (σ2.2.1 (y + 1)) (nI i) k).2, nI k, τ) ∧ LL y (lkN y (putF σ2 y 0 0)) τ) _ (cN (σ2.2.1 (y + 1)) 2) (by omega) ?_ ?_ ⟨_, rfl, LL.r⟩
    · rintro k hk b ⟨τ, rfl, ht⟩
      left
      have hw : τ.2.1 (y + 1) = σ2.2.1 (y + 1) := ht.w
      obtain ⟨υ, l2, h2⟩ := r_stingsBy (N := N) (y := y) (σ := τ) (who := nI i) (word := k) hN (by rw [hw]; exact h.wi) (by rw [hw]; exact h.hl) (by rw [hw]; exact hk)
      refine ⟨((shS (σ2.2.1 (y + 1)) (nI i) (k + 1)).1, (shS (σ2.2.1 (y + 1)) (nI i) (k + 1)).2, nI (k + 1), υ), ⟨υ, rfl, ht.t l2⟩, fun q => ?_⟩
      dsimp only
      rw [r_words, b_some, hw, if_neg (cnt_lt wi.2.2.1.1 hk), h2, b_some, hw, ht.f (by omega), ht.f (by omega), ht.f (by omega), lkN_21, lkN_22, lkN_23]
      unfold fX12_sharpest_b61
      rw [nI_1, pfA]
      show _ = q ((shT (σ2.2.1 (y + 1)) (nI i) k (shS (σ2.2.1 (y + 1)) (nI i) k)).1, (shT (σ2.2.1 (y + 1)) (nI i) k (shS (σ2.2.1 (y + 1)) (nI i) k)).2, _, _)
      unfold shT
      by_cases e : (shS (σ2.2.1 (y + 1)) (nI i) k).2 < stV (σ2.2.1 (y + 1)) (σ2.2.1 (y + 1) 7) (σ2.2.1 (y + 1) 9) (bc (σ2.2.1 (y + 1) 12)) (nI i) k
      · rw [if_pos e, if_neg (i_nle.mpr e)]
        unfold jmax
        rw [if_pos e]
      · rw [if_neg e, if_pos (i_nlt.mp e)]
        unfold jmax
        rw [if_neg e]
    · rintro b ⟨τ, rfl, ht⟩
      refine ⟨_, ⟨τ, ht, rfl⟩, fun q => ?_⟩
      dsimp only
      rw [r_words, b_some, show τ.2.1 (y + 1) = σ2.2.1 (y + 1) from ht.w, if_pos (cnt_eN wi.2.2.1.1)]
  obtain ⟨_, ⟨τ1, t1, rfl⟩, h1⟩ := A
  obtain ⟨_, ⟨τ2, t2, rfl⟩, h2⟩ := B
  rw [r_looksNow, b_some, h1, h2]
  refine gdw_ok rfl rfl ?_ (h.keep (t1.e rfl rfl) ((E2.t0.t lkN_e).t t2.e))
  rw [t2.f (by omega), lkN_0, pf0]
