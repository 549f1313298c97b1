/-! dreams, and the reference's trials -/
theorem rlF_d {o k : Nat} (h : 116 ≤ o) : rlF o k = false := by
  have e2 : ∀ j, j < 116 → (o == j) = false := fun j hj => by simp; omega
  unfold rlF
  rw [e2 0 (by omega), e2 1 (by omega), e2 4 (by omega), e2 14 (by omega), e2 20 (by omega), e2 22 (by omega), e2 46 (by omega), e2 56 (by omega), e2 62 (by omega), e2 64 (by omega), decide_eq_false (show ¬ o ≤ 115 by omega)]
  simp
theorem rlA_d {o : Nat} (h : 116 ≤ o) : rlA o = false := by
  have e2 : ∀ j, j < 116 → (o == j) = false := fun j hj => by simp; omega
  unfold rlA
  rw [e2 2 (by omega), e2 21 (by omega), e2 23 (by omega), e2 63 (by omega), e2 65 (by omega), decide_eq_false (show ¬ o ≤ 18 by omega), decide_eq_false (show ¬ o ≤ 60 by omega), decide_eq_false (show ¬ o ≤ 115 by omega)]
  simp
theorem E1.pd {z o k : Nat} {σ τ : pS} {v : Int32} (h : E1 z σ τ) (ho : 116 ≤ o) : E1 z σ (putF τ (z + o) k v) := EE.pf h (rlF_d ho)
theorem c_dream {N z y o : Nat} {σ1 σ2 : pS} (ho : 116 ≤ o) (ha : MA z (z + o)) (h : Sim z y σ1 σ2) : ∃ τ, fX3_copyThoughtFrom N (G1 z) (z + o) (z + 20) σ1 = some τ ∧ MR False z (z + o) τ (σ2.2.1 (y + 1)) ∧ E1 z σ1 τ := by
  obtain ⟨τ, h1, h2, h3, h4, h5, _⟩ := c_copyT (N := N) (z := z) (a := z + o) (b := z + 20) (σ := σ1) (by omega) ha ma_20 (isZ_of (by rw [h.ask]; exact h.wi.a01))
  have e : E1 z σ1 τ := ⟨fun o' k e => h3 _ _ (fun q => by
    have e1 : o' = o := by omega
    rw [e1, rlF_d ho] at e
    cases e), fun o' e => h5 _ (fun q => by
    have e1 : o' = o + 1 := by omega
    rw [e1, rlA_d (by omega)] at e
    cases e)⟩
  have hs := h.keep e E2.r
  exact ⟨τ, h1, ⟨hs.wi, hs.tale, hs.law, mind_c h.wi.c1 h2 h4 h.mind, fun q => q.elim⟩, e⟩
theorem say_7 {w : Nat → Int32} {i j : Nat} (hw : WInv w) : sayW w i j 7 = dV w i j := by
  unfold sayW
  rw [tel_lo (by omega) (by omega), sayM_eq hw, up_ne (by decide), up_ne (by decide), va_up_self]
theorem say_12 {w : Nat → Int32} {i j : Nat} (hw : WInv w) : sayW w i j 12 = pbV w (w 12) j := by
  unfold sayW
  rw [tel_lo (by omega) (by omega), sayM_eq hw, up_ne (by decide), va_up_self]
theorem gd_would {N z y : Nat} (hN : 20000 < N) : Gd_would N (G1 z) (G2 y) z y (z + 150) (Sim z y) := by
  intro σ1 σ2 h c1 c2 c3 hz
  unfold fL_would
  apply gd_w
  unfold fX11_would fX12_would
  refine ww_pre h (fun τ => if_pos rfl) rfl (fun i j hi hj hi6 hj6 e1 e2 => ?_)
  subst e1
  subst e2
  simp only [g1r_0_0, g1r_0_1, g1r_0_2, g1r_0_3, g1r_0_4, g1r_0_5, g1r_0_6, g1r_0_7, g1r_0_8, g1r_1_5, g1n_2, g1r_3_0, g1r_3_1, g1r_3_2, g1r_4_9, g1r_4_10, g1r_4_11, g1r_4_12, g1r_4_13, g1r_4_14, g1r_4_15, g1r_4_16, g1r_4_17, g1n_5, g1n_6, g1n_7, g1n_8, g1n_9, g1n_10, g1n_11, g1n_12, g1n_13, g1r_14_2, g1r_14_3, g1r_14_4, g1r_14_5, g1r_14_6, g1n_15, g1n_16, g1n_17, g1n_18, g1n_19, g1r_20_7, g1r_20_8, g1n_21, g1r_22_2, g1n_23, g1r_24_0, g1r_24_1, g1r_24_2, g1r_25_9, g1r_25_10, g1r_25_11, g1r_25_12, g1r_25_13, g1r_25_14, g1r_25_15, g1r_25_16, g1r_25_17, g1n_26, g1n_27, g1n_28, g1n_29, g1n_30, g1n_31, g1n_32, g1n_33, g1n_34, g1r_35_2, g1r_35_3, g1r_35_4, g1r_35_5, g1r_35_6, g1n_36, g1n_37, g1n_38, g1n_39, g1n_40, g1r_41_7, g1r_41_8, g1n_42, g1r_43_2, g1n_44, g1r_45_0, g1r_45_1, g1r_45_2, g1r_46_9, g1r_46_10, g1r_46_11, g1r_46_12, g1r_46_13, g1r_46_14, g1r_46_15, g1r_46_16, g1r_46_17, g1n_47, g1n_48, g1n_49, g1n_50, g1n_51, g1n_52, g1n_53, g1n_54, g1n_55, g1r_56_2, g1r_56_3, g1r_56_4, g1r_56_5, g1r_56_6, g1n_57, g1n_58, g1n_59, g1n_60, g1n_61, g1r_62_7, g1r_62_8, g1n_63, g1r_64_2, g1n_65, g1r_66_2, g1n_67, g1r_68_7, g1r_68_8, g1n_69, g1r_70_2, g1n_71, g1r_72_7, g1r_72_8, g1n_73, g1r_74_2, g1n_75, g1r_76_7, g1r_76_8, g1n_77, g1r_78_2, g1n_79, g1r_80_7, g1r_80_8, g1n_81, g1r_82_2, g1n_83, g1r_84_7, g1r_84_8, g1n_85, g1r_86_2, g1n_87, g1r_88_7, g1r_88_8, g1n_89, g1r_90_2, g1n_91, g1r_92_7, g1r_92_8, g1n_93, g1r_94_2, g1n_95, g1r_96_7, g1r_96_8, g1n_97, g1r_98_2, g1n_99, g1r_100_7, g1r_100_8, g1n_101, g1r_102_2, g1n_103, g1r_104_7, g1r_104_8, g1n_105, g1r_106_2, g1n_107, g1r_108_7, g1r_108_8, g1n_109, g1r_110_2, g1n_111, g1r_112_7, g1r_112_8, g1n_113, g1r_114_2, g1n_115, g1r_116_7, g1r_116_8, g1n_117, g1r_118_2, g1n_119, g1r_120_0, g1r_120_1, g1r_120_2, g1r_121_7, g1r_121_8, g1n_122, g1r_123_2, g1n_124, g1n_125, g1n_126, g1r_127_0, g1r_127_1, g1r_127_2, g1r_127_3, g1r_128_7, g1r_128_8, g1n_129, g1r_130_2, g1n_131, g1n_132, g1n_133, g1n_134, g1r_135_7, g1n_136, g1n_150]
  obtain ⟨τ1, a1, a2, a3⟩ := c_dream (N := N) (o := 116) (by omega) ma_116 h
  obtain ⟨υ1, b1, b2, b3⟩ := c_speak (N := N) (i := i) (j := j) hN (by omega) ma_116 a2 hi hj
  rw [a1, b_some, b1, b_some]
  unfold fX12_would_b27
  rw [r_t0, b_some, if_pos rfl, r_looksNow, b_some]
  have e1 : E1 z σ1 υ1 := a3.t (b3.d (by omega))
  by_cases q : c3 = 0
  · obtain ⟨τ2, l2, h2⟩ := r_behindWord (N := N) (y := y) (σ := lkN y (putF σ2 y 0 0)) (who := nI i) (word := j) hN h.wi h.hl hj
    rw [lkN_21, lkN_22, lkN_23] at h2
    rw [if_pos q, if_pos q, h2, b_some, show υ1.1 (z + 116) 0 = dV (σ2.2.1 (y + 1)) i j from b2.2.2.2.1.1.trans (say_7 h.wi)]
    refine gdw_ok rfl rfl ?_ (h.keep e1 ((E2.t0.t lkN_e).t l2.e))
    rw [l2.f (by omega), lkN_0, pf0]
  · have hp := r_possibleBehind (N := N) (y := y) (s := σ2.2.1 (y + 1) 12) (σ := lkN y (putF σ2 y 0 0)) hN h.wi hj
    have hp' : fX12_possibleBehind N (G2 y) y (gA (lkN y (putF σ2 y 0 0)) (y + 1) 12) (nI j) (lkN y (putF σ2 y 0 0)) = some (pbV (σ2.2.1 (y + 1)) (σ2.2.1 (y + 1) 12) j) := hp
    rw [if_neg q, if_neg q, bc_fn, b_some, show υ1.1 (z + 116) 3 = pbV (σ2.2.1 (y + 1)) (σ2.2.1 (y + 1) 12) j from b2.2.2.2.1.2.2.2.1.trans (say_12 h.wi)]
    simp only [g2r_0_1, g2r_0_2, g2r_0_3, g2r_0_4, g2r_0_5, g2r_0_8, g2r_0_15, g2r_0_17, g2r_0_25, g2r_0_26, g2r_0_27, g2r_0_28, g2n_1, g2n_2, g2n_3, g2n_4, g2n_5, g2n_6, g2n_7, g2n_8, g2n_9, g2n_10, g2n_11, g2n_12]
    rw [hp']
    refine gdw_ok rfl rfl ?_ (h.keep e1 (E2.t0.t lkN_e))
    rw [lkN_0, pf0]
theorem cpF_s0 {D S : Nat → Int32} {k : Nat} : (fun j => if j = k then S k else cpF D S 0 k j) = cpF D S 0 (k + 1) := by
  have := cpF_s (D := D) (S := S) (lo := 0) (k := k)
  rw [Nat.zero_add] at this
  exact this
theorem cpF_all {D S w : Nat → Int32} {n : Nat} (h1 : ∀ k, k < n → S k = w k) (h2 : ∀ k, n ≤ k → D k = w k) : cpF D S 0 n = w := by
  funext k
  show (if 0 ≤ k ∧ k < 0 + n then S (k - 0) else D k) = w k
  by_cases e : k < n
  · rw [if_pos (by omega), Nat.sub_zero, h1 k e]
  · rw [if_neg (by omega), h2 k (by omega)]
theorem r_keepsAll {N y : Nat} {σ : pS} (hN : 20000 < N) : fX12_keepsAll N (G2 y) y σ = some (rowA σ (y + 4) (cpF (σ.2.1 (y + 4)) (σ.2.1 (y + 1)) 0 383)) := by
  unfold fX12_keepsAll fX12_keepsAll_b2
  simp only [g2r_0_1, g2r_0_2, g2r_0_3, g2r_0_4, g2r_0_5, g2r_0_8, g2r_0_15, g2r_0_17, g2r_0_25, g2r_0_26, g2r_0_27, g2r_0_28, g2n_1, g2n_2, g2n_3, g2n_4, g2n_5, g2n_6, g2n_7, g2n_8, g2n_9, g2n_10, g2n_11, g2n_12]
  have h0 : ((0 : Int32), σ) = (nI 0, rowA σ (y + 4) (cpF (σ.2.1 (y + 4)) (σ.2.1 (y + 1)) 0 0)) := by
    rw [cpF_0, rowA_self]
    rfl
  rw [h0]
  refine lp_for (fun k => (nI k, rowA σ (y + 4) (cpF (σ.2.1 (y + 4)) (σ.2.1 (y + 1)) 0 k))) 383 _ (by omega) ?_ ?_
  · intro k hk q
    dsimp only
    rw [if_neg (show ¬ (383 : Int32) ≤ nI k from lit_lt (m := 383) hk (by decide)), ck_nI (by omega) (by omega), ck_nI (by omega) (by omega), gA_nI (by omega), row_o (by omega), sA_rowA (nI_clamp (by omega)), cpF_s0, nI_1]
  · intro q
    dsimp only
    rw [if_pos (show (383 : Int32) ≤ nI 383 from lit_end)]
theorem r_brings {N y : Nat} {σ : pS} {w : Nat → Int32} (hN : 20000 < N) (h1 : ∀ k, k < 383 → σ.2.1 (y + 4) k = w k) (h2 : ∀ k, 383 ≤ k → σ.2.1 (y + 1) k = w k) : fX12_bringsBack N (G2 y) y σ = some (rowA σ (y + 1) w) := by
  unfold fX12_bringsBack fX12_bringsBack_b2
  simp only [g2r_0_1, g2r_0_2, g2r_0_3, g2r_0_4, g2r_0_5, g2r_0_8, g2r_0_15, g2r_0_17, g2r_0_25, g2r_0_26, g2r_0_27, g2r_0_28, g2n_1, g2n_2, g2n_3, g2n_4, g2n_5, g2n_6, g2n_7, g2n_8, g2n_9, g2n_10, g2n_11, g2n_12]
  have h0 : ((0 : Int32), σ) = (nI 0, rowA σ (y + 1) (cpF (σ.2.1 (y + 1)) (σ.2.1 (y + 4)) 0 0)) := by
    rw [cpF_0, rowA_self]
    rfl
  rw [h0, ← cpF_all (D := σ.2.1 (y + 1)) (S := σ.2.1 (y + 4)) h1 h2]
  refine lp_for (fun k => (nI k, rowA σ (y + 1) (cpF (σ.2.1 (y + 1)) (σ.2.1 (y + 4)) 0 k))) 383 _ (by omega) ?_ ?_
  · intro k hk q
    dsimp only
    rw [if_neg (show ¬ (383 : Int32) ≤ nI k from lit_lt (m := 383) hk (by decide)), ck_nI (by omega) (by omega), ck_nI (by omega) (by omega), gA_nI (by omega), row_o (by omega), sA_rowA (nI_clamp (by omega)), cpF_s0, nI_1]
  · intro q
    dsimp only
    rw [if_pos (show (383 : Int32) ≤ nI 383 from lit_end)]
/-- keep all, and bring it back -/
theorem r_keep {N y : Nat} {σ : pS} (hN : 20000 < N) : ∃ κ, fX12_keepsAll N (G2 y) y σ = some κ ∧ κ.2.1 (y + 1) = σ.2.1 (y + 1) ∧ (∀ τ, SS y κ τ → (∀ k, mindK k = false → τ.2.1 (y + 1) k = σ.2.1 (y + 1) k) → fX12_bringsBack N (G2 y) y τ = some (rowA τ (y + 1) (σ.2.1 (y + 1)))) ∧ (∀ τ, SS y κ τ → τ.2.1 (y + 1) = σ.2.1 (y + 1) → E2 y σ τ) ∧ (∀ τ, SS y κ τ → τ.1 y 0 = σ.1 y 0) := by
  refine ⟨_, r_keepsAll hN, row_o (by omega), fun τ s e => r_brings hN (fun k hk => ?_) (fun k hk => e k (mk_law k hk)), fun τ s e => ⟨fun k hk => s.f (by omega), fun j hj => ?_⟩, fun τ s => s.f (by omega)⟩
  · rw [s.2 (y + 4) (by omega) (by omega), row_s]
    have := cpF_in (D := σ.2.1 (y + 4)) (S := σ.2.1 (y + 1)) (lo := 0) hk
    rw [Nat.zero_add] at this
    exact this
  · by_cases e1 : j = 1
    · subst e1
      exact e
    · rw [s.2 (y + j) (by omega) (by omega), row_o (by omega)]
/-- nights ahead -/
def ahW (w : Nat → Int32) (d : Int32) : Nat → Nat → Int32 := itN (fun _ x => caW x d) w
theorem ahW_s {w : Nat → Int32} {d : Int32} {n : Nat} : ahW w d (n + 1) = caW (ahW w d n) d := rfl
theorem Sv.ah {w : Nat → Int32} {d : Int32} (hw : WInv w) (hl : HasLaw w) (hd : dOK w d) : ∀ n, Sv w (ahW w d n) := by
  intro n
  induction n with
  | zero => exact Sv.r hw hl
  | succ n ih => exact ih.ca (hd.v ih)
theorem m1_ne {k : Nat} (h : k < 2147483648) : ¬ nI k = -1 := fun q => by
  have : (nI k).toInt = (-1 : Int32).toInt := by rw [q]
  rw [nI_toInt (by omega), show (-1 : Int32).toInt = -1 from rfl] at this
  omega
theorem dn_pre {N z y : Nat} {σ1 σ2 : pS} {c : Int32} {H : String × pS → Option (Int32 × pS)} {K : pS → Option ((Int32 × pS) ⊕ (String × pS))} {R : Int32 × pS → Option (Int32 × pS)} (h : Sim z y σ1 σ2) (hH : ∀ τ, H ("java/lang/IndexOutOfBoundsException", τ) = some (1, τ)) (hk : dOK (σ2.2.1 (y + 1)) c → GDw z y H (K σ1) (R (0, putF σ2 y 0 0))) : GDw z y H ((fX11_needDeedOrNone N (G1 z) z c σ1).bind (fun q => q.elim K (fun e => some (.inr e)))) ((fX12_noDeedTold N (G2 y) y c (putF σ2 y 0 0)).bind (fun q => (fX12_throwsIf N (G2 y) y q 1 (putF σ2 y 0 0)).bind (fun q => if q.1 = 0 then R q else some (0, q.2)))) := by
  have wi := h.wi
  unfold fX11_needDeedOrNone fX12_noDeedTold
  by_cases e : c = -1
  · rw [if_pos e, if_pos e, b_some, b_some, e_inl, r_t0, b_some, if_pos rfl]
    exact hk (Or.inl e)
  rw [if_neg e, if_neg e, c_needDeed h.tale.1.2.2.2.1, r_noDeed (σ := putF σ2 y 0 0) wi.2.2.2.1.1, pfA]
  by_cases h0 : c < 0
  · rw [if_pos h0, if_pos h0]
    exact gdw_ex hH (by decide) rfl rfl pf0 h.th
  by_cases h1 : c < σ2.2.1 (y + 1) 3
  · rw [if_neg h0, if_neg h0, if_pos h1, if_pos h1, b_some, b_some, e_inl, if_pos rfl, b_some, b_some, e_inl, r_t0, b_some, if_pos rfl]
    obtain ⟨k, hk1, _, rfl⟩ := nI_lt_of h0 h1
    exact hk (Or.inr ⟨k, hk1, rfl⟩)
  · rw [if_neg h0, if_neg h0, if_neg h1, if_neg h1]
    exact gdw_ex hH (by decide) rfl rfl pf0 h.th
theorem MR.w {b : Prop} {z m : Nat} {σ : pS} {w v : Nat → Int32} (h : MR b z m σ w) (e : w = v) : MR b z m σ v := by
  subst e
  exact h
theorem nI_rng {c : Int32} {m : Nat} (hm : m < 2147483648) (h0 : ¬ c < 0) (h1 : ¬ nI m < c) : ∃ n, n ≤ m ∧ c = nI n := by
  obtain ⟨j, hj, rfl⟩ := nI_of h0
  rw [i_lt, nI_toInt (by omega), nI_toInt (by omega)] at h1
  exact ⟨j, by omega, rfl⟩
theorem gd_ahead {N z y : Nat} (hN : 20000 < N) : Gd_ahead N (G1 z) (G2 y) z y (z + 150) (Sim z y) := by
  intro σ1 σ2 h c1 c2
  unfold fL_ahead
  apply gd_w
  unfold fX11_ahead fX12_ahead
  refine dn_pre h (fun τ => if_pos rfl) (fun hd => ?_)
  have wi := h.wi
  have hl := h.hl
  simp only [r_inn, b_some]
  by_cases g0 : c2 < 0
  · rw [if_pos g0, if_pos g0]
    exact gdw_ex (k := 2) (fun τ => (if_neg iae_ne).trans (if_pos rfl)) (by decide) rfl rfl pf0 h.th
  by_cases g1 : 400 < c2
  · rw [if_neg g0, if_pos g1, if_neg g0, if_pos g1]
    exact gdw_ex (k := 2) (fun τ => (if_neg iae_ne).trans (if_pos rfl)) (by decide) rfl rfl pf0 h.th
  rw [if_neg g0, if_neg g1, if_neg g0, if_neg g1, if_neg (by decide)]
  obtain ⟨n, hn, rfl⟩ := nI_rng (m := 400) (by omega) g0 g1
  unfold fX11_ahead_b22 fX12_ahead_b35
  rw [c_need1, b_some, e_inl, r_t0, b_some, if_pos rfl]
  simp only [g1r_0_0, g1r_0_1, g1r_0_2, g1r_0_3, g1r_0_4, g1r_0_5, g1r_0_6, g1r_0_7, g1r_0_8, g1r_1_5, g1n_2, g1r_3_0, g1r_3_1, g1r_3_2, g1r_4_9, g1r_4_10, g1r_4_11, g1r_4_12, g1r_4_13, g1r_4_14, g1r_4_15, g1r_4_16, g1r_4_17, g1n_5, g1n_6, g1n_7, g1n_8, g1n_9, g1n_10, g1n_11, g1n_12, g1n_13, g1r_14_2, g1r_14_3, g1r_14_4, g1r_14_5, g1r_14_6, g1n_15, g1n_16, g1n_17, g1n_18, g1n_19, g1r_20_7, g1r_20_8, g1n_21, g1r_22_2, g1n_23, g1r_24_0, g1r_24_1, g1r_24_2, g1r_25_9, g1r_25_10, g1r_25_11, g1r_25_12, g1r_25_13, g1r_25_14, g1r_25_15, g1r_25_16, g1r_25_17, g1n_26, g1n_27, g1n_28, g1n_29, g1n_30, g1n_31, g1n_32, g1n_33, g1n_34, g1r_35_2, g1r_35_3, g1r_35_4, g1r_35_5, g1r_35_6, g1n_36, g1n_37, g1n_38, g1n_39, g1n_40, g1r_41_7, g1r_41_8, g1n_42, g1r_43_2, g1n_44, g1r_45_0, g1r_45_1, g1r_45_2, g1r_46_9, g1r_46_10, g1r_46_11, g1r_46_12, g1r_46_13, g1r_46_14, g1r_46_15, g1r_46_16, g1r_46_17, g1n_47, g1n_48, g1n_49, g1n_50, g1n_51, g1n_52, g1n_53, g1n_54, g1n_55, g1r_56_2, g1r_56_3, g1r_56_4, g1r_56_5, g1r_56_6, g1n_57, g1n_58, g1n_59, g1n_60, g1n_61, g1r_62_7, g1r_62_8, g1n_63, g1r_64_2, g1n_65, g1r_66_2, g1n_67, g1r_68_7, g1r_68_8, g1n_69, g1r_70_2, g1n_71, g1r_72_7, g1r_72_8, g1n_73, g1r_74_2, g1n_75, g1r_76_7, g1r_76_8, g1n_77, g1r_78_2, g1n_79, g1r_80_7, g1r_80_8, g1n_81, g1r_82_2, g1n_83, g1r_84_7, g1r_84_8, g1n_85, g1r_86_2, g1n_87, g1r_88_7, g1r_88_8, g1n_89, g1r_90_2, g1n_91, g1r_92_7, g1r_92_8, g1n_93, g1r_94_2, g1n_95, g1r_96_7, g1r_96_8, g1n_97, g1r_98_2, g1n_99, g1r_100_7, g1r_100_8, g1n_101, g1r_102_2, g1n_103, g1r_104_7, g1r_104_8, g1n_105, g1r_106_2, g1n_107, g1r_108_7, g1r_108_8, g1n_109, g1r_110_2, g1n_111, g1r_112_7, g1r_112_8, g1n_113, g1r_114_2, g1n_115, g1r_116_7, g1r_116_8, g1n_117, g1r_118_2, g1n_119, g1r_120_0, g1r_120_1, g1r_120_2, g1r_121_7, g1r_121_8, g1n_122, g1r_123_2, g1n_124, g1n_125, g1n_126, g1r_127_0, g1r_127_1, g1r_127_2, g1r_127_3, g1r_128_7, g1r_128_8, g1n_129, g1r_130_2, g1n_131, g1n_132, g1n_133, g1n_134, g1r_135_7, g1n_136, g1n_150]
  obtain ⟨τ1, a1, a2, a3⟩ := c_dream (N := N) (o := 116) (by omega) ma_116 h
  obtain ⟨κ, k1, k2, k3, k4, k5⟩ := r_keep (N := N) (y := y) (σ := putF σ2 y 0 0) hN
  rw [a1, b_some, k1, b_some]
  have S := Sv.ah wi hl hd
  have A : ∃ r, (∃ υ, E1 z σ1 υ ∧ r = .inl (ahW (σ2.2.1 (y + 1)) c1 n 7, υ)) ∧ fX11_ahead_b41 N (G1 z) z c1 (nI n) (0, τ1) = some r := by
    unfold fX11_ahead_b41
    simp only [g1r_0_0, g1r_0_1, g1r_0_2, g1r_0_3, g1r_0_4, g1r_0_5, g1r_0_6, g1r_0_7, g1r_0_8, g1r_1_5, g1n_2, g1r_3_0, g1r_3_1, g1r_3_2, g1r_4_9, g1r_4_10, g1r_4_11, g1r_4_12, g1r_4_13, g1r_4_14, g1r_4_15, g1r_4_16, g1r_4_17, g1n_5, g1n_6, g1n_7, g1n_8, g1n_9, g1n_10, g1n_11, g1n_12, g1n_13, g1r_14_2, g1r_14_3, g1r_14_4, g1r_14_5, g1r_14_6, g1n_15, g1n_16, g1n_17, g1n_18, g1n_19, g1r_20_7, g1r_20_8, g1n_21, g1r_22_2, g1n_23, g1r_24_0, g1r_24_1, g1r_24_2, g1r_25_9, g1r_25_10, g1r_25_11, g1r_25_12, g1r_25_13, g1r_25_14, g1r_25_15, g1r_25_16, g1r_25_17, g1n_26, g1n_27, g1n_28, g1n_29, g1n_30, g1n_31, g1n_32, g1n_33, g1n_34, g1r_35_2, g1r_35_3, g1r_35_4, g1r_35_5, g1r_35_6, g1n_36, g1n_37, g1n_38, g1n_39, g1n_40, g1r_41_7, g1r_41_8, g1n_42, g1r_43_2, g1n_44, g1r_45_0, g1r_45_1, g1r_45_2, g1r_46_9, g1r_46_10, g1r_46_11, g1r_46_12, g1r_46_13, g1r_46_14, g1r_46_15, g1r_46_16, g1r_46_17, g1n_47, g1n_48, g1n_49, g1n_50, g1n_51, g1n_52, g1n_53, g1n_54, g1n_55, g1r_56_2, g1r_56_3, g1r_56_4, g1r_56_5, g1r_56_6, g1n_57, g1n_58, g1n_59, g1n_60, g1n_61, g1r_62_7, g1r_62_8, g1n_63, g1r_64_2, g1n_65, g1r_66_2, g1n_67, g1r_68_7, g1r_68_8, g1n_69, g1r_70_2, g1n_71, g1r_72_7, g1r_72_8, g1n_73, g1r_74_2, g1n_75, g1r_76_7, g1r_76_8, g1n_77, g1r_78_2, g1n_79, g1r_80_7, g1r_80_8, g1n_81, g1r_82_2, g1n_83, g1r_84_7, g1r_84_8, g1n_85, g1r_86_2, g1n_87, g1r_88_7, g1r_88_8, g1n_89, g1r_90_2, g1n_91, g1r_92_7, g1r_92_8, g1n_93, g1r_94_2, g1n_95, g1r_96_7, g1r_96_8, g1n_97, g1r_98_2, g1n_99, g1r_100_7, g1r_100_8, g1n_101, g1r_102_2, g1n_103, g1r_104_7, g1r_104_8, g1n_105, g1r_106_2, g1n_107, g1r_108_7, g1r_108_8, g1n_109, g1r_110_2, g1n_111, g1r_112_7, g1r_112_8, g1n_113, g1r_114_2, g1n_115, g1r_116_7, g1r_116_8, g1n_117, g1r_118_2, g1n_119, g1r_120_0, g1r_120_1, g1r_120_2, g1r_121_7, g1r_121_8, g1n_122, g1r_123_2, g1n_124, g1n_125, g1n_126, g1r_127_0, g1r_127_1, g1r_127_2, g1r_127_3, g1r_128_7, g1r_128_8, g1n_129, g1r_130_2, g1n_131, g1n_132, g1n_133, g1n_134, g1r_135_7, g1n_136, g1n_150]
    refine lp_forR (fun k b => ∃ τ, b = (nI k, τ) ∧ MR False z (z + 116) τ (ahW (σ2.2.1 (y + 1)) c1 k) ∧ E1 z σ1 τ) _ n (by omega) ?_ ?_ ⟨τ1, rfl, a2, a3⟩
    · rintro k hk _ ⟨τ, rfl, hmr, he⟩
      left
      obtain ⟨υ, b1, b2, b3⟩ := c_plain (N := N) hN (by omega) ma_116 hmr (hd.v (S k))
      refine ⟨(nI (k + 1), υ), ⟨υ, rfl, b2, he.t (b3.d (by omega))⟩, fun q => ?_⟩
      dsimp only
      rw [if_neg (nI_ge hk (by omega)), b1, b_some, nI_1]
    · rintro _ ⟨τ, rfl, hmr, he⟩
      refine ⟨_, ⟨τ, he, rfl⟩, fun q => ?_⟩
      dsimp only
      rw [if_pos lit_end, hmr.2.2.2.1.1]
  have B : ∃ r, (∃ υ, E2 y (putF σ2 y 0 0) υ ∧ υ.1 y 0 = 0 ∧ r = (ahW (σ2.2.1 (y + 1)) c1 n 7, υ)) ∧ fX12_ahead_b50 N (G2 y) y c1 (nI n) (0, κ) = some r := by
    unfold fX12_ahead_b50
    simp only [g2r_0_1, g2r_0_2, g2r_0_3, g2r_0_4, g2r_0_5, g2r_0_8, g2r_0_15, g2r_0_17, g2r_0_25, g2r_0_26, g2r_0_27, g2r_0_28, g2n_1, g2n_2, g2n_3, g2n_4, g2n_5, g2n_6, g2n_7, g2n_8, g2n_9, g2n_10, g2n_11, g2n_12]
    refine lp_forR (fun k b => ∃ τ, b = (nI k, τ) ∧ τ.2.1 (y + 1) = ahW (σ2.2.1 (y + 1)) c1 k ∧ SS y κ τ) _ n (by omega) ?_ ?_ ⟨κ, rfl, k2, SS.r⟩
    · rintro k hk _ ⟨τ, rfl, hmr, he⟩
      left
      obtain ⟨υ, b1, b2, b3⟩ := r_calm (N := N) (y := y) (σ := τ) (d := c1) hN (by rw [hmr]; exact (S k).1) (by rw [hmr]; exact (S k).2.1) (by rw [hmr]; exact hd.v (S k))
      refine ⟨(nI (k + 1), υ), ⟨υ, rfl, by rw [b2, hmr]; rfl, he.t b3⟩, fun q => ?_⟩
      dsimp only
      rw [if_neg (nI_ge hk (by omega)), b1, b_some, nI_1]
    · rintro _ ⟨τ, rfl, hmr, he⟩
      have hb := k3 τ he (by rw [hmr]; exact (S n).2.2)
      refine ⟨_, ⟨_, k4 _ he.w row_s, (k5 _ he.w).trans pf0, rfl⟩, fun q => ?_⟩
      dsimp only
      rw [if_pos lit_end, hb, ← hmr]
      rfl
  obtain ⟨_, ⟨υ1, e1, rfl⟩, h1⟩ := A
  obtain ⟨_, ⟨υ2, e2, e0, rfl⟩, h2⟩ := B
  rw [h1, h2]
  exact gdw_ok rfl rfl e0 (h.keep e1 (E2.t0.t e2))
/-- the first night by which she asked -/
def fiR (w : Nat → Int32) (d : Int32) : Nat → Nat → Int32
  | 0, _ => -1
  | n + 1, k => if ahW w d (k + 1) 13 = 0 then fiR w d n (k + 1) else nI (k + 1)
theorem gd_first {N z y : Nat} (hN : 20000 < N) : Gd_first N (G1 z) (G2 y) z y (z + 150) (Sim z y) := by
  intro σ1 σ2 h c1
  unfold fL_first
  apply gd_w
  unfold fX11_first fX12_first
  refine dn_pre h (fun τ => if_pos rfl) (fun hd => ?_)
  have wi := h.wi
  have hl := h.hl
  simp only [g1r_0_0, g1r_0_1, g1r_0_2, g1r_0_3, g1r_0_4, g1r_0_5, g1r_0_6, g1r_0_7, g1r_0_8, g1r_1_5, g1n_2, g1r_3_0, g1r_3_1, g1r_3_2, g1r_4_9, g1r_4_10, g1r_4_11, g1r_4_12, g1r_4_13, g1r_4_14, g1r_4_15, g1r_4_16, g1r_4_17, g1n_5, g1n_6, g1n_7, g1n_8, g1n_9, g1n_10, g1n_11, g1n_12, g1n_13, g1r_14_2, g1r_14_3, g1r_14_4, g1r_14_5, g1r_14_6, g1n_15, g1n_16, g1n_17, g1n_18, g1n_19, g1r_20_7, g1r_20_8, g1n_21, g1r_22_2, g1n_23, g1r_24_0, g1r_24_1, g1r_24_2, g1r_25_9, g1r_25_10, g1r_25_11, g1r_25_12, g1r_25_13, g1r_25_14, g1r_25_15, g1r_25_16, g1r_25_17, g1n_26, g1n_27, g1n_28, g1n_29, g1n_30, g1n_31, g1n_32, g1n_33, g1n_34, g1r_35_2, g1r_35_3, g1r_35_4, g1r_35_5, g1r_35_6, g1n_36, g1n_37, g1n_38, g1n_39, g1n_40, g1r_41_7, g1r_41_8, g1n_42, g1r_43_2, g1n_44, g1r_45_0, g1r_45_1, g1r_45_2, g1r_46_9, g1r_46_10, g1r_46_11, g1r_46_12, g1r_46_13, g1r_46_14, g1r_46_15, g1r_46_16, g1r_46_17, g1n_47, g1n_48, g1n_49, g1n_50, g1n_51, g1n_52, g1n_53, g1n_54, g1n_55, g1r_56_2, g1r_56_3, g1r_56_4, g1r_56_5, g1r_56_6, g1n_57, g1n_58, g1n_59, g1n_60, g1n_61, g1r_62_7, g1r_62_8, g1n_63, g1r_64_2, g1n_65, g1r_66_2, g1n_67, g1r_68_7, g1r_68_8, g1n_69, g1r_70_2, g1n_71, g1r_72_7, g1r_72_8, g1n_73, g1r_74_2, g1n_75, g1r_76_7, g1r_76_8, g1n_77, g1r_78_2, g1n_79, g1r_80_7, g1r_80_8, g1n_81, g1r_82_2, g1n_83, g1r_84_7, g1r_84_8, g1n_85, g1r_86_2, g1n_87, g1r_88_7, g1r_88_8, g1n_89, g1r_90_2, g1n_91, g1r_92_7, g1r_92_8, g1n_93, g1r_94_2, g1n_95, g1r_96_7, g1r_96_8, g1n_97, g1r_98_2, g1n_99, g1r_100_7, g1r_100_8, g1n_101, g1r_102_2, g1n_103, g1r_104_7, g1r_104_8, g1n_105, g1r_106_2, g1n_107, g1r_108_7, g1r_108_8, g1n_109, g1r_110_2, g1n_111, g1r_112_7, g1r_112_8, g1n_113, g1r_114_2, g1n_115, g1r_116_7, g1r_116_8, g1n_117, g1r_118_2, g1n_119, g1r_120_0, g1r_120_1, g1r_120_2, g1r_121_7, g1r_121_8, g1n_122, g1r_123_2, g1n_124, g1n_125, g1n_126, g1r_127_0, g1r_127_1, g1r_127_2, g1r_127_3, g1r_128_7, g1r_128_8, g1n_129, g1r_130_2, g1n_131, g1n_132, g1n_133, g1n_134, g1r_135_7, g1n_136, g1n_150]
  obtain ⟨τ1, a1, a2, a3⟩ := c_dream (N := N) (o := 116) (by omega) ma_116 h
  obtain ⟨κ, k1, k2, k3, k4, k5⟩ := r_keep (N := N) (y := y) (σ := putF σ2 y 0 0) hN
  rw [a1, b_some, k1, b_some]
  have S := Sv.ah wi hl hd
  have A : ∃ r, (∃ υ, E1 z σ1 υ ∧ r = .inl (fiR (σ2.2.1 (y + 1)) c1 400 0, υ)) ∧ fX11_first_b21 N (G1 z) z c1 (1, τ1) = some r := by
    unfold fX11_first_b21
    simp only [g1r_0_0, g1r_0_1, g1r_0_2, g1r_0_3, g1r_0_4, g1r_0_5, g1r_0_6, g1r_0_7, g1r_0_8, g1r_1_5, g1n_2, g1r_3_0, g1r_3_1, g1r_3_2, g1r_4_9, g1r_4_10, g1r_4_11, g1r_4_12, g1r_4_13, g1r_4_14, g1r_4_15, g1r_4_16, g1r_4_17, g1n_5, g1n_6, g1n_7, g1n_8, g1n_9, g1n_10, g1n_11, g1n_12, g1n_13, g1r_14_2, g1r_14_3, g1r_14_4, g1r_14_5, g1r_14_6, g1n_15, g1n_16, g1n_17, g1n_18, g1n_19, g1r_20_7, g1r_20_8, g1n_21, g1r_22_2, g1n_23, g1r_24_0, g1r_24_1, g1r_24_2, g1r_25_9, g1r_25_10, g1r_25_11, g1r_25_12, g1r_25_13, g1r_25_14, g1r_25_15, g1r_25_16, g1r_25_17, g1n_26, g1n_27, g1n_28, g1n_29, g1n_30, g1n_31, g1n_32, g1n_33, g1n_34, g1r_35_2, g1r_35_3, g1r_35_4, g1r_35_5, g1r_35_6, g1n_36, g1n_37, g1n_38, g1n_39, g1n_40, g1r_41_7, g1r_41_8, g1n_42, g1r_43_2, g1n_44, g1r_45_0, g1r_45_1, g1r_45_2, g1r_46_9, g1r_46_10, g1r_46_11, g1r_46_12, g1r_46_13, g1r_46_14, g1r_46_15, g1r_46_16, g1r_46_17, g1n_47, g1n_48, g1n_49, g1n_50, g1n_51, g1n_52, g1n_53, g1n_54, g1n_55, g1r_56_2, g1r_56_3, g1r_56_4, g1r_56_5, g1r_56_6, g1n_57, g1n_58, g1n_59, g1n_60, g1n_61, g1r_62_7, g1r_62_8, g1n_63, g1r_64_2, g1n_65, g1r_66_2, g1n_67, g1r_68_7, g1r_68_8, g1n_69, g1r_70_2, g1n_71, g1r_72_7, g1r_72_8, g1n_73, g1r_74_2, g1n_75, g1r_76_7, g1r_76_8, g1n_77, g1r_78_2, g1n_79, g1r_80_7, g1r_80_8, g1n_81, g1r_82_2, g1n_83, g1r_84_7, g1r_84_8, g1n_85, g1r_86_2, g1n_87, g1r_88_7, g1r_88_8, g1n_89, g1r_90_2, g1n_91, g1r_92_7, g1r_92_8, g1n_93, g1r_94_2, g1n_95, g1r_96_7, g1r_96_8, g1n_97, g1r_98_2, g1n_99, g1r_100_7, g1r_100_8, g1n_101, g1r_102_2, g1n_103, g1r_104_7, g1r_104_8, g1n_105, g1r_106_2, g1n_107, g1r_108_7, g1r_108_8, g1n_109, g1r_110_2, g1n_111, g1r_112_7, g1r_112_8, g1n_113, g1r_114_2, g1n_115, g1r_116_7, g1r_116_8, g1n_117, g1r_118_2, g1n_119, g1r_120_0, g1r_120_1, g1r_120_2, g1r_121_7, g1r_121_8, g1n_122, g1r_123_2, g1n_124, g1n_125, g1n_126, g1r_127_0, g1r_127_1, g1r_127_2, g1r_127_3, g1r_128_7, g1r_128_8, g1n_129, g1r_130_2, g1n_131, g1n_132, g1n_133, g1n_134, g1r_135_7, g1n_136, g1n_150]
    refine lp_forR (fun k b => ∃ τ, b = (nI (k + 1), τ) ∧ MR False z (z + 116) τ (ahW (σ2.2.1 (y + 1)) c1 k) ∧ E1 z σ1 τ ∧ fiR (σ2.2.1 (y + 1)) c1 (400 - k) k = fiR (σ2.2.1 (y + 1)) c1 400 0) _ 400 (by omega) ?_ ?_ ⟨τ1, rfl, a2, a3, rfl⟩
    · rintro k hk _ ⟨τ, rfl, hmr, he, hf⟩
      obtain ⟨υ, b1, b2, b3⟩ := c_plain (N := N) hN (by omega) ma_116 hmr (hd.v (S k))
      have b2' : MR False z (z + 116) υ (ahW (σ2.2.1 (y + 1)) c1 (k + 1)) := b2
      have e6 : υ.1 (z + 116) 6 = ahW (σ2.2.1 (y + 1)) c1 (k + 1) 13 := b2'.2.2.2.1.2.2.2.2.2.2.1
      rw [show 400 - k = (399 - k) + 1 by omega] at hf
      unfold fiR at hf
      by_cases a : ahW (σ2.2.1 (y + 1)) c1 (k + 1) 13 = 0
      · left
        rw [if_pos a] at hf
        refine ⟨(nI (k + 1 + 1), υ), ⟨υ, rfl, b2', he.t (b3.d (by omega)), by rw [show 400 - (k + 1) = 399 - k by omega]; exact hf⟩, fun q => ?_⟩
        dsimp only
        rw [if_neg (show ¬ (400 : Int32) < nI (k + 1) from nI_nlt (a := 400) (by omega) (by omega)), b1, b_some, e6, if_pos a, nI_1]
      · right
        rw [if_neg a] at hf
        refine ⟨_, ⟨υ, he.t (b3.d (by omega)), rfl⟩, fun q => ?_⟩
        dsimp only
        rw [if_neg (show ¬ (400 : Int32) < nI (k + 1) from nI_nlt (a := 400) (by omega) (by omega)), b1, b_some, e6, if_neg a, hf]
        rfl
    · rintro _ ⟨τ, rfl, hmr, he, hf⟩
      refine ⟨_, ⟨τ, he, rfl⟩, fun q => ?_⟩
      dsimp only
      rw [if_pos (show (400 : Int32) < nI (400 + 1) from nI_lt (a := 400) (b := 401) (by omega) (by omega)), ← hf]
      rfl
  have B : ∃ r, (∃ υ, E2 y (putF σ2 y 0 0) υ ∧ υ.1 y 0 = 0 ∧ r = (fiR (σ2.2.1 (y + 1)) c1 400 0, υ)) ∧ fX12_first_b28 N (G2 y) y c1 (-1, 1, κ) = some r := by
    have fin : ∀ x τ, x = fiR (σ2.2.1 (y + 1)) c1 400 0 → SS y κ τ → Sv (σ2.2.1 (y + 1)) (τ.2.1 (y + 1)) → ∃ r, (∃ υ, E2 y (putF σ2 y 0 0) υ ∧ υ.1 y 0 = 0 ∧ r = (fiR (σ2.2.1 (y + 1)) c1 400 0, υ)) ∧ fX12_first_b63 N (G2 y) y x τ = some r := by
      intro x τ ex he hv
      unfold fX12_first_b63
      have hb := k3 τ he hv.2.2
      refine ⟨_, ⟨_, k4 _ he.w row_s, (k5 _ he.w).trans pf0, rfl⟩, ?_⟩
      rw [hb, ex]
      rfl
    unfold fX12_first_b28
    refine lp_forR (fun k b => ∃ τ, SS y κ τ ∧ ((b = (-1, nI (k + 1), τ) ∧ τ.2.1 (y + 1) = ahW (σ2.2.1 (y + 1)) c1 k ∧ fiR (σ2.2.1 (y + 1)) c1 (400 - k) k = fiR (σ2.2.1 (y + 1)) c1 400 0) ∨ (∃ j, j ≤ 401 ∧ b = (nI j, nI (k + 1), τ) ∧ nI j = fiR (σ2.2.1 (y + 1)) c1 400 0 ∧ Sv (σ2.2.1 (y + 1)) (τ.2.1 (y + 1))))) _ 400 (by omega) ?_ ?_ ⟨κ, SS.r, Or.inl ⟨rfl, k2, rfl⟩⟩
    · rintro k hk _ ⟨τ, he, ⟨rfl, hmr, hf⟩ | ⟨j, hj, rfl, hf, hv⟩⟩
      · obtain ⟨υ, b1, b2, b3⟩ := r_calm (N := N) (y := y) (σ := τ) (d := c1) hN (by rw [hmr]; exact (S k).1) (by rw [hmr]; exact (S k).2.1) (by rw [hmr]; exact hd.v (S k))
        rw [hmr] at b2
        have b2' : υ.2.1 (y + 1) = ahW (σ2.2.1 (y + 1)) c1 (k + 1) := b2
        rw [show 400 - k = (399 - k) + 1 by omega] at hf
        unfold fiR at hf
        left
        by_cases a : ahW (σ2.2.1 (y + 1)) c1 (k + 1) 13 = 0
        · rw [if_pos a] at hf
          refine ⟨(-1, nI (k + 1 + 1), υ), ⟨υ, he.t b3, Or.inl ⟨rfl, b2', by rw [show 400 - (k + 1) = 399 - k by omega]; exact hf⟩⟩, fun q => ?_⟩
          dsimp only
          rw [if_neg (show ¬ (400 : Int32) < nI (k + 1) from nI_nlt (a := 400) (by omega) (by omega)), if_neg (by decide), b1, b_some, r_gone, b_some, ite01, b2', if_neg (by rw [a]; decide), nI_1]
        · rw [if_neg a] at hf
          have a1 : ahW (σ2.2.1 (y + 1)) c1 (k + 1) 13 = 1 := by
            rcases (S (k + 1)).1.a01 with g | g
            · exact absurd g a
            · exact g
          refine ⟨(nI (k + 1), nI (k + 1 + 1), υ), ⟨υ, he.t b3, Or.inr ⟨k + 1, by omega, rfl, hf, by rw [b2']; exact S (k + 1)⟩⟩, fun q => ?_⟩
          dsimp only
          rw [if_neg (show ¬ (400 : Int32) < nI (k + 1) from nI_nlt (a := 400) (by omega) (by omega)), if_neg (by decide), b1, b_some, r_gone, b_some, ite01, b2', if_pos a1, nI_1]
      · right
        obtain ⟨r, h1, h2⟩ := fin (nI j) τ hf he hv
        refine ⟨r, h1, fun q => ?_⟩
        dsimp only
        rw [if_neg (show ¬ (400 : Int32) < nI (k + 1) from nI_nlt (a := 400) (by omega) (by omega)), if_pos (nI_pos' (by omega)), h2]
    · rintro _ ⟨τ, he, ⟨rfl, hmr, hf⟩ | ⟨j, hj, rfl, hf, hv⟩⟩
      · obtain ⟨r, h1, h2⟩ := fin (-1) τ hf he (by rw [hmr]; exact S 400)
        refine ⟨r, h1, fun q => ?_⟩
        dsimp only
        rw [if_pos (show (400 : Int32) < nI (400 + 1) from nI_lt (a := 400) (b := 401) (by omega) (by omega)), h2]
      · obtain ⟨r, h1, h2⟩ := fin (nI j) τ hf he hv
        refine ⟨r, h1, fun q => ?_⟩
        dsimp only
        rw [if_pos (show (400 : Int32) < nI (400 + 1) from nI_lt (a := 400) (b := 401) (by omega) (by omega)), h2]
  obtain ⟨_, ⟨υ1, e1, rfl⟩, h1⟩ := A
  obtain ⟨_, ⟨υ2, e2, e0, rfl⟩, h2⟩ := B
  rw [h1, h2]
  exact gdw_ok rfl rfl e0 (h.keep e1 (E2.t0.t e2))
/-- the first night by which one name is left -/
def leR (w : Nat → Int32) (d : Int32) : Nat → Nat → Int32
  | 0, _ => -1
  | n + 1, k => if bc (ahW w d k 12) = 1 then nI k else leR w d n (k + 1)
theorem gd_learnt {N z y : Nat} (hN : 20000 < N) : Gd_learnt N (G1 z) (G2 y) z y (z + 150) (Sim z y) := by
  intro σ1 σ2 h c1
  unfold fL_learnt
  apply gd_w
  unfold fX11_learnt fX12_learnt
  refine dn_pre h (fun τ => if_pos rfl) (fun hd => ?_)
  have wi := h.wi
  have hl := h.hl
  simp only [g1r_0_0, g1r_0_1, g1r_0_2, g1r_0_3, g1r_0_4, g1r_0_5, g1r_0_6, g1r_0_7, g1r_0_8, g1r_1_5, g1n_2, g1r_3_0, g1r_3_1, g1r_3_2, g1r_4_9, g1r_4_10, g1r_4_11, g1r_4_12, g1r_4_13, g1r_4_14, g1r_4_15, g1r_4_16, g1r_4_17, g1n_5, g1n_6, g1n_7, g1n_8, g1n_9, g1n_10, g1n_11, g1n_12, g1n_13, g1r_14_2, g1r_14_3, g1r_14_4, g1r_14_5, g1r_14_6, g1n_15, g1n_16, g1n_17, g1n_18, g1n_19, g1r_20_7, g1r_20_8, g1n_21, g1r_22_2, g1n_23, g1r_24_0, g1r_24_1, g1r_24_2, g1r_25_9, g1r_25_10, g1r_25_11, g1r_25_12, g1r_25_13, g1r_25_14, g1r_25_15, g1r_25_16, g1r_25_17, g1n_26, g1n_27, g1n_28, g1n_29, g1n_30, g1n_31, g1n_32, g1n_33, g1n_34, g1r_35_2, g1r_35_3, g1r_35_4, g1r_35_5, g1r_35_6, g1n_36, g1n_37, g1n_38, g1n_39, g1n_40, g1r_41_7, g1r_41_8, g1n_42, g1r_43_2, g1n_44, g1r_45_0, g1r_45_1, g1r_45_2, g1r_46_9, g1r_46_10, g1r_46_11, g1r_46_12, g1r_46_13, g1r_46_14, g1r_46_15, g1r_46_16, g1r_46_17, g1n_47, g1n_48, g1n_49, g1n_50, g1n_51, g1n_52, g1n_53, g1n_54, g1n_55, g1r_56_2, g1r_56_3, g1r_56_4, g1r_56_5, g1r_56_6, g1n_57, g1n_58, g1n_59, g1n_60, g1n_61, g1r_62_7, g1r_62_8, g1n_63, g1r_64_2, g1n_65, g1r_66_2, g1n_67, g1r_68_7, g1r_68_8, g1n_69, g1r_70_2, g1n_71, g1r_72_7, g1r_72_8, g1n_73, g1r_74_2, g1n_75, g1r_76_7, g1r_76_8, g1n_77, g1r_78_2, g1n_79, g1r_80_7, g1r_80_8, g1n_81, g1r_82_2, g1n_83, g1r_84_7, g1r_84_8, g1n_85, g1r_86_2, g1n_87, g1r_88_7, g1r_88_8, g1n_89, g1r_90_2, g1n_91, g1r_92_7, g1r_92_8, g1n_93, g1r_94_2, g1n_95, g1r_96_7, g1r_96_8, g1n_97, g1r_98_2, g1n_99, g1r_100_7, g1r_100_8, g1n_101, g1r_102_2, g1n_103, g1r_104_7, g1r_104_8, g1n_105, g1r_106_2, g1n_107, g1r_108_7, g1r_108_8, g1n_109, g1r_110_2, g1n_111, g1r_112_7, g1r_112_8, g1n_113, g1r_114_2, g1n_115, g1r_116_7, g1r_116_8, g1n_117, g1r_118_2, g1n_119, g1r_120_0, g1r_120_1, g1r_120_2, g1r_121_7, g1r_121_8, g1n_122, g1r_123_2, g1n_124, g1n_125, g1n_126, g1r_127_0, g1r_127_1, g1r_127_2, g1r_127_3, g1r_128_7, g1r_128_8, g1n_129, g1r_130_2, g1n_131, g1n_132, g1n_133, g1n_134, g1r_135_7, g1n_136, g1n_150]
  obtain ⟨τ1, a1, a2, a3⟩ := c_dream (N := N) (o := 116) (by omega) ma_116 h
  obtain ⟨κ, k1, k2, k3, k4, k5⟩ := r_keep (N := N) (y := y) (σ := putF σ2 y 0 0) hN
  rw [a1, b_some, k1, b_some]
  have S := Sv.ah wi hl hd
  have A : ∃ r, (∃ υ, E1 z σ1 υ ∧ r = .inl (leR (σ2.2.1 (y + 1)) c1 401 0, υ)) ∧ fX11_learnt_b21 N (G1 z) z c1 (0, τ1) = some r := by
    unfold fX11_learnt_b21
    simp only [g1r_0_0, g1r_0_1, g1r_0_2, g1r_0_3, g1r_0_4, g1r_0_5, g1r_0_6, g1r_0_7, g1r_0_8, g1r_1_5, g1n_2, g1r_3_0, g1r_3_1, g1r_3_2, g1r_4_9, g1r_4_10, g1r_4_11, g1r_4_12, g1r_4_13, g1r_4_14, g1r_4_15, g1r_4_16, g1r_4_17, g1n_5, g1n_6, g1n_7, g1n_8, g1n_9, g1n_10, g1n_11, g1n_12, g1n_13, g1r_14_2, g1r_14_3, g1r_14_4, g1r_14_5, g1r_14_6, g1n_15, g1n_16, g1n_17, g1n_18, g1n_19, g1r_20_7, g1r_20_8, g1n_21, g1r_22_2, g1n_23, g1r_24_0, g1r_24_1, g1r_24_2, g1r_25_9, g1r_25_10, g1r_25_11, g1r_25_12, g1r_25_13, g1r_25_14, g1r_25_15, g1r_25_16, g1r_25_17, g1n_26, g1n_27, g1n_28, g1n_29, g1n_30, g1n_31, g1n_32, g1n_33, g1n_34, g1r_35_2, g1r_35_3, g1r_35_4, g1r_35_5, g1r_35_6, g1n_36, g1n_37, g1n_38, g1n_39, g1n_40, g1r_41_7, g1r_41_8, g1n_42, g1r_43_2, g1n_44, g1r_45_0, g1r_45_1, g1r_45_2, g1r_46_9, g1r_46_10, g1r_46_11, g1r_46_12, g1r_46_13, g1r_46_14, g1r_46_15, g1r_46_16, g1r_46_17, g1n_47, g1n_48, g1n_49, g1n_50, g1n_51, g1n_52, g1n_53, g1n_54, g1n_55, g1r_56_2, g1r_56_3, g1r_56_4, g1r_56_5, g1r_56_6, g1n_57, g1n_58, g1n_59, g1n_60, g1n_61, g1r_62_7, g1r_62_8, g1n_63, g1r_64_2, g1n_65, g1r_66_2, g1n_67, g1r_68_7, g1r_68_8, g1n_69, g1r_70_2, g1n_71, g1r_72_7, g1r_72_8, g1n_73, g1r_74_2, g1n_75, g1r_76_7, g1r_76_8, g1n_77, g1r_78_2, g1n_79, g1r_80_7, g1r_80_8, g1n_81, g1r_82_2, g1n_83, g1r_84_7, g1r_84_8, g1n_85, g1r_86_2, g1n_87, g1r_88_7, g1r_88_8, g1n_89, g1r_90_2, g1n_91, g1r_92_7, g1r_92_8, g1n_93, g1r_94_2, g1n_95, g1r_96_7, g1r_96_8, g1n_97, g1r_98_2, g1n_99, g1r_100_7, g1r_100_8, g1n_101, g1r_102_2, g1n_103, g1r_104_7, g1r_104_8, g1n_105, g1r_106_2, g1n_107, g1r_108_7, g1r_108_8, g1n_109, g1r_110_2, g1n_111, g1r_112_7, g1r_112_8, g1n_113, g1r_114_2, g1n_115, g1r_116_7, g1r_116_8, g1n_117, g1r_118_2, g1n_119, g1r_120_0, g1r_120_1, g1r_120_2, g1r_121_7, g1r_121_8, g1n_122, g1r_123_2, g1n_124, g1n_125, g1n_126, g1r_127_0, g1r_127_1, g1r_127_2, g1r_127_3, g1r_128_7, g1r_128_8, g1n_129, g1r_130_2, g1n_131, g1n_132, g1n_133, g1n_134, g1r_135_7, g1n_136, g1n_150]
    refine lp_forR (fun k b => ∃ τ, b = (nI k, τ) ∧ MR False z (z + 116) τ (ahW (σ2.2.1 (y + 1)) c1 k) ∧ E1 z σ1 τ ∧ leR (σ2.2.1 (y + 1)) c1 (401 - k) k = leR (σ2.2.1 (y + 1)) c1 401 0) _ 401 (by omega) ?_ ?_ ⟨τ1, rfl, a2, a3, rfl⟩
    · rintro k hk _ ⟨τ, rfl, hmr, he, hf⟩
      obtain ⟨υ, b1, b2, b3⟩ := c_plain (N := N) hN (by omega) ma_116 hmr (hd.v (S k))
      have b2' : MR False z (z + 116) υ (ahW (σ2.2.1 (y + 1)) c1 (k + 1)) := b2
      have e6 : τ.1 (z + 116) 3 = ahW (σ2.2.1 (y + 1)) c1 k 12 := hmr.2.2.2.1.2.2.2.1
      rw [show 401 - k = (400 - k) + 1 by omega] at hf
      unfold leR at hf
      by_cases a : bc (ahW (σ2.2.1 (y + 1)) c1 k 12) = 1
      · right
        rw [if_pos a] at hf
        refine ⟨_, ⟨τ, he, rfl⟩, fun q => ?_⟩
        dsimp only
        rw [if_neg (show ¬ (400 : Int32) < nI k from nI_nlt (a := 400) (by omega) (by omega)), bc_fn, b_some, e6, if_pos a, hf]
        rfl
      · left
        rw [if_neg a] at hf
        refine ⟨(nI (k + 1), υ), ⟨υ, rfl, b2', he.t (b3.d (by omega)), by rw [show 401 - (k + 1) = 400 - k by omega]; exact hf⟩, fun q => ?_⟩
        dsimp only
        rw [if_neg (show ¬ (400 : Int32) < nI k from nI_nlt (a := 400) (by omega) (by omega)), bc_fn, b_some, e6, if_neg a, b1, b_some, nI_1]
    · rintro _ ⟨τ, rfl, hmr, he, hf⟩
      refine ⟨_, ⟨τ, he, rfl⟩, fun q => ?_⟩
      dsimp only
      rw [if_pos (show (400 : Int32) < nI 401 from nI_lt (a := 400) (b := 401) (by omega) (by omega)), ← hf]
      rfl
  have B : ∃ r, (∃ υ, E2 y (putF σ2 y 0 0) υ ∧ υ.1 y 0 = 0 ∧ r = (leR (σ2.2.1 (y + 1)) c1 401 0, υ)) ∧ fX12_learnt_b28 N (G2 y) y c1 (-1, 0, κ) = some r := by
    have fin : ∀ x τ, x = leR (σ2.2.1 (y + 1)) c1 401 0 → SS y κ τ → Sv (σ2.2.1 (y + 1)) (τ.2.1 (y + 1)) → ∃ r, (∃ υ, E2 y (putF σ2 y 0 0) υ ∧ υ.1 y 0 = 0 ∧ r = (leR (σ2.2.1 (y + 1)) c1 401 0, υ)) ∧ fX12_learnt_b64 N (G2 y) y x τ = some r := by
      intro x τ ex he hv
      unfold fX12_learnt_b64
      have hb := k3 τ he hv.2.2
      refine ⟨_, ⟨_, k4 _ he.w row_s, (k5 _ he.w).trans pf0, rfl⟩, ?_⟩
      rw [hb, ex]
      rfl
    unfold fX12_learnt_b28
    refine lp_forR (fun k b => ∃ τ, SS y κ τ ∧ ((b = (-1, nI k, τ) ∧ τ.2.1 (y + 1) = ahW (σ2.2.1 (y + 1)) c1 k ∧ leR (σ2.2.1 (y + 1)) c1 (401 - k) k = leR (σ2.2.1 (y + 1)) c1 401 0) ∨ (∃ j, j ≤ 401 ∧ b = (nI j, nI k, τ) ∧ nI j = leR (σ2.2.1 (y + 1)) c1 401 0 ∧ Sv (σ2.2.1 (y + 1)) (τ.2.1 (y + 1))))) _ 401 (by omega) ?_ ?_ ⟨κ, SS.r, Or.inl ⟨rfl, k2, rfl⟩⟩
    · rintro k hk _ ⟨τ, he, ⟨rfl, hmr, hf⟩ | ⟨j, hj, rfl, hf, hv⟩⟩
      · obtain ⟨υ, b1, b2, b3⟩ := r_calm (N := N) (y := y) (σ := τ) (d := c1) hN (by rw [hmr]; exact (S k).1) (by rw [hmr]; exact (S k).2.1) (by rw [hmr]; exact hd.v (S k))
        rw [hmr] at b2
        have b2' : υ.2.1 (y + 1) = ahW (σ2.2.1 (y + 1)) c1 (k + 1) := b2
        rw [show 401 - k = (400 - k) + 1 by omega] at hf
        unfold leR at hf
        left
        unfold fX12_learnt_b52
        by_cases a : bc (ahW (σ2.2.1 (y + 1)) c1 k 12) = 1
        · rw [if_pos a] at hf
          refine ⟨(nI k, nI (k + 1), υ), ⟨υ, he.t b3, Or.inr ⟨k, by omega, rfl, hf, by rw [b2']; exact S (k + 1)⟩⟩, fun q => ?_⟩
          dsimp only
          rw [if_neg (show ¬ (400 : Int32) < nI k from nI_nlt (a := 400) (by omega) (by omega)), if_neg (by decide), r_howMany, b_some, hmr, if_pos a, b1, b_some, nI_1]
        · rw [if_neg a] at hf
          refine ⟨(-1, nI (k + 1), υ), ⟨υ, he.t b3, Or.inl ⟨rfl, b2', by rw [show 401 - (k + 1) = 400 - k by omega]; exact hf⟩⟩, fun q => ?_⟩
          dsimp only
          rw [if_neg (show ¬ (400 : Int32) < nI k from nI_nlt (a := 400) (by omega) (by omega)), if_neg (by decide), r_howMany, b_some, hmr, if_neg a, b1, b_some, nI_1]
      · right
        obtain ⟨r, h1, h2⟩ := fin (nI j) τ hf he hv
        refine ⟨r, h1, fun q => ?_⟩
        dsimp only
        rw [if_neg (show ¬ (400 : Int32) < nI k from nI_nlt (a := 400) (by omega) (by omega)), if_pos (nI_pos' (by omega)), h2]
    · rintro _ ⟨τ, he, ⟨rfl, hmr, hf⟩ | ⟨j, hj, rfl, hf, hv⟩⟩
      · obtain ⟨r, h1, h2⟩ := fin (-1) τ hf he (by rw [hmr]; exact S 401)
        refine ⟨r, h1, fun q => ?_⟩
        dsimp only
        rw [if_pos (show (400 : Int32) < nI 401 from nI_lt (a := 400) (b := 401) (by omega) (by omega)), h2]
      · obtain ⟨r, h1, h2⟩ := fin (nI j) τ hf he hv
        refine ⟨r, h1, fun q => ?_⟩
        dsimp only
        rw [if_pos (show (400 : Int32) < nI 401 from nI_lt (a := 400) (b := 401) (by omega) (by omega)), h2]
  obtain ⟨_, ⟨υ1, e1, rfl⟩, h1⟩ := A
  obtain ⟨_, ⟨υ2, e2, e0, rfl⟩, h2⟩ := B
  rw [h1, h2]
  exact gdw_ok rfl rfl e0 (h.keep e1 (E2.t0.t e2))
