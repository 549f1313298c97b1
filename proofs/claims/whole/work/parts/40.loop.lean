def GoodAll (N : Nat) (G1 G2 : pG) (xa ma oa : Nat) (Inv : pS → pS → Prop) : Prop := Gd_feed N G1 G2 xa ma oa Inv ∧ Gd_end N G1 G2 xa ma oa Inv ∧ Gd_story N G1 G2 xa ma oa Inv ∧ Gd_law N G1 G2 xa ma oa Inv ∧ Gd_fault N G1 G2 xa ma oa Inv ∧ Gd_name N G1 G2 xa ma oa Inv ∧ Gd_court N G1 G2 xa ma oa Inv ∧ Gd_word N G1 G2 xa ma oa Inv ∧ Gd_deed N G1 G2 xa ma oa Inv ∧ Gd_stings N G1 G2 xa ma oa Inv ∧ Gd_say N G1 G2 xa ma oa Inv ∧ Gd_does N G1 G2 xa ma oa Inv ∧ Gd_keep N G1 G2 xa ma oa Inv ∧ Gd_habit N G1 G2 xa ma oa Inv ∧ Gd_his N G1 G2 xa ma oa Inv ∧ Gd_crumb N G1 G2 xa ma oa Inv ∧ Gd_nights N G1 G2 xa ma oa Inv ∧ Gd_would N G1 G2 xa ma oa Inv ∧ Gd_ahead N G1 G2 xa ma oa Inv ∧ Gd_first N G1 G2 xa ma oa Inv ∧ Gd_siege N G1 G2 xa ma oa Inv ∧ Gd_plan N G1 G2 xa ma oa Inv ∧ Gd_keeps N G1 G2 xa ma oa Inv ∧ Gd_fewest N G1 G2 xa ma oa Inv ∧ Gd_silence N G1 G2 xa ma oa Inv ∧ Gd_best N G1 G2 xa ma oa Inv ∧ Gd_learns N G1 G2 xa ma oa Inv ∧ Gd_worst N G1 G2 xa ma oa Inv ∧ Gd_hides N G1 G2 xa ma oa Inv ∧ Gd_alike N G1 G2 xa ma oa Inv ∧ Gd_belief N G1 G2 xa ma oa Inv ∧ Gd_likeliest N G1 G2 xa ma oa Inv ∧ Gd_duty N G1 G2 xa ma oa Inv ∧ Gd_cover N G1 G2 xa ma oa Inv ∧ Gd_alone N G1 G2 xa ma oa Inv ∧ Gd_seals N G1 G2 xa ma oa Inv ∧ Gd_began N G1 G2 xa ma oa Inv ∧ Gd_loudest N G1 G2 xa ma oa Inv ∧ Gd_fits N G1 G2 xa ma oa Inv ∧ Gd_cheapest N G1 G2 xa ma oa Inv ∧ Gd_sharpest N G1 G2 xa ma oa Inv ∧ Gd_shared N G1 G2 xa ma oa Inv ∧ Gd_similar N G1 G2 xa ma oa Inv ∧ Gd_learnt N G1 G2 xa ma oa Inv ∧ Gd_trial N G1 G2 xa ma oa Inv ∧ Gd_span N G1 G2 xa ma oa Inv ∧ Gd_led N G1 G2 xa ma oa Inv ∧ Gd_log N G1 G2 xa ma oa Inv ∧ Gd_seed N G1 G2 xa ma oa Inv ∧ Gd_undo N G1 G2 xa ma oa Inv ∧ Gd_image N G1 G2 xa ma oa Inv ∧ Gd_back N G1 G2 xa ma oa Inv ∧ Gd_count N G1 G2 xa ma oa Inv
theorem lw_cmp {L i : Nat} (hL : L ≤ 3072) (hi : i ≤ 4000) (h : ¬ (Int32.ofNat L - 6 < Int32.ofNat i)) : i + 6 ≤ L := by
  have e1 : (Int32.ofNat L).toInt = (L : Int) := nI_toInt (by omega)
  have e2 : (Int32.ofNat i).toInt = (i : Int) := nI_toInt (by omega)
  have e3 : (6 : Int32).toInt = 6 := by decide
  rw [Int32.lt_iff_toInt_lt, Int32.toInt_sub, e1, e2, e3, Int.bmod_eq_of_le (by omega) (by omega)] at h
  omega
theorem lw_in {L i k : Nat} (hL : L ≤ 3072) (h : i + k < L) : vp_in (Int32.ofNat i + Int32.ofNat k) L := by
  rw [← Int32.ofNat_add]
  exact nI_in h (by omega)
set_option maxRecDepth 100000 in
set_option maxHeartbeats 4000000 in
/-- THE LAW'S LOOP: at its head, with 6 k ints read -/
theorem law_loop {bs L : Nat} {xs : Nat → Int32} {G1 G2 : pG} {SK : Nat → Nat} {N xa ma oa : Nat} {Inv : pS → pS → Prop} (hL : L ≤ 3072) (hW1 : WT G1) (hW2 : WT G2) (hx : Is G1 xa 10) (hm : Is G2 ma 11) (ho : Is G1 oa 14) (ho1 : inB 0 (pN G1 oa) = true) (hg : GoodAll N G1 G2 xa ma oa Inv) :
    ∀ (n k : Nat), 600 ≤ k + n → 6 * k ≤ L + 6 → ∀ (σ1 σ2 : pS), Inv σ1 σ2 → EvL (1024, 601024, 7293034) bs L xs G1 G2 SK (1000 + 3 * k, 100000 + 18 * k) 23 [some (.ref bs), some (.ref xa), some (.ref ma), some (.ref oa), some (.int (Int32.ofNat (6 * k))), none, none] [] σ1 σ2 := by
  intro n
  induction n with
  | zero =>
    intro k h1 h2
    exact absurd h1 (by omega)
  | succ n ih =>
    intro k h1 h2 σ1 σ2 hI
    refine el_iload dc_L_law__23 rfl ?_
    refine el_aload_n dc_L_law__25 rfl ?_
    refine el_slen dc_L_law__26 ?_
    refine el_bipush (v := 6) dc_L_law__27 (by decide) ?_
    refine el_isub dc_L_law__29 ?_
    refine el_icmp_gt (tgt := 2724) dc_L_law__30 (by decide) (fun _ => ?_) (fun hc => ?_)
    · refine el_iconst (v := 1) dc_L_law__2724 (by decide) ?_
      exact el_ret dc_L_law__2725 ⟨(show 1000 + 3 * k ≤ 601024 from by omega), (show 100000 + 18 * k ≤ 7293034 from by omega)⟩
    have hlt := lw_cmp hL (by omega) hc
    have K : ∀ τ1 τ2 : pS, Inv τ1 τ2 → EvL (1024, 601024, 7293034) bs L xs G1 G2 SK (1000 + 3 * k + 3, 100000 + 18 * k + 18) 2718 [some (.ref bs), some (.ref xa), some (.ref ma), some (.ref oa), some (.int (Int32.ofNat (6 * k))), none, none] [] τ1 τ2 := by
      intro τ1 τ2 hI9
      refine el_iinc (v := 6) (lv' := [some (.ref bs), some (.ref xa), some (.ref ma), some (.ref oa), some (.int (Int32.ofNat (6 * k) + 6)), none, none]) dc_L_law__2718 rfl (by decide) rfl (by decide) rfl ?_
      refine el_goto (tgt := 23) dc_L_law__2721 (by decide) ?_
      have e9 : Int32.ofNat (6 * k) + 6 = Int32.ofNat (6 * (k + 1)) := by
        rw [show 6 * (k + 1) = 6 * k + 6 from by omega, Int32.ofNat_add]
        rfl
      rw [e9]
      exact ih (k + 1) (by omega) (by omega) τ1 τ2 hI9
    have hb0 : vp_in (Int32.ofNat (6 * k)) L := by
      have := lw_in (k := 0) (i := 6 * k) hL (by omega)
      simpa using this
    have hb1 : vp_in (Int32.ofNat (6 * k) + (1 : Int32)) L := lw_in (k := 1) hL (by omega)
    have hb2 : vp_in (Int32.ofNat (6 * k) + (2 : Int32)) L := lw_in (k := 2) hL (by omega)
    have hb3 : vp_in (Int32.ofNat (6 * k) + (3 : Int32)) L := lw_in (k := 3) hL (by omega)
    have hb4 : vp_in (Int32.ofNat (6 * k) + (4 : Int32)) L := lw_in (k := 4) hL (by omega)
    have hb5 : vp_in (Int32.ofNat (6 * k) + (5 : Int32)) L := lw_in (k := 5) hL (by omega)
    have hu : (1000 + 3 * k, 100000 + 18 * k).1 + 3 ≤ ((1024, 601024, 7293034) : Nat × Nat × Nat).2.1 ∧ (1000 + 3 * k, 100000 + 18 * k).2 + 18 ≤ ((1024, 601024, 7293034) : Nat × Nat × Nat).2.2 := ⟨(show 1000 + 3 * k + 3 ≤ 601024 from by omega), (show 100000 + 18 * k + 18 ≤ 7293034 from by omega)⟩
    refine el_aload_n dc_L_law__33 rfl ?_
    refine el_iload dc_L_law__34 rfl ?_
    refine el_sld dc_L_law__36 hb0 ?_
    refine el_bipush (v := 63) dc_L_law__37 (by decide) ?_
    refine el_iand dc_L_law__39 ?_
    generalize xs (Int32.ofNat (6 * k)).toNatClampNeg &&& 63 = x9
    by_cases z0 : x9 = 0
    · refine el_tabIn (tgt := 268) 0 z0 dc_L_law__40 (by decide) (by decide) rfl (by decide) ?_
      exact lc_0 hW1 hW2 hx hm ho ho1 hg.1 hI hb1 hb2 hb3 hb4 hb5 (Nat.le_refl _) hu K
    by_cases z1 : x9 = 1
    · refine el_tabIn (tgt := 341) 1 z1 dc_L_law__40 (by decide) (by decide) rfl (by decide) ?_
      exact lc_1 hW1 hW2 hx hm ho ho1 hg.2.1 hI hb1 hb2 hb3 hb4 hb5 (Nat.le_refl _) hu K
    by_cases z2 : x9 = 2
    · refine el_tabIn (tgt := 366) 2 z2 dc_L_law__40 (by decide) (by decide) rfl (by decide) ?_
      exact lc_2 hW1 hW2 hx hm ho ho1 hg.2.2.1 hI hb1 hb2 hb3 hb4 hb5 (Nat.le_refl _) hu K
    by_cases z3 : x9 = 3
    · refine el_tabIn (tgt := 410) 3 z3 dc_L_law__40 (by decide) (by decide) rfl (by decide) ?_
      exact lc_3 hW1 hW2 hx hm ho ho1 hg.2.2.2.1 hI hb1 hb2 hb3 hb4 hb5 (Nat.le_refl _) hu K
    by_cases z4 : x9 = 4
    · refine el_tabIn (tgt := 454) 4 z4 dc_L_law__40 (by decide) (by decide) rfl (by decide) ?_
      exact lc_4 hW1 hW2 hx hm ho ho1 hg.2.2.2.2.1 hI hb1 hb2 hb3 hb4 hb5 (Nat.le_refl _) hu K
    by_cases z5 : x9 = 5
    · refine el_tabIn (tgt := 467) 5 z5 dc_L_law__40 (by decide) (by decide) rfl (by decide) ?_
      exact lc_5 hW1 hW2 hx hm ho ho1 hg.2.2.2.2.2.1 hI hb1 hb2 hb3 hb4 hb5 (Nat.le_refl _) hu K
    by_cases z6 : x9 = 6
    · refine el_tabIn (tgt := 535) 6 z6 dc_L_law__40 (by decide) (by decide) rfl (by decide) ?_
      exact lc_6 hW1 hW2 hx hm ho ho1 hg.2.2.2.2.2.2.1 hI hb1 hb2 hb3 hb4 hb5 (Nat.le_refl _) hu K
    by_cases z7 : x9 = 7
    · refine el_tabIn (tgt := 603) 7 z7 dc_L_law__40 (by decide) (by decide) rfl (by decide) ?_
      exact lc_7 hW1 hW2 hx hm ho ho1 hg.2.2.2.2.2.2.2.1 hI hb1 hb2 hb3 hb4 hb5 (Nat.le_refl _) hu K
    by_cases z8 : x9 = 8
    · refine el_tabIn (tgt := 687) 8 z8 dc_L_law__40 (by decide) (by decide) rfl (by decide) ?_
      exact lc_8 hW1 hW2 hx hm ho ho1 hg.2.2.2.2.2.2.2.2.1 hI hb1 hb2 hb3 hb4 hb5 (Nat.le_refl _) hu K
    by_cases z9 : x9 = 9
    · refine el_tabIn (tgt := 755) 9 z9 dc_L_law__40 (by decide) (by decide) rfl (by decide) ?_
      exact lc_9 hW1 hW2 hx hm ho ho1 hg.2.2.2.2.2.2.2.2.2.1 hI hb1 hb2 hb3 hb4 hb5 (Nat.le_refl _) hu K
    by_cases z10 : x9 = 10
    · refine el_tabIn (tgt := 823) 10 z10 dc_L_law__40 (by decide) (by decide) rfl (by decide) ?_
      exact lc_10 hW1 hW2 hx hm ho ho1 hg.2.2.2.2.2.2.2.2.2.2.1 hI hb1 hb2 hb3 hb4 hb5 (Nat.le_refl _) hu K
    by_cases z11 : x9 = 11
    · refine el_tabIn (tgt := 891) 11 z11 dc_L_law__40 (by decide) (by decide) rfl (by decide) ?_
      exact lc_11 hW1 hW2 hx hm ho ho1 hg.2.2.2.2.2.2.2.2.2.2.2.1 hI hb1 hb2 hb3 hb4 hb5 (Nat.le_refl _) hu K
    by_cases z12 : x9 = 12
    · refine el_tabIn (tgt := 947) 12 z12 dc_L_law__40 (by decide) (by decide) rfl (by decide) ?_
      exact lc_12 hW1 hW2 hx hm ho ho1 hg.2.2.2.2.2.2.2.2.2.2.2.2.1 hI hb1 hb2 hb3 hb4 hb5 (Nat.le_refl _) hu K
    by_cases z13 : x9 = 13
    · refine el_tabIn (tgt := 1038) 13 z13 dc_L_law__40 (by decide) (by decide) rfl (by decide) ?_
      exact lc_13 hW1 hW2 hx hm ho ho1 hg.2.2.2.2.2.2.2.2.2.2.2.2.2.1 hI hb1 hb2 hb3 hb4 hb5 (Nat.le_refl _) hu K
    by_cases z14 : x9 = 14
    · refine el_tabIn (tgt := 1106) 14 z14 dc_L_law__40 (by decide) (by decide) rfl (by decide) ?_
      exact lc_14 hW1 hW2 hx hm ho ho1 hg.2.2.2.2.2.2.2.2.2.2.2.2.2.2.1 hI hb1 hb2 hb3 hb4 hb5 (Nat.le_refl _) hu K
    by_cases z15 : x9 = 15
    · refine el_tabIn (tgt := 1162) 15 z15 dc_L_law__40 (by decide) (by decide) rfl (by decide) ?_
      exact lc_15 hW1 hW2 hx hm ho ho1 hg.2.2.2.2.2.2.2.2.2.2.2.2.2.2.2.1 hI hb1 hb2 hb3 hb4 hb5 (Nat.le_refl _) hu K
    by_cases z16 : x9 = 16
    · refine el_tabIn (tgt := 1218) 16 z16 dc_L_law__40 (by decide) (by decide) rfl (by decide) ?_
      exact lc_16 hW1 hW2 hx hm ho ho1 hg.2.2.2.2.2.2.2.2.2.2.2.2.2.2.2.2.1 hI hb1 hb2 hb3 hb4 hb5 (Nat.le_refl _) hu K
    by_cases z17 : x9 = 17
    · refine el_tabIn (tgt := 1274) 17 z17 dc_L_law__40 (by decide) (by decide) rfl (by decide) ?_
      exact lc_17 hW1 hW2 hx hm ho ho1 hg.2.2.2.2.2.2.2.2.2.2.2.2.2.2.2.2.2.1 hI hb1 hb2 hb3 hb4 hb5 (Nat.le_refl _) hu K
    by_cases z18 : x9 = 18
    · refine el_tabIn (tgt := 1370) 18 z18 dc_L_law__40 (by decide) (by decide) rfl (by decide) ?_
      exact lc_18 hW1 hW2 hx hm ho ho1 hg.2.2.2.2.2.2.2.2.2.2.2.2.2.2.2.2.2.2.1 hI hb1 hb2 hb3 hb4 hb5 (Nat.le_refl _) hu K
    by_cases z19 : x9 = 19
    · refine el_tabIn (tgt := 1438) 19 z19 dc_L_law__40 (by decide) (by decide) rfl (by decide) ?_
      exact lc_19 hW1 hW2 hx hm ho ho1 hg.2.2.2.2.2.2.2.2.2.2.2.2.2.2.2.2.2.2.2.1 hI hb1 hb2 hb3 hb4 hb5 (Nat.le_refl _) hu K
    by_cases z20 : x9 = 20
    · refine el_tabIn (tgt := 1494) 20 z20 dc_L_law__40 (by decide) (by decide) rfl (by decide) ?_
      exact lc_20 hW1 hW2 hx hm ho ho1 hg.2.2.2.2.2.2.2.2.2.2.2.2.2.2.2.2.2.2.2.2.1 hI hb1 hb2 hb3 hb4 hb5 (Nat.le_refl _) hu K
    by_cases z21 : x9 = 21
    · refine el_tabIn (tgt := 1550) 21 z21 dc_L_law__40 (by decide) (by decide) rfl (by decide) ?_
      exact lc_21 hW1 hW2 hx hm ho ho1 hg.2.2.2.2.2.2.2.2.2.2.2.2.2.2.2.2.2.2.2.2.2.1 hI hb1 hb2 hb3 hb4 hb5 (Nat.le_refl _) hu K
    by_cases z22 : x9 = 22
    · refine el_tabIn (tgt := 1606) 22 z22 dc_L_law__40 (by decide) (by decide) rfl (by decide) ?_
      exact lc_22 hW1 hW2 hx hm ho ho1 hg.2.2.2.2.2.2.2.2.2.2.2.2.2.2.2.2.2.2.2.2.2.2.1 hI hb1 hb2 hb3 hb4 hb5 (Nat.le_refl _) hu K
    by_cases z23 : x9 = 23
    · refine el_tabIn (tgt := 1674) 23 z23 dc_L_law__40 (by decide) (by decide) rfl (by decide) ?_
      exact lc_23 hW1 hW2 hx hm ho ho1 hg.2.2.2.2.2.2.2.2.2.2.2.2.2.2.2.2.2.2.2.2.2.2.2.1 hI hb1 hb2 hb3 hb4 hb5 (Nat.le_refl _) hu K
    by_cases z24 : x9 = 24
    · refine el_tabIn (tgt := 1730) 24 z24 dc_L_law__40 (by decide) (by decide) rfl (by decide) ?_
      exact lc_24 hW1 hW2 hx hm ho ho1 hg.2.2.2.2.2.2.2.2.2.2.2.2.2.2.2.2.2.2.2.2.2.2.2.2.1 hI hb1 hb2 hb3 hb4 hb5 (Nat.le_refl _) hu K
    by_cases z25 : x9 = 25
    · refine el_tabIn (tgt := 1786) 25 z25 dc_L_law__40 (by decide) (by decide) rfl (by decide) ?_
      exact lc_25 hW1 hW2 hx hm ho ho1 hg.2.2.2.2.2.2.2.2.2.2.2.2.2.2.2.2.2.2.2.2.2.2.2.2.2.1 hI hb1 hb2 hb3 hb4 hb5 (Nat.le_refl _) hu K
    by_cases z26 : x9 = 26
    · refine el_tabIn (tgt := 1799) 26 z26 dc_L_law__40 (by decide) (by decide) rfl (by decide) ?_
      exact lc_26 hW1 hW2 hx hm ho ho1 hg.2.2.2.2.2.2.2.2.2.2.2.2.2.2.2.2.2.2.2.2.2.2.2.2.2.2.1 hI hb1 hb2 hb3 hb4 hb5 (Nat.le_refl _) hu K
    by_cases z27 : x9 = 27
    · refine el_tabIn (tgt := 1812) 27 z27 dc_L_law__40 (by decide) (by decide) rfl (by decide) ?_
      exact lc_27 hW1 hW2 hx hm ho ho1 hg.2.2.2.2.2.2.2.2.2.2.2.2.2.2.2.2.2.2.2.2.2.2.2.2.2.2.2.1 hI hb1 hb2 hb3 hb4 hb5 (Nat.le_refl _) hu K
    by_cases z28 : x9 = 28
    · refine el_tabIn (tgt := 1825) 28 z28 dc_L_law__40 (by decide) (by decide) rfl (by decide) ?_
      exact lc_28 hW1 hW2 hx hm ho ho1 hg.2.2.2.2.2.2.2.2.2.2.2.2.2.2.2.2.2.2.2.2.2.2.2.2.2.2.2.2.1 hI hb1 hb2 hb3 hb4 hb5 (Nat.le_refl _) hu K
    by_cases z29 : x9 = 29
    · refine el_tabIn (tgt := 1838) 29 z29 dc_L_law__40 (by decide) (by decide) rfl (by decide) ?_
      exact lc_29 hW1 hW2 hx hm ho ho1 hg.2.2.2.2.2.2.2.2.2.2.2.2.2.2.2.2.2.2.2.2.2.2.2.2.2.2.2.2.2.1 hI hb1 hb2 hb3 hb4 hb5 (Nat.le_refl _) hu K
    by_cases z30 : x9 = 30
    · refine el_tabIn (tgt := 1851) 30 z30 dc_L_law__40 (by decide) (by decide) rfl (by decide) ?_
      exact lc_30 hW1 hW2 hx hm ho ho1 hg.2.2.2.2.2.2.2.2.2.2.2.2.2.2.2.2.2.2.2.2.2.2.2.2.2.2.2.2.2.2.1 hI hb1 hb2 hb3 hb4 hb5 (Nat.le_refl _) hu K
    by_cases z31 : x9 = 31
    · refine el_tabIn (tgt := 1907) 31 z31 dc_L_law__40 (by decide) (by decide) rfl (by decide) ?_
      exact lc_31 hW1 hW2 hx hm ho ho1 hg.2.2.2.2.2.2.2.2.2.2.2.2.2.2.2.2.2.2.2.2.2.2.2.2.2.2.2.2.2.2.2.1 hI hb1 hb2 hb3 hb4 hb5 (Nat.le_refl _) hu K
    by_cases z32 : x9 = 32
    · refine el_tabIn (tgt := 1920) 32 z32 dc_L_law__40 (by decide) (by decide) rfl (by decide) ?_
      exact lc_32 hW1 hW2 hx hm ho ho1 hg.2.2.2.2.2.2.2.2.2.2.2.2.2.2.2.2.2.2.2.2.2.2.2.2.2.2.2.2.2.2.2.2.1 hI hb1 hb2 hb3 hb4 hb5 (Nat.le_refl _) hu K
    by_cases z33 : x9 = 33
    · refine el_tabIn (tgt := 1976) 33 z33 dc_L_law__40 (by decide) (by decide) rfl (by decide) ?_
      exact lc_33 hW1 hW2 hx hm ho ho1 hg.2.2.2.2.2.2.2.2.2.2.2.2.2.2.2.2.2.2.2.2.2.2.2.2.2.2.2.2.2.2.2.2.2.1 hI hb1 hb2 hb3 hb4 hb5 (Nat.le_refl _) hu K
    by_cases z34 : x9 = 34
    · refine el_tabIn (tgt := 1989) 34 z34 dc_L_law__40 (by decide) (by decide) rfl (by decide) ?_
      exact lc_34 hW1 hW2 hx hm ho ho1 hg.2.2.2.2.2.2.2.2.2.2.2.2.2.2.2.2.2.2.2.2.2.2.2.2.2.2.2.2.2.2.2.2.2.2.1 hI hb1 hb2 hb3 hb4 hb5 (Nat.le_refl _) hu K
    by_cases z35 : x9 = 35
    · refine el_tabIn (tgt := 2002) 35 z35 dc_L_law__40 (by decide) (by decide) rfl (by decide) ?_
      exact lc_35 hW1 hW2 hx hm ho ho1 hg.2.2.2.2.2.2.2.2.2.2.2.2.2.2.2.2.2.2.2.2.2.2.2.2.2.2.2.2.2.2.2.2.2.2.2.1 hI hb1 hb2 hb3 hb4 hb5 (Nat.le_refl _) hu K
    by_cases z36 : x9 = 36
    · refine el_tabIn (tgt := 2027) 36 z36 dc_L_law__40 (by decide) (by decide) rfl (by decide) ?_
      exact lc_36 hW1 hW2 hx hm ho ho1 hg.2.2.2.2.2.2.2.2.2.2.2.2.2.2.2.2.2.2.2.2.2.2.2.2.2.2.2.2.2.2.2.2.2.2.2.2.1 hI hb1 hb2 hb3 hb4 hb5 (Nat.le_refl _) hu K
    by_cases z37 : x9 = 37
    · refine el_tabIn (tgt := 2040) 37 z37 dc_L_law__40 (by decide) (by decide) rfl (by decide) ?_
      exact lc_37 hW1 hW2 hx hm ho ho1 hg.2.2.2.2.2.2.2.2.2.2.2.2.2.2.2.2.2.2.2.2.2.2.2.2.2.2.2.2.2.2.2.2.2.2.2.2.2.1 hI hb1 hb2 hb3 hb4 hb5 (Nat.le_refl _) hu K
    by_cases z38 : x9 = 38
    · refine el_tabIn (tgt := 2053) 38 z38 dc_L_law__40 (by decide) (by decide) rfl (by decide) ?_
      exact lc_38 hW1 hW2 hx hm ho ho1 hg.2.2.2.2.2.2.2.2.2.2.2.2.2.2.2.2.2.2.2.2.2.2.2.2.2.2.2.2.2.2.2.2.2.2.2.2.2.2.1 hI hb1 hb2 hb3 hb4 hb5 (Nat.le_refl _) hu K
    by_cases z39 : x9 = 39
    · refine el_tabIn (tgt := 2078) 39 z39 dc_L_law__40 (by decide) (by decide) rfl (by decide) ?_
      exact lc_39 hW1 hW2 hx hm ho ho1 hg.2.2.2.2.2.2.2.2.2.2.2.2.2.2.2.2.2.2.2.2.2.2.2.2.2.2.2.2.2.2.2.2.2.2.2.2.2.2.2.1 hI hb1 hb2 hb3 hb4 hb5 (Nat.le_refl _) hu K
    by_cases z40 : x9 = 40
    · refine el_tabIn (tgt := 2162) 40 z40 dc_L_law__40 (by decide) (by decide) rfl (by decide) ?_
      exact lc_40 hW1 hW2 hx hm ho ho1 hg.2.2.2.2.2.2.2.2.2.2.2.2.2.2.2.2.2.2.2.2.2.2.2.2.2.2.2.2.2.2.2.2.2.2.2.2.2.2.2.2.1 hI hb1 hb2 hb3 hb4 hb5 (Nat.le_refl _) hu K
    by_cases z41 : x9 = 41
    · refine el_tabIn (tgt := 2218) 41 z41 dc_L_law__40 (by decide) (by decide) rfl (by decide) ?_
      exact lc_41 hW1 hW2 hx hm ho ho1 hg.2.2.2.2.2.2.2.2.2.2.2.2.2.2.2.2.2.2.2.2.2.2.2.2.2.2.2.2.2.2.2.2.2.2.2.2.2.2.2.2.2.1 hI hb1 hb2 hb3 hb4 hb5 (Nat.le_refl _) hu K
    by_cases z42 : x9 = 42
    · refine el_tabIn (tgt := 2231) 42 z42 dc_L_law__40 (by decide) (by decide) rfl (by decide) ?_
      exact lc_42 hW1 hW2 hx hm ho ho1 hg.2.2.2.2.2.2.2.2.2.2.2.2.2.2.2.2.2.2.2.2.2.2.2.2.2.2.2.2.2.2.2.2.2.2.2.2.2.2.2.2.2.2.1 hI hb1 hb2 hb3 hb4 hb5 (Nat.le_refl _) hu K
    by_cases z43 : x9 = 43
    · refine el_tabIn (tgt := 2299) 43 z43 dc_L_law__40 (by decide) (by decide) rfl (by decide) ?_
      exact lc_43 hW1 hW2 hx hm ho ho1 hg.2.2.2.2.2.2.2.2.2.2.2.2.2.2.2.2.2.2.2.2.2.2.2.2.2.2.2.2.2.2.2.2.2.2.2.2.2.2.2.2.2.2.2.1 hI hb1 hb2 hb3 hb4 hb5 (Nat.le_refl _) hu K
    by_cases z44 : x9 = 44
    · refine el_tabIn (tgt := 2355) 44 z44 dc_L_law__40 (by decide) (by decide) rfl (by decide) ?_
      exact lc_44 hW1 hW2 hx hm ho ho1 hg.2.2.2.2.2.2.2.2.2.2.2.2.2.2.2.2.2.2.2.2.2.2.2.2.2.2.2.2.2.2.2.2.2.2.2.2.2.2.2.2.2.2.2.2.1 hI hb1 hb2 hb3 hb4 hb5 (Nat.le_refl _) hu K
    by_cases z45 : x9 = 45
    · refine el_tabIn (tgt := 2439) 45 z45 dc_L_law__40 (by decide) (by decide) rfl (by decide) ?_
      exact lc_45 hW1 hW2 hx hm ho ho1 hg.2.2.2.2.2.2.2.2.2.2.2.2.2.2.2.2.2.2.2.2.2.2.2.2.2.2.2.2.2.2.2.2.2.2.2.2.2.2.2.2.2.2.2.2.2.1 hI hb1 hb2 hb3 hb4 hb5 (Nat.le_refl _) hu K
    by_cases z46 : x9 = 46
    · refine el_tabIn (tgt := 2495) 46 z46 dc_L_law__40 (by decide) (by decide) rfl (by decide) ?_
      exact lc_46 hW1 hW2 hx hm ho ho1 hg.2.2.2.2.2.2.2.2.2.2.2.2.2.2.2.2.2.2.2.2.2.2.2.2.2.2.2.2.2.2.2.2.2.2.2.2.2.2.2.2.2.2.2.2.2.2.1 hI hb1 hb2 hb3 hb4 hb5 (Nat.le_refl _) hu K
    by_cases z47 : x9 = 47
    · refine el_tabIn (tgt := 2563) 47 z47 dc_L_law__40 (by decide) (by decide) rfl (by decide) ?_
      exact lc_47 hW1 hW2 hx hm ho ho1 hg.2.2.2.2.2.2.2.2.2.2.2.2.2.2.2.2.2.2.2.2.2.2.2.2.2.2.2.2.2.2.2.2.2.2.2.2.2.2.2.2.2.2.2.2.2.2.2.1 hI hb1 hb2 hb3 hb4 hb5 (Nat.le_refl _) hu K
    by_cases z48 : x9 = 48
    · refine el_tabIn (tgt := 2631) 48 z48 dc_L_law__40 (by decide) (by decide) rfl (by decide) ?_
      exact lc_48 hW1 hW2 hx hm ho ho1 hg.2.2.2.2.2.2.2.2.2.2.2.2.2.2.2.2.2.2.2.2.2.2.2.2.2.2.2.2.2.2.2.2.2.2.2.2.2.2.2.2.2.2.2.2.2.2.2.2.1 hI hb1 hb2 hb3 hb4 hb5 (Nat.le_refl _) hu K
    by_cases z49 : x9 = 49
    · refine el_tabIn (tgt := 2656) 49 z49 dc_L_law__40 (by decide) (by decide) rfl (by decide) ?_
      exact lc_49 hW1 hW2 hx hm ho ho1 hg.2.2.2.2.2.2.2.2.2.2.2.2.2.2.2.2.2.2.2.2.2.2.2.2.2.2.2.2.2.2.2.2.2.2.2.2.2.2.2.2.2.2.2.2.2.2.2.2.2.1 hI hb1 hb2 hb3 hb4 hb5 (Nat.le_refl _) hu K
    by_cases z50 : x9 = 50
    · refine el_tabIn (tgt := 2669) 50 z50 dc_L_law__40 (by decide) (by decide) rfl (by decide) ?_
      exact lc_50 hW1 hW2 hx hm ho ho1 hg.2.2.2.2.2.2.2.2.2.2.2.2.2.2.2.2.2.2.2.2.2.2.2.2.2.2.2.2.2.2.2.2.2.2.2.2.2.2.2.2.2.2.2.2.2.2.2.2.2.2.1 hI hb1 hb2 hb3 hb4 hb5 (Nat.le_refl _) hu K
    by_cases z51 : x9 = 51
    · refine el_tabIn (tgt := 2680) 51 z51 dc_L_law__40 (by decide) (by decide) rfl (by decide) ?_
      exact lc_51 hW1 hW2 hx hm ho ho1 hg.2.2.2.2.2.2.2.2.2.2.2.2.2.2.2.2.2.2.2.2.2.2.2.2.2.2.2.2.2.2.2.2.2.2.2.2.2.2.2.2.2.2.2.2.2.2.2.2.2.2.2.1 hI hb1 hb2 hb3 hb4 hb5 (Nat.le_refl _) hu K
    by_cases z52 : x9 = 52
    · refine el_tabIn (tgt := 2693) 52 z52 dc_L_law__40 (by decide) (by decide) rfl (by decide) ?_
      exact lc_52 hW1 hW2 hx hm ho ho1 hg.2.2.2.2.2.2.2.2.2.2.2.2.2.2.2.2.2.2.2.2.2.2.2.2.2.2.2.2.2.2.2.2.2.2.2.2.2.2.2.2.2.2.2.2.2.2.2.2.2.2.2.2 hI hb1 hb2 hb3 hb4 hb5 (Nat.le_refl _) hu K
    refine el_tabOut (tgt := 2718) dc_L_law__40 ?_ (by decide) ?_
    · exact sw_out (lo := 0) (vs := [0, 1, 2, 3, 4, 5, 6, 7, 8, 9, 10, 11, 12, 13, 14, 15, 16, 17, 18, 19, 20, 21, 22, 23, 24, 25, 26, 27, 28, 29, 30, 31, 32, 33, 34, 35, 36, 37, 38, 39, 40, 41, 42, 43, 44, 45, 46, 47, 48, 49, 50, 51, 52]) (by decide) (by decide) (And.intro z0 (And.intro z1 (And.intro z2 (And.intro z3 (And.intro z4 (And.intro z5 (And.intro z6 (And.intro z7 (And.intro z8 (And.intro z9 (And.intro z10 (And.intro z11 (And.intro z12 (And.intro z13 (And.intro z14 (And.intro z15 (And.intro z16 (And.intro z17 (And.intro z18 (And.intro z19 (And.intro z20 (And.intro z21 (And.intro z22 (And.intro z23 (And.intro z24 (And.intro z25 (And.intro z26 (And.intro z27 (And.intro z28 (And.intro z29 (And.intro z30 (And.intro z31 (And.intro z32 (And.intro z33 (And.intro z34 (And.intro z35 (And.intro z36 (And.intro z37 (And.intro z38 (And.intro z39 (And.intro z40 (And.intro z41 (And.intro z42 (And.intro z43 (And.intro z44 (And.intro z45 (And.intro z46 (And.intro z47 (And.intro z48 (And.intro z49 (And.intro z50 (And.intro z51 (And.intro z52 trivial)))))))))))))))))))))))))))))))))))))))))))))))))))))
    exact el_wid ⟨(show 1000 + 3 * k ≤ 1000 + 3 * k + 3 from by omega), (show 100000 + 18 * k ≤ 100000 + 18 * k + 18 from by omega)⟩ (K σ1 σ2 hI)
