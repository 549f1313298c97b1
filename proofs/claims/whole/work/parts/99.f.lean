/-! the story's lines: settings -/
theorem j_limit {N z y L p : Nat} {B : Nat → Int32} {τ0 τ1 τ2 : pS} (hN : 20000 < N) (x2 : TF z τ0 τ1) (x3 : JT z y B L p τ1 τ2) (g : WorldR τ1 (z + 25) (τ2.2.1 (y + 1))) : LPost z y B L τ0 τ2 ((fX9_passNumber N (G1 z) (z + 1) 1 99 τ1).bind (fun q8 => fX7_readsSetting_b159 N (G1 z) q8.1 (putF q8.2 (z + 25) 6 q8.1))) (fX12_readNumber N (G2 y) y 8 1 99 τ2) := by
  have wi := g.1
  obtain ⟨v, ω, p', b', a1, a2, a3, a4⟩ := x3.num (lo := 1) (hi := 99) hN (by decide)
  unfold fX12_readNumber fX12_readNumber_b29 fX7_readsSetting_b159
  simp only [g2r_0_1, g2r_0_2, g2r_0_3, g2r_0_4, g2r_0_5, g2r_0_8, g2r_0_15, g2r_0_17, g2r_0_25, g2r_0_26, g2r_0_27, g2r_0_28, g2n_1, g2n_2, g2n_3, g2n_4, g2n_5, g2n_6, g2n_7, g2n_8, g2n_9, g2n_10, g2n_11, g2n_12]
  rw [a1, b_some, a2, b_some]
  dsimp only
  rcases a4 with ⟨q1, q2, jt⟩ | ⟨rfl, hb⟩
  · have bd := bds q1 q2
    have bd : (1 : Int) ≤ v.toInt ∧ v.toInt ≤ 99 := bd
    have v0 : 0 ≤ v.toInt := by omega
    have w1 : WorldR ω (z + 25) (τ2.2.1 (y + 1)) := wor_TF a3 g
    rw [if_neg (ne_m1 v0), if_pos (ge_0 v0)]
    show LPost z y B L τ0 τ2 _ (if v < 0 then _ else _)
    rw [if_neg (by rw [i_lt]; exact fun h => absurd h (by rw [show (0 : Int32).toInt = 0 from rfl]; omega))]
    have hw : (sA (PT y τ2 p' b') (y + 1) 8 v).2.1 (y + 1) = va_up (τ2.2.1 (y + 1)) 8 v := sA_w (n := 8) rfl
    have ew : ∀ k, k ≠ 8 → va_up (τ2.2.1 (y + 1)) 8 v k = τ2.2.1 (y + 1) k := fun k a => by rw [va_up_ne _ _ a]
    have wc : va_up (τ2.2.1 (y + 1)) 8 v 8 = v := va_up_self _ _ _
    generalize hW : va_up (τ2.2.1 (y + 1)) 8 v = w' at hw ew wc
    have du : DU z ω (putF ω (z + 25) 6 v) := DU.r.pf (by omega)
    refine ⟨1, _, _, rfl, rfl, x2.fc.t (a3.fc.t du.fc), FY.pt.sa, Or.inl ⟨rfl, ⟨p', jt.mv du (fun _ => rfl) (by rw [sA_o (by omega)])⟩, ?_, ?_⟩⟩
    · rw [hw]
      refine wor_mk w1 ?_ (fun k hk => ew k (by omega)) (fun k => by rw [pf_o (by omega)]) (fun k => by rw [pf_o (by omega)]) (fun o ho => by rw [pfA]) ?_ ?_
      · refine wi.st (fun k hk => ew k (by omega)) ?_ ?_ ?_ ?_ ?_ ?_ ?_ ?_ ?_ ?_ ?_ ?_ ?_ ?_ ?_ ?_
        · rw [ew 0 (by omega)]
          exact wi.1
        · rw [ew 1 (by omega)]
          exact ⟨Int.le_refl _, wi.2.1.2⟩
        · rw [ew 2 (by omega)]
          exact wi.2.2.1
        · rw [ew 3 (by omega)]
          exact wi.2.2.2.1
        · rw [ew 4 (by omega)]
          exact wi.2.2.2.2.1
        · rw [ew 7 (by omega)]
          exact wi.2.2.2.2.2.2.2.1
        · rw [wc]
          omega
        · rw [ew 10 (by omega)]
          exact wi.yr
        · rw [ew 11 (by omega), ew 0 (by omega)]
          exact wi.hB
        · unfold cN
          rw [ew 12 (by omega), ew 0 (by omega)]
          exact wi.pos
        · rw [ew 14 (by omega)]
          exact wi.2.2.2.2.2.2.2.2.2.2.2.2.2.2.1
        · exact wi.s17 (ew 0 (by omega)) (fun k a b => ew k (by omega))
        · exact wi.s37 (ew 1 (by omega)) (by rw [ew 2 (by omega)]; exact Int.le_refl _) (fun k a b => ew k (by omega))
        · exact wi.s55 (ew 2 (by omega)) (fun k a b => ew k (by omega))
        · exact wi.s67 (ew 3 (by omega)) (fun k a b => ew k (by omega))
        · exact wi.s75 (ew 4 (by omega)) (fun k a b => ew k (by omega))
      · have ta := w1.2.1
        refine tale_of ?_ (fun k hk => ?_)
        · have t0 := ta.1
          rw [pf0n (by decide), pf0n (by decide), pf0n (by decide), pf0n (by decide), pf0n (by decide), pf0n (by decide), pf0, pf0n (by decide), pf0n (by decide), ew 5 (by omega), ew 0 (by omega), ew 2 (by omega), ew 3 (by omega), ew 1 (by omega), ew 4 (by omega), wc, ew 10 (by omega), ew 14 (by omega)]
          exact ⟨t0.1, t0.2.1, t0.2.2.1, t0.2.2.2.1, t0.2.2.2.2.1, t0.2.2.2.2.2.1, rfl, t0.2.2.2.2.2.2.2.1, t0.2.2.2.2.2.2.2.2⟩
        · exact trow_e wi hk (tale_to ta k hk) (fun j hj => by rw [pfA]) (fun j hj => ew j (by omega))
      · exact mind_e (fun k => by rw [pf_o (by omega)]) (fun k => by rw [pfA]) (fun k hk => ew k (by omega)) wi.c1 w1.2.2.2.1
    · rw [hw, ew 5 (by omega)]
  · rw [if_pos rfl, if_neg (show ¬ (0 : Int32) ≤ -1 by decide)]
    refine lp_no rfl rfl (x2.fc.t (a3.fc.t (DU.fc (DU.r.pf (by omega))))) (FY.pt.sa) ?_ PT_f12
    rw [pf_o (by omega)]
    exact hb
theorem j_year {N z y L p : Nat} {B : Nat → Int32} {τ0 τ1 τ2 : pS} (hN : 20000 < N) (x2 : TF z τ0 τ1) (x3 : JT z y B L p τ1 τ2) (g : WorldR τ1 (z + 25) (τ2.2.1 (y + 1))) : LPost z y B L τ0 τ2 ((fX9_passNumber N (G1 z) (z + 1) 1 400 τ1).bind (fun q8 => fX7_readsSetting_b159 N (G1 z) q8.1 (putF q8.2 (z + 25) 7 q8.1))) (fX12_readNumber N (G2 y) y 10 1 400 τ2) := by
  have wi := g.1
  obtain ⟨v, ω, p', b', a1, a2, a3, a4⟩ := x3.num (lo := 1) (hi := 400) hN (by decide)
  unfold fX12_readNumber fX12_readNumber_b29 fX7_readsSetting_b159
  simp only [g2r_0_1, g2r_0_2, g2r_0_3, g2r_0_4, g2r_0_5, g2r_0_8, g2r_0_15, g2r_0_17, g2r_0_25, g2r_0_26, g2r_0_27, g2r_0_28, g2n_1, g2n_2, g2n_3, g2n_4, g2n_5, g2n_6, g2n_7, g2n_8, g2n_9, g2n_10, g2n_11, g2n_12]
  rw [a1, b_some, a2, b_some]
  dsimp only
  rcases a4 with ⟨q1, q2, jt⟩ | ⟨rfl, hb⟩
  · have bd := bds q1 q2
    have bd : (1 : Int) ≤ v.toInt ∧ v.toInt ≤ 400 := bd
    have v0 : 0 ≤ v.toInt := by omega
    have w1 : WorldR ω (z + 25) (τ2.2.1 (y + 1)) := wor_TF a3 g
    rw [if_neg (ne_m1 v0), if_pos (ge_0 v0)]
    show LPost z y B L τ0 τ2 _ (if v < 0 then _ else _)
    rw [if_neg (by rw [i_lt]; exact fun h => absurd h (by rw [show (0 : Int32).toInt = 0 from rfl]; omega))]
    have hw : (sA (PT y τ2 p' b') (y + 1) 10 v).2.1 (y + 1) = va_up (τ2.2.1 (y + 1)) 10 v := sA_w (n := 10) rfl
    have ew : ∀ k, k ≠ 10 → va_up (τ2.2.1 (y + 1)) 10 v k = τ2.2.1 (y + 1) k := fun k a => by rw [va_up_ne _ _ a]
    have wc : va_up (τ2.2.1 (y + 1)) 10 v 10 = v := va_up_self _ _ _
    generalize hW : va_up (τ2.2.1 (y + 1)) 10 v = w' at hw ew wc
    have du : DU z ω (putF ω (z + 25) 7 v) := DU.r.pf (by omega)
    refine ⟨1, _, _, rfl, rfl, x2.fc.t (a3.fc.t du.fc), FY.pt.sa, Or.inl ⟨rfl, ⟨p', jt.mv du (fun _ => rfl) (by rw [sA_o (by omega)])⟩, ?_, ?_⟩⟩
    · rw [hw]
      refine wor_mk w1 ?_ (fun k hk => ew k (by omega)) (fun k => by rw [pf_o (by omega)]) (fun k => by rw [pf_o (by omega)]) (fun o ho => by rw [pfA]) ?_ ?_
      · refine wi.st (fun k hk => ew k (by omega)) ?_ ?_ ?_ ?_ ?_ ?_ ?_ ?_ ?_ ?_ ?_ ?_ ?_ ?_ ?_ ?_
        · rw [ew 0 (by omega)]
          exact wi.1
        · rw [ew 1 (by omega)]
          exact ⟨Int.le_refl _, wi.2.1.2⟩
        · rw [ew 2 (by omega)]
          exact wi.2.2.1
        · rw [ew 3 (by omega)]
          exact wi.2.2.2.1
        · rw [ew 4 (by omega)]
          exact wi.2.2.2.2.1
        · rw [ew 7 (by omega)]
          exact wi.2.2.2.2.2.2.2.1
        · rw [ew 8 (by omega)]
          exact wi.2.2.2.2.2.2.2.2.1
        · rw [wc]
          omega
        · rw [ew 11 (by omega), ew 0 (by omega)]
          exact wi.hB
        · unfold cN
          rw [ew 12 (by omega), ew 0 (by omega)]
          exact wi.pos
        · rw [ew 14 (by omega)]
          exact wi.2.2.2.2.2.2.2.2.2.2.2.2.2.2.1
        · exact wi.s17 (ew 0 (by omega)) (fun k a b => ew k (by omega))
        · exact wi.s37 (ew 1 (by omega)) (by rw [ew 2 (by omega)]; exact Int.le_refl _) (fun k a b => ew k (by omega))
        · exact wi.s55 (ew 2 (by omega)) (fun k a b => ew k (by omega))
        · exact wi.s67 (ew 3 (by omega)) (fun k a b => ew k (by omega))
        · exact wi.s75 (ew 4 (by omega)) (fun k a b => ew k (by omega))
      · have ta := w1.2.1
        refine tale_of ?_ (fun k hk => ?_)
        · have t0 := ta.1
          rw [pf0n (by decide), pf0n (by decide), pf0n (by decide), pf0n (by decide), pf0n (by decide), pf0n (by decide), pf0n (by decide), pf0, pf0n (by decide), ew 5 (by omega), ew 0 (by omega), ew 2 (by omega), ew 3 (by omega), ew 1 (by omega), ew 4 (by omega), ew 8 (by omega), wc, ew 14 (by omega)]
          exact ⟨t0.1, t0.2.1, t0.2.2.1, t0.2.2.2.1, t0.2.2.2.2.1, t0.2.2.2.2.2.1, t0.2.2.2.2.2.2.1, rfl, t0.2.2.2.2.2.2.2.2⟩
        · exact trow_e wi hk (tale_to ta k hk) (fun j hj => by rw [pfA]) (fun j hj => ew j (by omega))
      · exact mind_e (fun k => by rw [pf_o (by omega)]) (fun k => by rw [pfA]) (fun k hk => ew k (by omega)) wi.c1 w1.2.2.2.1
    · rw [hw, ew 5 (by omega)]
  · rw [if_pos rfl, if_neg (show ¬ (0 : Int32) ≤ -1 by decide)]
    refine lp_no rfl rfl (x2.fc.t (a3.fc.t (DU.fc (DU.r.pf (by omega))))) (FY.pt.sa) ?_ PT_f12
    rw [pf_o (by omega)]
    exact hb
theorem j_talk {N z y L p : Nat} {B : Nat → Int32} {τ0 τ1 τ2 : pS} (hN : 20000 < N) (x2 : TF z τ0 τ1) (x3 : JT z y B L p τ1 τ2) (g : WorldR τ1 (z + 25) (τ2.2.1 (y + 1))) : LPost z y B L τ0 τ2 ((fX9_passNumber N (G1 z) (z + 1) 0 100 τ1).bind (fun q8 => fX7_readsSetting_b159 N (G1 z) q8.1 (putF q8.2 (z + 25) 8 q8.1))) (fX12_readNumber N (G2 y) y 14 0 100 τ2) := by
  have wi := g.1
  obtain ⟨v, ω, p', b', a1, a2, a3, a4⟩ := x3.num (lo := 0) (hi := 100) hN (by decide)
  unfold fX12_readNumber fX12_readNumber_b29 fX7_readsSetting_b159
  simp only [g2r_0_1, g2r_0_2, g2r_0_3, g2r_0_4, g2r_0_5, g2r_0_8, g2r_0_15, g2r_0_17, g2r_0_25, g2r_0_26, g2r_0_27, g2r_0_28, g2n_1, g2n_2, g2n_3, g2n_4, g2n_5, g2n_6, g2n_7, g2n_8, g2n_9, g2n_10, g2n_11, g2n_12]
  rw [a1, b_some, a2, b_some]
  dsimp only
  rcases a4 with ⟨q1, q2, jt⟩ | ⟨rfl, hb⟩
  · have bd := bds q1 q2
    have bd : (0 : Int) ≤ v.toInt ∧ v.toInt ≤ 100 := bd
    have v0 : 0 ≤ v.toInt := by omega
    have w1 : WorldR ω (z + 25) (τ2.2.1 (y + 1)) := wor_TF a3 g
    rw [if_neg (ne_m1 v0), if_pos (ge_0 v0)]
    show LPost z y B L τ0 τ2 _ (if v < 0 then _ else _)
    rw [if_neg (by rw [i_lt]; exact fun h => absurd h (by rw [show (0 : Int32).toInt = 0 from rfl]; omega))]
    have hw : (sA (PT y τ2 p' b') (y + 1) 14 v).2.1 (y + 1) = va_up (τ2.2.1 (y + 1)) 14 v := sA_w (n := 14) rfl
    have ew : ∀ k, k ≠ 14 → va_up (τ2.2.1 (y + 1)) 14 v k = τ2.2.1 (y + 1) k := fun k a => by rw [va_up_ne _ _ a]
    have wc : va_up (τ2.2.1 (y + 1)) 14 v 14 = v := va_up_self _ _ _
    generalize hW : va_up (τ2.2.1 (y + 1)) 14 v = w' at hw ew wc
    have du : DU z ω (putF ω (z + 25) 8 v) := DU.r.pf (by omega)
    refine ⟨1, _, _, rfl, rfl, x2.fc.t (a3.fc.t du.fc), FY.pt.sa, Or.inl ⟨rfl, ⟨p', jt.mv du (fun _ => rfl) (by rw [sA_o (by omega)])⟩, ?_, ?_⟩⟩
    · rw [hw]
      refine wor_mk w1 ?_ (fun k hk => ew k (by omega)) (fun k => by rw [pf_o (by omega)]) (fun k => by rw [pf_o (by omega)]) (fun o ho => by rw [pfA]) ?_ ?_
      · refine wi.st (fun k hk => ew k (by omega)) ?_ ?_ ?_ ?_ ?_ ?_ ?_ ?_ ?_ ?_ ?_ ?_ ?_ ?_ ?_ ?_
        · rw [ew 0 (by omega)]
          exact wi.1
        · rw [ew 1 (by omega)]
          exact ⟨Int.le_refl _, wi.2.1.2⟩
        · rw [ew 2 (by omega)]
          exact wi.2.2.1
        · rw [ew 3 (by omega)]
          exact wi.2.2.2.1
        · rw [ew 4 (by omega)]
          exact wi.2.2.2.2.1
        · rw [ew 7 (by omega)]
          exact wi.2.2.2.2.2.2.2.1
        · rw [ew 8 (by omega)]
          exact wi.2.2.2.2.2.2.2.2.1
        · rw [ew 10 (by omega)]
          exact wi.yr
        · rw [ew 11 (by omega), ew 0 (by omega)]
          exact wi.hB
        · unfold cN
          rw [ew 12 (by omega), ew 0 (by omega)]
          exact wi.pos
        · rw [wc]
          omega
        · exact wi.s17 (ew 0 (by omega)) (fun k a b => ew k (by omega))
        · exact wi.s37 (ew 1 (by omega)) (by rw [ew 2 (by omega)]; exact Int.le_refl _) (fun k a b => ew k (by omega))
        · exact wi.s55 (ew 2 (by omega)) (fun k a b => ew k (by omega))
        · exact wi.s67 (ew 3 (by omega)) (fun k a b => ew k (by omega))
        · exact wi.s75 (ew 4 (by omega)) (fun k a b => ew k (by omega))
      · have ta := w1.2.1
        refine tale_of ?_ (fun k hk => ?_)
        · have t0 := ta.1
          rw [pf0n (by decide), pf0n (by decide), pf0n (by decide), pf0n (by decide), pf0n (by decide), pf0n (by decide), pf0n (by decide), pf0n (by decide), pf0, ew 5 (by omega), ew 0 (by omega), ew 2 (by omega), ew 3 (by omega), ew 1 (by omega), ew 4 (by omega), ew 8 (by omega), ew 10 (by omega), wc]
          exact ⟨t0.1, t0.2.1, t0.2.2.1, t0.2.2.2.1, t0.2.2.2.2.1, t0.2.2.2.2.2.1, t0.2.2.2.2.2.2.1, t0.2.2.2.2.2.2.2.1, rfl⟩
        · exact trow_e wi hk (tale_to ta k hk) (fun j hj => by rw [pfA]) (fun j hj => ew j (by omega))
      · exact mind_e (fun k => by rw [pf_o (by omega)]) (fun k => by rw [pfA]) (fun k hk => ew k (by omega)) wi.c1 w1.2.2.2.1
    · rw [hw, ew 5 (by omega)]
  · rw [if_pos rfl, if_neg (show ¬ (0 : Int32) ≤ -1 by decide)]
    refine lp_no rfl rfl (x2.fc.t (a3.fc.t (DU.fc (DU.r.pf (by omega))))) (FY.pt.sa) ?_ PT_f12
    rw [pf_o (by omega)]
    exact hb
theorem j_doubt {N z y L p : Nat} {B : Nat → Int32} {τ0 τ1 τ2 : pS} (hN : 20000 < N) (x2 : TF z τ0 τ1) (x3 : JT z y B L p τ1 τ2) (g : WorldR τ1 (z + 25) (τ2.2.1 (y + 1))) : LPost z y B L τ0 τ2 ((fX9_passNumber N (G1 z) (z + 1) 0 99 τ1).bind (fun q8 => fX7_readsSetting_b159 N (G1 z) q8.1 (putF q8.2 (z + 41) 0 q8.1))) (fX12_readNumber N (G2 y) y 7 0 99 τ2) := by
  have wi := g.1
  obtain ⟨v, ω, p', b', a1, a2, a3, a4⟩ := x3.num (lo := 0) (hi := 99) hN (by decide)
  unfold fX12_readNumber fX12_readNumber_b29 fX7_readsSetting_b159
  simp only [g2r_0_1, g2r_0_2, g2r_0_3, g2r_0_4, g2r_0_5, g2r_0_8, g2r_0_15, g2r_0_17, g2r_0_25, g2r_0_26, g2r_0_27, g2r_0_28, g2n_1, g2n_2, g2n_3, g2n_4, g2n_5, g2n_6, g2n_7, g2n_8, g2n_9, g2n_10, g2n_11, g2n_12]
  rw [a1, b_some, a2, b_some]
  dsimp only
  rcases a4 with ⟨q1, q2, jt⟩ | ⟨rfl, hb⟩
  · have bd := bds q1 q2
    have bd : (0 : Int) ≤ v.toInt ∧ v.toInt ≤ 99 := bd
    have v0 : 0 ≤ v.toInt := by omega
    have w1 : WorldR ω (z + 25) (τ2.2.1 (y + 1)) := wor_TF a3 g
    rw [if_neg (ne_m1 v0), if_pos (ge_0 v0)]
    show LPost z y B L τ0 τ2 _ (if v < 0 then _ else _)
    rw [if_neg (by rw [i_lt]; exact fun h => absurd h (by rw [show (0 : Int32).toInt = 0 from rfl]; omega))]
    have hw : (sA (PT y τ2 p' b') (y + 1) 7 v).2.1 (y + 1) = va_up (τ2.2.1 (y + 1)) 7 v := sA_w (n := 7) rfl
    have ew : ∀ k, k ≠ 7 → va_up (τ2.2.1 (y + 1)) 7 v k = τ2.2.1 (y + 1) k := fun k a => by rw [va_up_ne _ _ a]
    have wc : va_up (τ2.2.1 (y + 1)) 7 v 7 = v := va_up_self _ _ _
    generalize hW : va_up (τ2.2.1 (y + 1)) 7 v = w' at hw ew wc
    have du : DU z ω (putF ω (z + 41) 0 v) := DU.r.pf (by omega)
    refine ⟨1, _, _, rfl, rfl, x2.fc.t (a3.fc.t du.fc), FY.pt.sa, Or.inl ⟨rfl, ⟨p', jt.mv du (fun _ => rfl) (by rw [sA_o (by omega)])⟩, ?_, ?_⟩⟩
    · rw [hw]
      refine wor_mk w1 ?_ (fun k hk => ew k (by omega)) (fun k => by rw [pf_o (by omega)]) (fun k => by rw [pf_o (by omega)]) (fun o ho => by rw [pfA]) ?_ ?_
      · refine wi.st (fun k hk => ew k (by omega)) ?_ ?_ ?_ ?_ ?_ ?_ ?_ ?_ ?_ ?_ ?_ ?_ ?_ ?_ ?_ ?_
        · rw [ew 0 (by omega)]
          exact wi.1
        · rw [ew 1 (by omega)]
          exact ⟨Int.le_refl _, wi.2.1.2⟩
        · rw [ew 2 (by omega)]
          exact wi.2.2.1
        · rw [ew 3 (by omega)]
          exact wi.2.2.2.1
        · rw [ew 4 (by omega)]
          exact wi.2.2.2.2.1
        · rw [wc]
          omega
        · rw [ew 8 (by omega)]
          exact wi.2.2.2.2.2.2.2.2.1
        · rw [ew 10 (by omega)]
          exact wi.yr
        · rw [ew 11 (by omega), ew 0 (by omega)]
          exact wi.hB
        · unfold cN
          rw [ew 12 (by omega), ew 0 (by omega)]
          exact wi.pos
        · rw [ew 14 (by omega)]
          exact wi.2.2.2.2.2.2.2.2.2.2.2.2.2.2.1
        · exact wi.s17 (ew 0 (by omega)) (fun k a b => ew k (by omega))
        · exact wi.s37 (ew 1 (by omega)) (by rw [ew 2 (by omega)]; exact Int.le_refl _) (fun k a b => ew k (by omega))
        · exact wi.s55 (ew 2 (by omega)) (fun k a b => ew k (by omega))
        · exact wi.s67 (ew 3 (by omega)) (fun k a b => ew k (by omega))
        · exact wi.s75 (ew 4 (by omega)) (fun k a b => ew k (by omega))
      · have ta := w1.2.1
        refine tale_of ?_ (fun k hk => ?_)
        · have t0 := ta.1
          rw [pf_o (show z + 25 ≠ z + 41 by omega), ew 5 (by omega), ew 0 (by omega), ew 2 (by omega), ew 3 (by omega), ew 1 (by omega), ew 4 (by omega), ew 8 (by omega), ew 10 (by omega), ew 14 (by omega)]
          exact t0
        · exact trow_e wi hk (tale_to ta k hk) (fun j hj => by rw [pfA]) (fun j hj => ew j (by omega))
      · obtain ⟨m1, m2, m3, m4, m5, m6, m7, m8⟩ := w1.2.2.2.1
        have c1' : cN w' 1 = cN (τ2.2.1 (y + 1)) 1 := by
          unfold cN
          rw [ew 1 (by omega)]
        have c1 := wi.c1
        unfold MindR
        rw [c1', pfA, pf0, pf0n (by decide), pf0n (by decide), pf0n (by decide), pf0n (by decide), pf0n (by decide), pf0n (by decide), wc, ew 9 (by omega), ew 0 (by omega), ew 11 (by omega), ew 12 (by omega), ew 16 (by omega), ew 13 (by omega)]
        refine ⟨rfl, m2, m3, m4, fun i => ?_, m6, m7, fun i hi => ?_⟩
        · rw [show bit (ω.1 (z + 41) 4) i = _ from m5 i]
          by_cases q : i < cN (τ2.2.1 (y + 1)) 1
          · rw [ew (39 + 3 * i) (by omega)]
          · rw [decide_eq_false q, Bool.false_and, Bool.false_and]
        · rw [ew (38 + 3 * i) (by omega)]
          exact m8 i hi
    · rw [hw, ew 5 (by omega)]
  · rw [if_pos rfl, if_neg (show ¬ (0 : Int32) ≤ -1 by decide)]
    refine lp_no rfl rfl (x2.fc.t (a3.fc.t (DU.fc (DU.r.pf (by omega))))) (FY.pt.sa) ?_ PT_f12
    rw [pf_o (by omega)]
    exact hb
theorem w_his0 {z y L p b n m : Nat} {B : Nat → Int32} {τ1 τ2 ω : pS} (jt : JT z y B L p ω (PT y τ2 p b)) (f1 : FC z τ1 ω) (w1 : WorldR ω (z + 25) (τ2.2.1 (y + 1))) (ec : τ2.2.1 (y + 1) 0 = nI n) (hn : n ≤ 10) (hm : m < n) : LPost z y B L τ1 τ2 (some (1, putF ω (z + 41) 2 (nI m))) (some (1, sA (PT y τ2 p b) (y + 1) 11 (nI m))) := by
  have wi := w1.1
  have hc : cN (τ2.2.1 (y + 1)) 0 = n := by
    unfold cN
    rw [ec, nI_toInt (by omega)]
    omega
  have hw : (sA (PT y τ2 p b) (y + 1) 11 (nI m)).2.1 (y + 1) = va_up (τ2.2.1 (y + 1)) 11 (nI m) := by rw [sA_w (n := 11) rfl, PT_2]
  have ew : ∀ k, k ≠ 11 → va_up (τ2.2.1 (y + 1)) 11 (nI m) k = τ2.2.1 (y + 1) k := fun k a => by rw [va_up_ne _ _ a]
  have wc : va_up (τ2.2.1 (y + 1)) 11 (nI m) 11 = nI m := va_up_self _ _ _
  generalize hW : va_up (τ2.2.1 (y + 1)) 11 (nI m) = w' at hw ew wc
  have cc : cN w' 0 = n := by
    unfold cN
    rw [ew 0 (by omega), ec, nI_toInt (by omega)]
    omega
  have du : DU z ω (putF ω (z + 41) 2 (nI m)) := DU.r.pf (by omega)
  refine ⟨1, _, _, rfl, rfl, f1.t du.fc, FY.pt.sa, Or.inl ⟨rfl, ⟨p, jt.mv du (fun _ => rfl) (by rw [sA_o (by omega)])⟩, ?_, ?_⟩⟩
  · rw [hw]
    refine wor_mk w1 ?_ (fun k hk => ew k (by omega)) (fun k => by rw [pf_o (by omega)]) (fun k => by rw [pf_o (by omega)]) (fun o ho => by rw [pfA]) ?_ ?_
    · refine wi.st (fun k hk => ew k (by omega)) ?_ ?_ ?_ ?_ ?_ ?_ ?_ ?_ ?_ ?_ ?_ ?_ ?_ ?_ ?_ ?_
      · rw [ew 0 (by omega)]
        exact wi.1
      · rw [ew 1 (by omega)]
        exact ⟨Int.le_refl _, wi.2.1.2⟩
      · rw [ew 2 (by omega)]
        exact wi.2.2.1
      · rw [ew 3 (by omega)]
        exact wi.2.2.2.1
      · rw [ew 4 (by omega)]
        exact wi.2.2.2.2.1
      · rw [ew 7 (by omega)]
        exact wi.2.2.2.2.2.2.2.1
      · rw [ew 8 (by omega)]
        exact wi.2.2.2.2.2.2.2.2.1
      · rw [ew 10 (by omega)]
        exact wi.yr
      · rw [wc, ew 0 (by omega), ec, nI_toInt (by omega), nI_toInt (by omega)]
        omega
      · unfold cN
        rw [ew 12 (by omega), ew 0 (by omega)]
        exact wi.pos
      · rw [ew 14 (by omega)]
        exact wi.2.2.2.2.2.2.2.2.2.2.2.2.2.2.1
      · exact wi.s17 (ew 0 (by omega)) (fun k a b => ew k (by omega))
      · exact wi.s37 (ew 1 (by omega)) (by rw [ew 2 (by omega)]; exact Int.le_refl _) (fun k a b => ew k (by omega))
      · exact wi.s55 (ew 2 (by omega)) (fun k a b => ew k (by omega))
      · exact wi.s67 (ew 3 (by omega)) (fun k a b => ew k (by omega))
      · exact wi.s75 (ew 4 (by omega)) (fun k a b => ew k (by omega))
    · have ta := w1.2.1
      refine tale_of ?_ (fun k hk => ?_)
      · have t0 := ta.1
        rw [pf_o (show z + 25 ≠ z + 41 by omega), ew 5 (by omega), ew 0 (by omega), ew 2 (by omega), ew 3 (by omega), ew 1 (by omega), ew 4 (by omega), ew 8 (by omega), ew 10 (by omega), ew 14 (by omega)]
        exact t0
      · exact trow_e wi hk (tale_to ta k hk) (fun j hj => by rw [pfA]) (fun j hj => ew j (by omega))
    · obtain ⟨m1, m2, m3, m4, m5, m6, m7, m8⟩ := w1.2.2.2.1
      have c1' : cN w' 1 = cN (τ2.2.1 (y + 1)) 1 := by
        unfold cN
        rw [ew 1 (by omega)]
      have c1 := wi.c1
      unfold MindR
      rw [c1', pfA, pf0n (by decide), pf0n (by decide), pf0, pf0n (by decide), pf0n (by decide), pf0n (by decide), pf0n (by decide), ew 12 (by omega), ew 7 (by omega), ew 9 (by omega), ew 0 (by omega), wc, ew 16 (by omega), ew 13 (by omega)]
      refine ⟨m1, m2, ?_, m4, fun i => ?_, m6, m7, fun i hi => ?_⟩
      · rw [ec, if_neg (nI_ne0 (by omega) (by omega))]
      · rw [show bit (ω.1 (z + 41) 4) i = _ from m5 i]
        by_cases q : i < cN (τ2.2.1 (y + 1)) 1
        · rw [ew (39 + 3 * i) (by omega)]
        · rw [decide_eq_false q, Bool.false_and, Bool.false_and]
      · rw [ew (38 + 3 * i) (by omega)]
        exact m8 i hi
  · rw [hw, ew 5 (by omega)]
theorem w_his1 {z y L p b n m : Nat} {B : Nat → Int32} {τ1 τ2 ω : pS} (jt : JT z y B L p ω (PT y τ2 p b)) (f1 : FC z τ1 ω) (w1 : WorldR ω (z + 25) (τ2.2.1 (y + 1))) (ec : τ2.2.1 (y + 1) 0 = nI n) (hn : n ≤ 10) (hm : m < n) : LPost z y B L τ1 τ2 (some (1, putF (putF ω (z + 41) 2 (nI m)) (z + 41) 3 (((1 : Int32) <<< (nI n &&& 31)) - 1))) (some (1, sA (sA (PT y τ2 p b) (y + 1) 11 (nI m)) (y + 1) 12 (((1 : Int32) <<< (nI n &&& 31)) - 1))) := by
  have wi := w1.1
  have hc : cN (τ2.2.1 (y + 1)) 0 = n := by
    unfold cN
    rw [ec, nI_toInt (by omega)]
    omega
  have hw : (sA (sA (PT y τ2 p b) (y + 1) 11 (nI m)) (y + 1) 12 (((1 : Int32) <<< (nI n &&& 31)) - 1)).2.1 (y + 1) = va_up (va_up (τ2.2.1 (y + 1)) 11 (nI m)) 12 (((1 : Int32) <<< (nI n &&& 31)) - 1) := by rw [sA_w (n := 12) rfl, sA_w (n := 11) rfl, PT_2]
  have ew : ∀ k, k ≠ 11 ∧ k ≠ 12 → va_up (va_up (τ2.2.1 (y + 1)) 11 (nI m)) 12 (((1 : Int32) <<< (nI n &&& 31)) - 1) k = τ2.2.1 (y + 1) k := fun k a => by rw [va_up_ne _ _ a.2, va_up_ne _ _ a.1]
  have wc : va_up (va_up (τ2.2.1 (y + 1)) 11 (nI m)) 12 (((1 : Int32) <<< (nI n &&& 31)) - 1) 11 = nI m := by rw [va_up_ne _ _ (by omega), va_up_self]
  have w12 : va_up (va_up (τ2.2.1 (y + 1)) 11 (nI m)) 12 (((1 : Int32) <<< (nI n &&& 31)) - 1) 12 = ((1 : Int32) <<< (nI n &&& 31)) - 1 := va_up_self _ _ _
  generalize hW : va_up (va_up (τ2.2.1 (y + 1)) 11 (nI m)) 12 (((1 : Int32) <<< (nI n &&& 31)) - 1) = w' at hw ew wc w12
  have cc : cN w' 0 = n := by
    unfold cN
    rw [ew 0 (by omega), ec, nI_toInt (by omega)]
    omega
  have du : DU z ω (putF (putF ω (z + 41) 2 (nI m)) (z + 41) 3 (((1 : Int32) <<< (nI n &&& 31)) - 1)) := (DU.r.pf (by omega)).pf (by omega)
  refine ⟨1, _, _, rfl, rfl, f1.t du.fc, FY.pt.sa.sa, Or.inl ⟨rfl, ⟨p, jt.mv du (fun _ => rfl) (by rw [sA_o (by omega), sA_o (by omega)])⟩, ?_, ?_⟩⟩
  · rw [hw]
    refine wor_mk w1 ?_ (fun k hk => ew k (by omega)) (fun k => by rw [pf_o (by omega), pf_o (by omega)]) (fun k => by rw [pf_o (by omega), pf_o (by omega)]) (fun o ho => by rw [pfA, pfA]) ?_ ?_
    · refine wi.st (fun k hk => ew k (by omega)) ?_ ?_ ?_ ?_ ?_ ?_ ?_ ?_ ?_ ?_ ?_ ?_ ?_ ?_ ?_ ?_
      · rw [ew 0 (by omega)]
        exact wi.1
      · rw [ew 1 (by omega)]
        exact ⟨Int.le_refl _, wi.2.1.2⟩
      · rw [ew 2 (by omega)]
        exact wi.2.2.1
      · rw [ew 3 (by omega)]
        exact wi.2.2.2.1
      · rw [ew 4 (by omega)]
        exact wi.2.2.2.2.1
      · rw [ew 7 (by omega)]
        exact wi.2.2.2.2.2.2.2.1
      · rw [ew 8 (by omega)]
        exact wi.2.2.2.2.2.2.2.2.1
      · rw [ew 10 (by omega)]
        exact wi.yr
      · rw [wc, ew 0 (by omega), ec, nI_toInt (by omega), nI_toInt (by omega)]
        omega
      · intro i hi
        rw [w12] at hi
        rw [cc]
        by_cases q : i < 32
        · have all : ∀ n, n ≤ 10 → ∀ k, k < 32 → bit (((1 : Int32) <<< (nI n &&& 31)) - 1) k = true → k < n := by decide +kernel
          exact all n hn i q hi
        · rw [bit_hi (by omega)] at hi
          cases hi
      · rw [ew 14 (by omega)]
        exact wi.2.2.2.2.2.2.2.2.2.2.2.2.2.2.1
      · exact wi.s17 (ew 0 (by omega)) (fun k a b => ew k (by omega))
      · exact wi.s37 (ew 1 (by omega)) (by rw [ew 2 (by omega)]; exact Int.le_refl _) (fun k a b => ew k (by omega))
      · exact wi.s55 (ew 2 (by omega)) (fun k a b => ew k (by omega))
      · exact wi.s67 (ew 3 (by omega)) (fun k a b => ew k (by omega))
      · exact wi.s75 (ew 4 (by omega)) (fun k a b => ew k (by omega))
    · have ta := w1.2.1
      refine tale_of ?_ (fun k hk => ?_)
      · have t0 := ta.1
        rw [pf_o (show z + 25 ≠ z + 41 by omega), pf_o (show z + 25 ≠ z + 41 by omega), ew 5 (by omega), ew 0 (by omega), ew 2 (by omega), ew 3 (by omega), ew 1 (by omega), ew 4 (by omega), ew 8 (by omega), ew 10 (by omega), ew 14 (by omega)]
        exact t0
      · exact trow_e wi hk (tale_to ta k hk) (fun j hj => by rw [pfA, pfA]) (fun j hj => ew j (by omega))
    · obtain ⟨m1, m2, m3, m4, m5, m6, m7, m8⟩ := w1.2.2.2.1
      have c1' : cN w' 1 = cN (τ2.2.1 (y + 1)) 1 := by
        unfold cN
        rw [ew 1 (by omega)]
      have c1 := wi.c1
      unfold MindR
      rw [c1', pfA, pfA, pf0n (by decide), pf0n (by decide), pf0n (by decide), pf0n (by decide), pf0n (by decide), pf0, pf0, pf0n (by decide), pf0n (by decide), pf0n (by decide), pf0n (by decide), pf0n (by decide), pf0n (by decide), w12, ew 7 (by omega), ew 9 (by omega), ew 0 (by omega), wc, ew 16 (by omega), ew 13 (by omega)]
      refine ⟨m1, m2, ?_, rfl, fun i => ?_, m6, m7, fun i hi => ?_⟩
      · rw [ec, if_neg (nI_ne0 (by omega) (by omega))]
      · rw [show bit (ω.1 (z + 41) 4) i = _ from m5 i]
        by_cases q : i < cN (τ2.2.1 (y + 1)) 1
        · rw [ew (39 + 3 * i) (by omega)]
        · rw [decide_eq_false q, Bool.false_and, Bool.false_and]
      · rw [ew (38 + 3 * i) (by omega)]
        exact m8 i hi
  · rw [hw, ew 5 (by omega)]
theorem j_his {N z y L p : Nat} {B : Nat → Int32} {τ0 τ1 τ2 : pS} (hN : 20000 < N) (x2 : TF z τ0 τ1) (x3 : JT z y B L p τ1 τ2) (g : WorldR τ1 (z + 25) (τ2.2.1 (y + 1))) : LPost z y B L τ0 τ2 ((fX9_passNumber N (G1 z) (z + 1) 0 ((τ1.1 (z + 25) 1) - 1) τ1).bind (fun q6 => if q6.1 = (-1 : Int32) then (fX7_readsSetting_b159 N (G1 z) q6.1 q6.2) else ((fX3_tellBearer N (G1 z) (z + 41) q6.1 (q6.2.1 (z + 25) 1) q6.2).bind (fun q7 => fX7_readsSetting_b159 N (G1 z) q6.1 q7)))) (fX12_readHis N (G2 y) y τ2) := by
  have wi := g.1
  have e3 : τ2.2.1 (y + 1) 0 = nI (cN (τ2.2.1 (y + 1)) 0) := nI_cN wi.1.1
  have c0 := wi.c0
  have t3 : τ1.1 (z + 25) 1 = τ2.2.1 (y + 1) 0 := g.2.1.1.2.1
  unfold fX12_readHis fX12_readHis_b21 fX7_readsSetting_b159
  rw [t3, r_names, b_some]
  obtain ⟨v, ω, p', b', a1, a2, a3, a4⟩ := x3.num (lo := 0) (hi := τ2.2.1 (y + 1) 0 - 1) hN (by decide)
  rw [a1, b_some, a2, b_some]
  dsimp only
  rcases a4 with ⟨q1, q2, jt⟩ | ⟨rfl, hb⟩
  · have v0 : 0 ≤ v.toInt := (bds q1 q2).1
    have w0 := wi.1
    have v1 : v.toInt < (τ2.2.1 (y + 1) 0).toInt := by
      have := (bds q1 q2).2
      rw [i_sub (by rw [show (1 : Int32).toInt = 1 from rfl]; omega) (by rw [show (1 : Int32).toInt = 1 from rfl]; omega), show (1 : Int32).toInt = 1 from rfl] at this
      omega
    have ev : v = nI v.toInt.toNat := nI_cN v0
    have w1 : WorldR ω (z + 25) (τ2.2.1 (y + 1)) := wor_TF a3 g
    have t4 : ω.1 (z + 25) 1 = τ2.2.1 (y + 1) 0 := w1.2.1.1.2.1
    have t5 : ω.1 (z + 41) 3 = τ2.2.1 (y + 1) 12 := w1.2.2.2.1.2.2.2.1
    have nlt : ¬ v < 0 := by
      rw [i_lt, show (0 : Int32).toInt = 0 from rfl]
      omega
    have n1 : ¬ v = -1 := ne_m1 v0
    simp only [if_neg n1, if_neg nlt]
    have hmn : v.toInt.toNat < cN (τ2.2.1 (y + 1)) 0 := by
      unfold cN
      omega
    generalize v.toInt.toNat = m at ev hmn
    subst ev
    generalize hn : cN (τ2.2.1 (y + 1)) 0 = n at c0 e3 hmn
    have i12 : (12 : Int32).toNatClampNeg = 12 := rfl
    unfold fX3_tellBearer fX12_isNow
    simp only [g2r_0_1, g2r_0_2, g2r_0_3, g2r_0_4, g2r_0_5, g2r_0_8, g2r_0_15, g2r_0_17, g2r_0_25, g2r_0_26, g2r_0_27, g2r_0_28, g2n_1, g2n_2, g2n_3, g2n_4, g2n_5, g2n_6, g2n_7, g2n_8, g2n_9, g2n_10, g2n_11, g2n_12]
    have k12 : gA (sA (PT y τ2 p' b') (y + 1) 11 (nI m)) (y + 1) 12 = τ2.2.1 (y + 1) 12 := by
      show (sA (PT y τ2 p' b') (y + 1) 11 (nI m)).2.1 (y + 1) 12 = _
      rw [sA_w (n := 11) rfl, va_up_ne _ _ (by omega), PT_2]
    have k0 : (sA (PT y τ2 p' b') (y + 1) 11 (nI m)).2.1 (y + 1) 0 = nI n := by
      rw [sA_w (n := 11) rfl, va_up_ne _ _ (by omega), PT_2, e3]
    rw [pf0n (by decide), t5, has_fn (by omega), b_some, k12, has_fn2 (by omega), b_some, t4, e3]
    by_cases q : bit (τ2.2.1 (y + 1) 12) m = true
    · rw [if_pos q, if_neg (show ¬ (1 : Int32) = 0 by decide), if_neg (show ¬ (1 : Int32) = 0 by decide), b_some]
      exact w_his0 jt (x2.fc.t a3.fc) w1 e3 c0 hmn
    · rw [if_neg q, if_pos rfl, if_pos rfl, b_some, r_names, b_some, k0]
      exact w_his1 jt (x2.fc.t a3.fc) w1 e3 c0 hmn
  · rw [if_pos rfl, if_pos rfl, if_pos (show (-1 : Int32) < 0 by decide), if_pos (show (-1 : Int32) < 0 by decide)]
    exact lp_no rfl rfl (x2.fc.t a3.fc) FY.pt hb PT_f12
