/-! draws -/
def Sv (w x : Nat → Int32) : Prop := WInv x ∧ HasLaw x ∧ ∀ k, mindK k = false → x k = w k
theorem Sv.r {w : Nat → Int32} (hw : WInv w) (hl : HasLaw w) : Sv w w := ⟨hw, hl, fun _ _ => rfl⟩
theorem Sv.c {w w' : Nat → Int32} {k : Nat} (h : Sv w w') (hk : mindK k = false) : cN w' k = cN w k := by
  unfold cN
  rw [h.2.2 k hk]
theorem Sv.tk {w v x : Nat → Int32} (h : Sv w v) (s : St v x) (h9 : v 9 < v 10) : Sv w (tick x) := by
  have e : x 9 < x 10 := by rw [s.2.2.2, s.2.2.1 10 rfl]; exact h9
  exact ⟨s.1.act em_9 (MInv_tick s.1 e), s.2.1.s em_9, fun k hk => (em_9 k hk).trans ((s.2.2.1 k hk).trans (h.2.2 k hk))⟩
theorem St.dn {w x : Nat → Int32} {d : Int32} (h : St w x) (hd : dOK x d) : St w (dnW x d) := by
  have c3 := h.1.c3
  unfold dnW
  split
  · split
    · exact h
    · rcases hd with rfl | ⟨k, hk, rfl⟩
      · rename_i g
        exact absurd (by decide) g
      · exact h.do (by rw [nI_toInt (by omega), Int.toNat_natCast]; exact hk)
  · exact h
theorem Sv.ca {w x : Nat → Int32} {d : Int32} (h : Sv w x) (hd : dOK x d) : Sv w (caW x d) := by
  unfold caW
  split
  · rename_i q
    have s := St.co h.1 h.2.1 (cN x 1) (Nat.le_refl _)
    exact h.tk (s.dn (hd.s s)) q.2
  · exact h
theorem dOK.v {w x : Nat → Int32} {d : Int32} (h : dOK w d) (s : Sv w x) : dOK x d := by
  rcases h with h | ⟨k, hk, h⟩
  · exact Or.inl h
  · exact Or.inr ⟨k, by rw [s.c rfl]; exact hk, h⟩
theorem bit32767 : ∀ i, i < 32 → bit 32767 i = decide (i < 15) := by decide
theorem ushr_eq {x : Int32} : jushr x 16 &&& 32767 = (x >>> ((16 : Int32) &&& 31)) &&& 32767 := by
  apply bit_ext
  intro i hi
  rw [bit_and, bit_and, bit32767 i hi]
  by_cases h : i < 15
  · rw [decide_eq_true h, Bool.and_true, Bool.and_true, show ((16 : Int32) &&& 31) = nI 16 &&& 31 from rfl, bit_shr (by omega) (by omega)]
    show (x.toBitVec >>> (16 : Nat)).getLsbD i = x.toBitVec.getLsbD (16 + i)
    rw [BitVec.getLsbD_ushiftRight]
  · rw [decide_eq_false h, Bool.and_false, Bool.and_false]
theorem jrem_nI {a b : Nat} (ha : a < 2147483648) (hb : 0 < b) (hb2 : b < 2147483648) : jrem (nI a) (nI b) = nI (a % b) := by
  unfold jrem
  have hd : a / b ≤ a := Nat.div_le_self a b
  have e : nI a / nI b = nI (a / b) := by
    apply i_ext
    rw [Int32.toInt_div, nI_toInt (by omega), nI_toInt (by omega), nI_toInt (by omega), ← Int.ofNat_tdiv]
    generalize a / b = c at hd ⊢
    exact Int.bmod_eq_of_le (by omega) (by omega)
  rw [e, nI_mul]
  have e2 : nI a = nI (a % b) + nI (a / b * b) := by
    rw [nI_add]
    congr 1
    rw [Nat.mul_comm]
    exact (Nat.mod_add_div a b).symm
  rw [e2, Int32.add_sub_cancel]
def drW (w : Nat → Int32) : Nat → Int32 := va_up w 16 (1103515245 * w 16 + 12345)
def drV (w : Nat → Int32) : Int32 := (drW w 16 >>> ((16 : Int32) &&& 31)) &&& 32767
theorem drV_bd (w : Nat → Int32) : ∃ m, m < 32768 ∧ drV w = nI m := by
  refine small_bits (n := 15) (fun i h => ?_) (by omega)
  rcases Nat.lt_or_ge i 32 with g | g
  · unfold drV at h
    rw [bit_and, bit32767 i g] at h
    simp at h
    exact h.2
  · rw [bit_hi g] at h
    cases h
theorem em_R {w : Nat → Int32} : ∀ k, mindK k = false → drW w k = w k := em_up rfl
theorem drW_ne {w : Nat → Int32} {k : Nat} (h : k ≠ 16) : drW w k = w k := up_ne h
theorem St.dr {w x : Nat → Int32} (h : St w x) : St w (drW x) := ⟨h.1.act em_R (MInv_c h.1.m (fun k hk => drW_ne hk)), h.2.1.s em_R, fun k hk => (em_R k hk).trans (h.2.2.1 k hk), (drW_ne (by decide)).trans h.2.2.2⟩
theorem c_draw {N z m : Nat} {b : Prop} {σ : pS} {x : Nat → Int32} (hm : z + 20 ≤ m) (h : MR b z m σ x) : ∃ τ, fX3_draw N (G1 z) m σ = some (drV x, τ) ∧ MR b z m τ (drW x) ∧ CC z m σ τ := by
  have e : σ.1 m 5 = x 16 := h.2.2.2.1.2.2.2.2.2.1
  refine ⟨putF σ m 5 (1103515245 * x 16 + 12345), ?_, h.upd hm rfl (by omega) (MInv_c h.1.m (fun k hk => drW_ne hk)) (mind_16 h.2.2.2.1), CC.r.pf⟩
  unfold fX3_draw
  rw [pf0, e, ushr_eq]
  unfold drV drW
  rw [va_up_self]
theorem r_drawn {N y n : Nat} {σ : pS} (h0 : 0 < n) (h1 : n < 2147483648) : ∃ τ, fX12_drawn N (G2 y) y (nI n) σ = some (jrem (drV (σ.2.1 (y + 1))) (nI n), τ) ∧ τ.2.1 (y + 1) = drW (σ.2.1 (y + 1)) ∧ SS y σ τ := by
  have e : (sA σ (y + 1) 16 (1103515245 * σ.2.1 (y + 1) 16 + 12345)).2.1 (y + 1) = drW (σ.2.1 (y + 1)) := sA_w (n := 16) rfl
  refine ⟨sA σ (y + 1) 16 (1103515245 * σ.2.1 (y + 1) 16 + 12345), ?_, e, SS.r.a⟩
  unfold fX12_drawn
  simp only [g2r_0_1, g2r_0_2, g2r_0_3, g2r_0_4, g2r_0_5, g2r_0_8, g2r_0_15, g2r_0_17, g2r_0_25, g2r_0_26, g2r_0_27, g2r_0_28, g2n_1, g2n_2, g2n_3, g2n_4, g2n_5, g2n_6, g2n_7, g2n_8, g2n_9, g2n_10, g2n_11, g2n_12]
  rw [decide_eq_true (nI_ne0 h0 (by omega)), ck_t]
  show some (jrem (((sA σ (y + 1) 16 (1103515245 * σ.2.1 (y + 1) 16 + 12345)).2.1 (y + 1) 16 >>> _) &&& 32767) (nI n), _) = _
  rw [e]
  rfl
/-- one of the court, by a draw -/
def stD (w : Nat → Int32) (c : Nat) : Nat → Int32 := if w 13 = 0 then (if w (39 + 3 * c) = 1 then (if w 14 ≤ jrem (drV w) 100 then drW w else sayW (drW w) c (w (38 + 3 * c)).toInt.toNat) else w) else w
def coD (w : Nat → Int32) : Nat → Nat → Int32 := itN (fun c x => stD x c) w
theorem coD_s {w : Nat → Int32} {n : Nat} : coD w (n + 1) = stD (coD w n) n := rfl
def dnD (w : Nat → Int32) : Nat → Int32 := if w 13 = 0 then (if w 3 ≤ 0 then w else doW (drW w) (jrem (drV w) (w 3)).toInt.toNat) else w
theorem cN_dr {w : Nat → Int32} {k : Nat} (h : k ≠ 16) : cN (drW w) k = cN w k := by
  unfold cN
  rw [drW_ne h]
theorem St.sd {w x : Nat → Int32} {c : Nat} (h : St w x) (hc : c < cN x 1) : St w (stD x c) := by
  unfold stD
  split
  · split
    · split
      · exact h.dr
      · exact h.dr.say (by rw [cN_dr (by decide)]; exact hc) (by rw [cN_dr (by decide)]; exact (h.1.ha hc).2)
    · exact h
  · exact h
theorem St.cd {w : Nat → Int32} (hw : WInv w) (hl : HasLaw w) : ∀ n, n ≤ cN w 1 → St w (coD w n) := by
  intro n
  induction n with
  | zero => intro _; exact St.r hw hl
  | succ n ih =>
    intro hn
    rw [coD_s]
    have h := ih (by omega)
    exact h.sd (by rw [h.c rfl]; omega)
theorem coD_stop {w : Nat → Int32} {k : Nat} (h : ¬ coD w k 13 = 0) : ∀ n, coD w (k + n) = coD w k := by
  intro n
  induction n with
  | zero => rfl
  | succ n ih =>
    rw [← Nat.add_assoc, coD_s, ih]
    unfold stD
    rw [if_neg h]
/-- which deed -/
theorem drD {x : Nat → Int32} (hw : WInv x) (h3 : ¬ x 3 ≤ 0) : ∃ k, k < cN x 3 ∧ jrem (drV x) (x 3) = nI k := by
  have c3 := hw.2.2.2.1
  have p : 0 < cN x 3 := by
    rw [i_le, show (0 : Int32).toInt = 0 from rfl] at h3
    unfold cN
    omega
  obtain ⟨m, hm, e⟩ := drV_bd x
  have c := hw.c3
  refine ⟨m % cN x 3, Nat.mod_lt _ p, ?_⟩
  rw [e, show x 3 = nI (cN x 3) from nI_cN c3.1, jrem_nI (by omega) p (by omega)]
theorem St.dd {w x : Nat → Int32} (h : St w x) : St w (dnD x) := by
  have c3 := h.1.c3
  unfold dnD
  split
  · split
    · exact h
    · rename_i g
      obtain ⟨k, hk, e⟩ := drD h.1 g
      rw [e]
      exact h.dr.do (by rw [cN_dr (by decide), nI_toInt (by omega), Int.toNat_natCast]; exact hk)
  · exact h
/-- a night by draws -/
def onW (w : Nat → Int32) : Nat → Int32 := if w 13 = 0 ∧ w 9 < w 10 then tick (dnD (coD w (cN w 1))) else w
theorem Sv.on {w x : Nat → Int32} (h : Sv w x) : Sv w (onW x) := by
  unfold onW
  split
  · rename_i q
    exact h.tk (St.cd h.1 h.2.1 (cN x 1) (Nat.le_refl _)).dd q.2
  · exact h
theorem c_dn78 {N z m : Nat} {b : Prop} {σ : pS} {x : Nat → Int32} (hN : 20000 < N) (hm : z + 20 ≤ m) (h : MR b z m σ x) (h9 : x 9 < x 10) : ∃ υ, fX10_drawnNight_b78 N (G1 z) (z + 3) m σ = some (1, υ) ∧ MR b z m υ (tick (dnD x)) ∧ CC z m σ υ := by
  have c3 := h.1.c3
  unfold fX10_drawnNight_b78 fX10_drawnNight_b112
  simp only [g1r_3_0]
  rw [h.2.2.2.1.2.2.2.2.2.2.1, h.2.1.1.2.2.2.1]
  by_cases q : x 13 = 0
  · rw [if_pos q]
    by_cases g : x 3 ≤ 0
    · have e : dnD x = x := by unfold dnD; rw [if_pos q, if_pos g]
      rw [if_pos g, e]
      exact ⟨_, rfl, h.tick hm h9, CC.r.pf⟩
    · obtain ⟨k, hk, ej⟩ := drD h.1 g
      have e : dnD x = doW (drW x) k := by unfold dnD; rw [if_pos q, if_neg g, ej, nI_toInt (by omega), Int.toNat_natCast]
      obtain ⟨τ, a1, a2, a3⟩ := c_draw (N := N) hm h
      obtain ⟨υ, b1, b2, b3⟩ := c_soothe (N := N) (d := k) hN hm a2 (by rw [cN_dr (by decide)]; exact hk)
      have e3 : τ.1 (z + 4) 3 = x 3 := a2.2.1.1.2.2.2.1.trans (drW_ne (by decide))
      rw [if_neg g, a1, b_some, e3, decide_eq_true (show ¬ x 3 = 0 from fun q => g (by rw [q]; decide)), ck_t, ej, b1, b_some, e]
      refine ⟨_, rfl, b2.tick hm ?_, (a3.t b3).pf⟩
      unfold doW
      rw [up_ne (by decide), up_ne (by decide), drW_ne (by decide), drW_ne (by decide)]
      exact h9
  · have e : dnD x = x := by unfold dnD; rw [if_neg q]
    rw [if_neg q, e]
    exact ⟨_, rfl, h.tick hm h9, CC.r.pf⟩
theorem c_night {N z m : Nat} {b : Prop} {σ : pS} {w : Nat → Int32} (hN : 20000 < N) (hm : z + 20 ≤ m) (ha : MA z m) (h : MR b z m σ w) : ∃ τ, fX10_drawnNight N (G1 z) (z + 3) m σ = some (if w 13 = 0 then (if w 10 ≤ w 9 then 0 else 1) else 0, τ) ∧ MR b z m τ (onW w) ∧ CC z m σ τ := by
  have hw := h.1
  have hl := h.hl
  have c1 := hw.c1
  unfold fX10_drawnNight
  rw [c_can h, b_some]
  by_cases q : w 13 = 0 ∧ w 9 < w 10
  · rw [if_pos q.1, if_neg (i_nle.mpr q.2), if_neg (by decide), show onW w = tick (dnD (coD w (cN w 1))) from if_pos q]
    have S := St.cd hw hl
    have fin : ∀ k τ, k ≤ cN w 1 → coD w k = coD w (cN w 1) → MR b z m τ (coD w k) → CC z m σ τ → ∃ r : Int32 × pS, (r.1 = 1 ∧ MR b z m r.2 (tick (dnD (coD w (cN w 1)))) ∧ CC z m σ r.2) ∧ fX10_drawnNight_b78 N (G1 z) (z + 3) m τ = some r := by
      intro k τ hk e hmr hcc
      have s := S k hk
      obtain ⟨υ, a1, a2, a3⟩ := c_dn78 (N := N) hN hm hmr (by rw [s.2.2.2, s.2.2.1 10 rfl]; exact q.2)
      rw [e] at a2
      exact ⟨(1, υ), ⟨rfl, a2, hcc.t a3⟩, a1⟩
    suffices hh : ∃ r : Int32 × pS, (r.1 = 1 ∧ MR b z m r.2 (tick (dnD (coD w (cN w 1)))) ∧ CC z m σ r.2) ∧ fX10_drawnNight_b12 N (G1 z) (z + 3) m (0, σ) = some r by
      obtain ⟨⟨r1, r⟩, ⟨h0, h1, h2⟩, h3⟩ := hh
      subst h0
      exact ⟨r, h3, h1, h2⟩
    unfold fX10_drawnNight_b12
    simp only [g1r_3_0]
    refine lp_forR (fun k b' => ∃ τ, b' = (nI k, τ) ∧ MR b z m τ (coD w k) ∧ CC z m σ τ) _ (cN w 1) (by omega) ?_ ?_ ⟨σ, rfl, h, CC.r⟩
    · rintro k hk _ ⟨τ, rfl, hmr, hcc⟩
      have s := S k (by omega)
      have ck : k < cN (coD w k) 1 := by rw [s.c rfl]; exact hk
      have e4 : τ.1 (z + 4) 4 = w 1 := hmr.2.1.1.2.2.2.2.1.trans (s.2.2.1 1 rfl)
      have e6 : τ.1 m 6 = coD w k 13 := hmr.2.2.2.1.2.2.2.2.2.2.1
      by_cases a : coD w k 13 = 0
      · left
        by_cases n1 : coD w k (39 + 3 * k) = 1
        · obtain ⟨hb1, hb2⟩ := s.1.ha ck
          obtain ⟨ρ, d1, d2, d3⟩ := c_draw (N := N) hm hmr
          have e8 : ρ.1 (z + 4) 8 = coD w k 14 := d2.2.1.1.2.2.2.2.2.2.2.2.trans (drW_ne (by decide))
          by_cases t : coD w k 14 ≤ jrem (drV (coD w k)) 100
          · refine ⟨(nI (k + 1), ρ), ⟨ρ, rfl, ?_, hcc.t d3⟩, fun p => ?_⟩
            · rw [coD_s]
              unfold stD
              rw [if_pos a, if_pos n1, if_pos t]
              exact d2
            · dsimp only
              rw [e4, if_neg (cnt_lt hw.2.1.1 hk), e6, if_pos a, has_fn (by omega), b_some, ite01, hmr.nr ck, if_pos (decide_eq_true n1), d1, b_some, e8, if_pos t, nI_1]
          · obtain ⟨υ, a1, a2, a3⟩ := c_speak (N := N) (i := k) (j := (coD w k (38 + 3 * k)).toInt.toNat) hN hm ha d2 (by rw [cN_dr (by decide)]; exact ck) (by rw [cN_dr (by decide)]; exact hb2)
            refine ⟨(nI (k + 1), υ), ⟨υ, rfl, ?_, (hcc.t d3).t a3⟩, fun p => ?_⟩
            · rw [coD_s]
              unfold stD
              rw [if_pos a, if_pos n1, if_neg t]
              exact a2
            · have eh : ρ.2.1 (m + 1) k = coD w k (38 + 3 * k) := (d2.2.2.2.1.2.2.2.2.2.2.2 k (by rw [cN_dr (by decide)]; exact ck)).trans (drW_ne (by omega))
              dsimp only
              rw [e4, if_neg (cnt_lt hw.2.1.1 hk), e6, if_pos a, has_fn (by omega), b_some, ite01, hmr.nr ck, if_pos (decide_eq_true n1), d1, b_some, e8, if_neg t, ha.1, at_fn ha.2.2.2.1 (by omega) (by omega), b_some, eh, hb1, a1, b_some, nI_1]
        · refine ⟨(nI (k + 1), τ), ⟨τ, rfl, ?_, hcc⟩, fun p => ?_⟩
          · rw [coD_s]
            unfold stD
            rw [if_pos a, if_neg n1]
            exact hmr
          · dsimp only
            rw [e4, if_neg (cnt_lt hw.2.1.1 hk), e6, if_pos a, has_fn (by omega), b_some, ite01, hmr.nr ck, if_neg (fun q => n1 (of_decide_eq_true q)), nI_1]
      · right
        obtain ⟨r, h1, h2⟩ := fin k τ (by omega) (by rw [show cN w 1 = k + (cN w 1 - k) by omega, coD_stop a]) hmr hcc
        refine ⟨r, h1, fun p => ?_⟩
        dsimp only
        rw [e4, if_neg (cnt_lt hw.2.1.1 hk), e6, if_neg a, h2]
    · rintro _ ⟨τ, rfl, hmr, hcc⟩
      have s := S (cN w 1) (Nat.le_refl _)
      have e4 : τ.1 (z + 4) 4 = w 1 := hmr.2.1.1.2.2.2.2.1.trans (s.2.2.1 1 rfl)
      obtain ⟨r, h1, h2⟩ := fin (cN w 1) τ (Nat.le_refl _) rfl hmr hcc
      refine ⟨r, h1, fun p => ?_⟩
      dsimp only
      rw [e4, if_pos (cnt_eN hw.2.1.1), h2]
  · rw [show (if w 13 = 0 then (if w 10 ≤ w 9 then (0 : Int32) else 1) else 0) = 0 from by
      by_cases a : w 13 = 0
      · rw [if_pos a, if_pos (i_nlt.mp (fun r => q ⟨a, r⟩))]
      · rw [if_neg a], if_pos rfl, show onW w = w from if_neg q]
    exact ⟨σ, rfl, h, CC.r⟩
theorem r_tick2 {N y : Nat} {σ : pS} : fX12_oneNight_b84 N (G2 y) y σ = some (sA σ (y + 1) 9 (σ.2.1 (y + 1) 9 + 1)) := by
  unfold fX12_oneNight_b84
  simp only [g2r_0_1, g2r_0_2, g2r_0_3, g2r_0_4, g2r_0_5, g2r_0_8, g2r_0_15, g2r_0_17, g2r_0_25, g2r_0_26, g2r_0_27, g2r_0_28, g2n_1, g2n_2, g2n_3, g2n_4, g2n_5, g2n_6, g2n_7, g2n_8, g2n_9, g2n_10, g2n_11, g2n_12]
  rfl
theorem r_one58 {N y : Nat} {σ : pS} (hN : 20000 < N) (hw : WInv (σ.2.1 (y + 1))) (hl : HasLaw (σ.2.1 (y + 1))) : ∃ τ, fX12_oneNight_b58 N (G2 y) y σ = some τ ∧ τ.2.1 (y + 1) = tick (dnD (σ.2.1 (y + 1))) ∧ SS y σ τ := by
  have c3 := hw.c3
  have h3 := hw.2.2.2.1
  unfold fX12_oneNight_b58
  rw [r_gone, b_some, ite01, r_deeds, b_some, b_some]
  rcases hw.a01 with q | q
  · rw [if_neg (show ¬ σ.2.1 (y + 1) 13 = 1 from by rw [q]; decide)]
    by_cases g : σ.2.1 (y + 1) 3 ≤ 0
    · rw [if_pos g, r_tick2]
      refine ⟨_, rfl, ?_, SS.r.a⟩
      rw [sA_w (n := 9) rfl]
      unfold dnD
      rw [if_pos q, if_pos g]
      rfl
    · have p : 0 < cN (σ.2.1 (y + 1)) 3 := by
        rw [i_le, show (0 : Int32).toInt = 0 from rfl] at g
        unfold cN
        omega
      obtain ⟨k, hk, ej⟩ := drD hw g
      obtain ⟨ρ, d1, d2, d3⟩ := r_drawn (N := N) (y := y) (σ := σ) (n := cN (σ.2.1 (y + 1)) 3) p (by omega)
      rw [show nI (cN (σ.2.1 (y + 1)) 3) = σ.2.1 (y + 1) 3 from (nI_cN h3.1).symm, ej] at d1
      have s := (St.r hw hl).dr
      obtain ⟨τ, a1, a2, a3⟩ := r_isDone (N := N) (y := y) (σ := ρ) (d := k) hN (by rw [d2]; exact s.1) (by rw [d2]; exact s.2.1) (by rw [d2, cN_dr (by decide)]; exact hk)
      rw [if_neg g, d1, b_some, a1, b_some, r_tick2]
      refine ⟨_, rfl, ?_, (d3.t a3).a⟩
      rw [sA_w (n := 9) rfl, a2, d2]
      unfold dnD
      rw [if_pos q, if_neg g, ej, nI_toInt (by omega), Int.toNat_natCast]
      rfl
  · rw [if_pos q, r_tick2]
    refine ⟨_, rfl, ?_, SS.r.a⟩
    rw [sA_w (n := 9) rfl]
    unfold dnD
    rw [if_neg (show ¬ σ.2.1 (y + 1) 13 = 0 from by rw [q]; decide)]
    rfl
theorem r_one {N y : Nat} {σ : pS} (hN : 20000 < N) (hw : WInv (σ.2.1 (y + 1))) (hl : HasLaw (σ.2.1 (y + 1))) : ∃ τ, fX12_oneNight N (G2 y) y σ = some τ ∧ τ.2.1 (y + 1) = tick (dnD (coD (σ.2.1 (y + 1)) (cN (σ.2.1 (y + 1)) 1))) ∧ SS y σ τ := by
  have c1 := hw.c1
  unfold fX12_oneNight
  generalize hwe : σ.2.1 (y + 1) = w at hw hl c1 ⊢
  have S := St.cd hw hl
  have fin : ∀ k τ, k ≤ cN w 1 → coD w k = coD w (cN w 1) → τ.2.1 (y + 1) = coD w k → SS y σ τ → ∃ r, (r.2.1 (y + 1) = tick (dnD (coD w (cN w 1))) ∧ SS y σ r) ∧ fX12_oneNight_b58 N (G2 y) y τ = some r := by
    intro k τ hk e hmr hcc
    have s := S k hk
    obtain ⟨υ, a1, a2, a3⟩ := r_one58 (N := N) (y := y) (σ := τ) hN (by rw [hmr]; exact s.1) (by rw [hmr]; exact s.2.1)
    rw [hmr, e] at a2
    exact ⟨υ, ⟨a2, hcc.t a3⟩, a1⟩
  suffices hh : ∃ r, (r.2.1 (y + 1) = tick (dnD (coD w (cN w 1))) ∧ SS y σ r) ∧ fX12_oneNight_b2 N (G2 y) y (0, σ) = some r by
    obtain ⟨r, ⟨h1, h2⟩, h3⟩ := hh
    exact ⟨r, h3, h1, h2⟩
  unfold fX12_oneNight_b2
  refine lp_forR (fun k b' => ∃ τ, b' = (nI k, τ) ∧ τ.2.1 (y + 1) = coD w k ∧ SS y σ τ) _ (cN w 1) (by omega) ?_ ?_ ⟨σ, rfl, hwe, SS.r⟩
  · rintro k hk _ ⟨τ, rfl, hmr, hcc⟩
    have s := S k (by omega)
    have ck : k < cN (coD w k) 1 := by rw [s.c rfl]; exact hk
    have e1 : coD w k 1 = w 1 := s.2.2.1 1 rfl
    by_cases a : coD w k 13 = 0
    · have a1' : ¬ coD w k 13 = 1 := by rw [a]; decide
      left
      by_cases n1 : coD w k (39 + 3 * k) = 1
      · obtain ⟨hb1, hb2⟩ := s.1.ha ck
        obtain ⟨ρ, d1, d2, d3⟩ := r_drawn (N := N) (y := y) (σ := τ) (n := 100) (by omega) (by omega)
        rw [hmr] at d1 d2
        have d1' : fX12_drawn N (G2 y) y 100 τ = some (jrem (drV (coD w k)) 100, ρ) := d1
        have sd := s.dr
        have e14 : gA ρ (y + 1) 14 = coD w k 14 := by
          show ρ.2.1 (y + 1) 14 = _
          rw [d2, drW_ne (by decide)]
        by_cases t : coD w k 14 ≤ jrem (drV (coD w k)) 100
        · refine ⟨(nI (k + 1), ρ), ⟨ρ, rfl, ?_, hcc.t d3⟩, fun p => ?_⟩
          · rw [d2, coD_s]
            unfold stD
            rw [if_pos a, if_pos n1, if_pos t]
          · dsimp only
            rw [r_court, b_some, hmr, e1, if_neg (cnt_lt hw.2.1.1 hk), r_gone, b_some, ite01, hmr, if_neg a1', r_isNear (by omega), b_some, ite01, hmr, if_pos n1, d1', b_some, g2r_0_1, g2n_1]
            show (if gA ρ (y + 1) 14 ≤ _ then _ else _) = _
            rw [e14, if_pos t, nI_1]
        · obtain ⟨υ, a1, a2, a3⟩ := r_says (N := N) (y := y) (σ := ρ) (i := k) (j := (coD w k (38 + 3 * k)).toInt.toNat) hN (by rw [d2]; exact sd.1) (by rw [d2]; exact sd.2.1) (by rw [d2, cN_dr (by decide)]; exact hb2)
          refine ⟨(nI (k + 1), υ), ⟨υ, rfl, ?_, (hcc.t d3).t a3⟩, fun p => ?_⟩
          · rw [a2, d2, coD_s]
            unfold stD
            rw [if_pos a, if_pos n1, if_neg t]
          · dsimp only
            rw [r_court, b_some, hmr, e1, if_neg (cnt_lt hw.2.1.1 hk), r_gone, b_some, ite01, hmr, if_neg a1', r_isNear (by omega), b_some, ite01, hmr, if_pos n1, d1', b_some, g2r_0_1, g2n_1]
            show (if gA ρ (y + 1) 14 ≤ _ then _ else _) = _
            rw [e14, if_neg t, r_ofWho1 (by omega), b_some, d2, drW_ne (by omega), hb1, a1, b_some, nI_1]
      · refine ⟨(nI (k + 1), τ), ⟨τ, rfl, ?_, hcc⟩, fun p => ?_⟩
        · rw [hmr, coD_s]
          unfold stD
          rw [if_pos a, if_neg n1]
        · dsimp only
          rw [r_court, b_some, hmr, e1, if_neg (cnt_lt hw.2.1.1 hk), r_gone, b_some, ite01, hmr, if_neg a1', r_isNear (by omega), b_some, ite01, hmr, if_neg n1, nI_1]
    · have a1' : coD w k 13 = 1 := by
        rcases s.1.a01 with g | g
        · exact absurd g a
        · exact g
      right
      obtain ⟨r, h1, h2⟩ := fin k τ (by omega) (by rw [show cN w 1 = k + (cN w 1 - k) by omega, coD_stop a]) hmr hcc
      refine ⟨r, h1, fun p => ?_⟩
      dsimp only
      rw [r_court, b_some, hmr, e1, if_neg (cnt_lt hw.2.1.1 hk), r_gone, b_some, ite01, hmr, if_pos a1', h2]
  · rintro _ ⟨τ, rfl, hmr, hcc⟩
    have s := S (cN w 1) (Nat.le_refl _)
    have e1 : coD w (cN w 1) 1 = w 1 := s.2.2.1 1 rfl
    obtain ⟨r, h1, h2⟩ := fin (cN w 1) τ (Nat.le_refl _) rfl hmr hcc
    refine ⟨r, h1, fun p => ?_⟩
    dsimp only
    rw [r_court, b_some, hmr, e1, if_pos (cnt_eN hw.2.1.1), h2]
