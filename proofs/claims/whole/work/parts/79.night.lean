/-! nights -/
theorem WInv.ha {w : Nat → Int32} (h : WInv w) {i : Nat} (hi : i < cN w 1) : w (38 + 3 * i) = nI (w (38 + 3 * i)).toInt.toNat ∧ (w (38 + 3 * i)).toInt.toNat < cN w 2 := by
  have a := (h.m.2.2.2.2.2.2.1 i hi).1
  refine ⟨nI_cN a.1, ?_⟩
  unfold cN
  omega
def St (w w' : Nat → Int32) : Prop := WInv w' ∧ HasLaw w' ∧ (∀ k, mindK k = false → w' k = w k) ∧ w' 9 = w 9
theorem St.r {w : Nat → Int32} (hw : WInv w) (hl : HasLaw w) : St w w := ⟨hw, hl, fun _ _ => rfl, rfl⟩
theorem St.c {w w' : Nat → Int32} {k : Nat} (h : St w w') (hk : mindK k = false) : cN w' k = cN w k := by
  unfold cN
  rw [h.2.2.1 k hk]
theorem say_9 {w : Nat → Int32} {i j : Nat} : sayW w i j 9 = w 9 := by
  unfold sayW
  rw [tel_lo (by omega) (by omega)]
  unfold sayM
  split
  · rw [up_ne (by decide), up_ne (by decide)]
  · rw [up_ne (by decide), up_ne (by decide), up_ne (by decide)]
theorem St.say {w x : Nat → Int32} {i j : Nat} (h : St w x) (hi : i < cN x 1) (hj : j < cN x 2) : St w (sayW x i j) := ⟨WInv_say h.1 h.2.1 hi hj, h.2.1.s em_S, fun k hk => (em_S k hk).trans (h.2.2.1 k hk), say_9.trans h.2.2.2⟩
theorem St.do {w x : Nat → Int32} {d : Nat} (h : St w x) (hd : d < cN x 3) : St w (doW x d) := ⟨WInv_do h.1 h.2.1 hd, h.2.1.s em_D, fun k hk => (em_D k hk).trans (h.2.2.1 k hk), (up_ne (by decide)).trans h.2.2.2⟩
def stW (w : Nat → Int32) (c : Nat) : Nat → Int32 := if w 13 = 0 then (if w (39 + 3 * c) = 1 then sayW w c (w (38 + 3 * c)).toInt.toNat else w) else w
def coW (w : Nat → Int32) : Nat → Nat → Int32 := itN (fun c x => stW x c) w
theorem coW_s {w : Nat → Int32} {n : Nat} : coW w (n + 1) = stW (coW w n) n := rfl
def dnW (w : Nat → Int32) (d : Int32) : Nat → Int32 := if w 13 = 0 then (if d < 0 then w else doW w d.toInt.toNat) else w
def tick (w : Nat → Int32) : Nat → Int32 := va_up w 9 (w 9 + 1)
def okN (w : Nat → Int32) : Prop := w 13 = 0 ∧ w 9 < w 10
theorem St.st {w x : Nat → Int32} {c : Nat} (h : St w x) (hc : c < cN x 1) : St w (stW x c) := by
  unfold stW
  split
  · split
    · exact h.say hc (h.1.ha hc).2
    · exact h
  · exact h
theorem St.co {w : Nat → Int32} (hw : WInv w) (hl : HasLaw w) : ∀ n, n ≤ cN w 1 → St w (coW w n) := by
  intro n
  induction n with
  | zero => intro _; exact St.r hw hl
  | succ n ih =>
    intro hn
    rw [coW_s]
    have h := ih (by omega)
    exact h.st (by rw [h.c rfl]; omega)
theorem coW_stop {w : Nat → Int32} {k : Nat} (h : ¬ coW w k 13 = 0) : ∀ n, coW w (k + n) = coW w k := by
  intro n
  induction n with
  | zero => rfl
  | succ n ih =>
    rw [← Nat.add_assoc, coW_s, ih]
    unfold stW
    rw [if_neg h]
theorem MInv_9 {w : Nat → Int32} {v : Int32} (m : MInv w) (hv : 0 ≤ v.toInt ∧ v.toInt ≤ 400) : MInv (va_up w 9 v) := by
  obtain ⟨m7, m9, m11, m12, m13, m15, mc, ml⟩ := m
  unfold MInv cN at *
  rw [va_up_self, up_ne (by omega), up_ne (by omega), up_ne (by omega), up_ne (by omega), up_ne (by omega), up_ne (by omega), up_ne (by omega), up_ne (by omega)]
  refine ⟨m7, hv, m11, m12, m13, m15, fun j hj => ?_, fun j hj => ?_⟩
  · rw [up_ne (by omega), up_ne (by omega)]
    exact mc j hj
  · rw [up_ne (by omega), up_ne (by omega), up_ne (by omega), up_ne (by omega), up_ne (by omega)]
    exact ml j hj
theorem WInv.yr {w : Nat → Int32} (h : WInv w) : 1 ≤ (w 10).toInt ∧ (w 10).toInt ≤ 400 := h.2.2.2.2.2.2.2.2.2.2.1
theorem MInv_tick {w : Nat → Int32} (h : WInv w) (h9 : w 9 < w 10) : MInv (tick w) := by
  refine MInv_9 h.m ?_
  have a := h.m.2.1
  have b := h.yr
  rw [i_lt] at h9
  have e : (1 : Int32).toInt = 1 := rfl
  rw [i_add (by omega) (by omega)]
  omega
theorem em_9 {w : Nat → Int32} : ∀ k, mindK k = false → tick w k = w k := em_up rfl
/-- a cell of the mind changes on both sides -/
theorem MR.upd {b : Prop} {z m k k' : Nat} {v : Int32} {σ : pS} {x : Nat → Int32} (hm : z + 20 ≤ m) (h : MR b z m σ x) (hk : mindK k' = true) (hl : k' < 83 ∧ k' ≠ 15) (mi : MInv (va_up x k' v)) (mm : MindR (va_up (σ.1 m) k v) (σ.2.1 (m + 1)) (va_up x k' v)) : MR b z m (putF σ m k v) (va_up x k' v) := by
  obtain ⟨hw, ht, hlaw, hmind, hlog⟩ := h
  have k1 : CC z m σ (putF σ m k v) := CC.r.pf
  refine ⟨hw.act (em_up hk) mi, tale_w hw (em_up hk) (k1.tal hm ht), law_S (em_up hk) (k1.law hm hlaw), ?_, fun hb => ?_⟩
  · rw [pf_w]
    exact mm
  · rw [pf_o (by omega)]
    exact log_up hl (hlog hb)
theorem MR.tick {b : Prop} {z m : Nat} {σ : pS} {x : Nat → Int32} (hm : z + 20 ≤ m) (h : MR b z m σ x) (h9 : x 9 < x 10) : MR b z m (putF σ m 1 (σ.1 m 1 + 1)) (tick x) := by
  rw [h.2.2.2.1.2.1]
  exact h.upd hm rfl (by omega) (MInv_tick h.1 h9) (mind_9 h.2.2.2.1)
theorem dn_9 {x : Nat → Int32} {d : Int32} : dnW x d 9 = x 9 := by
  unfold dnW doW
  split
  · split
    · rfl
    · rw [up_ne (by decide)]
  · rfl
theorem dn_10 {x : Nat → Int32} {d : Int32} : dnW x d 10 = x 10 := by
  unfold dnW doW
  split
  · split
    · rfl
    · rw [up_ne (by decide)]
  · rfl
/-- a deed, or none -/
def dOK (w : Nat → Int32) (d : Int32) : Prop := d = -1 ∨ ∃ k, k < cN w 3 ∧ d = nI k
theorem c_plain60 {N z m : Nat} {b : Prop} {σ : pS} {x : Nat → Int32} {d : Int32} (hN : 20000 < N) (hm : z + 20 ≤ m) (h : MR b z m σ x) (h9 : x 9 < x 10) (hd : dOK x d) : ∃ υ, fX10_plainNight_b60 N (G1 z) (z + 3) m d σ = some υ ∧ MR b z m υ (tick (dnW x d)) ∧ CC z m σ υ := by
  have c3 := h.1.c3
  unfold fX10_plainNight_b60 fX10_plainNight_b78
  rw [h.2.2.2.1.2.2.2.2.2.2.1]
  by_cases q : x 13 = 0
  · rw [if_pos q]
    rcases hd with rfl | ⟨k, hk, rfl⟩
    · have e : dnW x (-1) = x := by unfold dnW; rw [if_pos q, if_pos (by decide)]
      rw [if_pos rfl, e]
      exact ⟨_, rfl, h.tick hm h9, CC.r.pf⟩
    · have e : dnW x (nI k) = doW x k := by unfold dnW; rw [if_pos q, if_neg (nI_pos (by omega)), nI_toInt (by omega), Int.toNat_natCast]
      obtain ⟨τ, a1, a2, a3⟩ := c_soothe (N := N) hN hm h hk
      rw [if_neg (fun q => by
        have : (nI k).toInt = (-1 : Int32).toInt := by rw [q]
        rw [nI_toInt (by omega), show (-1 : Int32).toInt = -1 from rfl] at this
        omega), a1, b_some, e]
      refine ⟨_, rfl, a2.tick hm ?_, a3.pf⟩
      show doW x k 9 < doW x k 10
      unfold doW
      rw [up_ne (by decide), up_ne (by decide)]
      exact h9
  · have e : dnW x d = x := by unfold dnW; rw [if_neg q]
    rw [if_neg q, e]
    exact ⟨_, rfl, h.tick hm h9, CC.r.pf⟩
theorem c_can {N z m : Nat} {b : Prop} {σ : pS} {w : Nat → Int32} (h : MR b z m σ w) : fX10_canNightCome N (G1 z) (z + 3) m σ = some (if w 13 = 0 then (if w 10 ≤ w 9 then 0 else 1) else 0) := by
  unfold fX10_canNightCome
  rw [g1r_3_0, h.2.2.2.1.2.2.2.2.2.2.1, h.2.2.2.1.2.1, h.2.1.1.2.2.2.2.2.2.2.1]
  split
  · split <;> rfl
  · rfl
theorem r_over {N y : Nat} {σ : pS} : fX12_isOver N (G2 y) y σ = some (if σ.2.1 (y + 1) 13 = 1 then 1 else if σ.2.1 (y + 1) 9 < σ.2.1 (y + 1) 10 then 0 else 1) := by
  unfold fX12_isOver fX12_isOver_b24
  rw [r_gone, b_some, ite01]
  simp only [g2r_0_1, g2r_0_2, g2r_0_3, g2r_0_4, g2r_0_5, g2r_0_8, g2r_0_15, g2r_0_17, g2r_0_25, g2r_0_26, g2r_0_27, g2r_0_28, g2n_1, g2n_2, g2n_3, g2n_4, g2n_5, g2n_6, g2n_7, g2n_8, g2n_9, g2n_10, g2n_11, g2n_12]
  show (if σ.2.1 (y + 1) 13 = 1 then _ else (if σ.2.1 (y + 1) 9 < σ.2.1 (y + 1) 10 then _ else _)) = _
  split
  · rfl
  · split <;> rfl
/-- a night ahead -/
def caW (w : Nat → Int32) (d : Int32) : Nat → Int32 := if w 13 = 0 ∧ w 9 < w 10 then tick (dnW (coW w (cN w 1)) d) else w
theorem MR.nr {b : Prop} {z m k : Nat} {σ : pS} {x : Nat → Int32} (h : MR b z m σ x) (hk : k < cN x 1) : bit (σ.1 m 4) k = decide (x (39 + 3 * k) = 1) := by
  have := h.2.2.2.1.2.2.2.2.1 k
  rw [decide_eq_true hk, Bool.true_and] at this
  exact this
theorem dOK.s {w x : Nat → Int32} {d : Int32} (h : dOK w d) (s : St w x) : dOK x d := by
  rcases h with h | ⟨k, hk, h⟩
  · exact Or.inl h
  · exact Or.inr ⟨k, by rw [s.c rfl]; exact hk, h⟩
theorem c_plain {N z m : Nat} {b : Prop} {σ : pS} {w : Nat → Int32} {d : Int32} (hN : 20000 < N) (hm : z + 20 ≤ m) (ha : MA z m) (h : MR b z m σ w) (hd : dOK w d) : ∃ τ, fX10_plainNight N (G1 z) (z + 3) m d σ = some τ ∧ MR b z m τ (caW w d) ∧ CC z m σ τ := by
  have hw := h.1
  have hl := h.hl
  have c1 := hw.c1
  unfold fX10_plainNight
  rw [c_can h, b_some]
  by_cases q : w 13 = 0 ∧ w 9 < w 10
  · rw [if_pos q.1, if_neg (i_nle.mpr q.2), if_neg (by decide), show caW w d = tick (dnW (coW w (cN w 1)) d) from if_pos q]
    have S := St.co hw hl
    have fin : ∀ k τ, k ≤ cN w 1 → coW w k = coW w (cN w 1) → MR b z m τ (coW w k) → CC z m σ τ → ∃ r, (MR b z m r (tick (dnW (coW w (cN w 1)) d)) ∧ CC z m σ r) ∧ fX10_plainNight_b60 N (G1 z) (z + 3) m d τ = some r := by
      intro k τ hk e hmr hcc
      have s := S k hk
      obtain ⟨υ, a1, a2, a3⟩ := c_plain60 (N := N) hN hm hmr (by rw [s.2.2.2, s.2.2.1 10 rfl]; exact q.2) (hd.s s)
      rw [e] at a2
      exact ⟨υ, ⟨a2, hcc.t a3⟩, a1⟩
    suffices hh : ∃ r, (MR b z m r (tick (dnW (coW w (cN w 1)) d)) ∧ CC z m σ r) ∧ fX10_plainNight_b11 N (G1 z) (z + 3) m d (0, σ) = some r by
      obtain ⟨r, ⟨h1, h2⟩, h3⟩ := hh
      exact ⟨r, h3, h1, h2⟩
    unfold fX10_plainNight_b11
    simp only [g1r_3_0]
    refine lp_forR (fun k b' => ∃ τ, b' = (nI k, τ) ∧ MR b z m τ (coW w k) ∧ CC z m σ τ) _ (cN w 1) (by omega) ?_ ?_ ⟨σ, rfl, h, CC.r⟩
    · rintro k hk _ ⟨τ, rfl, hmr, hcc⟩
      have s := S k (by omega)
      have ck : k < cN (coW w k) 1 := by rw [s.c rfl]; exact hk
      have e4 : τ.1 (z + 4) 4 = w 1 := hmr.2.1.1.2.2.2.2.1.trans (s.2.2.1 1 rfl)
      have e6 : τ.1 m 6 = coW w k 13 := hmr.2.2.2.1.2.2.2.2.2.2.1
      by_cases a : coW w k 13 = 0
      · left
        by_cases n1 : coW w k (39 + 3 * k) = 1
        · obtain ⟨hb1, hb2⟩ := s.1.ha ck
          obtain ⟨υ, a1, a2, a3⟩ := c_speak (N := N) (i := k) hN hm ha hmr ck hb2
          refine ⟨(nI (k + 1), υ), ⟨υ, rfl, ?_, hcc.t a3⟩, fun p => ?_⟩
          · rw [coW_s]
            unfold stW
            rw [if_pos a, if_pos n1]
            exact a2
          · dsimp only
            rw [e4, if_neg (cnt_lt hw.2.1.1 hk), e6, if_pos a, has_fn (by omega), b_some, ite01, hmr.nr ck, if_pos (decide_eq_true n1), ha.1, at_fn ha.2.2.2.1 (by omega) (by omega), b_some, show τ.2.1 (m + 1) k = coW w k (38 + 3 * k) from hmr.2.2.2.1.2.2.2.2.2.2.2 k ck, hb1, a1, b_some, nI_1]
        · refine ⟨(nI (k + 1), τ), ⟨τ, rfl, ?_, hcc⟩, fun p => ?_⟩
          · rw [coW_s]
            unfold stW
            rw [if_pos a, if_neg n1]
            exact hmr
          · dsimp only
            rw [e4, if_neg (cnt_lt hw.2.1.1 hk), e6, if_pos a, has_fn (by omega), b_some, ite01, hmr.nr ck, if_neg (fun q => n1 (of_decide_eq_true q)), nI_1]
      · right
        obtain ⟨r, h1, h2⟩ := fin k τ (by omega) (by rw [show cN w 1 = k + (cN w 1 - k) by omega, coW_stop a]) hmr hcc
        refine ⟨r, h1, fun p => ?_⟩
        dsimp only
        rw [e4, if_neg (cnt_lt hw.2.1.1 hk), e6, if_neg a, h2]
    · rintro _ ⟨τ, rfl, hmr, hcc⟩
      have s := S (cN w 1) (Nat.le_refl _)
      have e4 : τ.1 (z + 4) 4 = w 1 := hmr.2.1.1.2.2.2.2.1.trans (s.2.2.1 1 rfl)
      obtain ⟨r, h1, h2⟩ := fin (cN w 1) τ (Nat.le_refl _) rfl hmr hcc
      refine ⟨r, h1, fun p => ?_⟩
      dsimp only
      rw [e4, if_pos (cnt_eN hw.2.1.1), h2]
  · rw [show (if w 13 = 0 then (if w 10 ≤ w 9 then (0 : Int32) else 1) else 0) = 0 from by
      by_cases a : w 13 = 0
      · rw [if_pos a, if_pos (i_nlt.mp (fun r => q ⟨a, r⟩))]
      · rw [if_neg a], if_pos rfl, show caW w d = w from if_neg q]
    exact ⟨σ, rfl, h, CC.r⟩
theorem r_tick {N y : Nat} {σ : pS} : fX12_calmNight_b66 N (G2 y) y σ = some (sA σ (y + 1) 9 (σ.2.1 (y + 1) 9 + 1)) := by
  unfold fX12_calmNight_b66
  simp only [g2r_0_1, g2r_0_2, g2r_0_3, g2r_0_4, g2r_0_5, g2r_0_8, g2r_0_15, g2r_0_17, g2r_0_25, g2r_0_26, g2r_0_27, g2r_0_28, g2n_1, g2n_2, g2n_3, g2n_4, g2n_5, g2n_6, g2n_7, g2n_8, g2n_9, g2n_10, g2n_11, g2n_12]
  rfl
theorem r_calm50 {N y : Nat} {σ : pS} {d : Int32} (hN : 20000 < N) (hw : WInv (σ.2.1 (y + 1))) (hl : HasLaw (σ.2.1 (y + 1))) (hd : dOK (σ.2.1 (y + 1)) d) : ∃ τ, fX12_calmNight_b50 N (G2 y) y d σ = some τ ∧ τ.2.1 (y + 1) = tick (dnW (σ.2.1 (y + 1)) d) ∧ SS y σ τ := by
  have c3 := hw.c3
  unfold fX12_calmNight_b50
  rw [r_gone, b_some, ite01]
  rcases hw.a01 with q | q
  · rw [if_neg (show ¬ σ.2.1 (y + 1) 13 = 1 from by rw [q]; decide)]
    rcases hd with rfl | ⟨k, hk, rfl⟩
    · rw [if_pos (by decide), r_tick]
      refine ⟨_, rfl, ?_, SS.r.a⟩
      rw [sA_w (n := 9) rfl]
      unfold dnW
      rw [if_pos q, if_pos (by decide)]
      rfl
    · obtain ⟨τ, a1, a2, a3⟩ := r_isDone (N := N) hN hw hl hk
      rw [if_neg (nI_pos (by omega)), a1, b_some, r_tick]
      refine ⟨_, rfl, ?_, a3.a⟩
      rw [sA_w (n := 9) rfl, a2]
      unfold dnW
      rw [if_pos q, if_neg (nI_pos (by omega)), nI_toInt (by omega), Int.toNat_natCast]
      rfl
  · rw [if_pos q, r_tick]
    refine ⟨_, rfl, ?_, SS.r.a⟩
    rw [sA_w (n := 9) rfl]
    unfold dnW
    rw [if_neg (show ¬ σ.2.1 (y + 1) 13 = 0 from by rw [q]; decide)]
    rfl
theorem r_calm {N y : Nat} {σ : pS} {d : Int32} (hN : 20000 < N) (hw : WInv (σ.2.1 (y + 1))) (hl : HasLaw (σ.2.1 (y + 1))) (hd : dOK (σ.2.1 (y + 1)) d) : ∃ τ, fX12_calmNight N (G2 y) y d σ = some τ ∧ τ.2.1 (y + 1) = caW (σ.2.1 (y + 1)) d ∧ SS y σ τ := by
  have c1 := hw.c1
  unfold fX12_calmNight
  rw [r_over, b_some]
  generalize hwe : σ.2.1 (y + 1) = w at hw hl hd c1 ⊢
  by_cases q : w 13 = 0 ∧ w 9 < w 10
  · rw [if_neg (show ¬ w 13 = 1 from by rw [q.1]; decide), if_pos q.2, if_pos rfl, show caW w d = tick (dnW (coW w (cN w 1)) d) from if_pos q]
    have S := St.co hw hl
    have fin : ∀ k τ, k ≤ cN w 1 → coW w k = coW w (cN w 1) → τ.2.1 (y + 1) = coW w k → SS y σ τ → ∃ r, (r.2.1 (y + 1) = tick (dnW (coW w (cN w 1)) d) ∧ SS y σ r) ∧ fX12_calmNight_b50 N (G2 y) y d τ = some r := by
      intro k τ hk e hmr hcc
      have s := S k hk
      obtain ⟨υ, a1, a2, a3⟩ := r_calm50 (N := N) (y := y) (σ := τ) (d := d) hN (by rw [hmr]; exact s.1) (by rw [hmr]; exact s.2.1) (by rw [hmr]; exact hd.s s)
      rw [hmr, e] at a2
      exact ⟨υ, ⟨a2, hcc.t a3⟩, a1⟩
    suffices hh : ∃ r, (r.2.1 (y + 1) = tick (dnW (coW w (cN w 1)) d) ∧ SS y σ r) ∧ fX12_calmNight_b10 N (G2 y) y d (0, σ) = some r by
      obtain ⟨r, ⟨h1, h2⟩, h3⟩ := hh
      exact ⟨r, h3, h1, h2⟩
    unfold fX12_calmNight_b10
    refine lp_forR (fun k b' => ∃ τ, b' = (nI k, τ) ∧ τ.2.1 (y + 1) = coW w k ∧ SS y σ τ) _ (cN w 1) (by omega) ?_ ?_ ⟨σ, rfl, hwe, SS.r⟩
    · rintro k hk _ ⟨τ, rfl, hmr, hcc⟩
      have s := S k (by omega)
      have ck : k < cN (coW w k) 1 := by rw [s.c rfl]; exact hk
      have e1 : coW w k 1 = w 1 := s.2.2.1 1 rfl
      by_cases a : coW w k 13 = 0
      · have a1' : ¬ coW w k 13 = 1 := by rw [a]; decide
        left
        by_cases n1 : coW w k (39 + 3 * k) = 1
        · obtain ⟨hb1, hb2⟩ := s.1.ha ck
          obtain ⟨υ, a1, a2, a3⟩ := r_says (N := N) (y := y) (σ := τ) (i := k) (j := (coW w k (38 + 3 * k)).toInt.toNat) hN (by rw [hmr]; exact s.1) (by rw [hmr]; exact s.2.1) (by rw [hmr]; exact hb2)
          refine ⟨(nI (k + 1), υ), ⟨υ, rfl, ?_, hcc.t a3⟩, fun p => ?_⟩
          · rw [a2, hmr, coW_s]
            unfold stW
            rw [if_pos a, if_pos n1]
          · dsimp only
            rw [r_court, b_some, hmr, e1, if_neg (cnt_lt hw.2.1.1 hk), r_gone, b_some, ite01, hmr, if_neg a1', r_isNear (by omega), b_some, ite01, hmr, if_pos n1, r_ofWho1 (by omega), b_some, hmr, hb1, a1, b_some, nI_1]
        · refine ⟨(nI (k + 1), τ), ⟨τ, rfl, ?_, hcc⟩, fun p => ?_⟩
          · rw [hmr, coW_s]
            unfold stW
            rw [if_pos a, if_neg n1]
          · dsimp only
            rw [r_court, b_some, hmr, e1, if_neg (cnt_lt hw.2.1.1 hk), r_gone, b_some, ite01, hmr, if_neg a1', r_isNear (by omega), b_some, ite01, hmr, if_neg n1, nI_1]
      · have a1' : coW w k 13 = 1 := by
          rcases s.1.a01 with g | g
          · exact absurd g a
          · exact g
        right
        obtain ⟨r, h1, h2⟩ := fin k τ (by omega) (by rw [show cN w 1 = k + (cN w 1 - k) by omega, coW_stop a]) hmr hcc
        refine ⟨r, h1, fun p => ?_⟩
        dsimp only
        rw [r_court, b_some, hmr, e1, if_neg (cnt_lt hw.2.1.1 hk), r_gone, b_some, ite01, hmr, if_pos a1', h2]
    · rintro _ ⟨τ, rfl, hmr, hcc⟩
      have s := S (cN w 1) (Nat.le_refl _)
      have e1 : coW w (cN w 1) 1 = w 1 := s.2.2.1 1 rfl
      obtain ⟨r, h1, h2⟩ := fin (cN w 1) τ (Nat.le_refl _) rfl hmr hcc
      refine ⟨r, h1, fun p => ?_⟩
      dsimp only
      rw [r_court, b_some, hmr, e1, if_pos (cnt_eN hw.2.1.1), h2]
  · rw [show (if w 13 = 1 then (1 : Int32) else if w 9 < w 10 then 0 else 1) = 1 from by
      by_cases a : w 13 = 1
      · rw [if_pos a]
      · have a0 : w 13 = 0 := by
          rcases hw.a01 with g | g
          · exact g
          · exact absurd g a
        rw [if_neg a, if_neg (fun r => q ⟨a0, r⟩)], if_neg (by decide), show caW w d = w from if_neg q]
    exact ⟨σ, rfl, hwe, SS.r⟩
