/-! the class says it -/
/-- cells of the class that a mind at m, its log, and the law's sight take -/
def CC (z m : Nat) (σ τ : pS) : Prop := (∀ a k, a ≠ m → a ≠ m + 2 → ¬ (a = z + 14 ∧ k = 7) → τ.1 a k = σ.1 a k) ∧ (∀ a, a ≠ m + 3 → a ≠ z + 19 → τ.2.1 a = σ.2.1 a)
theorem CC.r {z m : Nat} {σ : pS} : CC z m σ σ := ⟨fun _ _ _ _ _ => rfl, fun _ _ _ => rfl⟩
theorem CC.t {z m : Nat} {σ τ υ : pS} (h : CC z m σ τ) (g : CC z m τ υ) : CC z m σ υ := ⟨fun a k e1 e2 e3 => (g.1 a k e1 e2 e3).trans (h.1 a k e1 e2 e3), fun a e1 e2 => (g.2 a e1 e2).trans (h.2 a e1 e2)⟩
theorem CC.tt {z m : Nat} {σ τ : pS} (h : TT z σ τ) : CC z m σ τ := ⟨fun a k _ _ e => h.1 a k e, fun a _ e => h.2.1 a e⟩
theorem CC.pf {z m k : Nat} {σ τ : pS} {v : Int32} (h : CC z m σ τ) : CC z m σ (putF τ m k v) := ⟨fun a j e1 e2 e3 => by rw [pf_o e1]; exact h.1 a j e1 e2 e3, fun a e1 e2 => h.2 a e1 e2⟩
theorem CC.tal {z m : Nat} {σ τ : pS} {w : Nat → Int32} (hm : z + 20 ≤ m) (h : CC z m σ τ) (hl : TalC σ z w) : TalC τ z w := by
  have e : τ.1 (z + 4) = σ.1 (z + 4) := funext fun k => h.1 (z + 4) k (by omega) (by omega) (by omega)
  unfold TalC TaleR at hl ⊢
  dsimp only at hl ⊢
  rw [e, h.2 (z + (5 + 0)) (by omega) (by omega), h.2 (z + (5 + 1)) (by omega) (by omega), h.2 (z + (5 + 2)) (by omega) (by omega), h.2 (z + (5 + 3)) (by omega) (by omega), h.2 (z + (5 + 4)) (by omega) (by omega), h.2 (z + (5 + 5)) (by omega) (by omega), h.2 (z + (5 + 6)) (by omega) (by omega), h.2 (z + (5 + 7)) (by omega) (by omega), h.2 (z + (5 + 8)) (by omega) (by omega)]
  exact hl
theorem CC.law {z m : Nat} {σ τ : pS} {w : Nat → Int32} (hm : z + 20 ≤ m) (h : CC z m σ τ) (hl : LawC σ z w) : LawC τ z w := by
  have e := h.1 (z + 14) 0 (by omega) (by omega) (by omega)
  unfold LawC LawR at hl ⊢
  rw [e, h.2 (z + 15) (by omega) (by omega), h.2 (z + 16) (by omega) (by omega), h.2 (z + 17) (by omega) (by omega), h.2 (z + 18) (by omega) (by omega)]
  exact hl
/-- a mind at m is the world's w, with its log if b says so -/
def MR (b : Prop) (z m : Nat) (σ : pS) (w : Nat → Int32) : Prop := WInv w ∧ TalC σ z w ∧ LawC σ z w ∧ MindR (σ.1 m) (σ.2.1 (m + 1)) w ∧ (b → LogR (σ.1 (m + 2)) (σ.2.1 (m + 3)) w)
theorem MR.hl {b : Prop} {z m : Nat} {σ : pS} {w : Nat → Int32} (h : MR b z m σ w) : HasLaw w := ⟨_, _, _, _, _, h.2.2.1⟩
theorem Sim.mr {z y : Nat} {σ1 σ2 : pS} (h : Sim z y σ1 σ2) : MR True z (z + 20) σ1 (σ2.2.1 (y + 1)) := ⟨h.wi, h.tale, h.law, h.mind, fun _ => h.log⟩
theorem CC.e {z : Nat} {σ τ : pS} (h : CC z (z + 20) σ τ) : EE rmF rmA z σ τ := by
  refine ⟨fun o k e => h.1 _ _ ?_ ?_ ?_, fun o e => h.2 _ ?_ ?_⟩
  · intro q
    have e1 : o = 20 := by omega
    rw [e1] at e
    exact absurd e (by simp [rmF, raF])
  · intro q
    have e1 : o = 22 := by omega
    rw [e1] at e
    exact absurd e (by simp [rmF, raF])
  · intro q
    have e1 : o = 14 := by omega
    rw [e1, q.2] at e
    exact absurd e (by simp [rmF, raF])
  · intro q
    have e1 : o = 23 := by omega
    rw [e1] at e
    exact absurd e (by simp [rmA, raA])
  · intro q
    have e1 : o = 19 := by omega
    rw [e1] at e
    exact absurd e (by simp [rmA, raA])
/-- .. for a dream: all that matters stays -/
theorem CC.d {z m : Nat} {σ τ : pS} (h : CC z (z + m) σ τ) (hm : 116 ≤ m) : E1 z σ τ := by
  refine ⟨fun o k e => h.1 _ _ ?_ ?_ ?_, fun o e => h.2 _ ?_ ?_⟩
  · intro q
    have e1 : o = m := by omega
    rw [e1] at e
    have e2 : ∀ j, j < 116 → (m == j) = false := fun j hj => by simp; omega
    have : rlF m k = false := by
      unfold rlF
      rw [e2 0 (by omega), e2 1 (by omega), e2 4 (by omega), e2 14 (by omega), e2 20 (by omega), e2 22 (by omega), e2 46 (by omega), e2 56 (by omega), e2 62 (by omega), e2 64 (by omega), decide_eq_false (show ¬ m ≤ 115 by omega)]
      simp
    rw [this] at e
    cases e
  · intro q
    have e1 : o = m + 2 := by omega
    rw [e1] at e
    have e2 : ∀ j, j < 116 → (m + 2 == j) = false := fun j hj => by simp; omega
    have : rlF (m + 2) k = false := by
      unfold rlF
      rw [e2 0 (by omega), e2 1 (by omega), e2 4 (by omega), e2 14 (by omega), e2 20 (by omega), e2 22 (by omega), e2 46 (by omega), e2 56 (by omega), e2 62 (by omega), e2 64 (by omega), decide_eq_false (show ¬ m + 2 ≤ 115 by omega)]
      simp
    rw [this] at e
    cases e
  · intro q
    have e1 : o = 14 := by omega
    rw [e1, q.2] at e
    cases e
  · intro q
    have e1 : o = m + 3 := by omega
    rw [e1] at e
    have e2 : ∀ j, j < 116 → (m + 3 == j) = false := fun j hj => by simp; omega
    have : rlA (m + 3) = false := by
      unfold rlA
      rw [e2 2 (by omega), e2 21 (by omega), e2 23 (by omega), e2 63 (by omega), e2 65 (by omega), decide_eq_false (show ¬ m + 3 ≤ 18 by omega), decide_eq_false (show ¬ m + 3 ≤ 60 by omega), decide_eq_false (show ¬ m + 3 ≤ 115 by omega)]
      simp
    rw [this] at e
    cases e
  · intro q
    have e1 : o = 19 := by omega
    rw [e1] at e
    cases e
theorem SS.f {y k : Nat} {σ τ : pS} (h : SS y σ τ) (hk : ¬ (18 ≤ k ∧ k ≤ 24)) : τ.1 y k = σ.1 y k := h.1 y k (fun q => hk q.2)
theorem Sim.ms {z y : Nat} {σ1 σ2 τ1 τ2 : pS} (h : Sim z y σ1 σ2) (m : MR True z (z + 20) τ1 (τ2.2.1 (y + 1))) (e1 : CC z (z + 20) σ1 τ1) (e2 : SS y σ2 τ2) (ew : ∀ k, mindK k = false → τ2.2.1 (y + 1) k = σ2.2.1 (y + 1) k) : Sim z y τ1 τ2 :=
  h.mu e1.e (fun k hk => e2.f (by omega)) (fun j hj => e2.2 _ (by omega) (by omega)) ew m.1.m m.2.2.2.1 (m.2.2.2.2 trivial)
theorem up_same {w : Nat → Int32} {k : Nat} {v : Int32} (h : w k = v) : va_up w k v = w := by
  funext j
  by_cases e : j = k
  · rw [e, va_up_self, h]
  · rw [up_ne e]
/-- whether she asked, behind it -/
def askV (w : Nat → Int32) (d : Int32) : Int32 := if w 13 = 0 then (if d < w 8 then 0 else 1) else 1
theorem sayM_eq {w : Nat → Int32} {i j : Nat} (hw : WInv w) : sayM w i j = va_up (va_up (va_up w 7 (dV w i j)) 12 (pbV w (w 12) j)) 13 (askV w (dV w i j)) := by
  have a := hw.a01
  unfold sayM askV
  by_cases q : dV w i j < w 8
  · rw [if_pos q, if_pos q]
    refine (up_same ?_).symm
    rw [up_ne (by decide), up_ne (by decide)]
    rcases a with a | a
    · rw [a, if_pos rfl]
    · rw [a, if_neg (by decide)]
  · rw [if_neg q, if_neg q]
    split <;> rfl
theorem cN_tel {w : Nat → Int32} {a b : Int32} {k : Nat} (h : k < 83) (h2 : k ≠ 15) : cN (telW w a b) k = cN w k := by
  unfold cN
  rw [tel_lo h h2]
set_option maxHeartbeats 1000000 in
theorem c_speak {N z m i j : Nat} {b : Prop} {σ : pS} {w : Nat → Int32} (hN : 20000 < N) (hm : z + 20 ≤ m) (ha : MA z m) (h : MR b z m σ w) (hi : i < cN w 1) (hj : j < cN w 2) : ∃ τ, fX10_speak N (G1 z) (z + 3) m (nI i) (nI j) σ = some τ ∧ MR b z m τ (sayW w i j) ∧ CC z m σ τ := by
  have hl := h.hl
  obtain ⟨hw, ht, hlaw, hmind, hlog⟩ := h
  have c2 := hw.c2
  have c1 := hw.c1
  obtain ⟨τ, t1, h1⟩ := c_stingOf (m := m) (who := nI i) hN hw ht hlaw hmind.2.2.1 hj
  have ev : jmin 99 (σ.1 m 0 + stV w (σ.1 m 0) (σ.1 m 1) (bc (σ.1 m 3)) (nI i) j) = dV w i j := by
    rw [hmind.1, hmind.2.1, hmind.2.2.2.1]
    rfl
  have tm : τ.1 m = σ.1 m := funext fun k => t1.f (by omega)
  have k1 : CC z m σ (putF τ m 0 (dV w i j)) := (CC.tt t1).pf
  have ht1 := k1.tal hm ht
  have e3 : (putF τ m 0 (dV w i j)).1 m 3 = w 12 := by
    rw [pf0n (by decide), tm]
    exact hmind.2.2.2.1
  have e2 : (putF τ m 0 (dV w i j)).1 m 2 = bea w := by
    rw [pf0n (by decide), tm]
    exact hmind.2.2.1
  obtain ⟨υ, a1, a2, a3, a4⟩ := c_add (N := N) (z := z) (m := m) (σ := putF (putF τ m 0 (dV w i j)) m 3 (pbV w (w 12) j)) (a2 := nI i) (a3 := nI j) ha
  have um : υ.1 m = va_up (va_up (σ.1 m) 0 (dV w i j)) 3 (pbV w (w 12) j) := by
    rw [show υ.1 m = (putF (putF τ m 0 (dV w i j)) m 3 (pbV w (w 12) j)).1 m from funext fun k => a2 m k (by omega), pf_w, pf_w, tm]
  have k2 : CC z m σ υ := ⟨fun a k e1 e2 e3 => (a2 a k e2).trans (by rw [pf_o e1]; exact k1.1 a k e1 e2 e3), fun a e1 e2 => (a3 a e1).trans (k1.2 a e1 e2)⟩
  have u6 : υ.1 m 6 = w 13 := by
    rw [um, up_ne (by decide), up_ne (by decide)]
    exact hmind.2.2.2.2.2.2.1
  have u0 : υ.1 m 0 = dV w i j := by
    rw [um, up_ne (by decide), va_up_self]
  have u8 : υ.1 (z + 4) 6 = w 8 := (k2.tal hm ht).1.2.2.2.2.2.2.1
  have fin : fX10_speak N (G1 z) (z + 3) m (nI i) (nI j) σ = some (putF υ m 6 (askV w (dV w i j))) := by
    unfold fX10_speak
    simp only [g1r_3_0, g1r_4_13]
    rw [h1, b_some]
    dsimp only
    rw [ev, at_fn g1n_9 (by omega) (by omega), b_some, show (putF τ m 0 (dV w i j)).2.1 (z + 9) j = w (56 + 2 * j) from (ht1.2.2.2.1 j hj).2, e3, e2, c_narW hw ht1 hj hw.pos, b_some, ha.2.1, a1, b_some, u6, u0, u8]
    unfold fX10_speak_b83 fX10_speak_b88 askV
    by_cases q : w 13 = 0
    · rw [if_pos q, if_pos q]
      split <;> rfl
    · rw [if_neg q, if_neg q]
      rfl
  have ewS := em_S (w := w) (i := i) (j := j)
  refine ⟨_, fin, ⟨WInv_say hw hl hi hj, tale_w hw ewS ((k2.pf (k := 6)).tal hm ht), law_S ewS ((k2.pf (k := 6)).law hm hlaw), ?_, fun hb => ?_⟩, k2.pf⟩
  · rw [pf_w, um, show (putF υ m 6 (askV w (dV w i j))).2.1 (m + 1) = σ.2.1 (m + 1) from k2.2 _ (by omega) (by omega)]
    have mm := mind_13 (v := askV w (dV w i j)) (mind_12 (v := pbV w (w 12) j) (mind_7 (v := dV w i j) hmind))
    rw [← sayM_eq hw] at mm
    unfold sayW
    exact mind_lg mm (fun k q1 q2 => tel_lo q1 q2) (by rw [show cN (sayM w i j) 1 = cN w 1 from by unfold cN; rw [em_M 1 rfl]]; exact c1)
  · unfold sayW
    have eM : ∀ k, k ≠ 7 → k ≠ 12 → k ≠ 13 → sayM w i j k = w k := by
      intro k q1 q2 q3
      rw [sayM_eq hw, up_ne q3, up_ne q2, up_ne q1]
    have M7 : sayM w i j 7 = dV w i j := by rw [sayM_eq hw, up_ne (by decide), up_ne (by decide), va_up_self]
    have M12 : sayM w i j 12 = pbV w (w 12) j := by rw [sayM_eq hw, up_ne (by decide), va_up_self]
    have M9 : sayM w i j 9 = w 9 := eM 9 (by decide) (by decide) (by decide)
    refine log_say hw (by unfold cN; rw [eM 15 (by decide) (by decide) (by decide)]) (fun k hk => eM k (by omega) (by omega) (by omega)) (MInv_sayM hw hl hj) (hlog hb) ?_
    intro n L hn hL f1 f0
    have z1 : ∀ k, (putF (putF τ m 0 (dV w i j)) m 3 (pbV w (w 12) j)).1 (m + 2) k = σ.1 (m + 2) k := fun k => by rw [pf_o (by omega), pf_o (by omega), t1.f (by omega)]
    obtain ⟨b1, b2, b3⟩ := a4 n L hn hL ((z1 1).trans f1) ((z1 0).trans f0)
    rw [pf_o (by omega)]
    refine ⟨b1, b2, b3.trans ?_⟩
    rw [M7, M12, M9, pf0, pf0n (by decide), pf0n (by decide), tm, hmind.2.1, pf0n (by decide), pf0]
    rw [show (putF (putF τ m 0 (dV w i j)) m 3 (pbV w (w 12) j)).2.1 (m + 3) = σ.2.1 (m + 3) from t1.2.1 _ (by omega)]
/-- a deed is done -/
def doW (w : Nat → Int32) (d : Nat) : Nat → Int32 := va_up w 7 (bdV w (w 7) (w 9) (bc (w 12)) d)
theorem em_D {w : Nat → Int32} {d : Nat} : ∀ k, mindK k = false → doW w d k = w k := em_up rfl
theorem WInv_do {w : Nat → Int32} {d : Nat} (hw : WInv w) (hl : HasLaw w) (hd : d < cN w 3) : WInv (doW w d) := hw.act em_D (MInv_7 hw.m (bdV_bd hw hl hd hw.m.1))
theorem c_soothe {N z m d : Nat} {b : Prop} {σ : pS} {w : Nat → Int32} (hN : 20000 < N) (hm : z + 20 ≤ m) (h : MR b z m σ w) (hd : d < cN w 3) : ∃ τ, fX10_soothe N (G1 z) (z + 3) m (nI d) σ = some τ ∧ MR b z m τ (doW w d) ∧ CC z m σ τ := by
  have hl := h.hl
  obtain ⟨hw, ht, hlaw, hmind, hlog⟩ := h
  obtain ⟨τ, t1, h1⟩ := c_easeOf (m := m) hN hw ht hlaw hd
  have tm : τ.1 m = σ.1 m := funext fun k => t1.f (by omega)
  have ev : jmax 0 (σ.1 m 0 - eaV w (σ.1 m 0) (σ.1 m 1) (bc (σ.1 m 3)) d) = bdV w (w 7) (w 9) (bc (w 12)) d := by
    rw [hmind.1, hmind.2.1, hmind.2.2.2.1]
    rfl
  have k1 : CC z m σ (putF τ m 0 (bdV w (w 7) (w 9) (bc (w 12)) d)) := (CC.tt t1).pf
  refine ⟨putF τ m 0 (bdV w (w 7) (w 9) (bc (w 12)) d), ?_, ⟨WInv_do hw hl hd, tale_w hw em_D (k1.tal hm ht), law_S em_D (k1.law hm hlaw), ?_, fun hb => ?_⟩, k1⟩
  · unfold fX10_soothe
    rw [h1, b_some, ev]
  · rw [pf_w, tm, show (putF τ m 0 (bdV w (w 7) (w 9) (bc (w 12)) d)).2.1 (m + 1) = σ.2.1 (m + 1) from k1.2 _ (by omega) (by omega)]
    exact mind_7 hmind
  · rw [pf_o (by omega), show τ.1 (m + 2) = σ.1 (m + 2) from funext fun k => t1.f (by omega), show (putF τ m 0 (bdV w (w 7) (w 9) (bc (w 12)) d)).2.1 (m + 3) = σ.2.1 (m + 3) from t1.2.1 _ (by omega)]
    exact log_up (by omega) (hlog hb)
theorem r_isDone {N y d : Nat} {σ : pS} (hN : 20000 < N) (hw : WInv (σ.2.1 (y + 1))) (hl : HasLaw (σ.2.1 (y + 1))) (hd : d < cN (σ.2.1 (y + 1)) 3) : ∃ τ, fX12_isDone N (G2 y) y (nI d) σ = some τ ∧ τ.2.1 (y + 1) = doW (σ.2.1 (y + 1)) d ∧ SS y σ τ := by
  obtain ⟨τ, l2, h2⟩ := r_behindDeed (N := N) (y := y) (σ := lkN y σ) (deed := d) hN hw hl hd
  rw [lkN_21, lkN_22, lkN_23] at h2
  refine ⟨sA τ (y + 1) 7 (bdV (σ.2.1 (y + 1)) (σ.2.1 (y + 1) 7) (σ.2.1 (y + 1) 9) (bc (σ.2.1 (y + 1) 12)) d), ?_, ?_, (SS.k.t (SS.l l2)).a⟩
  · unfold fX12_isDone
    simp only [g2r_0_1, g2r_0_2, g2r_0_3, g2r_0_4, g2r_0_5, g2r_0_8, g2r_0_15, g2r_0_17, g2r_0_25, g2r_0_26, g2r_0_27, g2r_0_28, g2n_1, g2n_2, g2n_3, g2n_4, g2n_5, g2n_6, g2n_7, g2n_8, g2n_9, g2n_10, g2n_11, g2n_12]
    rw [r_looksNow, b_some, h2]
    rfl
  · rw [sA_w (n := 7) rfl, show τ.2.1 (y + 1) = σ.2.1 (y + 1) from l2.w]
    rfl
