/-! what a word does to the world -/
def dV (w : Nat → Int32) (i j : Nat) : Int32 := bwV w (w 7) (w 9) (bc (w 12)) (nI i) j
def sayM (w : Nat → Int32) (i j : Nat) : Nat → Int32 := if dV w i j < w 8 then va_up (va_up w 7 (dV w i j)) 12 (pbV w (w 12) j) else va_up (va_up (va_up w 7 (dV w i j)) 12 (pbV w (w 12) j)) 13 1
def sayW (w : Nat → Int32) (i j : Nat) : Nat → Int32 := telW (sayM w i j) (nI i) (nI j)
theorem tel_lo {w : Nat → Int32} {a b : Int32} {k : Nat} (h : k < 83) (h2 : k ≠ 15) : telW w a b k = w k := by
  unfold telW
  rw [if_neg (by omega), if_neg (by omega), if_neg (by omega), if_neg (by omega), if_neg (by omega), if_neg (by omega), if_neg (by omega)]
theorem tel_hi {w : Nat → Int32} {a b : Int32} {k : Nat} (h : 88 ≤ k) (h2 : k < 383) : telW w a b k = w (k - 5) := by
  unfold telW
  rw [if_neg (by omega), if_neg (by omega), if_neg (by omega), if_neg (by omega), if_neg (by omega), if_neg (by omega), if_pos ⟨h, h2⟩]
theorem tel_be {w : Nat → Int32} {a b : Int32} {k : Nat} (h : 383 ≤ k) : telW w a b k = w k := by
  unfold telW
  rw [if_neg (by omega), if_neg (by omega), if_neg (by omega), if_neg (by omega), if_neg (by omega), if_neg (by omega), if_neg (by omega)]
theorem jmin60 {x : Int32} {L : Nat} (h : x = nI L) (hL : L ≤ 60) : jmin 60 (x + 1) = nI (min 60 (L + 1)) := by
  rw [h, nI_1]
  unfold jmin
  by_cases e : L = 60
  · rw [e, if_neg (by decide)]
    rfl
  · by_cases e2 : L = 59
    · rw [e2]
      decide
    · rw [if_pos (show nI (L + 1) < 60 from nI_lt (b := 60) (by omega) (by omega)), show min 60 (L + 1) = L + 1 by omega]
theorem tel_15 {w : Nat → Int32} {a b : Int32} (h : MInv w) : telW w a b 15 = nI (min 60 (cN w 15 + 1)) := by
  have h15 := h.2.2.2.2.2.1
  exact jmin60 (nI_cN h15.1) (by unfold cN; omega)
theorem MInv_tel {w : Nat → Int32} {a b : Int32} (hw : WInv w) (ha : 0 ≤ a.toInt ∧ a.toInt < (w 1).toInt) (hb : 0 ≤ b.toInt ∧ b.toInt < 6) : MInv (telW w a b) := by
  have m := hw.m
  have e15 := tel_15 (a := a) (b := b) m
  have c15 : cN (telW w a b) 15 = min 60 (cN w 15 + 1) := by
    rw [show cN (telW w a b) 15 = (telW w a b 15).toInt.toNat from rfl, e15, nI_toInt (by omega)]
    omega
  have c0 : cN (telW w a b) 0 = cN w 0 := by unfold cN; rw [tel_lo (by omega) (by omega)]
  have c1 : cN (telW w a b) 1 = cN w 1 := by unfold cN; rw [tel_lo (by omega) (by omega)]
  have h1 := hw.c1
  have bcb := bc_bd hw.c0 hw.pos
  obtain ⟨m7, m9, m11, m12, m13, m15, mc, ml⟩ := m
  unfold MInv
  rw [c0, c1, c15, tel_lo (k := 7) (by omega) (by omega), tel_lo (k := 9) (by omega) (by omega), tel_lo (k := 11) (by omega) (by omega), tel_lo (k := 0) (by omega) (by omega), tel_lo (k := 12) (by omega) (by omega), tel_lo (k := 13) (by omega) (by omega), tel_lo (k := 1) (by omega) (by omega), tel_lo (k := 2) (by omega) (by omega), e15, nI_toInt (by omega)]
  refine ⟨m7, m9, m11, m12, m13, by omega, fun i hi => ?_, fun i hi => ?_⟩
  · rw [tel_lo (k := 38 + 3 * i) (by omega) (by omega), tel_lo (k := 39 + 3 * i) (by omega) (by omega)]
    exact mc i hi
  · by_cases e : i = 0
    · subst e
      obtain ⟨c, k1, k2, _⟩ := bcb
      have : (bc (w 12)).toInt = c := by rw [k2, nI_toInt (by omega)]
      show (0 ≤ (w 9).toInt ∧ (w 9).toInt ≤ 400) ∧ (0 ≤ a.toInt ∧ a.toInt < (w 1).toInt) ∧ (0 ≤ b.toInt ∧ b.toInt < 6) ∧ (0 ≤ (w 7).toInt ∧ (w 7).toInt ≤ 99) ∧ (0 ≤ (bc (w 12)).toInt ∧ (bc (w 12)).toInt ≤ 10)
      exact ⟨m9, ha, hb, m7, by omega⟩
    · have := ml (i - 1) (by omega)
      rw [tel_hi (k := 83 + 5 * i) (by omega) (by omega), tel_hi (k := 84 + 5 * i) (by omega) (by omega), tel_hi (k := 85 + 5 * i) (by omega) (by omega), tel_hi (k := 86 + 5 * i) (by omega) (by omega), tel_hi (k := 87 + 5 * i) (by omega) (by omega), show 83 + 5 * i - 5 = 83 + 5 * (i - 1) by omega, show 84 + 5 * i - 5 = 84 + 5 * (i - 1) by omega, show 85 + 5 * i - 5 = 85 + 5 * (i - 1) by omega, show 86 + 5 * i - 5 = 86 + 5 * (i - 1) by omega, show 87 + 5 * i - 5 = 87 + 5 * (i - 1) by omega]
      exact this
theorem MInv_13 {w : Nat → Int32} {v : Int32} (m : MInv w) (hv : v = 0 ∨ v = 1) : MInv (va_up w 13 v) := by
  obtain ⟨m7, m9, m11, m12, m13, m15, mc, ml⟩ := m
  unfold MInv cN at *
  rw [va_up_self, up_ne (by omega), up_ne (by omega), up_ne (by omega), up_ne (by omega), up_ne (by omega), up_ne (by omega), up_ne (by omega), up_ne (by omega)]
  refine ⟨m7, m9, m11, m12, hv, m15, fun j hj => ?_, fun j hj => ?_⟩
  · rw [up_ne (by omega), up_ne (by omega)]
    exact mc j hj
  · rw [up_ne (by omega), up_ne (by omega), up_ne (by omega), up_ne (by omega), up_ne (by omega)]
    exact ml j hj
theorem em_M {w : Nat → Int32} {i j : Nat} : ∀ k, mindK k = false → sayM w i j k = w k := by
  intro k hk
  unfold sayM
  split
  · rw [em_up rfl k hk, em_up rfl k hk]
  · rw [em_up rfl k hk, em_up rfl k hk, em_up rfl k hk]
theorem MInv_sayM {w : Nat → Int32} {i j : Nat} (hw : WInv w) (hl : HasLaw w) (hj : j < cN w 2) : MInv (sayM w i j) := by
  have a : MInv (va_up (va_up w 7 (dV w i j)) 12 (pbV w (w 12) j)) := by
    refine MInv_12 (MInv_7 hw.m (bwV_bd hw hl hj hw.m.1)) ?_
    intro k hk
    have := pbV_sub hw hw.pos k hk
    unfold cN at this ⊢
    rw [up_ne (by decide)]
    exact this
  unfold sayM
  split
  · exact a
  · exact MInv_13 a (Or.inr rfl)
theorem WInv_sayM {w : Nat → Int32} {i j : Nat} (hw : WInv w) (hl : HasLaw w) (hj : j < cN w 2) : WInv (sayM w i j) := hw.act em_M (MInv_sayM hw hl hj)
theorem mk_tel (k : Nat) (h : mindK k = false) : (k < 83 ∧ k ≠ 15) ∨ 383 ≤ k := by
  rcases Nat.lt_or_ge k 83 with q | q
  · left
    refine ⟨q, fun e => ?_⟩
    rw [e] at h
    exact absurd h (by decide)
  · right
    rcases Nat.lt_or_ge k 383 with r | r
    · exfalso
      have : mindK k = true := by
        simp [mindK, q, r]
      rw [this] at h
      cases h
    · exact r
theorem em_S {w : Nat → Int32} {i j : Nat} : ∀ k, mindK k = false → sayW w i j k = w k := by
  intro k hk
  unfold sayW
  rcases mk_tel k hk with q | q
  · rw [tel_lo q.1 q.2]
    exact em_M k hk
  · rw [tel_be q]
    exact em_M k hk
theorem MInv_say {w : Nat → Int32} {i j : Nat} (hw : WInv w) (hl : HasLaw w) (hi : i < cN w 1) (hj : j < cN w 2) : MInv (sayW w i j) := by
  have c1 := hw.c1
  have c2 := hw.c2
  refine MInv_tel (WInv_sayM hw hl hj) ?_ ?_
  · rw [nI_toInt (by omega), em_M 1 rfl]
    unfold cN at hi
    omega
  · rw [nI_toInt (by omega)]
    omega
theorem WInv_say {w : Nat → Int32} {i j : Nat} (hw : WInv w) (hl : HasLaw w) (hi : i < cN w 1) (hj : j < cN w 2) : WInv (sayW w i j) := hw.act em_S (MInv_say hw hl hi hj)
theorem law_S {f K A E S w w' : Nat → Int32} (e : ∀ k, mindK k = false → w' k = w k) (h : LawR f K A E S w) : LawR f K A E S w' := law_w (e 6 rfl) (fun k hk => e k (mk_law k hk)) h
theorem HasLaw.s {w w' : Nat → Int32} (e : ∀ k, mindK k = false → w' k = w k) (h : HasLaw w) : HasLaw w' := by
  obtain ⟨f, K, A, E, S, h⟩ := h
  exact ⟨f, K, A, E, S, law_S e h⟩
/-- the log of both, a row more -/
theorem log_say {f p f' p' w W : Nat → Int32} {i j : Nat} (hw : WInv w) (hc : cN W 15 = cN w 15) (he : ∀ k, 83 ≤ k → W k = w k) (hm : MInv W) (h : LogR f p w) (hn : ∀ n L, n < 60 → L ≤ 60 → f 1 = nI n → f 0 = nI L → f' 1 = nI ((n + 1) % 60) ∧ f' 0 = nI (min 60 (L + 1)) ∧ p' = va_up p ((n + 1) % 60) (pk5 (W 9) (nI i) (nI j) (W 7) (bc (W 12)))) : LogR f' p' (telW W (nI i) (nI j)) := by
  obtain ⟨h0, n, hn60, h1, h2⟩ := h
  have c15 := hw.c15
  have e0 : f 0 = nI (cN w 15) := h0.trans (nI_cN c15.1)
  obtain ⟨q1, q0, qp⟩ := hn n (cN w 15) hn60 c15.2 h1 e0
  have e15 := tel_15 (a := nI i) (b := nI j) hm
  rw [hc] at e15
  have cc : cN (telW W (nI i) (nI j)) 15 = min 60 (cN w 15 + 1) := by
    rw [show cN (telW W (nI i) (nI j)) 15 = (telW W (nI i) (nI j) 15).toInt.toNat from rfl, e15, nI_toInt (by omega)]
    omega
  refine ⟨q0.trans e15.symm, (n + 1) % 60, Nat.mod_lt _ (by omega), q1, fun k hk => ?_⟩
  rw [cc] at hk
  rw [qp]
  by_cases e : k = 0
  · subst e
    rw [show ((n + 1) % 60 + 60 - 0) % 60 = (n + 1) % 60 by omega, va_up_self]
    rfl
  · rw [up_ne (by omega), show ((n + 1) % 60 + 60 - k) % 60 = (n + 60 - (k - 1)) % 60 by omega, h2 (k - 1) (by omega)]
    unfold pk
    rw [tel_hi (k := 83 + 5 * k) (by omega) (by omega), tel_hi (k := 84 + 5 * k) (by omega) (by omega), tel_hi (k := 85 + 5 * k) (by omega) (by omega), tel_hi (k := 86 + 5 * k) (by omega) (by omega), tel_hi (k := 87 + 5 * k) (by omega) (by omega), show 83 + 5 * k - 5 = 83 + 5 * (k - 1) by omega, show 84 + 5 * k - 5 = 84 + 5 * (k - 1) by omega, show 85 + 5 * k - 5 = 85 + 5 * (k - 1) by omega, show 86 + 5 * k - 5 = 86 + 5 * (k - 1) by omega, show 87 + 5 * k - 5 = 87 + 5 * (k - 1) by omega, he _ (by omega), he _ (by omega), he _ (by omega), he _ (by omega), he _ (by omega)]
/-! the reference says it -/
def SS (y : Nat) (σ τ : pS) : Prop := (∀ a k, ¬ (a = y ∧ 18 ≤ k ∧ k ≤ 24) → τ.1 a k = σ.1 a k) ∧ ∀ a, a ≠ y + 1 → a ≠ y + 8 → τ.2.1 a = σ.2.1 a
theorem SS.r {y : Nat} {σ : pS} : SS y σ σ := ⟨fun _ _ _ => rfl, fun _ _ _ => rfl⟩
theorem SS.t {y : Nat} {σ τ υ : pS} (h : SS y σ τ) (g : SS y τ υ) : SS y σ υ := ⟨fun a k e => (g.1 a k e).trans (h.1 a k e), fun a e e2 => (g.2 a e e2).trans (h.2 a e e2)⟩
theorem SS.l {y : Nat} {σ τ : pS} (h : LL y σ τ) : SS y σ τ := ⟨fun a k e => h.1 a k (fun q => e ⟨q.1, by omega⟩), fun a _ e => h.2 a e⟩
theorem SS.k {y : Nat} {σ : pS} : SS y σ (lkN y σ) := by
  refine ⟨fun a k e => ?_, fun a _ _ => rfl⟩
  unfold lkN
  rw [pf1, if_neg (fun q => e ⟨q.1, by omega⟩), pf1, if_neg (fun q => e ⟨q.1, by omega⟩), pf1, if_neg (fun q => e ⟨q.1, by omega⟩)]
theorem SS.a {y : Nat} {σ τ : pS} {i v : Int32} (h : SS y σ τ) : SS y σ (sA τ (y + 1) i v) := ⟨h.1, fun a e e2 => (sA_o e).trans (h.2 a e e2)⟩
theorem SS.w {y : Nat} {σ τ : pS} {f : Nat → Int32} (h : SS y σ τ) : SS y σ (rowA τ (y + 1) f) := ⟨h.1, fun a e e2 => (row_o e).trans (h.2 a e e2)⟩
theorem nar_c {w w' : Nat → Int32} (e : ∀ k, k ≠ 7 → w' k = w k) (s : Int32) (t : Nat) : nar w' s t = nar w s t := by
  unfold nar hisT cN
  rw [e 0 (by decide), e 11 (by decide), e (17 + 2 * (w 11).toInt.toNat) (by omega)]
  exact orL_congr (fun k _ => by rw [e (17 + 2 * k) (by omega)])
theorem pbV_7 {w : Nat → Int32} {v s : Int32} {j : Nat} : pbV (va_up w 7 v) s j = pbV w s j := by
  have e : ∀ k, k ≠ 7 → va_up w 7 v k = w k := fun k hk => up_ne hk
  unfold pbV
  rw [e (56 + 2 * j) (by omega), nar_c e]
theorem r_says {N y i j : Nat} {σ : pS} (hN : 20000 < N) (hw : WInv (σ.2.1 (y + 1))) (hl : HasLaw (σ.2.1 (y + 1))) (hj : j < cN (σ.2.1 (y + 1)) 2) : ∃ τ, fX12_says N (G2 y) y (nI i) (nI j) σ = some τ ∧ τ.2.1 (y + 1) = sayW (σ.2.1 (y + 1)) i j ∧ SS y σ τ := by
  unfold fX12_says
  obtain ⟨τ, l2, h2⟩ := r_behindWord (N := N) (y := y) (σ := lkN y σ) (who := nI i) (word := j) hN hw hl hj
  rw [lkN_21, lkN_22, lkN_23] at h2
  have h2' : fX12_behindWord N (G2 y) y (nI i) (nI j) (lkN y σ) = some (dV (σ.2.1 (y + 1)) i j, τ) := h2
  have tw : τ.2.1 (y + 1) = σ.2.1 (y + 1) := l2.w
  simp only [g2r_0_1, g2r_0_2, g2r_0_3, g2r_0_4, g2r_0_5, g2r_0_8, g2r_0_15, g2r_0_17, g2r_0_25, g2r_0_26, g2r_0_27, g2r_0_28, g2n_1, g2n_2, g2n_3, g2n_4, g2n_5, g2n_6, g2n_7, g2n_8, g2n_9, g2n_10, g2n_11, g2n_12]
  rw [r_looksNow, b_some, h2', b_some]
  dsimp only
  have w1 : (sA τ (y + 1) 7 (dV (σ.2.1 (y + 1)) i j)).2.1 (y + 1) = va_up (σ.2.1 (y + 1)) 7 (dV (σ.2.1 (y + 1)) i j) := by rw [sA_w (n := 7) rfl, tw]
  have g12 : gA (sA τ (y + 1) 7 (dV (σ.2.1 (y + 1)) i j)) (y + 1) 12 = σ.2.1 (y + 1) 12 := by
    show (sA τ (y + 1) 7 (dV (σ.2.1 (y + 1)) i j)).2.1 (y + 1) 12 = _
    rw [w1, up_ne (by decide)]
  have wi1 : WInv ((sA τ (y + 1) 7 (dV (σ.2.1 (y + 1)) i j)).2.1 (y + 1)) := by
    rw [w1]
    exact hw.act (em_up rfl) (MInv_7 hw.m (bwV_bd hw hl hj hw.m.1))
  have hp : fX12_possibleBehind N (G2 y) y (σ.2.1 (y + 1) 12) (nI j) (sA τ (y + 1) 7 (dV (σ.2.1 (y + 1)) i j)) = some (pbV (σ.2.1 (y + 1)) (σ.2.1 (y + 1) 12) j) := by
    rw [r_possibleBehind hN wi1 (by rw [w1]; unfold cN; rw [up_ne (by decide)]; exact hj), w1, pbV_7]
  rw [g12, hp, b_some]
  have w2 : (sA (sA τ (y + 1) 7 (dV (σ.2.1 (y + 1)) i j)) (y + 1) 12 (pbV (σ.2.1 (y + 1)) (σ.2.1 (y + 1) 12) j)).2.1 (y + 1) = va_up (va_up (σ.2.1 (y + 1)) 7 (dV (σ.2.1 (y + 1)) i j)) 12 (pbV (σ.2.1 (y + 1)) (σ.2.1 (y + 1) 12) j) := by rw [sA_w (n := 12) rfl, w1]
  have g7 : gA (sA (sA τ (y + 1) 7 (dV (σ.2.1 (y + 1)) i j)) (y + 1) 12 (pbV (σ.2.1 (y + 1)) (σ.2.1 (y + 1) 12) j)) (y + 1) 7 = dV (σ.2.1 (y + 1)) i j := by
    show (sA (sA τ (y + 1) 7 (dV (σ.2.1 (y + 1)) i j)) (y + 1) 12 (pbV (σ.2.1 (y + 1)) (σ.2.1 (y + 1) 12) j)).2.1 (y + 1) 7 = _
    rw [w2, up_ne (by decide), va_up_self]
  have g8 : gA (sA (sA τ (y + 1) 7 (dV (σ.2.1 (y + 1)) i j)) (y + 1) 12 (pbV (σ.2.1 (y + 1)) (σ.2.1 (y + 1) 12) j)) (y + 1) 8 = σ.2.1 (y + 1) 8 := by
    show (sA (sA τ (y + 1) 7 (dV (σ.2.1 (y + 1)) i j)) (y + 1) 12 (pbV (σ.2.1 (y + 1)) (σ.2.1 (y + 1) 12) j)).2.1 (y + 1) 8 = _
    rw [w2, up_ne (by decide), up_ne (by decide)]
  rw [g7, g8]
  have s0 : SS y σ (sA (sA τ (y + 1) 7 (dV (σ.2.1 (y + 1)) i j)) (y + 1) 12 (pbV (σ.2.1 (y + 1)) (σ.2.1 (y + 1) 12) j)) := ((SS.k.t (SS.l l2)).a).a
  unfold fX12_says_b61
  by_cases q : dV (σ.2.1 (y + 1)) i j < σ.2.1 (y + 1) 8
  · refine ⟨_, ?_, ?_, s0.w (f := sayW (σ.2.1 (y + 1)) i j)⟩
    · simp only [if_pos q]
      show (fX12_tells N (G2 y) y (nI i) (nI j) _).bind _ = _
      rw [r_tells hN, w2, b_some]
      unfold sayW sayM
      rw [if_pos q]
    · exact row_s
  · refine ⟨_, ?_, ?_, (s0.a (i := 13) (v := 1)).w (f := sayW (σ.2.1 (y + 1)) i j)⟩
    · simp only [if_neg q]
      show (fX12_tells N (G2 y) y (nI i) (nI j) _).bind _ = _
      rw [r_tells hN, sA_w (n := 13) rfl, w2, b_some]
      unfold sayW sayM
      rw [if_neg q]
    · exact row_s
