/-! the siege, the reference's -/
def QQ (y : Nat) (σ τ : pS) : Prop := (∀ a k, ¬ (a = y ∧ 18 ≤ k ∧ k ≤ 24) → τ.1 a k = σ.1 a k) ∧ ∀ a, a ≠ y + 8 → τ.2.1 a = σ.2.1 a
theorem QQ.r {y : Nat} {σ : pS} : QQ y σ σ := ⟨fun _ _ _ => rfl, fun _ _ => rfl⟩
theorem QQ.t {y : Nat} {σ τ υ : pS} (h : QQ y σ τ) (g : QQ y τ υ) : QQ y σ υ := ⟨fun a k e => (g.1 a k e).trans (h.1 a k e), fun a e => (g.2 a e).trans (h.2 a e)⟩
theorem QQ.l {y : Nat} {σ τ : pS} (h : LL y σ τ) : QQ y σ τ := ⟨fun a k e => h.1 a k (fun q => e ⟨q.1, by omega⟩), h.2⟩
theorem QQ.k3 {y : Nat} {σ : pS} {a b c : Int32} : QQ y σ (lk3 y σ a b c) := ⟨SS.k3.1, fun _ _ => rfl⟩
def RR (y : Nat) (σ τ : pS) : Prop := (∀ a k, ¬ (a = y ∧ 18 ≤ k ∧ k ≤ 24) → τ.1 a k = σ.1 a k) ∧ ∀ a, a ≠ y + 8 → a ≠ y + 9 → τ.2.1 a = σ.2.1 a
theorem RR.r {y : Nat} {σ : pS} : RR y σ σ := ⟨fun _ _ _ => rfl, fun _ _ _ => rfl⟩
theorem RR.q {y : Nat} {σ τ υ : pS} (h : RR y σ τ) (g : QQ y τ υ) : RR y σ υ := ⟨fun a k e => (g.1 a k e).trans (h.1 a k e), fun a e e2 => (g.2 a e).trans (h.2 a e e2)⟩
theorem RR.a {y : Nat} {σ τ : pS} {i v : Int32} (h : RR y σ τ) : RR y σ (sA τ (y + 9) i v) := ⟨h.1, fun a e e2 => (sA_o e2).trans (h.2 a e e2)⟩
theorem RR.w {y : Nat} {σ τ : pS} (h : RR y σ τ) : τ.2.1 (y + 1) = σ.2.1 (y + 1) := h.2 _ (by omega) (by omega)
theorem RR.e {y : Nat} {σ τ : pS} (h : RR y σ τ) : E2 y σ τ := ⟨fun k hk => h.1 y k (by omega), fun j hj => h.2 _ (by omega) (by omega)⟩
theorem RR.f {y k : Nat} {σ τ : pS} (h : RR y σ τ) (hk : k < 18) : τ.1 y k = σ.1 y k := h.1 y k (by omega)
theorem r_tillOf {N y k d : Nat} {σ : pS} (hk : k ≤ 12) (hd : d < 100) : fX12_tillOf N (G2 y) y (nI k) (nI d) σ = some (σ.2.1 (y + 9) (100 * k + d)) := by
  unfold fX12_tillOf
  simp only [g2r_0_1, g2r_0_2, g2r_0_3, g2r_0_4, g2r_0_5, g2r_0_8, g2r_0_15, g2r_0_17, g2r_0_25, g2r_0_26, g2r_0_27, g2r_0_28, g2n_1, g2n_2, g2n_3, g2n_4, g2n_5, g2n_6, g2n_7, g2n_8, g2n_9, g2n_10, g2n_11, g2n_12]
  rw [show (100 : Int32) * nI k + nI d = nI (100 * k + d) from by rw [show (100 : Int32) = nI 100 from rfl, nI_mul, nI_add], ck_nI (by omega) (by omega), gA_nI (by omega)]
/-- the table of the next night -/
def tab (y : Nat) (T : Nat → Nat) (k : Nat) (σ : pS) : Prop := ∀ d, d < 100 → σ.2.1 (y + 9) (100 * k + d) = nI (T d)
theorem tab.q {y k : Nat} {T : Nat → Nat} {σ τ : pS} (h : tab y T k σ) (g : QQ y σ τ) : tab y T k τ := fun d hd => by
  rw [g.2 (y + 9) (by omega)]
  exact h d hd
theorem Bd.m {r v : Nat} (h : Bd r v) (hr : r ≤ 13) : v ≤ 1000000 := by
  unfold Bd at h
  omega
theorem r_bd {N y k x e : Nat} {σ : pS} {w : Nat → Int32} (hN : 20000 < N) (hw : WInv w) (hl : HasLaw w) (hv : σ.2.1 (y + 1) = w) (hx : x < 100) (he : e < cN w 3) : ∃ τ, QQ y σ τ ∧ fX12_behindDeed N (G2 y) y (nI e) (lk3 y σ (nI x) (w 9 + nI k) (bc (w 12))) = some (nI (bdN w k x e), τ) := by
  have hv' : (lk3 y σ (nI x) (w 9 + nI k) (bc (w 12))).2.1 (y + 1) = w := hv
  obtain ⟨τ, l2, h2⟩ := r_behindDeed (N := N) (y := y) (σ := lk3 y σ (nI x) (w 9 + nI k) (bc (w 12))) (deed := e) hN (by rw [hv']; exact hw) (by rw [hv']; exact hl) (by rw [hv']; exact he)
  rw [hv', lk3_f.1, lk3_f.2.1, lk3_f.2.2, (bdN_eq hw hl he hx).1] at h2
  exact ⟨τ, QQ.k3.t (QQ.l l2), h2⟩
theorem r_bds {N y k x r : Nat} {σ : pS} {w : Nat → Int32} {T : Nat → Nat} (hN : 20000 < N) (hw : WInv w) (hl : HasLaw w) (hv : σ.2.1 (y + 1) = w) (hk : k < 12) (hx : x < 100) (hr : r ≤ 12) (hT : ∀ d, Bd r (T d)) (ht : tab y T (k + 1) σ) : ∃ τ, fX12_behindDeeds N (G2 y) y (nI k) (nI x) σ = some (nI (BDN w k T x), τ) ∧ QQ y σ τ := by
  have c3 := hw.c3
  have BM := fun j => (Bd_mx (w := w) (k := k) (x := x) hT j).m (by omega)
  unfold fX12_behindDeeds
  rw [nI_1, r_tillOf (by omega) hx, b_some, ht x hx]
  suffices hh : ∃ q : Int32 × pS, (q.1 = nI (BDN w k T x) ∧ QQ y σ q.2) ∧ fX12_behindDeeds_b12 N (G2 y) y (nI k) (nI x) (nI (T x), 0, σ) = some q by
    obtain ⟨⟨q1, q2⟩, ⟨a, b⟩, c⟩ := hh
    have a' : q1 = _ := a
    subst a'
    exact ⟨q2, c, b⟩
  unfold fX12_behindDeeds_b12
  simp only [g2r_0_1, g2r_0_2, g2r_0_3, g2r_0_4, g2r_0_5, g2r_0_8, g2r_0_15, g2r_0_17, g2r_0_25, g2r_0_26, g2r_0_27, g2r_0_28, g2n_1, g2n_2, g2n_3, g2n_4, g2n_5, g2n_6, g2n_7, g2n_8, g2n_9, g2n_10, g2n_11, g2n_12]
  refine lp_forR (fun e b => ∃ τ, b = (nI (mxN w k T x e), nI e, τ) ∧ QQ y σ τ) _ (cN w 3) (by omega) ?_ ?_ ⟨σ, rfl, QQ.r⟩
  · rintro e he _ ⟨τ, rfl, gg⟩
    left
    have hv2 : τ.2.1 (y + 1) = w := (gg.2 _ (by omega)).trans hv
    obtain ⟨υ, u1, u2⟩ := r_bd (N := N) (k := k) (x := x) hN hw hl hv2 hx he
    have b1 := BM e
    have b2 := (hT (bdN w k x e)).m (by omega)
    refine ⟨(nI (mxN w k T x (e + 1)), nI (e + 1), υ), ⟨υ, rfl, gg.t u1⟩, fun p => ?_⟩
    dsimp only
    rw [r_deeds, b_some, hv2, if_neg (cnt_lt hw.2.2.2.1.1 he), r_howMany, b_some, hv2, show inB 9 2081 = true by decide, ck_t]
    show (fX12_looks N (G2 y) y (nI x) (τ.2.1 (y + 1) 9 + nI k) (bc (w 12)) τ).bind _ = _
    rw [hv2, r_looks, b_some, u2, b_some, nI_1, r_tillOf (by omega) (bdN_eq hw hl he hx).2, b_some, (ht.q (gg.t u1)) _ (bdN_eq hw hl he hx).2, jmax_nI (by omega) (by omega), nI_1]
    rfl
  · rintro _ ⟨τ, rfl, gg⟩
    have hv2 : τ.2.1 (y + 1) = w := (gg.2 _ (by omega)).trans hv
    have b1 := BM (cN w 3)
    refine ⟨(_, _), ⟨rfl, gg⟩, fun p => ?_⟩
    dsimp only
    rw [r_deeds, b_some, hv2, if_pos (cnt_eN hw.2.2.2.1.1), nI_1, show (1000000 : Int32) = nI 1000000 from rfl, jmin_nI (by omega) (by omega)]
    rfl
theorem r_tby {N y k d c j r : Nat} {σ : pS} {w : Nat → Int32} {T : Nat → Nat} (hN : 20000 < N) (hw : WInv w) (hl : HasLaw w) (hv : σ.2.1 (y + 1) = w) (hk : k < 12) (hd : d < 100) (hj : j < cN w 2) (hr : r ≤ 12) (hT : ∀ d, Bd r (T d)) (ht : tab y T (k + 1) σ) : ∃ τ, fX12_tillBy N (G2 y) y (nI k) (nI d) (nI c) (nI j) σ = some (nI (TBN w k T d c j), τ) ∧ QQ y σ τ := by
  have hv' : (lk3 y σ (nI d) (w 9 + nI k) (bc (w 12))).2.1 (y + 1) = w := hv
  obtain ⟨w1, w2⟩ := bwN_eq (k := k) (c := c) hw hl hj hd
  obtain ⟨τ, l2, h2⟩ := r_behindWord (N := N) (y := y) (σ := lk3 y σ (nI d) (w 9 + nI k) (bc (w 12))) (who := nI c) (word := j) hN (by rw [hv']; exact hw) (by rw [hv']; exact hl) (by rw [hv']; exact hj)
  rw [hv', lk3_f.1, lk3_f.2.1, lk3_f.2.2, w1] at h2
  have q1 : QQ y σ τ := QQ.k3.t (QQ.l l2)
  have hv2 : τ.2.1 (y + 1) = w := (q1.2 _ (by omega)).trans hv
  unfold fX12_tillBy
  simp only [g2r_0_1, g2r_0_2, g2r_0_3, g2r_0_4, g2r_0_5, g2r_0_8, g2r_0_15, g2r_0_17, g2r_0_25, g2r_0_26, g2r_0_27, g2r_0_28, g2n_1, g2n_2, g2n_3, g2n_4, g2n_5, g2n_6, g2n_7, g2n_8, g2n_9, g2n_10, g2n_11, g2n_12]
  rw [r_howMany, b_some, hv, show inB 9 2081 = true by decide, ck_t, show gA σ (y + 1) 9 = w 9 from by show σ.2.1 (y + 1) 9 = _; rw [hv], r_looks, b_some, h2, b_some, show inB 8 2081 = true by decide, ck_t]
  dsimp only
  rw [show gA τ (y + 1) 8 = w 8 from by show τ.2.1 (y + 1) 8 = _; rw [hv2]]
  unfold TBN
  by_cases q : nI (bwN w k d c j) < w 8
  · obtain ⟨υ, u1, u2⟩ := r_bds (N := N) (y := y) (k := k) (x := bwN w k d c j) (σ := τ) hN hw hl hv2 hk w2 hr hT (ht.q q1)
    rw [if_pos q, if_pos q, u1]
    exact ⟨υ, rfl, q1.t u2⟩
  · rw [if_neg q, if_neg q]
    exact ⟨τ, rfl, q1⟩
theorem r_enemy {N y c : Nat} {σ : pS} {w : Nat → Int32} (hv : σ.2.1 (y + 1) = w) (hc : c < 500) : fX12_isEnemy N (G2 y) y (nI c) σ = some (if enB w c = true then 1 else 0) := by
  unfold fX12_isEnemy
  rw [r_ofWho0 hc, b_some, hv, r_isNear hc, b_some, ite01, hv]
  unfold enB
  by_cases a : w (37 + 3 * c) = 1
  · by_cases b : w (39 + 3 * c) = 1
    · rw [if_pos a, if_pos b, if_pos (decide_eq_true ⟨a, b⟩)]
    · rw [if_pos a, if_neg b, if_neg (fun q => b (of_decide_eq_true q).2)]
  · rw [if_neg a, if_neg (fun q => a (of_decide_eq_true q).1)]
theorem r_lj {N y k d c r x : Nat} {σ κ : pS} {w : Nat → Int32} {T : Nat → Nat} (hN : 20000 < N) (hw : WInv w) (hl : HasLaw w) (hκ : κ.2.1 (y + 1) = w) (hk : k < 12) (hd : d < 100) (hc : c < cN w 1) (hr : r ≤ 12) (hT : ∀ d, Bd r (T d)) (ht : tab y T (k + 1) κ) (hx : Bd (r + 1) x) (hs : QQ y κ σ) : ∃ q, (∃ υ, QQ y κ υ ∧ q = fun p : Int32 × Int32 × pS → Option (Int32 × pS) => p (nI (LJ w k T d c x (cN w 2)), nI (c + 1), υ)) ∧ ∀ p, fX12_leastTill_b22 N (G2 y) p y (nI k) (nI d) (nI c) (nI x, 0, σ) = q p := by
  have c1 := hw.c1
  have c2 := hw.c2
  have BJ := fun j => (Bd_LJ (w := w) (k := k) (d := d) (c := c) hT hx j).m (by omega)
  unfold fX12_leastTill_b22
  refine lp_forRQ (fun j b => ∃ τ, b = (nI (LJ w k T d c x j), nI j, τ) ∧ QQ y κ τ) _ (cN w 2) (by omega) ?_ ?_ ⟨σ, rfl, hs⟩
  · rintro j hj _ ⟨τ, rfl, gg⟩
    have hv2 : τ.2.1 (y + 1) = w := (gg.2 _ (by omega)).trans hκ
    by_cases e : enB w c = true
    · obtain ⟨υ, u1, u2⟩ := r_tby (N := N) (y := y) (k := k) (d := d) (c := c) (j := j) (σ := τ) hN hw hl hv2 hk hd hj hr hT (ht.q gg)
      have b1 := BJ j
      have b2 := (Bd_TB (w := w) (k := k) (d := d) (c := c) (j := j) hT).m (by omega)
      refine ⟨(nI (LJ w k T d c x (j + 1)), nI (j + 1), υ), ⟨υ, rfl, gg.t u2⟩, fun p q => ?_⟩
      dsimp only
      rw [r_words, b_some, hv2, if_neg (cnt_lt hw.2.2.1.1 hj), r_enemy hv2 (by omega), b_some, if_pos e, if_neg (by decide), u1, b_some, jmin_nI (by omega) (by omega), nI_1, LJ_s, if_pos e]
    · refine ⟨(nI (LJ w k T d c x (j + 1)), nI (j + 1), τ), ⟨τ, rfl, gg⟩, fun p q => ?_⟩
      dsimp only
      rw [r_words, b_some, hv2, if_neg (cnt_lt hw.2.2.1.1 hj), r_enemy hv2 (by omega), b_some, if_neg e, if_pos rfl, nI_1, LJ_s, if_neg e]
  · rintro _ ⟨τ, rfl, gg⟩
    have hv2 : τ.2.1 (y + 1) = w := (gg.2 _ (by omega)).trans hκ
    refine ⟨_, ⟨τ, gg, rfl⟩, fun p q => ?_⟩
    dsimp only
    rw [r_words, b_some, hv2, if_pos (cnt_eN hw.2.2.1.1), nI_1]
theorem r_least {N y k d r : Nat} {σ : pS} {w : Nat → Int32} {T : Nat → Nat} (hN : 20000 < N) (hw : WInv w) (hl : HasLaw w) (hv : σ.2.1 (y + 1) = w) (hk : k < 12) (hd : d < 100) (hr : r ≤ 12) (hT : ∀ d, Bd r (T d)) (ht : tab y T (k + 1) σ) : ∃ τ, fX12_leastTill N (G2 y) y (nI k) (nI d) σ = some (nI (LC w k T d (cN w 1)), τ) ∧ QQ y σ τ := by
  have c1 := hw.c1
  obtain ⟨α, a1, a2⟩ := r_bds (N := N) (y := y) (k := k) (x := d) (σ := σ) hN hw hl hv hk hd hr hT ht
  unfold fX12_leastTill
  rw [a1, b_some]
  suffices hh : ∃ q : Int32 × pS, (q.1 = nI (LC w k T d (cN w 1)) ∧ QQ y σ q.2) ∧ fX12_leastTill_b10 N (G2 y) y (nI k) (nI d) (nI (BDN w k T d), 0, α) = some q by
    obtain ⟨⟨q1, q2⟩, ⟨a, b⟩, c⟩ := hh
    have a' : q1 = _ := a
    subst a'
    exact ⟨q2, c, b⟩
  unfold fX12_leastTill_b10
  refine lp_forR (fun c b => ∃ τ, b = (nI (LC w k T d c), nI c, τ) ∧ QQ y σ τ) _ (cN w 1) (by omega) ?_ ?_ ⟨α, rfl, a2⟩
  · rintro c hc _ ⟨τ, rfl, gg⟩
    left
    have hv2 : τ.2.1 (y + 1) = w := (gg.2 _ (by omega)).trans hv
    obtain ⟨_, ⟨υ, u1, rfl⟩, u2⟩ := r_lj (N := N) (y := y) (k := k) (d := d) (c := c) (σ := τ) (κ := σ) hN hw hl hv hk hd hc hr hT ht (Bd_LC (w := w) (k := k) (d := d) hT c) gg
    refine ⟨(nI (LC w k T d (c + 1)), nI (c + 1), υ), ⟨υ, rfl, u1⟩, fun p => ?_⟩
    dsimp only
    rw [r_court, b_some, hv2, if_neg (cnt_lt hw.2.1.1 hc), u2, LC_s]
  · rintro _ ⟨τ, rfl, gg⟩
    have hv2 : τ.2.1 (y + 1) = w := (gg.2 _ (by omega)).trans hv
    refine ⟨(_, _), ⟨rfl, gg⟩, fun p => ?_⟩
    dsimp only
    rw [r_court, b_some, hv2, if_pos (cnt_eN hw.2.1.1)]
    rfl
/-- one row of the table -/
theorem r_row {N y k r n : Nat} {κ σ : pS} {w : Nat → Int32} {f : Int32} (hN : 20000 < N) (hw : WInv w) (hl : HasLaw w) (hκ : κ.2.1 (y + 1) = w) (hn : n ≤ 12) (hk : k + 1 + r = n) (hs : RR y κ σ) (ht : ∀ k', k < k' → k' ≤ n → tab y (Tr w n (n - k')) k' σ) : ∃ q, (∃ υ, (RR y κ υ ∧ ∀ k', k ≤ k' → k' ≤ n → tab y (Tr w n (n - k')) k' υ) ∧ q = fun p : Int32 × pS → Option pS => p (nI k + (-1), υ)) ∧ ∀ p, fX12_laysTill_b40 N (G2 y) p y f (nI k) (0, σ) = q p := by
  have BT : ∀ d, Bd r (Tr w n r d) := Bd_T r
  have ek : n - k = r + 1 := by omega
  have ek1 : n - (k + 1) = r := by omega
  have ek2 : n - (r + 1) = k := by omega
  unfold fX12_laysTill_b40
  simp only [g2r_0_1, g2r_0_2, g2r_0_3, g2r_0_4, g2r_0_5, g2r_0_8, g2r_0_15, g2r_0_17, g2r_0_25, g2r_0_26, g2r_0_27, g2r_0_28, g2n_1, g2n_2, g2n_3, g2n_4, g2n_5, g2n_6, g2n_7, g2n_8, g2n_9, g2n_10, g2n_11, g2n_12]
  refine lp_forRQ (fun d b => ∃ τ, b = (nI d, τ) ∧ RR y κ τ ∧ (∀ k', k < k' → k' ≤ n → tab y (Tr w n (n - k')) k' τ) ∧ ∀ d', d' < d → τ.2.1 (y + 9) (100 * k + d') = nI (Tr w n (r + 1) d')) _ 100 (by omega) ?_ ?_ ⟨σ, rfl, hs, ht, fun d' h => by omega⟩
  · rintro d hd _ ⟨τ, rfl, h1, h2, h3⟩
    have hv2 : τ.2.1 (y + 1) = w := h1.w.trans hκ
    have tb := h2 (k + 1) (by omega) (by omega)
    rw [ek1] at tb
    obtain ⟨υ, u1, u2⟩ := r_least (N := N) (y := y) (k := k) (d := d) (σ := τ) (r := r) hN hw hl hv2 (by omega) hd (by omega) BT tb
    have eT : LC w k (Tr w n r) d (cN w 1) = Tr w n (r + 1) d := by
      show _ = LC w (n - (r + 1)) (Tr w n r) d (cN w 1)
      rw [ek2]
    rw [eT] at u1
    refine ⟨(nI (d + 1), sA υ (y + 9) (nI (100 * k + d)) (nI (Tr w n (r + 1) d))), ⟨_, rfl, (h1.q u2).a, ?_, ?_⟩, fun p q => ?_⟩
    · intro k' a b d' hd'
      rw [sA_w (n := 100 * k + d) (nI_clamp (by omega)), up_ne (by omega)]
      exact ((h2 k' a b).q u2) d' hd'
    · intro d' hd'
      rw [sA_w (n := 100 * k + d) (nI_clamp (by omega))]
      by_cases e : d' = d
      · rw [e, va_up_self]
      · rw [up_ne (by omega), u2.2 (y + 9) (by omega)]
        exact h3 d' (by omega)
    · dsimp only
      rw [if_neg (show ¬ (100 : Int32) ≤ nI d from lit_lt (m := 100) hd (by decide)), u1, b_some, show (100 : Int32) * nI k + nI d = nI (100 * k + d) from by rw [show (100 : Int32) = nI 100 from rfl, nI_mul, nI_add], ck_nI (by omega) (by omega), nI_1]
  · rintro _ ⟨τ, rfl, h1, h2, h3⟩
    refine ⟨_, ⟨τ, ⟨h1, fun k' a b => ?_⟩, rfl⟩, fun p q => ?_⟩
    · by_cases e : k' = k
      · subst e
        rw [ek]
        exact h3
      · exact h2 k' (by omega) b
    · dsimp only
      rw [if_pos (show (100 : Int32) ≤ nI 100 from lit_end)]
theorem r_lays {N y n f : Nat} {κ : pS} {w : Nat → Int32} (hN : 20000 < N) (hw : WInv w) (hl : HasLaw w) (hκ : κ.2.1 (y + 1) = w) (hn : n ≤ 12) (hn1 : 1 ≤ n) (hf : f ≤ n) : ∃ τ, fX12_laysTill N (G2 y) y (nI f) (nI n) κ = some τ ∧ RR y κ τ ∧ ∀ k, f ≤ k → k ≤ n → tab y (Tr w n (n - k)) k τ := by
  have fill : ∃ α, RR y κ α ∧ tab y (Tr w n 0) n α ∧ fX12_laysTill N (G2 y) y (nI f) (nI n) κ = fX12_laysTill_b32 N (G2 y) y (nI f) (nI n - 1, α) := by
    unfold fX12_laysTill fX12_laysTill_b2
    simp only [g2r_0_1, g2r_0_2, g2r_0_3, g2r_0_4, g2r_0_5, g2r_0_8, g2r_0_15, g2r_0_17, g2r_0_25, g2r_0_26, g2r_0_27, g2r_0_28, g2n_1, g2n_2, g2n_3, g2n_4, g2n_5, g2n_6, g2n_7, g2n_8, g2n_9, g2n_10, g2n_11, g2n_12]
    have H : ∀ (m d M : Nat) (τ : pS), d + m = 100 → m < M → RR y κ τ → (∀ d', d' < d → τ.2.1 (y + 9) (100 * n + d') = 1000000) → ∃ α, RR y κ α ∧ tab y (Tr w n 0) n α ∧ lp (fun (k2 : Int32 × pS → Option (pS)) (b : Int32 × pS) => if (100 : Int32) ≤ b.1 then (fX12_laysTill_b32 N (G2 y) y (nI f) (nI n - (1 : Int32), b.2)) else (ck (inB (((100 : Int32) * nI n) + b.1) 1300) (k2 (b.1 + (1 : Int32), sA b.2 (y + 9) (((100 : Int32) * nI n) + b.1) (1000000 : Int32))))) M (nI d, τ) = fX12_laysTill_b32 N (G2 y) y (nI f) (nI n - 1, α) := by
      intro m
      induction m with
      | zero =>
        intro d M τ e hM h1 h2
        obtain ⟨M', rfl⟩ : ∃ M', M = M' + 1 := ⟨M - 1, by omega⟩
        refine ⟨τ, h1, fun d' hd' => h2 d' (by omega), ?_⟩
        show (if (100 : Int32) ≤ nI d then _ else _) = _
        rw [show d = 100 by omega, if_pos (show (100 : Int32) ≤ nI 100 from lit_end)]
      | succ m ih =>
        intro d M τ e hM h1 h2
        obtain ⟨M', rfl⟩ : ∃ M', M = M' + 1 := ⟨M - 1, by omega⟩
        obtain ⟨α, a1, a2, a3⟩ := ih (d + 1) M' (sA τ (y + 9) (nI (100 * n + d)) 1000000) (by omega) (by omega) h1.a (by
          intro d' hd'
          rw [sA_w (n := 100 * n + d) (nI_clamp (by omega))]
          by_cases q : d' = d
          · rw [q, va_up_self]
          · rw [up_ne (by omega)]
            exact h2 d' (by omega))
        refine ⟨α, a1, a2, Eq.trans ?_ a3⟩
        show (if (100 : Int32) ≤ nI d then _ else (ck (inB (((100 : Int32) * nI n) + nI d) 1300) _)) = _
        rw [if_neg (show ¬ (100 : Int32) ≤ nI d from lit_lt (m := 100) (by omega) (by decide)), show (100 : Int32) * nI n + nI d = nI (100 * n + d) from by rw [show (100 : Int32) = nI 100 from rfl, nI_mul, nI_add], ck_nI (by omega) (by omega), ← nI_1 d]
    exact H 100 0 N κ (by omega) (by omega) RR.r (fun d' h => by omega)
  obtain ⟨α, a1, a2, a3⟩ := fill
  suffices hh : ∃ q, (RR y κ q ∧ ∀ k, f ≤ k → k ≤ n → tab y (Tr w n (n - k)) k q) ∧ fX12_laysTill_b32 N (G2 y) y (nI f) (nI n - 1, α) = some q by
    obtain ⟨q, ⟨q1, q2⟩, q3⟩ := hh
    exact ⟨q, a3.trans q3, q1, q2⟩
  have e0 : nI n - 1 = nI (n - 0) + (-1) := by
    obtain ⟨m, rfl⟩ : ∃ m, n = m + 1 := ⟨n - 1, by omega⟩
    rw [nI_p1, Nat.sub_zero, dn_s]
  rw [e0]
  unfold fX12_laysTill_b32
  refine lp_forR (fun j b => ∃ τ, b = (nI (n - j) + (-1), τ) ∧ RR y κ τ ∧ ∀ k, n - j ≤ k → k ≤ n → tab y (Tr w n (n - k)) k τ) _ (n - f) (by omega) ?_ ?_ ⟨α, rfl, a1, fun k p q => ?_⟩
  · rintro j hj _ ⟨τ, rfl, h1, h2⟩
    left
    obtain ⟨k, hk⟩ : ∃ k, n - j = k + 1 := ⟨n - j - 1, by omega⟩
    obtain ⟨_, ⟨υ, ⟨u1, u2⟩, rfl⟩, u3⟩ := r_row (N := N) (y := y) (k := k) (r := n - (k + 1)) (n := n) (κ := κ) (σ := τ) (f := nI f) hN hw hl hκ hn (by omega) h1 (fun k' p q => h2 k' (by omega) q)
    refine ⟨(nI (n - (j + 1)) + (-1), υ), ⟨υ, rfl, u1, fun k' p q => u2 k' (by omega) q⟩, fun p => ?_⟩
    dsimp only
    rw [hk, dn_s, if_neg (nI_nlt (by omega) (by omega)), u3, show n - (j + 1) = k by omega]
  · rintro _ ⟨τ, rfl, h1, h2⟩
    refine ⟨τ, ⟨h1, fun k p q => h2 k (by omega) q⟩, fun p => ?_⟩
    dsimp only
    rw [show n - (n - f) = f by omega]
    cases f with
    | zero => rw [if_pos (show nI 0 + (-1) < nI 0 by decide)]
    | succ f => rw [dn_s, if_pos (nI_lt (by omega) (by omega))]
  · have e : k = n := by omega
    subst e
    rw [Nat.sub_self]
    exact a2
