/-! the siege: what enemies can be sure of -/
def bwN (w : Nat → Int32) (k d c j : Nat) : Nat := (bwV w (nI d) (w 9 + nI k) (bc (w 12)) (nI c) j).toInt.toNat
def bdN (w : Nat → Int32) (k d e : Nat) : Nat := (bdV w (nI d) (w 9 + nI k) (bc (w 12)) e).toInt.toNat
theorem bwN_eq {w : Nat → Int32} {k d c j : Nat} (hw : WInv w) (hl : HasLaw w) (hj : j < cN w 2) (hd : d < 100) : bwV w (nI d) (w 9 + nI k) (bc (w 12)) (nI c) j = nI (bwN w k d c j) ∧ bwN w k d c j < 100 := by
  have b := bwV_bd (d := nI d) (n := w 9 + nI k) (l := bc (w 12)) (who := nI c) hw hl hj (by rw [nI_toInt (by omega)]; omega)
  refine ⟨nI_cN b.1, ?_⟩
  unfold bwN
  omega
theorem bdN_eq {w : Nat → Int32} {k d e : Nat} (hw : WInv w) (hl : HasLaw w) (he : e < cN w 3) (hd : d < 100) : bdV w (nI d) (w 9 + nI k) (bc (w 12)) e = nI (bdN w k d e) ∧ bdN w k d e < 100 := by
  have b := bdV_bd (d := nI d) (n := w 9 + nI k) (l := bc (w 12)) hw hl he (by rw [nI_toInt (by omega)]; omega)
  refine ⟨nI_cN b.1, ?_⟩
  unfold bdN
  omega
def enB (w : Nat → Int32) (c : Nat) : Bool := decide (w (37 + 3 * c) = 1 ∧ w (39 + 3 * c) = 1)
def mxN (w : Nat → Int32) (k : Nat) (T : Nat → Nat) (x : Nat) : Nat → Nat := itN (fun e v => max v (T (bdN w k x e))) (T x)
theorem mxN_s {w : Nat → Int32} {k x n : Nat} {T : Nat → Nat} : mxN w k T x (n + 1) = max (mxN w k T x n) (T (bdN w k x n)) := rfl
def BDN (w : Nat → Int32) (k : Nat) (T : Nat → Nat) (x : Nat) : Nat := min 1000000 (mxN w k T x (cN w 3) + 1)
def TBN (w : Nat → Int32) (k : Nat) (T : Nat → Nat) (d c j : Nat) : Nat := if nI (bwN w k d c j) < w 8 then BDN w k T (bwN w k d c j) else 1
def LJ (w : Nat → Int32) (k : Nat) (T : Nat → Nat) (d c x : Nat) : Nat → Nat := itN (fun j v => if enB w c = true then min v (TBN w k T d c j) else v) x
theorem LJ_s {w : Nat → Int32} {k d c x n : Nat} {T : Nat → Nat} : LJ w k T d c x (n + 1) = if enB w c = true then min (LJ w k T d c x n) (TBN w k T d c n) else LJ w k T d c x n := rfl
def LC (w : Nat → Int32) (k : Nat) (T : Nat → Nat) (d : Nat) : Nat → Nat := itN (fun c v => LJ w k T d c v (cN w 2)) (BDN w k T d)
theorem LC_s {w : Nat → Int32} {k d n : Nat} {T : Nat → Nat} : LC w k T d (n + 1) = LJ w k T d n (LC w k T d n) (cN w 2) := rfl
def Tr (w : Nat → Int32) (n : Nat) : Nat → Nat → Nat
  | 0, _ => 1000000
  | r + 1, d => LC w (n - (r + 1)) (Tr w n r) d (cN w 1)
def Bd (r v : Nat) : Prop := (v = 1000000 ∨ v ≤ r) ∧ 1 ≤ v
theorem Bd_mx {w : Nat → Int32} {k x r : Nat} {T : Nat → Nat} (h : ∀ d, Bd r (T d)) : ∀ n, Bd r (mxN w k T x n) := by
  intro n
  induction n with
  | zero => exact h x
  | succ n ih =>
    have a := h (bdN w k x n)
    rw [mxN_s]
    unfold Bd at *
    omega
theorem Bd_BD {w : Nat → Int32} {k x r : Nat} {T : Nat → Nat} (h : ∀ d, Bd r (T d)) : Bd (r + 1) (BDN w k T x) := by
  have a := Bd_mx (w := w) (k := k) (x := x) h (cN w 3)
  unfold BDN
  unfold Bd at *
  omega
theorem Bd_TB {w : Nat → Int32} {k d c j r : Nat} {T : Nat → Nat} (h : ∀ d, Bd r (T d)) : Bd (r + 1) (TBN w k T d c j) := by
  unfold TBN
  split
  · exact Bd_BD h
  · unfold Bd
    omega
theorem Bd_LJ {w : Nat → Int32} {k d c x r : Nat} {T : Nat → Nat} (h : ∀ d, Bd r (T d)) (hx : Bd (r + 1) x) : ∀ n, Bd (r + 1) (LJ w k T d c x n) := by
  intro n
  induction n with
  | zero => exact hx
  | succ n ih =>
    have a := Bd_TB (w := w) (k := k) (d := d) (c := c) (j := n) h
    rw [LJ_s]
    split
    · unfold Bd at *
      omega
    · exact ih
theorem Bd_LC {w : Nat → Int32} {k d r : Nat} {T : Nat → Nat} (h : ∀ d, Bd r (T d)) : ∀ n, Bd (r + 1) (LC w k T d n) := by
  intro n
  induction n with
  | zero => exact Bd_BD h
  | succ n ih =>
    rw [LC_s]
    exact Bd_LJ h ih _
theorem Bd_T {w : Nat → Int32} {n : Nat} : ∀ r d, Bd r (Tr w n r d) := by
  intro r
  induction r with
  | zero =>
    intro d
    show Bd 0 1000000
    unfold Bd
    omega
  | succ r ih => intro d; exact Bd_LC ih _
theorem LJ_one {w : Nat → Int32} {k d c x r n : Nat} {T : Nat → Nat} (h : ∀ d, Bd r (T d)) (e : LJ w k T d c x n = 1) : ∀ i, LJ w k T d c x (n + i) = 1 := by
  intro i
  induction i with
  | zero => exact e
  | succ i ih =>
    have a := Bd_TB (w := w) (k := k) (d := d) (c := c) (j := n + i) h
    rw [← Nat.add_assoc, LJ_s, ih]
    unfold Bd at a
    split
    · omega
    · rfl
theorem LJ_no {w : Nat → Int32} {k d c x n : Nat} {T : Nat → Nat} (e : ¬ enB w c = true) : LJ w k T d c x n = x := by
  induction n with
  | zero => rfl
  | succ n ih => rw [LJ_s, if_neg e, ih]
theorem mx_far {w : Nat → Int32} {k x r n : Nat} {T : Nat → Nat} (h : ∀ d, Bd r (T d)) (e : mxN w k T x n = 1000000) (hr : r ≤ 12) : ∀ i, mxN w k T x (n + i) = 1000000 := by
  intro i
  induction i with
  | zero => exact e
  | succ i ih =>
    have a := h (bdN w k x (n + i))
    rw [← Nat.add_assoc, mxN_s, ih]
    unfold Bd at a
    omega
theorem cl_le {r v : Nat} (h : Bd r v) (hr : r ≤ 13) : clV v ≤ 1000 := by
  unfold Bd at h
  unfold clV
  split <;> omega
theorem cl_max {r a b : Nat} (ha : Bd r a) (hb : Bd r b) (hr : r ≤ 13) : jmax (nI (clV a)) (nI (clV b)) = nI (clV (max a b)) := by
  have h1 := cl_le ha hr
  have h2 := cl_le hb hr
  rw [jmax_nI (by omega) (by omega)]
  congr 1
  unfold Bd at ha hb
  unfold clV
  split <;> split <;> split <;> omega
theorem cl_min {r a b : Nat} (ha : Bd r a) (hb : Bd r b) (hr : r ≤ 13) : jmin (nI (clV a)) (nI (clV b)) = nI (clV (min a b)) := by
  have h1 := cl_le ha hr
  have h2 := cl_le hb hr
  rw [jmin_nI (by omega) (by omega)]
  congr 1
  unfold Bd at ha hb
  unfold clV
  split <;> split <;> split <;> omega
theorem cl_more {r v : Nat} (h : Bd r v) (hr : r ≤ 12) : jmin 1000 (nI (clV v) + 1) = nI (clV (min 1000000 (v + 1))) := by
  have h1 := cl_le h (by omega)
  rw [nI_1, show (1000 : Int32) = nI 1000 from rfl, jmin_nI (by omega) (by omega)]
  congr 1
  unfold Bd at h
  unfold clV
  split <;> split <;> omega
/-- what the class's siege keeps to -/
def SG (z : Nat) (w : Nat → Int32) (n : Nat) (σ1 τ : pS) : Prop := E1 z σ1 τ ∧ (τ.1 (z + 120) 3 = w 9 ∧ τ.1 (z + 120) 4 = nI n ∧ τ.1 (z + 121) 2 = bea w ∧ τ.1 (z + 121) 3 = w 12) ∧ (∀ k d, k < n → d < 100 → τ.2.1 (z + 125) (100 * k + d) = -1 ∨ τ.2.1 (z + 125) (100 * k + d) = nI (clV (Tr w n (n - k) d))) ∧ (∀ k d, k + 1 < n → d < 100 → τ.2.1 (z + 126) (100 * k + d) = -1 ∨ τ.2.1 (z + 126) (100 * k + d) = nI (clV (mxN w k (Tr w n (n - (k + 1))) d (cN w 3))))
theorem SG.tt {z n : Nat} {w : Nat → Int32} {σ1 τ υ : pS} (h : SG z w n σ1 τ) (t : TT z τ υ) : SG z w n σ1 υ := by
  obtain ⟨h1, ⟨h2, h3, h4, h5⟩, h6, h7⟩ := h
  refine ⟨EE.t h1 (t.e rfl rfl), ⟨by rw [t.f (by omega)]; exact h2, by rw [t.f (by omega)]; exact h3, by rw [t.f (by omega)]; exact h4, by rw [t.f (by omega)]; exact h5⟩, ?_, ?_⟩
  · rw [t.2.1 (z + 125) (by omega)]
    exact h6
  · rw [t.2.1 (z + 126) (by omega)]
    exact h7
/-- the dream's doubt and night -/
def dr2 (z : Nat) (τ : pS) (d n : Int32) : pS := putF (putF τ (z + 121) 0 d) (z + 121) 1 n
theorem SG.dr {z n : Nat} {w : Nat → Int32} {σ1 τ : pS} {a b : Int32} (h : SG z w n σ1 τ) : SG z w n σ1 (dr2 z τ a b) := by
  obtain ⟨h1, ⟨h2, h3, h4, h5⟩, h6, h7⟩ := h
  unfold dr2
  exact ⟨E1.pd (E1.pd h1 (by omega)) (by omega), ⟨by rw [pf_o (by omega), pf_o (by omega)]; exact h2, by rw [pf_o (by omega), pf_o (by omega)]; exact h3, by rw [pf0n (by decide), pf0n (by decide)]; exact h4, by rw [pf0n (by decide), pf0n (by decide)]; exact h5⟩, h6, h7⟩
theorem c_eased {N z y n k d e : Nat} {σ1 σ2 τ : pS} (hN : 20000 < N) (h : Sim z y σ1 σ2) (g : SG z (σ2.2.1 (y + 1)) n σ1 τ) (hd : d < 100) (he : e < cN (σ2.2.1 (y + 1)) 3) : ∃ υ, fX6_easedOn N (G1 z) (z + 120) (z + 3) (nI k) (nI d) (nI e) τ = some (nI (bdN (σ2.2.1 (y + 1)) k d e), υ) ∧ SG z (σ2.2.1 (y + 1)) n σ1 υ := by
  have g2 := g.dr (a := nI d) (b := σ2.2.1 (y + 1) 9 + nI k)
  have hs := h.keep g2.1 E2.r
  obtain ⟨υ, t1, e1⟩ := c_easeOf (N := N) (z := z) (m := z + 121) hN h.wi hs.tale hs.law he
  refine ⟨υ, ?_, g2.tt t1⟩
  have f0 : (dr2 z τ (nI d) (σ2.2.1 (y + 1) 9 + nI k)).1 (z + 121) 0 = nI d := by unfold dr2; rw [pf0n (by decide), pf0]
  have f1 : (dr2 z τ (nI d) (σ2.2.1 (y + 1) 9 + nI k)).1 (z + 121) 1 = σ2.2.1 (y + 1) 9 + nI k := by unfold dr2; rw [pf0]
  rw [f0, f1, g2.2.1.2.2.2] at e1
  unfold fX6_easedOn
  simp only [g1r_120_0]
  rw [pf_o (show z + 120 ≠ z + 121 by omega), g.2.1.1]
  show (fX10_easeOf N (G1 z) (z + 3) (z + 121) (nI e) (dr2 z τ (nI d) (σ2.2.1 (y + 1) 9 + nI k))).bind _ = _
  rw [e1, b_some, ← (bdN_eq h.wi h.hl he hd).1]
  rfl
theorem c_enemy {N z y c : Nat} {σ1 σ2 τ : pS} (h : Sim z y σ1 σ2) (he : E1 z σ1 τ) (hc : c < cN (σ2.2.1 (y + 1)) 1) : fX6_isEnemyNear N (G1 z) (z + 3) (nI c) τ = some (if enB (σ2.2.1 (y + 1)) c = true then 1 else 0) := by
  have hs := h.keep he E2.r
  have c1 := h.wi.c1
  have nb := hs.mr.nr hc
  unfold fX6_isEnemyNear
  simp only [g1r_3_0, g1r_4_16, g1r_3_2]
  rw [at_fn g1n_12 (by omega) (by omega), b_some, show τ.2.1 (z + 12) c = σ2.2.1 (y + 1) (37 + 3 * c) from hs.tale.2.2.2.2.2.1 c hc, has_fn (by omega), b_some, ite01, nb]
  unfold enB
  by_cases a : σ2.2.1 (y + 1) (37 + 3 * c) = 1
  · by_cases b : σ2.2.1 (y + 1) (39 + 3 * c) = 1
    · rw [if_pos a, if_pos (decide_eq_true b), if_pos (decide_eq_true ⟨a, b⟩)]
    · rw [if_pos a, if_neg (fun q => b (of_decide_eq_true q)), if_neg (fun q => b (of_decide_eq_true q).2)]
  · rw [if_neg a, if_neg (fun q => a (of_decide_eq_true q).1)]
/-- a memory of latest nights -/
theorem SG.m2 {z n k d : Nat} {w : Nat → Int32} {σ1 τ : pS} (h : SG z w n σ1 τ) (hk : k < 12) (hd : d < 100) : SG z w n σ1 (sA τ (z + 126) (nI (100 * k + d)) (nI (clV (mxN w k (Tr w n (n - (k + 1))) d (cN w 3))))) := by
  obtain ⟨h1, h2, h6, h7⟩ := h
  refine ⟨EE.sa h1 (rlA_d (by omega)), h2, ?_, ?_⟩
  · rw [sA_o (by omega)]
    exact h6
  · intro k' d' a b
    rw [sA_w (n := 100 * k + d) (nI_clamp (by omega))]
    by_cases e : 100 * k' + d' = 100 * k + d
    · have e1 : k' = k := by omega
      have e2 : d' = d := by omega
      subst e1
      subst e2
      rw [va_up_self]
      exact Or.inr rfl
    · rw [up_ne e]
      exact h7 k' d' a b
theorem SG.m1 {z n k d : Nat} {w : Nat → Int32} {σ1 τ : pS} (h : SG z w n σ1 τ) (hk : k < 12) (hd : d < 100) : SG z w n σ1 (sA τ (z + 125) (nI (100 * k + d)) (nI (clV (Tr w n (n - k) d)))) := by
  obtain ⟨h1, h2, h6, h7⟩ := h
  refine ⟨EE.sa h1 (rlA_d (by omega)), h2, ?_, ?_⟩
  · intro k' d' a b
    rw [sA_w (n := 100 * k + d) (nI_clamp (by omega))]
    by_cases e : 100 * k' + d' = 100 * k + d
    · have e1 : k' = k := by omega
      have e2 : d' = d := by omega
      subst e1
      subst e2
      rw [va_up_self]
      exact Or.inr rfl
    · rw [up_ne e]
      exact h6 k' d' a b
  · rw [sA_o (by omega)]
    exact h7
theorem cell_eq {k d : Nat} : nI k * 100 + nI d = nI (100 * k + d) := by
  rw [show (100 : Int32) = nI 100 from rfl, nI_mul, nI_add, Nat.mul_comm]
/-- the recursion, one night on -/
def rcOK (z : Nat) (w : Nat → Int32) (n : Nat) (σ1 : pS) (k r : Nat) (rc : Nat × Nat × Int32 × Int32 × pS → Option (Int32 × pS)) : Prop := ∀ d τ, d < 100 → SG z w n σ1 τ → ∃ υ, rc (z + 120, z + 3, nI (k + 1), nI d, τ) = some (nI (clV (Tr w n r d)), υ) ∧ SG z w n σ1 υ
theorem cl_far {r v : Nat} (h : Bd r v) (hr : r ≤ 13) : 1000 ≤ clV v ↔ v = 1000000 := by
  unfold Bd at h
  unfold clV
  split <;> omega
theorem cl_m1 {r v : Nat} (h : Bd r v) (hr : r ≤ 13) : ¬ nI (clV v) = -1 := by
  have := cl_le h hr
  exact m1_ne (by omega)
theorem c_latest {N z y n k r x : Nat} {σ1 σ2 τ : pS} {rc : Nat × Nat × Int32 × Int32 × pS → Option (Int32 × pS)} (hN : 20000 < N) (h : Sim z y σ1 σ2) (hn : n ≤ 12) (hk : k + 1 + r = n) (hrc : 1 ≤ r → rcOK z (σ2.2.1 (y + 1)) n σ1 k r rc) (g : SG z (σ2.2.1 (y + 1)) n σ1 τ) (hx : x < 100) : ∃ υ, fX6_latestBehind N (G1 z) rc (z + 120) (z + 3) (nI k) (nI x) τ = some (nI (clV (mxN (σ2.2.1 (y + 1)) k (Tr (σ2.2.1 (y + 1)) n r) x (cN (σ2.2.1 (y + 1)) 3))), υ) ∧ SG z (σ2.2.1 (y + 1)) n σ1 υ := by
  have c3 := h.wi.c3
  have BT : ∀ d, Bd r (Tr (σ2.2.1 (y + 1)) n r d) := Bd_T r
  have BM := fun j => Bd_mx (w := σ2.2.1 (y + 1)) (k := k) (x := x) BT j
  unfold fX6_latestBehind
  simp only [g1r_120_2, g1n_126]
  rw [g.2.1.2.1, nI_1, cell_eq]
  rcases Nat.eq_zero_or_pos r with r0 | r1
  · subst r0
    rw [if_pos (nI_le (by omega) (by omega))]
    refine ⟨τ, ?_, g⟩
    rw [show mxN (σ2.2.1 (y + 1)) k (Tr (σ2.2.1 (y + 1)) n 0) x (cN (σ2.2.1 (y + 1)) 3) = 1000000 from by
      have := mx_far (w := σ2.2.1 (y + 1)) (k := k) (x := x) (n := 0) BT rfl (by omega) (cN (σ2.2.1 (y + 1)) 3)
      rw [Nat.zero_add] at this
      exact this]
    rfl
  · have hrc' := hrc r1
    have er : n - (k + 1) = r := by omega
    rw [if_neg (nI_ge (by omega) (by omega)), if_neg (nI_pos (by omega)), if_pos (show nI (100 * k + x) < Int32.ofNat 1200 from nI_lt (b := 1200) (by omega) (by omega)), ck_nI (by omega) (by omega), gA_nI (by omega), ck_nI (by omega) (by omega)]
    rcases g.2.2.2 k x (by omega) hx with e | e
    · rw [if_pos e]
      obtain ⟨υ, u1, u2⟩ := hrc' x τ hx g
      rw [u1, b_some]
      have fin : ∀ e τ', e ≤ cN (σ2.2.1 (y + 1)) 3 → mxN (σ2.2.1 (y + 1)) k (Tr (σ2.2.1 (y + 1)) n r) x e = mxN (σ2.2.1 (y + 1)) k (Tr (σ2.2.1 (y + 1)) n r) x (cN (σ2.2.1 (y + 1)) 3) → SG z (σ2.2.1 (y + 1)) n σ1 τ' → ∃ q : Int32 × pS, (q.1 = nI (clV (mxN (σ2.2.1 (y + 1)) k (Tr (σ2.2.1 (y + 1)) n r) x (cN (σ2.2.1 (y + 1)) 3))) ∧ SG z (σ2.2.1 (y + 1)) n σ1 q.2) ∧ fX6_latestBehind_b120 N (G1 z) rc (z + 120) (nI (100 * k + x)) (nI (clV (mxN (σ2.2.1 (y + 1)) k (Tr (σ2.2.1 (y + 1)) n r) x e))) τ' = some q := by
        intro e τ' _ ee gg
        have m := gg.m2 (k := k) (d := x) (by omega) hx
        rw [er] at m
        refine ⟨(_, _), ⟨rfl, m⟩, ?_⟩
        unfold fX6_latestBehind_b120
        simp only [g1r_120_2, g1n_126]
        rw [ck_nI (by omega) (by omega), ee]
        rfl
      suffices hh : ∃ q : Int32 × pS, (q.1 = nI (clV (mxN (σ2.2.1 (y + 1)) k (Tr (σ2.2.1 (y + 1)) n r) x (cN (σ2.2.1 (y + 1)) 3))) ∧ SG z (σ2.2.1 (y + 1)) n σ1 q.2) ∧ fX6_latestBehind_b70 N (G1 z) rc (z + 120) (z + 3) (nI k) (nI x) (nI (100 * k + x)) (nI (clV (Tr (σ2.2.1 (y + 1)) n r x)), 0, υ) = some q by
        obtain ⟨⟨q1, q2⟩, ⟨a, b⟩, c⟩ := hh
        have a' : q1 = _ := a
        subst a'
        exact ⟨q2, c, b⟩
      unfold fX6_latestBehind_b70
      simp only [g1r_3_0]
      refine lp_forR (fun e b => ∃ τ', b = (nI (clV (mxN (σ2.2.1 (y + 1)) k (Tr (σ2.2.1 (y + 1)) n r) x e)), nI e, τ') ∧ SG z (σ2.2.1 (y + 1)) n σ1 τ') _ (cN (σ2.2.1 (y + 1)) 3) (by omega) ?_ ?_ ⟨υ, rfl, u2⟩
      · rintro e he _ ⟨τ', rfl, gg⟩
        have hs := h.keep gg.1 E2.r
        have et : τ'.1 (z + 4) 3 = σ2.2.1 (y + 1) 3 := hs.tale.1.2.2.2.1
        have hb := cl_le (BM e) (by omega)
        by_cases f : mxN (σ2.2.1 (y + 1)) k (Tr (σ2.2.1 (y + 1)) n r) x e = 1000000
        · right
          obtain ⟨q, q1, q2⟩ := fin e τ' (by omega) (by
            have := mx_far BT f (by omega) (cN (σ2.2.1 (y + 1)) 3 - e)
            rw [show e + (cN (σ2.2.1 (y + 1)) 3 - e) = cN (σ2.2.1 (y + 1)) 3 by omega] at this
            rw [f, this]) gg
          refine ⟨q, q1, fun p => ?_⟩
          dsimp only
          rw [et, if_neg (cnt_lt h.wi.2.2.2.1.1 he), if_pos (show (1000 : Int32) ≤ nI (clV (mxN (σ2.2.1 (y + 1)) k (Tr (σ2.2.1 (y + 1)) n r) x e)) from nI_le (a := 1000) ((cl_far (BM e) (by omega)).mpr f) (by omega)), q2]
        · left
          obtain ⟨α, a1, a2⟩ := c_eased (N := N) (k := k) (d := x) (e := e) hN h gg hx he
          obtain ⟨β, b1, b2⟩ := hrc' (bdN (σ2.2.1 (y + 1)) k x e) α (bdN_eq h.wi h.hl he hx).2 a2
          refine ⟨(nI (clV (mxN (σ2.2.1 (y + 1)) k (Tr (σ2.2.1 (y + 1)) n r) x (e + 1))), nI (e + 1), β), ⟨β, rfl, b2⟩, fun p => ?_⟩
          dsimp only
          rw [et, if_neg (cnt_lt h.wi.2.2.2.1.1 he), if_neg (show ¬ (1000 : Int32) ≤ nI (clV (mxN (σ2.2.1 (y + 1)) k (Tr (σ2.2.1 (y + 1)) n r) x e)) from nI_ge (b := 1000) (by
            have := (cl_far (BM e) (by omega)).mp
            omega) (by omega)), a1, b_some, nI_1, b1, b_some, cl_max (BM e) (BT _) (by omega), nI_1]
          rfl
      · rintro _ ⟨τ', rfl, gg⟩
        have hs := h.keep gg.1 E2.r
        have et : τ'.1 (z + 4) 3 = σ2.2.1 (y + 1) 3 := hs.tale.1.2.2.2.1
        obtain ⟨q, q1, q2⟩ := fin _ τ' (Nat.le_refl _) rfl gg
        refine ⟨q, q1, fun p => ?_⟩
        dsimp only
        rw [et, if_pos (cnt_eN h.wi.2.2.2.1.1), q2]
    · rw [er] at e
      rw [if_neg (by rw [e]; exact cl_m1 (BM _) (by omega)), e]
      exact ⟨τ, rfl, g⟩
theorem c_with {N z y n k r d c j : Nat} {σ1 σ2 τ : pS} {rc : Nat × Nat × Int32 × Int32 × pS → Option (Int32 × pS)} (hN : 20000 < N) (h : Sim z y σ1 σ2) (hn : n ≤ 12) (hk : k + 1 + r = n) (hrc : 1 ≤ r → rcOK z (σ2.2.1 (y + 1)) n σ1 k r rc) (g : SG z (σ2.2.1 (y + 1)) n σ1 τ) (hd : d < 100) (hj : j < cN (σ2.2.1 (y + 1)) 2) : ∃ υ, fX6_fewestWith N (G1 z) rc (z + 120) (z + 3) (nI k) (nI d) (nI c) (nI j) τ = some (nI (clV (TBN (σ2.2.1 (y + 1)) k (Tr (σ2.2.1 (y + 1)) n r) d c j)), υ) ∧ SG z (σ2.2.1 (y + 1)) n σ1 υ := by
  have BT : ∀ d, Bd r (Tr (σ2.2.1 (y + 1)) n r d) := Bd_T r
  have g2 := g.dr (a := nI d) (b := σ2.2.1 (y + 1) 9 + nI k)
  have hs := h.keep g2.1 E2.r
  obtain ⟨υ, t1, e1⟩ := c_stingOf (N := N) (z := z) (m := z + 121) (who := nI c) hN h.wi hs.tale hs.law g2.2.1.2.2.1 hj
  have f0 : (dr2 z τ (nI d) (σ2.2.1 (y + 1) 9 + nI k)).1 (z + 121) 0 = nI d := by unfold dr2; rw [pf0n (by decide), pf0]
  have f1 : (dr2 z τ (nI d) (σ2.2.1 (y + 1) 9 + nI k)).1 (z + 121) 1 = σ2.2.1 (y + 1) 9 + nI k := by unfold dr2; rw [pf0]
  rw [f0, f1, g2.2.1.2.2.2] at e1
  obtain ⟨w1, w2⟩ := bwN_eq (k := k) (c := c) h.wi h.hl hj hd
  have g3 := g2.tt t1
  have u6 : υ.1 (z + 4) 6 = σ2.2.1 (y + 1) 8 := (h.keep g3.1 E2.r).tale.1.2.2.2.2.2.2.1
  unfold fX6_fewestWith
  simp only [g1r_120_0, g1r_3_0]
  rw [pf_o (show z + 120 ≠ z + 121 by omega), g.2.1.1]
  show ∃ υ', (fX10_stingOf N (G1 z) (z + 3) (z + 121) (nI c) (nI j) (dr2 z τ (nI d) (σ2.2.1 (y + 1) 9 + nI k))).bind _ = _ ∧ _
  rw [e1, b_some]
  dsimp only
  rw [show jmin 99 (nI d + stV (σ2.2.1 (y + 1)) (nI d) (σ2.2.1 (y + 1) 9 + nI k) (bc (σ2.2.1 (y + 1) 12)) (nI c) j) = nI (bwN (σ2.2.1 (y + 1)) k d c j) from w1, u6]
  unfold TBN
  by_cases q : nI (bwN (σ2.2.1 (y + 1)) k d c j) < σ2.2.1 (y + 1) 8
  · obtain ⟨ρ, r1, r2⟩ := c_latest (N := N) (rc := rc) hN h hn hk hrc g3 w2
    rw [if_pos q, if_pos q, r1, b_some]
    unfold fX6_oneMore
    rw [b_some, cl_more (Bd_mx BT _) (by omega)]
    exact ⟨ρ, rfl, r2⟩
  · rw [if_neg q, if_neg q]
    exact ⟨υ, rfl, g3⟩
theorem c_fj {N z y n k r d c x : Nat} {σ1 σ2 τ : pS} {rc : Nat × Nat × Int32 × Int32 × pS → Option (Int32 × pS)} {x4 : Int32} (hN : 20000 < N) (h : Sim z y σ1 σ2) (hn : n ≤ 12) (hk : k + 1 + r = n) (hrc : 1 ≤ r → rcOK z (σ2.2.1 (y + 1)) n σ1 k r rc) (g : SG z (σ2.2.1 (y + 1)) n σ1 τ) (hd : d < 100) (hc : c < cN (σ2.2.1 (y + 1)) 1) (hx : Bd (r + 1) x) : ∃ q, (∃ υ, SG z (σ2.2.1 (y + 1)) n σ1 υ ∧ q = fun p : Int32 × Int32 × pS → Option (Int32 × pS) => p (nI (clV (LJ (σ2.2.1 (y + 1)) k (Tr (σ2.2.1 (y + 1)) n r) d c x (cN (σ2.2.1 (y + 1)) 2))), nI (c + 1), υ)) ∧ ∀ p, fX6_fewestFrom_b84 N (G1 z) rc p (z + 120) (z + 3) (nI k) (nI d) x4 (nI c) (nI (clV x), 0, τ) = q p := by
  have c2 := h.wi.c2
  have BT : ∀ d, Bd r (Tr (σ2.2.1 (y + 1)) n r d) := Bd_T r
  have BJ := fun j => Bd_LJ (w := σ2.2.1 (y + 1)) (k := k) (d := d) (c := c) BT hx j
  unfold fX6_fewestFrom_b84
  simp only [g1r_3_0]
  have H : ∀ (m j M : Nat) (τ' : pS), j + m = cN (σ2.2.1 (y + 1)) 2 → m < M → SG z (σ2.2.1 (y + 1)) n σ1 τ' → ∃ υ, SG z (σ2.2.1 (y + 1)) n σ1 υ ∧ ∀ p : Int32 × Int32 × pS → Option (Int32 × pS), lp (fun (k84 : Int32 × Int32 × pS → Option (Int32 × pS)) (b : Int32 × Int32 × pS) => if (b.2.2.1 (z + 4) 2) ≤ b.2.1 then (p (b.1, nI c + (1 : Int32), b.2.2)) else ((fX6_isEnemyNear N (G1 z) (z + 3) (nI c) b.2.2).bind (fun q1 => if q1 = 0 then (p (b.1, nI c + (1 : Int32), b.2.2)) else (if b.1 ≤ (1 : Int32) then (p (b.1, nI c + (1 : Int32), b.2.2)) else ((fX6_fewestWith N (G1 z) rc (z + 120) (z + 3) (nI k) (nI d) (nI c) b.2.1 b.2.2).bind (fun q2 => k84 (jmin b.1 q2.1, b.2.1 + (1 : Int32), q2.2))))))) M (nI (clV (LJ (σ2.2.1 (y + 1)) k (Tr (σ2.2.1 (y + 1)) n r) d c x j)), nI j, τ') = p (nI (clV (LJ (σ2.2.1 (y + 1)) k (Tr (σ2.2.1 (y + 1)) n r) d c x (cN (σ2.2.1 (y + 1)) 2))), nI (c + 1), υ) := by
    intro m
    induction m with
    | zero =>
      intro j M τ' ej hM gg
      obtain ⟨M', rfl⟩ : ∃ M', M = M' + 1 := ⟨M - 1, by omega⟩
      have et : τ'.1 (z + 4) 2 = σ2.2.1 (y + 1) 2 := (h.keep gg.1 E2.r).tale.1.2.2.1
      have ej' : j = cN (σ2.2.1 (y + 1)) 2 := by omega
      refine ⟨τ', gg, fun p => ?_⟩
      show (if τ'.1 (z + 4) 2 ≤ nI j then _ else _) = _
      rw [et, ej', if_pos (cnt_eN h.wi.2.2.1.1), nI_1]
    | succ m ih =>
      intro j M τ' ej hM gg
      obtain ⟨M', rfl⟩ : ∃ M', M = M' + 1 := ⟨M - 1, by omega⟩
      have hj : j < cN (σ2.2.1 (y + 1)) 2 := by omega
      have et : τ'.1 (z + 4) 2 = σ2.2.1 (y + 1) 2 := (h.keep gg.1 E2.r).tale.1.2.2.1
      have hb := cl_le (BJ j) (by omega)
      by_cases e : enB (σ2.2.1 (y + 1)) c = true
      · by_cases o : LJ (σ2.2.1 (y + 1)) k (Tr (σ2.2.1 (y + 1)) n r) d c x j = 1
        · refine ⟨τ', gg, fun p => ?_⟩
          show (if τ'.1 (z + 4) 2 ≤ nI j then _ else ((fX6_isEnemyNear N (G1 z) (z + 3) (nI c) τ').bind _)) = _
          rw [et, if_neg (cnt_lt h.wi.2.2.1.1 hj), c_enemy h gg.1 hc, b_some, if_pos e, if_neg (by decide), o, if_pos (show nI (clV 1) ≤ 1 by decide), nI_1, show LJ (σ2.2.1 (y + 1)) k (Tr (σ2.2.1 (y + 1)) n r) d c x (cN (σ2.2.1 (y + 1)) 2) = 1 from by
            have := LJ_one BT o (cN (σ2.2.1 (y + 1)) 2 - j)
            rw [show j + (cN (σ2.2.1 (y + 1)) 2 - j) = cN (σ2.2.1 (y + 1)) 2 by omega] at this
            exact this]
        · obtain ⟨α, a1, a2⟩ := c_with (N := N) (rc := rc) (c := c) (j := j) hN h hn hk hrc gg hd hj
          obtain ⟨υ, u1, u2⟩ := ih (j + 1) M' α (by omega) (by omega) a2
          refine ⟨υ, u1, fun p => ?_⟩
          refine Eq.trans ?_ (u2 p)
          show (if τ'.1 (z + 4) 2 ≤ nI j then _ else ((fX6_isEnemyNear N (G1 z) (z + 3) (nI c) τ').bind _)) = _
          have o1 : ¬ clV (LJ (σ2.2.1 (y + 1)) k (Tr (σ2.2.1 (y + 1)) n r) d c x j) ≤ 1 := by
            have b := BJ j
            unfold Bd at b
            unfold clV
            split <;> omega
          rw [et, if_neg (cnt_lt h.wi.2.2.1.1 hj), c_enemy h gg.1 hc, b_some, if_pos e, if_neg (by decide), if_neg (show ¬ nI (clV (LJ (σ2.2.1 (y + 1)) k (Tr (σ2.2.1 (y + 1)) n r) d c x j)) ≤ 1 from nI_ge (a := 1) (by omega) (by omega)), a1, b_some, LJ_s, if_pos e, ← cl_min (BJ j) (Bd_TB BT) (by omega), ← nI_1 j]
      · refine ⟨τ', gg, fun p => ?_⟩
        show (if τ'.1 (z + 4) 2 ≤ nI j then _ else ((fX6_isEnemyNear N (G1 z) (z + 3) (nI c) τ').bind _)) = _
        rw [et, if_neg (cnt_lt h.wi.2.2.1.1 hj), c_enemy h gg.1 hc, b_some, if_neg e, if_pos rfl, nI_1, LJ_no e, LJ_no e]
  obtain ⟨υ, u1, u2⟩ := H (cN (σ2.2.1 (y + 1)) 2) 0 N τ (by omega) (by omega) g
  exact ⟨_, ⟨υ, u1, rfl⟩, fun p => u2 p⟩
theorem c_from {N z y n : Nat} {σ1 σ2 : pS} (hN : 20000 < N) (h : Sim z y σ1 σ2) (hn : n ≤ 12) : ∀ r k d τ F, k + r = n → d < 100 → SG z (σ2.2.1 (y + 1)) n σ1 τ → r < F → ∃ υ, lp (fun (rc : Nat × Nat × Int32 × Int32 × pS → Option (Int32 × pS)) (b : Nat × Nat × Int32 × Int32 × pS) => fX6_fewestFrom_u N (G1 z) rc b.1 b.2.1 b.2.2.1 b.2.2.2.1 b.2.2.2.2) F (z + 120, z + 3, nI k, nI d, τ) = some (nI (clV (Tr (σ2.2.1 (y + 1)) n r d)), υ) ∧ SG z (σ2.2.1 (y + 1)) n σ1 υ := by
  have c1 := h.wi.c1
  intro r
  induction r with
  | zero =>
    intro k d τ F hk hd g hF
    obtain ⟨F', rfl⟩ : ∃ F', F = F' + 1 := ⟨F - 1, by omega⟩
    refine ⟨τ, ?_, g⟩
    show fX6_fewestFrom_u N (G1 z) _ (z + 120) (z + 3) (nI k) (nI d) τ = _
    unfold fX6_fewestFrom_u
    rw [g.2.1.2.1, if_pos (nI_le (by omega) (by omega))]
    rfl
  | succ r ih =>
    intro k d τ F hk hd g hF
    obtain ⟨F', rfl⟩ : ∃ F', F = F' + 1 := ⟨F - 1, by omega⟩
    have BT : ∀ d, Bd r (Tr (σ2.2.1 (y + 1)) n r d) := Bd_T r
    have hrc : rcOK z (σ2.2.1 (y + 1)) n σ1 k r (lp (fun (rc : Nat × Nat × Int32 × Int32 × pS → Option (Int32 × pS)) (b : Nat × Nat × Int32 × Int32 × pS) => fX6_fewestFrom_u N (G1 z) rc b.1 b.2.1 b.2.2.1 b.2.2.2.1 b.2.2.2.2) F') := fun d' τ' hd' g' => ih (k + 1) d' τ' F' (by omega) hd' g' (by omega)
    show ∃ υ, fX6_fewestFrom_u N (G1 z) (lp (fun (rc : Nat × Nat × Int32 × Int32 × pS → Option (Int32 × pS)) (b : Nat × Nat × Int32 × Int32 × pS) => fX6_fewestFrom_u N (G1 z) rc b.1 b.2.1 b.2.2.1 b.2.2.2.1 b.2.2.2.2) F') (z + 120) (z + 3) (nI k) (nI d) τ = _ ∧ _
    generalize lp (fun (rc : Nat × Nat × Int32 × Int32 × pS → Option (Int32 × pS)) (b : Nat × Nat × Int32 × Int32 × pS) => fX6_fewestFrom_u N (G1 z) rc b.1 b.2.1 b.2.2.1 b.2.2.2.1 b.2.2.2.2) F' = rc at hrc ⊢
    unfold fX6_fewestFrom_u
    simp only [g1r_120_1, g1n_125]
    rw [g.2.1.2.1, cell_eq, if_neg (nI_ge (by omega) (by omega)), if_neg (nI_pos (by omega)), if_pos (show nI (100 * k + d) < Int32.ofNat 1200 from nI_lt (b := 1200) (by omega) (by omega)), ck_nI (by omega) (by omega), gA_nI (by omega), ck_nI (by omega) (by omega)]
    have ek : n - k = r + 1 := by omega
    have ek2 : n - (r + 1) = k := by omega
    rcases g.2.2.1 k d (by omega) hd with e | e
    · rw [if_pos e]
      obtain ⟨α, a1, a2⟩ := c_latest (N := N) (rc := rc) hN h hn (by omega) (fun _ => hrc) g hd
      rw [a1, b_some]
      unfold fX6_oneMore
      rw [b_some, cl_more (Bd_mx BT _) (by omega)]
      suffices hh : ∃ q : Int32 × pS, (q.1 = nI (clV (Tr (σ2.2.1 (y + 1)) n (r + 1) d)) ∧ SG z (σ2.2.1 (y + 1)) n σ1 q.2) ∧ fX6_fewestFrom_b69 N (G1 z) rc (z + 120) (z + 3) (nI k) (nI d) (nI (100 * k + d)) (nI (clV (BDN (σ2.2.1 (y + 1)) k (Tr (σ2.2.1 (y + 1)) n r) d)), 0, α) = some q by
        obtain ⟨⟨q1, q2⟩, ⟨a, b⟩, c⟩ := hh
        have a' : q1 = _ := a
        subst a'
        exact ⟨q2, c, b⟩
      unfold fX6_fewestFrom_b69
      simp only [g1r_120_1, g1r_3_0, g1n_125]
      refine lp_forR (fun c b => ∃ τ', b = (nI (clV (LC (σ2.2.1 (y + 1)) k (Tr (σ2.2.1 (y + 1)) n r) d c)), nI c, τ') ∧ SG z (σ2.2.1 (y + 1)) n σ1 τ') _ (cN (σ2.2.1 (y + 1)) 1) (by omega) ?_ ?_ ⟨α, rfl, a2⟩
      · rintro c hc _ ⟨τ', rfl, gg⟩
        left
        have et : τ'.1 (z + 4) 4 = σ2.2.1 (y + 1) 1 := (h.keep gg.1 E2.r).tale.1.2.2.2.2.1
        obtain ⟨_, ⟨υ, u1, rfl⟩, u2⟩ := c_fj (N := N) (rc := rc) (x4 := nI (100 * k + d)) (c := c) hN h hn (by omega) (fun _ => hrc) gg hd hc (Bd_LC (w := σ2.2.1 (y + 1)) (k := k) (d := d) BT c)
        refine ⟨(nI (clV (LC (σ2.2.1 (y + 1)) k (Tr (σ2.2.1 (y + 1)) n r) d (c + 1))), nI (c + 1), υ), ⟨υ, rfl, u1⟩, fun p => ?_⟩
        dsimp only
        rw [et, if_neg (cnt_lt h.wi.2.1.1 hc), u2, LC_s]
      · rintro _ ⟨τ', rfl, gg⟩
        have et : τ'.1 (z + 4) 4 = σ2.2.1 (y + 1) 1 := (h.keep gg.1 E2.r).tale.1.2.2.2.2.1
        have eT : Tr (σ2.2.1 (y + 1)) n (r + 1) d = LC (σ2.2.1 (y + 1)) k (Tr (σ2.2.1 (y + 1)) n r) d (cN (σ2.2.1 (y + 1)) 1) := by
          show LC (σ2.2.1 (y + 1)) (n - (r + 1)) (Tr (σ2.2.1 (y + 1)) n r) d (cN (σ2.2.1 (y + 1)) 1) = _
          rw [ek2]
        have m := gg.m1 (k := k) (d := d) (by omega) hd
        rw [ek] at m
        refine ⟨(_, _), ⟨rfl, m⟩, fun p => ?_⟩
        dsimp only
        rw [et, if_pos (cnt_eN h.wi.2.1.1), ck_nI (by omega) (by omega), eT]
        rfl
    · rw [ek] at e
      rw [if_neg (by rw [e]; exact cl_m1 (Bd_T (r + 1) d) (by omega)), e]
      exact ⟨τ, rfl, g⟩
