/-! a word is said -/
def pbV (w : Nat → Int32) (s : Int32) (word : Nat) : Int32 := if w (56 + 2 * word) < 0 then s else nar w s (w (56 + 2 * word)).toInt.toNat
theorem pbV_sub {w : Nat → Int32} (h : WInv w) {s : Int32} {word : Nat} (hs : ∀ i, bit s i = true → i < cN w 0) : ∀ i, bit (pbV w s word) i = true → i < cN w 0 := by
  unfold pbV
  split
  · exact hs
  · exact nar_sub h
theorem r_possibleBehind {N y word : Nat} {s : Int32} {σ : pS} (hN : 20000 < N) (hw : WInv (σ.2.1 (y + 1))) (hwd : word < cN (σ.2.1 (y + 1)) 2) : fX12_possibleBehind N (G2 y) y s (nI word) σ = some (pbV (σ.2.1 (y + 1)) s word) := by
  have c2 := hw.c2
  have wo := (hw.wo word hwd).2
  unfold fX12_possibleBehind pbV
  rw [r_ofWord1 (by omega), b_some]
  by_cases t : σ.2.1 (y + 1) (56 + 2 * word) < 0
  · rw [if_pos t, if_neg (i_nle.mpr t)]
  · have t0 : 0 ≤ (σ.2.1 (y + 1) (56 + 2 * word)).toInt := by
      rw [i_lt, show (0 : Int32).toInt = 0 from rfl] at t
      omega
    rw [if_neg t, if_pos (i_nlt.mp t)]
    have e : fX12_staysOf N (G2 y) y s (σ.2.1 (y + 1) (56 + 2 * word)) σ = some (nar (σ.2.1 (y + 1)) s (σ.2.1 (y + 1) (56 + 2 * word)).toInt.toNat) := by
      have := r_staysOf (N := N) (y := y) (σ := σ) (s := s) (t := (σ.2.1 (y + 1) (56 + 2 * word)).toInt.toNat) hN hw (by omega)
      rw [← nI_cN t0] at this
      exact this
    rw [e]
    rfl
theorem c_narW {N z word : Nat} {p : Int32} {σ : pS} {w : Nat → Int32} (hw : WInv w) (h : TalC σ z w) (hwd : word < cN w 2) (hp : ∀ i, bit p i = true → i < cN w 0) : fX8_narrowed N (G1 z) (z + 4) p (bea w) (w (56 + 2 * word)) σ = some (pbV w p word) := by
  have wo := (hw.wo word hwd).2
  unfold pbV
  by_cases t : w (56 + 2 * word) < 0
  · rw [if_pos t, c_narrowed_m1 t]
  · have t0 : 0 ≤ (w (56 + 2 * word)).toInt := by
      rw [i_lt, show (0 : Int32).toInt = 0 from rfl] at t
      omega
    have := c_narrowed (N := N) (z := z) (t := (w (56 + 2 * word)).toInt.toNat) hw h (by omega) hp
    rw [← nI_cN t0] at this
    rw [if_neg t, this]
/-- the log gets a row -/
theorem c_add {N z m : Nat} {σ : pS} {a2 a3 : Int32} (ha : MA z m) : ∃ τ, fX2_add N (G1 z) (m + 2) m a2 a3 σ = some τ ∧ (∀ a k, a ≠ m + 2 → τ.1 a k = σ.1 a k) ∧ (∀ a, a ≠ m + 3 → τ.2.1 a = σ.2.1 a) ∧ ∀ n L, n < 60 → L ≤ 60 → σ.1 (m + 2) 1 = nI n → σ.1 (m + 2) 0 = nI L → τ.1 (m + 2) 1 = nI ((n + 1) % 60) ∧ τ.1 (m + 2) 0 = nI (min 60 (L + 1)) ∧ τ.2.1 (m + 3) = va_up (σ.2.1 (m + 3)) ((n + 1) % 60) (pk5 (σ.1 m 1) a2 a3 (σ.1 m 0) (bc (σ.1 m 3))) := by
  have e1 : fX2_add N (G1 z) (m + 2) m a2 a3 σ = fX2_add_b22 N (G1 z) (m + 2) m a2 a3 (if (60 : Int32) ≤ σ.1 (m + 2) 1 + 1 then 0 else σ.1 (m + 2) 1 + 1) σ := by
    unfold fX2_add
    split <;> rfl
  generalize hv : (if (60 : Int32) ≤ σ.1 (m + 2) 1 + 1 then 0 else σ.1 (m + 2) 1 + 1) = v at e1
  have e2 : fX2_add_b22 N (G1 z) (m + 2) m a2 a3 v σ = fX2_add_b46 N (G1 z) (m + 2) m a2 a3 (if (60 : Int32) ≤ σ.1 (m + 2) 0 then 60 else σ.1 (m + 2) 0 + 1) (putF σ (m + 2) 1 v) := by
    unfold fX2_add_b22
    rw [pf0n (by decide)]
    split <;> rfl
  generalize hs : (if (60 : Int32) ≤ σ.1 (m + 2) 0 then 60 else σ.1 (m + 2) 0 + 1) = s at e2
  have fr : ∀ a k, a ≠ m + 2 → (putF (putF σ (m + 2) 1 v) (m + 2) 0 s).1 a k = σ.1 a k := fun a k h => by rw [pf_o h, pf_o h]
  have e3 : fX2_add_b46 N (G1 z) (m + 2) m a2 a3 s (putF σ (m + 2) 1 v) = if v < 0 then some (putF (putF σ (m + 2) 1 v) (m + 2) 0 s) else if (60 : Int32) ≤ v then some (putF (putF σ (m + 2) 1 v) (m + 2) 0 s) else ck (inB v 60) (some (sA (putF (putF σ (m + 2) 1 v) (m + 2) 0 s) (m + 3) v (pk5 (σ.1 m 1) a2 a3 (σ.1 m 0) (bc (σ.1 m 3))))) := by
    unfold fX2_add_b46
    rw [fr m 1 (by omega), fr m 0 (by omega), fr m 3 (by omega), pf0n (by decide), pf0, bc_fn, b_some, ha.2.2.1, ha.2.2.2.2]
    rfl
  rw [e1, e2, e3]
  by_cases q0 : v < 0
  · refine ⟨_, if_pos q0, fr, fun a _ => rfl, fun n L hn hL h1 h0 => ?_⟩
    exfalso
    rw [h1, nI_1] at hv
    rw [← hv] at q0
    split at q0
    · exact absurd q0 (by decide)
    · exact nI_pos (by omega) q0
  by_cases q1 : (60 : Int32) ≤ v
  · refine ⟨_, (if_neg q0).trans (if_pos q1), fr, fun a _ => rfl, fun n L hn hL h1 h0 => ?_⟩
    exfalso
    rw [h1, nI_1] at hv
    rw [← hv] at q1
    split at q1
    · exact absurd q1 (by decide)
    · rename_i hh
      exact hh q1
  · have ib : inB v 60 = true := by
      have z0 : (0 : Int32).toInt = 0 := rfl
      have z6 : (60 : Int32).toInt = 60 := rfl
      rw [i_lt] at q0
      rw [i_le] at q1
      exact inB_i (by omega) (by omega)
    refine ⟨sA (putF (putF σ (m + 2) 1 v) (m + 2) 0 s) (m + 3) v (pk5 (σ.1 m 1) a2 a3 (σ.1 m 0) (bc (σ.1 m 3))), (if_neg q0).trans ((if_neg q1).trans (by rw [ib, ck_t])), fun a k h => fr a k h, fun a h => (sA_o h).trans rfl, fun n L hn hL h1 h0 => ?_⟩
    have ev : v = nI ((n + 1) % 60) := by
      rw [← hv, h1, nI_1]
      by_cases e : n = 59
      · rw [if_pos (show (60 : Int32) ≤ nI (n + 1) from by rw [e]; exact lit_end), e]
        rfl
      · rw [if_neg (show ¬ (60 : Int32) ≤ nI (n + 1) from lit_lt (m := 60) (by omega) (by decide)), Nat.mod_eq_of_lt (by omega)]
    have es : s = nI (min 60 (L + 1)) := by
      rw [← hs, h0]
      by_cases e : L = 60
      · rw [if_pos (show (60 : Int32) ≤ nI L from by rw [e]; exact lit_end), e]
        rfl
      · rw [if_neg (show ¬ (60 : Int32) ≤ nI L from lit_lt (m := 60) (by omega) (by decide)), nI_1, show min 60 (L + 1) = L + 1 by omega]
    have hm : (n + 1) % 60 < 60 := Nat.mod_lt _ (by omega)
    refine ⟨?_, ?_, ?_⟩
    · show (putF (putF σ (m + 2) 1 v) (m + 2) 0 s).1 (m + 2) 1 = _
      rw [pf0n (by decide), pf0, ev]
    · show (putF (putF σ (m + 2) 1 v) (m + 2) 0 s).1 (m + 2) 0 = _
      rw [pf0, es]
    · rw [ev, sA_w (n := (n + 1) % 60) (nI_clamp (by omega))]
      rfl
theorem gA_row {σ : pS} {a : Nat} {f : Nat → Int32} {i : Int32} : gA (rowA σ a f) a i = f i.toNatClampNeg := congrFun row_s _
/-- the reference tells it -/
def telW (w : Nat → Int32) (a b : Int32) : Nat → Int32 := fun k => if k = 15 then jmin 60 (w 15 + 1) else if k = 87 then bc (w 12) else if k = 86 then w 7 else if k = 85 then b else if k = 84 then a else if k = 83 then w 9 else if 88 ≤ k ∧ k < 383 then w (k - 5) else w k
theorem r_tells {N y : Nat} {σ : pS} {a b : Int32} (hN : 20000 < N) : fX12_tells N (G2 y) y a b σ = some (rowA σ (y + 1) (telW (σ.2.1 (y + 1)) a b)) := by
  unfold fX12_tells fX12_tells_b4
  simp only [g2r_0_1, g2r_0_2, g2r_0_3, g2r_0_4, g2r_0_5, g2r_0_8, g2r_0_15, g2r_0_17, g2r_0_25, g2r_0_26, g2r_0_27, g2r_0_28, g2n_1, g2n_2, g2n_3, g2n_4, g2n_5, g2n_6, g2n_7, g2n_8, g2n_9, g2n_10, g2n_11, g2n_12]
  have h0 : ((299 : Int32), σ) = (nI (300 - 0) + (-1), rowA σ (y + 1) (fun c => if 383 - 0 ≤ c ∧ c < 383 then σ.2.1 (y + 1) (c - 5) else σ.2.1 (y + 1) c)) := by
    rw [show (fun c => if 383 - 0 ≤ c ∧ c < 383 then σ.2.1 (y + 1) (c - 5) else σ.2.1 (y + 1) c) = σ.2.1 (y + 1) from funext fun i => if_neg (by omega), rowA_self]
    rfl
  rw [h0]
  refine lp_for (fun t => (nI (300 - t) + (-1), rowA σ (y + 1) (fun c => if 383 - t ≤ c ∧ c < 383 then σ.2.1 (y + 1) (c - 5) else σ.2.1 (y + 1) c))) 295 _ (by omega) ?_ ?_
  · intro t ht q
    obtain ⟨k, hk⟩ : ∃ k, 300 - t = k + 1 := ⟨299 - t, by omega⟩
    dsimp only
    rw [hk, dn_s, show 300 - (t + 1) = k by omega, if_neg (show ¬ nI k < 5 from nI_nlt (b := 5) (by omega) (by omega)), show (83 : Int32) + nI k = nI (83 + k) from nI_add 83 k, show nI (83 + k) - 5 = nI (78 + k) from by
      rw [show (5 : Int32) = nI 5 from rfl, show nI (83 + k) = nI (78 + k) + nI 5 from by rw [nI_add]; congr 1; omega, Int32.add_sub_cancel], ck_nI (by omega) (by omega), ck_nI (by omega) (by omega), gA_nI (by omega), row_s, sA_rowA (nI_clamp (by omega)), if_neg (show ¬ (383 - t ≤ 78 + k ∧ 78 + k < 383) by omega)]
    congr 3
    funext c
    by_cases e : c = 83 + k
    · rw [if_pos e, if_pos (by omega), e, show 83 + k - 5 = 78 + k by omega]
    · rw [if_neg e]
      by_cases g : 383 - t ≤ c ∧ c < 383
      · rw [if_pos g, if_pos (by omega)]
      · rw [if_neg g, if_neg (by omega)]
  · intro q
    dsimp only
    rw [show nI (300 - 295) + (-1) = nI 4 from dn_s 4, if_pos (show nI 4 < 5 from nI_lt (b := 5) (by omega) (by omega)), r_howMany]
    simp only [gA_row, sA_rowA (n := 83) (i := 83) rfl, sA_rowA (n := 84) (i := 84) rfl, sA_rowA (n := 85) (i := 85) rfl, sA_rowA (n := 86) (i := 86) rfl, sA_rowA (n := 87) (i := 87) rfl, sA_rowA (n := 15) (i := 15) rfl, b_some, row_s]
    show some (rowA σ (y + 1) _) = some (rowA σ (y + 1) _)
    exact congrArg (fun f => some (rowA σ (y + 1) f)) (funext fun j => rfl)
