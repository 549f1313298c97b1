/-! the reference's lines -/
/-- nothing changed but the stack of values -/
def VV (y : Nat) (σ τ : pS) : Prop := τ.1 = σ.1 ∧ τ.2.2 = σ.2.2 ∧ ∀ a, a ≠ y + 8 → τ.2.1 a = σ.2.1 a
theorem VV.r {y : Nat} {σ : pS} : VV y σ σ := ⟨rfl, rfl, fun _ _ => rfl⟩
theorem VV.t {y : Nat} {σ τ υ : pS} (h : VV y σ τ) (g : VV y τ υ) : VV y σ υ := ⟨g.1.trans h.1, g.2.1.trans h.2.1, fun a e => (g.2.2 a e).trans (h.2.2 a e)⟩
theorem VV.sa {y : Nat} {σ τ : pS} {i v : Int32} (h : VV y σ τ) : VV y σ (sA τ (y + 8) i v) := ⟨h.1, h.2.1, fun a e => (sA_o e).trans (h.2.2 a e)⟩
theorem VV.w {y : Nat} {σ τ : pS} (h : VV y σ τ) : τ.2.1 (y + 1) = σ.2.1 (y + 1) := h.2.2 _ (by omega)
theorem VV.e {y : Nat} {σ τ : pS} (h : VV y σ τ) : E2 y σ τ := ⟨fun k _ => by rw [h.1], fun j hj => h.2.2 _ (by omega)⟩
/-- what is looked at -/
def gR (y : Nat) (σ : pS) : Nat → Int32
  | 0 => σ.1 y 18
  | 1 => σ.1 y 19
  | 2 => σ.1 y 21
  | 3 => σ.1 y 22
  | 4 => σ.1 y 23
  | _ => σ.1 y 20
theorem gR_v {y : Nat} {σ τ : pS} (h : τ.1 = σ.1) : gR y τ = gR y σ := by
  funext j
  unfold gR
  rw [h]
theorem r_factOf {N y : Nat} {G : pG} {s n : Int32} {σ : pS} : fX12_factOf N G y s n σ = some (rF s n (gR y σ) (tT (σ.1 y 24))) := by
  unfold fX12_factOf rF
  by_cases h0 : s = 0
  · rw [if_pos h0, if_pos h0]
    rfl
  rw [if_neg h0, if_neg h0]
  by_cases h1 : s = 1
  · rw [if_pos h1, if_pos h1]
    rfl
  rw [if_neg h1, if_neg h1]
  by_cases h2 : s = 2
  · rw [if_pos h2, if_pos h2]
    rfl
  rw [if_neg h2, if_neg h2]
  by_cases h3 : s = 3
  · rw [if_pos h3, if_pos h3]
    rfl
  rw [if_neg h3, if_neg h3]
  by_cases h4 : s = 4
  · rw [if_pos h4, if_pos h4]
    rfl
  rw [if_neg h4, if_neg h4]
  by_cases h5 : s = 5
  · rw [if_pos h5, if_pos h5]
    rfl
  rw [if_neg h5, if_neg h5]
  by_cases h6 : s = 6
  · rw [if_pos h6, if_pos h6]
    unfold tT
    split <;> rfl
  rw [if_neg h6, if_neg h6]
  by_cases h7 : s = 7
  · rw [if_pos h7, if_pos h7]
    show (if σ.1 y 23 = 1 then _ else _) = some (if σ.1 y 23 = 1 then _ else _)
    split <;> rfl
  rw [if_neg h7, if_neg h7]
/-- the stack -/
def lst (v : Nat → Int32) : Nat → List Int32
  | 0 => []
  | n + 1 => v n :: lst v n
theorem lst_up {v : Nat → Int32} {k : Nat} {x : Int32} : ∀ n, n ≤ k → lst (va_up v k x) n = lst v n := by
  intro n
  induction n with
  | zero => intro _; rfl
  | succ n ih =>
    intro h
    show va_up v k x n :: lst (va_up v k x) n = v n :: lst v n
    rw [va_up_ne _ _ (by omega), ih (by omega)]
theorem lst_1 {v : Nat → Int32} {n : Nat} {a : Int32} {r : List Int32} (h : lst v n = a :: r) : ∃ m, n = m + 1 ∧ a = v m ∧ r = lst v m := by
  cases n with
  | zero => cases h
  | succ m =>
    have h' : v m :: lst v m = a :: r := h
    injection h' with h1 h2
    exact ⟨m, rfl, h1.symm, h2.symm⟩
theorem nI_p1 (k : Nat) : nI (k + 1) - 1 = nI k := nI_pred k
theorem r_hline {N y line i n : Nat} {σ : pS} {stF : List Int32} (hN : 20000 < N) (hl12 : line < 12) (hn : i + n ≤ 400) (hf : σ.2.1 (y + 1) (386 + 4 * line) = nI i) (ht : σ.2.1 (y + 1) (387 + 4 * line) = nI (i + n)) (hr : rH (σ.2.1 (y + 1)) (gR y σ) (tT (σ.1 y 24)) i n [] = some stF) (hs : stF = [] ∨ ∃ v, stF = [v]) : ∃ r, (∃ τ, VV y σ τ ∧ r = (if (stF = [] ∨ stF = [1]) then (1 : Int32) else 0, τ)) ∧ fX12_holdsLine N (G2 y) y (nI line) σ = some r := by
  unfold fX12_holdsLine fX12_holdsLine_b20
  simp only [g2r_0_1, g2r_0_2, g2r_0_3, g2r_0_4, g2r_0_5, g2r_0_8, g2r_0_15, g2r_0_17, g2r_0_25, g2r_0_26, g2r_0_27, g2r_0_28, g2n_1, g2n_2, g2n_3, g2n_4, g2n_5, g2n_6, g2n_7, g2n_8, g2n_9, g2n_10, g2n_11, g2n_12]
  rw [show (384 : Int32) + 4 * nI line = nI (384 + 4 * line) from ix2 384 4 line, show nI (384 + 4 * line) + 2 = nI (384 + 4 * line + 2) from nI_add _ 2, show nI (384 + 4 * line) + 3 = nI (384 + 4 * line + 3) from nI_add _ 3, ck_nI (by omega) (by omega), gA_nI (by omega), show 384 + 4 * line + 2 = 386 + 4 * line by omega, show 384 + 4 * line + 3 = 387 + 4 * line by omega, hf]
  refine lp_forR (fun k b => ∃ top τ, b = (nI top, nI (i + k), τ) ∧ VV y σ τ ∧ top ≤ k ∧ rH (σ.2.1 (y + 1)) (gR y σ) (tT (σ.1 y 24)) (i + k) (n - k) (lst (τ.2.1 (y + 8)) top) = some stF) _ n (by omega) ?_ ?_ ⟨0, σ, rfl, VV.r, Nat.le_refl _, hr⟩
  · rintro k hk b ⟨top, τ, rfl, hv, htop, hh⟩
    left
    obtain ⟨n', hn'⟩ : ∃ n', n - k = n' + 1 := ⟨n - k - 1, by omega⟩
    have hn2 : n - (k + 1) = n' := by omega
    rw [hn'] at hh
    have hh' : (rS (σ.2.1 (y + 1) (432 + 2 * (i + k))) (σ.2.1 (y + 1) (433 + 2 * (i + k))) (gR y σ) (tT (σ.1 y 24)) (lst (τ.2.1 (y + 8)) top)).bind (rH (σ.2.1 (y + 1)) (gR y σ) (tT (σ.1 y 24)) (i + k + 1) n') = some stF := hh
    have hw := hv.w
    have hf2 : ∀ s m, fX12_factOf N (G2 y) y s m τ = some (rF s m (gR y σ) (tT (σ.1 y 24))) := by
      intro s m
      rw [r_factOf, gR_v hv.1, hv.1]
    dsimp only
    rw [hn2, show i + (k + 1) = i + k + 1 by omega, show nI (i + k) + 1 = nI (i + k + 1) from nI_1 _, show (432 : Int32) + 2 * nI (i + k) = nI (432 + 2 * (i + k)) from ix2 432 2 (i + k), show nI (432 + 2 * (i + k)) + 1 = nI (432 + 2 * (i + k) + 1) from nI_1 _, gA_nI (σ := τ) (a := y + 1) (n := 387 + 4 * line) (by omega), gA_nI (σ := τ) (a := y + 1) (n := 432 + 2 * (i + k)) (by omega), gA_nI (σ := τ) (a := y + 1) (n := 432 + 2 * (i + k) + 1) (by omega), hw, ht, show 432 + 2 * (i + k) + 1 = 433 + 2 * (i + k) by omega]
    simp only [ck_nI (show 387 + 4 * line < 2081 by omega) (by omega), ck_nI (show 432 + 2 * (i + k) < 2081 by omega) (by omega), ck_nI (show 433 + 2 * (i + k) < 2081 by omega) (by omega), if_neg (show ¬ nI (i + n) ≤ nI (i + k) from nI_ge (by omega) (by omega)), hf2, b_some]
    generalize σ.2.1 (y + 1) (432 + 2 * (i + k)) = s at hh' ⊢
    generalize σ.2.1 (y + 1) (433 + 2 * (i + k)) = m at hh' ⊢
    unfold rS at hh'
    by_cases h8 : s ≤ 8
    · rw [if_pos h8, b_some] at hh'
      refine ⟨(nI (top + 1), nI (i + k + 1), sA τ (y + 8) (nI top) (rF s m (gR y σ) (tT (σ.1 y 24)))), ⟨top + 1, _, rfl, hv.sa, by omega, ?_⟩, fun q => ?_⟩
      · rw [sA_w (nI_clamp (by omega))]
        show rH _ _ _ _ _ (va_up _ top _ top :: lst (va_up _ top _) top) = _
        rw [va_up_self, lst_up top (Nat.le_refl _)]
        exact hh'
      · rw [if_neg (by rw [i_le] at h8; rw [i_lt]; omega), ck_nI (by omega) (by omega), nI_1]
    · rw [if_neg h8] at hh'
      by_cases h12 : s = 12
      · rw [if_pos h12] at hh'
        cases hst : lst (τ.2.1 (y + 8)) top with
        | nil =>
          rw [hst] at hh'
          cases hh'
        | cons a r =>
          rw [hst] at hh'
          obtain ⟨p, rfl, ha, hr'⟩ := lst_1 hst
          refine ⟨(nI (p + 1), nI (i + k + 1), sA τ (y + 8) (nI p) (1 - τ.2.1 (y + 8) p)), ⟨p + 1, _, rfl, hv.sa, by omega, ?_⟩, fun q => ?_⟩
          · rw [sA_w (nI_clamp (by omega))]
            show rH _ _ _ _ _ (va_up _ p _ p :: lst (va_up _ p _) p) = _
            rw [va_up_self, lst_up p (Nat.le_refl _), ← ha, ← hr']
            exact hh'
          · rw [if_pos (i_nle.mp h8), if_pos h12, nI_p1, ck_nI (by omega) (by omega), ck_nI (by omega) (by omega), gA_nI (by omega)]
      · rw [if_neg h12] at hh'
        cases hst : lst (τ.2.1 (y + 8)) top with
        | nil =>
          rw [hst] at hh'
          cases hh'
        | cons b r =>
          cases r with
          | nil =>
            rw [hst] at hh'
            cases hh'
          | cons a r =>
            rw [hst] at hh'
            obtain ⟨p', rfl, hb, hr'⟩ := lst_1 hst
            obtain ⟨p, rfl, ha, hr''⟩ := lst_1 hr'.symm
            refine ⟨(nI (p + 1), nI (i + k + 1), sA τ (y + 8) (nI p) (rB s (τ.2.1 (y + 8) p) (τ.2.1 (y + 8) (p + 1)))), ⟨p + 1, _, rfl, hv.sa, by omega, ?_⟩, fun q => ?_⟩
            · rw [sA_w (nI_clamp (by omega))]
              show rH _ _ _ _ _ (va_up _ p _ p :: lst (va_up _ p _) p) = _
              rw [va_up_self, lst_up p (Nat.le_refl _), ← ha, ← hb, ← hr'']
              exact hh'
            · rw [if_pos (i_nle.mp h8), if_neg h12, dn_s, nI_p1, ck_nI (by omega) (by omega), ck_nI (by omega) (by omega), gA_nI (by omega), gA_nI (by omega)]
              generalize τ.2.1 (y + 8) p = A
              generalize τ.2.1 (y + 8) (p + 1) = B
              have e18 : ∀ v, fX12_holdsLine_b218 N (G2 y) q y (nI (p + 1)) (nI (384 + 4 * line)) (nI (i + k)) s A B v τ = q (nI (p + 1), nI (i + k + 1), sA τ (y + 8) (nI p) (if s = 9 then A + B else if v = 0 then 0 else 1)) := by
                intro v
                unfold fX12_holdsLine_b218 fX12_holdsLine_b252
                simp only [g2r_0_1, g2r_0_2, g2r_0_3, g2r_0_4, g2r_0_5, g2r_0_8, g2r_0_15, g2r_0_17, g2r_0_25, g2r_0_26, g2r_0_27, g2r_0_28, g2n_1, g2n_2, g2n_3, g2n_4, g2n_5, g2n_6, g2n_7, g2n_8, g2n_9, g2n_10, g2n_11, g2n_12]
                rw [nI_p1, ck_nI (by omega) (by omega), ck_nI (by omega) (by omega), ck_nI (by omega) (by omega), nI_1]
                by_cases h9 : s = 9
                · rw [if_pos h9, if_pos h9]
                · rw [if_neg h9, if_neg h9]
                  split <;> rfl
              simp only [e18]
              unfold rB
              by_cases h9 : s = 9
              · simp only [if_pos h9]
                have n10 : ¬ s = 10 := by rw [h9]; decide
                have n11 : ¬ s = 11 := by rw [h9]; decide
                have n13 : ¬ s = 13 := by rw [h9]; decide
                rw [if_neg n10, if_neg n11, if_neg n13]
                split <;> rfl
              · simp only [if_neg h9]
                by_cases h10 : s = 10
                · rw [if_pos h10, if_pos h10]
                  by_cases l : A < B
                  · rw [if_pos l, if_neg (i_nle.mpr l), if_neg (by decide)]
                  · rw [if_neg l, if_pos (i_nlt.mp l), if_pos trivial]
                rw [if_neg h10, if_neg h10]
                by_cases h11 : s = 11
                · rw [if_pos h11, if_pos h11]
                  by_cases l : B < A
                  · rw [if_pos l, if_neg (i_nle.mpr l), if_neg (by decide)]
                  · rw [if_neg l, if_pos (i_nlt.mp l), if_pos trivial]
                rw [if_neg h11, if_neg h11]
                by_cases h13 : s = 13
                · rw [if_pos h13, if_pos h13]
                  by_cases l : A + B = 2
                  · rw [if_pos l, if_pos l, if_neg (by decide)]
                  · rw [if_neg l, if_neg l, if_pos trivial]
                rw [if_neg h13, if_neg h13]
                by_cases l : 0 < A + B
                · rw [if_pos l, if_neg (i_nle.mpr l), if_neg (by decide)]
                · rw [if_neg l, if_pos (i_nlt.mp l), if_pos trivial]
  · rintro b ⟨top, τ, rfl, hv, htop, hh⟩
    rw [Nat.sub_self] at hh
    have hst : lst (τ.2.1 (y + 8)) top = stF := Option.some.inj hh
    refine ⟨_, ⟨τ, hv, rfl⟩, fun q => ?_⟩
    dsimp only
    rw [ck_nI (show 387 + 4 * line < 2081 by omega) (by omega), gA_nI (by omega), hv.w, ht, if_pos lit_end]
    unfold fX12_holdsLine_b273
    cases top with
    | zero =>
      have hst0 : stF = [] := hst.symm
      rw [if_pos (show nI 0 = 0 from rfl), if_pos (Or.inl hst0)]
    | succ m =>
      rw [if_neg (nI_ne0 (by omega) (by omega))]
      have hst' : τ.2.1 (y + 8) m :: lst (τ.2.1 (y + 8)) m = stF := hst
      rcases hs with e | ⟨v, e⟩
      · rw [e] at hst'
        cases hst'
      · rw [e] at hst'
        injection hst' with a b
        have m0 : m = 0 := by
          cases m with
          | zero => rfl
          | succ m => cases b
        subst m0
        show (if τ.2.1 (y + 8) 0 = 1 then _ else _) = _
        rw [a, e]
        by_cases l : v = 1
        · rw [if_pos l, if_pos (Or.inr (by rw [l]))]
        · rw [if_neg l, if_neg (fun q => by
            rcases q with q | q
            · cases q
            · injection q with q1
              exact l q1)]
/-- a line of the reference -/
theorem r_line {N y line : Nat} {σ : pS} {E S : Nat → Int32} (hN : 20000 < N) (hl12 : line < 12) (h : LineR E S (σ.2.1 (y + 1)) line) : ∃ τ, VV y σ τ ∧ fX12_holdsLine N (G2 y) y (nI line) σ = some (if hl (σ.2.1 (y + 1)) (gR y σ) (tT (σ.1 y 24)) line = true then (1 : Int32) else 0, τ) := by
  obtain ⟨_, ⟨b1, b2, b3⟩, _, hh⟩ := h
  obtain ⟨st, h1, h2, _⟩ := hh (gR y σ) (tT (σ.1 y 24)) (tT01 _)
  obtain ⟨r, ⟨τ, hv, rfl⟩, h3⟩ := r_hline (N := N) (y := y) (line := line) (σ := σ) (i := (σ.2.1 (y + 1) (386 + 4 * line)).toInt.toNat) (n := (σ.2.1 (y + 1) (387 + 4 * line)).toInt.toNat - (σ.2.1 (y + 1) (386 + 4 * line)).toInt.toNat) hN hl12 (by omega) (nI_cN b1) (by
    rw [show (σ.2.1 (y + 1) (386 + 4 * line)).toInt.toNat + ((σ.2.1 (y + 1) (387 + 4 * line)).toInt.toNat - (σ.2.1 (y + 1) (386 + 4 * line)).toInt.toNat) = (σ.2.1 (y + 1) (387 + 4 * line)).toInt.toNat by omega]
    exact nI_cN (by omega)) h1 h2
  refine ⟨τ, hv, ?_⟩
  rw [h3]
  unfold hl
  rw [h1]
  by_cases e : st = [] ∨ st = [1]
  · rw [if_pos e, if_pos (decide_eq_true e)]
  · rw [if_neg e, if_neg (by simpa using e)]
/-- the reference's sum of a kind -/
def smK (w g : Nat → Int32) (t kd : Int32) : Nat → Int32 := itN (fun i x => if w (384 + 4 * i) = kd ∧ hl w g t i = true then x + w (385 + 4 * i) else x) 0
theorem r_sumOf {N y : Nat} {σ : pS} {kd : Int32} {f K A E S : Nat → Int32} (hN : 20000 < N) (h : LawR f K A E S (σ.2.1 (y + 1))) : ∃ τ, VV y σ τ ∧ fX12_sumOf N (G2 y) y kd σ = some (smK (σ.2.1 (y + 1)) (gR y σ) (tT (σ.1 y 24)) kd (nL (σ.2.1 (y + 1))), τ) := by
  unfold fX12_sumOf fX12_sumOf_b4
  simp only [g2r_0_1, g2r_0_2, g2r_0_3, g2r_0_4, g2r_0_5, g2r_0_8, g2r_0_15, g2r_0_17, g2r_0_25, g2r_0_26, g2r_0_27, g2r_0_28, g2n_1, g2n_2, g2n_3, g2n_4, g2n_5, g2n_6, g2n_7, g2n_8, g2n_9, g2n_10, g2n_11, g2n_12]
  by_cases h6 : σ.2.1 (y + 1) 6 = 1
  · obtain ⟨hb, hl'⟩ := h.2 h6
    have en : nL (σ.2.1 (y + 1)) = cN (σ.2.1 (y + 1)) 383 := if_pos h6
    have c12 : cN (σ.2.1 (y + 1)) 383 ≤ 12 := by unfold cN; omega
    rw [en]
    suffices hh : ∃ r, (∃ τ, VV y σ τ ∧ r = (smK (σ.2.1 (y + 1)) (gR y σ) (tT (σ.1 y 24)) kd (cN (σ.2.1 (y + 1)) 383), τ)) ∧ lp (fun (k4 : Int32 × Int32 × pS → Option (Int32 × pS)) (b : Int32 × Int32 × pS) => ck (inB (6 : Int32) 2081) (if (gA b.2.2 (y + 1) (6 : Int32)) = (1 : Int32) then (ck (inB (383 : Int32) 2081) (if (gA b.2.2 (y + 1) (383 : Int32)) ≤ b.2.1 then (some (b.1, b.2.2)) else (ck (inB ((384 : Int32) + ((4 : Int32) * b.2.1)) 2081) (if (gA b.2.2 (y + 1) ((384 : Int32) + ((4 : Int32) * b.2.1))) = kd then ((fX12_holdsLine N (G2 y) y b.2.1 b.2.2).bind (fun q1 => if q1.1 = 0 then (k4 (b.1, b.2.1 + (1 : Int32), q1.2)) else (ck (inB (((384 : Int32) + ((4 : Int32) * b.2.1)) + (1 : Int32)) 2081) (k4 (b.1 + (gA q1.2 (y + 1) (((384 : Int32) + ((4 : Int32) * b.2.1)) + (1 : Int32))), b.2.1 + (1 : Int32), q1.2))))) else (k4 (b.1, b.2.1 + (1 : Int32), b.2.2)))))) else (some (b.1, b.2.2)))) N (0, 0, σ) = some r by
      obtain ⟨r, ⟨τ, h1, rfl⟩, h2⟩ := hh
      exact ⟨τ, h1, h2⟩
    refine lp_forR (fun k b => ∃ τ, b = (smK (σ.2.1 (y + 1)) (gR y σ) (tT (σ.1 y 24)) kd k, nI k, τ) ∧ VV y σ τ) _ (cN (σ.2.1 (y + 1)) 383) (by omega) ?_ ?_ ⟨σ, rfl, VV.r⟩
    · rintro k hk b ⟨τ, rfl, hv⟩
      left
      have k5 := (hl' k hk).2.2.2.2
      have hw := hv.w
      dsimp only
      rw [show (384 : Int32) + 4 * nI k = nI (384 + 4 * k) from ix2 384 4 k, show nI (384 + 4 * k) + 1 = nI (384 + 4 * k + 1) from nI_1 _, nI_1, gA_nI (σ := τ) (n := 384 + 4 * k) (by omega), show gA τ (y + 1) 6 = σ.2.1 (y + 1) 6 from congrFun hw 6, show gA τ (y + 1) 383 = σ.2.1 (y + 1) 383 from congrFun hw 383, hw]
      simp only [if_pos h6, if_neg (cnt_lt (x := σ.2.1 (y + 1) 383) hb.1 hk), ck_nI (show 384 + 4 * k < 2081 by omega) (by omega), ck_nI (show 384 + 4 * k + 1 < 2081 by omega) (by omega), show ∀ x : Option (Int32 × pS), ck (inB 6 2081) x = x from fun x => rfl, show ∀ x : Option (Int32 × pS), ck (inB 383 2081) x = x from fun x => rfl]
      have es : smK (σ.2.1 (y + 1)) (gR y σ) (tT (σ.1 y 24)) kd (k + 1) = if σ.2.1 (y + 1) (384 + 4 * k) = kd ∧ hl (σ.2.1 (y + 1)) (gR y σ) (tT (σ.1 y 24)) k = true then smK (σ.2.1 (y + 1)) (gR y σ) (tT (σ.1 y 24)) kd k + σ.2.1 (y + 1) (385 + 4 * k) else smK (σ.2.1 (y + 1)) (gR y σ) (tT (σ.1 y 24)) kd k := rfl
      by_cases a : σ.2.1 (y + 1) (384 + 4 * k) = kd
      · obtain ⟨υ, hu, h1⟩ := r_line (N := N) (y := y) (line := k) (σ := τ) (E := E) (S := S) hN (by omega) (by rw [hw]; exact k5)
        rw [hw, gR_v hv.1, hv.1] at h1
        have hvu := hv.t hu
        refine ⟨(smK (σ.2.1 (y + 1)) (gR y σ) (tT (σ.1 y 24)) kd (k + 1), nI (k + 1), υ), ⟨υ, rfl, hvu⟩, fun q => ?_⟩
        rw [if_pos a, h1, b_some]
        dsimp only
        rw [ite01, es]
        by_cases b : hl (σ.2.1 (y + 1)) (gR y σ) (tT (σ.1 y 24)) k = true
        · rw [if_pos b, if_pos ⟨a, b⟩, gA_nI (by omega), hvu.w, show 384 + 4 * k + 1 = 385 + 4 * k by omega]
        · rw [if_neg b, if_neg (fun q => b q.2)]
      · refine ⟨(smK (σ.2.1 (y + 1)) (gR y σ) (tT (σ.1 y 24)) kd (k + 1), nI (k + 1), τ), ⟨τ, rfl, hv⟩, fun q => ?_⟩
        rw [if_neg a, es, if_neg (fun q => a q.1)]
    · rintro b ⟨τ, rfl, hv⟩
      refine ⟨_, ⟨τ, hv, rfl⟩, fun q => ?_⟩
      dsimp only
      rw [show gA τ (y + 1) 6 = σ.2.1 (y + 1) 6 from congrFun hv.w 6, if_pos h6, show gA τ (y + 1) 383 = σ.2.1 (y + 1) 383 from congrFun hv.w 383, if_pos (cnt_eN hb.1)]
      rfl
  · refine ⟨σ, VV.r, ?_⟩
    rw [show nL (σ.2.1 (y + 1)) = 0 from if_neg h6]
    refine lp_one (by omega) (fun q => ?_)
    show (if σ.2.1 (y + 1) 6 = 1 then _ else _) = _
    rw [if_neg h6]
    rfl
/-! the two sums are the same -/
theorem add_sub3 {a b c : Int32} : a + b - c = a + (b - c) := by
  rw [Int32.sub_eq_add_neg, Int32.sub_eq_add_neg, Int32.add_assoc]
theorem sm_words {f K A E S w g : Nat → Int32} {t : Int32} (h : LawR f K A E S w) (h6 : w 6 = 1) : ∀ n, n ≤ cN w 383 → smC K A w g t 0 n = smK w g t 0 n - smK w g t 1 n := by
  intro n
  induction n with
  | zero =>
    intro _
    show (0 : Int32) = 0 - 0
    decide
  | succ n ih =>
    intro hn
    have e := ih (by omega)
    obtain ⟨k1, k2, k3, k4, k5⟩ := (h.2 h6).2 n (by omega)
    have e1 : smC K A w g t 0 (n + 1) = if K n = 0 ∧ hl w g t n = true then smC K A w g t 0 n + A n else smC K A w g t 0 n := rfl
    have e2 : smK w g t 0 (n + 1) = if w (384 + 4 * n) = 0 ∧ hl w g t n = true then smK w g t 0 n + w (385 + 4 * n) else smK w g t 0 n := rfl
    have e3 : smK w g t 1 (n + 1) = if w (384 + 4 * n) = 1 ∧ hl w g t n = true then smK w g t 1 n + w (385 + 4 * n) else smK w g t 1 n := rfl
    rw [e1, e2, e3, e, k3, k4]
    by_cases b : hl w g t n = true
    · rcases k1 with q | q | q
      · rw [q, if_neg (show ¬ (0 : Int32) = 2 by decide), if_neg (show ¬ (0 : Int32) = 1 by decide), if_pos ⟨rfl, b⟩, if_pos ⟨rfl, b⟩, if_neg (fun q => absurd q.1 (by decide))]
        rw [Int32.sub_eq_add_neg, Int32.sub_eq_add_neg, Int32.add_assoc, Int32.add_comm (-_), ← Int32.add_assoc]
      · rw [q, if_neg (show ¬ (1 : Int32) = 2 by decide), if_pos rfl, if_pos ⟨rfl, b⟩, if_neg (fun q => absurd q.1 (by decide)), if_pos ⟨rfl, b⟩]
        rw [Int32.sub_eq_add_neg, Int32.sub_eq_add_neg, Int32.sub_eq_add_neg, Int32.zero_add, Int32.add_assoc, Int32.neg_add, Int32.sub_eq_add_neg]
      · rw [q, if_pos rfl, if_neg (fun q => absurd q.1 (by decide)), if_neg (fun q => absurd q.1 (by decide)), if_neg (fun q => absurd q.1 (by decide))]
    · rw [if_neg (fun q => b q.2), if_neg (fun q => b q.2), if_neg (fun q => b q.2)]
theorem sm_deeds {f K A E S w g : Nat → Int32} {t : Int32} (h : LawR f K A E S w) (h6 : w 6 = 1) : ∀ n, n ≤ cN w 383 → smC K A w g t 1 n = smK w g t 2 n := by
  intro n
  induction n with
  | zero => intro _; rfl
  | succ n ih =>
    intro hn
    have e := ih (by omega)
    obtain ⟨k1, k2, k3, k4, k5⟩ := (h.2 h6).2 n (by omega)
    have e1 : smC K A w g t 1 (n + 1) = if K n = 1 ∧ hl w g t n = true then smC K A w g t 1 n + A n else smC K A w g t 1 n := rfl
    have e2 : smK w g t 2 (n + 1) = if w (384 + 4 * n) = 2 ∧ hl w g t n = true then smK w g t 2 n + w (385 + 4 * n) else smK w g t 2 n := rfl
    rw [e1, e2, e, k3, k4]
    by_cases b : hl w g t n = true
    · rcases k1 with q | q | q
      · rw [q, if_neg (show ¬ (0 : Int32) = 2 by decide), if_neg (fun q => absurd q.1 (by decide)), if_neg (fun q => absurd q.1 (by decide))]
      · rw [q, if_neg (show ¬ (1 : Int32) = 2 by decide), if_neg (fun q => absurd q.1 (by decide)), if_neg (fun q => absurd q.1 (by decide))]
      · rw [q, if_pos rfl, if_neg (show ¬ (2 : Int32) = 1 by decide), if_pos ⟨rfl, b⟩, if_pos ⟨rfl, b⟩]
    · rw [if_neg (fun q => b q.2), if_neg (fun q => b q.2)]
