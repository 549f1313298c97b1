/-! the law's lines, class and reference -/
theorem i_nlt {a b : Int32} : ¬ a < b ↔ b ≤ a := by
  rw [i_lt, i_le]
  omega
theorem i_nle {a b : Int32} : ¬ a ≤ b ↔ b < a := by
  rw [i_lt, i_le]
  omega
theorem cH_s {S g : Nat → Int32} {t : Int32} : ∀ (n i : Nat) (x : Int32 × Int32 × Int32), cH S g t i (n + 1) x = cS (S (i + n)) g t (cH S g t i n x) := by
  intro n
  induction n with
  | zero => intro i x; rfl
  | succ n ih =>
    intro i x
    show cH S g t (i + 1) (n + 1) (cS (S i) g t x) = cS (S (i + (n + 1))) g t (cH S g t (i + 1) n (cS (S i) g t x))
    rw [ih (i + 1), show i + 1 + n = i + (n + 1) by omega]
/-- is it true -/
def tT (x : Int32) : Int32 := if x = 0 then 0 else 1
theorem tT01 (x : Int32) : tT x = 0 ∨ tT x = 1 := by
  unfold tT
  split
  · exact Or.inl rfl
  · exact Or.inr rfl
theorem sh1 {x : Int32} : x <<< ((1 : Int32) &&& 31) = x <<< 1 := rfl
theorem sr1 {x : Int32} : x >>> ((1 : Int32) &&& 31) = x >>> 1 := rfl
theorem c_step {N z : Nat} {σ : pS} {a2 : Int32} {q : Int32 × Int32 × Int32 × Int32 → Option Int32} {j : Nat} {x : Int32 × Int32 × Int32} (hj : j < 400) (ha : ¬ a2 ≤ nI j) : (if nI j < 0 then (fX0_holds_b284 N (G1 z) x.1 σ) else (if a2 ≤ nI j then (fX0_holds_b284 N (G1 z) x.1 σ) else (if (400 : Int32) ≤ nI j then (fX0_holds_b284 N (G1 z) x.1 σ) else (ck (inB (nI j) (pN (G1 z) (z + 18))) (if (1000 : Int32) ≤ (gA σ (z + 18) (nI j)) then (if (1006 : Int32) ≤ (gA σ (z + 18) (nI j)) then (if (gA σ (z + 18) (nI j)) = (1006 : Int32) then (q (x.1, x.2.2, (0 : Int32), nI j + (1 : Int32))) else (if (gA σ (z + 18) (nI j)) = (1007 : Int32) then (fX0_holds_b118 N (G1 z) q (z + 14) a2 x.1 x.2.1 x.2.2 (nI j) (gA σ (z + 18) (nI j)) σ) else (if (gA σ (z + 18) (nI j)) = (1008 : Int32) then (fX0_holds_b118 N (G1 z) q (z + 14) a2 x.1 x.2.1 x.2.2 (nI j) (gA σ (z + 18) (nI j)) σ) else (if (gA σ (z + 18) (nI j)) = (1009 : Int32) then (if (σ.1 (z + 14) 7) = 0 then (fX0_holds_b199 N (G1 z) q (z + 14) a2 x.2.1 x.2.2 (nI j) (x.1 <<< ((1 : Int32) &&& 31)) (0 : Int32) σ) else (fX0_holds_b199 N (G1 z) q (z + 14) a2 x.2.1 x.2.2 (nI j) (x.1 <<< ((1 : Int32) &&& 31)) (1 : Int32) σ)) else (if (gA σ (z + 18) (nI j)) = (1010 : Int32) then (ck (inB (4 : Int32) (pN (G1 z) (z + 19))) (if (gA σ (z + 19) (4 : Int32)) = (1 : Int32) then (fX0_holds_b230 N (G1 z) q (z + 14) a2 x.2.1 x.2.2 (nI j) (x.1 <<< ((1 : Int32) &&& 31)) (1 : Int32) σ) else (fX0_holds_b230 N (G1 z) q (z + 14) a2 x.2.1 x.2.2 (nI j) (x.1 <<< ((1 : Int32) &&& 31)) (0 : Int32) σ))) else (if (gA σ (z + 18) (nI j)) = (1011 : Int32) then (q (x.1 ^^^ (1 : Int32), x.2.1, x.2.2, nI j + (1 : Int32))) else (if (gA σ (z + 18) (nI j)) = (1012 : Int32) then (q ((x.1 >>> ((1 : Int32) &&& 31)) &&& (x.1 ||| (-2 : Int32)), x.2.1, x.2.2, nI j + (1 : Int32))) else (q ((x.1 >>> ((1 : Int32) &&& 31)) ||| (x.1 &&& (1 : Int32)), x.2.1, x.2.2, nI j + (1 : Int32)))))))))) else (ck (inB ((gA σ (z + 18) (nI j)) - (1000 : Int32)) (pN (G1 z) (z + 19))) (q (x.1, x.2.1, x.2.2 + (gA σ (z + 19) ((gA σ (z + 18) (nI j)) - (1000 : Int32))), nI j + (1 : Int32))))) else (q (x.1, x.2.1, x.2.2 + (gA σ (z + 18) (nI j)), nI j + (1 : Int32)))))))) = q ((cS (σ.2.1 (z + 18) j) (σ.2.1 (z + 19)) (tT (σ.1 (z + 14) 7)) x).1, (cS (σ.2.1 (z + 18) j) (σ.2.1 (z + 19)) (tT (σ.1 (z + 14) 7)) x).2.1, (cS (σ.2.1 (z + 18) j) (σ.2.1 (z + 19)) (tT (σ.1 (z + 14) 7)) x).2.2, nI (j + 1)) := by
  rw [if_neg (nI_pos (by omega)), if_neg ha, if_neg (show ¬ (400 : Int32) ≤ nI j from lit_lt (m := 400) hj (by decide)), g1n_18, g1n_19, ck_nI hj (by omega), gA_nI (by omega), nI_1]
  generalize σ.2.1 (z + 18) j = s
  unfold cS
  by_cases h1 : s < 1000
  · rw [if_neg (by rw [i_lt] at h1; rw [i_le]; omega), if_pos h1]
  · rw [if_pos (i_nlt.mp h1), if_neg h1]
    by_cases h2 : s < 1006
    · rw [if_neg (by rw [i_lt] at h2; rw [i_le]; omega), if_pos h2]
      have e1 : (1000 : Int32).toInt = 1000 := rfl
      have e2 : (1006 : Int32).toInt = 1006 := rfl
      rw [i_lt, e1] at h1
      rw [i_lt, e2] at h2
      have e3 : (s - 1000).toInt = s.toInt - 1000 := by
        rw [i_sub (by omega) (by omega), e1]
      have e4 : inB (s - 1000) 6 = true := inB_i (by omega) (by omega)
      rw [e4, ck_t, ga]
    · rw [if_pos (i_nlt.mp h2), if_neg h2]
      by_cases h3 : s = 1006
      · rw [if_pos h3, if_pos h3]
      rw [if_neg h3, if_neg h3]
      by_cases h4 : s = 1007
      · rw [if_pos h4, if_pos h4]
        unfold fX0_holds_b118 fX0_holds_b153 fX0_holds_b168
        rw [if_pos h4, sh1]
        by_cases l : x.2.1 < x.2.2
        · rw [if_pos l, if_neg (i_nle.mpr l), if_neg (by decide), nI_1]
        · rw [if_neg l, if_pos (i_nlt.mp l), if_pos rfl, nI_1]
      rw [if_neg h4, if_neg h4]
      by_cases h5 : s = 1008
      · rw [if_pos h5, if_pos h5]
        unfold fX0_holds_b118 fX0_holds_b153 fX0_holds_b168
        rw [if_neg h4, sh1]
        by_cases l : x.2.2 < x.2.1
        · rw [if_pos l, if_neg (i_nle.mpr l), if_neg (by decide), nI_1]
        · rw [if_neg l, if_pos (i_nlt.mp l), if_pos rfl, nI_1]
      rw [if_neg h5, if_neg h5]
      by_cases h6 : s = 1009
      · rw [if_pos h6, if_pos h6]
        unfold fX0_holds_b199 tT
        rw [sh1]
        by_cases l : σ.1 (z + 14) 7 = 0
        · rw [if_pos l, if_pos l, nI_1]
        · rw [if_neg l, if_neg l, nI_1]
      rw [if_neg h6, if_neg h6]
      by_cases h7 : s = 1010
      · rw [if_pos h7, if_pos h7]
        unfold fX0_holds_b230
        rw [sh1]
        show (if σ.2.1 (z + 19) 4 = 1 then _ else _) = _
        by_cases l : σ.2.1 (z + 19) 4 = 1
        · rw [if_pos l, if_pos l, nI_1]
        · rw [if_neg l, if_neg l, nI_1]
      rw [if_neg h7, if_neg h7]
      by_cases h8 : s = 1011
      · rw [if_pos h8, if_pos h8]
      rw [if_neg h8, if_neg h8]
      by_cases h9 : s = 1012
      · rw [if_pos h9, if_pos h9, sr1]
      · rw [if_neg h9, if_neg h9, sr1]
theorem bit0_and {x : Int32} : x &&& 1 = 1 ↔ bit x 0 = true := by
  have := has_bit (x := x) (k := 0) (by omega)
  have e : x >>> (nI 0 &&& 31) = x := by
    apply bit_ext
    intro i hi
    rw [bit_shr (by omega) (by omega), Nat.zero_add]
  rw [e] at this
  exact this
theorem c_holds {N z : Nat} {σ : pS} {i n : Nat} (hN : 20000 < N) (hn : i + n ≤ 400) : fX0_holds N (G1 z) (z + 14) (nI i) (nI (i + n)) σ = some (if bit (cH (σ.2.1 (z + 18)) (σ.2.1 (z + 19)) (tT (σ.1 (z + 14) 7)) i n (1, 0, 0)).1 0 = true then 1 else 0) := by
  unfold fX0_holds fX0_holds_b11
  simp only [g1r_14_5, g1r_14_6]
  refine lp_for (fun k => ((cH (σ.2.1 (z + 18)) (σ.2.1 (z + 19)) (tT (σ.1 (z + 14) 7)) i k (1, 0, 0)).1, (cH (σ.2.1 (z + 18)) (σ.2.1 (z + 19)) (tT (σ.1 (z + 14) 7)) i k (1, 0, 0)).2.1, (cH (σ.2.1 (z + 18)) (σ.2.1 (z + 19)) (tT (σ.1 (z + 14) 7)) i k (1, 0, 0)).2.2, nI (i + k))) n _ (by omega) ?_ ?_
  · intro k hk q
    dsimp only
    rw [cH_s]
    exact c_step (j := i + k) (by omega) (nI_ge (by omega) (by omega))
  · intro q
    dsimp only
    rw [if_neg (nI_pos (by omega)), if_pos lit_end]
    unfold fX0_holds_b284
    by_cases e : bit (cH (σ.2.1 (z + 18)) (σ.2.1 (z + 19)) (tT (σ.1 (z + 14) 7)) i n (1, 0, 0)).1 0 = true
    · rw [if_pos e, if_pos (bit0_and.mpr e)]
    · rw [if_neg e, if_neg (fun q => e (bit0_and.mp q))]
/-- whether a line holds -/
def hl (w g : Nat → Int32) (t : Int32) (i : Nat) : Bool := match rH w g t (w (386 + 4 * i)).toInt.toNat ((w (387 + 4 * i)).toInt.toNat - (w (386 + 4 * i)).toInt.toNat) [] with
  | some st => decide (st = [] ∨ st = [1])
  | none => false
theorem line_hl {E S w g : Nat → Int32} {t : Int32} {i : Nat} (h : LineR E S w i) (ht : t = 0 ∨ t = 1) : bit (cH S g t (cB E i) ((E i).toInt.toNat - cB E i) (1, 0, 0)).1 0 = hl w g t i := by
  obtain ⟨st, h1, _, h3⟩ := h.2.2.2 g t ht
  unfold hl
  rw [h1]
  cases e : bit (cH S g t (cB E i) ((E i).toInt.toNat - cB E i) (1, 0, 0)).1 0
  · exact (decide_eq_false (fun q => by rw [h3.mpr q] at e; cases e)).symm
  · exact (decide_eq_true (h3.mp e)).symm
/-- the class's sum of a kind -/
def smC (K A w g : Nat → Int32) (t kd : Int32) : Nat → Int32 := itN (fun i x => if K i = kd ∧ hl w g t i = true then x + A i else x) 0
/-- how many lines -/
def nL (w : Nat → Int32) : Nat := if w 6 = 1 then cN w 383 else 0
theorem c_sumOf {N z : Nat} {σ : pS} {w : Nat → Int32} {kd : Int32} (hN : 20000 < N) (h : LawR (σ.1 (z + 14)) (σ.2.1 (z + 15)) (σ.2.1 (z + 16)) (σ.2.1 (z + 17)) (σ.2.1 (z + 18)) w) : fX0_sumOf N (G1 z) (z + 14) kd σ = some (smC (σ.2.1 (z + 15)) (σ.2.1 (z + 16)) w (σ.2.1 (z + 19)) (tT (σ.1 (z + 14) 7)) kd (nL w)) := by
  unfold fX0_sumOf fX0_sumOf_b7
  simp only [g1r_14_2, g1r_14_3, g1r_14_4]
  by_cases h6 : w 6 = 1
  · have e0 : σ.1 (z + 14) 0 = w 383 := h.1.trans (if_pos h6)
    obtain ⟨hb, hl'⟩ := h.2 h6
    have en : nL w = cN w 383 := if_pos h6
    have c12 : cN w 383 ≤ 12 := by unfold cN; omega
    rw [e0, en]
    have cBn : ∀ k, k ≤ cN w 383 → cB (σ.2.1 (z + 17)) k ≤ 400 := by
      intro k hk
      cases k with
      | zero => exact Nat.zero_le _
      | succ k =>
        have := (hl' k (by omega)).2.2.2.2.1
        show (σ.2.1 (z + 17) k).toInt.toNat ≤ 400
        omega
    refine lp_for (fun k => (smC (σ.2.1 (z + 15)) (σ.2.1 (z + 16)) w (σ.2.1 (z + 19)) (tT (σ.1 (z + 14) 7)) kd k, nI (cB (σ.2.1 (z + 17)) k), nI k)) (cN w 383) _ (by omega) ?_ ?_
    · intro k hk q
      obtain ⟨k1, k2, k3, k4, k5⟩ := hl' k hk
      have ee : σ.2.1 (z + 17) k = nI (cB (σ.2.1 (z + 17)) (k + 1)) := nI_cN k5.1.2.1
      have b1 := k5.1.1
      have b2 : cB (σ.2.1 (z + 17)) (k + 1) ≤ 400 := cBn (k + 1) (by omega)
      have b3 : cB (σ.2.1 (z + 17)) k ≤ cB (σ.2.1 (z + 17)) (k + 1) := b1
      dsimp only
      rw [if_neg (cnt_lt hb.1 hk), if_neg (show ¬ (12 : Int32) ≤ nI k from lit_lt (m := 12) (by omega) (by decide)), g1n_15, g1n_16, g1n_17, ck_nI (by omega) (by omega), gA_nI (by omega), ck_nI (by omega) (by omega), gA_nI (by omega), ck_nI (by omega) (by omega), gA_nI (by omega)]
      have e59 : ∀ x, fX0_sumOf_b59 N (G1 z) q (z + 14) kd x (nI k) σ = q (x, nI (cB (σ.2.1 (z + 17)) (k + 1)), nI (k + 1)) := by
        intro x
        unfold fX0_sumOf_b59
        simp only [g1r_14_4]
        rw [g1n_17, ck_nI (by omega) (by omega), gA_nI (by omega), nI_1, ← ee]
      rw [e59, e59, show σ.2.1 (z + 17) k = nI (cB (σ.2.1 (z + 17)) k + (cB (σ.2.1 (z + 17)) (k + 1) - cB (σ.2.1 (z + 17)) k)) from by rw [ee]; congr 1; omega, c_holds hN (by omega), b_some, ite01]
      have lh := line_hl (g := σ.2.1 (z + 19)) k5 (tT01 (σ.1 (z + 14) 7))
      rw [show cB (σ.2.1 (z + 17)) (k + 1) - cB (σ.2.1 (z + 17)) k = (σ.2.1 (z + 17) k).toInt.toNat - cB (σ.2.1 (z + 17)) k from rfl, lh]
      show _ = q ((if σ.2.1 (z + 15) k = kd ∧ hl w (σ.2.1 (z + 19)) (tT (σ.1 (z + 14) 7)) k = true then smC (σ.2.1 (z + 15)) (σ.2.1 (z + 16)) w (σ.2.1 (z + 19)) (tT (σ.1 (z + 14) 7)) kd k + σ.2.1 (z + 16) k else smC (σ.2.1 (z + 15)) (σ.2.1 (z + 16)) w (σ.2.1 (z + 19)) (tT (σ.1 (z + 14) 7)) kd k), _, _)
      by_cases a : σ.2.1 (z + 15) k = kd
      · rw [if_pos a]
        by_cases b : hl w (σ.2.1 (z + 19)) (tT (σ.1 (z + 14) 7)) k = true
        · rw [if_pos b, if_pos ⟨a, b⟩]
        · rw [if_neg b, if_neg (fun q => b q.2)]
      · rw [if_neg a, if_neg (fun q => a q.1)]
    · intro q
      dsimp only
      rw [if_pos (cnt_eN hb.1)]
  · have e0 : σ.1 (z + 14) 0 = -1 := h.1.trans (if_neg h6)
    rw [e0, show nL w = 0 from if_neg h6]
    refine lp_one (by omega) (fun q => ?_)
    rfl
