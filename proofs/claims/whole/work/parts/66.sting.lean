/-! stings and eases -/
def gS (a b c d e f : Int32) : Nat → Int32
  | 0 => a
  | 1 => b
  | 2 => c
  | 3 => d
  | 4 => e
  | _ => f
theorem gR_S {y : Nat} {σ : pS} : gR y σ = gS (σ.1 y 18) (σ.1 y 19) (σ.1 y 21) (σ.1 y 22) (σ.1 y 23) (σ.1 y 20) := by
  funext j
  match j with
  | 0 => rfl
  | 1 => rfl
  | 2 => rfl
  | 3 => rfl
  | 4 => rfl
  | _ + 5 => rfl
theorem rF_g {g g' : Nat → Int32} (h : ∀ j, j < 6 → g j = g' j) {s n t : Int32} : rF s n g t = rF s n g' t := by
  unfold rF
  rw [h 0 (by omega), h 1 (by omega), h 2 (by omega), h 3 (by omega), h 4 (by omega), h 5 (by omega)]
theorem rH_g {w g g' : Nat → Int32} {t : Int32} (h : ∀ j, j < 6 → g j = g' j) : ∀ (n i : Nat) (st : List Int32), rH w g t i n st = rH w g' t i n st := by
  intro n
  induction n with
  | zero => intro i st; rfl
  | succ n ih =>
    intro i st
    show (rS _ _ g t st).bind (rH w g t (i + 1) n) = (rS _ _ g' t st).bind (rH w g' t (i + 1) n)
    rw [show rH w g t (i + 1) n = rH w g' t (i + 1) n from funext fun s => ih (i + 1) s]
    unfold rS
    rw [rF_g h]
theorem hl_g {w g g' : Nat → Int32} {t : Int32} {i : Nat} (h : ∀ j, j < 6 → g j = g' j) : hl w g t i = hl w g' t i := by
  unfold hl
  rw [rH_g h]
theorem smC_g {K A w g g' : Nat → Int32} {t kd : Int32} {n : Nat} (h : ∀ j, j < 6 → g j = g' j) : smC K A w g t kd n = smC K A w g' t kd n := by
  unfold smC
  refine itN_congr (fun k _ x => ?_)
  rw [hl_g h]
/-- is the word true of him -/
def trV (w : Nat → Int32) (word : Nat) : Int32 := if 0 ≤ (w (56 + 2 * word)).toInt ∧ bit (hisT w) (w (56 + 2 * word)).toInt.toNat = true then 1 else 0
def stV (w : Nat → Int32) (d n l who : Int32) (word : Nat) : Int32 := jmax 0 (w (55 + 2 * word) + (smK w (gS (nI word) 0 d n l who) (trV w word) 0 (nL w) - smK w (gS (nI word) 0 d n l who) (trV w word) 1 (nL w)))
def eaV (w : Nat → Int32) (d n l : Int32) (deed : Nat) : Int32 := w (67 + 2 * deed) + smK w (gS 0 (nI deed) d n l 0) 0 2 (nL w)
def bwV (w : Nat → Int32) (d n l who : Int32) (word : Nat) : Int32 := jmin 99 (d + stV w d n l who word)
def bdV (w : Nat → Int32) (d n l : Int32) (deed : Nat) : Int32 := jmax 0 (d - eaV w d n l deed)
/-- only what the law looks at has changed -/
def TT (z : Nat) (σ τ : pS) : Prop := (∀ a k, ¬ (a = z + 14 ∧ k = 7) → τ.1 a k = σ.1 a k) ∧ (∀ a, a ≠ z + 19 → τ.2.1 a = σ.2.1 a) ∧ τ.2.2 = σ.2.2
theorem TT.r {z : Nat} {σ : pS} : TT z σ σ := ⟨fun _ _ _ => rfl, fun _ _ => rfl, rfl⟩
theorem TT.t {z : Nat} {σ τ υ : pS} (h : TT z σ τ) (g : TT z τ υ) : TT z σ υ := ⟨fun a k e => (g.1 a k e).trans (h.1 a k e), fun a e => (g.2.1 a e).trans (h.2.1 a e), g.2.2.trans h.2.2⟩
theorem TT.e {P : Nat → Nat → Bool} {Q : Nat → Bool} {z : Nat} {σ τ : pS} (h : TT z σ τ) (hP : P 14 7 = false) (hQ : Q 19 = false) : EE P Q z σ τ := by
  refine ⟨fun o k e => h.1 _ _ (fun q => ?_), fun o e => h.2.1 _ (fun q => ?_)⟩
  · have e1 : o = 14 := by omega
    rw [e1, q.2, hP] at e
    cases e
  · have e1 : o = 19 := by omega
    rw [e1, hQ] at e
    cases e
theorem c_lookAt {N z m : Nat} {σ : pS} {a2 a3 a4 a5 : Int32} (h5 : isZ a5 = true) : ∃ τ, TT z σ τ ∧ fX0_lookAt N (G1 z) (z + 14) m a2 a3 a4 a5 σ = some τ ∧ (∀ j, j < 6 → τ.2.1 (z + 19) j = gS a2 a3 (σ.1 m 0) (σ.1 m 1) (bc (σ.1 m 3)) a4 j) ∧ τ.1 (z + 14) 7 = a5 := by
  refine ⟨putF (sA (sA (sA (sA (sA (sA σ (z + 19) 0 a2) (z + 19) 1 a3) (z + 19) 2 (σ.1 m 0)) (z + 19) 3 (σ.1 m 1)) (z + 19) 4 (bc (σ.1 m 3))) (z + 19) 5 a4) (z + 14) 7 a5, ?_, ?_, ?_, ?_⟩
  · refine ⟨fun a k e => ?_, fun a e => ?_, rfl⟩
    · rw [pf1, if_neg e]
      rfl
    · show (sA (sA (sA (sA (sA (sA σ (z + 19) 0 a2) (z + 19) 1 a3) (z + 19) 2 (σ.1 m 0)) (z + 19) 3 (σ.1 m 1)) (z + 19) 4 (bc (σ.1 m 3))) (z + 19) 5 a4).2.1 a = _
      rw [sA_o e, sA_o e, sA_o e, sA_o e, sA_o e, sA_o e]
  · unfold fX0_lookAt
    simp only [g1r_14_6, g1n_19, sa1, bc_fn, b_some, h5]
    rfl
  · intro j hj
    show (sA (sA (sA (sA (sA (sA σ (z + 19) 0 a2) (z + 19) 1 a3) (z + 19) 2 (σ.1 m 0)) (z + 19) 3 (σ.1 m 1)) (z + 19) 4 (bc (σ.1 m 3))) (z + 19) 5 a4).2.1 (z + 19) j = _
    rw [sA_w (n := 5) rfl, sA_w (n := 4) rfl, sA_w (n := 3) rfl, sA_w (n := 2) rfl, sA_w (n := 1) rfl, sA_w (n := 0) rfl]
    match j, hj with
    | 0, _ => rfl
    | 1, _ => rfl
    | 2, _ => rfl
    | 3, _ => rfl
    | 4, _ => rfl
    | 5, _ => rfl
  · exact pf0
theorem WInv.wo {w : Nat → Int32} (h : WInv w) : ∀ i, i < cN w 2 → (0 ≤ (w (55 + 2 * i)).toInt ∧ (w (55 + 2 * i)).toInt ≤ 20) ∧ (-1 ≤ (w (56 + 2 * i)).toInt ∧ (w (56 + 2 * i)).toInt < 6) := h.2.2.2.2.2.2.2.2.2.2.2.2.2.2.2.2.2.2.1
theorem WInv.de {w : Nat → Int32} (h : WInv w) : ∀ i, i < cN w 3 → (0 ≤ (w (67 + 2 * i)).toInt ∧ (w (67 + 2 * i)).toInt ≤ 20) ∧ (0 ≤ (w (68 + 2 * i)).toInt ∧ (w (68 + 2 * i)).toInt ≤ 9) := h.2.2.2.2.2.2.2.2.2.2.2.2.2.2.2.2.2.2.2.1
/-- the law as the class has it -/
abbrev LawC (σ : pS) (z : Nat) (w : Nat → Int32) : Prop := LawR (σ.1 (z + 14)) (σ.2.1 (z + 15)) (σ.2.1 (z + 16)) (σ.2.1 (z + 17)) (σ.2.1 (z + 18)) w
abbrev TalC (σ : pS) (z : Nat) (w : Nat → Int32) : Prop := TaleR (σ.1 (z + 4)) (fun j => σ.2.1 (z + (5 + j))) w
theorem TT.law {z : Nat} {σ τ : pS} {w : Nat → Int32} (h : TT z σ τ) (hl : LawC σ z w) : LawC τ z w := by
  have e := h.1 (z + 14) 0 (by omega)
  unfold LawC LawR at hl ⊢
  rw [e, h.2.1 (z + 15) (by omega), h.2.1 (z + 16) (by omega), h.2.1 (z + 17) (by omega), h.2.1 (z + 18) (by omega)]
  exact hl
theorem TT.tal {z : Nat} {σ τ : pS} {w : Nat → Int32} (h : TT z σ τ) (hl : TalC σ z w) : TalC τ z w := by
  have e : τ.1 (z + 4) = σ.1 (z + 4) := funext fun k => h.1 (z + 4) k (by omega)
  unfold TalC TaleR at hl ⊢
  dsimp only at hl ⊢
  rw [e, h.2.1 (z + (5 + 0)) (by omega), h.2.1 (z + (5 + 1)) (by omega), h.2.1 (z + (5 + 2)) (by omega), h.2.1 (z + (5 + 3)) (by omega), h.2.1 (z + (5 + 4)) (by omega), h.2.1 (z + (5 + 5)) (by omega), h.2.1 (z + (5 + 6)) (by omega), h.2.1 (z + (5 + 7)) (by omega), h.2.1 (z + (5 + 8)) (by omega)]
  exact hl
theorem nL_le {f K A E S w : Nat → Int32} (h : LawR f K A E S w) (h6 : w 6 = 1) : nL w = cN w 383 := if_pos h6
theorem sm_w {f K A E S w g : Nat → Int32} {t : Int32} (h : LawR f K A E S w) : smC K A w g t 0 (nL w) = smK w g t 0 (nL w) - smK w g t 1 (nL w) := by
  by_cases h6 : w 6 = 1
  · rw [show nL w = cN w 383 from if_pos h6]
    exact sm_words h h6 _ (Nat.le_refl _)
  · rw [show nL w = 0 from if_neg h6]
    show (0 : Int32) = 0 - 0
    decide
theorem sm_d {f K A E S w g : Nat → Int32} {t : Int32} (h : LawR f K A E S w) : smC K A w g t 1 (nL w) = smK w g t 2 (nL w) := by
  by_cases h6 : w 6 = 1
  · rw [show nL w = cN w 383 from if_pos h6]
    exact sm_deeds h h6 _ (Nat.le_refl _)
  · rw [show nL w = 0 from if_neg h6]
    rfl
theorem his_bear {w : Nat → Int32} (hw : WInv w) (e : ¬ w 0 = 0) (t : Nat) : bit (hv w t) (w 11).toInt.toNat = bit (hisT w) t ∧ bea w = nI (w 11).toInt.toNat ∧ (w 11).toInt.toNat < 10 := by
  have hb := hw.hB
  have c0 := hw.1
  have hb2 : (w 11).toInt < (w 0).toInt := by
    rcases hb.2 with q | q
    · exact q
    · have : (w 0).toInt ≠ 0 := fun q2 => e (i_ext q2)
      have h0 := hw.1.1
      rw [q, show (0 : Int32).toInt = 0 from rfl]
      omega
  refine ⟨?_, (if_neg e).trans (nI_cN hb.1), by omega⟩
  rw [bit_hv hw, show hisT w = w (17 + 2 * (w 11).toInt.toNat) from if_neg e, show decide ((w 11).toInt.toNat < cN w 0) = true from decide_eq_true (by unfold cN; omega)]
  rfl
theorem c_sting52 {N z m word : Nat} {σ : pS} {w : Nat → Int32} {who y0 : Int32} (hN : 20000 < N) (ht : TalC σ z w) (hl : LawC σ z w) (hw6 : word < 6) (hwd : word < cN w 2) (hz : isZ y0 = true) (hy : tT y0 = trV w word) : ∃ τ, TT z σ τ ∧ fX10_stingOf_b52 N (G1 z) (z + 3) m who (nI word) y0 σ = some (stV w (σ.1 m 0) (σ.1 m 1) (bc (σ.1 m 3)) who word, τ) := by
  unfold fX10_stingOf_b52
  simp only [g1r_3_1, g1r_3_0, g1r_4_12]
  obtain ⟨τ, h1, h2, h3, h4⟩ := c_lookAt (N := N) (z := z) (m := m) (σ := σ) (a2 := nI word) (a3 := 0) (a4 := who) hz
  refine ⟨τ, h1, ?_⟩
  rw [h2, b_some, at_fn g1n_8 hw6 (by omega), b_some, c_sumOf hN (h1.law hl), b_some, smC_g h3, h4, hy, sm_w (h1.law hl), show τ.2.1 (z + 8) word = w (55 + 2 * word) from ((h1.tal ht).2.2.2.1 word hwd).1]
  rfl
theorem c_stingOf {N z m word : Nat} {σ : pS} {w : Nat → Int32} {who : Int32} (hN : 20000 < N) (hw : WInv w) (ht : TalC σ z w) (hl : LawC σ z w) (hb : σ.1 m 2 = bea w) (hwd : word < cN w 2) : ∃ τ, TT z σ τ ∧ fX10_stingOf N (G1 z) (z + 3) m who (nI word) σ = some (stV w (σ.1 m 0) (σ.1 m 1) (bc (σ.1 m 3)) who word, τ) := by
  have hw6 : word < 6 := Nat.lt_of_lt_of_le hwd hw.c2
  have hwo := (hw.wo word hwd).2
  unfold fX10_stingOf fX10_stingOf_b51
  simp only [g1r_3_0, g1r_4_13, g1r_4_11]
  rw [at_fn g1n_9 hw6 (by omega), b_some, show σ.2.1 (z + 9) word = w (56 + 2 * word) from (ht.2.2.2.1 word hwd).2, hb]
  by_cases t0 : w (56 + 2 * word) < 0
  · rw [if_pos t0]
    refine c_sting52 hN ht hl hw6 hwd rfl ?_
    rw [i_lt, show (0 : Int32).toInt = 0 from rfl] at t0
    unfold trV
    rw [if_neg (by omega)]
    rfl
  · have t0' : 0 ≤ (w (56 + 2 * word)).toInt := by
      rw [i_lt, show (0 : Int32).toInt = 0 from rfl] at t0
      omega
    rw [if_neg t0]
    by_cases e : w 0 = 0
    · rw [show bea w = -1 from if_pos e, if_pos (by decide)]
      refine c_sting52 hN ht hl hw6 hwd rfl ?_
      unfold trV
      rw [if_neg (fun q => by
        have q2 := q.2
        rw [show hisT w = 0 from if_pos e, bit_0] at q2
        cases q2)]
      rfl
    · obtain ⟨b1, b2, b3⟩ := his_bear hw e (w (56 + 2 * word)).toInt.toNat
      rw [b2, if_neg (nI_pos (by omega)), show w (56 + 2 * word) = nI (w (56 + 2 * word)).toInt.toNat from nI_cN t0', at_fn g1n_7 (by omega) (by omega), b_some, has_fn (by omega), b_some, ite01, show σ.2.1 (z + 7) (w (56 + 2 * word)).toInt.toNat = hv w (w (56 + 2 * word)).toInt.toNat from bear_eq hw ht (by omega), b1]
      by_cases hh : bit (hisT w) (w (56 + 2 * word)).toInt.toNat = true
      · rw [if_pos hh]
        refine c_sting52 hN ht hl hw6 hwd rfl ?_
        unfold trV
        rw [if_pos ⟨t0', hh⟩]
        rfl
      · rw [if_neg hh]
        refine c_sting52 hN ht hl hw6 hwd rfl ?_
        unfold trV
        rw [if_neg (fun q => hh q.2)]
        rfl
theorem c_easeOf {N z m deed : Nat} {σ : pS} {w : Nat → Int32} (hN : 20000 < N) (hw : WInv w) (ht : TalC σ z w) (hl : LawC σ z w) (hd : deed < cN w 3) : ∃ τ, TT z σ τ ∧ fX10_easeOf N (G1 z) (z + 3) m (nI deed) σ = some (eaV w (σ.1 m 0) (σ.1 m 1) (bc (σ.1 m 3)) deed, τ) := by
  have hd4 : deed < 4 := Nat.lt_of_lt_of_le hd hw.c3
  unfold fX10_easeOf
  simp only [g1r_3_1, g1r_3_0, g1r_4_14]
  obtain ⟨τ, h1, h2, h3, h4⟩ := c_lookAt (N := N) (z := z) (m := m) (σ := σ) (a2 := 0) (a3 := nI deed) (a4 := 0) (a5 := 0) rfl
  refine ⟨τ, h1, ?_⟩
  rw [h2, b_some, at_fn g1n_10 hd4 (by omega), b_some, c_sumOf hN (h1.law hl), b_some, smC_g h3, h4, sm_d (h1.law hl), show τ.2.1 (z + 10) deed = w (67 + 2 * deed) from ((h1.tal ht).2.2.2.2.1 deed hd).1]
  rfl
/-! the reference -/
def LL (y : Nat) (σ τ : pS) : Prop := (∀ a k, ¬ (a = y ∧ (k = 18 ∨ k = 19 ∨ k = 20 ∨ k = 24)) → τ.1 a k = σ.1 a k) ∧ (∀ a, a ≠ y + 8 → τ.2.1 a = σ.2.1 a)
theorem LL.r {y : Nat} {σ : pS} : LL y σ σ := ⟨fun _ _ _ => rfl, fun _ _ => rfl⟩
theorem LL.t {y : Nat} {σ τ υ : pS} (h : LL y σ τ) (g : LL y τ υ) : LL y σ υ := ⟨fun a k e => (g.1 a k e).trans (h.1 a k e), fun a e => (g.2 a e).trans (h.2 a e)⟩
theorem LL.v {y : Nat} {σ τ υ : pS} (h : LL y σ τ) (g : VV y τ υ) : LL y σ υ := ⟨fun a k e => by rw [g.1]; exact h.1 a k e, fun a e => (g.2.2 a e).trans (h.2 a e)⟩
theorem LL.pf {y k : Nat} {σ τ : pS} {v : Int32} (h : LL y σ τ) (hk : k = 18 ∨ k = 19 ∨ k = 20 ∨ k = 24) : LL y σ (putF τ y k v) := by
  refine ⟨fun a j e => ?_, fun a e => h.2 a e⟩
  rw [pf1, if_neg (show ¬ (a = y ∧ j = k) from fun q => e ⟨q.1, by rw [q.2]; exact hk⟩)]
  exact h.1 a j e
theorem LL.w {y : Nat} {σ τ : pS} (h : LL y σ τ) : τ.2.1 (y + 1) = σ.2.1 (y + 1) := h.2 _ (by omega)
theorem LL.e {y : Nat} {σ τ : pS} (h : LL y σ τ) : E2 y σ τ := ⟨fun k e => h.1 y k (by omega), fun j hj => h.2 _ (by omega)⟩
theorem LL.f {y k : Nat} {σ τ : pS} (h : LL y σ τ) (hk : ¬ (k = 18 ∨ k = 19 ∨ k = 20 ∨ k = 24)) : τ.1 y k = σ.1 y k := h.1 y k (fun q => hk q.2)
/-- some law that the class has, of this world -/
def HasLaw (w : Nat → Int32) : Prop := ∃ f K A E S : Nat → Int32, LawR f K A E S w
theorem r_sumL {N y : Nat} {σ : pS} {kd : Int32} (hN : 20000 < N) (h : HasLaw (σ.2.1 (y + 1))) : ∃ τ, VV y σ τ ∧ fX12_sumOf N (G2 y) y kd σ = some (smK (σ.2.1 (y + 1)) (gR y σ) (tT (σ.1 y 24)) kd (nL (σ.2.1 (y + 1))), τ) := by
  obtain ⟨f, K, A, E, S, h⟩ := h
  exact r_sumOf hN h
theorem r_sting43 {N y word : Nat} {σ : pS} {y0 : Int32} (hN : 20000 < N) (hl : HasLaw (σ.2.1 (y + 1))) (hw6 : word < 6) (hz : isZ y0 = true) (hy : tT y0 = trV (σ.2.1 (y + 1)) word) (h18 : σ.1 y 18 = nI word) (h19 : σ.1 y 19 = 0) : ∃ τ, LL y σ τ ∧ fX12_stingsBy_b43 N (G2 y) y (nI word) y0 σ = some (stV (σ.2.1 (y + 1)) (σ.1 y 21) (σ.1 y 22) (σ.1 y 23) (σ.1 y 20) word, τ) := by
  unfold fX12_stingsBy_b43
  rw [hz, ck_t, r_ofWord0 (by omega), b_some]
  obtain ⟨τ, v1, h1⟩ := r_sumL (σ := putF σ y 24 y0) (kd := 0) hN hl
  obtain ⟨υ, v2, h2⟩ := r_sumL (σ := τ) (kd := 1) hN (by rw [v1.w]; exact hl)
  refine ⟨υ, ((LL.r.pf (by omega)).v v1).v v2, ?_⟩
  rw [h1, b_some, h2, b_some, v1.w, gR_v v1.1, v1.1, gR_S]
  simp only [pf1]
  rw [if_neg (by omega), if_neg (by omega), if_neg (by omega), if_neg (by omega), if_neg (by omega), if_neg (by omega), if_pos ⟨trivial, trivial⟩, h18, h19, hy, add_sub3]
  rfl
theorem r_stingsBy {N y word : Nat} {σ : pS} {who : Int32} (hN : 20000 < N) (hw : WInv (σ.2.1 (y + 1))) (hl : HasLaw (σ.2.1 (y + 1))) (hwd : word < cN (σ.2.1 (y + 1)) 2) : ∃ τ, LL y σ τ ∧ fX12_stingsBy N (G2 y) y who (nI word) σ = some (stV (σ.2.1 (y + 1)) (σ.1 y 21) (σ.1 y 22) (σ.1 y 23) who word, τ) := by
  have hw6 : word < 6 := Nat.lt_of_lt_of_le hwd hw.c2
  have hwo := (hw.wo word hwd).2
  unfold fX12_stingsBy fX12_stingsBy_b42
  rw [r_ofWord1 (by omega), b_some]
  have L0 : LL y σ (putF (putF (putF σ y 18 (nI word)) y 20 who) y 19 0) := ((LL.r.pf (by omega)).pf (by omega)).pf (by omega)
  have key : ∀ y0, isZ y0 = true → tT y0 = trV (σ.2.1 (y + 1)) word → ∃ τ, LL y σ τ ∧ fX12_stingsBy_b43 N (G2 y) y (nI word) y0 (putF (putF (putF σ y 18 (nI word)) y 20 who) y 19 0) = some (stV (σ.2.1 (y + 1)) (σ.1 y 21) (σ.1 y 22) (σ.1 y 23) who word, τ) := by
    intro y0 hz hy
    obtain ⟨τ, h1, h2⟩ := r_sting43 (σ := putF (putF (putF σ y 18 (nI word)) y 20 who) y 19 0) hN hl hw6 hz hy (by rw [pf0n (by decide), pf0n (by decide), pf0]) pf0
    refine ⟨τ, L0.t h1, ?_⟩
    rw [h2, pf0n (by decide), pf0n (by decide), pf0n (by decide), pf0n (by decide), pf0n (by decide), pf0n (by decide), pf0n (by decide), pf0n (by decide), pf0n (by decide), pf0n (by decide), pf0]
    rfl
  by_cases t0 : σ.2.1 (y + 1) (56 + 2 * word) < 0
  · rw [if_pos t0]
    refine key 0 rfl ?_
    rw [i_lt, show (0 : Int32).toInt = 0 from rfl] at t0
    unfold trV
    rw [if_neg (by omega)]
    rfl
  · have t0' : 0 ≤ (σ.2.1 (y + 1) (56 + 2 * word)).toInt := by
      rw [i_lt, show (0 : Int32).toInt = 0 from rfl] at t0
      omega
    rw [if_neg t0, r_traitsOfHis (σ := putF (putF (putF σ y 18 (nI word)) y 20 who) y 19 0) hw, b_some, show σ.2.1 (y + 1) (56 + 2 * word) = nI (σ.2.1 (y + 1) (56 + 2 * word)).toInt.toNat from nI_cN t0', has_fn2 (by omega), b_some, ite01]
    show ∃ τ, _ ∧ (if bit (hisT (σ.2.1 (y + 1))) _ = true then _ else _) = _
    by_cases hh : bit (hisT (σ.2.1 (y + 1))) (σ.2.1 (y + 1) (56 + 2 * word)).toInt.toNat = true
    · rw [if_pos hh]
      refine key 1 rfl ?_
      unfold trV
      rw [if_pos ⟨t0', hh⟩]
      rfl
    · rw [if_neg hh]
      refine key 0 rfl ?_
      unfold trV
      rw [if_neg (fun q => hh q.2)]
      rfl
theorem r_easesBy {N y deed : Nat} {σ : pS} (hN : 20000 < N) (hw : WInv (σ.2.1 (y + 1))) (hl : HasLaw (σ.2.1 (y + 1))) (hd : deed < cN (σ.2.1 (y + 1)) 3) : ∃ τ, LL y σ τ ∧ fX12_easesBy N (G2 y) y (nI deed) σ = some (eaV (σ.2.1 (y + 1)) (σ.1 y 21) (σ.1 y 22) (σ.1 y 23) deed, τ) := by
  have hd4 : deed < 4 := Nat.lt_of_lt_of_le hd hw.c3
  unfold fX12_easesBy
  rw [r_ofDeed0 (by omega), b_some]
  obtain ⟨τ, v1, h1⟩ := r_sumL (σ := putF (putF (putF (putF σ y 18 0) y 20 0) y 19 (nI deed)) y 24 0) (kd := 2) hN hl
  refine ⟨τ, ((((LL.r.pf (by omega)).pf (by omega)).pf (by omega)).pf (by omega)).v v1, ?_⟩
  rw [h1, b_some, gR_S]
  simp only [pf1]
  rfl
theorem r_behindWord {N y word : Nat} {σ : pS} {who : Int32} (hN : 20000 < N) (hw : WInv (σ.2.1 (y + 1))) (hl : HasLaw (σ.2.1 (y + 1))) (hwd : word < cN (σ.2.1 (y + 1)) 2) : ∃ τ, LL y σ τ ∧ fX12_behindWord N (G2 y) y who (nI word) σ = some (bwV (σ.2.1 (y + 1)) (σ.1 y 21) (σ.1 y 22) (σ.1 y 23) who word, τ) := by
  obtain ⟨τ, h1, h2⟩ := r_stingsBy (who := who) hN hw hl hwd
  refine ⟨τ, h1, ?_⟩
  unfold fX12_behindWord
  rw [h2]
  rfl
theorem r_behindDeed {N y deed : Nat} {σ : pS} (hN : 20000 < N) (hw : WInv (σ.2.1 (y + 1))) (hl : HasLaw (σ.2.1 (y + 1))) (hd : deed < cN (σ.2.1 (y + 1)) 3) : ∃ τ, LL y σ τ ∧ fX12_behindDeed N (G2 y) y (nI deed) σ = some (bdV (σ.2.1 (y + 1)) (σ.1 y 21) (σ.1 y 22) (σ.1 y 23) deed, τ) := by
  obtain ⟨τ, h1, h2⟩ := r_easesBy hN hw hl hd
  refine ⟨τ, h1, ?_⟩
  unfold fX12_behindDeed
  rw [h2]
  rfl
