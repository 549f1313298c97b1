/-! the law's texts: one line -/
theorem sw_sting : sameW 18 60 := by
  unfold sameW
  decide +kernel
theorem sw_blunt : sameW 16 61 := by
  unfold sameW
  decide +kernel
theorem sw_soothe : sameW 17 62 := by
  unfold sameW
  decide +kernel
theorem sw_if : sameW 19 63 := by
  unfold sameW
  decide +kernel
theorem l_16 : lenS.getD 16 0 = 5 := by decide +kernel
theorem l_17 : lenS.getD 17 0 = 6 := by decide +kernel
theorem l_18 : lenS.getD 18 0 = 5 := by decide +kernel
theorem l_19 : lenS.getD 19 0 = 2 := by decide +kernel
theorem kw_a {B : Nat → Int32} {e f : Nat} (h : wdP B e f 16) (g : wdP B e f 17) : False := by
  have a := h.1
  have b := g.1
  rw [l_16] at a
  rw [l_17] at b
  omega
theorem kw_b {B : Nat → Int32} {e f : Nat} (h : wdP B e f 18) (g : wdP B e f 17) : False := by
  have a := h.1
  have b := g.1
  rw [l_18] at a
  rw [l_17] at b
  omega
theorem kw_c {B : Nat → Int32} {e f : Nat} (h : wdP B e f 18) (g : wdP B e f 16) : False := by
  have a := h.2 0 (by rw [l_18]; omega)
  have b := g.2 0 (by rw [l_16]; omega)
  rw [a] at b
  exact absurd b (by decide +kernel)
theorem LH.by {z L : Nat} {B : Nat → Int32} {σ τ : pS} (h : LH z σ τ) (b : BY z B L σ) : BY z B L τ := ⟨b.1, (h.1 1 0 (by omega) (by omega)).trans b.2.1, fun i hi => by
  rw [h.2 2 (by omega) (by omega)]
  exact b.2.2 i hi⟩
theorem LH.ct {z L f : Nat} {B : Nat → Int32} {σ τ : pS} (h : LH z σ τ) (c : CT z B L f σ) : CT z B L f τ := by
  unfold CT at c ⊢
  rw [h.1 1 1 (by omega) (by omega), h.1 1 2 (by omega) (by omega), h.1 1 3 (by omega) (by omega), h.1 1 4 (by omega) (by omega)]
  exact c
theorem j_kind {N z y L f : Nat} {B : Nat → Int32} {τ1 τ2 : pS} (hN : 20000 < N) (w : JW z y B L f τ1 τ2) : (∃ c kd sg : Int32, (c = 0 ∨ c = 1 ∨ c = 2) ∧ kd = (if c = 2 then 1 else 0) ∧ sg = (if c = 1 then -1 else 1) ∧ f + 5 ≤ en ltr B L f ∧ fX1_takesKind N (G1 z) (z + 135) (z + 1) τ1 = some (1, putF (putF (putF τ1 (z + 135) 1 kd) (z + 135) 2 sg) (z + 135) 0 1) ∧ ∀ i, fX12_readLawLine N (G2 y) y i τ2 = fX12_readLawLine_b53 N (G2 y) y ((1233 : Int32) + ((4 : Int32) * i)) (y + 1) ((1233 : Int32) + ((4 : Int32) * i)) c τ2) ∨ (∃ υ, fX1_takesKind N (G1 z) (z + 135) (z + 1) τ1 = some (0, υ) ∧ LH z τ1 υ ∧ ∀ i, fX12_readLawLine N (G2 y) y i τ2 = fX12_readLawLine_b53 N (G2 y) y ((1233 : Int32) + ((4 : Int32) * i)) (y + 1) ((1233 : Int32) + ((4 : Int32) * i)) (-1) τ2) := by
  obtain ⟨b, c, hL, h11, h10, h12, e⟩ := w
  have n1 : ¬ (1 : Int32) = 0 := by decide
  have lh : ∀ kd sg : Int32, LH z τ1 (putF (putF (putF τ1 (z + 135) 1 kd) (z + 135) 2 sg) (z + 135) 0 1) := fun kd sg => ((LH.r.pf (Or.inl rfl)).pf (Or.inl rfl)).pf (Or.inl rfl)
  have c16 := c_isWord (sid := 16) hN b c (by rw [l_16]; omega)
  have c17 := c_isWord (sid := 17) hN b c (by rw [l_17]; omega)
  have c18 : ∀ υ, LH z τ1 υ → ((wdP B (en ltr B L f) f 18 ∧ fX9_isWord N (G1 z) (z + 1) 18 υ = some 1) ∨ (¬ wdP B (en ltr B L f) f 18 ∧ fX9_isWord N (G1 z) (z + 1) 18 υ = some 0)) := fun υ h => c_isWord (sid := 18) hN (h.by b) (h.ct c) (by rw [l_18]; omega)
  have r60 := r_isWord (N := N) (y := y) (sid := 60) (τ := τ2) hN h10 h12 en_le (Nat.le_trans (en_L c.1) hL)
  have r61 := r_isWord (N := N) (y := y) (sid := 61) (τ := τ2) hN h10 h12 en_le (Nat.le_trans (en_L c.1) hL)
  have r62 := r_isWord (N := N) (y := y) (sid := 62) (τ := τ2) hN h10 h12 en_le (Nat.le_trans (en_L c.1) hL)
  rw [e, ← wdP_same sw_sting] at r60
  rw [e, ← wdP_same sw_blunt] at r61
  rw [e, ← wdP_same sw_soothe] at r62
  unfold fX1_takesKind fX1_takesKind_b24 fX1_takesKind_b37 fX1_takesKind_b62
  unfold fX12_readLawLine
  simp only [g2r_0_1]
  by_cases w8 : wdP B (en ltr B L f) f 18
  · left
    have w6 : ¬ wdP B (en ltr B L f) f 16 := fun q => kw_c w8 q
    have w7 : ¬ wdP B (en ltr B L f) f 17 := fun q => kw_b w8 q
    have d16 : fX9_isWord N (G1 z) (z + 1) 16 τ1 = some 0 := c16.elim (fun q => absurd q.1 w6) (fun q => q.2)
    have d17 : fX9_isWord N (G1 z) (z + 1) 17 τ1 = some 0 := c17.elim (fun q => absurd q.1 w7) (fun q => q.2)
    have d18 : fX9_isWord N (G1 z) (z + 1) 18 (putF (putF (putF τ1 (z + 135) 1 0) (z + 135) 2 1) (z + 135) 0 1) = some 1 := (c18 _ (lh 0 1)).elim (fun q => q.2) (fun q => absurd w8 q.1)
    have e60 : fX12_isWord N (G2 y) y 60 τ2 = some 1 := r60.elim (fun q => q.2) (fun q => absurd w8 q.1)
    refine ⟨0, 0, 1, Or.inl rfl, rfl, rfl, ?_, ?_, fun i => ?_⟩
    · have := w8.1
      rw [l_18] at this
      omega
    · rw [d16, b_some, d17, b_some, if_pos rfl, if_pos rfl, if_pos rfl, if_pos rfl, d18, b_some, if_neg n1]
    · rw [e60, b_some, if_neg n1]
  have e60 : fX12_isWord N (G2 y) y 60 τ2 = some 0 := r60.elim (fun q => absurd q.1 w8) (fun q => q.2)
  by_cases w6 : wdP B (en ltr B L f) f 16
  · left
    have w7 : ¬ wdP B (en ltr B L f) f 17 := fun q => kw_a w6 q
    have d16 : fX9_isWord N (G1 z) (z + 1) 16 τ1 = some 1 := c16.elim (fun q => q.2) (fun q => absurd w6 q.1)
    have d17 : fX9_isWord N (G1 z) (z + 1) 17 τ1 = some 0 := c17.elim (fun q => absurd q.1 w7) (fun q => q.2)
    have e61 : fX12_isWord N (G2 y) y 61 τ2 = some 1 := r61.elim (fun q => q.2) (fun q => absurd w6 q.1)
    refine ⟨1, 0, -1, Or.inr (Or.inl rfl), rfl, rfl, ?_, ?_, fun i => ?_⟩
    · have := w6.1
      rw [l_16] at this
      omega
    · rw [d16, b_some, d17, b_some, if_pos rfl, if_neg n1, if_neg n1]
    · rw [e60, b_some, if_pos rfl, e61, b_some, if_neg n1]
  have d16 : fX9_isWord N (G1 z) (z + 1) 16 τ1 = some 0 := c16.elim (fun q => absurd q.1 w6) (fun q => q.2)
  have e61 : fX12_isWord N (G2 y) y 61 τ2 = some 0 := r61.elim (fun q => absurd q.1 w6) (fun q => q.2)
  by_cases w7 : wdP B (en ltr B L f) f 17
  · left
    have d17 : fX9_isWord N (G1 z) (z + 1) 17 τ1 = some 1 := c17.elim (fun q => q.2) (fun q => absurd w7 q.1)
    have e62 : fX12_isWord N (G2 y) y 62 τ2 = some 1 := r62.elim (fun q => q.2) (fun q => absurd w7 q.1)
    refine ⟨2, 1, 1, Or.inr (Or.inr rfl), rfl, rfl, ?_, ?_, fun i => ?_⟩
    · have := w7.1
      rw [l_17] at this
      omega
    · rw [d16, b_some, d17, b_some, if_neg n1, if_pos rfl, if_pos rfl, if_neg n1]
    · rw [e60, b_some, if_pos rfl, e61, b_some, if_pos rfl, e62, b_some, if_neg n1]
  · right
    have d17 : fX9_isWord N (G1 z) (z + 1) 17 τ1 = some 0 := c17.elim (fun q => absurd q.1 w7) (fun q => q.2)
    have d18 : fX9_isWord N (G1 z) (z + 1) 18 (putF (putF (putF τ1 (z + 135) 1 0) (z + 135) 2 1) (z + 135) 0 1) = some 0 := (c18 _ (lh 0 1)).elim (fun q => absurd q.1 w8) (fun q => q.2)
    have e62 : fX12_isWord N (G2 y) y 62 τ2 = some 0 := r62.elim (fun q => absurd q.1 w7) (fun q => q.2)
    refine ⟨_, ?_, lh 0 1, fun i => ?_⟩
    · rw [d16, b_some, d17, b_some, if_pos rfl, if_pos rfl, if_pos rfl, if_pos rfl, d18, b_some, if_pos rfl]
    · rw [e60, b_some, if_pos rfl, e61, b_some, if_pos rfl, e62, b_some, if_pos rfl]
theorem sg_v {c v : Int32} (hc : c = 0 ∨ c = 1 ∨ c = 2) : (if c = 1 then -1 else 1) * v = if c = 1 then 0 - v else v := by
  rcases hc with rfl | rfl | rfl
  · rw [if_neg (by decide), if_neg (by decide), Int32.one_mul]
  · rw [if_pos rfl, if_pos rfl, Int32.neg_mul, Int32.one_mul, Int32.zero_sub]
  · rw [if_neg (by decide), if_neg (by decide), Int32.one_mul]
theorem li_next {z y n : Nat} {τ1 τ2 υ1 υ2 : pS} {E C : List Int32} {R Rn : List (Int32 × Int32)} {c v kd sg : Int32} (h : LI z y n τ1 τ2 E R) (hc : c = 0 ∨ c = 1 ∨ c = 2) (hkd : kd = (if c = 2 then 1 else 0)) (hsg : sg = (if c = 1 then -1 else 1)) (hv : 0 ≤ v.toInt ∧ v.toInt ≤ 20) (e36 : υ1.2.1 (z + 36) = va_up (τ1.2.1 (z + 36)) n kd) (e37 : υ1.2.1 (z + 37) = va_up (τ1.2.1 (z + 37)) n (sg * v)) (e38 : υ1.2.1 (z + 38) = va_up (τ1.2.1 (z + 38)) n (nI (E ++ C).length)) (cl : CL z υ1 0 0 [] (E ++ C)) (e0 : υ1.1 (z + 35) 0 = nI (n + 1)) (re : RE y υ2 (R ++ Rn)) (w0 : υ2.2.1 (y + 1) (1233 + 4 * n) = c) (w1 : υ2.2.1 (y + 1) (1234 + 4 * n) = v) (w2 : υ2.2.1 (y + 1) (1235 + 4 * n) = nI R.length) (w3 : υ2.2.1 (y + 1) (1236 + 4 * n) = nI (R ++ Rn).length) (wo : ∀ k, k < 1233 + 4 * n → υ2.2.1 (y + 1) k = τ2.2.1 (y + 1) k) (hcd : (C = [] ∧ Rn = []) ∨ ∃ m, Cd Rn C m) (hl : (E ++ C).length ≤ 400) : LI z y (n + 1) υ1 υ2 (E ++ C) (R ++ Rn) := by
  obtain ⟨_, _, _, h4, h5⟩ := h
  refine ⟨e0, cl, re, ?_, fun i hi => ?_⟩
  · show (υ1.2.1 (z + 38) n).toInt.toNat = _
    rw [e38, va_up_self, nI_toInt (by omega)]
    rfl
  · by_cases q : i = n
    · subst q
      have eb : cB (υ1.2.1 (z + 38)) i = E.length := by
        rw [← h4, e38]
        cases i with
        | zero => rfl
        | succ i =>
          show (va_up (τ1.2.1 (z + 38)) (i + 1) (nI (E ++ C).length) i).toInt.toNat = (τ1.2.1 (z + 38) i).toInt.toNat
          rw [va_up_ne _ _ (by omega)]
      unfold LRow
      rw [w0, w1, w2, w3, e36, e37, va_up_self, va_up_self, hkd, hsg, sg_v hc, eb, e38, va_up_self]
      exact ⟨hc, hv, rfl, rfl, E, C, [], R, Rn, [], by rw [List.append_nil], by rw [List.append_nil], rfl, by rw [List.length_append], rfl, by rw [List.length_append], hcd⟩
    · exact (h5 i (by omega)).k (by rw [e36, va_up_ne _ _ q]) (by rw [e37, va_up_ne _ _ q]) (fun j hj => by rw [e38, va_up_ne _ _ (by omega)]) (fun k _ hk => wo k (by omega))
/-- what a good line owes -/
def LOk (N z y : Nat) (B : Nat → Int32) (L k n : Nat) (τ1 τ2 : pS) (E : List Int32) (R : List (Int32 × Int32)) (X : Option (Int32 × pS)) : Prop := ∃ υ2 k' p' τ1' υ1 C Rn, X = some (1, υ2) ∧ Rc N z k τ1 k' τ1' ∧ LG z τ1 τ1' ∧ JT z y B L p' τ1' υ2 ∧ FV y τ2 υ2 ∧ fX1_endsLine N (G1 z) (z + 135) (z + 35) τ1' = some (1, υ1) ∧ LH z τ1' υ1 ∧ LI z y (n + 1) υ1 υ2 (E ++ C) (R ++ Rn) ∧ k' ≤ p' ∧ (E ++ C).length ≤ p' ∧ (R ++ Rn).length ≤ p' ∧ (fX9_isSign N (G1 z) (z + 1) (59 : Int32) τ1' = some 1 → fX1_takes N (G1 z) (z + 135) (z + 1) (z + 35) τ1' = some (1, υ1)) ∧ (fX9_isSign N (G1 z) (z + 1) (59 : Int32) τ1' = some 0 → ∃ ψ, fX1_takes N (G1 z) (z + 135) (z + 1) (z + 35) τ1' = some (0, ψ) ∧ LH z τ1' ψ)
/-- what a bad line owes -/
def LNo (N z y k : Nat) (τ1 τ2 : pS) (X : Option (Int32 × pS)) : Prop := ∃ υ2 b, X = some (0, υ2) ∧ υ2.1 y 12 = nI b ∧ FlG N z k τ1 b ∧ FV y τ2 υ2
theorem isS_lq {N z L f s : Nat} {B : Nat → Int32} {τ υ : pS} {v : Int32} (b : BY z B L τ) (ct : CT z B L f τ) (lq : LQ z τ υ) (hs : sgnP s) (h : fX9_isSign N (G1 z) (z + 1) (nI s) τ = some v) : fX9_isSign N (G1 z) (z + 1) (nI s) υ = some v := by
  rw [c_isSign (lq.by b) (lq.ct ct) hs, ← c_isSign b ct hs]
  exact h
/-- behind a condition: a sign that ends the line, or a no -/
theorem c_behind {N z L f : Nat} {B : Nat → Int32} {τ τ' υ1 : pS} {P E : List Int32} (hN : 20000 < N) (b : BY z B L τ') (ct : CT z B L f τ') (ba : BA N z τ τ') (c : CL z τ' 8 0 P E) (hP : P ∈ ([[], [1012], [1013], [1012, 1013]] : List (List Int32))) (hE : E.length + 1 < 400) (w29 : fX9_isWord N (G1 z) (z + 1) 29 τ' = some 0) (w30 : fX9_isWord N (G1 z) (z + 1) 30 τ' = some 0) (he : fX1_endsLine_b14 N (G1 z) (z + 135) (z + 35) τ' = some (1, υ1)) : (fX9_isSign N (G1 z) (z + 1) (59 : Int32) τ' = some 1 → fX1_takes N (G1 z) (z + 135) (z + 1) (z + 35) τ = some (1, υ1)) ∧ (fX9_isSign N (G1 z) (z + 1) (59 : Int32) τ' = some 0 → ∃ ψ, fX1_takes N (G1 z) (z + 135) (z + 1) (z + 35) τ = some (0, ψ) ∧ LH z τ ψ) := by
  have n1 : ¬ (1 : Int32) = 0 := by decide
  refine ⟨fun s => ?_, fun s => ?_⟩
  · rw [ba.2.1]
    unfold fX1_takesJoint fX1_endsLine
    rw [s, b_some, if_neg n1, c.1, if_neg (show ¬ (8 : Int32) = 7 by decide), he, b_some]
    rfl
  · obtain ⟨υa, υb, g1, g2, lq, cc⟩ := c_rel2 (N := N) (W := []) (by rw [List.append_nil]; exact c) hP (by decide) (by decide) (by show 2 ≤ 20; omega) hE
    have w30' := isW_lq hN b ct lq (by decide +kernel) w30
    have ci := c_isSign (N := N) (lq.by b) (lq.ct ct) sg_41
    have ci : fX9_isSign N (G1 z) (z + 1) (41 : Int32) υb = some (if f < L ∧ B f = nI 41 then 1 else 0) := ci
    refine ⟨υb, ?_, ba.1.lh.t lq.lh⟩
    rw [ba.2.1]
    unfold fX1_takesJoint fX1_takesJoint_b42 fX1_takesJoint_b102 fX1_takesJoint_b103
    rw [s, b_some, if_pos rfl, w29, b_some, g1, b_some, if_pos rfl, g2, b_some, if_pos rfl, w30', b_some, if_pos rfl, ci, b_some]
    by_cases u : f < L ∧ B f = nI 41
    · rw [if_pos u, if_neg n1, c_top cc (by show 0 ≤ 20; omega), b_some, if_neg (show ¬ ([] : List Int32).headD (-1) = 2000 by decide), if_pos rfl]
      rfl
    · rw [if_neg u, if_pos rfl, if_pos rfl]
      rfl
theorem nI_2 {a : Nat} : nI a + 2 = nI (a + 2) := nI_add a 2
theorem nI_3 {a : Nat} : nI a + 3 = nI (a + 3) := nI_add a 3
theorem j_lawLine {N z y L p k n : Nat} {B : Nat → Int32} {τ1 τ2 : pS} {E : List Int32} {R : List (Int32 × Int32)} (hN : 20000 < N) (j : JT z y B L p τ1 τ2) (h : LI z y n τ1 τ2 E R) (hn : n < 12) (hk : k ≤ p) (hE : E.length ≤ p) (hR : R.length ≤ p) : LOk N z y B L k n τ1 τ2 E R (fX12_readLawLine N (G2 y) y (nI n) (PT y τ2 (en ltr B L (en blk B L p)) (en blk B L p))) ∨ LNo N z y k τ1 τ2 (fX12_readLawLine N (G2 y) y (nI n) (PT y τ2 (en ltr B L (en blk B L p)) (en blk B L p))) := by
  obtain ⟨l1, w⟩ := j.letters hN
  have n1 : ¬ (1 : Int32) = 0 := by decide
  have hL := j.1.1
  have pf : p ≤ en blk B L p := en_le
  have ec : (1233 : Int32) + 4 * nI n = nI (1233 + 4 * n) := by
    rw [show (1233 : Int32) = nI 1233 from rfl, show (4 : Int32) = nI 4 from rfl, nI_mul, nI_add]
  have st0 : τ1.1 (z + 135) 0 = 0 := h.2.1.1
  have h35 : τ1.1 (z + 35) 0 = nI n := h.1
  have n12 : ¬ (12 : Int32) ≤ nI n := lit_lt (m := 12) hn (by decide)
  generalize hf : en blk B L p = f at w pf ⊢
  have ctf : CT z B L f τ1 := w.2.1
  have from1 : τ1.1 (z + 1) 2 = nI f := ctf.2.1
  rcases j_kind hN w with ⟨c, kd, sg, hc, hkd, hsg, h5, tk, rl⟩ | ⟨υ, tk, lh, rl⟩
  · rw [rl, ec]
    -- the class takes the word
    have lha : LH z τ1 (putF (putF (putF τ1 (z + 135) 1 kd) (z + 135) 2 sg) (z + 135) 0 1) := ((LH.r.pf (Or.inl rfl)).pf (Or.inl rfl)).pf (Or.inl rfl)
    have wa : JW z y B L f (putF (putF (putF τ1 (z + 135) 1 kd) (z + 135) 2 sg) (z + 135) 0 1) (PT y τ2 (en ltr B L f) f) := ⟨lha.by w.1, lha.ct w.2.1, w.2.2⟩
    obtain ⟨ω1, x1, x2, x3⟩ := wa.adv hN (by omega)
    have fL : f < L := Classical.byContradiction (fun g => by
      rw [en_id (fun q => g q.1)] at h5
      omega)
    have kd1 : τ1.1 (z + 1) 1 ≠ 0 := by
      rw [ctf.2.2.1]
      exact fun q => (tkd_0.mp q) fL
    have t0 : fX1_takes N (G1 z) (z + 135) (z + 1) (z + 35) τ1 = some (1, putF (putF (putF τ1 (z + 135) 1 kd) (z + 135) 2 sg) (z + 135) 0 1) := by
      rw [takes_0 st0, h35, if_neg n12, tk, b_some]
      dsimp only
      rw [if_neg n1]
    have s1 : Rc N z k τ1 (k + 1) ω1 := Rc.step (by omega) kd1 t0 x1
    have lg1 : LG z τ1 ω1 := lha.lg.t x2.lxf.lg
    have cl1 : CL z ω1 1 0 [] E := x2.cl (((h.2.1.pf (k := 1) (by decide)).pf (k := 2) (by decide)).st)
    have q1 : ω1.1 (z + 135) 1 = kd := by
      rw [x2.1 _ _ (by omega), pf0n (by decide), pf0n (by decide), pf0]
    have q2 : ω1.1 (z + 135) 2 = sg := by
      rw [x2.1 _ _ (by omega), pf0n (by decide), pf0]
    have q35 : ω1.1 (z + 35) 0 = nI n := by
      rw [x2.1 _ _ (by omega), pf_o (by omega), pf_o (by omega), pf_o (by omega)]
      exact h35
    have qA : ω1.2.1 = τ1.2.1 := by
      rw [x2.2]
      rfl
    generalize hpa : en ltr B L f = pa at x3 h5 ⊢
    have j2 : JT z y B L pa ω1 (sA (PT y τ2 pa f) (y + 1) (nI (1233 + 4 * n)) c) := x3.sa
    have c0 : (0 : Int32) ≤ c := by
      rcases hc with rfl | rfl | rfl <;> decide
    have rn := r_number (N := N) (y := y) (lo := 0) (hi := 20) hN j2.2.2.1 j2.2.2.2
    have cn := c_numIn (N := N) (lo := 0) (hi := 20) j2.2.1 (by decide)
    have paf : pa ≤ en blk B L pa := en_le
    generalize hf2 : en blk B L pa = f2 at rn cn paf
    have ct2 : CT z B L f2 ω1 := by
      rw [← hf2]
      exact j2.2.1
    unfold fX12_readLawLine_b53
    simp only [g2r_0_1, g2n_1]
    rw [ck_nI (by omega) (by omega), ck_nI (by omega) (by omega), gA_nI (by omega), sA_w (n := 1233 + 4 * n) (nI_clamp (by omega)), va_up_self, if_pos c0, rn, b_some, nI_1, nI_2, ck_nI (by omega) (by omega), ck_nI (by omega) (by omega), gA_nI (by omega), sA_w (n := 1233 + 4 * n + 1) (nI_clamp (by omega)), va_up_self]
    dsimp only
    by_cases q : rv B 0 20 f2 (en dgt B L f2) = -1
    · right
      rw [q, if_neg (show ¬ (0 : Int32) ≤ -1 by decide)]
      refine ⟨_, f2, rfl, PT_f12, s1.flg lg1 ?_, (FZ.pt.fv.t (FV.sa (by omega))).t (FZ.pt.fv.t (FV.sa (by omega)))⟩
      by_cases kz : ω1.1 (z + 1) 1 = 0
      · exact (Fl.end (by omega) kz (by rw [cl1.1]; decide) ct2.2.1).g
      · have fk : f2 < L := Classical.byContradiction (fun g => kz (by
          rw [ct2.2.2.1]
          exact tkd_0.mpr g))
        refine FlG.no (υ := putF (putF ω1 (z + 135) 3 (-1)) (z + 135) 0 2) (by omega) kz ?_ ?_ ?_
        · rw [takes_1 cl1.1, cn, b_some, q, pf0n (show 3 ≠ 0 by decide), pf0, if_pos rfl]
        · rw [pf_o (by omega), pf_o (by omega)]
          exact ct2.2.1
        · exact ((LH.r.pf (Or.inl rfl)).pf (Or.inl rfl)).lg
    · obtain ⟨v0, v20, k2, e3, lt2⟩ := rv_ok q
      generalize hv : rv B 0 20 f2 (en dgt B L f2) = v at v0 v20 q cn ⊢
      have hvv : 0 ≤ v.toInt ∧ v.toInt ≤ 20 := by
        rw [i_le, show (0 : Int32).toInt = 0 from rfl] at v0
        rw [i_le, show (20 : Int32).toInt = 20 from rfl] at v20
        exact ⟨v0, v20⟩
      rw [if_pos v0]
      have e2L : en dgt B L f2 ≤ L := en_L ct2.1
      generalize he2 : en dgt B L f2 = e2 at e3 lt2 e2L ⊢
      have kd2 : ω1.1 (z + 1) 1 ≠ 0 := by
        rw [ct2.2.2.1, k2]
        decide
      have t1 : fX1_takes N (G1 z) (z + 135) (z + 1) (z + 35) ω1 = some (1, putF (putF ω1 (z + 135) 3 v) (z + 135) 0 2) := by
        rw [takes_1 cl1.1, cn, b_some, pf0n (show 3 ≠ 0 by decide), pf0, if_neg q]
      have lhb : LH z ω1 (putF (putF ω1 (z + 135) 3 v) (z + 135) 0 2) := (LH.r.pf (Or.inl rfl)).pf (Or.inl rfl)
      obtain ⟨ω2, y1, y2, y3⟩ := c_adv (N := N) (q := e2) hN (lhb.by j2.1) e2L (by
        rw [pf_o (by omega), pf_o (by omega), ct2.2.2.2.1, e3])
      have s2 : Rc N z k τ1 (k + 1 + 1) ω2 := s1.t (Rc.step (by omega) kd2 t1 y1)
      have lg2 : LG z τ1 ω2 := (lg1.t lhb.lg).t y2.lxf.lg
      have cl2 : CL z ω2 2 0 [] E := y2.cl ((cl1.pf (k := 3) (by decide)).st)
      have r1 : ω2.1 (z + 135) 1 = kd := by
        rw [y2.1 _ _ (by omega), pf0n (by decide), pf0n (by decide)]
        exact q1
      have r2 : ω2.1 (z + 135) 2 = sg := by
        rw [y2.1 _ _ (by omega), pf0n (by decide), pf0n (by decide)]
        exact q2
      have r3 : ω2.1 (z + 135) 3 = v := by
        rw [y2.1 _ _ (by omega), pf0n (by decide), pf0]
      have r35 : ω2.1 (z + 35) 0 = nI n := by
        rw [y2.1 _ _ (by omega), pf_o (by omega), pf_o (by omega)]
        exact q35
      have rA : ω2.2.1 = τ1.2.1 := by
        rw [y2.2]
        exact qA
      have e16 : (sA (PT y (sA (PT y τ2 pa f) (y + 1) (nI (1233 + 4 * n)) c) e2 f2) (y + 1) (nI (1233 + 4 * n + 1)) v).1 y 16 = nI R.length := by
        rw [sa1, PT_fo (by decide) (by decide), sa1, PT_fo (by decide) (by decide)]
        exact h.2.2.1.1
      rw [e16, ck_nI (by omega) (by omega)]
      have ja : JT z y B L e2 ω2 (PT y (sA (PT y τ2 pa f) (y + 1) (nI (1233 + 4 * n)) c) e2 f2) := ⟨y2.by (lhb.by j2.1), y3, j2.2.2.1.pt e2L, j2.2.2.2⟩
      have rea : RE y (sA (sA (PT y (sA (PT y τ2 pa f) (y + 1) (nI (1233 + 4 * n)) c) e2 f2) (y + 1) (nI (1233 + 4 * n + 1)) v) (y + 1) (nI (1233 + 4 * n + 2)) (nI R.length)) R := ((((h.2.2.1.pt).sa (by omega)).pt).sa (by omega)).sa (by omega)
      have fva : FV y τ2 (putF (sA (sA (PT y (sA (PT y τ2 pa f) (y + 1) (nI (1233 + 4 * n)) c) e2 f2) (y + 1) (nI (1233 + 4 * n + 1)) v) (y + 1) (nI (1233 + 4 * n + 2)) (nI R.length)) y 13 0) := ((((FZ.pt.fv.t (FV.sa (by omega))).t FZ.pt.fv).t (FV.sa (by omega))).t (FV.sa (by omega))).t FZ.p13.fv
      have rowd : (putF (sA (sA (PT y (sA (PT y τ2 pa f) (y + 1) (nI (1233 + 4 * n)) c) e2 f2) (y + 1) (nI (1233 + 4 * n + 1)) v) (y + 1) (nI (1233 + 4 * n + 2)) (nI R.length)) y 13 0).2.1 (y + 1) = va_up (va_up (va_up (τ2.2.1 (y + 1)) (1233 + 4 * n) c) (1233 + 4 * n + 1) v) (1233 + 4 * n + 2) (nI R.length) := by
        rw [pfA, sA_w (n := 1233 + 4 * n + 2) (nI_clamp (by omega)), sA_w (n := 1233 + 4 * n + 1) (nI_clamp (by omega)), show (PT y (sA (PT y τ2 pa f) (y + 1) (nI (1233 + 4 * n)) c) e2 f2).2.1 (y + 1) = (sA (PT y τ2 pa f) (y + 1) (nI (1233 + 4 * n)) c).2.1 (y + 1) from rfl, sA_w (n := 1233 + 4 * n) (nI_clamp (by omega))]
        rfl
      have jd : JT z y B L e2 ω2 (putF (sA (sA (PT y (sA (PT y τ2 pa f) (y + 1) (nI (1233 + 4 * n)) c) e2 f2) (y + 1) (nI (1233 + 4 * n + 1)) v) (y + 1) (nI (1233 + 4 * n + 2)) (nI R.length)) y 13 0) := ja.sa.sa.p13
      have red := rea.p13 (v := 0)
      have h13 : (putF (sA (sA (PT y (sA (PT y τ2 pa f) (y + 1) (nI (1233 + 4 * n)) c) e2 f2) (y + 1) (nI (1233 + 4 * n + 1)) v) (y + 1) (nI (1233 + 4 * n + 2)) (nI R.length)) y 13 0).1 y 13 = nI 0 := pf0
      generalize (putF (sA (sA (PT y (sA (PT y τ2 pa f) (y + 1) (nI (1233 + 4 * n)) c) e2 f2) (y + 1) (nI (1233 + 4 * n + 1)) v) (y + 1) (nI (1233 + 4 * n + 2)) (nI R.length)) y 13 0) = σd at fva rowd jd red h13 ⊢
      -- what is left, behind the condition
      have fin : ∀ (υc : pS) (Rn : List (Int32 × Int32)) (C : List Int32) (τ1' υ1 : pS) (k' p' : Nat), FZ y σd υc → RE y υc (R ++ Rn) → Rc N z k τ1 k' τ1' → LG z τ1 τ1' → JT z y B L p' τ1' υc → fX1_endsLine N (G1 z) (z + 135) (z + 35) τ1' = some (1, υ1) → LH z τ1' υ1 → CL z υ1 0 0 [] (E ++ C) → υ1.1 (z + 35) 0 = nI (n + 1) → υ1.2.1 (z + 36) = va_up (τ1.2.1 (z + 36)) n kd → υ1.2.1 (z + 37) = va_up (τ1.2.1 (z + 37)) n (sg * v) → υ1.2.1 (z + 38) = va_up (τ1.2.1 (z + 38)) n (nI (E ++ C).length) → ((C = [] ∧ Rn = []) ∨ ∃ m, Cd Rn C m) → k' ≤ p' → (E ++ C).length ≤ p' → (R ++ Rn).length ≤ p' → (fX9_isSign N (G1 z) (z + 1) (59 : Int32) τ1' = some 1 → fX1_takes N (G1 z) (z + 135) (z + 1) (z + 35) τ1' = some (1, υ1)) → (fX9_isSign N (G1 z) (z + 1) (59 : Int32) τ1' = some 0 → ∃ ψ, fX1_takes N (G1 z) (z + 135) (z + 1) (z + 35) τ1' = some (0, ψ) ∧ LH z τ1' ψ) → LOk N z y B L k n τ1 τ2 E R (fX12_readLawLine_b128 N (G2 y) y (nI (1233 + 4 * n)) υc) := by
        intro υc Rn C τ1' υ1 k' p' fz re rc0 lg jt en' lh' cl e0 e36 e37 e38 hcd hk' hE' hR' t59 t60
        unfold fX12_readLawLine_b128
        simp only [g2r_0_1, g2n_1]
        rw [nI_3, ck_nI (by omega) (by omega), re.1]
        have p'L := jt.2.2.1.2.1
        have row : ∀ i, i < 1281 → i ≠ 1233 + 4 * n + 3 → (sA υc (y + 1) (nI (1233 + 4 * n + 3)) (nI (R ++ Rn).length)).2.1 (y + 1) i = va_up (va_up (va_up (τ2.2.1 (y + 1)) (1233 + 4 * n) c) (1233 + 4 * n + 1) v) (1233 + 4 * n + 2) (nI R.length) i := fun i hi hne => by
          rw [sA_w (n := 1233 + 4 * n + 3) (nI_clamp (by omega)), va_up_ne _ _ hne, fz.2.2 i hi, rowd]
        refine ⟨_, k', p', τ1', υ1, C, Rn, rfl, rc0, lg, jt.sa, (fva.t fz.fv).t (FV.sa (by omega)), en', lh', ?_, hk', hE', hR', t59, t60⟩
        refine li_next h hc hkd hsg hvv e36 e37 e38 cl e0 (re.sa (by omega)) ?_ ?_ ?_ ?_ (fun i hi => ?_) hcd (by omega)
        · rw [row _ (by omega) (by omega), va_up_ne _ _ (by omega), va_up_ne _ _ (by omega), va_up_self]
        · rw [row _ (by omega) (by omega), va_up_ne _ _ (by omega), show 1234 + 4 * n = 1233 + 4 * n + 1 by omega, va_up_self]
        · rw [row _ (by omega) (by omega), show 1235 + 4 * n = 1233 + 4 * n + 2 by omega, va_up_self]
        · rw [show 1236 + 4 * n = 1233 + 4 * n + 3 by omega, sA_w (n := 1233 + 4 * n + 3) (nI_clamp (by omega)), va_up_self]
        · rw [row _ (by omega) (by omega), va_up_ne _ _ (by omega), va_up_ne _ _ (by omega), va_up_ne _ _ (by omega)]
      rcases jd.ps hN sw_if with ⟨hl, w19, p63, adv⟩ | ⟨w19, p63, jn⟩
      · -- a condition
        obtain ⟨ω3, z1, z2, z3⟩ := adv (putF ω2 (z + 135) 0 3) (LQ.r.pf (by omega))
        rw [p63, b_some]
        dsimp only
        rw [if_neg n1]
        have len2 : en ltr B L (en blk B L e2) = en blk B L e2 + 2 := by
          rcases c_isWord (sid := 19) hN jd.1 jd.2.1 (by rw [l_19]; omega) with ⟨a, _⟩ | ⟨_, a⟩
          · have := a.1
            rw [l_19] at this
            exact this
          · rw [w19] at a
            exact absurd a (by decide)
        have e2f : e2 ≤ en blk B L e2 := en_le
        have f3L : en blk B L e2 < L := Classical.byContradiction (fun g => by
          rw [en_id (P := ltr) (fun q => g q.1)] at hl
          omega)
        have kd3 : ω2.1 (z + 1) 1 ≠ 0 := by
          rw [jd.2.1.2.2.1]
          exact fun q => (tkd_0.mp q) f3L
        have t2 : fX1_takes N (G1 z) (z + 135) (z + 1) (z + 35) ω2 = some (1, putF ω2 (z + 135) 0 3) := by
          rw [takes_2 cl2.1, w19, b_some, if_neg n1]
        have s3 : Rc N z k τ1 (k + 1 + 1 + 1) ω3 := s2.t (Rc.step (by omega) kd3 t2 z1)
        have lg3 : LG z τ1 ω3 := (lg2.t (LH.r.pf (Or.inl rfl)).lg).t z2.lxf.lg
        have cl3 : CL z ω3 3 0 [] E := z2.cl cl2.st
        have u35 : ω3.1 (z + 35) 0 = nI n := by
          rw [z2.1 _ _ (by omega), pf_o (by omega)]
          exact r35
        have u1 : ω3.1 (z + 135) 1 = kd := by
          rw [z2.1 _ _ (by omega), pf0n (by decide)]
          exact r1
        have u2 : ω3.1 (z + 135) 2 = sg := by
          rw [z2.1 _ _ (by omega), pf0n (by decide)]
          exact r2
        have u3 : ω3.1 (z + 135) 3 = v := by
          rw [z2.1 _ _ (by omega), pf0n (by decide)]
          exact r3
        have uA : ω3.2.1 = τ1.2.1 := by
          rw [z2.2]
          exact rA
        have hp3 : p + 8 ≤ en ltr B L (en blk B L e2) := by omega
        rcases j_cond (k := k + 1 + 1 + 1) (d := 0) (W := []) hN (atom_r hN) (by omega) (by omega) (by decide) (by decide) (by decide) (by show 0 ≤ 3 * 0; omega) z3 cl3 red.pt (by rw [PT_fo (by decide) (by decide)]; exact h13) (by omega) (by show E.length + 0 + 8 ≤ _; omega) (by omega) with ⟨υ2, k', p', τa, τb, C0, P, Rm, nn, i1, i2, i3, i4, i5, i5', i6, i7, i8, i9, i10, i11, i12, i13, i14, i15, i16⟩ | ⟨υ2, b, i1, i2, i3, i4⟩
        · left
          rw [i1, b_some]
          dsimp only
          rw [if_neg n1]
          have i5 : CL z τb 8 0 P (E ++ C0) := by
            rw [List.append_nil] at i5
            exact i5
          have p'L := i9.2.2.1.2.1
          have hpl := ps_len i5'
          have lqf : ∀ o f, ¬ (o = 1 ∧ 1 ≤ f) → ¬ (o = 135 ∧ (f = 0 ∨ f = 4 ∨ f = 5 ∨ f = 6)) → ¬ (o = 35 ∧ f = 1) → τb.1 (z + o) f = ω3.1 (z + o) f := fun o f a b c => (i4.1.1 o f b c).trans (i3.1 o f a b c)
          have lqa : ∀ o, o ≠ 136 → o ≠ 39 → τb.2.1 (z + o) = τ1.2.1 (z + o) := fun o a b => by
            rw [i4.1.2 o a b, i3.2 o a b, uA]
          have hlE : (E ++ C0).length + 1 < 400 := by
            rw [List.length_append]
            omega
          obtain ⟨υ1, g1, g2, g3, g4, g5, g6, g7⟩ := c_ends (N := N) i5 (Or.inr rfl) i5' hlE ((lqf 35 0 (by omega) (by omega) (by omega)).trans u35) hn
          have s59 := c_isSign (N := N) i9.1 i9.2.1 sg_59
          have s59 : fX9_isSign N (G1 z) (z + 1) (59 : Int32) τb = some (if en blk B L p' < L ∧ B (en blk B L p') = nI 59 then 1 else 0) := s59
          have ja' : JT z y B L p' τa υ2 := i9.lq' i4.1
          have s59' := c_isSign (N := N) ja'.1 ja'.2.1 sg_59
          have s59' : fX9_isSign N (G1 z) (z + 1) (59 : Int32) τa = some (if en blk B L p' < L ∧ B (en blk B L p') = nI 59 then 1 else 0) := s59'
          have cb := c_behind (τ := τa) hN i9.1 i9.2.1 i4 i5 i5' hlE (i16 29 (by simp)) (i16 30 (by simp)) g1
          rw [s59, ← s59'] at cb
          refine fin υ2 Rm (C0 ++ P) τa υ1 k' p' (FZ.pt.t i10) i8 (s3.t i2) (lg3.t i3.lg) ja' (i4.2.2.trans g1) (i4.1.lh.t g2) (by rw [← List.append_assoc]; exact g3) g4 ?_ ?_ ?_ (Or.inr ⟨nn, i6⟩) i12 ?_ ?_ cb.1 cb.2
          · rw [g5, lqa 36 (by omega) (by omega), lqf 135 1 (by omega) (by omega) (by omega), u1]
          · rw [g6, lqa 37 (by omega) (by omega), lqf 135 2 (by omega) (by omega) (by omega), lqf 135 3 (by omega) (by omega) (by omega), u2, u3]
          · rw [g7, lqa 38 (by omega) (by omega), List.append_assoc]
          · rw [List.length_append, List.length_append]
            omega
          · rw [List.length_append]
            omega
        · right
          rw [i1, b_some]
          dsimp only
          rw [if_pos rfl]
          exact ⟨υ2, b, rfl, i2, s3.flg lg3 i3.g, (fva.t FZ.pt.fv).t i4.fv⟩
      · -- no condition
        left
        rw [p63, b_some]
        dsimp only
        rw [if_pos rfl]
        have e2f : e2 ≤ en blk B L e2 := en_le
        have f3L : en blk B L e2 ≤ L := en_L e2L
        obtain ⟨υ1, g1, g2, g3, g4, g5, g6, g7⟩ := c_ends (N := N) cl2 (Or.inl ⟨rfl, rfl⟩) (by simp) (by omega) r35 hn
        rw [List.append_nil] at g3 g7
        have el : fX1_endsLine N (G1 z) (z + 135) (z + 35) ω2 = some (1, υ1) := by
          unfold fX1_endsLine
          rw [cl2.1, if_neg (show ¬ (2 : Int32) = 7 by decide), g1]
        refine fin (PT y σd (en blk B L e2) (en blk B L e2)) [] [] ω2 υ1 (k + 1 + 1) (en blk B L e2) FZ.pt ?_ s2 lg2 jn el g2 ?_ g4 ?_ ?_ ?_ (Or.inl ⟨rfl, rfl⟩) (by omega) ?_ ?_ (fun s => ?_) (fun s => ?_)
        · rw [List.append_nil]
          exact red.pt
        · rw [List.append_nil]
          exact g3
        · rw [g5, rA, r1]
        · rw [g6, rA, r2, r3]
        · rw [g7, rA, List.append_nil]
        · rw [List.append_nil]
          omega
        · rw [List.append_nil]
          omega
        · rw [takes_2 cl2.1, w19, b_some, if_pos rfl, s, b_some, if_neg n1, el, b_some]
          dsimp only
          rw [if_neg n1]
        · refine ⟨ω2, ?_, LH.r⟩
          rw [takes_2 cl2.1, w19, b_some, if_pos rfl, s, b_some, if_pos rfl]
  · right
    rw [rl, ec]
    unfold fX12_readLawLine_b53
    simp only [g2r_0_1, g2n_1]
    rw [ck_nI (by omega) (by omega), ck_nI (by omega) (by omega), gA_nI (by omega), sA_w (n := 1233 + 4 * n) (nI_clamp (by omega)), va_up_self, if_neg (show ¬ (0 : Int32) ≤ -1 by decide)]
    refine ⟨_, f, rfl, PT_f12, ?_, FZ.pt.fv.t (FV.sa (by omega))⟩
    by_cases kz : τ1.1 (z + 1) 1 = 0
    · have hfL := ctf.1
      exact (Fl.end (by omega) kz (by rw [st0]; decide) from1).g
    · have fk : f < L := Classical.byContradiction (fun g => kz (by
        rw [ctf.2.2.1]
        exact tkd_0.mpr g))
      refine FlG.no (υ := υ) (by omega) kz ?_ ((lh.1 1 2 (by omega) (by omega)).trans from1) lh.lg
      rw [takes_0 st0, h35, if_neg n12, tk, b_some]
      dsimp only
      rw [if_pos rfl]
