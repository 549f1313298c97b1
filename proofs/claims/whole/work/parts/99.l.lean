/-! the law's texts: steps of the reference; runs of the class; parts -/
def FZ (y : Nat) (τ υ : pS) : Prop := (∀ k, k ≠ 10 → k ≠ 12 → k ≠ 13 → k ≠ 16 → υ.1 y k = τ.1 y k) ∧ (∀ j, j ≠ 1 → υ.2.1 (y + j) = τ.2.1 (y + j)) ∧ ∀ k, k < 1281 → υ.2.1 (y + 1) k = τ.2.1 (y + 1) k
theorem FZ.r {y : Nat} {τ : pS} : FZ y τ τ := ⟨fun _ _ _ _ _ => rfl, fun _ _ => rfl, fun _ _ => rfl⟩
theorem FZ.t {y : Nat} {σ τ υ : pS} (h : FZ y σ τ) (g : FZ y τ υ) : FZ y σ υ := ⟨fun k a b c d => (g.1 k a b c d).trans (h.1 k a b c d), fun j a => (g.2.1 j a).trans (h.2.1 j a), fun k a => (g.2.2 k a).trans (h.2.2 k a)⟩
theorem FZ.pt {y p b : Nat} {τ : pS} : FZ y τ (PT y τ p b) := ⟨fun k a b _ _ => PT_fo a b, fun _ _ => rfl, fun _ _ => rfl⟩
theorem FZ.p13 {y : Nat} {τ : pS} {v : Int32} : FZ y τ (putF τ y 13 v) := ⟨fun k _ _ c _ => pf0n c, fun _ _ => rfl, fun _ _ => rfl⟩
/-- the reference's steps so far -/
def RE (y : Nat) (σ : pS) (R : List (Int32 × Int32)) : Prop := σ.1 y 16 = nI R.length ∧ ∀ i, i < R.length → σ.2.1 (y + 1) (1281 + 2 * i) = (R.getD i (0, 0)).1 ∧ σ.2.1 (y + 1) (1282 + 2 * i) = (R.getD i (0, 0)).2
theorem RE.pt {y p b : Nat} {σ : pS} {R : List (Int32 × Int32)} (h : RE y σ R) : RE y (PT y σ p b) R := ⟨by
  rw [PT_fo (by decide) (by decide)]
  exact h.1, h.2⟩
theorem RE.p13 {y : Nat} {σ : pS} {v : Int32} {R : List (Int32 × Int32)} (h : RE y σ R) : RE y (putF σ y 13 v) R := ⟨by
  rw [pf0n (by decide)]
  exact h.1, h.2⟩
theorem r_emits {N y : Nat} {σ : pS} {a b : Int32} {R : List (Int32 × Int32)} (h : RE y σ R) (hR : R.length < 400) : ∃ υ, fX12_emits N (G2 y) y a b σ = some υ ∧ RE y υ (R ++ [(a, b)]) ∧ FZ y σ υ ∧ (∀ k, k ≠ 16 → υ.1 y k = σ.1 y k) := by
  obtain ⟨h1, h2⟩ := h
  unfold fX12_emits
  simp only [g2r_0_1, g2r_0_2, g2r_0_3, g2r_0_4, g2r_0_5, g2r_0_8, g2r_0_15, g2r_0_17, g2r_0_25, g2r_0_26, g2r_0_27, g2r_0_28, g2n_1, g2n_2, g2n_3, g2n_4, g2n_5, g2n_6, g2n_7, g2n_8, g2n_9, g2n_10, g2n_11, g2n_12]
  rw [sa1, sa1, sa1, h1, nI_1, show (1281 : Int32) + 2 * nI R.length = nI (1281 + 2 * R.length) from by rw [show (1281 : Int32) = nI 1281 from rfl, show (2 : Int32) = nI 2 from rfl, nI_mul, nI_add], nI_1, ck_nI (by omega) (by omega), ck_nI (by omega) (by omega)]
  refine ⟨_, rfl, ⟨?_, fun i hi => ?_⟩, ⟨fun k _ _ _ d => pf0n d, fun j hj => ?_, fun k hk => ?_⟩, fun k hk => pf0n hk⟩
  · rw [pf0, List.length_append]
    rfl
  · rw [pfA, sA_w (n := 1281 + 2 * R.length + 1) (nI_clamp (by omega)), sA_w (n := 1281 + 2 * R.length) (nI_clamp (by omega))]
    rw [List.length_append] at hi
    have hi : i < R.length + 1 := hi
    by_cases q : i = R.length
    · rw [q, va_up_ne _ _ (by omega), va_up_self, show 1282 + 2 * R.length = 1281 + 2 * R.length + 1 by omega, va_up_self]
      simp [List.getD]
    · rw [va_up_ne _ _ (by omega), va_up_ne _ _ (by omega), va_up_ne _ _ (by omega), va_up_ne _ _ (by omega), show (R ++ [(a, b)]).getD i (0, 0) = R.getD i (0, 0) from by
        have : i < R.length := by omega
        simp [List.getD, List.getElem?_append_left this]]
      exact h2 i (by omega)
  · rw [pfA, sA_o (by omega), sA_o (by omega)]
  · rw [pfA, sA_w (n := 1281 + 2 * R.length + 1) (nI_clamp (by omega)), sA_w (n := 1281 + 2 * R.length) (nI_clamp (by omega)), va_up_ne _ _ (by omega), va_up_ne _ _ (by omega)]
/-- the class's loop over things -/
def lawB (N z : Nat) : (Int32 × pS → Option (Int32 × pS)) → Int32 × pS → Option (Int32 × pS) := fun (k34 : Int32 × pS → Option (Int32 × pS)) (b : Int32 × pS) => if (400 : Int32) ≤ b.1 then (fX1_reads_b69 N (G1 z) (z + 135) (z + 35) b.2) else (if (b.2.1 (z + 1) 1) = 0 then (fX1_reads_b69 N (G1 z) (z + 135) (z + 35) b.2) else ((fX1_takes N (G1 z) (z + 135) (z + 1) (z + 35) b.2).bind (fun q2 => if q2.1 = 0 then (some ((0 : Int32), q2.2)) else ((fX9_advance N (G1 z) (z + 1) q2.2).bind (fun q3 => k34 (b.1 + (1 : Int32), q3))))))
def Rc (N z k : Nat) (τ : pS) (k' : Nat) (τ' : pS) : Prop := ∀ M, 400 < M + k → ∃ M', M' + k' = M + k ∧ lp (lawB N z) M (nI k, τ) = lp (lawB N z) M' (nI k', τ')
theorem Rc.r {N z k : Nat} {τ : pS} : Rc N z k τ k τ := fun M _ => ⟨M, rfl, rfl⟩
theorem Rc.t {N z k k1 k2 : Nat} {τ τ1 τ2 : pS} (h : Rc N z k τ k1 τ1) (g : Rc N z k1 τ1 k2 τ2) : Rc N z k τ k2 τ2 := fun M hM => by
  obtain ⟨M1, a1, a2⟩ := h M hM
  obtain ⟨M2, b1, b2⟩ := g M1 (by omega)
  exact ⟨M2, by omega, a2.trans b2⟩
theorem Rc.step {N z k : Nat} {τ υ ω : pS} (hk : k < 400) (h1 : τ.1 (z + 1) 1 ≠ 0) (h2 : fX1_takes N (G1 z) (z + 135) (z + 1) (z + 35) τ = some (1, υ)) (h3 : fX9_advance N (G1 z) (z + 1) υ = some ω) : Rc N z k τ (k + 1) ω := fun M hM => by
  obtain ⟨M, rfl⟩ : ∃ M', M = M' + 1 := ⟨M - 1, by omega⟩
  refine ⟨M, by omega, ?_⟩
  show (if (400 : Int32) ≤ nI k then _ else (if (τ.1 (z + 1) 1) = 0 then _ else ((fX1_takes N (G1 z) (z + 135) (z + 1) (z + 35) τ).bind (fun q2 => if q2.1 = 0 then (some ((0 : Int32), q2.2)) else ((fX9_advance N (G1 z) (z + 1) q2.2).bind (fun q3 => lp (lawB N z) M (nI k + (1 : Int32), q3))))))) = _
  rw [if_neg (show ¬ (400 : Int32) ≤ nI k from lit_lt (m := 400) hk (by decide)), if_neg h1, h2, b_some]
  dsimp only
  rw [if_neg (show ¬ (1 : Int32) = 0 by decide), h3, b_some, nI_1]
/-- what the reading of a law may change, with the class -/
def LXf (z : Nat) (τ υ : pS) : Prop := (∀ o k, ¬ (o = 1 ∧ 1 ≤ k) → ¬ (o = 135 ∧ (k = 0 ∨ k = 4 ∨ k = 5 ∨ k = 6)) → ¬ (o = 35 ∧ k = 1) → υ.1 (z + o) k = τ.1 (z + o) k) ∧ ∀ o, o ≠ 136 → o ≠ 39 → υ.2.1 (z + o) = τ.2.1 (z + o)
theorem LXf.r {z : Nat} {τ : pS} : LXf z τ τ := ⟨fun _ _ _ _ _ => rfl, fun _ _ _ => rfl⟩
theorem LXf.t {z : Nat} {σ τ υ : pS} (h : LXf z σ τ) (g : LXf z τ υ) : LXf z σ υ := ⟨fun o k a b c => (g.1 o k a b c).trans (h.1 o k a b c), fun o a b => (g.2 o a b).trans (h.2 o a b)⟩
theorem LQ.lxf {z : Nat} {τ υ : pS} (h : LQ z τ υ) : LXf z τ υ := ⟨fun o k _ b c => h.1 o k b c, h.2⟩
theorem TF.lxf {z : Nat} {τ υ : pS} (h : TF z τ υ) : LXf z τ υ := ⟨fun o k a _ _ => h.1 _ _ (by omega), fun o _ _ => by rw [h.2]⟩
theorem TF.cl {z d : Nat} {τ υ : pS} {s : Int32} {W E : List Int32} (h : TF z τ υ) (c : CL z τ s d W E) : CL z υ s d W E := by
  unfold CL at c ⊢
  rw [h.1 (z + 135) 0 (by omega), h.1 (z + 135) 5 (by omega), h.1 (z + 135) 6 (by omega), h.1 (z + 35) 1 (by omega), h.2]
  exact c
/-- the class's loop ends with a no, standing at b -/
def Fl (N z k : Nat) (τ : pS) (b : Nat) : Prop := ∃ υ, (∀ M, 400 < M + k → lp (lawB N z) M (nI k, τ) = some (0, υ)) ∧ υ.1 (z + 1) 2 = nI b ∧ LXf z τ υ
theorem Rc.fl {N z k k1 b : Nat} {τ τ1 : pS} (h : Rc N z k τ k1 τ1) (x : LXf z τ τ1) (g : Fl N z k1 τ1 b) : Fl N z k τ b := by
  obtain ⟨υ, a1, a2, a3⟩ := g
  refine ⟨υ, fun M hM => ?_, a2, x.t a3⟩
  obtain ⟨M1, b1, b2⟩ := h M hM
  rw [b2]
  exact a1 M1 (by omega)
theorem Fl.no {N z k b : Nat} {τ υ : pS} (hk : k < 400) (h1 : τ.1 (z + 1) 1 ≠ 0) (h2 : fX1_takes N (G1 z) (z + 135) (z + 1) (z + 35) τ = some (0, υ)) (hb : υ.1 (z + 1) 2 = nI b) (x : LXf z τ υ) : Fl N z k τ b := by
  refine ⟨υ, fun M hM => ?_, hb, x⟩
  obtain ⟨M, rfl⟩ : ∃ M', M = M' + 1 := ⟨M - 1, by omega⟩
  show (if (400 : Int32) ≤ nI k then _ else (if (τ.1 (z + 1) 1) = 0 then _ else ((fX1_takes N (G1 z) (z + 135) (z + 1) (z + 35) τ).bind (fun q2 => if q2.1 = 0 then (some ((0 : Int32), q2.2)) else _)))) = _
  rw [if_neg (show ¬ (400 : Int32) ≤ nI k from lit_lt (m := 400) hk (by decide)), if_neg h1, h2, b_some]
  dsimp only
  rw [if_pos rfl]
/-- at the text's end, in the midst of a line -/
theorem Fl.end {N z k b : Nat} {τ : pS} (hk : k ≤ 400) (h1 : τ.1 (z + 1) 1 = 0) (h0 : τ.1 (z + 135) 0 ≠ 7 ∧ τ.1 (z + 135) 0 ≠ 2 ∧ τ.1 (z + 135) 0 ≠ 8) (hb : τ.1 (z + 1) 2 = nI b) : Fl N z k τ b := by
  refine ⟨τ, fun M hM => ?_, hb, LXf.r⟩
  have e : fX1_reads_b69 N (G1 z) (z + 135) (z + 35) τ = some (0, τ) := by
    unfold fX1_reads_b69 fX1_endsLine fX1_endsLine_b14
    rw [if_neg h0.1, if_neg h0.2.1, if_neg h0.2.2]
    rfl
  by_cases c : 0 < M
  · obtain ⟨M, rfl⟩ : ∃ M', M = M' + 1 := ⟨M - 1, by omega⟩
    show (if (400 : Int32) ≤ nI k then (fX1_reads_b69 N (G1 z) (z + 135) (z + 35) τ) else (if (τ.1 (z + 1) 1) = 0 then (fX1_reads_b69 N (G1 z) (z + 135) (z + 35) τ) else _)) = _
    rw [if_pos h1, e]
    by_cases q : (400 : Int32) ≤ nI k
    · rw [if_pos q]
    · rw [if_neg q]
  · omega
theorem c_numIn {N z L f : Nat} {B : Nat → Int32} {τ : pS} {lo hi : Int32} (c : CT z B L f τ) (hlo : 0 ≤ lo.toInt) : fX9_numberIn N (G1 z) (z + 1) lo hi τ = some (rv B lo hi f (en dgt B L f)) := by
  obtain ⟨_, h2, h1, h3, h4, _⟩ := c
  unfold fX9_numberIn
  rw [h1]
  by_cases k : tkd B L f = 2
  · have kk := tkd_2.mp k
    have g1 : en dgt B L f ≠ f := by
      rw [en_eq, if_pos kk]
      have := en_le (P := dgt) (B := B) (L := L) (p := f + 1)
      omega
    rw [if_pos k, h4 k]
    unfold rv tv
    rw [if_neg g1]
    by_cases c2 : 3 < en dgt B L f - f
    · rw [if_neg (show ¬ en dgt B L f - f ≤ 3 by omega), if_pos c2, if_pos (by rw [i_lt, show (-1 : Int32).toInt = -1 from rfl]; omega)]
    · rw [if_pos (show en dgt B L f - f ≤ 3 by omega), if_neg c2]
      by_cases c3 : dv B f (en dgt B L f - f) < lo
      · rw [if_pos c3, if_pos c3]
      · rw [if_neg c3, if_neg c3]
        by_cases c4 : dv B f (en dgt B L f - f) ≤ hi
        · rw [if_pos c4, if_neg (i_nlt.mpr c4)]
        · rw [if_neg c4, if_pos (i_nle.mp c4)]
  · rw [if_neg k, en_id (fun g => k (tkd_2.mpr g))]
    unfold rv
    rw [if_pos rfl]
theorem rv_ok {B : Nat → Int32} {L f : Nat} {lo hi : Int32} (q1 : rv B lo hi f (en dgt B L f) ≠ -1) : lo ≤ rv B lo hi f (en dgt B L f) ∧ rv B lo hi f (en dgt B L f) ≤ hi ∧ tkd B L f = 2 ∧ nx B L f = en dgt B L f ∧ f < en dgt B L f := by
  have k : tkd B L f = 2 := Classical.byContradiction (fun k => q1 (by
    rw [en_id (fun g => k (tkd_2.mpr g))]
    unfold rv
    rw [if_pos rfl]))
  have kk := tkd_2.mp k
  have nl : ¬ ltr (B f) = true := fun a => by
    rw [ld_no a] at kk
    cases kk.2
  have e3 : nx B L f = en dgt B L f := by
    unfold nx
    rw [if_pos kk.1, if_neg nl, if_pos kk.2]
  have g1 : f < en dgt B L f := by
    rw [en_eq, if_pos kk]
    have := en_le (P := dgt) (B := B) (L := L) (p := f + 1)
    omega
  have bd : lo ≤ rv B lo hi f (en dgt B L f) ∧ rv B lo hi f (en dgt B L f) ≤ hi := by
    unfold rv at q1 ⊢
    split at q1
    · exact absurd rfl q1
    · rename_i n1
      rw [if_neg n1]
      split at q1
      · exact absurd rfl q1
      · rename_i n2
        rw [if_neg n2]
        split at q1
        · exact absurd rfl q1
        · rename_i n3
          rw [if_neg n3]
          split at q1
          · rename_i n4
            rw [if_pos n4]
            exact ⟨i_nlt.mp n3, n4⟩
          · exact absurd rfl q1
  exact ⟨bd.1, bd.2, k, e3, g1⟩
theorem r_number {N y L p : Nat} {B : Nat → Int32} {τ : pS} {lo hi : Int32} (hN : 20000 < N) (r : RP y L p τ) (e : τ.2.1 (y + 6) = B) : fX12_number N (G2 y) y lo hi τ = some (rv B lo hi (en blk B L p) (en dgt B L (en blk B L p)), PT y τ (en dgt B L (en blk B L p)) (en blk B L p)) := by
  have l1 := r_blanks hN r
  rw [e] at l1
  have hL := r.1
  have hf : en blk B L p ≤ L := en_L r.2.1
  have rn := r_num (N := N) (y := y) (L := L) (f := en blk B L p) (B := B) (τ := τ) (lo := lo) (hi := hi) hL r.2.2.1 e (L - en blk B L p) (en blk B L p) N (Nat.le_refl _) (by omega) (Nat.le_refl _) hf
  rw [Nat.sub_self] at rn
  unfold fX12_number
  rw [l1, b_some]
  exact rn
