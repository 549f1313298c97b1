/-! the law's texts: comparisons -/
theorem sg_60 : sgnP 60 := by
  unfold sgnP
  decide +kernel
theorem sg_62 : sgnP 62 := by
  unfold sgnP
  decide +kernel
/-- behind an atom: as if the atom were ended -/
def BA (N z : Nat) (τ υ : pS) : Prop := LQ z τ υ ∧ fX1_takes N (G1 z) (z + 135) (z + 1) (z + 35) τ = ((fX1_takesJoint N (G1 z) (z + 135) (z + 1) (z + 35) υ).bind (fun q => ck (isZ q.1) (some (q.1, q.2)))) ∧ fX1_endsLine N (G1 z) (z + 135) (z + 35) τ = fX1_endsLine_b14 N (G1 z) (z + 135) (z + 35) υ
theorem BA.r8 {N z : Nat} {τ : pS} (h : τ.1 (z + 135) 0 = 8) : BA N z τ τ := by
  refine ⟨LQ.r, takes_8 h, ?_⟩
  unfold fX1_endsLine
  rw [h, if_neg (by decide)]
theorem BA.r7 {N z : Nat} {τ υ : pS} (h : τ.1 (z + 135) 0 = 7) (h2 : fX9_isSign N (G1 z) (z + 1) (43 : Int32) τ = some 0) (h3 : fX1_endAtom N (G1 z) (z + 135) (z + 35) τ = some υ) (lq : LQ z τ υ) : BA N z τ υ := by
  refine ⟨lq, ?_, ?_⟩
  · rw [takes_7 h, h2, b_some, if_pos rfl, h3, b_some]
  · unfold fX1_endsLine
    rw [h, if_pos rfl, h3, b_some]
def AF (N z y k : Nat) (τ1 τ2 : pS) (X : Option (Int32 × pS)) : Prop := ∃ υ2 b, X = some (0, υ2) ∧ υ2.1 y 12 = nI b ∧ Fl N z k τ1 b ∧ FZ y τ2 υ2
def AS (N z y : Nat) (B : Nat → Int32) (L k : Nat) (τ1 τ2 : pS) (d : Nat) (W0 E : List Int32) (R : List (Int32 × Int32)) (j a p : Nat) (X : Option (Int32 × pS)) : Prop := ∃ υ2 k' p' τ1' τ1'' C Rn n, X = some (1, υ2) ∧ Rc N z k τ1 k' τ1' ∧ LXf z τ1 τ1' ∧ BA N z τ1' τ1'' ∧ CL z τ1'' 8 d W0 (E ++ C ++ List.replicate j 1011) ∧ Cd Rn C n ∧ n ≤ a ∧ RE y υ2 (R ++ Rn) ∧ JT z y B L p' τ1'' υ2 ∧ FZ y τ2 υ2 ∧ υ2.1 y 13 = τ2.1 y 13 ∧ k' ≤ p' ∧ C.length + p ≤ p' + 1 ∧ Rn.length + p ≤ p' ∧ p < p'
theorem JT.k {z y L p : Nat} {B : Nat → Int32} {τ1 τ2 : pS} (j : JT z y B L p τ1 τ2) (h : ¬ τ1.1 (z + 1) 1 = 0) : en blk B L p < L := Classical.byContradiction (fun g => h (by
  rw [j.2.1.2.2.1]
  exact tkd_0.mpr g))
theorem JT.em {z y L p : Nat} {B : Nat → Int32} {τ1 τ2 υ : pS} (j : JT z y B L p τ1 τ2) (m3 : FZ y τ2 υ) (m4 : ∀ k, k ≠ 16 → υ.1 y k = τ2.1 y k) : JT z y B L p τ1 υ := ⟨j.1, j.2.1, ⟨j.2.2.1.1, j.2.2.1.2.1, (m4 11 (by decide)).trans j.2.2.1.2.2.1, (m4 10 (by decide)).trans j.2.2.1.2.2.2⟩, (m3.2.1 6 (by decide)).trans j.2.2.2⟩
/-- a whole sum; the class's part is taken by `tk` -/
theorem j_wsum {N z y L d p k : Nat} {B : Nat → Int32} {s : Int32} {W E : List Int32} {R : List (Int32 × Int32)} {τ1 τ2 : pS} (hN : 20000 < N) (j : JT z y B L p τ1 τ2) (c : CL z τ1 s d W E) (r : RE y τ2 R) (hs : s = 3 ∨ s = 6) (ta : s = 3 → fX1_takesAtom N (G1 z) (z + 135) (z + 1) (z + 35) τ1 = some (0, τ1)) (hk : k ≤ p) (hE : E.length + 1 ≤ p) (hR : R.length + 8 ≤ p) : (∃ k' p' τ1' υ2 a l, fX12_readSum N (G2 y) y τ2 = some (1, υ2) ∧ a < 1006 ∧ (∀ q ∈ l, q < 1006) ∧ Rc N z k τ1 k' τ1' ∧ LXf z τ1 τ1' ∧ CL z τ1' (if s = 6 then 7 else 5) d W (E ++ (nI a :: l.map nI)) ∧ τ1'.1 (z + 135) 4 = τ1.1 (z + 135) 4 ∧ RE y υ2 (R ++ (ptE a :: sEt l)) ∧ JT z y B L p' τ1' υ2 ∧ k' ≤ p' ∧ 2 * l.length + 1 + p ≤ p' ∧ FZ y τ2 υ2 ∧ υ2.1 y 13 = τ2.1 y 13 ∧ ¬ (en blk B L p' < L ∧ B (en blk B L p') = nI 43)) ∨ AF N z y k τ1 τ2 (fX12_readSum N (G2 y) y τ2) := by
  have hL := j.1.1
  have hp := j.2.2.1.2.1
  have n1 : ¬ (1 : Int32) = 0 := by decide
  have tk : ∀ x, (∀ v υ, x = some (v, υ) → (v = 0 ∨ v = 1)) → fX1_takesPart N (G1 z) (z + 135) (z + 1) (z + 35) τ1 = x → fX1_takes N (G1 z) (z + 135) (z + 1) (z + 35) τ1 = x := by
    intro x hx e
    rcases hs with e3 | e6
    · rw [takes_3 (c.1.trans e3), ta e3, b_some]
      dsimp only
      rw [if_pos rfl, e]
      cases x with
      | none => rfl
      | some x =>
        obtain ⟨v, υ⟩ := x
        rw [b_some]
        dsimp only
        rcases hx v υ rfl with e | e
        · rw [e, if_pos rfl]
        · rw [e, if_neg n1]
          rfl
    · rw [takes_6 (c.1.trans e6), e]
      cases x with
      | none => rfl
      | some x =>
        obtain ⟨v, υ⟩ := x
        rw [b_some]
        dsimp only
        rcases hx v υ rfl with e | e <;> rw [e] <;> rfl
  unfold fX12_readSum fX12_readSum_b9
  rcases j_part hN j c r (by omega) (by omega) with ⟨q, υ1, ω, υ2, p4, q1, q2, q3, q4, q5, q6, q7, q8, q9, q10, q11, q12, q13⟩ | ⟨υ2, q1, q2, q3, q4⟩
  · rw [q7, b_some]
    dsimp only
    rw [if_neg n1]
    have fk := j.k q13
    have pf : p ≤ en blk B L p := en_le
    have st1 : Rc N z k τ1 (k + 1) ω := Rc.step (by omega) q13 (tk _ (fun v υ e => by injection e with e; injection e with e1 e2; exact Or.inr e1.symm) q2) q3
    have hS : (if s = 6 then (7 : Int32) else 5) = 5 ∨ (if s = 6 then (7 : Int32) else 5) = 7 := by
      by_cases e : s = 6
      · rw [if_pos e]
        exact Or.inr rfl
      · rw [if_neg e]
        exact Or.inl rfl
    have p4L := q9.2.2.1.2.1
    rcases j_sum (N := N) hN hS (L - p4) p4 (k + 1) N ω υ2 (E ++ [nI q]) (R ++ [ptE q]) (Nat.le_refl _) (by omega) q9 q5 q8 (by omega) (by rw [List.length_append]; show E.length + 1 + 1 ≤ p4; omega) (by rw [List.length_append]; show R.length + 1 + 8 ≤ p4; omega) with ⟨k', p', τ1', υ4, l, i1, i2, i3, i4, i5, i6, i7, i8, i9, i10, i11, i12, i13⟩ | ⟨υ4, b, i1, i2, i3, i4⟩
    · left
      refine ⟨k', p', τ1', υ4, q, l, i1, q1, i2, st1.t i3, q4.t i4, ?_, i6.trans q6, ?_, i8, by omega, by omega, q11.t i11, i12.trans q12, i13⟩
      · rw [show E ++ nI q :: l.map nI = E ++ [nI q] ++ l.map nI by rw [List.append_assoc]; rfl]
        exact i5
      · rw [show R ++ ptE q :: sEt l = R ++ [ptE q] ++ sEt l by rw [List.append_assoc]; rfl]
        exact i7
    · right
      exact ⟨υ4, b, i1, i2, st1.fl q4 i3, q11.t i4⟩
  · right
    rw [q2, b_some]
    dsimp only
    rw [if_pos rfl]
    refine ⟨υ2, en blk B L p, rfl, q4, ?_, q3⟩
    by_cases kz : τ1.1 (z + 1) 1 = 0
    · refine Fl.end (by omega) kz ?_ j.2.1.2.1
      rw [c.1]
      rcases hs with e | e <;> rw [e] <;> decide
    · have fk := j.k kz
      have pf : p ≤ en blk B L p := en_le
      exact Fl.no (by omega) kz (tk _ (fun v υ e => by injection e with e; injection e with e1 e2; exact Or.inl e1.symm) q1) j.2.1.2.1 LXf.r
