/-! the law's texts: sums -/
theorem takes_0 {N z : Nat} {τ : pS} (h : τ.1 (z + 135) 0 = 0) : fX1_takes N (G1 z) (z + 135) (z + 1) (z + 35) τ = (if (12 : Int32) ≤ (τ.1 (z + 35) 0) then (some ((0 : Int32), τ)) else ((fX1_takesKind N (G1 z) (z + 135) (z + 1) τ).bind (fun q2 => if q2.1 = 0 then (some ((0 : Int32), q2.2)) else (some ((1 : Int32), q2.2))))) := by
  unfold fX1_takes
  rw [h, if_pos rfl]
theorem takes_1 {N z : Nat} {τ : pS} (h : τ.1 (z + 135) 0 = 1) : fX1_takes N (G1 z) (z + 135) (z + 1) (z + 35) τ = ((fX9_numberIn N (G1 z) (z + 1) (0 : Int32) (20 : Int32) τ).bind (fun q3 => if ((putF (putF τ (z + 135) 3 q3) (z + 135) 0 (2 : Int32)).1 (z + 135) 3) = (-1 : Int32) then (some ((0 : Int32), putF (putF τ (z + 135) 3 q3) (z + 135) 0 (2 : Int32))) else (some ((1 : Int32), putF (putF τ (z + 135) 3 q3) (z + 135) 0 (2 : Int32))))) := by
  unfold fX1_takes
  rw [h, if_neg (show ¬ (1 : Int32) = 0 by decide), if_pos rfl]
theorem takes_2 {N z : Nat} {τ : pS} (h : τ.1 (z + 135) 0 = 2) : fX1_takes N (G1 z) (z + 135) (z + 1) (z + 35) τ = ((fX9_isWord N (G1 z) (z + 1) 19 τ).bind (fun q4 => if q4 = 0 then ((fX9_isSign N (G1 z) (z + 1) (59 : Int32) τ).bind (fun q5 => if q5 = 0 then (some ((0 : Int32), τ)) else ((fX1_endsLine N (G1 z) (z + 135) (z + 35) τ).bind (fun q6 => if q6.1 = 0 then (some ((0 : Int32), q6.2)) else (some ((1 : Int32), q6.2)))))) else (some ((1 : Int32), putF τ (z + 135) 0 (3 : Int32))))) := by
  unfold fX1_takes
  rw [h, if_neg (show ¬ (2 : Int32) = 0 by decide), if_neg (show ¬ (2 : Int32) = 1 by decide), if_pos rfl]
theorem takes_3 {N z : Nat} {τ : pS} (h : τ.1 (z + 135) 0 = 3) : fX1_takes N (G1 z) (z + 135) (z + 1) (z + 35) τ = ((fX1_takesAtom N (G1 z) (z + 135) (z + 1) (z + 35) τ).bind (fun q7 => if q7.1 = 0 then ((fX1_takesPart N (G1 z) (z + 135) (z + 1) (z + 35) q7.2).bind (fun q8 => if q8.1 = 0 then (some ((0 : Int32), q8.2)) else (fX1_takes_b162 N (G1 z) q8.2))) else (fX1_takes_b162 N (G1 z) q7.2))) := by
  unfold fX1_takes
  rw [h, if_neg (show ¬ (3 : Int32) = 0 by decide), if_neg (show ¬ (3 : Int32) = 1 by decide), if_neg (show ¬ (3 : Int32) = 2 by decide), if_pos rfl]
theorem takes_4 {N z : Nat} {τ : pS} (h : τ.1 (z + 135) 0 = 4) : fX1_takes N (G1 z) (z + 135) (z + 1) (z + 35) τ = ((fX1_takesPart N (G1 z) (z + 135) (z + 1) (z + 35) τ).bind (fun q9 => ck (isZ q9.1) (some (q9.1, q9.2)))) := by
  unfold fX1_takes
  rw [h, if_neg (show ¬ (4 : Int32) = 0 by decide), if_neg (show ¬ (4 : Int32) = 1 by decide), if_neg (show ¬ (4 : Int32) = 2 by decide), if_neg (show ¬ (4 : Int32) = 3 by decide), if_pos rfl]
theorem takes_5 {N z : Nat} {τ : pS} (h : τ.1 (z + 135) 0 = 5) : fX1_takes N (G1 z) (z + 135) (z + 1) (z + 35) τ = ((fX1_takesComparison N (G1 z) (z + 135) (z + 1) (z + 35) τ).bind (fun q10 => ck (isZ q10.1) (some (q10.1, q10.2)))) := by
  unfold fX1_takes
  rw [h, if_neg (show ¬ (5 : Int32) = 0 by decide), if_neg (show ¬ (5 : Int32) = 1 by decide), if_neg (show ¬ (5 : Int32) = 2 by decide), if_neg (show ¬ (5 : Int32) = 3 by decide), if_neg (show ¬ (5 : Int32) = 4 by decide), if_pos rfl]
theorem takes_6 {N z : Nat} {τ : pS} (h : τ.1 (z + 135) 0 = 6) : fX1_takes N (G1 z) (z + 135) (z + 1) (z + 35) τ = ((fX1_takesPart N (G1 z) (z + 135) (z + 1) (z + 35) τ).bind (fun q11 => ck (isZ q11.1) (some (q11.1, q11.2)))) := by
  unfold fX1_takes
  rw [h, if_neg (show ¬ (6 : Int32) = 0 by decide), if_neg (show ¬ (6 : Int32) = 1 by decide), if_neg (show ¬ (6 : Int32) = 2 by decide), if_neg (show ¬ (6 : Int32) = 3 by decide), if_neg (show ¬ (6 : Int32) = 4 by decide), if_neg (show ¬ (6 : Int32) = 5 by decide), if_pos rfl]
theorem takes_7 {N z : Nat} {τ : pS} (h : τ.1 (z + 135) 0 = 7) : fX1_takes N (G1 z) (z + 135) (z + 1) (z + 35) τ = ((fX9_isSign N (G1 z) (z + 1) (43 : Int32) τ).bind (fun q12 => if q12 = 0 then ((fX1_endAtom N (G1 z) (z + 135) (z + 35) τ).bind (fun q13 => (fX1_takesJoint N (G1 z) (z + 135) (z + 1) (z + 35) q13).bind (fun q14 => ck (isZ q14.1) (some (q14.1, q14.2))))) else (some ((1 : Int32), putF τ (z + 135) 0 (6 : Int32))))) := by
  unfold fX1_takes
  rw [h, if_neg (show ¬ (7 : Int32) = 0 by decide), if_neg (show ¬ (7 : Int32) = 1 by decide), if_neg (show ¬ (7 : Int32) = 2 by decide), if_neg (show ¬ (7 : Int32) = 3 by decide), if_neg (show ¬ (7 : Int32) = 4 by decide), if_neg (show ¬ (7 : Int32) = 5 by decide), if_neg (show ¬ (7 : Int32) = 6 by decide), if_pos rfl]
theorem takes_8 {N z : Nat} {τ : pS} (h : τ.1 (z + 135) 0 = 8) : fX1_takes N (G1 z) (z + 135) (z + 1) (z + 35) τ = ((fX1_takesJoint N (G1 z) (z + 135) (z + 1) (z + 35) τ).bind (fun q1 => ck (isZ q1.1) (some (q1.1, q1.2)))) := by
  unfold fX1_takes
  rw [h, if_neg (show ¬ (8 : Int32) = 0 by decide), if_neg (show ¬ (8 : Int32) = 1 by decide), if_neg (show ¬ (8 : Int32) = 2 by decide), if_neg (show ¬ (8 : Int32) = 3 by decide), if_neg (show ¬ (8 : Int32) = 4 by decide), if_neg (show ¬ (8 : Int32) = 5 by decide), if_neg (show ¬ (8 : Int32) = 6 by decide), if_neg (show ¬ (8 : Int32) = 7 by decide)]
theorem sg_43 : sgnP 43 := by
  unfold sgnP
  decide +kernel
theorem JT.lq {z y L p : Nat} {B : Nat → Int32} {τ1 τ2 υ : pS} (j : JT z y B L p τ1 τ2) (h : LQ z τ1 υ) : JT z y B L p υ τ2 := ⟨h.by j.1, h.ct j.2.1, j.2.2⟩
theorem RE.fd {y : Nat} {σ : pS} {R : List (Int32 × Int32)} (h : RE y σ R) {υ : pS} (h1 : υ.1 y 16 = σ.1 y 16) (h2 : υ.2 = σ.2) : RE y υ R := ⟨h1.trans h.1, by
  rw [h2]
  exact h.2⟩
/-- the rest of a sum -/
theorem j_sum {N z y L d : Nat} {B : Nat → Int32} {S : Int32} {W : List Int32} (hN : 20000 < N) (hS : S = 5 ∨ S = 7) : ∀ (m p k M : Nat) (τ1 τ2 : pS) (E : List Int32) (R : List (Int32 × Int32)), L - p ≤ m → m < M → JT z y B L p τ1 τ2 → CL z τ1 S d W E → RE y τ2 R → k ≤ p → E.length + 1 ≤ p → R.length + 8 ≤ p → (∃ k' p' τ1' υ2 l, lp (fun (k9 : pS → Option (Int32 × pS)) (b : pS) => (fX12_sign N (G2 y) y (43 : Int32) b).bind (fun q1 => if q1.1 = 0 then (some ((1 : Int32), q1.2)) else ((fX12_readPart N (G2 y) y q1.2).bind (fun q2 => if q2.1 = 0 then (some ((0 : Int32), q2.2)) else ((fX12_emits N (G2 y) y (9 : Int32) (0 : Int32) q2.2).bind (fun q3 => k9 q3)))))) M τ2 = some (1, υ2) ∧ (∀ q ∈ l, q < 1006) ∧ Rc N z k τ1 k' τ1' ∧ LXf z τ1 τ1' ∧ CL z τ1' S d W (E ++ l.map nI) ∧ τ1'.1 (z + 135) 4 = τ1.1 (z + 135) 4 ∧ RE y υ2 (R ++ sEt l) ∧ JT z y B L p' τ1' υ2 ∧ k' + p ≤ k + p' ∧ 2 * l.length + p ≤ p' ∧ FZ y τ2 υ2 ∧ υ2.1 y 13 = τ2.1 y 13 ∧ ¬ (en blk B L p' < L ∧ B (en blk B L p') = nI 43)) ∨ (∃ υ2 b, lp (fun (k9 : pS → Option (Int32 × pS)) (b : pS) => (fX12_sign N (G2 y) y (43 : Int32) b).bind (fun q1 => if q1.1 = 0 then (some ((1 : Int32), q1.2)) else ((fX12_readPart N (G2 y) y q1.2).bind (fun q2 => if q2.1 = 0 then (some ((0 : Int32), q2.2)) else ((fX12_emits N (G2 y) y (9 : Int32) (0 : Int32) q2.2).bind (fun q3 => k9 q3)))))) M τ2 = some (0, υ2) ∧ υ2.1 y 12 = nI b ∧ Fl N z k τ1 b ∧ FZ y τ2 υ2) := by
  intro m
  induction m with
  | zero =>
    intro p k M τ1 τ2 E R hm hM j c r hk hE hR
    obtain ⟨M, rfl⟩ : ∃ M', M = M' + 1 := ⟨M - 1, by omega⟩
    have hp := j.2.2.1.2.1
    have fe : en blk B L p = p := en_id (by omega)
    obtain ⟨v, ψ, p2, b2, s1, s2, s3, s4, s5, s6, s7, s8⟩ := j.sign hN sg_43
    have ci := c_isSign (N := N) j.1 j.2.1 sg_43
    rw [if_neg (by omega)] at ci
    rw [ci] at s1
    injection s1 with s1
    subst s1
    have s5 : fX12_sign N (G2 y) y (43 : Int32) τ2 = some (0, PT y τ2 p2 b2) := s5
    rcases s8 with ⟨h, _⟩ | ⟨_, s9, rfl, s11⟩
    · exact absurd h (by decide)
    · left
      refine ⟨k, p2, ψ, PT y τ2 p2 b2, [], ?_, fun q hq => absurd hq (by simp), Rc.r, LXf.r, by rw [List.map_nil, List.append_nil]; exact c, rfl, by rw [sEt, List.append_nil]; exact r.pt, s7, ?_, ?_, FZ.pt, by rw [PT_fo (by decide) (by decide)], ?_⟩
      · refine lp_one (by omega) (fun q => ?_)
        rw [s5, b_some, if_pos rfl]
      · have : p2 = en blk B L p := by
          have := congrArg (fun x : pS => x.1 y 10) s11
          rw [PT_f10, PT_f10] at this
          exact (nI_eq (by have := s7.2.2.1.2.1; have := j.1.1; omega) (by have := j.1.1; omega)).mp this
        omega
      · have : p2 = en blk B L p := by
          have := congrArg (fun x : pS => x.1 y 10) s11
          rw [PT_f10, PT_f10] at this
          exact (nI_eq (by have := s7.2.2.1.2.1; have := j.1.1; omega) (by have := j.1.1; omega)).mp this
        show 2 * 0 + p ≤ p2
        omega
      · intro g
        have : p2 = en blk B L p := by
          have := congrArg (fun x : pS => x.1 y 10) s11
          rw [PT_f10, PT_f10] at this
          exact (nI_eq (by have := s7.2.2.1.2.1; have := j.1.1; omega) (by have := j.1.1; omega)).mp this
        rw [this, en_en] at g
        omega
  | succ m ih =>
    intro p k M τ1 τ2 E R hm hM j c r hk hE hR
    obtain ⟨M, rfl⟩ : ∃ M', M = M' + 1 := ⟨M - 1, by omega⟩
    have hp := j.2.2.1.2.1
    have hL := j.1.1
    have pf : p ≤ en blk B L p := en_le
    have fL : en blk B L p ≤ L := en_L hp
    obtain ⟨v, ψ, p2, b2, s1, s2, s3, s4, s5, s6, s7, s8⟩ := j.sign hN sg_43
    have s5 : fX12_sign N (G2 y) y (43 : Int32) τ2 = some (v, PT y τ2 p2 b2) := s5
    have ci := c_isSign (N := N) j.1 j.2.1 sg_43
    by_cases u : en blk B L p < L ∧ B (en blk B L p) = nI 43
    · rw [if_pos u] at ci
      rw [ci] at s1
      injection s1 with s1
      subst s1
      have ci : fX9_isSign N (G1 z) (z + 1) (43 : Int32) τ1 = some 1 := ci
      have kd1 : τ1.1 (z + 1) 1 ≠ 0 := by
        rw [j.2.1.2.2.1]
        exact fun q => (tkd_0.mp q) u.1
      -- the class takes the sign
      have tk : ∃ S', (S' = 4 ∨ S' = 6) ∧ (if S' = 6 then (7 : Int32) else 5) = S ∧ fX1_takes N (G1 z) (z + 135) (z + 1) (z + 35) τ1 = some (1, putF τ1 (z + 135) 0 S') := by
        rcases hS with rfl | rfl
        · refine ⟨4, Or.inl rfl, rfl, ?_⟩
          rw [takes_5 c.1]
          unfold fX1_takesComparison
          rw [ci, b_some, if_neg (show ¬ (1 : Int32) = 0 by decide), b_some]
          rfl
        · refine ⟨6, Or.inr rfl, rfl, ?_⟩
          rw [takes_7 c.1, ci, b_some, if_neg (show ¬ (1 : Int32) = 0 by decide)]
      obtain ⟨S', hS', eS, tk⟩ := tk
      have lq : LQ z τ1 (putF τ1 (z + 135) 0 S') := LQ.r.pf (by omega)
      obtain ⟨v', ψ', p3, b3, r1, r2, r3, r4, r5, r6, r7, r8⟩ := (j.lq lq).sign hN sg_43
      have ci' := c_isSign (N := N) (j.lq lq).1 (j.lq lq).2.1 sg_43
      rw [if_pos u] at ci'
      rw [ci'] at r1
      injection r1 with r1
      subst r1
      rcases r8 with ⟨_, r9, r10⟩ | ⟨h, _⟩
      · have e3 : p3 = en blk B L p + 1 := by
          have := congrArg (fun x : pS => x.1 y 10) r9
          rw [PT_f10, PT_f10] at this
          exact (nI_eq (by have := r7.2.2.1.2.1; omega) (by omega)).mp this
        have c2 : CL z ψ' S' d W E := r6.cl c.st
        have st1 : Rc N z k τ1 (k + 1) ψ' := Rc.step (by omega) kd1 tk r10
        have r5 : fX12_sign N (G2 y) y (43 : Int32) τ2 = some (1, PT y τ2 p3 b3) := r5
        have tkp : fX1_takes N (G1 z) (z + 135) (z + 1) (z + 35) ψ' = ((fX1_takesPart N (G1 z) (z + 135) (z + 1) (z + 35) ψ').bind (fun q9 => ck (isZ q9.1) (some (q9.1, q9.2)))) := by
          rcases hS' with e | e
          · exact takes_4 (c2.1.trans e)
          · exact takes_6 (c2.1.trans e)
        rcases j_part hN r7 c2 (r.pt (p := p3) (b := b3)) (by omega) (by omega) with ⟨q, υ1, ω, υ2, p4, q1, q2, q3, q4, q5, q6, q7, q8, q9, q10, q11, q12, q13⟩ | ⟨υ2, q1, q2, q3, q4⟩
        · rw [eS] at q5
          obtain ⟨υ3, m1, m2, m3, m4⟩ := r_emits (N := N) (a := 9) (b := 0) q8 (by rw [List.length_append]; show R.length + 1 < 400; omega)
          have j4 : JT z y B L p4 ω υ3 := ⟨q9.1, q9.2.1, ⟨hL, q9.2.2.1.2.1, (m4 11 (by decide)).trans q9.2.2.1.2.2.1, (m4 10 (by decide)).trans q9.2.2.1.2.2.2⟩, (m3.2.1 6 (by decide)).trans q9.2.2.2⟩
          have p4L := q9.2.2.1.2.1
          have st2 : Rc N z (k + 1) ψ' (k + 1 + 1) ω := Rc.step (by omega) q13 (by rw [tkp, q2, b_some]; rfl) q3
          have lx : LXf z τ1 ω := (lq.lxf.t r6.lxf).t q4
          have bodyE : ∀ k9 : pS → Option (Int32 × pS), ((fX12_sign N (G2 y) y (43 : Int32) τ2).bind (fun q1 => if q1.1 = 0 then (some ((1 : Int32), q1.2)) else ((fX12_readPart N (G2 y) y q1.2).bind (fun q2 => if q2.1 = 0 then (some ((0 : Int32), q2.2)) else ((fX12_emits N (G2 y) y (9 : Int32) (0 : Int32) q2.2).bind (fun q3 => k9 q3)))))) = k9 υ3 := by
            intro k9
            rw [r5, b_some]
            dsimp only
            rw [if_neg (show ¬ (1 : Int32) = 0 by decide), q7, b_some]
            dsimp only
            rw [if_neg (show ¬ (1 : Int32) = 0 by decide), m1, b_some]
          have ihh := ih p4 (k + 1 + 1) M ω υ3 (E ++ [nI q]) (R ++ [ptE q] ++ [(9, 0)]) (by omega) (by omega) j4 q5 m2 (by omega) (by rw [List.length_append]; show E.length + 1 + 1 ≤ p4; omega) (by rw [List.length_append, List.length_append]; show R.length + 1 + 1 + 8 ≤ p4; omega)
          rcases ihh with ⟨k', p', τ1', υ4, l, i1, i2, i3, i4, i5, i6, i7, i8, i9, i10, i11, i12, i13⟩ | ⟨υ4, b, i1, i2, i3, i4⟩
          · left
            refine ⟨k', p', τ1', υ4, q :: l, (bodyE _).trans i1, ?_, (st1.t st2).t i3, lx.t i4, ?_, ?_, ?_, i8, by omega, ?_, ((FZ.pt.t q11).t m3).t i11, ?_, i13⟩
            · intro x hx
              rcases List.mem_cons.mp hx with e | e
              · rw [e]
                exact q1
              · exact i2 x e
            · rw [List.map_cons, show E ++ nI q :: l.map nI = E ++ [nI q] ++ l.map nI by rw [List.append_assoc]; rfl]
              exact i5
            · rw [i6, q6, r6.1 (z + 135) 4 (by omega), pf0n (by decide)]
            · rw [show R ++ sEt (q :: l) = R ++ [ptE q] ++ [(9, 0)] ++ sEt l by rw [List.append_assoc, List.append_assoc]; rfl]
              exact i7
            · rw [List.length_cons]
              omega
            · rw [i12, m4 13 (by decide), q12, PT_fo (by decide) (by decide)]
          · right
            exact ⟨υ4, b, (bodyE _).trans i1, i2, (st1.t st2).fl lx i3, ((FZ.pt.t q11).t m3).t i4⟩
        · right
          refine ⟨υ2, en blk B L p3, ?_, q4, st1.fl (lq.lxf.t r6.lxf) ?_, FZ.pt.t q3⟩
          · show ((fX12_sign N (G2 y) y (43 : Int32) τ2).bind _) = _
            rw [r5, b_some]
            dsimp only
            rw [if_neg (show ¬ (1 : Int32) = 0 by decide), q2, b_some]
            dsimp only
            rw [if_pos rfl]
          · by_cases kz : ψ'.1 (z + 1) 1 = 0
            · refine Fl.end (by omega) kz ?_ r7.2.1.2.1
              rw [c2.1]
              rcases hS' with e | e <;> rw [e] <;> decide
            · refine Fl.no ?_ kz ?_ r7.2.1.2.1 LXf.r
              · have : en blk B L p3 < L := Classical.byContradiction (fun g => kz (by rw [r7.2.1.2.2.1]; exact tkd_0.mpr g))
                have := en_le (P := blk) (B := B) (L := L) (p := p3)
                omega
              · rw [tkp, q1, b_some]
                rfl
      · exact absurd h (by decide)
    · rw [if_neg u] at ci
      rw [ci] at s1
      injection s1 with s1
      subst s1
      rcases s8 with ⟨h, _⟩ | ⟨_, s9, rfl, s11⟩
      · exact absurd h (by decide)
      · left
        have e2 : p2 = en blk B L p := by
          have := congrArg (fun x : pS => x.1 y 10) s11
          rw [PT_f10, PT_f10] at this
          exact (nI_eq (by have := s7.2.2.1.2.1; omega) (by omega)).mp this
        refine ⟨k, p2, ψ, PT y τ2 p2 b2, [], ?_, fun q hq => absurd hq (by simp), Rc.r, LXf.r, by rw [List.map_nil, List.append_nil]; exact c, rfl, by rw [sEt, List.append_nil]; exact r.pt, s7, by omega, by show 2 * 0 + p ≤ p2; omega, FZ.pt, by rw [PT_fo (by decide) (by decide)], ?_⟩
        · refine lp_one (by omega) (fun q => ?_)
          rw [s5, b_some, if_pos rfl]
        · rw [e2, en_en]
          exact u
