/-! the law's texts: conditions -/
theorem j_allOf {N z y L d m p k : Nat} {B : Nat → Int32} {W E : List Int32} {R : List (Int32 × Int32)} {τ1 τ2 : pS} {rc : Nat × pS → Option (Int32 × pS)} (hN : 20000 < N) (ha : AtomOK N z y B L rc m) (hd : d ≤ 6) (hm : 6 < m + d) (hw1 : W.headD (-1) ≠ 1011) (hw2 : W.headD (-1) ≠ 1012) (hW : W.length ≤ 3 * d + 1) (j : JT z y B L p τ1 τ2) (c : CL z τ1 3 d W E) (r : RE y τ2 R) (h13 : τ2.1 y 13 = nI d) (hk : k ≤ p) (hE : E.length + W.length + 8 ≤ p) (hR : R.length + 8 ≤ p) : CSt N z y B L k τ1 τ2 d W E R (2 * (6 - d) + 1) p [[], [1012]] [29] (fX12_readAllOf N (G2 y) rc y τ2) ∨ AF N z y k τ1 τ2 (fX12_readAllOf N (G2 y) rc y τ2) := by
  have n1 : ¬ (1 : Int32) = 0 := by decide
  unfold fX12_readAllOf fX12_readAllOf_b9
  rcases ha d 0 p k W E R τ1 τ2 j c r h13 hk (by omega) hR (by omega) (by omega) hw1 (by omega) with ⟨υ2, k', p', τa, τb, C, Rm, nn, i1, i2, i3, i4, i5, i6, i7, i8, i9, i10, i11, i12, i13, i14, i15⟩ | ⟨υ2, b, i1, i2, i3, i4⟩
  · rw [i1, b_some]
    dsimp only
    rw [if_neg n1]
    have i5 : CL z τb 8 d ([] ++ W) (E ++ C) := by
      simp only [List.replicate, List.append_nil, List.nil_append] at i5 ⊢
      exact i5
    have hL := j.1.1
    exact j_ands (p0 := p) hN ha hd hm hw1 hw2 hW h13 hE hR (L - p') p' k' N τa τb υ2 C [] Rm nn (Nat.le_refl _) (by omega) i9 i4 i2 i3 i5 (Or.inl rfl) (by rw [List.append_nil]; exact i6) (by rw [Nat.add_zero] at i7; omega) i8 i10 i11 i12 (by rw [List.length_nil]; omega) i14 i15
  · right
    rw [i1, b_some]
    dsimp only
    rw [if_pos rfl]
    exact ⟨υ2, b, rfl, i2, i3, i4⟩
theorem c_rel2 {N z d : Nat} {τ : pS} {P W E : List Int32} (h : CL z τ 8 d (P ++ W) E) (hP : P ∈ ([[], [1012], [1013], [1012, 1013]] : List (List Int32))) (hw1 : W.headD (-1) ≠ 1012) (hw2 : W.headD (-1) ≠ 1013) (hW : W.length + 2 ≤ 20) (hE : E.length + 1 < 400) : ∃ υ1 υ2, fX1_release N (G1 z) (z + 135) (z + 35) 1012 τ = some υ1 ∧ fX1_release N (G1 z) (z + 135) (z + 35) 1013 υ1 = some υ2 ∧ LQ z τ υ2 ∧ CL z υ2 8 d W (E ++ P) := by
  have go : ∀ Q S : List Int32, P = Q ++ S → (Q = [] ∨ Q = [1012]) → (S = [] ∨ S = [1013]) → ∃ υ1 υ2, fX1_release N (G1 z) (z + 135) (z + 35) 1012 τ = some υ1 ∧ fX1_release N (G1 z) (z + 135) (z + 35) 1013 υ1 = some υ2 ∧ LQ z τ υ2 ∧ CL z υ2 8 d W (E ++ P) := by
    intro Q S e hQ hS
    rw [e, List.append_assoc] at h
    have Ql : Q.length ≤ 1 := by rcases hQ with e | e <;> rw [e] <;> decide
    have Sl : S.length ≤ 1 := by rcases hS with e | e <;> rw [e] <;> decide
    have hd : (S ++ W).headD (-1) ≠ 1012 := by
      rcases hS with e | e
      · rw [e]
        exact hw1
      · rw [e]
        exact (by decide : (1013 : Int32) ≠ 1012)
    obtain ⟨υ1, x1, x2, x3⟩ := c_rel (N := N) h hQ (by decide) hd (by rw [List.length_append]; omega) (by omega)
    obtain ⟨υ2, y1, y2, y3⟩ := c_rel (N := N) x3 hS (by decide) hw2 (by omega) (by rw [List.length_append]; omega)
    refine ⟨υ1, υ2, x1, y1, x2.t y2, ?_⟩
    rw [e, ← List.append_assoc]
    exact y3
  simp only [List.mem_cons, List.not_mem_nil, or_false] at hP
  rcases hP with e | e | e | e
  · exact go [] [] e (Or.inl rfl) (Or.inl rfl)
  · exact go [1012] [] e (Or.inr rfl) (Or.inl rfl)
  · exact go [] [1013] e (Or.inl rfl) (Or.inr rfl)
  · exact go [1012] [1013] e (Or.inr rfl) (Or.inr rfl)
theorem ps_len {P : List Int32} (hP : P ∈ ([[], [1012], [1013], [1012, 1013]] : List (List Int32))) : P.length ≤ 2 := by
  simp only [List.mem_cons, List.not_mem_nil, or_false] at hP
  rcases hP with e | e | e | e <;> rw [e] <;> decide
theorem j_ors {N z y L d m : Nat} {B : Nat → Int32} {W : List Int32} {rc : Nat × pS → Option (Int32 × pS)} (hN : 20000 < N) (ha : AtomOK N z y B L rc m) (hd : d ≤ 6) (hm : 6 < m + d) (hw2 : W.headD (-1) ≠ 1012) (hw3 : W.headD (-1) ≠ 1013) (hW : W.length ≤ 3 * d) {k0 : Nat} {σ1 σ2 : pS} {E : List Int32} {R : List (Int32 × Int32)} {p0 : Nat} (h13 : σ2.1 y 13 = nI d) (hE0 : E.length + W.length + 8 ≤ p0) (hR0 : R.length + 8 ≤ p0) : ∀ (u p k M : Nat) (τ1 τ1'' τ2 : pS) (C0 P : List Int32) (Rn : List (Int32 × Int32)) (n : Nat), L - p ≤ u → u < M → JT z y B L p τ1'' τ2 → BA N z τ1 τ1'' → Rc N z k0 σ1 k τ1 → LXf z σ1 τ1 → CL z τ1'' 8 d (P ++ W) (E ++ C0) → P ∈ ([[], [1012], [1013], [1012, 1013]] : List (List Int32)) → Cd Rn (C0 ++ P) n → n ≤ 2 * (6 - d) + 2 → RE y τ2 (R ++ Rn) → FZ y σ2 τ2 → τ2.1 y 13 = σ2.1 y 13 → k ≤ p → C0.length + P.length + p0 ≤ p + 1 → Rn.length + p0 ≤ p → p0 < p → fX9_isWord N (G1 z) (z + 1) 29 τ1'' = some 0 → CSt N z y B L k0 σ1 σ2 d W E R (2 * (6 - d) + 2) p0 [[], [1012], [1013], [1012, 1013]] [29, 30] (lp (fun (k9 : pS → Option (Int32 × pS)) (b : pS) => (fX12_passes N (G2 y) y 71 b).bind (fun q1 => if q1.1 = 0 then (some ((1 : Int32), q1.2)) else ((fX12_readAllOf N (G2 y) rc y q1.2).bind (fun q2 => if q2.1 = 0 then (some ((0 : Int32), q2.2)) else ((fX12_emits N (G2 y) y (14 : Int32) (0 : Int32) q2.2).bind (fun q3 => k9 q3)))))) M τ2) ∨ AF N z y k0 σ1 σ2 (lp (fun (k9 : pS → Option (Int32 × pS)) (b : pS) => (fX12_passes N (G2 y) y 71 b).bind (fun q1 => if q1.1 = 0 then (some ((1 : Int32), q1.2)) else ((fX12_readAllOf N (G2 y) rc y q1.2).bind (fun q2 => if q2.1 = 0 then (some ((0 : Int32), q2.2)) else ((fX12_emits N (G2 y) y (14 : Int32) (0 : Int32) q2.2).bind (fun q3 => k9 q3)))))) M τ2) := by
  have done : ∀ (p k M : Nat) (τ1 τ1'' τ2 : pS) (C0 P : List Int32) (Rn : List (Int32 × Int32)) (n : Nat), 0 < M → BA N z τ1 τ1'' → Rc N z k0 σ1 k τ1 → LXf z σ1 τ1 → CL z τ1'' 8 d (P ++ W) (E ++ C0) → P ∈ ([[], [1012], [1013], [1012, 1013]] : List (List Int32)) → Cd Rn (C0 ++ P) n → n ≤ 2 * (6 - d) + 2 → RE y τ2 (R ++ Rn) → FZ y σ2 τ2 → τ2.1 y 13 = σ2.1 y 13 → k ≤ p → C0.length + P.length + p0 ≤ p + 1 → Rn.length + p0 ≤ p → p0 < p → fX9_isWord N (G1 z) (z + 1) 29 τ1'' = some 0 → fX9_isWord N (G1 z) (z + 1) 30 τ1'' = some 0 → fX12_passes N (G2 y) y 71 τ2 = some (0, PT y τ2 (en blk B L p) (en blk B L p)) → JT z y B L (en blk B L p) τ1'' (PT y τ2 (en blk B L p) (en blk B L p)) → CSt N z y B L k0 σ1 σ2 d W E R (2 * (6 - d) + 2) p0 [[], [1012], [1013], [1012, 1013]] [29, 30] (lp (fun (k9 : pS → Option (Int32 × pS)) (b : pS) => (fX12_passes N (G2 y) y 71 b).bind (fun q1 => if q1.1 = 0 then (some ((1 : Int32), q1.2)) else ((fX12_readAllOf N (G2 y) rc y q1.2).bind (fun q2 => if q2.1 = 0 then (some ((0 : Int32), q2.2)) else ((fX12_emits N (G2 y) y (14 : Int32) (0 : Int32) q2.2).bind (fun q3 => k9 q3)))))) M τ2) := by
    intro p k M τ1 τ1'' τ2 C0 P Rn n hM ba rc0 lx c hP cd hn r fz e13 hk hE hR hpp a29 a1 a2 a3
    have f3 : p ≤ en blk B L p := en_le
    refine ⟨PT y τ2 (en blk B L p) (en blk B L p), k, en blk B L p, τ1, τ1'', C0, P, Rn, n, ?_, rc0, lx, ba, c, hP, cd, hn, r.pt, a3, fz.t FZ.pt, ?_, by omega, by omega, by omega, by omega, fun s hs => by
      simp only [List.mem_cons, List.not_mem_nil, or_false] at hs
      rcases hs with e | e
      · rw [e]
        exact a29
      · rw [e]
        exact a1⟩
    · refine lp_one hM (fun q => ?_)
      rw [a2, b_some, if_pos rfl]
    · rw [PT_fo (by decide) (by decide)]
      exact e13
  intro u
  induction u with
  | zero =>
    intro p k M τ1 τ1'' τ2 C0 P Rn n hu hM j ba rc0 lx c hP cd hn r fz e13 hk hE hR hpp a29
    rcases j.ps hN sw_or with ⟨hf, _⟩ | ⟨a1, a2, a3⟩
    · have f1 : en blk B L p ≤ L := en_L j.2.2.1.2.1
      have f2 : en ltr B L (en blk B L p) ≤ L := en_L f1
      have f3 : p ≤ en blk B L p := en_le
      omega
    · exact Or.inl (done p k M τ1 τ1'' τ2 C0 P Rn n (by omega) ba rc0 lx c hP cd hn r fz e13 hk hE hR hpp a29 a1 a2 a3)
  | succ u ih =>
    intro p k M τ1 τ1'' τ2 C0 P Rn n hu hM j ba rc0 lx c hP cd hn r fz e13 hk hE hR hpp a29
    rcases j.ps hN sw_or with ⟨hf, a1, a2, a3⟩ | ⟨a1, a2, a3⟩
    · have hL := j.1.1
      have hp := j.2.2.1.2.1
      have f1 : en blk B L p ≤ L := en_L hp
      have f2 : en ltr B L (en blk B L p) ≤ L := en_L f1
      have f3 : p ≤ en blk B L p := en_le
      have n1 : ¬ (1 : Int32) = 0 := by decide
      obtain ⟨M, rfl⟩ : ∃ M', M = M' + 1 := ⟨M - 1, by omega⟩
      have Pl := ps_len hP
      have s59 : fX9_isSign N (G1 z) (z + 1) (59 : Int32) τ1'' = some 0 := c_noSign j.1 j.2.1 sg_59 hf
      have l2 : lenS.getD 30 0 = 2 := by decide +kernel
      have l3 : lenS.getD 29 0 = 3 := by decide +kernel
      have e2 : en ltr B L (en blk B L p) = en blk B L p + 2 := by
        rcases c_isWord (sid := 30) hN j.1 j.2.1 sw_or.2.1 with ⟨q, _⟩ | ⟨_, q⟩
        · rw [← l2]
          exact q.1
        · rw [a1] at q
          injection q with q
          exact absurd q (by decide)
      have w29 : fX9_isWord N (G1 z) (z + 1) 29 τ1'' = some 0 := by
        rcases c_isWord (sid := 29) hN j.1 j.2.1 sw_and.2.1 with ⟨q, _⟩ | ⟨_, q⟩
        · have := q.1
          omega
        · exact q
      obtain ⟨υ1, υ, x1, x1', x2, x3⟩ := c_rel2 (N := N) c hP hw2 hw3 (by omega) (by rw [List.length_append]; omega)
      have w30 : fX9_isWord N (G1 z) (z + 1) 30 υ = some 1 := by
        rcases c_isWord (sid := 30) hN (x2.by j.1) (x2.ct j.2.1) sw_or.2.1 with ⟨_, q⟩ | ⟨q, _⟩
        · exact q
        · rcases c_isWord (sid := 30) hN j.1 j.2.1 sw_or.2.1 with ⟨q2, _⟩ | ⟨_, q2⟩
          · exact absurd q2 q
          · rw [a1] at q2
            injection q2 with q2
            exact absurd q2 (by decide)
      obtain ⟨χ, y1, y2, y3⟩ := c_push (N := N) (v := 1013) x3 (by omega)
      have tj : fX1_takesJoint N (G1 z) (z + 135) (z + 1) (z + 35) τ1'' = some (1, putF χ (z + 135) 0 3) := by
        unfold fX1_takesJoint fX1_takesJoint_b42 fX1_takesJoint_b55 fX1_takesJoint_b69
        rw [s59, b_some, if_pos rfl, w29, b_some, x1, b_some, if_pos rfl, x1', b_some, if_pos rfl, w30, b_some, if_neg n1, if_pos rfl, y1, b_some]
      have lq : LQ z τ1'' (putF χ (z + 135) 0 3) := (x2.t y3).pf (by omega)
      obtain ⟨ω, b1, b2, b3⟩ := a3 _ lq
      have kd1 : τ1.1 (z + 1) 1 ≠ 0 := by
        rw [← ba.1.1 1 1 (by omega) (by omega), j.2.1.2.2.1]
        exact fun q => (tkd_0.mp q) (by omega)
      have st1 : Rc N z k τ1 (k + 1) ω := Rc.step (by omega) kd1 (by rw [ba.2.1, tj, b_some]; rfl) b1
      have lx1 : LXf z σ1 ω := lx.t ((ba.1.lxf.t lq.lxf).t b2.lxf)
      have c3 : CL z ω 3 d (1013 :: W) (E ++ C0 ++ P) := b2.cl y2.st
      have bodyE : ∀ k9 : pS → Option (Int32 × pS), (fun (k9 : pS → Option (Int32 × pS)) (b : pS) => (fX12_passes N (G2 y) y 71 b).bind (fun q1 => if q1.1 = 0 then (some ((1 : Int32), q1.2)) else ((fX12_readAllOf N (G2 y) rc y q1.2).bind (fun q2 => if q2.1 = 0 then (some ((0 : Int32), q2.2)) else ((fX12_emits N (G2 y) y (14 : Int32) (0 : Int32) q2.2).bind (fun q3 => k9 q3)))))) k9 τ2 = ((fX12_readAllOf N (G2 y) rc y (PT y τ2 (en ltr B L (en blk B L p)) (en blk B L p))).bind (fun q2 => if q2.1 = 0 then (some ((0 : Int32), q2.2)) else ((fX12_emits N (G2 y) y (14 : Int32) (0 : Int32) q2.2).bind (fun q3 => k9 q3)))) := by
        intro k9
        show ((fX12_passes N (G2 y) y 71 τ2).bind _) = _
        rw [a2, b_some]
        dsimp only
        rw [if_neg n1]
      have El : (E ++ C0 ++ P).length = E.length + C0.length + P.length := by rw [List.length_append, List.length_append]
      rcases j_allOf (k := k + 1) (R := R ++ Rn) hN ha hd hm (W := 1013 :: W) (show (1013 : Int32) ≠ 1011 by decide) (show (1013 : Int32) ≠ 1012 by decide) (by rw [List.length_cons]; omega) b3 c3 r.pt (by rw [PT_fo (by decide) (by decide), e13, h13]) (by omega) (by rw [El, List.length_cons]; omega) (by rw [List.length_append]; omega) with ⟨υ2, k', p', τa, τb, C, Q, Rm, nn, i1, i2, i3, i4, i5, i5', i6, i7, i8, i9, i10, i11, i12, i13, i14, i15, i16⟩ | ⟨υ2, b, i1, i2, i3, i4⟩
      · have p'L := i9.2.2.1.2.1
        obtain ⟨υ3, m1, m2, m3, m4⟩ := r_emits (N := N) (a := 14) (b := 0) i8 (by rw [List.length_append, List.length_append]; omega)
        have i5 : CL z τb 8 d ((Q ++ [1013]) ++ W) (E ++ (C0 ++ P ++ C)) := by
          simp only [List.append_assoc, List.cons_append, List.nil_append] at i5 ⊢
          exact i5
        have cd2 : Cd (Rn ++ Rm ++ [(14, 0)]) (C0 ++ P ++ C ++ (Q ++ [1013])) (max n (nn + 1)) := by
          have := cd.dis i6 (by omega)
          simp only [List.append_assoc] at this ⊢
          exact this
        have hQ : Q ++ [1013] ∈ ([[], [1012], [1013], [1012, 1013]] : List (List Int32)) := by
          simp only [List.mem_cons, List.not_mem_nil, or_false] at i5'
          rcases i5' with e | e <;> rw [e] <;> simp
        have hh := ih p' k' M τa τb υ3 (C0 ++ P ++ C) (Q ++ [1013]) (Rn ++ Rm ++ [(14, 0)]) (max n (nn + 1)) (by omega) (by omega) (i9.em m3 m4) i4 ((rc0.t st1).t i2) (lx1.t i3) i5 hQ cd2 (by omega) (by simp only [List.append_assoc] at m2 ⊢; exact m2) ((fz.t FZ.pt).t (i10.t m3)) ((m4 13 (by decide)).trans (i11.trans (by rw [PT_fo (by decide) (by decide)]; exact e13))) i12 (by simp only [List.length_append, List.length_cons, List.length_nil]; omega) (by simp only [List.length_append, List.length_cons, List.length_nil]; omega) (by omega) (i16 29 (by simp))
        have eb : lp (fun (k9 : pS → Option (Int32 × pS)) (b : pS) => (fX12_passes N (G2 y) y 71 b).bind (fun q1 => if q1.1 = 0 then (some ((1 : Int32), q1.2)) else ((fX12_readAllOf N (G2 y) rc y q1.2).bind (fun q2 => if q2.1 = 0 then (some ((0 : Int32), q2.2)) else ((fX12_emits N (G2 y) y (14 : Int32) (0 : Int32) q2.2).bind (fun q3 => k9 q3)))))) (M + 1) τ2 = lp (fun (k9 : pS → Option (Int32 × pS)) (b : pS) => (fX12_passes N (G2 y) y 71 b).bind (fun q1 => if q1.1 = 0 then (some ((1 : Int32), q1.2)) else ((fX12_readAllOf N (G2 y) rc y q1.2).bind (fun q2 => if q2.1 = 0 then (some ((0 : Int32), q2.2)) else ((fX12_emits N (G2 y) y (14 : Int32) (0 : Int32) q2.2).bind (fun q3 => k9 q3)))))) M υ3 := by
          refine (bodyE _).trans ?_
          rw [i1, b_some]
          dsimp only
          rw [if_neg n1, m1, b_some]
        rw [eb]
        exact hh
      · right
        refine ⟨υ2, b, (bodyE _).trans ?_, i2, (rc0.t st1).fl lx1 i3, (fz.t FZ.pt).t i4⟩
        rw [i1, b_some]
        dsimp only
        rw [if_pos rfl]
    · exact Or.inl (done p k M τ1 τ1'' τ2 C0 P Rn n (by omega) ba rc0 lx c hP cd hn r fz e13 hk hE hR hpp a29 a1 a2 a3)
theorem j_cond {N z y L d m p k : Nat} {B : Nat → Int32} {W E : List Int32} {R : List (Int32 × Int32)} {τ1 τ2 : pS} {rc : Nat × pS → Option (Int32 × pS)} (hN : 20000 < N) (ha : AtomOK N z y B L rc m) (hd : d ≤ 6) (hm : 6 < m + d) (hw1 : W.headD (-1) ≠ 1011) (hw2 : W.headD (-1) ≠ 1012) (hw3 : W.headD (-1) ≠ 1013) (hW : W.length ≤ 3 * d) (j : JT z y B L p τ1 τ2) (c : CL z τ1 3 d W E) (r : RE y τ2 R) (h13 : τ2.1 y 13 = nI d) (hk : k ≤ p) (hE : E.length + W.length + 8 ≤ p) (hR : R.length + 8 ≤ p) : CSt N z y B L k τ1 τ2 d W E R (2 * (6 - d) + 2) p [[], [1012], [1013], [1012, 1013]] [29, 30] (fX12_readCond N (G2 y) rc y τ2) ∨ AF N z y k τ1 τ2 (fX12_readCond N (G2 y) rc y τ2) := by
  have n1 : ¬ (1 : Int32) = 0 := by decide
  unfold fX12_readCond fX12_readCond_b9
  rcases j_allOf hN ha hd hm hw1 hw2 (by omega) j c r h13 hk hE hR with ⟨υ2, k', p', τa, τb, C, Q, Rm, nn, i1, i2, i3, i4, i5, i5', i6, i7, i8, i9, i10, i11, i12, i13, i14, i15, i16⟩ | ⟨υ2, b, i1, i2, i3, i4⟩
  · rw [i1, b_some]
    dsimp only
    rw [if_neg n1]
    have hL := j.1.1
    have hQ : Q ∈ ([[], [1012], [1013], [1012, 1013]] : List (List Int32)) := by
      simp only [List.mem_cons, List.not_mem_nil, or_false] at i5'
      rcases i5' with e | e <;> rw [e] <;> simp
    exact j_ors (p0 := p) hN ha hd hm hw2 hw3 hW h13 hE hR (L - p') p' k' N τa τb υ2 C Q Rm nn (Nat.le_refl _) (by omega) i9 i4 i2 i3 i5 hQ i6 (by omega) i8 i10 i11 i12 i13 i14 i15 (i16 29 (by simp))
  · right
    rw [i1, b_some]
    dsimp only
    rw [if_pos rfl]
    exact ⟨υ2, b, rfl, i2, i3, i4⟩
