/-! the law's texts: brackets -/
theorem isW_lq {N z L f s : Nat} {B : Nat → Int32} {τ υ : pS} {v : Int32} (hN : 20000 < N) (b : BY z B L τ) (ct : CT z B L f τ) (lq : LQ z τ υ) (hl : 0 < lenS.getD s 0) (h : fX9_isWord N (G1 z) (z + 1) s τ = some v) : fX9_isWord N (G1 z) (z + 1) s υ = some v := by
  rcases c_isWord (sid := s) hN b ct hl with ⟨a1, a2⟩ | ⟨a1, a2⟩
  · rcases c_isWord (sid := s) hN (lq.by b) (lq.ct ct) hl with ⟨b1, b2⟩ | ⟨b1, b2⟩
    · rw [b2, ← h, a2]
    · exact absurd a1 b1
  · rcases c_isWord (sid := s) hN (lq.by b) (lq.ct ct) hl with ⟨b1, b2⟩ | ⟨b1, b2⟩
    · exact absurd b1 a1
    · rw [b2, ← h, a2]
theorem sgn_noW {N z L f s c : Nat} {B : Nat → Int32} {τ : pS} (hN : 20000 < N) (b : BY z B L τ) (ct : CT z B L f τ) (hs : sgnP c) (u : B f = nI c) (hl : 0 < lenS.getD s 0) : fX9_isWord N (G1 z) (z + 1) s τ = some 0 := by
  rcases c_isWord (sid := s) hN b ct hl with ⟨a1, _⟩ | ⟨_, a2⟩
  · have := a1.1
    rw [en_id (fun g => by
      have := g.2
      rw [u, hs.2.1] at this
      cases this)] at this
    omega
  · exact a2
theorem j_open {N z y L d p k j m : Nat} {B : Nat → Int32} {W0 E : List Int32} {R : List (Int32 × Int32)} {τ1 τ2 : pS} {rc : Nat × pS → Option (Int32 × pS)} (hN : 20000 < N) (ha : AtomOK N z y B L rc m) (jt : JT z y B L p τ1 τ2) (c : CL z τ1 3 (d + j) (List.replicate j 1011 ++ W0) E) (r : RE y τ2 R) (h13 : τ2.1 y 13 = nI (d + j)) (u : en blk B L p < L ∧ B (en blk B L p) = nI 40) (hk : k ≤ p) (hE : E.length + j + W0.length + 8 ≤ p) (hR : R.length + 8 ≤ p) (hD : d + j ≤ 6) (hm : 6 < m + 1 + (d + j)) (h0 : W0.headD (-1) ≠ 1011) (hW : W0.length + j ≤ 3 * (d + j) + 2) : AS N z y B L k τ1 τ2 d W0 E R j (2 * (6 - (d + j))) p (if ((PT y τ2 (en blk B L p + 1) (en blk B L p)).1 y 13) = (6 : Int32) then (some ((0 : Int32), PT y τ2 (en blk B L p + 1) (en blk B L p))) else ((fX12_readCond N (G2 y) rc y (putF (PT y τ2 (en blk B L p + 1) (en blk B L p)) y 13 (((PT y τ2 (en blk B L p + 1) (en blk B L p)).1 y 13) + (1 : Int32)))).bind (fun q11 => if q11.1 = 0 then (some ((0 : Int32), q11.2)) else ((fX12_sign N (G2 y) y (41 : Int32) (putF q11.2 y 13 ((q11.2.1 y 13) - (1 : Int32)))).bind (fun q12 => ck (isZ q12.1) (some (q12.1, q12.2))))))) ∨ AF N z y k τ1 τ2 (if ((PT y τ2 (en blk B L p + 1) (en blk B L p)).1 y 13) = (6 : Int32) then (some ((0 : Int32), PT y τ2 (en blk B L p + 1) (en blk B L p))) else ((fX12_readCond N (G2 y) rc y (putF (PT y τ2 (en blk B L p + 1) (en blk B L p)) y 13 (((PT y τ2 (en blk B L p + 1) (en blk B L p)).1 y 13) + (1 : Int32)))).bind (fun q11 => if q11.1 = 0 then (some ((0 : Int32), q11.2)) else ((fX12_sign N (G2 y) y (41 : Int32) (putF q11.2 y 13 ((q11.2.1 y 13) - (1 : Int32)))).bind (fun q12 => ck (isZ q12.1) (some (q12.1, q12.2))))))) := by
  have n1 : ¬ (1 : Int32) = 0 := by decide
  have hL := jt.1.1
  have f3 : p ≤ en blk B L p := en_le
  have Wl : (List.replicate j (1011 : Int32) ++ W0).length = j + W0.length := by rw [List.length_append, List.length_replicate]
  have lens : ∀ s, s < 29 → 20 ≤ s → 0 < lenS.getD s 0 := by decide +kernel
  have w20 := sgn_noW (N := N) (s := 20) hN jt.1 jt.2.1 sg_40 u.2 (lens 20 (by omega) (by omega))
  have s40 := c_isSign (N := N) jt.1 jt.2.1 sg_40
  rw [if_pos u] at s40
  have s40 : fX9_isSign N (G1 z) (z + 1) (40 : Int32) τ1 = some 1 := s40
  have t3 : tkd B L (en blk B L p) = 3 := tkd_3.mpr ⟨u.1, by rw [u.2]; exact sg_40.2.1, by rw [u.2]; exact sg_40.2.2⟩
  have kd1 : τ1.1 (z + 1) 1 ≠ 0 := by
    rw [jt.2.1.2.2.1, t3]
    decide
  rw [PT_fo (by decide) (by decide), h13]
  by_cases d6 : d + j = 6
  · right
    rw [d6, if_pos (show nI 6 = 6 from rfl)]
    refine ⟨_, en blk B L p, rfl, PT_f12, ?_, FZ.pt⟩
    obtain ⟨υ, x1, x2, x3⟩ := c_push' (N := N) (v := 2000) c (by rw [Wl]; omega)
    have lq : LQ z τ1 (putF υ (z + 135) 5 (nI (d + j + 1))) := x2.pf (by omega)
    refine Fl.no (υ := putF υ (z + 135) 5 (nI (d + j + 1))) (by omega) kd1 ?_ ((lq.1 1 2 (by omega) (by omega)).trans jt.2.1.2.1) lq.lxf
    rw [takes_3 c.1]
    unfold fX1_takesAtom fX1_takesAtom_b20 fX1_takesAtom_b34
    rw [w20, b_some, if_pos rfl, s40, b_some, if_neg n1, if_pos rfl, x1, b_some, pf0, x3, nI_1, if_pos (show (6 : Int32) < nI (d + j + 1) from nI_lt (a := 6) (by omega) (by omega)), b_some]
    dsimp only
    rw [if_pos rfl, c_noPart ?_ ?_, b_some]
    · dsimp only
      rw [if_pos rfl]
    · rw [c_numIn (lq.ct jt.2.1) (by decide)]
      exact congrArg some (Classical.byContradiction (fun g => by
        have := (rv_ok g).2.2.1
        rw [t3] at this
        exact absurd this (by decide)))
    · intro s s1 s2
      exact sgn_noW hN (lq.by jt.1) (lq.ct jt.2.1) sg_40 u.2 (lens s (by omega) (by omega))
  · rw [if_neg (show ¬ nI (d + j) = 6 from fun q => d6 ((nI_eq (a := d + j) (b := 6) (by omega) (by omega)).mp q)), nI_1]
    obtain ⟨υ, x1, x2, x3⟩ := c_push (N := N) (v := 2000) c (by rw [Wl]; omega)
    have c2 : CL z (putF υ (z + 135) 5 (nI (d + j + 1))) 3 (d + j + 1) (2000 :: (List.replicate j 1011 ++ W0)) E := x2.dp
    have lq : LQ z τ1 (putF υ (z + 135) 5 (nI (d + j + 1))) := x3.pf (by omega)
    have tk : fX1_takes N (G1 z) (z + 135) (z + 1) (z + 35) τ1 = some (1, putF υ (z + 135) 5 (nI (d + j + 1))) := by
      rw [takes_3 c.1]
      unfold fX1_takesAtom fX1_takesAtom_b20 fX1_takesAtom_b34 fX1_takes_b162
      rw [w20, b_some, if_pos rfl, s40, b_some, if_neg n1, if_pos rfl, x1, b_some, pf0, x2.2.1, nI_1, if_neg (show ¬ (6 : Int32) < nI (d + j + 1) from nI_nlt (a := 6) (by omega) (by omega)), b_some]
      dsimp only
      rw [if_neg n1]
    obtain ⟨v, ω, p3, b3, r1, r2, r3, r4, r5, r6, r7, r8⟩ := (jt.lq lq).sign hN sg_40
    have ci' := c_isSign (N := N) (jt.lq lq).1 (jt.lq lq).2.1 sg_40
    rw [if_pos u] at ci'
    rw [ci'] at r1
    injection r1 with r1
    subst r1
    rcases r8 with ⟨_, r9, r10⟩ | ⟨h, _⟩
    rotate_left
    · exact absurd h (by decide)
    rw [r9] at r7
    have q3 : p3 = en blk B L p + 1 := by
      have := congrArg (fun x : pS => x.1 y 10) r9
      rw [PT_f10, PT_f10] at this
      exact (nI_eq (by have := r7.2.2.1.2.1; omega) (by omega)).mp this
    rw [q3] at r7
    have st1 : Rc N z k τ1 (k + 1) ω := Rc.step (by omega) kd1 tk r10
    have lx1 : LXf z τ1 ω := lq.lxf.t r6.lxf
    rcases j_cond (k := k + 1) hN ha (d := d + j + 1) (by omega) (by omega) (W := 2000 :: (List.replicate j 1011 ++ W0)) (show (2000 : Int32) ≠ 1011 by decide) (show (2000 : Int32) ≠ 1012 by decide) (show (2000 : Int32) ≠ 1013 by decide) (by rw [List.length_cons, Wl]; omega) (r7.p13 (v := nI (d + j + 1))) (r6.cl c2) (r.pt.p13) pf0 (by omega) (by rw [List.length_cons, Wl]; omega) (by omega) with ⟨υ2, k', p', τa, τb, C0, P, Rm, nn, i1, i2, i3, i4, i5, i5', i6, i7, i8, i9, i10, i11, i12, i13, i14, i15, i16⟩ | ⟨υ2, b, i1, i2, i3, i4⟩
    rotate_left
    · right
      rw [i1, b_some]
      dsimp only
      rw [if_pos rfl]
      exact ⟨υ2, b, rfl, i2, st1.fl lx1 i3, (FZ.pt.t FZ.p13).t i4⟩
    rw [i1, b_some]
    dsimp only
    rw [if_neg n1, i11, pf0, nI_m1]
    have p'L := i9.2.2.1.2.1
    have f4 : p' ≤ en blk B L p' := en_le
    have f5 : en blk B L p' ≤ L := en_L p'L
    have Pl := ps_len i5'
    have j9 : JT z y B L p' τb (putF υ2 y 13 (nI (d + j))) := i9.p13
    have fzz : FZ y τ2 (putF υ2 y 13 (nI (d + j))) := (FZ.pt.t FZ.p13).t (i10.t FZ.p13)
    obtain ⟨g1, g2, y1, y1', y2, y3⟩ := c_rel2 (N := N) i5 i5' (show (2000 : Int32) ≠ 1012 by decide) (show (2000 : Int32) ≠ 1013 by decide) (by rw [List.length_cons, Wl]; omega) (by rw [List.length_append]; omega)
    have w29 := i16 29 (by simp)
    have w30 := isW_lq hN i9.1 i9.2.1 y2 (show 0 < lenS.getD 30 0 by decide +kernel) (i16 30 (by simp))
    have e8 : fX1_endsLine_b14 N (G1 z) (z + 135) (z + 35) τb = some (0, τb) := by
      unfold fX1_endsLine_b14 fX1_endsLine_b31
      rw [i5.1, if_neg (by decide), if_pos rfl, i5.2.1, if_neg (nI_nle (by omega) (by omega))]
    have e8' : fX1_endsLine N (G1 z) (z + 135) (z + 35) τb = some (0, τb) := by
      unfold fX1_endsLine
      rw [i5.1, if_neg (by decide)]
      exact e8
    obtain ⟨v, ψ, p4, b4, s1, s2, s3, s4, s5, s6, s7, s8⟩ := j9.sign hN sg_41
    have s5 : fX12_sign N (G2 y) y (41 : Int32) (putF υ2 y 13 (nI (d + j))) = some (v, PT y (putF υ2 y 13 (nI (d + j))) p4 b4) := s5
    have c41 := c_isSign (N := N) j9.1 j9.2.1 sg_41
    have c41' := c_isSign (N := N) (y2.by j9.1) (y2.ct j9.2.1) sg_41
    have c41' : fX9_isSign N (G1 z) (z + 1) (41 : Int32) g2 = _ := c41'
    have s59 := c_isSign (N := N) j9.1 j9.2.1 sg_59
    have s59 : fX9_isSign N (G1 z) (z + 1) (59 : Int32) τb = _ := s59
    by_cases u2 : en blk B L p' < L ∧ B (en blk B L p') = nI 41
    · left
      rw [if_pos u2] at c41 c41'
      rw [if_neg (fun g => absurd (g.2.symm.trans u2.2) (by decide))] at s59
      rw [c41] at s1
      injection s1 with s1
      subst s1
      have c5 : CL z (putF (putF g2 (z + 135) 6 (nI (List.replicate j 1011 ++ W0).length)) (z + 135) 5 (nI (d + j))) 8 (d + j) (List.replicate j 1011 ++ W0) (E ++ C0 ++ P) := y3.pop.dp
      obtain ⟨χ, z1, z2, z3⟩ := c_endAtom (N := N) hN h0 c5 (by omega) (by rw [List.length_append, List.length_append]; omega) (by omega)
      rw [if_neg (by decide), List.append_nil] at z2
      have lq2 : LQ z τb χ := ((y2.pf (by omega)).pf (by omega)).t z3
      have tj : fX1_takesJoint N (G1 z) (z + 135) (z + 1) (z + 35) τb = some (1, χ) := by
        unfold fX1_takesJoint fX1_takesJoint_b42 fX1_takesJoint_b103
        have tp : fX1_topWaiting N (G1 z) (z + 135) g2 = some 2000 := c_top (N := N) y3 (by rw [List.length_cons, Wl]; omega)
        rw [s59, b_some, if_pos rfl, w29, b_some, y1, b_some, if_pos rfl, y1', b_some, if_pos rfl, w30, b_some, if_pos rfl, c41', b_some, if_neg n1, tp, b_some, if_pos rfl, if_neg n1, pf0n (show 5 ≠ 6 by decide), y3.2.1, y3.2.2.1, List.length_cons, nI_m1, nI_m1, z1, b_some]
        rfl
      have kd2 : τa.1 (z + 1) 1 ≠ 0 := by
        rw [← i4.1.1 1 1 (by omega) (by omega), i9.2.1.2.2.1]
        exact fun q => (tkd_0.mp q) u2.1
      obtain ⟨v, ξ, p5, b5, t1, t2, t3, t4, t5, t6, t7, t8⟩ := (j9.lq lq2).sign hN sg_41
      have ci2 := c_isSign (N := N) (j9.lq lq2).1 (j9.lq lq2).2.1 sg_41
      rw [if_pos u2] at ci2
      rw [ci2] at t1
      injection t1 with t1
      subst t1
      rcases t8 with ⟨_, t9, t10⟩ | ⟨h, _⟩
      · have q5 : p5 = en blk B L p' + 1 := by
          have := congrArg (fun x : pS => x.1 y 10) t9
          rw [PT_f10, PT_f10] at this
          exact (nI_eq (by have := t7.2.2.1.2.1; omega) (by omega)).mp this
        have st2 : Rc N z k' τa (k' + 1) ξ := Rc.step (by omega) kd2 (by rw [i4.2.1, tj, b_some]; rfl) t10
        have c8 : CL z ξ 8 d W0 (E ++ (C0 ++ P) ++ List.replicate j 1011) := by
          have := t6.cl z2
          simp only [List.append_assoc] at this ⊢
          exact this
        have t5 : fX12_sign N (G2 y) y (41 : Int32) (putF υ2 y 13 (nI (d + j))) = some (1, PT y (putF υ2 y 13 (nI (d + j))) p5 b5) := t5
        rw [t5, b_some]
        refine ⟨_, k' + 1, p5, ξ, ξ, C0 ++ P, Rm, nn, rfl, (st1.t i2).t st2, lx1.t (i3.t ((i4.1.lxf.t lq2.lxf).t t6.lxf)), BA.r8 c8.1, c8, i6, by omega, i8.p13.pt, t7, fzz.t FZ.pt, ?_, by omega, ?_, by omega, by omega⟩
        · rw [PT_fo (by decide) (by decide), pf0, h13]
        · rw [List.length_append]
          omega
      · exact absurd h (by decide)
    · right
      rw [if_neg u2] at c41 c41'
      rw [c41] at s1
      injection s1 with s1
      subst s1
      rw [s5, b_some]
      rcases s8 with ⟨h, _⟩ | ⟨_, s9, rfl, s11⟩
      · exact absurd h (by decide)
      refine ⟨_, en blk B L p', rfl, ?_, (st1.t i2).fl (lx1.t i3) ?_, fzz.t FZ.pt⟩
      · rw [s11, PT_f12]
      · have fb : ∀ x, LQ z ψ x → x.1 (z + 1) 2 = nI (en blk B L p') := fun x h => (h.1 1 2 (by omega) (by omega)).trans i9.2.1.2.1
        by_cases kz : τa.1 (z + 1) 1 = 0
        · refine ⟨ψ, fun M hM => ?_, fb _ LQ.r, i4.1.lxf⟩
          obtain ⟨M, rfl⟩ : ∃ M', M = M' + 1 := ⟨M - 1, by omega⟩
          have e : fX1_reads_b69 N (G1 z) (z + 135) (z + 35) τa = some (0, ψ) := by
            unfold fX1_reads_b69
            rw [i4.2.2, e8, b_some]
            rfl
          show (if (400 : Int32) ≤ nI k' then (fX1_reads_b69 N (G1 z) (z + 135) (z + 35) τa) else (if (τa.1 (z + 1) 1) = 0 then (fX1_reads_b69 N (G1 z) (z + 135) (z + 35) τa) else _)) = _
          rw [if_pos kz, e]
          by_cases q : (400 : Int32) ≤ nI k'
          · rw [if_pos q]
          · rw [if_neg q]
        · have fk : en blk B L p' < L := Classical.byContradiction (fun g => kz (by
            rw [← i4.1.1 1 1 (by omega) (by omega), i9.2.1.2.2.1]
            exact tkd_0.mpr g))
          by_cases u3 : en blk B L p' < L ∧ B (en blk B L p') = nI 59
          · rw [if_pos u3] at s59
            refine Fl.no (υ := ψ) (by omega) kz ?_ (fb _ LQ.r) i4.1.lxf
            rw [i4.2.1]
            unfold fX1_takesJoint
            rw [s59, b_some, if_neg n1, e8', b_some]
            rfl
          · rw [if_neg u3] at s59
            refine Fl.no (υ := g2) (by omega) kz ?_ (fb _ y2) (i4.1.lxf.t y2.lxf)
            rw [i4.2.1]
            unfold fX1_takesJoint fX1_takesJoint_b42 fX1_takesJoint_b102 fX1_takesJoint_b103
            rw [s59, b_some, if_pos rfl, w29, b_some, y1, b_some, if_pos rfl, y1', b_some, if_pos rfl, w30, b_some, if_pos rfl, c41', b_some, if_pos rfl, if_pos rfl]
            rfl
