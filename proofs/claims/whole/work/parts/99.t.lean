/-! the law's texts: not -/
theorem c_push' {N z d : Nat} {τ : pS} {s v : Int32} {W E : List Int32} (h : CL z τ s d W E) (hW : W.length ≤ 20) : ∃ υ, fX1_pushWaiting N (G1 z) (z + 135) v τ = some υ ∧ LQ z τ υ ∧ υ.1 (z + 135) 5 = nI d := by
  by_cases q : W.length < 20
  · obtain ⟨υ, x1, x2, x3⟩ := c_push (N := N) (v := v) h q
    exact ⟨υ, x1, x3, x2.2.1⟩
  · have e : W.length = 20 := by omega
    refine ⟨τ, ?_, LQ.r, h.2.1⟩
    unfold fX1_pushWaiting
    rw [h.2.2.1, e, if_neg (nI_pos (by omega)), if_pos (show (20 : Int32) ≤ nI 20 from lit_end)]
theorem JT.p13 {z y L p : Nat} {B : Nat → Int32} {τ1 τ2 : pS} {v : Int32} (j : JT z y B L p τ1 τ2) : JT z y B L p τ1 (putF τ2 y 13 v) := ⟨j.1, j.2.1, ⟨j.2.2.1.1, j.2.2.1.2.1, by rw [pf0n (by decide)]; exact j.2.2.1.2.2.1, by rw [pf0n (by decide)]; exact j.2.2.1.2.2.2⟩, j.2.2.2⟩
theorem not_no {B : Nat → Int32} {e f s : Nat} (h1 : 23 ≤ s) (h2 : s ≤ 28) (h : wdP B e f 20) (g : wdP B e f s) : False := by
  have l20 : lenS.getD 20 0 = 3 := by decide +kernel
  have l23 : lenS.getD 23 0 = 4 := by decide +kernel
  have l24 : lenS.getD 24 0 = 4 := by decide +kernel
  have l25 : lenS.getD 25 0 = 5 := by decide +kernel
  have l26 : lenS.getD 26 0 = 5 := by decide +kernel
  have l27 : lenS.getD 27 0 = 4 := by decide +kernel
  have l28 : lenS.getD 28 0 = 3 := by decide +kernel
  have a := h.1
  have b := g.1
  rw [l20] at a
  have : s = 23 ∨ s = 24 ∨ s = 25 ∨ s = 26 ∨ s = 27 ∨ s = 28 := by omega
  rcases this with q | q | q | q | q | q
  · rw [q, l23] at b
    omega
  · rw [q, l24] at b
    omega
  · rw [q, l25] at b
    omega
  · rw [q, l26] at b
    omega
  · rw [q, l27] at b
    omega
  · have x := h.2 0 (by rw [l20]; omega)
    have y := g.2 0 (by rw [q, l28]; omega)
    rw [q] at y
    rw [x] at y
    exact absurd y (by decide +kernel)
theorem j_not {N z y L d p k j m : Nat} {B : Nat → Int32} {W0 E : List Int32} {R : List (Int32 × Int32)} {τ1 τ2 : pS} {rc : Nat × pS → Option (Int32 × pS)} (hN : 20000 < N) (ha : AtomOK N z y B L rc m) (jt : JT z y B L p τ1 τ2) (c : CL z τ1 3 (d + j) (List.replicate j 1011 ++ W0) E) (r : RE y τ2 R) (h13 : τ2.1 y 13 = nI (d + j)) (s40 : fX9_isSign N (G1 z) (z + 1) (40 : Int32) τ1 = some 0) (hk : k ≤ p) (hE : E.length + j + W0.length + 8 ≤ p) (hR : R.length + 8 ≤ p) (hD : d + j ≤ 6) (hm : 6 < m + 1 + (d + j)) (h0 : W0.headD (-1) ≠ 1011) (hW : W0.length + j ≤ 3 * (d + j) + 2) : AS N z y B L k τ1 τ2 d W0 E R j (2 * (6 - (d + j))) p ((fX12_passes N (G2 y) y 64 τ2).bind (fun q4 => if q4.1 = 0 then ((fX12_readTag N (G2 y) y q4.2).bind (fun q5 => if q5.1 = 0 then ((fX12_readSum N (G2 y) y q5.2).bind (fun q6 => if q6.1 = 0 then (some ((0 : Int32), q6.2)) else ((fX12_sign N (G2 y) y (60 : Int32) q6.2).bind (fun q7 => if q7.1 = 0 then ((fX12_sign N (G2 y) y (62 : Int32) q7.2).bind (fun q8 => if q8.1 = 0 then (some ((0 : Int32), q8.2)) else (fX12_readAtom_b152 N (G2 y) rc y q7.1 q8.2))) else (fX12_readAtom_b152 N (G2 y) rc y q7.1 q7.2))))) else (some ((1 : Int32), q5.2)))) else (if (q4.2.1 y 13) = (6 : Int32) then (some ((0 : Int32), q4.2)) else ((rc (y, putF q4.2 y 13 ((q4.2.1 y 13) + (1 : Int32)))).bind (fun q9 => if q9.1 = 0 then (some ((0 : Int32), q9.2)) else ((fX12_emits N (G2 y) y (12 : Int32) (0 : Int32) (putF q9.2 y 13 ((q9.2.1 y 13) - (1 : Int32)))).bind (fun q10 => some ((1 : Int32), q10)))))))) ∨ AF N z y k τ1 τ2 ((fX12_passes N (G2 y) y 64 τ2).bind (fun q4 => if q4.1 = 0 then ((fX12_readTag N (G2 y) y q4.2).bind (fun q5 => if q5.1 = 0 then ((fX12_readSum N (G2 y) y q5.2).bind (fun q6 => if q6.1 = 0 then (some ((0 : Int32), q6.2)) else ((fX12_sign N (G2 y) y (60 : Int32) q6.2).bind (fun q7 => if q7.1 = 0 then ((fX12_sign N (G2 y) y (62 : Int32) q7.2).bind (fun q8 => if q8.1 = 0 then (some ((0 : Int32), q8.2)) else (fX12_readAtom_b152 N (G2 y) rc y q7.1 q8.2))) else (fX12_readAtom_b152 N (G2 y) rc y q7.1 q7.2))))) else (some ((1 : Int32), q5.2)))) else (if (q4.2.1 y 13) = (6 : Int32) then (some ((0 : Int32), q4.2)) else ((rc (y, putF q4.2 y 13 ((q4.2.1 y 13) + (1 : Int32)))).bind (fun q9 => if q9.1 = 0 then (some ((0 : Int32), q9.2)) else ((fX12_emits N (G2 y) y (12 : Int32) (0 : Int32) (putF q9.2 y 13 ((q9.2.1 y 13) - (1 : Int32)))).bind (fun q10 => some ((1 : Int32), q10)))))))) := by
  have n1 : ¬ (1 : Int32) = 0 := by decide
  have hL := jt.1.1
  have hp := jt.2.2.1.2.1
  have f1 : en blk B L p ≤ L := en_L hp
  have f2 : en ltr B L (en blk B L p) ≤ L := en_L f1
  have f3 : p ≤ en blk B L p := en_le
  have Wl : (List.replicate j (1011 : Int32) ++ W0).length = j + W0.length := by rw [List.length_append, List.length_replicate]
  rcases jt.ps hN sw_not with ⟨hf, a1, a2, a3⟩ | ⟨a1, a2, a3⟩
  · rw [a2, b_some]
    dsimp only
    rw [if_neg n1, PT_fo (by decide) (by decide), h13]
    have kd1 : τ1.1 (z + 1) 1 ≠ 0 := by
      rw [jt.2.1.2.2.1]
      exact fun q => (tkd_0.mp q) (by omega)
    by_cases d6 : d + j = 6
    · right
      rw [d6, if_pos (show nI 6 = 6 from rfl)]
      refine ⟨_, en blk B L p, rfl, PT_f12, ?_, FZ.pt⟩
      obtain ⟨υ, x1, x2, x3⟩ := c_push' (N := N) (v := 1011) c (by rw [Wl]; omega)
      have lq : LQ z τ1 (putF υ (z + 135) 5 (nI (d + j + 1))) := x2.pf (by omega)
      have t1 : tkd B L (en blk B L p) = 1 := tkd_1.mpr (Classical.byContradiction (fun g => by
        rw [en_id g] at hf
        omega))
      refine Fl.no (υ := putF υ (z + 135) 5 (nI (d + j + 1))) (by omega) kd1 ?_ ((lq.1 1 2 (by omega) (by omega)).trans jt.2.1.2.1) lq.lxf
      rw [takes_3 c.1]
      unfold fX1_takesAtom fX1_takesAtom_b20 fX1_takesAtom_b34
      rw [a1, b_some, if_neg n1, if_neg n1, x1, b_some, pf0, x3, nI_1, if_pos (show (6 : Int32) < nI (d + j + 1) from nI_lt (a := 6) (by omega) (by omega)), b_some]
      dsimp only
      rw [if_pos rfl, c_noPart ?_ ?_, b_some]
      · dsimp only
        rw [if_pos rfl]
      · rw [c_numIn (lq.ct jt.2.1) (by decide)]
        exact congrArg some (Classical.byContradiction (fun g => by
          have := (rv_ok g).2.2.1
          rw [t1] at this
          exact absurd this (by decide)))
      · intro s s1 s2
        rcases c_isWord (sid := 20) hN jt.1 jt.2.1 sw_not.2.1 with ⟨q1, _⟩ | ⟨_, q1⟩
        · have lp : 0 < lenS.getD s 0 := by
            have : ∀ s, s < 29 → 23 ≤ s → 0 < lenS.getD s 0 := by decide +kernel
            exact this s (by omega) s1
          rcases c_isWord (sid := s) hN (lq.by jt.1) (lq.ct jt.2.1) lp with ⟨q2, _⟩ | ⟨_, q2⟩
          · exact (not_no s1 s2 q1 q2).elim
          · exact q2
        · rw [a1] at q1
          injection q1 with q1
          exact absurd q1 (by decide)
    · rw [if_neg (show ¬ nI (d + j) = 6 from fun q => d6 ((nI_eq (a := d + j) (b := 6) (by omega) (by omega)).mp q)), nI_1]
      obtain ⟨υ, x1, x2, x3⟩ := c_push (N := N) (v := 1011) c (by rw [Wl]; omega)
      have c2 : CL z (putF υ (z + 135) 5 (nI (d + j + 1))) 3 (d + j + 1) (1011 :: (List.replicate j 1011 ++ W0)) E := x2.dp
      have lq : LQ z τ1 (putF υ (z + 135) 5 (nI (d + j + 1))) := x3.pf (by omega)
      have tk : fX1_takes N (G1 z) (z + 135) (z + 1) (z + 35) τ1 = some (1, putF υ (z + 135) 5 (nI (d + j + 1))) := by
        rw [takes_3 c.1]
        unfold fX1_takesAtom fX1_takesAtom_b20 fX1_takesAtom_b34 fX1_takes_b162
        rw [a1, b_some, if_neg n1, if_neg n1, x1, b_some, pf0, x2.2.1, nI_1, if_neg (show ¬ (6 : Int32) < nI (d + j + 1) from nI_nlt (a := 6) (by omega) (by omega)), b_some]
        dsimp only
        rw [if_neg n1]
      obtain ⟨ω, b1, b2, b3⟩ := a3 _ lq
      have st1 : Rc N z k τ1 (k + 1) ω := Rc.step (by omega) kd1 tk b1
      have lx1 : LXf z τ1 ω := lq.lxf.t b2.lxf
      have c3 : CL z ω 3 (d + (j + 1)) (List.replicate (j + 1) 1011 ++ W0) E := b2.cl c2
      have l3 : lenS.getD 20 0 = 3 := by decide +kernel
      have e3 : en ltr B L (en blk B L p) = en blk B L p + 3 := by
        rcases c_isWord (sid := 20) hN jt.1 jt.2.1 sw_not.2.1 with ⟨q, _⟩ | ⟨_, q⟩
        · rw [← l3]
          exact q.1
        · rw [a1] at q
          injection q with q
          exact absurd q (by decide)
      rcases ha d (j + 1) (en ltr B L (en blk B L p)) (k + 1) W0 E R ω _ (b3.p13 (v := nI (d + j + 1))) c3 (r.pt.p13) pf0 (by omega) (by omega) (by omega) (by omega) (by omega) h0 (by omega) with ⟨υ2, k', p', τa, τb, C, Rm, nn, i1, i2, i3, i4, i5, i6, i7, i8, i9, i10, i11, i12, i13, i14, i15⟩ | ⟨υ2, b, i1, i2, i3, i4⟩
      · left
        have p'L := i9.2.2.1.2.1
        rw [i1, b_some]
        dsimp only
        rw [if_neg n1, i11, pf0, nI_m1]
        obtain ⟨υ3, m1, m2, m3, m4⟩ := r_emits (N := N) (a := 12) (b := 0) (i8.p13 (v := nI (d + j))) (by rw [List.length_append]; omega)
        rw [m1, b_some]
        refine ⟨υ3, k', p', τa, τb, C ++ [1011], Rm ++ [(12, 0)], nn, rfl, st1.t i2, lx1.t i3, i4, ?_, i6.neg, by omega, ?_, (i9.p13).em m3 m4, ((FZ.pt.t FZ.p13).t (i10.t FZ.p13)).t m3, ?_, i12, ?_, ?_, by omega⟩
        · rw [List.replicate_succ] at i5
          simp only [List.append_assoc, List.cons_append, List.nil_append] at i5 ⊢
          exact i5
        · rw [← List.append_assoc]
          exact m2
        · rw [m4 13 (by decide), pf0, h13]
        · rw [List.length_append]
          show C.length + 1 + p ≤ _
          omega
        · rw [List.length_append]
          show Rm.length + 1 + p ≤ _
          omega
      · right
        rw [i1, b_some]
        dsimp only
        rw [if_pos rfl]
        exact ⟨υ2, b, rfl, i2, st1.fl lx1 i3, (FZ.pt.t FZ.p13).t i4⟩
  · rw [a2, b_some]
    dsimp only
    rw [if_pos rfl]
    rcases j_tag (k := k) (rc := rc) hN a3 c (r.pt (p := en blk B L p) (b := en blk B L p)) a1 s40 (by omega) (by omega) (by omega) (by omega) h0 (by omega) with h | h
    · exact Or.inl (h.pre FZ.pt (by rw [PT_fo (by decide) (by decide)]) (by omega) (by omega))
    · exact Or.inr (h.pre FZ.pt)
