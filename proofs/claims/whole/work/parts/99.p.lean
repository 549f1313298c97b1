/-! the law's texts: comparisons, their two sides -/
theorem sEt_len : ∀ l : List Nat, (sEt l).length = 2 * l.length := by
  intro l
  induction l with
  | nil => rfl
  | cons q l ih =>
    show (sEt l).length + 1 + 1 = 2 * (l.length + 1)
    omega
theorem j_cmp2 {N z y L d p p0 k k0 j a : Nat} {B : Nat → Int32} {ls : Bool} {l : List Nat} {W0 E : List Int32} {R : List (Int32 × Int32)} {τ1 τ2 σ1 σ2 : pS} {rc : Nat × pS → Option (Int32 × pS)} (hN : 20000 < N) (jt : JT z y B L p τ1 τ2) (c : CL z τ1 6 (d + j) (List.replicate j 1011 ++ W0) (E ++ (nI a :: l.map nI) ++ [1006])) (h4 : τ1.1 (z + 135) 4 = if ls = true then 1007 else 1008) (r : RE y τ2 (R ++ (ptE a :: sEt l))) (oa : a < 1006) (ol : ∀ q ∈ l, q < 1006) (pre : Rc N z k0 σ1 k τ1) (lx : LXf z σ1 τ1) (fz : FZ y σ2 τ2) (h13 : τ2.1 y 13 = σ2.1 y 13) (hk : k ≤ p) (hE : E.length + j + W0.length + 10 + l.length ≤ p) (hR : R.length + 2 * l.length + 10 ≤ p) (hp0 : 2 * l.length + 2 + p0 ≤ p) (hj : j ≤ 6) (h0 : W0.headD (-1) ≠ 1011) (hW : W0.length + j ≤ 20) : AS N z y B L k0 σ1 σ2 d W0 E R j 0 p0 (fX12_readAtom_b152 N (G2 y) rc y (if ls = true then 1 else 0) τ2) ∨ AF N z y k0 σ1 σ2 (fX12_readAtom_b152 N (G2 y) rc y (if ls = true then 1 else 0) τ2) := by
  have n1 : ¬ (1 : Int32) = 0 := by decide
  have hL := jt.1.1
  have El : (E ++ (nI a :: l.map nI) ++ [1006]).length = E.length + l.length + 2 := by
    rw [List.length_append, List.length_append, List.length_cons, List.length_map]
    show E.length + (l.length + 1) + 1 = _
    omega
  have Rl : (R ++ (ptE a :: sEt l)).length = R.length + 2 * l.length + 1 := by
    rw [List.length_append, List.length_cons, sEt_len]
    omega
  unfold fX12_readAtom_b152 fX12_readAtom_b173
  rcases j_wsum (s := 6) hN jt c r (Or.inr rfl) (fun h => absurd h (by decide)) hk (by rw [El]; omega) (by rw [Rl]; omega) with ⟨k1, p1, τa, υa, b, rr, e1, e2, e3, e4, e5, e6, e7, e8, e9, e10, e11, e12, e13, e14⟩ | ⟨υ2, b, e1, e2, e3, e4⟩
  · left
    rw [e1, b_some]
    dsimp only
    rw [if_neg n1]
    have e6 : CL z τa 7 (d + j) (List.replicate j 1011 ++ W0) (E ++ (nI a :: l.map nI) ++ [1006] ++ (nI b :: rr.map nI)) := e6
    have p1L := e9.2.2.1.2.1
    have El2 : (E ++ (nI a :: l.map nI) ++ [1006] ++ (nI b :: rr.map nI)).length = E.length + l.length + rr.length + 3 := by
      rw [List.length_append, El, List.length_cons, List.length_map]
      omega
    have Rl2 : (R ++ (ptE a :: sEt l) ++ (ptE b :: sEt rr)).length = R.length + 2 * l.length + 2 * rr.length + 2 := by
      rw [List.length_append, Rl, List.length_cons, sEt_len]
      omega
    obtain ⟨υ1, x1, x2, x3⟩ := c_endAtom (N := N) hN h0 e6 hj (by rw [El2]; omega) hW
    rw [if_pos rfl, e7, h4] at x2
    have cs := c_isSign (N := N) e9.1 e9.2.1 sg_43
    rw [if_neg e14] at cs
    have ba : BA N z τa υ1 := BA.r7 e6.1 cs x1 x3
    obtain ⟨υb, m1, m2, m3, m4⟩ := r_emits (N := N) (a := if ls = true then 10 else 11) (b := 0) e8 (by rw [Rl2]; omega)
    have cd : Cd ((ptE a :: sEt l) ++ (ptE b :: sEt rr) ++ [(if ls = true then 10 else 11, 0)]) ((nI a :: l.map nI) ++ [1006] ++ (nI b :: rr.map nI) ++ [if ls = true then 1007 else 1008]) 0 := Cd.cmp oa e2 ol e3
    refine ⟨υb, k1, p1, τa, υ1, (nI a :: l.map nI) ++ [1006] ++ (nI b :: rr.map nI) ++ [if ls = true then 1007 else 1008], _, 0, ?_, pre.t e4, lx.t e5, ba, ?_, cd, Nat.le_refl _, ?_, (e9.lq x3).em m3 m4, (fz.t e12).t m3, ((m4 13 (by decide)).trans e13).trans h13, by omega, ?_, ?_, by omega⟩
    · cases ls with
      | true =>
        rw [if_pos rfl, if_neg n1]
        have m1 : fX12_emits N (G2 y) y (10 : Int32) 0 υa = some υb := m1
        rw [m1, b_some]
      | false =>
        rw [if_neg Bool.false_ne_true, if_pos rfl]
        have m1 : fX12_emits N (G2 y) y (11 : Int32) 0 υa = some υb := m1
        rw [m1, b_some]
    · simp only [List.append_assoc] at x2 ⊢
      exact x2
    · simp only [List.append_assoc] at m2 ⊢
      exact m2
    · simp only [List.length_append, List.length_cons, List.length_map, List.length_nil]
      omega
    · simp only [List.length_append, List.length_cons, List.length_nil, sEt_len]
      omega
  · right
    rw [e1, b_some]
    dsimp only
    rw [if_pos rfl]
    exact ⟨υ2, b, rfl, e2, pre.fl lx e3, fz.t e4⟩
/-- the class takes '<' or '>' -/
theorem c_cmpst {N z d : Nat} {τ : pS} {v : Int32} {W E : List Int32} (c : CL z τ 5 d W E) (hE : E.length < 400) : ∃ υ, fX0_addStep N (G1 z) (z + 35) 1006 (putF τ (z + 135) 4 v) = some υ ∧ CL z (putF υ (z + 135) 0 6) 6 d W (E ++ [1006]) ∧ LQ z τ (putF υ (z + 135) 0 6) ∧ (putF υ (z + 135) 0 6).1 (z + 135) 4 = v := by
  obtain ⟨υ, x1, x2, x3, x4⟩ := c_addStep (N := N) (v := 1006) (c.pf (v := v) (show 4 ≠ 0 ∧ 4 ≠ 5 ∧ 4 ≠ 6 by decide)) hE
  refine ⟨υ, x1, x2.st, ((LQ.r.pf (by omega)).t x3).pf (by omega), ?_⟩
  rw [pf0n (by decide), x4, pf0]
theorem j_cmp {N z y L d p k j : Nat} {B : Nat → Int32} {W0 E : List Int32} {R : List (Int32 × Int32)} {τ1 τ2 : pS} {rc : Nat × pS → Option (Int32 × pS)} (hN : 20000 < N) (jt : JT z y B L p τ1 τ2) (c : CL z τ1 3 (d + j) (List.replicate j 1011 ++ W0) E) (r : RE y τ2 R) (ta : fX1_takesAtom N (G1 z) (z + 135) (z + 1) (z + 35) τ1 = some (0, τ1)) (hk : k ≤ p) (hE : E.length + j + W0.length + 8 ≤ p) (hR : R.length + 8 ≤ p) (hj : j ≤ 6) (h0 : W0.headD (-1) ≠ 1011) (hW : W0.length + j ≤ 20) : AS N z y B L k τ1 τ2 d W0 E R j 0 p ((fX12_readSum N (G2 y) y τ2).bind (fun q6 => if q6.1 = 0 then (some ((0 : Int32), q6.2)) else ((fX12_sign N (G2 y) y (60 : Int32) q6.2).bind (fun q7 => if q7.1 = 0 then ((fX12_sign N (G2 y) y (62 : Int32) q7.2).bind (fun q8 => if q8.1 = 0 then (some ((0 : Int32), q8.2)) else (fX12_readAtom_b152 N (G2 y) rc y q7.1 q8.2))) else (fX12_readAtom_b152 N (G2 y) rc y q7.1 q7.2))))) ∨ AF N z y k τ1 τ2 ((fX12_readSum N (G2 y) y τ2).bind (fun q6 => if q6.1 = 0 then (some ((0 : Int32), q6.2)) else ((fX12_sign N (G2 y) y (60 : Int32) q6.2).bind (fun q7 => if q7.1 = 0 then ((fX12_sign N (G2 y) y (62 : Int32) q7.2).bind (fun q8 => if q8.1 = 0 then (some ((0 : Int32), q8.2)) else (fX12_readAtom_b152 N (G2 y) rc y q7.1 q8.2))) else (fX12_readAtom_b152 N (G2 y) rc y q7.1 q7.2))))) := by
  have n1 : ¬ (1 : Int32) = 0 := by decide
  have hL := jt.1.1
  rcases j_wsum (s := 3) hN jt c r (Or.inl rfl) (fun _ => ta) hk (by omega) hR with ⟨k1, p1, τa, υa, a, l, e1, e2, e3, e4, e5, e6, e7, e8, e9, e10, e11, e12, e13, e14⟩ | ⟨υ2, b, e1, e2, e3, e4⟩
  · rw [e1, b_some]
    dsimp only
    rw [if_neg n1]
    have e6 : CL z τa 5 (d + j) (List.replicate j 1011 ++ W0) (E ++ (nI a :: l.map nI)) := e6
    have p1L := e9.2.2.1.2.1
    have pf : p1 ≤ en blk B L p1 := en_le
    have fL : en blk B L p1 ≤ L := en_L p1L
    have El : (E ++ (nI a :: l.map nI)).length = E.length + l.length + 1 := by
      rw [List.length_append, List.length_cons, List.length_map]
      omega
    have c43 := c_isSign (N := N) e9.1 e9.2.1 sg_43
    rw [if_neg e14] at c43
    have c43 : fX9_isSign N (G1 z) (z + 1) (43 : Int32) τa = some 0 := c43
    have c60 := c_isSign (N := N) e9.1 e9.2.1 sg_60
    have c60 : fX9_isSign N (G1 z) (z + 1) (60 : Int32) τa = _ := c60
    by_cases u : en blk B L p1 < L ∧ B (en blk B L p1) = nI 60
    · rw [if_pos u] at c60
      obtain ⟨υ, x1, x2, x3, x4⟩ := c_cmpst (N := N) (v := 1007) e6 (by rw [El]; omega)
      have kd1 : τa.1 (z + 1) 1 ≠ 0 := by
        rw [e9.2.1.2.2.1]
        exact fun q => (tkd_0.mp q) u.1
      have tk : fX1_takes N (G1 z) (z + 135) (z + 1) (z + 35) τa = some (1, putF υ (z + 135) 0 6) := by
        rw [takes_5 e6.1]
        unfold fX1_takesComparison fX1_takesComparison_b37 fX1_takesComparison_b66
        rw [c43, b_some, if_pos rfl, c60, b_some, if_neg n1, x1, b_some, if_neg n1, b_some]
        rfl
      obtain ⟨v, ψ, p3, b3, r1, r2, r3, r4, r5, r6, r7, r8⟩ := (e9.lq x3).sign hN sg_60
      have ci' := c_isSign (N := N) (e9.lq x3).1 (e9.lq x3).2.1 sg_60
      rw [if_pos u] at ci'
      rw [ci'] at r1
      injection r1 with r1
      subst r1
      have r5 : fX12_sign N (G2 y) y (60 : Int32) υa = some (1, PT y υa p3 b3) := r5
      rw [r5, b_some]
      dsimp only
      rw [if_neg n1]
      rcases r8 with ⟨_, r9, r10⟩ | ⟨h, _⟩
      · have q3 : p3 = en blk B L p1 + 1 := by
          have := congrArg (fun x : pS => x.1 y 10) r9
          rw [PT_f10, PT_f10] at this
          exact (nI_eq (by have := r7.2.2.1.2.1; omega) (by omega)).mp this
        have st1 : Rc N z k1 τa (k1 + 1) ψ := Rc.step (by omega) kd1 tk r10
        have h4 : ψ.1 (z + 135) 4 = if true = true then 1007 else 1008 := by
          rw [r6.1 (z + 135) 4 (by omega), x4, if_pos rfl]
        exact j_cmp2 (ls := true) hN r7 (r6.cl x2) h4 e8.pt e2 e3 (e4.t st1) (e5.t (x3.lxf.t r6.lxf)) (e12.t FZ.pt) (by rw [PT_fo (by decide) (by decide)]; exact e13) (by omega) (by omega) (by omega) (by omega) hj h0 hW
      · exact absurd h (by decide)
    · rw [if_neg u] at c60
      obtain ⟨υ, x1, x2, x3, x4⟩ := c_cmpst (N := N) (v := 1008) e6 (by rw [El]; omega)
      obtain ⟨v, ψ, p3, b3, r1, r2, r3, r4, r5, r6, r7, r8⟩ := (e9.lq x3).sign hN sg_60
      have ci' := c_isSign (N := N) (e9.lq x3).1 (e9.lq x3).2.1 sg_60
      rw [if_neg u] at ci'
      rw [ci'] at r1
      injection r1 with r1
      subst r1
      have r5 : fX12_sign N (G2 y) y (60 : Int32) υa = some (0, PT y υa p3 b3) := r5
      rw [r5, b_some]
      dsimp only
      rw [if_pos rfl]
      rcases r8 with ⟨h, _⟩ | ⟨_, r9, rfl, r11⟩
      · exact absurd h (by decide)
      have q3 : p3 = en blk B L p1 := by
        have := congrArg (fun x : pS => x.1 y 10) r11
        rw [PT_f10, PT_f10] at this
        exact (nI_eq (by have := r7.2.2.1.2.1; omega) (by omega)).mp this
      obtain ⟨v, χ, p4, b4, s1, s2, s3, s4, s5, s6, s7, s8⟩ := r7.sign hN sg_62
      have c62 := c_isSign (N := N) r7.1 r7.2.1 sg_62
      rw [q3, en_en] at c62
      have c62 : fX9_isSign N (G1 z) (z + 1) (62 : Int32) (putF υ (z + 135) 0 6) = _ := c62
      rw [PT_PT] at s5 s7
      have s5 : fX12_sign N (G2 y) y (62 : Int32) (PT y υa p3 b3) = some (v, PT y υa p4 b4) := s5
      rw [s5, b_some]
      dsimp only
      by_cases u2 : en blk B L p1 < L ∧ B (en blk B L p1) = nI 62
      · rw [if_pos u2] at c62
        rw [show fX9_isSign N (G1 z) (z + 1) (nI 62) (putF υ (z + 135) 0 6) = some 1 from c62] at s1
        injection s1 with s1
        subst s1
        rw [if_neg n1]
        have kd1 : τa.1 (z + 1) 1 ≠ 0 := by
          rw [e9.2.1.2.2.1]
          exact fun q => (tkd_0.mp q) u2.1
        have tk : fX1_takes N (G1 z) (z + 135) (z + 1) (z + 35) τa = some (1, putF υ (z + 135) 0 6) := by
          rw [takes_5 e6.1]
          unfold fX1_takesComparison fX1_takesComparison_b37 fX1_takesComparison_b66
          rw [c43, b_some, if_pos rfl, c60, b_some, if_pos rfl, x1, b_some, if_pos rfl, c62, b_some, if_neg n1, b_some]
          rfl
        rcases s8 with ⟨_, s9, s10⟩ | ⟨h, _⟩
        · rw [PT_PT, PT_PT, q3, en_en] at s9
          have q4 : p4 = en blk B L p1 + 1 := by
            have := congrArg (fun x : pS => x.1 y 10) s9
            rw [PT_f10, PT_f10] at this
            exact (nI_eq (by have := s7.2.2.1.2.1; omega) (by omega)).mp this
          have st1 : Rc N z k1 τa (k1 + 1) χ := Rc.step (by omega) kd1 tk s10
          have h4 : χ.1 (z + 135) 4 = if false = true then 1007 else 1008 := by
            rw [s6.1 (z + 135) 4 (by omega), x4, if_neg Bool.false_ne_true]
          exact j_cmp2 (ls := false) hN s7 (s6.cl x2) h4 e8.pt e2 e3 (e4.t st1) (e5.t (x3.lxf.t s6.lxf)) (e12.t FZ.pt) (by rw [PT_fo (by decide) (by decide)]; exact e13) (by omega) (by omega) (by omega) (by omega) hj h0 hW
        · exact absurd h (by decide)
      · rw [if_neg u2] at c62
        rw [show fX9_isSign N (G1 z) (z + 1) (nI 62) (putF υ (z + 135) 0 6) = some 0 from c62] at s1
        injection s1 with s1
        subst s1
        rw [if_pos rfl]
        rcases s8 with ⟨h, _⟩ | ⟨_, s9, s10, s11⟩
        · exact absurd h (by decide)
        right
        refine ⟨PT y υa p4 b4, en blk B L p1, rfl, ?_, e4.fl e5 ?_, e12.t FZ.pt⟩
        · rw [PT_PT, PT_PT, q3, en_en] at s11
          rw [s11, PT_f12]
        · by_cases kz : τa.1 (z + 1) 1 = 0
          · refine Fl.end (by omega) kz ?_ e9.2.1.2.1
            rw [e6.1]
            decide
          · have fk := e9.k kz
            refine Fl.no (υ := putF υ (z + 135) 0 6) (by omega) kz ?_ ((x3.1 1 2 (by omega) (by omega)).trans e9.2.1.2.1) x3.lxf
            rw [takes_5 e6.1]
            unfold fX1_takesComparison fX1_takesComparison_b37 fX1_takesComparison_b66
            rw [c43, b_some, if_pos rfl, c60, b_some, if_pos rfl, x1, b_some, if_pos rfl, c62, b_some, if_pos rfl, b_some]
            rfl
  · right
    rw [e1, b_some]
    dsimp only
    rw [if_pos rfl]
    exact ⟨υ2, b, rfl, e2, e3, e4⟩
