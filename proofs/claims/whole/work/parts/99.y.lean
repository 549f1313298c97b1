/-! the law's texts: all lines -/
def SLaw (z y : Nat) (τ1 τ2 : pS) (R1 R2 : Option (Int32 × pS)) : Prop := ∃ v r υ1 υ2, R1 = some (v, υ1) ∧ R2 = some (r, υ2) ∧ LG z τ1 υ1 ∧ FV y τ2 υ2 ∧ ((v = 1 ∧ ∃ n E R, n ≤ 12 ∧ r = nI n ∧ LI z y n υ1 υ2 E R ∧ E.length ≤ 400 ∧ R.length ≤ 400) ∨ (v = 0 ∧ r = -1 ∧ ∃ b, υ1.1 (z + 1) 2 = nI b ∧ υ2.1 y 12 = nI b))
theorem LI.tf {z y n p b : Nat} {τ1 τ2 υ : pS} {E : List Int32} {R : List (Int32 × Int32)} (h : LI z y n τ1 τ2 E R) (t : TF z τ1 υ) : LI z y n υ (PT y τ2 p b) E R := by
  obtain ⟨h1, h2, h3, h4, h5⟩ := h
  refine ⟨(t.1 _ _ (by omega)).trans h1, t.cl h2, h3.pt, ?_, fun i hi => ?_⟩
  · rw [t.2]
    exact h4
  · rw [t.2]
    exact h5 i hi
theorem r_lawLine {N y n : Nat} {τ2 σ : pS} (hn : n < 12) (l1 : fX12_letters N (G2 y) y τ2 = some σ) : fX12_readLine N (G2 y) y 0 (nI n) τ2 = (fX12_readLawLine N (G2 y) y (nI n) σ).bind (fun q1 => if q1.1 = 0 then (some ((0 : Int32), q1.2)) else (some ((1 : Int32), q1.2))) := by
  unfold fX12_readLine fX12_readLine_b16 fX12_readLine_b41
  rw [l1, b_some, if_pos rfl, if_neg (show ¬ (12 : Int32) ≤ nI n from lit_lt (m := 12) hn (by decide)), if_pos rfl]
theorem j_laws {N z y L : Nat} {B : Nat → Int32} (hN : 20000 < N) : ∀ (m n k M1 M2 p : Nat) (τ1 τ2 : pS) (E : List Int32) (R : List (Int32 × Int32)), 12 - n ≤ m → n ≤ 12 → 400 < M1 + k → m < M2 → JT z y B L p τ1 τ2 → LI z y n τ1 τ2 E R → k ≤ p → E.length ≤ p → R.length ≤ p → SLaw z y τ1 τ2 (lp (lawB N z) M1 (nI k, τ1)) (lp (fun (k28 : Int32 × pS → Option (Int32 × pS)) (b : Int32 × pS) => (fX12_readLine N (G2 y) y 0 b.1 b.2).bind (fun q1 => if q1.1 = 0 then (some ((-1 : Int32), q1.2)) else ((fX12_blanks N (G2 y) y q1.2).bind (fun q2 => if (q2.1 y 10) = (q2.1 y 11) then (some (b.1 + (1 : Int32), q2)) else ((fX12_isAt N (G2 y) y (59 : Int32) (59 : Int32) q2).bind (fun q3 => if q3 = 0 then (some ((-1 : Int32), q2)) else (k28 (b.1 + (1 : Int32), putF q2 y 10 ((q2.1 y 10) + (1 : Int32)))))))))) M2 (nI n, τ2)) := by
  have n1 : ¬ (1 : Int32) = 0 := by decide
  have full : ∀ (k M1 M2 p : Nat) (τ1 τ2 : pS) (E : List Int32) (R : List (Int32 × Int32)), 400 < M1 + k → 0 < M2 → JT z y B L p τ1 τ2 → LI z y 12 τ1 τ2 E R → k ≤ p → SLaw z y τ1 τ2 (lp (lawB N z) M1 (nI k, τ1)) (lp (fun (k28 : Int32 × pS → Option (Int32 × pS)) (b : Int32 × pS) => (fX12_readLine N (G2 y) y 0 b.1 b.2).bind (fun q1 => if q1.1 = 0 then (some ((-1 : Int32), q1.2)) else ((fX12_blanks N (G2 y) y q1.2).bind (fun q2 => if (q2.1 y 10) = (q2.1 y 11) then (some (b.1 + (1 : Int32), q2)) else ((fX12_isAt N (G2 y) y (59 : Int32) (59 : Int32) q2).bind (fun q3 => if q3 = 0 then (some ((-1 : Int32), q2)) else (k28 (b.1 + (1 : Int32), putF q2 y 10 ((q2.1 y 10) + (1 : Int32)))))))))) M2 (nI 12, τ2)) := by
    intro k M1 M2 p τ1 τ2 E R hM1 hM2 j g hk
    obtain ⟨l1, w⟩ := j.letters hN
    have hL := j.1.1
    have pf : p ≤ en blk B L p := en_le
    have fl : FlG N z k τ1 (en blk B L p) := by
      by_cases kz : τ1.1 (z + 1) 1 = 0
      · have := en_L (P := blk) (B := B) j.2.2.1.2.1
        exact (Fl.end (by omega) kz (by rw [g.2.1.1]; decide) j.2.1.2.1).g
      · have fk := j.k kz
        refine FlG.no (υ := τ1) (by omega) kz ?_ j.2.1.2.1 LG.r
        rw [takes_0 g.2.1.1, g.1, if_pos (show (12 : Int32) ≤ nI 12 from lit_end)]
    obtain ⟨υ, a1, a2, a3⟩ := fl
    refine ⟨0, -1, υ, PT y τ2 (en ltr B L (en blk B L p)) (en blk B L p), a1 M1 hM1, lp_one (by omega) (fun q => ?_), a3, FZ.pt.fv, Or.inr ⟨rfl, rfl, _, a2, PT_f12⟩⟩
    dsimp only
    unfold fX12_readLine fX12_readLine_b16
    rw [l1, b_some, if_pos rfl, if_pos (show (12 : Int32) ≤ nI 12 from lit_end), b_some]
    rfl
  intro m
  induction m with
  | zero =>
    intro n k M1 M2 p τ1 τ2 E R hm hn hM1 hM2 j g hk hE hR
    have hn12 : n = 12 := by omega
    subst hn12
    exact full k M1 M2 p τ1 τ2 E R hM1 hM2 j g hk
  | succ m ih =>
    intro n k M1 M2 p τ1 τ2 E R hm hn hM1 hM2 j g hk hE hR
    by_cases hn12 : n = 12
    · subst hn12
      exact full k M1 M2 p τ1 τ2 E R hM1 (by omega) j g hk
    obtain ⟨M2, rfl⟩ : ∃ M', M2 = M' + 1 := ⟨M2 - 1, by omega⟩
    have hn' : n < 12 := by omega
    obtain ⟨l1, w⟩ := j.letters hN
    have hL := j.1.1
    show SLaw z y τ1 τ2 _ ((fX12_readLine N (G2 y) y 0 (nI n) τ2).bind _)
    rw [r_lawLine hn' l1]
    rcases j_lawLine (k := k) hN j g hn' hk hE hR with ⟨υ2, k', p', τ1', υ1, C, Rn, i1, i2, i3, i4, i5, i6, i7, i8, i9, i10, i11, i12, i13⟩ | ⟨υ2, b, i1, i2, i3, i4⟩
    · rw [i1, b_some]
      dsimp only
      rw [if_neg n1, b_some]
      dsimp only
      rw [if_neg n1]
      obtain ⟨M', hM', el⟩ := i2 M1 hM1
      rw [el]
      obtain ⟨b1, jb⟩ := i4.blanks hN
      have sL : en blk B L p' ≤ L := en_L i4.2.2.1.2.1
      have pf' : p' ≤ en blk B L p' := en_le
      have k1 : τ1'.1 (z + 1) 1 = tkd B L (en blk B L p') := i4.2.1.2.2.1
      have h11 : υ2.1 y 11 = nI L := i4.2.2.1.2.2.1
      rw [b1, b_some, PT_f10, PT_fo (by decide) (by decide), h11]
      by_cases e : en blk B L p' < L
      · rw [if_neg (fun q => by
          have := (nI_eq (by omega) (by omega)).mp q
          omega)]
        have kne : τ1'.1 (z + 1) 1 ≠ 0 := fun q => (tkd_0.mp (k1.symm.trans q)) e
        have ju : JT z y B L p' υ1 υ2 := i4.lh i7
        obtain ⟨v, ψ, p2, b2, s1, s2, s3, s4, s5, s6, s7, s8⟩ := ju.sign hN sg_59
        have sg1 : fX9_isSign N (G1 z) (z + 1) (59 : Int32) τ1' = some v := by
          have a := c_isSign (N := N) ju.1 ju.2.1 sg_59
          have b := c_isSign (N := N) i4.1 i4.2.1 sg_59
          rw [s1, ← b] at a
          exact a.symm
        have s4 : fX12_isAt N (G2 y) y (59 : Int32) (59 : Int32) (PT y υ2 (en blk B L p') (en blk B L p')) = some v := s4
        rw [s4, b_some]
        rcases s8 with ⟨rfl, s9, s10⟩ | ⟨rfl, s9, rfl, s11⟩
        · have q2 : p2 = en blk B L p' + 1 := by
            have := congrArg (fun x : pS => x.1 y 10) s9
            rw [PT_f10, PT_f10] at this
            exact (nI_eq (by have := s7.2.2.1.2.1; omega) (by omega)).mp this
          have st := Rc.step (N := N) (k := k') (by omega) kne (i12 sg1) s10
          obtain ⟨M3, hM3, el3⟩ := st M' (by omega)
          rw [if_neg n1, nI_1, nI_1, PT_10, ← s9, el3]
          obtain ⟨v, r, ω1, ω2, x1, x2, x3, x4, x5⟩ := ih (n + 1) (k' + 1) M3 M2 p2 ψ (PT y υ2 p2 b2) (E ++ C) (R ++ Rn) (by omega) (by omega) (by omega) (by omega) s7 (i8.tf s6) (by omega) (by omega) (by omega)
          exact ⟨v, r, ω1, ω2, x1, x2, ((i3.t i7.lg).t s6.lxf.lg).t x3, (i5.t FZ.pt.fv).t x4, x5⟩
        · rw [if_pos rfl]
          obtain ⟨ψ, t1, t2⟩ := i13 sg1
          have fl : FlG N z k' τ1' (en blk B L p') := FlG.no (υ := ψ) (by omega) kne t1 ((t2.1 1 2 (by omega) (by omega)).trans i4.2.1.2.1) t2.lg
          obtain ⟨υ, a1, a2, a3⟩ := fl
          exact ⟨0, -1, υ, _, a1 M' (by omega), rfl, i3.t a3, i5.t FZ.pt.fv, Or.inr ⟨rfl, rfl, _, a2, PT_f12⟩⟩
      · have eL : en blk B L p' = L := by omega
        rw [if_pos (by rw [eL]), nI_1]
        have kz : τ1'.1 (z + 1) 1 = 0 := k1.trans (tkd_0.mpr e)
        have e9 : fX1_reads_b69 N (G1 z) (z + 135) (z + 35) τ1' = some (1, υ1) := by
          unfold fX1_reads_b69
          rw [i6, b_some]
          rfl
        obtain ⟨M4, rfl⟩ : ∃ M4, M' = M4 + 1 := ⟨M' - 1, by omega⟩
        refine ⟨1, nI (n + 1), υ1, _, ?_, rfl, i3.t i7.lg, i5.t FZ.pt.fv, Or.inl ⟨rfl, n + 1, E ++ C, R ++ Rn, by omega, rfl, i8.tf TF.r, by omega, by omega⟩⟩
        show (if (400 : Int32) ≤ nI k' then (fX1_reads_b69 N (G1 z) (z + 135) (z + 35) τ1') else (if (τ1'.1 (z + 1) 1) = 0 then (fX1_reads_b69 N (G1 z) (z + 135) (z + 35) τ1') else _)) = _
        rw [if_pos kz, e9]
        by_cases q : (400 : Int32) ≤ nI k'
        · rw [if_pos q]
        · rw [if_neg q]
    · rw [i1, b_some]
      dsimp only
      rw [if_pos rfl, b_some]
      dsimp only
      rw [if_pos rfl]
      obtain ⟨υ, a1, a2, a3⟩ := i3
      exact ⟨0, -1, υ, υ2, a1 M1 hM1, rfl, a3, i4, Or.inr ⟨rfl, rfl, b, a2, i2⟩⟩
theorem j_lawReads {N z y L : Nat} {B : Nat → Int32} {τ1 τ2 : pS} (hN : 20000 < N) (b : BY z B L τ1) (h9 : τ2.1 y 9 = nI L) (e : τ2.2.1 (y + 6) = B) : SLaw z y τ1 (upT y τ2) (fX1_reads N (G1 z) (z + 135) (z + 1) (z + 35) τ1) (fX12_readAll N (G2 y) y 0 τ2) := by
  have hL := b.1
  have lh : LH z τ1 (putF (putF (putF (putF (putF τ1 (z + 35) 0 0) (z + 35) 1 0) (z + 135) 0 0) (z + 135) 5 0) (z + 135) 6 0) := ((((LH.r.pf (Or.inr rfl)).pf (Or.inr rfl)).pf (Or.inl rfl)).pf (Or.inl rfl)).pf (Or.inl rfl)
  have li : LI z y 0 (putF (putF (putF (putF (putF τ1 (z + 35) 0 0) (z + 35) 1 0) (z + 135) 0 0) (z + 135) 5 0) (z + 135) 6 0) (upT y τ2) [] [] := by
    refine ⟨?_, ⟨?_, ?_, pf0, fun i hi => absurd hi (Nat.not_lt_zero _), ?_, fun i hi => absurd hi (Nat.not_lt_zero _)⟩, ⟨?_, fun i hi => absurd hi (Nat.not_lt_zero _)⟩, rfl, fun i hi => absurd hi (Nat.not_lt_zero _)⟩
    · rw [pf_o (by omega), pf_o (by omega), pf_o (by omega), pf0n (by decide), pf0]
      rfl
    · rw [pf0n (by decide), pf0n (by decide), pf0]
    · rw [pf0n (by decide), pf0]
      rfl
    · rw [pf_o (by omega), pf_o (by omega), pf_o (by omega), pf0]
      rfl
    · unfold upT
      rw [pf0]
      rfl
  unfold fX1_reads fX0_clear
  rw [b_some]
  generalize (putF (putF (putF (putF (putF τ1 (z + 35) 0 0) (z + 35) 1 0) (z + 135) 0 0) (z + 135) 5 0) (z + 135) 6 0) = τa at lh li ⊢
  have t3 : TF z τa (putF τa (z + 1) 3 0) := TF.r.pf (by omega)
  obtain ⟨υ, x1, x2, x3⟩ := c_adv (N := N) (q := 0) hN (t3.by (lh.by b)) (by omega) pf0
  have tf := t3.t x2
  have j : JT z y B L 0 υ (upT y τ2) := by
    refine ⟨tf.by (lh.by b), x3, ⟨hL, by omega, ?_, ?_⟩, e⟩
    · unfold upT
      rw [pf0n (by decide), pf0n (by decide), pf0n (by decide), pf0]
      exact h9
    · unfold upT
      rw [pf0n (by decide), pf0]
      rfl
  have lg : LG z τ1 υ := lh.lg.t tf.lxf.lg
  obtain ⟨b1, jb⟩ := j.blanks hN
  have sL : en blk B L 0 ≤ L := en_L (by omega)
  have k1 : υ.1 (z + 1) 1 = tkd B L (en blk B L 0) := j.2.1.2.2.1
  have h11 : (upT y τ2).1 y 11 = nI L := j.2.2.1.2.2.1
  have ru : fX12_readAll N (G2 y) y 0 τ2 = ((fX12_blanks N (G2 y) y (upT y τ2)).bind (fun q5 => if (q5.1 y 10) = (q5.1 y 11) then (some ((0 : Int32), q5)) else (fX12_readAll_b28 N (G2 y) y 0 ((0 : Int32), q5)))) := by
    unfold fX12_readAll fX12_uses upT
    rw [b_some, pf0n (show 9 ≠ 0 by decide)]
  rw [ru, b1, b_some, PT_f10, PT_fo (by decide) (by decide), h11]
  unfold fX9_open
  rw [x1, b_some, b_some, k1]
  by_cases e0 : en blk B L 0 < L
  · rw [if_neg (fun q => (tkd_0.mp q) e0), if_neg (fun q => by
      have := (nI_eq (by omega) (by omega)).mp q
      omega)]
    unfold fX1_reads_b34 fX12_readAll_b28
    obtain ⟨v, r, ω1, ω2, y1, y2, y3, y4, y5⟩ := j_laws (N := N) hN 12 0 0 N N _ υ _ [] [] (by omega) (by omega) (by omega) (by omega) jb (li.tf tf) (by omega) (Nat.zero_le _) (Nat.zero_le _)
    exact ⟨v, r, ω1, ω2, y1, y2, lg.t y3, FZ.pt.fv.t y4, y5⟩
  · rw [if_pos (tkd_0.mpr e0), if_pos (by rw [show en blk B L 0 = L by omega])]
    exact ⟨1, 0, υ, _, rfl, rfl, lg, FZ.pt.fv, Or.inl ⟨rfl, 0, [], [], by omega, rfl, li.tf tf, Nat.zero_le _, Nat.zero_le _⟩⟩
