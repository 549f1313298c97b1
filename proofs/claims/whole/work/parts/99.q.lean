/-! the law's texts: and-chains -/
def AtomOK (N z y : Nat) (B : Nat → Int32) (L : Nat) (rc : Nat × pS → Option (Int32 × pS)) (m : Nat) : Prop := ∀ (d j p k : Nat) (W0 E : List Int32) (R : List (Int32 × Int32)) (τ1 τ2 : pS), JT z y B L p τ1 τ2 → CL z τ1 3 (d + j) (List.replicate j 1011 ++ W0) E → RE y τ2 R → τ2.1 y 13 = nI (d + j) → k ≤ p → E.length + j + W0.length + 8 ≤ p → R.length + 8 ≤ p → d + j ≤ 6 → 6 < m + (d + j) → W0.headD (-1) ≠ 1011 → W0.length + j ≤ 3 * (d + j) + 2 → AS N z y B L k τ1 τ2 d W0 E R j (2 * (6 - (d + j))) p (rc (y, τ2)) ∨ AF N z y k τ1 τ2 (rc (y, τ2))
/-- what a chain owes: what is let go later is P -/
def CSt (N z y : Nat) (B : Nat → Int32) (L k : Nat) (τ1 τ2 : pS) (d : Nat) (W E : List Int32) (R : List (Int32 × Int32)) (a p : Nat) (ps : List (List Int32)) (ns : List Nat) (X : Option (Int32 × pS)) : Prop := ∃ υ2 k' p' τ1' τ1'' C0 P Rn n, X = some (1, υ2) ∧ Rc N z k τ1 k' τ1' ∧ LXf z τ1 τ1' ∧ BA N z τ1' τ1'' ∧ CL z τ1'' 8 d (P ++ W) (E ++ C0) ∧ P ∈ ps ∧ Cd Rn (C0 ++ P) n ∧ n ≤ a ∧ RE y υ2 (R ++ Rn) ∧ JT z y B L p' τ1'' υ2 ∧ FZ y τ2 υ2 ∧ υ2.1 y 13 = τ2.1 y 13 ∧ k' ≤ p' ∧ C0.length + P.length + p ≤ p' + 1 ∧ Rn.length + p ≤ p' ∧ p < p' ∧ ∀ s ∈ ns, fX9_isWord N (G1 z) (z + 1) s τ1'' = some 0
theorem sw_and : sameW 29 70 := by
  unfold sameW
  decide +kernel
theorem sw_or : sameW 30 71 := by
  unfold sameW
  decide +kernel
theorem JT.lq' {z y L p : Nat} {B : Nat → Int32} {τ υ τ2 : pS} (h : LQ z τ υ) (j : JT z y B L p υ τ2) : JT z y B L p τ τ2 := by
  obtain ⟨b, c, r⟩ := j
  refine ⟨⟨b.1, (h.1 1 0 (by omega) (by omega)).symm.trans b.2.1, fun i hi => ?_⟩, ?_, r⟩
  · rw [← h.2 2 (by omega) (by omega)]
    exact b.2.2 i hi
  · unfold CT at c ⊢
    rw [← h.1 1 1 (by omega) (by omega), ← h.1 1 2 (by omega) (by omega), ← h.1 1 3 (by omega) (by omega), ← h.1 1 4 (by omega) (by omega)]
    exact c
/-- a word stands here: no sign does -/
theorem c_noSign {N z L f s : Nat} {B : Nat → Int32} {τ : pS} (b : BY z B L τ) (h : CT z B L f τ) (hs : sgnP s) (hl : f < en ltr B L f) : fX9_isSign N (G1 z) (z + 1) (nI s) τ = some 0 := by
  rw [c_isSign b h hs, if_neg (fun g => by
    rw [en_id (fun q => by
      have := q.2
      rw [g.2, hs.2.1] at this
      cases this)] at hl
    omega)]
/-- release of what waits -/
theorem c_rel {N z d : Nat} {τ : pS} {v : Int32} {P W E : List Int32} (h : CL z τ 8 d (P ++ W) E) (hP : P = [] ∨ P = [v]) (hv : v ≠ -1) (hw : W.headD (-1) ≠ v) (hW : W.length + 1 ≤ 20) (hE : E.length < 400) : ∃ υ, fX1_release N (G1 z) (z + 135) (z + 35) v τ = some υ ∧ LQ z τ υ ∧ CL z υ 8 d W (E ++ P) := by
  rcases hP with rfl | rfl
  · have h : CL z τ 8 d W E := h
    obtain ⟨υ, x1, x2, x3, x4⟩ := c_release (N := N) h (by omega) hE hv
    rcases x4 with ⟨W', e, _⟩ | ⟨_, rfl⟩
    · exact absurd (by rw [e]; rfl) hw
    · exact ⟨υ, x1, x2, by rw [List.append_nil]; exact h⟩
  · have h : CL z τ 8 d (v :: W) E := h
    obtain ⟨υ, x1, x2, x3, x4⟩ := c_release (N := N) h (by rw [List.length_cons]; omega) hE hv
    rcases x4 with ⟨W', e, c⟩ | ⟨q, _⟩
    · injection e with e1 e2
      rw [e2]
      exact ⟨υ, x1, x2, c⟩
    · exact absurd rfl q
theorem JT.ps {N z y L p s1 s2 : Nat} {B : Nat → Int32} {τ1 τ2 : pS} (hN : 20000 < N) (j : JT z y B L p τ1 τ2) (sw : sameW s1 s2) : (en blk B L p < en ltr B L (en blk B L p) ∧ fX9_isWord N (G1 z) (z + 1) s1 τ1 = some 1 ∧ fX12_passes N (G2 y) y s2 τ2 = some (1, PT y τ2 (en ltr B L (en blk B L p)) (en blk B L p)) ∧ ∀ υ, LQ z τ1 υ → ∃ ω, fX9_advance N (G1 z) (z + 1) υ = some ω ∧ TF z υ ω ∧ JT z y B L (en ltr B L (en blk B L p)) ω (PT y τ2 (en ltr B L (en blk B L p)) (en blk B L p))) ∨ (fX9_isWord N (G1 z) (z + 1) s1 τ1 = some 0 ∧ fX12_passes N (G2 y) y s2 τ2 = some (0, PT y τ2 (en blk B L p) (en blk B L p)) ∧ JT z y B L (en blk B L p) τ1 (PT y τ2 (en blk B L p) (en blk B L p))) := by
  obtain ⟨l1, w⟩ := j.letters hN
  obtain ⟨v, i1, i2, i3⟩ := w.is hN sw
  unfold fX12_passes
  rw [l1, b_some, i2, b_some]
  rcases i3 with ⟨rfl, hf⟩ | rfl
  · left
    rw [if_neg (show ¬ (1 : Int32) = 0 by decide)]
    refine ⟨hf, i1, rfl, fun υ lq => ?_⟩
    have w2 : JW z y B L (en blk B L p) υ (PT y τ2 (en ltr B L (en blk B L p)) (en blk B L p)) := ⟨lq.by w.1, lq.ct w.2.1, w.2.2⟩
    exact w2.adv hN hf
  · right
    rw [if_pos rfl, PT_f12, PT_10]
    exact ⟨i1, rfl, (j.blanks hN).2⟩
theorem j_ands {N z y L d m : Nat} {B : Nat → Int32} {W : List Int32} {rc : Nat × pS → Option (Int32 × pS)} (hN : 20000 < N) (ha : AtomOK N z y B L rc m) (hd : d ≤ 6) (hm : 6 < m + d) (hw1 : W.headD (-1) ≠ 1011) (hw2 : W.headD (-1) ≠ 1012) (hW : W.length ≤ 3 * d + 1) {k0 : Nat} {σ1 σ2 : pS} {E : List Int32} {R : List (Int32 × Int32)} {p0 : Nat} (h13 : σ2.1 y 13 = nI d) (hE0 : E.length + W.length + 8 ≤ p0) (hR0 : R.length + 8 ≤ p0) : ∀ (u p k M : Nat) (τ1 τ1'' τ2 : pS) (C0 P : List Int32) (Rn : List (Int32 × Int32)) (n : Nat), L - p ≤ u → u < M → JT z y B L p τ1'' τ2 → BA N z τ1 τ1'' → Rc N z k0 σ1 k τ1 → LXf z σ1 τ1 → CL z τ1'' 8 d (P ++ W) (E ++ C0) → (P = [] ∨ P = [1012]) → Cd Rn (C0 ++ P) n → n ≤ 2 * (6 - d) + 1 → RE y τ2 (R ++ Rn) → FZ y σ2 τ2 → τ2.1 y 13 = σ2.1 y 13 → k ≤ p → C0.length + P.length + p0 ≤ p + 1 → Rn.length + p0 ≤ p → p0 < p → CSt N z y B L k0 σ1 σ2 d W E R (2 * (6 - d) + 1) p0 [[], [1012]] [29] (lp (fun (k9 : pS → Option (Int32 × pS)) (b : pS) => (fX12_passes N (G2 y) y 70 b).bind (fun q1 => if q1.1 = 0 then (some ((1 : Int32), q1.2)) else ((rc (y, q1.2)).bind (fun q2 => if q2.1 = 0 then (some ((0 : Int32), q2.2)) else ((fX12_emits N (G2 y) y (13 : Int32) (0 : Int32) q2.2).bind (fun q3 => k9 q3)))))) M τ2) ∨ AF N z y k0 σ1 σ2 (lp (fun (k9 : pS → Option (Int32 × pS)) (b : pS) => (fX12_passes N (G2 y) y 70 b).bind (fun q1 => if q1.1 = 0 then (some ((1 : Int32), q1.2)) else ((rc (y, q1.2)).bind (fun q2 => if q2.1 = 0 then (some ((0 : Int32), q2.2)) else ((fX12_emits N (G2 y) y (13 : Int32) (0 : Int32) q2.2).bind (fun q3 => k9 q3)))))) M τ2) := by
  have done : ∀ (p k M : Nat) (τ1 τ1'' τ2 : pS) (C0 P : List Int32) (Rn : List (Int32 × Int32)) (n : Nat), 0 < M → BA N z τ1 τ1'' → Rc N z k0 σ1 k τ1 → LXf z σ1 τ1 → CL z τ1'' 8 d (P ++ W) (E ++ C0) → (P = [] ∨ P = [1012]) → Cd Rn (C0 ++ P) n → n ≤ 2 * (6 - d) + 1 → RE y τ2 (R ++ Rn) → FZ y σ2 τ2 → τ2.1 y 13 = σ2.1 y 13 → k ≤ p → C0.length + P.length + p0 ≤ p + 1 → Rn.length + p0 ≤ p → p0 < p → fX9_isWord N (G1 z) (z + 1) 29 τ1'' = some 0 → fX12_passes N (G2 y) y 70 τ2 = some (0, PT y τ2 (en blk B L p) (en blk B L p)) → JT z y B L (en blk B L p) τ1'' (PT y τ2 (en blk B L p) (en blk B L p)) → CSt N z y B L k0 σ1 σ2 d W E R (2 * (6 - d) + 1) p0 [[], [1012]] [29] (lp (fun (k9 : pS → Option (Int32 × pS)) (b : pS) => (fX12_passes N (G2 y) y 70 b).bind (fun q1 => if q1.1 = 0 then (some ((1 : Int32), q1.2)) else ((rc (y, q1.2)).bind (fun q2 => if q2.1 = 0 then (some ((0 : Int32), q2.2)) else ((fX12_emits N (G2 y) y (13 : Int32) (0 : Int32) q2.2).bind (fun q3 => k9 q3)))))) M τ2) := by
    intro p k M τ1 τ1'' τ2 C0 P Rn n hM ba rc0 lx c hP cd hn r fz e13 hk hE hR hpp a1 a2 a3
    have f3 : p ≤ en blk B L p := en_le
    refine ⟨PT y τ2 (en blk B L p) (en blk B L p), k, en blk B L p, τ1, τ1'', C0, P, Rn, n, ?_, rc0, lx, ba, c, ?_, cd, hn, r.pt, a3, fz.t FZ.pt, ?_, by omega, by omega, by omega, by omega, fun s hs => by rw [List.mem_singleton.mp hs]; exact a1⟩
    · refine lp_one hM (fun q => ?_)
      rw [a2, b_some, if_pos rfl]
    · rcases hP with e | e <;> rw [e] <;> simp
    · rw [PT_fo (by decide) (by decide)]
      exact e13
  intro u
  induction u with
  | zero =>
    intro p k M τ1 τ1'' τ2 C0 P Rn n hu hM j ba rc0 lx c hP cd hn r fz e13 hk hE hR hpp
    rcases j.ps hN sw_and with ⟨hf, _⟩ | ⟨a1, a2, a3⟩
    · have f1 : en blk B L p ≤ L := en_L j.2.2.1.2.1
      have f2 : en ltr B L (en blk B L p) ≤ L := en_L f1
      have f3 : p ≤ en blk B L p := en_le
      omega
    · exact Or.inl (done p k M τ1 τ1'' τ2 C0 P Rn n (by omega) ba rc0 lx c hP cd hn r fz e13 hk hE hR hpp a1 a2 a3)
  | succ u ih =>
    intro p k M τ1 τ1'' τ2 C0 P Rn n hu hM j ba rc0 lx c hP cd hn r fz e13 hk hE hR hpp
    rcases j.ps hN sw_and with ⟨hf, a1, a2, a3⟩ | ⟨a1, a2, a3⟩
    · have hL := j.1.1
      have hp := j.2.2.1.2.1
      have f1 : en blk B L p ≤ L := en_L hp
      have f2 : en ltr B L (en blk B L p) ≤ L := en_L f1
      have f3 : p ≤ en blk B L p := en_le
      have n1 : ¬ (1 : Int32) = 0 := by decide
      obtain ⟨M, rfl⟩ : ∃ M', M = M' + 1 := ⟨M - 1, by omega⟩
      have Pl : P.length ≤ 1 := by rcases hP with e | e <;> rw [e] <;> decide
      -- the class takes the word
      have s59 : fX9_isSign N (G1 z) (z + 1) (59 : Int32) τ1'' = some 0 := c_noSign j.1 j.2.1 sg_59 hf
      obtain ⟨υ, x1, x2, x3⟩ := c_rel (N := N) c hP (by decide) hw2 (by omega) (by rw [List.length_append]; omega)
      obtain ⟨χ, y1, y2, y3⟩ := c_push (N := N) (v := 1012) x3 (by omega)
      have tj : fX1_takesJoint N (G1 z) (z + 135) (z + 1) (z + 35) τ1'' = some (1, putF χ (z + 135) 0 3) := by
        unfold fX1_takesJoint fX1_takesJoint_b42 fX1_takesJoint_b55 fX1_takesJoint_b69
        rw [s59, b_some, if_pos rfl, a1, b_some, x1, b_some, if_neg n1, if_neg n1, if_neg n1, y1, b_some]
      have lq : LQ z τ1'' (putF χ (z + 135) 0 3) := (x2.t y3).pf (by omega)
      obtain ⟨ω, b1, b2, b3⟩ := a3 _ lq
      have kd1 : τ1.1 (z + 1) 1 ≠ 0 := by
        rw [← ba.1.1 1 1 (by omega) (by omega), j.2.1.2.2.1]
        exact fun q => (tkd_0.mp q) (by omega)
      have st1 : Rc N z k τ1 (k + 1) ω := Rc.step (by omega) kd1 (by rw [ba.2.1, tj, b_some]; rfl) b1
      have lx1 : LXf z σ1 ω := lx.t ((ba.1.lxf.t lq.lxf).t b2.lxf)
      have c3 : CL z ω 3 (d + 0) (List.replicate 0 1011 ++ (1012 :: W)) (E ++ C0 ++ P) := b2.cl y2.st
      have bodyE : ∀ k9 : pS → Option (Int32 × pS), ((fX12_passes N (G2 y) y 70 τ2).bind (fun q1 => if q1.1 = 0 then (some ((1 : Int32), q1.2)) else ((rc (y, q1.2)).bind (fun q2 => if q2.1 = 0 then (some ((0 : Int32), q2.2)) else ((fX12_emits N (G2 y) y (13 : Int32) (0 : Int32) q2.2).bind (fun q3 => k9 q3)))))) = ((rc (y, PT y τ2 (en ltr B L (en blk B L p)) (en blk B L p))).bind (fun q2 => if q2.1 = 0 then (some ((0 : Int32), q2.2)) else ((fX12_emits N (G2 y) y (13 : Int32) (0 : Int32) q2.2).bind (fun q3 => k9 q3)))) := by
        intro k9
        rw [a2, b_some]
        dsimp only
        rw [if_neg n1]
      have El : (E ++ C0 ++ P).length = E.length + C0.length + P.length := by rw [List.length_append, List.length_append]
      have l3 : lenS.getD 29 0 = 3 := by decide +kernel
      have e3 : en ltr B L (en blk B L p) = en blk B L p + 3 := by
        rcases c_isWord (sid := 29) hN j.1 j.2.1 sw_and.2.1 with ⟨q, _⟩ | ⟨_, q⟩
        · rw [← l3]
          exact q.1
        · rw [a1] at q
          injection q with q
          exact absurd q (by decide)
      rcases ha d 0 (en ltr B L (en blk B L p)) (k + 1) (1012 :: W) (E ++ C0 ++ P) (R ++ Rn) ω _ b3 c3 r.pt (by rw [PT_fo (by decide) (by decide), e13, h13, Nat.add_zero]) (by omega) (by rw [El, List.length_cons]; omega) (by rw [List.length_append]; omega) (by omega) (by omega) (show (1012 : Int32) ≠ 1011 by decide) (by rw [List.length_cons]; omega) with ⟨υ2, k', p', τa, τb, C, Rm, nn, i1, i2, i3, i4, i5, i6, i7, i8, i9, i10, i11, i12, i13, i14, i15⟩ | ⟨υ2, b, i1, i2, i3, i4⟩
      · have p'L := i9.2.2.1.2.1
        obtain ⟨υ3, m1, m2, m3, m4⟩ := r_emits (N := N) (a := 13) (b := 0) i8 (by rw [List.length_append, List.length_append]; omega)
        have i5 : CL z τb 8 d ([1012] ++ W) (E ++ (C0 ++ P ++ C)) := by
          simp only [List.replicate, List.append_nil, List.append_assoc] at i5 ⊢
          exact i5
        have pl : p < p' := by omega
        have cd2 : Cd (Rn ++ Rm ++ [(13, 0)]) (C0 ++ P ++ C ++ [1012]) (max n (nn + 1)) := cd.con i6 (by omega)
        have hh := ih p' k' M τa τb υ3 (C0 ++ P ++ C) [1012] (Rn ++ Rm ++ [(13, 0)]) (max n (nn + 1)) (by omega) (by omega) (i9.em m3 m4) i4 ((rc0.t st1).t i2) (lx1.t i3) i5 (Or.inr rfl) cd2 (by rw [Nat.add_zero] at i7; omega) (by simp only [List.append_assoc] at m2 ⊢; exact m2) ((fz.t FZ.pt).t (i10.t m3)) ((m4 13 (by decide)).trans (i11.trans (by rw [PT_fo (by decide) (by decide)]; exact e13))) i12 (by simp only [List.length_append, List.length_cons, List.length_nil]; omega) (by simp only [List.length_append, List.length_cons, List.length_nil]; omega) (by omega)
        have eb : lp (fun (k9 : pS → Option (Int32 × pS)) (b : pS) => (fX12_passes N (G2 y) y 70 b).bind (fun q1 => if q1.1 = 0 then (some ((1 : Int32), q1.2)) else ((rc (y, q1.2)).bind (fun q2 => if q2.1 = 0 then (some ((0 : Int32), q2.2)) else ((fX12_emits N (G2 y) y (13 : Int32) (0 : Int32) q2.2).bind (fun q3 => k9 q3)))))) (M + 1) τ2 = lp (fun (k9 : pS → Option (Int32 × pS)) (b : pS) => (fX12_passes N (G2 y) y 70 b).bind (fun q1 => if q1.1 = 0 then (some ((1 : Int32), q1.2)) else ((rc (y, q1.2)).bind (fun q2 => if q2.1 = 0 then (some ((0 : Int32), q2.2)) else ((fX12_emits N (G2 y) y (13 : Int32) (0 : Int32) q2.2).bind (fun q3 => k9 q3)))))) M υ3 := by
          refine (bodyE _).trans ?_
          rw [i1, b_some]
          dsimp only
          rw [if_neg n1, m1, b_some]
        rw [eb]
        exact hh
      · right
        refine ⟨υ2, b, (bodyE _).trans ?_, i2, (rc0.t st1).fl lx1 i3, (fz.t FZ.pt).t i4⟩
        rw [i1, b_some]
        dsimp only
        rw [if_pos rfl]
    · exact Or.inl (done p k M τ1 τ1'' τ2 C0 P Rn n (by omega) ba rc0 lx c hP cd hn r fz e13 hk hE hR hpp a1 a2 a3)
