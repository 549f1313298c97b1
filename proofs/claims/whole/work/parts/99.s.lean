/-! the law's texts: tags -/
theorem sw_true : sameW 21 65 := by
  unfold sameW
  decide +kernel
theorem sw_sure : sameW 22 66 := by
  unfold sameW
  decide +kernel
theorem sw_not : sameW 20 64 := by
  unfold sameW
  decide +kernel
theorem sg_40 : sgnP 40 := by
  unfold sgnP
  decide +kernel
theorem sg_41 : sgnP 41 := by
  unfold sgnP
  decide +kernel
theorem AS.pre {N z y L k d j a p p2 : Nat} {B : Nat → Int32} {τ1 τ2 τ3 : pS} {W0 E : List Int32} {R : List (Int32 × Int32)} {X : Option (Int32 × pS)} (h : AS N z y B L k τ1 τ3 d W0 E R j a p2 X) (fz : FZ y τ2 τ3) (h13 : τ3.1 y 13 = τ2.1 y 13) (hp : p ≤ p2) {a' : Nat} (ha : a ≤ a') : AS N z y B L k τ1 τ2 d W0 E R j a' p X := by
  obtain ⟨υ2, k', p', τa, τb, C, Rm, nn, i1, i2, i3, i4, i5, i6, i7, i8, i9, i10, i11, i12, i13, i14, i15⟩ := h
  exact ⟨υ2, k', p', τa, τb, C, Rm, nn, i1, i2, i3, i4, i5, i6, by omega, i8, i9, fz.t i10, i11.trans h13, i12, by omega, by omega, by omega⟩
theorem AF.pre {N z y k : Nat} {τ1 τ2 τ3 : pS} {X : Option (Int32 × pS)} (h : AF N z y k τ1 τ3 X) (fz : FZ y τ2 τ3) : AF N z y k τ1 τ2 X := by
  obtain ⟨υ2, b, i1, i2, i3, i4⟩ := h
  exact ⟨υ2, b, i1, i2, i3, fz.t i4⟩
theorem j_tag {N z y L d p k j : Nat} {B : Nat → Int32} {W0 E : List Int32} {R : List (Int32 × Int32)} {τ1 τ2 : pS} {rc : Nat × pS → Option (Int32 × pS)} (hN : 20000 < N) (jt : JT z y B L p τ1 τ2) (c : CL z τ1 3 (d + j) (List.replicate j 1011 ++ W0) E) (r : RE y τ2 R) (w20 : fX9_isWord N (G1 z) (z + 1) 20 τ1 = some 0) (s40 : fX9_isSign N (G1 z) (z + 1) (40 : Int32) τ1 = some 0) (hk : k ≤ p) (hE : E.length + j + W0.length + 8 ≤ p) (hR : R.length + 8 ≤ p) (hj : j ≤ 6) (h0 : W0.headD (-1) ≠ 1011) (hW : W0.length + j ≤ 20) : AS N z y B L k τ1 τ2 d W0 E R j 0 p ((fX12_readTag N (G2 y) y τ2).bind (fun q5 => if q5.1 = 0 then ((fX12_readSum N (G2 y) y q5.2).bind (fun q6 => if q6.1 = 0 then (some ((0 : Int32), q6.2)) else ((fX12_sign N (G2 y) y (60 : Int32) q6.2).bind (fun q7 => if q7.1 = 0 then ((fX12_sign N (G2 y) y (62 : Int32) q7.2).bind (fun q8 => if q8.1 = 0 then (some ((0 : Int32), q8.2)) else (fX12_readAtom_b152 N (G2 y) rc y q7.1 q8.2))) else (fX12_readAtom_b152 N (G2 y) rc y q7.1 q7.2))))) else (some ((1 : Int32), q5.2)))) ∨ AF N z y k τ1 τ2 ((fX12_readTag N (G2 y) y τ2).bind (fun q5 => if q5.1 = 0 then ((fX12_readSum N (G2 y) y q5.2).bind (fun q6 => if q6.1 = 0 then (some ((0 : Int32), q6.2)) else ((fX12_sign N (G2 y) y (60 : Int32) q6.2).bind (fun q7 => if q7.1 = 0 then ((fX12_sign N (G2 y) y (62 : Int32) q7.2).bind (fun q8 => if q8.1 = 0 then (some ((0 : Int32), q8.2)) else (fX12_readAtom_b152 N (G2 y) rc y q7.1 q8.2))) else (fX12_readAtom_b152 N (G2 y) rc y q7.1 q7.2))))) else (some ((1 : Int32), q5.2)))) := by
  have n1 : ¬ (1 : Int32) = 0 := by decide
  have hL := jt.1.1
  have hp := jt.2.2.1.2.1
  have f1 : en blk B L p ≤ L := en_L hp
  have f2 : en ltr B L (en blk B L p) ≤ L := en_L f1
  have f3 : p ≤ en blk B L p := en_le
  obtain ⟨l1, w⟩ := jt.letters hN
  obtain ⟨v1, i1, i2, i3⟩ := w.is hN sw_true
  obtain ⟨v2, k1, k2, k3⟩ := w.is hN sw_sure
  have fin : ∀ (s : Int32) (t : Int32) (υ2 : pS), Cd [(t, 0)] [s] 0 → en blk B L p < en ltr B L (en blk B L p) → fX1_takesAtom N (G1 z) (z + 135) (z + 1) (z + 35) τ1 = fX1_takesAtom_b99 N (G1 z) (z + 135) (z + 35) s τ1 → fX12_emits N (G2 y) y t 0 (PT y τ2 (en ltr B L (en blk B L p)) (en blk B L p)) = some υ2 → RE y υ2 (R ++ [(t, 0)]) → FZ y (PT y τ2 (en ltr B L (en blk B L p)) (en blk B L p)) υ2 → (∀ k, k ≠ 16 → υ2.1 y k = (PT y τ2 (en ltr B L (en blk B L p)) (en blk B L p)).1 y k) → AS N z y B L k τ1 τ2 d W0 E R j 0 p (some ((1 : Int32), υ2)) := by
    intro s t υ2 cd hf ta m1 m2 m3 m4
    obtain ⟨υ, x1, x2, x3, x4⟩ := c_addStep (N := N) (v := s) c (by omega)
    obtain ⟨χ, y1, y2, y3⟩ := c_endAtom (N := N) hN h0 x2 hj (by rw [List.length_append]; show E.length + 1 + j + 1 ≤ 400; omega) hW
    rw [if_neg (by decide), List.append_nil] at y2
    have lq : LQ z τ1 χ := x3.t y3
    have w2 : JW z y B L (en blk B L p) χ (PT y τ2 (en ltr B L (en blk B L p)) (en blk B L p)) := ⟨lq.by w.1, lq.ct w.2.1, w.2.2⟩
    obtain ⟨ω, z1, z2, z3⟩ := w2.adv hN hf
    have kd1 : τ1.1 (z + 1) 1 ≠ 0 := by
      rw [jt.2.1.2.2.1]
      exact fun q => (tkd_0.mp q) (by omega)
    have tk : fX1_takes N (G1 z) (z + 135) (z + 1) (z + 35) τ1 = some (1, χ) := by
      rw [takes_3 c.1, ta]
      unfold fX1_takesAtom_b99 fX1_takes_b162
      rw [x1, b_some, y1, b_some, b_some]
      dsimp only
      rw [if_neg n1]
    have st1 : Rc N z k τ1 (k + 1) ω := Rc.step (by omega) kd1 tk z1
    have c8 : CL z ω 8 d W0 (E ++ [s] ++ List.replicate j 1011) := z2.cl y2
    refine ⟨υ2, k + 1, en ltr B L (en blk B L p), ω, ω, [s], [(t, 0)], 0, rfl, st1, lq.lxf.t z2.lxf, BA.r8 c8.1, c8, cd, Nat.le_refl _, m2, z3.em m3 m4, FZ.pt.t m3, ?_, by omega, ?_, ?_, by omega⟩
    · rw [m4 13 (by decide), PT_fo (by decide) (by decide)]
    · show 1 + p ≤ _
      omega
    · show 1 + p ≤ _
      omega
  unfold fX12_readTag fX12_readTag_b33 fX12_readTag_b55
  rw [l1, b_some, i2, b_some]
  rcases i3 with ⟨rfl, hf⟩ | rfl
  · left
    obtain ⟨υ2, m1, m2, m3, m4⟩ := r_emits (N := N) (a := 6) (b := 0) (r.pt (p := en ltr B L (en blk B L p)) (b := en blk B L p)) (by omega)
    rw [if_neg n1, if_neg (show ¬ (6 : Int32) < 0 by decide), m1, b_some, if_neg (show ¬ (6 : Int32) < 0 by decide), b_some]
    dsimp only
    rw [if_neg n1]
    refine fin 1009 6 υ2 Cd.tru hf ?_ m1 m2 m3 m4
    unfold fX1_takesAtom fX1_takesAtom_b84
    rw [w20, b_some, if_pos rfl, s40, b_some, if_pos rfl, i1, b_some, if_neg n1, if_neg n1]
  · rw [if_pos rfl, k2, b_some]
    rcases k3 with ⟨rfl, hf⟩ | rfl
    · left
      obtain ⟨υ2, m1, m2, m3, m4⟩ := r_emits (N := N) (a := 7) (b := 0) (r.pt (p := en ltr B L (en blk B L p)) (b := en blk B L p)) (by omega)
      rw [if_neg n1, if_neg (show ¬ (7 : Int32) < 0 by decide), m1, b_some, if_neg (show ¬ (7 : Int32) < 0 by decide), b_some]
      dsimp only
      rw [if_neg n1]
      refine fin 1010 7 υ2 Cd.sur hf ?_ m1 m2 m3 m4
      unfold fX1_takesAtom fX1_takesAtom_b84
      rw [w20, b_some, if_pos rfl, s40, b_some, if_pos rfl, i1, b_some, if_pos rfl, k1, b_some, if_neg n1, if_pos rfl]
    · rw [if_pos rfl, if_pos (show (-1 : Int32) < 0 by decide), if_pos (show (-1 : Int32) < 0 by decide), b_some]
      dsimp only
      rw [if_pos rfl, PT_f12, PT_10]
      have ta : fX1_takesAtom N (G1 z) (z + 135) (z + 1) (z + 35) τ1 = some (0, τ1) := by
        unfold fX1_takesAtom
        rw [w20, b_some, if_pos rfl, s40, b_some, if_pos rfl, i1, b_some, if_pos rfl, k1, b_some, if_pos rfl]
      rcases j_cmp (k := k) (rc := rc) hN (jt.blanks hN).2 c (r.pt (p := en blk B L p) (b := en blk B L p)) ta (by omega) (by omega) (by omega) hj h0 hW with h | h
      · exact Or.inl (h.pre FZ.pt (by rw [PT_fo (by decide) (by decide)]) (by omega) (Nat.le_refl _))
      · exact Or.inr (h.pre FZ.pt)
theorem c_noPart {N z : Nat} {υ : pS} (hv : fX9_numberIn N (G1 z) (z + 1) 0 999 υ = some (-1)) (h : ∀ s, 23 ≤ s → s ≤ 28 → fX9_isWord N (G1 z) (z + 1) s υ = some 0) : fX1_takesPart N (G1 z) (z + 135) (z + 1) (z + 35) υ = some (0, υ) := by
  unfold fX1_takesPart fX1_partAt fX1_takesPart_b22
  rw [hv, b_some, if_pos rfl, h 23 (by omega) (by omega), b_some, if_pos rfl, h 24 (by omega) (by omega), b_some, if_pos rfl, h 25 (by omega) (by omega), b_some, if_pos rfl, h 26 (by omega) (by omega), b_some, if_pos rfl, h 27 (by omega) (by omega), b_some, if_pos rfl, h 28 (by omega) (by omega), b_some, if_pos rfl, b_some, if_pos rfl]
