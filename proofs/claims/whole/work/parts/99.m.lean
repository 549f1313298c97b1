/-! the law's texts: parts and sums -/
theorem c_b22 {N z L f d q : Nat} {B : Nat → Int32} {τ1 : pS} {s : Int32} {W E : List Int32} (hN : 20000 < N) (b : BY z B L τ1) (ct : CT z B L f τ1) (c : CL z τ1 s d W E) (hE : E.length < 400) (hq : q < 1006) (hx : nx B L f ≤ L) : ∃ υ1 ω, fX1_takesPart_b22 N (G1 z) (z + 135) (z + 35) (nI q) τ1 = some (1, υ1) ∧ fX9_advance N (G1 z) (z + 1) υ1 = some ω ∧ LXf z τ1 ω ∧ CL z ω (if s = 6 then 7 else 5) d W (E ++ [nI q]) ∧ ω.1 (z + 135) 4 = τ1.1 (z + 135) 4 ∧ BY z B L ω ∧ CT z B L (en blk B L (nx B L f)) ω := by
  unfold fX1_takesPart_b22 fX1_takesPart_b54
  rw [if_neg (show ¬ nI q = -1 from ne_m1 (by rw [nI_toInt (by omega)]; omega))]
  obtain ⟨υ, x1, x2, x3, x4⟩ := c_addStep (N := N) (v := nI q) c hE
  rw [x1, b_some, x4, c.1]
  have fin : ∀ v : Int32, ∃ ω, fX9_advance N (G1 z) (z + 1) (putF υ (z + 135) 0 v) = some ω ∧ LXf z τ1 ω ∧ CL z ω v d W (E ++ [nI q]) ∧ ω.1 (z + 135) 4 = τ1.1 (z + 135) 4 ∧ BY z B L ω ∧ CT z B L (en blk B L (nx B L f)) ω := by
    intro v
    have lq : LQ z τ1 (putF υ (z + 135) 0 v) := x3.pf (by omega)
    obtain ⟨ω, y1, y2, y3⟩ := c_adv (N := N) hN (lq.by b) hx ((lq.1 1 3 (by omega) (by omega)).trans ct.2.2.2.1)
    refine ⟨ω, y1, lq.lxf.t y2.lxf, y2.cl x2.st, ?_, y2.by (lq.by b), y3⟩
    rw [y2.1 (z + 135) 4 (by omega), pf0n (by decide), x4]
  by_cases e : s = 6
  · rw [if_pos e, if_pos e]
    obtain ⟨ω, y⟩ := fin 7
    exact ⟨_, ω, rfl, y⟩
  · rw [if_neg e, if_neg e]
    obtain ⟨ω, y⟩ := fin 5
    exact ⟨_, ω, rfl, y⟩
theorem sp_word : sameW 23 48 := by
  unfold sameW
  decide +kernel
theorem sp_deed : sameW 24 50 := by
  unfold sameW
  decide +kernel
theorem sp_doubt : sameW 25 59 := by
  unfold sameW
  decide +kernel
theorem sp_night : sameW 26 67 := by
  unfold sameW
  decide +kernel
theorem sp_left : sameW 27 68 := by
  unfold sameW
  decide +kernel
theorem sp_who : sameW 28 69 := by
  unfold sameW
  decide +kernel
theorem j_partAt {N z y L f : Nat} {B : Nat → Int32} {τ1 τ2 : pS} (hN : 20000 < N) (w : JW z y B L f τ1 τ2) : (∃ k, k < 6 ∧ f < en ltr B L f ∧ fX1_partAt N (G1 z) (z + 1) τ1 = some (nI (1000 + k)) ∧ ((fX12_isWord N (G2 y) y 48 τ2).bind (fun q5 => if q5 = 0 then ((fX12_isWord N (G2 y) y 50 τ2).bind (fun q6 => if q6 = 0 then ((fX12_isWord N (G2 y) y 59 τ2).bind (fun q7 => if q7 = 0 then ((fX12_isWord N (G2 y) y 67 τ2).bind (fun q8 => if q8 = 0 then ((fX12_isWord N (G2 y) y 68 τ2).bind (fun q9 => if q9 = 0 then ((fX12_isWord N (G2 y) y 69 τ2).bind (fun q10 => if q10 = 0 then (fX12_readPart_b113 N (G2 y) y (-1 : Int32) τ2) else (fX12_readPart_b113 N (G2 y) y (5 : Int32) τ2))) else (fX12_readPart_b113 N (G2 y) y (4 : Int32) τ2))) else (fX12_readPart_b113 N (G2 y) y (3 : Int32) τ2))) else (fX12_readPart_b113 N (G2 y) y (2 : Int32) τ2))) else (fX12_readPart_b113 N (G2 y) y (1 : Int32) τ2))) else (fX12_readPart_b113 N (G2 y) y (0 : Int32) τ2))) = fX12_readPart_b113 N (G2 y) y (nI k) τ2) ∨ (fX1_partAt N (G1 z) (z + 1) τ1 = some (-1) ∧ ((fX12_isWord N (G2 y) y 48 τ2).bind (fun q5 => if q5 = 0 then ((fX12_isWord N (G2 y) y 50 τ2).bind (fun q6 => if q6 = 0 then ((fX12_isWord N (G2 y) y 59 τ2).bind (fun q7 => if q7 = 0 then ((fX12_isWord N (G2 y) y 67 τ2).bind (fun q8 => if q8 = 0 then ((fX12_isWord N (G2 y) y 68 τ2).bind (fun q9 => if q9 = 0 then ((fX12_isWord N (G2 y) y 69 τ2).bind (fun q10 => if q10 = 0 then (fX12_readPart_b113 N (G2 y) y (-1 : Int32) τ2) else (fX12_readPart_b113 N (G2 y) y (5 : Int32) τ2))) else (fX12_readPart_b113 N (G2 y) y (4 : Int32) τ2))) else (fX12_readPart_b113 N (G2 y) y (3 : Int32) τ2))) else (fX12_readPart_b113 N (G2 y) y (2 : Int32) τ2))) else (fX12_readPart_b113 N (G2 y) y (1 : Int32) τ2))) else (fX12_readPart_b113 N (G2 y) y (0 : Int32) τ2))) = fX12_readPart_b113 N (G2 y) y (-1) τ2) := by
  unfold fX1_partAt
  have n1 : ¬ (1 : Int32) = 0 := by decide
  obtain ⟨v, i1, i2, i3⟩ := w.is hN sp_word
  rw [i1, b_some, i2, b_some]
  rcases i3 with ⟨rfl, hf⟩ | rfl
  · rw [if_neg n1, if_neg n1]
    exact Or.inl ⟨0, by omega, hf, rfl, rfl⟩
  rw [if_pos rfl, if_pos rfl]
  clear i1 i2
  obtain ⟨v, i1, i2, i3⟩ := w.is hN sp_deed
  rw [i1, b_some, i2, b_some]
  rcases i3 with ⟨rfl, hf⟩ | rfl
  · rw [if_neg n1, if_neg n1]
    exact Or.inl ⟨1, by omega, hf, rfl, rfl⟩
  rw [if_pos rfl, if_pos rfl]
  clear i1 i2
  obtain ⟨v, i1, i2, i3⟩ := w.is hN sp_doubt
  rw [i1, b_some, i2, b_some]
  rcases i3 with ⟨rfl, hf⟩ | rfl
  · rw [if_neg n1, if_neg n1]
    exact Or.inl ⟨2, by omega, hf, rfl, rfl⟩
  rw [if_pos rfl, if_pos rfl]
  clear i1 i2
  obtain ⟨v, i1, i2, i3⟩ := w.is hN sp_night
  rw [i1, b_some, i2, b_some]
  rcases i3 with ⟨rfl, hf⟩ | rfl
  · rw [if_neg n1, if_neg n1]
    exact Or.inl ⟨3, by omega, hf, rfl, rfl⟩
  rw [if_pos rfl, if_pos rfl]
  clear i1 i2
  obtain ⟨v, i1, i2, i3⟩ := w.is hN sp_left
  rw [i1, b_some, i2, b_some]
  rcases i3 with ⟨rfl, hf⟩ | rfl
  · rw [if_neg n1, if_neg n1]
    exact Or.inl ⟨4, by omega, hf, rfl, rfl⟩
  rw [if_pos rfl, if_pos rfl]
  clear i1 i2
  obtain ⟨v, i1, i2, i3⟩ := w.is hN sp_who
  rw [i1, b_some, i2, b_some]
  rcases i3 with ⟨rfl, hf⟩ | rfl
  · rw [if_neg n1, if_neg n1]
    exact Or.inl ⟨5, by omega, hf, rfl, rfl⟩
  rw [if_pos rfl, if_pos rfl]
  clear i1 i2
  exact Or.inr ⟨rfl, rfl⟩
theorem j_part {N z y L p d : Nat} {B : Nat → Int32} {τ1 τ2 : pS} {s : Int32} {W E : List Int32} {R : List (Int32 × Int32)} (hN : 20000 < N) (j : JT z y B L p τ1 τ2) (c : CL z τ1 s d W E) (r : RE y τ2 R) (hE : E.length < 400) (hR : R.length < 400) : (∃ q υ1 ω υ2 p', q < 1006 ∧ fX1_takesPart N (G1 z) (z + 135) (z + 1) (z + 35) τ1 = some (1, υ1) ∧ fX9_advance N (G1 z) (z + 1) υ1 = some ω ∧ LXf z τ1 ω ∧ CL z ω (if s = 6 then 7 else 5) d W (E ++ [nI q]) ∧ ω.1 (z + 135) 4 = τ1.1 (z + 135) 4 ∧ fX12_readPart N (G2 y) y τ2 = some (1, υ2) ∧ RE y υ2 (R ++ [ptE q]) ∧ JT z y B L p' ω υ2 ∧ p < p' ∧ FZ y τ2 υ2 ∧ υ2.1 y 13 = τ2.1 y 13 ∧ τ1.1 (z + 1) 1 ≠ 0) ∨ (∃ υ2, fX1_takesPart N (G1 z) (z + 135) (z + 1) (z + 35) τ1 = some (0, τ1) ∧ fX12_readPart N (G2 y) y τ2 = some (0, υ2) ∧ FZ y τ2 υ2 ∧ υ2.1 y 12 = nI (en blk B L p)) := by
  obtain ⟨l1, w⟩ := j.letters hN
  have hL := j.1.1
  have pf : p ≤ en blk B L p := en_le
  have b := j.1
  have ct := j.2.1
  have e6 : τ2.2.1 (y + 6) = B := j.2.2.2
  have h11 : τ2.1 y 11 = nI L := j.2.2.1.2.2.1
  have ci := c_numIn (N := N) (lo := 0) (hi := 999) ct (by decide)
  unfold fX1_takesPart fX12_readPart
  rw [ci, b_some, l1, b_some, PT_f10, PT_f12]
  generalize hfe : en blk B L p = f at l1 w pf ct ci ⊢
  have hf : f ≤ L := ct.1
  have eL := en_L (P := ltr) (B := B) hf
  have eg := en_le (P := ltr) (B := B) (L := L) (p := f)
  have ff : en blk B L f = f := by rw [← hfe, en_en]
  by_cases el : en ltr B L f = f
  · rw [if_pos (show nI (en ltr B L f) = nI f by rw [el])]
    have rp : RP y L f (PT y τ2 (en ltr B L f) f) := ⟨hL, hf, by rw [PT_fo (by decide) (by decide)]; exact h11, by rw [PT_f10, el]⟩
    have rn := r_number (N := N) (B := B) (lo := 0) (hi := 999) hN rp e6
    rw [ff, PT_PT] at rn
    rw [rn, b_some]
    dsimp only
    have dL := en_L (P := dgt) (B := B) hf
    obtain ⟨υ2, m1, m2, m3, m4⟩ := r_emits (N := N) (a := 8) (b := rv B 0 999 f (en dgt B L f)) (r.pt (p := en dgt B L f) (b := f)) hR
    rw [m1, b_some]
    unfold fX12_readPart_b120
    by_cases v1 : rv B 0 999 f (en dgt B L f) = -1
    · rw [if_pos v1]
      right
      rcases j_partAt hN w with ⟨k, _, hk, _⟩ | ⟨hp, _⟩
      · omega
      · rw [hp, b_some, v1, if_pos (show (-1 : Int32) < 0 by decide)]
        refine ⟨υ2, ?_, rfl, FZ.pt.t m3, ?_⟩
        · unfold fX1_takesPart_b22
          rw [if_pos rfl]
        · rw [m4 12 (by decide), PT_f12]
    · rw [if_neg v1]
      left
      obtain ⟨r1, r2, r3, r4, r5⟩ := rv_ok v1
      have bd := bds r1 r2
      have bd0 : (0 : Int) ≤ (rv B 0 999 f (en dgt B L f)).toInt := bd.1
      have bd1 : (rv B 0 999 f (en dgt B L f)).toInt ≤ 999 := bd.2
      have eq : rv B 0 999 f (en dgt B L f) = nI (rv B 0 999 f (en dgt B L f)).toInt.toNat := nI_cN bd0
      obtain ⟨υ1, ω, z1, z2, z3, z4, z5, z6, z7⟩ := c_b22 (N := N) (q := (rv B 0 999 f (en dgt B L f)).toInt.toNat) hN b ct c hE (by omega) (by rw [r4]; exact dL)
      rw [← eq] at z1
      rw [r4] at z7
      refine ⟨(rv B 0 999 f (en dgt B L f)).toInt.toNat, υ1, ω, υ2, en dgt B L f, by omega, z1, z2, z3, z4, z5, ?_, ?_, ⟨z6, z7, ⟨hL, dL, ?_, ?_⟩, ?_⟩, by omega, FZ.pt.t m3, ?_, ?_⟩
      · rw [if_neg (show ¬ rv B 0 999 f (en dgt B L f) < 0 from by rw [i_lt, show (0 : Int32).toInt = 0 from rfl]; omega)]
      · unfold ptE
        rw [if_pos (by omega), ← eq]
        exact m2
      · rw [m4 11 (by decide), PT_fo (by decide) (by decide)]
        exact h11
      · rw [m4 10 (by decide), PT_f10]
      · exact (m3.2.1 6 (by decide)).trans e6
      · rw [m4 13 (by decide), PT_fo (by decide) (by decide)]
      · rw [ct.2.2.1, r3]
        decide
  · rw [if_neg (show ¬ nI (en ltr B L f) = nI f from fun g => el ((nI_eq (by omega) (by omega)).mp g))]
    have u : f < L ∧ ltr (B f) = true := Classical.byContradiction (fun g => el (en_id g))
    have t1 : tkd B L f = 1 := tkd_1.mpr u
    have v1 : rv B 0 999 f (en dgt B L f) = -1 := Classical.byContradiction (fun g => by
      have := (rv_ok g).2.2.1
      rw [t1] at this
      exact absurd this (by decide))
    have e3 : nx B L f = en ltr B L f := by
      unfold nx
      rw [if_pos u.1, if_pos u.2]
    rw [v1, if_pos rfl]
    rcases j_partAt hN w with ⟨k, hk, hlt, hp, hr⟩ | ⟨hp, hr⟩
    · left
      rw [hr, hp, b_some]
      unfold fX12_readPart_b113 fX12_readPart_b120
      obtain ⟨υ2, m1, m2, m3, m4⟩ := r_emits (N := N) (a := nI k) (b := 0) (r.pt (p := en ltr B L f) (b := f)) hR
      obtain ⟨υ1, ω, z1, z2, z3, z4, z5, z6, z7⟩ := c_b22 (N := N) (q := 1000 + k) hN b ct c hE (by omega) (by rw [e3]; exact eL)
      rw [e3] at z7
      rw [m1, b_some]
      refine ⟨1000 + k, υ1, ω, υ2, en ltr B L f, by omega, z1, z2, z3, z4, z5, ?_, ?_, ⟨z6, z7, ⟨hL, eL, ?_, ?_⟩, ?_⟩, by omega, FZ.pt.t m3, ?_, ?_⟩
      · rw [if_neg (nI_pos (by omega))]
      · unfold ptE
        rw [if_neg (by omega), show 1000 + k - 1000 = k by omega]
        exact m2
      · rw [m4 11 (by decide), PT_fo (by decide) (by decide)]
        exact h11
      · rw [m4 10 (by decide), PT_f10]
      · exact (m3.2.1 6 (by decide)).trans e6
      · rw [m4 13 (by decide), PT_fo (by decide) (by decide)]
      · rw [ct.2.2.1, t1]
        decide
    · right
      rw [hr, hp, b_some]
      unfold fX12_readPart_b113 fX12_readPart_b120
      obtain ⟨υ2, m1, m2, m3, m4⟩ := r_emits (N := N) (a := -1) (b := 0) (r.pt (p := en ltr B L f) (b := f)) hR
      rw [m1, b_some, if_pos (show (-1 : Int32) < 0 by decide)]
      refine ⟨υ2, ?_, rfl, FZ.pt.t m3, ?_⟩
      · unfold fX1_takesPart_b22
        rw [if_pos rfl]
      · rw [m4 12 (by decide), PT_f12]
