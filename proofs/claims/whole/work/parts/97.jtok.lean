/-! texts: both sides at the same place -/
def sameW (a b : Nat) : Prop := lenS.getD a 0 = lenS.getD b 0 ∧ 0 < lenS.getD a 0 ∧ ∀ i, i < lenS.getD a 0 → sChr a (nI i) = sChr b (nI i)
theorem wdP_same {B : Nat → Int32} {e f a b : Nat} (h : sameW a b) : wdP B e f a ↔ wdP B e f b := by
  unfold wdP
  rw [← h.1]
  constructor
  · rintro ⟨h1, h2⟩
    exact ⟨h1, fun i hi => (h2 i hi).trans (h.2.2 i hi)⟩
  · rintro ⟨h1, h2⟩
    exact ⟨h1, fun i hi => (h2 i hi).trans (h.2.2 i hi).symm⟩
/-- the reference's point is p, and the class stands at the thing behind it -/
def JT (z y : Nat) (B : Nat → Int32) (L p : Nat) (τ1 τ2 : pS) : Prop := BY z B L τ1 ∧ CT z B L (en blk B L p) τ1 ∧ RP y L p τ2 ∧ τ2.2.1 (y + 6) = B
/-- the reference has read the letters that begin at f -/
def JW (z y : Nat) (B : Nat → Int32) (L f : Nat) (τ1 τ2 : pS) : Prop := BY z B L τ1 ∧ CT z B L f τ1 ∧ L ≤ 400 ∧ τ2.1 y 11 = nI L ∧ τ2.1 y 10 = nI (en ltr B L f) ∧ τ2.1 y 12 = nI f ∧ τ2.2.1 (y + 6) = B
theorem JT.letters {N z y L p : Nat} {B : Nat → Int32} {τ1 τ2 : pS} (hN : 20000 < N) (j : JT z y B L p τ1 τ2) : fX12_letters N (G2 y) y τ2 = some (PT y τ2 (en ltr B L (en blk B L p)) (en blk B L p)) ∧ JW z y B L (en blk B L p) τ1 (PT y τ2 (en ltr B L (en blk B L p)) (en blk B L p)) := by
  obtain ⟨b, c, r, e⟩ := j
  have := r_letters hN r
  rw [e] at this
  exact ⟨this, b, c, r.1, by rw [PT_fo (by decide) (by decide)]; exact r.2.2.1, PT_f10, PT_f12, e⟩
theorem JT.blanks {N z y L p : Nat} {B : Nat → Int32} {τ1 τ2 : pS} (hN : 20000 < N) (j : JT z y B L p τ1 τ2) : fX12_blanks N (G2 y) y τ2 = some (PT y τ2 (en blk B L p) (en blk B L p)) ∧ JT z y B L (en blk B L p) τ1 (PT y τ2 (en blk B L p) (en blk B L p)) := by
  obtain ⟨b, c, r, e⟩ := j
  have := r_blanks hN r
  rw [e] at this
  exact ⟨this, b, by rw [en_en]; exact c, r.pt (en_L r.2.1), e⟩
theorem JW.is {N z y L f s1 s2 : Nat} {B : Nat → Int32} {τ1 τ2 : pS} (hN : 20000 < N) (w : JW z y B L f τ1 τ2) (sw : sameW s1 s2) : ∃ v, fX9_isWord N (G1 z) (z + 1) s1 τ1 = some v ∧ fX12_isWord N (G2 y) y s2 τ2 = some v ∧ ((v = 1 ∧ f < en ltr B L f) ∨ v = 0) := by
  obtain ⟨b, c, hL, h11, h10, h12, e⟩ := w
  have c1 := c_isWord (sid := s1) hN b c sw.2.1
  have r1 := r_isWord (N := N) (y := y) (sid := s2) hN h10 h12 en_le (Nat.le_trans (en_L c.1) hL)
  rw [e] at r1
  have sm := wdP_same (B := B) (e := en ltr B L f) (f := f) sw
  have hp := sw.2.1
  rcases c1 with ⟨c1, c2⟩ | ⟨c1, c2⟩
  · rcases r1 with ⟨r1, r2⟩ | ⟨r1, r2⟩
    · exact ⟨1, c2, r2, Or.inl ⟨rfl, by have := c1.1; omega⟩⟩
    · exact absurd (sm.mp c1) r1
  · rcases r1 with ⟨r1, r2⟩ | ⟨r1, r2⟩
    · exact absurd (sm.mpr r1) c1
    · exact ⟨0, c2, r2, Or.inr rfl⟩
theorem JW.adv {N z y L f : Nat} {B : Nat → Int32} {τ1 τ2 : pS} (hN : 20000 < N) (w : JW z y B L f τ1 τ2) (h : f < en ltr B L f) : ∃ υ, fX9_advance N (G1 z) (z + 1) τ1 = some υ ∧ TF z τ1 υ ∧ JT z y B L (en ltr B L f) υ τ2 := by
  obtain ⟨b, c, hL, h11, h10, h12, e⟩ := w
  have u : f < L ∧ ltr (B f) = true := Classical.byContradiction (fun g => by
    rw [en_id g] at h
    omega)
  have e3 : nx B L f = en ltr B L f := by
    unfold nx
    rw [if_pos u.1, if_pos u.2]
  obtain ⟨υ, x1, x2, x3⟩ := c_adv (N := N) hN b (en_L (P := ltr) (B := B) c.1) (c.2.2.2.1.trans (by rw [e3]))
  exact ⟨υ, x1, x2, x2.by b, x3, ⟨hL, en_L c.1, h11, h10⟩, e⟩
theorem JT.pass {N z y L p s1 s2 : Nat} {B : Nat → Int32} {τ1 τ2 : pS} (hN : 20000 < N) (j : JT z y B L p τ1 τ2) (sw : sameW s1 s2) : ∃ v υ p' b', fX9_passWord N (G1 z) (z + 1) s1 τ1 = some (v, υ) ∧ fX12_passes N (G2 y) y s2 τ2 = some (v, PT y τ2 p' b') ∧ TF z τ1 υ ∧ JT z y B L p' υ (PT y τ2 p' b') ∧ (v = 1 ∨ v = 0 ∧ υ.1 (z + 1) 2 = nI b') := by
  obtain ⟨l1, w⟩ := j.letters hN
  obtain ⟨v, i1, i2, i3⟩ := w.is hN sw
  unfold fX9_passWord fX12_passes
  rw [i1, l1, b_some, b_some, i2, b_some]
  rcases i3 with ⟨rfl, hf⟩ | rfl
  · obtain ⟨υ, x1, x2, x3⟩ := w.adv hN hf
    refine ⟨1, υ, _, _, ?_, ?_, x2, x3, Or.inl rfl⟩
    · rw [if_neg (by decide), x1, b_some]
      rfl
    · rw [if_neg (by decide)]
  · refine ⟨0, τ1, en blk B L p, en blk B L p, ?_, ?_, TF.r, ?_, Or.inr ⟨rfl, w.2.1.2.1⟩⟩
    · rw [if_pos rfl]
      rfl
    · rw [if_pos rfl, PT_f12, PT_10]
    · exact (j.blanks hN).2
/-- a number, with the reference -/
def rv (B : Nat → Int32) (lo hi : Int32) (f e : Nat) : Int32 := if e = f then -1 else if 3 < e - f then -1 else if dv B f (e - f) < lo then -1 else if dv B f (e - f) ≤ hi then dv B f (e - f) else -1
theorem nI_df {a b : Nat} (h : b ≤ a) : nI a - nI b = nI (a - b) := by
  rw [show nI a = nI (a - b) + nI b from by rw [nI_add]; congr 1; omega, Int32.add_sub_cancel]
theorem r_num {N y L f : Nat} {B : Nat → Int32} {τ : pS} {lo hi : Int32} (hL : L ≤ 400) (h11 : τ.1 y 11 = nI L) (e : τ.2.1 (y + 6) = B) : ∀ (m q M : Nat), L - q ≤ m → m < M → f ≤ q → q ≤ L → lp (fun (k6 : Int32 × pS → Option (Int32 × pS)) (b : Int32 × pS) => (fX12_isAt N (G2 y) y (48 : Int32) (57 : Int32) b.2).bind (fun q1 => if q1 = 0 then (if (b.2.1 y 10) = (b.2.1 y 12) then (fX12_number_b99 N (G2 y) b.2) else (if (3 : Int32) < ((b.2.1 y 10) - (b.2.1 y 12)) then (fX12_number_b99 N (G2 y) b.2) else (if b.1 < lo then (fX12_number_b99 N (G2 y) b.2) else (if b.1 ≤ hi then (some (b.1, b.2)) else (fX12_number_b99 N (G2 y) b.2))))) else (if (3 : Int32) ≤ ((b.2.1 y 10) - (b.2.1 y 12)) then (fX12_number_b51 N (G2 y) k6 y lo hi b.1 b.2) else (ck (inB (b.2.1 y 10) (pN (G2 y) (pR (G2 y) y 8))) (fX12_number_b51 N (G2 y) k6 y lo hi ((((10 : Int32) * b.1) + (gA b.2 (pR (G2 y) y 8) (b.2.1 y 10))) - (48 : Int32)) b.2))))) M (dv B f (q - f), PT y τ q f) = some (rv B lo hi f (en dgt B L q), PT y τ (en dgt B L q) f) := by
  intro m
  have fin : ∀ (q M' : Nat), f ≤ q → q ≤ L → ¬ (q < L ∧ dgt (B q) = true) → lp (fun (k6 : Int32 × pS → Option (Int32 × pS)) (b : Int32 × pS) => (fX12_isAt N (G2 y) y (48 : Int32) (57 : Int32) b.2).bind (fun q1 => if q1 = 0 then (if (b.2.1 y 10) = (b.2.1 y 12) then (fX12_number_b99 N (G2 y) b.2) else (if (3 : Int32) < ((b.2.1 y 10) - (b.2.1 y 12)) then (fX12_number_b99 N (G2 y) b.2) else (if b.1 < lo then (fX12_number_b99 N (G2 y) b.2) else (if b.1 ≤ hi then (some (b.1, b.2)) else (fX12_number_b99 N (G2 y) b.2))))) else (if (3 : Int32) ≤ ((b.2.1 y 10) - (b.2.1 y 12)) then (fX12_number_b51 N (G2 y) k6 y lo hi b.1 b.2) else (ck (inB (b.2.1 y 10) (pN (G2 y) (pR (G2 y) y 8))) (fX12_number_b51 N (G2 y) k6 y lo hi ((((10 : Int32) * b.1) + (gA b.2 (pR (G2 y) y 8) (b.2.1 y 10))) - (48 : Int32)) b.2))))) (M' + 1) (dv B f (q - f), PT y τ q f) = some (rv B lo hi f (en dgt B L q), PT y τ (en dgt B L q) f) := by
    intro q M' hf hq u
    rw [en_id u]
    refine lp_one (by omega) (fun k => ?_)
    show (fX12_isAt N (G2 y) y (48 : Int32) (57 : Int32) (PT y τ q f)).bind _ = _
    rw [r_isAt hL hq (by rw [PT_fo (by decide) (by decide)]; exact h11) PT_f10, b_some, at_dgt, PT_2, e, if_neg u, if_pos rfl]
    dsimp only
    rw [PT_f10, PT_f12]
    unfold rv fX12_number_b99
    by_cases c1 : q = f
    · rw [if_pos (by rw [c1]), if_pos c1]
    · rw [if_neg (fun g => c1 ((nI_eq (by omega) (by omega)).mp g)), if_neg c1, nI_df hf]
      by_cases c2 : 3 < q - f
      · rw [if_pos (show (3 : Int32) < nI (q - f) from nI_lt (a := 3) c2 (by omega)), if_pos c2]
      · rw [if_neg (show ¬ (3 : Int32) < nI (q - f) from nI_nlt (a := 3) (by omega) (by omega)), if_neg c2]
        by_cases c3 : dv B f (q - f) < lo
        · rw [if_pos c3, if_pos c3]
        · rw [if_neg c3, if_neg c3]
          by_cases c4 : dv B f (q - f) ≤ hi
          · rw [if_pos c4, if_pos c4]
          · rw [if_neg c4, if_neg c4]
  induction m with
  | zero =>
    intro q M hm hM hf hq
    obtain ⟨M', rfl⟩ : ∃ M', M = M' + 1 := ⟨M - 1, by omega⟩
    exact fin q M' hf hq (by omega)
  | succ m ih =>
    intro q M hm hM hf hq
    obtain ⟨M', rfl⟩ : ∃ M', M = M' + 1 := ⟨M - 1, by omega⟩
    by_cases u : q < L ∧ dgt (B q) = true
    · rw [en_eq (p := q), if_pos u, ← ih (q + 1) M' (by omega) (by omega) (by omega) (by omega)]
      show (fX12_isAt N (G2 y) y (48 : Int32) (57 : Int32) (PT y τ q f)).bind (fun q1 => if q1 = 0 then _ else (if (3 : Int32) ≤ (((PT y τ q f).1 y 10) - ((PT y τ q f).1 y 12)) then (lp _ M' (dv B f (q - f), putF (PT y τ q f) y 10 (((PT y τ q f).1 y 10) + 1))) else (ck (inB ((PT y τ q f).1 y 10) (pN (G2 y) (pR (G2 y) y 8))) (lp _ M' ((((10 : Int32) * dv B f (q - f)) + (gA (PT y τ q f) (pR (G2 y) y 8) ((PT y τ q f).1 y 10))) - (48 : Int32), putF (PT y τ q f) y 10 (((PT y τ q f).1 y 10) + 1)))))) = _
      rw [r_isAt hL hq (by rw [PT_fo (by decide) (by decide)]; exact h11) PT_f10, b_some, at_dgt, PT_2, e, if_pos u, if_neg (show ¬ (1 : Int32) = 0 by decide), PT_f10, PT_f12, nI_df hf, nI_1, PT_10, show q + 1 - f = (q - f) + 1 by omega, dv_s, g2r_0_8, g2n_6, ck_nI (by omega) (by omega), gA_nI (by omega), PT_2, e, show f + (q - f) = q by omega]
      by_cases c2 : 3 ≤ q - f
      · rw [if_pos (show (3 : Int32) ≤ nI (q - f) from nI_le (a := 3) c2 (by omega)), if_neg (by omega)]
      · rw [if_neg (show ¬ (3 : Int32) ≤ nI (q - f) from nI_ge (b := 3) (by omega) (by omega)), if_pos (show q - f < 3 by omega), Int32.mul_comm]
    · exact fin q M' hf hq u
theorem JT.num {N z y L p : Nat} {B : Nat → Int32} {τ1 τ2 : pS} {lo hi : Int32} (hN : 20000 < N) (j : JT z y B L p τ1 τ2) (hlo : 0 ≤ lo.toInt) : ∃ v υ p' b', fX9_passNumber N (G1 z) (z + 1) lo hi τ1 = some (v, υ) ∧ fX12_number N (G2 y) y lo hi τ2 = some (v, PT y τ2 p' b') ∧ TF z τ1 υ ∧ ((lo ≤ v ∧ v ≤ hi ∧ JT z y B L p' υ (PT y τ2 p' b')) ∨ (v = -1 ∧ υ.1 (z + 1) 2 = nI b')) := by
  obtain ⟨l1, w⟩ := j.blanks hN
  obtain ⟨b, c, r, e⟩ := w
  rw [en_en] at c
  have hL := b.1
  have hf := c.1
  generalize en blk B L p = f at l1 c r e hf
  have rn := r_num (N := N) (y := y) (L := L) (f := f) (B := B) (τ := τ2) (lo := lo) (hi := hi) hL (by
    have := r.2.2.1
    rw [PT_fo (by decide) (by decide)] at this
    exact this) e (L - f) f N (Nat.le_refl _) (by omega) (Nat.le_refl _) hf
  rw [Nat.sub_self] at rn
  have rn2 : fX12_number N (G2 y) y lo hi τ2 = some (rv B lo hi f (en dgt B L f), PT y τ2 (en dgt B L f) f) := by
    unfold fX12_number
    rw [l1, b_some]
    exact rn
  obtain ⟨_, h2, h1, h3, h4, _⟩ := c
  have ci : fX9_numberIn N (G1 z) (z + 1) lo hi τ1 = some (rv B lo hi f (en dgt B L f)) := by
    unfold fX9_numberIn
    rw [h1]
    by_cases k : tkd B L f = 2
    · have kk := tkd_2.mp k
      have g1 : en dgt B L f ≠ f := by
        rw [en_eq, if_pos kk]
        have := en_le (P := dgt) (B := B) (L := L) (p := f + 1)
        omega
      rw [if_pos k, h4 k]
      unfold rv tv
      rw [if_neg g1]
      by_cases c2 : 3 < en dgt B L f - f
      · rw [if_neg (show ¬ en dgt B L f - f ≤ 3 by omega), if_pos c2, if_pos (by rw [i_lt, show (-1 : Int32).toInt = -1 from rfl]; omega)]
      · rw [if_pos (show en dgt B L f - f ≤ 3 by omega), if_neg c2]
        by_cases c3 : dv B f (en dgt B L f - f) < lo
        · rw [if_pos c3, if_pos c3]
        · rw [if_neg c3, if_neg c3]
          by_cases c4 : dv B f (en dgt B L f - f) ≤ hi
          · rw [if_pos c4, if_neg (i_nlt.mpr c4)]
          · rw [if_neg c4, if_pos (i_nle.mp c4)]
    · rw [if_neg k, en_id (fun g => k (tkd_2.mpr g))]
      unfold rv
      rw [if_pos rfl]
  unfold fX9_passNumber
  rw [ci, b_some]
  by_cases q1 : rv B lo hi f (en dgt B L f) = -1
  · refine ⟨-1, τ1, en dgt B L f, f, ?_, ?_, TF.r, Or.inr ⟨rfl, h2⟩⟩
    · rw [if_pos q1, q1]
    · rw [rn2, q1]
  · have k : tkd B L f = 2 := Classical.byContradiction (fun k => q1 (by
      rw [en_id (fun g => k (tkd_2.mpr g))]
      unfold rv
      rw [if_pos rfl]))
    have kk := tkd_2.mp k
    have nl : ¬ ltr (B f) = true := fun a => by
      rw [ld_no a] at kk
      cases kk.2
    have e3 : nx B L f = en dgt B L f := by
      unfold nx
      rw [if_pos kk.1, if_neg nl, if_pos kk.2]
    have bd : lo ≤ rv B lo hi f (en dgt B L f) ∧ rv B lo hi f (en dgt B L f) ≤ hi := by
      unfold rv at q1 ⊢
      split at q1
      · exact absurd rfl q1
      · rename_i n1
        rw [if_neg n1]
        split at q1
        · exact absurd rfl q1
        · rename_i n2
          rw [if_neg n2]
          split at q1
          · exact absurd rfl q1
          · rename_i n3
            rw [if_neg n3]
            split at q1
            · rename_i n4
              rw [if_pos n4]
              exact ⟨i_nlt.mp n3, n4⟩
            · exact absurd rfl q1
    obtain ⟨υ, x1, x2, x3⟩ := c_adv (N := N) hN b (en_L (P := dgt) (B := B) hf) (h3.trans (by rw [e3]))
    refine ⟨rv B lo hi f (en dgt B L f), υ, en dgt B L f, f, ?_, rn2, x2, Or.inl ⟨bd.1, bd.2, x2.by b, x3, ?_, e⟩⟩
    · rw [if_neg q1, x1, b_some]
    · have := r.pt (b := f) (en_L (P := dgt) (B := B) hf)
      rw [PT_PT] at this
      exact this
