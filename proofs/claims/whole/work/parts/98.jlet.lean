/-! texts: signs, letters -/
def sgnP (s : Nat) : Prop := s < 128 ∧ ltr (nI s) = false ∧ dgt (nI s) = false
theorem c_isSign {N z L f s : Nat} {B : Nat → Int32} {τ : pS} (b : BY z B L τ) (h : CT z B L f τ) (hs : sgnP s) : fX9_isSign N (G1 z) (z + 1) (nI s) τ = some (if f < L ∧ B f = nI s then 1 else 0) := by
  obtain ⟨hf, h2, h1, h3, _, _⟩ := h
  have hL := b.1
  unfold fX9_isSign
  rw [h1]
  by_cases k : tkd B L f = 3
  · have kk := tkd_3.mp k
    rw [if_pos k, h2, c_byte b (by omega), b_some, if_pos kk.1]
    by_cases e : B f = nI s
    · rw [if_pos ((sgn_eq (b.2.2 f kk.1).2 hs.1).mpr e), if_pos ⟨kk.1, e⟩]
    · rw [if_neg (fun g => e ((sgn_eq (b.2.2 f kk.1).2 hs.1).mp g)), if_neg (fun g => e g.2)]
  · rw [if_neg k, if_neg (fun g => k (tkd_3.mpr ⟨g.1, by rw [g.2]; exact hs.2.1, by rw [g.2]; exact hs.2.2⟩))]
theorem r_isSign {N y L f b s : Nat} {B : Nat → Int32} {τ : pS} (hL : L ≤ 400) (hf : f ≤ L) (h11 : τ.1 y 11 = nI L) (e : τ.2.1 (y + 6) = B) : fX12_isAt N (G2 y) y (nI s) (nI s) (PT y τ f b) = some (if f < L ∧ B f = nI s then 1 else 0) := by
  rw [r_isAt hL hf (by rw [PT_fo (by decide) (by decide)]; exact h11) PT_f10, PT_2, e, at_one]
  by_cases u : f < L ∧ B f = nI s
  · rw [if_pos u, if_pos ⟨u.1, decide_eq_true u.2⟩]
  · rw [if_neg u, if_neg (fun g => u ⟨g.1, of_decide_eq_true g.2⟩)]
/-- a sign -/
theorem JT.sign {N z y L p : Nat} {B : Nat → Int32} {τ1 τ2 : pS} {s : Nat} (hN : 20000 < N) (j : JT z y B L p τ1 τ2) (hs : sgnP s) : ∃ v υ p' b', fX9_isSign N (G1 z) (z + 1) (nI s) τ1 = some v ∧ fX9_passSign N (G1 z) (z + 1) (nI s) τ1 = some (v, υ) ∧ fX12_blanks N (G2 y) y τ2 = some (PT y τ2 (en blk B L p) (en blk B L p)) ∧ fX12_isAt N (G2 y) y (nI s) (nI s) (PT y τ2 (en blk B L p) (en blk B L p)) = some v ∧ fX12_sign N (G2 y) y (nI s) τ2 = some (v, PT y τ2 p' b') ∧ TF z τ1 υ ∧ JT z y B L p' υ (PT y τ2 p' b') ∧ ((v = 1 ∧ PT y τ2 p' b' = PT y τ2 (en blk B L p + 1) (en blk B L p) ∧ fX9_advance N (G1 z) (z + 1) τ1 = some υ) ∨ v = 0 ∧ υ.1 (z + 1) 2 = nI b' ∧ υ = τ1 ∧ PT y τ2 p' b' = PT y τ2 (en blk B L p) (en blk B L p)) := by
  obtain ⟨l1, w⟩ := j.blanks hN
  obtain ⟨b, c, r, e⟩ := w
  rw [en_en] at c
  have hL := b.1
  have hf := c.1
  have jf := (j.blanks hN).2
  have h11 : τ2.1 y 11 = nI L := j.2.2.1.2.2.1
  generalize hfe : en blk B L p = f at l1 c r e hf jf ⊢
  have ci := c_isSign (N := N) b c hs
  have ri := r_isSign (N := N) (y := y) (b := f) (s := s) (τ := τ2) hL hf h11 e
  obtain ⟨_, h2, h1, h3, h4, _⟩ := c
  unfold fX9_passSign fX12_sign
  rw [l1, b_some, ri, b_some, ci, b_some]
  by_cases u : f < L ∧ B f = nI s
  · rw [if_pos u]
    have e3 : nx B L f = f + 1 := by
      unfold nx
      rw [if_pos u.1, if_neg (by rw [u.2, hs.2.1]; decide), if_neg (by rw [u.2, hs.2.2]; decide)]
    obtain ⟨υ, x1, x2, x3⟩ := c_adv (N := N) hN b (show f + 1 ≤ L by omega) (h3.trans (by rw [e3]))
    refine ⟨1, υ, f + 1, f, rfl, ?_, rfl, rfl, ?_, x2, ⟨x2.by b, x3, ?_, e⟩, Or.inl ⟨rfl, rfl, x1⟩⟩
    · rw [if_neg (by decide), x1, b_some]
      rfl
    · rw [if_neg (by decide), PT_f10, nI_1, PT_10]
    · have := r.pt (b := f) (show f + 1 ≤ L by omega)
      rw [PT_PT] at this
      exact this
  · rw [if_neg u]
    exact ⟨0, τ1, f, f, rfl, rfl, rfl, rfl, rfl, TF.r, jf, Or.inr ⟨rfl, h2, rfl, rfl⟩⟩
/-- letters -/
def lc (B : Nat → Int32) (f i : Nat) : Nat := ((B (f + i)).toInt - 97).toNat
theorem lc_eq {B : Nat → Int32} {f i : Nat} (h : ltr (B (f + i)) = true) : B (f + i) - 97 = nI (lc B f i) ∧ lc B f i < 26 := by
  unfold ltr at h
  have := of_decide_eq_true h
  unfold lc
  refine ⟨i_ext ?_, by omega⟩
  rw [i_sub (by rw [show (97 : Int32).toInt = 97 from rfl]; omega) (by rw [show (97 : Int32).toInt = 97 from rfl]; omega), show (97 : Int32).toInt = 97 from rfl, nI_toInt (by omega)]
  omega
def lw (B : Nat → Int32) (f : Nat) : Nat → Int32 := itN (fun k v => v ||| ((1 : Int32) <<< (nI (lc B f k) &&& 31))) 0
theorem lw_s {B : Nat → Int32} {f k : Nat} : lw B f (k + 1) = lw B f k ||| ((1 : Int32) <<< (nI (lc B f k) &&& 31)) := rfl
def okL (B : Nat → Int32) (f n : Nat) : Prop := ∀ i, i < n → lc B f i < 6 ∧ bit (lw B f i) (lc B f i) = false
theorem okL_s {B : Nat → Int32} {f n : Nat} (h : okL B f n) (h1 : lc B f n < 6) (h2 : bit (lw B f n) (lc B f n) = false) : okL B f (n + 1) := fun i hi => by
  by_cases e : i = n
  · rw [e]
    exact ⟨h1, h2⟩
  · exact h i (by omega)
theorem set_all : ∀ m, m < 64 → ∀ c, c < 6 → bit (nI m) c = false → nI m ||| ((1 : Int32) <<< (nI c &&& 31)) = nI (m + 2 ^ c) ∧ m + 2 ^ c < 64 ∧ bc (nI (m + 2 ^ c)) = bc (nI m) + 1 := by decide +kernel
theorem lw_ok {B : Nat → Int32} {f : Nat} : ∀ n, okL B f n → ∃ m, m < 64 ∧ lw B f n = nI m ∧ bc (nI m) = nI n := by
  intro n
  induction n with
  | zero => exact fun _ => ⟨0, by omega, rfl, rfl⟩
  | succ n ih =>
    intro h
    obtain ⟨m, h1, h2, h3⟩ := ih (fun i hi => h i (by omega))
    obtain ⟨h4, h5⟩ := h n (by omega)
    rw [h2] at h5
    obtain ⟨a, b, c⟩ := set_all m h1 _ h4 h5
    exact ⟨_, b, by rw [lw_s, h2, a], by rw [c, h3, nI_1]⟩
theorem c_letters {N z L f : Nat} {B : Nat → Int32} {τ : pS} (hN : 20000 < N) (b : BY z B L τ) (h : CT z B L f τ) : ∃ v υ, fX9_passLetters N (G1 z) (z + 1) τ = some (v, υ) ∧ TF z τ υ ∧ ((f < en ltr B L f ∧ okL B f (en ltr B L f - f) ∧ v = lw B f (en ltr B L f - f) ∧ CT z B L (en blk B L (en ltr B L f)) υ) ∨ (¬ (f < en ltr B L f ∧ okL B f (en ltr B L f - f)) ∧ v = -1 ∧ υ = τ)) := by
  obtain ⟨hf, h2, h1, h3, _, _⟩ := h
  have hL := b.1
  unfold fX9_passLetters
  rw [h1]
  by_cases k : tkd B L f = 1
  · have kk := tkd_1.mp k
    have e3 : nx B L f = en ltr B L f := by
      unfold nx
      rw [if_pos kk.1, if_pos kk.2]
    rw [e3] at h3
    have eL := en_L (P := ltr) (B := B) hf
    have eg : f < en ltr B L f := by
      rw [en_eq, if_pos kk]
      have := en_le (P := ltr) (B := B) (L := L) (p := f + 1)
      omega
    obtain ⟨υ, x1, x2, x3⟩ := c_adv (N := N) hN b eL h3
    rw [if_pos k, h2]
    unfold fX9_passLetters_b17
    generalize hn : en ltr B L f - f = n
    have hee : en ltr B L f = f + n := by omega
    have := lp_forR (body := fun (k17 : Int32 × Int32 × pS → Option (Int32 × pS)) (b : Int32 × Int32 × pS) => if (b.2.2.1 (z + 1) 3) ≤ b.2.1 then ((fX9_advance N (G1 z) (z + 1) b.2.2).bind (fun q1 => some (b.1, q1))) else ((fX9_byteAt N (G1 z) (z + 1) b.2.1 b.2.2).bind (fun q2 => if (6 : Int32) ≤ (q2 - (97 : Int32)) then (some ((-1 : Int32), b.2.2)) else ((fX11_has N (G1 z) b.1 (q2 - (97 : Int32)) b.2.2).bind (fun q3 => if q3 = 0 then (k17 (b.1 ||| ((1 : Int32) <<< ((q2 - (97 : Int32)) &&& 31)), b.2.1 + (1 : Int32), b.2.2)) else (some ((-1 : Int32), b.2.2))))))) (fun k x => x = (lw B f k, nI (f + k), τ) ∧ okL B f k) (fun r => (okL B f n ∧ r = (lw B f n, υ)) ∨ (¬ okL B f n ∧ r = (-1, τ))) n (N := N) (by omega) (by
      rintro k hk _ ⟨rfl, ok⟩
      have hfk : f + k < L := by omega
      have hl1 : ltr (B (f + k)) = true := en_in (L := L) (p := f) (by omega) (by omega)
      obtain ⟨n', hn', e'⟩ := byte_of (b.2.2 (f + k) hfk).2
      have h5 := (byte_all n' hn').2.2.2.2
      rw [← e'] at h5
      have h6 := h5 (by rw [hl1, Bool.true_or])
      obtain ⟨l1, l2⟩ := lc_eq hl1
      have pre : ∀ q : Int32 × Int32 × pS → Option (Int32 × pS), (if (τ.1 (z + 1) 3) ≤ nI (f + k) then ((fX9_advance N (G1 z) (z + 1) τ).bind (fun q1 => some (lw B f k, q1))) else ((fX9_byteAt N (G1 z) (z + 1) (nI (f + k)) τ).bind (fun q2 => if (6 : Int32) ≤ (q2 - (97 : Int32)) then (some ((-1 : Int32), τ)) else ((fX11_has N (G1 z) (lw B f k) (q2 - (97 : Int32)) τ).bind (fun q3 => if q3 = 0 then (q (lw B f k ||| ((1 : Int32) <<< ((q2 - (97 : Int32)) &&& 31)), nI (f + k) + (1 : Int32), τ)) else (some ((-1 : Int32), τ))))))) = (if (6 : Int32) ≤ nI (lc B f k) then (some ((-1 : Int32), τ)) else (if (if bit (lw B f k) (lc B f k) = true then (1 : Int32) else 0) = 0 then (q (lw B f (k + 1), nI (f + (k + 1)), τ)) else (some ((-1 : Int32), τ)))) := by
        intro q
        rw [h3, if_neg (nI_ge (by omega) (by omega)), c_byte b (by omega), b_some, if_pos hfk, h6, l1, has_fn (by omega), b_some, nI_1, lw_s]
        rfl
      by_cases u1 : lc B f k < 6
      · by_cases u2 : bit (lw B f k) (lc B f k) = true
        · right
          refine ⟨_, Or.inr ⟨fun g => ?_, rfl⟩, fun q => ?_⟩
          · have := (g k hk).2
            rw [u2] at this
            cases this
          · refine (pre q).trans ?_
            rw [if_neg (l6 u1), if_pos u2, if_neg (by decide)]
        · left
          refine ⟨_, ⟨rfl, okL_s ok u1 (Bool.eq_false_iff.mpr u2)⟩, fun q => ?_⟩
          refine (pre q).trans ?_
          rw [if_neg (l6 u1), if_neg u2, if_pos rfl]
      · right
        refine ⟨_, Or.inr ⟨fun g => u1 (g k hk).1, rfl⟩, fun q => ?_⟩
        refine (pre q).trans ?_
        rw [if_pos (show (6 : Int32) ≤ nI (lc B f k) from nI_le (a := 6) (by omega) (by omega))]) (by
      rintro _ ⟨rfl, ok⟩
      refine ⟨_, Or.inl ⟨ok, rfl⟩, fun q => ?_⟩
      show (if (τ.1 (z + 1) 3) ≤ nI (f + n) then ((fX9_advance N (G1 z) (z + 1) τ).bind (fun q1 => some (lw B f n, q1))) else _) = _
      rw [h3, hee, if_pos (Int32.le_refl _), x1, b_some]) (b := (0, nI f, τ)) ⟨rfl, fun i hi => by omega⟩
    obtain ⟨r, h7, h8⟩ := this
    rcases h7 with ⟨h7, rfl⟩ | ⟨h7, rfl⟩
    · exact ⟨_, υ, h8, x2, Or.inl ⟨eg, h7, rfl, x3⟩⟩
    · exact ⟨_, τ, h8, TF.r, Or.inr ⟨fun g => h7 g.2, rfl, rfl⟩⟩
  · rw [if_neg k]
    have e : en ltr B L f = f := en_id (fun q => k (tkd_1.mpr q))
    exact ⟨-1, τ, rfl, TF.r, Or.inr ⟨by rw [e]; omega, rfl, rfl⟩⟩
theorem r_told {N y L f : Nat} {B : Nat → Int32} {τ : pS} (hN : 20000 < N) (hL : L ≤ 400) (hf : f ≤ L) (e : τ.2.1 (y + 6) = B) (h10 : τ.1 y 10 = nI (en ltr B L f)) (h12 : τ.1 y 12 = nI f) : ∃ v, (if (τ.1 y 10) ≤ (τ.1 y 12) then (fX12_lettersTold_b22 N (G2 y) y (0 : Int32) (0 : Int32) τ) else (fX12_lettersTold_b22 N (G2 y) y (0 : Int32) (1 : Int32) τ)) = some (v, τ) ∧ ((f < en ltr B L f ∧ okL B f (en ltr B L f - f) ∧ v = lw B f (en ltr B L f - f)) ∨ (¬ (f < en ltr B L f ∧ okL B f (en ltr B L f - f)) ∧ v = -1)) := by
  have eL := en_L (P := ltr) (B := B) hf
  have eg := en_le (P := ltr) (B := B) (L := L) (p := f)
  rw [h10, h12]
  unfold fX12_lettersTold_b22
  rw [h12]
  unfold fX12_lettersTold_b28
  by_cases w : f < en ltr B L f
  · rw [if_neg (nI_ge w (by omega))]
    generalize hn : en ltr B L f - f = n
    have hee : en ltr B L f = f + n := by omega
    have := lp_forR (body := fun (k28 : Int32 × Int32 × Int32 × pS → Option (Int32 × pS)) (b : Int32 × Int32 × Int32 × pS) => if (b.2.2.2.1 y 10) ≤ b.2.2.1 then (fX12_lettersTold_b97 N (G2 y) b.1 b.2.1 b.2.2.2) else (if b.2.1 = 0 then (fX12_lettersTold_b97 N (G2 y) b.1 b.2.1 b.2.2.2) else (ck (inB b.2.2.1 (pN (G2 y) (pR (G2 y) y 8))) ((fX12_in N (G2 y) ((gA b.2.2.2 (pR (G2 y) y 8) b.2.2.1) - (97 : Int32)) (0 : Int32) (5 : Int32) b.2.2.2).bind (fun q1 => if q1 = 0 then (fX12_lettersTold_b74 N (G2 y) k28 y b.1 b.2.2.1 ((gA b.2.2.2 (pR (G2 y) y 8) b.2.2.1) - (97 : Int32)) b.2.2.2) else ((fX12_has N (G2 y) b.1 ((gA b.2.2.2 (pR (G2 y) y 8) b.2.2.1) - (97 : Int32)) b.2.2.2).bind (fun q2 => if q2 = 0 then (fX12_lettersTold_b75 N (G2 y) k28 y b.1 b.2.2.1 ((gA b.2.2.2 (pR (G2 y) y 8) b.2.2.1) - (97 : Int32)) (1 : Int32) b.2.2.2) else (fX12_lettersTold_b74 N (G2 y) k28 y b.1 b.2.2.1 ((gA b.2.2.2 (pR (G2 y) y 8) b.2.2.1) - (97 : Int32)) b.2.2.2)))))))) (fun k x => (x = (lw B f k, 1, nI (f + k), τ) ∧ okL B f k) ∨ (∃ u, x = (u, 0, nI (f + k), τ) ∧ ¬ okL B f n)) (fun r => (okL B f n ∧ r = (lw B f n, τ)) ∨ (¬ okL B f n ∧ r = (-1, τ))) n (N := N) (by omega) (by
      intro k hk x hx
      rcases hx with ⟨rfl, ok⟩ | ⟨u, rfl, nok⟩
      · left
        have hfk : f + k < L := by omega
        have hl1 : ltr (B (f + k)) = true := en_in (L := L) (p := f) (by omega) (by omega)
        obtain ⟨l1, l2⟩ := lc_eq hl1
        have pre : ∀ q : Int32 × Int32 × Int32 × pS → Option (Int32 × pS), (if (τ.1 y 10) ≤ nI (f + k) then (fX12_lettersTold_b97 N (G2 y) (lw B f k) 1 τ) else (if (1 : Int32) = 0 then (fX12_lettersTold_b97 N (G2 y) (lw B f k) 1 τ) else (ck (inB (nI (f + k)) (pN (G2 y) (pR (G2 y) y 8))) ((fX12_in N (G2 y) ((gA τ (pR (G2 y) y 8) (nI (f + k))) - (97 : Int32)) (0 : Int32) (5 : Int32) τ).bind (fun q1 => if q1 = 0 then (fX12_lettersTold_b74 N (G2 y) q y (lw B f k) (nI (f + k)) ((gA τ (pR (G2 y) y 8) (nI (f + k))) - (97 : Int32)) τ) else ((fX12_has N (G2 y) (lw B f k) ((gA τ (pR (G2 y) y 8) (nI (f + k))) - (97 : Int32)) τ).bind (fun q2 => if q2 = 0 then (fX12_lettersTold_b75 N (G2 y) q y (lw B f k) (nI (f + k)) ((gA τ (pR (G2 y) y 8) (nI (f + k))) - (97 : Int32)) (1 : Int32) τ) else (fX12_lettersTold_b74 N (G2 y) q y (lw B f k) (nI (f + k)) ((gA τ (pR (G2 y) y 8) (nI (f + k))) - (97 : Int32)) τ)))))))) = (if (if (nI (lc B f k)) < 0 then (0 : Int32) else if (5 : Int32) < nI (lc B f k) then 0 else 1) = 0 then q (lw B f k ||| 0, 0, nI (f + (k + 1)), τ) else (if (if bit (lw B f k) (lc B f k) = true then (1 : Int32) else 0) = 0 then (q (lw B f (k + 1), 1, nI (f + (k + 1)), τ)) else q (lw B f k ||| 0, 0, nI (f + (k + 1)), τ))) := by
          intro q
          rw [h10, if_neg (nI_ge (by omega) (by omega)), if_neg (show ¬ (1 : Int32) = 0 by decide), g2r_0_8, g2n_6, ck_nI (by omega) (by omega), gA_nI (by omega), e, l1, r_inn, b_some, has_fn2 (by omega), b_some]
          unfold fX12_lettersTold_b74 fX12_lettersTold_b75
          rw [if_pos rfl, if_neg (show ¬ (1 : Int32) = 0 by decide), nI_1, lw_s]
          rfl
        by_cases u1 : lc B f k < 6
        · by_cases u2 : bit (lw B f k) (lc B f k) = true
          · refine ⟨(lw B f k ||| 0, 0, nI (f + (k + 1)), τ), Or.inr ⟨lw B f k ||| 0, rfl, fun g => ?_⟩, fun q => ?_⟩
            · have := (g k hk).2
              rw [u2] at this
              cases this
            · refine (pre q).trans ?_
              rw [if_neg (nI_pos (by omega)), if_neg (show ¬ (5 : Int32) < nI (lc B f k) from nI_nlt (a := 5) (by omega) (by omega)), if_neg (show ¬ (1 : Int32) = 0 by decide), if_pos u2, if_neg (show ¬ (1 : Int32) = 0 by decide)]
          · refine ⟨_, Or.inl ⟨rfl, okL_s ok u1 (Bool.eq_false_iff.mpr u2)⟩, fun q => ?_⟩
            refine (pre q).trans ?_
            rw [if_neg (nI_pos (by omega)), if_neg (show ¬ (5 : Int32) < nI (lc B f k) from nI_nlt (a := 5) (by omega) (by omega)), if_neg (show ¬ (1 : Int32) = 0 by decide), if_neg u2, if_pos rfl]
        · refine ⟨(lw B f k ||| 0, 0, nI (f + (k + 1)), τ), Or.inr ⟨lw B f k ||| 0, rfl, fun g => u1 (g k hk).1⟩, fun q => ?_⟩
          refine (pre q).trans ?_
          rw [if_neg (nI_pos (by omega)), if_pos (show (5 : Int32) < nI (lc B f k) from nI_lt (a := 5) (by omega) (by omega)), if_pos rfl]
      · right
        refine ⟨_, Or.inr ⟨nok, rfl⟩, fun q => ?_⟩
        show (if (τ.1 y 10) ≤ nI (f + k) then (fX12_lettersTold_b97 N (G2 y) u 0 τ) else (if (0 : Int32) = 0 then (fX12_lettersTold_b97 N (G2 y) u 0 τ) else _)) = _
        rw [h10, if_neg (nI_ge (by omega) (by omega)), if_pos rfl]
        rfl) (by
      intro x hx
      rcases hx with ⟨rfl, ok⟩ | ⟨u, rfl, nok⟩
      · refine ⟨_, Or.inl ⟨ok, rfl⟩, fun q => ?_⟩
        show (if (τ.1 y 10) ≤ nI (f + n) then (fX12_lettersTold_b97 N (G2 y) (lw B f n) 1 τ) else _) = _
        rw [h10, hee, if_pos (Int32.le_refl _)]
        rfl
      · refine ⟨_, Or.inr ⟨nok, rfl⟩, fun q => ?_⟩
        show (if (τ.1 y 10) ≤ nI (f + n) then (fX12_lettersTold_b97 N (G2 y) u 0 τ) else _) = _
        rw [h10, hee, if_pos (Int32.le_refl _)]
        rfl) (b := (0, 1, nI f, τ)) (Or.inl ⟨rfl, fun i hi => by omega⟩)
    obtain ⟨r, h7, h8⟩ := this
    rcases h7 with ⟨h7, rfl⟩ | ⟨h7, rfl⟩
    · exact ⟨_, h8, Or.inl ⟨w, h7, rfl⟩⟩
    · exact ⟨_, h8, Or.inr ⟨fun g => h7 g.2, rfl⟩⟩
  · rw [if_pos (nI_le (by omega) (by omega))]
    refine ⟨-1, ?_, Or.inr ⟨fun g => w g.1, rfl⟩⟩
    refine lp_one (by omega) (fun q => ?_)
    show (if (τ.1 y 10) ≤ nI f then (fX12_lettersTold_b97 N (G2 y) 0 0 τ) else _) = _
    rw [h10, if_pos (nI_le (by omega) (by omega))]
    rfl
theorem JT.told {N z y L p : Nat} {B : Nat → Int32} {τ1 τ2 : pS} (hN : 20000 < N) (j : JT z y B L p τ1 τ2) : ∃ v υ p' b', fX9_passLetters N (G1 z) (z + 1) τ1 = some (v, υ) ∧ fX12_lettersTold N (G2 y) y τ2 = some (v, PT y τ2 p' b') ∧ TF z τ1 υ ∧ ((0 ≤ v.toInt ∧ v.toInt < 64 ∧ JT z y B L p' υ (PT y τ2 p' b')) ∨ (v = -1 ∧ υ.1 (z + 1) 2 = nI b')) := by
  obtain ⟨l1, w⟩ := j.letters hN
  obtain ⟨b, c, hL, h11, h10, h12, e⟩ := w
  obtain ⟨v, υ, x1, x2, x3⟩ := c_letters hN b c
  obtain ⟨v2, y1, y2⟩ := r_told (N := N) hN hL c.1 e h10 h12
  unfold fX12_lettersTold
  rw [l1, b_some, y1, x1]
  have ev : v2 = v := by
    rcases x3 with ⟨a1, a2, a3, a4⟩ | ⟨a1, a2, a3⟩
    · rcases y2 with ⟨b1, b2, b3⟩ | ⟨b1, b2⟩
      · rw [a3, b3]
      · exact absurd ⟨a1, a2⟩ b1
    · rcases y2 with ⟨b1, b2, b3⟩ | ⟨b1, b2⟩
      · exact absurd ⟨b1, b2⟩ a1
      · rw [a2, b2]
  rw [ev]
  refine ⟨v, υ, _, _, rfl, rfl, x2, ?_⟩
  rcases x3 with ⟨a1, a2, a3, a4⟩ | ⟨a1, a2, a3⟩
  · obtain ⟨m, m1, m2, _⟩ := lw_ok _ a2
    left
    rw [a3, m2, nI_toInt (by omega)]
    exact ⟨by omega, by omega, x2.by b, a4, ⟨hL, en_L c.1, h11, h10⟩, e⟩
  · right
    rw [a3]
    exact ⟨a2, c.2.1⟩
def ntz (x : Int32) : Option Int32 := fJ6_numberOfTrailingZeros_0f7a4 0 (G1 0) x (S1 0)
theorem ntz_fn {N : Nat} {G : pG} {x : Int32} {σ : pS} : fJ6_numberOfTrailingZeros_0f7a4 N G x σ = ntz x := rfl
theorem ntz_all : ∀ c, c < 6 → ntz ((0 : Int32) ||| ((1 : Int32) <<< (nI c &&& 31))) = some (nI c) := by decide +kernel
/-- one letter -/
theorem JT.one {N z y L p : Nat} {B : Nat → Int32} {τ1 τ2 : pS} (hN : 20000 < N) (j : JT z y B L p τ1 τ2) : ∃ v w υ p' b', fX9_passLetter N (G1 z) (z + 1) τ1 = some (v, υ) ∧ fX12_lettersTold N (G2 y) y τ2 = some (w, PT y τ2 p' b') ∧ TF z τ1 υ ∧ ((0 ≤ v.toInt ∧ v.toInt < 6 ∧ ¬ w < 0 ∧ bc w = 1 ∧ ntz w = some v ∧ JT z y B L p' υ (PT y τ2 p' b')) ∨ (v = -1 ∧ (w < 0 ∨ ¬ bc w = 1) ∧ υ.1 (z + 1) 2 = nI b')) := by
  obtain ⟨l1, w⟩ := j.letters hN
  obtain ⟨b, c, hL, h11, h10, h12, e⟩ := w
  obtain ⟨v2, y1, y2⟩ := r_told (N := N) hN hL c.1 e h10 h12
  have c0 := c
  obtain ⟨hf, h2, h1, h3, _, _⟩ := c
  unfold fX12_lettersTold
  rw [l1, b_some, y1]
  generalize en blk B L p = f at hf h2 h1 h3 h10 h11 h12 e c0 y1 y2 l1 ⊢
  have eL := en_L (P := ltr) (B := B) hf
  have eg := en_le (P := ltr) (B := B) (L := L) (p := f)
  unfold fX9_passLetter
  rw [h2, c_byte b (by omega), b_some, h1]
  by_cases k : tkd B L f = 1
  · have kk := tkd_1.mp k
    have e3 : nx B L f = en ltr B L f := by
      unfold nx
      rw [if_pos kk.1, if_pos kk.2]
    rw [e3] at h3
    have eg2 : f < en ltr B L f := by
      rw [en_eq, if_pos kk]
      have := en_le (P := ltr) (B := B) (L := L) (p := f + 1)
      omega
    obtain ⟨n', hn', e'⟩ := byte_of (b.2.2 f kk.1).2
    have h5 := (byte_all n' hn').2.2.2.2
    rw [← e'] at h5
    have h6 := h5 (by rw [kk.2, Bool.true_or])
    obtain ⟨q1, q2⟩ := lc_eq (B := B) (f := f) (i := 0) kk.2
    rw [Nat.add_zero] at q1
    rw [if_pos k, h3, nI_df eg, if_pos kk.1, h6, q1]
    by_cases n1 : en ltr B L f - f = 1
    · rw [n1] at y2 ⊢
      rw [if_pos (show nI 1 = 1 from rfl)]
      by_cases u1 : lc B f 0 < 6
      · rw [if_pos (show nI (lc B f 0) < 6 from nI_lt (b := 6) u1 (by omega))]
        obtain ⟨υ, x1, x2, x3⟩ := c_adv (N := N) hN b eL h3
        have ok : okL B f 1 := fun i hi => by
          have : i = 0 := by omega
          rw [this]
          exact ⟨u1, bit_0⟩
        rcases y2 with ⟨b1, b2, b3⟩ | ⟨b1, b2⟩
        · obtain ⟨m, m1, m2, m3⟩ := lw_ok _ ok
          refine ⟨nI (lc B f 0), v2, υ, _, _, by rw [x1, b_some], rfl, x2, Or.inl ⟨?_, ?_, ?_, ?_, ?_, x2.by b, x3, ⟨hL, eL, h11, h10⟩, e⟩⟩
          · rw [nI_toInt (by omega)]
            omega
          · rw [nI_toInt (by omega)]
            omega
          · rw [b3, m2]
            exact nI_pos (by omega)
          · rw [b3, m2, m3]
            rfl
          · rw [b3]
            exact ntz_all _ u1
        · exact absurd ⟨eg2, ok⟩ b1
      · rw [if_neg (show ¬ nI (lc B f 0) < 6 from nI_nlt (b := 6) (by omega) (by omega))]
        refine ⟨-1, v2, τ1, _, _, rfl, rfl, TF.r, Or.inr ⟨rfl, Or.inl ?_, h2⟩⟩
        rcases y2 with ⟨b1, b2, b3⟩ | ⟨b1, b2⟩
        · exact absurd (b2 0 (by omega)).1 u1
        · rw [b2]
          decide
    · rw [if_neg (show ¬ nI (en ltr B L f - f) = (1 : Int32) from fun g => n1 ((nI_eq (a := en ltr B L f - f) (b := 1) (by omega) (by omega)).mp g))]
      refine ⟨-1, v2, τ1, _, _, rfl, rfl, TF.r, Or.inr ⟨rfl, ?_, h2⟩⟩
      rcases y2 with ⟨b1, b2, b3⟩ | ⟨b1, b2⟩
      · obtain ⟨m, m1, m2, m3⟩ := lw_ok _ b2
        right
        rw [b3, m2, m3]
        exact fun g => n1 ((nI_eq (a := en ltr B L f - f) (b := 1) (by omega) (by omega)).mp g)
      · left
        rw [b2]
        decide
  · rw [if_neg k]
    have e0 : en ltr B L f = f := en_id (fun q => k (tkd_1.mpr q))
    refine ⟨-1, v2, τ1, _, _, rfl, rfl, TF.r, Or.inr ⟨rfl, Or.inl ?_, h2⟩⟩
    rcases y2 with ⟨b1, b2, b3⟩ | ⟨b1, b2⟩
    · rw [e0] at b1
      exact absurd b1 (by omega)
    · rw [b2]
      decide
