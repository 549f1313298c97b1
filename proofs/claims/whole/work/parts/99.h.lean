/-! the story: all lines -/
theorem sg_59 : sgnP 59 := by
  unfold sgnP
  decide +kernel
/-- what all lines owe -/
def SPost (z y : Nat) (τ1 τ2 : pS) (R1 R2 : Option (Int32 × pS)) : Prop := ∃ v r υ1 υ2, R1 = some (v, υ1) ∧ R2 = some (r, υ2) ∧ FC z τ1 υ1 ∧ FY y τ2 υ2 ∧ ((v = 1 ∧ (0 : Int32) ≤ r ∧ WorldR υ1 (z + 25) (υ2.2.1 (y + 1)) ∧ υ2.2.1 (y + 1) 5 = τ2.2.1 (y + 1) 5) ∨ (v = 0 ∧ r = -1 ∧ ∃ b, υ1.1 (z + 1) 2 = nI b ∧ υ2.1 y 12 = nI b))
theorem j_all {N z y L : Nat} {B : Nat → Int32} (hN : 20000 < N) : ∀ (m k M1 M2 p : Nat) (τ1 τ2 : pS), 14 - k ≤ m → k ≤ 14 → m < M1 → m < M2 → JT z y B L p τ1 τ2 → WorldR τ1 (z + 25) (τ2.2.1 (y + 1)) → SPost z y τ1 τ2 (lp (fun (k15 : Int32 × pS → Option (Int32 × pS)) (b : Int32 × pS) => if (14 : Int32) ≤ b.1 then (some ((0 : Int32), b.2)) else ((fX7_readsLine N (G1 z) (z + 1) (z + 24) b.2).bind (fun q1 => if q1.1 = 0 then (some ((0 : Int32), q1.2)) else (if (q1.2.1 (z + 1) 1) = 0 then (some ((1 : Int32), q1.2)) else ((fX9_passSign N (G1 z) (z + 1) (59 : Int32) q1.2).bind (fun q2 => if q2.1 = 0 then (some ((0 : Int32), q2.2)) else (k15 (b.1 + (1 : Int32), q2.2)))))))) M1 (nI k, τ1)) (lp (fun (k28 : Int32 × pS → Option (Int32 × pS)) (b : Int32 × pS) => (fX12_readLine N (G2 y) y 1 b.1 b.2).bind (fun q1 => if q1.1 = 0 then (some ((-1 : Int32), q1.2)) else ((fX12_blanks N (G2 y) y q1.2).bind (fun q2 => if (q2.1 y 10) = (q2.1 y 11) then (some (b.1 + (1 : Int32), q2)) else ((fX12_isAt N (G2 y) y (59 : Int32) (59 : Int32) q2).bind (fun q3 => if q3 = 0 then (some ((-1 : Int32), q2)) else (k28 (b.1 + (1 : Int32), putF q2 y 10 ((q2.1 y 10) + (1 : Int32)))))))))) M2 (nI k, τ2)) := by
  intro m
  induction m with
  | zero =>
    intro k M1 M2 p τ1 τ2 hm hk hM1 hM2 j g
    have hk14 : k = 14 := by omega
    subst hk14
    obtain ⟨l1, w⟩ := j.letters hN
    refine ⟨0, -1, τ1, _, lp_one (by omega) (fun q => ?_), lp_one (by omega) (fun q => ?_), FC.r, FY.pt, Or.inr ⟨rfl, rfl, _, w.2.1.2.1, w.2.2.2.2.2.1⟩⟩
    · rfl
    · dsimp only
      unfold fX12_readLine fX12_readLine_b16
      rw [l1, b_some, if_neg (show ¬ (1 : Int32) = 0 by decide), if_pos (show (14 : Int32) ≤ nI 14 from lit_end), b_some]
      rfl
  | succ m ih =>
    intro k M1 M2 p τ1 τ2 hm hk hM1 hM2 j g
    obtain ⟨l1, w⟩ := j.letters hN
    by_cases hk14 : k = 14
    · subst hk14
      refine ⟨0, -1, τ1, _, lp_one (by omega) (fun q => ?_), lp_one (by omega) (fun q => ?_), FC.r, FY.pt, Or.inr ⟨rfl, rfl, _, w.2.1.2.1, w.2.2.2.2.2.1⟩⟩
      · rfl
      · dsimp only
        unfold fX12_readLine fX12_readLine_b16
        rw [l1, b_some, if_neg (show ¬ (1 : Int32) = 0 by decide), if_pos (show (14 : Int32) ≤ nI 14 from lit_end), b_some]
        rfl
    obtain ⟨M1, rfl⟩ : ∃ M', M1 = M' + 1 := ⟨M1 - 1, by omega⟩
    obtain ⟨M2, rfl⟩ : ∃ M', M2 = M' + 1 := ⟨M2 - 1, by omega⟩
    have n14 : ¬ (14 : Int32) ≤ nI k := lit_lt (m := 14) (by omega) (by decide)
    have n1 : ¬ (1 : Int32) = 0 := by decide
    obtain ⟨v, υ1, υ2, r1, r2, f1, f2, po⟩ := j_line hN w g
    have rl : fX12_readLine N (G2 y) y 1 (nI k) τ2 = some (v, υ2) := by
      unfold fX12_readLine fX12_readLine_b16 fX12_readLine_b41
      rw [l1, b_some, if_neg n1, if_neg n14, if_neg n1, r2, b_some]
      dsimp only
      rcases po with ⟨rfl, _⟩ | ⟨rfl, _⟩
      · rw [if_neg n1]
      · rw [if_pos rfl]
    show SPost z y τ1 τ2 (if (14 : Int32) ≤ nI k then _ else ((fX7_readsLine N (G1 z) (z + 1) (z + 24) τ1).bind _)) ((fX12_readLine N (G2 y) y 1 (nI k) τ2).bind _)
    rw [if_neg n14, r1, b_some, rl, b_some]
    dsimp only
    rcases po with ⟨rfl, ⟨p', j'⟩, g', w5⟩ | ⟨rfl, b, hb1, hb2⟩
    · rw [if_neg n1, if_neg n1]
      obtain ⟨b1, jb⟩ := j'.blanks hN
      have sL : en blk B L p' ≤ L := en_L j'.2.2.1.2.1
      have hL := j'.1.1
      have k1 : υ1.1 (z + 1) 1 = tkd B L (en blk B L p') := j'.2.1.2.2.1
      have h11 : υ2.1 y 11 = nI L := j'.2.2.1.2.2.1
      rw [k1, b1, b_some, PT_f10, PT_fo (by decide) (by decide), h11]
      by_cases e : en blk B L p' < L
      · rw [if_neg (fun q => (tkd_0.mp q) e), if_neg (fun q => by
          have := (nI_eq (by omega) (by omega)).mp q
          omega)]
        obtain ⟨v, ψ, p2, b2, s1, s2, s3, s4, s5, s6, s7, s8⟩ := j'.sign hN sg_59
        have s2 : fX9_passSign N (G1 z) (z + 1) (59 : Int32) υ1 = some (v, ψ) := s2
        have s4 : fX12_isAt N (G2 y) y (59 : Int32) (59 : Int32) (PT y υ2 (en blk B L p') (en blk B L p')) = some v := s4
        rw [s2, b_some, s4, b_some]
        dsimp only
        rcases s8 with ⟨rfl, s9, s10⟩ | ⟨rfl, s9, rfl, s11⟩
        · rw [if_neg n1, if_neg n1, nI_1, nI_1, PT_10, ← s9]
          obtain ⟨v, r, ω1, ω2, x1, x2, x3, x4, x5⟩ := ih (k + 1) M1 M2 p2 ψ (PT y υ2 p2 b2) (by omega) (by omega) (by omega) (by omega) s7 (wor_TF s6 g')
          refine ⟨v, r, ω1, ω2, x1, x2, f1.t (s6.fc.t x3), (FY.pt.t f2).t (FY.pt.t x4), ?_⟩
          rcases x5 with ⟨y1, y2, y3, y4⟩ | y1
          · exact Or.inl ⟨y1, y2, y3, y4.trans w5⟩
          · exact Or.inr y1
        · rw [if_pos rfl, if_pos rfl]
          exact ⟨0, -1, _, _, rfl, rfl, f1, (FY.pt.t f2).t FY.pt, Or.inr ⟨rfl, rfl, _, j'.2.1.2.1, PT_f12⟩⟩
      · rw [if_pos (tkd_0.mpr e), if_pos (by rw [show en blk B L p' = L by omega]), nI_1]
        exact ⟨1, _, υ1, _, rfl, rfl, f1, (FY.pt.t f2).t FY.pt, Or.inl ⟨rfl, nI_le (a := 0) (by omega) (by omega), g', w5⟩⟩
    · rw [if_pos rfl, if_pos rfl]
      exact ⟨0, -1, υ1, υ2, rfl, rfl, f1, FY.pt.t f2, Or.inr ⟨rfl, rfl, b, hb1, hb2⟩⟩
/-- the reference's text is taken up -/
def upT (y : Nat) (σ : pS) : pS := putF (putF (putF (putF (putF σ y 0 0) y 11 (σ.1 y 9)) y 9 0) y 10 0) y 16 0
theorem r_uses {N y : Nat} {σ : pS} : (fX12_uses N (G2 y) y σ).bind (fun q => some (putF q y 16 0)) = some (upT y σ) := by
  unfold fX12_uses upT
  rw [b_some, pf0n (by decide)]
theorem j_reads {N z y L : Nat} {B : Nat → Int32} {τ1 τ2 : pS} (hN : 20000 < N) (b : BY z B L τ1) (h9 : τ2.1 y 9 = nI L) (e : τ2.2.1 (y + 6) = B) (g : WorldR τ1 (z + 25) (τ2.2.1 (y + 1))) : SPost z y τ1 (upT y τ2) (fX7_reads N (G1 z) (z + 1) (z + 24) τ1) (fX12_readAll N (G2 y) y 1 τ2) := by
  have hL := b.1
  have t3 : TF z τ1 (putF τ1 (z + 1) 3 0) := TF.r.pf (by omega)
  obtain ⟨υ, x1, x2, x3⟩ := c_adv (N := N) (q := 0) hN (t3.by b) (by omega) pf0
  have tf := t3.t x2
  have j : JT z y B L 0 υ (upT y τ2) := by
    refine ⟨tf.by b, x3, ⟨hL, by omega, ?_, ?_⟩, e⟩
    · unfold upT
      rw [pf0n (by decide), pf0n (by decide), pf0n (by decide), pf0]
      exact h9
    · unfold upT
      rw [pf0n (by decide), pf0]
      rfl
  have g' : WorldR υ (z + 25) ((upT y τ2).2.1 (y + 1)) := wor_TF tf g
  obtain ⟨b1, jb⟩ := j.blanks hN
  have sL : en blk B L 0 ≤ L := en_L (by omega)
  have k1 : υ.1 (z + 1) 1 = tkd B L (en blk B L 0) := j.2.1.2.2.1
  have h11 : (upT y τ2).1 y 11 = nI L := j.2.2.1.2.2.1
  have ru : fX12_readAll N (G2 y) y 1 τ2 = ((fX12_blanks N (G2 y) y (upT y τ2)).bind (fun q5 => if (q5.1 y 10) = (q5.1 y 11) then (some ((0 : Int32), q5)) else (fX12_readAll_b28 N (G2 y) y 1 ((0 : Int32), q5)))) := by
    unfold fX12_readAll fX12_uses upT
    rw [b_some, pf0n (show 9 ≠ 0 by decide)]
  rw [ru, b1, b_some, PT_f10, PT_fo (by decide) (by decide), h11]
  unfold fX7_reads fX9_open
  rw [x1, b_some, b_some, k1]
  by_cases e0 : en blk B L 0 < L
  · rw [if_neg (fun q => (tkd_0.mp q) e0), if_neg (fun q => by
      have := (nI_eq (by omega) (by omega)).mp q
      omega)]
    unfold fX7_reads_b15 fX12_readAll_b28
    obtain ⟨v, r, ω1, ω2, y1, y2, y3, y4, y5⟩ := j_all (N := N) hN 14 0 N N _ υ _ (by omega) (by omega) (by omega) (by omega) jb g'
    exact ⟨v, r, ω1, ω2, y1, y2, tf.fc.t y3, FY.pt.t y4, y5⟩
  · rw [if_pos (tkd_0.mpr e0), if_pos (by rw [show en blk B L 0 = L by omega])]
    exact ⟨1, 0, υ, _, rfl, rfl, tf.fc, FY.pt, Or.inl ⟨rfl, by decide, g', rfl⟩⟩
