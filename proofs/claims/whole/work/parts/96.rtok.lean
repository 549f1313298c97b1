/-! texts: the reference's point, and words -/
def PT (y : Nat) (σ : pS) (p b : Nat) : pS := putF (putF σ y 10 (nI p)) y 12 (nI b)
theorem PT_10 {y a b c : Nat} {σ : pS} : putF (PT y σ a b) y 10 (nI c) = PT y σ c b := by
  unfold PT
  show (_, _) = (_, _)
  refine congrArg (fun x => (x, σ.2)) ?_
  funext d k
  show (if d = y ∧ k = 10 then nI c else if d = y ∧ k = 12 then nI b else if d = y ∧ k = 10 then nI a else σ.1 d k) = (if d = y ∧ k = 12 then nI b else if d = y ∧ k = 10 then nI c else σ.1 d k)
  by_cases e : d = y ∧ k = 10
  · rw [if_pos e, if_neg (by omega), if_pos e]
  · rw [if_neg e, if_neg e, if_neg e]
theorem PT_12 {y a b c : Nat} {σ : pS} : putF (PT y σ a b) y 12 (nI c) = PT y σ a c := putF_putF
theorem PT_f10 {y a b : Nat} {σ : pS} : (PT y σ a b).1 y 10 = nI a := by
  unfold PT
  rw [pf0n (by decide), pf0]
theorem PT_f12 {y a b : Nat} {σ : pS} : (PT y σ a b).1 y 12 = nI b := by
  unfold PT
  rw [pf0]
theorem PT_fo {y a b k : Nat} {σ : pS} (h : k ≠ 10) (h2 : k ≠ 12) : (PT y σ a b).1 y k = σ.1 y k := by
  unfold PT
  rw [pf0n h2, pf0n h]
theorem PT_2 {y a b : Nat} {σ : pS} : (PT y σ a b).2 = σ.2 := rfl
theorem PT_PT {y a b c d : Nat} {σ : pS} : PT y (PT y σ a b) c d = PT y σ c d := by
  show putF (putF (PT y σ a b) y 10 (nI c)) y 12 (nI d) = _
  rw [PT_10, PT_12]
theorem PT_sA {y a b : Nat} {σ : pS} {i v : Int32} : sA (PT y σ a b) (y + 1) i v = PT y (sA σ (y + 1) i v) a b := rfl
theorem r_isAt {N y L p : Nat} {σ : pS} {lo hi : Int32} (hL : L ≤ 400) (hp : p ≤ L) (h11 : σ.1 y 11 = nI L) (h10 : σ.1 y 10 = nI p) : fX12_isAt N (G2 y) y lo hi σ = some (if p < L ∧ (decide (lo ≤ σ.2.1 (y + 6) p) && decide (σ.2.1 (y + 6) p ≤ hi)) = true then 1 else 0) := by
  unfold fX12_isAt
  simp only [g2r_0_8]
  rw [h11, h10]
  by_cases w : p < L
  · rw [if_neg (nI_ge w (by omega)), g2n_6, ck_nI (by omega) (by omega), gA_nI (by omega), ck_nI (by omega) (by omega)]
    by_cases a : σ.2.1 (y + 6) p < lo
    · rw [if_pos a, decide_eq_false (i_nle.mpr a), Bool.false_and, if_neg (by simp)]
    · by_cases c : hi < σ.2.1 (y + 6) p
      · rw [if_neg a, if_pos c, decide_eq_false (i_nle.mpr c), Bool.and_false, if_neg (by simp)]
      · rw [if_neg a, if_neg c, decide_eq_true (i_nlt.mp a), decide_eq_true (i_nlt.mp c), if_pos ⟨w, rfl⟩]
  · rw [if_pos (nI_le (by omega) (by omega)), if_neg (fun q => w q.1)]
theorem at_ltr {v : Int32} : (decide ((97 : Int32) ≤ v) && decide (v ≤ (122 : Int32))) = ltr v := by
  unfold ltr
  rw [Bool.eq_iff_iff]
  simp only [Bool.and_eq_true, decide_eq_true_eq, i_le, show (97 : Int32).toInt = 97 from rfl, show (122 : Int32).toInt = 122 from rfl]
theorem at_dgt {v : Int32} : (decide ((48 : Int32) ≤ v) && decide (v ≤ (57 : Int32))) = dgt v := by
  unfold dgt
  rw [Bool.eq_iff_iff]
  simp only [Bool.and_eq_true, decide_eq_true_eq, i_le, show (48 : Int32).toInt = 48 from rfl, show (57 : Int32).toInt = 57 from rfl]
theorem at_blk {v : Int32} : (decide ((32 : Int32) ≤ v) && decide (v ≤ (32 : Int32))) = blk v := by
  unfold blk
  rw [Bool.eq_iff_iff]
  simp only [Bool.and_eq_true, decide_eq_true_eq, i_le, show (32 : Int32).toInt = 32 from rfl]
  omega
theorem at_one {v c : Int32} : (decide (c ≤ v) && decide (v ≤ c)) = decide (v = c) := by
  rw [Bool.eq_iff_iff]
  simp only [Bool.and_eq_true, decide_eq_true_eq, i_le]
  constructor
  · intro h
    exact i_ext (by omega)
  · intro h
    rw [h]
    omega
/-- the point goes on -/
theorem r_loop {N y L : Nat} {σ : pS} {lo hi : Int32} {P : Int32 → Bool} {F : pS → Option pS} (hL : L ≤ 400) (h11 : σ.1 y 11 = nI L) (hP : ∀ v, (decide (lo ≤ v) && decide (v ≤ hi)) = P v) : ∀ (m q M : Nat), L - q ≤ m → m < M → q ≤ L → lp (fun (k0 : pS → Option (pS)) (b : pS) => (fX12_isAt N (G2 y) y lo hi b).bind (fun q1 => if q1 = 0 then (F b) else (k0 (putF b y 10 ((b.1 y 10) + (1 : Int32)))))) M (putF σ y 10 (nI q)) = F (putF σ y 10 (nI (en P (σ.2.1 (y + 6)) L q))) := by
  intro m
  induction m with
  | zero =>
    intro q M hm hM hq
    obtain ⟨M', rfl⟩ : ∃ M', M = M' + 1 := ⟨M - 1, by omega⟩
    rw [en_id (by omega)]
    show (fX12_isAt N (G2 y) y lo hi (putF σ y 10 (nI q))).bind _ = _
    rw [r_isAt hL hq (by rw [pf0n (by decide)]; exact h11) pf0, b_some, if_neg (show ¬ (q < L ∧ _) from fun g => by have := g.1; omega), if_pos rfl]
  | succ m ih =>
    intro q M hm hM hq
    obtain ⟨M', rfl⟩ : ∃ M', M = M' + 1 := ⟨M - 1, by omega⟩
    show (fX12_isAt N (G2 y) y lo hi (putF σ y 10 (nI q))).bind (fun q1 => if q1 = 0 then _ else (lp _ M' (putF (putF σ y 10 (nI q)) y 10 ((putF σ y 10 (nI q)).1 y 10 + 1)))) = _
    rw [r_isAt hL hq (by rw [pf0n (by decide)]; exact h11) pf0, b_some, hP, pf0, nI_1, putF_putF]
    by_cases u : q < L ∧ P (σ.2.1 (y + 6) q) = true
    · rw [if_pos (show q < L ∧ P ((putF σ y 10 (nI q)).2.1 (y + 6) q) = true from u), if_neg (by decide), ih (q + 1) M' (by omega) (by omega) (by omega), en_eq (p := q), if_pos u]
    · rw [if_neg (show ¬ (q < L ∧ P ((putF σ y 10 (nI q)).2.1 (y + 6) q) = true) from u), if_pos rfl, en_id u]
/-- the reference's point is p, its text L long -/
def RP (y L p : Nat) (σ : pS) : Prop := L ≤ 400 ∧ p ≤ L ∧ σ.1 y 11 = nI L ∧ σ.1 y 10 = nI p
theorem r_blanks {N y L p : Nat} {σ : pS} (hN : 20000 < N) (h : RP y L p σ) : fX12_blanks N (G2 y) y σ = some (PT y σ (en blk (σ.2.1 (y + 6)) L p) (en blk (σ.2.1 (y + 6)) L p)) := by
  obtain ⟨hL, hp, h11, h10⟩ := h
  unfold fX12_blanks fX12_blanks_b0
  have e0 : σ = putF σ y 10 (nI p) := (putF_self h10).symm
  have := r_loop (N := N) (y := y) (L := L) (σ := σ) (lo := 32) (hi := 32) (P := blk) (F := fun b => some (putF b y 12 (b.1 y 10))) hL h11 (fun v => at_blk) (L - p) p N (Nat.le_refl _) (by omega) hp
  rw [← e0] at this
  rw [this]
  show some (putF _ y 12 ((putF σ y 10 (nI (en blk (σ.2.1 (y + 6)) L p))).1 y 10)) = _
  rw [pf0]
  rfl
theorem RP.pt {y L p b q : Nat} {σ : pS} (h : RP y L p σ) (hq : q ≤ L) : RP y L q (PT y σ q b) := ⟨h.1, hq, by rw [PT_fo (by decide) (by decide)]; exact h.2.2.1, PT_f10⟩
theorem r_letters {N y L p : Nat} {σ : pS} (hN : 20000 < N) (h : RP y L p σ) : fX12_letters N (G2 y) y σ = some (PT y σ (en ltr (σ.2.1 (y + 6)) L (en blk (σ.2.1 (y + 6)) L p)) (en blk (σ.2.1 (y + 6)) L p)) := by
  unfold fX12_letters
  rw [r_blanks hN h, b_some]
  have hs : en blk (σ.2.1 (y + 6)) L p ≤ L := en_L h.2.1
  obtain ⟨hL, hp, h11, h10⟩ := h
  unfold fX12_letters_b4
  generalize hs2 : en blk (σ.2.1 (y + 6)) L p = s at hs ⊢
  have e0 : PT y σ s s = putF (PT y σ s s) y 10 (nI s) := (putF_self PT_f10).symm
  have := r_loop (N := N) (y := y) (L := L) (σ := PT y σ s s) (lo := 97) (hi := 122) (P := ltr) (F := fun b => some b) hL (by rw [PT_fo (by decide) (by decide)]; exact h11) (fun v => at_ltr) (L - s) s N (Nat.le_refl _) (by omega) hs
  rw [← e0] at this
  rw [this, PT_10]
  rfl
theorem len_bd (sid : Nat) : lenS.getD sid 0 ≤ 40 := by
  have h : ∀ x ∈ lenS, x ≤ 40 := by decide
  rw [List.getD_eq_getElem?_getD]
  cases e : lenS[sid]? with
  | none =>
    show (0 : Nat) ≤ 40
    omega
  | some v => exact h v (List.mem_of_getElem? e)
/-- a word stands there -/
def wdP (B : Nat → Int32) (e f sid : Nat) : Prop := e = f + lenS.getD sid 0 ∧ ∀ i, i < lenS.getD sid 0 → B (f + i) = sChr sid (nI i)
theorem r_isWord {N y e f sid : Nat} {τ : pS} (hN : 20000 < N) (h10 : τ.1 y 10 = nI e) (h12 : τ.1 y 12 = nI f) (hfe : f ≤ e) (he : e ≤ 400) : (wdP (τ.2.1 (y + 6)) e f sid ∧ fX12_isWord N (G2 y) y sid τ = some 1) ∨ (¬ wdP (τ.2.1 (y + 6)) e f sid ∧ fX12_isWord N (G2 y) y sid τ = some 0) := by
  unfold fX12_isWord fX12_isWord_b21
  rw [h10, h12, show nI e - nI f = nI (e - f) from by
    rw [show nI e = nI (e - f) + nI f from by rw [nI_add]; congr 1; omega, Int32.add_sub_cancel]]
  generalize hn : lenS.getD sid 0 = n
  have hn40 : n ≤ 40 := by
    rw [← hn]
    exact len_bd sid
  have sl : sLen sid = nI n := by
    unfold sLen
    rw [hn]
    rfl
  rw [sl]
  by_cases c : e - f = n
  · rw [if_pos (by rw [c])]
    unfold fX12_isWord_b24
    simp only [g2r_0_8, g2n_6]
    suffices hh : ∃ r : Int32, ((wdP (τ.2.1 (y + 6)) e f sid ∧ r = 1) ∨ (¬ wdP (τ.2.1 (y + 6)) e f sid ∧ r = 0)) ∧ lp (fun (k24 : Int32 × Int32 → Option (Int32)) (b : Int32 × Int32) => if b.1 = 0 then (ck (isZ b.1) (some b.1)) else (if (sLen sid) ≤ b.2 then (ck (isZ b.1) (some b.1)) else (ck (inB ((τ.1 y 12) + b.2) 400) (ck (inB b.2 (lenS.getD sid 0)) (if (gA τ (y + 6) ((τ.1 y 12) + b.2)) = (sChr sid b.2) then (k24 ((1 : Int32), b.2 + (1 : Int32))) else (k24 ((0 : Int32), b.2 + (1 : Int32)))))))) N (1, 0) = some r by
      obtain ⟨r, h1, h2⟩ := hh
      rcases h1 with ⟨h1, rfl⟩ | ⟨h1, rfl⟩
      · exact Or.inl ⟨h1, h2⟩
      · exact Or.inr ⟨h1, h2⟩
    rw [sl, hn]
    refine lp_forR (fun k b => (b = (1, nI k) ∧ ∀ i, i < k → τ.2.1 (y + 6) (f + i) = sChr sid (nI i)) ∨ (b = (0, nI k) ∧ ¬ wdP (τ.2.1 (y + 6)) e f sid)) _ n (by omega) ?_ ?_ (Or.inl ⟨rfl, fun i hi => by omega⟩)
    · rintro k hk b (⟨rfl, hm⟩ | ⟨rfl, hm⟩)
      · left
        by_cases u : τ.2.1 (y + 6) (f + k) = sChr sid (nI k)
        · refine ⟨(1, nI (k + 1)), Or.inl ⟨rfl, fun i hi => ?_⟩, fun q => ?_⟩
          · by_cases g : i = k
            · rw [g]
              exact u
            · exact hm i (by omega)
          · dsimp only
            rw [if_neg (by decide), if_neg (nI_ge hk (by omega)), h12, nI_add, ck_nI (by omega) (by omega), ck_nI hk (by omega), gA_nI (by omega), if_pos u, nI_1]
        · refine ⟨(0, nI (k + 1)), Or.inr ⟨rfl, fun g => u (g.2 k (by rw [hn]; exact hk))⟩, fun q => ?_⟩
          dsimp only
          rw [if_neg (by decide), if_neg (nI_ge hk (by omega)), h12, nI_add, ck_nI (by omega) (by omega), ck_nI hk (by omega), gA_nI (by omega), if_neg u, nI_1]
      · right
        refine ⟨0, Or.inr ⟨hm, rfl⟩, fun q => ?_⟩
        rfl
    · rintro b (⟨rfl, hm⟩ | ⟨rfl, hm⟩)
      · refine ⟨1, Or.inl ⟨⟨by rw [hn]; omega, fun i hi => hm i (by rw [hn] at hi; exact hi)⟩, rfl⟩, fun q => ?_⟩
        dsimp only
        rw [if_neg (by decide), if_pos lit_end]
        rfl
      · refine ⟨0, Or.inr ⟨hm, rfl⟩, fun q => ?_⟩
        rfl
  · refine Or.inr ⟨fun g => c (by
      have := g.1
      rw [hn] at this
      omega), ?_⟩
    rw [if_neg (fun g => c ((nI_eq (by omega) (by omega)).mp g))]
    unfold fX12_isWord_b24
    exact lp_one (by omega) (fun q => rfl)
theorem c_isWord {N z L f sid : Nat} {B : Nat → Int32} {τ : pS} (hN : 20000 < N) (b : BY z B L τ) (h : CT z B L f τ) (hl : 0 < lenS.getD sid 0) : (wdP B (en ltr B L f) f sid ∧ fX9_isWord N (G1 z) (z + 1) sid τ = some 1) ∨ (¬ wdP B (en ltr B L f) f sid ∧ fX9_isWord N (G1 z) (z + 1) sid τ = some 0) := by
  obtain ⟨hf, h2, h1, h3, _, _⟩ := h
  have hL := b.1
  have hn40 := len_bd sid
  unfold fX9_isWord
  rw [h1]
  by_cases k : tkd B L f = 1
  · have kk := tkd_1.mp k
    have en1 : nx B L f = en ltr B L f := by
      unfold nx
      rw [if_pos kk.1, if_pos kk.2]
    have eL := en_L (P := ltr) (B := B) hf
    have eg := en_le (P := ltr) (B := B) (L := L) (p := f)
    rw [if_pos k, h3, h2, en1, show nI (en ltr B L f) - nI f = nI (en ltr B L f - f) from by
      rw [show nI (en ltr B L f) = nI (en ltr B L f - f) + nI f from by rw [nI_add]; congr 1; omega, Int32.add_sub_cancel]]
    generalize hn : lenS.getD sid 0 = n at hn40 hl
    have sl : sLen sid = nI n := by
      unfold sLen
      rw [hn]
      rfl
    rw [sl]
    by_cases c : n = en ltr B L f - f
    · rw [if_pos (by rw [c])]
      unfold fX9_isWord_b28
      suffices hh : ∃ r : Int32, ((wdP B (en ltr B L f) f sid ∧ r = 1) ∨ (¬ wdP B (en ltr B L f) f sid ∧ r = 0)) ∧ lp (fun (k28 : Int32 → Option (Int32)) (b : Int32) => if (sLen sid) ≤ b then (some (1 : Int32)) else (ck (inB b (lenS.getD sid 0)) ((fX9_byteAt N (G1 z) (z + 1) ((τ.1 (z + 1) 2) + b) τ).bind (fun q1 => if (sChr sid b) = q1 then (k28 (b + (1 : Int32))) else (some (0 : Int32)))))) N 0 = some r by
        obtain ⟨r, x1, x2⟩ := hh
        rcases x1 with ⟨x1, rfl⟩ | ⟨x1, rfl⟩
        · exact Or.inl ⟨x1, x2⟩
        · exact Or.inr ⟨x1, x2⟩
      rw [sl, hn]
      refine lp_forR (fun k b => b = nI k ∧ ∀ i, i < k → B (f + i) = sChr sid (nI i)) _ n (by omega) ?_ ?_ ⟨rfl, fun i hi => by omega⟩
      · rintro k hk _ ⟨rfl, hm⟩
        have hfk : f + k < L := by omega
        have hl1 : ltr (B (f + k)) = true := en_in (L := L) (p := f) (by omega) (by omega)
        obtain ⟨n', hn', e'⟩ := byte_of (b.2.2 (f + k) (by omega)).2
        have h5 := (byte_all n' hn').2.2.2.2
        rw [← e'] at h5
        have h6 := h5 (by rw [hl1, Bool.true_or])
        by_cases u : sChr sid (nI k) = B (f + k)
        · left
          refine ⟨nI (k + 1), ⟨rfl, fun i hi => ?_⟩, fun q => ?_⟩
          · by_cases g : i = k
            · rw [g, u]
            · exact hm i (by omega)
          · rw [if_neg (nI_ge hk (by omega)), ck_nI hk (by omega), h2, nI_add, c_byte b (by omega), b_some, if_pos hfk, h6, if_pos u, nI_1]
        · right
          refine ⟨0, Or.inr ⟨fun g => u (g.2 k (by rw [hn]; exact hk)).symm, rfl⟩, fun q => ?_⟩
          rw [if_neg (nI_ge hk (by omega)), ck_nI hk (by omega), h2, nI_add, c_byte b (by omega), b_some, if_pos hfk, h6, if_neg u]
      · rintro _ ⟨rfl, hm⟩
        refine ⟨1, Or.inl ⟨⟨by rw [hn]; omega, fun i hi => hm i (by rw [hn] at hi; exact hi)⟩, rfl⟩, fun q => ?_⟩
        rw [if_pos lit_end]
    · refine Or.inr ⟨fun g => c (by
        have := g.1
        rw [hn] at this
        omega), ?_⟩
      rw [if_neg (fun g => c ((nI_eq (by omega) (by omega)).mp g))]
  · refine Or.inr ⟨fun g => ?_, by rw [if_neg k]⟩
    have e : en ltr B L f = f := en_id (fun q => k (tkd_1.mpr q))
    have := g.1
    rw [e] at this
    omega
