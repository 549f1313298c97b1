/-! fewest: the reference -/
def FR (y : Nat) (σ τ : pS) : Prop := (∀ a k, ¬ (a = y ∧ 18 ≤ k ∧ k ≤ 24) → τ.1 a k = σ.1 a k) ∧ ∀ a, a ≠ y + 8 → a ≠ y + 10 → a ≠ y + 11 → τ.2.1 a = σ.2.1 a
theorem FR.r {y : Nat} {σ : pS} : FR y σ σ := ⟨fun _ _ _ => rfl, fun _ _ _ _ => rfl⟩
theorem FR.t {y : Nat} {σ τ υ : pS} (h : FR y σ τ) (g : FR y τ υ) : FR y σ υ := ⟨fun a k e => (g.1 a k e).trans (h.1 a k e), fun a e1 e2 e3 => (g.2 a e1 e2 e3).trans (h.2 a e1 e2 e3)⟩
theorem FR.q {y : Nat} {σ τ : pS} (h : QQ y σ τ) : FR y σ τ := ⟨h.1, fun a e _ _ => h.2 a e⟩
theorem FR.a {y b : Nat} {σ τ : pS} {i v : Int32} (h : FR y σ τ) (hb : b = 10 ∨ b = 11) : FR y σ (sA τ (y + b) i v) := ⟨h.1, fun a e1 e2 e3 => (sA_o (by omega)).trans (h.2 a e1 e2 e3)⟩
theorem FR.w {y : Nat} {σ τ : pS} (h : FR y σ τ) : τ.2.1 (y + 1) = σ.2.1 (y + 1) := h.2 _ (by omega) (by omega) (by omega)
theorem FR.e {y : Nat} {σ τ : pS} (h : FR y σ τ) : E2 y σ τ := ⟨fun k hk => h.1 y k (by omega), fun j hj => h.2 _ (by omega) (by omega) (by omega)⟩
def oN (y a : Nat) (τ : pS) (t d : Nat) : Prop := ¬ τ.2.1 (y + a) (100 * t + d) = 0
/-- the table of what may be behind k words -/
def NW (y : Nat) (w : Nat → Int32) (who : Int32) (k : Nat) (τ : pS) : Prop := (∀ t d, t < 64 → d < 100 → oN y 10 τ t d → En w who k (eff w t) d) ∧ ∀ S d, En w who k S d → ∃ t, t < 64 ∧ eff w t = S ∧ oN y 10 τ t d
theorem bo1 : vp_nar .boolean 1 = 1 := by decide
theorem bo0 : vp_nar .boolean 0 = 0 := by decide
/-- what one row of now does to next -/
def NX (y : Nat) (w : Nat → Int32) (who : Int32) (k : Nat) (τ υ : pS) : Prop := (∀ i, ¬ τ.2.1 (y + 11) i = 0 → ¬ υ.2.1 (y + 11) i = 0) ∧ ∀ t d, t < 64 → d < 100 → oN y 11 υ t d → oN y 11 τ t d ∨ En w who (k + 1) (eff w t) d
/-- .. and nothing else than 1 is put -/
def PO (y : Nat) (τ υ : pS) : Prop := ∀ i, υ.2.1 (y + 11) i = τ.2.1 (y + 11) i ∨ υ.2.1 (y + 11) i = 1
theorem NX.r {y k : Nat} {w : Nat → Int32} {who : Int32} {τ υ : pS} (e : υ.2.1 (y + 11) = τ.2.1 (y + 11)) : NX y w who k τ υ := by
  unfold NX oN
  rw [e]
  exact ⟨fun _ h => h, fun _ _ _ _ h => Or.inl h⟩
theorem NX.t {y k : Nat} {w : Nat → Int32} {who : Int32} {τ υ ρ : pS} (h : NX y w who k τ υ) (g : NX y w who k υ ρ) : NX y w who k τ ρ := by
  refine ⟨fun i a => g.1 i (h.1 i a), fun t d ht hd a => ?_⟩
  rcases g.2 t d ht hd a with b | b
  · exact h.2 t d ht hd b
  · exact Or.inr b
def Exr (y : Nat) (w : Nat → Int32) (who : Int32) (τ : pS) (S : Int32) (d n : Nat) : Prop := ∀ j, j < n → ∃ t', t' < 64 ∧ eff w t' = pbV w S j ∧ oN y 11 τ t' (bwF w who S d j)
theorem Exr.g {y k : Nat} {w : Nat → Int32} {who S : Int32} {τ υ : pS} {d n : Nat} (h : Exr y w who τ S d n) (g : NX y w who k τ υ) : Exr y w who υ S d n := fun j hj => by
  obtain ⟨t', h1, h2, h3⟩ := h j hj
  exact ⟨t', h1, h2, g.1 _ h3⟩
theorem r_asks {N y k t d : Nat} {κ : pS} {w : Nat → Int32} {who : Int32} (hN : 20000 < N) (hw : WInv w) (hl : HasLaw w) (hκ : κ.2.1 (y + 1) = w) (ht : t < 64) (hd : d < 100) (he : En w who k (eff w t) d) : ∃ υ r, fX12_asksBy N (G2 y) y who (nI t) (nI d) κ = some (r, υ) ∧ FR y κ υ ∧ υ.2.1 (y + 10) = κ.2.1 (y + 10) ∧ ((r = 1 ∧ askS w who (eff w t) d) ∨ (r = 0 ∧ ¬ askS w who (eff w t) d)) ∧ NX y w who k κ υ ∧ Exr y w who υ (eff w t) d (cN w 2) ∧ PO y κ υ := by
  have c2 := hw.c2
  unfold fX12_asksBy
  have pb : fX12_possibleBy N (G2 y) y (nI t) κ = some (eff w t) := by
    rw [r_possibleBy hN (by rw [hκ]; exact hw), hκ]
    rfl
  rw [pb, b_some, bc_fn, b_some]
  suffices hh : ∃ q : Int32 × pS, (FR y κ q.2 ∧ q.2.2.1 (y + 10) = κ.2.1 (y + 10) ∧ ((q.1 = 1 ∧ askS w who (eff w t) d) ∨ (q.1 = 0 ∧ ¬ askS w who (eff w t) d)) ∧ NX y w who k κ q.2 ∧ Exr y w who q.2 (eff w t) d (cN w 2) ∧ PO y κ q.2) ∧ fX12_asksBy_b16 N (G2 y) y who (nI t) (nI d) (bc (eff w t)) (0, 0, κ) = some q by
    obtain ⟨⟨q1, q2⟩, x, x3⟩ := hh
    exact ⟨q2, q1, x3, x⟩
  unfold fX12_asksBy_b16
  simp only [g2r_0_1, g2n_1]
  refine lp_forR (fun j b => ∃ a τ, b = (a, nI j, τ) ∧ FR y κ τ ∧ τ.2.1 (y + 10) = κ.2.1 (y + 10) ∧ ((a = 1 ∧ askS w who (eff w t) d) ∨ (a = 0 ∧ ∀ i, i < j → nI (bwF w who (eff w t) d i) < w 8)) ∧ NX y w who k κ τ ∧ Exr y w who τ (eff w t) d j ∧ PO y κ τ) _ (cN w 2) (by omega) ?_ ?_ ⟨0, κ, rfl, FR.r, rfl, Or.inr ⟨rfl, fun i hi => by omega⟩, NX.r rfl, fun j hj => by omega, fun i => Or.inl rfl⟩
  · rintro j hj _ ⟨a, τ, rfl, h1, h2, h3, h4, h5, h9⟩
    left
    have hv : τ.2.1 (y + 1) = w := h1.w.trans hκ
    have hv' : (lk3 y τ (nI d) (w 9) (bc (eff w t))).2.1 (y + 1) = w := hv
    obtain ⟨w1, w2⟩ := bwF_eq (who := who) (S := eff w t) hw hl hj hd
    obtain ⟨α, l2, a1⟩ := r_behindWord (N := N) (y := y) (σ := lk3 y τ (nI d) (w 9) (bc (eff w t))) (who := who) (word := j) hN (by rw [hv']; exact hw) (by rw [hv']; exact hl) (by rw [hv']; exact hj)
    rw [hv', lk3_f.1, lk3_f.2.1, lk3_f.2.2, w1] at a1
    have qa : QQ y τ α := QQ.k3.t (QQ.l l2)
    have hva : α.2.1 (y + 1) = w := (qa.2 _ (by omega)).trans hv
    have a11 : α.2.1 (y + 11) = τ.2.1 (y + 11) := qa.2 _ (by omega)
    have a10 : α.2.1 (y + 10) = τ.2.1 (y + 10) := qa.2 _ (by omega)
    obtain ⟨t', x1, x2, x3⟩ : ∃ t', t' < 64 ∧ eff w t' = pbV w (eff w t) j ∧ ∀ (p : Int32 × Int32 × pS → Option (Int32 × pS)) (y0 : Int32), fX12_asksBy_b79 N (G2 y) p y who (nI t) (nI d) (bc (eff w t)) (nI j) (nI (bwF w who (eff w t) d j)) (w (56 + 2 * j)) y0 α = p (y0, nI (j + 1), sA α (y + 11) (nI (100 * t' + bwF w who (eff w t) d j)) 1) := by
      have wo := (hw.wo j hj).2
      by_cases s : w (56 + 2 * j) < 0
      · refine ⟨t, ht, (if_pos s).symm, fun p y0 => ?_⟩
        unfold fX12_asksBy_b79 fX12_asksBy_b102
        rw [if_neg (i_nle.mpr s), g2r_0_27, g2n_11, bo1, show (100 : Int32) * nI t + nI (bwF w who (eff w t) d j) = nI (100 * t + bwF w who (eff w t) d j) from by rw [show (100 : Int32) = nI 100 from rfl, nI_mul, nI_add], ck_nI (by omega) (by omega), nI_1]
      · have s0 : 0 ≤ (w (56 + 2 * j)).toInt := by
          rw [i_lt, show (0 : Int32).toInt = 0 from rfl] at s
          omega
        obtain ⟨r, hr, er⟩ : ∃ r, r < 6 ∧ w (56 + 2 * j) = nI r := ⟨(w (56 + 2 * j)).toInt.toNat, by omega, nI_cN s0⟩
        have p6 : 2 ^ r < 64 := by
          have : ∀ r, r < 6 → 2 ^ r < 64 := by decide
          exact this r hr
        have tl : t ||| 2 ^ r < 64 := Nat.or_lt_two_pow (n := 6) ht p6
        refine ⟨t ||| 2 ^ r, tl, ?_, fun p y0 => ?_⟩
        · rw [eff_or hw ht hr]
          unfold pbV
          rw [if_neg s, er, nI_toInt (by omega), Int.toNat_natCast]
        · have eo : nI t ||| ((1 : Int32) <<< (nI r &&& 31)) = nI (t ||| 2 ^ r) := by
            apply bit_ext
            intro i hi
            rw [bit_or, bit_shl1 (by omega), bit_nI (by omega), bit_nI (by omega), Nat.testBit_or, Nat.testBit_two_pow]
            congr 1
            exact decide_eq_decide.mpr (by omega)
          unfold fX12_asksBy_b79 fX12_asksBy_b102
          rw [if_pos (i_nlt.mp s), er, eo, g2r_0_27, g2n_11, bo1, show (100 : Int32) * nI (t ||| 2 ^ r) + nI (bwF w who (eff w t) d j) = nI (100 * (t ||| 2 ^ r) + bwF w who (eff w t) d j) from by rw [show (100 : Int32) = nI 100 from rfl, nI_mul, nI_add], ck_nI (by omega) (by omega), nI_1]
    have nx : NX y w who k τ (sA α (y + 11) (nI (100 * t' + bwF w who (eff w t) d j)) 1) := by
      refine ⟨fun i b => ?_, fun t2 d2 ht2 hd2 b => ?_⟩
      · rw [sA_w (n := 100 * t' + bwF w who (eff w t) d j) (nI_clamp (by omega)), a11]
        by_cases e : i = 100 * t' + bwF w who (eff w t) d j
        · rw [e, va_up_self]
          decide
        · rw [up_ne e]
          exact b
      · unfold oN at b ⊢
        rw [sA_w (n := 100 * t' + bwF w who (eff w t) d j) (nI_clamp (by omega)), a11] at b
        by_cases e : 100 * t2 + d2 = 100 * t' + bwF w who (eff w t) d j
        · right
          have e1 : t2 = t' := by omega
          have e2 : d2 = bwF w who (eff w t) d j := by omega
          rw [e1, e2]
          exact ⟨_, _, j, he, hj, x2, rfl⟩
        · rw [up_ne e] at b
          exact Or.inl b
    have fr : FR y κ (sA α (y + 11) (nI (100 * t' + bwF w who (eff w t) d j)) 1) := (h1.t (FR.q qa)).a (Or.inr rfl)
    have f10 : (sA α (y + 11) (nI (100 * t' + bwF w who (eff w t) d j)) 1).2.1 (y + 10) = κ.2.1 (y + 10) := by
      rw [sA_o (by omega), a10, h2]
    have ex : Exr y w who (sA α (y + 11) (nI (100 * t' + bwF w who (eff w t) d j)) 1) (eff w t) d (j + 1) := by
      intro i hi
      by_cases e : i = j
      · subst e
        refine ⟨t', x1, x2, ?_⟩
        unfold oN
        rw [sA_w (n := 100 * t' + bwF w who (eff w t) d i) (nI_clamp (by omega)), va_up_self]
        decide
      · exact (h5.g nx) i (by omega)
    have po : PO y κ (sA α (y + 11) (nI (100 * t' + bwF w who (eff w t) d j)) 1) := by
      intro i
      rw [sA_w (n := 100 * t' + bwF w who (eff w t) d j) (nI_clamp (by omega)), a11]
      by_cases e : i = 100 * t' + bwF w who (eff w t) d j
      · rw [e, va_up_self]
        exact Or.inr rfl
      · rw [up_ne e]
        exact h9 i
    have body : ∀ q : Int32 × Int32 × pS → Option (Int32 × pS), ((fX12_words N (G2 y) y τ).bind (fun q1 => if q1 ≤ nI j then (ck (isZ a) (some (a, τ))) else (ck (inB (9 : Int32) 2081) ((fX12_looks N (G2 y) y (nI d) (gA τ (y + 1) (9 : Int32)) (bc (eff w t)) τ).bind (fun q2 => (fX12_behindWord N (G2 y) y who (nI j) q2).bind (fun q3 => (fX12_ofWord N (G2 y) y (nI j) (1 : Int32) q3.2).bind (fun q4 => if a = 0 then (ck (inB (8 : Int32) 2081) (if q3.1 < (gA q3.2 (y + 1) (8 : Int32)) then (fX12_asksBy_b79 N (G2 y) q y who (nI t) (nI d) (bc (eff w t)) (nI j) q3.1 q4 (0 : Int32) q3.2) else (fX12_asksBy_b74 N (G2 y) q y who (nI t) (nI d) (bc (eff w t)) (nI j) q3.1 q4 q3.2))) else (fX12_asksBy_b74 N (G2 y) q y who (nI t) (nI d) (bc (eff w t)) (nI j) q3.1 q4 q3.2)))))))) = if a = 0 then (if nI (bwF w who (eff w t) d j) < w 8 then q (0, nI (j + 1), sA α (y + 11) (nI (100 * t' + bwF w who (eff w t) d j)) 1) else q (1, nI (j + 1), sA α (y + 11) (nI (100 * t' + bwF w who (eff w t) d j)) 1)) else q (1, nI (j + 1), sA α (y + 11) (nI (100 * t' + bwF w who (eff w t) d j)) 1) := by
      intro q
      unfold fX12_asksBy_b74
      rw [r_words, b_some, hv, if_neg (cnt_lt hw.2.2.1.1 hj), show inB 9 2081 = true by decide, ck_t, show gA τ (y + 1) 9 = w 9 from by show τ.2.1 (y + 1) 9 = _; rw [hv], r_looks, b_some, a1, b_some, r_ofWord1 (by omega), b_some]
      dsimp only
      rw [hva, x3 q 0, x3 q 1, show inB 8 2081 = true by decide, ck_t, show gA α (y + 1) 8 = w 8 from by show α.2.1 (y + 1) 8 = _; rw [hva]]
    rcases h3 with ⟨e, h3⟩ | ⟨e, h3⟩
    · subst e
      refine ⟨(1, nI (j + 1), sA α (y + 11) (nI (100 * t' + bwF w who (eff w t) d j)) 1), ⟨1, _, rfl, fr, f10, Or.inl ⟨rfl, h3⟩, h4.t nx, ex, po⟩, fun q => ?_⟩
      dsimp only
      rw [body q, if_neg (by decide)]
    · subst e
      by_cases u : nI (bwF w who (eff w t) d j) < w 8
      · refine ⟨(0, nI (j + 1), sA α (y + 11) (nI (100 * t' + bwF w who (eff w t) d j)) 1), ⟨0, _, rfl, fr, f10, Or.inr ⟨rfl, fun i hi => ?_⟩, h4.t nx, ex, po⟩, fun q => ?_⟩
        · by_cases e : i = j
          · rw [e]
            exact u
          · exact h3 i (by omega)
        · dsimp only
          rw [body q, if_pos rfl, if_pos u]
      · refine ⟨(1, nI (j + 1), sA α (y + 11) (nI (100 * t' + bwF w who (eff w t) d j)) 1), ⟨1, _, rfl, fr, f10, Or.inl ⟨rfl, j, hj, u⟩, h4.t nx, ex, po⟩, fun q => ?_⟩
        dsimp only
        rw [body q, if_pos rfl, if_neg u]
  · rintro _ ⟨a, τ, rfl, h1, h2, h3, h4, h5, h9⟩
    have hv : τ.2.1 (y + 1) = w := h1.w.trans hκ
    have za : isZ a = true := by
      rcases h3 with h3 | h3 <;> rw [h3.1] <;> rfl
    refine ⟨(a, τ), ⟨h1, h2, ?_, h4, h5, h9⟩, fun q => ?_⟩
    · rcases h3 with h3 | h3
      · exact Or.inl h3
      · refine Or.inr ⟨h3.1, ?_⟩
        rintro ⟨j, hj, u⟩
        exact u (h3.2 j hj)
    · dsimp only
      rw [r_words, b_some, hv, if_pos (cnt_eN hw.2.2.1.1), za, ck_t]
/-- how a round ends -/
def RS (y : Nat) (w : Nat → Int32) (who : Int32) (k : Nat) (κ : pS) (r : (Int32 × pS → Option (Int32 × pS)) → Option (Int32 × pS)) : Prop := ∃ υ, FR y κ υ ∧ ((askE w who k ∧ r = fun _ => some (nI (k + 1), υ)) ∨ (¬ askE w who k ∧ NW y w who (k + 1) υ ∧ r = fun p => p (nI (k + 1 + 1), υ)))
theorem r_f157 {N y k : Nat} {κ τ : pS} {w : Nat → Int32} {who : Int32} (hN : 20000 < N) (hf : FR y κ τ) (na : ¬ askE w who k) (n1 : ∀ t d, t < 64 → d < 100 → oN y 11 τ t d → En w who (k + 1) (eff w t) d) (n2 : ∀ S d, En w who (k + 1) S d → d < 100 ∧ ∃ t, t < 64 ∧ eff w t = S ∧ oN y 11 τ t d) (b01 : ∀ i, i < 6400 → τ.2.1 (y + 11) i = 0 ∨ τ.2.1 (y + 11) i = 1) : ∃ r, RS y w who k κ r ∧ ∀ p, fX12_fewest_b157 N (G2 y) p y who (nI (k + 1)) (0, τ) = r p := by
  unfold fX12_fewest_b157
  simp only [g2r_0_26, g2r_0_27, g2n_10, g2n_11]
  refine lp_forRQ (fun i b => ∃ ρ, b = (nI i, ρ) ∧ FR y κ ρ ∧ ρ.2.1 (y + 11) = τ.2.1 (y + 11) ∧ ∀ j, j < i → ρ.2.1 (y + 10) j = τ.2.1 (y + 11) j) _ 6400 (by omega) ?_ ?_ ⟨τ, rfl, hf, rfl, fun j hj => by omega⟩
  · rintro i hi _ ⟨ρ, rfl, h1, h2, h3⟩
    have vb : vp_nar .boolean (τ.2.1 (y + 11) i) = τ.2.1 (y + 11) i := by
      rcases b01 i hi with e | e
      · rw [e, bo0]
      · rw [e, bo1]
    refine ⟨(nI (i + 1), sA ρ (y + 10) (nI i) (τ.2.1 (y + 11) i)), ⟨_, rfl, h1.a (Or.inl rfl), (sA_o (by omega)).trans h2, fun j hj => ?_⟩, fun p q => ?_⟩
    · rw [sA_w (n := i) (nI_clamp (by omega))]
      by_cases e : j = i
      · rw [e, va_up_self]
      · rw [up_ne e]
        exact h3 j (by omega)
    · dsimp only
      rw [if_neg (show ¬ Int32.ofNat 6400 ≤ nI i from lit_lt (m := 6400) hi (by decide)), ck_nI hi (by omega), ck_nI hi (by omega), gA_nI (by omega), h2, vb, nI_1]
  · rintro _ ⟨ρ, rfl, h1, h2, h3⟩
    have s : ∀ t d, t < 64 → d < 100 → (oN y 10 ρ t d ↔ oN y 11 τ t d) := fun t d ht hd => by
      unfold oN
      rw [h3 _ (by omega)]
    refine ⟨_, ⟨ρ, h1, Or.inr ⟨na, ⟨fun t d ht hd a => n1 t d ht hd ((s t d ht hd).mp a), fun S d e => ?_⟩, rfl⟩⟩, fun p q => ?_⟩
    · obtain ⟨hd, t, a1, a2, a3⟩ := n2 S d e
      exact ⟨t, a1, a2, (s t d a1 hd).mpr a3⟩
    · dsimp only
      rw [if_pos (show Int32.ofNat 6400 ≤ nI 6400 from lit_end), nI_1]
theorem or01 {a b : Int32} (ha : a = 0 ∨ a = 1) (hb : b = 0 ∨ b = 1) : (a ||| b = 1 ∧ (a = 1 ∨ b = 1)) ∨ (a ||| b = 0 ∧ a = 0 ∧ b = 0) := by
  rcases ha with rfl | rfl <;> rcases hb with rfl | rfl <;> decide
/-- next is 0 or 1 -/
def b01 (y : Nat) (τ : pS) : Prop := ∀ i, i < 6400 → τ.2.1 (y + 11) i = 0 ∨ τ.2.1 (y + 11) i = 1
theorem r_f104 {N y k : Nat} {κ τ : pS} {w : Nat → Int32} {who : Int32} (hN : 20000 < N) (hw : WInv w) (hl : HasLaw w) (hκ : κ.2.1 (y + 1) = w) (hf : FR y κ τ) (nw : NW y w who k τ) (z11 : ∀ i, i < 6400 → τ.2.1 (y + 11) i = 0) : ∃ r, RS y w who k κ r ∧ ∀ p, fX12_fewest_b104 N (G2 y) p y who (nI (k + 1)) (0, 0, τ) = r p := by
  unfold fX12_fewest_b104
  simp only [g2r_0_26, g2n_10]
  refine lp_forRQ (fun i b => ∃ a ρ, b = (a, nI i, ρ) ∧ FR y κ ρ ∧ ρ.2.1 (y + 10) = τ.2.1 (y + 10) ∧ b01 y ρ ∧ ((a = 1 ∧ askE w who k) ∨ (a = 0 ∧ ∀ t d, t < 64 → d < 100 → 100 * t + d < i → oN y 10 τ t d → ¬ askS w who (eff w t) d)) ∧ (∀ t d, t < 64 → d < 100 → oN y 11 ρ t d → En w who (k + 1) (eff w t) d) ∧ ∀ t d, t < 64 → d < 100 → 100 * t + d < i → oN y 10 τ t d → Exr y w who ρ (eff w t) d (cN w 2)) _ 6400 (by omega) ?_ ?_ ⟨0, τ, rfl, hf, rfl, fun i hi => Or.inl (z11 i hi), Or.inr ⟨rfl, fun t d _ _ h => by omega⟩, fun t d ht hd a => absurd (z11 _ (by omega)) a, fun t d _ _ h => by omega⟩
  · rintro i hi _ ⟨a, ρ, rfl, h1, h2, h3, h4, h5, h6⟩
    obtain ⟨t, d, ht, hd, rfl⟩ : ∃ t d, t < 64 ∧ d < 100 ∧ i = 100 * t + d := ⟨i / 100, i % 100, by omega, by omega, by omega⟩
    have hv : ρ.2.1 (y + 1) = w := h1.w.trans hκ
    by_cases u : τ.2.1 (y + 10) (100 * t + d) = 0
    · refine ⟨(a, nI (100 * t + d + 1), ρ), ⟨a, ρ, rfl, h1, h2, h3, ?_, h5, ?_⟩, fun p q => ?_⟩
      · rcases h4 with h4 | ⟨e, h4⟩
        · exact Or.inl h4
        · refine Or.inr ⟨e, fun t' d' x1 x2 x3 x4 => ?_⟩
          by_cases g : 100 * t' + d' = 100 * t + d
          · unfold oN at x4
            rw [g] at x4
            exact absurd u x4
          · exact h4 t' d' x1 x2 (by omega) x4
      · intro t' d' x1 x2 x3 x4
        by_cases g : 100 * t' + d' = 100 * t + d
        · unfold oN at x4
          rw [g] at x4
          exact absurd u x4
        · exact h6 t' d' x1 x2 (by omega) x4
      · dsimp only
        rw [if_neg (show ¬ Int32.ofNat 6400 ≤ nI (100 * t + d) from lit_lt (m := 6400) hi (by decide)), ck_nI hi (by omega), gA_nI (by omega), h2, if_pos u, nI_1]
    · have he := nw.1 t d ht hd u
      obtain ⟨υ, r, x0, x1, x2, x3, x4, x5, x6⟩ := r_asks (N := N) (y := y) (k := k) (t := t) (d := d) (κ := ρ) (who := who) hN hw hl hv ht hd he
      have a01 : a = 0 ∨ a = 1 := by
        rcases h4 with h4 | h4
        · exact Or.inr h4.1
        · exact Or.inl h4.1
      have r01 : r = 0 ∨ r = 1 := by
        rcases x3 with x3 | x3
        · exact Or.inr x3.1
        · exact Or.inl x3.1
      refine ⟨(a ||| r, nI (100 * t + d + 1), υ), ⟨a ||| r, υ, rfl, h1.t x1, x2.trans h2, fun i hi => ?_, ?_, fun t' d' y1 y2 y3 => ?_, fun t' d' y1 y2 y3 y4 => ?_⟩, fun p q => ?_⟩
      · rcases x6 i with e | e
        · rw [e]
          exact h3 i hi
        · exact Or.inr e
      · rcases or01 a01 r01 with ⟨e, o⟩ | ⟨e, o1, o2⟩
        · refine Or.inl ⟨e, ?_⟩
          rcases o with o | o
          · rcases h4 with h4 | h4
            · exact h4.2
            · rw [h4.1] at o
              exact absurd o (by decide)
          · rcases x3 with x3 | x3
            · exact ⟨_, d, he, x3.2⟩
            · rw [x3.1] at o
              exact absurd o (by decide)
        · refine Or.inr ⟨e, fun t' d' y1 y2 y3 y4 => ?_⟩
          by_cases g : 100 * t' + d' = 100 * t + d
          · have g1 : t' = t := by omega
            have g2 : d' = d := by omega
            rw [g1, g2]
            rcases x3 with x3 | x3
            · rw [x3.1] at o2
              exact absurd o2 (by decide)
            · exact x3.2
          · rcases h4 with h4 | h4
            · rw [h4.1] at o1
              exact absurd o1 (by decide)
            · exact h4.2 t' d' y1 y2 (by omega) y4
      · rcases x4.2 t' d' y1 y2 y3 with e | e
        · exact h5 t' d' y1 y2 e
        · exact e
      · by_cases g : 100 * t' + d' = 100 * t + d
        · have g1 : t' = t := by omega
          have g2 : d' = d := by omega
          rw [g1, g2]
          exact x5
        · exact (h6 t' d' y1 y2 (by omega) y4).g x4
      · dsimp only
        rw [if_neg (show ¬ Int32.ofNat 6400 ≤ nI (100 * t + d) from lit_lt (m := 6400) hi (by decide)), ck_nI hi (by omega), gA_nI (by omega), h2, if_neg u, show nI (100 * t + d) / (100 : Int32) = nI t from by
          rw [show (100 : Int32) = nI 100 from rfl, div_nI (by omega) (by omega), show (100 * t + d) / 100 = t by omega], show jrem (nI (100 * t + d)) (100 : Int32) = nI d from by
          rw [show (100 : Int32) = nI 100 from rfl, jrem_nI (by omega) (by omega) (by omega), show (100 * t + d) % 100 = d by omega], x0, b_some, nI_1]
  · rintro _ ⟨a, ρ, rfl, h1, h2, h3, h4, h5, h6⟩
    rcases h4 with ⟨e, h4⟩ | ⟨e, h4⟩
    · subst e
      refine ⟨_, ⟨ρ, h1, Or.inl ⟨h4, rfl⟩⟩, fun p q => ?_⟩
      dsimp only
      rw [if_pos (show Int32.ofNat 6400 ≤ nI 6400 from lit_end), if_neg (by decide)]
    · subst e
      have na : ¬ askE w who k := by
        rintro ⟨S, d, e1, e2⟩
        have hd := En_lt hw hl k S d e1
        obtain ⟨t, a1, a2, a3⟩ := nw.2 S d e1
        rw [← a2] at e2
        exact h4 t d a1 hd (by omega) a3 e2
      obtain ⟨r, r1, r2⟩ := r_f157 (N := N) (y := y) (k := k) (κ := κ) (τ := ρ) (w := w) (who := who) hN h1 na h5 (by
        rintro S' d' ⟨S, d, j, e1, e2, e3, e4⟩
        have hd := En_lt hw hl k S d e1
        obtain ⟨t, a1, a2, a3⟩ := nw.2 S d e1
        obtain ⟨t', b1, b2, b3⟩ := h6 t d a1 hd (by omega) a3 j e2
        rw [a2] at b2 b3
        rw [e4]
        exact ⟨(bwF_eq hw hl e2 hd).2, t', b1, b2.trans e3.symm, b3⟩) h3
      refine ⟨r, r1, fun p q => ?_⟩
      dsimp only
      rw [if_pos (show Int32.ofNat 6400 ≤ nI 6400 from lit_end), if_pos rfl, r2]
theorem r_f77 {N y k : Nat} {κ τ : pS} {w : Nat → Int32} {who : Int32} (hN : 20000 < N) (hw : WInv w) (hl : HasLaw w) (hκ : κ.2.1 (y + 1) = w) (hf : FR y κ τ) (nw : NW y w who k τ) : ∃ r, RS y w who k κ r ∧ ∀ p, fX12_fewest_b77 N (G2 y) p y who (nI (k + 1)) 0 (0, τ) = r p := by
  unfold fX12_fewest_b77
  simp only [g2r_0_27, g2n_11]
  refine lp_forRQ (fun i b => ∃ ρ, b = (nI i, ρ) ∧ FR y κ ρ ∧ ρ.2.1 (y + 10) = τ.2.1 (y + 10) ∧ ∀ j, j < i → ρ.2.1 (y + 11) j = 0) _ 6400 (by omega) ?_ ?_ ⟨τ, rfl, hf, rfl, fun j hj => by omega⟩
  · rintro i hi _ ⟨ρ, rfl, h1, h2, h3⟩
    refine ⟨(nI (i + 1), sA ρ (y + 11) (nI i) 0), ⟨_, rfl, h1.a (Or.inr rfl), (sA_o (by omega)).trans h2, fun j hj => ?_⟩, fun p q => ?_⟩
    · rw [sA_w (n := i) (nI_clamp (by omega))]
      by_cases e : j = i
      · rw [e, va_up_self]
      · rw [up_ne e]
        exact h3 j (by omega)
    · dsimp only
      rw [if_neg (show ¬ Int32.ofNat 6400 ≤ nI i from lit_lt (m := 6400) hi (by decide)), ck_nI hi (by omega), bo0, nI_1]
  · rintro _ ⟨ρ, rfl, h1, h2, h3⟩
    obtain ⟨r, r1, r2⟩ := r_f104 (N := N) (y := y) (k := k) (κ := κ) (τ := ρ) (w := w) (who := who) hN hw hl hκ h1 (by
      unfold NW oN at nw ⊢
      rw [h2]
      exact nw) h3
    refine ⟨r, r1, fun p q => ?_⟩
    dsimp only
    rw [if_pos (show Int32.ofNat 6400 ≤ nI 6400 from lit_end), r2]
theorem few_r {N y : Nat} {κ : pS} {w : Nat → Int32} {who : Int32} (hN : 20000 < N) (hw : WInv w) (hl : HasLaw w) (hκ : κ.2.1 (y + 1) = w) (h13 : ¬ w 13 = 1) : ∃ υ r, fX12_fewest_b22 N (G2 y) y who (0, κ) = some (r, υ) ∧ FR y κ υ ∧ Few w who r := by
  obtain ⟨d0, hd0, e7⟩ := w7 hw
  have rounds : ∀ τ, FR y κ τ → NW y w who 0 τ → ∃ q : Int32 × pS, (FR y κ q.2 ∧ Few w who q.1) ∧ fX12_fewest_b59 N (G2 y) y who (1, τ) = some q := by
    intro τ hf nw
    unfold fX12_fewest_b59
    refine lp_forR (fun k b => ∃ ρ, b = (nI (k + 1), ρ) ∧ FR y κ ρ ∧ NW y w who k ρ ∧ ∀ m, m < k → ¬ askE w who m) _ 20 (by omega) ?_ ?_ ⟨τ, rfl, hf, nw, fun m hm => by omega⟩
    · rintro k hk _ ⟨ρ, rfl, h1, h2, h3⟩
      have hv : ρ.2.1 (y + 1) = w := h1.w.trans hκ
      obtain ⟨r, ⟨υ, u1, u2⟩, u3⟩ := r_f77 (N := N) (y := y) (k := k) (κ := κ) (τ := ρ) (w := w) (who := who) hN hw hl hκ h1 h2
      rcases u2 with ⟨a, rfl⟩ | ⟨a, b, rfl⟩
      · right
        refine ⟨(nI (k + 1), υ), ⟨u1, Or.inl ⟨k, hk, a, h3, rfl⟩⟩, fun p => ?_⟩
        dsimp only
        rw [if_neg (show ¬ (20 : Int32) < nI (k + 1) from nI_nlt (a := 20) (by omega) (by omega)), r_gone, b_some, ite01, hv, if_neg h13, u3]
      · left
        refine ⟨(nI (k + 1 + 1), υ), ⟨υ, rfl, u1, b, fun m hm => ?_⟩, fun p => ?_⟩
        · by_cases e : m = k
          · rw [e]
            exact a
          · exact h3 m (by omega)
        · dsimp only
          rw [if_neg (show ¬ (20 : Int32) < nI (k + 1) from nI_nlt (a := 20) (by omega) (by omega)), r_gone, b_some, ite01, hv, if_neg h13, u3]
    · rintro _ ⟨ρ, rfl, h1, h2, h3⟩
      refine ⟨(-1, ρ), ⟨h1, Or.inr ⟨h3, rfl⟩⟩, fun p => ?_⟩
      dsimp only
      rw [if_pos (show (20 : Int32) < nI (20 + 1) from nI_lt (a := 20) (b := 21) (by omega) (by omega))]
  suffices hh : ∃ q : Int32 × pS, (FR y κ q.2 ∧ Few w who q.1) ∧ fX12_fewest_b22 N (G2 y) y who (0, κ) = some q by
    obtain ⟨⟨q1, q2⟩, ⟨x1, x2⟩, x3⟩ := hh
    exact ⟨q2, q1, x3, x1, x2⟩
  unfold fX12_fewest_b22
  simp only [g2r_0_1, g2r_0_26, g2n_1, g2n_10]
  refine lp_forR (fun i b => ∃ ρ, b = (nI i, ρ) ∧ FR y κ ρ ∧ ∀ j, j < i → ρ.2.1 (y + 10) j = 0) _ 6400 (by omega) ?_ ?_ ⟨κ, rfl, FR.r, fun j hj => by omega⟩
  · rintro i hi _ ⟨ρ, rfl, h1, h3⟩
    left
    refine ⟨(nI (i + 1), sA ρ (y + 10) (nI i) 0), ⟨_, rfl, h1.a (Or.inl rfl), fun j hj => ?_⟩, fun q => ?_⟩
    · rw [sA_w (n := i) (nI_clamp (by omega))]
      by_cases e : j = i
      · rw [e, va_up_self]
      · rw [up_ne e]
        exact h3 j (by omega)
    · dsimp only
      rw [if_neg (show ¬ Int32.ofNat 6400 ≤ nI i from lit_lt (m := 6400) hi (by decide)), ck_nI hi (by omega), bo0, nI_1]
  · rintro _ ⟨ρ, rfl, h1, h3⟩
    have hv : ρ.2.1 (y + 1) = w := h1.w.trans hκ
    have g7 : gA ρ (y + 1) 7 = nI d0 := by
      show ρ.2.1 (y + 1) 7 = _
      rw [hv, e7]
    have nw0 : NW y w who 0 (sA ρ (y + 10) (nI d0) 1) := by
      refine ⟨fun t d ht hd a => ?_, fun S d e => ?_⟩
      · unfold oN at a
        rw [sA_w (n := d0) (nI_clamp (by omega))] at a
        by_cases e : 100 * t + d = d0
        · have e1 : t = 0 := by omega
          have e2 : d = d0 := by omega
          rw [e1, e2, eff_0]
          exact ⟨rfl, e7.symm, hd0⟩
        · rw [up_ne e] at a
          exact absurd (h3 _ (by omega)) a
      · obtain ⟨e1, e2, e3⟩ := e
        have e4 : d = d0 := by
          rw [e7] at e2
          exact (nI_eq (by omega) (by omega)).mp e2
        refine ⟨0, by omega, eff_0.trans e1.symm, ?_⟩
        unfold oN
        rw [sA_w (n := d0) (nI_clamp (by omega)), e4, Nat.mul_zero, Nat.zero_add, va_up_self]
        decide
    obtain ⟨q, q1, q2⟩ := rounds (sA ρ (y + 10) (nI d0) 1) (h1.a (Or.inl rfl)) nw0
    refine ⟨q, q1, fun p => ?_⟩
    dsimp only
    rw [if_pos (show Int32.ofNat 6400 ≤ nI 6400 from lit_end), g7, show inB 7 2081 = true by decide, ck_t, ck_nI (by omega) (by omega), bo1, q2]
theorem gd_fewest {N z y : Nat} (hN : 20000 < N) : Gd_fewest N (G1 z) (G2 y) z y (z + 150) (Sim z y) := by
  intro σ1 σ2 h c1
  unfold fL_fewest
  apply gd_w
  unfold fX11_fewest fX12_fewest
  refine who_pre h (fun τ => if_pos rfl) (fun i hi hi6 e1 => ?_)
  subst e1
  have wi := h.wi
  simp only [g1r_0_0, g1r_0_1, g1r_0_2, g1r_0_3, g1r_0_4, g1r_0_5, g1r_0_6, g1r_0_7, g1r_0_8, g1r_1_5, g1n_2, g1r_3_0, g1r_3_1, g1r_3_2, g1r_4_9, g1r_4_10, g1r_4_11, g1r_4_12, g1r_4_13, g1r_4_14, g1r_4_15, g1r_4_16, g1r_4_17, g1n_5, g1n_6, g1n_7, g1n_8, g1n_9, g1n_10, g1n_11, g1n_12, g1n_13, g1r_14_2, g1r_14_3, g1r_14_4, g1r_14_5, g1r_14_6, g1n_15, g1n_16, g1n_17, g1n_18, g1n_19, g1r_20_7, g1r_20_8, g1n_21, g1r_22_2, g1n_23, g1r_24_0, g1r_24_1, g1r_24_2, g1r_25_9, g1r_25_10, g1r_25_11, g1r_25_12, g1r_25_13, g1r_25_14, g1r_25_15, g1r_25_16, g1r_25_17, g1n_26, g1n_27, g1n_28, g1n_29, g1n_30, g1n_31, g1n_32, g1n_33, g1n_34, g1r_35_2, g1r_35_3, g1r_35_4, g1r_35_5, g1r_35_6, g1n_36, g1n_37, g1n_38, g1n_39, g1n_40, g1r_41_7, g1r_41_8, g1n_42, g1r_43_2, g1n_44, g1r_45_0, g1r_45_1, g1r_45_2, g1r_46_9, g1r_46_10, g1r_46_11, g1r_46_12, g1r_46_13, g1r_46_14, g1r_46_15, g1r_46_16, g1r_46_17, g1n_47, g1n_48, g1n_49, g1n_50, g1n_51, g1n_52, g1n_53, g1n_54, g1n_55, g1r_56_2, g1r_56_3, g1r_56_4, g1r_56_5, g1r_56_6, g1n_57, g1n_58, g1n_59, g1n_60, g1n_61, g1r_62_7, g1r_62_8, g1n_63, g1r_64_2, g1n_65, g1r_66_2, g1n_67, g1r_68_7, g1r_68_8, g1n_69, g1r_70_2, g1n_71, g1r_72_7, g1r_72_8, g1n_73, g1r_74_2, g1n_75, g1r_76_7, g1r_76_8, g1n_77, g1r_78_2, g1n_79, g1r_80_7, g1r_80_8, g1n_81, g1r_82_2, g1n_83, g1r_84_7, g1r_84_8, g1n_85, g1r_86_2, g1n_87, g1r_88_7, g1r_88_8, g1n_89, g1r_90_2, g1n_91, g1r_92_7, g1r_92_8, g1n_93, g1r_94_2, g1n_95, g1r_96_7, g1r_96_8, g1n_97, g1r_98_2, g1n_99, g1r_100_7, g1r_100_8, g1n_101, g1r_102_2, g1n_103, g1r_104_7, g1r_104_8, g1n_105, g1r_106_2, g1n_107, g1r_108_7, g1r_108_8, g1n_109, g1r_110_2, g1n_111, g1r_112_7, g1r_112_8, g1n_113, g1r_114_2, g1n_115, g1r_116_7, g1r_116_8, g1n_117, g1r_118_2, g1n_119, g1r_120_0, g1r_120_1, g1r_120_2, g1r_121_7, g1r_121_8, g1n_122, g1r_123_2, g1n_124, g1n_125, g1n_126, g1r_127_0, g1r_127_1, g1r_127_2, g1r_127_3, g1r_128_7, g1r_128_8, g1n_129, g1r_130_2, g1n_131, g1n_132, g1n_133, g1n_134, g1r_135_7, g1n_136, g1n_150]
  rw [h.ask]
  rcases wi.a01 with q | q
  · rw [if_pos q]
    obtain ⟨υ1, r1, x1, x2, x3⟩ := few_c (N := N) (who := nI i) hN h
    obtain ⟨υ2, r2, y1, y2, y3⟩ := few_r (N := N) (y := y) (κ := putF σ2 y 0 0) (w := σ2.2.1 (y + 1)) (who := nI i) hN wi h.hl rfl (show ¬ σ2.2.1 (y + 1) 13 = 1 from by rw [q]; decide)
    rw [x1, b_some, y1, x3.uniq y3]
    exact gdw_ok rfl rfl ((y2.1 y 0 (by omega)).trans pf0) (h.keep x2 (E2.t0.t y2.e))
  · rw [if_neg (show ¬ σ2.2.1 (y + 1) 13 = 0 from by rw [q]; decide)]
    have gone : ∃ υ, fX12_fewest_b22 N (G2 y) y (nI i) (0, putF σ2 y 0 0) = some (-1, υ) ∧ FR y (putF σ2 y 0 0) υ := by
      suffices hh : ∃ q : Int32 × pS, (q.1 = -1 ∧ FR y (putF σ2 y 0 0) q.2) ∧ fX12_fewest_b22 N (G2 y) y (nI i) (0, putF σ2 y 0 0) = some q by
        obtain ⟨⟨q1, q2⟩, ⟨x1, x2⟩, x3⟩ := hh
        have x1' : q1 = -1 := x1
        subst x1'
        exact ⟨q2, x3, x2⟩
      obtain ⟨d0, hd0, e7⟩ := w7 wi
      unfold fX12_fewest_b22
      simp only [g2r_0_1, g2r_0_26, g2n_1, g2n_10]
      refine lp_forR (fun i b => ∃ ρ, b = (nI i, ρ) ∧ FR y (putF σ2 y 0 0) ρ) _ 6400 (by omega) ?_ ?_ ⟨_, rfl, FR.r⟩
      · rintro j hj _ ⟨ρ, rfl, h1⟩
        left
        refine ⟨(nI (j + 1), sA ρ (y + 10) (nI j) 0), ⟨_, rfl, h1.a (Or.inl rfl)⟩, fun p => ?_⟩
        dsimp only
        rw [if_neg (show ¬ Int32.ofNat 6400 ≤ nI j from lit_lt (m := 6400) hj (by decide)), ck_nI hj (by omega), bo0, nI_1]
      · rintro _ ⟨ρ, rfl, h1⟩
        have hv : ρ.2.1 (y + 1) = σ2.2.1 (y + 1) := h1.w
        have g7 : gA ρ (y + 1) 7 = nI d0 := by
          show ρ.2.1 (y + 1) 7 = _
          rw [hv, e7]
        have f1 : FR y (putF σ2 y 0 0) (sA ρ (y + 10) (nI d0) 1) := h1.a (Or.inl rfl)
        refine ⟨(-1, sA ρ (y + 10) (nI d0) 1), ⟨rfl, f1⟩, fun p => ?_⟩
        dsimp only
        rw [if_pos (show Int32.ofNat 6400 ≤ nI 6400 from lit_end), g7, show inB 7 2081 = true by decide, ck_t, ck_nI (by omega) (by omega), bo1]
        unfold fX12_fewest_b59
        refine lp_one (by omega) (fun q' => ?_)
        dsimp only
        rw [if_neg (show ¬ (20 : Int32) < 1 by decide), r_gone, b_some, ite01, f1.w, pfA, if_pos q]
    obtain ⟨υ, u1, u2⟩ := gone
    rw [u1]
    exact gdw_ok rfl rfl ((u2.1 y 0 (by omega)).trans pf0) (h.keep EE.r (E2.t0.t u2.e))
