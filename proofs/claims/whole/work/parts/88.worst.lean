/-! worst: the fewest crumbs -/
def Vs (h : Nat → Nat) (V : Nat → Nat) (m : Nat) : Nat → Nat := itN (fun t x => if m &&& h t ≠ 0 ∧ m &&& h t ≠ m then min x (1 + max (V (m &&& h t)) (V (m ^^^ (m &&& h t)))) else x) 1000000
theorem Vs_s {h V : Nat → Nat} {m n : Nat} : Vs h V m (n + 1) = if m &&& h n ≠ 0 ∧ m &&& h n ≠ m then min (Vs h V m n) (1 + max (V (m &&& h n)) (V (m ^^^ (m &&& h n)))) else Vs h V m n := rfl
def Vf (h : Nat → Nat) : Nat → Nat → Nat
  | 0, _ => 0
  | f + 1, m => if pcN m < 2 then 0 else Vs h (Vf h f) m 6
def Vw (h : Nat → Nat) (m : Nat) : Nat := Vf h (m + 1) m
theorem and_lt {m h : Nat} (e : m &&& h ≠ m) : m &&& h < m := by
  have := Nat.and_le_left (n := m) (m := h)
  omega
theorem xs_sub {m h : Nat} : ∀ i, (m ^^^ (m &&& h)).testBit i = true → m.testBit i = true := by
  intro i q
  rw [Nat.testBit_xor, Nat.testBit_and] at q
  cases e : m.testBit i
  · rw [e] at q
    simp at q
  · rfl
theorem sub_le {c m : Nat} (h : ∀ i, c.testBit i = true → m.testBit i = true) : c ≤ m := by
  have e : m &&& c = c := by
    apply Nat.eq_of_testBit_eq
    intro i
    rw [Nat.testBit_and]
    cases q : c.testBit i
    · rw [Bool.and_false]
    · rw [h i q]
      rfl
  have := Nat.and_le_left (n := m) (m := c)
  omega
theorem xs_lt {m h : Nat} (e : m &&& h ≠ 0) : m ^^^ (m &&& h) < m := by
  have a := sub_le (xs_sub (m := m) (h := h))
  have b : m ^^^ (m &&& h) ≠ m := by
    intro q
    apply e
    apply Nat.eq_of_testBit_eq
    intro i
    have : (m ^^^ (m &&& h)).testBit i = m.testBit i := by rw [q]
    rw [Nat.testBit_xor, Nat.testBit_and] at this
    rw [Nat.testBit_and, Nat.zero_testBit]
    cases e1 : m.testBit i
    · rfl
    · cases e2 : h.testBit i
      · rfl
      · rw [e1, e2] at this
        simp at this
  omega
theorem Vs_congr {h V V' : Nat → Nat} {m : Nat} (e : ∀ a, a < m → V a = V' a) : ∀ n, Vs h V m n = Vs h V' m n := by
  intro n
  induction n with
  | zero => rfl
  | succ n ih =>
    rw [Vs_s, Vs_s, ih]
    by_cases q : m &&& h n ≠ 0 ∧ m &&& h n ≠ m
    · rw [if_pos q, if_pos q, e _ (and_lt q.2), e _ (xs_lt q.1)]
    · rw [if_neg q, if_neg q]
theorem Vf_fuel {h : Nat → Nat} : ∀ f f' m, m < f → m < f' → Vf h f m = Vf h f' m := by
  intro f
  induction f with
  | zero => intro f' m a _; omega
  | succ f ih =>
    intro f' m a b
    obtain ⟨g, rfl⟩ : ∃ g, f' = g + 1 := ⟨f' - 1, by omega⟩
    show (if pcN m < 2 then 0 else Vs h (Vf h f) m 6) = (if pcN m < 2 then 0 else Vs h (Vf h g) m 6)
    rw [Vs_congr (V := Vf h f) (V' := Vf h g) (fun c hc => ih g c (by omega) (by omega))]
theorem Vw_eq {h : Nat → Nat} {m : Nat} : Vw h m = if pcN m < 2 then 0 else Vs h (Vw h) m 6 := by
  show (if pcN m < 2 then 0 else Vs h (Vf h m) m 6) = _
  rw [Vs_congr (V := Vf h m) (V' := Vw h) (fun c hc => Vf_fuel _ _ _ hc (by omega))]
theorem Vs_le {h V : Nat → Nat} {m : Nat} : ∀ n, Vs h V m n ≤ 1000000 := by
  intro n
  induction n with
  | zero => exact Nat.le_refl _
  | succ n ih =>
    rw [Vs_s]
    split
    · omega
    · exact ih
theorem Vw_le {h : Nat → Nat} {m : Nat} : Vw h m ≤ 1000000 := by
  rw [Vw_eq]
  split
  · omega
  · exact Vs_le 6
/-- traits by which a set is not parted -/
def homP (h : Nat → Nat) (m t : Nat) : Bool := decide (m &&& h t = 0 ∨ m &&& h t = m)
def hom (h : Nat → Nat) (m : Nat) : Nat := (List.range 6).countP (homP h m)
theorem hom_sub {h : Nat → Nat} {c m t : Nat} (s : ∀ i, c.testBit i = true → m.testBit i = true) (q : homP h m t = true) : homP h c t = true := by
  have q := of_decide_eq_true q
  apply decide_eq_true
  rcases q with q | q
  · left
    apply Nat.eq_of_testBit_eq
    intro i
    have e : (m &&& h t).testBit i = (0 : Nat).testBit i := by rw [q]
    rw [Nat.testBit_and, Nat.zero_testBit] at e
    rw [Nat.testBit_and, Nat.zero_testBit]
    cases e1 : c.testBit i
    · rfl
    · rw [s i e1] at e
      exact e
  · right
    apply Nat.eq_of_testBit_eq
    intro i
    have e : (m &&& h t).testBit i = m.testBit i := by rw [q]
    rw [Nat.testBit_and] at e
    rw [Nat.testBit_and]
    cases e1 : c.testBit i
    · rfl
    · rw [s i e1] at e
      exact e
theorem an_sub {m h : Nat} : ∀ i, (m &&& h).testBit i = true → m.testBit i = true := by
  intro i q
  rw [Nat.testBit_and] at q
  cases e : m.testBit i
  · rw [e] at q
    simp at q
  · rfl
theorem hom_child {h : Nat → Nat} {c m t : Nat} (ht : t < 6) (s : ∀ i, c.testBit i = true → m.testBit i = true) (n : homP h m t = false) (q : homP h c t = true) : hom h m + 1 ≤ hom h c := countP_lt (fun i => hom_sub s) ⟨t, List.mem_range.mpr ht, n, q⟩
theorem hom_and {h : Nat → Nat} {m t : Nat} : homP h (m &&& h t) t = true := by
  apply decide_eq_true
  right
  apply Nat.eq_of_testBit_eq
  intro i
  rw [Nat.testBit_and, Nat.testBit_and]
  cases m.testBit i <;> cases (h t).testBit i <;> rfl
theorem hom_xor {h : Nat → Nat} {m t : Nat} : homP h (m ^^^ (m &&& h t)) t = true := by
  apply decide_eq_true
  left
  apply Nat.eq_of_testBit_eq
  intro i
  rw [Nat.testBit_and, Nat.testBit_xor, Nat.testBit_and, Nat.zero_testBit]
  cases m.testBit i <;> cases (h t).testBit i <;> rfl
theorem hom_all {h : Nat → Nat} {m : Nat} (q : 6 ≤ hom h m) : ∀ t, t < 6 → homP h m t = true := by
  have : (List.range 6).countP (homP h m) = (List.range 6).length := by
    have a : (List.range 6).countP (homP h m) ≤ (List.range 6).length := List.countP_le_length
    have b : (List.range 6).length = 6 := rfl
    unfold hom at q
    omega
  intro t ht
  exact List.countP_eq_length.mp this t (List.mem_range.mpr ht)
theorem split_iff {h : Nat → Nat} {m t : Nat} : (m &&& h t ≠ 0 ∧ m &&& h t ≠ m) ↔ homP h m t = false := by
  unfold homP
  rw [decide_eq_false_iff_not]
  omega
theorem Vs_hom {h V : Nat → Nat} {m : Nat} (q : ∀ t, t < 6 → homP h m t = true) : ∀ n, n ≤ 6 → Vs h V m n = 1000000 := by
  intro n
  induction n with
  | zero => intro _; rfl
  | succ n ih =>
    intro hn
    rw [Vs_s, if_neg (fun g => by
      have := split_iff.mp g
      rw [q n (by omega)] at this
      cases this)]
    exact ih (by omega)
theorem Vw_bd {h : Nat → Nat} : ∀ d a m, a + d = 6 → a ≤ hom h m → Vw h m = 1000000 ∨ Vw h m ≤ d := by
  intro d
  induction d with
  | zero =>
    intro a m e q
    rw [Vw_eq]
    split
    · right
      omega
    · left
      exact Vs_hom (hom_all (by omega)) 6 (by omega)
  | succ d ih =>
    intro a m e q
    rw [Vw_eq]
    split
    · right
      omega
    · have : ∀ n, n ≤ 6 → Vs h (Vw h) m n = 1000000 ∨ Vs h (Vw h) m n ≤ d + 1 := by
        intro n
        induction n with
        | zero => intro _; exact Or.inl rfl
        | succ n ihn =>
          intro hn
          have i1 := ihn (by omega)
          rw [Vs_s]
          by_cases g : m &&& h n ≠ 0 ∧ m &&& h n ≠ m
          · have n0 := split_iff.mp g
            have x1 := ih (a + 1) (m &&& h n) (by omega) (by have := hom_child (by omega) an_sub n0 hom_and; omega)
            have x2 := ih (a + 1) (m ^^^ (m &&& h n)) (by omega) (by have := hom_child (by omega) xs_sub n0 hom_xor; omega)
            rw [if_pos g]
            omega
          · rw [if_neg g]
            exact i1
      exact this 6 (by omega)
def clV (v : Nat) : Nat := if v = 1000000 then 1000 else v
theorem jmin_nI {a b : Nat} (ha : a < 2147483648) (hb : b < 2147483648) : jmin (nI a) (nI b) = nI (min a b) := by
  unfold jmin
  by_cases q : b < a
  · rw [if_pos (nI_lt q (by omega)), Nat.min_eq_right (by omega)]
  · rw [if_neg (nI_nlt (by omega) (by omega)), Nat.min_eq_left (by omega)]
theorem jmax_nI {a b : Nat} (ha : a < 2147483648) (hb : b < 2147483648) : jmax (nI a) (nI b) = nI (max a b) := by
  unfold jmax
  by_cases q : a < b
  · rw [if_pos (nI_lt q (by omega)), Nat.max_eq_right (by omega)]
  · rw [if_neg (nI_nlt (by omega) (by omega)), Nat.max_eq_left (by omega)]
theorem one_nI {a : Nat} : (1 : Int32) + nI a = nI (1 + a) := nI_add 1 a
theorem cl_step {x p q : Nat} (hx : x = 1000000 ∨ x ≤ 7) (hp : p = 1000000 ∨ p ≤ 6) (hq : q = 1000000 ∨ q ≤ 6) : jmin (nI (clV x)) (1 + jmax (nI (clV p)) (nI (clV q))) = nI (clV (min x (1 + max p q))) := by
  have b : ∀ v, (v = 1000000 ∨ v ≤ 7) → clV v ≤ 1000 := by
    intro v hv
    unfold clV
    split <;> omega
  have bx := b x hx
  have bp := b p (by omega)
  have bq := b q (by omega)
  rw [jmax_nI (by omega) (by omega), one_nI, jmin_nI (by omega) (by omega)]
  congr 1
  unfold clV
  split <;> split <;> split <;> split <;> omega
theorem nI_and {a b : Nat} (ha : a < 2147483648) (hb : b < 2147483648) : nI a &&& nI b = nI (a &&& b) := by
  have := Nat.and_le_left (n := a) (m := b)
  apply bit_ext
  intro i _
  rw [bit_and, bit_nI ha, bit_nI hb, bit_nI (by omega), Nat.testBit_and]
theorem nI_xs {m h : Nat} (hm : m < 2147483648) : nI m &&& (nI (m &&& h) ^^^ (-1)) = nI (m ^^^ (m &&& h)) := by
  have a := Nat.and_le_left (n := m) (m := h)
  have b := sub_le (xs_sub (m := m) (h := h))
  apply bit_ext
  intro i hi
  rw [bit_and, bit_not hi, bit_nI hm, bit_nI (by omega), bit_nI (by omega), Nat.testBit_xor, Nat.testBit_and]
  cases m.testBit i <;> cases h.testBit i <;> rfl
/-- names that have a trait -/
def hN (w : Nat → Int32) (t : Nat) : Nat := (hv w t).toInt.toNat
theorem hN_eq {w : Nat → Int32} (hw : WInv w) (t : Nat) : hv w t = nI (hN w t) ∧ hN w t < 1024 := by
  have c0 := hw.c0
  obtain ⟨m, hm, e⟩ := small_bits (x := hv w t) (n := 10) (fun i hi => by
    rw [bit_hv hw] at hi
    simp at hi
    omega) (by omega)
  have : hN w t = m := by
    unfold hN
    rw [e, nI_toInt (by omega), Int.toNat_natCast]
  rw [this]
  exact ⟨e, hm⟩
theorem xs_0 {m h : Nat} : m ^^^ (m &&& h) = 0 ↔ m &&& h = m := by
  constructor
  · intro q
    apply Nat.eq_of_testBit_eq
    intro i
    have : (m ^^^ (m &&& h)).testBit i = (0 : Nat).testBit i := by rw [q]
    rw [Nat.testBit_xor, Nat.testBit_and, Nat.zero_testBit] at this
    rw [Nat.testBit_and]
    cases e1 : m.testBit i <;> cases e2 : h.testBit i <;> rw [e1, e2] at this <;> first | rfl | cases this
  · intro q
    rw [q]
    exact Nat.xor_self m
theorem c_crumbs {N z : Nat} {σ : pS} {w : Nat → Int32} (hNN : 20000 < N) (hw : WInv w) (ht : TalC σ z w) : ∀ d a m F, a + d = 6 → m < 1024 → a ≤ hom (hN w) m → d < F → lp (fun (rc : Nat × Int32 × Int32 × pS → Option Int32) (b : Nat × Int32 × Int32 × pS) => fX8_crumbsFrom_u N (G1 z) rc b.1 b.2.1 b.2.2.1 b.2.2.2) F (z + 4, nI m, nI a, σ) = some (nI (clV (Vw (hN w) m))) := by
  intro d
  induction d with
  | zero =>
    intro a m F e hm ha hF
    obtain ⟨F', rfl⟩ : ∃ F', F = F' + 1 := ⟨F - 1, by omega⟩
    have p10 := pcN_10 m
    show fX8_crumbsFrom_u N (G1 z) _ (z + 4) (nI m) (nI a) σ = _
    unfold fX8_crumbsFrom_u
    rw [bc_fn, b_some, bc_pc m hm, Vw_eq]
    by_cases q : pcN m < 2
    · rw [if_neg (show ¬ (2 : Int32) ≤ nI (pcN m) from nI_ge (b := 2) q (by omega)), if_pos q]
      rfl
    · rw [if_pos (show (2 : Int32) ≤ nI (pcN m) from nI_le (a := 2) (by omega) (by omega)), if_neg (show ¬ nI a < 6 from nI_nlt (b := 6) (by omega) (by omega)), if_neg q, Vs_hom (hom_all (by omega)) 6 (by omega)]
      rfl
  | succ d ih =>
    intro a m F e hm ha hF
    obtain ⟨F', rfl⟩ : ∃ F', F = F' + 1 := ⟨F - 1, by omega⟩
    have p10 := pcN_10 m
    have ih' : ∀ a' m', a' + d = 6 → m' < 1024 → a' ≤ hom (hN w) m' → lp (fun (rc : Nat × Int32 × Int32 × pS → Option Int32) (b : Nat × Int32 × Int32 × pS) => fX8_crumbsFrom_u N (G1 z) rc b.1 b.2.1 b.2.2.1 b.2.2.2) F' (z + 4, nI m', nI a', σ) = some (nI (clV (Vw (hN w) m'))) := fun a' m' x1 x2 x3 => ih a' m' F' x1 x2 x3 (by omega)
    show fX8_crumbsFrom_u N (G1 z) (lp (fun (rc : Nat × Int32 × Int32 × pS → Option Int32) (b : Nat × Int32 × Int32 × pS) => fX8_crumbsFrom_u N (G1 z) rc b.1 b.2.1 b.2.2.1 b.2.2.2) F') (z + 4) (nI m) (nI a) σ = _
    generalize lp (fun (rc : Nat × Int32 × Int32 × pS → Option Int32) (b : Nat × Int32 × Int32 × pS) => fX8_crumbsFrom_u N (G1 z) rc b.1 b.2.1 b.2.2.1 b.2.2.2) F' = rc at ih' ⊢
    unfold fX8_crumbsFrom_u
    rw [bc_fn, b_some, bc_pc m hm, Vw_eq]
    by_cases q : pcN m < 2
    · rw [if_neg (show ¬ (2 : Int32) ≤ nI (pcN m) from nI_ge (b := 2) q (by omega)), if_pos q]
      rfl
    · rw [if_pos (show (2 : Int32) ≤ nI (pcN m) from nI_le (a := 2) (by omega) (by omega)), if_pos (show nI a < 6 from nI_lt (b := 6) (by omega) (by omega)), if_neg q]
      unfold fX8_crumbsFrom_b27
      simp only [g1r_4_11]
      have vb : ∀ n, n ≤ 6 → Vs (hN w) (Vw (hN w)) m n = 1000000 ∨ Vs (hN w) (Vw (hN w)) m n ≤ 7 := by
        intro n
        induction n with
        | zero => intro _; exact Or.inl rfl
        | succ n ihn =>
          intro hn
          have i1 := ihn (by omega)
          rw [Vs_s]
          by_cases g : m &&& hN w n ≠ 0 ∧ m &&& hN w n ≠ m
          · have n0 := split_iff.mp g
            have x1 := Vw_bd 6 0 (m &&& hN w n) (h := hN w) (by omega) (by omega)
            have x2 := Vw_bd 6 0 (m ^^^ (m &&& hN w n)) (h := hN w) (by omega) (by omega)
            rw [if_pos g]
            omega
          · rw [if_neg g]
            exact i1
      refine lp_for (fun k => (nI (clV (Vs (hN w) (Vw (hN w)) m k)), nI k)) 6 _ (by omega) ?_ ?_
      · intro k hk p
        obtain ⟨e1, e2⟩ := hN_eq hw k
        have al := Nat.and_le_left (n := m) (m := hN w k)
        have bl := sub_le (xs_sub (m := m) (h := hN w k))
        dsimp only
        rw [if_neg (l6 hk), at_fn g1n_7 hk (by omega), b_some, show σ.2.1 (z + 7) k = nI (hN w k) from (bear_eq hw ht hk).trans e1, nI_and (by omega) (by omega), Vs_s, nI_1, nI_1]
        by_cases g0 : m &&& hN w k = 0
        · rw [if_pos (show nI (m &&& hN w k) = 0 from by rw [g0]; rfl), if_neg (fun g => g.1 g0)]
        · rw [if_neg (show ¬ nI (m &&& hN w k) = 0 from nI_ne0 (by omega) (by omega))]
          by_cases g1 : m &&& hN w k = m
          · rw [if_pos (show nI (m &&& hN w k) = nI m from by rw [g1]), if_neg (fun g => g.2 g1)]
          · have g : m &&& hN w k ≠ 0 ∧ m &&& hN w k ≠ m := ⟨g0, g1⟩
            have n0 := split_iff.mp g
            rw [if_neg (show ¬ nI (m &&& hN w k) = nI m from fun g => g1 ((nI_eq (by omega) (by omega)).mp g)), if_pos g, nI_xs (by omega), ih' (a + 1) (m &&& hN w k) (by omega) (by omega) (by have := hom_child hk an_sub n0 hom_and; omega), b_some, ih' (a + 1) (m ^^^ (m &&& hN w k)) (by omega) (by omega) (by have := hom_child hk xs_sub n0 hom_xor; omega), b_some, cl_step (vb k (by omega)) (Vw_bd 6 0 _ (by omega) (by omega)) (Vw_bd 6 0 _ (by omega) (by omega))]
      · intro p
        dsimp only
        rw [if_pos l6e]
theorem r_crumbsOf {N y m : Nat} {σ : pS} {w : Nat → Int32} (hNN : 20000 < N) (hw : WInv w) (hv' : σ.2.1 (y + 1) = w) (hm : m < 1024) (h12 : ∀ c, c < m → (∀ i, c.testBit i = true → m.testBit i = true) → σ.2.1 (y + 12) c = nI (Vw (hN w) c)) : fX12_crumbsOf N (G2 y) y (nI m) σ = some (nI (Vw (hN w) m)) := by
  have p10 := pcN_10 m
  unfold fX12_crumbsOf
  rw [bc_fn, b_some, bc_pc m hm, Vw_eq]
  by_cases q : pcN m < 2
  · rw [if_neg (show ¬ (2 : Int32) ≤ nI (pcN m) from nI_ge (b := 2) q (by omega)), if_pos q]
    rfl
  · rw [if_pos (show (2 : Int32) ≤ nI (pcN m) from nI_le (a := 2) (by omega) (by omega)), if_neg q]
    unfold fX12_crumbsOf_b16
    simp only [g2r_0_1, g2r_0_2, g2r_0_3, g2r_0_4, g2r_0_5, g2r_0_8, g2r_0_15, g2r_0_17, g2r_0_25, g2r_0_26, g2r_0_27, g2r_0_28, g2n_1, g2n_2, g2n_3, g2n_4, g2n_5, g2n_6, g2n_7, g2n_8, g2n_9, g2n_10, g2n_11, g2n_12]
    refine lp_for (fun k => (nI (Vs (hN w) (Vw (hN w)) m k), nI k)) 6 _ (by omega) ?_ ?_
    · intro k hk p
      obtain ⟨e1, e2⟩ := hN_eq hw k
      have al := Nat.and_le_left (n := m) (m := hN w k)
      have bl := sub_le (xs_sub (m := m) (h := hN w k))
      have wh : fX12_whoHave N (G2 y) y (nI k) σ = some (nI (hN w k)) := by
        rw [r_whoHave hNN (by rw [hv']; exact hw) (by omega), hv', e1]
      have vl := Vs_le (h := hN w) (V := Vw (hN w)) (m := m) k
      dsimp only
      rw [if_neg (l6 hk), wh, b_some, nI_and (by omega) (by omega), nI_xs (by omega), Vs_s, nI_1]
      by_cases g0 : m &&& hN w k = 0
      · rw [if_pos (show nI (m &&& hN w k) = 0 from by rw [g0]; rfl), if_neg (fun g => g.1 g0)]
      · rw [if_neg (show ¬ nI (m &&& hN w k) = 0 from nI_ne0 (by omega) (by omega))]
        by_cases g1 : m &&& hN w k = m
        · rw [if_pos (show nI (m ^^^ (m &&& hN w k)) = 0 from by rw [xs_0.mpr g1]; rfl), if_neg (fun g => g.2 g1)]
        · have g : m &&& hN w k ≠ 0 ∧ m &&& hN w k ≠ m := ⟨g0, g1⟩
          have x0 : m ^^^ (m &&& hN w k) ≠ 0 := fun e => g1 (xs_0.mp e)
          have v1 := Vw_le (h := hN w) (m := m &&& hN w k)
          have v2 := Vw_le (h := hN w) (m := m ^^^ (m &&& hN w k))
          rw [if_neg (show ¬ nI (m ^^^ (m &&& hN w k)) = 0 from nI_ne0 (by omega) (by omega)), if_pos g, ck_nI (by omega) (by omega), ck_nI (by omega) (by omega), gA_nI (by omega), gA_nI (by omega), h12 _ (and_lt g1) an_sub, h12 _ (xs_lt g0) xs_sub, jmax_nI (by omega) (by omega), one_nI, jmin_nI (by omega) (by omega)]
    · intro p
      dsimp only
      rw [if_pos l6e]
theorem and_sub {k A : Nat} (hk : k < 2147483648) (hA : A < 2147483648) : nI k &&& (nI A ^^^ (-1)) = 0 ↔ ∀ i, k.testBit i = true → A.testBit i = true := by
  constructor
  · intro q i hi
    have e : bit (nI k &&& (nI A ^^^ (-1))) i = bit 0 i := by rw [q]
    rcases Nat.lt_or_ge i 32 with g | g
    · rw [bit_and, bit_not g, bit_nI hk, bit_nI hA, bit_0, hi] at e
      cases e1 : A.testBit i
      · rw [e1] at e
        cases e
      · rfl
    · have := bit_nI (i := i) hk
      rw [bit_hi g, hi] at this
      cases this
  · intro q
    apply bit_ext
    intro i hi
    rw [bit_and, bit_not hi, bit_nI hk, bit_nI hA, bit_0]
    cases e1 : k.testBit i
    · rfl
    · rw [q i e1]
      rfl
theorem gd_worst {N z y : Nat} (hNN : 20000 < N) : Gd_worst N (G1 z) (G2 y) z y (z + 150) (Sim z y) := by
  intro σ1 σ2 h
  have wi := h.wi
  have c0 := wi.c0
  obtain ⟨A, hA, eA⟩ := small_bits (x := σ2.2.1 (y + 1) 12) (n := 10) (fun i hi => by
    have := wi.pos i hi
    omega) (by omega)
  have hA' : A < 1024 := hA
  have vb := Vw_bd (h := hN (σ2.2.1 (y + 1))) 6 0 A (by omega) (by omega)
  have C : fX11_worst N (G1 z) z σ1 = some (if Vw (hN (σ2.2.1 (y + 1))) A = 1000000 then -1 else nI (Vw (hN (σ2.2.1 (y + 1))) A)) := by
    unfold fX11_worst fX8_crumbsFor fX8_crumbsFrom fX8_crumbsFrom_r
    simp only [g1r_0_0, g1r_0_1, g1r_0_2, g1r_0_3, g1r_0_4, g1r_0_5, g1r_0_6, g1r_0_7, g1r_0_8, g1r_1_5, g1n_2, g1r_3_0, g1r_3_1, g1r_3_2, g1r_4_9, g1r_4_10, g1r_4_11, g1r_4_12, g1r_4_13, g1r_4_14, g1r_4_15, g1r_4_16, g1r_4_17, g1n_5, g1n_6, g1n_7, g1n_8, g1n_9, g1n_10, g1n_11, g1n_12, g1n_13, g1r_14_2, g1r_14_3, g1r_14_4, g1r_14_5, g1r_14_6, g1n_15, g1n_16, g1n_17, g1n_18, g1n_19, g1r_20_7, g1r_20_8, g1n_21, g1r_22_2, g1n_23, g1r_24_0, g1r_24_1, g1r_24_2, g1r_25_9, g1r_25_10, g1r_25_11, g1r_25_12, g1r_25_13, g1r_25_14, g1r_25_15, g1r_25_16, g1r_25_17, g1n_26, g1n_27, g1n_28, g1n_29, g1n_30, g1n_31, g1n_32, g1n_33, g1n_34, g1r_35_2, g1r_35_3, g1r_35_4, g1r_35_5, g1r_35_6, g1n_36, g1n_37, g1n_38, g1n_39, g1n_40, g1r_41_7, g1r_41_8, g1n_42, g1r_43_2, g1n_44, g1r_45_0, g1r_45_1, g1r_45_2, g1r_46_9, g1r_46_10, g1r_46_11, g1r_46_12, g1r_46_13, g1r_46_14, g1r_46_15, g1r_46_16, g1r_46_17, g1n_47, g1n_48, g1n_49, g1n_50, g1n_51, g1n_52, g1n_53, g1n_54, g1n_55, g1r_56_2, g1r_56_3, g1r_56_4, g1r_56_5, g1r_56_6, g1n_57, g1n_58, g1n_59, g1n_60, g1n_61, g1r_62_7, g1r_62_8, g1n_63, g1r_64_2, g1n_65, g1r_66_2, g1n_67, g1r_68_7, g1r_68_8, g1n_69, g1r_70_2, g1n_71, g1r_72_7, g1r_72_8, g1n_73, g1r_74_2, g1n_75, g1r_76_7, g1r_76_8, g1n_77, g1r_78_2, g1n_79, g1r_80_7, g1r_80_8, g1n_81, g1r_82_2, g1n_83, g1r_84_7, g1r_84_8, g1n_85, g1r_86_2, g1n_87, g1r_88_7, g1r_88_8, g1n_89, g1r_90_2, g1n_91, g1r_92_7, g1r_92_8, g1n_93, g1r_94_2, g1n_95, g1r_96_7, g1r_96_8, g1n_97, g1r_98_2, g1n_99, g1r_100_7, g1r_100_8, g1n_101, g1r_102_2, g1n_103, g1r_104_7, g1r_104_8, g1n_105, g1r_106_2, g1n_107, g1r_108_7, g1r_108_8, g1n_109, g1r_110_2, g1n_111, g1r_112_7, g1r_112_8, g1n_113, g1r_114_2, g1n_115, g1r_116_7, g1r_116_8, g1n_117, g1r_118_2, g1n_119, g1r_120_0, g1r_120_1, g1r_120_2, g1r_121_7, g1r_121_8, g1n_122, g1r_123_2, g1n_124, g1n_125, g1n_126, g1r_127_0, g1r_127_1, g1r_127_2, g1r_127_3, g1r_128_7, g1r_128_8, g1n_129, g1r_130_2, g1n_131, g1n_132, g1n_133, g1n_134, g1r_135_7, g1n_136, g1n_150]
    rw [h.pos, eA]
    show (((lp (fun (rc : Nat × Int32 × Int32 × pS → Option Int32) (b : Nat × Int32 × Int32 × pS) => fX8_crumbsFrom_u N (G1 z) rc b.1 b.2.1 b.2.2.1 b.2.2.2) 15 (z + 4, nI A, nI 0, σ1)).bind _).bind _) = _
    rw [c_crumbs hNN wi h.tale 6 0 A 15 (by omega) hA' (by omega) (by omega), b_some, b_some]
    unfold fX11_orNone clV
    rcases vb with v | v
    · rw [if_pos v, if_pos v]
      rfl
    · have v' : ¬ Vw (hN (σ2.2.1 (y + 1))) A = 1000000 := by omega
      rw [if_neg v', if_neg v', if_pos (show nI (Vw (hN (σ2.2.1 (y + 1))) A) < 1000 from nI_lt (b := 1000) (by omega) (by omega))]
      rfl
  have R : ∃ r, (∃ υ, (∀ a k, υ.1 a k = (putF σ2 y 0 0).1 a k) ∧ (∀ a, a ≠ y + 12 → υ.2.1 a = σ2.2.1 a) ∧ r = (if Vw (hN (σ2.2.1 (y + 1))) A = 1000000 then -1 else nI (Vw (hN (σ2.2.1 (y + 1))) A), υ)) ∧ fX12_worst_b15 N (G2 y) y (nI A) (0, putF σ2 y 0 0) = some r := by
    unfold fX12_worst_b15
    simp only [g2r_0_1, g2r_0_2, g2r_0_3, g2r_0_4, g2r_0_5, g2r_0_8, g2r_0_15, g2r_0_17, g2r_0_25, g2r_0_26, g2r_0_27, g2r_0_28, g2n_1, g2n_2, g2n_3, g2n_4, g2n_5, g2n_6, g2n_7, g2n_8, g2n_9, g2n_10, g2n_11, g2n_12]
    refine lp_forR (fun k b => ∃ τ, b = (nI k, τ) ∧ (∀ a k, τ.1 a k = (putF σ2 y 0 0).1 a k) ∧ (∀ a, a ≠ y + 12 → τ.2.1 a = σ2.2.1 a) ∧ ∀ c, c < k → (∀ i, c.testBit i = true → A.testBit i = true) → τ.2.1 (y + 12) c = nI (Vw (hN (σ2.2.1 (y + 1))) c)) _ (A + 1) (by omega) ?_ ?_ ⟨_, rfl, fun _ _ => rfl, fun _ _ => rfl, fun c hc => by omega⟩
    · rintro k hk _ ⟨τ, rfl, h1, h2, h3⟩
      left
      by_cases s : nI k &&& (nI A ^^^ (-1)) = 0
      · have s' := (and_sub (by omega) (by omega)).mp s
        have rc := r_crumbsOf (N := N) (y := y) (m := k) (σ := τ) (w := σ2.2.1 (y + 1)) hNN wi (h2 _ (by omega)) (by omega) (fun c hc hs => h3 c hc (fun i hi => s' i (hs i hi)))
        refine ⟨(nI (k + 1), sA τ (y + 12) (nI k) (nI (Vw (hN (σ2.2.1 (y + 1))) k))), ⟨_, rfl, h1, fun a ha => (sA_o ha).trans (h2 a ha), fun c hc hs => ?_⟩, fun p => ?_⟩
        · rw [sA_w (n := k) (nI_clamp (by omega))]
          by_cases e : c = k
          · rw [e, va_up_self]
          · rw [up_ne e]
            exact h3 c (by omega) hs
        · dsimp only
          rw [if_neg (nI_nlt (by omega) (by omega)), if_pos s, rc, b_some, ck_nI (by omega) (by omega), nI_1]
      · refine ⟨(nI (k + 1), τ), ⟨_, rfl, h1, h2, fun c hc hs => ?_⟩, fun p => ?_⟩
        · by_cases e : c = k
          · rw [e] at hs
            exact absurd ((and_sub (by omega) (by omega)).mpr hs) s
          · exact h3 c (by omega) hs
        · dsimp only
          rw [if_neg (nI_nlt (by omega) (by omega)), if_neg s, nI_1]
    · rintro _ ⟨τ, rfl, h1, h2, h3⟩
      refine ⟨_, ⟨τ, h1, h2, rfl⟩, fun p => ?_⟩
      dsimp only
      rw [if_pos (nI_lt (by omega) (by omega)), ck_nI (by omega) (by omega), gA_nI (by omega), h3 A (by omega) (fun i hi => hi), ck_nI (by omega) (by omega)]
      rcases vb with v | v
      · rw [if_pos v, v, if_neg (show ¬ nI 1000000 < 1000000 by decide)]
      · have v' : ¬ Vw (hN (σ2.2.1 (y + 1))) A = 1000000 := by omega
        rw [if_neg v', if_pos (show nI (Vw (hN (σ2.2.1 (y + 1))) A) < 1000000 from nI_lt (b := 1000000) (by omega) (by omega))]
  obtain ⟨_, ⟨υ, u1, u2, rfl⟩, u3⟩ := R
  refine ⟨_, υ, C, ?_, h.keep EE.r (E2.t0.t ⟨fun k _ => u1 y k, fun j hj => u2 _ (by omega)⟩)⟩
  unfold fX12_worst
  simp only [g2r_0_1, g2r_0_2, g2r_0_3, g2r_0_4, g2r_0_5, g2r_0_8, g2r_0_15, g2r_0_17, g2r_0_25, g2r_0_26, g2r_0_27, g2r_0_28, g2n_1, g2n_2, g2n_3, g2n_4, g2n_5, g2n_6, g2n_7, g2n_8, g2n_9, g2n_10, g2n_11, g2n_12]
  show fX12_worst_b15 N (G2 y) y (σ2.2.1 (y + 1) 12) (0, putF σ2 y 0 0) = _
  rw [eA, u3]
