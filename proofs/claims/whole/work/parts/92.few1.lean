/-! fewest: sets of 64 bits, and what she holds possible behind words -/
def lb (x : Int64) (t : Nat) : Bool := x.toBitVec.getLsbD t
theorem lb_ext {x y : Int64} (h : ∀ i, i < 64 → lb x i = lb y i) : x = y := by
  apply Int64.toBitVec_inj.mp
  apply BitVec.eq_of_getLsbD_eq
  intro i hi
  exact h i hi
theorem lb_hi {x : Int64} {i : Nat} (h : 64 ≤ i) : lb x i = false := BitVec.getLsbD_of_ge _ _ h
theorem lb_0 {i : Nat} : lb 0 i = false := by
  simp [lb]
theorem lb_and {x y : Int64} {i : Nat} : lb (x &&& y) i = (lb x i && lb y i) := by
  simp [lb, Int64.toBitVec_and]
theorem lb_or {x y : Int64} {i : Nat} : lb (x ||| y) i = (lb x i || lb y i) := by
  simp [lb, Int64.toBitVec_or]
theorem lb_1 : ∀ i, i < 64 → lb 1 i = decide (i = 0) := by decide +kernel
theorem lb_one : ∀ t, t < 64 → ∀ i, i < 64 → lb (jlshl 1 (nI t)) i = decide (i = t) := by decide +kernel
theorem sm63 : ∀ t, t < 64 → ((nI t).toInt64.toUInt64 &&& Int64.toUInt64 63).toNat = t := by decide +kernel
theorem lb_shr {x : Int64} {t i : Nat} (ht : t < 64) : lb (jlushr x (nI t)) i = lb x (t + i) := by
  have c : (jlushr x (nI t)).toBitVec = x.toBitVec >>> t := by
    have : (jlushr x (nI t)).toBitVec = x.toBitVec >>> (((nI t).toInt64.toUInt64 &&& Int64.toUInt64 63).toNat % 64) := by
      apply BitVec.eq_of_toNat_eq
      unfold jlushr
      rw [BitVec.toNat_ushiftRight]
      show (x.toUInt64 >>> ((nI t).toInt64.toUInt64 &&& Int64.toUInt64 63)).toNat = _
      rw [UInt64.toNat_shiftRight]
      rfl
    rw [this, sm63 t ht, Nat.mod_eq_of_lt ht]
  unfold lb
  rw [c, BitVec.getLsbD_ushiftRight]
theorem cmp_0 {x y : Int64} : lg_cmp x y = 0 ↔ x = y := by
  unfold lg_cmp
  constructor
  · intro h
    split at h
    · exact absurd h (by decide)
    · split at h
      · assumption
      · exact absurd h (by decide)
  · intro h
    subst h
    rw [if_neg (by simp), if_pos rfl]
theorem has_lb1 {x : Int64} {t : Nat} (ht : t < 64) : lg_cmp (jlushr x (nI t) &&& 1) 1 = 0 ↔ lb x t = true := by
  rw [cmp_0]
  constructor
  · intro h
    have e : lb (jlushr x (nI t) &&& 1) 0 = lb 1 0 := by rw [h]
    rw [lb_and, lb_shr ht, lb_1 0 (by omega)] at e
    simpa using e
  · intro h
    apply lb_ext
    intro i hi
    rw [lb_and, lb_shr ht, lb_1 i hi]
    by_cases e : i = 0
    · subst e
      rw [Nat.add_zero, h]
      rfl
    · rw [decide_eq_false e, Bool.and_false]
theorem has_lb0 {x : Int64} {t : Nat} (ht : t < 64) : lg_cmp (jlushr x (nI t) &&& 1) 0 = 0 ↔ lb x t = false := by
  rw [cmp_0]
  constructor
  · intro h
    have e : lb (jlushr x (nI t) &&& 1) 0 = lb 0 0 := by rw [h]
    rw [lb_and, lb_shr ht, lb_1 0 (by omega), lb_0] at e
    simpa using e
  · intro h
    apply lb_ext
    intro i hi
    rw [lb_and, lb_shr ht, lb_1 i hi, lb_0]
    by_cases e : i = 0
    · subst e
      rw [Nat.add_zero, h]
      rfl
    · rw [decide_eq_false e, Bool.and_false]
theorem none_lb {x : Int64} {t : Nat} (ht : t < 64) (h : lg_cmp (jlushr x (nI t)) 0 = 0) : ∀ i, t ≤ i → lb x i = false := by
  rw [cmp_0] at h
  intro i hi
  have e : lb (jlushr x (nI t)) (i - t) = lb 0 (i - t) := by rw [h]
  rw [lb_shr ht, lb_0, show t + (i - t) = i by omega] at e
  exact e
/-- what is possible, if these traits were told -/
def eff (w : Nat → Int32) (t : Nat) : Int32 := nb w (w 12) t 6
def mt (w : Nat → Int32) (i t : Nat) : Bool := bit (w (17 + 2 * i)) t == bit (hisT w) t
theorem bit_nb {w : Nat → Int32} (hw : WInv w) {s : Int32} (hs : ∀ i, bit s i = true → i < cN w 0) (k : Nat) : ∀ n i, bit (nb w s k n) i = true ↔ bit s i = true ∧ ∀ t, t < n → bit (nI k) t = true → mt w i t = true := by
  intro n
  induction n with
  | zero =>
    intro i
    exact ⟨fun h => ⟨h, fun t ht => by omega⟩, fun h => h.1⟩
  | succ n ih =>
    intro i
    have e : nb w s k (n + 1) = if bit (nI k) n = true then nar w (nb w s k n) n else nb w s k n := rfl
    rw [e]
    by_cases b : bit (nI k) n = true
    · rw [if_pos b, bit_nar hw]
      constructor
      · intro h
        simp only [Bool.and_eq_true, decide_eq_true_eq] at h
        obtain ⟨h1, h2, h3⟩ := h
        obtain ⟨g1, g2⟩ := (ih i).mp h2
        refine ⟨g1, fun t ht hb => ?_⟩
        by_cases q : t = n
        · rw [q]
          exact h3
        · exact g2 t (by omega) hb
      · intro h
        simp only [Bool.and_eq_true, decide_eq_true_eq]
        exact ⟨hs i h.1, (ih i).mpr ⟨h.1, fun t ht hb => h.2 t (by omega) hb⟩, h.2 n (by omega) b⟩
    · rw [if_neg b, ih i]
      constructor
      · intro h
        refine ⟨h.1, fun t ht hb => ?_⟩
        by_cases q : t = n
        · rw [q] at hb
          exact absurd hb b
        · exact h.2 t (by omega) hb
      · intro h
        exact ⟨h.1, fun t ht hb => h.2 t (by omega) hb⟩
theorem eff_sub {w : Nat → Int32} (hw : WInv w) (t : Nat) : ∀ i, bit (eff w t) i = true → i < cN w 0 := nb_sub hw hw.pos t 6
theorem eff_or {w : Nat → Int32} (hw : WInv w) {t r : Nat} (ht : t < 64) (hr : r < 6) : eff w (t ||| 2 ^ r) = nar w (eff w t) r := by
  have p6 : 2 ^ r < 64 := by
    have : ∀ r, r < 6 → 2 ^ r < 64 := by decide
    exact this r hr
  have tl : t ||| 2 ^ r < 64 := Nat.or_lt_two_pow (n := 6) ht p6
  apply bit_ext
  intro i _
  have a : bit (eff w (t ||| 2 ^ r)) i = true ↔ bit (nar w (eff w t) r) i = true := by
    rw [bit_nar hw]
    simp only [Bool.and_eq_true, decide_eq_true_eq]
    unfold eff
    rw [bit_nb hw hw.pos, bit_nb hw hw.pos]
    constructor
    · intro h
      refine ⟨hw.pos i h.1, ⟨h.1, fun s hs hb => h.2 s hs ?_⟩, h.2 r hr ?_⟩
      · rw [bit_nI (by omega)] at hb ⊢
        rw [Nat.testBit_or, hb]
        rfl
      · rw [bit_nI (by omega), Nat.testBit_or, Nat.testBit_two_pow_self, Bool.or_true]
    · intro h
      obtain ⟨h1, ⟨h2, h3⟩, h4⟩ := h
      refine ⟨h2, fun s hs hb => ?_⟩
      by_cases q : s = r
      · rw [q]
        exact h4
      · refine h3 s hs ?_
        rw [bit_nI (by omega), Nat.testBit_or, Nat.testBit_two_pow_of_ne (Ne.symm q), Bool.or_false] at hb
        rw [bit_nI (by omega)]
        exact hb
  cases e1 : bit (eff w (t ||| 2 ^ r)) i
  · cases e2 : bit (nar w (eff w t) r) i
    · rfl
    · rw [a.mpr e2] at e1
      cases e1
  · rw [a.mp e1]
/-- doubt behind a word -/
def bwF (w : Nat → Int32) (who : Int32) (S : Int32) (d j : Nat) : Nat := (bwV w (nI d) (w 9) (bc S) who j).toInt.toNat
theorem bwF_eq {w : Nat → Int32} {who S : Int32} {d j : Nat} (hw : WInv w) (hl : HasLaw w) (hj : j < cN w 2) (hd : d < 100) : bwV w (nI d) (w 9) (bc S) who j = nI (bwF w who S d j) ∧ bwF w who S d j < 100 := by
  have b := bwV_bd (d := nI d) (n := w 9) (l := bc S) (who := who) hw hl hj (by rw [nI_toInt (by omega)]; omega)
  refine ⟨nI_cN b.1, ?_⟩
  unfold bwF
  omega
def askS (w : Nat → Int32) (who : Int32) (S : Int32) (d : Nat) : Prop := ∃ j, j < cN w 2 ∧ ¬ nI (bwF w who S d j) < w 8
/-- what may be behind n words -/
def En (w : Nat → Int32) (who : Int32) : Nat → Int32 → Nat → Prop
  | 0, S, d => S = w 12 ∧ nI d = w 7 ∧ d < 100
  | n + 1, S', d' => ∃ S d j, En w who n S d ∧ j < cN w 2 ∧ S' = pbV w S j ∧ d' = bwF w who S d j
theorem En_lt {w : Nat → Int32} {who : Int32} (hw : WInv w) (hl : HasLaw w) : ∀ n S d, En w who n S d → d < 100 := by
  intro n
  induction n with
  | zero => intro S d h; exact h.2.2
  | succ n ih =>
    rintro S' d' ⟨S, d, j, h1, h2, h3, h4⟩
    rw [h4]
    exact (bwF_eq hw hl h2 (ih S d h1)).2
def askE (w : Nat → Int32) (who : Int32) (n : Nat) : Prop := ∃ S d, En w who n S d ∧ askS w who S d
/-- the answer -/
def Few (w : Nat → Int32) (who : Int32) (r : Int32) : Prop := (∃ n, n < 20 ∧ askE w who n ∧ (∀ m, m < n → ¬ askE w who m) ∧ r = nI (n + 1)) ∨ ((∀ m, m < 20 → ¬ askE w who m) ∧ r = -1)
theorem Few.uniq {w : Nat → Int32} {who r s : Int32} (h : Few w who r) (g : Few w who s) : r = s := by
  rcases h with ⟨n, h1, h2, h3, h4⟩ | ⟨h1, h2⟩
  · rcases g with ⟨m, g1, g2, g3, g4⟩ | ⟨g1, g2⟩
    · have e : n = m := by
        rcases Nat.lt_trichotomy n m with q | q | q
        · exact absurd h2 (g3 n q)
        · exact q
        · exact absurd g2 (h3 m q)
      rw [h4, g4, e]
    · exact absurd h2 (g1 n h1)
  · rcases g with ⟨m, g1, g2, g3, g4⟩ | ⟨g1, g2⟩
    · exact absurd g2 (h1 m g1)
    · rw [h2, g2]
/-! the class's rows -/
def iS (z a : Nat) (τ : pS) (d t : Nat) : Prop := lb (τ.2.2 (z + a) d) t = true
/-- what stays: all that matters, the dream's bearer and night -/
def CF (z : Nat) (w : Nat → Int32) (σ1 τ : pS) : Prop := E1 z σ1 τ ∧ τ.1 (z + 128) 2 = bea w ∧ τ.1 (z + 128) 1 = w 9
/-- the sets grow: what is new is next, and next are only such as P says -/
def Grow (z : Nat) (P : Nat → Nat → Prop) (τ υ : pS) : Prop := (∀ d t, iS z 132 τ d t → iS z 132 υ d t) ∧ (∀ d t, iS z 134 τ d t → iS z 134 υ d t) ∧ (∀ d t, iS z 132 υ d t → iS z 132 τ d t ∨ iS z 134 υ d t) ∧ (∀ d t, iS z 134 υ d t → iS z 134 τ d t ∨ P d t) ∧ υ.2.2 (z + 133) = τ.2.2 (z + 133)
theorem Grow.r {z : Nat} {P : Nat → Nat → Prop} {τ υ : pS} (e : υ.2.2 = τ.2.2) : Grow z P τ υ := by
  unfold Grow iS
  rw [e]
  exact ⟨fun _ _ h => h, fun _ _ h => h, fun _ _ h => Or.inl h, fun _ _ h => Or.inl h, rfl⟩
theorem Grow.t {z : Nat} {P : Nat → Nat → Prop} {τ υ ρ : pS} (h : Grow z P τ υ) (g : Grow z P υ ρ) : Grow z P τ ρ := by
  obtain ⟨h1, h2, h3, h4, h5⟩ := h
  obtain ⟨g1, g2, g3, g4, g5⟩ := g
  refine ⟨fun d t a => g1 d t (h1 d t a), fun d t a => g2 d t (h2 d t a), fun d t a => ?_, fun d t a => ?_, g5.trans h5⟩
  · rcases g3 d t a with b | b
    · rcases h3 d t b with c | c
      · exact Or.inl c
      · exact Or.inr (g2 d t c)
    · exact Or.inr b
  · rcases g4 d t a with b | b
    · exact h4 d t b
    · exact Or.inr b
theorem c_reach {N z d t : Nat} {τ : pS} {P : Nat → Nat → Prop} (hd : d < 100) (ht : t < 64) (hP : P d t) : ∃ υ, fX5_reach N (G1 z) (z + 127) (nI d) (nI t) τ = some υ ∧ υ.1 = τ.1 ∧ υ.2.1 = τ.2.1 ∧ Grow z P τ υ ∧ iS z 132 υ d t := by
  unfold fX5_reach
  simp only [g1r_127_1, g1r_127_3, g1n_132, g1n_134]
  rw [if_neg (nI_pos (by omega)), if_neg (show ¬ (100 : Int32) ≤ nI d from lit_lt (m := 100) hd (by decide)), ck_nI hd (by omega)]
  have cl : (nI d).toNatClampNeg = d := nI_clamp (by omega)
  have gj0 : gJ τ (z + 132) (nI d) = τ.2.2 (z + 132) d := by
    show τ.2.2 (z + 132) (nI d).toNatClampNeg = _
    rw [cl]
  by_cases s : lb (τ.2.2 (z + 132) d) t = true
  · rw [if_neg (fun q => by
      rw [gj0] at q
      rw [(has_lb0 ht).mp q] at s
      cases s)]
    exact ⟨τ, rfl, rfl, rfl, Grow.r rfl, s⟩
  · have s0 : lb (τ.2.2 (z + 132) d) t = false := Bool.eq_false_iff.mpr s
    rw [if_pos (by rw [gj0]; exact (has_lb0 ht).mpr s0), ck_nI hd (by omega), ck_nI hd (by omega), ck_nI hd (by omega), ck_nI hd (by omega)]
    refine ⟨_, rfl, rfl, rfl, ?_, ?_⟩
    · have v132 : ∀ d', (sJ (sJ τ (z + 132) (nI d) (gJ τ (z + 132) (nI d) ||| jlshl 1 (nI t))) (z + 134) (nI d) (gJ (sJ τ (z + 132) (nI d) (gJ τ (z + 132) (nI d) ||| jlshl 1 (nI t))) (z + 134) (nI d) ||| jlshl 1 (nI t))).2.2 (z + 132) d' = if d' = d then τ.2.2 (z + 132) d ||| jlshl 1 (nI t) else τ.2.2 (z + 132) d' := by
        intro d'
        rw [sj3, if_neg (by omega), sj3, cl, gj0]
        by_cases e : d' = d
        · rw [if_pos ⟨rfl, e⟩, if_pos e]
        · rw [if_neg (fun q => e q.2), if_neg e]
      have v134 : ∀ d', (sJ (sJ τ (z + 132) (nI d) (gJ τ (z + 132) (nI d) ||| jlshl 1 (nI t))) (z + 134) (nI d) (gJ (sJ τ (z + 132) (nI d) (gJ τ (z + 132) (nI d) ||| jlshl 1 (nI t))) (z + 134) (nI d) ||| jlshl 1 (nI t))).2.2 (z + 134) d' = if d' = d then τ.2.2 (z + 134) d ||| jlshl 1 (nI t) else τ.2.2 (z + 134) d' := by
        intro d'
        rw [sj3, cl]
        by_cases e : d' = d
        · rw [if_pos ⟨rfl, e⟩, if_pos e]
          show (sJ τ (z + 132) (nI d) (gJ τ (z + 132) (nI d) ||| jlshl 1 (nI t))).2.2 (z + 134) (nI d).toNatClampNeg ||| _ = _
          rw [sj3, if_neg (by omega), cl]
        · rw [if_neg (fun q => e q.2), if_neg e, sj3, if_neg (by omega)]
      refine ⟨fun d' t' a => ?_, fun d' t' a => ?_, fun d' t' a => ?_, fun d' t' a => ?_, ?_⟩
      · unfold iS at a ⊢
        rw [v132]
        by_cases e : d' = d
        · rw [if_pos e, lb_or, ← e, a]
          rfl
        · rw [if_neg e]
          exact a
      · unfold iS at a ⊢
        rw [v134]
        by_cases e : d' = d
        · rw [if_pos e, lb_or, ← e, a]
          rfl
        · rw [if_neg e]
          exact a
      · unfold iS at a ⊢
        rw [v132] at a
        rw [v134]
        by_cases e : d' = d
        · rw [if_pos e] at a ⊢
          rw [lb_or] at a ⊢
          rw [e]
          rcases Bool.or_eq_true_iff.mp a with b | b
          · exact Or.inl b
          · right
            rw [b, Bool.or_true]
        · rw [if_neg e] at a
          exact Or.inl a
      · unfold iS at a ⊢
        rw [v134] at a
        by_cases e : d' = d
        · rw [if_pos e, lb_or] at a
          rcases Bool.or_eq_true_iff.mp a with b | b
          · left
            rw [e]
            exact b
          · right
            rcases Nat.lt_or_ge t' 64 with q | q
            · rw [lb_one t ht t' q] at b
              rw [e, of_decide_eq_true b]
              exact hP
            · rw [lb_hi q] at b
              cases b
        · rw [if_neg e] at a
          exact Or.inl a
      · funext d'
        rw [sj3, if_neg (by omega), sj3, if_neg (by omega)]
    · unfold iS
      rw [sj3, if_neg (by omega), sj3, cl, if_pos ⟨rfl, rfl⟩, gj0, lb_or, lb_one t ht t ht]
      simp
theorem c_told {N z t j : Nat} {τ : pS} {w : Nat → Int32} (hw : WInv w) (ht : TalC τ z w) (h2 : τ.1 (z + 128) 2 = bea w) (h3 : τ.1 (z + 128) 3 = eff w t) (hj : j < cN w 2) (h64 : t < 64) : ∃ t', t' < 64 ∧ eff w t' = pbV w (eff w t) j ∧ fX5_toldWith N (G1 z) (z + 127) (z + 3) (nI t) (nI j) τ = some (nI t') := by
  have c2 := hw.c2
  have wo := (hw.wo j hj).2
  unfold fX5_toldWith fX5_toldWith_b51
  simp only [g1r_127_0, g1r_3_0, g1r_4_13]
  rw [at_fn g1n_9 (by omega) (by omega), b_some, show τ.2.1 (z + 9) j = w (56 + 2 * j) from (ht.2.2.2.1 j hj).2, h2, h3, c_narW hw ht hj (eff_sub hw t), b_some, if_pos trivial]
  by_cases q : pbV w (eff w t) j = eff w t
  · rw [if_pos q]
    exact ⟨t, h64, q.symm, rfl⟩
  · rw [if_neg q, if_neg (show ¬ (1 : Int32) = 0 by decide)]
    by_cases s : w (56 + 2 * j) < 0
    · exact absurd (if_pos s) q
    · have s0 : 0 ≤ (w (56 + 2 * j)).toInt := by
        rw [i_lt, show (0 : Int32).toInt = 0 from rfl] at s
        omega
      obtain ⟨r, hr, er⟩ : ∃ r, r < 6 ∧ w (56 + 2 * j) = nI r := ⟨(w (56 + 2 * j)).toInt.toNat, by omega, nI_cN s0⟩
      have p6 : 2 ^ r < 64 := by
        have : ∀ r, r < 6 → 2 ^ r < 64 := by decide
        exact this r hr
      have tl : t ||| 2 ^ r < 64 := Nat.or_lt_two_pow (n := 6) h64 p6
      refine ⟨t ||| 2 ^ r, tl, ?_, ?_⟩
      · rw [eff_or hw h64 hr]
        unfold pbV
        rw [if_neg s, er, nI_toInt (by omega), Int.toNat_natCast]
      · rw [if_neg s, er]
        congr 1
        apply bit_ext
        intro i hi
        rw [bit_or, bit_shl1 (by omega), bit_nI (by omega), bit_nI (by omega), Nat.testBit_or, Nat.testBit_two_pow]
        congr 1
        exact decide_eq_decide.mpr (by omega)
/-- all that a word makes of it is seen -/
def Exq (z : Nat) (w : Nat → Int32) (who : Int32) (τ : pS) (S : Int32) (d n : Nat) : Prop := ∀ j, j < n → ∃ t', t' < 64 ∧ eff w t' = pbV w S j ∧ iS z 132 τ (bwF w who S d j) t'
theorem Exq.g {z : Nat} {w : Nat → Int32} {who S : Int32} {τ υ : pS} {d n : Nat} {P : Nat → Nat → Prop} (h : Exq z w who τ S d n) (g : Grow z P τ υ) : Exq z w who υ S d n := fun j hj => by
  obtain ⟨t', h1, h2, h3⟩ := h j hj
  exact ⟨t', h1, h2, g.1 _ _ h3⟩
theorem c_asks {N z y d t n : Nat} {σ1 σ2 τ : pS} {who : Int32} (hN : 20000 < N) (h : Sim z y σ1 σ2) (hc : CF z (σ2.2.1 (y + 1)) σ1 τ) (hd : d < 100) (ht : t < 64) (he : En (σ2.2.1 (y + 1)) who n (eff (σ2.2.1 (y + 1)) t) d) : ∃ υ r, fX5_asksFrom N (G1 z) (z + 127) (z + 3) who (nI d) (nI t) τ = some (r, υ) ∧ CF z (σ2.2.1 (y + 1)) σ1 υ ∧ ((r = 1 ∧ askS (σ2.2.1 (y + 1)) who (eff (σ2.2.1 (y + 1)) t) d) ∨ (r = 0 ∧ ¬ askS (σ2.2.1 (y + 1)) who (eff (σ2.2.1 (y + 1)) t) d ∧ Grow z (fun d' t' => En (σ2.2.1 (y + 1)) who (n + 1) (eff (σ2.2.1 (y + 1)) t') d') τ υ ∧ Exq z (σ2.2.1 (y + 1)) who υ (eff (σ2.2.1 (y + 1)) t) d (cN (σ2.2.1 (y + 1)) 2))) := by
  have wi := h.wi
  have c2 := wi.c2
  have hs0 := h.keep hc.1 E2.r
  unfold fX5_asksFrom
  simp only [g1r_0_0, g1r_0_1, g1r_0_2, g1r_0_3, g1r_0_4, g1r_0_5, g1r_0_6, g1r_0_7, g1r_0_8, g1r_1_5, g1n_2, g1r_3_0, g1r_3_1, g1r_3_2, g1r_4_9, g1r_4_10, g1r_4_11, g1r_4_12, g1r_4_13, g1r_4_14, g1r_4_15, g1r_4_16, g1r_4_17, g1n_5, g1n_6, g1n_7, g1n_8, g1n_9, g1n_10, g1n_11, g1n_12, g1n_13, g1r_14_2, g1r_14_3, g1r_14_4, g1r_14_5, g1r_14_6, g1n_15, g1n_16, g1n_17, g1n_18, g1n_19, g1r_20_7, g1r_20_8, g1n_21, g1r_22_2, g1n_23, g1r_24_0, g1r_24_1, g1r_24_2, g1r_25_9, g1r_25_10, g1r_25_11, g1r_25_12, g1r_25_13, g1r_25_14, g1r_25_15, g1r_25_16, g1r_25_17, g1n_26, g1n_27, g1n_28, g1n_29, g1n_30, g1n_31, g1n_32, g1n_33, g1n_34, g1r_35_2, g1r_35_3, g1r_35_4, g1r_35_5, g1r_35_6, g1n_36, g1n_37, g1n_38, g1n_39, g1n_40, g1r_41_7, g1r_41_8, g1n_42, g1r_43_2, g1n_44, g1r_45_0, g1r_45_1, g1r_45_2, g1r_46_9, g1r_46_10, g1r_46_11, g1r_46_12, g1r_46_13, g1r_46_14, g1r_46_15, g1r_46_16, g1r_46_17, g1n_47, g1n_48, g1n_49, g1n_50, g1n_51, g1n_52, g1n_53, g1n_54, g1n_55, g1r_56_2, g1r_56_3, g1r_56_4, g1r_56_5, g1r_56_6, g1n_57, g1n_58, g1n_59, g1n_60, g1n_61, g1r_62_7, g1r_62_8, g1n_63, g1r_64_2, g1n_65, g1r_66_2, g1n_67, g1r_68_7, g1r_68_8, g1n_69, g1r_70_2, g1n_71, g1r_72_7, g1r_72_8, g1n_73, g1r_74_2, g1n_75, g1r_76_7, g1r_76_8, g1n_77, g1r_78_2, g1n_79, g1r_80_7, g1r_80_8, g1n_81, g1r_82_2, g1n_83, g1r_84_7, g1r_84_8, g1n_85, g1r_86_2, g1n_87, g1r_88_7, g1r_88_8, g1n_89, g1r_90_2, g1n_91, g1r_92_7, g1r_92_8, g1n_93, g1r_94_2, g1n_95, g1r_96_7, g1r_96_8, g1n_97, g1r_98_2, g1n_99, g1r_100_7, g1r_100_8, g1n_101, g1r_102_2, g1n_103, g1r_104_7, g1r_104_8, g1n_105, g1r_106_2, g1n_107, g1r_108_7, g1r_108_8, g1n_109, g1r_110_2, g1n_111, g1r_112_7, g1r_112_8, g1n_113, g1r_114_2, g1n_115, g1r_116_7, g1r_116_8, g1n_117, g1r_118_2, g1n_119, g1r_120_0, g1r_120_1, g1r_120_2, g1r_121_7, g1r_121_8, g1n_122, g1r_123_2, g1n_124, g1n_125, g1n_126, g1r_127_0, g1r_127_1, g1r_127_2, g1r_127_3, g1r_128_7, g1r_128_8, g1n_129, g1r_130_2, g1n_131, g1n_132, g1n_133, g1n_134, g1r_135_7, g1n_136, g1n_150]
  have hsa := h.keep (E1.pd (o := 128) (k := 0) (v := nI d) hc.1 (by omega)) E2.r
  rw [pf_o (show z + 20 ≠ z + 128 by omega), hs0.pos, pf0n (by decide), hc.2.1, c_narrowedByAll hN wi hsa.tale wi.pos, b_some]
  have c0 : CF z (σ2.2.1 (y + 1)) σ1 (putF (putF τ (z + 128) 0 (nI d)) (z + 128) 3 (eff (σ2.2.1 (y + 1)) t)) := ⟨E1.pd (E1.pd hc.1 (by omega)) (by omega), by rw [pf0n (by decide), pf0n (by decide)]; exact hc.2.1, by rw [pf0n (by decide), pf0n (by decide)]; exact hc.2.2⟩
  suffices hh : ∃ q : Int32 × pS, (CF z (σ2.2.1 (y + 1)) σ1 q.2 ∧ ((q.1 = 1 ∧ askS (σ2.2.1 (y + 1)) who (eff (σ2.2.1 (y + 1)) t) d) ∨ (q.1 = 0 ∧ ¬ askS (σ2.2.1 (y + 1)) who (eff (σ2.2.1 (y + 1)) t) d ∧ Grow z (fun d' t' => En (σ2.2.1 (y + 1)) who (n + 1) (eff (σ2.2.1 (y + 1)) t') d') τ q.2 ∧ Exq z (σ2.2.1 (y + 1)) who q.2 (eff (σ2.2.1 (y + 1)) t) d (cN (σ2.2.1 (y + 1)) 2)))) ∧ fX5_asksFrom_b41 N (G1 z) (z + 127) (z + 3) who (nI d) (nI t) (0, putF (putF τ (z + 128) 0 (nI d)) (z + 128) 3 (eff (σ2.2.1 (y + 1)) t)) = some q by
    obtain ⟨⟨q1, q2⟩, ⟨a, b⟩, c⟩ := hh
    exact ⟨q2, q1, c, a, b⟩
  unfold fX5_asksFrom_b41
  simp only [g1r_127_0, g1r_3_0]
  refine lp_forR (fun j b => ∃ τ', b = (nI j, τ') ∧ CF z (σ2.2.1 (y + 1)) σ1 τ' ∧ (τ'.1 (z + 128) 0 = nI d ∧ τ'.1 (z + 128) 3 = eff (σ2.2.1 (y + 1)) t) ∧ Grow z (fun d' t' => En (σ2.2.1 (y + 1)) who (n + 1) (eff (σ2.2.1 (y + 1)) t') d') τ τ' ∧ Exq z (σ2.2.1 (y + 1)) who τ' (eff (σ2.2.1 (y + 1)) t) d j ∧ ∀ i, i < j → nI (bwF (σ2.2.1 (y + 1)) who (eff (σ2.2.1 (y + 1)) t) d i) < σ2.2.1 (y + 1) 8) _ (cN (σ2.2.1 (y + 1)) 2) (by omega) ?_ ?_ ⟨_, rfl, c0, ⟨by rw [pf0n (by decide), pf0], pf0⟩, Grow.r rfl, fun j hj => by omega, fun i hi => by omega⟩
  · rintro j hj _ ⟨τ', rfl, h1, ⟨f0, f3⟩, h4, h5, h6⟩
    have hs := h.keep h1.1 E2.r
    have et : τ'.1 (z + 4) 2 = σ2.2.1 (y + 1) 2 := hs.tale.1.2.2.1
    obtain ⟨α, a1, a2⟩ := c_stingOf (N := N) (z := z) (m := z + 128) (σ := τ') (who := who) hN wi hs.tale hs.law h1.2.1 hj
    rw [f0, h1.2.2, f3] at a2
    obtain ⟨w1, w2⟩ := bwF_eq (who := who) (S := eff (σ2.2.1 (y + 1)) t) wi h.hl hj hd
    have ca : CF z (σ2.2.1 (y + 1)) σ1 α := ⟨EE.t h1.1 (a1.e rfl rfl), by rw [a1.f (by omega)]; exact h1.2.1, by rw [a1.f (by omega)]; exact h1.2.2⟩
    have hsα := h.keep ca.1 E2.r
    have e8 : α.1 (z + 4) 6 = σ2.2.1 (y + 1) 8 := hsα.tale.1.2.2.2.2.2.2.1
    have ej : jmin 99 (nI d + stV (σ2.2.1 (y + 1)) (nI d) (σ2.2.1 (y + 1) 9) (bc (eff (σ2.2.1 (y + 1)) t)) who j) = nI (bwF (σ2.2.1 (y + 1)) who (eff (σ2.2.1 (y + 1)) t) d j) := w1
    by_cases u : nI (bwF (σ2.2.1 (y + 1)) who (eff (σ2.2.1 (y + 1)) t) d j) < σ2.2.1 (y + 1) 8
    · left
      obtain ⟨t', x1, x2, x3⟩ := c_told (N := N) (z := z) (t := t) (j := j) (τ := α) wi hsα.tale ca.2.1 (by rw [a1.f (by omega)]; exact f3) hj ht
      obtain ⟨β, y1, y2, y3, y4, y5⟩ := c_reach (N := N) (z := z) (d := bwF (σ2.2.1 (y + 1)) who (eff (σ2.2.1 (y + 1)) t) d j) (t := t') (τ := α) (P := fun d' t' => En (σ2.2.1 (y + 1)) who (n + 1) (eff (σ2.2.1 (y + 1)) t') d') w2 x1 ⟨_, _, j, he, hj, x2, rfl⟩
      have gα : Grow z (fun d' t' => En (σ2.2.1 (y + 1)) who (n + 1) (eff (σ2.2.1 (y + 1)) t') d') τ' α := Grow.r a1.2.2
      refine ⟨(nI (j + 1), β), ⟨β, rfl, ⟨⟨fun o k e => by rw [y2]; exact ca.1.1 o k e, fun o e => by rw [y3]; exact ca.1.2 o e⟩, by rw [y2]; exact ca.2.1, by rw [y2]; exact ca.2.2⟩, ⟨by rw [y2, a1.f (by omega)]; exact f0, by rw [y2, a1.f (by omega)]; exact f3⟩, (h4.t gα).t y4, fun i hi => ?_, fun i hi => ?_⟩, fun p => ?_⟩
      · by_cases e : i = j
        · subst e
          exact ⟨t', x1, x2, y5⟩
        · exact ((h5.g gα).g y4) i (by omega)
      · by_cases e : i = j
        · subst e
          exact u
        · exact h6 i (by omega)
      · dsimp only
        rw [et, if_neg (cnt_lt wi.2.2.1.1 hj), a2, b_some]
        dsimp only
        rw [ej, e8, if_pos u, x3, b_some, y1, b_some, nI_1]
    · right
      refine ⟨(1, α), ⟨ca, Or.inl ⟨rfl, j, hj, u⟩⟩, fun p => ?_⟩
      dsimp only
      rw [et, if_neg (cnt_lt wi.2.2.1.1 hj), a2, b_some]
      dsimp only
      rw [ej, e8, if_neg u]
  · rintro _ ⟨τ', rfl, h1, ⟨f0, f3⟩, h4, h5, h6⟩
    have hs := h.keep h1.1 E2.r
    have et : τ'.1 (z + 4) 2 = σ2.2.1 (y + 1) 2 := hs.tale.1.2.2.1
    refine ⟨(0, τ'), ⟨h1, Or.inr ⟨rfl, ?_, h4, h5⟩⟩, fun p => ?_⟩
    · rintro ⟨j, hj, u⟩
      exact u (h6 j hj)
    · dsimp only
      rw [et, if_pos (cnt_eN wi.2.2.1.1)]
