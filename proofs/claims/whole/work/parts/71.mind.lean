/-! minds and their cells -/
def MA (z m : Nat) : Prop := pR (G1 z) m 7 = m + 1 ∧ pR (G1 z) m 8 = m + 2 ∧ pR (G1 z) (m + 2) 2 = m + 3 ∧ pN (G1 z) (m + 1) = 6 ∧ pN (G1 z) (m + 3) = 60
theorem ma_20 {z : Nat} : MA z (z + 20) := ⟨g1r_20_7, g1r_20_8, g1r_22_2, g1n_21, g1n_23⟩
theorem ma_62 {z : Nat} : MA z (z + 62) := ⟨g1r_62_7, g1r_62_8, g1r_64_2, g1n_63, g1n_65⟩
theorem ma_116 {z : Nat} : MA z (z + 116) := ⟨g1r_116_7, g1r_116_8, g1r_118_2, g1n_117, g1n_119⟩
theorem ma_121 {z : Nat} : MA z (z + 121) := ⟨g1r_121_7, g1r_121_8, g1r_123_2, g1n_122, g1n_124⟩
theorem ma_128 {z : Nat} : MA z (z + 128) := ⟨g1r_128_7, g1r_128_8, g1r_130_2, g1n_129, g1n_131⟩
theorem ma_past {z r : Nat} (h : r < 12) : MA z (z + (68 + 4 * r)) := by
  match r, h with
  | 0, _ => exact ⟨g1r_68_7, g1r_68_8, g1r_70_2, g1n_69, g1n_71⟩
  | 1, _ => exact ⟨g1r_72_7, g1r_72_8, g1r_74_2, g1n_73, g1n_75⟩
  | 2, _ => exact ⟨g1r_76_7, g1r_76_8, g1r_78_2, g1n_77, g1n_79⟩
  | 3, _ => exact ⟨g1r_80_7, g1r_80_8, g1r_82_2, g1n_81, g1n_83⟩
  | 4, _ => exact ⟨g1r_84_7, g1r_84_8, g1r_86_2, g1n_85, g1n_87⟩
  | 5, _ => exact ⟨g1r_88_7, g1r_88_8, g1r_90_2, g1n_89, g1n_91⟩
  | 6, _ => exact ⟨g1r_92_7, g1r_92_8, g1r_94_2, g1n_93, g1n_95⟩
  | 7, _ => exact ⟨g1r_96_7, g1r_96_8, g1r_98_2, g1n_97, g1n_99⟩
  | 8, _ => exact ⟨g1r_100_7, g1r_100_8, g1r_102_2, g1n_101, g1n_103⟩
  | 9, _ => exact ⟨g1r_104_7, g1r_104_8, g1r_106_2, g1n_105, g1n_107⟩
  | 10, _ => exact ⟨g1r_108_7, g1r_108_8, g1r_110_2, g1n_109, g1n_111⟩
  | 11, _ => exact ⟨g1r_112_7, g1r_112_8, g1r_114_2, g1n_113, g1n_115⟩
theorem cp_in {σ : pS} {a b : Nat} {n : Int32} {m i : Nat} (hn : n.toNatClampNeg = m) (hi : i < m) : (cpA σ a 0 b 0 n).2.1 b i = σ.2.1 a i := by
  show va_up σ.2.1 b (va_cpy (σ.2.1 a) (σ.2.1 b) (0 : Int32).toNatClampNeg (0 : Int32).toNatClampNeg n.toNatClampNeg) b i = _
  rw [va_up_self, hn]
  show va_cpy (σ.2.1 a) (σ.2.1 b) 0 0 m i = _
  rw [pk_cpy_in (by omega) (by omega), Nat.zero_add, Nat.sub_zero]
theorem cp_o {σ : pS} {a b c : Nat} {n : Int32} (h : c ≠ b) : (cpA σ a 0 b 0 n).2.1 c = σ.2.1 c := by
  show va_up σ.2.1 b _ c = _
  rw [va_up_ne _ _ h]
/-- thoughts are copied -/
theorem c_copyT {N z a b : Nat} {σ : pS} (hab : a ≠ b) (ha : MA z a) (hb : MA z b) (hz : isZ (σ.1 b 6) = true) : ∃ τ, fX3_copyThoughtFrom N (G1 z) a b σ = some τ ∧ (∀ k, k ≤ 6 → τ.1 a k = σ.1 b k) ∧ (∀ c k, c ≠ a → τ.1 c k = σ.1 c k) ∧ (∀ i, i < 6 → τ.2.1 (a + 1) i = σ.2.1 (b + 1) i) ∧ (∀ c, c ≠ a + 1 → τ.2.1 c = σ.2.1 c) ∧ τ.2.2 = σ.2.2 := by
  have e : ∀ (τ : pS) k v j, (putF τ a k v).1 b j = τ.1 b j := fun τ k v j => by rw [pf_o (Ne.symm hab)]
  refine ⟨cpA (putF (putF (putF (putF (putF (putF (putF σ a 0 (σ.1 b 0)) a 1 (σ.1 b 1)) a 2 (σ.1 b 2)) a 3 (σ.1 b 3)) a 4 (σ.1 b 4)) a 5 (σ.1 b 5)) a 6 (σ.1 b 6)) (b + 1) 0 (a + 1) 0 6, ?_, ?_, ?_, ?_, ?_, rfl⟩
  · unfold fX3_copyThoughtFrom
    simp only [e, hz, ck_t, ha.1, hb.1, ha.2.2.2.1, hb.2.2.2.1]
    rfl
  · intro k hk
    show (putF (putF (putF (putF (putF (putF (putF σ a 0 (σ.1 b 0)) a 1 (σ.1 b 1)) a 2 (σ.1 b 2)) a 3 (σ.1 b 3)) a 4 (σ.1 b 4)) a 5 (σ.1 b 5)) a 6 (σ.1 b 6)).1 a k = _
    match k, hk with
    | 0, _ => rw [pf0n (by decide), pf0n (by decide), pf0n (by decide), pf0n (by decide), pf0n (by decide), pf0n (by decide), pf0]
    | 1, _ => rw [pf0n (by decide), pf0n (by decide), pf0n (by decide), pf0n (by decide), pf0n (by decide), pf0]
    | 2, _ => rw [pf0n (by decide), pf0n (by decide), pf0n (by decide), pf0n (by decide), pf0]
    | 3, _ => rw [pf0n (by decide), pf0n (by decide), pf0n (by decide), pf0]
    | 4, _ => rw [pf0n (by decide), pf0n (by decide), pf0]
    | 5, _ => rw [pf0n (by decide), pf0]
    | 6, _ => rw [pf0]
  · intro c k hc
    show (putF (putF (putF (putF (putF (putF (putF σ a 0 (σ.1 b 0)) a 1 (σ.1 b 1)) a 2 (σ.1 b 2)) a 3 (σ.1 b 3)) a 4 (σ.1 b 4)) a 5 (σ.1 b 5)) a 6 (σ.1 b 6)).1 c k = _
    rw [pf_o hc, pf_o hc, pf_o hc, pf_o hc, pf_o hc, pf_o hc, pf_o hc]
  · intro i hi
    rw [cp_in (m := 6) rfl hi]
    rfl
  · intro c hc
    rw [cp_o hc]
    rfl
theorem c_copyL {N z a b : Nat} {σ : pS} (hab : a ≠ b) (ha : MA z a) (hb : MA z b) : ∃ τ, fX2_copyFrom N (G1 z) (a + 2) (b + 2) σ = some τ ∧ (∀ k, k ≤ 1 → τ.1 (a + 2) k = σ.1 (b + 2) k) ∧ (∀ c k, c ≠ a + 2 → τ.1 c k = σ.1 c k) ∧ (∀ i, i < 60 → τ.2.1 (a + 3) i = σ.2.1 (b + 3) i) ∧ (∀ c, c ≠ a + 3 → τ.2.1 c = σ.2.1 c) ∧ τ.2.2 = σ.2.2 := by
  have e : ∀ (τ : pS) k v j, (putF τ (a + 2) k v).1 (b + 2) j = τ.1 (b + 2) j := fun τ k v j => by rw [pf_o (by omega)]
  refine ⟨cpA (putF (putF σ (a + 2) 0 (σ.1 (b + 2) 0)) (a + 2) 1 (σ.1 (b + 2) 1)) (b + 3) 0 (a + 3) 0 60, ?_, ?_, ?_, ?_, ?_, rfl⟩
  · unfold fX2_copyFrom
    simp only [e, ha.2.2.1, hb.2.2.1, ha.2.2.2.2, hb.2.2.2.2]
    rfl
  · intro k hk
    show (putF (putF σ (a + 2) 0 (σ.1 (b + 2) 0)) (a + 2) 1 (σ.1 (b + 2) 1)).1 (a + 2) k = _
    match k, hk with
    | 0, _ => rw [pf0n (by decide), pf0]
    | 1, _ => rw [pf0]
  · intro c k hc
    show (putF (putF σ (a + 2) 0 (σ.1 (b + 2) 0)) (a + 2) 1 (σ.1 (b + 2) 1)).1 c k = _
    rw [pf_o hc, pf_o hc]
  · intro i hi
    rw [cp_in (m := 60) rfl hi]
    rfl
  · intro c hc
    rw [cp_o hc]
    rfl
/-- a whole mind is copied -/
theorem c_copyM {N z a b : Nat} {σ : pS} (hab : a + 4 ≤ b ∨ b + 4 ≤ a) (ha : MA z a) (hb : MA z b) (hz : isZ (σ.1 b 6) = true) : ∃ τ, fX3_copyFrom N (G1 z) a b σ = some τ ∧ (∀ k, k ≤ 6 → τ.1 a k = σ.1 b k) ∧ (∀ k, k ≤ 1 → τ.1 (a + 2) k = σ.1 (b + 2) k) ∧ (∀ c k, c ≠ a → c ≠ a + 2 → τ.1 c k = σ.1 c k) ∧ (∀ i, i < 6 → τ.2.1 (a + 1) i = σ.2.1 (b + 1) i) ∧ (∀ i, i < 60 → τ.2.1 (a + 3) i = σ.2.1 (b + 3) i) ∧ (∀ c, c ≠ a + 1 → c ≠ a + 3 → τ.2.1 c = σ.2.1 c) ∧ τ.2.2 = σ.2.2 := by
  obtain ⟨τ, h1, h2, h3, h4, h5, h6⟩ := c_copyT (N := N) (σ := σ) (show a ≠ b by omega) ha hb hz
  obtain ⟨υ, g1, g2, g3, g4, g5, g6⟩ := c_copyL (N := N) (σ := τ) (show a ≠ b by omega) ha hb
  refine ⟨υ, ?_, ?_, ?_, ?_, ?_, ?_, ?_, g6.trans h6⟩
  · unfold fX3_copyFrom
    rw [h1, b_some, ha.2.1, hb.2.1, g1]
    rfl
  · intro k hk
    rw [g3 _ _ (by omega)]
    exact h2 k hk
  · intro k hk
    rw [g2 k hk]
    exact h3 _ _ (by omega)
  · intro c k a1 a2
    rw [g3 _ _ a2]
    exact h3 _ _ a1
  · intro i hi
    rw [g5 _ (by omega)]
    exact h4 i hi
  · intro i hi
    rw [g4 i hi, h5 _ (by omega)]
  · intro c a1 a2
    rw [g5 _ a2]
    exact h5 _ a1
theorem mind_c {f f' h h' w : Nat → Int32} (hw : cN w 1 ≤ 6) (e : ∀ k, k ≤ 6 → f' k = f k) (eh : ∀ i, i < 6 → h' i = h i) (m : MindR f h w) : MindR f' h' w := by
  obtain ⟨m0, m1, m2, m3, m4, m5, m6, m7⟩ := m
  unfold MindR
  rw [e 0 (by omega), e 1 (by omega), e 2 (by omega), e 3 (by omega), e 4 (by omega), e 5 (by omega), e 6 (by omega)]
  exact ⟨m0, m1, m2, m3, m4, m5, m6, fun i hi => by rw [eh i (by omega)]; exact m7 i hi⟩
theorem log_p {f f' p p' w : Nat → Int32} (e : ∀ k, k ≤ 1 → f' k = f k) (ep : ∀ i, i < 60 → p' i = p i) (m : LogR f p w) : LogR f' p' w := by
  obtain ⟨m0, n, hn, m1, m2⟩ := m
  refine ⟨(e 0 (by omega)).trans m0, n, hn, (e 1 (by omega)).trans m1, fun i hi => ?_⟩
  rw [ep _ (Nat.mod_lt _ (by omega))]
  exact m2 i hi
/-! worlds that agree below 383 -/
theorem mind_w {f h w w' : Nat → Int32} (hw : cN w 1 ≤ 6) (e : ∀ k, k < 383 → w' k = w k) (m : MindR f h w) : MindR f h w' := by
  obtain ⟨m0, m1, m2, m3, m4, m5, m6, m7⟩ := m
  have c1 : cN w' 1 = cN w 1 := by unfold cN; rw [e 1 (by omega)]
  unfold MindR
  rw [e 7 (by omega), e 9 (by omega), e 0 (by omega), e 11 (by omega), e 12 (by omega), e 16 (by omega), e 13 (by omega), c1]
  refine ⟨m0, m1, m2, m3, ?_, m5, m6, ?_⟩
  · intro i
    rw [m4 i]
    by_cases hi : i < cN w 1
    · rw [e (39 + 3 * i) (by omega)]
    · simp [hi]
  · intro i hi
    rw [e (38 + 3 * i) (by omega)]
    exact m7 i hi
theorem log_w {f p w w' : Nat → Int32} (hw : cN w 15 ≤ 60) (e : ∀ k, k < 383 → w' k = w k) (m : LogR f p w) : LogR f p w' := by
  obtain ⟨m0, n, hn, m1, m2⟩ := m
  have c15 : cN w' 15 = cN w 15 := by unfold cN; rw [e 15 (by omega)]
  refine ⟨by rw [e 15 (by omega)]; exact m0, n, hn, m1, fun i hi => ?_⟩
  rw [c15] at hi
  rw [m2 i hi]
  unfold pk
  rw [e (83 + 5 * i) (by omega), e (84 + 5 * i) (by omega), e (85 + 5 * i) (by omega), e (86 + 5 * i) (by omega), e (87 + 5 * i) (by omega)]
theorem MInv_w {w w' : Nat → Int32} (h1 : cN w 1 ≤ 6) (h15 : cN w 15 ≤ 60) (e : ∀ k, k < 383 → w' k = w k) (m : MInv w) : MInv w' := by
  obtain ⟨m7, m9, m11, m12, m13, m15, mc, ml⟩ := m
  have c0 : cN w' 0 = cN w 0 := by unfold cN; rw [e 0 (by omega)]
  have c1 : cN w' 1 = cN w 1 := by unfold cN; rw [e 1 (by omega)]
  have c15 : cN w' 15 = cN w 15 := by unfold cN; rw [e 15 (by omega)]
  unfold MInv
  rw [e 7 (by omega), e 9 (by omega), e 11 (by omega), e 0 (by omega), e 12 (by omega), e 13 (by omega), e 15 (by omega), e 1 (by omega), e 2 (by omega), c0, c1, c15]
  refine ⟨m7, m9, m11, m12, m13, m15, ?_, ?_⟩
  · intro i hi
    rw [e (38 + 3 * i) (by omega), e (39 + 3 * i) (by omega)]
    exact mc i hi
  · intro i hi
    rw [e (83 + 5 * i) (by omega), e (84 + 5 * i) (by omega), e (85 + 5 * i) (by omega), e (86 + 5 * i) (by omega), e (87 + 5 * i) (by omega)]
    exact ml i hi
theorem mk_383 {k : Nat} (h : mindK k = true) : k < 383 := by
  rcases Nat.lt_or_ge k 383 with q | q
  · exact q
  · rw [mk_law k q] at h
    cases h
theorem WInv_w {w w' : Nat → Int32} (h : WInv w) (e : ∀ k, k < 383 → w' k = w k) : WInv w' := by
  -- the cells behind 383 do not matter: change them first
  have h2 : WInv (fun k => if k < 383 then w k else w' k) := by
    obtain ⟨a0, a1, a2, a3, a4, a5, a6, a7, a8, a9, a10, a11, a12, a13, a14, a15, n, c, wo, d, du, l⟩ := h
    have c0 : cN w 0 ≤ 10 := by unfold cN; omega
    have c1 : cN w 1 ≤ 6 := by unfold cN; omega
    have c2 : cN w 2 ≤ 6 := by unfold cN; omega
    have c3 : cN w 3 ≤ 4 := by unfold cN; omega
    have c4 : cN w 4 ≤ 8 := by unfold cN; omega
    have c15 : cN w 15 ≤ 60 := by unfold cN; omega
    refine ⟨a0, a1, a2, a3, a4, a5, a6, a7, a8, a9, a10, a11, a12, a13, a14, a15, ?_, ?_, ?_, ?_, ?_, ?_⟩
    · intro i hi
      have hi' : i < cN w 0 := hi
      dsimp only
      rw [if_pos (by omega), if_pos (by omega)]
      exact n i hi
    · intro i hi
      have hi' : i < cN w 1 := hi
      dsimp only
      rw [if_pos (by omega), if_pos (by omega), if_pos (by omega), if_pos (by omega)]
      exact c i hi
    · intro i hi
      have hi' : i < cN w 2 := hi
      dsimp only
      rw [if_pos (by omega), if_pos (by omega)]
      exact wo i hi
    · intro i hi
      have hi' : i < cN w 3 := hi
      dsimp only
      rw [if_pos (by omega), if_pos (by omega)]
      exact d i hi
    · intro i hi
      have hi' : i < cN w 4 := hi
      dsimp only
      rw [if_pos (by omega)]
      exact du i hi
    · intro i hi
      have hi' : i < cN w 15 := hi
      dsimp only
      rw [if_pos (by omega), if_pos (by omega), if_pos (by omega), if_pos (by omega), if_pos (by omega), if_pos (by omega)]
      exact l i hi
  have e2 : (fun k => if k < 383 then w k else w' k) = w' := by
    funext k
    by_cases q : k < 383
    · rw [if_pos q, e k q]
    · rw [if_neg q]
  rw [e2] at h2
  exact h2
