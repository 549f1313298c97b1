/-! acts on the mind alone -/
theorem rmF_p {o k : Nat} (a : 66 ≤ o) (b : o ≤ 115) : rmF o k = true := by
  simp [rmF, a, b]
theorem rmA_p {o : Nat} (a : 66 ≤ o) (b : o ≤ 115) : rmA o = true := by
  simp [rmA, a, b]
theorem Sim.mu {z y : Nat} {σ1 σ2 τ1 τ2 : pS} (h : Sim z y σ1 σ2) (e1 : EE rmF rmA z σ1 τ1) (f : ∀ k, (k = 6 ∨ k = 7 ∨ k = 9 ∨ k = 14) → τ2.1 y k = σ2.1 y k) (a : ∀ j, (j = 2 ∨ j = 5 ∨ j = 6) → τ2.2.1 (y + j) = σ2.2.1 (y + j)) (ew : ∀ k, mindK k = false → τ2.2.1 (y + 1) k = σ2.2.1 (y + 1) k) (mi : MInv (τ2.2.1 (y + 1))) (mm : MindR (τ1.1 (z + 20)) (τ1.2.1 (z + 21)) (τ2.2.1 (y + 1))) (ml : LogR (τ1.1 (z + 22)) (τ1.2.1 (z + 23)) (τ2.2.1 (y + 1))) : Sim z y τ1 τ2 := by
  refine h.act (e1.mono (fun o k e => by simp [rmF, e]) (fun o e => by simp [rmA, e])) (fun k hk => f k (by omega)) (fun j hj => a j (by omega)) ew mi mm ml ?_ ?_
  · rw [a 5 (by simp), f 7 (by simp)]
    exact past_w ew (e1.past (fun o a b k => rmF_p a b) (fun o a b => rmA_p a b) h.2.1)
  · rw [f 7 (by simp)]
    exact h.2.2.1
theorem mk_k (k : Nat) (h : mindK k = true) (j : Nat) (hj : mindK j = false) : j ≠ k := fun e => by rw [e, h] at hj; cases hj
theorem mk_hab (i : Nat) (h : i < 6) : mindK (38 + 3 * i) = true ∧ mindK (39 + 3 * i) = true := by
  have : ∀ i, i < 6 → mindK (38 + 3 * i) = true ∧ mindK (39 + 3 * i) = true := by decide
  exact this i h
/-- one cell of the mind changes: what the world keeps to -/
theorem up_ne {w : Nat → Int32} {k j : Nat} {v : Int32} (h : j ≠ k) : va_up w k v j = w j := va_up_ne _ _ h
theorem MInv_near {w : Nat → Int32} {i : Nat} {v : Int32} (m : MInv w) (hi : i < 6) (hv : v = 0 ∨ v = 1) : MInv (va_up w (39 + 3 * i) v) := by
  obtain ⟨m7, m9, m11, m12, m13, m15, mc, ml⟩ := m
  unfold MInv cN at *
  rw [up_ne (by omega), up_ne (by omega), up_ne (by omega), up_ne (by omega), up_ne (by omega), up_ne (by omega), up_ne (by omega), up_ne (by omega), up_ne (by omega)]
  refine ⟨m7, m9, m11, m12, m13, m15, fun j hj => ?_, fun j hj => ?_⟩
  · rw [up_ne (by omega)]
    refine ⟨(mc j hj).1, ?_⟩
    by_cases e : j = i
    · rw [e, va_up_self]
      exact hv
    · rw [up_ne (by omega)]
      exact (mc j hj).2
  · rw [up_ne (by omega), up_ne (by omega), up_ne (by omega), up_ne (by omega), up_ne (by omega)]
    exact ml j hj
theorem MInv_habit {w : Nat → Int32} {i : Nat} {v : Int32} (m : MInv w) (hi : i < 6) (hv : 0 ≤ v.toInt ∧ v.toInt < (w 2).toInt) : MInv (va_up w (38 + 3 * i) v) := by
  obtain ⟨m7, m9, m11, m12, m13, m15, mc, ml⟩ := m
  unfold MInv cN at *
  rw [up_ne (by omega), up_ne (by omega), up_ne (by omega), up_ne (by omega), up_ne (by omega), up_ne (by omega), up_ne (by omega), up_ne (by omega), up_ne (by omega)]
  refine ⟨m7, m9, m11, m12, m13, m15, fun j hj => ?_, fun j hj => ?_⟩
  · rw [up_ne (show 39 + 3 * j ≠ 38 + 3 * i by omega)]
    refine ⟨?_, (mc j hj).2⟩
    by_cases e : j = i
    · rw [e, va_up_self]
      exact hv
    · rw [up_ne (by omega)]
      exact (mc j hj).1
  · rw [up_ne (by omega), up_ne (by omega), up_ne (by omega), up_ne (by omega), up_ne (by omega)]
    exact ml j hj
theorem MInv_11 {w : Nat → Int32} {v : Int32} (m : MInv w) (hv : 0 ≤ v.toInt ∧ v.toInt < (w 0).toInt) : MInv (va_up w 11 v) := by
  obtain ⟨m7, m9, m11, m12, m13, m15, mc, ml⟩ := m
  unfold MInv cN at *
  rw [va_up_self, up_ne (by omega), up_ne (by omega), up_ne (by omega), up_ne (by omega), up_ne (by omega), up_ne (by omega), up_ne (by omega), up_ne (by omega)]
  refine ⟨m7, m9, ⟨hv.1, Or.inl hv.2⟩, m12, m13, m15, fun j hj => ?_, fun j hj => ?_⟩
  · rw [up_ne (by omega), up_ne (by omega)]
    exact mc j hj
  · rw [up_ne (by omega), up_ne (by omega), up_ne (by omega), up_ne (by omega), up_ne (by omega)]
    exact ml j hj
theorem MInv_12 {w : Nat → Int32} {v : Int32} (m : MInv w) (hv : ∀ i, bit v i = true → i < cN w 0) : MInv (va_up w 12 v) := by
  obtain ⟨m7, m9, m11, m12, m13, m15, mc, ml⟩ := m
  unfold MInv cN at *
  rw [va_up_self, up_ne (by omega), up_ne (by omega), up_ne (by omega), up_ne (by omega), up_ne (by omega), up_ne (by omega), up_ne (by omega), up_ne (by omega)]
  refine ⟨m7, m9, m11, hv, m13, m15, fun j hj => ?_, fun j hj => ?_⟩
  · rw [up_ne (by omega), up_ne (by omega)]
    exact mc j hj
  · rw [up_ne (by omega), up_ne (by omega), up_ne (by omega), up_ne (by omega), up_ne (by omega)]
    exact ml j hj
theorem MInv_7 {w : Nat → Int32} {v : Int32} (m : MInv w) (hv : 0 ≤ v.toInt ∧ v.toInt ≤ 99) : MInv (va_up w 7 v) := by
  obtain ⟨m7, m9, m11, m12, m13, m15, mc, ml⟩ := m
  unfold MInv cN at *
  rw [va_up_self, up_ne (by omega), up_ne (by omega), up_ne (by omega), up_ne (by omega), up_ne (by omega), up_ne (by omega), up_ne (by omega), up_ne (by omega)]
  refine ⟨hv, m9, m11, m12, m13, m15, fun j hj => ?_, fun j hj => ?_⟩
  · rw [up_ne (by omega), up_ne (by omega)]
    exact mc j hj
  · rw [up_ne (by omega), up_ne (by omega), up_ne (by omega), up_ne (by omega), up_ne (by omega)]
    exact ml j hj
theorem log_up {f p w : Nat → Int32} {k : Nat} {v : Int32} (hk : k < 83 ∧ k ≠ 15) (h : LogR f p w) : LogR f p (va_up w k v) := log_c h (fun j hj => up_ne (by omega))
theorem em_up {w : Nat → Int32} {k : Nat} {v : Int32} (hk : mindK k = true) : ∀ j, mindK j = false → va_up w k v j = w j := fun j hj => up_ne (mk_k k hk j hj)
theorem pf_w {σ : pS} {a k : Nat} {v : Int32} : (putF σ a k v).1 a = va_up (σ.1 a) k v := by
  funext j
  rw [pf1]
  by_cases e : j = k
  · rw [if_pos ⟨rfl, e⟩, e, va_up_self]
  · rw [if_neg (fun q => e q.2), up_ne e]
theorem mind_7 {f h w : Nat → Int32} {v : Int32} (m : MindR f h w) : MindR (va_up f 0 v) h (va_up w 7 v) := by
  obtain ⟨m0, m1, m2, m3, m4, m5, m6, m7⟩ := m
  have en : ∀ k, k ≠ 7 → va_up w 7 v k = w k := fun k hk => up_ne hk
  have fn : ∀ k, k ≠ 0 → va_up f 0 v k = f k := fun k hk => up_ne hk
  have e1 : cN (va_up w 7 v) 1 = cN w 1 := by unfold cN; rw [en 1 (by omega)]
  unfold MindR
  exact ⟨by rw [va_up_self, va_up_self], by rw [fn 1 (by omega), en 9 (by omega)]; exact m1, by rw [fn 2 (by omega), en 0 (by omega), en 11 (by omega)]; exact m2, by rw [fn 3 (by omega), en 12 (by omega)]; exact m3, fun i => by rw [fn 4 (by omega), e1, en (39 + 3 * i) (by omega)]; exact m4 i, by rw [fn 5 (by omega), en 16 (by omega)]; exact m5, by rw [fn 6 (by omega), en 13 (by omega)]; exact m6, fun i hi => by rw [e1] at hi; rw [en (38 + 3 * i) (by omega)]; exact m7 i hi⟩
theorem mind_9 {f h w : Nat → Int32} {v : Int32} (m : MindR f h w) : MindR (va_up f 1 v) h (va_up w 9 v) := by
  obtain ⟨m0, m1, m2, m3, m4, m5, m6, m7⟩ := m
  have en : ∀ k, k ≠ 9 → va_up w 9 v k = w k := fun k hk => up_ne hk
  have fn : ∀ k, k ≠ 1 → va_up f 1 v k = f k := fun k hk => up_ne hk
  have e1 : cN (va_up w 9 v) 1 = cN w 1 := by unfold cN; rw [en 1 (by omega)]
  unfold MindR
  exact ⟨by rw [fn 0 (by omega), en 7 (by omega)]; exact m0, by rw [va_up_self, va_up_self], by rw [fn 2 (by omega), en 0 (by omega), en 11 (by omega)]; exact m2, by rw [fn 3 (by omega), en 12 (by omega)]; exact m3, fun i => by rw [fn 4 (by omega), e1, en (39 + 3 * i) (by omega)]; exact m4 i, by rw [fn 5 (by omega), en 16 (by omega)]; exact m5, by rw [fn 6 (by omega), en 13 (by omega)]; exact m6, fun i hi => by rw [e1] at hi; rw [en (38 + 3 * i) (by omega)]; exact m7 i hi⟩
theorem mind_11 {f h w : Nat → Int32} {v : Int32} (m : MindR f h w) (n0 : ¬ w 0 = 0) : MindR (va_up f 2 v) h (va_up w 11 v) := by
  obtain ⟨m0, m1, m2, m3, m4, m5, m6, m7⟩ := m
  have en : ∀ k, k ≠ 11 → va_up w 11 v k = w k := fun k hk => up_ne hk
  have fn : ∀ k, k ≠ 2 → va_up f 2 v k = f k := fun k hk => up_ne hk
  have e1 : cN (va_up w 11 v) 1 = cN w 1 := by unfold cN; rw [en 1 (by omega)]
  unfold MindR
  exact ⟨by rw [fn 0 (by omega), en 7 (by omega)]; exact m0, by rw [fn 1 (by omega), en 9 (by omega)]; exact m1, by rw [va_up_self, va_up_self, en 0 (by omega), if_neg n0], by rw [fn 3 (by omega), en 12 (by omega)]; exact m3, fun i => by rw [fn 4 (by omega), e1, en (39 + 3 * i) (by omega)]; exact m4 i, by rw [fn 5 (by omega), en 16 (by omega)]; exact m5, by rw [fn 6 (by omega), en 13 (by omega)]; exact m6, fun i hi => by rw [e1] at hi; rw [en (38 + 3 * i) (by omega)]; exact m7 i hi⟩
theorem mind_12 {f h w : Nat → Int32} {v : Int32} (m : MindR f h w) : MindR (va_up f 3 v) h (va_up w 12 v) := by
  obtain ⟨m0, m1, m2, m3, m4, m5, m6, m7⟩ := m
  have en : ∀ k, k ≠ 12 → va_up w 12 v k = w k := fun k hk => up_ne hk
  have fn : ∀ k, k ≠ 3 → va_up f 3 v k = f k := fun k hk => up_ne hk
  have e1 : cN (va_up w 12 v) 1 = cN w 1 := by unfold cN; rw [en 1 (by omega)]
  unfold MindR
  exact ⟨by rw [fn 0 (by omega), en 7 (by omega)]; exact m0, by rw [fn 1 (by omega), en 9 (by omega)]; exact m1, by rw [fn 2 (by omega), en 0 (by omega), en 11 (by omega)]; exact m2, by rw [va_up_self, va_up_self], fun i => by rw [fn 4 (by omega), e1, en (39 + 3 * i) (by omega)]; exact m4 i, by rw [fn 5 (by omega), en 16 (by omega)]; exact m5, by rw [fn 6 (by omega), en 13 (by omega)]; exact m6, fun i hi => by rw [e1] at hi; rw [en (38 + 3 * i) (by omega)]; exact m7 i hi⟩
theorem mind_16 {f h w : Nat → Int32} {v : Int32} (m : MindR f h w) : MindR (va_up f 5 v) h (va_up w 16 v) := by
  obtain ⟨m0, m1, m2, m3, m4, m5, m6, m7⟩ := m
  have en : ∀ k, k ≠ 16 → va_up w 16 v k = w k := fun k hk => up_ne hk
  have fn : ∀ k, k ≠ 5 → va_up f 5 v k = f k := fun k hk => up_ne hk
  have e1 : cN (va_up w 16 v) 1 = cN w 1 := by unfold cN; rw [en 1 (by omega)]
  unfold MindR
  exact ⟨by rw [fn 0 (by omega), en 7 (by omega)]; exact m0, by rw [fn 1 (by omega), en 9 (by omega)]; exact m1, by rw [fn 2 (by omega), en 0 (by omega), en 11 (by omega)]; exact m2, by rw [fn 3 (by omega), en 12 (by omega)]; exact m3, fun i => by rw [fn 4 (by omega), e1, en (39 + 3 * i) (by omega)]; exact m4 i, by rw [va_up_self, va_up_self], by rw [fn 6 (by omega), en 13 (by omega)]; exact m6, fun i hi => by rw [e1] at hi; rw [en (38 + 3 * i) (by omega)]; exact m7 i hi⟩
theorem mind_13 {f h w : Nat → Int32} {v : Int32} (m : MindR f h w) : MindR (va_up f 6 v) h (va_up w 13 v) := by
  obtain ⟨m0, m1, m2, m3, m4, m5, m6, m7⟩ := m
  have en : ∀ k, k ≠ 13 → va_up w 13 v k = w k := fun k hk => up_ne hk
  have fn : ∀ k, k ≠ 6 → va_up f 6 v k = f k := fun k hk => up_ne hk
  have e1 : cN (va_up w 13 v) 1 = cN w 1 := by unfold cN; rw [en 1 (by omega)]
  unfold MindR
  exact ⟨by rw [fn 0 (by omega), en 7 (by omega)]; exact m0, by rw [fn 1 (by omega), en 9 (by omega)]; exact m1, by rw [fn 2 (by omega), en 0 (by omega), en 11 (by omega)]; exact m2, by rw [fn 3 (by omega), en 12 (by omega)]; exact m3, fun i => by rw [fn 4 (by omega), e1, en (39 + 3 * i) (by omega)]; exact m4 i, by rw [fn 5 (by omega), en 16 (by omega)]; exact m5, by rw [va_up_self, va_up_self], fun i hi => by rw [e1] at hi; rw [en (38 + 3 * i) (by omega)]; exact m7 i hi⟩
theorem mind_lg {f h w w' : Nat → Int32} (m : MindR f h w) (e : ∀ k, k < 83 → k ≠ 15 → w' k = w k) (h1 : cN w 1 ≤ 6) : MindR f h w' := by
  obtain ⟨m0, m1, m2, m3, m4, m5, m6, m7⟩ := m
  have e1 : cN w' 1 = cN w 1 := by unfold cN; rw [e 1 (by omega) (by omega)]
  unfold MindR
  refine ⟨by rw [e 7 (by omega) (by omega)]; exact m0, by rw [e 9 (by omega) (by omega)]; exact m1, by rw [e 0 (by omega) (by omega), e 11 (by omega) (by omega)]; exact m2, by rw [e 12 (by omega) (by omega)]; exact m3, fun i => ?_, by rw [e 16 (by omega) (by omega)]; exact m5, by rw [e 13 (by omega) (by omega)]; exact m6, fun i hi => ?_⟩
  · rw [m4 i, e1]
    by_cases q : i < cN w 1
    · rw [e (39 + 3 * i) (by omega) (by omega)]
    · simp [q]
  · rw [e1] at hi
    rw [e (38 + 3 * i) (by omega) (by omega)]
    exact m7 i hi
theorem gd_habit {N z y : Nat} (hN : 20000 < N) : Gd_habit N (G1 z) (G2 y) z y (z + 150) (Sim z y) := by
  intro σ1 σ2 h c1 c2
  unfold fL_habit
  apply gd_w
  unfold fX11_habit fX12_habit
  refine ww_pre h (fun τ => if_pos rfl) rfl (fun i j hi hj hi6 hj6 e1 e2 => ?_)
  subst e1
  subst e2
  obtain ⟨τ1, τ2, a, b, hs, b0, ew⟩ := h.t0.rem hN
  have wi := hs.wi
  have ew' : τ2.2.1 (y + 1) = σ2.2.1 (y + 1) := ew
  simp only [g1r_0_0, g1r_0_1, g1r_0_2, g1r_0_3, g1r_0_4, g1r_0_5, g1r_0_6, g1r_0_7, g1r_0_8, g1r_1_5, g1n_2, g1r_3_0, g1r_3_1, g1r_3_2, g1r_4_9, g1r_4_10, g1r_4_11, g1r_4_12, g1r_4_13, g1r_4_14, g1r_4_15, g1r_4_16, g1r_4_17, g1n_5, g1n_6, g1n_7, g1n_8, g1n_9, g1n_10, g1n_11, g1n_12, g1n_13, g1r_14_2, g1r_14_3, g1r_14_4, g1r_14_5, g1r_14_6, g1n_15, g1n_16, g1n_17, g1n_18, g1n_19, g1r_20_7, g1r_20_8, g1n_21, g1r_22_2, g1n_23, g1r_24_0, g1r_24_1, g1r_24_2, g1r_25_9, g1r_25_10, g1r_25_11, g1r_25_12, g1r_25_13, g1r_25_14, g1r_25_15, g1r_25_16, g1r_25_17, g1n_26, g1n_27, g1n_28, g1n_29, g1n_30, g1n_31, g1n_32, g1n_33, g1n_34, g1r_35_2, g1r_35_3, g1r_35_4, g1r_35_5, g1r_35_6, g1n_36, g1n_37, g1n_38, g1n_39, g1n_40, g1r_41_7, g1r_41_8, g1n_42, g1r_43_2, g1n_44, g1r_45_0, g1r_45_1, g1r_45_2, g1r_46_9, g1r_46_10, g1r_46_11, g1r_46_12, g1r_46_13, g1r_46_14, g1r_46_15, g1r_46_16, g1r_46_17, g1n_47, g1n_48, g1n_49, g1n_50, g1n_51, g1n_52, g1n_53, g1n_54, g1n_55, g1r_56_2, g1r_56_3, g1r_56_4, g1r_56_5, g1r_56_6, g1n_57, g1n_58, g1n_59, g1n_60, g1n_61, g1r_62_7, g1r_62_8, g1n_63, g1r_64_2, g1n_65, g1r_66_2, g1n_67, g1r_68_7, g1r_68_8, g1n_69, g1r_70_2, g1n_71, g1r_72_7, g1r_72_8, g1n_73, g1r_74_2, g1n_75, g1r_76_7, g1r_76_8, g1n_77, g1r_78_2, g1n_79, g1r_80_7, g1r_80_8, g1n_81, g1r_82_2, g1n_83, g1r_84_7, g1r_84_8, g1n_85, g1r_86_2, g1n_87, g1r_88_7, g1r_88_8, g1n_89, g1r_90_2, g1n_91, g1r_92_7, g1r_92_8, g1n_93, g1r_94_2, g1n_95, g1r_96_7, g1r_96_8, g1n_97, g1r_98_2, g1n_99, g1r_100_7, g1r_100_8, g1n_101, g1r_102_2, g1n_103, g1r_104_7, g1r_104_8, g1n_105, g1r_106_2, g1n_107, g1r_108_7, g1r_108_8, g1n_109, g1r_110_2, g1n_111, g1r_112_7, g1r_112_8, g1n_113, g1r_114_2, g1n_115, g1r_116_7, g1r_116_8, g1n_117, g1r_118_2, g1n_119, g1r_120_0, g1r_120_1, g1r_120_2, g1r_121_7, g1r_121_8, g1n_122, g1r_123_2, g1n_124, g1n_125, g1n_126, g1r_127_0, g1r_127_1, g1r_127_2, g1r_127_3, g1r_128_7, g1r_128_8, g1n_129, g1r_130_2, g1n_131, g1n_132, g1n_133, g1n_134, g1r_135_7, g1n_136, g1n_150]
  rw [a, b_some, at_fn g1n_21 hi6 (by omega), b_some]
  unfold fX3_setHabit fX12_habit_b27
  simp only [g1r_0_0, g1r_0_1, g1r_0_2, g1r_0_3, g1r_0_4, g1r_0_5, g1r_0_6, g1r_0_7, g1r_0_8, g1r_1_5, g1n_2, g1r_3_0, g1r_3_1, g1r_3_2, g1r_4_9, g1r_4_10, g1r_4_11, g1r_4_12, g1r_4_13, g1r_4_14, g1r_4_15, g1r_4_16, g1r_4_17, g1n_5, g1n_6, g1n_7, g1n_8, g1n_9, g1n_10, g1n_11, g1n_12, g1n_13, g1r_14_2, g1r_14_3, g1r_14_4, g1r_14_5, g1r_14_6, g1n_15, g1n_16, g1n_17, g1n_18, g1n_19, g1r_20_7, g1r_20_8, g1n_21, g1r_22_2, g1n_23, g1r_24_0, g1r_24_1, g1r_24_2, g1r_25_9, g1r_25_10, g1r_25_11, g1r_25_12, g1r_25_13, g1r_25_14, g1r_25_15, g1r_25_16, g1r_25_17, g1n_26, g1n_27, g1n_28, g1n_29, g1n_30, g1n_31, g1n_32, g1n_33, g1n_34, g1r_35_2, g1r_35_3, g1r_35_4, g1r_35_5, g1r_35_6, g1n_36, g1n_37, g1n_38, g1n_39, g1n_40, g1r_41_7, g1r_41_8, g1n_42, g1r_43_2, g1n_44, g1r_45_0, g1r_45_1, g1r_45_2, g1r_46_9, g1r_46_10, g1r_46_11, g1r_46_12, g1r_46_13, g1r_46_14, g1r_46_15, g1r_46_16, g1r_46_17, g1n_47, g1n_48, g1n_49, g1n_50, g1n_51, g1n_52, g1n_53, g1n_54, g1n_55, g1r_56_2, g1r_56_3, g1r_56_4, g1r_56_5, g1r_56_6, g1n_57, g1n_58, g1n_59, g1n_60, g1n_61, g1r_62_7, g1r_62_8, g1n_63, g1r_64_2, g1n_65, g1r_66_2, g1n_67, g1r_68_7, g1r_68_8, g1n_69, g1r_70_2, g1n_71, g1r_72_7, g1r_72_8, g1n_73, g1r_74_2, g1n_75, g1r_76_7, g1r_76_8, g1n_77, g1r_78_2, g1n_79, g1r_80_7, g1r_80_8, g1n_81, g1r_82_2, g1n_83, g1r_84_7, g1r_84_8, g1n_85, g1r_86_2, g1n_87, g1r_88_7, g1r_88_8, g1n_89, g1r_90_2, g1n_91, g1r_92_7, g1r_92_8, g1n_93, g1r_94_2, g1n_95, g1r_96_7, g1r_96_8, g1n_97, g1r_98_2, g1n_99, g1r_100_7, g1r_100_8, g1n_101, g1r_102_2, g1n_103, g1r_104_7, g1r_104_8, g1n_105, g1r_106_2, g1n_107, g1r_108_7, g1r_108_8, g1n_109, g1r_110_2, g1n_111, g1r_112_7, g1r_112_8, g1n_113, g1r_114_2, g1n_115, g1r_116_7, g1r_116_8, g1n_117, g1r_118_2, g1n_119, g1r_120_0, g1r_120_1, g1r_120_2, g1r_121_7, g1r_121_8, g1n_122, g1r_123_2, g1n_124, g1n_125, g1n_126, g1r_127_0, g1r_127_1, g1r_127_2, g1r_127_3, g1r_128_7, g1r_128_8, g1n_129, g1r_130_2, g1n_131, g1n_132, g1n_133, g1n_134, g1r_135_7, g1n_136, g1n_150, g2r_0_1, g2r_0_2, g2r_0_3, g2r_0_4, g2r_0_5, g2r_0_8, g2r_0_15, g2r_0_17, g2r_0_25, g2r_0_26, g2r_0_27, g2r_0_28, g2n_1, g2n_2, g2n_3, g2n_4, g2n_5, g2n_6, g2n_7, g2n_8, g2n_9, g2n_10, g2n_11, g2n_12]
  have hi' : i < cN (τ2.2.1 (y + 1)) 1 := by rw [ew']; exact hi
  have hj' : j < cN (τ2.2.1 (y + 1)) 2 := by rw [ew']; exact hj
  rw [if_neg (nI_pos (by omega)), if_neg (l6 hi6), ck_nI hi6 (by omega), b_some, r_t0, b_some, if_pos rfl, b, b_some, r_ofWho1 (by omega), b_some, show (37 : Int32) + 3 * nI i + 1 = nI (37 + 3 * i + 1) from ix3 37 3 i 1, ck_nI (by omega) (by omega), show 37 + 3 * i + 1 = 38 + 3 * i by omega]
  have hw : (sA τ2 (y + 1) (nI (38 + 3 * i)) (nI j)).2.1 (y + 1) = va_up (τ2.2.1 (y + 1)) (38 + 3 * i) (nI j) := sA_w (nI_clamp (by omega))
  refine gdw_ok rfl (congrArg (fun x => some (x, sA τ2 (y + 1) (nI (38 + 3 * i)) (nI j))) (hs.mind.2.2.2.2.2.2.2 i hi').symm) ?_ ?_
  · show τ2.1 y 0 = 0
    rw [b0, pf0]
  · refine hs.mu (EE.r.sa rfl) (fun k hk => rfl) (fun k hk => sA_o (by omega)) ?_ ?_ ?_ ?_
    · rw [hw]
      exact em_up (mk_hab i hi6).1
    · rw [hw]
      refine MInv_habit wi.m hi6 ?_
      rw [nI_toInt (by omega)]
      unfold cN at hj'
      omega
    · rw [hw, sA_w (n := i) (nI_clamp (by omega))]
      obtain ⟨m0, m1, m2, m3, m4, m5, m6, m7⟩ := hs.mind
      unfold MindR cN
      rw [up_ne (by omega), up_ne (by omega), up_ne (by omega), up_ne (by omega), up_ne (by omega), up_ne (by omega), up_ne (by omega), up_ne (by omega)]
      refine ⟨m0, m1, m2, m3, fun k => ?_, m5, m6, fun k hk => ?_⟩
      · rw [up_ne (show 39 + 3 * k ≠ 38 + 3 * i by omega)]
        exact m4 k
      · by_cases e : k = i
        · rw [e, va_up_self, va_up_self]
        · rw [up_ne e, up_ne (by omega)]
          exact m7 k hk
    · rw [hw, sA_o (by omega)]
      exact log_up (by omega) hs.log
theorem gd_his {N z y : Nat} (hN : 20000 < N) : Gd_his N (G1 z) (G2 y) z y (z + 150) (Sim z y) := by
  intro σ1 σ2 h c1
  unfold fL_his
  apply gd_w
  unfold fX11_his fX12_his
  refine name_pre h (fun τ => if_pos rfl) (fun i hi hi6 e1 => ?_)
  subst e1
  obtain ⟨τ1, τ2, a, b, hs, b0, ew⟩ := h.t0.rem hN
  have wi := hs.wi
  have ew' : τ2.2.1 (y + 1) = σ2.2.1 (y + 1) := ew
  have hi' : i < cN (τ2.2.1 (y + 1)) 0 := by rw [ew']; exact hi
  have n0 : ¬ τ2.2.1 (y + 1) 0 = 0 := by
    intro q
    unfold cN at hi'
    rw [q, show (0 : Int32).toInt.toNat = 0 from rfl] at hi'
    omega
  simp only [g1r_0_0, g1r_0_1, g1r_0_2, g1r_0_3, g1r_0_4, g1r_0_5, g1r_0_6, g1r_0_7, g1r_0_8, g1r_1_5, g1n_2, g1r_3_0, g1r_3_1, g1r_3_2, g1r_4_9, g1r_4_10, g1r_4_11, g1r_4_12, g1r_4_13, g1r_4_14, g1r_4_15, g1r_4_16, g1r_4_17, g1n_5, g1n_6, g1n_7, g1n_8, g1n_9, g1n_10, g1n_11, g1n_12, g1n_13, g1r_14_2, g1r_14_3, g1r_14_4, g1r_14_5, g1r_14_6, g1n_15, g1n_16, g1n_17, g1n_18, g1n_19, g1r_20_7, g1r_20_8, g1n_21, g1r_22_2, g1n_23, g1r_24_0, g1r_24_1, g1r_24_2, g1r_25_9, g1r_25_10, g1r_25_11, g1r_25_12, g1r_25_13, g1r_25_14, g1r_25_15, g1r_25_16, g1r_25_17, g1n_26, g1n_27, g1n_28, g1n_29, g1n_30, g1n_31, g1n_32, g1n_33, g1n_34, g1r_35_2, g1r_35_3, g1r_35_4, g1r_35_5, g1r_35_6, g1n_36, g1n_37, g1n_38, g1n_39, g1n_40, g1r_41_7, g1r_41_8, g1n_42, g1r_43_2, g1n_44, g1r_45_0, g1r_45_1, g1r_45_2, g1r_46_9, g1r_46_10, g1r_46_11, g1r_46_12, g1r_46_13, g1r_46_14, g1r_46_15, g1r_46_16, g1r_46_17, g1n_47, g1n_48, g1n_49, g1n_50, g1n_51, g1n_52, g1n_53, g1n_54, g1n_55, g1r_56_2, g1r_56_3, g1r_56_4, g1r_56_5, g1r_56_6, g1n_57, g1n_58, g1n_59, g1n_60, g1n_61, g1r_62_7, g1r_62_8, g1n_63, g1r_64_2, g1n_65, g1r_66_2, g1n_67, g1r_68_7, g1r_68_8, g1n_69, g1r_70_2, g1n_71, g1r_72_7, g1r_72_8, g1n_73, g1r_74_2, g1n_75, g1r_76_7, g1r_76_8, g1n_77, g1r_78_2, g1n_79, g1r_80_7, g1r_80_8, g1n_81, g1r_82_2, g1n_83, g1r_84_7, g1r_84_8, g1n_85, g1r_86_2, g1n_87, g1r_88_7, g1r_88_8, g1n_89, g1r_90_2, g1n_91, g1r_92_7, g1r_92_8, g1n_93, g1r_94_2, g1n_95, g1r_96_7, g1r_96_8, g1n_97, g1r_98_2, g1n_99, g1r_100_7, g1r_100_8, g1n_101, g1r_102_2, g1n_103, g1r_104_7, g1r_104_8, g1n_105, g1r_106_2, g1n_107, g1r_108_7, g1r_108_8, g1n_109, g1r_110_2, g1n_111, g1r_112_7, g1r_112_8, g1n_113, g1r_114_2, g1n_115, g1r_116_7, g1r_116_8, g1n_117, g1r_118_2, g1n_119, g1r_120_0, g1r_120_1, g1r_120_2, g1r_121_7, g1r_121_8, g1n_122, g1r_123_2, g1n_124, g1n_125, g1n_126, g1r_127_0, g1r_127_1, g1r_127_2, g1r_127_3, g1r_128_7, g1r_128_8, g1n_129, g1r_130_2, g1n_131, g1n_132, g1n_133, g1n_134, g1r_135_7, g1n_136, g1n_150]
  rw [a, b_some, b, b_some]
  unfold fX3_tellBearer fX12_isNow
  simp only [g2r_0_1, g2r_0_2, g2r_0_3, g2r_0_4, g2r_0_5, g2r_0_8, g2r_0_15, g2r_0_17, g2r_0_25, g2r_0_26, g2r_0_27, g2r_0_28, g2n_1, g2n_2, g2n_3, g2n_4, g2n_5, g2n_6, g2n_7, g2n_8, g2n_9, g2n_10, g2n_11, g2n_12]
  have t1 : τ1.1 (z + 4) 1 = τ2.2.1 (y + 1) 0 := hs.tale.1.2.1
  have b1 : τ1.1 (z + 20) 2 = τ2.2.1 (y + 1) 11 := hs.bea.trans (if_neg n0)
  rw [pf0n (by decide), hs.pos, has_fn (by omega), b_some, ite01, t1, b1, has_fn2 (by omega), r_names]
  have hw1 : (sA τ2 (y + 1) 11 (nI i)).2.1 (y + 1) = va_up (τ2.2.1 (y + 1)) 11 (nI i) := sA_w rfl
  have g12 : gA (sA τ2 (y + 1) 11 (nI i)) (y + 1) 12 = τ2.2.1 (y + 1) 12 := by
    show (sA τ2 (y + 1) 11 (nI i)).2.1 (y + 1) 12 = _
    rw [hw1, up_ne (by decide)]
  have i11 : 0 ≤ (nI i).toInt ∧ (nI i).toInt < (τ2.2.1 (y + 1) 0).toInt := by
    rw [nI_toInt (by omega)]
    unfold cN at hi'
    omega
  have mm1 : MindR ((putF τ1 (z + 20) 2 (nI i)).1 (z + 20)) (τ1.2.1 (z + 21)) (va_up (τ2.2.1 (y + 1)) 11 (nI i)) := by
    rw [pf_w]
    exact mind_11 hs.mind n0
  rw [g12]
  by_cases q : bit (τ2.2.1 (y + 1) 12) i = true
  · rw [if_pos q, if_pos q, b_some]
    refine gdw_ok (τ1 := putF τ1 (z + 20) 2 (nI i)) (τ2 := sA τ2 (y + 1) 11 (nI i)) rfl rfl ?_ ?_
    · show τ2.1 y 0 = 0
      rw [b0, pf0]
    · refine hs.mu (EE.r.pf rfl) (fun k hk => rfl) (fun k hk => sA_o (by omega)) ?_ ?_ ?_ ?_
      · rw [hw1]
        exact em_up rfl
      · rw [hw1]
        exact MInv_11 wi.m i11
      · rw [hw1]
        exact mm1
      · rw [hw1, pf_o (by omega)]
        exact log_up (by omega) hs.log
  · rw [if_neg q, if_neg q, b_some]
    have hw2 : (sA (sA τ2 (y + 1) 11 (nI i)) (y + 1) 12 (((1 : Int32) <<< (τ2.2.1 (y + 1) 0 &&& 31)) - 1)).2.1 (y + 1) = va_up (va_up (τ2.2.1 (y + 1)) 11 (nI i)) 12 (((1 : Int32) <<< (τ2.2.1 (y + 1) 0 &&& 31)) - 1) := by
      rw [sA_w (n := 12) rfl, hw1]
    have e0 : (sA τ2 (y + 1) 11 (nI i)).2.1 (y + 1) 0 = τ2.2.1 (y + 1) 0 := by
      rw [hw1, up_ne (by decide)]
    refine gdw_ok (τ1 := putF (putF τ1 (z + 20) 2 (nI i)) (z + 20) 3 (((1 : Int32) <<< (τ2.2.1 (y + 1) 0 &&& 31)) - 1)) (τ2 := sA (sA τ2 (y + 1) 11 (nI i)) (y + 1) 12 (((1 : Int32) <<< (τ2.2.1 (y + 1) 0 &&& 31)) - 1)) rfl ?_ ?_ ?_
    · rw [← e0]
      rfl
    · show τ2.1 y 0 = 0
      rw [b0, pf0]
    · have full : ∀ k, bit (((1 : Int32) <<< (τ2.2.1 (y + 1) 0 &&& 31)) - 1) k = true → k < cN (τ2.2.1 (y + 1)) 0 := by
        intro k hk
        have c0 := wi.c0
        rw [nI_cN wi.1.1] at hk
        have all : ∀ n, n ≤ 10 → ∀ k, k < 32 → bit (((1 : Int32) <<< (nI n &&& 31)) - 1) k = true → k < n := by decide +kernel
        rcases Nat.lt_or_ge k 32 with q | q
        · exact all _ c0 k q hk
        · rw [bit_hi q] at hk
          cases hk
      refine hs.mu ((EE.r.pf rfl).pf rfl) (fun k hk => rfl) (fun k hk => (sA_o (by omega)).trans (sA_o (by omega))) ?_ ?_ ?_ ?_
      · rw [hw2]
        intro k hk
        rw [em_up rfl k hk]
        exact em_up rfl k hk
      · rw [hw2]
        refine MInv_12 (MInv_11 wi.m i11) ?_
        intro k hk
        have := full k hk
        unfold cN at this ⊢
        rw [up_ne (by decide)]
        exact this
      · rw [hw2]
        rw [pf_w]
        exact mind_12 mm1
      · rw [hw2, pf_o (by omega), pf_o (by omega)]
        exact log_up (by omega) (log_up (by omega) hs.log)
