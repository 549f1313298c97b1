/-! learns, best, likeliest, similar, alike -/
/-- what many traits leave -/
def nb (w : Nat → Int32) (s : Int32) (k : Nat) : Nat → Int32 := itN (fun t x => if bit (nI k) t = true then nar w x t else x) s
theorem nb_sub {w : Nat → Int32} (h : WInv w) {s : Int32} (hs : ∀ i, bit s i = true → i < cN w 0) (k : Nat) : ∀ n i, bit (nb w s k n) i = true → i < cN w 0 := by
  intro n
  induction n with
  | zero => exact hs
  | succ n ih =>
    intro i hi
    rw [nb, itN] at hi
    by_cases e : bit (nI k) n = true
    · rw [if_pos e] at hi
      exact nar_sub h i hi
    · rw [if_neg e] at hi
      exact ih i hi
theorem r_possibleBy {N y k : Nat} {σ : pS} (hN : 20000 < N) (hw : WInv (σ.2.1 (y + 1))) : fX12_possibleBy N (G2 y) y (nI k) σ = some (nb (σ.2.1 (y + 1)) (σ.2.1 (y + 1) 12) k 6) := by
  unfold fX12_possibleBy fX12_possibleBy_b10
  simp only [g2r_0_1, g2r_0_2, g2r_0_3, g2r_0_4, g2r_0_5, g2r_0_8, g2r_0_15, g2r_0_17, g2r_0_25, g2r_0_26, g2r_0_27, g2r_0_28, g2n_1, g2n_2, g2n_3, g2n_4, g2n_5, g2n_6, g2n_7, g2n_8, g2n_9, g2n_10, g2n_11, g2n_12]
  refine lp_for (fun t => (nb (σ.2.1 (y + 1)) (σ.2.1 (y + 1) 12) k t, nI t)) 6 _ (by omega) ?_ ?_
  · intro t ht q
    dsimp only
    rw [if_neg (l6 ht), has_fn2 (by omega), b_some, ite01, nI_1]
    show _ = q ((if bit (nI k) t = true then nar _ (nb _ _ k t) t else nb _ _ k t), _)
    by_cases e : bit (nI k) t = true
    · rw [if_pos e, if_pos e, r_staysOf hN hw (by omega), b_some]
    · rw [if_neg e, if_neg e]
  · intro q
    dsimp only
    rw [if_pos l6e]
theorem c_narrowedByAll {N z k : Nat} {p : Int32} {σ : pS} {w : Nat → Int32} (hN : 20000 < N) (hw : WInv w) (h : TaleR (σ.1 (z + 4)) (fun j => σ.2.1 (z + (5 + j))) w) (hp : ∀ i, bit p i = true → i < cN w 0) : fX8_narrowedByAll N (G1 z) (z + 4) p (bea w) (nI k) σ = some (nb w p k 6) := by
  unfold fX8_narrowedByAll fX8_narrowedByAll_b6
  refine lp_for (fun t => (nb w p k t, nI t)) 6 _ (by omega) ?_ ?_
  · intro t ht q
    dsimp only
    rw [if_neg (l6 ht), has_fn (by omega), b_some, ite01, nI_1]
    show _ = q ((if bit (nI k) t = true then nar _ (nb _ _ k t) t else nb _ _ k t), _)
    by_cases e : bit (nI k) t = true
    · rw [if_pos e, if_pos e, c_narrowed hw h ht (nb_sub hw hp k t), b_some]
    · rw [if_neg e, if_neg e]
  · intro q
    dsimp only
    rw [if_pos l6e]
def fwI : Option Nat → Int32
  | none => 1000
  | some m => nI (pcN m)
theorem lea_c {N z y : Nat} {σ1 σ2 : pS} (hN : 20000 < N) (h : Sim z y σ1 σ2) (h0 : ¬ σ2.2.1 (y + 1) 0 = 0) : ∃ r, (∃ f, Bst (fun k => decide (nb (σ2.2.1 (y + 1)) (σ2.2.1 (y + 1) 12) k 6 = (1 : Int32) <<< (σ2.2.1 (y + 1) 11 &&& 31))) pcN 0 64 f ∧ r = oD (-1) f) ∧ fX11_learns N (G1 z) z σ1 = some r := by
  have wi := h.wi
  have eb : bea (σ2.2.1 (y + 1)) = σ2.2.1 (y + 1) 11 := if_neg h0
  unfold fX11_learns fX8_tellingTraits fX8_tellingTraits_b16
  simp only [g1r_0_0, g1r_0_1, g1r_0_2, g1r_0_3, g1r_0_4, g1r_0_5, g1r_0_6, g1r_0_7, g1r_0_8, g1r_1_5, g1n_2, g1r_3_0, g1r_3_1, g1r_3_2, g1r_4_9, g1r_4_10, g1r_4_11, g1r_4_12, g1r_4_13, g1r_4_14, g1r_4_15, g1r_4_16, g1r_4_17, g1n_5, g1n_6, g1n_7, g1n_8, g1n_9, g1n_10, g1n_11, g1n_12, g1n_13, g1r_14_2, g1r_14_3, g1r_14_4, g1r_14_5, g1r_14_6, g1n_15, g1n_16, g1n_17, g1n_18, g1n_19, g1r_20_7, g1r_20_8, g1n_21, g1r_22_2, g1n_23, g1r_24_0, g1r_24_1, g1r_24_2, g1r_25_9, g1r_25_10, g1r_25_11, g1r_25_12, g1r_25_13, g1r_25_14, g1r_25_15, g1r_25_16, g1r_25_17, g1n_26, g1n_27, g1n_28, g1n_29, g1n_30, g1n_31, g1n_32, g1n_33, g1n_34, g1r_35_2, g1r_35_3, g1r_35_4, g1r_35_5, g1r_35_6, g1n_36, g1n_37, g1n_38, g1n_39, g1n_40, g1r_41_7, g1r_41_8, g1n_42, g1r_43_2, g1n_44, g1r_45_0, g1r_45_1, g1r_45_2, g1r_46_9, g1r_46_10, g1r_46_11, g1r_46_12, g1r_46_13, g1r_46_14, g1r_46_15, g1r_46_16, g1r_46_17, g1n_47, g1n_48, g1n_49, g1n_50, g1n_51, g1n_52, g1n_53, g1n_54, g1n_55, g1r_56_2, g1r_56_3, g1r_56_4, g1r_56_5, g1r_56_6, g1n_57, g1n_58, g1n_59, g1n_60, g1n_61, g1r_62_7, g1r_62_8, g1n_63, g1r_64_2, g1n_65, g1r_66_2, g1n_67, g1r_68_7, g1r_68_8, g1n_69, g1r_70_2, g1n_71, g1r_72_7, g1r_72_8, g1n_73, g1r_74_2, g1n_75, g1r_76_7, g1r_76_8, g1n_77, g1r_78_2, g1n_79, g1r_80_7, g1r_80_8, g1n_81, g1r_82_2, g1n_83, g1r_84_7, g1r_84_8, g1n_85, g1r_86_2, g1n_87, g1r_88_7, g1r_88_8, g1n_89, g1r_90_2, g1n_91, g1r_92_7, g1r_92_8, g1n_93, g1r_94_2, g1n_95, g1r_96_7, g1r_96_8, g1n_97, g1r_98_2, g1n_99, g1r_100_7, g1r_100_8, g1n_101, g1r_102_2, g1n_103, g1r_104_7, g1r_104_8, g1n_105, g1r_106_2, g1n_107, g1r_108_7, g1r_108_8, g1n_109, g1r_110_2, g1n_111, g1r_112_7, g1r_112_8, g1n_113, g1r_114_2, g1n_115, g1r_116_7, g1r_116_8, g1n_117, g1r_118_2, g1n_119, g1r_120_0, g1r_120_1, g1r_120_2, g1r_121_7, g1r_121_8, g1n_122, g1r_123_2, g1n_124, g1n_125, g1n_126, g1r_127_0, g1r_127_1, g1r_127_2, g1r_127_3, g1r_128_7, g1r_128_8, g1n_129, g1r_130_2, g1n_131, g1n_132, g1n_133, g1n_134, g1r_135_7, g1n_136, g1n_150]
  rw [h.pos, h.bea, if_pos (by rw [eb, i_le]; exact wi.hB.1)]
  suffices hh : ∃ r, (∃ f, Bst (fun k => decide (nb (σ2.2.1 (y + 1)) (σ2.2.1 (y + 1) 12) k 6 = (1 : Int32) <<< (σ2.2.1 (y + 1) 11 &&& 31))) pcN 0 64 f ∧ r = oD (-1) f) ∧ lp (fun (k16 : Int32 × Int32 × Int32 → Option (Int32)) (b : Int32 × Int32 × Int32) => if (64 : Int32) ≤ b.2.2 then (some b.1) else ((fJ6_bitCount_0f7a4 N (G1 z) b.2.2 σ1).bind (fun q1 => if b.2.1 ≤ q1 then (k16 (b.1, b.2.1, b.2.2 + (1 : Int32))) else ((fX8_narrowedByAll N (G1 z) (z + 4) (σ2.2.1 (y + 1) 12) (bea (σ2.2.1 (y + 1))) b.2.2 σ1).bind (fun q2 => if q2 = ((1 : Int32) <<< (bea (σ2.2.1 (y + 1)) &&& 31)) then ((fJ6_bitCount_0f7a4 N (G1 z) b.2.2 σ1).bind (fun q3 => k16 (b.2.2, q3, b.2.2 + (1 : Int32)))) else (k16 (b.1, b.2.1, b.2.2 + (1 : Int32)))))))) N (-1, 1000, 0) = some r by
    obtain ⟨r, h1, h2⟩ := hh
    exact ⟨r, h1, by rw [h2]; rfl⟩
  refine lp_forR (fun k b => ∃ f, Bst (fun k => decide (nb (σ2.2.1 (y + 1)) (σ2.2.1 (y + 1) 12) k 6 = (1 : Int32) <<< (σ2.2.1 (y + 1) 11 &&& 31))) pcN 0 k f ∧ b = (oD (-1) f, fwI f, nI k)) _ 64 (by omega) ?_ ?_ ⟨none, Bst.z, rfl⟩
  · rintro k hk b ⟨f, hf, rfl⟩
    left
    have l10 := pcN_10 k
    dsimp only
    simp only [if_neg (l64 hk), bc_fn, b_some, c_narrowedByAll hN wi h.tale wi.pos, bc_pc k (by omega)]
    rw [eb]
    cases f with
    | none =>
      have l : ¬ fwI none ≤ nI (pcN k) := nI_ge (b := 1000) (by omega) (by omega)
      by_cases p : nb (σ2.2.1 (y + 1)) (σ2.2.1 (y + 1) 12) k 6 = (1 : Int32) <<< (σ2.2.1 (y + 1) 11 &&& 31)
      · refine ⟨(nI k, nI (pcN k), nI (k + 1)), ⟨some k, hf.up_0 (decide_eq_true p), rfl⟩, fun q => ?_⟩
        rw [if_neg l, if_pos p, ← nI_1]
      · refine ⟨(-1, 1000, nI (k + 1)), ⟨none, hf.up_n (decide_eq_false p), rfl⟩, fun q => ?_⟩
        rw [if_neg l, if_neg p, ← nI_1]
        rfl
    | some m =>
      have hm := hf.1.2.1
      have l11 := pcN_10 m
      by_cases l : fwI (some m) ≤ nI (pcN k)
      · refine ⟨(nI m, nI (pcN m), nI (k + 1)), ⟨some m, hf.up_g ((nI_leI (by omega) (by omega)).mp l), rfl⟩, fun q => ?_⟩
        rw [if_pos l, ← nI_1]
        rfl
      · have l2 : pcN k < pcN m := by
          have : ¬ pcN m ≤ pcN k := fun e => l ((nI_leI (by omega) (by omega)).mpr e)
          omega
        by_cases p : nb (σ2.2.1 (y + 1)) (σ2.2.1 (y + 1) 12) k 6 = (1 : Int32) <<< (σ2.2.1 (y + 1) 11 &&& 31)
        · refine ⟨(nI k, nI (pcN k), nI (k + 1)), ⟨some k, hf.up_l (decide_eq_true p) l2, rfl⟩, fun q => ?_⟩
          rw [if_neg l, if_pos p, ← nI_1]
        · refine ⟨(nI m, nI (pcN m), nI (k + 1)), ⟨some m, hf.up_n (decide_eq_false p), rfl⟩, fun q => ?_⟩
          rw [if_neg l, if_neg p, ← nI_1]
          rfl
  · rintro b ⟨f, hf, rfl⟩
    refine ⟨oD (-1) f, ⟨f, hf, rfl⟩, fun q => ?_⟩
    dsimp only
    rw [if_pos l64e]
theorem lea_r {N y : Nat} {σ : pS} (hN : 20000 < N) (wi : WInv (σ.2.1 (y + 1))) (h0 : ¬ σ.2.1 (y + 1) 0 = 0) : ∃ r, (∃ f, Bst (fun k => decide (nb (σ.2.1 (y + 1)) (σ.2.1 (y + 1) 12) k 6 = (1 : Int32) <<< (σ.2.1 (y + 1) 11 &&& 31))) pcN 0 64 f ∧ r = (oD (-1) f, putF σ y 0 0)) ∧ fX12_learns N (G2 y) y σ = some r := by
  unfold fX12_learns fX12_learns_b10
  have n0 : ¬ σ.2.1 (y + 1) 0 ≤ 0 := by
    have a := wi.1.1
    have b : (σ.2.1 (y + 1) 0).toInt ≠ 0 := fun q => h0 (i_ext q)
    rw [i_le, show (0 : Int32).toInt = 0 from rfl]
    omega
  refine lp_forR (fun j b => ∃ f, Bst (fun k => decide (nb (σ.2.1 (y + 1)) (σ.2.1 (y + 1) 12) k 6 = (1 : Int32) <<< (σ.2.1 (y + 1) 11 &&& 31))) pcN (64 - j) 64 f ∧ b = (oD (-1) f, nI (64 - j) + (-1), putF σ y 0 0)) _ 64 (by omega) ?_ ?_ ⟨none, Bst.z, rfl⟩
  · rintro j hj b ⟨f, hf, rfl⟩
    left
    obtain ⟨k, hk⟩ : ∃ k, 64 - j = k + 1 := ⟨63 - j, by omega⟩
    have hk64 : k < 64 := by omega
    rw [hk] at hf
    rw [hk, show 64 - (j + 1) = k by omega, dn_s]
    dsimp only
    have e36 : ∀ (q : Int32 × Int32 × pS → Option (Int32 × pS)) (x : Int32), fX12_learns_b36 N (G2 y) q y x (nI k) (putF σ y 0 0) = if nb (σ.2.1 (y + 1)) (σ.2.1 (y + 1) 12) k 6 = (1 : Int32) <<< (σ.2.1 (y + 1) 11 &&& 31) then q (nI k, nI k + (-1), putF σ y 0 0) else q (x, nI k + (-1), putF σ y 0 0) := by
      intro q x
      unfold fX12_learns_b36
      rw [r_possibleBy (σ := putF σ y 0 0) hN wi, b_some]
      simp only [g2r_0_1, g2r_0_2, g2r_0_3, g2r_0_4, g2r_0_5, g2r_0_8, g2r_0_15, g2r_0_17, g2r_0_25, g2r_0_26, g2r_0_27, g2r_0_28, g2n_1, g2n_2, g2n_3, g2n_4, g2n_5, g2n_6, g2n_7, g2n_8, g2n_9, g2n_10, g2n_11, g2n_12]
      rfl
    simp only [if_neg (show ¬ nI k < 0 from nI_pos (by omega)), bc_fn, b_some, r_names, e36, pfA, if_neg n0]
    cases f with
    | none =>
      have l : oD (-1) none < 0 := by decide
      by_cases p : nb (σ.2.1 (y + 1)) (σ.2.1 (y + 1) 12) k 6 = (1 : Int32) <<< (σ.2.1 (y + 1) 11 &&& 31)
      · refine ⟨(nI k, nI k + (-1), putF σ y 0 0), ⟨some k, hf.dn_0 hk64 (decide_eq_true p), rfl⟩, fun q => ?_⟩
        rw [if_pos l, if_pos p]
      · refine ⟨(oD (-1) none, nI k + (-1), putF σ y 0 0), ⟨none, hf.dn_n (decide_eq_false p), rfl⟩, fun q => ?_⟩
        rw [if_pos l, if_neg p]
    | some m =>
      have hm := hf.1.2.1
      have l0 : ¬ oD (-1) (some m) < 0 := nI_pos (by omega)
      by_cases l : bc (oD (-1) (some m)) < bc (nI k)
      · refine ⟨(nI m, nI k + (-1), putF σ y 0 0), ⟨some m, hf.dn_g ((bc_lt (by omega) (by omega)).mp l), rfl⟩, fun q => ?_⟩
        rw [if_neg l0, if_pos l]
        rfl
      · have l2 : pcN k ≤ pcN m := by
          have : ¬ pcN m < pcN k := fun e => l ((bc_lt (by omega) (by omega)).mpr e)
          omega
        by_cases p : nb (σ.2.1 (y + 1)) (σ.2.1 (y + 1) 12) k 6 = (1 : Int32) <<< (σ.2.1 (y + 1) 11 &&& 31)
        · refine ⟨(nI k, nI k + (-1), putF σ y 0 0), ⟨some k, hf.dn_l hk64 (decide_eq_true p) l2, rfl⟩, fun q => ?_⟩
          rw [if_neg l0, if_neg l, if_pos p]
        · refine ⟨(nI m, nI k + (-1), putF σ y 0 0), ⟨some m, hf.dn_n (decide_eq_false p), rfl⟩, fun q => ?_⟩
          rw [if_neg l0, if_neg l, if_neg p]
          rfl
  · rintro b ⟨f, hf, rfl⟩
    refine ⟨(oD (-1) f, putF σ y 0 0), ⟨f, hf, rfl⟩, fun q => ?_⟩
    dsimp only
    rw [if_pos (by decide)]
theorem lp_one {β α : Type} {body : (β → Option α) → β → Option α} {N : Nat} {b : β} {r : Option α} (hN : 0 < N) (h : ∀ q, body q b = r) : lp body N b = r := by
  obtain ⟨M, rfl⟩ : ∃ M, N = M + 1 := ⟨N - 1, by omega⟩
  exact h _
theorem gd_learns {N z y : Nat} (hN : 20000 < N) : Gd_learns N (G1 z) (G2 y) z y (z + 150) (Sim z y) := by
  intro σ1 σ2 h
  by_cases h0 : σ2.2.1 (y + 1) 0 = 0
  · refine ⟨-1, putF σ2 y 0 0, ?_, ?_, h.t0⟩
    · unfold fX11_learns fX8_tellingTraits
      simp only [g1r_0_0, g1r_0_1, g1r_0_2, g1r_0_3, g1r_0_4, g1r_0_5, g1r_0_6, g1r_0_7, g1r_0_8, g1r_1_5, g1n_2, g1r_3_0, g1r_3_1, g1r_3_2, g1r_4_9, g1r_4_10, g1r_4_11, g1r_4_12, g1r_4_13, g1r_4_14, g1r_4_15, g1r_4_16, g1r_4_17, g1n_5, g1n_6, g1n_7, g1n_8, g1n_9, g1n_10, g1n_11, g1n_12, g1n_13, g1r_14_2, g1r_14_3, g1r_14_4, g1r_14_5, g1r_14_6, g1n_15, g1n_16, g1n_17, g1n_18, g1n_19, g1r_20_7, g1r_20_8, g1n_21, g1r_22_2, g1n_23, g1r_24_0, g1r_24_1, g1r_24_2, g1r_25_9, g1r_25_10, g1r_25_11, g1r_25_12, g1r_25_13, g1r_25_14, g1r_25_15, g1r_25_16, g1r_25_17, g1n_26, g1n_27, g1n_28, g1n_29, g1n_30, g1n_31, g1n_32, g1n_33, g1n_34, g1r_35_2, g1r_35_3, g1r_35_4, g1r_35_5, g1r_35_6, g1n_36, g1n_37, g1n_38, g1n_39, g1n_40, g1r_41_7, g1r_41_8, g1n_42, g1r_43_2, g1n_44, g1r_45_0, g1r_45_1, g1r_45_2, g1r_46_9, g1r_46_10, g1r_46_11, g1r_46_12, g1r_46_13, g1r_46_14, g1r_46_15, g1r_46_16, g1r_46_17, g1n_47, g1n_48, g1n_49, g1n_50, g1n_51, g1n_52, g1n_53, g1n_54, g1n_55, g1r_56_2, g1r_56_3, g1r_56_4, g1r_56_5, g1r_56_6, g1n_57, g1n_58, g1n_59, g1n_60, g1n_61, g1r_62_7, g1r_62_8, g1n_63, g1r_64_2, g1n_65, g1r_66_2, g1n_67, g1r_68_7, g1r_68_8, g1n_69, g1r_70_2, g1n_71, g1r_72_7, g1r_72_8, g1n_73, g1r_74_2, g1n_75, g1r_76_7, g1r_76_8, g1n_77, g1r_78_2, g1n_79, g1r_80_7, g1r_80_8, g1n_81, g1r_82_2, g1n_83, g1r_84_7, g1r_84_8, g1n_85, g1r_86_2, g1n_87, g1r_88_7, g1r_88_8, g1n_89, g1r_90_2, g1n_91, g1r_92_7, g1r_92_8, g1n_93, g1r_94_2, g1n_95, g1r_96_7, g1r_96_8, g1n_97, g1r_98_2, g1n_99, g1r_100_7, g1r_100_8, g1n_101, g1r_102_2, g1n_103, g1r_104_7, g1r_104_8, g1n_105, g1r_106_2, g1n_107, g1r_108_7, g1r_108_8, g1n_109, g1r_110_2, g1n_111, g1r_112_7, g1r_112_8, g1n_113, g1r_114_2, g1n_115, g1r_116_7, g1r_116_8, g1n_117, g1r_118_2, g1n_119, g1r_120_0, g1r_120_1, g1r_120_2, g1r_121_7, g1r_121_8, g1n_122, g1r_123_2, g1n_124, g1n_125, g1n_126, g1r_127_0, g1r_127_1, g1r_127_2, g1r_127_3, g1r_128_7, g1r_128_8, g1n_129, g1r_130_2, g1n_131, g1n_132, g1n_133, g1n_134, g1r_135_7, g1n_136, g1n_150]
      rw [h.bea, show bea (σ2.2.1 (y + 1)) = -1 from if_pos h0]
      rfl
    · unfold fX12_learns fX12_learns_b10
      refine lp_one (by omega) (fun q => ?_)
      dsimp only
      rw [if_neg (by decide), r_names, b_some, pfA, h0]
      rfl
  · obtain ⟨r, ⟨f, hf, rfl⟩, h1⟩ := lea_c hN h h0
    obtain ⟨r2, ⟨g, hg, rfl⟩, h2⟩ := lea_r (σ := σ2) hN h.wi h0
    rw [hg.uniq hf] at h2
    exact ⟨_, _, h1, h2, h.t0⟩
/-! best -/
def bsG (w : Nat → Int32) (t : Nat) : Int32 := jmax (bc (w 12 &&& hv w t)) (bc (w 12) - bc (w 12 &&& hv w t))
def bsS (w : Nat → Int32) (L : Int32) : Nat → Int32 × Int32 := itN (fun t x => if bsG w t < x.2 then (nI t, bsG w t) else x) (-1, L)
theorem bsS_eq {w : Nat → Int32} {L M : Int32} (h1 : bsG w 0 < L) (h2 : bsG w 0 < M) : ∀ n, bsS w L (n + 1) = bsS w M (n + 1) := by
  intro n
  induction n with
  | zero =>
    show (if bsG w 0 < L then _ else _) = (if bsG w 0 < M then _ else _)
    rw [if_pos h1, if_pos h2]
  | succ n ih =>
    show (if bsG w (n + 1) < (bsS w L (n + 1)).2 then _ else bsS w L (n + 1)) = (if bsG w (n + 1) < (bsS w M (n + 1)).2 then _ else bsS w M (n + 1))
    rw [ih]
theorem bsG_bd {w : Nat → Int32} (h : WInv w) (t : Nat) : (bsG w t).toInt ≤ 10 := by
  obtain ⟨a, a1, a2, _⟩ := bc_bd h.c0 h.pos
  obtain ⟨b, b1, b2, _⟩ := bc_bd (s := w 12 &&& hv w t) h.c0 (fun i hi => h.pos i (by rw [bit_and, Bool.and_eq_true] at hi; exact hi.1))
  unfold bsG jmax
  rw [a2, b2]
  have e1 : (nI a).toInt = a := nI_toInt (by omega)
  have e2 : (nI b).toInt = b := nI_toInt (by omega)
  split
  · rw [i_sub (by omega) (by omega)]
    omega
  · omega
theorem gd_best {N z y : Nat} (hN : 20000 < N) : Gd_best N (G1 z) (G2 y) z y (z + 150) (Sim z y) := by
  intro σ1 σ2 h
  have wi := h.wi
  obtain ⟨c, c1, c2, c3⟩ := bc_bd wi.c0 wi.pos
  by_cases h0 : 2 ≤ c
  · have g0 := bsG_bd wi 0
    have b1 : bsG (σ2.2.1 (y + 1)) 0 < 1000 := by
      rw [i_lt, show (1000 : Int32).toInt = 1000 from rfl]
      omega
    have b2 : bsG (σ2.2.1 (y + 1)) 0 < 1000000 := by
      rw [i_lt, show (1000000 : Int32).toInt = 1000000 from rfl]
      omega
    refine ⟨(bsS (σ2.2.1 (y + 1)) 1000 6).1, putF σ2 y 0 0, ?_, ?_, h.t0⟩
    · unfold fX11_best fX8_partingTrait fX8_partingTrait_b19
      simp only [g1r_0_0, g1r_0_1, g1r_0_2, g1r_0_3, g1r_0_4, g1r_0_5, g1r_0_6, g1r_0_7, g1r_0_8, g1r_1_5, g1n_2, g1r_3_0, g1r_3_1, g1r_3_2, g1r_4_9, g1r_4_10, g1r_4_11, g1r_4_12, g1r_4_13, g1r_4_14, g1r_4_15, g1r_4_16, g1r_4_17, g1n_5, g1n_6, g1n_7, g1n_8, g1n_9, g1n_10, g1n_11, g1n_12, g1n_13, g1r_14_2, g1r_14_3, g1r_14_4, g1r_14_5, g1r_14_6, g1n_15, g1n_16, g1n_17, g1n_18, g1n_19, g1r_20_7, g1r_20_8, g1n_21, g1r_22_2, g1n_23, g1r_24_0, g1r_24_1, g1r_24_2, g1r_25_9, g1r_25_10, g1r_25_11, g1r_25_12, g1r_25_13, g1r_25_14, g1r_25_15, g1r_25_16, g1r_25_17, g1n_26, g1n_27, g1n_28, g1n_29, g1n_30, g1n_31, g1n_32, g1n_33, g1n_34, g1r_35_2, g1r_35_3, g1r_35_4, g1r_35_5, g1r_35_6, g1n_36, g1n_37, g1n_38, g1n_39, g1n_40, g1r_41_7, g1r_41_8, g1n_42, g1r_43_2, g1n_44, g1r_45_0, g1r_45_1, g1r_45_2, g1r_46_9, g1r_46_10, g1r_46_11, g1r_46_12, g1r_46_13, g1r_46_14, g1r_46_15, g1r_46_16, g1r_46_17, g1n_47, g1n_48, g1n_49, g1n_50, g1n_51, g1n_52, g1n_53, g1n_54, g1n_55, g1r_56_2, g1r_56_3, g1r_56_4, g1r_56_5, g1r_56_6, g1n_57, g1n_58, g1n_59, g1n_60, g1n_61, g1r_62_7, g1r_62_8, g1n_63, g1r_64_2, g1n_65, g1r_66_2, g1n_67, g1r_68_7, g1r_68_8, g1n_69, g1r_70_2, g1n_71, g1r_72_7, g1r_72_8, g1n_73, g1r_74_2, g1n_75, g1r_76_7, g1r_76_8, g1n_77, g1r_78_2, g1n_79, g1r_80_7, g1r_80_8, g1n_81, g1r_82_2, g1n_83, g1r_84_7, g1r_84_8, g1n_85, g1r_86_2, g1n_87, g1r_88_7, g1r_88_8, g1n_89, g1r_90_2, g1n_91, g1r_92_7, g1r_92_8, g1n_93, g1r_94_2, g1n_95, g1r_96_7, g1r_96_8, g1n_97, g1r_98_2, g1n_99, g1r_100_7, g1r_100_8, g1n_101, g1r_102_2, g1n_103, g1r_104_7, g1r_104_8, g1n_105, g1r_106_2, g1n_107, g1r_108_7, g1r_108_8, g1n_109, g1r_110_2, g1n_111, g1r_112_7, g1r_112_8, g1n_113, g1r_114_2, g1n_115, g1r_116_7, g1r_116_8, g1n_117, g1r_118_2, g1n_119, g1r_120_0, g1r_120_1, g1r_120_2, g1r_121_7, g1r_121_8, g1n_122, g1r_123_2, g1n_124, g1n_125, g1n_126, g1r_127_0, g1r_127_1, g1r_127_2, g1r_127_3, g1r_128_7, g1r_128_8, g1n_129, g1r_130_2, g1n_131, g1n_132, g1n_133, g1n_134, g1r_135_7, g1n_136, g1n_150]
      rw [h.pos, bc_fn, b_some, c2, if_pos (show (2 : Int32) ≤ nI c from (nI_leI (a := 2) (by omega) (by omega)).mpr h0)]
      rw [show ∀ x : Option Int32, (x.bind fun q1 => some q1) = x from fun x => by cases x <;> rfl]
      refine lp_for (fun k => ((bsS (σ2.2.1 (y + 1)) 1000 k).1, (bsS (σ2.2.1 (y + 1)) 1000 k).2, nI k)) 6 _ (by omega) ?_ ?_
      · intro k hk q
        dsimp only
        rw [if_neg (l6 hk), at_fn g1n_7 hk (by omega), b_some, bc_fn, b_some, b_some, ← c2, show σ1.2.1 (z + 7) k = hv (σ2.2.1 (y + 1)) k from bear_eq wi h.tale hk, nI_1]
        show (if (bsS (σ2.2.1 (y + 1)) 1000 k).2 ≤ bsG (σ2.2.1 (y + 1)) k then _ else _) = q ((if bsG (σ2.2.1 (y + 1)) k < (bsS (σ2.2.1 (y + 1)) 1000 k).2 then _ else bsS (σ2.2.1 (y + 1)) 1000 k).1, (if bsG (σ2.2.1 (y + 1)) k < (bsS (σ2.2.1 (y + 1)) 1000 k).2 then _ else bsS (σ2.2.1 (y + 1)) 1000 k).2, _)
        by_cases e : bsG (σ2.2.1 (y + 1)) k < (bsS (σ2.2.1 (y + 1)) 1000 k).2
        · rw [if_pos e, if_neg (by rw [i_lt] at e; rw [i_le]; omega)]
          rfl
        · rw [if_neg e, if_pos (by rw [i_lt] at e; rw [i_le]; omega)]
      · intro q
        dsimp only
        rw [if_pos l6e]
    · unfold fX12_best fX12_best_b13
      rw [bsS_eq b1 b2 5]
      refine lp_for (fun k => ((bsS (σ2.2.1 (y + 1)) 1000000 k).1, (bsS (σ2.2.1 (y + 1)) 1000000 k).2, nI k, putF σ2 y 0 0)) 6 _ (by omega) ?_ ?_
      · intro k hk q
        simp only [g2r_0_1, g2r_0_2, g2r_0_3, g2r_0_4, g2r_0_5, g2r_0_8, g2r_0_15, g2r_0_17, g2r_0_25, g2r_0_26, g2r_0_27, g2r_0_28, g2n_1, g2n_2, g2n_3, g2n_4, g2n_5, g2n_6, g2n_7, g2n_8, g2n_9, g2n_10, g2n_11, g2n_12]
        rw [if_neg (l6 hk), r_howMany, b_some, pfA, c2, if_neg (show ¬ nI c ≤ 1 from nI_ge (a := 1) (by omega) (by omega)), r_whoHave (σ := putF σ2 y 0 0) hN wi (by omega), b_some, bc_fn, b_some, b_some, nI_1, ← c2]
        show (if bsG (σ2.2.1 (y + 1)) k < (bsS (σ2.2.1 (y + 1)) 1000000 k).2 then _ else _) = q ((if bsG (σ2.2.1 (y + 1)) k < (bsS (σ2.2.1 (y + 1)) 1000000 k).2 then _ else bsS (σ2.2.1 (y + 1)) 1000000 k).1, (if bsG (σ2.2.1 (y + 1)) k < (bsS (σ2.2.1 (y + 1)) 1000000 k).2 then _ else bsS (σ2.2.1 (y + 1)) 1000000 k).2, _, _)
        by_cases e : bsG (σ2.2.1 (y + 1)) k < (bsS (σ2.2.1 (y + 1)) 1000000 k).2
        · rw [if_pos e, if_pos e]
          rfl
        · rw [if_neg e, if_neg e]
      · intro q
        dsimp only
        rw [if_pos l6e]
  · refine ⟨-1, putF σ2 y 0 0, ?_, ?_, h.t0⟩
    · unfold fX11_best fX8_partingTrait
      simp only [g1r_0_0, g1r_0_1, g1r_0_2, g1r_0_3, g1r_0_4, g1r_0_5, g1r_0_6, g1r_0_7, g1r_0_8, g1r_1_5, g1n_2, g1r_3_0, g1r_3_1, g1r_3_2, g1r_4_9, g1r_4_10, g1r_4_11, g1r_4_12, g1r_4_13, g1r_4_14, g1r_4_15, g1r_4_16, g1r_4_17, g1n_5, g1n_6, g1n_7, g1n_8, g1n_9, g1n_10, g1n_11, g1n_12, g1n_13, g1r_14_2, g1r_14_3, g1r_14_4, g1r_14_5, g1r_14_6, g1n_15, g1n_16, g1n_17, g1n_18, g1n_19, g1r_20_7, g1r_20_8, g1n_21, g1r_22_2, g1n_23, g1r_24_0, g1r_24_1, g1r_24_2, g1r_25_9, g1r_25_10, g1r_25_11, g1r_25_12, g1r_25_13, g1r_25_14, g1r_25_15, g1r_25_16, g1r_25_17, g1n_26, g1n_27, g1n_28, g1n_29, g1n_30, g1n_31, g1n_32, g1n_33, g1n_34, g1r_35_2, g1r_35_3, g1r_35_4, g1r_35_5, g1r_35_6, g1n_36, g1n_37, g1n_38, g1n_39, g1n_40, g1r_41_7, g1r_41_8, g1n_42, g1r_43_2, g1n_44, g1r_45_0, g1r_45_1, g1r_45_2, g1r_46_9, g1r_46_10, g1r_46_11, g1r_46_12, g1r_46_13, g1r_46_14, g1r_46_15, g1r_46_16, g1r_46_17, g1n_47, g1n_48, g1n_49, g1n_50, g1n_51, g1n_52, g1n_53, g1n_54, g1n_55, g1r_56_2, g1r_56_3, g1r_56_4, g1r_56_5, g1r_56_6, g1n_57, g1n_58, g1n_59, g1n_60, g1n_61, g1r_62_7, g1r_62_8, g1n_63, g1r_64_2, g1n_65, g1r_66_2, g1n_67, g1r_68_7, g1r_68_8, g1n_69, g1r_70_2, g1n_71, g1r_72_7, g1r_72_8, g1n_73, g1r_74_2, g1n_75, g1r_76_7, g1r_76_8, g1n_77, g1r_78_2, g1n_79, g1r_80_7, g1r_80_8, g1n_81, g1r_82_2, g1n_83, g1r_84_7, g1r_84_8, g1n_85, g1r_86_2, g1n_87, g1r_88_7, g1r_88_8, g1n_89, g1r_90_2, g1n_91, g1r_92_7, g1r_92_8, g1n_93, g1r_94_2, g1n_95, g1r_96_7, g1r_96_8, g1n_97, g1r_98_2, g1n_99, g1r_100_7, g1r_100_8, g1n_101, g1r_102_2, g1n_103, g1r_104_7, g1r_104_8, g1n_105, g1r_106_2, g1n_107, g1r_108_7, g1r_108_8, g1n_109, g1r_110_2, g1n_111, g1r_112_7, g1r_112_8, g1n_113, g1r_114_2, g1n_115, g1r_116_7, g1r_116_8, g1n_117, g1r_118_2, g1n_119, g1r_120_0, g1r_120_1, g1r_120_2, g1r_121_7, g1r_121_8, g1n_122, g1r_123_2, g1n_124, g1n_125, g1n_126, g1r_127_0, g1r_127_1, g1r_127_2, g1r_127_3, g1r_128_7, g1r_128_8, g1n_129, g1r_130_2, g1n_131, g1n_132, g1n_133, g1n_134, g1r_135_7, g1n_136, g1n_150]
      rw [h.pos, bc_fn, b_some, c2, if_neg (show ¬ (2 : Int32) ≤ nI c from nI_ge (b := 2) (by omega) (by omega))]
      rfl
    · unfold fX12_best fX12_best_b13
      refine lp_one (by omega) (fun q => ?_)
      dsimp only
      rw [if_neg (by decide), r_howMany, b_some, pfA, c2, if_pos (show nI c ≤ 1 from nI_le (b := 1) (by omega) (by omega))]
