/-! the law -/
theorem getD_mid {α : Type} {a b c : List α} {k : Nat} {d : α} (hk : k < b.length) : (a ++ b ++ c).getD (a.length + k) d = b.getD k d := by
  rw [List.append_assoc]
  simp [List.getD, List.getElem?_append_right, List.getElem?_append_left hk]
/-- a line that is read says what it says -/
theorem lrow_line {K A En S w u : Nat → Int32} {E : List Int32} {R : List (Int32 × Int32)} {i : Nat} (hi : i < 12) (h : LRow K A En u E R i) (hw : ∀ k, k < 848 → w (384 + k) = u (1233 + k)) (hS : ∀ j, j < E.length → S j = E.getD j 0) (hR : ∀ j, j < R.length → u (1281 + 2 * j) = (R.getD j (0, 0)).1 ∧ u (1282 + 2 * j) = (R.getD j (0, 0)).2) (lE : E.length ≤ 400) (lR : R.length ≤ 400) : (w (384 + 4 * i) = 0 ∨ w (384 + 4 * i) = 1 ∨ w (384 + 4 * i) = 2) ∧ (0 ≤ (w (385 + 4 * i)).toInt ∧ (w (385 + 4 * i)).toInt ≤ 20) ∧ K i = (if w (384 + 4 * i) = 2 then 1 else 0) ∧ A i = (if w (384 + 4 * i) = 1 then 0 - w (385 + 4 * i) else w (385 + 4 * i)) ∧ LineR En S w i := by
  obtain ⟨h1, h2, h3, h4, E0, C, E1, R0, Rn, R1, rfl, rfl, h5, h6, h7, h8, h9⟩ := h
  have w0 : w (384 + 4 * i) = u (1233 + 4 * i) := hw (4 * i) (by omega)
  have w1 : w (385 + 4 * i) = u (1234 + 4 * i) := by
    have := hw (1 + 4 * i) (by omega)
    rw [show 384 + (1 + 4 * i) = 385 + 4 * i by omega, show 1233 + (1 + 4 * i) = 1234 + 4 * i by omega] at this
    exact this
  have w2 : w (386 + 4 * i) = nI R0.length := by
    have := hw (2 + 4 * i) (by omega)
    rw [show 384 + (2 + 4 * i) = 386 + 4 * i by omega, show 1233 + (2 + 4 * i) = 1235 + 4 * i by omega] at this
    exact this.trans h7
  have w3 : w (387 + 4 * i) = nI (R0.length + Rn.length) := by
    have := hw (3 + 4 * i) (by omega)
    rw [show 384 + (3 + 4 * i) = 387 + 4 * i by omega, show 1233 + (3 + 4 * i) = 1236 + 4 * i by omega] at this
    exact this.trans h8
  rw [List.length_append, List.length_append] at lE lR
  rw [w0, w1]
  refine ⟨h1, h2, h3, h4, ?_⟩
  unfold LineR
  rw [h5, h6, w2, w3, nI_toInt (by omega), nI_toInt (by omega), nI_toInt (by omega)]
  refine ⟨⟨?_, ?_, ?_⟩, ⟨?_, ?_, ?_⟩, trivial, fun g t ht => ?_⟩
  · omega
  · omega
  · omega
  · omega
  · omega
  · omega
  · rw [show ((R0.length : Int)).toNat = R0.length from rfl, show (((R0.length + Rn.length : Nat) : Int)).toNat = R0.length + Rn.length from rfl, show (((E0.length + C.length : Nat) : Int)).toNat = E0.length + C.length from rfl, Nat.add_sub_cancel_left, Nat.add_sub_cancel_left]
    rw [rH_L (w := w) (g := g) (t := t) Rn R0.length [] (fun k hk => ?_), cH_L (S := S) (g := g) (t := t) C E0.length _ (fun k hk => ?_)]
    · rcases h9 with ⟨rfl, rfl⟩ | ⟨m, cd⟩
      · refine ⟨[], rfl, Or.inl rfl, fun _ => Or.inl rfl, fun _ => ?_⟩
        show bit 1 0 = true
        decide
      · obtain ⟨vv, cd⟩ := cd
        obtain ⟨c1, c2⟩ := cd g t ht
        obtain ⟨x', bf', c3, c4⟩ := c2 1 0
        refine ⟨[b2 (vv g t)], c1 [], Or.inr ⟨_, rfl⟩, ?_⟩
        rw [c3]
        show bit x' 0 = true ↔ _
        rw [c4.1]
        cases vv g t with
        | true => exact ⟨fun _ => Or.inr rfl, fun _ => rfl⟩
        | false => exact ⟨fun q => (by cases q), fun q => q.elim (fun q => (by cases q)) (fun q => absurd q (by decide))⟩
    · rw [hS _ (by rw [List.length_append, List.length_append]; omega), getD_mid hk]
    · obtain ⟨a, b⟩ := hR (R0.length + k) (by rw [List.length_append, List.length_append]; omega)
      rw [getD_mid hk] at a b
      have e1 := hw (48 + 2 * (R0.length + k)) (by omega)
      have e2 := hw (49 + 2 * (R0.length + k)) (by omega)
      rw [show 384 + (48 + 2 * (R0.length + k)) = 432 + 2 * (R0.length + k) by omega, show 1233 + (48 + 2 * (R0.length + k)) = 1281 + 2 * (R0.length + k) by omega] at e1
      rw [show 384 + (49 + 2 * (R0.length + k)) = 433 + 2 * (R0.length + k) by omega, show 1233 + (49 + 2 * (R0.length + k)) = 1282 + 2 * (R0.length + k) by omega] at e2
      exact ⟨e1.trans a, e2.trans b⟩
theorem li_law {z y n : Nat} {υ1 υ2 : pS} {E : List Int32} {R : List (Int32 × Int32)} {w : Nat → Int32} (h : LI z y n υ1 υ2 E R) (hn : n ≤ 12) (lE : E.length ≤ 400) (lR : R.length ≤ 400) (w6 : w 6 = 1) (w3 : w 383 = nI n) (hw : ∀ k, k < 848 → w (384 + k) = υ2.2.1 (y + 1) (1233 + k)) : LawR (υ1.1 (z + 35)) (υ1.2.1 (z + 36)) (υ1.2.1 (z + 37)) (υ1.2.1 (z + 38)) (υ1.2.1 (z + 39)) w := by
  obtain ⟨h1, h2, h3, h4, h5⟩ := h
  refine ⟨by rw [if_pos w6, w3]; exact h1, fun _ => ⟨?_, fun i hi => ?_⟩⟩
  · rw [w3, nI_toInt (by omega)]
    omega
  · unfold cN at hi
    rw [w3, nI_toInt (by omega)] at hi
    have hi : i < n := hi
    exact lrow_line (by omega) (h5 i hi) hw h2.2.2.2.2.2 h3.2 lE lR
def PL (o k : Nat) : Bool := (decide (o < 25 ∨ (45 ≤ o ∧ o < 135))) && !(o == 0 && k == 9) && !(o == 1)
def QL (o : Nat) : Bool := decide (o < 25 ∨ (45 ≤ o ∧ o < 135))
theorem Sim.usl {z y : Nat} {σ1 σ2 τ1 τ2 : pS} (h : Sim z y σ1 σ2) (e1 : EE PL QL z σ1 τ1) (f : ∀ k, (k = 6 ∨ k = 7) → τ2.1 y k = σ2.1 y k) (a : ∀ j, (j = 2 ∨ j = 5) → τ2.2.1 (y + j) = σ2.2.1 (y + j)) (ew : ∀ k, k < 1232 → τ2.2.1 (y + 1) k = σ2.2.1 (y + 1) k) (h14 : τ1.1 z 9 = τ2.1 y 14) (h10 : τ1.1 (z + 1) 0 = 0) (h9 : τ2.1 y 9 = 0) : Sim z y τ1 τ2 := by
  obtain ⟨h1, h2, h3, ⟨h4, h5, h6⟩, h7, h8⟩ := h
  unfold Sim
  rw [f 6 (by omega), f 7 (by omega), a 2 (by omega), a 5 (by omega), h9]
  refine ⟨world_b ew (e1.wor (fun k => ⟨rfl, rfl, rfl⟩) rfl (by decide) h1), past_w3 (e1.past (fun o a b k => by unfold PL; simp; omega) (fun o a b => by unfold QL; simp; omega) h2) (fun k hk => ew k (by omega)), h3, ⟨(e1.1 0 10 rfl).trans h4, h5, fun e => e1.wor (fun k => ⟨rfl, rfl, rfl⟩) rfl (by decide) (h6 e)⟩, h14, h10, by decide, by decide, fun i hi => ?_⟩
  rw [show (0 : Int32).toInt.toNat = 0 from rfl] at hi
  omega
theorem WInv.six {w w' : Nat → Int32} (h : WInv w) (e : ∀ k, k ≠ 6 → w' k = w k) (b6 : w' 6 = 0 ∨ w' 6 = 1) : WInv w' := by
  have lo := h.lo
  have wi := h
  obtain ⟨h0, h1, h2, h3, h4, h5, h6, h7, h8, h9, h10, h11, h12, h13, h14, h15, h17, h37, h55, h67, h75, h83⟩ := h
  have c : ∀ k, k ≠ 6 → cN w' k = cN w k := fun k hk => by
    unfold cN
    rw [e k hk]
  refine ⟨by rw [e 0 (by omega)]; exact h0, by rw [e 1 (by omega)]; exact h1, by rw [e 2 (by omega)]; exact h2, by rw [e 3 (by omega)]; exact h3, by rw [e 4 (by omega)]; exact h4, by rw [e 5 (by omega)]; exact h5, b6, by rw [e 7 (by omega)]; exact h7, by rw [e 8 (by omega)]; exact h8, by rw [e 9 (by omega)]; exact h9, by rw [e 10 (by omega)]; exact h10, by rw [e 11 (by omega), e 0 (by omega)]; exact h11, by rw [e 12 (by omega), c 0 (by omega)]; exact h12, by rw [e 13 (by omega)]; exact h13, by rw [e 14 (by omega)]; exact h14, by rw [e 15 (by omega)]; exact h15, wi.s17 (e 0 (by omega)) (fun k a b => e k (by omega)), wi.s37 (e 1 (by omega)) (by rw [e 2 (by omega)]; exact Int.le_refl _) (fun k a b => e k (by omega)), wi.s55 (e 2 (by omega)) (fun k a b => e k (by omega)), wi.s67 (e 3 (by omega)) (fun k a b => e k (by omega)), wi.s75 (e 4 (by omega)) (fun k a b => e k (by omega)), fun i hi => ?_⟩
  rw [c 15 (by omega)] at hi
  rw [e (83 + 5 * i) (by omega), e (84 + 5 * i) (by omega), e (85 + 5 * i) (by omega), e (86 + 5 * i) (by omega), e (87 + 5 * i) (by omega), e 1 (by omega)]
  exact lo i hi
theorem r_lawCopy {N y : Nat} {x : Int32} {σ : pS} (hN : 20000 < N) : fX12_law_b52 N (G2 y) y x ((0 : Int32), σ) = some (x, putF (sA (rowA σ (y + 1) (cpF (σ.2.1 (y + 1)) (fun i => σ.2.1 (y + 1) (1232 + i)) 383 849)) (y + 1) 6 1) y 7 0) := by
  unfold fX12_law_b52
  simp only [g2r_0_1, g2n_1]
  have h0 : ((0 : Int32), σ) = (nI 0, rowA σ (y + 1) (cpF (σ.2.1 (y + 1)) (fun i => σ.2.1 (y + 1) (1232 + i)) 383 0)) := by
    rw [cpF_0, rowA_self]
    rfl
  rw [h0]
  refine lp_for (fun k => (nI k, rowA σ (y + 1) (cpF (σ.2.1 (y + 1)) (fun i => σ.2.1 (y + 1) (1232 + i)) 383 k))) 849 _ (by omega) ?_ ?_
  · intro k hk q
    dsimp only
    rw [if_neg (show ¬ (849 : Int32) ≤ nI k from lit_lt (m := 849) hk (by decide)), show (1232 : Int32) + nI k = nI (1232 + k) from nI_add 1232 k, show (383 : Int32) + nI k = nI (383 + k) from nI_add 383 k, ck_nI (by omega) (by omega), ck_nI (by omega) (by omega), gA_nI (by omega), row_s, cpF_out (by omega), sA_rowA (nI_clamp (by omega)), nI_1, show (fun j => if j = 383 + k then σ.2.1 (y + 1) (1232 + k) else cpF (σ.2.1 (y + 1)) (fun i => σ.2.1 (y + 1) (1232 + i)) 383 k j) = cpF (σ.2.1 (y + 1)) (fun i => σ.2.1 (y + 1) (1232 + i)) 383 (k + 1) from cpF_s]
  · intro q
    dsimp only
    rw [if_pos (show (849 : Int32) ≤ nI 849 from lit_end)]
    rfl
theorem la_14 {z : Nat} : LA z (z + 14) := ⟨g1r_14_2, g1r_14_3, g1r_14_4, g1r_14_5, g1n_15, g1n_16, g1n_17, g1n_18⟩
theorem la_35 {z : Nat} : LA z (z + 35) := ⟨g1r_35_2, g1r_35_3, g1r_35_4, g1r_35_5, g1n_36, g1n_37, g1n_38, g1n_39⟩
/-- the new law's world -/
theorem wor_law {σ τ : pS} {z : Nat} {w w' : Nat → Int32} (h : WorldR σ (z + 4) w) (ew : ∀ k, k < 383 → k ≠ 6 → w' k = w k) (w6 : w' 6 = 1) (eF : ∀ o k, (o = 4 ∨ o = 20 ∨ o = 22) → τ.1 (z + o) k = σ.1 (z + o) k) (eA : ∀ o, (5 ≤ o ∧ o < 14 ∨ o = 21 ∨ o = 23) → τ.2.1 (z + o) = σ.2.1 (z + o)) (hl : LawR (τ.1 (z + 14)) (τ.2.1 (z + 15)) (τ.2.1 (z + 16)) (τ.2.1 (z + 17)) (τ.2.1 (z + 18)) w') : WorldR τ (z + 4) w' := by
  obtain ⟨h1, h2, h3, h4, h5⟩ := h
  have s : ∀ k, k < 383 → w' k = va_up w 6 1 k := fun k hk => by
    by_cases q : k = 6
    · rw [q, va_up_self]
      exact w6
    · rw [va_up_ne _ _ q]
      exact ew k hk q
  have ev : ∀ k, k ≠ 6 → va_up w 6 1 k = w k := fun k q => va_up_ne _ _ q
  have wv : WInv (va_up w 6 1) := h1.six ev (Or.inr (va_up_self _ _ _))
  have t0 := h2.1
  have tv : TaleR (σ.1 (z + 4)) (fun j => σ.2.1 (z + 4 + (1 + j))) (va_up w 6 1) := by
    refine tale_of ?_ (fun k hk => trow_e h1 hk (tale_to h2 k hk) (fun j hj => rfl) (fun j hj => ev j (by omega)))
    rw [ev 5 (by omega), ev 0 (by omega), ev 2 (by omega), ev 3 (by omega), ev 1 (by omega), ev 4 (by omega), ev 8 (by omega), ev 10 (by omega), ev 14 (by omega)]
    exact t0
  have tw : TaleR (τ.1 (z + 4)) (fun j => τ.2.1 (z + 4 + (1 + j))) (va_up w 6 1) := tale_c wv (fun k hk => eF 4 k (by omega)) (fun j hj i hi => by
    show τ.2.1 (z + 4 + (1 + j)) i = σ.2.1 (z + 4 + (1 + j)) i
    rw [show z + 4 + (1 + j) = z + (5 + j) by omega, eA (5 + j) (by omega)]) tv
  have mv : MindR (τ.1 (z + 4 + 16)) (τ.2.1 (z + 4 + 17)) (va_up w 6 1) := mind_e (fun k => eF 20 k (by omega)) (fun k => congrFun (eA 21 (by omega)) k) (fun k hk => ev k (by omega)) h1.c1 h4
  have gv : LogR (τ.1 (z + 4 + 18)) (τ.2.1 (z + 4 + 19)) (va_up w 6 1) := by
    have e1 : τ.1 (z + 4 + 18) = σ.1 (z + 4 + 18) := funext fun k => eF 22 k (by omega)
    rw [e1, show τ.2.1 (z + 4 + 19) = σ.2.1 (z + 4 + 19) from eA 23 (by omega)]
    exact log_c h5 (fun k hk => ev k (by omega))
  exact ⟨WInv_w wv s, tale_b wv s tw, hl, mind_w wv.c1 s mv, log_w wv.c15.2 s gv⟩
theorem gd_law {N z y : Nat} (hN : 20000 < N) : Gd_law N (G1 z) (G2 y) z y (z + 150) (Sim z y) := by
  intro σ1 σ2 h
  unfold fL_law
  apply gd_w
  have ht := h.2.2.2.2.2
  have h9 : σ2.1 y 9 = nI (σ2.1 y 9).toInt.toNat := nI_cN ht.2.1
  have b1 : BY z (σ2.2.1 (y + 6)) (σ2.1 y 9).toInt.toNat σ1 := ⟨by omega, ht.1.trans h9, ht.2.2.2⟩
  obtain ⟨v, r, υ1, υ2, x1, x2, x3, x4, x5⟩ := j_lawReads (N := N) hN b1 h9 rfl
  have n1 : ¬ (1 : Int32) = 0 := by decide
  have uf : ∀ k, k ≠ 0 → k ≠ 9 → k ≠ 10 → k ≠ 11 → k ≠ 12 → k ≠ 13 → k ≠ 16 → υ2.1 y k = σ2.1 y k := fun k a1 a2 a3 a4 a5 a6 a7 => by
    rw [x4.1 k a3 a5 a6 a7]
    unfold upT
    rw [pf0n a7, pf0n a3, pf0n a2, pf0n a4, pf0n a1]
  have u9 : υ2.1 y 9 = 0 := by
    rw [x4.1 9 (by decide) (by decide) (by decide) (by decide)]
    unfold upT
    rw [pf0n (by decide), pf0n (by decide), pf0]
  have u0 : υ2.1 y 0 = 0 := by
    rw [x4.1 0 (by decide) (by decide) (by decide) (by decide)]
    unfold upT
    rw [pf0n (by decide), pf0n (by decide), pf0n (by decide), pf0n (by decide), pf0]
  have ua : ∀ j, j ≠ 1 → υ2.2.1 (y + j) = σ2.2.1 (y + j) := fun j a1 => x4.2.1 j a1
  have uw : ∀ k, k < 1233 → υ2.2.1 (y + 1) k = σ2.2.1 (y + 1) k := fun k hk => x4.2.2 k hk
  unfold fX11_law fX12_law
  simp only [g1r_0_0, g1r_0_1, g1r_0_2, g1r_0_3, g1r_0_4, g1r_0_5, g1r_0_6, g1r_0_7, g1r_0_8, g1r_1_5, g1n_2, g1r_3_0, g1r_3_1, g1r_3_2, g1r_4_9, g1r_4_10, g1r_4_11, g1r_4_12, g1r_4_13, g1r_4_14, g1r_4_15, g1r_4_16, g1r_4_17, g1n_5, g1n_6, g1n_7, g1n_8, g1n_9, g1n_10, g1n_11, g1n_12, g1n_13, g1r_14_2, g1r_14_3, g1r_14_4, g1r_14_5, g1r_14_6, g1n_15, g1n_16, g1n_17, g1n_18, g1n_19, g1r_20_7, g1r_20_8, g1n_21, g1r_22_2, g1n_23, g1r_24_0, g1r_24_1, g1r_24_2, g1r_25_9, g1r_25_10, g1r_25_11, g1r_25_12, g1r_25_13, g1r_25_14, g1r_25_15, g1r_25_16, g1r_25_17, g1n_26, g1n_27, g1n_28, g1n_29, g1n_30, g1n_31, g1n_32, g1n_33, g1n_34, g1r_35_2, g1r_35_3, g1r_35_4, g1r_35_5, g1r_35_6, g1n_36, g1n_37, g1n_38, g1n_39, g1n_40, g1r_41_7, g1r_41_8, g1n_42, g1r_43_2, g1n_44, g1r_45_0, g1r_45_1, g1r_45_2, g1r_46_9, g1r_46_10, g1r_46_11, g1r_46_12, g1r_46_13, g1r_46_14, g1r_46_15, g1r_46_16, g1r_46_17, g1n_47, g1n_48, g1n_49, g1n_50, g1n_51, g1n_52, g1n_53, g1n_54, g1n_55, g1r_56_2, g1r_56_3, g1r_56_4, g1r_56_5, g1r_56_6, g1n_57, g1n_58, g1n_59, g1n_60, g1n_61, g1r_62_7, g1r_62_8, g1n_63, g1r_64_2, g1n_65, g1r_66_2, g1n_67, g1r_68_7, g1r_68_8, g1n_69, g1r_70_2, g1n_71, g1r_72_7, g1r_72_8, g1n_73, g1r_74_2, g1n_75, g1r_76_7, g1r_76_8, g1n_77, g1r_78_2, g1n_79, g1r_80_7, g1r_80_8, g1n_81, g1r_82_2, g1n_83, g1r_84_7, g1r_84_8, g1n_85, g1r_86_2, g1n_87, g1r_88_7, g1r_88_8, g1n_89, g1r_90_2, g1n_91, g1r_92_7, g1r_92_8, g1n_93, g1r_94_2, g1n_95, g1r_96_7, g1r_96_8, g1n_97, g1r_98_2, g1n_99, g1r_100_7, g1r_100_8, g1n_101, g1r_102_2, g1n_103, g1r_104_7, g1r_104_8, g1n_105, g1r_106_2, g1n_107, g1r_108_7, g1r_108_8, g1n_109, g1r_110_2, g1n_111, g1r_112_7, g1r_112_8, g1n_113, g1r_114_2, g1n_115, g1r_116_7, g1r_116_8, g1n_117, g1r_118_2, g1n_119, g1r_120_0, g1r_120_1, g1r_120_2, g1r_121_7, g1r_121_8, g1n_122, g1r_123_2, g1n_124, g1n_125, g1n_126, g1r_127_0, g1r_127_1, g1r_127_2, g1r_127_3, g1r_128_7, g1r_128_8, g1n_129, g1r_130_2, g1n_131, g1n_132, g1n_133, g1n_134, g1r_135_7, g1n_136, g1n_150]
  rw [x1, b_some, x2, b_some]
  unfold fX11_useTapeUp fX11_useTapeUp_b16 fX12_law_b19 fX12_law_b32
  simp only [g1r_0_0, g1r_0_1, g1r_0_2, g1r_0_3, g1r_0_4, g1r_0_5, g1r_0_6, g1r_0_7, g1r_0_8, g1r_1_5, g1n_2, g1r_3_0, g1r_3_1, g1r_3_2, g1r_4_9, g1r_4_10, g1r_4_11, g1r_4_12, g1r_4_13, g1r_4_14, g1r_4_15, g1r_4_16, g1r_4_17, g1n_5, g1n_6, g1n_7, g1n_8, g1n_9, g1n_10, g1n_11, g1n_12, g1n_13, g1r_14_2, g1r_14_3, g1r_14_4, g1r_14_5, g1r_14_6, g1n_15, g1n_16, g1n_17, g1n_18, g1n_19, g1r_20_7, g1r_20_8, g1n_21, g1r_22_2, g1n_23, g1r_24_0, g1r_24_1, g1r_24_2, g1r_25_9, g1r_25_10, g1r_25_11, g1r_25_12, g1r_25_13, g1r_25_14, g1r_25_15, g1r_25_16, g1r_25_17, g1n_26, g1n_27, g1n_28, g1n_29, g1n_30, g1n_31, g1n_32, g1n_33, g1n_34, g1r_35_2, g1r_35_3, g1r_35_4, g1r_35_5, g1r_35_6, g1n_36, g1n_37, g1n_38, g1n_39, g1n_40, g1r_41_7, g1r_41_8, g1n_42, g1r_43_2, g1n_44, g1r_45_0, g1r_45_1, g1r_45_2, g1r_46_9, g1r_46_10, g1r_46_11, g1r_46_12, g1r_46_13, g1r_46_14, g1r_46_15, g1r_46_16, g1r_46_17, g1n_47, g1n_48, g1n_49, g1n_50, g1n_51, g1n_52, g1n_53, g1n_54, g1n_55, g1r_56_2, g1r_56_3, g1r_56_4, g1r_56_5, g1r_56_6, g1n_57, g1n_58, g1n_59, g1n_60, g1n_61, g1r_62_7, g1r_62_8, g1n_63, g1r_64_2, g1n_65, g1r_66_2, g1n_67, g1r_68_7, g1r_68_8, g1n_69, g1r_70_2, g1n_71, g1r_72_7, g1r_72_8, g1n_73, g1r_74_2, g1n_75, g1r_76_7, g1r_76_8, g1n_77, g1r_78_2, g1n_79, g1r_80_7, g1r_80_8, g1n_81, g1r_82_2, g1n_83, g1r_84_7, g1r_84_8, g1n_85, g1r_86_2, g1n_87, g1r_88_7, g1r_88_8, g1n_89, g1r_90_2, g1n_91, g1r_92_7, g1r_92_8, g1n_93, g1r_94_2, g1n_95, g1r_96_7, g1r_96_8, g1n_97, g1r_98_2, g1n_99, g1r_100_7, g1r_100_8, g1n_101, g1r_102_2, g1n_103, g1r_104_7, g1r_104_8, g1n_105, g1r_106_2, g1n_107, g1r_108_7, g1r_108_8, g1n_109, g1r_110_2, g1n_111, g1r_112_7, g1r_112_8, g1n_113, g1r_114_2, g1n_115, g1r_116_7, g1r_116_8, g1n_117, g1r_118_2, g1n_119, g1r_120_0, g1r_120_1, g1r_120_2, g1r_121_7, g1r_121_8, g1n_122, g1r_123_2, g1n_124, g1n_125, g1n_126, g1r_127_0, g1r_127_1, g1r_127_2, g1r_127_3, g1r_128_7, g1r_128_8, g1n_129, g1r_130_2, g1n_131, g1n_132, g1n_133, g1n_134, g1r_135_7, g1n_136, g1n_150, g2r_0_1, g2r_0_2, g2r_0_3, g2r_0_4, g2r_0_5, g2r_0_8, g2r_0_15, g2r_0_17, g2r_0_25, g2r_0_26, g2r_0_27, g2r_0_28, g2n_1, g2n_2, g2n_3, g2n_4, g2n_5, g2n_6, g2n_7, g2n_8, g2n_9, g2n_10, g2n_11, g2n_12]
  rcases x5 with ⟨rfl, n, E, R, hn, rfl, li, lE, lR⟩ | ⟨rfl, rfl, b, hb1, hb2⟩
  · have r0 : (0 : Int32) ≤ nI n := nI_le (a := 0) (by omega) (by omega)
    rw [if_neg n1, b_some, if_neg n1, if_pos r0, if_pos r0, r_t0, b_some]
    dsimp only
    rw [if_pos rfl, show inB (1232 : Int32) 2081 = true from rfl, ck_t, r_lawCopy hN]
    have hr : (sA (putF υ2 y 14 (-1)) (y + 1) 1232 (nI n)).2.1 (y + 1) = va_up (υ2.2.1 (y + 1)) 1232 (nI n) := by
      rw [sA_w (n := 1232) rfl]
      rfl
    have fin : ∀ k, (putF (sA (rowA (sA (putF υ2 y 14 (-1)) (y + 1) 1232 (nI n)) (y + 1) (cpF ((sA (putF υ2 y 14 (-1)) (y + 1) 1232 (nI n)).2.1 (y + 1)) (fun i => (sA (putF υ2 y 14 (-1)) (y + 1) 1232 (nI n)).2.1 (y + 1) (1232 + i)) 383 849)) (y + 1) 6 1) y 7 0).2.1 (y + 1) k = va_up (cpF (va_up (υ2.2.1 (y + 1)) 1232 (nI n)) (fun i => va_up (υ2.2.1 (y + 1)) 1232 (nI n) (1232 + i)) 383 849) 6 1 k := fun k => by
      rw [pfA, sA_w (n := 6) rfl, row_s, hr]
    have ff : ∀ k, k ≠ 7 → k ≠ 14 → (putF (sA (rowA (sA (putF υ2 y 14 (-1)) (y + 1) 1232 (nI n)) (y + 1) (cpF ((sA (putF υ2 y 14 (-1)) (y + 1) 1232 (nI n)).2.1 (y + 1)) (fun i => (sA (putF υ2 y 14 (-1)) (y + 1) 1232 (nI n)).2.1 (y + 1) (1232 + i)) 383 849)) (y + 1) 6 1) y 7 0).1 y k = υ2.1 y k := fun k a1 a2 => by
      rw [pf0n a1]
      show (putF υ2 y 14 (-1)).1 y k = _
      rw [pf0n a2]
    have f14 : (putF (sA (rowA (sA (putF υ2 y 14 (-1)) (y + 1) 1232 (nI n)) (y + 1) (cpF ((sA (putF υ2 y 14 (-1)) (y + 1) 1232 (nI n)).2.1 (y + 1)) (fun i => (sA (putF υ2 y 14 (-1)) (y + 1) 1232 (nI n)).2.1 (y + 1) (1232 + i)) 383 849)) (y + 1) 6 1) y 7 0).1 y 14 = -1 := by
      rw [pf0n (by decide)]
      show (putF υ2 y 14 (-1)).1 y 14 = _
      rw [pf0]
    have f7 : (putF (sA (rowA (sA (putF υ2 y 14 (-1)) (y + 1) 1232 (nI n)) (y + 1) (cpF ((sA (putF υ2 y 14 (-1)) (y + 1) 1232 (nI n)).2.1 (y + 1)) (fun i => (sA (putF υ2 y 14 (-1)) (y + 1) 1232 (nI n)).2.1 (y + 1) (1232 + i)) 383 849)) (y + 1) 6 1) y 7 0).1 y 7 = 0 := pf0
    have fa : ∀ j, j ≠ 1 → (putF (sA (rowA (sA (putF υ2 y 14 (-1)) (y + 1) 1232 (nI n)) (y + 1) (cpF ((sA (putF υ2 y 14 (-1)) (y + 1) 1232 (nI n)).2.1 (y + 1)) (fun i => (sA (putF υ2 y 14 (-1)) (y + 1) 1232 (nI n)).2.1 (y + 1) (1232 + i)) 383 849)) (y + 1) 6 1) y 7 0).2.1 (y + j) = σ2.2.1 (y + j) := fun j hj => by
      rw [pfA, sA_o (by omega), row_o (by omega), sA_o (by omega), pfA]
      exact ua j hj
    generalize (putF (sA (rowA (sA (putF υ2 y 14 (-1)) (y + 1) 1232 (nI n)) (y + 1) (cpF ((sA (putF υ2 y 14 (-1)) (y + 1) 1232 (nI n)).2.1 (y + 1)) (fun i => (sA (putF υ2 y 14 (-1)) (y + 1) 1232 (nI n)).2.1 (y + 1) (1232 + i)) 383 849)) (y + 1) 6 1) y 7 0) = ρ at fin ff f14 f7 fa ⊢
    have c6 : ρ.2.1 (y + 1) 6 = 1 := by
      rw [fin, va_up_self]
    have c3 : ρ.2.1 (y + 1) 383 = nI n := by
      rw [fin, va_up_ne _ _ (by omega), show 383 = 383 + 0 from rfl, cpF_in (by omega), va_up_self]
    have cl : ∀ k, k < 383 → k ≠ 6 → ρ.2.1 (y + 1) k = σ2.2.1 (y + 1) k := fun k hk hk6 => by
      rw [fin, va_up_ne _ _ hk6, cpF_out (by omega), va_up_ne _ _ (by omega)]
      exact uw k (by omega)
    have cs : ∀ k, k < 848 → ρ.2.1 (y + 1) (384 + k) = υ2.2.1 (y + 1) (1233 + k) := fun k hk => by
      rw [fin, va_up_ne _ _ (by omega), show 384 + k = 383 + (k + 1) by omega, cpF_in (by omega), va_up_ne _ _ (by omega), show 1232 + (k + 1) = 1233 + k by omega]
    have ll := li_law li hn lE lR c6 c3 cs
    obtain ⟨ψ, p1, p2, p3, p4, p5⟩ := c_copyLaw (N := N) (z := z) (a := z + 14) (b := z + 35) (σ := putF (putF υ1 z 9 (-1)) (z + 1) 0 0) (by omega) la_14 la_35
    rw [p1, b_some]
    unfold fX4_forget
    rw [b_some]
    have q0 : ∀ o k, o ≠ 14 → ¬ (o = 66 ∧ k = 0) → ¬ (o = 1) → ¬ (o = 0 ∧ k = 9) → o ≠ 135 → o ≠ 35 → (putF ψ (z + 66) 0 0).1 (z + o) k = σ1.1 (z + o) k := fun o k a1 a2 a3 a4 a5 a6 => by
      rw [pf1, if_neg (by omega), p3 _ _ (by omega), pf1, if_neg (by omega), pf1, if_neg (by omega)]
      exact x3.1 o k (by omega) a5 a6
    have qA : ∀ o, (o ≤ 14 ∨ 19 ≤ o) → ¬ (36 ≤ o ∧ o ≤ 39) → o ≠ 136 → (putF ψ (z + 66) 0 0).2.1 (z + o) = σ1.2.1 (z + o) := fun o a1 a2 a3 => by
      show ψ.2.1 (z + o) = _
      rw [p5 _ (by omega)]
      exact x3.2 o a2 a3
    have f0 : (putF ψ (z + 66) 0 0).1 (z + 14) 0 = υ1.1 (z + 35) 0 := by
      rw [pf_o (by omega), p2 0 (by omega), pf_o (by omega), pf_o (by omega)]
    have lw : LawR ((putF ψ (z + 66) 0 0).1 (z + 14)) ((putF ψ (z + 66) 0 0).2.1 (z + 15)) ((putF ψ (z + 66) 0 0).2.1 (z + 16)) ((putF ψ (z + 66) 0 0).2.1 (z + 17)) ((putF ψ (z + 66) 0 0).2.1 (z + 18)) (ρ.2.1 (y + 1)) := law_c f0 (fun j hj => p4 0 (by omega) j hj) (fun j hj => p4 1 (by omega) j hj) (fun j hj => p4 2 (by omega) j hj) (fun j hj => p4 3 (by omega) j hj) ll
    have pw : WorldR (putF ψ (z + 66) 0 0) (z + 4) (ρ.2.1 (y + 1)) := wor_law h.1 cl c6 (fun o k ho => q0 o k (by omega) (by omega) (by omega) (by omega) (by omega) (by omega)) (fun o ho => qA o (by omega) (by omega) (by omega)) lw
    refine gdw_ok (v := nI n) (τ1 := putF ψ (z + 66) 0 0) (τ2 := ρ) ?_ rfl ?_ ?_
    · rw [f0, li.1]
    · rw [ff 0 (by decide) (by decide)]
      exact u0
    · refine h.new (fun o k hh => q0 o k (by omega) (by omega) (by omega) (by omega) (by omega) (by omega)) (fun o a b => qA o (by omega) (by omega) (by omega)) ?_ ?_ pw f7 pf0 ?_ ?_
      · rw [ff 6 (by decide) (by decide)]
        exact uf 6 (by decide) (by decide) (by decide) (by decide) (by decide) (by decide) (by decide)
      · exact fa 2 (by decide)
      · rw [f14, pf_o (by omega), p3 _ _ (by omega), pf_o (by omega), pf0]
      · rw [ff 9 (by decide) (by decide), u9]
        refine ⟨?_, by decide, by decide, fun i hi => ?_⟩
        · rw [pf_o (by omega), p3 _ _ (by omega), pf0]
        · rw [show (0 : Int32).toInt.toNat = 0 from rfl] at hi
          omega
  · rw [if_pos rfl, b_some, if_pos rfl, if_neg (show ¬ (0 : Int32) ≤ -1 by decide), if_neg (show ¬ (0 : Int32) ≤ -1 by decide), r_t1, b_some]
    dsimp only
    rw [if_neg n1, hb1, hb2]
    refine gdw_ex (k := 1) (fun τ => if_pos rfl) (by decide) rfl rfl pf0 (h.usl ⟨fun o k e => ?_, fun o e => ?_⟩ (fun k hk => ?_) (fun j hj => ?_) (fun k hk => ?_) ?_ pf0 ?_)
    · unfold PL at e
      simp at e
      rw [pf1, if_neg (by omega), pf1, if_neg (by omega)]
      exact x3.1 o k (by omega) (by omega) (by omega)
    · unfold QL at e
      simp at e
      exact x3.2 o (by omega) (by omega)
    · rw [pf0n (by omega), pf0n (by omega)]
      exact uf k (by omega) (by omega) (by omega) (by omega) (by omega) (by omega) (by omega)
    · exact ua j (by omega)
    · exact uw k (by omega)
    · rw [pf_o (by omega), pf0, pf0n (by decide), pf0]
    · rw [pf0n (by decide), pf0n (by decide)]
      exact u9
