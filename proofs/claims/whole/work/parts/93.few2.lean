/-! fewest: rounds of the class -/
theorem CF.j {z : Nat} {w : Nat → Int32} {σ1 τ υ : pS} (h : CF z w σ1 τ) (e1 : υ.1 = τ.1) (e2 : υ.2.1 = τ.2.1) : CF z w σ1 υ := ⟨⟨fun o k e => by rw [e1]; exact h.1.1 o k e, fun o e => by rw [e2]; exact h.1.2 o e⟩, by rw [e1]; exact h.2.1, by rw [e1]; exact h.2.2⟩
/-- a round's end: she asks from some row, or none asks and all are looked at -/
def Rnd (z : Nat) (w : Nat → Int32) (who : Int32) (n : Nat) (τ υ : pS) (D : Nat → Nat → Prop) (r : Int32) : Prop := (r = 1 ∧ ∃ d t, d < 100 ∧ t < 64 ∧ iS z 133 τ d t ∧ askS w who (eff w t) d) ∨ (r = 0 ∧ Grow z (fun d' t' => En w who (n + 1) (eff w t') d') τ υ ∧ ∀ d t, D d t → iS z 133 τ d t → ¬ askS w who (eff w t) d ∧ Exq z w who υ (eff w t) d (cN w 2))
theorem c_ow40 {N z y n d : Nat} {σ1 σ2 τ0 τ : pS} {who : Int32} (hN : 20000 < N) (h : Sim z y σ1 σ2) (hc : CF z (σ2.2.1 (y + 1)) σ1 τ) (hd : d < 100) (hr : ∀ d t, d < 100 → t < 64 → iS z 133 τ0 d t → En (σ2.2.1 (y + 1)) who n (eff (σ2.2.1 (y + 1)) t) d) (g : Grow z (fun d' t' => En (σ2.2.1 (y + 1)) who (n + 1) (eff (σ2.2.1 (y + 1)) t') d') τ0 τ) (gd : ∀ d' t', d' < d → t' < 64 → iS z 133 τ0 d' t' → ¬ askS (σ2.2.1 (y + 1)) who (eff (σ2.2.1 (y + 1)) t') d' ∧ Exq z (σ2.2.1 (y + 1)) who τ (eff (σ2.2.1 (y + 1)) t') d' (cN (σ2.2.1 (y + 1)) 2)) : ∃ υ, CF z (σ2.2.1 (y + 1)) σ1 υ ∧ ((∃ d t, d < 100 ∧ t < 64 ∧ iS z 133 τ0 d t ∧ askS (σ2.2.1 (y + 1)) who (eff (σ2.2.1 (y + 1)) t) d) ∧ (∀ p, fX5_oneWordMore_b40 N (G1 z) p (z + 127) (z + 3) who (nI d) (τ0.2.2 (z + 133) d) (0, τ) = some (1, υ)) ∨ (Grow z (fun d' t' => En (σ2.2.1 (y + 1)) who (n + 1) (eff (σ2.2.1 (y + 1)) t') d') τ0 υ ∧ (∀ d' t', d' < d + 1 → t' < 64 → iS z 133 τ0 d' t' → ¬ askS (σ2.2.1 (y + 1)) who (eff (σ2.2.1 (y + 1)) t') d' ∧ Exq z (σ2.2.1 (y + 1)) who υ (eff (σ2.2.1 (y + 1)) t') d' (cN (σ2.2.1 (y + 1)) 2)) ∧ ∀ p, fX5_oneWordMore_b40 N (G1 z) p (z + 127) (z + 3) who (nI d) (τ0.2.2 (z + 133) d) (0, τ) = p (nI (d + 1), υ))) := by
  unfold fX5_oneWordMore_b40
  have H : ∀ (m t M : Nat) (τ : pS), t + m = 64 → m < M → CF z (σ2.2.1 (y + 1)) σ1 τ → Grow z (fun d' t' => En (σ2.2.1 (y + 1)) who (n + 1) (eff (σ2.2.1 (y + 1)) t') d') τ0 τ → (∀ d' t', t' < 64 → (d' < d ∨ d' = d ∧ t' < t) → iS z 133 τ0 d' t' → ¬ askS (σ2.2.1 (y + 1)) who (eff (σ2.2.1 (y + 1)) t') d' ∧ Exq z (σ2.2.1 (y + 1)) who τ (eff (σ2.2.1 (y + 1)) t') d' (cN (σ2.2.1 (y + 1)) 2)) → ∃ υ, CF z (σ2.2.1 (y + 1)) σ1 υ ∧ ((∃ d t, d < 100 ∧ t < 64 ∧ iS z 133 τ0 d t ∧ askS (σ2.2.1 (y + 1)) who (eff (σ2.2.1 (y + 1)) t) d) ∧ (∀ p : Int32 × pS → Option (Int32 × pS), lp (fun (k40 : Int32 × pS → Option (Int32 × pS)) (b : Int32 × pS) => if (64 : Int32) ≤ b.1 then (p (nI d + (1 : Int32), b.2)) else (if (lg_cmp (jlushr (τ0.2.2 (z + 133) d) b.1) (0 : Int64)) = 0 then (p (nI d + (1 : Int32), b.2)) else (if (lg_cmp ((jlushr (τ0.2.2 (z + 133) d) b.1) &&& (1 : Int64)) (1 : Int64)) = 0 then ((fX5_asksFrom N (G1 z) (z + 127) (z + 3) who (nI d) b.1 b.2).bind (fun q1 => if q1.1 = 0 then (k40 (b.1 + (1 : Int32), q1.2)) else (some ((1 : Int32), q1.2)))) else (k40 (b.1 + (1 : Int32), b.2))))) M (nI t, τ) = some (1, υ)) ∨ (Grow z (fun d' t' => En (σ2.2.1 (y + 1)) who (n + 1) (eff (σ2.2.1 (y + 1)) t') d') τ0 υ ∧ (∀ d' t', d' < d + 1 → t' < 64 → iS z 133 τ0 d' t' → ¬ askS (σ2.2.1 (y + 1)) who (eff (σ2.2.1 (y + 1)) t') d' ∧ Exq z (σ2.2.1 (y + 1)) who υ (eff (σ2.2.1 (y + 1)) t') d' (cN (σ2.2.1 (y + 1)) 2)) ∧ ∀ p : Int32 × pS → Option (Int32 × pS), lp (fun (k40 : Int32 × pS → Option (Int32 × pS)) (b : Int32 × pS) => if (64 : Int32) ≤ b.1 then (p (nI d + (1 : Int32), b.2)) else (if (lg_cmp (jlushr (τ0.2.2 (z + 133) d) b.1) (0 : Int64)) = 0 then (p (nI d + (1 : Int32), b.2)) else (if (lg_cmp ((jlushr (τ0.2.2 (z + 133) d) b.1) &&& (1 : Int64)) (1 : Int64)) = 0 then ((fX5_asksFrom N (G1 z) (z + 127) (z + 3) who (nI d) b.1 b.2).bind (fun q1 => if q1.1 = 0 then (k40 (b.1 + (1 : Int32), q1.2)) else (some ((1 : Int32), q1.2)))) else (k40 (b.1 + (1 : Int32), b.2))))) M (nI t, τ) = p (nI (d + 1), υ))) := by
    intro m
    induction m with
    | zero =>
      intro t M τ e hM c1 g1 a1
      obtain ⟨M', rfl⟩ : ∃ M', M = M' + 1 := ⟨M - 1, by omega⟩
      refine ⟨τ, c1, Or.inr ⟨g1, fun d' t' x1 x2 x3 => a1 d' t' x2 (by omega) x3, fun p => ?_⟩⟩
      show (if (64 : Int32) ≤ nI t then _ else _) = _
      rw [show t = 64 by omega, if_pos l64e, nI_1]
    | succ m ih =>
      intro t M τ e hM c1 g1 a1
      obtain ⟨M', rfl⟩ : ∃ M', M = M' + 1 := ⟨M - 1, by omega⟩
      have ht : t < 64 := by omega
      by_cases u : lg_cmp (jlushr (τ0.2.2 (z + 133) d) (nI t)) 0 = 0
      · refine ⟨τ, c1, Or.inr ⟨g1, fun d' t' x1 x2 x3 => ?_, fun p => ?_⟩⟩
        · by_cases q : d' < d ∨ d' = d ∧ t' < t
          · exact a1 d' t' x2 q x3
          · have e1 : d' = d := by omega
            have := none_lb ht u t' (by omega)
            unfold iS at x3
            rw [e1, this] at x3
            cases x3
        · show (if (64 : Int32) ≤ nI t then _ else (if lg_cmp (jlushr (τ0.2.2 (z + 133) d) (nI t)) 0 = 0 then _ else _)) = _
          rw [if_neg (l64 ht), if_pos u, nI_1]
      · by_cases b : lb (τ0.2.2 (z + 133) d) t = true
        · obtain ⟨α, r, x1, x2, x3⟩ := c_asks (N := N) (who := who) hN h c1 hd ht (hr d t hd ht b)
          rcases x3 with ⟨r1, x3⟩ | ⟨r0, x3, x4, x5⟩
          · subst r1
            refine ⟨α, x2, Or.inl ⟨⟨d, t, hd, ht, b, x3⟩, fun p => ?_⟩⟩
            show (if (64 : Int32) ≤ nI t then _ else (if lg_cmp (jlushr (τ0.2.2 (z + 133) d) (nI t)) 0 = 0 then _ else (if lg_cmp ((jlushr (τ0.2.2 (z + 133) d) (nI t)) &&& 1) 1 = 0 then ((fX5_asksFrom N (G1 z) (z + 127) (z + 3) who (nI d) (nI t) τ).bind _) else _))) = _
            rw [if_neg (l64 ht), if_neg u, if_pos ((has_lb1 ht).mpr b), x1, b_some, if_neg (show ¬ (1 : Int32) = 0 by decide)]
          · subst r0
            have a2 : ∀ d' t', t' < 64 → (d' < d ∨ d' = d ∧ t' < t + 1) → iS z 133 τ0 d' t' → ¬ askS (σ2.2.1 (y + 1)) who (eff (σ2.2.1 (y + 1)) t') d' ∧ Exq z (σ2.2.1 (y + 1)) who α (eff (σ2.2.1 (y + 1)) t') d' (cN (σ2.2.1 (y + 1)) 2) := by
              intro d' t' y1 y2 y3
              by_cases q : d' < d ∨ d' = d ∧ t' < t
              · have := a1 d' t' y1 q y3
                exact ⟨this.1, this.2.g x4⟩
              · have e1 : d' = d := by omega
                have e2 : t' = t := by omega
                rw [e1, e2]
                exact ⟨x3, x5⟩
            obtain ⟨υ, u1, u2⟩ := ih (t + 1) M' α (by omega) (by omega) x2 (g1.t x4) a2
            refine ⟨υ, u1, ?_⟩
            have st : ∀ p : Int32 × pS → Option (Int32 × pS), lp (fun (k40 : Int32 × pS → Option (Int32 × pS)) (b : Int32 × pS) => if (64 : Int32) ≤ b.1 then (p (nI d + (1 : Int32), b.2)) else (if (lg_cmp (jlushr (τ0.2.2 (z + 133) d) b.1) (0 : Int64)) = 0 then (p (nI d + (1 : Int32), b.2)) else (if (lg_cmp ((jlushr (τ0.2.2 (z + 133) d) b.1) &&& (1 : Int64)) (1 : Int64)) = 0 then ((fX5_asksFrom N (G1 z) (z + 127) (z + 3) who (nI d) b.1 b.2).bind (fun q1 => if q1.1 = 0 then (k40 (b.1 + (1 : Int32), q1.2)) else (some ((1 : Int32), q1.2)))) else (k40 (b.1 + (1 : Int32), b.2))))) (M' + 1) (nI t, τ) = lp (fun (k40 : Int32 × pS → Option (Int32 × pS)) (b : Int32 × pS) => if (64 : Int32) ≤ b.1 then (p (nI d + (1 : Int32), b.2)) else (if (lg_cmp (jlushr (τ0.2.2 (z + 133) d) b.1) (0 : Int64)) = 0 then (p (nI d + (1 : Int32), b.2)) else (if (lg_cmp ((jlushr (τ0.2.2 (z + 133) d) b.1) &&& (1 : Int64)) (1 : Int64)) = 0 then ((fX5_asksFrom N (G1 z) (z + 127) (z + 3) who (nI d) b.1 b.2).bind (fun q1 => if q1.1 = 0 then (k40 (b.1 + (1 : Int32), q1.2)) else (some ((1 : Int32), q1.2)))) else (k40 (b.1 + (1 : Int32), b.2))))) M' (nI (t + 1), α) := by
              intro p
              show (if (64 : Int32) ≤ nI t then _ else (if lg_cmp (jlushr (τ0.2.2 (z + 133) d) (nI t)) 0 = 0 then _ else (if lg_cmp ((jlushr (τ0.2.2 (z + 133) d) (nI t)) &&& 1) 1 = 0 then ((fX5_asksFrom N (G1 z) (z + 127) (z + 3) who (nI d) (nI t) τ).bind _) else _))) = _
              rw [if_neg (l64 ht), if_neg u, if_pos ((has_lb1 ht).mpr b), x1, b_some, if_pos rfl, ← nI_1 t]
            rcases u2 with ⟨u2, u3⟩ | ⟨u2, u3, u4⟩
            · exact Or.inl ⟨u2, fun p => (st p).trans (u3 p)⟩
            · exact Or.inr ⟨u2, u3, fun p => (st p).trans (u4 p)⟩
        · have a2 : ∀ d' t', t' < 64 → (d' < d ∨ d' = d ∧ t' < t + 1) → iS z 133 τ0 d' t' → ¬ askS (σ2.2.1 (y + 1)) who (eff (σ2.2.1 (y + 1)) t') d' ∧ Exq z (σ2.2.1 (y + 1)) who τ (eff (σ2.2.1 (y + 1)) t') d' (cN (σ2.2.1 (y + 1)) 2) := by
            intro d' t' y1 y2 y3
            by_cases q : d' < d ∨ d' = d ∧ t' < t
            · exact a1 d' t' y1 q y3
            · have e1 : d' = d := by omega
              have e2 : t' = t := by omega
              rw [e1, e2] at y3
              exact absurd y3 b
          obtain ⟨υ, u1, u2⟩ := ih (t + 1) M' τ (by omega) (by omega) c1 g1 a2
          refine ⟨υ, u1, ?_⟩
          have st : ∀ p : Int32 × pS → Option (Int32 × pS), lp (fun (k40 : Int32 × pS → Option (Int32 × pS)) (b : Int32 × pS) => if (64 : Int32) ≤ b.1 then (p (nI d + (1 : Int32), b.2)) else (if (lg_cmp (jlushr (τ0.2.2 (z + 133) d) b.1) (0 : Int64)) = 0 then (p (nI d + (1 : Int32), b.2)) else (if (lg_cmp ((jlushr (τ0.2.2 (z + 133) d) b.1) &&& (1 : Int64)) (1 : Int64)) = 0 then ((fX5_asksFrom N (G1 z) (z + 127) (z + 3) who (nI d) b.1 b.2).bind (fun q1 => if q1.1 = 0 then (k40 (b.1 + (1 : Int32), q1.2)) else (some ((1 : Int32), q1.2)))) else (k40 (b.1 + (1 : Int32), b.2))))) (M' + 1) (nI t, τ) = lp (fun (k40 : Int32 × pS → Option (Int32 × pS)) (b : Int32 × pS) => if (64 : Int32) ≤ b.1 then (p (nI d + (1 : Int32), b.2)) else (if (lg_cmp (jlushr (τ0.2.2 (z + 133) d) b.1) (0 : Int64)) = 0 then (p (nI d + (1 : Int32), b.2)) else (if (lg_cmp ((jlushr (τ0.2.2 (z + 133) d) b.1) &&& (1 : Int64)) (1 : Int64)) = 0 then ((fX5_asksFrom N (G1 z) (z + 127) (z + 3) who (nI d) b.1 b.2).bind (fun q1 => if q1.1 = 0 then (k40 (b.1 + (1 : Int32), q1.2)) else (some ((1 : Int32), q1.2)))) else (k40 (b.1 + (1 : Int32), b.2))))) M' (nI (t + 1), τ) := by
            intro p
            show (if (64 : Int32) ≤ nI t then _ else (if lg_cmp (jlushr (τ0.2.2 (z + 133) d) (nI t)) 0 = 0 then _ else (if lg_cmp ((jlushr (τ0.2.2 (z + 133) d) (nI t)) &&& 1) 1 = 0 then _ else _))) = _
            rw [if_neg (l64 ht), if_neg u, if_neg (fun q => b ((has_lb1 ht).mp q)), ← nI_1 t]
          rcases u2 with ⟨u2, u3⟩ | ⟨u2, u3, u4⟩
          · exact Or.inl ⟨u2, fun p => (st p).trans (u3 p)⟩
          · exact Or.inr ⟨u2, u3, fun p => (st p).trans (u4 p)⟩
  exact H 64 0 N τ (by omega) (by omega) hc g (fun d' t' x1 x2 x3 => gd d' t' (by omega) x1 x3)
/-- one word more -/
theorem c_more {N z y n : Nat} {σ1 σ2 τ : pS} {who : Int32} (hN : 20000 < N) (h : Sim z y σ1 σ2) (hc : CF z (σ2.2.1 (y + 1)) σ1 τ) (hr : ∀ d t, d < 100 → t < 64 → iS z 133 τ d t → En (σ2.2.1 (y + 1)) who n (eff (σ2.2.1 (y + 1)) t) d) : ∃ υ r, fX5_oneWordMore N (G1 z) (z + 127) (z + 3) who τ = some (r, υ) ∧ CF z (σ2.2.1 (y + 1)) σ1 υ ∧ ((r = 1 ∧ ∃ d t, d < 100 ∧ t < 64 ∧ iS z 133 τ d t ∧ askS (σ2.2.1 (y + 1)) who (eff (σ2.2.1 (y + 1)) t) d) ∨ (r = 0 ∧ (∀ d t, iS z 132 τ d t → iS z 132 υ d t) ∧ (∀ d t, iS z 132 υ d t → iS z 132 τ d t ∨ iS z 134 υ d t) ∧ (∀ d t, d < 100 → iS z 134 υ d t → En (σ2.2.1 (y + 1)) who (n + 1) (eff (σ2.2.1 (y + 1)) t) d) ∧ ∀ d t, d < 100 → t < 64 → iS z 133 τ d t → ¬ askS (σ2.2.1 (y + 1)) who (eff (σ2.2.1 (y + 1)) t) d ∧ Exq z (σ2.2.1 (y + 1)) who υ (eff (σ2.2.1 (y + 1)) t) d (cN (σ2.2.1 (y + 1)) 2))) := by
  have fill : ∃ α, α.1 = τ.1 ∧ α.2.1 = τ.2.1 ∧ α.2.2 (z + 132) = τ.2.2 (z + 132) ∧ α.2.2 (z + 133) = τ.2.2 (z + 133) ∧ (∀ d, d < 100 → α.2.2 (z + 134) d = 0) ∧ fX5_oneWordMore N (G1 z) (z + 127) (z + 3) who τ = fX5_oneWordMore_b23 N (G1 z) (z + 127) (z + 3) who (0, α) := by
    unfold fX5_oneWordMore fX5_oneWordMore_b2
    simp only [g1r_127_3, g1n_134]
    have H : ∀ (m d M : Nat) (ρ : pS), d + m = 100 → m < M → ρ.1 = τ.1 → ρ.2.1 = τ.2.1 → ρ.2.2 (z + 132) = τ.2.2 (z + 132) → ρ.2.2 (z + 133) = τ.2.2 (z + 133) → (∀ d', d' < d → ρ.2.2 (z + 134) d' = 0) → ∃ α, α.1 = τ.1 ∧ α.2.1 = τ.2.1 ∧ α.2.2 (z + 132) = τ.2.2 (z + 132) ∧ α.2.2 (z + 133) = τ.2.2 (z + 133) ∧ (∀ d, d < 100 → α.2.2 (z + 134) d = 0) ∧ lp (fun (k2 : Int32 × pS → Option (Int32 × pS)) (b : Int32 × pS) => if (100 : Int32) ≤ b.1 then (fX5_oneWordMore_b23 N (G1 z) (z + 127) (z + 3) who ((0 : Int32), b.2)) else (ck (inB b.1 100) (k2 (b.1 + (1 : Int32), sJ b.2 (z + 134) b.1 (0 : Int64))))) M (nI d, ρ) = fX5_oneWordMore_b23 N (G1 z) (z + 127) (z + 3) who (0, α) := by
      intro m
      induction m with
      | zero =>
        intro d M ρ e hM h1 h2 h3 h4 h5
        obtain ⟨M', rfl⟩ : ∃ M', M = M' + 1 := ⟨M - 1, by omega⟩
        refine ⟨ρ, h1, h2, h3, h4, fun d' hd' => h5 d' (by omega), ?_⟩
        show (if (100 : Int32) ≤ nI d then _ else _) = _
        rw [show d = 100 by omega, if_pos (show (100 : Int32) ≤ nI 100 from lit_end)]
      | succ m ih =>
        intro d M ρ e hM h1 h2 h3 h4 h5
        obtain ⟨M', rfl⟩ : ∃ M', M = M' + 1 := ⟨M - 1, by omega⟩
        have cl : (nI d).toNatClampNeg = d := nI_clamp (by omega)
        obtain ⟨α, a1, a2, a3, a4, a5, a6⟩ := ih (d + 1) M' (sJ ρ (z + 134) (nI d) 0) (by omega) (by omega) h1 h2 (by
          rw [← h3]
          funext i
          rw [sj3, if_neg (by omega)]) (by
          rw [← h4]
          funext i
          rw [sj3, if_neg (by omega)]) (by
          intro d' hd'
          rw [sj3, cl]
          by_cases q : d' = d
          · rw [if_pos ⟨rfl, q⟩]
          · rw [if_neg (fun g => q g.2)]
            exact h5 d' (by omega))
        refine ⟨α, a1, a2, a3, a4, a5, Eq.trans ?_ a6⟩
        show (if (100 : Int32) ≤ nI d then _ else (ck (inB (nI d) 100) _)) = _
        rw [if_neg (show ¬ (100 : Int32) ≤ nI d from lit_lt (m := 100) (by omega) (by decide)), ck_nI (by omega) (by omega), ← nI_1 d]
    exact H 100 0 N τ (by omega) (by omega) rfl rfl rfl rfl (fun d' h => by omega)
  obtain ⟨α, a1, a2, a3, a4, a5, a6⟩ := fill
  have ca : CF z (σ2.2.1 (y + 1)) σ1 α := hc.j a1 a2
  have s133 : ∀ d t, iS z 133 α d t ↔ iS z 133 τ d t := fun d t => by
    unfold iS
    rw [a4]
  have s132 : ∀ d t, iS z 132 α d t ↔ iS z 132 τ d t := fun d t => by
    unfold iS
    rw [a3]
  rw [a6]
  suffices hh : ∃ q : Int32 × pS, (CF z (σ2.2.1 (y + 1)) σ1 q.2 ∧ ((q.1 = 1 ∧ ∃ d t, d < 100 ∧ t < 64 ∧ iS z 133 α d t ∧ askS (σ2.2.1 (y + 1)) who (eff (σ2.2.1 (y + 1)) t) d) ∨ (q.1 = 0 ∧ Grow z (fun d' t' => En (σ2.2.1 (y + 1)) who (n + 1) (eff (σ2.2.1 (y + 1)) t') d') α q.2 ∧ ∀ d t, d < 100 → t < 64 → iS z 133 α d t → ¬ askS (σ2.2.1 (y + 1)) who (eff (σ2.2.1 (y + 1)) t) d ∧ Exq z (σ2.2.1 (y + 1)) who q.2 (eff (σ2.2.1 (y + 1)) t) d (cN (σ2.2.1 (y + 1)) 2)))) ∧ fX5_oneWordMore_b23 N (G1 z) (z + 127) (z + 3) who (0, α) = some q by
    obtain ⟨⟨q1, q2⟩, ⟨x1, x2⟩, x3⟩ := hh
    refine ⟨q2, q1, x3, x1, ?_⟩
    rcases x2 with ⟨e, d, t, y1, y2, y3, y4⟩ | ⟨e, y1, y2⟩
    · exact Or.inl ⟨e, d, t, y1, y2, (s133 d t).mp y3, y4⟩
    · refine Or.inr ⟨e, fun d t a => y1.1 d t ((s132 d t).mpr a), fun d t a => ?_, fun d t hd a => ?_, fun d t b1 b2 b3 => y2 d t b1 b2 ((s133 d t).mpr b3)⟩
      · rcases y1.2.2.1 d t a with b | b
        · exact Or.inl ((s132 d t).mp b)
        · exact Or.inr b
      · rcases y1.2.2.2.1 d t a with b | b
        · unfold iS at b
          rw [a5 d hd, lb_0] at b
          cases b
        · exact b
  unfold fX5_oneWordMore_b23
  simp only [g1r_127_2, g1n_133]
  refine lp_forR (fun d b => ∃ ρ, b = (nI d, ρ) ∧ CF z (σ2.2.1 (y + 1)) σ1 ρ ∧ Grow z (fun d' t' => En (σ2.2.1 (y + 1)) who (n + 1) (eff (σ2.2.1 (y + 1)) t') d') α ρ ∧ ∀ d' t', d' < d → t' < 64 → iS z 133 α d' t' → ¬ askS (σ2.2.1 (y + 1)) who (eff (σ2.2.1 (y + 1)) t') d' ∧ Exq z (σ2.2.1 (y + 1)) who ρ (eff (σ2.2.1 (y + 1)) t') d' (cN (σ2.2.1 (y + 1)) 2)) _ 100 (by omega) ?_ ?_ ⟨α, rfl, ca, Grow.r rfl, fun d' t' hd' => by omega⟩
  · rintro d hd _ ⟨ρ, rfl, h1, h2, h3⟩
    have er : gJ ρ (z + 133) (nI d) = α.2.2 (z + 133) d := by
      show ρ.2.2 (z + 133) (nI d).toNatClampNeg = _
      rw [nI_clamp (by omega), h2.2.2.2.2]
    obtain ⟨υ, u1, u2⟩ := c_ow40 (N := N) (who := who) (τ0 := α) (τ := ρ) hN h h1 hd (fun d t hd ht a => hr d t hd ht ((s133 d t).mp a)) h2 h3
    rcases u2 with ⟨u2, u3⟩ | ⟨u2, u3, u4⟩
    · right
      refine ⟨(1, υ), ⟨u1, Or.inl ⟨rfl, u2⟩⟩, fun p => ?_⟩
      dsimp only
      rw [if_neg (show ¬ (100 : Int32) ≤ nI d from lit_lt (m := 100) hd (by decide)), ck_nI hd (by omega), er, u3]
    · left
      refine ⟨(nI (d + 1), υ), ⟨υ, rfl, u1, u2, u3⟩, fun p => ?_⟩
      dsimp only
      rw [if_neg (show ¬ (100 : Int32) ≤ nI d from lit_lt (m := 100) hd (by decide)), ck_nI hd (by omega), er, u4]
  · rintro _ ⟨ρ, rfl, h1, h2, h3⟩
    refine ⟨(0, ρ), ⟨h1, Or.inr ⟨rfl, h2, h3⟩⟩, fun p => ?_⟩
    dsimp only
    rw [if_pos (show (100 : Int32) ≤ nI 100 from lit_end)]
/-- the rows at the start -/
theorem c_fopen {N z y : Nat} {σ1 σ2 : pS} (hN : 20000 < N) (h : Sim z y σ1 σ2) : ∃ τ, fX5_open N (G1 z) (z + 127) (z + 20) σ1 = some τ ∧ CF z (σ2.2.1 (y + 1)) σ1 τ ∧ (∀ d, d < 100 → τ.2.2 (z + 133) d = (if nI d = σ2.2.1 (y + 1) 7 then 1 else 0) ∧ τ.2.2 (z + 132) d = τ.2.2 (z + 133) d) := by
  unfold fX5_open
  simp only [g1r_127_0]
  obtain ⟨τ1, a1, a2, a3⟩ := c_dream (N := N) (o := 128) (by omega) ma_128 h
  rw [a1, b_some]
  have e7 : τ1.1 (z + 20) 0 = σ2.2.1 (y + 1) 7 := (h.keep a3 E2.r).dn.1
  have c0 : CF z (σ2.2.1 (y + 1)) σ1 τ1 := ⟨a3, a2.2.2.2.1.2.2.1, a2.2.2.2.1.2.1⟩
  suffices hh : ∃ q, (CF z (σ2.2.1 (y + 1)) σ1 q ∧ ∀ d, d < 100 → q.2.2 (z + 133) d = (if nI d = σ2.2.1 (y + 1) 7 then 1 else 0) ∧ q.2.2 (z + 132) d = q.2.2 (z + 133) d) ∧ fX5_open_b10 N (G1 z) (z + 127) (z + 20) (0, τ1) = some q by
    obtain ⟨q, ⟨x1, x2⟩, x3⟩ := hh
    exact ⟨q, x3, x1, x2⟩
  unfold fX5_open_b10
  simp only [g1r_127_2]
  have st : ∀ (p : Int32 × pS → Option pS) (ρ : pS) (d : Nat) (v : Int64), d < 100 → fX5_open_b34 N (G1 z) p (z + 127) (z + 20) (nI d) (z + 133) (nI d) v ρ = p (nI (d + 1), sJ (sJ ρ (z + 133) (nI d) v) (z + 132) (nI d) v) := by
    intro p ρ d v hd
    unfold fX5_open_b34
    simp only [g1r_127_1, g1r_127_2, g1n_132, g1n_133]
    rw [ck_nI hd (by omega), ck_nI hd (by omega), ck_nI hd (by omega), nI_1, gJ_sJ]
  refine lp_forR (fun k b => ∃ ρ, b = (nI k, ρ) ∧ ρ.1 = τ1.1 ∧ ρ.2.1 = τ1.2.1 ∧ ∀ d, d < k → ρ.2.2 (z + 133) d = (if nI d = σ2.2.1 (y + 1) 7 then 1 else 0) ∧ ρ.2.2 (z + 132) d = ρ.2.2 (z + 133) d) _ 100 (by omega) ?_ ?_ ⟨τ1, rfl, rfl, rfl, fun d hd => by omega⟩
  · rintro k hk _ ⟨ρ, rfl, h1, h2, h3⟩
    left
    have cl : (nI k).toNatClampNeg = k := nI_clamp (by omega)
    have key : ∀ v : Int64, v = (if nI k = σ2.2.1 (y + 1) 7 then 1 else 0) → ∀ d, d < k + 1 → (sJ (sJ ρ (z + 133) (nI k) v) (z + 132) (nI k) v).2.2 (z + 133) d = (if nI d = σ2.2.1 (y + 1) 7 then 1 else 0) ∧ (sJ (sJ ρ (z + 133) (nI k) v) (z + 132) (nI k) v).2.2 (z + 132) d = (sJ (sJ ρ (z + 133) (nI k) v) (z + 132) (nI k) v).2.2 (z + 133) d := by
      intro v ev d hd
      have x133 : (sJ (sJ ρ (z + 133) (nI k) v) (z + 132) (nI k) v).2.2 (z + 133) d = if d = k then v else ρ.2.2 (z + 133) d := by
        rw [sj3, if_neg (by omega), sj3, cl]
        by_cases e : d = k
        · rw [if_pos ⟨rfl, e⟩, if_pos e]
        · rw [if_neg (fun q => e q.2), if_neg e]
      have x132 : (sJ (sJ ρ (z + 133) (nI k) v) (z + 132) (nI k) v).2.2 (z + 132) d = if d = k then v else ρ.2.2 (z + 132) d := by
        rw [sj3, cl]
        by_cases e : d = k
        · rw [if_pos ⟨rfl, e⟩, if_pos e]
        · rw [if_neg (fun q => e q.2), if_neg e, sj3, if_neg (by omega)]
      rw [x133, x132]
      by_cases e : d = k
      · rw [if_pos e, if_pos e, e]
        exact ⟨ev, rfl⟩
      · rw [if_neg e, if_neg e]
        exact h3 d (by omega)
    by_cases u : nI k = σ2.2.1 (y + 1) 7
    · refine ⟨(nI (k + 1), sJ (sJ ρ (z + 133) (nI k) 1) (z + 132) (nI k) 1), ⟨_, rfl, h1, h2, key 1 (by rw [if_pos u])⟩, fun p => ?_⟩
      dsimp only
      rw [if_neg (show ¬ (100 : Int32) ≤ nI k from lit_lt (m := 100) hk (by decide)), h1, e7, if_pos u, st p ρ k 1 hk]
    · refine ⟨(nI (k + 1), sJ (sJ ρ (z + 133) (nI k) 0) (z + 132) (nI k) 0), ⟨_, rfl, h1, h2, key 0 (by rw [if_neg u])⟩, fun p => ?_⟩
      dsimp only
      rw [if_neg (show ¬ (100 : Int32) ≤ nI k from lit_lt (m := 100) hk (by decide)), h1, e7, if_neg u, st p ρ k 0 hk]
  · rintro _ ⟨ρ, rfl, h1, h2, h3⟩
    refine ⟨ρ, ⟨c0.j h1 h2, h3⟩, fun p => ?_⟩
    dsimp only
    rw [if_pos (show (100 : Int32) ≤ nI 100 from lit_end)]
theorem eff_0 {w : Nat → Int32} : eff w 0 = w 12 := by
  have b : ∀ t, bit (nI 0) t = false := fun t => bit_0
  have : ∀ n, nb w (w 12) 0 n = w 12 := by
    intro n
    induction n with
    | zero => rfl
    | succ n ih =>
      show (if bit (nI 0) n = true then nar w (nb w (w 12) 0 n) n else nb w (w 12) 0 n) = w 12
      rw [b, if_neg (by decide), ih]
  exact this 6
theorem cpj_in {σ : pS} {a b i : Nat} (hi : i < 100) : (cpJ σ a 0 b 0 100).2.2 b i = σ.2.2 a i := by
  show va_up σ.2.2 b (va_cpy (σ.2.2 a) (σ.2.2 b) (0 : Int32).toNatClampNeg (0 : Int32).toNatClampNeg (100 : Int32).toNatClampNeg) b i = _
  rw [va_up_self]
  show va_cpy (σ.2.2 a) (σ.2.2 b) 0 0 100 i = _
  rw [pk_cpy_in (by omega) (by omega), Nat.zero_add, Nat.sub_zero]
theorem cpj_o {σ : pS} {a b c : Nat} (h : c ≠ b) : (cpJ σ a 0 b 0 100).2.2 c = σ.2.2 c := by
  show va_up σ.2.2 b _ c = _
  rw [va_up_ne _ _ h]
/-- rounds -/
theorem few_c {N z y : Nat} {σ1 σ2 : pS} {who : Int32} (hN : 20000 < N) (h : Sim z y σ1 σ2) : ∃ υ r, fX5_shortest N (G1 z) (z + 127) (z + 3) who σ1 = some (r, υ) ∧ E1 z σ1 υ ∧ Few (σ2.2.1 (y + 1)) who r := by
  have wi := h.wi
  obtain ⟨τ, o1, o2, o3⟩ := c_fopen (N := N) hN h
  unfold fX5_shortest
  simp only [g1r_3_2]
  rw [o1, b_some]
  suffices hh : ∃ q : Int32 × pS, (E1 z σ1 q.2 ∧ Few (σ2.2.1 (y + 1)) who q.1) ∧ fX5_shortest_b10 N (G1 z) (z + 127) (z + 3) who (1, τ) = some q by
    obtain ⟨⟨q1, q2⟩, ⟨x1, x2⟩, x3⟩ := hh
    exact ⟨q2, q1, x3, x1, x2⟩
  unfold fX5_shortest_b10
  simp only [g1r_127_2, g1r_127_3, g1n_133, g1n_134]
  refine lp_forR (fun k b => ∃ ρ, b = (nI (k + 1), ρ) ∧ CF z (σ2.2.1 (y + 1)) σ1 ρ ∧ (∀ d t, d < 100 → t < 64 → iS z 133 ρ d t → En (σ2.2.1 (y + 1)) who k (eff (σ2.2.1 (y + 1)) t) d) ∧ (∀ S d, En (σ2.2.1 (y + 1)) who k S d → ∃ t, t < 64 ∧ eff (σ2.2.1 (y + 1)) t = S ∧ iS z 132 ρ d t) ∧ (∀ d t, d < 100 → t < 64 → iS z 132 ρ d t → iS z 133 ρ d t ∨ (¬ askS (σ2.2.1 (y + 1)) who (eff (σ2.2.1 (y + 1)) t) d ∧ Exq z (σ2.2.1 (y + 1)) who ρ (eff (σ2.2.1 (y + 1)) t) d (cN (σ2.2.1 (y + 1)) 2))) ∧ ∀ m, m < k → ¬ askE (σ2.2.1 (y + 1)) who m) _ 20 (by omega) ?_ ?_ ?_
  · rintro k hk _ ⟨ρ, rfl, h1, h2, h3, h4, h6⟩
    obtain ⟨υ, r, x0, xc, x⟩ := c_more (N := N) (n := k) (who := who) hN h h1 h2
    rcases x with ⟨r1, d, t, y1, y2, y3, y4⟩ | ⟨r0, x1, x2, x3, x4⟩
    · right
      subst r1
      refine ⟨(nI (k + 1), υ), ⟨xc.1, Or.inl ⟨k, hk, ⟨_, d, h2 d t y1 y2 y3, y4⟩, h6, rfl⟩⟩, fun p => ?_⟩
      dsimp only
      rw [if_neg (show ¬ (20 : Int32) < nI (k + 1) from nI_nlt (a := 20) (by omega) (by omega)), x0, b_some, if_neg (show ¬ (1 : Int32) = 0 by decide)]
    · left
      subst r0
      have s133 : ∀ d t, d < 100 → (iS z 133 (cpJ υ (z + 134) 0 (z + 133) 0 100) d t ↔ iS z 134 υ d t) := fun d t hd => by
        unfold iS
        rw [cpj_in hd]
      have s132 : ∀ d t, iS z 132 (cpJ υ (z + 134) 0 (z + 133) 0 100) d t ↔ iS z 132 υ d t := fun d t => by
        unfold iS
        rw [cpj_o (by omega)]
      have ex : ∀ S d, Exq z (σ2.2.1 (y + 1)) who υ S d (cN (σ2.2.1 (y + 1)) 2) → Exq z (σ2.2.1 (y + 1)) who (cpJ υ (z + 134) 0 (z + 133) 0 100) S d (cN (σ2.2.1 (y + 1)) 2) := by
        intro S d e j hj
        obtain ⟨t', a1, a2, a3⟩ := e j hj
        exact ⟨t', a1, a2, (s132 _ _).mpr a3⟩
      have all : ∀ d t, d < 100 → t < 64 → iS z 132 ρ d t → ¬ askS (σ2.2.1 (y + 1)) who (eff (σ2.2.1 (y + 1)) t) d ∧ Exq z (σ2.2.1 (y + 1)) who υ (eff (σ2.2.1 (y + 1)) t) d (cN (σ2.2.1 (y + 1)) 2) := by
        intro d t hd ht a
        rcases h4 d t hd ht a with b | ⟨b1, b2⟩
        · exact x4 d t hd ht b
        · refine ⟨b1, fun j hj => ?_⟩
          obtain ⟨t', a1, a2, a3⟩ := b2 j hj
          exact ⟨t', a1, a2, x1 _ _ a3⟩
      refine ⟨(nI (k + 1 + 1), cpJ υ (z + 134) 0 (z + 133) 0 100), ⟨_, rfl, xc.j rfl rfl, fun d t hd ht a => x3 d t hd ((s133 d t hd).mp a), ?_, fun d t hd ht a => ?_, fun m hm => ?_⟩, fun p => ?_⟩
      · rintro S' d' ⟨S, d, j, e1, e2, e3, e4⟩
        have hd := En_lt wi h.hl k S d e1
        obtain ⟨t, b1, b2, b3⟩ := h3 S d e1
        obtain ⟨t', a1, a2, a3⟩ := (all d t hd b1 b3).2 j e2
        rw [b2] at a2 a3
        refine ⟨t', a1, a2.trans e3.symm, ?_⟩
        rw [e4]
        exact (s132 _ _).mpr a3
      · rcases x2 d t ((s132 d t).mp a) with b | b
        · have := all d t hd ht b
          exact Or.inr ⟨this.1, ex _ _ this.2⟩
        · exact Or.inl ((s133 d t hd).mpr b)
      · by_cases e : m = k
        · subst e
          rintro ⟨S, d, e1, e2⟩
          obtain ⟨t, b1, b2, b3⟩ := h3 S d e1
          have := (all d t (En_lt wi h.hl m S d e1) b1 b3).1
          rw [b2] at this
          exact this e2
        · exact h6 m (by omega)
      · dsimp only
        rw [if_neg (show ¬ (20 : Int32) < nI (k + 1) from nI_nlt (a := 20) (by omega) (by omega)), x0, b_some, if_pos rfl, show cpB 0 0 100 100 100 = true by decide, ck_t, nI_1]
  · rintro _ ⟨ρ, rfl, h1, h2, h3, h4, h6⟩
    refine ⟨(-1, ρ), ⟨h1.1, Or.inr ⟨h6, rfl⟩⟩, fun p => ?_⟩
    dsimp only
    rw [if_pos (show (20 : Int32) < nI (20 + 1) from nI_lt (a := 20) (b := 21) (by omega) (by omega))]
  · refine ⟨τ, rfl, o2, fun d t hd ht a => ?_, fun S d e => ?_, fun d t hd ht a => ?_, fun m hm => by omega⟩
    · unfold iS at a
      rw [(o3 d hd).1] at a
      by_cases u : nI d = σ2.2.1 (y + 1) 7
      · rw [if_pos u, lb_1 t ht] at a
        have e : t = 0 := of_decide_eq_true a
        rw [e, eff_0]
        exact ⟨rfl, u, hd⟩
      · rw [if_neg u, lb_0] at a
        cases a
    · obtain ⟨e1, e2, e3⟩ := e
      refine ⟨0, by omega, eff_0.trans e1.symm, ?_⟩
      unfold iS
      rw [(o3 d e3).2, (o3 d e3).1, if_pos e2, lb_1 0 (by omega)]
      rfl
    · left
      unfold iS at a ⊢
      rw [(o3 d hd).2] at a
      exact a
