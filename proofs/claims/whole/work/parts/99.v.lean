/-! the law's texts: atoms -/
theorem atom_step {N z y L m : Nat} {B : Nat → Int32} {rc : Nat × pS → Option (Int32 × pS)} (hN : 20000 < N) (ha : AtomOK N z y B L rc m) : AtomOK N z y B L (fun b => fX12_readAtom_u N (G2 y) rc b.1 b.2) (m + 1) := by
  intro d j p k W0 E R τ1 τ2 jt c r h13 hk hE hR hD hm h0 hW
  have n1 : ¬ (1 : Int32) = 0 := by decide
  have f3 : p ≤ en blk B L p := en_le
  show AS N z y B L k τ1 τ2 d W0 E R j (2 * (6 - (d + j))) p (fX12_readAtom_u N (G2 y) rc y τ2) ∨ AF N z y k τ1 τ2 (fX12_readAtom_u N (G2 y) rc y τ2)
  unfold fX12_readAtom_u
  obtain ⟨v, ψ, p4, b4, s1, s2, s3, s4, s5, s6, s7, s8⟩ := jt.sign hN sg_40
  have s5 : fX12_sign N (G2 y) y (40 : Int32) τ2 = some (v, PT y τ2 p4 b4) := s5
  have s40 := c_isSign (N := N) jt.1 jt.2.1 sg_40
  rw [s5, b_some]
  dsimp only
  rcases s8 with ⟨rfl, s9, s10⟩ | ⟨rfl, s9, rfl, s11⟩
  · rw [if_neg n1, s9]
    have u : en blk B L p < L ∧ B (en blk B L p) = nI 40 := Classical.byContradiction (fun g => by
      rw [if_neg g, s1] at s40
      injection s40 with s40
      exact absurd s40 (by decide))
    exact j_open hN ha jt c r h13 u hk hE hR hD (by omega) h0 hW
  · rw [if_pos rfl, s11]
    have s1 : fX9_isSign N (G1 z) (z + 1) (40 : Int32) ψ = some 0 := s1
    rcases j_not (k := k) (rc := rc) hN ha (jt.blanks hN).2 c (r.pt (p := en blk B L p) (b := en blk B L p)) (by rw [PT_fo (by decide) (by decide)]; exact h13) s1 (by omega) (by omega) (by omega) hD (by omega) h0 hW with h | h
    · exact Or.inl (h.pre FZ.pt (by rw [PT_fo (by decide) (by decide)]) (by omega) (Nat.le_refl _))
    · exact Or.inr (h.pre FZ.pt)
theorem atom_all {N z y L : Nat} {B : Nat → Int32} (hN : 20000 < N) : ∀ m, AtomOK N z y B L (lp (fun (rc : Nat × pS → Option (Int32 × pS)) (b : Nat × pS) => fX12_readAtom_u N (G2 y) rc b.1 b.2) m) m := by
  intro m
  induction m with
  | zero =>
    intro d j p k W0 E R τ1 τ2 jt c r h13 hk hE hR hD hm h0 hW
    omega
  | succ m ih => exact atom_step hN ih
theorem atom_r {N z y L : Nat} {B : Nat → Int32} (hN : 20000 < N) : AtomOK N z y B L (fX12_readAtom_r N (G2 y)) 9 := atom_all hN 9
