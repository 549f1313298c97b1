/-! the start -/
theorem sim0 (z y : Nat) : Sim z y (S1 z) (S2 y) := by
  have hF : ∀ o k, (S1 z).1 (z + o) k = (k1F.getD o []).getD k 0 := by
    intro o k
    show (k1F.getD (z + o - z) []).getD k 0 = _
    rw [Nat.add_sub_cancel_left]
  have hF2 : ∀ k, (S2 y).1 y k = (k2F.getD 0 []).getD k 0 := by
    intro k
    show (k2F.getD (y - y) []).getD k 0 = _
    rw [Nat.sub_self]
  have hW : (S2 y).2.1 (y + 1) = w2 := by
    funext i
    show (if y + 1 - y = 1 then w2 i else 0) = w2 i
    rw [Nat.add_sub_cancel_left, if_pos rfl]
  have c0 : ∀ k, k < 7 → cN w2 k = 0 := by decide
  have c15 : cN w2 15 = 0 := by decide
  have i0 : WInv w2 := by
    refine ⟨by decide, by decide, by decide, by decide, by decide, by decide, by decide, by decide, by decide, by decide, by decide, by decide, ?_, by decide, by decide, by decide, ?_, ?_, ?_, ?_, ?_, ?_⟩
    · intro i h
      have e : bit (w2 12) i = bit 0 i := rfl
      rw [e, bit_0] at h
      cases h
    · intro i h
      rw [c0 0 (by omega)] at h
      omega
    · intro i h
      rw [c0 1 (by omega)] at h
      omega
    · intro i h
      rw [c0 2 (by omega)] at h
      omega
    · intro i h
      rw [c0 3 (by omega)] at h
      omega
    · intro i h
      rw [c0 4 (by omega)] at h
      omega
    · intro i h
      rw [c15] at h
      omega
  refine ⟨?_, ?_, ?_, ⟨?_, ?_, ?_⟩, ?_, ?_, ?_, ?_, ?_⟩
  · rw [hW]
    refine ⟨i0, ⟨?_, ?_, ?_, ?_, ?_, ?_, ?_⟩, ⟨?_, ?_⟩, ⟨?_, ?_, ?_, ?_, ?_, ?_, ?_, ?_⟩, ?_, 0, by omega, ?_, ?_⟩
    · simp only [hF]
      decide
    · intro i h
      rw [c0 0 (by omega)] at h
      omega
    · intro t ht i
      have e : bit ((S1 z).2.1 (z + 4 + (1 + 2)) t) i = bit 0 i := rfl
      rw [e, bit_0, c0 0 (by omega)]
      simp
    · intro i h
      rw [c0 2 (by omega)] at h
      omega
    · intro i h
      rw [c0 3 (by omega)] at h
      omega
    · intro i h
      rw [c0 1 (by omega)] at h
      omega
    · intro i h
      rw [c0 4 (by omega)] at h
      omega
    · rw [Nat.add_assoc, hF]
      decide
    · intro h
      exact absurd h (by decide)
    · rw [Nat.add_assoc, hF]
      decide
    · rw [Nat.add_assoc, hF]
      decide
    · rw [Nat.add_assoc, hF]
      decide
    · rw [Nat.add_assoc, hF]
      decide
    · intro i
      rw [Nat.add_assoc, hF, c0 1 (by omega)]
      show bit 0 i = _
      rw [bit_0]
      simp
    · rw [Nat.add_assoc, hF]
      decide
    · rw [Nat.add_assoc, hF]
      decide
    · intro i h
      rw [c0 1 (by omega)] at h
      omega
    · rw [Nat.add_assoc, hF]
      decide
    · rw [Nat.add_assoc, hF]
      decide
    · intro i h
      rw [c15] at h
      omega
  · rw [hF2]
    refine ⟨by decide, ?_, 0, by omega, ?_, fun i hi => ?_⟩
    · rw [hF]
      decide
    · rw [hF]
      decide
    · exact absurd hi (by
        have e : ((k2F.getD 0 []).getD 7 0).toInt.toNat = 0 := by decide
        rw [e]
        omega)
  · rw [hF2]
    decide
  · rw [hF2]
    show (S1 z).1 (z + 0) 10 = _
    rw [hF]
    decide
  · rw [hF2]
    decide
  · rw [hF2]
    intro h
    exact absurd h (by decide)
  · rw [hF2]
    show (S1 z).1 (z + 0) 9 = _
    rw [hF]
    decide
  · rw [hF2, hF]
    decide
  · rw [hF2]
    decide
  · rw [hF2]
    decide
  · rw [hF2]
    intro i hi
    exact absurd hi (by
      have e : ((k2F.getD 0 []).getD 9 0).toInt.toNat = 0 := by decide
      rw [e]
      omega)
