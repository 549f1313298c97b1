/-! numbers, cells -/
theorem i_add {a b : Int32} (h1 : -2147483648 ≤ a.toInt + b.toInt) (h2 : a.toInt + b.toInt < 2147483648) : (a + b).toInt = a.toInt + b.toInt := by
  rw [Int32.toInt_add]
  exact Int.bmod_eq_of_le (by omega) (by omega)
theorem i_sub {a b : Int32} (h1 : -2147483648 ≤ a.toInt - b.toInt) (h2 : a.toInt - b.toInt < 2147483648) : (a - b).toInt = a.toInt - b.toInt := by
  rw [Int32.toInt_sub]
  exact Int.bmod_eq_of_le (by omega) (by omega)
theorem i_mul {a b : Int32} (h1 : -2147483648 ≤ a.toInt * b.toInt) (h2 : a.toInt * b.toInt < 2147483648) : (a * b).toInt = a.toInt * b.toInt := by
  rw [Int32.toInt_mul]
  exact Int.bmod_eq_of_le (by omega) (by omega)
theorem i_clamp {a : Int32} : a.toNatClampNeg = a.toInt.toNat := rfl
theorem i_ext {a b : Int32} (h : a.toInt = b.toInt) : a = b := Int32.toInt_inj.mp h
theorem i_ne {a b : Int32} (h : ¬ a.toInt = b.toInt) : ¬ a = b := fun e => h (by rw [e])
theorem i_of {n : Nat} (h : n < 2147483648) : (Int32.ofNat n).toInt = (n : Int) := nI_toInt (by omega)
theorem i_lt {a b : Int32} : a < b ↔ a.toInt < b.toInt := Int32.lt_iff_toInt_lt
theorem i_le {a b : Int32} : a ≤ b ↔ a.toInt ≤ b.toInt := Int32.le_iff_toInt_le
theorem i_hi (a : Int32) : a.toInt < 2147483648 := by
  have := a.toInt_lt
  omega
theorem i_lo (a : Int32) : -2147483648 ≤ a.toInt := by
  have := a.le_toInt
  omega
theorem inB_i {i : Int32} {n : Nat} (h0 : 0 ≤ i.toInt) (h1 : i.toInt < n) : inB i n = true := by
  have z : (0 : Int32).toInt = 0 := by decide
  simp only [inB, Bool.and_eq_true, Bool.not_eq_true', decide_eq_false_iff_not, decide_eq_true_eq, i_lt, i_clamp, z]
  omega
theorem ck_t {α : Type} {x : Option α} : ck true x = x := rfl
theorem b_some {α β : Type} {a : α} {f : α → Option β} : (some a).bind f = f a := rfl
theorem e_inl {α β γ : Type} {a : α} {f : α → γ} {g : β → γ} : (Sum.inl a : α ⊕ β).elim f g = f a := rfl
theorem e_inr {α β γ : Type} {b : β} {f : α → γ} {g : β → γ} : (Sum.inr b : α ⊕ β).elim f g = g b := rfl
/-! cells read behind writes -/
theorem pf1 {σ : pS} {a k b j : Nat} {v : Int32} : (putF σ a k v).1 b j = if b = a ∧ j = k then v else σ.1 b j := rfl
theorem pf2 {σ : pS} {a k : Nat} {v : Int32} : (putF σ a k v).2 = σ.2 := rfl
theorem sa1 {σ : pS} {a : Nat} {i v : Int32} : (sA σ a i v).1 = σ.1 := rfl
theorem sa2 {σ : pS} {a b j : Nat} {i v : Int32} : (sA σ a i v).2.1 b j = if b = a ∧ j = i.toNatClampNeg then v else σ.2.1 b j := rfl
theorem sa3 {σ : pS} {a : Nat} {i v : Int32} : (sA σ a i v).2.2 = σ.2.2 := rfl
theorem sj1 {σ : pS} {a : Nat} {i : Int32} {v : Int64} : (sJ σ a i v).1 = σ.1 := rfl
theorem sj2 {σ : pS} {a : Nat} {i : Int32} {v : Int64} : (sJ σ a i v).2.1 = σ.2.1 := rfl
theorem sj3 {σ : pS} {a b j : Nat} {i : Int32} {v : Int64} : (sJ σ a i v).2.2 b j = if b = a ∧ j = i.toNatClampNeg then v else σ.2.2 b j := rfl
theorem ga {σ : pS} {a : Nat} {i : Int32} : gA σ a i = σ.2.1 a i.toInt.toNat := rfl
theorem gj {σ : pS} {a : Nat} {i : Int32} : gJ σ a i = σ.2.2 a i.toInt.toNat := rfl
/-! loops with fuel -/
theorem lp_fun {β α : Type} {body : (β → Option α) → β → Option α} (I : β → Prop) (m : β → Nat) (F : β → α) (step : ∀ b, I b → (∀ k, body k b = some (F b)) ∨ (∃ b', I b' ∧ m b' < m b ∧ F b' = F b ∧ ∀ k, body k b = k b')) : ∀ (n : Nat) (b : β), I b → m b < n → lp body n b = some (F b) := by
  intro n
  induction n with
  | zero => intro b _ h; exact absurd h (Nat.not_lt_zero _)
  | succ n ih =>
    intro b hI hm
    show body (lp body n) b = some (F b)
    rcases step b hI with h | ⟨b', h1, h2, h3, h4⟩
    · exact h _
    · rw [h4, ih b' h1 (by omega), h3]
/-- the same, with a relation for the result -/
theorem lp_rel {β α : Type} {body : (β → Option α) → β → Option α} (I : β → Prop) (m : β → Nat) (R : β → α → Prop) (step : ∀ b, I b → (∃ r, R b r ∧ ∀ k, body k b = some r) ∨ (∃ b', I b' ∧ m b' < m b ∧ (∀ r, R b' r → R b r) ∧ ∀ k, body k b = k b')) : ∀ (n : Nat) (b : β), I b → m b < n → ∃ r, R b r ∧ lp body n b = some r := by
  intro n
  induction n with
  | zero => intro b _ h; exact absurd h (Nat.not_lt_zero _)
  | succ n ih =>
    intro b hI hm
    show ∃ r, R b r ∧ body (lp body n) b = some r
    rcases step b hI with ⟨r, h0, h⟩ | ⟨b', h1, h2, h3, h4⟩
    · exact ⟨r, h0, h _⟩
    · obtain ⟨r, h5, h6⟩ := ih b' h1 (by omega)
      exact ⟨r, h3 r h5, by rw [h4, h6]⟩
/-! bits -/
def bit (x : Int32) (i : Nat) : Bool := x.toBitVec.getLsbD i
theorem bit_ext {x y : Int32} (h : ∀ i, i < 32 → bit x i = bit y i) : x = y := by
  apply Int32.toBitVec_inj.mp
  apply BitVec.eq_of_getLsbD_eq
  intro i hi
  exact h i hi
theorem bit_or {x y : Int32} {i : Nat} : bit (x ||| y) i = (bit x i || bit y i) := by
  simp [bit, Int32.toBitVec_or]
theorem bit_and {x y : Int32} {i : Nat} : bit (x &&& y) i = (bit x i && bit y i) := by
  simp [bit, Int32.toBitVec_and]
theorem bit_xor {x y : Int32} {i : Nat} : bit (x ^^^ y) i = (bit x i ^^ bit y i) := by
  simp [bit, Int32.toBitVec_xor]
theorem bit_0 {i : Nat} : bit 0 i = false := by
  simp [bit]
theorem bit_m1 {i : Nat} (h : i < 32) : bit (-1) i = true := by
  have e : (-1 : Int32).toBitVec = BitVec.allOnes 32 := by decide
  unfold bit
  rw [e, BitVec.getLsbD_allOnes]
  exact decide_eq_true h
theorem bit_hi {x : Int32} {i : Nat} (h : 32 ≤ i) : bit x i = false := BitVec.getLsbD_of_ge _ _ h
theorem sh_mod : ∀ k, k < 32 → ((nI k &&& 31).toBitVec.smod 32) = BitVec.ofNat 32 k := by decide +kernel
theorem bit_one : ∀ k, k < 32 → ∀ i, i < 32 → bit ((1 : Int32) <<< (nI k &&& 31)) i = decide (i = k) := by decide +kernel
theorem bit_shl1 {k i : Nat} (hk : k < 32) : bit ((1 : Int32) <<< (nI k &&& 31)) i = decide (i = k) := by
  rcases Nat.lt_or_ge i 32 with h | h
  · exact bit_one k hk i h
  · rw [bit_hi h]
    exact (decide_eq_false (by omega)).symm
theorem bit_shr {x : Int32} {k i : Nat} (hk : k < 32) (hi : k + i < 32) : bit (x >>> (nI k &&& 31)) i = bit x (k + i) := by
  unfold bit
  have e : (x >>> (nI k &&& 31)).toBitVec = BitVec.sshiftRight' x.toBitVec ((nI k &&& 31).toBitVec.smod 32) := rfl
  rw [e, sh_mod k hk]
  show (BitVec.sshiftRight x.toBitVec (BitVec.ofNat 32 k).toNat).getLsbD i = _
  have e2 : (BitVec.ofNat 32 k).toNat = k := by
    rw [BitVec.toNat_ofNat]
    omega
  rw [e2, BitVec.getLsbD_sshiftRight]
  have h1 : ¬ 32 ≤ i := by omega
  simp [h1, hi]
theorem bit_1 {i : Nat} : bit 1 i = decide (i = 0) := by
  have := bit_shl1 (k := 0) (i := i) (by decide)
  rw [← this]
  rfl
theorem has_bit {x : Int32} {k : Nat} (hk : k < 32) : (((x >>> (nI k &&& 31)) &&& (1 : Int32)) = (1 : Int32)) ↔ bit x k = true := by
  constructor
  · intro h
    have h2 : bit ((x >>> (nI k &&& 31)) &&& (1 : Int32)) 0 = bit 1 0 := by rw [h]
    rw [bit_and, bit_shr hk (by omega), bit_1] at h2
    simpa using h2
  · intro h
    apply bit_ext
    intro i hi
    rw [bit_and, bit_1]
    by_cases h0 : i = 0
    · subst h0
      rw [bit_shr hk (by omega)]
      simpa using h
    · simp [h0]
