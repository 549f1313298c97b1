/-! small functions -/
theorem nI_mul (a b : Nat) : nI a * nI b = nI (a * b) := (Int32.ofNat_mul a b).symm
theorem ix3 (a b k c : Nat) : nI a + nI b * nI k + nI c = nI (a + b * k + c) := by
  rw [nI_mul, nI_add, nI_add]
theorem ix2 (a b k : Nat) : nI a + nI b * nI k = nI (a + b * k) := by
  rw [nI_mul, nI_add]
theorem ck_nI {α : Type} {n m : Nat} {x : Option α} (h : n < m) (hm : m < 2147483648) : ck (inB (nI n) m) x = x := by
  have e : inB (nI n) m = true := inB_i (by rw [nI_toInt (by omega)]; omega) (by rw [nI_toInt (by omega)]; omega)
  rw [e]
  rfl
theorem gA_nI {σ : pS} {a n : Nat} (h : n < 2147483648) : gA σ a (nI n) = σ.2.1 a n := by
  show σ.2.1 a (nI n).toNatClampNeg = _
  rw [nI_clamp (by omega)]
theorem at_fn {N : Nat} {G : pG} {a k m : Nat} {σ : pS} (hm : pN G a = m) (hk : k < m) (h2 : m < 2147483648) : fX11_at N G a (nI k) σ = some (σ.2.1 a k) := by
  unfold fX11_at
  rw [hm, if_neg (nI_pos (by omega)), if_neg (show ¬ Int32.ofNat m ≤ nI k from nI_ge hk (by omega)), ck_nI hk h2, gA_nI (by omega)]
def bc (x : Int32) : Int32 := (fJ6_bitCount_0f7a4 0 (G1 0) x (S1 0)).getD 0
theorem bc_fn {N : Nat} {G : pG} {x : Int32} {σ : pS} : fJ6_bitCount_0f7a4 N G x σ = some (bc x) := rfl
theorem r_t0 {N : Nat} {G : pG} {y : Nat} {c : Int32} {σ : pS} : fX12_throwsIf N G y 0 c σ = some (0, σ) := rfl
theorem r_t1 {N : Nat} {G : pG} {y : Nat} {c : Int32} {σ : pS} : fX12_throwsIf N G y 1 c σ = some (1, putF σ y 0 c) := rfl
theorem r_inn {N : Nat} {G : pG} {a b c : Int32} {σ : pS} : fX12_in N G a b c σ = some (if a < b then 0 else if c < a then 0 else 1) := by
  unfold fX12_in
  split
  · rfl
  · split <;> rfl
theorem r_names {N y : Nat} {σ : pS} : fX12_names N (G2 y) y σ = some (σ.2.1 (y + 1) 0) := by
  unfold fX12_names
  simp only [g2r_0_1, g2r_0_2, g2r_0_3, g2r_0_4, g2r_0_5, g2r_0_8, g2r_0_15, g2r_0_17, g2r_0_25, g2r_0_26, g2r_0_27, g2r_0_28, g2n_1, g2n_2, g2n_3, g2n_4, g2n_5, g2n_6, g2n_7, g2n_8, g2n_9, g2n_10, g2n_11, g2n_12]; rfl
theorem r_court {N y : Nat} {σ : pS} : fX12_courtiers N (G2 y) y σ = some (σ.2.1 (y + 1) 1) := by
  unfold fX12_courtiers
  simp only [g2r_0_1, g2r_0_2, g2r_0_3, g2r_0_4, g2r_0_5, g2r_0_8, g2r_0_15, g2r_0_17, g2r_0_25, g2r_0_26, g2r_0_27, g2r_0_28, g2n_1, g2n_2, g2n_3, g2n_4, g2n_5, g2n_6, g2n_7, g2n_8, g2n_9, g2n_10, g2n_11, g2n_12]; rfl
theorem r_words {N y : Nat} {σ : pS} : fX12_words N (G2 y) y σ = some (σ.2.1 (y + 1) 2) := by
  unfold fX12_words
  simp only [g2r_0_1, g2r_0_2, g2r_0_3, g2r_0_4, g2r_0_5, g2r_0_8, g2r_0_15, g2r_0_17, g2r_0_25, g2r_0_26, g2r_0_27, g2r_0_28, g2n_1, g2n_2, g2n_3, g2n_4, g2n_5, g2n_6, g2n_7, g2n_8, g2n_9, g2n_10, g2n_11, g2n_12]; rfl
theorem r_deeds {N y : Nat} {σ : pS} : fX12_deeds N (G2 y) y σ = some (σ.2.1 (y + 1) 3) := by
  unfold fX12_deeds
  simp only [g2r_0_1, g2r_0_2, g2r_0_3, g2r_0_4, g2r_0_5, g2r_0_8, g2r_0_15, g2r_0_17, g2r_0_25, g2r_0_26, g2r_0_27, g2r_0_28, g2n_1, g2n_2, g2n_3, g2n_4, g2n_5, g2n_6, g2n_7, g2n_8, g2n_9, g2n_10, g2n_11, g2n_12]; rfl
theorem r_duties {N y : Nat} {σ : pS} : fX12_duties N (G2 y) y σ = some (σ.2.1 (y + 1) 4) := by
  unfold fX12_duties
  simp only [g2r_0_1, g2r_0_2, g2r_0_3, g2r_0_4, g2r_0_5, g2r_0_8, g2r_0_15, g2r_0_17, g2r_0_25, g2r_0_26, g2r_0_27, g2r_0_28, g2n_1, g2n_2, g2n_3, g2n_4, g2n_5, g2n_6, g2n_7, g2n_8, g2n_9, g2n_10, g2n_11, g2n_12]; rfl
theorem r_gone {N y : Nat} {σ : pS} : fX12_isGone N (G2 y) y σ = some (if σ.2.1 (y + 1) 13 = 1 then 1 else 0) := by
  unfold fX12_isGone
  simp only [g2r_0_1, g2r_0_2, g2r_0_3, g2r_0_4, g2r_0_5, g2r_0_8, g2r_0_15, g2r_0_17, g2r_0_25, g2r_0_26, g2r_0_27, g2r_0_28, g2n_1, g2n_2, g2n_3, g2n_4, g2n_5, g2n_6, g2n_7, g2n_8, g2n_9, g2n_10, g2n_11, g2n_12]
  show (if σ.2.1 (y + 1) 13 = 1 then _ else _) = _
  split <;> rfl
theorem r_howMany {N y : Nat} {σ : pS} : fX12_howMany N (G2 y) y σ = some (bc (σ.2.1 (y + 1) 12)) := by
  unfold fX12_howMany
  simp only [g2r_0_1, g2r_0_2, g2r_0_3, g2r_0_4, g2r_0_5, g2r_0_8, g2r_0_15, g2r_0_17, g2r_0_25, g2r_0_26, g2r_0_27, g2r_0_28, g2n_1, g2n_2, g2n_3, g2n_4, g2n_5, g2n_6, g2n_7, g2n_8, g2n_9, g2n_10, g2n_11, g2n_12]; rfl
theorem r_ofName0 {N y n : Nat} {σ : pS} (h : n < 500) : fX12_ofName N (G2 y) y (nI n) 0 σ = some (σ.2.1 (y + 1) (17 + 2 * n)) := by
  unfold fX12_ofName
  simp only [g2r_0_1, g2r_0_2, g2r_0_3, g2r_0_4, g2r_0_5, g2r_0_8, g2r_0_15, g2r_0_17, g2r_0_25, g2r_0_26, g2r_0_27, g2r_0_28, g2n_1, g2n_2, g2n_3, g2n_4, g2n_5, g2n_6, g2n_7, g2n_8, g2n_9, g2n_10, g2n_11, g2n_12]
  rw [show (17 : Int32) + 2 * nI n + 0 = nI (17 + 2 * n + 0) from ix3 17 2 n 0, ck_nI (by omega) (by omega), gA_nI (by omega)]
  rfl
theorem r_ofName1 {N y n : Nat} {σ : pS} (h : n < 500) : fX12_ofName N (G2 y) y (nI n) 1 σ = some (σ.2.1 (y + 1) (18 + 2 * n)) := by
  unfold fX12_ofName
  simp only [g2r_0_1, g2r_0_2, g2r_0_3, g2r_0_4, g2r_0_5, g2r_0_8, g2r_0_15, g2r_0_17, g2r_0_25, g2r_0_26, g2r_0_27, g2r_0_28, g2n_1, g2n_2, g2n_3, g2n_4, g2n_5, g2n_6, g2n_7, g2n_8, g2n_9, g2n_10, g2n_11, g2n_12]
  rw [show (17 : Int32) + 2 * nI n + 1 = nI (17 + 2 * n + 1) from ix3 17 2 n 1, ck_nI (by omega) (by omega), gA_nI (by omega), show 17 + 2 * n + 1 = 18 + 2 * n by omega]
theorem r_ofWho0 {N y n : Nat} {σ : pS} (h : n < 500) : fX12_ofWho N (G2 y) y (nI n) 0 σ = some (σ.2.1 (y + 1) (37 + 3 * n)) := by
  unfold fX12_ofWho
  simp only [g2r_0_1, g2r_0_2, g2r_0_3, g2r_0_4, g2r_0_5, g2r_0_8, g2r_0_15, g2r_0_17, g2r_0_25, g2r_0_26, g2r_0_27, g2r_0_28, g2n_1, g2n_2, g2n_3, g2n_4, g2n_5, g2n_6, g2n_7, g2n_8, g2n_9, g2n_10, g2n_11, g2n_12]
  rw [show (37 : Int32) + 3 * nI n + 0 = nI (37 + 3 * n + 0) from ix3 37 3 n 0, ck_nI (by omega) (by omega), gA_nI (by omega)]
  rfl
theorem r_ofWho1 {N y n : Nat} {σ : pS} (h : n < 500) : fX12_ofWho N (G2 y) y (nI n) 1 σ = some (σ.2.1 (y + 1) (38 + 3 * n)) := by
  unfold fX12_ofWho
  simp only [g2r_0_1, g2r_0_2, g2r_0_3, g2r_0_4, g2r_0_5, g2r_0_8, g2r_0_15, g2r_0_17, g2r_0_25, g2r_0_26, g2r_0_27, g2r_0_28, g2n_1, g2n_2, g2n_3, g2n_4, g2n_5, g2n_6, g2n_7, g2n_8, g2n_9, g2n_10, g2n_11, g2n_12]
  rw [show (37 : Int32) + 3 * nI n + 1 = nI (37 + 3 * n + 1) from ix3 37 3 n 1, ck_nI (by omega) (by omega), gA_nI (by omega), show 37 + 3 * n + 1 = 38 + 3 * n by omega]
theorem r_ofWho2 {N y n : Nat} {σ : pS} (h : n < 500) : fX12_ofWho N (G2 y) y (nI n) 2 σ = some (σ.2.1 (y + 1) (39 + 3 * n)) := by
  unfold fX12_ofWho
  simp only [g2r_0_1, g2r_0_2, g2r_0_3, g2r_0_4, g2r_0_5, g2r_0_8, g2r_0_15, g2r_0_17, g2r_0_25, g2r_0_26, g2r_0_27, g2r_0_28, g2n_1, g2n_2, g2n_3, g2n_4, g2n_5, g2n_6, g2n_7, g2n_8, g2n_9, g2n_10, g2n_11, g2n_12]
  rw [show (37 : Int32) + 3 * nI n + 2 = nI (37 + 3 * n + 2) from ix3 37 3 n 2, ck_nI (by omega) (by omega), gA_nI (by omega), show 37 + 3 * n + 2 = 39 + 3 * n by omega]
theorem r_isNear {N y n : Nat} {σ : pS} (h : n < 500) : fX12_isNear N (G2 y) y (nI n) σ = some (if σ.2.1 (y + 1) (39 + 3 * n) = 1 then 1 else 0) := by
  unfold fX12_isNear
  rw [r_ofWho2 h, b_some]
  split <;> rfl
theorem r_ofWord0 {N y n : Nat} {σ : pS} (h : n < 500) : fX12_ofWord N (G2 y) y (nI n) 0 σ = some (σ.2.1 (y + 1) (55 + 2 * n)) := by
  unfold fX12_ofWord
  simp only [g2r_0_1, g2r_0_2, g2r_0_3, g2r_0_4, g2r_0_5, g2r_0_8, g2r_0_15, g2r_0_17, g2r_0_25, g2r_0_26, g2r_0_27, g2r_0_28, g2n_1, g2n_2, g2n_3, g2n_4, g2n_5, g2n_6, g2n_7, g2n_8, g2n_9, g2n_10, g2n_11, g2n_12]
  rw [show (55 : Int32) + 2 * nI n + 0 = nI (55 + 2 * n + 0) from ix3 55 2 n 0, ck_nI (by omega) (by omega), gA_nI (by omega)]
  rfl
theorem r_ofWord1 {N y n : Nat} {σ : pS} (h : n < 500) : fX12_ofWord N (G2 y) y (nI n) 1 σ = some (σ.2.1 (y + 1) (56 + 2 * n)) := by
  unfold fX12_ofWord
  simp only [g2r_0_1, g2r_0_2, g2r_0_3, g2r_0_4, g2r_0_5, g2r_0_8, g2r_0_15, g2r_0_17, g2r_0_25, g2r_0_26, g2r_0_27, g2r_0_28, g2n_1, g2n_2, g2n_3, g2n_4, g2n_5, g2n_6, g2n_7, g2n_8, g2n_9, g2n_10, g2n_11, g2n_12]
  rw [show (55 : Int32) + 2 * nI n + 1 = nI (55 + 2 * n + 1) from ix3 55 2 n 1, ck_nI (by omega) (by omega), gA_nI (by omega), show 55 + 2 * n + 1 = 56 + 2 * n by omega]
theorem r_ofDeed0 {N y n : Nat} {σ : pS} (h : n < 500) : fX12_ofDeed N (G2 y) y (nI n) 0 σ = some (σ.2.1 (y + 1) (67 + 2 * n)) := by
  unfold fX12_ofDeed
  simp only [g2r_0_1, g2r_0_2, g2r_0_3, g2r_0_4, g2r_0_5, g2r_0_8, g2r_0_15, g2r_0_17, g2r_0_25, g2r_0_26, g2r_0_27, g2r_0_28, g2n_1, g2n_2, g2n_3, g2n_4, g2n_5, g2n_6, g2n_7, g2n_8, g2n_9, g2n_10, g2n_11, g2n_12]
  rw [show (67 : Int32) + 2 * nI n + 0 = nI (67 + 2 * n + 0) from ix3 67 2 n 0, ck_nI (by omega) (by omega), gA_nI (by omega)]
  rfl
theorem r_ofDeed1 {N y n : Nat} {σ : pS} (h : n < 500) : fX12_ofDeed N (G2 y) y (nI n) 1 σ = some (σ.2.1 (y + 1) (68 + 2 * n)) := by
  unfold fX12_ofDeed
  simp only [g2r_0_1, g2r_0_2, g2r_0_3, g2r_0_4, g2r_0_5, g2r_0_8, g2r_0_15, g2r_0_17, g2r_0_25, g2r_0_26, g2r_0_27, g2r_0_28, g2n_1, g2n_2, g2n_3, g2n_4, g2n_5, g2n_6, g2n_7, g2n_8, g2n_9, g2n_10, g2n_11, g2n_12]
  rw [show (67 : Int32) + 2 * nI n + 1 = nI (67 + 2 * n + 1) from ix3 67 2 n 1, ck_nI (by omega) (by omega), gA_nI (by omega), show 67 + 2 * n + 1 = 68 + 2 * n by omega]
theorem lt_m1 {x c : Int32} (h : 0 ≤ x.toInt) : x - 1 < c ↔ ¬ c < x := by
  have e : (1 : Int32).toInt = 1 := by decide
  have := i_hi x
  rw [i_lt, i_lt, i_sub (by omega) (by omega), e]
  omega
theorem no_fn {c x : Int32} (h : 0 ≤ x.toInt) : (if (if c < 0 then (0 : Int32) else if x - 1 < c then 0 else 1) = 0 then (some (1 : Int32)) else (some (0 : Int32))) = some (if c < 0 then 1 else if c < x then 0 else 1) := by
  by_cases h0 : c < 0
  · simp [h0]
  · by_cases h1 : c < x
    · simp [h0, h1, lt_m1 h]
    · simp [h0, h1, lt_m1 h]
theorem r_noName {N y : Nat} {σ : pS} {c : Int32} (h : 0 ≤ (σ.2.1 (y + 1) 0).toInt) : fX12_noName N (G2 y) y c σ = some (if c < 0 then 1 else if c < σ.2.1 (y + 1) 0 then 0 else 1) := by
  unfold fX12_noName
  rw [r_names, b_some, r_inn, b_some]
  exact no_fn h
theorem r_noWho {N y : Nat} {σ : pS} {c : Int32} (h : 0 ≤ (σ.2.1 (y + 1) 1).toInt) : fX12_noWho N (G2 y) y c σ = some (if c < 0 then 1 else if c < σ.2.1 (y + 1) 1 then 0 else 1) := by
  unfold fX12_noWho
  rw [r_court, b_some, r_inn, b_some]
  exact no_fn h
theorem r_noWord {N y : Nat} {σ : pS} {c : Int32} (h : 0 ≤ (σ.2.1 (y + 1) 2).toInt) : fX12_noWord N (G2 y) y c σ = some (if c < 0 then 1 else if c < σ.2.1 (y + 1) 2 then 0 else 1) := by
  unfold fX12_noWord
  rw [r_words, b_some, r_inn, b_some]
  exact no_fn h
theorem r_noDeed {N y : Nat} {σ : pS} {c : Int32} (h : 0 ≤ (σ.2.1 (y + 1) 3).toInt) : fX12_noDeed N (G2 y) y c σ = some (if c < 0 then 1 else if c < σ.2.1 (y + 1) 3 then 0 else 1) := by
  unfold fX12_noDeed
  rw [r_deeds, b_some, r_inn, b_some]
  exact no_fn h
theorem r_thrown {N y : Nat} {σ : pS} : fX12_thrown N (G2 y) y σ = some (σ.1 y 0) := rfl
/-- the world of the reference is not touched by a field -/
theorem pfA {σ : pS} {a k : Nat} {v : Int32} : (putF σ a k v).2.1 = σ.2.1 := rfl
theorem pf0 {σ : pS} {a k : Nat} {v : Int32} : (putF σ a k v).1 a k = v := by
  rw [pf1, if_pos ⟨rfl, rfl⟩]
theorem pf0n {σ : pS} {a k j : Nat} {v : Int32} (h : j ≠ k) : (putF σ a k v).1 a j = σ.1 a j := by
  rw [pf1, if_neg (fun q => h q.2)]
theorem E2.t0 {y : Nat} {σ : pS} {v : Int32} : E2 y σ (putF σ y 0 v) := E2.r.pf (by omega)
/-! what the relation says of counts -/
theorem Sim.wi {z y : Nat} {σ1 σ2 : pS} (h : Sim z y σ1 σ2) : WInv (σ2.2.1 (y + 1)) := h.1.1
theorem Sim.tale {z y : Nat} {σ1 σ2 : pS} (h : Sim z y σ1 σ2) : TaleR (σ1.1 (z + 4)) (fun j => σ1.2.1 (z + (5 + j))) (σ2.2.1 (y + 1)) := by
  have e := h.1.2.1
  have e2 : (fun j => σ1.2.1 (z + 4 + (1 + j))) = (fun j => σ1.2.1 (z + (5 + j))) := by
    funext j
    rw [show z + 4 + (1 + j) = z + (5 + j) by omega]
  rw [e2] at e
  exact e
theorem Sim.mind {z y : Nat} {σ1 σ2 : pS} (h : Sim z y σ1 σ2) : MindR (σ1.1 (z + 20)) (σ1.2.1 (z + 21)) (σ2.2.1 (y + 1)) := h.1.2.2.2.1
theorem Sim.log {z y : Nat} {σ1 σ2 : pS} (h : Sim z y σ1 σ2) : LogR (σ1.1 (z + 22)) (σ1.2.1 (z + 23)) (σ2.2.1 (y + 1)) := h.1.2.2.2.2
theorem Sim.law {z y : Nat} {σ1 σ2 : pS} (h : Sim z y σ1 σ2) : LawR (σ1.1 (z + 14)) (σ1.2.1 (z + 15)) (σ1.2.1 (z + 16)) (σ1.2.1 (z + 17)) (σ1.2.1 (z + 18)) (σ2.2.1 (y + 1)) := h.1.2.2.1
