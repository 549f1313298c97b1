/-! texts: things on the tape -/
def ltr (v : Int32) : Bool := decide (97 ≤ v.toInt ∧ v.toInt ≤ 122)
def dgt (v : Int32) : Bool := decide (48 ≤ v.toInt ∧ v.toInt ≤ 57)
def blk (v : Int32) : Bool := decide (v.toInt = 32)
def runF (P : Int32 → Bool) (B : Nat → Int32) (L : Nat) : Nat → Nat → Nat
  | 0, p => p
  | n + 1, p => if p < L ∧ P (B p) = true then runF P B L n (p + 1) else p
/-- how far such bytes go on -/
def en (P : Int32 → Bool) (B : Nat → Int32) (L p : Nat) : Nat := runF P B L (L - p) p
theorem en_eq {P : Int32 → Bool} {B : Nat → Int32} {L p : Nat} : en P B L p = if p < L ∧ P (B p) = true then en P B L (p + 1) else p := by
  unfold en
  by_cases h : p < L
  · rw [show L - p = (L - (p + 1)) + 1 by omega]
    rfl
  · rw [show L - p = 0 by omega, if_neg (fun q => h q.1)]
    rfl
theorem en_ge {P : Int32 → Bool} {B : Nat → Int32} {L : Nat} : ∀ (m p : Nat), L - p ≤ m → p ≤ en P B L p ∧ (p ≤ L → en P B L p ≤ L) ∧ ¬ (en P B L p < L ∧ P (B (en P B L p)) = true) ∧ ∀ i, p ≤ i → i < en P B L p → P (B i) = true := by
  intro m
  induction m with
  | zero =>
    intro p h
    have e : en P B L p = p := by
      rw [en_eq, if_neg (by omega)]
    rw [e]
    exact ⟨Nat.le_refl _, fun h => h, by omega, fun i h1 h2 => by omega⟩
  | succ m ih =>
    intro p h
    rw [en_eq]
    by_cases q : p < L ∧ P (B p) = true
    · rw [if_pos q]
      obtain ⟨a, b, c, d⟩ := ih (p + 1) (by omega)
      refine ⟨by omega, fun _ => b (by omega), c, fun i h1 h2 => ?_⟩
      by_cases e : i = p
      · rw [e]
        exact q.2
      · exact d i (by omega) h2
    · rw [if_neg q]
      exact ⟨Nat.le_refl _, fun h => h, q, fun i h1 h2 => by omega⟩
theorem en_le {P : Int32 → Bool} {B : Nat → Int32} {L p : Nat} : p ≤ en P B L p := (en_ge (L - p) p (Nat.le_refl _)).1
theorem en_L {P : Int32 → Bool} {B : Nat → Int32} {L p : Nat} (h : p ≤ L) : en P B L p ≤ L := (en_ge (L - p) p (Nat.le_refl _)).2.1 h
theorem en_st {P : Int32 → Bool} {B : Nat → Int32} {L p : Nat} : ¬ (en P B L p < L ∧ P (B (en P B L p)) = true) := (en_ge (L - p) p (Nat.le_refl _)).2.2.1
theorem en_in {P : Int32 → Bool} {B : Nat → Int32} {L p i : Nat} (h1 : p ≤ i) (h2 : i < en P B L p) : P (B i) = true := (en_ge (L - p) p (Nat.le_refl _)).2.2.2 i h1 h2
theorem en_id {P : Int32 → Bool} {B : Nat → Int32} {L p : Nat} (h : ¬ (p < L ∧ P (B p) = true)) : en P B L p = p := by
  rw [en_eq, if_neg h]
theorem en_en {P : Int32 → Bool} {B : Nat → Int32} {L p : Nat} : en P B L (en P B L p) = en P B L p := en_id en_st
/-- which kind of thing begins at f, where it ends, its number -/
def tkd (B : Nat → Int32) (L f : Nat) : Int32 := if f < L then (if ltr (B f) = true then 1 else if dgt (B f) = true then 2 else 3) else 0
def nx (B : Nat → Int32) (L f : Nat) : Nat := if f < L then (if ltr (B f) = true then en ltr B L f else if dgt (B f) = true then en dgt B L f else f + 1) else f
def dv (B : Nat → Int32) (f : Nat) : Nat → Int32 := itN (fun k v => if k < 3 then v * 10 + B (f + k) - 48 else v) 0
theorem dv_s {B : Nat → Int32} {f k : Nat} : dv B f (k + 1) = if k < 3 then dv B f k * 10 + B (f + k) - 48 else dv B f k := rfl
def tv (B : Nat → Int32) (L f : Nat) : Int32 := if en dgt B L f - f ≤ 3 then dv B f (en dgt B L f - f) else -1
theorem byte_all : ∀ n, n < 256 → ((decide ((97 : Int32) ≤ (nI n - 128) &&& 255) && decide ((nI n - 128) &&& 255 ≤ (122 : Int32))) = ltr (nI n - 128)) ∧ ((decide ((48 : Int32) ≤ (nI n - 128) &&& 255) && decide ((nI n - 128) &&& 255 ≤ (57 : Int32))) = dgt (nI n - 128)) ∧ (decide ((nI n - 128) &&& 255 = (32 : Int32)) = blk (nI n - 128)) ∧ (¬ (nI n - 128) &&& 255 = (-1 : Int32)) ∧ ((ltr (nI n - 128) || dgt (nI n - 128)) = true → (nI n - 128) &&& 255 = nI n - 128) := by decide +kernel
theorem byte_of {v : Int32} (h : ByteR v) : ∃ n, n < 256 ∧ v = nI n - 128 := by
  refine ⟨(v.toInt + 128).toNat, ?_, ?_⟩
  · unfold ByteR at h
    omega
  · unfold ByteR at h
    apply i_ext
    rw [i_sub (by rw [nI_toInt (by omega), show (128 : Int32).toInt = 128 from rfl]; omega) (by rw [nI_toInt (by omega), show (128 : Int32).toInt = 128 from rfl]; omega), nI_toInt (by omega), show (128 : Int32).toInt = 128 from rfl]
    omega
theorem byte_sgn : ∀ n, n < 256 → ∀ c, c < 128 → ((nI n - 128) &&& 255 = nI c ↔ nI n - 128 = nI c) := by decide +kernel
theorem sgn_eq {v : Int32} {c : Nat} (h : ByteR v) (hc : c < 128) : v &&& 255 = nI c ↔ v = nI c := by
  obtain ⟨n, hn, rfl⟩ := byte_of h
  exact byte_sgn n hn c hc
/-- the class's tape: what is on it -/
def BY (z : Nat) (B : Nat → Int32) (L : Nat) (τ : pS) : Prop := L ≤ 400 ∧ τ.1 (z + 1) 0 = nI L ∧ ∀ i, i < L → τ.2.1 (z + 2) i = B i ∧ ByteR (B i)
/-- only the thing that is read now changes -/
def TF (z : Nat) (σ τ : pS) : Prop := (∀ a k, ¬ (a = z + 1 ∧ 1 ≤ k) → τ.1 a k = σ.1 a k) ∧ τ.2 = σ.2
theorem TF.r {z : Nat} {σ : pS} : TF z σ σ := ⟨fun _ _ _ => rfl, rfl⟩
theorem TF.t {z : Nat} {σ τ υ : pS} (h : TF z σ τ) (g : TF z τ υ) : TF z σ υ := ⟨fun a k e => (g.1 a k e).trans (h.1 a k e), g.2.trans h.2⟩
theorem TF.pf {z k : Nat} {σ τ : pS} {v : Int32} (h : TF z σ τ) (hk : 1 ≤ k) : TF z σ (putF τ (z + 1) k v) := ⟨fun a j e => by
  rw [pf1, if_neg (fun q => e ⟨q.1, by omega⟩)]
  exact h.1 a j e, h.2⟩
theorem TF.by {z L : Nat} {B : Nat → Int32} {σ τ : pS} (h : TF z σ τ) (b : BY z B L σ) : BY z B L τ := ⟨b.1, (h.1 _ _ (by omega)).trans b.2.1, fun i hi => by
  rw [h.2]
  exact b.2.2 i hi⟩
/-- the class stands at the thing that begins at f -/
def CT (z : Nat) (B : Nat → Int32) (L f : Nat) (τ : pS) : Prop := f ≤ L ∧ τ.1 (z + 1) 2 = nI f ∧ τ.1 (z + 1) 1 = tkd B L f ∧ τ.1 (z + 1) 3 = nI (nx B L f) ∧ (tkd B L f = 2 → τ.1 (z + 1) 4 = tv B L f) ∧ (f < L → blk (B f) = false)
theorem c_byte {N z L i : Nat} {B : Nat → Int32} {τ : pS} (b : BY z B L τ) (hi : i < 1000) : fX9_byteAt N (G1 z) (z + 1) (nI i) τ = some (if i < L then B i &&& 255 else -1) := by
  have hL := b.1
  unfold fX9_byteAt
  simp only [g1r_1_5]
  rw [if_neg (nI_pos (by omega)), b.2.1]
  by_cases h : i < L
  · rw [if_neg (nI_ge h (by omega)), if_neg (show ¬ (400 : Int32) ≤ nI i from lit_lt (m := 400) (by omega) (by decide)), g1n_2, ck_nI (by omega) (by omega), gA_nI (by omega), (b.2.2 i h).1, if_pos h]
  · rw [if_pos (nI_le (by omega) (by omega)), if_neg h]
theorem c_kind {N z L i : Nat} {G : pG} {B : Nat → Int32} {τ σ : pS} (b : BY z B L τ) : fX9_kindOf N G (if i < L then B i &&& 255 else -1) σ = some (tkd B L i) := by
  unfold fX9_kindOf fX9_kindOf_b21 tkd
  by_cases h : i < L
  · obtain ⟨n, hn, e⟩ := byte_of (b.2.2 i h).2
    obtain ⟨h1, h2, h3, h4, h5⟩ := byte_all n hn
    rw [← e] at h1 h2 h4
    rw [if_pos h, if_pos h, if_neg h4, ← h1, ← h2]
    generalize B i &&& 255 = v
    by_cases a : v < 97
    · rw [if_pos a, decide_eq_false (i_nle.mpr a), Bool.false_and, if_neg Bool.false_ne_true]
      by_cases c : v < 48
      · rw [if_pos c, decide_eq_false (i_nle.mpr c), Bool.false_and, if_neg Bool.false_ne_true]
      · by_cases d : 57 < v
        · rw [if_neg c, if_pos d, decide_eq_false (i_nle.mpr d), Bool.and_false, if_neg Bool.false_ne_true]
        · rw [if_neg c, if_neg d, decide_eq_true (i_nlt.mp c), decide_eq_true (i_nlt.mp d), if_pos (show (true && true) = true from rfl)]
    · by_cases a2 : 122 < v
      · have x57 : (57 : Int32) < v := by
          rw [i_lt, show (122 : Int32).toInt = 122 from rfl] at a2
          rw [i_lt, show (57 : Int32).toInt = 57 from rfl]
          omega
        have x48 : ¬ v < 48 := by
          rw [i_lt, show (122 : Int32).toInt = 122 from rfl] at a2
          rw [i_lt, show (48 : Int32).toInt = 48 from rfl]
          omega
        rw [if_neg a, if_pos a2, if_neg x48, if_pos x57, decide_eq_false (i_nle.mpr a2), Bool.and_false, if_neg Bool.false_ne_true, decide_eq_false (i_nle.mpr x57), Bool.and_false, if_neg Bool.false_ne_true]
      · rw [if_neg a, if_neg a2, decide_eq_true (i_nlt.mp a), decide_eq_true (i_nlt.mp a2), if_pos (show (true && true) = true from rfl)]
  · rw [if_neg h, if_neg h, if_pos rfl]
theorem tkd_0 {B : Nat → Int32} {L f : Nat} : tkd B L f = 0 ↔ ¬ f < L := by
  unfold tkd
  by_cases h : f < L
  · rw [if_pos h]
    constructor
    · intro q
      split at q
      · exact absurd q (by decide)
      · split at q
        · exact absurd q (by decide)
        · exact absurd q (by decide)
    · intro q
      exact absurd h q
  · rw [if_neg h]
    simp [h]
theorem tkd_1 {B : Nat → Int32} {L f : Nat} : tkd B L f = 1 ↔ f < L ∧ ltr (B f) = true := by
  unfold tkd
  by_cases h : f < L
  · by_cases a : ltr (B f) = true
    · simp [h, a]
    · by_cases d : dgt (B f) = true
      · simp [h, a, d]
      · simp [h, a, d]
  · simp [h]
theorem ld_no {v : Int32} (a : ltr v = true) : dgt v = false := by
  unfold ltr at a
  unfold dgt
  have := of_decide_eq_true a
  exact decide_eq_false (by omega)
theorem tkd_2 {B : Nat → Int32} {L f : Nat} : tkd B L f = 2 ↔ f < L ∧ dgt (B f) = true := by
  unfold tkd
  by_cases h : f < L
  · by_cases a : ltr (B f) = true
    · have := ld_no a
      simp [h, a, this]
    · by_cases d : dgt (B f) = true
      · simp [h, a, d]
      · simp [h, a, d]
  · simp [h]
theorem tkd_3 {B : Nat → Int32} {L f : Nat} : tkd B L f = 3 ↔ f < L ∧ ltr (B f) = false ∧ dgt (B f) = false := by
  unfold tkd
  by_cases h : f < L
  · by_cases a : ltr (B f) = true
    · simp [h, a]
    · by_cases d : dgt (B f) = true
      · simp [h, a, d]
      · simp [h, a, d]
  · simp [h]
/-- a run of one kind, with its number -/
theorem c_run {N z L f : Nat} {B : Nat → Int32} {P : Int32 → Bool} {K : Int32} (hN : 20000 < N) (hK : K = 1 ∨ K = 2) (hP : ∀ i, (tkd B L i = K ↔ i < L ∧ P (B i) = true)) : ∀ (m q M : Nat) (τ : pS), L - q ≤ m → m < M → f ≤ q → q ≤ L → BY z B L τ → τ.1 (z + 1) 1 = K → τ.1 (z + 1) 2 = nI f → τ.1 (z + 1) 3 = nI q → (K = 2 → τ.1 (z + 1) 4 = if q - f ≤ 3 then dv B f (q - f) else -1) → ∃ υ, lp (fun (k84 : pS → Option (pS)) (b : pS) => if (b.1 (z + 1) 0) ≤ (b.1 (z + 1) 3) then (some b) else ((fX9_byteAt N (G1 z) (z + 1) (b.1 (z + 1) 3) b).bind (fun q2 => (fX9_kindOf N (G1 z) q2 b).bind (fun q3 => if q3 = (b.1 (z + 1) 1) then (if ((b.1 (z + 1) 3) - (b.1 (z + 1) 2)) < (3 : Int32) then (fX9_advance_b131 N (G1 z) k84 (z + 1) (0 : Int32) b) else (fX9_advance_b131 N (G1 z) k84 (z + 1) (1 : Int32) b)) else (some b))))) M τ = some υ ∧ TF z τ υ ∧ υ.1 (z + 1) 1 = K ∧ υ.1 (z + 1) 2 = nI f ∧ υ.1 (z + 1) 3 = nI (en P B L q) ∧ (K = 2 → υ.1 (z + 1) 4 = if en P B L q - f ≤ 3 then dv B f (en P B L q - f) else -1) := by
  intro m
  induction m with
  | zero =>
    intro q M τ hm hM hf hq b h1 h2 h3 h4
    obtain ⟨M', rfl⟩ : ∃ M', M = M' + 1 := ⟨M - 1, by omega⟩
    have e : en P B L q = q := en_id (by omega)
    rw [e]
    refine ⟨τ, ?_, TF.r, h1, h2, h3, h4⟩
    show (if τ.1 (z + 1) 0 ≤ τ.1 (z + 1) 3 then _ else _) = _
    rw [b.2.1, h3, if_pos (nI_le (by omega) (by have := b.1; omega))]
  | succ m ih =>
    intro q M τ hm hM hf hq b h1 h2 h3 h4
    obtain ⟨M', rfl⟩ : ∃ M', M = M' + 1 := ⟨M - 1, by omega⟩
    have hL := b.1
    by_cases u : q < L ∧ P (B q) = true
    · have ku : tkd B L q = K := (hP q).mpr u
      have sub3 : nI q - nI f = nI (q - f) := by
        rw [show nI q = nI (q - f) + nI f from by rw [nI_add]; congr 1; omega, Int32.add_sub_cancel]
      have step : ∀ v, (K = 2 → v = if q + 1 - f ≤ 3 then dv B f (q + 1 - f) else -1) → ∃ υ, lp (fun (k84 : pS → Option (pS)) (b : pS) => if (b.1 (z + 1) 0) ≤ (b.1 (z + 1) 3) then (some b) else ((fX9_byteAt N (G1 z) (z + 1) (b.1 (z + 1) 3) b).bind (fun q2 => (fX9_kindOf N (G1 z) q2 b).bind (fun q3 => if q3 = (b.1 (z + 1) 1) then (if ((b.1 (z + 1) 3) - (b.1 (z + 1) 2)) < (3 : Int32) then (fX9_advance_b131 N (G1 z) k84 (z + 1) (0 : Int32) b) else (fX9_advance_b131 N (G1 z) k84 (z + 1) (1 : Int32) b)) else (some b))))) M' (putF (putF τ (z + 1) 4 v) (z + 1) 3 (nI (q + 1))) = some υ ∧ TF z τ υ ∧ υ.1 (z + 1) 1 = K ∧ υ.1 (z + 1) 2 = nI f ∧ υ.1 (z + 1) 3 = nI (en P B L q) ∧ (K = 2 → υ.1 (z + 1) 4 = if en P B L q - f ≤ 3 then dv B f (en P B L q - f) else -1) := by
        intro v hv
        have tf : TF z τ (putF (putF τ (z + 1) 4 v) (z + 1) 3 (nI (q + 1))) := (TF.r.pf (by omega)).pf (by omega)
        obtain ⟨υ, x1, x2, x3⟩ := ih (q + 1) M' (putF (putF τ (z + 1) 4 v) (z + 1) 3 (nI (q + 1))) (by omega) (by omega) (by omega) (by omega) (tf.by b) (by rw [pf0n (by decide), pf0n (by decide)]; exact h1) (by rw [pf0n (by decide), pf0n (by decide)]; exact h2) pf0 (fun k => by rw [pf0n (by decide), pf0]; exact hv k)
        rw [show en P B L q = en P B L (q + 1) from by rw [en_eq, if_pos u]]
        exact ⟨υ, x1, tf.t x2, x3⟩
      have body : ∀ k84 : pS → Option pS, (if (τ.1 (z + 1) 0) ≤ (τ.1 (z + 1) 3) then (some τ) else ((fX9_byteAt N (G1 z) (z + 1) (τ.1 (z + 1) 3) τ).bind (fun q2 => (fX9_kindOf N (G1 z) q2 τ).bind (fun q3 => if q3 = (τ.1 (z + 1) 1) then (if ((τ.1 (z + 1) 3) - (τ.1 (z + 1) 2)) < (3 : Int32) then (fX9_advance_b131 N (G1 z) k84 (z + 1) (0 : Int32) τ) else (fX9_advance_b131 N (G1 z) k84 (z + 1) (1 : Int32) τ)) else (some τ))))) = k84 (putF (putF τ (z + 1) 4 (if q - f < 3 then τ.1 (z + 1) 4 * 10 + (B q &&& 255) - 48 else -1)) (z + 1) 3 (nI (q + 1))) := by
        intro k84
        rw [b.2.1, h3, if_neg (nI_ge u.1 (by omega)), c_byte b (by omega), b_some, c_kind b, b_some, ku, h1, if_pos rfl, h2, sub3]
        unfold fX9_advance_b131 fX9_advance_b160
        rw [h3, c_byte b (by omega), b_some, if_pos u.1, if_pos rfl, if_neg (show ¬ (1 : Int32) = 0 by decide), pf0n (by decide), h3, pf0n (by decide), h3, nI_1]
        by_cases w : q - f < 3
        · rw [if_pos (show nI (q - f) < 3 from nI_lt (b := 3) w (by omega)), if_pos w]
        · rw [if_neg (show ¬ nI (q - f) < 3 from nI_nlt (b := 3) (by omega) (by omega)), if_neg w]
      obtain ⟨υ, x⟩ := step (if q - f < 3 then τ.1 (z + 1) 4 * 10 + (B q &&& 255) - 48 else -1) (fun k => by
        have hd : dgt (B q) = true := (tkd_2.mp (ku.trans k)).2
        obtain ⟨n, hn, e⟩ := byte_of (b.2.2 q u.1).2
        have h5 := (byte_all n hn).2.2.2.2
        rw [← e] at h5
        rw [h5 (by rw [hd, Bool.or_true]), h4 k, show q + 1 - f = (q - f) + 1 by omega]
        by_cases w : q - f < 3
        · rw [if_pos w, if_pos (by omega), if_pos (by omega), dv_s, if_pos w, show f + (q - f) = q by omega]
        · rw [if_neg w, if_neg (by omega)])
      refine ⟨υ, Eq.trans ?_ x.1, x.2⟩
      exact body _
    · have e : en P B L q = q := en_id u
      rw [e]
      refine ⟨τ, ?_, TF.r, h1, h2, h3, h4⟩
      show (if τ.1 (z + 1) 0 ≤ τ.1 (z + 1) 3 then _ else ((fX9_byteAt N (G1 z) (z + 1) (τ.1 (z + 1) 3) τ).bind _)) = _
      rw [b.2.1, h3]
      by_cases w : q < L
      · rw [if_neg (nI_ge w (by omega)), c_byte b (by omega), b_some, c_kind b, b_some, h1, if_neg (fun g => u ((hP q).mp g))]
      · rw [if_pos (nI_le (by omega) (by omega))]
theorem c_adv37 {N z L q : Nat} {B : Nat → Int32} {τ : pS} (hN : 20000 < N) (b : BY z B L τ) (hq : q ≤ L) (h3 : τ.1 (z + 1) 3 = nI q) (nb : q < L → blk (B q) = false) : ∃ υ, fX9_advance_b37 N (G1 z) (z + 1) τ = some υ ∧ TF z τ υ ∧ CT z B L q υ := by
  have hL := b.1
  unfold fX9_advance_b37
  rw [h3]
  have t2 : TF z τ (putF τ (z + 1) 2 (nI q)) := TF.r.pf (by omega)
  rw [pf0n (show 3 ≠ 2 by decide), h3, c_byte (t2.by b) (by omega), b_some, c_kind (t2.by b), b_some, pf0n (show 1 ≠ 4 by decide), pf0]
  have t4 : TF z τ (putF (putF (putF τ (z + 1) 2 (nI q)) (z + 1) 1 (tkd B L q)) (z + 1) 4 0) := (t2.pf (by omega)).pf (by omega)
  have f1 : (putF (putF (putF τ (z + 1) 2 (nI q)) (z + 1) 1 (tkd B L q)) (z + 1) 4 0).1 (z + 1) 1 = tkd B L q := by rw [pf0n (by decide), pf0]
  have f2 : (putF (putF (putF τ (z + 1) 2 (nI q)) (z + 1) 1 (tkd B L q)) (z + 1) 4 0).1 (z + 1) 2 = nI q := by rw [pf0n (by decide), pf0n (by decide), pf0]
  have f3 : (putF (putF (putF τ (z + 1) 2 (nI q)) (z + 1) 1 (tkd B L q)) (z + 1) 4 0).1 (z + 1) 3 = nI q := by rw [pf0n (by decide), pf0n (by decide), pf0n (by decide)]; exact h3
  have f4 : (putF (putF (putF τ (z + 1) 2 (nI q)) (z + 1) 1 (tkd B L q)) (z + 1) 4 0).1 (z + 1) 4 = 0 := pf0
  by_cases k3 : tkd B L q = 3
  · have kk := tkd_3.mp k3
    rw [if_pos k3, f3, nI_1]
    refine ⟨_, rfl, t4.pf (by omega), hq, by rw [pf0n (by decide)]; exact f2, by rw [pf0n (by decide)]; exact f1, ?_, fun k2 => ?_, nb⟩
    · rw [pf0]
      unfold nx
      rw [if_pos kk.1, if_neg (by rw [kk.2.1]; decide), if_neg (by rw [kk.2.2]; decide)]
    · rw [k3] at k2
      exact absurd k2 (by decide)
  · rw [if_neg k3]
    by_cases k1 : tkd B L q = 1
    · have kk := tkd_1.mp k1
      obtain ⟨υ, x1, x2, x3, x4, x5, x6⟩ := c_run (N := N) (z := z) (L := L) (f := q) (B := B) (P := ltr) (K := 1) hN (Or.inl rfl) (fun i => tkd_1) (L - q) q N _ (Nat.le_refl _) (by omega) (Nat.le_refl _) hq (t4.by b) (f1.trans k1) f2 f3 (fun k => absurd k (by decide))
      refine ⟨υ, x1, t4.t x2, hq, x4, x3.trans k1.symm, ?_, fun k2 => ?_, nb⟩
      · rw [x5]
        unfold nx
        rw [if_pos kk.1, if_pos kk.2]
      · rw [k1] at k2
        exact absurd k2 (by decide)
    · by_cases k2 : tkd B L q = 2
      · have kk := tkd_2.mp k2
        have nl : ¬ ltr (B q) = true := fun a => by
          rw [ld_no a] at kk
          cases kk.2
        obtain ⟨υ, x1, x2, x3, x4, x5, x6⟩ := c_run (N := N) (z := z) (L := L) (f := q) (B := B) (P := dgt) (K := 2) hN (Or.inr rfl) (fun i => tkd_2) (L - q) q N _ (Nat.le_refl _) (by omega) (Nat.le_refl _) hq (t4.by b) (f1.trans k2) f2 f3 (fun k => by rw [f4, Nat.sub_self, if_pos (by omega)]; rfl)
        refine ⟨υ, x1, t4.t x2, hq, x4, x3.trans k2.symm, ?_, fun _ => x6 rfl, nb⟩
        rw [x5]
        unfold nx
        rw [if_pos kk.1, if_neg nl, if_pos kk.2]
      · have k0 : ¬ q < L := by
          intro w
          unfold tkd at k1 k2 k3
          rw [if_pos w] at k1 k2 k3
          split at k1
          · exact k1 rfl
          · rename_i n1
            rw [if_neg n1] at k2 k3
            split at k2
            · exact k2 rfl
            · rename_i n2
              rw [if_neg n2] at k3
              exact k3 rfl
        refine ⟨_, ?_, t4, hq, f2, f1, ?_, fun k => absurd k k2, nb⟩
        · unfold fX9_advance_b84
          refine lp_one (by omega) (fun p => ?_)
          rw [t4.1 (z + 1) 0 (by omega), b.2.1, f3, if_pos (nI_le (by omega) (by omega))]
        · rw [f3]
          unfold nx
          rw [if_neg k0]
/-- the next thing -/
theorem c_adv {N z L q : Nat} {B : Nat → Int32} {τ : pS} (hN : 20000 < N) (b : BY z B L τ) (hq : q ≤ L) (h3 : τ.1 (z + 1) 3 = nI q) : ∃ υ, fX9_advance N (G1 z) (z + 1) τ = some υ ∧ TF z τ υ ∧ CT z B L (en blk B L q) υ := by
  unfold fX9_advance fX9_advance_b0
  have H : ∀ (m q M : Nat) (τ : pS), L - q ≤ m → m < M → q ≤ L → BY z B L τ → τ.1 (z + 1) 3 = nI q → ∃ υ, lp (fun (k0 : pS → Option (pS)) (b : pS) => if (b.1 (z + 1) 0) ≤ (b.1 (z + 1) 3) then (fX9_advance_b37 N (G1 z) (z + 1) b) else ((fX9_byteAt N (G1 z) (z + 1) (b.1 (z + 1) 3) b).bind (fun q6 => if q6 = (32 : Int32) then (k0 (putF b (z + 1) 3 ((b.1 (z + 1) 3) + (1 : Int32)))) else (fX9_advance_b37 N (G1 z) (z + 1) b)))) M τ = some υ ∧ TF z τ υ ∧ CT z B L (en blk B L q) υ := by
    intro m
    induction m with
    | zero =>
      intro q M τ hm hM hq b h3
      obtain ⟨M', rfl⟩ : ∃ M', M = M' + 1 := ⟨M - 1, by omega⟩
      have hL := b.1
      obtain ⟨υ, x1, x2⟩ := c_adv37 (N := N) hN b hq h3 (fun h => by omega)
      rw [en_id (by omega)]
      refine ⟨υ, ?_, x2⟩
      show (if τ.1 (z + 1) 0 ≤ τ.1 (z + 1) 3 then _ else _) = _
      rw [b.2.1, h3, if_pos (nI_le (by omega) (by omega)), x1]
    | succ m ih =>
      intro q M τ hm hM hq b h3
      obtain ⟨M', rfl⟩ : ∃ M', M = M' + 1 := ⟨M - 1, by omega⟩
      have hL := b.1
      by_cases w : q < L
      · obtain ⟨n, hn, e⟩ := byte_of (b.2.2 q w).2
        have h5 := (byte_all n hn).2.2.1
        rw [← e] at h5
        by_cases u : blk (B q) = true
        · have tf : TF z τ (putF τ (z + 1) 3 (nI (q + 1))) := TF.r.pf (by omega)
          obtain ⟨υ, x1, x2, x3⟩ := ih (q + 1) M' (putF τ (z + 1) 3 (nI (q + 1))) (by omega) (by omega) (by omega) (tf.by b) pf0
          rw [en_eq, if_pos ⟨w, u⟩]
          refine ⟨υ, Eq.trans ?_ x1, tf.t x2, x3⟩
          show (if τ.1 (z + 1) 0 ≤ τ.1 (z + 1) 3 then _ else ((fX9_byteAt N (G1 z) (z + 1) (τ.1 (z + 1) 3) τ).bind (fun q6 => if q6 = 32 then (lp _ M' (putF τ (z + 1) 3 (τ.1 (z + 1) 3 + 1))) else _))) = _
          rw [b.2.1, h3, if_neg (nI_ge w (by omega)), c_byte b (by omega), b_some, if_pos w, if_pos (of_decide_eq_true (h5.trans u)), nI_1]
        · have u0 : blk (B q) = false := Bool.eq_false_iff.mpr u
          obtain ⟨υ, x1, x2⟩ := c_adv37 (N := N) hN b hq h3 (fun _ => u0)
          rw [en_id (fun g => u g.2)]
          refine ⟨υ, ?_, x2⟩
          show (if τ.1 (z + 1) 0 ≤ τ.1 (z + 1) 3 then _ else ((fX9_byteAt N (G1 z) (z + 1) (τ.1 (z + 1) 3) τ).bind _)) = _
          rw [b.2.1, h3, if_neg (nI_ge w (by omega)), c_byte b (by omega), b_some, if_pos w, if_neg (fun g => u (h5.symm.trans (decide_eq_true g))), x1]
      · obtain ⟨υ, x1, x2⟩ := c_adv37 (N := N) hN b hq h3 (fun h => by omega)
        rw [en_id (by omega)]
        refine ⟨υ, ?_, x2⟩
        show (if τ.1 (z + 1) 0 ≤ τ.1 (z + 1) 3 then _ else _) = _
        rw [b.2.1, h3, if_pos (nI_le (by omega) (by omega)), x1]
  have hL := b.1
  exact H (L - q) q N τ (Nat.le_refl _) (by omega) hq b h3
