/-! loops with fuel, step by step -/
theorem lp_for {β α : Type} {body : (β → Option α) → β → Option α} (st : Nat → β) (n : Nat) (r : α) {N : Nat} (hN : n < N) (hs : ∀ k, k < n → ∀ q, body q (st k) = q (st (k + 1))) (he : ∀ q, body q (st n) = some r) : lp body N (st 0) = some r := by
  have H : ∀ (m k M : Nat), k + m = n → m < M → lp body M (st k) = some r := by
    intro m
    induction m with
    | zero =>
      intro k M hk hM
      obtain ⟨M', rfl⟩ : ∃ M', M = M' + 1 := ⟨M - 1, by omega⟩
      have e : k = n := by omega
      subst e
      exact he _
    | succ m ih =>
      intro k M hk hM
      obtain ⟨M', rfl⟩ : ∃ M', M = M' + 1 := ⟨M - 1, by omega⟩
      show body (lp body M') (st k) = some r
      rw [hs k (by omega)]
      exact ih (k + 1) M' (by omega) (by omega)
  exact H n 0 N (by omega) hN
theorem lp_forR {β α : Type} {body : (β → Option α) → β → Option α} (I : Nat → β → Prop) (R : α → Prop) (n : Nat) {N : Nat} (hN : n < N) (hs : ∀ k, k < n → ∀ b, I k b → (∃ b', I (k + 1) b' ∧ ∀ q, body q b = q b') ∨ (∃ r, R r ∧ ∀ q, body q b = some r)) (he : ∀ b, I n b → ∃ r, R r ∧ ∀ q, body q b = some r) {b : β} (h0 : I 0 b) : ∃ r, R r ∧ lp body N b = some r := by
  have H : ∀ (m k M : Nat) (b : β), k + m = n → m < M → I k b → ∃ r, R r ∧ lp body M b = some r := by
    intro m
    induction m with
    | zero =>
      intro k M b hk hM hI
      obtain ⟨M', rfl⟩ : ∃ M', M = M' + 1 := ⟨M - 1, by omega⟩
      have e : k = n := by omega
      subst e
      obtain ⟨r, h1, h2⟩ := he b hI
      exact ⟨r, h1, h2 _⟩
    | succ m ih =>
      intro k M b hk hM hI
      obtain ⟨M', rfl⟩ : ∃ M', M = M' + 1 := ⟨M - 1, by omega⟩
      show ∃ r, R r ∧ body (lp body M') b = some r
      rcases hs k (by omega) b hI with ⟨b', h1, h2⟩ | ⟨r, h1, h2⟩
      · obtain ⟨r, h3, h4⟩ := ih (k + 1) M' b' (by omega) (by omega) h1
        exact ⟨r, h3, by rw [h2, h4]⟩
      · exact ⟨r, h1, h2 _⟩
  exact H n 0 N b (by omega) hN h0
theorem lp_two {β1 α1 β2 α2 : Type} {B1 : (β1 → Option α1) → β1 → Option α1} {B2 : (β2 → Option α2) → β2 → Option α2} (I : Nat → β1 → β2 → Prop) (R : α1 → α2 → Prop) (n : Nat) {N : Nat} (hN : n < N) (hs : ∀ k, k < n → ∀ b1 b2, I k b1 b2 → (∃ c1 c2, I (k + 1) c1 c2 ∧ (∀ q, B1 q b1 = q c1) ∧ ∀ q, B2 q b2 = q c2) ∨ (∃ r1 r2, R r1 r2 ∧ (∀ q, B1 q b1 = some r1) ∧ ∀ q, B2 q b2 = some r2)) (he : ∀ b1 b2, I n b1 b2 → ∃ r1 r2, R r1 r2 ∧ (∀ q, B1 q b1 = some r1) ∧ ∀ q, B2 q b2 = some r2) {b1 : β1} {b2 : β2} (h0 : I 0 b1 b2) : ∃ r1 r2, R r1 r2 ∧ lp B1 N b1 = some r1 ∧ lp B2 N b2 = some r2 := by
  have H : ∀ (m k M : Nat) (b1 : β1) (b2 : β2), k + m = n → m < M → I k b1 b2 → ∃ r1 r2, R r1 r2 ∧ lp B1 M b1 = some r1 ∧ lp B2 M b2 = some r2 := by
    intro m
    induction m with
    | zero =>
      intro k M b1 b2 hk hM hI
      obtain ⟨M', rfl⟩ : ∃ M', M = M' + 1 := ⟨M - 1, by omega⟩
      have e : k = n := by omega
      subst e
      obtain ⟨r1, r2, h1, h2, h3⟩ := he b1 b2 hI
      exact ⟨r1, r2, h1, h2 _, h3 _⟩
    | succ m ih =>
      intro k M b1 b2 hk hM hI
      obtain ⟨M', rfl⟩ : ∃ M', M = M' + 1 := ⟨M - 1, by omega⟩
      show ∃ r1 r2, R r1 r2 ∧ B1 (lp B1 M') b1 = some r1 ∧ B2 (lp B2 M') b2 = some r2
      rcases hs k (by omega) b1 b2 hI with ⟨c1, c2, h1, h2, h3⟩ | ⟨r1, r2, h1, h2, h3⟩
      · obtain ⟨r1, r2, h4, h5, h6⟩ := ih (k + 1) M' c1 c2 (by omega) (by omega) h1
        exact ⟨r1, r2, h4, by rw [h2, h5], by rw [h3, h6]⟩
      · exact ⟨r1, r2, h1, h2 _, h3 _⟩
  exact H n 0 N b1 b2 (by omega) hN h0
/-! a fold over 0 .. n - 1 -/
def itN {β : Type} (f : Nat → β → β) (b : β) : Nat → β
  | 0 => b
  | n + 1 => f n (itN f b n)
theorem itN_congr {β : Type} {f g : Nat → β → β} {b : β} : ∀ {n : Nat}, (∀ k, k < n → ∀ x, f k x = g k x) → itN f b n = itN g b n := by
  intro n
  induction n with
  | zero => intro _; rfl
  | succ n ih =>
    intro h
    show f n (itN f b n) = g n (itN g b n)
    rw [ih (fun k hk => h k (by omega)), h n (by omega)]
/-! bits that are gathered -/
def orL (p : Nat → Bool) : Nat → Int32
  | 0 => 0
  | n + 1 => orL p n ||| (if p n = true then (1 : Int32) <<< (nI n &&& 31) else 0)
theorem orL_t {p : Nat → Bool} {n : Nat} (h : p n = true) : orL p (n + 1) = orL p n ||| ((1 : Int32) <<< (nI n &&& 31)) := by
  show orL p n ||| _ = _
  rw [if_pos h]
theorem or_0 {x : Int32} : x ||| 0 = x := by
  apply bit_ext
  intro i _
  rw [bit_or, bit_0, Bool.or_false]
theorem orL_f {p : Nat → Bool} {n : Nat} (h : ¬ p n = true) : orL p (n + 1) = orL p n := by
  show orL p n ||| _ = _
  rw [if_neg h, or_0]
theorem bit_orL {p : Nat → Bool} : ∀ {n : Nat}, n ≤ 32 → ∀ i, bit (orL p n) i = (decide (i < n) && p i) := by
  intro n
  induction n with
  | zero => intro _ i; show bit 0 i = _; rw [bit_0]; simp
  | succ n ih =>
    intro hn i
    show bit (orL p n ||| _) i = _
    rw [bit_or, ih (by omega)]
    by_cases hp : p n = true
    · rw [if_pos hp, bit_shl1 (by omega)]
      by_cases e : i = n
      · subst e
        simp [hp]
      · have e2 : decide (i = n) = false := decide_eq_false e
        have e3 : decide (i < n + 1) = decide (i < n) := decide_eq_decide.mpr (by omega)
        rw [e2, e3, Bool.or_false]
    · rw [if_neg hp, bit_0, Bool.or_false]
      by_cases e : i = n
      · subst e
        have e4 : p i = false := by simpa using hp
        rw [e4]
        simp
      · have e3 : decide (i < n + 1) = decide (i < n) := decide_eq_decide.mpr (by omega)
        rw [e3]
theorem orL_congr {p q : Nat → Bool} : ∀ {n : Nat}, (∀ k, k < n → p k = q k) → orL p n = orL q n := by
  intro n
  induction n with
  | zero => intro _; rfl
  | succ n ih =>
    intro h
    show orL p n ||| _ = orL q n ||| _
    rw [ih (fun k hk => h k (by omega)), h n (by omega)]
theorem has_fn {N : Nat} {G : pG} {x : Int32} {k : Nat} {σ : pS} (hk : k < 32) : fX11_has N G x (nI k) σ = some (if bit x k = true then 1 else 0) := by
  unfold fX11_has
  by_cases h : bit x k = true
  · rw [if_pos ((has_bit hk).mpr h), if_pos h]
  · rw [if_neg (fun e => h ((has_bit hk).mp e)), if_neg h]
theorem has_fn2 {N : Nat} {G : pG} {x : Int32} {k : Nat} {σ : pS} (hk : k < 32) : fX12_has N G x (nI k) σ = some (if bit x k = true then 1 else 0) := has_fn (N := N) (G := G) (σ := σ) hk
theorem bit_not {x : Int32} {i : Nat} (h : i < 32) : bit (x ^^^ (-1 : Int32)) i = !(bit x i) := by
  rw [bit_xor, bit_m1 h, Bool.xor_true]
/-- a number that isn't negative and lies below a count -/
theorem nI_lt_of {c x : Int32} (h0 : ¬ c < 0) (h : c < x) : ∃ k, k < x.toInt.toNat ∧ k < 2147483648 ∧ c = nI k := by
  obtain ⟨k, hk, rfl⟩ := nI_of h0
  rw [i_lt, nI_toInt hk] at h
  exact ⟨k, by omega, by omega, rfl⟩
theorem nI_cN {x : Int32} (h : 0 ≤ x.toInt) : x = nI x.toInt.toNat := by
  apply i_ext
  have := i_hi x
  rw [nI_toInt (by omega)]
  omega
/-! which cells matter -/
def rlF (o k : Nat) : Bool := (o == 0 && (k == 9 || k == 10)) || (o == 1 && k == 0) || o == 4 || (o == 14 && k == 0) || o == 20 || o == 22 || o == 46 || (o == 56 && k == 0) || o == 62 || o == 64 || (decide (66 ≤ o) && decide (o ≤ 115))
def rlA (o : Nat) : Bool := o == 2 || (decide (5 ≤ o) && decide (o ≤ 18)) || o == 21 || o == 23 || (decide (47 ≤ o) && decide (o ≤ 60)) || o == 63 || o == 65 || (decide (66 ≤ o) && decide (o ≤ 115))
/-- .. without the mind, its log, and the past -/
def raF (o k : Nat) : Bool := (o == 0 && (k == 9 || k == 10)) || (o == 1 && k == 0) || o == 4 || (o == 14 && k == 0) || o == 46 || (o == 56 && k == 0) || o == 62 || o == 64
def raA (o : Nat) : Bool := o == 2 || (decide (5 ≤ o) && decide (o ≤ 18)) || (decide (47 ≤ o) && decide (o ≤ 60)) || o == 63 || o == 65
/-- .. without the mind and its log -/
def rmF (o k : Nat) : Bool := raF o k || (decide (66 ≤ o) && decide (o ≤ 115))
def rmA (o : Nat) : Bool := raA o || (decide (66 ≤ o) && decide (o ≤ 115))
/-- .. without the tape -/
def rtF (o k : Nat) : Bool := rlF o k && !(o == 1)
def rtA (o : Nat) : Bool := rlA o && !(o == 2)
def EE (P : Nat → Nat → Bool) (Q : Nat → Bool) (z : Nat) (σ τ : pS) : Prop := (∀ o k, P o k = true → τ.1 (z + o) k = σ.1 (z + o) k) ∧ ∀ o, Q o = true → τ.2.1 (z + o) = σ.2.1 (z + o)
theorem EE.r {P : Nat → Nat → Bool} {Q : Nat → Bool} {z : Nat} {σ : pS} : EE P Q z σ σ := ⟨fun _ _ _ => rfl, fun _ _ => rfl⟩
theorem EE.t {P : Nat → Nat → Bool} {Q : Nat → Bool} {z : Nat} {σ τ υ : pS} (h : EE P Q z σ τ) (h2 : EE P Q z τ υ) : EE P Q z σ υ := ⟨fun o k e => (h2.1 o k e).trans (h.1 o k e), fun o e => (h2.2 o e).trans (h.2 o e)⟩
theorem EE.mono {P P' : Nat → Nat → Bool} {Q Q' : Nat → Bool} {z : Nat} {σ τ : pS} (h : EE P Q z σ τ) (hP : ∀ o k, P' o k = true → P o k = true) (hQ : ∀ o, Q' o = true → Q o = true) : EE P' Q' z σ τ := ⟨fun o k e => h.1 o k (hP o k e), fun o e => h.2 o (hQ o e)⟩
theorem EE.pf {P : Nat → Nat → Bool} {Q : Nat → Bool} {z o k : Nat} {σ τ : pS} {v : Int32} (h : EE P Q z σ τ) (hr : P o k = false) : EE P Q z σ (putF τ (z + o) k v) := by
  refine ⟨fun o' k' e => ?_, fun o' e => h.2 o' e⟩
  rw [pf1, if_neg ?_]
  · exact h.1 o' k' e
  · intro q
    have e1 : o' = o := by omega
    rw [e1, q.2, hr] at e
    cases e
theorem EE.row {P : Nat → Nat → Bool} {Q : Nat → Bool} {z o : Nat} {σ τ : pS} {f : Nat → Int32} (h : EE P Q z σ τ) (hr : Q o = false) : EE P Q z σ (rowA τ (z + o) f) := by
  refine ⟨fun o' k' e => h.1 o' k' e, fun o' e => ?_⟩
  show va_up τ.2.1 (z + o) f (z + o') = _
  rw [va_up_ne]
  · exact h.2 o' e
  · intro q
    have e1 : o' = o := by omega
    rw [e1, hr] at e
    cases e
theorem sA_row {σ : pS} {a : Nat} {i v : Int32} : sA σ a i v = rowA σ a (fun j => if j = i.toNatClampNeg then v else σ.2.1 a j) := by
  show (_, _, _) = (_, _, _)
  refine congrArg (fun x => (σ.1, x, σ.2.2)) ?_
  funext b j
  show (if b = a ∧ j = i.toNatClampNeg then v else σ.2.1 b j) = (if b = a then _ else σ.2.1 b) j
  by_cases e : b = a
  · subst e
    simp
  · simp [e]
theorem EE.sa {P : Nat → Nat → Bool} {Q : Nat → Bool} {z o : Nat} {σ τ : pS} {i v : Int32} (h : EE P Q z σ τ) (hr : Q o = false) : EE P Q z σ (sA τ (z + o) i v) := by
  rw [sA_row]
  exact h.row hr
theorem EE.sj {P : Nat → Nat → Bool} {Q : Nat → Bool} {z a : Nat} {σ τ : pS} {i : Int32} {v : Int64} (h : EE P Q z σ τ) : EE P Q z σ (sJ τ a i v) := h
abbrev E1 (z : Nat) (σ τ : pS) : Prop := EE rlF rlA z σ τ
/-- the reference's cells that matter -/
def E2 (y : Nat) (σ τ : pS) : Prop := (∀ k, (k = 6 ∨ k = 7 ∨ k = 9 ∨ k = 14) → τ.1 y k = σ.1 y k) ∧ ∀ j, (j = 1 ∨ j = 2 ∨ j = 5 ∨ j = 6) → τ.2.1 (y + j) = σ.2.1 (y + j)
theorem E2.r {y : Nat} {σ : pS} : E2 y σ σ := ⟨fun _ _ => rfl, fun _ _ => rfl⟩
theorem E2.t {y : Nat} {σ τ υ : pS} (h : E2 y σ τ) (h2 : E2 y τ υ) : E2 y σ υ := ⟨fun k e => (h2.1 k e).trans (h.1 k e), fun o e => (h2.2 o e).trans (h.2 o e)⟩
theorem E2.pf {y k : Nat} {σ τ : pS} {v : Int32} (h : E2 y σ τ) (hr : ¬ (k = 6 ∨ k = 7 ∨ k = 9 ∨ k = 14)) : E2 y σ (putF τ y k v) := by
  refine ⟨fun k' e => ?_, fun o' e => h.2 o' e⟩
  rw [pf1, if_neg ?_]
  · exact h.1 k' e
  · intro q
    rw [q.2] at e
    exact hr e
theorem E2.row {y j : Nat} {σ τ : pS} {f : Nat → Int32} (h : E2 y σ τ) (hr : ¬ (j = 1 ∨ j = 2 ∨ j = 5 ∨ j = 6)) : E2 y σ (rowA τ (y + j) f) := by
  refine ⟨fun k' e => h.1 k' e, fun o' e => ?_⟩
  show va_up τ.2.1 (y + j) f (y + o') = _
  rw [va_up_ne]
  · exact h.2 o' e
  · intro q
    have e1 : o' = j := by omega
    rw [e1] at e
    exact hr e
theorem E2.sa {y j : Nat} {σ τ : pS} {i v : Int32} (h : E2 y σ τ) (hr : ¬ (j = 1 ∨ j = 2 ∨ j = 5 ∨ j = 6)) : E2 y σ (sA τ (y + j) i v) := by
  rw [sA_row]
  exact h.row hr
theorem tale_k {σ τ : pS} {t : Nat} {w : Nat → Int32} (hF : τ.1 t = σ.1 t) (hA : ∀ j, 1 ≤ j → j ≤ 9 → τ.2.1 (t + j) = σ.2.1 (t + j)) (h : TaleR (σ.1 t) (fun j => σ.2.1 (t + (1 + j))) w) : TaleR (τ.1 t) (fun j => τ.2.1 (t + (1 + j))) w := by
  unfold TaleR at h ⊢
  simp only at h ⊢
  rw [hF, hA (1 + 0) (by omega) (by omega), hA (1 + 1) (by omega) (by omega), hA (1 + 2) (by omega) (by omega), hA (1 + 3) (by omega) (by omega), hA (1 + 4) (by omega) (by omega), hA (1 + 5) (by omega) (by omega), hA (1 + 6) (by omega) (by omega), hA (1 + 7) (by omega) (by omega), hA (1 + 8) (by omega) (by omega)]
  exact h
theorem law_k {σ τ : pS} {t : Nat} {w : Nat → Int32} (hF : τ.1 (t + 10) 0 = σ.1 (t + 10) 0) (hA : ∀ j, 11 ≤ j → j ≤ 14 → τ.2.1 (t + j) = σ.2.1 (t + j)) (h : LawR (σ.1 (t + 10)) (σ.2.1 (t + 11)) (σ.2.1 (t + 12)) (σ.2.1 (t + 13)) (σ.2.1 (t + 14)) w) : LawR (τ.1 (t + 10)) (τ.2.1 (t + 11)) (τ.2.1 (t + 12)) (τ.2.1 (t + 13)) (τ.2.1 (t + 14)) w := by
  rw [hA 11 (by omega) (by omega), hA 12 (by omega) (by omega), hA 13 (by omega) (by omega), hA 14 (by omega) (by omega)]
  unfold LawR at h ⊢
  rw [hF]
  exact h
theorem EE.f {P : Nat → Nat → Bool} {Q : Nat → Bool} {z : Nat} {σ τ : pS} (h : EE P Q z σ τ) (o : Nat) (hp : ∀ k, P o k = true) : τ.1 (z + o) = σ.1 (z + o) := funext fun k => h.1 o k (hp k)
theorem EE.tale {P : Nat → Nat → Bool} {Q : Nat → Bool} {z t : Nat} {σ τ : pS} {w : Nat → Int32} (h : EE P Q z σ τ) (hP : ∀ k, P t k = true) (hQ : ∀ j, 1 ≤ j → j ≤ 9 → Q (t + j) = true) (hw : TaleR (σ.1 (z + t)) (fun j => σ.2.1 (z + t + (1 + j))) w) : TaleR (τ.1 (z + t)) (fun j => τ.2.1 (z + t + (1 + j))) w :=
  tale_k (h.f t hP) (fun j a b => by rw [Nat.add_assoc]; exact h.2 (t + j) (hQ j a b)) hw
theorem EE.law {P : Nat → Nat → Bool} {Q : Nat → Bool} {z t : Nat} {σ τ : pS} {w : Nat → Int32} (h : EE P Q z σ τ) (hP : P (t + 10) 0 = true) (hQ : ∀ j, 11 ≤ j → j ≤ 14 → Q (t + j) = true) (hw : LawR (σ.1 (z + t + 10)) (σ.2.1 (z + t + 11)) (σ.2.1 (z + t + 12)) (σ.2.1 (z + t + 13)) (σ.2.1 (z + t + 14)) w) : LawR (τ.1 (z + t + 10)) (τ.2.1 (z + t + 11)) (τ.2.1 (z + t + 12)) (τ.2.1 (z + t + 13)) (τ.2.1 (z + t + 14)) w :=
  law_k (by rw [Nat.add_assoc]; exact h.1 (t + 10) 0 hP) (fun j a b => by rw [Nat.add_assoc]; exact h.2 (t + j) (hQ j a b)) hw
theorem EE.wor {P : Nat → Nat → Bool} {Q : Nat → Bool} {z t : Nat} {σ τ : pS} {w : Nat → Int32} (h : EE P Q z σ τ) (hP : ∀ k, P t k = true ∧ P (t + 16) k = true ∧ P (t + 18) k = true) (hL : P (t + 10) 0 = true) (hQ : ∀ j, j ∈ [1, 2, 3, 4, 5, 6, 7, 8, 9, 11, 12, 13, 14, 17, 19] → Q (t + j) = true) (hw : WorldR σ (z + t) w) : WorldR τ (z + t) w := by
  obtain ⟨h1, h2, h3, h4, h5⟩ := hw
  have m : ∀ j, (1 ≤ j ∧ j ≤ 9 ∨ 11 ≤ j ∧ j ≤ 14) → j ∈ [1, 2, 3, 4, 5, 6, 7, 8, 9, 11, 12, 13, 14, 17, 19] := by
    intro j hj
    simp only [List.mem_cons, List.not_mem_nil]
    omega
  refine ⟨h1, h.tale (fun k => (hP k).1) (fun j a b => hQ j (m j (Or.inl ⟨a, b⟩))) h2, h.law hL (fun j a b => hQ j (m j (Or.inr ⟨a, b⟩))) h3, ?_, ?_⟩
  · rw [Nat.add_assoc, Nat.add_assoc, h.f (t + 16) (fun k => (hP k).2.1), h.2 (t + 17) (hQ 17 (by simp)), ← Nat.add_assoc, ← Nat.add_assoc]
    exact h4
  · rw [Nat.add_assoc, Nat.add_assoc, h.f (t + 18) (fun k => (hP k).2.2), h.2 (t + 19) (hQ 19 (by simp)), ← Nat.add_assoc, ← Nat.add_assoc]
    exact h5
theorem EE.past {P : Nat → Nat → Bool} {Q : Nat → Bool} {z n : Nat} {σ τ : pS} {a w : Nat → Int32} (h : EE P Q z σ τ) (hP : ∀ o, 66 ≤ o → o ≤ 115 → ∀ k, P o k = true) (hQ : ∀ o, 66 ≤ o → o ≤ 115 → Q o = true) (hw : PastR σ z a w n) : PastR τ z a w n := by
  obtain ⟨h1, h2, j, h3, h4, h5⟩ := hw
  refine ⟨h1, (h.1 66 0 (hP 66 (by omega) (by omega) 0)).trans h2, j, h3, (h.1 66 1 (hP 66 (by omega) (by omega) 1)).trans h4, fun i hi => ?_⟩
  obtain ⟨a1, a2, a3, a4⟩ := h5 i hi
  have hr : (j + 12 - i) % 12 < 12 := Nat.mod_lt _ (by omega)
  refine ⟨a1, a2, ?_, ?_⟩
  · rw [h.f _ (hP (68 + 4 * ((j + 12 - i) % 12)) (by omega) (by omega)), h.2 _ (hQ (69 + 4 * ((j + 12 - i) % 12)) (by omega) (by omega))]
    exact a3
  · rw [h.f _ (hP (70 + 4 * ((j + 12 - i) % 12)) (by omega) (by omega)), h.2 _ (hQ (71 + 4 * ((j + 12 - i) % 12)) (by omega) (by omega))]
    exact a4
theorem rlF_p {o k : Nat} (h1 : 66 ≤ o) (h2 : o ≤ 115) : rlF o k = true := by
  simp [rlF, h1, h2]
theorem rlA_p {o : Nat} (h1 : 66 ≤ o) (h2 : o ≤ 115) : rlA o = true := by
  simp [rlA, h1, h2]
theorem E1_wor {z t : Nat} {σ τ : pS} {w : Nat → Int32} (h : E1 z σ τ) (ht : t = 4 ∨ t = 46) (hw : WorldR σ (z + t) w) : WorldR τ (z + t) w := by
  rcases ht with rfl | rfl
  · exact h.wor (fun k => ⟨rfl, rfl, rfl⟩) rfl (by decide) hw
  · exact h.wor (fun k => ⟨rfl, rfl, rfl⟩) rfl (by decide) hw
theorem Sim.keep {z y : Nat} {σ1 σ2 τ1 τ2 : pS} (h : Sim z y σ1 σ2) (e1 : E1 z σ1 τ1) (e2 : E2 y σ2 τ2) : Sim z y τ1 τ2 := by
  obtain ⟨h1, h2, h3, ⟨h4, h5, h6⟩, h7, h8, h9, h10, h11⟩ := h
  have f6 := e2.1 6 (by simp)
  have f7 := e2.1 7 (by simp)
  have f9 := e2.1 9 (by simp)
  have f14 := e2.1 14 (by simp)
  have a1 := e2.2 1 (by simp)
  have a2 := e2.2 2 (by simp)
  have a5 := e2.2 5 (by simp)
  have a6 := e2.2 6 (by simp)
  unfold Sim
  rw [f6, f7, f9, f14, a1, a2, a5, a6]
  refine ⟨E1_wor e1 (Or.inl rfl) h1, e1.past (fun o a b k => rlF_p a b) (fun o a b => rlA_p a b) h2, h3, ⟨?_, h5, fun e => E1_wor e1 (Or.inr rfl) (h6 e)⟩, ?_, ?_, h9, h10, ?_⟩
  · exact (e1.1 0 10 rfl).trans h4
  · exact (e1.1 0 9 rfl).trans h7
  · exact (e1.1 1 0 rfl).trans h8
  · intro i hi
    rw [e1.2 2 rfl]
    exact h11 i hi
