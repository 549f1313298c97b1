/-! the law's texts: what a condition says -/
/-- a part of a sum: below 1000 a number, else what is looked at -/
def ptE (q : Nat) : Int32 × Int32 := if q < 1000 then (8, nI q) else (nI (q - 1000), 0)
def ptV (g : Nat → Int32) (q : Nat) : Int32 := if q < 1000 then nI q else g (q - 1000)
def sEt : List Nat → List (Int32 × Int32)
  | [] => []
  | q :: l => ptE q :: (9, 0) :: sEt l
def sV (g : Nat → Int32) : Int32 → List Nat → Int32
  | v, [] => v
  | v, q :: l => sV g (v + ptV g q) l
def rL (g : Nat → Int32) (t : Int32) : List (Int32 × Int32) → List Int32 → Option (List Int32)
  | [], st => some st
  | x :: l, st => (rS x.1 x.2 g t st).bind (rL g t l)
def cL (g : Nat → Int32) (t : Int32) : List Int32 → Int32 × Int32 × Int32 → Int32 × Int32 × Int32
  | [], x => x
  | s :: l, x => cL g t l (cS s g t x)
theorem rL_app {g : Nat → Int32} {t : Int32} : ∀ (a b : List (Int32 × Int32)) (st : List Int32), rL g t (a ++ b) st = (rL g t a st).bind (rL g t b) := by
  intro a
  induction a with
  | nil => exact fun b st => rfl
  | cons x a ih =>
    intro b st
    show (rS x.1 x.2 g t st).bind (rL g t (a ++ b)) = ((rS x.1 x.2 g t st).bind (rL g t a)).bind (rL g t b)
    cases rS x.1 x.2 g t st with
    | none => rfl
    | some s => exact ih b s
theorem cL_app {g : Nat → Int32} {t : Int32} : ∀ (a b : List Int32) (x : Int32 × Int32 × Int32), cL g t (a ++ b) x = cL g t b (cL g t a x) := by
  intro a
  induction a with
  | nil => exact fun b x => rfl
  | cons s a ih => exact fun b x => ih b _
theorem rH_L {w g : Nat → Int32} {t : Int32} : ∀ (l : List (Int32 × Int32)) (i : Nat) (st : List Int32), (∀ k, k < l.length → w (432 + 2 * (i + k)) = (l.getD k (0, 0)).1 ∧ w (433 + 2 * (i + k)) = (l.getD k (0, 0)).2) → rH w g t i l.length st = rL g t l st := by
  intro l
  induction l with
  | nil => exact fun i st _ => rfl
  | cons x l ih =>
    intro i st h
    show (rS (w (432 + 2 * i)) (w (433 + 2 * i)) g t st).bind (rH w g t (i + 1) l.length) = (rS x.1 x.2 g t st).bind (rL g t l)
    have h0 := h 0 (by simp)
    rw [Nat.add_zero] at h0
    have h1 : w (432 + 2 * i) = x.1 := h0.1
    have h2 : w (433 + 2 * i) = x.2 := h0.2
    rw [h1, h2]
    have e : rH w g t (i + 1) l.length = rL g t l := funext fun s => ih (i + 1) s (fun k hk => by
      have := h (k + 1) (by simp; omega)
      rw [show i + (k + 1) = i + 1 + k by omega] at this
      exact this)
    rw [e]
theorem cH_L {S g : Nat → Int32} {t : Int32} : ∀ (l : List Int32) (i : Nat) (x : Int32 × Int32 × Int32), (∀ k, k < l.length → S (i + k) = l.getD k 0) → cH S g t i l.length x = cL g t l x := by
  intro l
  induction l with
  | nil => exact fun i x _ => rfl
  | cons s l ih =>
    intro i x h
    show cH S g t (i + 1) l.length (cS (S i) g t x) = cL g t l (cS s g t x)
    have h0 : S i = s := h 0 (by simp)
    rw [h0]
    exact ih (i + 1) _ (fun k hk => by
      have := h (k + 1) (by simp; omega)
      rw [show i + (k + 1) = i + 1 + k by omega] at this
      exact this)
def b2 (v : Bool) : Int32 := if v = true then 1 else 0
theorem rS_p {g : Nat → Int32} {t : Int32} {q : Nat} {st : List Int32} (hq : q < 1006) : rS (ptE q).1 (ptE q).2 g t st = some (ptV g q :: st) := by
  unfold ptE ptV
  by_cases h : q < 1000
  · rw [if_pos h, if_pos h]
    rfl
  · rw [if_neg h, if_neg h]
    have : q - 1000 = 0 ∨ q - 1000 = 1 ∨ q - 1000 = 2 ∨ q - 1000 = 3 ∨ q - 1000 = 4 ∨ q - 1000 = 5 := by omega
    rcases this with e | e | e | e | e | e <;> rw [e] <;> rfl
theorem rL_s {g : Nat → Int32} {t : Int32} {st : List Int32} : ∀ (l : List Nat) (v : Int32), (∀ q ∈ l, q < 1006) → rL g t (sEt l) (v :: st) = some (sV g v l :: st) := by
  intro l
  induction l with
  | nil => exact fun v _ => rfl
  | cons q l ih =>
    intro v h
    show (rS (ptE q).1 (ptE q).2 g t (v :: st)).bind (fun s => (rS 9 0 g t s).bind (rL g t (sEt l))) = _
    rw [rS_p (h q (by simp)), b_some]
    exact ih (v + ptV g q) (fun r hr => h r (by simp [hr]))
/-- one value more lies on the bits -/
def Sh (x x' : Int32) (v : Bool) (n : Nat) : Prop := bit x' 0 = v ∧ ∀ i, i + 1 + n < 32 → bit x' (i + 1) = bit x i
theorem bit_shl {x : Int32} {i : Nat} (hi : i < 32) : bit (x <<< 1) i = (decide (1 ≤ i) && bit x (i - 1)) := by
  show (x <<< (1 : Int32)).toBitVec.getLsbD i = _
  have e : (x <<< (1 : Int32)).toBitVec = x.toBitVec <<< 1 := rfl
  rw [e, BitVec.getLsbD_shiftLeft]
  unfold bit
  by_cases h : i < 1
  · rw [decide_eq_false (show ¬ 1 ≤ i by omega)]
    simp [h]
  · rw [decide_eq_true (show 1 ≤ i by omega)]
    simp [h, hi]
theorem bit_sr1 {x : Int32} {i : Nat} (hi : i + 1 < 32) : bit (x >>> 1) i = bit x (i + 1) := by
  have := bit_shr (x := x) (k := 1) (i := i) (by omega) (by omega)
  rw [show nI 1 &&& 31 = 1 from by decide, Nat.add_comm] at this
  exact this
theorem bit_m2 {i : Nat} (hi : i < 32) : bit (-2) i = decide (1 ≤ i) := by
  have : ∀ i, i < 32 → bit (-2) i = decide (1 ≤ i) := by decide +kernel
  exact this i hi
theorem sh_push {x : Int32} {v : Bool} {c : Int32} (hc : c = b2 v) : Sh x ((x <<< 1) ||| c) v 0 := by
  have e : ∀ i, bit c i = (v && decide (i = 0)) := fun i => by
    rw [hc]
    cases v with
    | true => exact bit_1
    | false => exact bit_0
  refine ⟨?_, fun i hi => ?_⟩
  · rw [bit_or, bit_shl (by omega), e]
    simp
  · rw [bit_or, bit_shl (by omega), e]
    simp
theorem sh_not {x x' : Int32} {v : Bool} {n : Nat} (h : Sh x x' v n) : Sh x (x' ^^^ 1) (!v) n := by
  refine ⟨?_, fun i hi => ?_⟩
  · rw [bit_xor, h.1, bit_1]
    simp
  · rw [bit_xor, h.2 i hi, bit_1]
    simp
theorem sh_and {x x1 x2 : Int32} {v u : Bool} {n m : Nat} (h : Sh x x1 v n) (g : Sh x1 x2 u m) (hm : m < 30) : Sh x ((x2 >>> 1) &&& (x2 ||| (-2))) (v && u) (max n (m + 1)) := by
  refine ⟨?_, fun i hi => ?_⟩
  · rw [bit_and, bit_sr1 (by omega), bit_or, bit_m2 (by omega), g.2 0 (by omega), h.1, g.1]
    simp
  · rw [bit_and, bit_sr1 (by omega), bit_or, bit_m2 (by omega), g.2 (i + 1) (by omega), h.2 i (by omega)]
    simp
theorem sh_or {x x1 x2 : Int32} {v u : Bool} {n m : Nat} (h : Sh x x1 v n) (g : Sh x1 x2 u m) (hm : m < 30) : Sh x ((x2 >>> 1) ||| (x2 &&& 1)) (v || u) (max n (m + 1)) := by
  refine ⟨?_, fun i hi => ?_⟩
  · rw [bit_or, bit_sr1 (by omega), bit_and, bit_1, g.2 0 (by omega), h.1, g.1]
    simp
  · rw [bit_or, bit_sr1 (by omega), bit_and, bit_1, g.2 (i + 1) (by omega), h.2 i (by omega)]
    simp
theorem cS_p {g : Nat → Int32} {t : Int32} {q : Nat} {x : Int32 × Int32 × Int32} (hq : q < 1006) : cS (nI q) g t x = (x.1, x.2.1, x.2.2 + ptV g q) := by
  unfold cS ptV
  by_cases h : q < 1000
  · rw [if_pos (show nI q < 1000 from nI_lt (b := 1000) h (by omega)), if_pos h]
  · rw [if_neg (show ¬ nI q < 1000 from nI_nlt (b := 1000) (by omega) (by omega)), if_pos (show nI q < 1006 from nI_lt (b := 1006) hq (by omega)), if_neg h, show nI q - 1000 = nI (q - 1000) from nI_df (a := q) (b := 1000) (by omega), nI_toInt (by omega)]
    rfl
theorem cL_s {g : Nat → Int32} {t : Int32} {x bf : Int32} : ∀ (l : List Nat) (v : Int32), (∀ q ∈ l, q < 1006) → cL g t (l.map nI) (x, bf, v) = (x, bf, sV g v l) := by
  intro l
  induction l with
  | nil => exact fun v _ => rfl
  | cons q l ih =>
    intro v h
    show cL g t (l.map nI) (cS (nI q) g t (x, bf, v)) = _
    rw [cS_p (h q (by simp))]
    exact ih _ (fun r hr => h r (by simp [hr]))
/-- the reference's steps and the class's say the same -/
def Cd (R : List (Int32 × Int32)) (C : List Int32) (n : Nat) : Prop := ∃ v : (Nat → Int32) → Int32 → Bool, ∀ (g : Nat → Int32) (t : Int32), (t = 0 ∨ t = 1) → (∀ st, rL g t R st = some (b2 (v g t) :: st)) ∧ ∀ x bf, ∃ x' bf', cL g t C (x, bf, 0) = (x', bf', 0) ∧ Sh x x' (v g t) n
theorem Cd.tru : Cd [(6, 0)] [1009] 0 := by
  refine ⟨fun _ t => decide (t = 1), fun g t ht => ⟨fun st => ?_, fun x bf => ⟨(x <<< 1) ||| t, bf, rfl, sh_push ?_⟩⟩⟩
  · rcases ht with e | e <;> rw [e] <;> rfl
  · rcases ht with e | e <;> rw [e] <;> rfl
theorem b2_dec {p : Prop} [Decidable p] : b2 (decide p) = if p then 1 else 0 := by
  unfold b2
  by_cases h : p
  · rw [if_pos h, decide_eq_true h, if_pos rfl]
  · rw [if_neg h, decide_eq_false h, if_neg Bool.false_ne_true]
theorem Cd.sur : Cd [(7, 0)] [1010] 0 := by
  refine ⟨fun g _ => decide (g 4 = 1), fun g t ht => ⟨fun st => ?_, fun x bf => ⟨(x <<< 1) ||| (if g 4 = 1 then 1 else 0), bf, rfl, sh_push ?_⟩⟩⟩
  · rw [b2_dec]
    rfl
  · rw [b2_dec]
theorem Cd.cmp {ls : Bool} {a b : Nat} {l r : List Nat} (o1 : a < 1006) (o2 : b < 1006) (o3 : ∀ q ∈ l, q < 1006) (o4 : ∀ q ∈ r, q < 1006) : Cd ((ptE a :: sEt l) ++ (ptE b :: sEt r) ++ [(if ls = true then 10 else 11, 0)]) ((nI a :: l.map nI) ++ [1006] ++ (nI b :: r.map nI) ++ [if ls = true then 1007 else 1008]) 0 := by
  refine ⟨fun g _ => if ls = true then decide (sV g (ptV g a) l < sV g (ptV g b) r) else decide (sV g (ptV g b) r < sV g (ptV g a) l), fun g t ht => ⟨fun st => ?_, fun x bf => ?_⟩⟩
  · rw [rL_app, rL_app]
    show (((rS (ptE a).1 (ptE a).2 g t st).bind (rL g t (sEt l))).bind (fun s => (rS (ptE b).1 (ptE b).2 g t s).bind (rL g t (sEt r)))).bind _ = _
    rw [rS_p o1, b_some, rL_s l _ o3, b_some, rS_p o2, b_some, rL_s r _ o4, b_some]
    cases ls with
    | true =>
      show some ((if sV g (ptV g a) l < sV g (ptV g b) r then (1 : Int32) else 0) :: st) = some (b2 (decide (sV g (ptV g a) l < sV g (ptV g b) r)) :: st)
      rw [b2_dec]
    | false =>
      show some ((if sV g (ptV g b) r < sV g (ptV g a) l then (1 : Int32) else 0) :: st) = some (b2 (decide (sV g (ptV g b) r < sV g (ptV g a) l)) :: st)
      rw [b2_dec]
  · have e : cL g t ((nI a :: l.map nI) ++ [1006] ++ (nI b :: r.map nI) ++ [if ls = true then 1007 else 1008]) (x, bf, 0) = cS (if ls = true then 1007 else 1008) g t (x, sV g (ptV g a) l, sV g (ptV g b) r) := by
      rw [cL_app, cL_app, cL_app]
      show cS _ g t (cL g t (r.map nI) (cS (nI b) g t (cS 1006 g t (cL g t (l.map nI) (cS (nI a) g t (x, bf, 0)))))) = _
      rw [cS_p o1, cL_s l _ o3, show (0 : Int32) + ptV g a = ptV g a from Int32.zero_add _]
      show cS _ g t (cL g t (r.map nI) (cS (nI b) g t (x, sV g (ptV g a) l, 0))) = _
      rw [cS_p o2, cL_s r _ o4, show (0 : Int32) + ptV g b = ptV g b from Int32.zero_add _]
    rw [e]
    cases ls with
    | true => exact ⟨(x <<< 1) ||| (if sV g (ptV g a) l < sV g (ptV g b) r then 1 else 0), _, rfl, sh_push (b2_dec (p := sV g (ptV g a) l < sV g (ptV g b) r)).symm⟩
    | false => exact ⟨(x <<< 1) ||| (if sV g (ptV g b) r < sV g (ptV g a) l then 1 else 0), _, rfl, sh_push (b2_dec (p := sV g (ptV g b) r < sV g (ptV g a) l)).symm⟩
theorem Cd.neg {R : List (Int32 × Int32)} {C : List Int32} {n : Nat} (h : Cd R C n) : Cd (R ++ [(12, 0)]) (C ++ [1011]) n := by
  obtain ⟨v, h⟩ := h
  refine ⟨fun g t => !(v g t), fun g t ht => ⟨fun st => ?_, fun x bf => ?_⟩⟩
  · rw [rL_app, (h g t ht).1 st, b_some]
    show some ((1 - b2 (v g t)) :: st) = some (b2 (!(v g t)) :: st)
    cases v g t <;> rfl
  · obtain ⟨x', bf', h1, h2⟩ := (h g t ht).2 x bf
    refine ⟨x' ^^^ 1, bf', ?_, sh_not h2⟩
    rw [cL_app, h1]
    rfl
theorem Cd.con {R S : List (Int32 × Int32)} {C D : List Int32} {n m : Nat} (h : Cd R C n) (k : Cd S D m) (hm : m < 30) : Cd (R ++ S ++ [(13, 0)]) (C ++ D ++ [1012]) (max n (m + 1)) := by
  obtain ⟨v, h⟩ := h
  obtain ⟨u, k⟩ := k
  refine ⟨fun g t => v g t && u g t, fun g t ht => ⟨fun st => ?_, fun x bf => ?_⟩⟩
  · rw [rL_app, rL_app, (h g t ht).1 st, b_some, (k g t ht).1, b_some]
    show rL g t [(13, 0)] (b2 (u g t) :: b2 (v g t) :: st) = some (b2 (v g t && u g t) :: st)
    cases v g t <;> cases u g t <;> rfl
  · obtain ⟨x1, b1, h1, h2⟩ := (h g t ht).2 x bf
    obtain ⟨x2, b2', h3, h4⟩ := (k g t ht).2 x1 b1
    refine ⟨_, b2', ?_, sh_and h2 h4 hm⟩
    rw [cL_app, cL_app, h1, h3]
    rfl
theorem Cd.dis {R S : List (Int32 × Int32)} {C D : List Int32} {n m : Nat} (h : Cd R C n) (k : Cd S D m) (hm : m < 30) : Cd (R ++ S ++ [(14, 0)]) (C ++ D ++ [1013]) (max n (m + 1)) := by
  obtain ⟨v, h⟩ := h
  obtain ⟨u, k⟩ := k
  refine ⟨fun g t => v g t || u g t, fun g t ht => ⟨fun st => ?_, fun x bf => ?_⟩⟩
  · rw [rL_app, rL_app, (h g t ht).1 st, b_some, (k g t ht).1, b_some]
    show rL g t [(14, 0)] (b2 (u g t) :: b2 (v g t) :: st) = some (b2 (v g t || u g t) :: st)
    cases v g t <;> cases u g t <;> rfl
  · obtain ⟨x1, b1, h1, h2⟩ := (h g t ht).2 x bf
    obtain ⟨x2, b2', h3, h4⟩ := (k g t ht).2 x1 b1
    refine ⟨_, b2', ?_, sh_or h2 h4 hm⟩
    rw [cL_app, cL_app, h1, h3]
    rfl
