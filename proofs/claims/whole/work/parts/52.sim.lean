/-! THE RELATION between the class's cells and the reference's -/
/-- a count as a number -/
def cN (w : Nat → Int32) (k : Nat) : Nat := (w k).toInt.toNat
/-- what the reference's world keeps to -/
def WInv (w : Nat → Int32) : Prop :=
  (0 ≤ (w 0).toInt ∧ (w 0).toInt ≤ 10) ∧ (0 ≤ (w 1).toInt ∧ (w 1).toInt ≤ 6) ∧ (0 ≤ (w 2).toInt ∧ (w 2).toInt ≤ 6) ∧ (0 ≤ (w 3).toInt ∧ (w 3).toInt ≤ 4) ∧ (0 ≤ (w 4).toInt ∧ (w 4).toInt ≤ 8) ∧ (0 ≤ (w 5).toInt ∧ (w 5).toInt ≤ 12) ∧
  (w 6 = 0 ∨ w 6 = 1) ∧ (0 ≤ (w 7).toInt ∧ (w 7).toInt ≤ 99) ∧ (1 ≤ (w 8).toInt ∧ (w 8).toInt ≤ 99) ∧ (0 ≤ (w 9).toInt ∧ (w 9).toInt ≤ 400) ∧ (1 ≤ (w 10).toInt ∧ (w 10).toInt ≤ 400) ∧ (0 ≤ (w 11).toInt ∧ ((w 11).toInt < (w 0).toInt ∨ w 11 = 0)) ∧
  (∀ i, bit (w 12) i = true → i < cN w 0) ∧ (w 13 = 0 ∨ w 13 = 1) ∧ (0 ≤ (w 14).toInt ∧ (w 14).toInt ≤ 100) ∧ (0 ≤ (w 15).toInt ∧ (w 15).toInt ≤ 60) ∧
  (∀ i, i < cN w 0 → (0 ≤ (w (17 + 2 * i)).toInt ∧ (w (17 + 2 * i)).toInt < 64) ∧ (1 ≤ (w (18 + 2 * i)).toInt ∧ (w (18 + 2 * i)).toInt ≤ 9)) ∧
  (∀ i, i < cN w 1 → (w (37 + 3 * i) = 0 ∨ w (37 + 3 * i) = 1) ∧ (0 ≤ (w (38 + 3 * i)).toInt ∧ (w (38 + 3 * i)).toInt < (w 2).toInt) ∧ (w (39 + 3 * i) = 0 ∨ w (39 + 3 * i) = 1)) ∧
  (∀ i, i < cN w 2 → (0 ≤ (w (55 + 2 * i)).toInt ∧ (w (55 + 2 * i)).toInt ≤ 20) ∧ (-1 ≤ (w (56 + 2 * i)).toInt ∧ (w (56 + 2 * i)).toInt < 6)) ∧
  (∀ i, i < cN w 3 → (0 ≤ (w (67 + 2 * i)).toInt ∧ (w (67 + 2 * i)).toInt ≤ 20) ∧ (0 ≤ (w (68 + 2 * i)).toInt ∧ (w (68 + 2 * i)).toInt ≤ 9)) ∧
  (∀ i, i < cN w 4 → (0 ≤ (w (75 + i)).toInt ∧ (w (75 + i)).toInt < 64)) ∧
  (∀ i, i < cN w 15 → (0 ≤ (w (83 + 5 * i)).toInt ∧ (w (83 + 5 * i)).toInt ≤ 400) ∧ (0 ≤ (w (84 + 5 * i)).toInt ∧ (w (84 + 5 * i)).toInt < (w 1).toInt) ∧ (0 ≤ (w (85 + 5 * i)).toInt ∧ (w (85 + 5 * i)).toInt < 6) ∧ (0 ≤ (w (86 + 5 * i)).toInt ∧ (w (86 + 5 * i)).toInt ≤ 99) ∧ (0 ≤ (w (87 + 5 * i)).toInt ∧ (w (87 + 5 * i)).toInt ≤ 10))
/-- the tale: fields f, rows A -/
def TaleR (f : Nat → Int32) (A : Nat → Nat → Int32) (w : Nat → Int32) : Prop :=
  (f 0 = w 5 ∧ f 1 = w 0 ∧ f 2 = w 2 ∧ f 3 = w 3 ∧ f 4 = w 1 ∧ f 5 = w 4 ∧ f 6 = w 8 ∧ f 7 = w 10 ∧ f 8 = w 14) ∧
  (∀ i, i < cN w 0 → A 0 i = w (17 + 2 * i) ∧ A 1 i = w (18 + 2 * i)) ∧ (∀ t, t < 6 → ∀ i, bit (A 2 t) i = (decide (i < cN w 0) && bit (w (17 + 2 * i)) t)) ∧
  (∀ i, i < cN w 2 → A 3 i = w (55 + 2 * i) ∧ A 4 i = w (56 + 2 * i)) ∧ (∀ i, i < cN w 3 → A 5 i = w (67 + 2 * i) ∧ A 6 i = w (68 + 2 * i)) ∧ (∀ i, i < cN w 1 → A 7 i = w (37 + 3 * i)) ∧ (∀ i, i < cN w 4 → A 8 i = w (75 + i))
/-- a mind: fields f, habits h -/
def MindR (f : Nat → Int32) (h : Nat → Int32) (w : Nat → Int32) : Prop :=
  f 0 = w 7 ∧ f 1 = w 9 ∧ f 2 = (if w 0 = 0 then -1 else w 11) ∧ f 3 = w 12 ∧ (∀ i, bit (f 4) i = (decide (i < cN w 1) && decide (w (39 + 3 * i) = 1))) ∧ f 5 = w 16 ∧ f 6 = w 13 ∧ ∀ i, i < cN w 1 → h i = w (38 + 3 * i)
/-- a row of the log, packed -/
def pk (w : Nat → Int32) (i : Nat) : Int32 := (w (83 + 5 * i) <<< 17) ||| (w (84 + 5 * i) <<< 14) ||| (w (85 + 5 * i) <<< 11) ||| (w (86 + 5 * i) <<< 4) ||| w (87 + 5 * i)
def LogR (f : Nat → Int32) (p : Nat → Int32) (w : Nat → Int32) : Prop := f 0 = w 15 ∧ ∃ n, n < 60 ∧ f 1 = nI n ∧ ∀ i, i < cN w 15 → p ((n + 60 - i) % 60) = pk w i
/-! the law, as each side keeps it: what a line's condition says, whatever is looked at (g: word, deed, doubt, night, left, who; t: is it true) -/
/-- the class's steps -/
def cS (s : Int32) (g : Nat → Int32) (t : Int32) (x : Int32 × Int32 × Int32) : Int32 × Int32 × Int32 :=
  if s < 1000 then (x.1, x.2.1, x.2.2 + s) else if s < 1006 then (x.1, x.2.1, x.2.2 + g (s - 1000).toInt.toNat) else if s = 1006 then (x.1, x.2.2, 0)
  else if s = 1007 then ((x.1 <<< 1) ||| (if x.2.1 < x.2.2 then 1 else 0), x.2.1, 0) else if s = 1008 then ((x.1 <<< 1) ||| (if x.2.2 < x.2.1 then 1 else 0), x.2.1, 0)
  else if s = 1009 then ((x.1 <<< 1) ||| t, x.2) else if s = 1010 then ((x.1 <<< 1) ||| (if g 4 = 1 then 1 else 0), x.2)
  else if s = 1011 then (x.1 ^^^ 1, x.2) else if s = 1012 then ((x.1 >>> 1) &&& (x.1 ||| (-2)), x.2) else ((x.1 >>> 1) ||| (x.1 &&& 1), x.2)
def cH (S : Nat → Int32) (g : Nat → Int32) (t : Int32) : Nat → Nat → Int32 × Int32 × Int32 → Int32 × Int32 × Int32
  | _, 0, x => x
  | i, n + 1, x => cH S g t (i + 1) n (cS (S i) g t x)
/-- the reference's steps, over a stack (its top first) -/
def rF (s n : Int32) (g : Nat → Int32) (t : Int32) : Int32 := if s = 0 then g 0 else if s = 1 then g 1 else if s = 2 then g 2 else if s = 3 then g 3 else if s = 4 then g 4 else if s = 5 then g 5 else if s = 6 then t else if s = 7 then (if g 4 = 1 then 1 else 0) else n
def rB (s a b : Int32) : Int32 := if s = 9 then a + b else if s = 10 then (if a < b then 1 else 0) else if s = 11 then (if b < a then 1 else 0) else if s = 13 then (if a + b = 2 then 1 else 0) else (if 0 < a + b then 1 else 0)
def rS (s n : Int32) (g : Nat → Int32) (t : Int32) (st : List Int32) : Option (List Int32) :=
  if s ≤ 8 then some (rF s n g t :: st) else if s = 12 then (match st with | a :: r => some ((1 - a) :: r) | [] => none) else (match st with | b :: a :: r => some (rB s a b :: r) | _ => none)
def rH (w : Nat → Int32) (g : Nat → Int32) (t : Int32) : Nat → Nat → List Int32 → Option (List Int32)
  | _, 0, st => some st
  | i, n + 1, st => (rS (w (432 + 2 * i)) (w (433 + 2 * i)) g t st).bind (rH w g t (i + 1) n)
/-- where a line begins and ends, with the class -/
def cB (E : Nat → Int32) (i : Nat) : Nat := match i with | 0 => 0 | j + 1 => (E j).toInt.toNat
/-- one line -/
def LineR (E S w : Nat → Int32) (i : Nat) : Prop :=
  (cB E i ≤ (E i).toInt.toNat ∧ 0 ≤ (E i).toInt ∧ (E i).toInt ≤ 400) ∧ (0 ≤ (w (386 + 4 * i)).toInt ∧ (w (386 + 4 * i)).toInt ≤ (w (387 + 4 * i)).toInt ∧ (w (387 + 4 * i)).toInt ≤ 400) ∧
  True ∧
  ∀ (g : Nat → Int32) (t : Int32), (t = 0 ∨ t = 1) → ∃ st : List Int32, rH w g t (w (386 + 4 * i)).toInt.toNat ((w (387 + 4 * i)).toInt.toNat - (w (386 + 4 * i)).toInt.toNat) [] = some st ∧ (st = [] ∨ ∃ v, st = [v]) ∧ (bit (cH S g t (cB E i) ((E i).toInt.toNat - cB E i) (1, 0, 0)).1 0 = true ↔ (st = [] ∨ st = [1]))
/-- the law: fields f, kinds K, amounts A, ends E, steps S -/
def LawR (f K A E S w : Nat → Int32) : Prop := f 0 = (if w 6 = 1 then w 383 else -1) ∧ (w 6 = 1 → (0 ≤ (w 383).toInt ∧ (w 383).toInt ≤ 12) ∧ ∀ i, i < cN w 383 → (w (384 + 4 * i) = 0 ∨ w (384 + 4 * i) = 1 ∨ w (384 + 4 * i) = 2) ∧ (0 ≤ (w (385 + 4 * i)).toInt ∧ (w (385 + 4 * i)).toInt ≤ 20) ∧ K i = (if w (384 + 4 * i) = 2 then 1 else 0) ∧ A i = (if w (384 + 4 * i) = 1 then 0 - w (385 + 4 * i) else w (385 + 4 * i)) ∧ LineR E S w i)
/-- a whole world of the class, its tale at t, its law at t + 10, its mind at t + 16 -/
def WorldR (σ : pS) (t : Nat) (w : Nat → Int32) : Prop := WInv w ∧ TaleR (σ.1 t) (fun j => σ.2.1 (t + (1 + j))) w ∧ LawR (σ.1 (t + 10)) (σ.2.1 (t + 11)) (σ.2.1 (t + 12)) (σ.2.1 (t + 13)) (σ.2.1 (t + 14)) w ∧ MindR (σ.1 (t + 16)) (σ.2.1 (t + 17)) w ∧ LogR (σ.1 (t + 18)) (σ.2.1 (t + 19)) w
/-- which places of the reference's world an act may change (all else stays): the mind's and the log's -/
def mindK (k : Nat) : Bool := k == 7 || k == 9 || k == 11 || k == 12 || k == 13 || k == 15 || k == 16 || (decide (37 ≤ k) && decide (k < 55) && !(k % 3 == 1)) || (decide (83 ≤ k) && decide (k < 383))
/-- the acts that are remembered: n rows, the newest at row j of the class's ring -/
def PastR (σ : pS) (z : Nat) (acts w : Nat → Int32) (n : Nat) : Prop := n ≤ 12 ∧ σ.1 (z + 66) 0 = nI n ∧ ∃ j, j < 12 ∧ σ.1 (z + 66) 1 = nI j ∧
  ∀ i, i < n → WInv (fun k => acts (383 * (n - 1 - i) + k)) ∧ (∀ k, k < 383 → mindK k = false → acts (383 * (n - 1 - i) + k) = w k) ∧
    MindR (σ.1 (z + (68 + 4 * ((j + 12 - i) % 12)))) (σ.2.1 (z + (69 + 4 * ((j + 12 - i) % 12)))) (fun k => acts (383 * (n - 1 - i) + k)) ∧ LogR (σ.1 (z + (70 + 4 * ((j + 12 - i) % 12)))) (σ.2.1 (z + (71 + 4 * ((j + 12 - i) % 12)))) (fun k => acts (383 * (n - 1 - i) + k))
/-- a byte -/
def ByteR (v : Int32) : Prop := -128 ≤ v.toInt ∧ v.toInt ≤ 127
/-- THE RELATION -/
def Sim (z y : Nat) (σ1 σ2 : pS) : Prop :=
  WorldR σ1 (z + 4) (σ2.2.1 (y + 1)) ∧ PastR σ1 z (σ2.2.1 (y + 5)) (σ2.2.1 (y + 1)) (σ2.1 y 7).toInt.toNat ∧ (0 ≤ (σ2.1 y 7).toInt ∧ (σ2.1 y 7).toInt ≤ 12) ∧
  (σ1.1 z 10 = σ2.1 y 6 ∧ (σ2.1 y 6 = 0 ∨ σ2.1 y 6 = 1) ∧ (σ2.1 y 6 = 1 → WorldR σ1 (z + 46) (σ2.2.1 (y + 2)))) ∧
  σ1.1 z 9 = σ2.1 y 14 ∧ (σ1.1 (z + 1) 0 = σ2.1 y 9 ∧ 0 ≤ (σ2.1 y 9).toInt ∧ (σ2.1 y 9).toInt ≤ 400 ∧ ∀ i, i < (σ2.1 y 9).toInt.toNat → σ1.2.1 (z + 2) i = σ2.2.1 (y + 6) i ∧ ByteR (σ2.2.1 (y + 6) i))
