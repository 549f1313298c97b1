/-! the pools, by offsets from the heap's first free address z: the class 137 (with the law's own row at 150), the reference 137 to 149 -/
def k1K : List Nat := [10, 8, 12, 9, 7, 13, 13, 13, 13, 13, 13, 13, 13, 13, 0, 13, 13, 13, 13, 13, 3, 13, 2, 13, 9, 7, 13, 13, 13, 13, 13, 13, 13, 13, 13, 0, 13, 13, 13, 13, 13, 3, 13, 2, 13, 9, 7, 13, 13, 13, 13, 13, 13, 13, 13, 13, 0, 13, 13, 13, 13, 13, 3, 13, 2, 13, 4, 16, 3, 13, 2, 13, 3, 13, 2, 13, 3, 13, 2, 13, 3, 13, 2, 13, 3, 13, 2, 13, 3, 13, 2, 13, 3, 13, 2, 13, 3, 13, 2, 13, 3, 13, 2, 13, 3, 13, 2, 13, 3, 13, 2, 13, 3, 13, 2, 13, 3, 13, 2, 13, 6, 3, 13, 2, 13, 13, 13, 5, 3, 13, 2, 13, 14, 14, 14, 1, 13, 99, 99, 99, 99, 99, 99, 99, 99, 99, 99, 99, 99, 99, 14]
def k1N : List Nat := [0, 0, 400, 0, 0, 10, 10, 6, 6, 6, 4, 4, 6, 8, 0, 12, 12, 12, 400, 6, 0, 6, 0, 60, 0, 0, 10, 10, 6, 6, 6, 4, 4, 6, 8, 0, 12, 12, 12, 400, 6, 0, 6, 0, 60, 0, 0, 10, 10, 6, 6, 6, 4, 4, 6, 8, 0, 12, 12, 12, 400, 6, 0, 6, 0, 60, 0, 12, 0, 6, 0, 60, 0, 6, 0, 60, 0, 6, 0, 60, 0, 6, 0, 60, 0, 6, 0, 60, 0, 6, 0, 60, 0, 6, 0, 60, 0, 6, 0, 60, 0, 6, 0, 60, 0, 6, 0, 60, 0, 6, 0, 60, 0, 6, 0, 60, 0, 6, 0, 60, 0, 0, 6, 0, 60, 1200, 1200, 0, 0, 6, 0, 60, 100, 100, 100, 0, 20, 0, 0, 0, 0, 0, 0, 0, 0, 0, 0, 0, 0, 0, 1]
def k1R : List (List Nat) := [[1, 3, 24, 45, 66, 116, 120, 127, 135, 0, 0], [0, 0, 0, 0, 0, 2], [], [4, 14, 20], [0, 0, 0, 0, 0, 0, 0, 0, 0, 5, 6, 7, 8, 9, 10, 11, 12, 13], [], [], [], [], [], [], [], [], [], [0, 0, 15, 16, 17, 18, 19, 0], [], [], [], [], [], [0, 0, 0, 0, 0, 0, 0, 21, 22], [], [0, 0, 23], [], [25, 35, 41], [0, 0, 0, 0, 0, 0, 0, 0, 0, 26, 27, 28, 29, 30, 31, 32, 33, 34], [], [], [], [], [], [], [], [], [], [0, 0, 36, 37, 38, 39, 40, 0], [], [], [], [], [], [0, 0, 0, 0, 0, 0, 0, 42, 43], [], [0, 0, 44], [], [46, 56, 62], [0, 0, 0, 0, 0, 0, 0, 0, 0, 47, 48, 49, 50, 51, 52, 53, 54, 55], [], [], [], [], [], [], [], [], [], [0, 0, 57, 58, 59, 60, 61, 0], [], [], [], [], [], [0, 0, 0, 0, 0, 0, 0, 63, 64], [], [0, 0, 65], [], [0, 0, 67], [], [0, 0, 0, 0, 0, 0, 0, 69, 70], [], [0, 0, 71], [], [0, 0, 0, 0, 0, 0, 0, 73, 74], [], [0, 0, 75], [], [0, 0, 0, 0, 0, 0, 0, 77, 78], [], [0, 0, 79], [], [0, 0, 0, 0, 0, 0, 0, 81, 82], [], [0, 0, 83], [], [0, 0, 0, 0, 0, 0, 0, 85, 86], [], [0, 0, 87], [], [0, 0, 0, 0, 0, 0, 0, 89, 90], [], [0, 0, 91], [], [0, 0, 0, 0, 0, 0, 0, 93, 94], [], [0, 0, 95], [], [0, 0, 0, 0, 0, 0, 0, 97, 98], [], [0, 0, 99], [], [0, 0, 0, 0, 0, 0, 0, 101, 102], [], [0, 0, 103], [], [0, 0, 0, 0, 0, 0, 0, 105, 106], [], [0, 0, 107], [], [0, 0, 0, 0, 0, 0, 0, 109, 110], [], [0, 0, 111], [], [0, 0, 0, 0, 0, 0, 0, 113, 114], [], [0, 0, 115], [], [0, 0, 0, 0, 0, 0, 0, 117, 118], [], [0, 0, 119], [], [121, 125, 126, 0, 0], [0, 0, 0, 0, 0, 0, 0, 122, 123], [], [0, 0, 124], [], [], [], [128, 132, 133, 134], [0, 0, 0, 0, 0, 0, 0, 129, 130], [], [0, 0, 131], [], [], [], [], [0, 0, 0, 0, 0, 0, 0, 136], [], [], [], [], [], [], [], [], [], [], [], [], [], [], []]
def k1F : List (List Int32) := [[0, 0, 0, 0, 0, 0, 0, 0, 0, -1, 0], [0, 0, 0, 0, 0, 0], [], [0, 0, 0], [0, 0, 0, 0, 0, 0, 50, 365, 50, 0, 0, 0, 0, 0, 0, 0, 0, 0], [], [], [], [], [], [], [], [], [], [-1, 0, 0, 0, 0, 0, 0, 0], [], [], [], [], [], [0, 0, -1, 0, 0, 1, 0, 0, 0], [], [0, 0, 0], [], [0, 0, 0], [0, 0, 0, 0, 0, 0, 50, 365, 50, 0, 0, 0, 0, 0, 0, 0, 0, 0], [], [], [], [], [], [], [], [], [], [-1, 0, 0, 0, 0, 0, 0, 0], [], [], [], [], [], [0, 0, -1, 0, 0, 1, 0, 0, 0], [], [0, 0, 0], [], [0, 0, 0], [0, 0, 0, 0, 0, 0, 50, 365, 50, 0, 0, 0, 0, 0, 0, 0, 0, 0], [], [], [], [], [], [], [], [], [], [-1, 0, 0, 0, 0, 0, 0, 0], [], [], [], [], [], [0, 0, -1, 0, 0, 1, 0, 0, 0], [], [0, 0, 0], [], [0, 0, 0], [], [0, 0, -1, 0, 0, 1, 0, 0, 0], [], [0, 0, 0], [], [0, 0, -1, 0, 0, 1, 0, 0, 0], [], [0, 0, 0], [], [0, 0, -1, 0, 0, 1, 0, 0, 0], [], [0, 0, 0], [], [0, 0, -1, 0, 0, 1, 0, 0, 0], [], [0, 0, 0], [], [0, 0, -1, 0, 0, 1, 0, 0, 0], [], [0, 0, 0], [], [0, 0, -1, 0, 0, 1, 0, 0, 0], [], [0, 0, 0], [], [0, 0, -1, 0, 0, 1, 0, 0, 0], [], [0, 0, 0], [], [0, 0, -1, 0, 0, 1, 0, 0, 0], [], [0, 0, 0], [], [0, 0, -1, 0, 0, 1, 0, 0, 0], [], [0, 0, 0], [], [0, 0, -1, 0, 0, 1, 0, 0, 0], [], [0, 0, 0], [], [0, 0, -1, 0, 0, 1, 0, 0, 0], [], [0, 0, 0], [], [0, 0, -1, 0, 0, 1, 0, 0, 0], [], [0, 0, 0], [], [0, 0, -1, 0, 0, 1, 0, 0, 0], [], [0, 0, 0], [], [0, 0, 0, 0, 0], [0, 0, -1, 0, 0, 1, 0, 0, 0], [], [0, 0, 0], [], [], [], [0, 0, 0, 0], [0, 0, -1, 0, 0, 1, 0, 0, 0], [], [0, 0, 0], [], [], [], [], [0, 0, 1, 0, 1007, 0, 0, 0], [], [], [], [], [], [], [], [], [], [], [], [], [], [], []]
def k2K : List Nat := [11, 13, 13, 13, 13, 13, 12, 13, 13, 13, 15, 15, 13]
def k2N : List Nat := [0, 2081, 1232, 1232, 383, 4596, 400, 5, 400, 1300, 6400, 6400, 1024]
def k2R : List (List Nat) := [[0, 1, 2, 3, 4, 5, 0, 0, 6, 0, 0, 0, 0, 0, 0, 7, 0, 8, 0, 0, 0, 0, 0, 0, 0, 9, 10, 11, 12], [], [], [], [], [], [], [], [], [], [], [], []]
def k2F : List (List Int32) := [[0, 0, 0, 0, 0, 0, 0, 0, 0, 0, 0, 0, 0, 0, -1, 0, 0, 0, 0, 0, 0, 0, 0, 0, 0, 0, 0, 0, 0], [], [], [], [], [], [], [], [], [], [], [], []]
def k1Q : List Nat := [68, 72, 76, 80, 84, 88, 92, 96, 100, 104, 108, 112]
def O1 : List Nat := List.range 137 ++ [150]
def G1 (z : Nat) : pG := (O1.map (z + ·), (fun a => k1K.getD (a - z) 99), (fun a => k1N.getD (a - z) 0), (fun a k => z + (k1R.getD (a - z) []).getD k 0), (fun _ i => z + k1Q.getD i 0))
def G2 (y : Nat) : pG := ((List.range 13).map (y + ·), (fun a => k2K.getD (a - y) 99), (fun a => k2N.getD (a - y) 0), (fun a k => y + (k2R.getD (a - y) []).getD k 0), (fun _ _ => y))
def w2 : Nat → Int32 := upd (upd (upd (upd (fun _ => 0) 8 50) 10 365) 14 50) 16 1
def S1 (z : Nat) : pS := ((fun a k => (k1F.getD (a - z) []).getD k 0), (fun _ _ => 0), (fun _ _ => 0))
def S2 (y : Nat) : pS := ((fun a k => (k2F.getD (a - y) []).getD k 0), (fun a i => if a - y = 1 then w2 i else 0), (fun _ _ => 0))
theorem mem1 {z a : Nat} : a ∈ pL (G1 z) ↔ ∃ k ∈ O1, a = z + k := by
  show a ∈ O1.map (z + ·) ↔ _
  rw [List.mem_map]
  exact ⟨fun ⟨k, h1, h2⟩ => ⟨k, h1, h2.symm⟩, fun ⟨k, h1, h2⟩ => ⟨k, h1, h2.symm⟩⟩
theorem mem2 {y a : Nat} : a ∈ pL (G2 y) ↔ ∃ k, k < 13 ∧ a = y + k := by
  show a ∈ (List.range 13).map (y + ·) ↔ _
  rw [List.mem_map]
  exact ⟨fun ⟨k, h1, h2⟩ => ⟨k, List.mem_range.mp h1, h2.symm⟩, fun ⟨k, h1, h2⟩ => ⟨k, List.mem_range.mpr h1, h2.symm⟩⟩
theorem is1 {z k c : Nat} : Is (G1 z) (z + k) c ↔ k ∈ O1 ∧ k1K.getD k 99 = c := by
  unfold Is
  rw [mem1, show pK (G1 z) (z + k) = k1K.getD (z + k - z) 99 from rfl, Nat.add_sub_cancel_left]
  constructor
  · rintro ⟨⟨j, h1, h2⟩, h3⟩
    have : k = j := by omega
    subst this
    exact ⟨h1, h3⟩
  · rintro ⟨h1, h2⟩
    exact ⟨⟨k, h1, rfl⟩, h2⟩
theorem is2 {y k c : Nat} : Is (G2 y) (y + k) c ↔ k < 13 ∧ k2K.getD k 99 = c := by
  unfold Is
  rw [mem2, show pK (G2 y) (y + k) = k2K.getD (y + k - y) 99 from rfl, Nat.add_sub_cancel_left]
  constructor
  · rintro ⟨⟨j, h1, h2⟩, h3⟩
    have : k = j := by omega
    subst this
    exact ⟨h1, h3⟩
  · rintro ⟨h1, h2⟩
    exact ⟨⟨k, h1, rfl⟩, h2⟩
def ck1 (k : Nat) : Bool := (List.range 18).all (fun j => !(isR (k1K.getD k 99) j) || (O1.contains ((k1R.getD k []).getD j 0) && (k1K.getD ((k1R.getD k []).getD j 0) 99 == kd (k1K.getD k 99) j)))
theorem isR_lt {c k : Nat} (h : isR c k = true) : k < 29 := by
  rcases Nat.lt_or_ge k 29 with q | q
  · exact q
  · exfalso
    have hl : ∀ r ∈ rfT, r.length ≤ 29 := by decide
    unfold isR at h
    rw [List.getD_eq_getElem?_getD, List.getElem?_eq_none] at h
    · cases h
    · rcases Nat.lt_or_ge c rfT.length with q2 | q2
      · rw [List.getD_eq_getElem?_getD, List.getElem?_eq_getElem q2]
        exact Nat.le_trans (hl _ (List.getElem_mem q2)) q
      · rw [List.getD_eq_getElem?_getD, List.getElem?_eq_none q2]
        exact Nat.zero_le _
theorem ck1_ok : ∀ k ∈ O1, ∀ j ∈ List.range 29, isR (k1K.getD k 99) j = true → ((k1R.getD k []).getD j 0) ∈ O1 ∧ k1K.getD ((k1R.getD k []).getD j 0) 99 = kd (k1K.getD k 99) j := by decide +kernel
theorem ck2_ok : ∀ k ∈ List.range 13, ∀ j ∈ List.range 29, isR (k2K.getD k 99) j = true → ∃ i ∈ List.range 13, (k2R.getD k []).getD j 0 = i ∧ k2K.getD i 99 = kd (k2K.getD k 99) j := by decide +kernel
theorem ckQ : ∀ i ∈ List.range 12, k1Q.getD i 0 ∈ O1 ∧ k1K.getD (k1Q.getD i 0) 99 = 3 := by decide +kernel
theorem ckN : ∀ k ∈ O1, k1K.getD k 99 = 16 → k1N.getD k 0 = 12 := by decide +kernel
theorem ckM : ∀ k ∈ List.range 13, ¬ k2K.getD k 99 = 16 := by decide +kernel
theorem wt1 (z : Nat) : WT (G1 z) := by
  constructor
  · rintro a c j ⟨h1, h2⟩ hr
    obtain ⟨k, hk, rfl⟩ := mem1.mp h1
    have h3 := (is1 (z := z) (k := k) (c := c)).mp ⟨h1, h2⟩
    have e : pR (G1 z) (z + k) j = z + (k1R.getD k []).getD j 0 := by
      show z + (k1R.getD (z + k - z) []).getD j 0 = _
      rw [Nat.add_sub_cancel_left]
    rw [e, is1]
    have := ck1_ok k hk j (List.mem_range.mpr (isR_lt hr)) (by rw [h3.2]; exact hr)
    rw [h3.2] at this
    exact this
  · rintro a i ⟨h1, h2⟩ hi
    obtain ⟨k, hk, rfl⟩ := mem1.mp h1
    have h3 := (is1 (z := z) (k := k) (c := 16)).mp ⟨h1, h2⟩
    have e : pN (G1 z) (z + k) = k1N.getD k 0 := by
      show k1N.getD (z + k - z) 0 = _
      rw [Nat.add_sub_cancel_left]
    rw [e, ckN k hk h3.2] at hi
    show Is (G1 z) (z + k1Q.getD i 0) 3
    rw [is1]
    exact ckQ i (List.mem_range.mpr hi)
theorem wt2 (y : Nat) : WT (G2 y) := by
  constructor
  · rintro a c j ⟨h1, h2⟩ hr
    obtain ⟨k, hk, rfl⟩ := mem2.mp h1
    have h3 := (is2 (y := y) (k := k) (c := c)).mp ⟨h1, h2⟩
    have e : pR (G2 y) (y + k) j = y + (k2R.getD k []).getD j 0 := by
      show y + (k2R.getD (y + k - y) []).getD j 0 = _
      rw [Nat.add_sub_cancel_left]
    obtain ⟨i, hi, e1, e2⟩ := ck2_ok k (List.mem_range.mpr hk) j (List.mem_range.mpr (isR_lt hr)) (by rw [h3.2]; exact hr)
    rw [e, e1, is2]
    rw [h3.2] at e2
    exact ⟨List.mem_range.mp hi, e2⟩
  · rintro a i ⟨h1, h2⟩ hi
    obtain ⟨k, hk, rfl⟩ := mem2.mp h1
    have h3 := (is2 (y := y) (k := k) (c := 16)).mp ⟨h1, h2⟩
    exact absurd h3.2 (ckM k (List.mem_range.mpr hk))
theorem nd12 (z : Nat) : (pL (G1 z) ++ pL (G2 (z + 137))).Nodup := by
  show (O1.map (z + ·) ++ (List.range 13).map (z + 137 + ·)).Nodup
  have e : O1.map (z + ·) ++ (List.range 13).map (z + 137 + ·) = (O1 ++ (List.range 13).map (137 + ·)).map (z + ·) := by
    rw [List.map_append, List.map_map]
    congr 1
  rw [e]
  have h : (O1 ++ (List.range 13).map (137 + ·)).Nodup := by decide +kernel
  refine List.Pairwise.map _ ?_ h
  intro a b hab he
  exact hab (by simpa using he)
theorem hi12 (z : Nat) : ∀ a ∈ pL (G1 z) ++ pL (G2 (z + 137)), z ≤ a := by
  intro a ha
  rcases List.mem_append.mp ha with h | h
  · obtain ⟨k, -, rfl⟩ := mem1.mp h
    omega
  · obtain ⟨k, -, rfl⟩ := mem2.mp h
    omega
def qA (z : Nat) : Nat → Option Nat := (va_up (va_up (va_up (va_up (va_up (va_up (va_up (va_up (va_up (va_up (va_up (va_up (fun _ => none) 0 (some (z + 68))) 1 (some (z + 72))) 2 (some (z + 76))) 3 (some (z + 80))) 4 (some (z + 84))) 5 (some (z + 88))) 6 (some (z + 92))) 7 (some (z + 96))) 8 (some (z + 100))) 9 (some (z + 104))) 10 (some (z + 108))) 11 (some (z + 112)))
theorem qA_ok {z : Nat} : ∀ i, i < 12 → qA z i = some (z + k1Q.getD i 0) := by
  intro i hi
  match i, hi with
  | 0, _ => rfl
  | 1, _ => rfl
  | 2, _ => rfl
  | 3, _ => rfl
  | 4, _ => rfl
  | 5, _ => rfl
  | 6, _ => rfl
  | 7, _ => rfl
  | 8, _ => rfl
  | 9, _ => rfl
  | 10, _ => rfl
  | 11, _ => rfl
  | i + 12, h => exact absurd h (by omega)
/-- one entry of a pool, by its offset -/
def pEt (cy : Nat → ClassId) (z k : Nat) (tK tN : List Nat) (tR : List (List Nat)) (tF : List (List Int32)) (fi : Nat → Int32) (fq : Nat → Option Nat) : va_E :=
  if tK.getD k 99 < 12 then .inr (tK.getD k 99, (List.range (nFl.getD (tK.getD k 99) 0)).map (fun j => if isR (tK.getD k 99) j = true then .ref (z + (tR.getD k []).getD j 0) else .int ((tF.getD k []).getD j 0)))
  else if tK.getD k 99 = 14 then .inl (cy 2, tN.getD k 0, .inr (.inl (fun _ => 0)))
  else if tK.getD k 99 = 16 then .inl (cy 4, tN.getD k 0, .inr (.inr (.inr (.inr fq))))
  else .inl (cy (tK.getD k 99 - 12), tN.getD k 0, .inl fi)
theorem pEt1 {cy : Nat → ClassId} {z k : Nat} : pE cy (G1 z) (S1 z) (z + k) = pEt cy z k k1K k1N k1R k1F (fun _ => 0) (fun i => some (z + k1Q.getD i 0)) := by
  have e1 : pK (G1 z) (z + k) = k1K.getD k 99 := by
    show k1K.getD (z + k - z) 99 = _
    rw [Nat.add_sub_cancel_left]
  have e2 : pN (G1 z) (z + k) = k1N.getD k 0 := by
    show k1N.getD (z + k - z) 0 = _
    rw [Nat.add_sub_cancel_left]
  have e3 : ∀ c, pFs (G1 z) (S1 z) c (z + k) = (List.range (nFl.getD c 0)).map (fun j => if isR c j = true then .ref (z + (k1R.getD k []).getD j 0) else .int ((k1F.getD k []).getD j 0)) := by
    intro c
    show (List.range (nFl.getD c 0)).map (fun j => if isR c j = true then Value.ref (z + (k1R.getD (z + k - z) []).getD j 0) else Value.int ((k1F.getD (z + k - z) []).getD j 0)) = _
    rw [Nat.add_sub_cancel_left]
  unfold pE pEt
  rw [e1, e2, e3]
  rfl
theorem pEt2 {cy : Nat → ClassId} {y k : Nat} (hk : ¬ k2K.getD k 99 = 16) : pE cy (G2 y) (S2 y) (y + k) = pEt cy y k k2K k2N k2R k2F (if k = 1 then w2 else fun _ => 0) (fun _ => none) := by
  have e1 : pK (G2 y) (y + k) = k2K.getD k 99 := by
    show k2K.getD (y + k - y) 99 = _
    rw [Nat.add_sub_cancel_left]
  have e2 : pN (G2 y) (y + k) = k2N.getD k 0 := by
    show k2N.getD (y + k - y) 0 = _
    rw [Nat.add_sub_cancel_left]
  have e3 : ∀ c, pFs (G2 y) (S2 y) c (y + k) = (List.range (nFl.getD c 0)).map (fun j => if isR c j = true then .ref (y + (k2R.getD k []).getD j 0) else .int ((k2F.getD k []).getD j 0)) := by
    intro c
    show (List.range (nFl.getD c 0)).map (fun j => if isR c j = true then Value.ref (y + (k2R.getD (y + k - y) []).getD j 0) else Value.int ((k2F.getD (y + k - y) []).getD j 0)) = _
    rw [Nat.add_sub_cancel_left]
  have e4 : (S2 y).2.1 (y + k) = if k = 1 then w2 else fun _ => 0 := by
    funext i
    show (if y + k - y = 1 then w2 i else 0) = _
    rw [Nat.add_sub_cancel_left]
    split <;> rfl
  unfold pE pEt
  rw [e1, e2, e3, e4]
  simp only [if_neg hk]
  rfl
set_option maxRecDepth 100000 in
set_option maxHeartbeats 4000000 in
theorem wl1 {cy : Nat → ClassId} {z : Nat} : wX11 z (z + 1) cy = (List.range 137).map (fun k => (z + k, pEt cy z k k1K k1N k1R k1F (fun _ => 0) (qA z))) := by
  rfl
set_option maxRecDepth 100000 in
set_option maxHeartbeats 4000000 in
theorem wl2 {cy : Nat → ClassId} {y : Nat} : wX12 y (y + 1) cy = (List.range 13).map (fun k => (y + k, pEt cy y k k2K k2N k2R k2F (if k = 1 then w2 else fun _ => 0) (fun _ => none))) := by
  rfl
theorem at_q {D : va_G} {cy : Nat → ClassId} {z k : Nat} {H : Heap} (h : va_at D vwCl (z + k, pEt cy z k k1K k1N k1R k1F (fun _ => 0) (qA z)) H) (hk : k1K.getD k 99 = 16 → k1N.getD k 0 = 12) : va_at D vwCl (z + k, pEt cy z k k1K k1N k1R k1F (fun _ => 0) (fun i => some (z + k1Q.getD i 0))) H := by
  unfold pEt at h ⊢
  split at h
  · rename_i h1
    rw [if_pos h1]
    exact h
  · rename_i h1
    rw [if_neg h1]
    split at h
    · rename_i h2
      rw [if_pos h2]
      exact h
    · rename_i h2
      rw [if_neg h2]
      split at h
      · rename_i h3
        rw [if_pos h3]
        have e : H[z + k]? = some (arrV (cy 4) (k1N.getD k 0) (fun j => va_rf (qA z j))) := h
        show H[z + k]? = some (arrV (cy 4) (k1N.getD k 0) (fun j => va_rf (some (z + k1Q.getD j 0))))
        rw [e, hk h3]
        unfold arrV
        congr 3
        funext j
        show va_rf (qA z j.val) = va_rf (some (z + k1Q.getD j.val 0))
        rw [qA_ok j.val j.isLt]
      · rename_i h3
        rw [if_neg h3]
        exact h
/-- what stands when all is made: the two pools -/
theorem all_made {D : va_G} {cy : Nat → ClassId} {z y : Nat} {H : Heap} (h : va_P D vwCl ((wX11 z (z + 1) cy ++ wX12 y (y + 1) cy) ++ [(z + 150, .inl (cy 2, 1, .inr (.inl (fun _ => 0))))]) H) : va_P D vwCl (pool cy (G1 z) (S1 z) ++ pool cy (G2 y) (S2 y)) H := by
  rw [wl1, wl2, wP_iff] at h
  refine wP_iff.mpr (fun q hq => ?_)
  rcases List.mem_append.mp hq with hq | hq
  · obtain ⟨a, ha, rfl⟩ := List.mem_map.mp hq
    obtain ⟨k, hk, rfl⟩ := mem1.mp ha
    show va_at D vwCl (z + k, pE cy (G1 z) (S1 z) (z + k)) H
    rw [pEt1]
    rcases List.mem_append.mp hk with hr | hr
    · exact at_q (h _ (List.mem_append_left _ (List.mem_append_left _ (List.mem_map.mpr ⟨k, hr, rfl⟩)))) (ckN k hk)
    · rw [List.mem_singleton] at hr
      subst hr
      exact h _ (List.mem_append_right _ (List.mem_singleton.mpr rfl))
  · obtain ⟨a, ha, rfl⟩ := List.mem_map.mp hq
    obtain ⟨k, hk, rfl⟩ := mem2.mp ha
    show va_at D vwCl (y + k, pE cy (G2 y) (S2 y) (y + k)) H
    rw [pEt2 (ckM k (List.mem_range.mpr hk))]
    exact h _ (List.mem_append_left _ (List.mem_append_right _ (List.mem_map.mpr ⟨k, List.mem_range.mpr hk, rfl⟩)))
