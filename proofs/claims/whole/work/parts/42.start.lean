/-! what the Statement gives of the start -/
def fl1 : List Cond := flatC (Jvm.Cond.and given_1 narrow_1)
def offS : List Nat := [91, 99, 109, 117, 123, 131, 140, 150, 159, 167, 176, 184, 192, 201, 208, 242, 273, 282, 292, 301, 307, 314, 322, 330, 339, 348, 358, 367, 375, 382, 389, 395, 427, 443, 470, 504, 541, 557, 573, 600, 640, 654, 671, 706, 728, 744, 781, 790, 801, 811, 818, 828, 838, 849, 859, 868, 878, 887, 895, 904, 915, 925, 935, 946, 953, 961, 970, 979, 989, 998, 1006, 1014]
def ownS : List String := ["UnaskedName$StoryReader", "UnaskedName$StoryReader", "UnaskedName$StoryReader", "UnaskedName$StoryReader", "UnaskedName$StoryReader", "UnaskedName$StoryReader", "UnaskedName$StoryReader", "UnaskedName$StoryReader", "UnaskedName$StoryReader", "UnaskedName$StoryReader", "UnaskedName$StoryReader", "UnaskedName$StoryReader", "UnaskedName$StoryReader", "UnaskedName$StoryReader", "UnaskedName", "UnaskedName", "UnaskedName$LawReader", "UnaskedName$LawReader", "UnaskedName$LawReader", "UnaskedName$LawReader", "UnaskedName$LawReader", "UnaskedName$LawReader", "UnaskedName$LawReader", "UnaskedName$LawReader", "UnaskedName$LawReader", "UnaskedName$LawReader", "UnaskedName$LawReader", "UnaskedName$LawReader", "UnaskedName$LawReader", "UnaskedName$LawReader", "UnaskedName$LawReader", "UnaskedName", "UnaskedName", "UnaskedName", "UnaskedName", "UnaskedName", "UnaskedName", "UnaskedName", "UnaskedName", "UnaskedName", "UnaskedName", "UnaskedName", "UnaskedName", "UnaskedName", "UnaskedName", "UnaskedName", "UnaskedNameModel", "UnaskedNameModel", "UnaskedNameModel", "UnaskedNameModel", "UnaskedNameModel", "UnaskedNameModel", "UnaskedNameModel", "UnaskedNameModel", "UnaskedNameModel", "UnaskedNameModel", "UnaskedNameModel", "UnaskedNameModel", "UnaskedNameModel", "UnaskedNameModel", "UnaskedNameModel", "UnaskedNameModel", "UnaskedNameModel", "UnaskedNameModel", "UnaskedNameModel", "UnaskedNameModel", "UnaskedNameModel", "UnaskedNameModel", "UnaskedNameModel", "UnaskedNameModel", "UnaskedNameModel", "UnaskedNameModel"]
def idxS : List Nat := [28, 82, 37, 115, 49, 126, 54, 60, 62, 150, 154, 158, 162, 166, 99, 115, 96, 98, 100, 70, 102, 108, 110, 119, 121, 123, 125, 127, 129, 131, 137, 128, 405, 171, 407, 186, 409, 411, 210, 221, 235, 413, 257, 415, 354, 381, 157, 128, 163, 134, 168, 148, 173, 179, 181, 186, 191, 193, 198, 200, 249, 251, 253, 255, 231, 221, 223, 209, 211, 213, 242, 247]
def strF (own : String) (k : Nat) : Term := .field (.string own k) "java/lang/String" "value" "[B"
def strW (own : String) (k n : Nat) (bs : List Int32) : List Cond := .exactly (.string own k) "java/lang/String" :: .eq (.field (.string own k) "java/lang/String" "coder" "B") (.int 0) :: .arrayOf (strF own k) .byte :: .eq (.length (strF own k)) (.int (Int32.ofNat n)) :: (List.range n).map (fun j => .eq (.elem (strF own k) (.int (Int32.ofNat j))) (.int (bs.getD j 0)))
set_option maxRecDepth 100000 in
theorem st_ok : ∀ i ∈ List.range 72, (fl1.drop (offS.getD i 0)).take (4 + lenS.getD i 0) = strW (ownS.getD i "") (idxS.getD i 0) (lenS.getD i 0) (bytS.getD i []) := by decide +kernel
theorem st_in {i : Nat} (hi : i < 72) : ∀ w ∈ strW (ownS.getD i "") (idxS.getD i 0) (lenS.getD i 0) (bytS.getD i []), w ∈ fl1 := by
  intro w hw
  rw [← st_ok i (List.mem_range.mpr hi)] at hw
  exact List.mem_of_mem_drop (List.mem_of_mem_take hw)
theorem len_ok : ∀ i ∈ List.range 72, lenS.getD i 0 < 2 ^ 31 := by decide +kernel
theorem r_ok : ∀ q ∈ rTab, q.2.2.2 < 72 ∧ ownS.getD q.2.2.2 "" = q.1 ∧ idxS.getD q.2.2.2 0 = q.2.1 := by decide +kernel
theorem r_in : ∀ q ∈ rTab, Cond.stringRef q.1 q.2.1 q.2.2.1 ∈ lw_tbl := by decide +kernel
theorem n_in : ∀ q ∈ nTab, Cond.methodLinkNest q.1 q.2.1 q.2.2.1 q.2.2.2 ∈ lw_tbl := by decide +kernel
theorem c_in : ∀ q ∈ cTab, Cond.castable q.1 q.2 ∈ lw_tbl := by decide +kernel
theorem d_in : ∀ q ∈ dTab, Cond.declares q ∈ lw_tbl := by decide +kernel
theorem nc_in : ∀ q ∈ ncTab, Cond.not (.castable q.1 q.2) ∈ fl1 := by decide +kernel
theorem xe_start {args : Array Value} {s : State} (hts : ∀ w ∈ lw_tbl, w.before args s = true) (hgv : (Jvm.Cond.and given_1 narrow_1).before args s = true) : ∃ SK : Nat → Nat, XE SK SK (fun q : Nat => s.heap.size ≤ q) s s.heap := by
  have hfl : ∀ w ∈ fl1, w.before args s = true := flat_of_before _ hgv
  have hA : ∀ a : Nat, a < s.heap.size → ¬ (fun q : Nat => s.heap.size ≤ q) a := fun a h => Nat.not_le.mpr h
  have key : ∀ i : Nat, ∃ q : Nat × Nat, i < nStr → vk_S 1 [lenS.getD i 0] [bytS.getD i []] (fun _ => q.1) (fun _ => q.2) (fun q : Nat => s.heap.size ≤ q) s s.heap ∧ (Term.string (ownS.getD i "") (idxS.getD i 0)).eval args s none [] s = some (.ref q.1) := by
    intro i
    by_cases hi : i < nStr
    · have hw : ∀ w ∈ strW (ownS.getD i "") (idxS.getD i 0) (lenS.getD i 0) (bytS.getD i []), w.before args s = true := fun w h => hfl w (st_in hi w h)
      have z1 : ∀ j : Nat, j < 1 → j = 0 := fun j h => by omega
      obtain ⟨adK, adV, h1, h2⟩ := vk_Sof (args := args) (s := s) (N := 1) (tm := fun _ => .string (ownS.getD i "") (idxS.getD i 0)) (len := [lenS.getD i 0]) (byt := [bytS.getD i []]) (A := fun q : Nat => s.heap.size ≤ q)
        (fun j hj => by rw [z1 j hj]; exact len_ok i (List.mem_range.mpr hi)) (fun j _ => hw _ List.mem_cons_self) (fun j _ => hw _ (List.mem_cons_of_mem _ List.mem_cons_self)) (fun j _ => hw _ (List.mem_cons_of_mem _ (List.mem_cons_of_mem _ List.mem_cons_self)))
        (fun j hj => by rw [z1 j hj]; exact hw _ (List.mem_cons_of_mem _ (List.mem_cons_of_mem _ (List.mem_cons_of_mem _ List.mem_cons_self))))
        (fun j hj k hk => by
          rw [z1 j hj] at hk ⊢
          exact hw _ (List.mem_cons_of_mem _ (List.mem_cons_of_mem _ (List.mem_cons_of_mem _ (List.mem_cons_of_mem _ (List.mem_map.mpr ⟨k, List.mem_range.mpr hk, rfl⟩))))))
        (fun j k hj hk h => absurd (by rw [z1 j hj, z1 k hk]) h) hA
      exact ⟨(adK 0, adV 0), fun _ => ⟨⟨fun j hj => by rw [z1 j hj]; exact h1.1 0 (by decide), fun j k hj hk _ => by rw [z1 j hj, z1 k hk]⟩, h2 0 (by decide)⟩⟩
    · exact ⟨(0, 0), fun h => absurd h hi⟩
  obtain ⟨ad, had⟩ := Classical.axiomOfChoice key
  have e1 : ∀ i : Nat, i < nStr → (fun n : Nat => if n < 1000 then (ad n).1 else (ad (n - 1000)).2) i = (ad i).1 := fun i hi => if_pos (Nat.lt_trans hi (by decide))
  have e2 : ∀ i : Nat, (fun n : Nat => if n < 1000 then (ad n).1 else (ad (n - 1000)).2) (1000 + i) = (ad i).2 := fun i => by
    show (if 1000 + i < 1000 then (ad (1000 + i)).1 else (ad (1000 + i - 1000)).2) = _
    rw [if_neg (by omega), Nat.add_sub_cancel_left]
  refine ⟨fun n => if n < 1000 then (ad n).1 else (ad (n - 1000)).2, fun i hi => ?_, fun q hq => ?_, ?_, ?_, fun q hq => va_Nw.of rfl (hts _ (n_in q hq)), ?_, ?_, fun q hq => va_Nw.of rfl (hts _ (c_in q hq)), fun q hq => va_Nw.of rfl (hts _ (d_in q hq)), fun q hq => va_Nc.of (hfl _ (nc_in q hq))⟩
  · have h9 := (had i hi).1
    rw [e1 i hi, e2 i]
    exact h9
  · obtain ⟨r1, r2, r3⟩ := r_ok q hq
    have h9 := (had q.2.2.2 r1).2
    rw [r2, r3] at h9
    rw [e1 _ r1]
    exact vk_R.of (hts _ (r_in q hq)) h9
  · exact vx_Zqof (hts (.laysStatic Bundle.tN "UNASSIGNED_STACK" Bundle.steD) (by decide +kernel)) (hts (.initialized Bundle.tN) (by decide +kernel)) (hfl (.isRef (.static Bundle.tN "UNASSIGNED_STACK" Bundle.steD)) (by decide +kernel)) hA
  · exact vx_Zqof (hts (.laysStatic Bundle.tN "SUPPRESSED_SENTINEL" Bundle.listD) (by decide +kernel)) (hts (.initialized Bundle.tN) (by decide +kernel)) (hfl (.isRef (.static Bundle.tN "SUPPRESSED_SENTINEL" Bundle.listD)) (by decide +kernel)) hA
  · exact va_Zof (hts (.laysStatic "java/lang/String" "COMPACT_STRINGS" "Z") (by decide +kernel)) (hts (.initialized "java/lang/String") (by decide +kernel)) (va_eqt (hfl (.eq (.static "java/lang/String" "COMPACT_STRINGS" "Z") (.int 1)) (by decide +kernel))) hA
  · exact va_Zqof (hts (.laysStatic "jdk/internal/util/Preconditions" "SIOOBE_FORMATTER" "Ljava/util/function/BiFunction;") (by decide +kernel)) (hts (.initialized "jdk/internal/util/Preconditions") (by decide +kernel)) (hfl (.isRef (.static "jdk/internal/util/Preconditions" "SIOOBE_FORMATTER" "Ljava/util/function/BiFunction;")) (by decide +kernel)) hA
theorem arrK {args : Array Value} {s : State} {ty : FieldType} (h : (Cond.arrayClass ty).before args s = true) : ∃ cA : ClassId, ArrOfT s cA ty ∧ s.vm.findClass ("[" ++ ty.toString) = some cA := by
  obtain ⟨cA, kA, comp, h1, h2, h3⟩ := Cond.arrayClass_spec h
  exact ⟨cA, fun n z => ⟨fun k h => (by cases h), kA, h2, comp, h3⟩, h1⟩
theorem k_start {args : Array Value} {s : State} (hts : ∀ w ∈ Gw, w.before args s = true) (hao : va_AO "UnaskedName$Mind" s) : ∃ (D : va_G) (cy : Nat → ClassId), va_K D vwCl (tyC cy) s := by
  obtain ⟨c0, i0, h0⟩ := u_known (C := RX0) (T := TX0) (N := 8) (n := 8) hts inX0 (hts _ mw_179)
  obtain ⟨c1, i1, h1⟩ := u_known (C := RX1) (T := TX1) (N := 8) (n := 8) hts inX1 (hts _ mw_383)
  obtain ⟨c2, i2, h2⟩ := u_known (C := RX2) (T := TX2) (N := 3) (n := 3) hts inX2 (hts _ mw_218)
  obtain ⟨c3, i3, h3⟩ := u_known (C := RX3) (T := TX3) (N := 9) (n := 9) hts inX3 (hts _ mw_212)
  obtain ⟨c4, i4, h4⟩ := u_known (C := RX4) (T := TX4) (N := 3) (n := 3) hts inX4 (hts _ mw_315)
  obtain ⟨c5, i5, h5⟩ := u_known (C := RX5) (T := TX5) (N := 4) (n := 4) hts inX5 (hts _ mw_361)
  obtain ⟨c6, i6, h6⟩ := u_known (C := RX6) (T := TX6) (N := 5) (n := 5) hts inX6 (hts _ mw_337)
  obtain ⟨c7, i7, h7⟩ := u_known (C := RX8) (T := TX8) (N := 18) (n := 18) hts inX8 (hts _ mw_74)
  obtain ⟨c8, i8, h8⟩ := u_known (C := RX9) (T := TX9) (N := 6) (n := 6) hts inX9 (hts _ mw_38)
  obtain ⟨c9, i9, h9⟩ := u_known (C := RX10) (T := TX10) (N := 3) (n := 3) hts inX10 (hts _ mw_68)
  obtain ⟨c10, i10, h10⟩ := u_known (C := RX11) (T := TX11) (N := 11) (n := 11) hts inX11 (hts _ mw_30)
  obtain ⟨c11, i11, h11⟩ := u_known (C := RX12) (T := TX12) (N := 29) (n := 29) hts inX12 (hts _ mw_1487)
  have hD : ∀ k : Nat, ∃ d : ClassId × (Nat → Nat), ∀ q : vw_C, vwCl[k]? = some q → u_Kn s q.1 q.2.1 q.2.2 d.1 d.2 := by
    intro k
    match k with
    | 0 => exact ⟨(c0, i0), fun q hq => by cases hq; exact h0⟩
    | 1 => exact ⟨(c1, i1), fun q hq => by cases hq; exact h1⟩
    | 2 => exact ⟨(c2, i2), fun q hq => by cases hq; exact h2⟩
    | 3 => exact ⟨(c3, i3), fun q hq => by cases hq; exact h3⟩
    | 4 => exact ⟨(c4, i4), fun q hq => by cases hq; exact h4⟩
    | 5 => exact ⟨(c5, i5), fun q hq => by cases hq; exact h5⟩
    | 6 => exact ⟨(c6, i6), fun q hq => by cases hq; exact h6⟩
    | 7 => exact ⟨(c7, i7), fun q hq => by cases hq; exact h7⟩
    | 8 => exact ⟨(c8, i8), fun q hq => by cases hq; exact h8⟩
    | 9 => exact ⟨(c9, i9), fun q hq => by cases hq; exact h9⟩
    | 10 => exact ⟨(c10, i10), fun q hq => by cases hq; exact h10⟩
    | 11 => exact ⟨(c11, i11), fun q hq => by cases hq; exact h11⟩
    | k + 12 => exact ⟨(0, fun _ => 0), fun q hq => by simp [vwCl] at hq⟩
  obtain ⟨d, hd⟩ := Classical.axiomOfChoice hD
  obtain ⟨a0, b0⟩ := arrK (hts _ mw_66)
  obtain ⟨a1, b1⟩ := arrK (hts _ mw_177)
  obtain ⟨a2, b2⟩ := arrK (hts _ mw_381)
  obtain ⟨a3, b3⟩ := arrK (hts _ mw_1580)
  obtain ⟨comp, a4, kA, g1, g2, g3, g4, g5⟩ := Cond.arrayOver_spec hao
  refine ⟨(fun k => (d k).1, fun k => (d k).2), fun k => match k with | 0 => a0 | 1 => a1 | 2 => a2 | 3 => a3 | _ => a4, hd, fun k q hq => ?_⟩
  match k, hq with
  | 0, hq => cases hq; exact b0
  | 1, hq => cases hq; exact b1
  | 2, hq => cases hq; exact b2
  | 3, hq => cases hq; exact b3
  | 4, hq => cases hq; exact ⟨fun n z => ⟨fun k h => (by cases h), kA, g3, comp, g4⟩, kA, comp, g3, g4, g1, g5⟩
  | k + 5, hq => simp [tyC] at hq
section ProRows
variable {Y : MI} {B : Nat × Nat × Nat} {Z : ZZ} {SK : Nat → Nat} {u : Nat × Nat} {pc pc' : Nat} {lv lv' : List (Option Value)} {st : List Value} {w : wF} {nm : Bool} {sz : Nat}
theorem w_iconst {n : Int} {v : Int32} (hd : Dc Y pc (.iconst n) 1 pc') (hv : Int32.ofInt n = v) (k : EvW Y B nm Z SK u pc' lv (.int v :: st) w sz) : EvW Y B nm Z SK u pc lv st w sz := by
  obtain ⟨hd, rfl⟩ := hd
  intro p l e R s m args below meth c H locs A ls D cy SV C hin hz hP hD hS hl
  exact lv_iconst C.1 C.2.1 hd hv (k p l e R s m args below meth c H locs A ls D cy SV C hin hz hP hD hS hl)
theorem w_istore {i : Nat} {x : Int32} (hd : Dc Y pc (.istore i) 2 pc') (hn : noL lv i = true) (hi : i < Y.2.2.1) (hs : lv.set i (some (.int x)) = lv') (k : EvW Y B nm Z SK u pc' lv' st w sz) : EvW Y B nm Z SK u pc lv (.int x :: st) w sz := by
  obtain ⟨hd, rfl⟩ := hd
  intro p l e R s m args below meth c H locs A ls D cy SV C hin hz hP hD hS hl
  exact lv_istore C.1 C.2.1 hd hl.has hi rfl (fun ls hl => k p l e R s m args below meth c H locs A ls D cy SV C hin hz hP hD hS (lvOk.st1 hl hn hs))
theorem w_astore_n {i : Fin 4} {x : Nat} (hd : Dc Y pc (.astore_n i) 1 pc') (hn : noL lv (i : Nat) = true) (hi : (i : Nat) < Y.2.2.1) (hs : lv.set (i : Nat) (some (.ref x)) = lv') (k : EvW Y B nm Z SK u pc' lv' st w sz) : EvW Y B nm Z SK u pc lv (.ref x :: st) w sz := by
  obtain ⟨hd, rfl⟩ := hd
  intro p l e R s m args below meth c H locs A ls D cy SV C hin hz hP hD hS hl
  exact lv_astore_n C.1 C.2.1 hd rfl hl.has hi rfl (fun ls hl => k p l e R s m args below meth c H locs A ls D cy SV C hin hz hP hD hS (lvOk.st1 hl hn hs))
end ProRows
def ZL (bs L : Nat) (xs : Nat → Int32) : ZZ := fun below args s A _ _ t => LX bs L xs A args s → lw_Z below args s t
set_option maxRecDepth 100000 in
set_option maxHeartbeats 4000000 in
/-- from the law's entry to its loop, and on -/
theorem pro {bs L N : Nat} {xs : Nat → Int32} {Inv : Nat → pS → pS → Prop} (hL : L ≤ 3072) (hg : ∀ z : Nat, GoodAll N (G1 z) (G2 (z + 137)) z (z + 137) (z + 150) (Inv z)) (hI : ∀ z : Nat, Inv z (S1 z) (S2 (z + 137))) (SK : Nat → Nat) (z : Nat) :
    EvW miL_law_ (1024, 601024, 7293034) false (ZL bs L xs) SK (0, 0) 0 [some (.ref bs), none, none, none, none, none, none] [] (fun _ => []) z := by
  refine w_new (host := "") dc_L_law__0 dc_L_law__3 dc_L_law__4 kX11 ci_X11_init mw_29 (Or.inr mw_31) (Nat.le_of_ble_eq_true rfl) (Nat.le_of_ble_eq_true rfl) ⟨Nat.le_of_ble_eq_true rfl, Nat.le_of_ble_eq_true rfl⟩ ?_
  refine w_astore_n (lv' := [some (.ref bs), some (.ref z), none, none, none, none, none]) dc_L_law__7 rfl (by decide) rfl ?_
  refine w_new (host := "") dc_L_law__8 dc_L_law__11 dc_L_law__12 kX12 ci_X12_init mw_1486 (Or.inr mw_1488) (Nat.le_of_ble_eq_true rfl) (Nat.le_of_ble_eq_true rfl) ⟨Nat.le_of_ble_eq_true rfl, Nat.le_of_ble_eq_true rfl⟩ ?_
  refine w_astore_n (lv' := [some (.ref bs), some (.ref z), some (.ref (z + 137)), none, none, none, none]) dc_L_law__15 rfl (by decide) rfl ?_
  refine w_iconst (v := 1) dc_L_law__16 (by decide) ?_
  refine w_newl (N := 1) dc_L_law__17 mw_381 (by decide) (by decide) (by decide) ⟨Nat.le_of_ble_eq_true rfl, Nat.le_of_ble_eq_true rfl⟩ ?_
  refine w_astore_n (lv' := [some (.ref bs), some (.ref z), some (.ref (z + 137)), some (.ref (z + 150)), none, none, none]) dc_L_law__19 rfl (by decide) rfl ?_
  refine w_iconst (v := 0) dc_L_law__20 (by decide) ?_
  refine w_istore (lv' := [some (.ref bs), some (.ref z), some (.ref (z + 137)), some (.ref (z + 150)), some (.int 0), none, none]) dc_L_law__21 rfl (by decide) rfl ?_
  intro p l e R s m args below meth c H locs A ls D cy SV C hin hz hP hD hS hl
  by_cases hX : LX bs L xs A args s
  · have hP : va_P D vwCl ((wX11 z (z + 1) cy ++ wX12 (z + 137) (z + 137 + 1) cy) ++ [(z + 150, .inl (cy 2, 1, .inr (.inl (fun _ => 0))))]) H := hP
    have hD : va_D A ((wX11 z (z + 1) cy ++ wX12 (z + 137) (z + 137 + 1) cy) ++ [(z + 150, .inl (cy 2, 1, .inr (.inl (fun _ => 0))))]) := hD
    have hP2 := all_made hP
    have hD2 : va_D A (pool cy (G1 z) (S1 z) ++ pool cy (G2 (z + 137)) (S2 (z + 137))) := by
      rw [two_D]
      refine ⟨nd12 z, fun a ha => ?_⟩
      rw [wD_iff, wl1, wl2] at hD
      refine hD.2 a ?_
      rw [List.map_append, List.map_append, List.map_map, List.map_map]
      rcases List.mem_append.mp ha with h | h
      · obtain ⟨k, hk, rfl⟩ := mem1.mp h
        rcases List.mem_append.mp hk with hr | hr
        · exact List.mem_append_left _ (List.mem_append_left _ (List.mem_map.mpr ⟨k, hr, rfl⟩))
        · rw [List.mem_singleton] at hr
          subst hr
          exact List.mem_append_right _ (List.mem_singleton.mpr rfl)
      · obtain ⟨k, hk, rfl⟩ := mem2.mp h
        exact List.mem_append_left _ (List.mem_append_right _ (List.mem_map.mpr ⟨k, List.mem_range.mpr hk, rfl⟩))
    have h9 := law_loop (bs := bs) (L := L) (xs := xs) (SK := SK) hL (wt1 z) (wt2 (z + 137)) (xa := z) (ma := z + 137) (oa := z + 150) ((is1 (k := 0)).mpr ⟨by decide, rfl⟩) ((is2 (k := 0)).mpr ⟨by decide, rfl⟩) ((is1 (k := 150)).mpr ⟨by decide, rfl⟩) (by show inB 0 (k1N.getD (z + 150 - z) 0) = true; rw [Nat.add_sub_cancel_left]; rfl) (hg z) 600 0 (by decide) (by omega) (S1 z) (S2 (z + 137)) (hI z) p l e R s m args below meth c H locs A ls D cy SV C hX hP2 hD2 hS hl
    refine W.widen (k := 1000) (n := 100000) (Nat.le_of_ble_eq_true rfl) (Nat.le_of_ble_eq_true rfl) ?_
    intro T hT X
    obtain ⟨t, a1, b1⟩ := h9 T hT X
    exact ⟨t, a1, fun _ => b1⟩
  · exact fun T hT X => ⟨_, Steps.refl _, fun h => absurd h hX⟩
theorem gw_tbl : ∀ w ∈ Gw, w ∈ lw_tbl := fun _ h => (List.mem_filter.mp h).1
def lw_At (p : Program) (l : Launch) (s : State) (m : MethodId) (meth : Method) (c : Code) (b L : Nat) (xs : Nat → Int32) : Prop :=
  p.tables.exec = Jvm.exec ∧ c.code = code ∧ meth.sig.returnType = ret ∧ c.maxLocals = 7 ∧ s.vm.findClass R_law = some m.cls ∧ (∀ w ∈ lw_tbl, w.before #[Value.ref b] s = true) ∧ va_X b L xs s s.heap ∧ b < s.heap.size ∧ (meth.locks = false ∧ l.stackTraces = false ∧ c.exceptionTable.toList = []) ∧ (Jvm.Cond.and given_1 narrow_1).before #[Value.ref b] s = true
theorem whole_of {N : Nat} {Inv : Nat → pS → pS → Prop} (hg : ∀ z : Nat, GoodAll N (G1 z) (G2 (z + 137)) z (z + 137) (z + 150) (Inv z)) (hI : ∀ z : Nat, Inv z (S1 z) (S2 (z + 137)))
    {p : Program} {e : Env} {s : State} {m : MethodId} {below : List Frame} {meth : Method} {c : Code} (l : Launch) {b L : Nat} {xs : Nat → Int32} (hL : L ≤ 3072) (C0 : lw_At p l s m meth c b L xs) : W p l e room_1 s m #[Value.ref b] below meth c s.heap [] 0 0 (lw_Z below #[Value.ref b] s) (entryFrame m ([Value.ref b] : List Value).toArray 7) := by
  obtain ⟨hx, hb, hr, hml, hown, hts, hX, hbl, hlk, hgv⟩ := C0
  obtain ⟨SK, hE⟩ := xe_start hts hgv
  have hao : va_AO "UnaskedName$Mind" s := va_AO.of (hts (.arrayOver (.object "UnaskedName$Mind")) (by decide +kernel))
  obtain ⟨D, cy, hK⟩ := k_start (fun w h => hts w (gw_tbl w h)) hao
  have hl := lv_entry [Value.ref b] (n := 7) (Nat.le_of_ble_eq_true rfl)
  rw [lg_entry_eq]
  generalize (lg_sl [Value.ref b] ++ List.replicate (7 - (lg_sl [Value.ref b]).length) Slot.unset).toArray = ls at hl ⊢
  have hl' : lvOk ls 7 [some (.ref b), none, none, none, none, none, none] := ⟨hl.1, hl.2.1, fun i v h => hl.2.2 (i, v) (by
    have h9 := lvA_mem (q := (i, v)) |>.mpr h
    exact h9)⟩
  have h9 := pro (bs := b) (L := L) (N := N) (xs := xs) (Inv := Inv) hL hg hI SK s.heap.size p l e room_1 s m #[Value.ref b] below meth c s.heap [] (fun q : Nat => s.heap.size ≤ q) ls D cy SK ⟨hx, hb, hr, hml, hown, fun w h => hts w (gw_tbl w h), hlk, hK, ⟨by decide, by decide, by decide, by decide⟩, fun q h => h, hE⟩ ⟨fun h => (by cases h), hao⟩ rfl (fun k q h => by simp at h) ⟨fun i j x y h => (by simp at h), fun k q h => (by simp at h)⟩ va_S.rf hl'
  intro T hT X
  obtain ⟨t, a1, b1⟩ := h9 T hT X
  exact ⟨t, a1, b1 ⟨rfl, hX, hbl, Nat.not_le.mpr hbl, fun q h => h⟩⟩
