theorem dc_X11_keep_0 : Dc miX11_keep 0 (.aload_n 0) 1 1 := ⟨by decide +kernel, rfl⟩
theorem dc_X11_keep_1 : Dc miX11_keep 1 (.iload_n 1) 1 2 := ⟨by decide +kernel, rfl⟩
theorem dc_X11_keep_2 : Dc miX11_keep 2 (.invokevirtual 174) 3 5 := ⟨by decide +kernel, rfl⟩
theorem dc_X11_keep_5 : Dc miX11_keep 5 (.aload_n 0) 1 6 := ⟨by decide +kernel, rfl⟩
theorem dc_X11_keep_6 : Dc miX11_keep 6 (.getfield 32) 3 9 := ⟨by decide +kernel, rfl⟩
theorem dc_X11_keep_9 : Dc miX11_keep 9 (.aload_n 0) 1 10 := ⟨by decide +kernel, rfl⟩
theorem dc_X11_keep_10 : Dc miX11_keep 10 (.getfield 19) 3 13 := ⟨by decide +kernel, rfl⟩
theorem dc_X11_keep_13 : Dc miX11_keep 13 (.getfield 155) 3 16 := ⟨by decide +kernel, rfl⟩
theorem dc_X11_keep_16 : Dc miX11_keep 16 (.invokevirtual 224) 3 19 := ⟨by decide +kernel, rfl⟩
theorem dc_X11_keep_19 : Dc miX11_keep 19 (.aload_n 0) 1 20 := ⟨by decide +kernel, rfl⟩
theorem dc_X11_keep_20 : Dc miX11_keep 20 (.getfield 19) 3 23 := ⟨by decide +kernel, rfl⟩
theorem dc_X11_keep_23 : Dc miX11_keep 23 (.getfield 155) 3 26 := ⟨by decide +kernel, rfl⟩
theorem dc_X11_keep_26 : Dc miX11_keep 26 (.getfield 183) 3 29 := ⟨by decide +kernel, rfl⟩
theorem dc_X11_keep_29 : Dc miX11_keep 29 (.istore_n 3) 1 30 := ⟨by decide +kernel, rfl⟩
theorem dc_X11_keep_30 : Dc miX11_keep 30 (.aload_n 0) 1 31 := ⟨by decide +kernel, rfl⟩
theorem dc_X11_keep_31 : Dc miX11_keep 31 (.getfield 19) 3 34 := ⟨by decide +kernel, rfl⟩
theorem dc_X11_keep_34 : Dc miX11_keep 34 (.getfield 155) 3 37 := ⟨by decide +kernel, rfl⟩
theorem dc_X11_keep_37 : Dc miX11_keep 37 (.iload_n 2) 1 38 := ⟨by decide +kernel, rfl⟩
theorem dc_X11_keep_38 : Dc miX11_keep 38 (.ifCond .eq 11) 3 41 := ⟨by decide +kernel, rfl⟩
theorem dc_X11_keep_41 : Dc miX11_keep 41 (.iload_n 3) 1 42 := ⟨by decide +kernel, rfl⟩
theorem dc_X11_keep_42 : Dc miX11_keep 42 (.iconst 1) 1 43 := ⟨by decide +kernel, rfl⟩
theorem dc_X11_keep_43 : Dc miX11_keep 43 (.iload_n 1) 1 44 := ⟨by decide +kernel, rfl⟩
theorem dc_X11_keep_44 : Dc miX11_keep 44 (.ishl) 1 45 := ⟨by decide +kernel, rfl⟩
theorem dc_X11_keep_45 : Dc miX11_keep 45 (.ior) 1 46 := ⟨by decide +kernel, rfl⟩
theorem dc_X11_keep_46 : Dc miX11_keep 46 (.goto 10) 3 49 := ⟨by decide +kernel, rfl⟩
theorem dc_X11_keep_49 : Dc miX11_keep 49 (.iload_n 3) 1 50 := ⟨by decide +kernel, rfl⟩
theorem dc_X11_keep_50 : Dc miX11_keep 50 (.iconst 1) 1 51 := ⟨by decide +kernel, rfl⟩
theorem dc_X11_keep_51 : Dc miX11_keep 51 (.iload_n 1) 1 52 := ⟨by decide +kernel, rfl⟩
theorem dc_X11_keep_52 : Dc miX11_keep 52 (.ishl) 1 53 := ⟨by decide +kernel, rfl⟩
theorem dc_X11_keep_53 : Dc miX11_keep 53 (.iconst (-1)) 1 54 := ⟨by decide +kernel, rfl⟩
theorem dc_X11_keep_54 : Dc miX11_keep 54 (.ixor) 1 55 := ⟨by decide +kernel, rfl⟩
theorem dc_X11_keep_55 : Dc miX11_keep 55 (.iand) 1 56 := ⟨by decide +kernel, rfl⟩
theorem dc_X11_keep_56 : Dc miX11_keep 56 (.putfield 183) 3 59 := ⟨by decide +kernel, rfl⟩
theorem dc_X11_keep_59 : Dc miX11_keep 59 (.aload_n 0) 1 60 := ⟨by decide +kernel, rfl⟩
theorem dc_X11_keep_60 : Dc miX11_keep 60 (.getfield 19) 3 63 := ⟨by decide +kernel, rfl⟩
theorem dc_X11_keep_63 : Dc miX11_keep 63 (.getfield 155) 3 66 := ⟨by decide +kernel, rfl⟩
theorem dc_X11_keep_66 : Dc miX11_keep 66 (.getfield 183) 3 69 := ⟨by decide +kernel, rfl⟩
theorem dc_X11_keep_69 : Dc miX11_keep 69 (.iload_n 3) 1 70 := ⟨by decide +kernel, rfl⟩
theorem dc_X11_keep_70 : Dc miX11_keep 70 (.if_icmp .eq 7) 3 73 := ⟨by decide +kernel, rfl⟩
theorem dc_X11_keep_73 : Dc miX11_keep 73 (.iconst 1) 1 74 := ⟨by decide +kernel, rfl⟩
theorem dc_X11_keep_74 : Dc miX11_keep 74 (.goto 4) 3 77 := ⟨by decide +kernel, rfl⟩
theorem dc_X11_keep_77 : Dc miX11_keep 77 (.iconst 0) 1 78 := ⟨by decide +kernel, rfl⟩
theorem dc_X11_keep_78 : Dc miX11_keep 78 (.ireturn) 1 79 := ⟨by decide +kernel, rfl⟩
def fX11_keep_b56 (N : Nat) (G : pG) (a0 : Nat) (x3 : Int32) (y0 : Nat) (y1 : Int32) (σ : pS) : Option ((Int32 × pS) ⊕ (String × pS)) := if ((putF σ y0 4 y1).1 (pR G (pR G a0 1) 2) 4) = x3 then (ck (isZ (0 : Int32)) (some (.inl ((0 : Int32), putF σ y0 4 y1)))) else (ck (isZ (1 : Int32)) (some (.inl ((1 : Int32), putF σ y0 4 y1))))
set_option maxRecDepth 100000 in
set_option maxHeartbeats 4000000 in
theorem tX11_keep_b56 {N : Nat} {G : pG} {SK : Nat → Nat} {a0 : Nat} {x3 : Int32} {y0 : Nat} {y1 : Int32} {σ : pS} {r : (Int32 × pS) ⊕ (String × pS)} (hW : WT G) (i0 : Is G a0 10) (w0 : Is G y0 3) (h : fX11_keep_b56 N G a0 x3 y0 y1 σ = some r) : Ev miX11_keep (8, 1, 6) G (Zx G (xoI r) 1 6) SK (1, 6) 56 [some (.ref a0), none, none, some (.int x3)] [.int y1, .ref y0] σ := by
  unfold fX11_keep_b56 at h
  refine ev_putI dc_X11_keep_56 fi_X11_183 rfl w0 ?_
  refine ev_aload_n dc_X11_keep_59 rfl ?_
  refine ev_getR dc_X11_keep_60 fi_X11_19 rfl i0 ?_
  refine ev_getR dc_X11_keep_63 fi_X11_155 rfl (wt hW i0 1 rfl rfl) ?_
  refine ev_getI dc_X11_keep_66 fi_X11_183 rfl (wt hW (wt hW i0 1 rfl rfl) 2 rfl rfl) ?_
  refine ev_iload_n dc_X11_keep_69 rfl ?_
  refine ev_icmp_eq (tgt := 77) dc_X11_keep_70 (by decide) h (fun h => ?_) (fun h => ?_)
  · refine ev_iconst (v := 0) dc_X11_keep_77 (by decide) ?_
    have h2 := (ck_s h).2
    cases h2
    exact ev_zretX dc_X11_keep_78 rfl h ⟨Nat.le_of_ble_eq_true rfl, Nat.le_of_ble_eq_true rfl⟩ rfl rfl
  · refine ev_iconst (v := 1) dc_X11_keep_73 (by decide) ?_
    refine ev_goto (tgt := 78) dc_X11_keep_74 (by decide) ?_
    have h2 := (ck_s h).2
    cases h2
    exact ev_zretX dc_X11_keep_78 rfl h ⟨Nat.le_of_ble_eq_true rfl, Nat.le_of_ble_eq_true rfl⟩ rfl rfl
def fX11_keep (N : Nat) (G : pG) (a0 : Nat) (a1 : Int32) (a2 : Int32) (σ : pS) : Option ((Int32 × pS) ⊕ (String × pS)) := (fX11_needWho N G a0 a1 σ).bind (fun q1 => q1.elim (fun zs2 => (fX4_remember N G (pR G a0 4) (pR G (pR G a0 1) 2) zs2).bind (fun q3 => if a2 = 0 then (fX11_keep_b56 N G a0 (q3.1 (pR G (pR G a0 1) 2) 4) (pR G (pR G a0 1) 2) ((q3.1 (pR G (pR G a0 1) 2) 4) &&& (((1 : Int32) <<< (a1 &&& 31)) ^^^ (-1 : Int32))) q3) else (fX11_keep_b56 N G a0 (q3.1 (pR G (pR G a0 1) 2) 4) (pR G (pR G a0 1) 2) ((q3.1 (pR G (pR G a0 1) 2) 4) ||| ((1 : Int32) <<< (a1 &&& 31))) q3))) (fun e => some (.inr e)))
set_option maxRecDepth 100000 in
set_option maxHeartbeats 4000000 in
theorem tX11_keep {N : Nat} {G : pG} {SK : Nat → Nat} {a0 : Nat} {a1 : Int32} {a2 : Int32} {σ : pS} {r : (Int32 × pS) ⊕ (String × pS)} (hW : WT G) (i0 : Is G a0 10) (h : fX11_keep N G a0 a1 a2 σ = some r) : Dx miX11_keep yX11_keep 8 1 6 G SK [.ref a0, .int a1, .int a2] σ (xoI r) := by
  unfold fX11_keep at h
  refine dx_of (lv := [some (.ref a0), some (.int a1), some (.int a2), none]) (by decide) rfl rfl (Nat.le_of_ble_eq_true rfl) rfl ?_
  refine ev_aload_n dc_X11_keep_0 rfl ?_
  refine ev_iload_n dc_X11_keep_1 rfl ?_
  obtain ⟨q1, hq1, h⟩ := Option.bind_eq_some_iff.mp h
  refine ev_callX (mc := 1) (ms := 6) (av := [.int a1]) (st := []) rfl dc_X11_keep_2 (tX11_needWho hW i0 hq1) mw_1090 cy_X11_needWho i0 (by decide) rfl rfl rfl (Nat.le_of_ble_eq_true rfl) (Nat.le_of_ble_eq_true rfl) ⟨Nat.le_of_ble_eq_true rfl, Nat.le_of_ble_eq_true rfl⟩ ?_ ?_
  · intro e he
    rcases q1 with zs2 | zs2
    · have he : (Sum.inl (none, zs2) : XO) = .inr e := he
      cases he
    · have he : (Sum.inr zs2 : XO) = .inr e := he
      cases he
      dsimp only [Sum.elim] at h
      cases h
      exact ⟨rfl, Nat.le_of_ble_eq_true rfl, Nat.le_of_ble_eq_true rfl⟩
  intro e he
  rcases q1 with zs2 | zs2
  rotate_left
  · have he : (Sum.inr zs2 : XO) = .inl e := he
    cases he
  have he : (Sum.inl (none, zs2) : XO) = .inl e := he
  cases he
  dsimp only [Sum.elim] at h
  show Ev miX11_keep (8, 1, 6) G (Zx G (xoI r) 1 6) SK (1, 6) 5 [some (.ref a0), some (.int a1), some (.int a2), none] [] zs2
  refine ev_aload_n dc_X11_keep_5 rfl ?_
  refine ev_getR dc_X11_keep_6 fi_X11_32 rfl i0 ?_
  refine ev_aload_n dc_X11_keep_9 rfl ?_
  refine ev_getR dc_X11_keep_10 fi_X11_19 rfl i0 ?_
  refine ev_getR dc_X11_keep_13 fi_X11_155 rfl (wt hW i0 1 rfl rfl) ?_
  obtain ⟨q3, hq3, h⟩ := Option.bind_eq_some_iff.mp h
  refine ev_callV (av := [.ref (pR G (pR G a0 1) 2)]) (st := []) (st1 := []) dc_X11_keep_16 (tX4_remember hW (wt hW i0 4 rfl rfl) (wt hW (wt hW i0 1 rfl rfl) 2 rfl rfl) hq3) mw_1156 cy_X4_remember (wt hW i0 4 rfl rfl) (by decide) rfl rfl rfl rfl (Nat.le_of_ble_eq_true rfl) (Nat.le_of_ble_eq_true rfl) ⟨Nat.le_of_ble_eq_true rfl, Nat.le_of_ble_eq_true rfl⟩ ?_
  refine ev_aload_n dc_X11_keep_19 rfl ?_
  refine ev_getR dc_X11_keep_20 fi_X11_19 rfl i0 ?_
  refine ev_getR dc_X11_keep_23 fi_X11_155 rfl (wt hW i0 1 rfl rfl) ?_
  refine ev_getI dc_X11_keep_26 fi_X11_183 rfl (wt hW (wt hW i0 1 rfl rfl) 2 rfl rfl) ?_
  refine ev_istore_n (lv' := [some (.ref a0), some (.int a1), some (.int a2), some (.int (q3.1 (pR G (pR G a0 1) 2) 4))]) dc_X11_keep_29 rfl (by decide) rfl ?_
  refine ev_aload_n dc_X11_keep_30 rfl ?_
  refine ev_getR dc_X11_keep_31 fi_X11_19 rfl i0 ?_
  refine ev_getR dc_X11_keep_34 fi_X11_155 rfl (wt hW i0 1 rfl rfl) ?_
  refine ev_iload_n dc_X11_keep_37 rfl ?_
  refine ev_if_eq (tgt := 49) dc_X11_keep_38 (by decide) h (fun h => ?_) (fun h => ?_)
  · refine ev_iload_n dc_X11_keep_49 rfl ?_
    refine ev_iconst (v := 1) dc_X11_keep_50 (by decide) ?_
    refine ev_iload_n dc_X11_keep_51 rfl ?_
    refine ev_ishl dc_X11_keep_52 ?_
    refine ev_iconst (v := (-1)) dc_X11_keep_53 (by decide) ?_
    refine ev_ixor dc_X11_keep_54 ?_
    refine ev_iand dc_X11_keep_55 ?_
    exact ev_sub (tX11_keep_b56 hW i0 (wt hW (wt hW i0 1 rfl rfl) 2 rfl rfl) h) (And.intro rfl (And.intro rfl trivial))
  · refine ev_iload_n dc_X11_keep_41 rfl ?_
    refine ev_iconst (v := 1) dc_X11_keep_42 (by decide) ?_
    refine ev_iload_n dc_X11_keep_43 rfl ?_
    refine ev_ishl dc_X11_keep_44 ?_
    refine ev_ior dc_X11_keep_45 ?_
    refine ev_goto (tgt := 56) dc_X11_keep_46 (by decide) ?_
    exact ev_sub (tX11_keep_b56 hW i0 (wt hW (wt hW i0 1 rfl rfl) 2 rfl rfl) h) (And.intro rfl (And.intro rfl trivial))
theorem dc_X11_keeps_0 : Dc miX11_keeps 0 (.aload_n 0) 1 1 := ⟨by decide +kernel, rfl⟩
theorem dc_X11_keeps_1 : Dc miX11_keeps 1 (.iload_n 1) 1 2 := ⟨by decide +kernel, rfl⟩
theorem dc_X11_keeps_2 : Dc miX11_keeps 2 (.ifCond .lt 23) 3 5 := ⟨by decide +kernel, rfl⟩
theorem dc_X11_keeps_5 : Dc miX11_keeps 5 (.iload_n 1) 1 6 := ⟨by decide +kernel, rfl⟩
theorem dc_X11_keeps_6 : Dc miX11_keeps 6 (.bipush 99) 2 8 := ⟨by decide +kernel, rfl⟩
theorem dc_X11_keeps_8 : Dc miX11_keeps 8 (.if_icmp .gt 17) 3 11 := ⟨by decide +kernel, rfl⟩
theorem dc_X11_keeps_11 : Dc miX11_keeps 11 (.iload_n 2) 1 12 := ⟨by decide +kernel, rfl⟩
theorem dc_X11_keeps_12 : Dc miX11_keeps 12 (.ifCond .lt 13) 3 15 := ⟨by decide +kernel, rfl⟩
theorem dc_X11_keeps_15 : Dc miX11_keeps 15 (.iload_n 2) 1 16 := ⟨by decide +kernel, rfl⟩
theorem dc_X11_keeps_16 : Dc miX11_keeps 16 (.bipush 12) 2 18 := ⟨by decide +kernel, rfl⟩
theorem dc_X11_keeps_18 : Dc miX11_keeps 18 (.if_icmp .ge 7) 3 21 := ⟨by decide +kernel, rfl⟩
theorem dc_X11_keeps_21 : Dc miX11_keeps 21 (.iconst 1) 1 22 := ⟨by decide +kernel, rfl⟩
theorem dc_X11_keeps_22 : Dc miX11_keeps 22 (.goto 4) 3 25 := ⟨by decide +kernel, rfl⟩
theorem dc_X11_keeps_25 : Dc miX11_keeps 25 (.iconst 0) 1 26 := ⟨by decide +kernel, rfl⟩
theorem dc_X11_keeps_26 : Dc miX11_keeps 26 (.invokevirtual 268) 3 29 := ⟨by decide +kernel, rfl⟩
theorem dc_X11_keeps_29 : Dc miX11_keeps 29 (.aload_n 0) 1 30 := ⟨by decide +kernel, rfl⟩
theorem dc_X11_keeps_30 : Dc miX11_keeps 30 (.getfield 46) 3 33 := ⟨by decide +kernel, rfl⟩
theorem dc_X11_keeps_33 : Dc miX11_keeps 33 (.aload_n 0) 1 34 := ⟨by decide +kernel, rfl⟩
theorem dc_X11_keeps_34 : Dc miX11_keeps 34 (.getfield 19) 3 37 := ⟨by decide +kernel, rfl⟩
theorem dc_X11_keeps_37 : Dc miX11_keeps 37 (.iload_n 1) 1 38 := ⟨by decide +kernel, rfl⟩
theorem dc_X11_keeps_38 : Dc miX11_keeps 38 (.iload_n 2) 1 39 := ⟨by decide +kernel, rfl⟩
theorem dc_X11_keeps_39 : Dc miX11_keeps 39 (.invokevirtual 303) 3 42 := ⟨by decide +kernel, rfl⟩
theorem dc_X11_keeps_42 : Dc miX11_keeps 42 (.ireturn) 1 43 := ⟨by decide +kernel, rfl⟩
def fX11_keeps_b26 (N : Nat) (G : pG) (a0 : Nat) (a1 : Int32) (a2 : Int32) (y1 : Int32) (σ : pS) : Option ((Int32 × pS) ⊕ (String × pS)) := (fX11_need N G a0 y1 σ).bind (fun q1 => q1.elim (fun zs2 => (fX6_bestDefence N G (pR G a0 6) (pR G a0 1) a1 a2 zs2).bind (fun q3 => some (.inl (q3.1, q3.2)))) (fun e => some (.inr e)))
set_option maxRecDepth 100000 in
set_option maxHeartbeats 4000000 in
theorem tX11_keeps_b26 {N : Nat} {G : pG} {SK : Nat → Nat} {a0 : Nat} {a1 : Int32} {a2 : Int32} {y1 : Int32} {σ : pS} {r : (Int32 × pS) ⊕ (String × pS)} (hW : WT G) (i0 : Is G a0 10) (h : fX11_keeps_b26 N G a0 a1 a2 y1 σ = some r) : Ev miX11_keeps (107, 1, 6) G (Zx G (xoI r) 1 6) SK (0, 0) 26 [some (.ref a0), some (.int a1), some (.int a2)] [.int y1, .ref a0] σ := by
  unfold fX11_keeps_b26 at h
  obtain ⟨q1, hq1, h⟩ := Option.bind_eq_some_iff.mp h
  refine ev_callX (mc := 1) (ms := 6) (av := [.int y1]) (st := []) rfl dc_X11_keeps_26 (tX11_need hW i0 hq1) mw_1228 cy_X11_need i0 (by decide) rfl rfl rfl (Nat.le_of_ble_eq_true rfl) (Nat.le_of_ble_eq_true rfl) ⟨Nat.le_of_ble_eq_true rfl, Nat.le_of_ble_eq_true rfl⟩ ?_ ?_
  · intro e he
    rcases q1 with zs2 | zs2
    · have he : (Sum.inl (none, zs2) : XO) = .inr e := he
      cases he
    · have he : (Sum.inr zs2 : XO) = .inr e := he
      cases he
      dsimp only [Sum.elim] at h
      cases h
      exact ⟨rfl, Nat.le_of_ble_eq_true rfl, Nat.le_of_ble_eq_true rfl⟩
  intro e he
  rcases q1 with zs2 | zs2
  rotate_left
  · have he : (Sum.inr zs2 : XO) = .inl e := he
    cases he
  have he : (Sum.inl (none, zs2) : XO) = .inl e := he
  cases he
  dsimp only [Sum.elim] at h
  show Ev miX11_keeps (107, 1, 6) G (Zx G (xoI r) 1 6) SK (1, 6) 29 [some (.ref a0), some (.int a1), some (.int a2)] [] zs2
  refine ev_aload_n dc_X11_keeps_29 rfl ?_
  refine ev_getR dc_X11_keeps_30 fi_X11_46 rfl i0 ?_
  refine ev_aload_n dc_X11_keeps_33 rfl ?_
  refine ev_getR dc_X11_keeps_34 fi_X11_19 rfl i0 ?_
  refine ev_iload_n dc_X11_keeps_37 rfl ?_
  refine ev_iload_n dc_X11_keeps_38 rfl ?_
  obtain ⟨q3, hq3, h⟩ := Option.bind_eq_some_iff.mp h
  refine ev_callV (av := [.ref (pR G a0 1), .int a1, .int a2]) (st := []) (st1 := [.int q3.1]) dc_X11_keeps_39 (tX6_bestDefence hW (wt hW i0 6 rfl rfl) (wt hW i0 1 rfl rfl) hq3) mw_1340 cy_X6_bestDefence (wt hW i0 6 rfl rfl) (by decide) rfl rfl rfl rfl (Nat.le_of_ble_eq_true rfl) (Nat.le_of_ble_eq_true rfl) ⟨Nat.le_of_ble_eq_true rfl, Nat.le_of_ble_eq_true rfl⟩ ?_
  cases h
  exact ev_iretX dc_X11_keeps_42 rfl ⟨Nat.le_of_ble_eq_true rfl, Nat.le_of_ble_eq_true rfl⟩ rfl rfl
def fX11_keeps_b25 (N : Nat) (G : pG) (a0 : Nat) (a1 : Int32) (a2 : Int32) (σ : pS) : Option ((Int32 × pS) ⊕ (String × pS)) := fX11_keeps_b26 N G a0 a1 a2 (0 : Int32) σ
set_option maxRecDepth 100000 in
set_option maxHeartbeats 4000000 in
theorem tX11_keeps_b25 {N : Nat} {G : pG} {SK : Nat → Nat} {a0 : Nat} {a1 : Int32} {a2 : Int32} {σ : pS} {r : (Int32 × pS) ⊕ (String × pS)} (hW : WT G) (i0 : Is G a0 10) (h : fX11_keeps_b25 N G a0 a1 a2 σ = some r) : Ev miX11_keeps (107, 1, 6) G (Zx G (xoI r) 1 6) SK (0, 0) 25 [some (.ref a0), some (.int a1), some (.int a2)] [.ref a0] σ := by
  unfold fX11_keeps_b25 at h
  refine ev_iconst (v := 0) dc_X11_keeps_25 (by decide) ?_
  exact ev_sub (tX11_keeps_b26 hW i0 h) (And.intro rfl (And.intro rfl (And.intro rfl trivial)))
def fX11_keeps (N : Nat) (G : pG) (a0 : Nat) (a1 : Int32) (a2 : Int32) (σ : pS) : Option ((Int32 × pS) ⊕ (String × pS)) := if a1 < 0 then (fX11_keeps_b25 N G a0 a1 a2 σ) else (if (99 : Int32) < a1 then (fX11_keeps_b25 N G a0 a1 a2 σ) else (if a2 < 0 then (fX11_keeps_b25 N G a0 a1 a2 σ) else (if (12 : Int32) ≤ a2 then (fX11_keeps_b25 N G a0 a1 a2 σ) else (fX11_keeps_b26 N G a0 a1 a2 (1 : Int32) σ))))
set_option maxRecDepth 100000 in
set_option maxHeartbeats 4000000 in
theorem tX11_keeps {N : Nat} {G : pG} {SK : Nat → Nat} {a0 : Nat} {a1 : Int32} {a2 : Int32} {σ : pS} {r : (Int32 × pS) ⊕ (String × pS)} (hW : WT G) (i0 : Is G a0 10) (h : fX11_keeps N G a0 a1 a2 σ = some r) : Dx miX11_keeps yX11_keeps 107 1 6 G SK [.ref a0, .int a1, .int a2] σ (xoI r) := by
  unfold fX11_keeps at h
  refine dx_of (lv := [some (.ref a0), some (.int a1), some (.int a2)]) (by decide) rfl rfl (Nat.le_of_ble_eq_true rfl) rfl ?_
  refine ev_aload_n dc_X11_keeps_0 rfl ?_
  refine ev_iload_n dc_X11_keeps_1 rfl ?_
  refine ev_if_lt (tgt := 25) dc_X11_keeps_2 (by decide) h (fun h => ?_) (fun h => ?_)
  · exact ev_sub (tX11_keeps_b25 hW i0 h) (And.intro rfl (And.intro rfl (And.intro rfl trivial)))
  · refine ev_iload_n dc_X11_keeps_5 rfl ?_
    refine ev_bipush (v := 99) dc_X11_keeps_6 (by decide) ?_
    refine ev_icmp_gt (tgt := 25) dc_X11_keeps_8 (by decide) h (fun h => ?_) (fun h => ?_)
    · exact ev_sub (tX11_keeps_b25 hW i0 h) (And.intro rfl (And.intro rfl (And.intro rfl trivial)))
    · refine ev_iload_n dc_X11_keeps_11 rfl ?_
      refine ev_if_lt (tgt := 25) dc_X11_keeps_12 (by decide) h (fun h => ?_) (fun h => ?_)
      · exact ev_sub (tX11_keeps_b25 hW i0 h) (And.intro rfl (And.intro rfl (And.intro rfl trivial)))
      · refine ev_iload_n dc_X11_keeps_15 rfl ?_
        refine ev_bipush (v := 12) dc_X11_keeps_16 (by decide) ?_
        refine ev_icmp_ge (tgt := 25) dc_X11_keeps_18 (by decide) h (fun h => ?_) (fun h => ?_)
        · exact ev_sub (tX11_keeps_b25 hW i0 h) (And.intro rfl (And.intro rfl (And.intro rfl trivial)))
        · refine ev_iconst (v := 1) dc_X11_keeps_21 (by decide) ?_
          refine ev_goto (tgt := 26) dc_X11_keeps_22 (by decide) ?_
          exact ev_sub (tX11_keeps_b26 hW i0 h) (And.intro rfl (And.intro rfl (And.intro rfl trivial)))
theorem dc_X11_law_0 : Dc miX11_law 0 (.aload_n 0) 1 1 := ⟨by decide +kernel, rfl⟩
theorem dc_X11_law_1 : Dc miX11_law 1 (.getfield 60) 3 4 := ⟨by decide +kernel, rfl⟩
theorem dc_X11_law_4 : Dc miX11_law 4 (.aload_n 0) 1 5 := ⟨by decide +kernel, rfl⟩
theorem dc_X11_law_5 : Dc miX11_law 5 (.getfield 10) 3 8 := ⟨by decide +kernel, rfl⟩
theorem dc_X11_law_8 : Dc miX11_law 8 (.aload_n 0) 1 9 := ⟨by decide +kernel, rfl⟩
theorem dc_X11_law_9 : Dc miX11_law 9 (.getfield 23) 3 12 := ⟨by decide +kernel, rfl⟩
theorem dc_X11_law_12 : Dc miX11_law 12 (.getfield 121) 3 15 := ⟨by decide +kernel, rfl⟩
theorem dc_X11_law_15 : Dc miX11_law 15 (.invokevirtual 125) 3 18 := ⟨by decide +kernel, rfl⟩
theorem dc_X11_law_18 : Dc miX11_law 18 (.istore_n 1) 1 19 := ⟨by decide +kernel, rfl⟩
theorem dc_X11_law_19 : Dc miX11_law 19 (.aload_n 0) 1 20 := ⟨by decide +kernel, rfl⟩
theorem dc_X11_law_20 : Dc miX11_law 20 (.iload_n 1) 1 21 := ⟨by decide +kernel, rfl⟩
theorem dc_X11_law_21 : Dc miX11_law 21 (.invokevirtual 93) 3 24 := ⟨by decide +kernel, rfl⟩
theorem dc_X11_law_24 : Dc miX11_law 24 (.iload_n 1) 1 25 := ⟨by decide +kernel, rfl⟩
theorem dc_X11_law_25 : Dc miX11_law 25 (.ifCond .ne 13) 3 28 := ⟨by decide +kernel, rfl⟩
theorem dc_X11_law_28 : Dc miX11_law 28 (.new 97) 3 31 := ⟨by decide +kernel, rfl⟩
theorem dc_X11_law_31 : Dc miX11_law 31 (.dup) 1 32 := ⟨by decide +kernel, rfl⟩
theorem dc_X11_law_32 : Dc miX11_law 32 (.ldc 128) 2 34 := ⟨by decide +kernel, rfl⟩
theorem dc_X11_law_34 : Dc miX11_law 34 (.invokespecial 101) 3 37 := ⟨by decide +kernel, rfl⟩
theorem dc_X11_law_37 : Dc miX11_law 37 (.athrow) 1 38 := ⟨by decide +kernel, rfl⟩
theorem dc_X11_law_38 : Dc miX11_law 38 (.aload_n 0) 1 39 := ⟨by decide +kernel, rfl⟩
theorem dc_X11_law_39 : Dc miX11_law 39 (.getfield 19) 3 42 := ⟨by decide +kernel, rfl⟩
theorem dc_X11_law_42 : Dc miX11_law 42 (.getfield 121) 3 45 := ⟨by decide +kernel, rfl⟩
theorem dc_X11_law_45 : Dc miX11_law 45 (.aload_n 0) 1 46 := ⟨by decide +kernel, rfl⟩
theorem dc_X11_law_46 : Dc miX11_law 46 (.getfield 23) 3 49 := ⟨by decide +kernel, rfl⟩
theorem dc_X11_law_49 : Dc miX11_law 49 (.getfield 121) 3 52 := ⟨by decide +kernel, rfl⟩
theorem dc_X11_law_52 : Dc miX11_law 52 (.invokevirtual 130) 3 55 := ⟨by decide +kernel, rfl⟩
theorem dc_X11_law_55 : Dc miX11_law 55 (.aload_n 0) 1 56 := ⟨by decide +kernel, rfl⟩
theorem dc_X11_law_56 : Dc miX11_law 56 (.getfield 32) 3 59 := ⟨by decide +kernel, rfl⟩
theorem dc_X11_law_59 : Dc miX11_law 59 (.invokevirtual 118) 3 62 := ⟨by decide +kernel, rfl⟩
theorem dc_X11_law_62 : Dc miX11_law 62 (.aload_n 0) 1 63 := ⟨by decide +kernel, rfl⟩
theorem dc_X11_law_63 : Dc miX11_law 63 (.getfield 19) 3 66 := ⟨by decide +kernel, rfl⟩
theorem dc_X11_law_66 : Dc miX11_law 66 (.getfield 121) 3 69 := ⟨by decide +kernel, rfl⟩
theorem dc_X11_law_69 : Dc miX11_law 69 (.getfield 135) 3 72 := ⟨by decide +kernel, rfl⟩
theorem dc_X11_law_72 : Dc miX11_law 72 (.ireturn) 1 73 := ⟨by decide +kernel, rfl⟩
def fX11_law (N : Nat) (G : pG) (a0 : Nat) (σ : pS) : Option ((Int32 × pS) ⊕ (String × pS)) := (fX1_reads N G (pR G a0 8) (pR G a0 0) (pR G (pR G a0 2) 1) σ).bind (fun q1 => (fX11_useTapeUp N G a0 q1.1 q1.2).bind (fun q2 => if q1.1 = 0 then (some (.inr ("java/lang/IllegalArgumentException", q2))) else ((fX0_copyFrom N G (pR G (pR G a0 1) 1) (pR G (pR G a0 2) 1) q2).bind (fun q3 => (fX4_forget N G (pR G a0 4) q3).bind (fun q4 => some (.inl (q4.1 (pR G (pR G a0 1) 1) 0, q4)))))))
set_option maxRecDepth 100000 in
set_option maxHeartbeats 4000000 in
theorem tX11_law {N : Nat} {G : pG} {SK : Nat → Nat} {a0 : Nat} {σ : pS} {r : (Int32 × pS) ⊕ (String × pS)} (hW : WT G) (i0 : Is G a0 10) (h : fX11_law N G a0 σ = some r) : Dx miX11_law yX11_law 14 1 6 G SK [.ref a0] σ (xoI r) := by
  unfold fX11_law at h
  refine dx_of (lv := [some (.ref a0), none]) (by decide) rfl rfl (Nat.le_of_ble_eq_true rfl) rfl ?_
  refine ev_aload_n dc_X11_law_0 rfl ?_
  refine ev_getR dc_X11_law_1 fi_X11_60 rfl i0 ?_
  refine ev_aload_n dc_X11_law_4 rfl ?_
  refine ev_getR dc_X11_law_5 fi_X11_10 rfl i0 ?_
  refine ev_aload_n dc_X11_law_8 rfl ?_
  refine ev_getR dc_X11_law_9 fi_X11_23 rfl i0 ?_
  refine ev_getR dc_X11_law_12 fi_X11_121 rfl (wt hW i0 2 rfl rfl) ?_
  obtain ⟨q1, hq1, h⟩ := Option.bind_eq_some_iff.mp h
  refine ev_callV (av := [.ref (pR G a0 0), .ref (pR G (pR G a0 2) 1)]) (st := []) (st1 := [.int q1.1]) dc_X11_law_15 (tX1_reads hW (wt hW i0 8 rfl rfl) (wt hW i0 0 rfl rfl) (wt hW (wt hW i0 2 rfl rfl) 1 rfl rfl) hq1) mw_945 cy_X1_reads (wt hW i0 8 rfl rfl) (by decide) rfl rfl rfl rfl (Nat.le_of_ble_eq_true rfl) (Nat.le_of_ble_eq_true rfl) ⟨Nat.le_of_ble_eq_true rfl, Nat.le_of_ble_eq_true rfl⟩ ?_
  refine ev_istore_n (lv' := [some (.ref a0), some (.int q1.1)]) dc_X11_law_18 rfl (by decide) rfl ?_
  refine ev_aload_n dc_X11_law_19 rfl ?_
  refine ev_iload_n dc_X11_law_20 rfl ?_
  obtain ⟨q2, hq2, h⟩ := Option.bind_eq_some_iff.mp h
  refine ev_callV (av := [.int q1.1]) (st := []) (st1 := []) dc_X11_law_21 (tX11_useTapeUp hW i0 hq2) mw_849 cy_X11_useTapeUp i0 (by decide) rfl rfl rfl rfl (Nat.le_of_ble_eq_true rfl) (Nat.le_of_ble_eq_true rfl) ⟨Nat.le_of_ble_eq_true rfl, Nat.le_of_ble_eq_true rfl⟩ ?_
  refine ev_iload_n dc_X11_law_24 rfl ?_
  refine ev_if_ne (tgt := 38) dc_X11_law_25 (by decide) h (fun h => ?_) (fun h => ?_)
  · cases h
    exact ev_throwS (tx := "the text of the law is wrong") rfl dc_X11_law_28 dc_X11_law_31 dc_X11_law_32 dc_X11_law_34 dc_X11_law_37 mw_853 (List.mem_of_getElem? (i := 31) rfl) xa_X11_101 (Nat.le_of_ble_eq_true rfl) (Nat.le_of_ble_eq_true rfl) ⟨Nat.le_of_ble_eq_true rfl, Nat.le_of_ble_eq_true rfl⟩ ⟨Nat.le_of_ble_eq_true rfl, Nat.le_of_ble_eq_true rfl⟩
  · refine ev_aload_n dc_X11_law_38 rfl ?_
    refine ev_getR dc_X11_law_39 fi_X11_19 rfl i0 ?_
    refine ev_getR dc_X11_law_42 fi_X11_121 rfl (wt hW i0 1 rfl rfl) ?_
    refine ev_aload_n dc_X11_law_45 rfl ?_
    refine ev_getR dc_X11_law_46 fi_X11_23 rfl i0 ?_
    refine ev_getR dc_X11_law_49 fi_X11_121 rfl (wt hW i0 2 rfl rfl) ?_
    obtain ⟨q3, hq3, h⟩ := Option.bind_eq_some_iff.mp h
    refine ev_callV (av := [.ref (pR G (pR G a0 2) 1)]) (st := []) (st1 := []) dc_X11_law_52 (tX0_copyFrom hW (wt hW (wt hW i0 1 rfl rfl) 1 rfl rfl) (wt hW (wt hW i0 2 rfl rfl) 1 rfl rfl) hq3) mw_1029 cy_X0_copyFrom (wt hW (wt hW i0 1 rfl rfl) 1 rfl rfl) (by decide) rfl rfl rfl rfl (Nat.le_of_ble_eq_true rfl) (Nat.le_of_ble_eq_true rfl) ⟨Nat.le_of_ble_eq_true rfl, Nat.le_of_ble_eq_true rfl⟩ ?_
    refine ev_aload_n dc_X11_law_55 rfl ?_
    refine ev_getR dc_X11_law_56 fi_X11_32 rfl i0 ?_
    obtain ⟨q4, hq4, h⟩ := Option.bind_eq_some_iff.mp h
    refine ev_callV (av := []) (st := []) (st1 := []) dc_X11_law_59 (tX4_forget hW (wt hW i0 4 rfl rfl) hq4) mw_665 cy_X4_forget (wt hW i0 4 rfl rfl) (by decide) rfl rfl rfl rfl (Nat.le_of_ble_eq_true rfl) (Nat.le_of_ble_eq_true rfl) ⟨Nat.le_of_ble_eq_true rfl, Nat.le_of_ble_eq_true rfl⟩ ?_
    refine ev_aload_n dc_X11_law_62 rfl ?_
    refine ev_getR dc_X11_law_63 fi_X11_19 rfl i0 ?_
    refine ev_getR dc_X11_law_66 fi_X11_121 rfl (wt hW i0 1 rfl rfl) ?_
    refine ev_getI dc_X11_law_69 fi_X11_135 rfl (wt hW (wt hW i0 1 rfl rfl) 1 rfl rfl) ?_
    cases h
    exact ev_iretX dc_X11_law_72 rfl ⟨Nat.le_of_ble_eq_true rfl, Nat.le_of_ble_eq_true rfl⟩ rfl rfl
theorem dc_X11_learnt_0 : Dc miX11_learnt 0 (.aload_n 0) 1 1 := ⟨by decide +kernel, rfl⟩
theorem dc_X11_learnt_1 : Dc miX11_learnt 1 (.iload_n 1) 1 2 := ⟨by decide +kernel, rfl⟩
theorem dc_X11_learnt_2 : Dc miX11_learnt 2 (.invokevirtual 278) 3 5 := ⟨by decide +kernel, rfl⟩
theorem dc_X11_learnt_5 : Dc miX11_learnt 5 (.aload_n 0) 1 6 := ⟨by decide +kernel, rfl⟩
theorem dc_X11_learnt_6 : Dc miX11_learnt 6 (.getfield 39) 3 9 := ⟨by decide +kernel, rfl⟩
theorem dc_X11_learnt_9 : Dc miX11_learnt 9 (.aload_n 0) 1 10 := ⟨by decide +kernel, rfl⟩
theorem dc_X11_learnt_10 : Dc miX11_learnt 10 (.getfield 19) 3 13 := ⟨by decide +kernel, rfl⟩
theorem dc_X11_learnt_13 : Dc miX11_learnt 13 (.getfield 155) 3 16 := ⟨by decide +kernel, rfl⟩
theorem dc_X11_learnt_16 : Dc miX11_learnt 16 (.invokevirtual 275) 3 19 := ⟨by decide +kernel, rfl⟩
theorem dc_X11_learnt_19 : Dc miX11_learnt 19 (.iconst 0) 1 20 := ⟨by decide +kernel, rfl⟩
theorem dc_X11_learnt_20 : Dc miX11_learnt 20 (.istore_n 2) 1 21 := ⟨by decide +kernel, rfl⟩
theorem dc_X11_learnt_21 : Dc miX11_learnt 21 (.iload_n 2) 1 22 := ⟨by decide +kernel, rfl⟩
theorem dc_X11_learnt_22 : Dc miX11_learnt 22 (.sipush 400) 3 25 := ⟨by decide +kernel, rfl⟩
theorem dc_X11_learnt_25 : Dc miX11_learnt 25 (.if_icmp .gt 37) 3 28 := ⟨by decide +kernel, rfl⟩
theorem dc_X11_learnt_28 : Dc miX11_learnt 28 (.aload_n 0) 1 29 := ⟨by decide +kernel, rfl⟩
theorem dc_X11_learnt_29 : Dc miX11_learnt 29 (.getfield 39) 3 32 := ⟨by decide +kernel, rfl⟩
theorem dc_X11_learnt_32 : Dc miX11_learnt 32 (.getfield 158) 3 35 := ⟨by decide +kernel, rfl⟩
theorem dc_X11_learnt_35 : Dc miX11_learnt 35 (.invokestatic 263) 3 38 := ⟨by decide +kernel, rfl⟩
theorem dc_X11_learnt_38 : Dc miX11_learnt 38 (.iconst 1) 1 39 := ⟨by decide +kernel, rfl⟩
theorem dc_X11_learnt_39 : Dc miX11_learnt 39 (.if_icmp .ne 5) 3 42 := ⟨by decide +kernel, rfl⟩
theorem dc_X11_learnt_42 : Dc miX11_learnt 42 (.iload_n 2) 1 43 := ⟨by decide +kernel, rfl⟩
theorem dc_X11_learnt_43 : Dc miX11_learnt 43 (.ireturn) 1 44 := ⟨by decide +kernel, rfl⟩
theorem dc_X11_learnt_44 : Dc miX11_learnt 44 (.aload_n 0) 1 45 := ⟨by decide +kernel, rfl⟩
theorem dc_X11_learnt_45 : Dc miX11_learnt 45 (.getfield 19) 3 48 := ⟨by decide +kernel, rfl⟩
theorem dc_X11_learnt_48 : Dc miX11_learnt 48 (.aload_n 0) 1 49 := ⟨by decide +kernel, rfl⟩
theorem dc_X11_learnt_49 : Dc miX11_learnt 49 (.getfield 39) 3 52 := ⟨by decide +kernel, rfl⟩
theorem dc_X11_learnt_52 : Dc miX11_learnt 52 (.iload_n 1) 1 53 := ⟨by decide +kernel, rfl⟩
theorem dc_X11_learnt_53 : Dc miX11_learnt 53 (.invokevirtual 281) 3 56 := ⟨by decide +kernel, rfl⟩
theorem dc_X11_learnt_56 : Dc miX11_learnt 56 (.iinc 2 1) 3 59 := ⟨by decide +kernel, rfl⟩
theorem dc_X11_learnt_59 : Dc miX11_learnt 59 (.goto (-38)) 3 62 := ⟨by decide +kernel, rfl⟩
theorem dc_X11_learnt_62 : Dc miX11_learnt 62 (.iconst (-1)) 1 63 := ⟨by decide +kernel, rfl⟩
theorem dc_X11_learnt_63 : Dc miX11_learnt 63 (.ireturn) 1 64 := ⟨by decide +kernel, rfl⟩
def fX11_learnt_b21 (N : Nat) (G : pG) (a0 : Nat) (a1 : Int32) : (Int32 × pS) → Option ((Int32 × pS) ⊕ (String × pS)) := lp (fun (k21 : Int32 × pS → Option ((Int32 × pS) ⊕ (String × pS))) (b : Int32 × pS) => if (400 : Int32) < b.1 then (some (.inl ((-1 : Int32), b.2))) else ((fJ6_bitCount_0f7a4 N G (b.2.1 (pR G a0 5) 3) b.2).bind (fun q1 => if q1 = (1 : Int32) then (some (.inl (b.1, b.2))) else ((fX10_plainNight N G (pR G a0 1) (pR G a0 5) a1 b.2).bind (fun q2 => k21 (b.1 + (1 : Int32), q2)))))) N
set_option maxRecDepth 100000 in
set_option maxHeartbeats 4000000 in
theorem tX11_learnt_b21 {N : Nat} {G : pG} {SK : Nat → Nat} {a0 : Nat} {a1 : Int32} {b : Int32 × pS} {r : (Int32 × pS) ⊕ (String × pS)} (hW : WT G) (i0 : Is G a0 10) (h : fX11_learnt_b21 N G a0 a1 b = some r) : Ev miX11_learnt (9, 1, 6) G (Zx G (xoI r) 1 6) SK (1, 6) 21 [some (.ref a0), some (.int a1), some (.int b.1)] [] b.2 := by
  unfold fX11_learnt_b21 at h
  refine lp_ind (P := fun b r9 => r9 = r → Ev miX11_learnt (9, 1, 6) G (Zx G (xoI r) 1 6) SK (1, 6) 21 [some (.ref a0), some (.int a1), some (.int b.1)] [] b.2) (fun k21 b r9 ih h9 e9 => ?_) N b r h rfl
  clear h
  subst e9
  have h := h9
  clear h9
  have hk21 : ∀ b : Int32 × pS, k21 b = some r9 → Ev miX11_learnt (9, 1, 6) G (Zx G (xoI r9) 1 6) SK (1, 6) 21 [some (.ref a0), some (.int a1), some (.int b.1)] [] b.2 := fun b hb => ih b r9 hb rfl
  clear ih
  obtain ⟨x2, σ⟩ := b
  dsimp only at h ⊢
  refine ev_iload_n dc_X11_learnt_21 rfl ?_
  refine ev_sipush (v := 400) dc_X11_learnt_22 (by decide) ?_
  refine ev_icmp_gt (tgt := 62) dc_X11_learnt_25 (by decide) h (fun h => ?_) (fun h => ?_)
  · refine ev_iconst (v := (-1)) dc_X11_learnt_62 (by decide) ?_
    cases h
    exact ev_iretX dc_X11_learnt_63 rfl ⟨Nat.le_of_ble_eq_true rfl, Nat.le_of_ble_eq_true rfl⟩ rfl rfl
  · refine ev_aload_n dc_X11_learnt_28 rfl ?_
    refine ev_getR dc_X11_learnt_29 fi_X11_39 rfl i0 ?_
    refine ev_getI dc_X11_learnt_32 fi_X11_158 rfl (wt hW i0 5 rfl rfl) ?_
    obtain ⟨q1, hq1, h⟩ := Option.bind_eq_some_iff.mp h
    refine ev_callS (av := [.int (σ.1 (pR G a0 5) 3)]) (st := []) (st1 := [.int q1]) dc_X11_learnt_35 (tJ6_bitCount_0f7a4 hW hq1) mw_576 cs_J6_bitCount_0f7a4 rfl rfl rfl (Nat.le_of_ble_eq_true rfl) (Nat.le_of_ble_eq_true rfl) ⟨Nat.le_of_ble_eq_true rfl, Nat.le_of_ble_eq_true rfl⟩ ?_
    refine ev_iconst (v := 1) dc_X11_learnt_38 (by decide) ?_
    refine ev_icmp_ne (tgt := 44) dc_X11_learnt_39 (by decide) h (fun h => ?_) (fun h => ?_)
    · refine ev_iload_n dc_X11_learnt_42 rfl ?_
      cases h
      exact ev_iretX dc_X11_learnt_43 rfl ⟨Nat.le_of_ble_eq_true rfl, Nat.le_of_ble_eq_true rfl⟩ rfl rfl
    · refine ev_aload_n dc_X11_learnt_44 rfl ?_
      refine ev_getR dc_X11_learnt_45 fi_X11_19 rfl i0 ?_
      refine ev_aload_n dc_X11_learnt_48 rfl ?_
      refine ev_getR dc_X11_learnt_49 fi_X11_39 rfl i0 ?_
      refine ev_iload_n dc_X11_learnt_52 rfl ?_
      obtain ⟨q2, hq2, h⟩ := Option.bind_eq_some_iff.mp h
      refine ev_callV (av := [.ref (pR G a0 5), .int a1]) (st := []) (st1 := []) dc_X11_learnt_53 (tX10_plainNight hW (wt hW i0 1 rfl rfl) (wt hW i0 5 rfl rfl) hq2) mw_1267 cy_X10_plainNight (wt hW i0 1 rfl rfl) (by decide) rfl rfl rfl rfl (Nat.le_of_ble_eq_true rfl) (Nat.le_of_ble_eq_true rfl) ⟨Nat.le_of_ble_eq_true rfl, Nat.le_of_ble_eq_true rfl⟩ ?_
      refine ev_iinc (v := 1) (lv' := [some (.ref a0), some (.int a1), some (.int (x2 + (1 : Int32)))]) dc_X11_learnt_56 rfl (by decide) rfl (by decide) rfl ?_
      refine ev_goto (tgt := 21) dc_X11_learnt_59 (by decide) ?_
      exact ev_sub (hk21 (x2 + (1 : Int32), q2) h) (And.intro rfl (And.intro rfl (And.intro rfl trivial)))
def fX11_learnt (N : Nat) (G : pG) (a0 : Nat) (a1 : Int32) (σ : pS) : Option ((Int32 × pS) ⊕ (String × pS)) := (fX11_needDeedOrNone N G a0 a1 σ).bind (fun q3 => q3.elim (fun zs4 => (fX3_copyThoughtFrom N G (pR G a0 5) (pR G (pR G a0 1) 2) zs4).bind (fun q5 => fX11_learnt_b21 N G a0 a1 ((0 : Int32), q5))) (fun e => some (.inr e)))
set_option maxRecDepth 100000 in
set_option maxHeartbeats 4000000 in
theorem tX11_learnt {N : Nat} {G : pG} {SK : Nat → Nat} {a0 : Nat} {a1 : Int32} {σ : pS} {r : (Int32 × pS) ⊕ (String × pS)} (hW : WT G) (i0 : Is G a0 10) (h : fX11_learnt N G a0 a1 σ = some r) : Dx miX11_learnt yX11_learnt 9 1 6 G SK [.ref a0, .int a1] σ (xoI r) := by
  unfold fX11_learnt at h
  refine dx_of (lv := [some (.ref a0), some (.int a1), none]) (by decide) rfl rfl (Nat.le_of_ble_eq_true rfl) rfl ?_
  refine ev_aload_n dc_X11_learnt_0 rfl ?_
  refine ev_iload_n dc_X11_learnt_1 rfl ?_
  obtain ⟨q3, hq3, h⟩ := Option.bind_eq_some_iff.mp h
  refine ev_callX (mc := 1) (ms := 6) (av := [.int a1]) (st := []) rfl dc_X11_learnt_2 (tX11_needDeedOrNone hW i0 hq3) mw_1263 cy_X11_needDeedOrNone i0 (by decide) rfl rfl rfl (Nat.le_of_ble_eq_true rfl) (Nat.le_of_ble_eq_true rfl) ⟨Nat.le_of_ble_eq_true rfl, Nat.le_of_ble_eq_true rfl⟩ ?_ ?_
  · intro e he
    rcases q3 with zs4 | zs4
    · have he : (Sum.inl (none, zs4) : XO) = .inr e := he
      cases he
    · have he : (Sum.inr zs4 : XO) = .inr e := he
      cases he
      dsimp only [Sum.elim] at h
      cases h
      exact ⟨rfl, Nat.le_of_ble_eq_true rfl, Nat.le_of_ble_eq_true rfl⟩
  intro e he
  rcases q3 with zs4 | zs4
  rotate_left
  · have he : (Sum.inr zs4 : XO) = .inl e := he
    cases he
  have he : (Sum.inl (none, zs4) : XO) = .inl e := he
  cases he
  dsimp only [Sum.elim] at h
  show Ev miX11_learnt (9, 1, 6) G (Zx G (xoI r) 1 6) SK (1, 6) 5 [some (.ref a0), some (.int a1), none] [] zs4
  refine ev_aload_n dc_X11_learnt_5 rfl ?_
  refine ev_getR dc_X11_learnt_6 fi_X11_39 rfl i0 ?_
  refine ev_aload_n dc_X11_learnt_9 rfl ?_
  refine ev_getR dc_X11_learnt_10 fi_X11_19 rfl i0 ?_
  refine ev_getR dc_X11_learnt_13 fi_X11_155 rfl (wt hW i0 1 rfl rfl) ?_
  obtain ⟨q5, hq5, h⟩ := Option.bind_eq_some_iff.mp h
  refine ev_callV (av := [.ref (pR G (pR G a0 1) 2)]) (st := []) (st1 := []) dc_X11_learnt_16 (tX3_copyThoughtFrom hW (wt hW i0 5 rfl rfl) (wt hW (wt hW i0 1 rfl rfl) 2 rfl rfl) hq5) mw_1255 cy_X3_copyThoughtFrom (wt hW i0 5 rfl rfl) (by decide) rfl rfl rfl rfl (Nat.le_of_ble_eq_true rfl) (Nat.le_of_ble_eq_true rfl) ⟨Nat.le_of_ble_eq_true rfl, Nat.le_of_ble_eq_true rfl⟩ ?_
  refine ev_iconst (v := 0) dc_X11_learnt_19 (by decide) ?_
  refine ev_istore_n (lv' := [some (.ref a0), some (.int a1), some (.int (0 : Int32))]) dc_X11_learnt_20 rfl (by decide) rfl ?_
  exact ev_sub (tX11_learnt_b21 (b := ((0 : Int32), q5)) hW i0 h) (And.intro rfl (And.intro rfl (And.intro rfl trivial)))
theorem dc_X11_led_0 : Dc miX11_led 0 (.aload_n 0) 1 1 := ⟨by decide +kernel, rfl⟩
theorem dc_X11_led_1 : Dc miX11_led 1 (.iload_n 1) 1 2 := ⟨by decide +kernel, rfl⟩
theorem dc_X11_led_2 : Dc miX11_led 2 (.invokevirtual 174) 3 5 := ⟨by decide +kernel, rfl⟩
theorem dc_X11_led_5 : Dc miX11_led 5 (.iload_n 2) 1 6 := ⟨by decide +kernel, rfl⟩
theorem dc_X11_led_6 : Dc miX11_led 6 (.iconst (-1)) 1 7 := ⟨by decide +kernel, rfl⟩
theorem dc_X11_led_7 : Dc miX11_led 7 (.if_icmp .eq 8) 3 10 := ⟨by decide +kernel, rfl⟩
theorem dc_X11_led_10 : Dc miX11_led 10 (.aload_n 0) 1 11 := ⟨by decide +kernel, rfl⟩
theorem dc_X11_led_11 : Dc miX11_led 11 (.iload_n 2) 1 12 := ⟨by decide +kernel, rfl⟩
theorem dc_X11_led_12 : Dc miX11_led 12 (.invokevirtual 188) 3 15 := ⟨by decide +kernel, rfl⟩
theorem dc_X11_led_15 : Dc miX11_led 15 (.aload_n 0) 1 16 := ⟨by decide +kernel, rfl⟩
theorem dc_X11_led_16 : Dc miX11_led 16 (.getfield 19) 3 19 := ⟨by decide +kernel, rfl⟩
theorem dc_X11_led_19 : Dc miX11_led 19 (.getfield 155) 3 22 := ⟨by decide +kernel, rfl⟩
theorem dc_X11_led_22 : Dc miX11_led 22 (.getfield 363) 3 25 := ⟨by decide +kernel, rfl⟩
theorem dc_X11_led_25 : Dc miX11_led 25 (.iload_n 1) 1 26 := ⟨by decide +kernel, rfl⟩
theorem dc_X11_led_26 : Dc miX11_led 26 (.iload_n 2) 1 27 := ⟨by decide +kernel, rfl⟩
theorem dc_X11_led_27 : Dc miX11_led 27 (.invokevirtual 378) 3 30 := ⟨by decide +kernel, rfl⟩
theorem dc_X11_led_30 : Dc miX11_led 30 (.ireturn) 1 31 := ⟨by decide +kernel, rfl⟩
def fX11_led_b15 (N : Nat) (G : pG) (a0 : Nat) (a1 : Int32) (a2 : Int32) (σ : pS) : Option ((Int32 × pS) ⊕ (String × pS)) := (fX2_rowsOf N G (pR G (pR G (pR G a0 1) 2) 8) a1 a2 σ).bind (fun q1 => some (.inl (q1, σ)))
set_option maxRecDepth 100000 in
set_option maxHeartbeats 4000000 in
theorem tX11_led_b15 {N : Nat} {G : pG} {SK : Nat → Nat} {a0 : Nat} {a1 : Int32} {a2 : Int32} {σ : pS} {r : (Int32 × pS) ⊕ (String × pS)} (hW : WT G) (i0 : Is G a0 10) (h : fX11_led_b15 N G a0 a1 a2 σ = some r) : Ev miX11_led (8, 2, 12) G (Zx G (xoI r) 2 12) SK (2, 12) 15 [some (.ref a0), some (.int a1), some (.int a2)] [] σ := by
  unfold fX11_led_b15 at h
  refine ev_aload_n dc_X11_led_15 rfl ?_
  refine ev_getR dc_X11_led_16 fi_X11_19 rfl i0 ?_
  refine ev_getR dc_X11_led_19 fi_X11_155 rfl (wt hW i0 1 rfl rfl) ?_
  refine ev_getR dc_X11_led_22 fi_X11_363 rfl (wt hW (wt hW i0 1 rfl rfl) 2 rfl rfl) ?_
  refine ev_iload_n dc_X11_led_25 rfl ?_
  refine ev_iload_n dc_X11_led_26 rfl ?_
  obtain ⟨q1, hq1, h⟩ := Option.bind_eq_some_iff.mp h
  refine ev_callV (av := [.int a1, .int a2]) (st := []) (st1 := [.int q1]) dc_X11_led_27 (tX2_rowsOf hW (wt hW (wt hW (wt hW i0 1 rfl rfl) 2 rfl rfl) 8 rfl rfl) hq1) mw_1469 cy_X2_rowsOf (wt hW (wt hW (wt hW i0 1 rfl rfl) 2 rfl rfl) 8 rfl rfl) (by decide) rfl rfl rfl rfl (Nat.le_of_ble_eq_true rfl) (Nat.le_of_ble_eq_true rfl) ⟨Nat.le_of_ble_eq_true rfl, Nat.le_of_ble_eq_true rfl⟩ ?_
  cases h
  exact ev_iretX dc_X11_led_30 rfl ⟨Nat.le_of_ble_eq_true rfl, Nat.le_of_ble_eq_true rfl⟩ rfl rfl
def fX11_led (N : Nat) (G : pG) (a0 : Nat) (a1 : Int32) (a2 : Int32) (σ : pS) : Option ((Int32 × pS) ⊕ (String × pS)) := (fX11_needWho N G a0 a1 σ).bind (fun q2 => q2.elim (fun zs3 => if a2 = (-1 : Int32) then (fX11_led_b15 N G a0 a1 a2 zs3) else ((fX11_needWord N G a0 a2 zs3).bind (fun q4 => q4.elim (fun zs5 => fX11_led_b15 N G a0 a1 a2 zs5) (fun e => some (.inr e))))) (fun e => some (.inr e)))
set_option maxRecDepth 100000 in
set_option maxHeartbeats 4000000 in
theorem tX11_led {N : Nat} {G : pG} {SK : Nat → Nat} {a0 : Nat} {a1 : Int32} {a2 : Int32} {σ : pS} {r : (Int32 × pS) ⊕ (String × pS)} (hW : WT G) (i0 : Is G a0 10) (h : fX11_led N G a0 a1 a2 σ = some r) : Dx miX11_led yX11_led 8 2 12 G SK [.ref a0, .int a1, .int a2] σ (xoI r) := by
  unfold fX11_led at h
  refine dx_of (lv := [some (.ref a0), some (.int a1), some (.int a2)]) (by decide) rfl rfl (Nat.le_of_ble_eq_true rfl) rfl ?_
  refine ev_aload_n dc_X11_led_0 rfl ?_
  refine ev_iload_n dc_X11_led_1 rfl ?_
  obtain ⟨q2, hq2, h⟩ := Option.bind_eq_some_iff.mp h
  refine ev_callX (mc := 2) (ms := 12) (av := [.int a1]) (st := []) rfl dc_X11_led_2 (tX11_needWho hW i0 hq2) mw_1090 cy_X11_needWho i0 (by decide) rfl rfl rfl (Nat.le_of_ble_eq_true rfl) (Nat.le_of_ble_eq_true rfl) ⟨Nat.le_of_ble_eq_true rfl, Nat.le_of_ble_eq_true rfl⟩ ?_ ?_
  · intro e he
    rcases q2 with zs3 | zs3
    · have he : (Sum.inl (none, zs3) : XO) = .inr e := he
      cases he
    · have he : (Sum.inr zs3 : XO) = .inr e := he
      cases he
      dsimp only [Sum.elim] at h
      cases h
      exact ⟨rfl, Nat.le_of_ble_eq_true rfl, Nat.le_of_ble_eq_true rfl⟩
  intro e he
  rcases q2 with zs3 | zs3
  rotate_left
  · have he : (Sum.inr zs3 : XO) = .inl e := he
    cases he
  have he : (Sum.inl (none, zs3) : XO) = .inl e := he
  cases he
  dsimp only [Sum.elim] at h
  show Ev miX11_led (8, 2, 12) G (Zx G (xoI r) 2 12) SK (1, 6) 5 [some (.ref a0), some (.int a1), some (.int a2)] [] zs3
  refine ev_iload_n dc_X11_led_5 rfl ?_
  refine ev_iconst (v := (-1)) dc_X11_led_6 (by decide) ?_
  refine ev_icmp_eq (tgt := 15) dc_X11_led_7 (by decide) h (fun h => ?_) (fun h => ?_)
  · refine ev_wid (v := (2, 12)) ⟨Nat.le_of_ble_eq_true rfl, Nat.le_of_ble_eq_true rfl⟩ ?_
    exact ev_sub (tX11_led_b15 hW i0 h) (And.intro rfl (And.intro rfl (And.intro rfl trivial)))
  · refine ev_aload_n dc_X11_led_10 rfl ?_
    refine ev_iload_n dc_X11_led_11 rfl ?_
    obtain ⟨q4, hq4, h⟩ := Option.bind_eq_some_iff.mp h
    refine ev_callX (mc := 2) (ms := 12) (av := [.int a2]) (st := []) rfl dc_X11_led_12 (tX11_needWord hW i0 hq4) mw_1103 cy_X11_needWord i0 (by decide) rfl rfl rfl (Nat.le_of_ble_eq_true rfl) (Nat.le_of_ble_eq_true rfl) ⟨Nat.le_of_ble_eq_true rfl, Nat.le_of_ble_eq_true rfl⟩ ?_ ?_
    · intro e he
      rcases q4 with zs5 | zs5
      · have he : (Sum.inl (none, zs5) : XO) = .inr e := he
        cases he
      · have he : (Sum.inr zs5 : XO) = .inr e := he
        cases he
        dsimp only [Sum.elim] at h
        cases h
        exact ⟨rfl, Nat.le_of_ble_eq_true rfl, Nat.le_of_ble_eq_true rfl⟩
    intro e he
    rcases q4 with zs5 | zs5
    rotate_left
    · have he : (Sum.inr zs5 : XO) = .inl e := he
      cases he
    have he : (Sum.inl (none, zs5) : XO) = .inl e := he
    cases he
    dsimp only [Sum.elim] at h
    show Ev miX11_led (8, 2, 12) G (Zx G (xoI r) 2 12) SK (2, 12) 15 [some (.ref a0), some (.int a1), some (.int a2)] [] zs5
    exact ev_sub (tX11_led_b15 hW i0 h) (And.intro rfl (And.intro rfl (And.intro rfl trivial)))
theorem dc_X11_log_0 : Dc miX11_log 0 (.iload_n 2) 1 1 := ⟨by decide +kernel, rfl⟩
theorem dc_X11_log_1 : Dc miX11_log 1 (.ifCond .lt 8) 3 4 := ⟨by decide +kernel, rfl⟩
theorem dc_X11_log_4 : Dc miX11_log 4 (.iload_n 2) 1 5 := ⟨by decide +kernel, rfl⟩
theorem dc_X11_log_5 : Dc miX11_log 5 (.iconst 4) 1 6 := ⟨by decide +kernel, rfl⟩
theorem dc_X11_log_6 : Dc miX11_log 6 (.if_icmp .le 14) 3 9 := ⟨by decide +kernel, rfl⟩
theorem dc_X11_log_9 : Dc miX11_log 9 (.new 169) 3 12 := ⟨by decide +kernel, rfl⟩
theorem dc_X11_log_12 : Dc miX11_log 12 (.dup) 1 13 := ⟨by decide +kernel, rfl⟩
theorem dc_X11_log_13 : Dc miX11_log 13 (.ldc_w 381) 3 16 := ⟨by decide +kernel, rfl⟩
theorem dc_X11_log_16 : Dc miX11_log 16 (.invokespecial 173) 3 19 := ⟨by decide +kernel, rfl⟩
theorem dc_X11_log_19 : Dc miX11_log 19 (.athrow) 1 20 := ⟨by decide +kernel, rfl⟩
theorem dc_X11_log_20 : Dc miX11_log 20 (.aload_n 0) 1 21 := ⟨by decide +kernel, rfl⟩
theorem dc_X11_log_21 : Dc miX11_log 21 (.getfield 19) 3 24 := ⟨by decide +kernel, rfl⟩
theorem dc_X11_log_24 : Dc miX11_log 24 (.getfield 155) 3 27 := ⟨by decide +kernel, rfl⟩
theorem dc_X11_log_27 : Dc miX11_log 27 (.getfield 363) 3 30 := ⟨by decide +kernel, rfl⟩
theorem dc_X11_log_30 : Dc miX11_log 30 (.iload_n 1) 1 31 := ⟨by decide +kernel, rfl⟩
theorem dc_X11_log_31 : Dc miX11_log 31 (.iload_n 2) 1 32 := ⟨by decide +kernel, rfl⟩
theorem dc_X11_log_32 : Dc miX11_log 32 (.invokevirtual 383) 3 35 := ⟨by decide +kernel, rfl⟩
theorem dc_X11_log_35 : Dc miX11_log 35 (.ireturn) 1 36 := ⟨by decide +kernel, rfl⟩
def fX11_log (N : Nat) (G : pG) (a0 : Nat) (a1 : Int32) (a2 : Int32) (σ : pS) : Option ((Int32 × pS) ⊕ (String × pS)) := if a2 < 0 then (some (.inr ("java/util/NoSuchElementException", σ))) else (if a2 ≤ (4 : Int32) then ((fX2_part N G (pR G (pR G (pR G a0 1) 2) 8) a1 a2 σ).bind (fun q1 => some (.inl (q1, σ)))) else (some (.inr ("java/util/NoSuchElementException", σ))))
set_option maxRecDepth 100000 in
set_option maxHeartbeats 4000000 in
theorem tX11_log {N : Nat} {G : pG} {SK : Nat → Nat} {a0 : Nat} {a1 : Int32} {a2 : Int32} {σ : pS} {r : (Int32 × pS) ⊕ (String × pS)} (hW : WT G) (i0 : Is G a0 10) (h : fX11_log N G a0 a1 a2 σ = some r) : Dx miX11_log yX11_log 7 1 6 G SK [.ref a0, .int a1, .int a2] σ (xoI r) := by
  unfold fX11_log at h
  refine dx_of (lv := [some (.ref a0), some (.int a1), some (.int a2)]) (by decide) rfl rfl (Nat.le_of_ble_eq_true rfl) rfl ?_
  refine ev_iload_n dc_X11_log_0 rfl ?_
  refine ev_if_lt (tgt := 9) dc_X11_log_1 (by decide) h (fun h => ?_) (fun h => ?_)
  · cases h
    exact ev_throwNW (tx := "no such thing of a row of the log") rfl dc_X11_log_9 dc_X11_log_12 dc_X11_log_13 dc_X11_log_16 dc_X11_log_19 mw_1067 (List.mem_of_getElem? (i := 45) rfl) xn_X11_173 (Nat.le_of_ble_eq_true rfl) (Nat.le_of_ble_eq_true rfl) ⟨Nat.le_of_ble_eq_true rfl, Nat.le_of_ble_eq_true rfl⟩ ⟨Nat.le_of_ble_eq_true rfl, Nat.le_of_ble_eq_true rfl⟩
  · refine ev_iload_n dc_X11_log_4 rfl ?_
    refine ev_iconst (v := 4) dc_X11_log_5 (by decide) ?_
    refine ev_icmp_le (tgt := 20) dc_X11_log_6 (by decide) h (fun h => ?_) (fun h => ?_)
    · refine ev_aload_n dc_X11_log_20 rfl ?_
      refine ev_getR dc_X11_log_21 fi_X11_19 rfl i0 ?_
      refine ev_getR dc_X11_log_24 fi_X11_155 rfl (wt hW i0 1 rfl rfl) ?_
      refine ev_getR dc_X11_log_27 fi_X11_363 rfl (wt hW (wt hW i0 1 rfl rfl) 2 rfl rfl) ?_
      refine ev_iload_n dc_X11_log_30 rfl ?_
      refine ev_iload_n dc_X11_log_31 rfl ?_
      obtain ⟨q1, hq1, h⟩ := Option.bind_eq_some_iff.mp h
      refine ev_callV (av := [.int a1, .int a2]) (st := []) (st1 := [.int q1]) dc_X11_log_32 (tX2_part hW (wt hW (wt hW (wt hW i0 1 rfl rfl) 2 rfl rfl) 8 rfl rfl) hq1) mw_1481 cy_X2_part (wt hW (wt hW (wt hW i0 1 rfl rfl) 2 rfl rfl) 8 rfl rfl) (by decide) rfl rfl rfl rfl (Nat.le_of_ble_eq_true rfl) (Nat.le_of_ble_eq_true rfl) ⟨Nat.le_of_ble_eq_true rfl, Nat.le_of_ble_eq_true rfl⟩ ?_
      cases h
      exact ev_iretX dc_X11_log_35 rfl ⟨Nat.le_of_ble_eq_true rfl, Nat.le_of_ble_eq_true rfl⟩ rfl rfl
    · cases h
      exact ev_throwNW (tx := "no such thing of a row of the log") rfl dc_X11_log_9 dc_X11_log_12 dc_X11_log_13 dc_X11_log_16 dc_X11_log_19 mw_1067 (List.mem_of_getElem? (i := 45) rfl) xn_X11_173 (Nat.le_of_ble_eq_true rfl) (Nat.le_of_ble_eq_true rfl) ⟨Nat.le_of_ble_eq_true rfl, Nat.le_of_ble_eq_true rfl⟩ ⟨Nat.le_of_ble_eq_true rfl, Nat.le_of_ble_eq_true rfl⟩
theorem dc_X11_name_0 : Dc miX11_name 0 (.aload_n 0) 1 1 := ⟨by decide +kernel, rfl⟩
theorem dc_X11_name_1 : Dc miX11_name 1 (.iload_n 1) 1 2 := ⟨by decide +kernel, rfl⟩
theorem dc_X11_name_2 : Dc miX11_name 2 (.invokevirtual 141) 3 5 := ⟨by decide +kernel, rfl⟩
theorem dc_X11_name_5 : Dc miX11_name 5 (.iload_n 2) 1 6 := ⟨by decide +kernel, rfl⟩
theorem dc_X11_name_6 : Dc miX11_name 6 (.tableswitch 91 0 3 #[30, 45, 60, 83]) 30 36 := ⟨by decide +kernel, rfl⟩
theorem dc_X11_name_36 : Dc miX11_name 36 (.aload_n 0) 1 37 := ⟨by decide +kernel, rfl⟩
theorem dc_X11_name_37 : Dc miX11_name 37 (.getfield 19) 3 40 := ⟨by decide +kernel, rfl⟩
theorem dc_X11_name_40 : Dc miX11_name 40 (.getfield 104) 3 43 := ⟨by decide +kernel, rfl⟩
theorem dc_X11_name_43 : Dc miX11_name 43 (.getfield 144) 3 46 := ⟨by decide +kernel, rfl⟩
theorem dc_X11_name_46 : Dc miX11_name 46 (.iload_n 1) 1 47 := ⟨by decide +kernel, rfl⟩
theorem dc_X11_name_47 : Dc miX11_name 47 (.invokestatic 148) 3 50 := ⟨by decide +kernel, rfl⟩
theorem dc_X11_name_50 : Dc miX11_name 50 (.ireturn) 1 51 := ⟨by decide +kernel, rfl⟩
theorem dc_X11_name_51 : Dc miX11_name 51 (.aload_n 0) 1 52 := ⟨by decide +kernel, rfl⟩
theorem dc_X11_name_52 : Dc miX11_name 52 (.getfield 19) 3 55 := ⟨by decide +kernel, rfl⟩
theorem dc_X11_name_55 : Dc miX11_name 55 (.getfield 104) 3 58 := ⟨by decide +kernel, rfl⟩
theorem dc_X11_name_58 : Dc miX11_name 58 (.getfield 152) 3 61 := ⟨by decide +kernel, rfl⟩
theorem dc_X11_name_61 : Dc miX11_name 61 (.iload_n 1) 1 62 := ⟨by decide +kernel, rfl⟩
theorem dc_X11_name_62 : Dc miX11_name 62 (.invokestatic 148) 3 65 := ⟨by decide +kernel, rfl⟩
theorem dc_X11_name_65 : Dc miX11_name 65 (.ireturn) 1 66 := ⟨by decide +kernel, rfl⟩
theorem dc_X11_name_66 : Dc miX11_name 66 (.aload_n 0) 1 67 := ⟨by decide +kernel, rfl⟩
theorem dc_X11_name_67 : Dc miX11_name 67 (.getfield 19) 3 70 := ⟨by decide +kernel, rfl⟩
theorem dc_X11_name_70 : Dc miX11_name 70 (.getfield 155) 3 73 := ⟨by decide +kernel, rfl⟩
theorem dc_X11_name_73 : Dc miX11_name 73 (.getfield 158) 3 76 := ⟨by decide +kernel, rfl⟩
theorem dc_X11_name_76 : Dc miX11_name 76 (.iload_n 1) 1 77 := ⟨by decide +kernel, rfl⟩
theorem dc_X11_name_77 : Dc miX11_name 77 (.invokestatic 161) 3 80 := ⟨by decide +kernel, rfl⟩
theorem dc_X11_name_80 : Dc miX11_name 80 (.ifCond .eq 7) 3 83 := ⟨by decide +kernel, rfl⟩
theorem dc_X11_name_83 : Dc miX11_name 83 (.iconst 1) 1 84 := ⟨by decide +kernel, rfl⟩
theorem dc_X11_name_84 : Dc miX11_name 84 (.goto 4) 3 87 := ⟨by decide +kernel, rfl⟩
theorem dc_X11_name_87 : Dc miX11_name 87 (.iconst 0) 1 88 := ⟨by decide +kernel, rfl⟩
theorem dc_X11_name_88 : Dc miX11_name 88 (.ireturn) 1 89 := ⟨by decide +kernel, rfl⟩
theorem dc_X11_name_89 : Dc miX11_name 89 (.aload_n 0) 1 90 := ⟨by decide +kernel, rfl⟩
theorem dc_X11_name_90 : Dc miX11_name 90 (.iconst 1) 1 91 := ⟨by decide +kernel, rfl⟩
theorem dc_X11_name_91 : Dc miX11_name 91 (.iload_n 1) 1 92 := ⟨by decide +kernel, rfl⟩
theorem dc_X11_name_92 : Dc miX11_name 92 (.ishl) 1 93 := ⟨by decide +kernel, rfl⟩
theorem dc_X11_name_93 : Dc miX11_name 93 (.invokevirtual 165) 3 96 := ⟨by decide +kernel, rfl⟩
theorem dc_X11_name_96 : Dc miX11_name 96 (.ireturn) 1 97 := ⟨by decide +kernel, rfl⟩
theorem dc_X11_name_97 : Dc miX11_name 97 (.new 169) 3 100 := ⟨by decide +kernel, rfl⟩
theorem dc_X11_name_100 : Dc miX11_name 100 (.dup) 1 101 := ⟨by decide +kernel, rfl⟩
theorem dc_X11_name_101 : Dc miX11_name 101 (.ldc 171) 2 103 := ⟨by decide +kernel, rfl⟩
theorem dc_X11_name_103 : Dc miX11_name 103 (.invokespecial 173) 3 106 := ⟨by decide +kernel, rfl⟩
theorem dc_X11_name_106 : Dc miX11_name 106 (.athrow) 1 107 := ⟨by decide +kernel, rfl⟩
def fX11_name (N : Nat) (G : pG) (a0 : Nat) (a1 : Int32) (a2 : Int32) (σ : pS) : Option ((Int32 × pS) ⊕ (String × pS)) := (fX11_needName N G a0 a1 σ).bind (fun q1 => q1.elim (fun zs2 => if a2 = 0 then ((fX11_at N G (pR G (pR G (pR G a0 1) 0) 9) a1 zs2).bind (fun q3 => some (.inl (q3, zs2)))) else (if a2 = 1 then ((fX11_at N G (pR G (pR G (pR G a0 1) 0) 10) a1 zs2).bind (fun q4 => some (.inl (q4, zs2)))) else (if a2 = 2 then ((fX11_has N G (zs2.1 (pR G (pR G a0 1) 2) 3) a1 zs2).bind (fun q5 => if q5 = 0 then (some (.inl ((0 : Int32), zs2))) else (some (.inl ((1 : Int32), zs2))))) else (if a2 = 3 then ((fX11_beliefIn N G a0 ((1 : Int32) <<< (a1 &&& 31)) zs2).bind (fun q6 => some (.inl (q6, zs2)))) else (some (.inr ("java/util/NoSuchElementException", zs2))))))) (fun e => some (.inr e)))
set_option maxRecDepth 100000 in
set_option maxHeartbeats 4000000 in
theorem tX11_name {N : Nat} {G : pG} {SK : Nat → Nat} {a0 : Nat} {a1 : Int32} {a2 : Int32} {σ : pS} {r : (Int32 × pS) ⊕ (String × pS)} (hW : WT G) (i0 : Is G a0 10) (h : fX11_name N G a0 a1 a2 σ = some r) : Dx miX11_name yX11_name 8 2 12 G SK [.ref a0, .int a1, .int a2] σ (xoI r) := by
  unfold fX11_name at h
  refine dx_of (lv := [some (.ref a0), some (.int a1), some (.int a2)]) (by decide) rfl rfl (Nat.le_of_ble_eq_true rfl) rfl ?_
  refine ev_aload_n dc_X11_name_0 rfl ?_
  refine ev_iload_n dc_X11_name_1 rfl ?_
  obtain ⟨q1, hq1, h⟩ := Option.bind_eq_some_iff.mp h
  refine ev_callX (mc := 2) (ms := 12) (av := [.int a1]) (st := []) rfl dc_X11_name_2 (tX11_needName hW i0 hq1) mw_1039 cy_X11_needName i0 (by decide) rfl rfl rfl (Nat.le_of_ble_eq_true rfl) (Nat.le_of_ble_eq_true rfl) ⟨Nat.le_of_ble_eq_true rfl, Nat.le_of_ble_eq_true rfl⟩ ?_ ?_
  · intro e he
    rcases q1 with zs2 | zs2
    · have he : (Sum.inl (none, zs2) : XO) = .inr e := he
      cases he
    · have he : (Sum.inr zs2 : XO) = .inr e := he
      cases he
      dsimp only [Sum.elim] at h
      cases h
      exact ⟨rfl, Nat.le_of_ble_eq_true rfl, Nat.le_of_ble_eq_true rfl⟩
  intro e he
  rcases q1 with zs2 | zs2
  rotate_left
  · have he : (Sum.inr zs2 : XO) = .inl e := he
    cases he
  have he : (Sum.inl (none, zs2) : XO) = .inl e := he
  cases he
  dsimp only [Sum.elim] at h
  show Ev miX11_name (8, 2, 12) G (Zx G (xoI r) 2 12) SK (1, 6) 5 [some (.ref a0), some (.int a1), some (.int a2)] [] zs2
  refine ev_iload_n dc_X11_name_5 rfl ?_
  by_cases z0 : a2 = 0
  · rw [if_pos z0] at h
    refine ev_tabIn (tgt := 36) 0 z0 dc_X11_name_6 (by decide) (by decide) rfl (by decide) ?_
    refine ev_aload_n dc_X11_name_36 rfl ?_
    refine ev_getR dc_X11_name_37 fi_X11_19 rfl i0 ?_
    refine ev_getR dc_X11_name_40 fi_X11_104 rfl (wt hW i0 1 rfl rfl) ?_
    refine ev_getR dc_X11_name_43 fi_X11_144 rfl (wt hW (wt hW i0 1 rfl rfl) 0 rfl rfl) ?_
    refine ev_iload_n dc_X11_name_46 rfl ?_
    obtain ⟨q3, hq3, h⟩ := Option.bind_eq_some_iff.mp h
    refine ev_callS (av := [.ref (pR G (pR G (pR G a0 1) 0) 9), .int a1]) (st := []) (st1 := [.int q3]) dc_X11_name_47 (tX11_at hW (wt hW (wt hW (wt hW i0 1 rfl rfl) 0 rfl rfl) 9 rfl rfl) hq3) mw_567 cs_X11_at rfl rfl rfl (Nat.le_of_ble_eq_true rfl) (Nat.le_of_ble_eq_true rfl) ⟨Nat.le_of_ble_eq_true rfl, Nat.le_of_ble_eq_true rfl⟩ ?_
    cases h
    exact ev_iretX dc_X11_name_50 rfl ⟨Nat.le_of_ble_eq_true rfl, Nat.le_of_ble_eq_true rfl⟩ rfl rfl
  rw [if_neg z0] at h
  by_cases z1 : a2 = 1
  · rw [if_pos z1] at h
    refine ev_tabIn (tgt := 51) 1 z1 dc_X11_name_6 (by decide) (by decide) rfl (by decide) ?_
    refine ev_aload_n dc_X11_name_51 rfl ?_
    refine ev_getR dc_X11_name_52 fi_X11_19 rfl i0 ?_
    refine ev_getR dc_X11_name_55 fi_X11_104 rfl (wt hW i0 1 rfl rfl) ?_
    refine ev_getR dc_X11_name_58 fi_X11_152 rfl (wt hW (wt hW i0 1 rfl rfl) 0 rfl rfl) ?_
    refine ev_iload_n dc_X11_name_61 rfl ?_
    obtain ⟨q4, hq4, h⟩ := Option.bind_eq_some_iff.mp h
    refine ev_callS (av := [.ref (pR G (pR G (pR G a0 1) 0) 10), .int a1]) (st := []) (st1 := [.int q4]) dc_X11_name_62 (tX11_at hW (wt hW (wt hW (wt hW i0 1 rfl rfl) 0 rfl rfl) 10 rfl rfl) hq4) mw_567 cs_X11_at rfl rfl rfl (Nat.le_of_ble_eq_true rfl) (Nat.le_of_ble_eq_true rfl) ⟨Nat.le_of_ble_eq_true rfl, Nat.le_of_ble_eq_true rfl⟩ ?_
    cases h
    exact ev_iretX dc_X11_name_65 rfl ⟨Nat.le_of_ble_eq_true rfl, Nat.le_of_ble_eq_true rfl⟩ rfl rfl
  rw [if_neg z1] at h
  by_cases z2 : a2 = 2
  · rw [if_pos z2] at h
    refine ev_tabIn (tgt := 66) 2 z2 dc_X11_name_6 (by decide) (by decide) rfl (by decide) ?_
    refine ev_aload_n dc_X11_name_66 rfl ?_
    refine ev_getR dc_X11_name_67 fi_X11_19 rfl i0 ?_
    refine ev_getR dc_X11_name_70 fi_X11_155 rfl (wt hW i0 1 rfl rfl) ?_
    refine ev_getI dc_X11_name_73 fi_X11_158 rfl (wt hW (wt hW i0 1 rfl rfl) 2 rfl rfl) ?_
    refine ev_iload_n dc_X11_name_76 rfl ?_
    obtain ⟨q5, hq5, h⟩ := Option.bind_eq_some_iff.mp h
    refine ev_callS (av := [.int (zs2.1 (pR G (pR G a0 1) 2) 3), .int a1]) (st := []) (st1 := [.int q5]) dc_X11_name_77 (tX11_has hW hq5) mw_566 cs_X11_has rfl rfl rfl (Nat.le_of_ble_eq_true rfl) (Nat.le_of_ble_eq_true rfl) ⟨Nat.le_of_ble_eq_true rfl, Nat.le_of_ble_eq_true rfl⟩ ?_
    refine ev_if_eq (tgt := 87) dc_X11_name_80 (by decide) h (fun h => ?_) (fun h => ?_)
    · refine ev_iconst (v := 0) dc_X11_name_87 (by decide) ?_
      cases h
      exact ev_iretX dc_X11_name_88 rfl ⟨Nat.le_of_ble_eq_true rfl, Nat.le_of_ble_eq_true rfl⟩ rfl rfl
    · refine ev_iconst (v := 1) dc_X11_name_83 (by decide) ?_
      refine ev_goto (tgt := 88) dc_X11_name_84 (by decide) ?_
      cases h
      exact ev_iretX dc_X11_name_88 rfl ⟨Nat.le_of_ble_eq_true rfl, Nat.le_of_ble_eq_true rfl⟩ rfl rfl
  rw [if_neg z2] at h
  by_cases z3 : a2 = 3
  · rw [if_pos z3] at h
    refine ev_tabIn (tgt := 89) 3 z3 dc_X11_name_6 (by decide) (by decide) rfl (by decide) ?_
    refine ev_aload_n dc_X11_name_89 rfl ?_
    refine ev_iconst (v := 1) dc_X11_name_90 (by decide) ?_
    refine ev_iload_n dc_X11_name_91 rfl ?_
    refine ev_ishl dc_X11_name_92 ?_
    obtain ⟨q6, hq6, h⟩ := Option.bind_eq_some_iff.mp h
    refine ev_callV (av := [.int ((1 : Int32) <<< (a1 &&& 31))]) (st := []) (st1 := [.int q6]) dc_X11_name_93 (tX11_beliefIn hW i0 hq6) mw_1059 cy_X11_beliefIn i0 (by decide) rfl rfl rfl rfl (Nat.le_of_ble_eq_true rfl) (Nat.le_of_ble_eq_true rfl) ⟨Nat.le_of_ble_eq_true rfl, Nat.le_of_ble_eq_true rfl⟩ ?_
    cases h
    exact ev_iretX dc_X11_name_96 rfl ⟨Nat.le_of_ble_eq_true rfl, Nat.le_of_ble_eq_true rfl⟩ rfl rfl
  rw [if_neg z3] at h
  refine ev_tabOut (tgt := 97) dc_X11_name_6 ?_ (by decide) ?_
  · exact sw_out (lo := 0) (vs := [0, 1, 2, 3]) (by decide) (by decide) (And.intro z0 (And.intro z1 (And.intro z2 (And.intro z3 trivial))))
  cases h
  exact ev_throwN (tx := "no such thing of a name") rfl dc_X11_name_97 dc_X11_name_100 dc_X11_name_101 dc_X11_name_103 dc_X11_name_106 mw_1067 (List.mem_of_getElem? (i := 33) rfl) xn_X11_173 (Nat.le_of_ble_eq_true rfl) (Nat.le_of_ble_eq_true rfl) ⟨Nat.le_of_ble_eq_true rfl, Nat.le_of_ble_eq_true rfl⟩ ⟨Nat.le_of_ble_eq_true rfl, Nat.le_of_ble_eq_true rfl⟩
theorem dc_X11_nights_0 : Dc miX11_nights 0 (.aload_n 0) 1 1 := ⟨by decide +kernel, rfl⟩
theorem dc_X11_nights_1 : Dc miX11_nights 1 (.iload_n 1) 1 2 := ⟨by decide +kernel, rfl⟩
theorem dc_X11_nights_2 : Dc miX11_nights 2 (.iconst 1) 1 3 := ⟨by decide +kernel, rfl⟩
theorem dc_X11_nights_3 : Dc miX11_nights 3 (.if_icmp .lt 13) 3 6 := ⟨by decide +kernel, rfl⟩
theorem dc_X11_nights_6 : Dc miX11_nights 6 (.iload_n 1) 1 7 := ⟨by decide +kernel, rfl⟩
theorem dc_X11_nights_7 : Dc miX11_nights 7 (.bipush 60) 2 9 := ⟨by decide +kernel, rfl⟩
theorem dc_X11_nights_9 : Dc miX11_nights 9 (.if_icmp .gt 7) 3 12 := ⟨by decide +kernel, rfl⟩
theorem dc_X11_nights_12 : Dc miX11_nights 12 (.iconst 1) 1 13 := ⟨by decide +kernel, rfl⟩
theorem dc_X11_nights_13 : Dc miX11_nights 13 (.goto 4) 3 16 := ⟨by decide +kernel, rfl⟩
theorem dc_X11_nights_16 : Dc miX11_nights 16 (.iconst 0) 1 17 := ⟨by decide +kernel, rfl⟩
theorem dc_X11_nights_17 : Dc miX11_nights 17 (.invokevirtual 268) 3 20 := ⟨by decide +kernel, rfl⟩
theorem dc_X11_nights_20 : Dc miX11_nights 20 (.aload_n 0) 1 21 := ⟨by decide +kernel, rfl⟩
theorem dc_X11_nights_21 : Dc miX11_nights 21 (.getfield 32) 3 24 := ⟨by decide +kernel, rfl⟩
theorem dc_X11_nights_24 : Dc miX11_nights 24 (.aload_n 0) 1 25 := ⟨by decide +kernel, rfl⟩
theorem dc_X11_nights_25 : Dc miX11_nights 25 (.getfield 19) 3 28 := ⟨by decide +kernel, rfl⟩
theorem dc_X11_nights_28 : Dc miX11_nights 28 (.getfield 155) 3 31 := ⟨by decide +kernel, rfl⟩
theorem dc_X11_nights_31 : Dc miX11_nights 31 (.invokevirtual 224) 3 34 := ⟨by decide +kernel, rfl⟩
theorem dc_X11_nights_34 : Dc miX11_nights 34 (.iconst 0) 1 35 := ⟨by decide +kernel, rfl⟩
theorem dc_X11_nights_35 : Dc miX11_nights 35 (.istore_n 2) 1 36 := ⟨by decide +kernel, rfl⟩
theorem dc_X11_nights_36 : Dc miX11_nights 36 (.iconst 0) 1 37 := ⟨by decide +kernel, rfl⟩
theorem dc_X11_nights_37 : Dc miX11_nights 37 (.istore_n 3) 1 38 := ⟨by decide +kernel, rfl⟩
theorem dc_X11_nights_38 : Dc miX11_nights 38 (.iload_n 3) 1 39 := ⟨by decide +kernel, rfl⟩
theorem dc_X11_nights_39 : Dc miX11_nights 39 (.iload_n 1) 1 40 := ⟨by decide +kernel, rfl⟩
theorem dc_X11_nights_40 : Dc miX11_nights 40 (.if_icmp .ge 29) 3 43 := ⟨by decide +kernel, rfl⟩
theorem dc_X11_nights_43 : Dc miX11_nights 43 (.aload_n 0) 1 44 := ⟨by decide +kernel, rfl⟩
theorem dc_X11_nights_44 : Dc miX11_nights 44 (.getfield 19) 3 47 := ⟨by decide +kernel, rfl⟩
theorem dc_X11_nights_47 : Dc miX11_nights 47 (.aload_n 0) 1 48 := ⟨by decide +kernel, rfl⟩
theorem dc_X11_nights_48 : Dc miX11_nights 48 (.getfield 19) 3 51 := ⟨by decide +kernel, rfl⟩
theorem dc_X11_nights_51 : Dc miX11_nights 51 (.getfield 155) 3 54 := ⟨by decide +kernel, rfl⟩
theorem dc_X11_nights_54 : Dc miX11_nights 54 (.invokevirtual 271) 3 57 := ⟨by decide +kernel, rfl⟩
theorem dc_X11_nights_57 : Dc miX11_nights 57 (.ifCond .eq 12) 3 60 := ⟨by decide +kernel, rfl⟩
theorem dc_X11_nights_60 : Dc miX11_nights 60 (.iinc 2 1) 3 63 := ⟨by decide +kernel, rfl⟩
theorem dc_X11_nights_63 : Dc miX11_nights 63 (.iinc 3 1) 3 66 := ⟨by decide +kernel, rfl⟩
theorem dc_X11_nights_66 : Dc miX11_nights 66 (.goto (-28)) 3 69 := ⟨by decide +kernel, rfl⟩
theorem dc_X11_nights_69 : Dc miX11_nights 69 (.iload_n 2) 1 70 := ⟨by decide +kernel, rfl⟩
theorem dc_X11_nights_70 : Dc miX11_nights 70 (.ireturn) 1 71 := ⟨by decide +kernel, rfl⟩
def fX11_nights_b38 (N : Nat) (G : pG) (a0 : Nat) (a1 : Int32) : (Int32 × Int32 × pS) → Option ((Int32 × pS) ⊕ (String × pS)) := lp (fun (k38 : Int32 × Int32 × pS → Option ((Int32 × pS) ⊕ (String × pS))) (b : Int32 × Int32 × pS) => if a1 ≤ b.2.1 then (some (.inl (b.1, b.2.2))) else ((fX10_drawnNight N G (pR G a0 1) (pR G (pR G a0 1) 2) b.2.2).bind (fun q1 => if q1.1 = 0 then (some (.inl (b.1, q1.2))) else (k38 (b.1 + (1 : Int32), b.2.1 + (1 : Int32), q1.2))))) N
set_option maxRecDepth 100000 in
set_option maxHeartbeats 4000000 in
theorem tX11_nights_b38 {N : Nat} {G : pG} {SK : Nat → Nat} {a0 : Nat} {a1 : Int32} {b : Int32 × Int32 × pS} {r : (Int32 × pS) ⊕ (String × pS)} (hW : WT G) (i0 : Is G a0 10) (h : fX11_nights_b38 N G a0 a1 b = some r) : Ev miX11_nights (8, 1, 6) G (Zx G (xoI r) 1 6) SK (1, 6) 38 [some (.ref a0), some (.int a1), some (.int b.1), some (.int b.2.1)] [] b.2.2 := by
  unfold fX11_nights_b38 at h
  refine lp_ind (P := fun b r9 => r9 = r → Ev miX11_nights (8, 1, 6) G (Zx G (xoI r) 1 6) SK (1, 6) 38 [some (.ref a0), some (.int a1), some (.int b.1), some (.int b.2.1)] [] b.2.2) (fun k38 b r9 ih h9 e9 => ?_) N b r h rfl
  clear h
  subst e9
  have h := h9
  clear h9
  have hk38 : ∀ b : Int32 × Int32 × pS, k38 b = some r9 → Ev miX11_nights (8, 1, 6) G (Zx G (xoI r9) 1 6) SK (1, 6) 38 [some (.ref a0), some (.int a1), some (.int b.1), some (.int b.2.1)] [] b.2.2 := fun b hb => ih b r9 hb rfl
  clear ih
  obtain ⟨x2, x3, σ⟩ := b
  dsimp only at h ⊢
  refine ev_iload_n dc_X11_nights_38 rfl ?_
  refine ev_iload_n dc_X11_nights_39 rfl ?_
  refine ev_icmp_ge (tgt := 69) dc_X11_nights_40 (by decide) h (fun h => ?_) (fun h => ?_)
  · refine ev_iload_n dc_X11_nights_69 rfl ?_
    cases h
    exact ev_iretX dc_X11_nights_70 rfl ⟨Nat.le_of_ble_eq_true rfl, Nat.le_of_ble_eq_true rfl⟩ rfl rfl
  · refine ev_aload_n dc_X11_nights_43 rfl ?_
    refine ev_getR dc_X11_nights_44 fi_X11_19 rfl i0 ?_
    refine ev_aload_n dc_X11_nights_47 rfl ?_
    refine ev_getR dc_X11_nights_48 fi_X11_19 rfl i0 ?_
    refine ev_getR dc_X11_nights_51 fi_X11_155 rfl (wt hW i0 1 rfl rfl) ?_
    obtain ⟨q1, hq1, h⟩ := Option.bind_eq_some_iff.mp h
    refine ev_callV (av := [.ref (pR G (pR G a0 1) 2)]) (st := []) (st1 := [.int q1.1]) dc_X11_nights_54 (tX10_drawnNight hW (wt hW i0 1 rfl rfl) (wt hW (wt hW i0 1 rfl rfl) 2 rfl rfl) hq1) mw_1233 cy_X10_drawnNight (wt hW i0 1 rfl rfl) (by decide) rfl rfl rfl rfl (Nat.le_of_ble_eq_true rfl) (Nat.le_of_ble_eq_true rfl) ⟨Nat.le_of_ble_eq_true rfl, Nat.le_of_ble_eq_true rfl⟩ ?_
    refine ev_if_eq (tgt := 69) dc_X11_nights_57 (by decide) h (fun h => ?_) (fun h => ?_)
    · refine ev_iload_n dc_X11_nights_69 rfl ?_
      cases h
      exact ev_iretX dc_X11_nights_70 rfl ⟨Nat.le_of_ble_eq_true rfl, Nat.le_of_ble_eq_true rfl⟩ rfl rfl
    · refine ev_iinc (v := 1) (lv' := [some (.ref a0), some (.int a1), some (.int (x2 + (1 : Int32))), some (.int x3)]) dc_X11_nights_60 rfl (by decide) rfl (by decide) rfl ?_
      refine ev_iinc (v := 1) (lv' := [some (.ref a0), some (.int a1), some (.int (x2 + (1 : Int32))), some (.int (x3 + (1 : Int32)))]) dc_X11_nights_63 rfl (by decide) rfl (by decide) rfl ?_
      refine ev_goto (tgt := 38) dc_X11_nights_66 (by decide) ?_
      exact ev_sub (hk38 (x2 + (1 : Int32), x3 + (1 : Int32), q1.2) h) (And.intro rfl (And.intro rfl (And.intro rfl (And.intro rfl trivial))))
def fX11_nights_b17 (N : Nat) (G : pG) (a0 : Nat) (a1 : Int32) (y1 : Int32) (σ : pS) : Option ((Int32 × pS) ⊕ (String × pS)) := (fX11_need N G a0 y1 σ).bind (fun q2 => q2.elim (fun zs3 => (fX4_remember N G (pR G a0 4) (pR G (pR G a0 1) 2) zs3).bind (fun q4 => fX11_nights_b38 N G a0 a1 ((0 : Int32), (0 : Int32), q4))) (fun e => some (.inr e)))
set_option maxRecDepth 100000 in
set_option maxHeartbeats 4000000 in
theorem tX11_nights_b17 {N : Nat} {G : pG} {SK : Nat → Nat} {a0 : Nat} {a1 : Int32} {y1 : Int32} {σ : pS} {r : (Int32 × pS) ⊕ (String × pS)} (hW : WT G) (i0 : Is G a0 10) (h : fX11_nights_b17 N G a0 a1 y1 σ = some r) : Ev miX11_nights (8, 1, 6) G (Zx G (xoI r) 1 6) SK (0, 0) 17 [some (.ref a0), some (.int a1), none, none] [.int y1, .ref a0] σ := by
  unfold fX11_nights_b17 at h
  obtain ⟨q2, hq2, h⟩ := Option.bind_eq_some_iff.mp h
  refine ev_callX (mc := 1) (ms := 6) (av := [.int y1]) (st := []) rfl dc_X11_nights_17 (tX11_need hW i0 hq2) mw_1228 cy_X11_need i0 (by decide) rfl rfl rfl (Nat.le_of_ble_eq_true rfl) (Nat.le_of_ble_eq_true rfl) ⟨Nat.le_of_ble_eq_true rfl, Nat.le_of_ble_eq_true rfl⟩ ?_ ?_
  · intro e he
    rcases q2 with zs3 | zs3
    · have he : (Sum.inl (none, zs3) : XO) = .inr e := he
      cases he
    · have he : (Sum.inr zs3 : XO) = .inr e := he
      cases he
      dsimp only [Sum.elim] at h
      cases h
      exact ⟨rfl, Nat.le_of_ble_eq_true rfl, Nat.le_of_ble_eq_true rfl⟩
  intro e he
  rcases q2 with zs3 | zs3
  rotate_left
  · have he : (Sum.inr zs3 : XO) = .inl e := he
    cases he
  have he : (Sum.inl (none, zs3) : XO) = .inl e := he
  cases he
  dsimp only [Sum.elim] at h
  show Ev miX11_nights (8, 1, 6) G (Zx G (xoI r) 1 6) SK (1, 6) 20 [some (.ref a0), some (.int a1), none, none] [] zs3
  refine ev_aload_n dc_X11_nights_20 rfl ?_
  refine ev_getR dc_X11_nights_21 fi_X11_32 rfl i0 ?_
  refine ev_aload_n dc_X11_nights_24 rfl ?_
  refine ev_getR dc_X11_nights_25 fi_X11_19 rfl i0 ?_
  refine ev_getR dc_X11_nights_28 fi_X11_155 rfl (wt hW i0 1 rfl rfl) ?_
  obtain ⟨q4, hq4, h⟩ := Option.bind_eq_some_iff.mp h
  refine ev_callV (av := [.ref (pR G (pR G a0 1) 2)]) (st := []) (st1 := []) dc_X11_nights_31 (tX4_remember hW (wt hW i0 4 rfl rfl) (wt hW (wt hW i0 1 rfl rfl) 2 rfl rfl) hq4) mw_1156 cy_X4_remember (wt hW i0 4 rfl rfl) (by decide) rfl rfl rfl rfl (Nat.le_of_ble_eq_true rfl) (Nat.le_of_ble_eq_true rfl) ⟨Nat.le_of_ble_eq_true rfl, Nat.le_of_ble_eq_true rfl⟩ ?_
  refine ev_iconst (v := 0) dc_X11_nights_34 (by decide) ?_
  refine ev_istore_n (lv' := [some (.ref a0), some (.int a1), some (.int (0 : Int32)), none]) dc_X11_nights_35 rfl (by decide) rfl ?_
  refine ev_iconst (v := 0) dc_X11_nights_36 (by decide) ?_
  refine ev_istore_n (lv' := [some (.ref a0), some (.int a1), some (.int (0 : Int32)), some (.int (0 : Int32))]) dc_X11_nights_37 rfl (by decide) rfl ?_
  exact ev_sub (tX11_nights_b38 (b := ((0 : Int32), (0 : Int32), q4)) hW i0 h) (And.intro rfl (And.intro rfl (And.intro rfl (And.intro rfl trivial))))
def fX11_nights_b16 (N : Nat) (G : pG) (a0 : Nat) (a1 : Int32) (σ : pS) : Option ((Int32 × pS) ⊕ (String × pS)) := fX11_nights_b17 N G a0 a1 (0 : Int32) σ
set_option maxRecDepth 100000 in
set_option maxHeartbeats 4000000 in
theorem tX11_nights_b16 {N : Nat} {G : pG} {SK : Nat → Nat} {a0 : Nat} {a1 : Int32} {σ : pS} {r : (Int32 × pS) ⊕ (String × pS)} (hW : WT G) (i0 : Is G a0 10) (h : fX11_nights_b16 N G a0 a1 σ = some r) : Ev miX11_nights (8, 1, 6) G (Zx G (xoI r) 1 6) SK (0, 0) 16 [some (.ref a0), some (.int a1), none, none] [.ref a0] σ := by
  unfold fX11_nights_b16 at h
  refine ev_iconst (v := 0) dc_X11_nights_16 (by decide) ?_
  exact ev_sub (tX11_nights_b17 hW i0 h) (And.intro rfl (And.intro rfl trivial))
def fX11_nights (N : Nat) (G : pG) (a0 : Nat) (a1 : Int32) (σ : pS) : Option ((Int32 × pS) ⊕ (String × pS)) := if a1 < (1 : Int32) then (fX11_nights_b16 N G a0 a1 σ) else (if (60 : Int32) < a1 then (fX11_nights_b16 N G a0 a1 σ) else (fX11_nights_b17 N G a0 a1 (1 : Int32) σ))
set_option maxRecDepth 100000 in
set_option maxHeartbeats 4000000 in
theorem tX11_nights {N : Nat} {G : pG} {SK : Nat → Nat} {a0 : Nat} {a1 : Int32} {σ : pS} {r : (Int32 × pS) ⊕ (String × pS)} (hW : WT G) (i0 : Is G a0 10) (h : fX11_nights N G a0 a1 σ = some r) : Dx miX11_nights yX11_nights 8 1 6 G SK [.ref a0, .int a1] σ (xoI r) := by
  unfold fX11_nights at h
  refine dx_of (lv := [some (.ref a0), some (.int a1), none, none]) (by decide) rfl rfl (Nat.le_of_ble_eq_true rfl) rfl ?_
  refine ev_aload_n dc_X11_nights_0 rfl ?_
  refine ev_iload_n dc_X11_nights_1 rfl ?_
  refine ev_iconst (v := 1) dc_X11_nights_2 (by decide) ?_
  refine ev_icmp_lt (tgt := 16) dc_X11_nights_3 (by decide) h (fun h => ?_) (fun h => ?_)
  · exact ev_sub (tX11_nights_b16 hW i0 h) (And.intro rfl (And.intro rfl trivial))
  · refine ev_iload_n dc_X11_nights_6 rfl ?_
    refine ev_bipush (v := 60) dc_X11_nights_7 (by decide) ?_
    refine ev_icmp_gt (tgt := 16) dc_X11_nights_9 (by decide) h (fun h => ?_) (fun h => ?_)
    · exact ev_sub (tX11_nights_b16 hW i0 h) (And.intro rfl (And.intro rfl trivial))
    · refine ev_iconst (v := 1) dc_X11_nights_12 (by decide) ?_
      refine ev_goto (tgt := 17) dc_X11_nights_13 (by decide) ?_
      exact ev_sub (tX11_nights_b17 hW i0 h) (And.intro rfl (And.intro rfl trivial))
theorem dc_X11_plan_0 : Dc miX11_plan 0 (.aload_n 0) 1 1 := ⟨by decide +kernel, rfl⟩
theorem dc_X11_plan_1 : Dc miX11_plan 1 (.iload_n 1) 1 2 := ⟨by decide +kernel, rfl⟩
theorem dc_X11_plan_2 : Dc miX11_plan 2 (.iconst 1) 1 3 := ⟨by decide +kernel, rfl⟩
theorem dc_X11_plan_3 : Dc miX11_plan 3 (.if_icmp .lt 13) 3 6 := ⟨by decide +kernel, rfl⟩
theorem dc_X11_plan_6 : Dc miX11_plan 6 (.iload_n 1) 1 7 := ⟨by decide +kernel, rfl⟩
theorem dc_X11_plan_7 : Dc miX11_plan 7 (.bipush 12) 2 9 := ⟨by decide +kernel, rfl⟩
theorem dc_X11_plan_9 : Dc miX11_plan 9 (.if_icmp .gt 7) 3 12 := ⟨by decide +kernel, rfl⟩
theorem dc_X11_plan_12 : Dc miX11_plan 12 (.iconst 1) 1 13 := ⟨by decide +kernel, rfl⟩
theorem dc_X11_plan_13 : Dc miX11_plan 13 (.goto 4) 3 16 := ⟨by decide +kernel, rfl⟩
theorem dc_X11_plan_16 : Dc miX11_plan 16 (.iconst 0) 1 17 := ⟨by decide +kernel, rfl⟩
theorem dc_X11_plan_17 : Dc miX11_plan 17 (.invokevirtual 268) 3 20 := ⟨by decide +kernel, rfl⟩
theorem dc_X11_plan_20 : Dc miX11_plan 20 (.aload_n 0) 1 21 := ⟨by decide +kernel, rfl⟩
theorem dc_X11_plan_21 : Dc miX11_plan 21 (.getfield 19) 3 24 := ⟨by decide +kernel, rfl⟩
theorem dc_X11_plan_24 : Dc miX11_plan 24 (.getfield 155) 3 27 := ⟨by decide +kernel, rfl⟩
theorem dc_X11_plan_27 : Dc miX11_plan 27 (.getfield 216) 3 30 := ⟨by decide +kernel, rfl⟩
theorem dc_X11_plan_30 : Dc miX11_plan 30 (.ifCond .eq 7) 3 33 := ⟨by decide +kernel, rfl⟩
theorem dc_X11_plan_33 : Dc miX11_plan 33 (.iconst (-1)) 1 34 := ⟨by decide +kernel, rfl⟩
theorem dc_X11_plan_34 : Dc miX11_plan 34 (.goto 15) 3 37 := ⟨by decide +kernel, rfl⟩
theorem dc_X11_plan_37 : Dc miX11_plan 37 (.aload_n 0) 1 38 := ⟨by decide +kernel, rfl⟩
theorem dc_X11_plan_38 : Dc miX11_plan 38 (.getfield 46) 3 41 := ⟨by decide +kernel, rfl⟩
theorem dc_X11_plan_41 : Dc miX11_plan 41 (.aload_n 0) 1 42 := ⟨by decide +kernel, rfl⟩
theorem dc_X11_plan_42 : Dc miX11_plan 42 (.getfield 19) 3 45 := ⟨by decide +kernel, rfl⟩
theorem dc_X11_plan_45 : Dc miX11_plan 45 (.iload_n 1) 1 46 := ⟨by decide +kernel, rfl⟩
theorem dc_X11_plan_46 : Dc miX11_plan 46 (.invokevirtual 300) 3 49 := ⟨by decide +kernel, rfl⟩
theorem dc_X11_plan_49 : Dc miX11_plan 49 (.ireturn) 1 50 := ⟨by decide +kernel, rfl⟩
def fX11_plan_b17 (N : Nat) (G : pG) (a0 : Nat) (a1 : Int32) (y1 : Int32) (σ : pS) : Option ((Int32 × pS) ⊕ (String × pS)) := (fX11_need N G a0 y1 σ).bind (fun q1 => q1.elim (fun zs2 => if (zs2.1 (pR G (pR G a0 1) 2) 6) = 0 then ((fX6_opening N G (pR G a0 6) (pR G a0 1) a1 zs2).bind (fun q3 => some (.inl (q3.1, q3.2)))) else (some (.inl ((-1 : Int32), zs2)))) (fun e => some (.inr e)))
set_option maxRecDepth 100000 in
set_option maxHeartbeats 4000000 in
theorem tX11_plan_b17 {N : Nat} {G : pG} {SK : Nat → Nat} {a0 : Nat} {a1 : Int32} {y1 : Int32} {σ : pS} {r : (Int32 × pS) ⊕ (String × pS)} (hW : WT G) (i0 : Is G a0 10) (h : fX11_plan_b17 N G a0 a1 y1 σ = some r) : Ev miX11_plan (113, 1, 6) G (Zx G (xoI r) 1 6) SK (0, 0) 17 [some (.ref a0), some (.int a1)] [.int y1, .ref a0] σ := by
  unfold fX11_plan_b17 at h
  obtain ⟨q1, hq1, h⟩ := Option.bind_eq_some_iff.mp h
  refine ev_callX (mc := 1) (ms := 6) (av := [.int y1]) (st := []) rfl dc_X11_plan_17 (tX11_need hW i0 hq1) mw_1228 cy_X11_need i0 (by decide) rfl rfl rfl (Nat.le_of_ble_eq_true rfl) (Nat.le_of_ble_eq_true rfl) ⟨Nat.le_of_ble_eq_true rfl, Nat.le_of_ble_eq_true rfl⟩ ?_ ?_
  · intro e he
    rcases q1 with zs2 | zs2
    · have he : (Sum.inl (none, zs2) : XO) = .inr e := he
      cases he
    · have he : (Sum.inr zs2 : XO) = .inr e := he
      cases he
      dsimp only [Sum.elim] at h
      cases h
      exact ⟨rfl, Nat.le_of_ble_eq_true rfl, Nat.le_of_ble_eq_true rfl⟩
  intro e he
  rcases q1 with zs2 | zs2
  rotate_left
  · have he : (Sum.inr zs2 : XO) = .inl e := he
    cases he
  have he : (Sum.inl (none, zs2) : XO) = .inl e := he
  cases he
  dsimp only [Sum.elim] at h
  show Ev miX11_plan (113, 1, 6) G (Zx G (xoI r) 1 6) SK (1, 6) 20 [some (.ref a0), some (.int a1)] [] zs2
  refine ev_aload_n dc_X11_plan_20 rfl ?_
  refine ev_getR dc_X11_plan_21 fi_X11_19 rfl i0 ?_
  refine ev_getR dc_X11_plan_24 fi_X11_155 rfl (wt hW i0 1 rfl rfl) ?_
  refine ev_getI dc_X11_plan_27 fi_X11_216 rfl (wt hW (wt hW i0 1 rfl rfl) 2 rfl rfl) ?_
  refine ev_if_eq (tgt := 37) dc_X11_plan_30 (by decide) h (fun h => ?_) (fun h => ?_)
  · refine ev_aload_n dc_X11_plan_37 rfl ?_
    refine ev_getR dc_X11_plan_38 fi_X11_46 rfl i0 ?_
    refine ev_aload_n dc_X11_plan_41 rfl ?_
    refine ev_getR dc_X11_plan_42 fi_X11_19 rfl i0 ?_
    refine ev_iload_n dc_X11_plan_45 rfl ?_
    obtain ⟨q3, hq3, h⟩ := Option.bind_eq_some_iff.mp h
    refine ev_callV (av := [.ref (pR G a0 1), .int a1]) (st := []) (st1 := [.int q3.1]) dc_X11_plan_46 (tX6_opening hW (wt hW i0 6 rfl rfl) (wt hW i0 1 rfl rfl) hq3) mw_1329 cy_X6_opening (wt hW i0 6 rfl rfl) (by decide) rfl rfl rfl rfl (Nat.le_of_ble_eq_true rfl) (Nat.le_of_ble_eq_true rfl) ⟨Nat.le_of_ble_eq_true rfl, Nat.le_of_ble_eq_true rfl⟩ ?_
    cases h
    exact ev_iretX dc_X11_plan_49 rfl ⟨Nat.le_of_ble_eq_true rfl, Nat.le_of_ble_eq_true rfl⟩ rfl rfl
  · refine ev_iconst (v := (-1)) dc_X11_plan_33 (by decide) ?_
    refine ev_goto (tgt := 49) dc_X11_plan_34 (by decide) ?_
    cases h
    exact ev_iretX dc_X11_plan_49 rfl ⟨Nat.le_of_ble_eq_true rfl, Nat.le_of_ble_eq_true rfl⟩ rfl rfl
def fX11_plan_b16 (N : Nat) (G : pG) (a0 : Nat) (a1 : Int32) (σ : pS) : Option ((Int32 × pS) ⊕ (String × pS)) := fX11_plan_b17 N G a0 a1 (0 : Int32) σ
set_option maxRecDepth 100000 in
set_option maxHeartbeats 4000000 in
theorem tX11_plan_b16 {N : Nat} {G : pG} {SK : Nat → Nat} {a0 : Nat} {a1 : Int32} {σ : pS} {r : (Int32 × pS) ⊕ (String × pS)} (hW : WT G) (i0 : Is G a0 10) (h : fX11_plan_b16 N G a0 a1 σ = some r) : Ev miX11_plan (113, 1, 6) G (Zx G (xoI r) 1 6) SK (0, 0) 16 [some (.ref a0), some (.int a1)] [.ref a0] σ := by
  unfold fX11_plan_b16 at h
  refine ev_iconst (v := 0) dc_X11_plan_16 (by decide) ?_
  exact ev_sub (tX11_plan_b17 hW i0 h) (And.intro rfl (And.intro rfl trivial))
def fX11_plan (N : Nat) (G : pG) (a0 : Nat) (a1 : Int32) (σ : pS) : Option ((Int32 × pS) ⊕ (String × pS)) := if a1 < (1 : Int32) then (fX11_plan_b16 N G a0 a1 σ) else (if (12 : Int32) < a1 then (fX11_plan_b16 N G a0 a1 σ) else (fX11_plan_b17 N G a0 a1 (1 : Int32) σ))
set_option maxRecDepth 100000 in
set_option maxHeartbeats 4000000 in
theorem tX11_plan {N : Nat} {G : pG} {SK : Nat → Nat} {a0 : Nat} {a1 : Int32} {σ : pS} {r : (Int32 × pS) ⊕ (String × pS)} (hW : WT G) (i0 : Is G a0 10) (h : fX11_plan N G a0 a1 σ = some r) : Dx miX11_plan yX11_plan 113 1 6 G SK [.ref a0, .int a1] σ (xoI r) := by
  unfold fX11_plan at h
  refine dx_of (lv := [some (.ref a0), some (.int a1)]) (by decide) rfl rfl (Nat.le_of_ble_eq_true rfl) rfl ?_
  refine ev_aload_n dc_X11_plan_0 rfl ?_
  refine ev_iload_n dc_X11_plan_1 rfl ?_
  refine ev_iconst (v := 1) dc_X11_plan_2 (by decide) ?_
  refine ev_icmp_lt (tgt := 16) dc_X11_plan_3 (by decide) h (fun h => ?_) (fun h => ?_)
  · exact ev_sub (tX11_plan_b16 hW i0 h) (And.intro rfl (And.intro rfl trivial))
  · refine ev_iload_n dc_X11_plan_6 rfl ?_
    refine ev_bipush (v := 12) dc_X11_plan_7 (by decide) ?_
    refine ev_icmp_gt (tgt := 16) dc_X11_plan_9 (by decide) h (fun h => ?_) (fun h => ?_)
    · exact ev_sub (tX11_plan_b16 hW i0 h) (And.intro rfl (And.intro rfl trivial))
    · refine ev_iconst (v := 1) dc_X11_plan_12 (by decide) ?_
      refine ev_goto (tgt := 17) dc_X11_plan_13 (by decide) ?_
      exact ev_sub (tX11_plan_b17 hW i0 h) (And.intro rfl (And.intro rfl trivial))
theorem dc_X11_say_0 : Dc miX11_say 0 (.aload_n 0) 1 1 := ⟨by decide +kernel, rfl⟩
theorem dc_X11_say_1 : Dc miX11_say 1 (.iload_n 1) 1 2 := ⟨by decide +kernel, rfl⟩
theorem dc_X11_say_2 : Dc miX11_say 2 (.invokevirtual 174) 3 5 := ⟨by decide +kernel, rfl⟩
theorem dc_X11_say_5 : Dc miX11_say 5 (.aload_n 0) 1 6 := ⟨by decide +kernel, rfl⟩
theorem dc_X11_say_6 : Dc miX11_say 6 (.iload_n 2) 1 7 := ⟨by decide +kernel, rfl⟩
theorem dc_X11_say_7 : Dc miX11_say 7 (.invokevirtual 188) 3 10 := ⟨by decide +kernel, rfl⟩
theorem dc_X11_say_10 : Dc miX11_say 10 (.aload_n 0) 1 11 := ⟨by decide +kernel, rfl⟩
theorem dc_X11_say_11 : Dc miX11_say 11 (.getfield 19) 3 14 := ⟨by decide +kernel, rfl⟩
theorem dc_X11_say_14 : Dc miX11_say 14 (.getfield 155) 3 17 := ⟨by decide +kernel, rfl⟩
theorem dc_X11_say_17 : Dc miX11_say 17 (.getfield 216) 3 20 := ⟨by decide +kernel, rfl⟩
theorem dc_X11_say_20 : Dc miX11_say 20 (.ifCond .ne 20) 3 23 := ⟨by decide +kernel, rfl⟩
theorem dc_X11_say_23 : Dc miX11_say 23 (.aload_n 0) 1 24 := ⟨by decide +kernel, rfl⟩
theorem dc_X11_say_24 : Dc miX11_say 24 (.getfield 19) 3 27 := ⟨by decide +kernel, rfl⟩
theorem dc_X11_say_27 : Dc miX11_say 27 (.getfield 155) 3 30 := ⟨by decide +kernel, rfl⟩
theorem dc_X11_say_30 : Dc miX11_say 30 (.getfield 183) 3 33 := ⟨by decide +kernel, rfl⟩
theorem dc_X11_say_33 : Dc miX11_say 33 (.iload_n 1) 1 34 := ⟨by decide +kernel, rfl⟩
theorem dc_X11_say_34 : Dc miX11_say 34 (.invokestatic 161) 3 37 := ⟨by decide +kernel, rfl⟩
theorem dc_X11_say_37 : Dc miX11_say 37 (.ifCond .ne 13) 3 40 := ⟨by decide +kernel, rfl⟩
theorem dc_X11_say_40 : Dc miX11_say 40 (.new 219) 3 43 := ⟨by decide +kernel, rfl⟩
theorem dc_X11_say_43 : Dc miX11_say 43 (.dup) 1 44 := ⟨by decide +kernel, rfl⟩
theorem dc_X11_say_44 : Dc miX11_say 44 (.ldc 221) 2 46 := ⟨by decide +kernel, rfl⟩
theorem dc_X11_say_46 : Dc miX11_say 46 (.invokespecial 223) 3 49 := ⟨by decide +kernel, rfl⟩
theorem dc_X11_say_49 : Dc miX11_say 49 (.athrow) 1 50 := ⟨by decide +kernel, rfl⟩
theorem dc_X11_say_50 : Dc miX11_say 50 (.aload_n 0) 1 51 := ⟨by decide +kernel, rfl⟩
theorem dc_X11_say_51 : Dc miX11_say 51 (.getfield 32) 3 54 := ⟨by decide +kernel, rfl⟩
theorem dc_X11_say_54 : Dc miX11_say 54 (.aload_n 0) 1 55 := ⟨by decide +kernel, rfl⟩
theorem dc_X11_say_55 : Dc miX11_say 55 (.getfield 19) 3 58 := ⟨by decide +kernel, rfl⟩
theorem dc_X11_say_58 : Dc miX11_say 58 (.getfield 155) 3 61 := ⟨by decide +kernel, rfl⟩
theorem dc_X11_say_61 : Dc miX11_say 61 (.invokevirtual 224) 3 64 := ⟨by decide +kernel, rfl⟩
theorem dc_X11_say_64 : Dc miX11_say 64 (.aload_n 0) 1 65 := ⟨by decide +kernel, rfl⟩
theorem dc_X11_say_65 : Dc miX11_say 65 (.getfield 19) 3 68 := ⟨by decide +kernel, rfl⟩
theorem dc_X11_say_68 : Dc miX11_say 68 (.aload_n 0) 1 69 := ⟨by decide +kernel, rfl⟩
theorem dc_X11_say_69 : Dc miX11_say 69 (.getfield 19) 3 72 := ⟨by decide +kernel, rfl⟩
theorem dc_X11_say_72 : Dc miX11_say 72 (.getfield 155) 3 75 := ⟨by decide +kernel, rfl⟩
theorem dc_X11_say_75 : Dc miX11_say 75 (.iload_n 1) 1 76 := ⟨by decide +kernel, rfl⟩
theorem dc_X11_say_76 : Dc miX11_say 76 (.iload_n 2) 1 77 := ⟨by decide +kernel, rfl⟩
theorem dc_X11_say_77 : Dc miX11_say 77 (.invokevirtual 228) 3 80 := ⟨by decide +kernel, rfl⟩
theorem dc_X11_say_80 : Dc miX11_say 80 (.aload_n 0) 1 81 := ⟨by decide +kernel, rfl⟩
theorem dc_X11_say_81 : Dc miX11_say 81 (.getfield 19) 3 84 := ⟨by decide +kernel, rfl⟩
theorem dc_X11_say_84 : Dc miX11_say 84 (.getfield 155) 3 87 := ⟨by decide +kernel, rfl⟩
theorem dc_X11_say_87 : Dc miX11_say 87 (.getfield 232) 3 90 := ⟨by decide +kernel, rfl⟩
theorem dc_X11_say_90 : Dc miX11_say 90 (.ireturn) 1 91 := ⟨by decide +kernel, rfl⟩
def fX11_say (N : Nat) (G : pG) (a0 : Nat) (a1 : Int32) (a2 : Int32) (σ : pS) : Option ((Int32 × pS) ⊕ (String × pS)) := (fX11_needWho N G a0 a1 σ).bind (fun q1 => q1.elim (fun zs2 => (fX11_needWord N G a0 a2 zs2).bind (fun q3 => q3.elim (fun zs4 => if (zs4.1 (pR G (pR G a0 1) 2) 6) = 0 then ((fX11_has N G (zs4.1 (pR G (pR G a0 1) 2) 4) a1 zs4).bind (fun q5 => if q5 = 0 then (some (.inr ("java/lang/IllegalStateException", zs4))) else ((fX4_remember N G (pR G a0 4) (pR G (pR G a0 1) 2) zs4).bind (fun q6 => (fX10_speak N G (pR G a0 1) (pR G (pR G a0 1) 2) a1 a2 q6).bind (fun q7 => some (.inl (q7.1 (pR G (pR G a0 1) 2) 0, q7))))))) else (some (.inr ("java/lang/IllegalStateException", zs4)))) (fun e => some (.inr e)))) (fun e => some (.inr e)))
set_option maxRecDepth 100000 in
set_option maxHeartbeats 4000000 in
theorem tX11_say {N : Nat} {G : pG} {SK : Nat → Nat} {a0 : Nat} {a1 : Int32} {a2 : Int32} {σ : pS} {r : (Int32 × pS) ⊕ (String × pS)} (hW : WT G) (i0 : Is G a0 10) (h : fX11_say N G a0 a1 a2 σ = some r) : Dx miX11_say yX11_say 8 3 18 G SK [.ref a0, .int a1, .int a2] σ (xoI r) := by
  unfold fX11_say at h
  refine dx_of (lv := [some (.ref a0), some (.int a1), some (.int a2)]) (by decide) rfl rfl (Nat.le_of_ble_eq_true rfl) rfl ?_
  refine ev_aload_n dc_X11_say_0 rfl ?_
  refine ev_iload_n dc_X11_say_1 rfl ?_
  obtain ⟨q1, hq1, h⟩ := Option.bind_eq_some_iff.mp h
  refine ev_callX (mc := 3) (ms := 18) (av := [.int a1]) (st := []) rfl dc_X11_say_2 (tX11_needWho hW i0 hq1) mw_1090 cy_X11_needWho i0 (by decide) rfl rfl rfl (Nat.le_of_ble_eq_true rfl) (Nat.le_of_ble_eq_true rfl) ⟨Nat.le_of_ble_eq_true rfl, Nat.le_of_ble_eq_true rfl⟩ ?_ ?_
  · intro e he
    rcases q1 with zs2 | zs2
    · have he : (Sum.inl (none, zs2) : XO) = .inr e := he
      cases he
    · have he : (Sum.inr zs2 : XO) = .inr e := he
      cases he
      dsimp only [Sum.elim] at h
      cases h
      exact ⟨rfl, Nat.le_of_ble_eq_true rfl, Nat.le_of_ble_eq_true rfl⟩
  intro e he
  rcases q1 with zs2 | zs2
  rotate_left
  · have he : (Sum.inr zs2 : XO) = .inl e := he
    cases he
  have he : (Sum.inl (none, zs2) : XO) = .inl e := he
  cases he
  dsimp only [Sum.elim] at h
  show Ev miX11_say (8, 3, 18) G (Zx G (xoI r) 3 18) SK (1, 6) 5 [some (.ref a0), some (.int a1), some (.int a2)] [] zs2
  refine ev_aload_n dc_X11_say_5 rfl ?_
  refine ev_iload_n dc_X11_say_6 rfl ?_
  obtain ⟨q3, hq3, h⟩ := Option.bind_eq_some_iff.mp h
  refine ev_callX (mc := 3) (ms := 18) (av := [.int a2]) (st := []) rfl dc_X11_say_7 (tX11_needWord hW i0 hq3) mw_1103 cy_X11_needWord i0 (by decide) rfl rfl rfl (Nat.le_of_ble_eq_true rfl) (Nat.le_of_ble_eq_true rfl) ⟨Nat.le_of_ble_eq_true rfl, Nat.le_of_ble_eq_true rfl⟩ ?_ ?_
  · intro e he
    rcases q3 with zs4 | zs4
    · have he : (Sum.inl (none, zs4) : XO) = .inr e := he
      cases he
    · have he : (Sum.inr zs4 : XO) = .inr e := he
      cases he
      dsimp only [Sum.elim] at h
      cases h
      exact ⟨rfl, Nat.le_of_ble_eq_true rfl, Nat.le_of_ble_eq_true rfl⟩
  intro e he
  rcases q3 with zs4 | zs4
  rotate_left
  · have he : (Sum.inr zs4 : XO) = .inl e := he
    cases he
  have he : (Sum.inl (none, zs4) : XO) = .inl e := he
  cases he
  dsimp only [Sum.elim] at h
  show Ev miX11_say (8, 3, 18) G (Zx G (xoI r) 3 18) SK (2, 12) 10 [some (.ref a0), some (.int a1), some (.int a2)] [] zs4
  refine ev_aload_n dc_X11_say_10 rfl ?_
  refine ev_getR dc_X11_say_11 fi_X11_19 rfl i0 ?_
  refine ev_getR dc_X11_say_14 fi_X11_155 rfl (wt hW i0 1 rfl rfl) ?_
  refine ev_getI dc_X11_say_17 fi_X11_216 rfl (wt hW (wt hW i0 1 rfl rfl) 2 rfl rfl) ?_
  refine ev_if_ne (tgt := 40) dc_X11_say_20 (by decide) h (fun h => ?_) (fun h => ?_)
  · refine ev_aload_n dc_X11_say_23 rfl ?_
    refine ev_getR dc_X11_say_24 fi_X11_19 rfl i0 ?_
    refine ev_getR dc_X11_say_27 fi_X11_155 rfl (wt hW i0 1 rfl rfl) ?_
    refine ev_getI dc_X11_say_30 fi_X11_183 rfl (wt hW (wt hW i0 1 rfl rfl) 2 rfl rfl) ?_
    refine ev_iload_n dc_X11_say_33 rfl ?_
    obtain ⟨q5, hq5, h⟩ := Option.bind_eq_some_iff.mp h
    refine ev_callS (av := [.int (zs4.1 (pR G (pR G a0 1) 2) 4), .int a1]) (st := []) (st1 := [.int q5]) dc_X11_say_34 (tX11_has hW hq5) mw_566 cs_X11_has rfl rfl rfl (Nat.le_of_ble_eq_true rfl) (Nat.le_of_ble_eq_true rfl) ⟨Nat.le_of_ble_eq_true rfl, Nat.le_of_ble_eq_true rfl⟩ ?_
    refine ev_if_ne (tgt := 50) dc_X11_say_37 (by decide) h (fun h => ?_) (fun h => ?_)
    · cases h
      exact ev_throwS (tx := "he is gone, or that one is kept away") rfl dc_X11_say_40 dc_X11_say_43 dc_X11_say_44 dc_X11_say_46 dc_X11_say_49 mw_1140 (List.mem_of_getElem? (i := 39) rfl) xa_X11_223 (Nat.le_of_ble_eq_true rfl) (Nat.le_of_ble_eq_true rfl) ⟨Nat.le_of_ble_eq_true rfl, Nat.le_of_ble_eq_true rfl⟩ ⟨Nat.le_of_ble_eq_true rfl, Nat.le_of_ble_eq_true rfl⟩
    · refine ev_aload_n dc_X11_say_50 rfl ?_
      refine ev_getR dc_X11_say_51 fi_X11_32 rfl i0 ?_
      refine ev_aload_n dc_X11_say_54 rfl ?_
      refine ev_getR dc_X11_say_55 fi_X11_19 rfl i0 ?_
      refine ev_getR dc_X11_say_58 fi_X11_155 rfl (wt hW i0 1 rfl rfl) ?_
      obtain ⟨q6, hq6, h⟩ := Option.bind_eq_some_iff.mp h
      refine ev_callV (av := [.ref (pR G (pR G a0 1) 2)]) (st := []) (st1 := []) dc_X11_say_61 (tX4_remember hW (wt hW i0 4 rfl rfl) (wt hW (wt hW i0 1 rfl rfl) 2 rfl rfl) hq6) mw_1156 cy_X4_remember (wt hW i0 4 rfl rfl) (by decide) rfl rfl rfl rfl (Nat.le_of_ble_eq_true rfl) (Nat.le_of_ble_eq_true rfl) ⟨Nat.le_of_ble_eq_true rfl, Nat.le_of_ble_eq_true rfl⟩ ?_
      refine ev_aload_n dc_X11_say_64 rfl ?_
      refine ev_getR dc_X11_say_65 fi_X11_19 rfl i0 ?_
      refine ev_aload_n dc_X11_say_68 rfl ?_
      refine ev_getR dc_X11_say_69 fi_X11_19 rfl i0 ?_
      refine ev_getR dc_X11_say_72 fi_X11_155 rfl (wt hW i0 1 rfl rfl) ?_
      refine ev_iload_n dc_X11_say_75 rfl ?_
      refine ev_iload_n dc_X11_say_76 rfl ?_
      obtain ⟨q7, hq7, h⟩ := Option.bind_eq_some_iff.mp h
      refine ev_callV (av := [.ref (pR G (pR G a0 1) 2), .int a1, .int a2]) (st := []) (st1 := []) dc_X11_say_77 (tX10_speak hW (wt hW i0 1 rfl rfl) (wt hW (wt hW i0 1 rfl rfl) 2 rfl rfl) hq7) mw_1160 cy_X10_speak (wt hW i0 1 rfl rfl) (by decide) rfl rfl rfl rfl (Nat.le_of_ble_eq_true rfl) (Nat.le_of_ble_eq_true rfl) ⟨Nat.le_of_ble_eq_true rfl, Nat.le_of_ble_eq_true rfl⟩ ?_
      refine ev_aload_n dc_X11_say_80 rfl ?_
      refine ev_getR dc_X11_say_81 fi_X11_19 rfl i0 ?_
      refine ev_getR dc_X11_say_84 fi_X11_155 rfl (wt hW i0 1 rfl rfl) ?_
      refine ev_getI dc_X11_say_87 fi_X11_232 rfl (wt hW (wt hW i0 1 rfl rfl) 2 rfl rfl) ?_
      cases h
      exact ev_iretX dc_X11_say_90 rfl ⟨Nat.le_of_ble_eq_true rfl, Nat.le_of_ble_eq_true rfl⟩ rfl rfl
  · cases h
    exact ev_throwS (tx := "he is gone, or that one is kept away") rfl dc_X11_say_40 dc_X11_say_43 dc_X11_say_44 dc_X11_say_46 dc_X11_say_49 mw_1140 (List.mem_of_getElem? (i := 39) rfl) xa_X11_223 (Nat.le_of_ble_eq_true rfl) (Nat.le_of_ble_eq_true rfl) ⟨Nat.le_of_ble_eq_true rfl, Nat.le_of_ble_eq_true rfl⟩ ⟨Nat.le_of_ble_eq_true rfl, Nat.le_of_ble_eq_true rfl⟩
theorem dc_X11_sharpest_0 : Dc miX11_sharpest 0 (.aload_n 0) 1 1 := ⟨by decide +kernel, rfl⟩
theorem dc_X11_sharpest_1 : Dc miX11_sharpest 1 (.iload_n 1) 1 2 := ⟨by decide +kernel, rfl⟩
theorem dc_X11_sharpest_2 : Dc miX11_sharpest 2 (.invokevirtual 174) 3 5 := ⟨by decide +kernel, rfl⟩
theorem dc_X11_sharpest_5 : Dc miX11_sharpest 5 (.iconst (-1)) 1 6 := ⟨by decide +kernel, rfl⟩
theorem dc_X11_sharpest_6 : Dc miX11_sharpest 6 (.istore_n 2) 1 7 := ⟨by decide +kernel, rfl⟩
theorem dc_X11_sharpest_7 : Dc miX11_sharpest 7 (.iconst (-1)) 1 8 := ⟨by decide +kernel, rfl⟩
theorem dc_X11_sharpest_8 : Dc miX11_sharpest 8 (.istore_n 3) 1 9 := ⟨by decide +kernel, rfl⟩
theorem dc_X11_sharpest_9 : Dc miX11_sharpest 9 (.iconst 0) 1 10 := ⟨by decide +kernel, rfl⟩
theorem dc_X11_sharpest_10 : Dc miX11_sharpest 10 (.istore 4) 2 12 := ⟨by decide +kernel, rfl⟩
theorem dc_X11_sharpest_12 : Dc miX11_sharpest 12 (.iload 4) 2 14 := ⟨by decide +kernel, rfl⟩
theorem dc_X11_sharpest_14 : Dc miX11_sharpest 14 (.aload_n 0) 1 15 := ⟨by decide +kernel, rfl⟩
theorem dc_X11_sharpest_15 : Dc miX11_sharpest 15 (.getfield 19) 3 18 := ⟨by decide +kernel, rfl⟩
theorem dc_X11_sharpest_18 : Dc miX11_sharpest 18 (.getfield 104) 3 21 := ⟨by decide +kernel, rfl⟩
theorem dc_X11_sharpest_21 : Dc miX11_sharpest 21 (.getfield 313) 3 24 := ⟨by decide +kernel, rfl⟩
theorem dc_X11_sharpest_24 : Dc miX11_sharpest 24 (.if_icmp .ge 40) 3 27 := ⟨by decide +kernel, rfl⟩
theorem dc_X11_sharpest_27 : Dc miX11_sharpest 27 (.aload_n 0) 1 28 := ⟨by decide +kernel, rfl⟩
theorem dc_X11_sharpest_28 : Dc miX11_sharpest 28 (.getfield 19) 3 31 := ⟨by decide +kernel, rfl⟩
theorem dc_X11_sharpest_31 : Dc miX11_sharpest 31 (.aload_n 0) 1 32 := ⟨by decide +kernel, rfl⟩
theorem dc_X11_sharpest_32 : Dc miX11_sharpest 32 (.getfield 19) 3 35 := ⟨by decide +kernel, rfl⟩
theorem dc_X11_sharpest_35 : Dc miX11_sharpest 35 (.getfield 155) 3 38 := ⟨by decide +kernel, rfl⟩
theorem dc_X11_sharpest_38 : Dc miX11_sharpest 38 (.iload_n 1) 1 39 := ⟨by decide +kernel, rfl⟩
theorem dc_X11_sharpest_39 : Dc miX11_sharpest 39 (.iload 4) 2 41 := ⟨by decide +kernel, rfl⟩
theorem dc_X11_sharpest_41 : Dc miX11_sharpest 41 (.invokevirtual 212) 3 44 := ⟨by decide +kernel, rfl⟩
theorem dc_X11_sharpest_44 : Dc miX11_sharpest 44 (.istore 5) 2 46 := ⟨by decide +kernel, rfl⟩
theorem dc_X11_sharpest_46 : Dc miX11_sharpest 46 (.iload 5) 2 48 := ⟨by decide +kernel, rfl⟩
theorem dc_X11_sharpest_48 : Dc miX11_sharpest 48 (.iload_n 3) 1 49 := ⟨by decide +kernel, rfl⟩
theorem dc_X11_sharpest_49 : Dc miX11_sharpest 49 (.if_icmp .le 9) 3 52 := ⟨by decide +kernel, rfl⟩
theorem dc_X11_sharpest_52 : Dc miX11_sharpest 52 (.iload 4) 2 54 := ⟨by decide +kernel, rfl⟩
theorem dc_X11_sharpest_54 : Dc miX11_sharpest 54 (.istore_n 2) 1 55 := ⟨by decide +kernel, rfl⟩
theorem dc_X11_sharpest_55 : Dc miX11_sharpest 55 (.iload 5) 2 57 := ⟨by decide +kernel, rfl⟩
theorem dc_X11_sharpest_57 : Dc miX11_sharpest 57 (.istore_n 3) 1 58 := ⟨by decide +kernel, rfl⟩
theorem dc_X11_sharpest_58 : Dc miX11_sharpest 58 (.iinc 4 1) 3 61 := ⟨by decide +kernel, rfl⟩
theorem dc_X11_sharpest_61 : Dc miX11_sharpest 61 (.goto (-49)) 3 64 := ⟨by decide +kernel, rfl⟩
theorem dc_X11_sharpest_64 : Dc miX11_sharpest 64 (.iload_n 2) 1 65 := ⟨by decide +kernel, rfl⟩
theorem dc_X11_sharpest_65 : Dc miX11_sharpest 65 (.ireturn) 1 66 := ⟨by decide +kernel, rfl⟩
def fX11_sharpest_b12 (N : Nat) (G : pG) (a0 : Nat) (a1 : Int32) : (Int32 × Int32 × Int32 × pS) → Option ((Int32 × pS) ⊕ (String × pS)) := lp (fun (k12 : Int32 × Int32 × Int32 × pS → Option ((Int32 × pS) ⊕ (String × pS))) (b : Int32 × Int32 × Int32 × pS) => if (b.2.2.2.1 (pR G (pR G a0 1) 0) 2) ≤ b.2.2.1 then (some (.inl (b.1, b.2.2.2))) else ((fX10_stingOf N G (pR G a0 1) (pR G (pR G a0 1) 2) a1 b.2.2.1 b.2.2.2).bind (fun q1 => if q1.1 ≤ b.2.1 then (k12 (b.1, b.2.1, b.2.2.1 + (1 : Int32), q1.2)) else (k12 (b.2.2.1, q1.1, b.2.2.1 + (1 : Int32), q1.2))))) N
set_option maxRecDepth 100000 in
set_option maxHeartbeats 4000000 in
theorem tX11_sharpest_b12 {N : Nat} {G : pG} {SK : Nat → Nat} {a0 : Nat} {a1 : Int32} {b : Int32 × Int32 × Int32 × pS} {r : (Int32 × pS) ⊕ (String × pS)} (hW : WT G) (i0 : Is G a0 10) (h : fX11_sharpest_b12 N G a0 a1 b = some r) : Ev miX11_sharpest (8, 1, 6) G (Zx G (xoI r) 1 6) SK (1, 6) 12 [some (.ref a0), some (.int a1), some (.int b.1), some (.int b.2.1), some (.int b.2.2.1), none] [] b.2.2.2 := by
  unfold fX11_sharpest_b12 at h
  refine lp_ind (P := fun b r9 => r9 = r → Ev miX11_sharpest (8, 1, 6) G (Zx G (xoI r) 1 6) SK (1, 6) 12 [some (.ref a0), some (.int a1), some (.int b.1), some (.int b.2.1), some (.int b.2.2.1), none] [] b.2.2.2) (fun k12 b r9 ih h9 e9 => ?_) N b r h rfl
  clear h
  subst e9
  have h := h9
  clear h9
  have hk12 : ∀ b : Int32 × Int32 × Int32 × pS, k12 b = some r9 → Ev miX11_sharpest (8, 1, 6) G (Zx G (xoI r9) 1 6) SK (1, 6) 12 [some (.ref a0), some (.int a1), some (.int b.1), some (.int b.2.1), some (.int b.2.2.1), none] [] b.2.2.2 := fun b hb => ih b r9 hb rfl
  clear ih
  obtain ⟨x2, x3, x4, σ⟩ := b
  dsimp only at h ⊢
  refine ev_iload dc_X11_sharpest_12 rfl ?_
  refine ev_aload_n dc_X11_sharpest_14 rfl ?_
  refine ev_getR dc_X11_sharpest_15 fi_X11_19 rfl i0 ?_
  refine ev_getR dc_X11_sharpest_18 fi_X11_104 rfl (wt hW i0 1 rfl rfl) ?_
  refine ev_getI dc_X11_sharpest_21 fi_X11_313 rfl (wt hW (wt hW i0 1 rfl rfl) 0 rfl rfl) ?_
  refine ev_icmp_ge (tgt := 64) dc_X11_sharpest_24 (by decide) h (fun h => ?_) (fun h => ?_)
  · refine ev_iload_n dc_X11_sharpest_64 rfl ?_
    cases h
    exact ev_iretX dc_X11_sharpest_65 rfl ⟨Nat.le_of_ble_eq_true rfl, Nat.le_of_ble_eq_true rfl⟩ rfl rfl
  · refine ev_aload_n dc_X11_sharpest_27 rfl ?_
    refine ev_getR dc_X11_sharpest_28 fi_X11_19 rfl i0 ?_
    refine ev_aload_n dc_X11_sharpest_31 rfl ?_
    refine ev_getR dc_X11_sharpest_32 fi_X11_19 rfl i0 ?_
    refine ev_getR dc_X11_sharpest_35 fi_X11_155 rfl (wt hW i0 1 rfl rfl) ?_
    refine ev_iload_n dc_X11_sharpest_38 rfl ?_
    refine ev_iload dc_X11_sharpest_39 rfl ?_
    obtain ⟨q1, hq1, h⟩ := Option.bind_eq_some_iff.mp h
    refine ev_callV (av := [.ref (pR G (pR G a0 1) 2), .int a1, .int x4]) (st := []) (st1 := [.int q1.1]) dc_X11_sharpest_41 (tX10_stingOf hW (wt hW i0 1 rfl rfl) (wt hW (wt hW i0 1 rfl rfl) 2 rfl rfl) hq1) mw_471 cy_X10_stingOf (wt hW i0 1 rfl rfl) (by decide) rfl rfl rfl rfl (Nat.le_of_ble_eq_true rfl) (Nat.le_of_ble_eq_true rfl) ⟨Nat.le_of_ble_eq_true rfl, Nat.le_of_ble_eq_true rfl⟩ ?_
    refine ev_istore (lv' := [some (.ref a0), some (.int a1), some (.int x2), some (.int x3), some (.int x4), some (.int q1.1)]) dc_X11_sharpest_44 rfl (by decide) rfl ?_
    refine ev_iload dc_X11_sharpest_46 rfl ?_
    refine ev_iload_n dc_X11_sharpest_48 rfl ?_
    refine ev_icmp_le (tgt := 58) dc_X11_sharpest_49 (by decide) h (fun h => ?_) (fun h => ?_)
    · refine ev_iinc (v := 1) (lv' := [some (.ref a0), some (.int a1), some (.int x2), some (.int x3), some (.int (x4 + (1 : Int32))), some (.int q1.1)]) dc_X11_sharpest_58 rfl (by decide) rfl (by decide) rfl ?_
      refine ev_goto (tgt := 12) dc_X11_sharpest_61 (by decide) ?_
      exact ev_sub (hk12 (x2, x3, x4 + (1 : Int32), q1.2) h) (And.intro rfl (And.intro rfl (And.intro rfl (And.intro rfl (And.intro rfl trivial)))))
    · refine ev_iload dc_X11_sharpest_52 rfl ?_
      refine ev_istore_n (lv' := [some (.ref a0), some (.int a1), some (.int x4), some (.int x3), some (.int x4), some (.int q1.1)]) dc_X11_sharpest_54 rfl (by decide) rfl ?_
      refine ev_iload dc_X11_sharpest_55 rfl ?_
      refine ev_istore_n (lv' := [some (.ref a0), some (.int a1), some (.int x4), some (.int q1.1), some (.int x4), some (.int q1.1)]) dc_X11_sharpest_57 rfl (by decide) rfl ?_
      refine ev_iinc (v := 1) (lv' := [some (.ref a0), some (.int a1), some (.int x4), some (.int q1.1), some (.int (x4 + (1 : Int32))), some (.int q1.1)]) dc_X11_sharpest_58 rfl (by decide) rfl (by decide) rfl ?_
      refine ev_goto (tgt := 12) dc_X11_sharpest_61 (by decide) ?_
      exact ev_sub (hk12 (x4, q1.1, x4 + (1 : Int32), q1.2) h) (And.intro rfl (And.intro rfl (And.intro rfl (And.intro rfl (And.intro rfl trivial)))))
def fX11_sharpest (N : Nat) (G : pG) (a0 : Nat) (a1 : Int32) (σ : pS) : Option ((Int32 × pS) ⊕ (String × pS)) := (fX11_needWho N G a0 a1 σ).bind (fun q2 => q2.elim (fun zs3 => fX11_sharpest_b12 N G a0 a1 ((-1 : Int32), (-1 : Int32), (0 : Int32), zs3)) (fun e => some (.inr e)))
set_option maxRecDepth 100000 in
set_option maxHeartbeats 4000000 in
theorem tX11_sharpest {N : Nat} {G : pG} {SK : Nat → Nat} {a0 : Nat} {a1 : Int32} {σ : pS} {r : (Int32 × pS) ⊕ (String × pS)} (hW : WT G) (i0 : Is G a0 10) (h : fX11_sharpest N G a0 a1 σ = some r) : Dx miX11_sharpest yX11_sharpest 8 1 6 G SK [.ref a0, .int a1] σ (xoI r) := by
  unfold fX11_sharpest at h
  refine dx_of (lv := [some (.ref a0), some (.int a1), none, none, none, none]) (by decide) rfl rfl (Nat.le_of_ble_eq_true rfl) rfl ?_
  refine ev_aload_n dc_X11_sharpest_0 rfl ?_
  refine ev_iload_n dc_X11_sharpest_1 rfl ?_
  obtain ⟨q2, hq2, h⟩ := Option.bind_eq_some_iff.mp h
  refine ev_callX (mc := 1) (ms := 6) (av := [.int a1]) (st := []) rfl dc_X11_sharpest_2 (tX11_needWho hW i0 hq2) mw_1090 cy_X11_needWho i0 (by decide) rfl rfl rfl (Nat.le_of_ble_eq_true rfl) (Nat.le_of_ble_eq_true rfl) ⟨Nat.le_of_ble_eq_true rfl, Nat.le_of_ble_eq_true rfl⟩ ?_ ?_
  · intro e he
    rcases q2 with zs3 | zs3
    · have he : (Sum.inl (none, zs3) : XO) = .inr e := he
      cases he
    · have he : (Sum.inr zs3 : XO) = .inr e := he
      cases he
      dsimp only [Sum.elim] at h
      cases h
      exact ⟨rfl, Nat.le_of_ble_eq_true rfl, Nat.le_of_ble_eq_true rfl⟩
  intro e he
  rcases q2 with zs3 | zs3
  rotate_left
  · have he : (Sum.inr zs3 : XO) = .inl e := he
    cases he
  have he : (Sum.inl (none, zs3) : XO) = .inl e := he
  cases he
  dsimp only [Sum.elim] at h
  show Ev miX11_sharpest (8, 1, 6) G (Zx G (xoI r) 1 6) SK (1, 6) 5 [some (.ref a0), some (.int a1), none, none, none, none] [] zs3
  refine ev_iconst (v := (-1)) dc_X11_sharpest_5 (by decide) ?_
  refine ev_istore_n (lv' := [some (.ref a0), some (.int a1), some (.int (-1 : Int32)), none, none, none]) dc_X11_sharpest_6 rfl (by decide) rfl ?_
  refine ev_iconst (v := (-1)) dc_X11_sharpest_7 (by decide) ?_
  refine ev_istore_n (lv' := [some (.ref a0), some (.int a1), some (.int (-1 : Int32)), some (.int (-1 : Int32)), none, none]) dc_X11_sharpest_8 rfl (by decide) rfl ?_
  refine ev_iconst (v := 0) dc_X11_sharpest_9 (by decide) ?_
  refine ev_istore (lv' := [some (.ref a0), some (.int a1), some (.int (-1 : Int32)), some (.int (-1 : Int32)), some (.int (0 : Int32)), none]) dc_X11_sharpest_10 rfl (by decide) rfl ?_
  exact ev_sub (tX11_sharpest_b12 (b := ((-1 : Int32), (-1 : Int32), (0 : Int32), zs3)) hW i0 h) (And.intro rfl (And.intro rfl (And.intro rfl (And.intro rfl (And.intro rfl trivial)))))
theorem dc_X11_siege_0 : Dc miX11_siege 0 (.aload_n 0) 1 1 := ⟨by decide +kernel, rfl⟩
theorem dc_X11_siege_1 : Dc miX11_siege 1 (.iload_n 1) 1 2 := ⟨by decide +kernel, rfl⟩
theorem dc_X11_siege_2 : Dc miX11_siege 2 (.iconst 1) 1 3 := ⟨by decide +kernel, rfl⟩
theorem dc_X11_siege_3 : Dc miX11_siege 3 (.if_icmp .lt 13) 3 6 := ⟨by decide +kernel, rfl⟩
theorem dc_X11_siege_6 : Dc miX11_siege 6 (.iload_n 1) 1 7 := ⟨by decide +kernel, rfl⟩
theorem dc_X11_siege_7 : Dc miX11_siege 7 (.bipush 12) 2 9 := ⟨by decide +kernel, rfl⟩
theorem dc_X11_siege_9 : Dc miX11_siege 9 (.if_icmp .gt 7) 3 12 := ⟨by decide +kernel, rfl⟩
theorem dc_X11_siege_12 : Dc miX11_siege 12 (.iconst 1) 1 13 := ⟨by decide +kernel, rfl⟩
theorem dc_X11_siege_13 : Dc miX11_siege 13 (.goto 4) 3 16 := ⟨by decide +kernel, rfl⟩
theorem dc_X11_siege_16 : Dc miX11_siege 16 (.iconst 0) 1 17 := ⟨by decide +kernel, rfl⟩
theorem dc_X11_siege_17 : Dc miX11_siege 17 (.invokevirtual 268) 3 20 := ⟨by decide +kernel, rfl⟩
theorem dc_X11_siege_20 : Dc miX11_siege 20 (.aload_n 0) 1 21 := ⟨by decide +kernel, rfl⟩
theorem dc_X11_siege_21 : Dc miX11_siege 21 (.getfield 19) 3 24 := ⟨by decide +kernel, rfl⟩
theorem dc_X11_siege_24 : Dc miX11_siege 24 (.getfield 155) 3 27 := ⟨by decide +kernel, rfl⟩
theorem dc_X11_siege_27 : Dc miX11_siege 27 (.getfield 216) 3 30 := ⟨by decide +kernel, rfl⟩
theorem dc_X11_siege_30 : Dc miX11_siege 30 (.ifCond .eq 5) 3 33 := ⟨by decide +kernel, rfl⟩
theorem dc_X11_siege_33 : Dc miX11_siege 33 (.iconst (-1)) 1 34 := ⟨by decide +kernel, rfl⟩
theorem dc_X11_siege_34 : Dc miX11_siege 34 (.ireturn) 1 35 := ⟨by decide +kernel, rfl⟩
theorem dc_X11_siege_35 : Dc miX11_siege 35 (.aload_n 0) 1 36 := ⟨by decide +kernel, rfl⟩
theorem dc_X11_siege_36 : Dc miX11_siege 36 (.getfield 46) 3 39 := ⟨by decide +kernel, rfl⟩
theorem dc_X11_siege_39 : Dc miX11_siege 39 (.aload_n 0) 1 40 := ⟨by decide +kernel, rfl⟩
theorem dc_X11_siege_40 : Dc miX11_siege 40 (.getfield 19) 3 43 := ⟨by decide +kernel, rfl⟩
theorem dc_X11_siege_43 : Dc miX11_siege 43 (.iload_n 1) 1 44 := ⟨by decide +kernel, rfl⟩
theorem dc_X11_siege_44 : Dc miX11_siege 44 (.invokevirtual 293) 3 47 := ⟨by decide +kernel, rfl⟩
theorem dc_X11_siege_47 : Dc miX11_siege 47 (.invokestatic 297) 3 50 := ⟨by decide +kernel, rfl⟩
theorem dc_X11_siege_50 : Dc miX11_siege 50 (.ireturn) 1 51 := ⟨by decide +kernel, rfl⟩
def fX11_siege_b17 (N : Nat) (G : pG) (a0 : Nat) (a1 : Int32) (y1 : Int32) (σ : pS) : Option ((Int32 × pS) ⊕ (String × pS)) := (fX11_need N G a0 y1 σ).bind (fun q1 => q1.elim (fun zs2 => if (zs2.1 (pR G (pR G a0 1) 2) 6) = 0 then ((fX6_fewestNights N G (pR G a0 6) (pR G a0 1) a1 zs2).bind (fun q3 => (fX11_orNone N G q3.1 q3.2).bind (fun q4 => some (.inl (q4, q3.2))))) else (some (.inl ((-1 : Int32), zs2)))) (fun e => some (.inr e)))
set_option maxRecDepth 100000 in
set_option maxHeartbeats 4000000 in
theorem tX11_siege_b17 {N : Nat} {G : pG} {SK : Nat → Nat} {a0 : Nat} {a1 : Int32} {y1 : Int32} {σ : pS} {r : (Int32 × pS) ⊕ (String × pS)} (hW : WT G) (i0 : Is G a0 10) (h : fX11_siege_b17 N G a0 a1 y1 σ = some r) : Ev miX11_siege (107, 1, 6) G (Zx G (xoI r) 1 6) SK (0, 0) 17 [some (.ref a0), some (.int a1)] [.int y1, .ref a0] σ := by
  unfold fX11_siege_b17 at h
  obtain ⟨q1, hq1, h⟩ := Option.bind_eq_some_iff.mp h
  refine ev_callX (mc := 1) (ms := 6) (av := [.int y1]) (st := []) rfl dc_X11_siege_17 (tX11_need hW i0 hq1) mw_1228 cy_X11_need i0 (by decide) rfl rfl rfl (Nat.le_of_ble_eq_true rfl) (Nat.le_of_ble_eq_true rfl) ⟨Nat.le_of_ble_eq_true rfl, Nat.le_of_ble_eq_true rfl⟩ ?_ ?_
  · intro e he
    rcases q1 with zs2 | zs2
    · have he : (Sum.inl (none, zs2) : XO) = .inr e := he
      cases he
    · have he : (Sum.inr zs2 : XO) = .inr e := he
      cases he
      dsimp only [Sum.elim] at h
      cases h
      exact ⟨rfl, Nat.le_of_ble_eq_true rfl, Nat.le_of_ble_eq_true rfl⟩
  intro e he
  rcases q1 with zs2 | zs2
  rotate_left
  · have he : (Sum.inr zs2 : XO) = .inl e := he
    cases he
  have he : (Sum.inl (none, zs2) : XO) = .inl e := he
  cases he
  dsimp only [Sum.elim] at h
  show Ev miX11_siege (107, 1, 6) G (Zx G (xoI r) 1 6) SK (1, 6) 20 [some (.ref a0), some (.int a1)] [] zs2
  refine ev_aload_n dc_X11_siege_20 rfl ?_
  refine ev_getR dc_X11_siege_21 fi_X11_19 rfl i0 ?_
  refine ev_getR dc_X11_siege_24 fi_X11_155 rfl (wt hW i0 1 rfl rfl) ?_
  refine ev_getI dc_X11_siege_27 fi_X11_216 rfl (wt hW (wt hW i0 1 rfl rfl) 2 rfl rfl) ?_
  refine ev_if_eq (tgt := 35) dc_X11_siege_30 (by decide) h (fun h => ?_) (fun h => ?_)
  · refine ev_aload_n dc_X11_siege_35 rfl ?_
    refine ev_getR dc_X11_siege_36 fi_X11_46 rfl i0 ?_
    refine ev_aload_n dc_X11_siege_39 rfl ?_
    refine ev_getR dc_X11_siege_40 fi_X11_19 rfl i0 ?_
    refine ev_iload_n dc_X11_siege_43 rfl ?_
    obtain ⟨q3, hq3, h⟩ := Option.bind_eq_some_iff.mp h
    refine ev_callV (av := [.ref (pR G a0 1), .int a1]) (st := []) (st1 := [.int q3.1]) dc_X11_siege_44 (tX6_fewestNights hW (wt hW i0 6 rfl rfl) (wt hW i0 1 rfl rfl) hq3) mw_1285 cy_X6_fewestNights (wt hW i0 6 rfl rfl) (by decide) rfl rfl rfl rfl (Nat.le_of_ble_eq_true rfl) (Nat.le_of_ble_eq_true rfl) ⟨Nat.le_of_ble_eq_true rfl, Nat.le_of_ble_eq_true rfl⟩ ?_
    obtain ⟨q4, hq4, h⟩ := Option.bind_eq_some_iff.mp h
    refine ev_callS (av := [.int q3.1]) (st := []) (st1 := [.int q4]) dc_X11_siege_47 (tX11_orNone hW hq4) mw_546 cs_X11_orNone rfl rfl rfl (Nat.le_of_ble_eq_true rfl) (Nat.le_of_ble_eq_true rfl) ⟨Nat.le_of_ble_eq_true rfl, Nat.le_of_ble_eq_true rfl⟩ ?_
    cases h
    exact ev_iretX dc_X11_siege_50 rfl ⟨Nat.le_of_ble_eq_true rfl, Nat.le_of_ble_eq_true rfl⟩ rfl rfl
  · refine ev_iconst (v := (-1)) dc_X11_siege_33 (by decide) ?_
    cases h
    exact ev_iretX dc_X11_siege_34 rfl ⟨Nat.le_of_ble_eq_true rfl, Nat.le_of_ble_eq_true rfl⟩ rfl rfl
def fX11_siege_b16 (N : Nat) (G : pG) (a0 : Nat) (a1 : Int32) (σ : pS) : Option ((Int32 × pS) ⊕ (String × pS)) := fX11_siege_b17 N G a0 a1 (0 : Int32) σ
set_option maxRecDepth 100000 in
set_option maxHeartbeats 4000000 in
theorem tX11_siege_b16 {N : Nat} {G : pG} {SK : Nat → Nat} {a0 : Nat} {a1 : Int32} {σ : pS} {r : (Int32 × pS) ⊕ (String × pS)} (hW : WT G) (i0 : Is G a0 10) (h : fX11_siege_b16 N G a0 a1 σ = some r) : Ev miX11_siege (107, 1, 6) G (Zx G (xoI r) 1 6) SK (0, 0) 16 [some (.ref a0), some (.int a1)] [.ref a0] σ := by
  unfold fX11_siege_b16 at h
  refine ev_iconst (v := 0) dc_X11_siege_16 (by decide) ?_
  exact ev_sub (tX11_siege_b17 hW i0 h) (And.intro rfl (And.intro rfl trivial))
def fX11_siege (N : Nat) (G : pG) (a0 : Nat) (a1 : Int32) (σ : pS) : Option ((Int32 × pS) ⊕ (String × pS)) := if a1 < (1 : Int32) then (fX11_siege_b16 N G a0 a1 σ) else (if (12 : Int32) < a1 then (fX11_siege_b16 N G a0 a1 σ) else (fX11_siege_b17 N G a0 a1 (1 : Int32) σ))
set_option maxRecDepth 100000 in
set_option maxHeartbeats 4000000 in
theorem tX11_siege {N : Nat} {G : pG} {SK : Nat → Nat} {a0 : Nat} {a1 : Int32} {σ : pS} {r : (Int32 × pS) ⊕ (String × pS)} (hW : WT G) (i0 : Is G a0 10) (h : fX11_siege N G a0 a1 σ = some r) : Dx miX11_siege yX11_siege 107 1 6 G SK [.ref a0, .int a1] σ (xoI r) := by
  unfold fX11_siege at h
  refine dx_of (lv := [some (.ref a0), some (.int a1)]) (by decide) rfl rfl (Nat.le_of_ble_eq_true rfl) rfl ?_
  refine ev_aload_n dc_X11_siege_0 rfl ?_
  refine ev_iload_n dc_X11_siege_1 rfl ?_
  refine ev_iconst (v := 1) dc_X11_siege_2 (by decide) ?_
  refine ev_icmp_lt (tgt := 16) dc_X11_siege_3 (by decide) h (fun h => ?_) (fun h => ?_)
  · exact ev_sub (tX11_siege_b16 hW i0 h) (And.intro rfl (And.intro rfl trivial))
  · refine ev_iload_n dc_X11_siege_6 rfl ?_
    refine ev_bipush (v := 12) dc_X11_siege_7 (by decide) ?_
    refine ev_icmp_gt (tgt := 16) dc_X11_siege_9 (by decide) h (fun h => ?_) (fun h => ?_)
    · exact ev_sub (tX11_siege_b16 hW i0 h) (And.intro rfl (And.intro rfl trivial))
    · refine ev_iconst (v := 1) dc_X11_siege_12 (by decide) ?_
      refine ev_goto (tgt := 17) dc_X11_siege_13 (by decide) ?_
      exact ev_sub (tX11_siege_b17 hW i0 h) (And.intro rfl (And.intro rfl trivial))
theorem dc_X11_silence_0 : Dc miX11_silence 0 (.aload_n 0) 1 1 := ⟨by decide +kernel, rfl⟩
theorem dc_X11_silence_1 : Dc miX11_silence 1 (.iload_n 1) 1 2 := ⟨by decide +kernel, rfl⟩
theorem dc_X11_silence_2 : Dc miX11_silence 2 (.iconst 1) 1 3 := ⟨by decide +kernel, rfl⟩
theorem dc_X11_silence_3 : Dc miX11_silence 3 (.if_icmp .lt 13) 3 6 := ⟨by decide +kernel, rfl⟩
theorem dc_X11_silence_6 : Dc miX11_silence 6 (.iload_n 1) 1 7 := ⟨by decide +kernel, rfl⟩
theorem dc_X11_silence_7 : Dc miX11_silence 7 (.bipush 60) 2 9 := ⟨by decide +kernel, rfl⟩
theorem dc_X11_silence_9 : Dc miX11_silence 9 (.if_icmp .gt 7) 3 12 := ⟨by decide +kernel, rfl⟩
theorem dc_X11_silence_12 : Dc miX11_silence 12 (.iconst 1) 1 13 := ⟨by decide +kernel, rfl⟩
theorem dc_X11_silence_13 : Dc miX11_silence 13 (.goto 4) 3 16 := ⟨by decide +kernel, rfl⟩
theorem dc_X11_silence_16 : Dc miX11_silence 16 (.iconst 0) 1 17 := ⟨by decide +kernel, rfl⟩
theorem dc_X11_silence_17 : Dc miX11_silence 17 (.invokevirtual 268) 3 20 := ⟨by decide +kernel, rfl⟩
theorem dc_X11_silence_20 : Dc miX11_silence 20 (.iconst (-1)) 1 21 := ⟨by decide +kernel, rfl⟩
theorem dc_X11_silence_21 : Dc miX11_silence 21 (.istore_n 2) 1 22 := ⟨by decide +kernel, rfl⟩
theorem dc_X11_silence_22 : Dc miX11_silence 22 (.sipush 1000) 3 25 := ⟨by decide +kernel, rfl⟩
theorem dc_X11_silence_25 : Dc miX11_silence 25 (.istore_n 3) 1 26 := ⟨by decide +kernel, rfl⟩
theorem dc_X11_silence_26 : Dc miX11_silence 26 (.iconst 0) 1 27 := ⟨by decide +kernel, rfl⟩
theorem dc_X11_silence_27 : Dc miX11_silence 27 (.istore 4) 2 29 := ⟨by decide +kernel, rfl⟩
theorem dc_X11_silence_29 : Dc miX11_silence 29 (.iload 4) 2 31 := ⟨by decide +kernel, rfl⟩
theorem dc_X11_silence_31 : Dc miX11_silence 31 (.bipush 64) 2 33 := ⟨by decide +kernel, rfl⟩
theorem dc_X11_silence_33 : Dc miX11_silence 33 (.if_icmp .ge 67) 3 36 := ⟨by decide +kernel, rfl⟩
theorem dc_X11_silence_36 : Dc miX11_silence 36 (.iload 4) 2 38 := ⟨by decide +kernel, rfl⟩
theorem dc_X11_silence_38 : Dc miX11_silence 38 (.aload_n 0) 1 39 := ⟨by decide +kernel, rfl⟩
theorem dc_X11_silence_39 : Dc miX11_silence 39 (.getfield 19) 3 42 := ⟨by decide +kernel, rfl⟩
theorem dc_X11_silence_42 : Dc miX11_silence 42 (.getfield 155) 3 45 := ⟨by decide +kernel, rfl⟩
theorem dc_X11_silence_45 : Dc miX11_silence 45 (.getfield 183) 3 48 := ⟨by decide +kernel, rfl⟩
theorem dc_X11_silence_48 : Dc miX11_silence 48 (.iconst (-1)) 1 49 := ⟨by decide +kernel, rfl⟩
theorem dc_X11_silence_49 : Dc miX11_silence 49 (.ixor) 1 50 := ⟨by decide +kernel, rfl⟩
theorem dc_X11_silence_50 : Dc miX11_silence 50 (.iand) 1 51 := ⟨by decide +kernel, rfl⟩
theorem dc_X11_silence_51 : Dc miX11_silence 51 (.ifCond .ne 7) 3 54 := ⟨by decide +kernel, rfl⟩
theorem dc_X11_silence_54 : Dc miX11_silence 54 (.iconst 1) 1 55 := ⟨by decide +kernel, rfl⟩
theorem dc_X11_silence_55 : Dc miX11_silence 55 (.goto 4) 3 58 := ⟨by decide +kernel, rfl⟩
theorem dc_X11_silence_58 : Dc miX11_silence 58 (.iconst 0) 1 59 := ⟨by decide +kernel, rfl⟩
theorem dc_X11_silence_59 : Dc miX11_silence 59 (.istore 5) 2 61 := ⟨by decide +kernel, rfl⟩
theorem dc_X11_silence_61 : Dc miX11_silence 61 (.iload 5) 2 63 := ⟨by decide +kernel, rfl⟩
theorem dc_X11_silence_63 : Dc miX11_silence 63 (.ifCond .eq 31) 3 66 := ⟨by decide +kernel, rfl⟩
theorem dc_X11_silence_66 : Dc miX11_silence 66 (.iload 4) 2 68 := ⟨by decide +kernel, rfl⟩
theorem dc_X11_silence_68 : Dc miX11_silence 68 (.invokestatic 263) 3 71 := ⟨by decide +kernel, rfl⟩
theorem dc_X11_silence_71 : Dc miX11_silence 71 (.iload_n 3) 1 72 := ⟨by decide +kernel, rfl⟩
theorem dc_X11_silence_72 : Dc miX11_silence 72 (.if_icmp .ge 22) 3 75 := ⟨by decide +kernel, rfl⟩
theorem dc_X11_silence_75 : Dc miX11_silence 75 (.aload_n 0) 1 76 := ⟨by decide +kernel, rfl⟩
theorem dc_X11_silence_76 : Dc miX11_silence 76 (.iload 4) 2 78 := ⟨by decide +kernel, rfl⟩
theorem dc_X11_silence_78 : Dc miX11_silence 78 (.iload_n 1) 1 79 := ⟨by decide +kernel, rfl⟩
theorem dc_X11_silence_79 : Dc miX11_silence 79 (.invokevirtual 284) 3 82 := ⟨by decide +kernel, rfl⟩
theorem dc_X11_silence_82 : Dc miX11_silence 82 (.ifCond .eq 12) 3 85 := ⟨by decide +kernel, rfl⟩
theorem dc_X11_silence_85 : Dc miX11_silence 85 (.iload 4) 2 87 := ⟨by decide +kernel, rfl⟩
theorem dc_X11_silence_87 : Dc miX11_silence 87 (.istore_n 2) 1 88 := ⟨by decide +kernel, rfl⟩
theorem dc_X11_silence_88 : Dc miX11_silence 88 (.iload 4) 2 90 := ⟨by decide +kernel, rfl⟩
theorem dc_X11_silence_90 : Dc miX11_silence 90 (.invokestatic 263) 3 93 := ⟨by decide +kernel, rfl⟩
theorem dc_X11_silence_93 : Dc miX11_silence 93 (.istore_n 3) 1 94 := ⟨by decide +kernel, rfl⟩
theorem dc_X11_silence_94 : Dc miX11_silence 94 (.iinc 4 1) 3 97 := ⟨by decide +kernel, rfl⟩
theorem dc_X11_silence_97 : Dc miX11_silence 97 (.goto (-68)) 3 100 := ⟨by decide +kernel, rfl⟩
theorem dc_X11_silence_100 : Dc miX11_silence 100 (.iload_n 2) 1 101 := ⟨by decide +kernel, rfl⟩
theorem dc_X11_silence_101 : Dc miX11_silence 101 (.ireturn) 1 102 := ⟨by decide +kernel, rfl⟩
def fX11_silence_b59 (N : Nat) (G : pG) (k29 : Int32 × Int32 × Int32 × pS → Option ((Int32 × pS) ⊕ (String × pS))) (a0 : Nat) (a1 : Int32) (x2 : Int32) (x3 : Int32) (x4 : Int32) (y0 : Int32) (σ : pS) : Option ((Int32 × pS) ⊕ (String × pS)) := if y0 = 0 then (k29 (x2, x3, x4 + (1 : Int32), σ)) else ((fJ6_bitCount_0f7a4 N G x4 σ).bind (fun q1 => if x3 ≤ q1 then (k29 (x2, x3, x4 + (1 : Int32), σ)) else ((fX11_staysQuiet N G a0 x4 a1 σ).bind (fun q2 => if q2.1 = 0 then (k29 (x2, x3, x4 + (1 : Int32), q2.2)) else ((fJ6_bitCount_0f7a4 N G x4 q2.2).bind (fun q3 => k29 (x4, q3, x4 + (1 : Int32), q2.2)))))))
set_option maxRecDepth 100000 in
set_option maxHeartbeats 4000000 in
theorem tX11_silence_b59 {N : Nat} {G : pG} {SK : Nat → Nat} {k29 : Int32 × Int32 × Int32 × pS → Option ((Int32 × pS) ⊕ (String × pS))} {a0 : Nat} {a1 : Int32} {x2 : Int32} {x3 : Int32} {x4 : Int32} {y0 : Int32} {σ : pS} {r : (Int32 × pS) ⊕ (String × pS)} (hW : WT G) (i0 : Is G a0 10) (hk29 : ∀ b : Int32 × Int32 × Int32 × pS, k29 b = some r → Ev miX11_silence (8, 1, 6) G (Zx G (xoI r) 1 6) SK (1, 6) 29 [some (.ref a0), some (.int a1), some (.int b.1), some (.int b.2.1), some (.int b.2.2.1), none] [] b.2.2.2) (h : fX11_silence_b59 N G k29 a0 a1 x2 x3 x4 y0 σ = some r) : Ev miX11_silence (8, 1, 6) G (Zx G (xoI r) 1 6) SK (1, 6) 59 [some (.ref a0), some (.int a1), some (.int x2), some (.int x3), some (.int x4), none] [.int y0] σ := by
  unfold fX11_silence_b59 at h
  refine ev_istore (lv' := [some (.ref a0), some (.int a1), some (.int x2), some (.int x3), some (.int x4), some (.int y0)]) dc_X11_silence_59 rfl (by decide) rfl ?_
  refine ev_iload dc_X11_silence_61 rfl ?_
  refine ev_if_eq (tgt := 94) dc_X11_silence_63 (by decide) h (fun h => ?_) (fun h => ?_)
  · refine ev_iinc (v := 1) (lv' := [some (.ref a0), some (.int a1), some (.int x2), some (.int x3), some (.int (x4 + (1 : Int32))), some (.int y0)]) dc_X11_silence_94 rfl (by decide) rfl (by decide) rfl ?_
    refine ev_goto (tgt := 29) dc_X11_silence_97 (by decide) ?_
    exact ev_sub (hk29 (x2, x3, x4 + (1 : Int32), σ) h) (And.intro rfl (And.intro rfl (And.intro rfl (And.intro rfl (And.intro rfl trivial)))))
  · refine ev_iload dc_X11_silence_66 rfl ?_
    obtain ⟨q1, hq1, h⟩ := Option.bind_eq_some_iff.mp h
    refine ev_callS (av := [.int x4]) (st := []) (st1 := [.int q1]) dc_X11_silence_68 (tJ6_bitCount_0f7a4 hW hq1) mw_576 cs_J6_bitCount_0f7a4 rfl rfl rfl (Nat.le_of_ble_eq_true rfl) (Nat.le_of_ble_eq_true rfl) ⟨Nat.le_of_ble_eq_true rfl, Nat.le_of_ble_eq_true rfl⟩ ?_
    refine ev_iload_n dc_X11_silence_71 rfl ?_
    refine ev_icmp_ge (tgt := 94) dc_X11_silence_72 (by decide) h (fun h => ?_) (fun h => ?_)
    · refine ev_iinc (v := 1) (lv' := [some (.ref a0), some (.int a1), some (.int x2), some (.int x3), some (.int (x4 + (1 : Int32))), some (.int y0)]) dc_X11_silence_94 rfl (by decide) rfl (by decide) rfl ?_
      refine ev_goto (tgt := 29) dc_X11_silence_97 (by decide) ?_
      exact ev_sub (hk29 (x2, x3, x4 + (1 : Int32), σ) h) (And.intro rfl (And.intro rfl (And.intro rfl (And.intro rfl (And.intro rfl trivial)))))
    · refine ev_aload_n dc_X11_silence_75 rfl ?_
      refine ev_iload dc_X11_silence_76 rfl ?_
      refine ev_iload_n dc_X11_silence_78 rfl ?_
      obtain ⟨q2, hq2, h⟩ := Option.bind_eq_some_iff.mp h
      refine ev_callV (av := [.int x4, .int a1]) (st := []) (st1 := [.int q2.1]) dc_X11_silence_79 (tX11_staysQuiet hW i0 hq2) mw_1389 cy_X11_staysQuiet i0 (by decide) rfl rfl rfl rfl (Nat.le_of_ble_eq_true rfl) (Nat.le_of_ble_eq_true rfl) ⟨Nat.le_of_ble_eq_true rfl, Nat.le_of_ble_eq_true rfl⟩ ?_
      refine ev_if_eq (tgt := 94) dc_X11_silence_82 (by decide) h (fun h => ?_) (fun h => ?_)
      · refine ev_iinc (v := 1) (lv' := [some (.ref a0), some (.int a1), some (.int x2), some (.int x3), some (.int (x4 + (1 : Int32))), some (.int y0)]) dc_X11_silence_94 rfl (by decide) rfl (by decide) rfl ?_
        refine ev_goto (tgt := 29) dc_X11_silence_97 (by decide) ?_
        exact ev_sub (hk29 (x2, x3, x4 + (1 : Int32), q2.2) h) (And.intro rfl (And.intro rfl (And.intro rfl (And.intro rfl (And.intro rfl trivial)))))
      · refine ev_iload dc_X11_silence_85 rfl ?_
        refine ev_istore_n (lv' := [some (.ref a0), some (.int a1), some (.int x4), some (.int x3), some (.int x4), some (.int y0)]) dc_X11_silence_87 rfl (by decide) rfl ?_
        refine ev_iload dc_X11_silence_88 rfl ?_
        obtain ⟨q3, hq3, h⟩ := Option.bind_eq_some_iff.mp h
        refine ev_callS (av := [.int x4]) (st := []) (st1 := [.int q3]) dc_X11_silence_90 (tJ6_bitCount_0f7a4 hW hq3) mw_576 cs_J6_bitCount_0f7a4 rfl rfl rfl (Nat.le_of_ble_eq_true rfl) (Nat.le_of_ble_eq_true rfl) ⟨Nat.le_of_ble_eq_true rfl, Nat.le_of_ble_eq_true rfl⟩ ?_
        refine ev_istore_n (lv' := [some (.ref a0), some (.int a1), some (.int x4), some (.int q3), some (.int x4), some (.int y0)]) dc_X11_silence_93 rfl (by decide) rfl ?_
        refine ev_iinc (v := 1) (lv' := [some (.ref a0), some (.int a1), some (.int x4), some (.int q3), some (.int (x4 + (1 : Int32))), some (.int y0)]) dc_X11_silence_94 rfl (by decide) rfl (by decide) rfl ?_
        refine ev_goto (tgt := 29) dc_X11_silence_97 (by decide) ?_
        exact ev_sub (hk29 (x4, q3, x4 + (1 : Int32), q2.2) h) (And.intro rfl (And.intro rfl (And.intro rfl (And.intro rfl (And.intro rfl trivial)))))
def fX11_silence_b29 (N : Nat) (G : pG) (a0 : Nat) (a1 : Int32) : (Int32 × Int32 × Int32 × pS) → Option ((Int32 × pS) ⊕ (String × pS)) := lp (fun (k29 : Int32 × Int32 × Int32 × pS → Option ((Int32 × pS) ⊕ (String × pS))) (b : Int32 × Int32 × Int32 × pS) => if (64 : Int32) ≤ b.2.2.1 then (some (.inl (b.1, b.2.2.2))) else (if (b.2.2.1 &&& ((b.2.2.2.1 (pR G (pR G a0 1) 2) 4) ^^^ (-1 : Int32))) = 0 then (fX11_silence_b59 N G k29 a0 a1 b.1 b.2.1 b.2.2.1 (1 : Int32) b.2.2.2) else (fX11_silence_b59 N G k29 a0 a1 b.1 b.2.1 b.2.2.1 (0 : Int32) b.2.2.2))) N
set_option maxRecDepth 100000 in
set_option maxHeartbeats 4000000 in
theorem tX11_silence_b29 {N : Nat} {G : pG} {SK : Nat → Nat} {a0 : Nat} {a1 : Int32} {b : Int32 × Int32 × Int32 × pS} {r : (Int32 × pS) ⊕ (String × pS)} (hW : WT G) (i0 : Is G a0 10) (h : fX11_silence_b29 N G a0 a1 b = some r) : Ev miX11_silence (8, 1, 6) G (Zx G (xoI r) 1 6) SK (1, 6) 29 [some (.ref a0), some (.int a1), some (.int b.1), some (.int b.2.1), some (.int b.2.2.1), none] [] b.2.2.2 := by
  unfold fX11_silence_b29 at h
  refine lp_ind (P := fun b r9 => r9 = r → Ev miX11_silence (8, 1, 6) G (Zx G (xoI r) 1 6) SK (1, 6) 29 [some (.ref a0), some (.int a1), some (.int b.1), some (.int b.2.1), some (.int b.2.2.1), none] [] b.2.2.2) (fun k29 b r9 ih h9 e9 => ?_) N b r h rfl
  clear h
  subst e9
  have h := h9
  clear h9
  have hk29 : ∀ b : Int32 × Int32 × Int32 × pS, k29 b = some r9 → Ev miX11_silence (8, 1, 6) G (Zx G (xoI r9) 1 6) SK (1, 6) 29 [some (.ref a0), some (.int a1), some (.int b.1), some (.int b.2.1), some (.int b.2.2.1), none] [] b.2.2.2 := fun b hb => ih b r9 hb rfl
  clear ih
  obtain ⟨x2, x3, x4, σ⟩ := b
  dsimp only at h ⊢
  refine ev_iload dc_X11_silence_29 rfl ?_
  refine ev_bipush (v := 64) dc_X11_silence_31 (by decide) ?_
  refine ev_icmp_ge (tgt := 100) dc_X11_silence_33 (by decide) h (fun h => ?_) (fun h => ?_)
  · refine ev_iload_n dc_X11_silence_100 rfl ?_
    cases h
    exact ev_iretX dc_X11_silence_101 rfl ⟨Nat.le_of_ble_eq_true rfl, Nat.le_of_ble_eq_true rfl⟩ rfl rfl
  · refine ev_iload dc_X11_silence_36 rfl ?_
    refine ev_aload_n dc_X11_silence_38 rfl ?_
    refine ev_getR dc_X11_silence_39 fi_X11_19 rfl i0 ?_
    refine ev_getR dc_X11_silence_42 fi_X11_155 rfl (wt hW i0 1 rfl rfl) ?_
    refine ev_getI dc_X11_silence_45 fi_X11_183 rfl (wt hW (wt hW i0 1 rfl rfl) 2 rfl rfl) ?_
    refine ev_iconst (v := (-1)) dc_X11_silence_48 (by decide) ?_
    refine ev_ixor dc_X11_silence_49 ?_
    refine ev_iand dc_X11_silence_50 ?_
    refine ev_if_ne (tgt := 58) dc_X11_silence_51 (by decide) h (fun h => ?_) (fun h => ?_)
    · refine ev_iconst (v := 1) dc_X11_silence_54 (by decide) ?_
      refine ev_goto (tgt := 59) dc_X11_silence_55 (by decide) ?_
      exact ev_sub (tX11_silence_b59 hW i0 hk29 h) (And.intro rfl (And.intro rfl (And.intro rfl (And.intro rfl (And.intro rfl trivial)))))
    · refine ev_iconst (v := 0) dc_X11_silence_58 (by decide) ?_
      exact ev_sub (tX11_silence_b59 hW i0 hk29 h) (And.intro rfl (And.intro rfl (And.intro rfl (And.intro rfl (And.intro rfl trivial)))))
def fX11_silence_b17 (N : Nat) (G : pG) (a0 : Nat) (a1 : Int32) (y1 : Int32) (σ : pS) : Option ((Int32 × pS) ⊕ (String × pS)) := (fX11_need N G a0 y1 σ).bind (fun q4 => q4.elim (fun zs5 => fX11_silence_b29 N G a0 a1 ((-1 : Int32), (1000 : Int32), (0 : Int32), zs5)) (fun e => some (.inr e)))
set_option maxRecDepth 100000 in
set_option maxHeartbeats 4000000 in
theorem tX11_silence_b17 {N : Nat} {G : pG} {SK : Nat → Nat} {a0 : Nat} {a1 : Int32} {y1 : Int32} {σ : pS} {r : (Int32 × pS) ⊕ (String × pS)} (hW : WT G) (i0 : Is G a0 10) (h : fX11_silence_b17 N G a0 a1 y1 σ = some r) : Ev miX11_silence (8, 1, 6) G (Zx G (xoI r) 1 6) SK (0, 0) 17 [some (.ref a0), some (.int a1), none, none, none, none] [.int y1, .ref a0] σ := by
  unfold fX11_silence_b17 at h
  obtain ⟨q4, hq4, h⟩ := Option.bind_eq_some_iff.mp h
  refine ev_callX (mc := 1) (ms := 6) (av := [.int y1]) (st := []) rfl dc_X11_silence_17 (tX11_need hW i0 hq4) mw_1228 cy_X11_need i0 (by decide) rfl rfl rfl (Nat.le_of_ble_eq_true rfl) (Nat.le_of_ble_eq_true rfl) ⟨Nat.le_of_ble_eq_true rfl, Nat.le_of_ble_eq_true rfl⟩ ?_ ?_
  · intro e he
    rcases q4 with zs5 | zs5
    · have he : (Sum.inl (none, zs5) : XO) = .inr e := he
      cases he
    · have he : (Sum.inr zs5 : XO) = .inr e := he
      cases he
      dsimp only [Sum.elim] at h
      cases h
      exact ⟨rfl, Nat.le_of_ble_eq_true rfl, Nat.le_of_ble_eq_true rfl⟩
  intro e he
  rcases q4 with zs5 | zs5
  rotate_left
  · have he : (Sum.inr zs5 : XO) = .inl e := he
    cases he
  have he : (Sum.inl (none, zs5) : XO) = .inl e := he
  cases he
  dsimp only [Sum.elim] at h
  show Ev miX11_silence (8, 1, 6) G (Zx G (xoI r) 1 6) SK (1, 6) 20 [some (.ref a0), some (.int a1), none, none, none, none] [] zs5
  refine ev_iconst (v := (-1)) dc_X11_silence_20 (by decide) ?_
  refine ev_istore_n (lv' := [some (.ref a0), some (.int a1), some (.int (-1 : Int32)), none, none, none]) dc_X11_silence_21 rfl (by decide) rfl ?_
  refine ev_sipush (v := 1000) dc_X11_silence_22 (by decide) ?_
  refine ev_istore_n (lv' := [some (.ref a0), some (.int a1), some (.int (-1 : Int32)), some (.int (1000 : Int32)), none, none]) dc_X11_silence_25 rfl (by decide) rfl ?_
  refine ev_iconst (v := 0) dc_X11_silence_26 (by decide) ?_
  refine ev_istore (lv' := [some (.ref a0), some (.int a1), some (.int (-1 : Int32)), some (.int (1000 : Int32)), some (.int (0 : Int32)), none]) dc_X11_silence_27 rfl (by decide) rfl ?_
  exact ev_sub (tX11_silence_b29 (b := ((-1 : Int32), (1000 : Int32), (0 : Int32), zs5)) hW i0 h) (And.intro rfl (And.intro rfl (And.intro rfl (And.intro rfl (And.intro rfl trivial)))))
def fX11_silence_b16 (N : Nat) (G : pG) (a0 : Nat) (a1 : Int32) (σ : pS) : Option ((Int32 × pS) ⊕ (String × pS)) := fX11_silence_b17 N G a0 a1 (0 : Int32) σ
set_option maxRecDepth 100000 in
set_option maxHeartbeats 4000000 in
theorem tX11_silence_b16 {N : Nat} {G : pG} {SK : Nat → Nat} {a0 : Nat} {a1 : Int32} {σ : pS} {r : (Int32 × pS) ⊕ (String × pS)} (hW : WT G) (i0 : Is G a0 10) (h : fX11_silence_b16 N G a0 a1 σ = some r) : Ev miX11_silence (8, 1, 6) G (Zx G (xoI r) 1 6) SK (0, 0) 16 [some (.ref a0), some (.int a1), none, none, none, none] [.ref a0] σ := by
  unfold fX11_silence_b16 at h
  refine ev_iconst (v := 0) dc_X11_silence_16 (by decide) ?_
  exact ev_sub (tX11_silence_b17 hW i0 h) (And.intro rfl (And.intro rfl trivial))
def fX11_silence (N : Nat) (G : pG) (a0 : Nat) (a1 : Int32) (σ : pS) : Option ((Int32 × pS) ⊕ (String × pS)) := if a1 < (1 : Int32) then (fX11_silence_b16 N G a0 a1 σ) else (if (60 : Int32) < a1 then (fX11_silence_b16 N G a0 a1 σ) else (fX11_silence_b17 N G a0 a1 (1 : Int32) σ))
set_option maxRecDepth 100000 in
set_option maxHeartbeats 4000000 in
theorem tX11_silence {N : Nat} {G : pG} {SK : Nat → Nat} {a0 : Nat} {a1 : Int32} {σ : pS} {r : (Int32 × pS) ⊕ (String × pS)} (hW : WT G) (i0 : Is G a0 10) (h : fX11_silence N G a0 a1 σ = some r) : Dx miX11_silence yX11_silence 8 1 6 G SK [.ref a0, .int a1] σ (xoI r) := by
  unfold fX11_silence at h
  refine dx_of (lv := [some (.ref a0), some (.int a1), none, none, none, none]) (by decide) rfl rfl (Nat.le_of_ble_eq_true rfl) rfl ?_
  refine ev_aload_n dc_X11_silence_0 rfl ?_
  refine ev_iload_n dc_X11_silence_1 rfl ?_
  refine ev_iconst (v := 1) dc_X11_silence_2 (by decide) ?_
  refine ev_icmp_lt (tgt := 16) dc_X11_silence_3 (by decide) h (fun h => ?_) (fun h => ?_)
  · exact ev_sub (tX11_silence_b16 hW i0 h) (And.intro rfl (And.intro rfl trivial))
  · refine ev_iload_n dc_X11_silence_6 rfl ?_
    refine ev_bipush (v := 60) dc_X11_silence_7 (by decide) ?_
    refine ev_icmp_gt (tgt := 16) dc_X11_silence_9 (by decide) h (fun h => ?_) (fun h => ?_)
    · exact ev_sub (tX11_silence_b16 hW i0 h) (And.intro rfl (And.intro rfl trivial))
    · refine ev_iconst (v := 1) dc_X11_silence_12 (by decide) ?_
      refine ev_goto (tgt := 17) dc_X11_silence_13 (by decide) ?_
      exact ev_sub (tX11_silence_b17 hW i0 h) (And.intro rfl (And.intro rfl trivial))
