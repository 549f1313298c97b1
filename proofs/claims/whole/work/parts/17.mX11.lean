theorem dc_X11_alone_0 : Dc miX11_alone 0 (.iconst 1) 1 1 := ⟨by decide +kernel, rfl⟩
theorem dc_X11_alone_1 : Dc miX11_alone 1 (.aload_n 0) 1 2 := ⟨by decide +kernel, rfl⟩
theorem dc_X11_alone_2 : Dc miX11_alone 2 (.getfield 19) 3 5 := ⟨by decide +kernel, rfl⟩
theorem dc_X11_alone_5 : Dc miX11_alone 5 (.getfield 104) 3 8 := ⟨by decide +kernel, rfl⟩
theorem dc_X11_alone_8 : Dc miX11_alone 8 (.getfield 349) 3 11 := ⟨by decide +kernel, rfl⟩
theorem dc_X11_alone_11 : Dc miX11_alone 11 (.ishl) 1 12 := ⟨by decide +kernel, rfl⟩
theorem dc_X11_alone_12 : Dc miX11_alone 12 (.iconst 1) 1 13 := ⟨by decide +kernel, rfl⟩
theorem dc_X11_alone_13 : Dc miX11_alone 13 (.isub) 1 14 := ⟨by decide +kernel, rfl⟩
theorem dc_X11_alone_14 : Dc miX11_alone 14 (.istore_n 1) 1 15 := ⟨by decide +kernel, rfl⟩
theorem dc_X11_alone_15 : Dc miX11_alone 15 (.iconst 0) 1 16 := ⟨by decide +kernel, rfl⟩
theorem dc_X11_alone_16 : Dc miX11_alone 16 (.istore_n 2) 1 17 := ⟨by decide +kernel, rfl⟩
theorem dc_X11_alone_17 : Dc miX11_alone 17 (.iconst 0) 1 18 := ⟨by decide +kernel, rfl⟩
theorem dc_X11_alone_18 : Dc miX11_alone 18 (.istore_n 3) 1 19 := ⟨by decide +kernel, rfl⟩
theorem dc_X11_alone_19 : Dc miX11_alone 19 (.iload_n 3) 1 20 := ⟨by decide +kernel, rfl⟩
theorem dc_X11_alone_20 : Dc miX11_alone 20 (.bipush 6) 2 22 := ⟨by decide +kernel, rfl⟩
theorem dc_X11_alone_22 : Dc miX11_alone 22 (.if_icmp .ge 37) 3 25 := ⟨by decide +kernel, rfl⟩
theorem dc_X11_alone_25 : Dc miX11_alone 25 (.aload_n 0) 1 26 := ⟨by decide +kernel, rfl⟩
theorem dc_X11_alone_26 : Dc miX11_alone 26 (.getfield 19) 3 29 := ⟨by decide +kernel, rfl⟩
theorem dc_X11_alone_29 : Dc miX11_alone 29 (.getfield 104) 3 32 := ⟨by decide +kernel, rfl⟩
theorem dc_X11_alone_32 : Dc miX11_alone 32 (.bipush 63) 2 34 := ⟨by decide +kernel, rfl⟩
theorem dc_X11_alone_34 : Dc miX11_alone 34 (.iconst 1) 1 35 := ⟨by decide +kernel, rfl⟩
theorem dc_X11_alone_35 : Dc miX11_alone 35 (.iload_n 3) 1 36 := ⟨by decide +kernel, rfl⟩
theorem dc_X11_alone_36 : Dc miX11_alone 36 (.ishl) 1 37 := ⟨by decide +kernel, rfl⟩
theorem dc_X11_alone_37 : Dc miX11_alone 37 (.iconst (-1)) 1 38 := ⟨by decide +kernel, rfl⟩
theorem dc_X11_alone_38 : Dc miX11_alone 38 (.ixor) 1 39 := ⟨by decide +kernel, rfl⟩
theorem dc_X11_alone_39 : Dc miX11_alone 39 (.iand) 1 40 := ⟨by decide +kernel, rfl⟩
theorem dc_X11_alone_40 : Dc miX11_alone 40 (.invokevirtual 360) 3 43 := ⟨by decide +kernel, rfl⟩
theorem dc_X11_alone_43 : Dc miX11_alone 43 (.iload_n 1) 1 44 := ⟨by decide +kernel, rfl⟩
theorem dc_X11_alone_44 : Dc miX11_alone 44 (.if_icmp .eq 9) 3 47 := ⟨by decide +kernel, rfl⟩
theorem dc_X11_alone_47 : Dc miX11_alone 47 (.iload_n 2) 1 48 := ⟨by decide +kernel, rfl⟩
theorem dc_X11_alone_48 : Dc miX11_alone 48 (.iconst 1) 1 49 := ⟨by decide +kernel, rfl⟩
theorem dc_X11_alone_49 : Dc miX11_alone 49 (.iload_n 3) 1 50 := ⟨by decide +kernel, rfl⟩
theorem dc_X11_alone_50 : Dc miX11_alone 50 (.ishl) 1 51 := ⟨by decide +kernel, rfl⟩
theorem dc_X11_alone_51 : Dc miX11_alone 51 (.ior) 1 52 := ⟨by decide +kernel, rfl⟩
theorem dc_X11_alone_52 : Dc miX11_alone 52 (.istore_n 2) 1 53 := ⟨by decide +kernel, rfl⟩
theorem dc_X11_alone_53 : Dc miX11_alone 53 (.iinc 3 1) 3 56 := ⟨by decide +kernel, rfl⟩
theorem dc_X11_alone_56 : Dc miX11_alone 56 (.goto (-37)) 3 59 := ⟨by decide +kernel, rfl⟩
theorem dc_X11_alone_59 : Dc miX11_alone 59 (.iload_n 2) 1 60 := ⟨by decide +kernel, rfl⟩
theorem dc_X11_alone_60 : Dc miX11_alone 60 (.ireturn) 1 61 := ⟨by decide +kernel, rfl⟩
def fX11_alone_b19 (N : Nat) (G : pG) (a0 : Nat) (x1 : Int32) (σ : pS) : (Int32 × Int32) → Option (Int32) := lp (fun (k19 : Int32 × Int32 → Option (Int32)) (b : Int32 × Int32) => if (6 : Int32) ≤ b.2 then (some b.1) else ((fX8_dutiesDone N G (pR G (pR G a0 1) 0) ((63 : Int32) &&& (((1 : Int32) <<< (b.2 &&& 31)) ^^^ (-1 : Int32))) σ).bind (fun q1 => if q1 = x1 then (k19 (b.1, b.2 + (1 : Int32))) else (k19 (b.1 ||| ((1 : Int32) <<< (b.2 &&& 31)), b.2 + (1 : Int32)))))) N
set_option maxRecDepth 100000 in
set_option maxHeartbeats 4000000 in
theorem tX11_alone_b19 {N : Nat} {G : pG} {SK : Nat → Nat} {a0 : Nat} {x1 : Int32} {σ : pS} {b : Int32 × Int32} {r : Int32} (hW : WT G) (i0 : Is G a0 10) (h : fX11_alone_b19 N G a0 x1 σ b = some r) : Ev miX11_alone (3, 0, 0) G (Zp G (some (.int r)) σ) SK (0, 0) 19 [some (.ref a0), some (.int x1), some (.int b.1), some (.int b.2)] [] σ := by
  unfold fX11_alone_b19 at h
  refine lp_ind (P := fun b r9 => r9 = r → Ev miX11_alone (3, 0, 0) G (Zp G (some (.int r)) σ) SK (0, 0) 19 [some (.ref a0), some (.int x1), some (.int b.1), some (.int b.2)] [] σ) (fun k19 b r9 ih h9 e9 => ?_) N b r h rfl
  clear h
  subst e9
  have h := h9
  clear h9
  have hk19 : ∀ b : Int32 × Int32, k19 b = some r9 → Ev miX11_alone (3, 0, 0) G (Zp G (some (.int r9)) σ) SK (0, 0) 19 [some (.ref a0), some (.int x1), some (.int b.1), some (.int b.2)] [] σ := fun b hb => ih b r9 hb rfl
  clear ih
  obtain ⟨x2, x3⟩ := b
  dsimp only at h ⊢
  refine ev_iload_n dc_X11_alone_19 rfl ?_
  refine ev_bipush (v := 6) dc_X11_alone_20 (by decide) ?_
  refine ev_icmp_ge (tgt := 59) dc_X11_alone_22 (by decide) h (fun h => ?_) (fun h => ?_)
  · refine ev_iload_n dc_X11_alone_59 rfl ?_
    cases h
    exact ev_iret dc_X11_alone_60 rfl rfl rfl
  · refine ev_aload_n dc_X11_alone_25 rfl ?_
    refine ev_getR dc_X11_alone_26 fi_X11_19 rfl i0 ?_
    refine ev_getR dc_X11_alone_29 fi_X11_104 rfl (wt hW i0 1 rfl rfl) ?_
    refine ev_bipush (v := 63) dc_X11_alone_32 (by decide) ?_
    refine ev_iconst (v := 1) dc_X11_alone_34 (by decide) ?_
    refine ev_iload_n dc_X11_alone_35 rfl ?_
    refine ev_ishl dc_X11_alone_36 ?_
    refine ev_iconst (v := (-1)) dc_X11_alone_37 (by decide) ?_
    refine ev_ixor dc_X11_alone_38 ?_
    refine ev_iand dc_X11_alone_39 ?_
    obtain ⟨q1, hq1, h⟩ := Option.bind_eq_some_iff.mp h
    refine ev_callV (av := [.int ((63 : Int32) &&& (((1 : Int32) <<< (x3 &&& 31)) ^^^ (-1 : Int32)))]) (st := []) (st1 := [.int q1]) dc_X11_alone_40 (tX8_dutiesDone hW (wt hW (wt hW i0 1 rfl rfl) 0 rfl rfl) hq1) mw_577 cy_X8_dutiesDone (wt hW (wt hW i0 1 rfl rfl) 0 rfl rfl) (by decide) rfl rfl rfl rfl (Nat.le_of_ble_eq_true rfl) (Nat.le_of_ble_eq_true rfl) ⟨Nat.le_refl _, Nat.le_refl _⟩ ?_
    refine ev_iload_n dc_X11_alone_43 rfl ?_
    refine ev_icmp_eq (tgt := 53) dc_X11_alone_44 (by decide) h (fun h => ?_) (fun h => ?_)
    · refine ev_iinc (v := 1) (lv' := [some (.ref a0), some (.int x1), some (.int x2), some (.int (x3 + (1 : Int32)))]) dc_X11_alone_53 rfl (by decide) rfl (by decide) rfl ?_
      refine ev_goto (tgt := 19) dc_X11_alone_56 (by decide) ?_
      exact ev_sub (hk19 (x2, x3 + (1 : Int32)) h) (And.intro rfl (And.intro rfl (And.intro rfl (And.intro rfl trivial))))
    · refine ev_iload_n dc_X11_alone_47 rfl ?_
      refine ev_iconst (v := 1) dc_X11_alone_48 (by decide) ?_
      refine ev_iload_n dc_X11_alone_49 rfl ?_
      refine ev_ishl dc_X11_alone_50 ?_
      refine ev_ior dc_X11_alone_51 ?_
      refine ev_istore_n (lv' := [some (.ref a0), some (.int x1), some (.int (x2 ||| ((1 : Int32) <<< (x3 &&& 31)))), some (.int x3)]) dc_X11_alone_52 rfl (by decide) rfl ?_
      refine ev_iinc (v := 1) (lv' := [some (.ref a0), some (.int x1), some (.int (x2 ||| ((1 : Int32) <<< (x3 &&& 31)))), some (.int (x3 + (1 : Int32)))]) dc_X11_alone_53 rfl (by decide) rfl (by decide) rfl ?_
      refine ev_goto (tgt := 19) dc_X11_alone_56 (by decide) ?_
      exact ev_sub (hk19 (x2 ||| ((1 : Int32) <<< (x3 &&& 31)), x3 + (1 : Int32)) h) (And.intro rfl (And.intro rfl (And.intro rfl (And.intro rfl trivial))))
def fX11_alone (N : Nat) (G : pG) (a0 : Nat) (σ : pS) : Option (Int32) := fX11_alone_b19 N G a0 (((1 : Int32) <<< ((σ.1 (pR G (pR G a0 1) 0) 5) &&& 31)) - (1 : Int32)) σ ((0 : Int32), (0 : Int32))
set_option maxRecDepth 100000 in
set_option maxHeartbeats 4000000 in
theorem tX11_alone {N : Nat} {G : pG} {SK : Nat → Nat} {a0 : Nat} {σ : pS} {r : Int32} (hW : WT G) (i0 : Is G a0 10) (h : fX11_alone N G a0 σ = some r) : Dn miX11_alone yX11_alone 3 G SK [.ref a0] σ (some (.int r)) σ := by
  unfold fX11_alone at h
  refine dn_of (lv := [some (.ref a0), none, none, none]) (by decide) rfl rfl (Nat.le_of_ble_eq_true rfl) rfl ?_
  refine ev_iconst (v := 1) dc_X11_alone_0 (by decide) ?_
  refine ev_aload_n dc_X11_alone_1 rfl ?_
  refine ev_getR dc_X11_alone_2 fi_X11_19 rfl i0 ?_
  refine ev_getR dc_X11_alone_5 fi_X11_104 rfl (wt hW i0 1 rfl rfl) ?_
  refine ev_getI dc_X11_alone_8 fi_X11_349 rfl (wt hW (wt hW i0 1 rfl rfl) 0 rfl rfl) ?_
  refine ev_ishl dc_X11_alone_11 ?_
  refine ev_iconst (v := 1) dc_X11_alone_12 (by decide) ?_
  refine ev_isub dc_X11_alone_13 ?_
  refine ev_istore_n (lv' := [some (.ref a0), some (.int (((1 : Int32) <<< ((σ.1 (pR G (pR G a0 1) 0) 5) &&& 31)) - (1 : Int32))), none, none]) dc_X11_alone_14 rfl (by decide) rfl ?_
  refine ev_iconst (v := 0) dc_X11_alone_15 (by decide) ?_
  refine ev_istore_n (lv' := [some (.ref a0), some (.int (((1 : Int32) <<< ((σ.1 (pR G (pR G a0 1) 0) 5) &&& 31)) - (1 : Int32))), some (.int (0 : Int32)), none]) dc_X11_alone_16 rfl (by decide) rfl ?_
  refine ev_iconst (v := 0) dc_X11_alone_17 (by decide) ?_
  refine ev_istore_n (lv' := [some (.ref a0), some (.int (((1 : Int32) <<< ((σ.1 (pR G (pR G a0 1) 0) 5) &&& 31)) - (1 : Int32))), some (.int (0 : Int32)), some (.int (0 : Int32))]) dc_X11_alone_18 rfl (by decide) rfl ?_
  exact ev_sub (tX11_alone_b19 (b := ((0 : Int32), (0 : Int32))) hW i0 h) (And.intro rfl (And.intro rfl (And.intro rfl (And.intro rfl trivial))))
theorem dc_X11_back_0 : Dc miX11_back 0 (.aload_n 0) 1 1 := ⟨by decide +kernel, rfl⟩
theorem dc_X11_back_1 : Dc miX11_back 1 (.getfield 68) 3 4 := ⟨by decide +kernel, rfl⟩
theorem dc_X11_back_4 : Dc miX11_back 4 (.ifCond .ne 5) 3 7 := ⟨by decide +kernel, rfl⟩
theorem dc_X11_back_7 : Dc miX11_back 7 (.iconst 0) 1 8 := ⟨by decide +kernel, rfl⟩
theorem dc_X11_back_8 : Dc miX11_back 8 (.ireturn) 1 9 := ⟨by decide +kernel, rfl⟩
theorem dc_X11_back_9 : Dc miX11_back 9 (.aload_n 0) 1 10 := ⟨by decide +kernel, rfl⟩
theorem dc_X11_back_10 : Dc miX11_back 10 (.getfield 19) 3 13 := ⟨by decide +kernel, rfl⟩
theorem dc_X11_back_13 : Dc miX11_back 13 (.aload_n 0) 1 14 := ⟨by decide +kernel, rfl⟩
theorem dc_X11_back_14 : Dc miX11_back 14 (.getfield 26) 3 17 := ⟨by decide +kernel, rfl⟩
theorem dc_X11_back_17 : Dc miX11_back 17 (.invokevirtual 83) 3 20 := ⟨by decide +kernel, rfl⟩
theorem dc_X11_back_20 : Dc miX11_back 20 (.aload_n 0) 1 21 := ⟨by decide +kernel, rfl⟩
theorem dc_X11_back_21 : Dc miX11_back 21 (.getfield 32) 3 24 := ⟨by decide +kernel, rfl⟩
theorem dc_X11_back_24 : Dc miX11_back 24 (.invokevirtual 118) 3 27 := ⟨by decide +kernel, rfl⟩
theorem dc_X11_back_27 : Dc miX11_back 27 (.iconst 1) 1 28 := ⟨by decide +kernel, rfl⟩
theorem dc_X11_back_28 : Dc miX11_back 28 (.ireturn) 1 29 := ⟨by decide +kernel, rfl⟩
def fX11_back (N : Nat) (G : pG) (a0 : Nat) (σ : pS) : Option (Int32 × pS) := if (σ.1 a0 10) = 0 then (some ((0 : Int32), σ)) else ((fX10_copyFrom N G (pR G a0 1) (pR G a0 3) σ).bind (fun q1 => (fX4_forget N G (pR G a0 4) q1).bind (fun q2 => some ((1 : Int32), q2))))
set_option maxRecDepth 100000 in
set_option maxHeartbeats 4000000 in
theorem tX11_back {N : Nat} {G : pG} {SK : Nat → Nat} {a0 : Nat} {σ : pS} {r : Int32 × pS} (hW : WT G) (i0 : Is G a0 10) (h : fX11_back N G a0 σ = some r) : Dn miX11_back yX11_back 4 G SK [.ref a0] σ (some (.int r.1)) r.2 := by
  unfold fX11_back at h
  refine dn_of (lv := [some (.ref a0)]) (by decide) rfl rfl (Nat.le_of_ble_eq_true rfl) rfl ?_
  refine ev_aload_n dc_X11_back_0 rfl ?_
  refine ev_getI dc_X11_back_1 fi_X11_68 rfl i0 ?_
  refine ev_if_ne (tgt := 9) dc_X11_back_4 (by decide) h (fun h => ?_) (fun h => ?_)
  · refine ev_iconst (v := 0) dc_X11_back_7 (by decide) ?_
    cases h
    exact ev_zretc dc_X11_back_8 rfl rfl rfl rfl
  · refine ev_aload_n dc_X11_back_9 rfl ?_
    refine ev_getR dc_X11_back_10 fi_X11_19 rfl i0 ?_
    refine ev_aload_n dc_X11_back_13 rfl ?_
    refine ev_getR dc_X11_back_14 fi_X11_26 rfl i0 ?_
    obtain ⟨q1, hq1, h⟩ := Option.bind_eq_some_iff.mp h
    refine ev_callV (av := [.ref (pR G a0 3)]) (st := []) (st1 := []) dc_X11_back_17 (tX10_copyFrom hW (wt hW i0 1 rfl rfl) (wt hW i0 3 rfl rfl) hq1) mw_646 cy_X10_copyFrom (wt hW i0 1 rfl rfl) (by decide) rfl rfl rfl rfl (Nat.le_of_ble_eq_true rfl) (Nat.le_of_ble_eq_true rfl) ⟨Nat.le_refl _, Nat.le_refl _⟩ ?_
    refine ev_aload_n dc_X11_back_20 rfl ?_
    refine ev_getR dc_X11_back_21 fi_X11_32 rfl i0 ?_
    obtain ⟨q2, hq2, h⟩ := Option.bind_eq_some_iff.mp h
    refine ev_callV (av := []) (st := []) (st1 := []) dc_X11_back_24 (tX4_forget hW (wt hW i0 4 rfl rfl) hq2) mw_665 cy_X4_forget (wt hW i0 4 rfl rfl) (by decide) rfl rfl rfl rfl (Nat.le_of_ble_eq_true rfl) (Nat.le_of_ble_eq_true rfl) ⟨Nat.le_refl _, Nat.le_refl _⟩ ?_
    refine ev_iconst (v := 1) dc_X11_back_27 (by decide) ?_
    cases h
    exact ev_zretc dc_X11_back_28 rfl rfl rfl rfl
theorem dc_X11_began_0 : Dc miX11_began 0 (.aload_n 0) 1 1 := ⟨by decide +kernel, rfl⟩
theorem dc_X11_began_1 : Dc miX11_began 1 (.getfield 19) 3 4 := ⟨by decide +kernel, rfl⟩
theorem dc_X11_began_4 : Dc miX11_began 4 (.getfield 155) 3 7 := ⟨by decide +kernel, rfl⟩
theorem dc_X11_began_7 : Dc miX11_began 7 (.getfield 363) 3 10 := ⟨by decide +kernel, rfl⟩
theorem dc_X11_began_10 : Dc miX11_began 10 (.aload_n 0) 1 11 := ⟨by decide +kernel, rfl⟩
theorem dc_X11_began_11 : Dc miX11_began 11 (.getfield 19) 3 14 := ⟨by decide +kernel, rfl⟩
theorem dc_X11_began_14 : Dc miX11_began 14 (.getfield 104) 3 17 := ⟨by decide +kernel, rfl⟩
theorem dc_X11_began_17 : Dc miX11_began 17 (.getfield 367) 3 20 := ⟨by decide +kernel, rfl⟩
theorem dc_X11_began_20 : Dc miX11_began 20 (.iconst 2) 1 21 := ⟨by decide +kernel, rfl⟩
theorem dc_X11_began_21 : Dc miX11_began 21 (.idiv) 1 22 := ⟨by decide +kernel, rfl⟩
theorem dc_X11_began_22 : Dc miX11_began 22 (.invokevirtual 370) 3 25 := ⟨by decide +kernel, rfl⟩
theorem dc_X11_began_25 : Dc miX11_began 25 (.ireturn) 1 26 := ⟨by decide +kernel, rfl⟩
def fX11_began (N : Nat) (G : pG) (a0 : Nat) (σ : pS) : Option (Int32) := (fX2_streakAbove N G (pR G (pR G (pR G a0 1) 2) 8) ((σ.1 (pR G (pR G a0 1) 0) 6) / (2 : Int32)) σ).bind (fun q1 => some q1)
set_option maxRecDepth 100000 in
set_option maxHeartbeats 4000000 in
theorem tX11_began {N : Nat} {G : pG} {SK : Nat → Nat} {a0 : Nat} {σ : pS} {r : Int32} (hW : WT G) (i0 : Is G a0 10) (h : fX11_began N G a0 σ = some r) : Dn miX11_began yX11_began 4 G SK [.ref a0] σ (some (.int r)) σ := by
  unfold fX11_began at h
  refine dn_of (lv := [some (.ref a0)]) (by decide) rfl rfl (Nat.le_of_ble_eq_true rfl) rfl ?_
  refine ev_aload_n dc_X11_began_0 rfl ?_
  refine ev_getR dc_X11_began_1 fi_X11_19 rfl i0 ?_
  refine ev_getR dc_X11_began_4 fi_X11_155 rfl (wt hW i0 1 rfl rfl) ?_
  refine ev_getR dc_X11_began_7 fi_X11_363 rfl (wt hW (wt hW i0 1 rfl rfl) 2 rfl rfl) ?_
  refine ev_aload_n dc_X11_began_10 rfl ?_
  refine ev_getR dc_X11_began_11 fi_X11_19 rfl i0 ?_
  refine ev_getR dc_X11_began_14 fi_X11_104 rfl (wt hW i0 1 rfl rfl) ?_
  refine ev_getI dc_X11_began_17 fi_X11_367 rfl (wt hW (wt hW i0 1 rfl rfl) 0 rfl rfl) ?_
  refine ev_iconst (v := 2) dc_X11_began_20 (by decide) ?_
  refine ev_idiv dc_X11_began_21 (by decide) ?_
  obtain ⟨q1, hq1, h⟩ := Option.bind_eq_some_iff.mp h
  refine ev_callV (av := [.int ((σ.1 (pR G (pR G a0 1) 0) 6) / (2 : Int32))]) (st := []) (st1 := [.int q1]) dc_X11_began_22 (tX2_streakAbove hW (wt hW (wt hW (wt hW i0 1 rfl rfl) 2 rfl rfl) 8 rfl rfl) hq1) mw_593 cy_X2_streakAbove (wt hW (wt hW (wt hW i0 1 rfl rfl) 2 rfl rfl) 8 rfl rfl) (by decide) rfl rfl rfl rfl (Nat.le_of_ble_eq_true rfl) (Nat.le_of_ble_eq_true rfl) ⟨Nat.le_refl _, Nat.le_refl _⟩ ?_
  cases h
  exact ev_iret dc_X11_began_25 rfl rfl rfl
theorem dc_X11_beliefIn_0 : Dc miX11_beliefIn 0 (.aload_n 0) 1 1 := ⟨by decide +kernel, rfl⟩
theorem dc_X11_beliefIn_1 : Dc miX11_beliefIn 1 (.getfield 19) 3 4 := ⟨by decide +kernel, rfl⟩
theorem dc_X11_beliefIn_4 : Dc miX11_beliefIn 4 (.getfield 104) 3 7 := ⟨by decide +kernel, rfl⟩
theorem dc_X11_beliefIn_7 : Dc miX11_beliefIn 7 (.aload_n 0) 1 8 := ⟨by decide +kernel, rfl⟩
theorem dc_X11_beliefIn_8 : Dc miX11_beliefIn 8 (.getfield 19) 3 11 := ⟨by decide +kernel, rfl⟩
theorem dc_X11_beliefIn_11 : Dc miX11_beliefIn 11 (.getfield 155) 3 14 := ⟨by decide +kernel, rfl⟩
theorem dc_X11_beliefIn_14 : Dc miX11_beliefIn 14 (.getfield 158) 3 17 := ⟨by decide +kernel, rfl⟩
theorem dc_X11_beliefIn_17 : Dc miX11_beliefIn 17 (.invokevirtual 346) 3 20 := ⟨by decide +kernel, rfl⟩
theorem dc_X11_beliefIn_20 : Dc miX11_beliefIn 20 (.istore_n 2) 1 21 := ⟨by decide +kernel, rfl⟩
theorem dc_X11_beliefIn_21 : Dc miX11_beliefIn 21 (.aload_n 0) 1 22 := ⟨by decide +kernel, rfl⟩
theorem dc_X11_beliefIn_22 : Dc miX11_beliefIn 22 (.getfield 19) 3 25 := ⟨by decide +kernel, rfl⟩
theorem dc_X11_beliefIn_25 : Dc miX11_beliefIn 25 (.getfield 104) 3 28 := ⟨by decide +kernel, rfl⟩
theorem dc_X11_beliefIn_28 : Dc miX11_beliefIn 28 (.aload_n 0) 1 29 := ⟨by decide +kernel, rfl⟩
theorem dc_X11_beliefIn_29 : Dc miX11_beliefIn 29 (.getfield 19) 3 32 := ⟨by decide +kernel, rfl⟩
theorem dc_X11_beliefIn_32 : Dc miX11_beliefIn 32 (.getfield 155) 3 35 := ⟨by decide +kernel, rfl⟩
theorem dc_X11_beliefIn_35 : Dc miX11_beliefIn 35 (.getfield 158) 3 38 := ⟨by decide +kernel, rfl⟩
theorem dc_X11_beliefIn_38 : Dc miX11_beliefIn 38 (.iload_n 1) 1 39 := ⟨by decide +kernel, rfl⟩
theorem dc_X11_beliefIn_39 : Dc miX11_beliefIn 39 (.iand) 1 40 := ⟨by decide +kernel, rfl⟩
theorem dc_X11_beliefIn_40 : Dc miX11_beliefIn 40 (.invokevirtual 346) 3 43 := ⟨by decide +kernel, rfl⟩
theorem dc_X11_beliefIn_43 : Dc miX11_beliefIn 43 (.istore_n 3) 1 44 := ⟨by decide +kernel, rfl⟩
theorem dc_X11_beliefIn_44 : Dc miX11_beliefIn 44 (.iload_n 2) 1 45 := ⟨by decide +kernel, rfl⟩
theorem dc_X11_beliefIn_45 : Dc miX11_beliefIn 45 (.ifCond .gt 7) 3 48 := ⟨by decide +kernel, rfl⟩
theorem dc_X11_beliefIn_48 : Dc miX11_beliefIn 48 (.iconst 0) 1 49 := ⟨by decide +kernel, rfl⟩
theorem dc_X11_beliefIn_49 : Dc miX11_beliefIn 49 (.goto 10) 3 52 := ⟨by decide +kernel, rfl⟩
theorem dc_X11_beliefIn_52 : Dc miX11_beliefIn 52 (.iload_n 3) 1 53 := ⟨by decide +kernel, rfl⟩
theorem dc_X11_beliefIn_53 : Dc miX11_beliefIn 53 (.sipush 10000) 3 56 := ⟨by decide +kernel, rfl⟩
theorem dc_X11_beliefIn_56 : Dc miX11_beliefIn 56 (.imul) 1 57 := ⟨by decide +kernel, rfl⟩
theorem dc_X11_beliefIn_57 : Dc miX11_beliefIn 57 (.iload_n 2) 1 58 := ⟨by decide +kernel, rfl⟩
theorem dc_X11_beliefIn_58 : Dc miX11_beliefIn 58 (.idiv) 1 59 := ⟨by decide +kernel, rfl⟩
theorem dc_X11_beliefIn_59 : Dc miX11_beliefIn 59 (.ireturn) 1 60 := ⟨by decide +kernel, rfl⟩
def fX11_beliefIn (N : Nat) (G : pG) (a0 : Nat) (a1 : Int32) (σ : pS) : Option (Int32) := (fX8_creditOf N G (pR G (pR G a0 1) 0) (σ.1 (pR G (pR G a0 1) 2) 3) σ).bind (fun q1 => (fX8_creditOf N G (pR G (pR G a0 1) 0) ((σ.1 (pR G (pR G a0 1) 2) 3) &&& a1) σ).bind (fun q2 => if 0 < q1 then (ck (decide (¬ q1 = 0)) (some ((q2 * (10000 : Int32)) / q1))) else (some (0 : Int32))))
set_option maxRecDepth 100000 in
set_option maxHeartbeats 4000000 in
theorem tX11_beliefIn {N : Nat} {G : pG} {SK : Nat → Nat} {a0 : Nat} {a1 : Int32} {σ : pS} {r : Int32} (hW : WT G) (i0 : Is G a0 10) (h : fX11_beliefIn N G a0 a1 σ = some r) : Dn miX11_beliefIn yX11_beliefIn 3 G SK [.ref a0, .int a1] σ (some (.int r)) σ := by
  unfold fX11_beliefIn at h
  refine dn_of (lv := [some (.ref a0), some (.int a1), none, none]) (by decide) rfl rfl (Nat.le_of_ble_eq_true rfl) rfl ?_
  refine ev_aload_n dc_X11_beliefIn_0 rfl ?_
  refine ev_getR dc_X11_beliefIn_1 fi_X11_19 rfl i0 ?_
  refine ev_getR dc_X11_beliefIn_4 fi_X11_104 rfl (wt hW i0 1 rfl rfl) ?_
  refine ev_aload_n dc_X11_beliefIn_7 rfl ?_
  refine ev_getR dc_X11_beliefIn_8 fi_X11_19 rfl i0 ?_
  refine ev_getR dc_X11_beliefIn_11 fi_X11_155 rfl (wt hW i0 1 rfl rfl) ?_
  refine ev_getI dc_X11_beliefIn_14 fi_X11_158 rfl (wt hW (wt hW i0 1 rfl rfl) 2 rfl rfl) ?_
  obtain ⟨q1, hq1, h⟩ := Option.bind_eq_some_iff.mp h
  refine ev_callV (av := [.int (σ.1 (pR G (pR G a0 1) 2) 3)]) (st := []) (st1 := [.int q1]) dc_X11_beliefIn_17 (tX8_creditOf hW (wt hW (wt hW i0 1 rfl rfl) 0 rfl rfl) hq1) mw_1063 cy_X8_creditOf (wt hW (wt hW i0 1 rfl rfl) 0 rfl rfl) (by decide) rfl rfl rfl rfl (Nat.le_of_ble_eq_true rfl) (Nat.le_of_ble_eq_true rfl) ⟨Nat.le_refl _, Nat.le_refl _⟩ ?_
  refine ev_istore_n (lv' := [some (.ref a0), some (.int a1), some (.int q1), none]) dc_X11_beliefIn_20 rfl (by decide) rfl ?_
  refine ev_aload_n dc_X11_beliefIn_21 rfl ?_
  refine ev_getR dc_X11_beliefIn_22 fi_X11_19 rfl i0 ?_
  refine ev_getR dc_X11_beliefIn_25 fi_X11_104 rfl (wt hW i0 1 rfl rfl) ?_
  refine ev_aload_n dc_X11_beliefIn_28 rfl ?_
  refine ev_getR dc_X11_beliefIn_29 fi_X11_19 rfl i0 ?_
  refine ev_getR dc_X11_beliefIn_32 fi_X11_155 rfl (wt hW i0 1 rfl rfl) ?_
  refine ev_getI dc_X11_beliefIn_35 fi_X11_158 rfl (wt hW (wt hW i0 1 rfl rfl) 2 rfl rfl) ?_
  refine ev_iload_n dc_X11_beliefIn_38 rfl ?_
  refine ev_iand dc_X11_beliefIn_39 ?_
  obtain ⟨q2, hq2, h⟩ := Option.bind_eq_some_iff.mp h
  refine ev_callV (av := [.int ((σ.1 (pR G (pR G a0 1) 2) 3) &&& a1)]) (st := []) (st1 := [.int q2]) dc_X11_beliefIn_40 (tX8_creditOf hW (wt hW (wt hW i0 1 rfl rfl) 0 rfl rfl) hq2) mw_1063 cy_X8_creditOf (wt hW (wt hW i0 1 rfl rfl) 0 rfl rfl) (by decide) rfl rfl rfl rfl (Nat.le_of_ble_eq_true rfl) (Nat.le_of_ble_eq_true rfl) ⟨Nat.le_refl _, Nat.le_refl _⟩ ?_
  refine ev_istore_n (lv' := [some (.ref a0), some (.int a1), some (.int q1), some (.int q2)]) dc_X11_beliefIn_43 rfl (by decide) rfl ?_
  refine ev_iload_n dc_X11_beliefIn_44 rfl ?_
  refine ev_if_gt (tgt := 52) dc_X11_beliefIn_45 (by decide) h (fun h => ?_) (fun h => ?_)
  · refine ev_iload_n dc_X11_beliefIn_52 rfl ?_
    refine ev_sipush (v := 10000) dc_X11_beliefIn_53 (by decide) ?_
    refine ev_imul dc_X11_beliefIn_56 ?_
    refine ev_iload_n dc_X11_beliefIn_57 rfl ?_
    obtain ⟨hz, h⟩ := ck_s h
    refine ev_idiv dc_X11_beliefIn_58 (of_decide_eq_true hz) ?_
    cases h
    exact ev_iret dc_X11_beliefIn_59 rfl rfl rfl
  · refine ev_iconst (v := 0) dc_X11_beliefIn_48 (by decide) ?_
    refine ev_goto (tgt := 59) dc_X11_beliefIn_49 (by decide) ?_
    cases h
    exact ev_iret dc_X11_beliefIn_59 rfl rfl rfl
theorem dc_X11_best_0 : Dc miX11_best 0 (.aload_n 0) 1 1 := ⟨by decide +kernel, rfl⟩
theorem dc_X11_best_1 : Dc miX11_best 1 (.getfield 19) 3 4 := ⟨by decide +kernel, rfl⟩
theorem dc_X11_best_4 : Dc miX11_best 4 (.getfield 104) 3 7 := ⟨by decide +kernel, rfl⟩
theorem dc_X11_best_7 : Dc miX11_best 7 (.aload_n 0) 1 8 := ⟨by decide +kernel, rfl⟩
theorem dc_X11_best_8 : Dc miX11_best 8 (.getfield 19) 3 11 := ⟨by decide +kernel, rfl⟩
theorem dc_X11_best_11 : Dc miX11_best 11 (.getfield 155) 3 14 := ⟨by decide +kernel, rfl⟩
theorem dc_X11_best_14 : Dc miX11_best 14 (.getfield 158) 3 17 := ⟨by decide +kernel, rfl⟩
theorem dc_X11_best_17 : Dc miX11_best 17 (.invokevirtual 331) 3 20 := ⟨by decide +kernel, rfl⟩
theorem dc_X11_best_20 : Dc miX11_best 20 (.ireturn) 1 21 := ⟨by decide +kernel, rfl⟩
def fX11_best (N : Nat) (G : pG) (a0 : Nat) (σ : pS) : Option (Int32) := (fX8_partingTrait N G (pR G (pR G a0 1) 0) (σ.1 (pR G (pR G a0 1) 2) 3) σ).bind (fun q1 => some q1)
set_option maxRecDepth 100000 in
set_option maxHeartbeats 4000000 in
theorem tX11_best {N : Nat} {G : pG} {SK : Nat → Nat} {a0 : Nat} {σ : pS} {r : Int32} (hW : WT G) (i0 : Is G a0 10) (h : fX11_best N G a0 σ = some r) : Dn miX11_best yX11_best 3 G SK [.ref a0] σ (some (.int r)) σ := by
  unfold fX11_best at h
  refine dn_of (lv := [some (.ref a0)]) (by decide) rfl rfl (Nat.le_of_ble_eq_true rfl) rfl ?_
  refine ev_aload_n dc_X11_best_0 rfl ?_
  refine ev_getR dc_X11_best_1 fi_X11_19 rfl i0 ?_
  refine ev_getR dc_X11_best_4 fi_X11_104 rfl (wt hW i0 1 rfl rfl) ?_
  refine ev_aload_n dc_X11_best_7 rfl ?_
  refine ev_getR dc_X11_best_8 fi_X11_19 rfl i0 ?_
  refine ev_getR dc_X11_best_11 fi_X11_155 rfl (wt hW i0 1 rfl rfl) ?_
  refine ev_getI dc_X11_best_14 fi_X11_158 rfl (wt hW (wt hW i0 1 rfl rfl) 2 rfl rfl) ?_
  obtain ⟨q1, hq1, h⟩ := Option.bind_eq_some_iff.mp h
  refine ev_callV (av := [.int (σ.1 (pR G (pR G a0 1) 2) 3)]) (st := []) (st1 := [.int q1]) dc_X11_best_17 (tX8_partingTrait hW (wt hW (wt hW i0 1 rfl rfl) 0 rfl rfl) hq1) mw_509 cy_X8_partingTrait (wt hW (wt hW i0 1 rfl rfl) 0 rfl rfl) (by decide) rfl rfl rfl rfl (Nat.le_of_ble_eq_true rfl) (Nat.le_of_ble_eq_true rfl) ⟨Nat.le_refl _, Nat.le_refl _⟩ ?_
  cases h
  exact ev_iret dc_X11_best_20 rfl rfl rfl
theorem dc_X11_count_0 : Dc miX11_count 0 (.aload_n 0) 1 1 := ⟨by decide +kernel, rfl⟩
theorem dc_X11_count_1 : Dc miX11_count 1 (.getfield 19) 3 4 := ⟨by decide +kernel, rfl⟩
theorem dc_X11_count_4 : Dc miX11_count 4 (.getfield 104) 3 7 := ⟨by decide +kernel, rfl⟩
theorem dc_X11_count_7 : Dc miX11_count 7 (.astore_n 2) 1 8 := ⟨by decide +kernel, rfl⟩
theorem dc_X11_count_8 : Dc miX11_count 8 (.aload_n 0) 1 9 := ⟨by decide +kernel, rfl⟩
theorem dc_X11_count_9 : Dc miX11_count 9 (.getfield 19) 3 12 := ⟨by decide +kernel, rfl⟩
theorem dc_X11_count_12 : Dc miX11_count 12 (.getfield 155) 3 15 := ⟨by decide +kernel, rfl⟩
theorem dc_X11_count_15 : Dc miX11_count 15 (.astore_n 3) 1 16 := ⟨by decide +kernel, rfl⟩
theorem dc_X11_count_16 : Dc miX11_count 16 (.iload_n 1) 1 17 := ⟨by decide +kernel, rfl⟩
theorem dc_X11_count_17 : Dc miX11_count 17 (.tableswitch 215 0 18 #[91, 96, 101, 106, 111, 116, 121, 132, 137, 142, 147, 152, 157, 162, 175, 180, 185, 199, 207]) 91 108 := ⟨by decide +kernel, rfl⟩
theorem dc_X11_count_108 : Dc miX11_count 108 (.aload_n 2) 1 109 := ⟨by decide +kernel, rfl⟩
theorem dc_X11_count_109 : Dc miX11_count 109 (.getfield 248) 3 112 := ⟨by decide +kernel, rfl⟩
theorem dc_X11_count_112 : Dc miX11_count 112 (.ireturn) 1 113 := ⟨by decide +kernel, rfl⟩
theorem dc_X11_count_113 : Dc miX11_count 113 (.aload_n 2) 1 114 := ⟨by decide +kernel, rfl⟩
theorem dc_X11_count_114 : Dc miX11_count 114 (.getfield 310) 3 117 := ⟨by decide +kernel, rfl⟩
theorem dc_X11_count_117 : Dc miX11_count 117 (.ireturn) 1 118 := ⟨by decide +kernel, rfl⟩
theorem dc_X11_count_118 : Dc miX11_count 118 (.aload_n 2) 1 119 := ⟨by decide +kernel, rfl⟩
theorem dc_X11_count_119 : Dc miX11_count 119 (.getfield 313) 3 122 := ⟨by decide +kernel, rfl⟩
theorem dc_X11_count_122 : Dc miX11_count 122 (.ireturn) 1 123 := ⟨by decide +kernel, rfl⟩
theorem dc_X11_count_123 : Dc miX11_count 123 (.aload_n 2) 1 124 := ⟨by decide +kernel, rfl⟩
theorem dc_X11_count_124 : Dc miX11_count 124 (.getfield 322) 3 127 := ⟨by decide +kernel, rfl⟩
theorem dc_X11_count_127 : Dc miX11_count 127 (.ireturn) 1 128 := ⟨by decide +kernel, rfl⟩
theorem dc_X11_count_128 : Dc miX11_count 128 (.aload_n 2) 1 129 := ⟨by decide +kernel, rfl⟩
theorem dc_X11_count_129 : Dc miX11_count 129 (.getfield 349) 3 132 := ⟨by decide +kernel, rfl⟩
theorem dc_X11_count_132 : Dc miX11_count 132 (.ireturn) 1 133 := ⟨by decide +kernel, rfl⟩
theorem dc_X11_count_133 : Dc miX11_count 133 (.aload_n 2) 1 134 := ⟨by decide +kernel, rfl⟩
theorem dc_X11_count_134 : Dc miX11_count 134 (.getfield 108) 3 137 := ⟨by decide +kernel, rfl⟩
theorem dc_X11_count_137 : Dc miX11_count 137 (.ireturn) 1 138 := ⟨by decide +kernel, rfl⟩
theorem dc_X11_count_138 : Dc miX11_count 138 (.aload_n 0) 1 139 := ⟨by decide +kernel, rfl⟩
theorem dc_X11_count_139 : Dc miX11_count 139 (.getfield 19) 3 142 := ⟨by decide +kernel, rfl⟩
theorem dc_X11_count_142 : Dc miX11_count 142 (.getfield 121) 3 145 := ⟨by decide +kernel, rfl⟩
theorem dc_X11_count_145 : Dc miX11_count 145 (.getfield 135) 3 148 := ⟨by decide +kernel, rfl⟩
theorem dc_X11_count_148 : Dc miX11_count 148 (.ireturn) 1 149 := ⟨by decide +kernel, rfl⟩
theorem dc_X11_count_149 : Dc miX11_count 149 (.aload_n 3) 1 150 := ⟨by decide +kernel, rfl⟩
theorem dc_X11_count_150 : Dc miX11_count 150 (.getfield 232) 3 153 := ⟨by decide +kernel, rfl⟩
theorem dc_X11_count_153 : Dc miX11_count 153 (.ireturn) 1 154 := ⟨by decide +kernel, rfl⟩
theorem dc_X11_count_154 : Dc miX11_count 154 (.aload_n 2) 1 155 := ⟨by decide +kernel, rfl⟩
theorem dc_X11_count_155 : Dc miX11_count 155 (.getfield 367) 3 158 := ⟨by decide +kernel, rfl⟩
theorem dc_X11_count_158 : Dc miX11_count 158 (.ireturn) 1 159 := ⟨by decide +kernel, rfl⟩
theorem dc_X11_count_159 : Dc miX11_count 159 (.aload_n 3) 1 160 := ⟨by decide +kernel, rfl⟩
theorem dc_X11_count_160 : Dc miX11_count 160 (.getfield 389) 3 163 := ⟨by decide +kernel, rfl⟩
theorem dc_X11_count_163 : Dc miX11_count 163 (.ireturn) 1 164 := ⟨by decide +kernel, rfl⟩
theorem dc_X11_count_164 : Dc miX11_count 164 (.aload_n 2) 1 165 := ⟨by decide +kernel, rfl⟩
theorem dc_X11_count_165 : Dc miX11_count 165 (.getfield 392) 3 168 := ⟨by decide +kernel, rfl⟩
theorem dc_X11_count_168 : Dc miX11_count 168 (.ireturn) 1 169 := ⟨by decide +kernel, rfl⟩
theorem dc_X11_count_169 : Dc miX11_count 169 (.aload_n 3) 1 170 := ⟨by decide +kernel, rfl⟩
theorem dc_X11_count_170 : Dc miX11_count 170 (.getfield 245) 3 173 := ⟨by decide +kernel, rfl⟩
theorem dc_X11_count_173 : Dc miX11_count 173 (.ireturn) 1 174 := ⟨by decide +kernel, rfl⟩
theorem dc_X11_count_174 : Dc miX11_count 174 (.aload_n 3) 1 175 := ⟨by decide +kernel, rfl⟩
theorem dc_X11_count_175 : Dc miX11_count 175 (.getfield 158) 3 178 := ⟨by decide +kernel, rfl⟩
theorem dc_X11_count_178 : Dc miX11_count 178 (.ireturn) 1 179 := ⟨by decide +kernel, rfl⟩
theorem dc_X11_count_179 : Dc miX11_count 179 (.aload_n 3) 1 180 := ⟨by decide +kernel, rfl⟩
theorem dc_X11_count_180 : Dc miX11_count 180 (.getfield 216) 3 183 := ⟨by decide +kernel, rfl⟩
theorem dc_X11_count_183 : Dc miX11_count 183 (.ifCond .eq 7) 3 186 := ⟨by decide +kernel, rfl⟩
theorem dc_X11_count_186 : Dc miX11_count 186 (.iconst 1) 1 187 := ⟨by decide +kernel, rfl⟩
theorem dc_X11_count_187 : Dc miX11_count 187 (.goto 4) 3 190 := ⟨by decide +kernel, rfl⟩
theorem dc_X11_count_190 : Dc miX11_count 190 (.iconst 0) 1 191 := ⟨by decide +kernel, rfl⟩
theorem dc_X11_count_191 : Dc miX11_count 191 (.ireturn) 1 192 := ⟨by decide +kernel, rfl⟩
theorem dc_X11_count_192 : Dc miX11_count 192 (.aload_n 2) 1 193 := ⟨by decide +kernel, rfl⟩
theorem dc_X11_count_193 : Dc miX11_count 193 (.getfield 395) 3 196 := ⟨by decide +kernel, rfl⟩
theorem dc_X11_count_196 : Dc miX11_count 196 (.ireturn) 1 197 := ⟨by decide +kernel, rfl⟩
theorem dc_X11_count_197 : Dc miX11_count 197 (.aload_n 3) 1 198 := ⟨by decide +kernel, rfl⟩
theorem dc_X11_count_198 : Dc miX11_count 198 (.getfield 183) 3 201 := ⟨by decide +kernel, rfl⟩
theorem dc_X11_count_201 : Dc miX11_count 201 (.ireturn) 1 202 := ⟨by decide +kernel, rfl⟩
theorem dc_X11_count_202 : Dc miX11_count 202 (.iconst 0) 1 203 := ⟨by decide +kernel, rfl⟩
theorem dc_X11_count_203 : Dc miX11_count 203 (.aload_n 2) 1 204 := ⟨by decide +kernel, rfl⟩
theorem dc_X11_count_204 : Dc miX11_count 204 (.getfield 392) 3 207 := ⟨by decide +kernel, rfl⟩
theorem dc_X11_count_207 : Dc miX11_count 207 (.aload_n 3) 1 208 := ⟨by decide +kernel, rfl⟩
theorem dc_X11_count_208 : Dc miX11_count 208 (.getfield 389) 3 211 := ⟨by decide +kernel, rfl⟩
theorem dc_X11_count_211 : Dc miX11_count 211 (.isub) 1 212 := ⟨by decide +kernel, rfl⟩
theorem dc_X11_count_212 : Dc miX11_count 212 (.invokestatic 398) 3 215 := ⟨by decide +kernel, rfl⟩
theorem dc_X11_count_215 : Dc miX11_count 215 (.ireturn) 1 216 := ⟨by decide +kernel, rfl⟩
theorem dc_X11_count_216 : Dc miX11_count 216 (.aload_n 3) 1 217 := ⟨by decide +kernel, rfl⟩
theorem dc_X11_count_217 : Dc miX11_count 217 (.getfield 363) 3 220 := ⟨by decide +kernel, rfl⟩
theorem dc_X11_count_220 : Dc miX11_count 220 (.getfield 401) 3 223 := ⟨by decide +kernel, rfl⟩
theorem dc_X11_count_223 : Dc miX11_count 223 (.ireturn) 1 224 := ⟨by decide +kernel, rfl⟩
theorem dc_X11_count_224 : Dc miX11_count 224 (.aload_n 0) 1 225 := ⟨by decide +kernel, rfl⟩
theorem dc_X11_count_225 : Dc miX11_count 225 (.getfield 32) 3 228 := ⟨by decide +kernel, rfl⟩
theorem dc_X11_count_228 : Dc miX11_count 228 (.getfield 404) 3 231 := ⟨by decide +kernel, rfl⟩
theorem dc_X11_count_231 : Dc miX11_count 231 (.ireturn) 1 232 := ⟨by decide +kernel, rfl⟩
theorem dc_X11_count_232 : Dc miX11_count 232 (.iconst (-1)) 1 233 := ⟨by decide +kernel, rfl⟩
theorem dc_X11_count_233 : Dc miX11_count 233 (.ireturn) 1 234 := ⟨by decide +kernel, rfl⟩
def fX11_count (N : Nat) (G : pG) (a0 : Nat) (a1 : Int32) (σ : pS) : Option (Int32) := if a1 = 0 then (some (σ.1 (pR G (pR G a0 1) 0) 1)) else (if a1 = 1 then (some (σ.1 (pR G (pR G a0 1) 0) 4)) else (if a1 = 2 then (some (σ.1 (pR G (pR G a0 1) 0) 2)) else (if a1 = 3 then (some (σ.1 (pR G (pR G a0 1) 0) 3)) else (if a1 = 4 then (some (σ.1 (pR G (pR G a0 1) 0) 5)) else (if a1 = 5 then (some (σ.1 (pR G (pR G a0 1) 0) 0)) else (if a1 = 6 then (some (σ.1 (pR G (pR G a0 1) 1) 0)) else (if a1 = 7 then (some (σ.1 (pR G (pR G a0 1) 2) 0)) else (if a1 = 8 then (some (σ.1 (pR G (pR G a0 1) 0) 6)) else (if a1 = 9 then (some (σ.1 (pR G (pR G a0 1) 2) 1)) else (if a1 = 10 then (some (σ.1 (pR G (pR G a0 1) 0) 7)) else (if a1 = 11 then (some (σ.1 (pR G (pR G a0 1) 2) 2)) else (if a1 = 12 then (some (σ.1 (pR G (pR G a0 1) 2) 3)) else (if a1 = 13 then (if (σ.1 (pR G (pR G a0 1) 2) 6) = 0 then (some (0 : Int32)) else (some (1 : Int32))) else (if a1 = 14 then (some (σ.1 (pR G (pR G a0 1) 0) 8)) else (if a1 = 15 then (some (σ.1 (pR G (pR G a0 1) 2) 4)) else (if a1 = 16 then (some (jmax (0 : Int32) ((σ.1 (pR G (pR G a0 1) 0) 7) - (σ.1 (pR G (pR G a0 1) 2) 1)))) else (if a1 = 17 then (some (σ.1 (pR G (pR G (pR G a0 1) 2) 8) 0)) else (if a1 = 18 then (some (σ.1 (pR G a0 4) 0)) else (some (-1 : Int32))))))))))))))))))))
set_option maxRecDepth 100000 in
set_option maxHeartbeats 4000000 in
theorem tX11_count {N : Nat} {G : pG} {SK : Nat → Nat} {a0 : Nat} {a1 : Int32} {σ : pS} {r : Int32} (hW : WT G) (i0 : Is G a0 10) (h : fX11_count N G a0 a1 σ = some r) : Dn miX11_count yX11_count 1 G SK [.ref a0, .int a1] σ (some (.int r)) σ := by
  unfold fX11_count at h
  refine dn_of (lv := [some (.ref a0), some (.int a1), none, none]) (by decide) rfl rfl (Nat.le_of_ble_eq_true rfl) rfl ?_
  refine ev_aload_n dc_X11_count_0 rfl ?_
  refine ev_getR dc_X11_count_1 fi_X11_19 rfl i0 ?_
  refine ev_getR dc_X11_count_4 fi_X11_104 rfl (wt hW i0 1 rfl rfl) ?_
  refine ev_astore_n (lv' := [some (.ref a0), some (.int a1), some (.ref (pR G (pR G a0 1) 0)), none]) dc_X11_count_7 rfl (by decide) rfl ?_
  refine ev_aload_n dc_X11_count_8 rfl ?_
  refine ev_getR dc_X11_count_9 fi_X11_19 rfl i0 ?_
  refine ev_getR dc_X11_count_12 fi_X11_155 rfl (wt hW i0 1 rfl rfl) ?_
  refine ev_astore_n (lv' := [some (.ref a0), some (.int a1), some (.ref (pR G (pR G a0 1) 0)), some (.ref (pR G (pR G a0 1) 2))]) dc_X11_count_15 rfl (by decide) rfl ?_
  refine ev_iload_n dc_X11_count_16 rfl ?_
  by_cases z0 : a1 = 0
  · rw [if_pos z0] at h
    refine ev_tabIn (tgt := 108) 0 z0 dc_X11_count_17 (by decide) (by decide) rfl (by decide) ?_
    refine ev_aload_n dc_X11_count_108 rfl ?_
    refine ev_getI dc_X11_count_109 fi_X11_248 rfl (wt hW (wt hW i0 1 rfl rfl) 0 rfl rfl) ?_
    cases h
    exact ev_iret dc_X11_count_112 rfl rfl rfl
  rw [if_neg z0] at h
  by_cases z1 : a1 = 1
  · rw [if_pos z1] at h
    refine ev_tabIn (tgt := 113) 1 z1 dc_X11_count_17 (by decide) (by decide) rfl (by decide) ?_
    refine ev_aload_n dc_X11_count_113 rfl ?_
    refine ev_getI dc_X11_count_114 fi_X11_310 rfl (wt hW (wt hW i0 1 rfl rfl) 0 rfl rfl) ?_
    cases h
    exact ev_iret dc_X11_count_117 rfl rfl rfl
  rw [if_neg z1] at h
  by_cases z2 : a1 = 2
  · rw [if_pos z2] at h
    refine ev_tabIn (tgt := 118) 2 z2 dc_X11_count_17 (by decide) (by decide) rfl (by decide) ?_
    refine ev_aload_n dc_X11_count_118 rfl ?_
    refine ev_getI dc_X11_count_119 fi_X11_313 rfl (wt hW (wt hW i0 1 rfl rfl) 0 rfl rfl) ?_
    cases h
    exact ev_iret dc_X11_count_122 rfl rfl rfl
  rw [if_neg z2] at h
  by_cases z3 : a1 = 3
  · rw [if_pos z3] at h
    refine ev_tabIn (tgt := 123) 3 z3 dc_X11_count_17 (by decide) (by decide) rfl (by decide) ?_
    refine ev_aload_n dc_X11_count_123 rfl ?_
    refine ev_getI dc_X11_count_124 fi_X11_322 rfl (wt hW (wt hW i0 1 rfl rfl) 0 rfl rfl) ?_
    cases h
    exact ev_iret dc_X11_count_127 rfl rfl rfl
  rw [if_neg z3] at h
  by_cases z4 : a1 = 4
  · rw [if_pos z4] at h
    refine ev_tabIn (tgt := 128) 4 z4 dc_X11_count_17 (by decide) (by decide) rfl (by decide) ?_
    refine ev_aload_n dc_X11_count_128 rfl ?_
    refine ev_getI dc_X11_count_129 fi_X11_349 rfl (wt hW (wt hW i0 1 rfl rfl) 0 rfl rfl) ?_
    cases h
    exact ev_iret dc_X11_count_132 rfl rfl rfl
  rw [if_neg z4] at h
  by_cases z5 : a1 = 5
  · rw [if_pos z5] at h
    refine ev_tabIn (tgt := 133) 5 z5 dc_X11_count_17 (by decide) (by decide) rfl (by decide) ?_
    refine ev_aload_n dc_X11_count_133 rfl ?_
    refine ev_getI dc_X11_count_134 fi_X11_108 rfl (wt hW (wt hW i0 1 rfl rfl) 0 rfl rfl) ?_
    cases h
    exact ev_iret dc_X11_count_137 rfl rfl rfl
  rw [if_neg z5] at h
  by_cases z6 : a1 = 6
  · rw [if_pos z6] at h
    refine ev_tabIn (tgt := 138) 6 z6 dc_X11_count_17 (by decide) (by decide) rfl (by decide) ?_
    refine ev_aload_n dc_X11_count_138 rfl ?_
    refine ev_getR dc_X11_count_139 fi_X11_19 rfl i0 ?_
    refine ev_getR dc_X11_count_142 fi_X11_121 rfl (wt hW i0 1 rfl rfl) ?_
    refine ev_getI dc_X11_count_145 fi_X11_135 rfl (wt hW (wt hW i0 1 rfl rfl) 1 rfl rfl) ?_
    cases h
    exact ev_iret dc_X11_count_148 rfl rfl rfl
  rw [if_neg z6] at h
  by_cases z7 : a1 = 7
  · rw [if_pos z7] at h
    refine ev_tabIn (tgt := 149) 7 z7 dc_X11_count_17 (by decide) (by decide) rfl (by decide) ?_
    refine ev_aload_n dc_X11_count_149 rfl ?_
    refine ev_getI dc_X11_count_150 fi_X11_232 rfl (wt hW (wt hW i0 1 rfl rfl) 2 rfl rfl) ?_
    cases h
    exact ev_iret dc_X11_count_153 rfl rfl rfl
  rw [if_neg z7] at h
  by_cases z8 : a1 = 8
  · rw [if_pos z8] at h
    refine ev_tabIn (tgt := 154) 8 z8 dc_X11_count_17 (by decide) (by decide) rfl (by decide) ?_
    refine ev_aload_n dc_X11_count_154 rfl ?_
    refine ev_getI dc_X11_count_155 fi_X11_367 rfl (wt hW (wt hW i0 1 rfl rfl) 0 rfl rfl) ?_
    cases h
    exact ev_iret dc_X11_count_158 rfl rfl rfl
  rw [if_neg z8] at h
  by_cases z9 : a1 = 9
  · rw [if_pos z9] at h
    refine ev_tabIn (tgt := 159) 9 z9 dc_X11_count_17 (by decide) (by decide) rfl (by decide) ?_
    refine ev_aload_n dc_X11_count_159 rfl ?_
    refine ev_getI dc_X11_count_160 fi_X11_389 rfl (wt hW (wt hW i0 1 rfl rfl) 2 rfl rfl) ?_
    cases h
    exact ev_iret dc_X11_count_163 rfl rfl rfl
  rw [if_neg z9] at h
  by_cases z10 : a1 = 10
  · rw [if_pos z10] at h
    refine ev_tabIn (tgt := 164) 10 z10 dc_X11_count_17 (by decide) (by decide) rfl (by decide) ?_
    refine ev_aload_n dc_X11_count_164 rfl ?_
    refine ev_getI dc_X11_count_165 fi_X11_392 rfl (wt hW (wt hW i0 1 rfl rfl) 0 rfl rfl) ?_
    cases h
    exact ev_iret dc_X11_count_168 rfl rfl rfl
  rw [if_neg z10] at h
  by_cases z11 : a1 = 11
  · rw [if_pos z11] at h
    refine ev_tabIn (tgt := 169) 11 z11 dc_X11_count_17 (by decide) (by decide) rfl (by decide) ?_
    refine ev_aload_n dc_X11_count_169 rfl ?_
    refine ev_getI dc_X11_count_170 fi_X11_245 rfl (wt hW (wt hW i0 1 rfl rfl) 2 rfl rfl) ?_
    cases h
    exact ev_iret dc_X11_count_173 rfl rfl rfl
  rw [if_neg z11] at h
  by_cases z12 : a1 = 12
  · rw [if_pos z12] at h
    refine ev_tabIn (tgt := 174) 12 z12 dc_X11_count_17 (by decide) (by decide) rfl (by decide) ?_
    refine ev_aload_n dc_X11_count_174 rfl ?_
    refine ev_getI dc_X11_count_175 fi_X11_158 rfl (wt hW (wt hW i0 1 rfl rfl) 2 rfl rfl) ?_
    cases h
    exact ev_iret dc_X11_count_178 rfl rfl rfl
  rw [if_neg z12] at h
  by_cases z13 : a1 = 13
  · rw [if_pos z13] at h
    refine ev_tabIn (tgt := 179) 13 z13 dc_X11_count_17 (by decide) (by decide) rfl (by decide) ?_
    refine ev_aload_n dc_X11_count_179 rfl ?_
    refine ev_getI dc_X11_count_180 fi_X11_216 rfl (wt hW (wt hW i0 1 rfl rfl) 2 rfl rfl) ?_
    refine ev_if_eq (tgt := 190) dc_X11_count_183 (by decide) h (fun h => ?_) (fun h => ?_)
    · refine ev_iconst (v := 0) dc_X11_count_190 (by decide) ?_
      cases h
      exact ev_iret dc_X11_count_191 rfl rfl rfl
    · refine ev_iconst (v := 1) dc_X11_count_186 (by decide) ?_
      refine ev_goto (tgt := 191) dc_X11_count_187 (by decide) ?_
      cases h
      exact ev_iret dc_X11_count_191 rfl rfl rfl
  rw [if_neg z13] at h
  by_cases z14 : a1 = 14
  · rw [if_pos z14] at h
    refine ev_tabIn (tgt := 192) 14 z14 dc_X11_count_17 (by decide) (by decide) rfl (by decide) ?_
    refine ev_aload_n dc_X11_count_192 rfl ?_
    refine ev_getI dc_X11_count_193 fi_X11_395 rfl (wt hW (wt hW i0 1 rfl rfl) 0 rfl rfl) ?_
    cases h
    exact ev_iret dc_X11_count_196 rfl rfl rfl
  rw [if_neg z14] at h
  by_cases z15 : a1 = 15
  · rw [if_pos z15] at h
    refine ev_tabIn (tgt := 197) 15 z15 dc_X11_count_17 (by decide) (by decide) rfl (by decide) ?_
    refine ev_aload_n dc_X11_count_197 rfl ?_
    refine ev_getI dc_X11_count_198 fi_X11_183 rfl (wt hW (wt hW i0 1 rfl rfl) 2 rfl rfl) ?_
    cases h
    exact ev_iret dc_X11_count_201 rfl rfl rfl
  rw [if_neg z15] at h
  by_cases z16 : a1 = 16
  · rw [if_pos z16] at h
    refine ev_tabIn (tgt := 202) 16 z16 dc_X11_count_17 (by decide) (by decide) rfl (by decide) ?_
    refine ev_iconst (v := 0) dc_X11_count_202 (by decide) ?_
    refine ev_aload_n dc_X11_count_203 rfl ?_
    refine ev_getI dc_X11_count_204 fi_X11_392 rfl (wt hW (wt hW i0 1 rfl rfl) 0 rfl rfl) ?_
    refine ev_aload_n dc_X11_count_207 rfl ?_
    refine ev_getI dc_X11_count_208 fi_X11_389 rfl (wt hW (wt hW i0 1 rfl rfl) 2 rfl rfl) ?_
    refine ev_isub dc_X11_count_211 ?_
    refine ev_max dc_X11_count_212 mw_673 (Nat.le_of_ble_eq_true rfl) (Nat.le_of_ble_eq_true rfl) ⟨Nat.le_refl _, Nat.le_refl _⟩ ?_
    cases h
    exact ev_iret dc_X11_count_215 rfl rfl rfl
  rw [if_neg z16] at h
  by_cases z17 : a1 = 17
  · rw [if_pos z17] at h
    refine ev_tabIn (tgt := 216) 17 z17 dc_X11_count_17 (by decide) (by decide) rfl (by decide) ?_
    refine ev_aload_n dc_X11_count_216 rfl ?_
    refine ev_getR dc_X11_count_217 fi_X11_363 rfl (wt hW (wt hW i0 1 rfl rfl) 2 rfl rfl) ?_
    refine ev_getI dc_X11_count_220 fi_X11_401 rfl (wt hW (wt hW (wt hW i0 1 rfl rfl) 2 rfl rfl) 8 rfl rfl) ?_
    cases h
    exact ev_iret dc_X11_count_223 rfl rfl rfl
  rw [if_neg z17] at h
  by_cases z18 : a1 = 18
  · rw [if_pos z18] at h
    refine ev_tabIn (tgt := 224) 18 z18 dc_X11_count_17 (by decide) (by decide) rfl (by decide) ?_
    refine ev_aload_n dc_X11_count_224 rfl ?_
    refine ev_getR dc_X11_count_225 fi_X11_32 rfl i0 ?_
    refine ev_getI dc_X11_count_228 fi_X11_404 rfl (wt hW i0 4 rfl rfl) ?_
    cases h
    exact ev_iret dc_X11_count_231 rfl rfl rfl
  rw [if_neg z18] at h
  refine ev_tabOut (tgt := 232) dc_X11_count_17 ?_ (by decide) ?_
  · exact sw_out (lo := 0) (vs := [0, 1, 2, 3, 4, 5, 6, 7, 8, 9, 10, 11, 12, 13, 14, 15, 16, 17, 18]) (by decide) (by decide) (And.intro z0 (And.intro z1 (And.intro z2 (And.intro z3 (And.intro z4 (And.intro z5 (And.intro z6 (And.intro z7 (And.intro z8 (And.intro z9 (And.intro z10 (And.intro z11 (And.intro z12 (And.intro z13 (And.intro z14 (And.intro z15 (And.intro z16 (And.intro z17 (And.intro z18 trivial)))))))))))))))))))
  refine ev_iconst (v := (-1)) dc_X11_count_232 (by decide) ?_
  cases h
  exact ev_iret dc_X11_count_233 rfl rfl rfl
theorem dc_X11_cover_0 : Dc miX11_cover 0 (.iconst 1) 1 1 := ⟨by decide +kernel, rfl⟩
theorem dc_X11_cover_1 : Dc miX11_cover 1 (.aload_n 0) 1 2 := ⟨by decide +kernel, rfl⟩
theorem dc_X11_cover_2 : Dc miX11_cover 2 (.getfield 19) 3 5 := ⟨by decide +kernel, rfl⟩
theorem dc_X11_cover_5 : Dc miX11_cover 5 (.getfield 104) 3 8 := ⟨by decide +kernel, rfl⟩
theorem dc_X11_cover_8 : Dc miX11_cover 8 (.getfield 349) 3 11 := ⟨by decide +kernel, rfl⟩
theorem dc_X11_cover_11 : Dc miX11_cover 11 (.ishl) 1 12 := ⟨by decide +kernel, rfl⟩
theorem dc_X11_cover_12 : Dc miX11_cover 12 (.iconst 1) 1 13 := ⟨by decide +kernel, rfl⟩
theorem dc_X11_cover_13 : Dc miX11_cover 13 (.isub) 1 14 := ⟨by decide +kernel, rfl⟩
theorem dc_X11_cover_14 : Dc miX11_cover 14 (.istore_n 1) 1 15 := ⟨by decide +kernel, rfl⟩
theorem dc_X11_cover_15 : Dc miX11_cover 15 (.bipush 63) 2 17 := ⟨by decide +kernel, rfl⟩
theorem dc_X11_cover_17 : Dc miX11_cover 17 (.istore_n 2) 1 18 := ⟨by decide +kernel, rfl⟩
theorem dc_X11_cover_18 : Dc miX11_cover 18 (.iconst 0) 1 19 := ⟨by decide +kernel, rfl⟩
theorem dc_X11_cover_19 : Dc miX11_cover 19 (.istore_n 3) 1 20 := ⟨by decide +kernel, rfl⟩
theorem dc_X11_cover_20 : Dc miX11_cover 20 (.iload_n 3) 1 21 := ⟨by decide +kernel, rfl⟩
theorem dc_X11_cover_21 : Dc miX11_cover 21 (.bipush 64) 2 23 := ⟨by decide +kernel, rfl⟩
theorem dc_X11_cover_23 : Dc miX11_cover 23 (.if_icmp .ge 37) 3 26 := ⟨by decide +kernel, rfl⟩
theorem dc_X11_cover_26 : Dc miX11_cover 26 (.iload_n 3) 1 27 := ⟨by decide +kernel, rfl⟩
theorem dc_X11_cover_27 : Dc miX11_cover 27 (.invokestatic 263) 3 30 := ⟨by decide +kernel, rfl⟩
theorem dc_X11_cover_30 : Dc miX11_cover 30 (.iload_n 2) 1 31 := ⟨by decide +kernel, rfl⟩
theorem dc_X11_cover_31 : Dc miX11_cover 31 (.invokestatic 263) 3 34 := ⟨by decide +kernel, rfl⟩
theorem dc_X11_cover_34 : Dc miX11_cover 34 (.if_icmp .ge 20) 3 37 := ⟨by decide +kernel, rfl⟩
theorem dc_X11_cover_37 : Dc miX11_cover 37 (.aload_n 0) 1 38 := ⟨by decide +kernel, rfl⟩
theorem dc_X11_cover_38 : Dc miX11_cover 38 (.getfield 19) 3 41 := ⟨by decide +kernel, rfl⟩
theorem dc_X11_cover_41 : Dc miX11_cover 41 (.getfield 104) 3 44 := ⟨by decide +kernel, rfl⟩
theorem dc_X11_cover_44 : Dc miX11_cover 44 (.iload_n 3) 1 45 := ⟨by decide +kernel, rfl⟩
theorem dc_X11_cover_45 : Dc miX11_cover 45 (.invokevirtual 360) 3 48 := ⟨by decide +kernel, rfl⟩
theorem dc_X11_cover_48 : Dc miX11_cover 48 (.iload_n 1) 1 49 := ⟨by decide +kernel, rfl⟩
theorem dc_X11_cover_49 : Dc miX11_cover 49 (.if_icmp .ne 5) 3 52 := ⟨by decide +kernel, rfl⟩
theorem dc_X11_cover_52 : Dc miX11_cover 52 (.iload_n 3) 1 53 := ⟨by decide +kernel, rfl⟩
theorem dc_X11_cover_53 : Dc miX11_cover 53 (.istore_n 2) 1 54 := ⟨by decide +kernel, rfl⟩
theorem dc_X11_cover_54 : Dc miX11_cover 54 (.iinc 3 1) 3 57 := ⟨by decide +kernel, rfl⟩
theorem dc_X11_cover_57 : Dc miX11_cover 57 (.goto (-37)) 3 60 := ⟨by decide +kernel, rfl⟩
theorem dc_X11_cover_60 : Dc miX11_cover 60 (.iload_n 2) 1 61 := ⟨by decide +kernel, rfl⟩
theorem dc_X11_cover_61 : Dc miX11_cover 61 (.ireturn) 1 62 := ⟨by decide +kernel, rfl⟩
def fX11_cover_b20 (N : Nat) (G : pG) (a0 : Nat) (x1 : Int32) (σ : pS) : (Int32 × Int32) → Option (Int32) := lp (fun (k20 : Int32 × Int32 → Option (Int32)) (b : Int32 × Int32) => if (64 : Int32) ≤ b.2 then (some b.1) else ((fJ6_bitCount_0f7a4 N G b.2 σ).bind (fun q1 => (fJ6_bitCount_0f7a4 N G b.1 σ).bind (fun q2 => if q2 ≤ q1 then (k20 (b.1, b.2 + (1 : Int32))) else ((fX8_dutiesDone N G (pR G (pR G a0 1) 0) b.2 σ).bind (fun q3 => if q3 = x1 then (k20 (b.2, b.2 + (1 : Int32))) else (k20 (b.1, b.2 + (1 : Int32))))))))) N
set_option maxRecDepth 100000 in
set_option maxHeartbeats 4000000 in
theorem tX11_cover_b20 {N : Nat} {G : pG} {SK : Nat → Nat} {a0 : Nat} {x1 : Int32} {σ : pS} {b : Int32 × Int32} {r : Int32} (hW : WT G) (i0 : Is G a0 10) (h : fX11_cover_b20 N G a0 x1 σ b = some r) : Ev miX11_cover (3, 0, 0) G (Zp G (some (.int r)) σ) SK (0, 0) 20 [some (.ref a0), some (.int x1), some (.int b.1), some (.int b.2)] [] σ := by
  unfold fX11_cover_b20 at h
  refine lp_ind (P := fun b r9 => r9 = r → Ev miX11_cover (3, 0, 0) G (Zp G (some (.int r)) σ) SK (0, 0) 20 [some (.ref a0), some (.int x1), some (.int b.1), some (.int b.2)] [] σ) (fun k20 b r9 ih h9 e9 => ?_) N b r h rfl
  clear h
  subst e9
  have h := h9
  clear h9
  have hk20 : ∀ b : Int32 × Int32, k20 b = some r9 → Ev miX11_cover (3, 0, 0) G (Zp G (some (.int r9)) σ) SK (0, 0) 20 [some (.ref a0), some (.int x1), some (.int b.1), some (.int b.2)] [] σ := fun b hb => ih b r9 hb rfl
  clear ih
  obtain ⟨x2, x3⟩ := b
  dsimp only at h ⊢
  refine ev_iload_n dc_X11_cover_20 rfl ?_
  refine ev_bipush (v := 64) dc_X11_cover_21 (by decide) ?_
  refine ev_icmp_ge (tgt := 60) dc_X11_cover_23 (by decide) h (fun h => ?_) (fun h => ?_)
  · refine ev_iload_n dc_X11_cover_60 rfl ?_
    cases h
    exact ev_iret dc_X11_cover_61 rfl rfl rfl
  · refine ev_iload_n dc_X11_cover_26 rfl ?_
    obtain ⟨q1, hq1, h⟩ := Option.bind_eq_some_iff.mp h
    refine ev_callS (av := [.int x3]) (st := []) (st1 := [.int q1]) dc_X11_cover_27 (tJ6_bitCount_0f7a4 hW hq1) mw_576 cs_J6_bitCount_0f7a4 rfl rfl rfl (Nat.le_of_ble_eq_true rfl) (Nat.le_of_ble_eq_true rfl) ⟨Nat.le_refl _, Nat.le_refl _⟩ ?_
    refine ev_iload_n dc_X11_cover_30 rfl ?_
    obtain ⟨q2, hq2, h⟩ := Option.bind_eq_some_iff.mp h
    refine ev_callS (av := [.int x2]) (st := [.int q1]) (st1 := [.int q2, .int q1]) dc_X11_cover_31 (tJ6_bitCount_0f7a4 hW hq2) mw_576 cs_J6_bitCount_0f7a4 rfl rfl rfl (Nat.le_of_ble_eq_true rfl) (Nat.le_of_ble_eq_true rfl) ⟨Nat.le_refl _, Nat.le_refl _⟩ ?_
    refine ev_icmp_ge (tgt := 54) dc_X11_cover_34 (by decide) h (fun h => ?_) (fun h => ?_)
    · refine ev_iinc (v := 1) (lv' := [some (.ref a0), some (.int x1), some (.int x2), some (.int (x3 + (1 : Int32)))]) dc_X11_cover_54 rfl (by decide) rfl (by decide) rfl ?_
      refine ev_goto (tgt := 20) dc_X11_cover_57 (by decide) ?_
      exact ev_sub (hk20 (x2, x3 + (1 : Int32)) h) (And.intro rfl (And.intro rfl (And.intro rfl (And.intro rfl trivial))))
    · refine ev_aload_n dc_X11_cover_37 rfl ?_
      refine ev_getR dc_X11_cover_38 fi_X11_19 rfl i0 ?_
      refine ev_getR dc_X11_cover_41 fi_X11_104 rfl (wt hW i0 1 rfl rfl) ?_
      refine ev_iload_n dc_X11_cover_44 rfl ?_
      obtain ⟨q3, hq3, h⟩ := Option.bind_eq_some_iff.mp h
      refine ev_callV (av := [.int x3]) (st := []) (st1 := [.int q3]) dc_X11_cover_45 (tX8_dutiesDone hW (wt hW (wt hW i0 1 rfl rfl) 0 rfl rfl) hq3) mw_577 cy_X8_dutiesDone (wt hW (wt hW i0 1 rfl rfl) 0 rfl rfl) (by decide) rfl rfl rfl rfl (Nat.le_of_ble_eq_true rfl) (Nat.le_of_ble_eq_true rfl) ⟨Nat.le_refl _, Nat.le_refl _⟩ ?_
      refine ev_iload_n dc_X11_cover_48 rfl ?_
      refine ev_icmp_ne (tgt := 54) dc_X11_cover_49 (by decide) h (fun h => ?_) (fun h => ?_)
      · refine ev_iload_n dc_X11_cover_52 rfl ?_
        refine ev_istore_n (lv' := [some (.ref a0), some (.int x1), some (.int x3), some (.int x3)]) dc_X11_cover_53 rfl (by decide) rfl ?_
        refine ev_iinc (v := 1) (lv' := [some (.ref a0), some (.int x1), some (.int x3), some (.int (x3 + (1 : Int32)))]) dc_X11_cover_54 rfl (by decide) rfl (by decide) rfl ?_
        refine ev_goto (tgt := 20) dc_X11_cover_57 (by decide) ?_
        exact ev_sub (hk20 (x3, x3 + (1 : Int32)) h) (And.intro rfl (And.intro rfl (And.intro rfl (And.intro rfl trivial))))
      · refine ev_iinc (v := 1) (lv' := [some (.ref a0), some (.int x1), some (.int x2), some (.int (x3 + (1 : Int32)))]) dc_X11_cover_54 rfl (by decide) rfl (by decide) rfl ?_
        refine ev_goto (tgt := 20) dc_X11_cover_57 (by decide) ?_
        exact ev_sub (hk20 (x2, x3 + (1 : Int32)) h) (And.intro rfl (And.intro rfl (And.intro rfl (And.intro rfl trivial))))
def fX11_cover (N : Nat) (G : pG) (a0 : Nat) (σ : pS) : Option (Int32) := fX11_cover_b20 N G a0 (((1 : Int32) <<< ((σ.1 (pR G (pR G a0 1) 0) 5) &&& 31)) - (1 : Int32)) σ ((63 : Int32), (0 : Int32))
set_option maxRecDepth 100000 in
set_option maxHeartbeats 4000000 in
theorem tX11_cover {N : Nat} {G : pG} {SK : Nat → Nat} {a0 : Nat} {σ : pS} {r : Int32} (hW : WT G) (i0 : Is G a0 10) (h : fX11_cover N G a0 σ = some r) : Dn miX11_cover yX11_cover 3 G SK [.ref a0] σ (some (.int r)) σ := by
  unfold fX11_cover at h
  refine dn_of (lv := [some (.ref a0), none, none, none]) (by decide) rfl rfl (Nat.le_of_ble_eq_true rfl) rfl ?_
  refine ev_iconst (v := 1) dc_X11_cover_0 (by decide) ?_
  refine ev_aload_n dc_X11_cover_1 rfl ?_
  refine ev_getR dc_X11_cover_2 fi_X11_19 rfl i0 ?_
  refine ev_getR dc_X11_cover_5 fi_X11_104 rfl (wt hW i0 1 rfl rfl) ?_
  refine ev_getI dc_X11_cover_8 fi_X11_349 rfl (wt hW (wt hW i0 1 rfl rfl) 0 rfl rfl) ?_
  refine ev_ishl dc_X11_cover_11 ?_
  refine ev_iconst (v := 1) dc_X11_cover_12 (by decide) ?_
  refine ev_isub dc_X11_cover_13 ?_
  refine ev_istore_n (lv' := [some (.ref a0), some (.int (((1 : Int32) <<< ((σ.1 (pR G (pR G a0 1) 0) 5) &&& 31)) - (1 : Int32))), none, none]) dc_X11_cover_14 rfl (by decide) rfl ?_
  refine ev_bipush (v := 63) dc_X11_cover_15 (by decide) ?_
  refine ev_istore_n (lv' := [some (.ref a0), some (.int (((1 : Int32) <<< ((σ.1 (pR G (pR G a0 1) 0) 5) &&& 31)) - (1 : Int32))), some (.int (63 : Int32)), none]) dc_X11_cover_17 rfl (by decide) rfl ?_
  refine ev_iconst (v := 0) dc_X11_cover_18 (by decide) ?_
  refine ev_istore_n (lv' := [some (.ref a0), some (.int (((1 : Int32) <<< ((σ.1 (pR G (pR G a0 1) 0) 5) &&& 31)) - (1 : Int32))), some (.int (63 : Int32)), some (.int (0 : Int32))]) dc_X11_cover_19 rfl (by decide) rfl ?_
  exact ev_sub (tX11_cover_b20 (b := ((63 : Int32), (0 : Int32))) hW i0 h) (And.intro rfl (And.intro rfl (And.intro rfl (And.intro rfl trivial))))
theorem dc_X11_doubtBehind_0 : Dc miX11_doubtBehind 0 (.aload_n 0) 1 1 := ⟨by decide +kernel, rfl⟩
theorem dc_X11_doubtBehind_1 : Dc miX11_doubtBehind 1 (.getfield 39) 3 4 := ⟨by decide +kernel, rfl⟩
theorem dc_X11_doubtBehind_4 : Dc miX11_doubtBehind 4 (.aload_n 0) 1 5 := ⟨by decide +kernel, rfl⟩
theorem dc_X11_doubtBehind_5 : Dc miX11_doubtBehind 5 (.getfield 19) 3 8 := ⟨by decide +kernel, rfl⟩
theorem dc_X11_doubtBehind_8 : Dc miX11_doubtBehind 8 (.getfield 155) 3 11 := ⟨by decide +kernel, rfl⟩
theorem dc_X11_doubtBehind_11 : Dc miX11_doubtBehind 11 (.invokevirtual 275) 3 14 := ⟨by decide +kernel, rfl⟩
theorem dc_X11_doubtBehind_14 : Dc miX11_doubtBehind 14 (.iconst 0) 1 15 := ⟨by decide +kernel, rfl⟩
theorem dc_X11_doubtBehind_15 : Dc miX11_doubtBehind 15 (.istore_n 2) 1 16 := ⟨by decide +kernel, rfl⟩
theorem dc_X11_doubtBehind_16 : Dc miX11_doubtBehind 16 (.iload_n 2) 1 17 := ⟨by decide +kernel, rfl⟩
theorem dc_X11_doubtBehind_17 : Dc miX11_doubtBehind 17 (.aload_n 0) 1 18 := ⟨by decide +kernel, rfl⟩
theorem dc_X11_doubtBehind_18 : Dc miX11_doubtBehind 18 (.getfield 19) 3 21 := ⟨by decide +kernel, rfl⟩
theorem dc_X11_doubtBehind_21 : Dc miX11_doubtBehind 21 (.getfield 104) 3 24 := ⟨by decide +kernel, rfl⟩
theorem dc_X11_doubtBehind_24 : Dc miX11_doubtBehind 24 (.getfield 322) 3 27 := ⟨by decide +kernel, rfl⟩
theorem dc_X11_doubtBehind_27 : Dc miX11_doubtBehind 27 (.if_icmp .ge 29) 3 30 := ⟨by decide +kernel, rfl⟩
theorem dc_X11_doubtBehind_30 : Dc miX11_doubtBehind 30 (.iload_n 1) 1 31 := ⟨by decide +kernel, rfl⟩
theorem dc_X11_doubtBehind_31 : Dc miX11_doubtBehind 31 (.iload_n 2) 1 32 := ⟨by decide +kernel, rfl⟩
theorem dc_X11_doubtBehind_32 : Dc miX11_doubtBehind 32 (.invokestatic 161) 3 35 := ⟨by decide +kernel, rfl⟩
theorem dc_X11_doubtBehind_35 : Dc miX11_doubtBehind 35 (.ifCond .eq 15) 3 38 := ⟨by decide +kernel, rfl⟩
theorem dc_X11_doubtBehind_38 : Dc miX11_doubtBehind 38 (.aload_n 0) 1 39 := ⟨by decide +kernel, rfl⟩
theorem dc_X11_doubtBehind_39 : Dc miX11_doubtBehind 39 (.getfield 19) 3 42 := ⟨by decide +kernel, rfl⟩
theorem dc_X11_doubtBehind_42 : Dc miX11_doubtBehind 42 (.aload_n 0) 1 43 := ⟨by decide +kernel, rfl⟩
theorem dc_X11_doubtBehind_43 : Dc miX11_doubtBehind 43 (.getfield 39) 3 46 := ⟨by decide +kernel, rfl⟩
theorem dc_X11_doubtBehind_46 : Dc miX11_doubtBehind 46 (.iload_n 2) 1 47 := ⟨by decide +kernel, rfl⟩
theorem dc_X11_doubtBehind_47 : Dc miX11_doubtBehind 47 (.invokevirtual 237) 3 50 := ⟨by decide +kernel, rfl⟩
theorem dc_X11_doubtBehind_50 : Dc miX11_doubtBehind 50 (.iinc 2 1) 3 53 := ⟨by decide +kernel, rfl⟩
theorem dc_X11_doubtBehind_53 : Dc miX11_doubtBehind 53 (.goto (-37)) 3 56 := ⟨by decide +kernel, rfl⟩
theorem dc_X11_doubtBehind_56 : Dc miX11_doubtBehind 56 (.aload_n 0) 1 57 := ⟨by decide +kernel, rfl⟩
theorem dc_X11_doubtBehind_57 : Dc miX11_doubtBehind 57 (.getfield 39) 3 60 := ⟨by decide +kernel, rfl⟩
theorem dc_X11_doubtBehind_60 : Dc miX11_doubtBehind 60 (.getfield 232) 3 63 := ⟨by decide +kernel, rfl⟩
theorem dc_X11_doubtBehind_63 : Dc miX11_doubtBehind 63 (.ireturn) 1 64 := ⟨by decide +kernel, rfl⟩
def fX11_doubtBehind_b16 (N : Nat) (G : pG) (a0 : Nat) (a1 : Int32) : (Int32 × pS) → Option (Int32 × pS) := lp (fun (k16 : Int32 × pS → Option (Int32 × pS)) (b : Int32 × pS) => if (b.2.1 (pR G (pR G a0 1) 0) 3) ≤ b.1 then (some (b.2.1 (pR G a0 5) 0, b.2)) else ((fX11_has N G a1 b.1 b.2).bind (fun q1 => if q1 = 0 then (k16 (b.1 + (1 : Int32), b.2)) else ((fX10_soothe N G (pR G a0 1) (pR G a0 5) b.1 b.2).bind (fun q2 => k16 (b.1 + (1 : Int32), q2)))))) N
set_option maxRecDepth 100000 in
set_option maxHeartbeats 4000000 in
theorem tX11_doubtBehind_b16 {N : Nat} {G : pG} {SK : Nat → Nat} {a0 : Nat} {a1 : Int32} {b : Int32 × pS} {r : Int32 × pS} (hW : WT G) (i0 : Is G a0 10) (h : fX11_doubtBehind_b16 N G a0 a1 b = some r) : Ev miX11_doubtBehind (5, 0, 0) G (Zp G (some (.int r.1)) r.2) SK (0, 0) 16 [some (.ref a0), some (.int a1), some (.int b.1)] [] b.2 := by
  unfold fX11_doubtBehind_b16 at h
  refine lp_ind (P := fun b r9 => r9 = r → Ev miX11_doubtBehind (5, 0, 0) G (Zp G (some (.int r.1)) r.2) SK (0, 0) 16 [some (.ref a0), some (.int a1), some (.int b.1)] [] b.2) (fun k16 b r9 ih h9 e9 => ?_) N b r h rfl
  clear h
  subst e9
  have h := h9
  clear h9
  have hk16 : ∀ b : Int32 × pS, k16 b = some r9 → Ev miX11_doubtBehind (5, 0, 0) G (Zp G (some (.int r9.1)) r9.2) SK (0, 0) 16 [some (.ref a0), some (.int a1), some (.int b.1)] [] b.2 := fun b hb => ih b r9 hb rfl
  clear ih
  obtain ⟨x2, σ⟩ := b
  dsimp only at h ⊢
  refine ev_iload_n dc_X11_doubtBehind_16 rfl ?_
  refine ev_aload_n dc_X11_doubtBehind_17 rfl ?_
  refine ev_getR dc_X11_doubtBehind_18 fi_X11_19 rfl i0 ?_
  refine ev_getR dc_X11_doubtBehind_21 fi_X11_104 rfl (wt hW i0 1 rfl rfl) ?_
  refine ev_getI dc_X11_doubtBehind_24 fi_X11_322 rfl (wt hW (wt hW i0 1 rfl rfl) 0 rfl rfl) ?_
  refine ev_icmp_ge (tgt := 56) dc_X11_doubtBehind_27 (by decide) h (fun h => ?_) (fun h => ?_)
  · refine ev_aload_n dc_X11_doubtBehind_56 rfl ?_
    refine ev_getR dc_X11_doubtBehind_57 fi_X11_39 rfl i0 ?_
    refine ev_getI dc_X11_doubtBehind_60 fi_X11_232 rfl (wt hW i0 5 rfl rfl) ?_
    cases h
    exact ev_iret dc_X11_doubtBehind_63 rfl rfl rfl
  · refine ev_iload_n dc_X11_doubtBehind_30 rfl ?_
    refine ev_iload_n dc_X11_doubtBehind_31 rfl ?_
    obtain ⟨q1, hq1, h⟩ := Option.bind_eq_some_iff.mp h
    refine ev_callS (av := [.int a1, .int x2]) (st := []) (st1 := [.int q1]) dc_X11_doubtBehind_32 (tX11_has hW hq1) mw_566 cs_X11_has rfl rfl rfl (Nat.le_of_ble_eq_true rfl) (Nat.le_of_ble_eq_true rfl) ⟨Nat.le_refl _, Nat.le_refl _⟩ ?_
    refine ev_if_eq (tgt := 50) dc_X11_doubtBehind_35 (by decide) h (fun h => ?_) (fun h => ?_)
    · refine ev_iinc (v := 1) (lv' := [some (.ref a0), some (.int a1), some (.int (x2 + (1 : Int32)))]) dc_X11_doubtBehind_50 rfl (by decide) rfl (by decide) rfl ?_
      refine ev_goto (tgt := 16) dc_X11_doubtBehind_53 (by decide) ?_
      exact ev_sub (hk16 (x2 + (1 : Int32), σ) h) (And.intro rfl (And.intro rfl (And.intro rfl trivial)))
    · refine ev_aload_n dc_X11_doubtBehind_38 rfl ?_
      refine ev_getR dc_X11_doubtBehind_39 fi_X11_19 rfl i0 ?_
      refine ev_aload_n dc_X11_doubtBehind_42 rfl ?_
      refine ev_getR dc_X11_doubtBehind_43 fi_X11_39 rfl i0 ?_
      refine ev_iload_n dc_X11_doubtBehind_46 rfl ?_
      obtain ⟨q2, hq2, h⟩ := Option.bind_eq_some_iff.mp h
      refine ev_callV (av := [.ref (pR G a0 5), .int x2]) (st := []) (st1 := []) dc_X11_doubtBehind_47 (tX10_soothe hW (wt hW i0 1 rfl rfl) (wt hW i0 5 rfl rfl) hq2) mw_1180 cy_X10_soothe (wt hW i0 1 rfl rfl) (by decide) rfl rfl rfl rfl (Nat.le_of_ble_eq_true rfl) (Nat.le_of_ble_eq_true rfl) ⟨Nat.le_refl _, Nat.le_refl _⟩ ?_
      refine ev_iinc (v := 1) (lv' := [some (.ref a0), some (.int a1), some (.int (x2 + (1 : Int32)))]) dc_X11_doubtBehind_50 rfl (by decide) rfl (by decide) rfl ?_
      refine ev_goto (tgt := 16) dc_X11_doubtBehind_53 (by decide) ?_
      exact ev_sub (hk16 (x2 + (1 : Int32), q2) h) (And.intro rfl (And.intro rfl (And.intro rfl trivial)))
def fX11_doubtBehind (N : Nat) (G : pG) (a0 : Nat) (a1 : Int32) (σ : pS) : Option (Int32 × pS) := (fX3_copyThoughtFrom N G (pR G a0 5) (pR G (pR G a0 1) 2) σ).bind (fun q3 => fX11_doubtBehind_b16 N G a0 a1 ((0 : Int32), q3))
set_option maxRecDepth 100000 in
set_option maxHeartbeats 4000000 in
theorem tX11_doubtBehind {N : Nat} {G : pG} {SK : Nat → Nat} {a0 : Nat} {a1 : Int32} {σ : pS} {r : Int32 × pS} (hW : WT G) (i0 : Is G a0 10) (h : fX11_doubtBehind N G a0 a1 σ = some r) : Dn miX11_doubtBehind yX11_doubtBehind 5 G SK [.ref a0, .int a1] σ (some (.int r.1)) r.2 := by
  unfold fX11_doubtBehind at h
  refine dn_of (lv := [some (.ref a0), some (.int a1), none]) (by decide) rfl rfl (Nat.le_of_ble_eq_true rfl) rfl ?_
  refine ev_aload_n dc_X11_doubtBehind_0 rfl ?_
  refine ev_getR dc_X11_doubtBehind_1 fi_X11_39 rfl i0 ?_
  refine ev_aload_n dc_X11_doubtBehind_4 rfl ?_
  refine ev_getR dc_X11_doubtBehind_5 fi_X11_19 rfl i0 ?_
  refine ev_getR dc_X11_doubtBehind_8 fi_X11_155 rfl (wt hW i0 1 rfl rfl) ?_
  obtain ⟨q3, hq3, h⟩ := Option.bind_eq_some_iff.mp h
  refine ev_callV (av := [.ref (pR G (pR G a0 1) 2)]) (st := []) (st1 := []) dc_X11_doubtBehind_11 (tX3_copyThoughtFrom hW (wt hW i0 5 rfl rfl) (wt hW (wt hW i0 1 rfl rfl) 2 rfl rfl) hq3) mw_1255 cy_X3_copyThoughtFrom (wt hW i0 5 rfl rfl) (by decide) rfl rfl rfl rfl (Nat.le_of_ble_eq_true rfl) (Nat.le_of_ble_eq_true rfl) ⟨Nat.le_refl _, Nat.le_refl _⟩ ?_
  refine ev_iconst (v := 0) dc_X11_doubtBehind_14 (by decide) ?_
  refine ev_istore_n (lv' := [some (.ref a0), some (.int a1), some (.int (0 : Int32))]) dc_X11_doubtBehind_15 rfl (by decide) rfl ?_
  exact ev_sub (tX11_doubtBehind_b16 (b := ((0 : Int32), q3)) hW i0 h) (And.intro rfl (And.intro rfl (And.intro rfl trivial)))
theorem dc_X11_end_0 : Dc miX11_end 0 (.iload_n 1) 1 1 := ⟨by decide +kernel, rfl⟩
theorem dc_X11_end_1 : Dc miX11_end 1 (.ifCond .lt 14) 3 4 := ⟨by decide +kernel, rfl⟩
theorem dc_X11_end_4 : Dc miX11_end 4 (.iload_n 1) 1 5 := ⟨by decide +kernel, rfl⟩
theorem dc_X11_end_5 : Dc miX11_end 5 (.aload_n 0) 1 6 := ⟨by decide +kernel, rfl⟩
theorem dc_X11_end_6 : Dc miX11_end 6 (.getfield 10) 3 9 := ⟨by decide +kernel, rfl⟩
theorem dc_X11_end_9 : Dc miX11_end 9 (.getfield 80) 3 12 := ⟨by decide +kernel, rfl⟩
theorem dc_X11_end_12 : Dc miX11_end 12 (.if_icmp .le 5) 3 15 := ⟨by decide +kernel, rfl⟩
theorem dc_X11_end_15 : Dc miX11_end 15 (.iconst 0) 1 16 := ⟨by decide +kernel, rfl⟩
theorem dc_X11_end_16 : Dc miX11_end 16 (.ireturn) 1 17 := ⟨by decide +kernel, rfl⟩
theorem dc_X11_end_17 : Dc miX11_end 17 (.aload_n 0) 1 18 := ⟨by decide +kernel, rfl⟩
theorem dc_X11_end_18 : Dc miX11_end 18 (.getfield 10) 3 21 := ⟨by decide +kernel, rfl⟩
theorem dc_X11_end_21 : Dc miX11_end 21 (.iload_n 1) 1 22 := ⟨by decide +kernel, rfl⟩
theorem dc_X11_end_22 : Dc miX11_end 22 (.putfield 80) 3 25 := ⟨by decide +kernel, rfl⟩
theorem dc_X11_end_25 : Dc miX11_end 25 (.iconst 1) 1 26 := ⟨by decide +kernel, rfl⟩
theorem dc_X11_end_26 : Dc miX11_end 26 (.ireturn) 1 27 := ⟨by decide +kernel, rfl⟩
def fX11_end (N : Nat) (G : pG) (a0 : Nat) (a1 : Int32) (σ : pS) : Option (Int32 × pS) := if a1 < 0 then (some ((0 : Int32), σ)) else (if a1 ≤ (σ.1 (pR G a0 0) 0) then (some ((1 : Int32), putF σ (pR G a0 0) 0 a1)) else (some ((0 : Int32), σ)))
set_option maxRecDepth 100000 in
set_option maxHeartbeats 4000000 in
theorem tX11_end {N : Nat} {G : pG} {SK : Nat → Nat} {a0 : Nat} {a1 : Int32} {σ : pS} {r : Int32 × pS} (hW : WT G) (i0 : Is G a0 10) (h : fX11_end N G a0 a1 σ = some r) : Dn miX11_end yX11_end 1 G SK [.ref a0, .int a1] σ (some (.int r.1)) r.2 := by
  unfold fX11_end at h
  refine dn_of (lv := [some (.ref a0), some (.int a1)]) (by decide) rfl rfl (Nat.le_of_ble_eq_true rfl) rfl ?_
  refine ev_iload_n dc_X11_end_0 rfl ?_
  refine ev_if_lt (tgt := 15) dc_X11_end_1 (by decide) h (fun h => ?_) (fun h => ?_)
  · refine ev_iconst (v := 0) dc_X11_end_15 (by decide) ?_
    cases h
    exact ev_zretc dc_X11_end_16 rfl rfl rfl rfl
  · refine ev_iload_n dc_X11_end_4 rfl ?_
    refine ev_aload_n dc_X11_end_5 rfl ?_
    refine ev_getR dc_X11_end_6 fi_X11_10 rfl i0 ?_
    refine ev_getI dc_X11_end_9 fi_X11_80 rfl (wt hW i0 0 rfl rfl) ?_
    refine ev_icmp_le (tgt := 17) dc_X11_end_12 (by decide) h (fun h => ?_) (fun h => ?_)
    · refine ev_aload_n dc_X11_end_17 rfl ?_
      refine ev_getR dc_X11_end_18 fi_X11_10 rfl i0 ?_
      refine ev_iload_n dc_X11_end_21 rfl ?_
      refine ev_putI dc_X11_end_22 fi_X11_80 rfl (wt hW i0 0 rfl rfl) ?_
      refine ev_iconst (v := 1) dc_X11_end_25 (by decide) ?_
      cases h
      exact ev_zretc dc_X11_end_26 rfl rfl rfl rfl
    · refine ev_iconst (v := 0) dc_X11_end_15 (by decide) ?_
      cases h
      exact ev_zretc dc_X11_end_16 rfl rfl rfl rfl
theorem dc_X11_fault_0 : Dc miX11_fault 0 (.aload_n 0) 1 1 := ⟨by decide +kernel, rfl⟩
theorem dc_X11_fault_1 : Dc miX11_fault 1 (.getfield 64) 3 4 := ⟨by decide +kernel, rfl⟩
theorem dc_X11_fault_4 : Dc miX11_fault 4 (.ireturn) 1 5 := ⟨by decide +kernel, rfl⟩
def fX11_fault (N : Nat) (G : pG) (a0 : Nat) (σ : pS) : Option (Int32) := some (σ.1 a0 9)
set_option maxRecDepth 100000 in
set_option maxHeartbeats 4000000 in
theorem tX11_fault {N : Nat} {G : pG} {SK : Nat → Nat} {a0 : Nat} {σ : pS} {r : Int32} (hW : WT G) (i0 : Is G a0 10) (h : fX11_fault N G a0 σ = some r) : Dn miX11_fault yX11_fault 1 G SK [.ref a0] σ (some (.int r)) σ := by
  unfold fX11_fault at h
  refine dn_of (lv := [some (.ref a0)]) (by decide) rfl rfl (Nat.le_of_ble_eq_true rfl) rfl ?_
  refine ev_aload_n dc_X11_fault_0 rfl ?_
  refine ev_getI dc_X11_fault_1 fi_X11_64 rfl i0 ?_
  cases h
  exact ev_iret dc_X11_fault_4 rfl rfl rfl
theorem dc_X11_feed_0 : Dc miX11_feed 0 (.aload_n 0) 1 1 := ⟨by decide +kernel, rfl⟩
theorem dc_X11_feed_1 : Dc miX11_feed 1 (.getfield 10) 3 4 := ⟨by decide +kernel, rfl⟩
theorem dc_X11_feed_4 : Dc miX11_feed 4 (.invokevirtual 72) 3 7 := ⟨by decide +kernel, rfl⟩
theorem dc_X11_feed_7 : Dc miX11_feed 7 (.ifCond .ne 5) 3 10 := ⟨by decide +kernel, rfl⟩
theorem dc_X11_feed_10 : Dc miX11_feed 10 (.iconst (-1)) 1 11 := ⟨by decide +kernel, rfl⟩
theorem dc_X11_feed_11 : Dc miX11_feed 11 (.ireturn) 1 12 := ⟨by decide +kernel, rfl⟩
theorem dc_X11_feed_12 : Dc miX11_feed 12 (.aload_n 0) 1 13 := ⟨by decide +kernel, rfl⟩
theorem dc_X11_feed_13 : Dc miX11_feed 13 (.getfield 10) 3 16 := ⟨by decide +kernel, rfl⟩
theorem dc_X11_feed_16 : Dc miX11_feed 16 (.iload_n 1) 1 17 := ⟨by decide +kernel, rfl⟩
theorem dc_X11_feed_17 : Dc miX11_feed 17 (.invokevirtual 76) 3 20 := ⟨by decide +kernel, rfl⟩
theorem dc_X11_feed_20 : Dc miX11_feed 20 (.aload_n 0) 1 21 := ⟨by decide +kernel, rfl⟩
theorem dc_X11_feed_21 : Dc miX11_feed 21 (.getfield 10) 3 24 := ⟨by decide +kernel, rfl⟩
theorem dc_X11_feed_24 : Dc miX11_feed 24 (.iload_n 2) 1 25 := ⟨by decide +kernel, rfl⟩
theorem dc_X11_feed_25 : Dc miX11_feed 25 (.invokevirtual 76) 3 28 := ⟨by decide +kernel, rfl⟩
theorem dc_X11_feed_28 : Dc miX11_feed 28 (.aload_n 0) 1 29 := ⟨by decide +kernel, rfl⟩
theorem dc_X11_feed_29 : Dc miX11_feed 29 (.getfield 10) 3 32 := ⟨by decide +kernel, rfl⟩
theorem dc_X11_feed_32 : Dc miX11_feed 32 (.iload_n 3) 1 33 := ⟨by decide +kernel, rfl⟩
theorem dc_X11_feed_33 : Dc miX11_feed 33 (.invokevirtual 76) 3 36 := ⟨by decide +kernel, rfl⟩
theorem dc_X11_feed_36 : Dc miX11_feed 36 (.aload_n 0) 1 37 := ⟨by decide +kernel, rfl⟩
theorem dc_X11_feed_37 : Dc miX11_feed 37 (.getfield 10) 3 40 := ⟨by decide +kernel, rfl⟩
theorem dc_X11_feed_40 : Dc miX11_feed 40 (.iload 4) 2 42 := ⟨by decide +kernel, rfl⟩
theorem dc_X11_feed_42 : Dc miX11_feed 42 (.invokevirtual 76) 3 45 := ⟨by decide +kernel, rfl⟩
theorem dc_X11_feed_45 : Dc miX11_feed 45 (.aload_n 0) 1 46 := ⟨by decide +kernel, rfl⟩
theorem dc_X11_feed_46 : Dc miX11_feed 46 (.getfield 10) 3 49 := ⟨by decide +kernel, rfl⟩
theorem dc_X11_feed_49 : Dc miX11_feed 49 (.iload 5) 2 51 := ⟨by decide +kernel, rfl⟩
theorem dc_X11_feed_51 : Dc miX11_feed 51 (.invokevirtual 76) 3 54 := ⟨by decide +kernel, rfl⟩
theorem dc_X11_feed_54 : Dc miX11_feed 54 (.aload_n 0) 1 55 := ⟨by decide +kernel, rfl⟩
theorem dc_X11_feed_55 : Dc miX11_feed 55 (.getfield 10) 3 58 := ⟨by decide +kernel, rfl⟩
theorem dc_X11_feed_58 : Dc miX11_feed 58 (.getfield 80) 3 61 := ⟨by decide +kernel, rfl⟩
theorem dc_X11_feed_61 : Dc miX11_feed 61 (.ireturn) 1 62 := ⟨by decide +kernel, rfl⟩
def fX11_feed (N : Nat) (G : pG) (a0 : Nat) (a1 : Int32) (a2 : Int32) (a3 : Int32) (a4 : Int32) (a5 : Int32) (σ : pS) : Option (Int32 × pS) := (fX9_hasRoomForFeed N G (pR G a0 0) σ).bind (fun q1 => if q1 = 0 then (some ((-1 : Int32), σ)) else ((fX9_put N G (pR G a0 0) a1 σ).bind (fun q2 => (fX9_put N G (pR G a0 0) a2 q2).bind (fun q3 => (fX9_put N G (pR G a0 0) a3 q3).bind (fun q4 => (fX9_put N G (pR G a0 0) a4 q4).bind (fun q5 => (fX9_put N G (pR G a0 0) a5 q5).bind (fun q6 => some (q6.1 (pR G a0 0) 0, q6))))))))
set_option maxRecDepth 100000 in
set_option maxHeartbeats 4000000 in
theorem tX11_feed {N : Nat} {G : pG} {SK : Nat → Nat} {a0 : Nat} {a1 : Int32} {a2 : Int32} {a3 : Int32} {a4 : Int32} {a5 : Int32} {σ : pS} {r : Int32 × pS} (hW : WT G) (i0 : Is G a0 10) (h : fX11_feed N G a0 a1 a2 a3 a4 a5 σ = some r) : Dn miX11_feed yX11_feed 2 G SK [.ref a0, .int a1, .int a2, .int a3, .int a4, .int a5] σ (some (.int r.1)) r.2 := by
  unfold fX11_feed at h
  refine dn_of (lv := [some (.ref a0), some (.int a1), some (.int a2), some (.int a3), some (.int a4), some (.int a5)]) (by decide) rfl rfl (Nat.le_of_ble_eq_true rfl) rfl ?_
  refine ev_aload_n dc_X11_feed_0 rfl ?_
  refine ev_getR dc_X11_feed_1 fi_X11_10 rfl i0 ?_
  obtain ⟨q1, hq1, h⟩ := Option.bind_eq_some_iff.mp h
  refine ev_callV (av := []) (st := []) (st1 := [.int q1]) dc_X11_feed_4 (tX9_hasRoomForFeed hW (wt hW i0 0 rfl rfl) hq1) mw_451 cy_X9_hasRoomForFeed (wt hW i0 0 rfl rfl) (by decide) rfl rfl rfl rfl (Nat.le_of_ble_eq_true rfl) (Nat.le_of_ble_eq_true rfl) ⟨Nat.le_refl _, Nat.le_refl _⟩ ?_
  refine ev_if_ne (tgt := 12) dc_X11_feed_7 (by decide) h (fun h => ?_) (fun h => ?_)
  · refine ev_iconst (v := (-1)) dc_X11_feed_10 (by decide) ?_
    cases h
    exact ev_iret dc_X11_feed_11 rfl rfl rfl
  · refine ev_aload_n dc_X11_feed_12 rfl ?_
    refine ev_getR dc_X11_feed_13 fi_X11_10 rfl i0 ?_
    refine ev_iload_n dc_X11_feed_16 rfl ?_
    obtain ⟨q2, hq2, h⟩ := Option.bind_eq_some_iff.mp h
    refine ev_callV (av := [.int a1]) (st := []) (st1 := []) dc_X11_feed_17 (tX9_put hW (wt hW i0 0 rfl rfl) hq2) mw_455 cy_X9_put (wt hW i0 0 rfl rfl) (by decide) rfl rfl rfl rfl (Nat.le_of_ble_eq_true rfl) (Nat.le_of_ble_eq_true rfl) ⟨Nat.le_refl _, Nat.le_refl _⟩ ?_
    refine ev_aload_n dc_X11_feed_20 rfl ?_
    refine ev_getR dc_X11_feed_21 fi_X11_10 rfl i0 ?_
    refine ev_iload_n dc_X11_feed_24 rfl ?_
    obtain ⟨q3, hq3, h⟩ := Option.bind_eq_some_iff.mp h
    refine ev_callV (av := [.int a2]) (st := []) (st1 := []) dc_X11_feed_25 (tX9_put hW (wt hW i0 0 rfl rfl) hq3) mw_455 cy_X9_put (wt hW i0 0 rfl rfl) (by decide) rfl rfl rfl rfl (Nat.le_of_ble_eq_true rfl) (Nat.le_of_ble_eq_true rfl) ⟨Nat.le_refl _, Nat.le_refl _⟩ ?_
    refine ev_aload_n dc_X11_feed_28 rfl ?_
    refine ev_getR dc_X11_feed_29 fi_X11_10 rfl i0 ?_
    refine ev_iload_n dc_X11_feed_32 rfl ?_
    obtain ⟨q4, hq4, h⟩ := Option.bind_eq_some_iff.mp h
    refine ev_callV (av := [.int a3]) (st := []) (st1 := []) dc_X11_feed_33 (tX9_put hW (wt hW i0 0 rfl rfl) hq4) mw_455 cy_X9_put (wt hW i0 0 rfl rfl) (by decide) rfl rfl rfl rfl (Nat.le_of_ble_eq_true rfl) (Nat.le_of_ble_eq_true rfl) ⟨Nat.le_refl _, Nat.le_refl _⟩ ?_
    refine ev_aload_n dc_X11_feed_36 rfl ?_
    refine ev_getR dc_X11_feed_37 fi_X11_10 rfl i0 ?_
    refine ev_iload dc_X11_feed_40 rfl ?_
    obtain ⟨q5, hq5, h⟩ := Option.bind_eq_some_iff.mp h
    refine ev_callV (av := [.int a4]) (st := []) (st1 := []) dc_X11_feed_42 (tX9_put hW (wt hW i0 0 rfl rfl) hq5) mw_455 cy_X9_put (wt hW i0 0 rfl rfl) (by decide) rfl rfl rfl rfl (Nat.le_of_ble_eq_true rfl) (Nat.le_of_ble_eq_true rfl) ⟨Nat.le_refl _, Nat.le_refl _⟩ ?_
    refine ev_aload_n dc_X11_feed_45 rfl ?_
    refine ev_getR dc_X11_feed_46 fi_X11_10 rfl i0 ?_
    refine ev_iload dc_X11_feed_49 rfl ?_
    obtain ⟨q6, hq6, h⟩ := Option.bind_eq_some_iff.mp h
    refine ev_callV (av := [.int a5]) (st := []) (st1 := []) dc_X11_feed_51 (tX9_put hW (wt hW i0 0 rfl rfl) hq6) mw_455 cy_X9_put (wt hW i0 0 rfl rfl) (by decide) rfl rfl rfl rfl (Nat.le_of_ble_eq_true rfl) (Nat.le_of_ble_eq_true rfl) ⟨Nat.le_refl _, Nat.le_refl _⟩ ?_
    refine ev_aload_n dc_X11_feed_54 rfl ?_
    refine ev_getR dc_X11_feed_55 fi_X11_10 rfl i0 ?_
    refine ev_getI dc_X11_feed_58 fi_X11_80 rfl (wt hW i0 0 rfl rfl) ?_
    cases h
    exact ev_iret dc_X11_feed_61 rfl rfl rfl
theorem dc_X11_fits_0 : Dc miX11_fits 0 (.iconst 0) 1 1 := ⟨by decide +kernel, rfl⟩
theorem dc_X11_fits_1 : Dc miX11_fits 1 (.istore_n 2) 1 2 := ⟨by decide +kernel, rfl⟩
theorem dc_X11_fits_2 : Dc miX11_fits 2 (.iconst 0) 1 3 := ⟨by decide +kernel, rfl⟩
theorem dc_X11_fits_3 : Dc miX11_fits 3 (.istore_n 3) 1 4 := ⟨by decide +kernel, rfl⟩
theorem dc_X11_fits_4 : Dc miX11_fits 4 (.iload_n 3) 1 5 := ⟨by decide +kernel, rfl⟩
theorem dc_X11_fits_5 : Dc miX11_fits 5 (.aload_n 0) 1 6 := ⟨by decide +kernel, rfl⟩
theorem dc_X11_fits_6 : Dc miX11_fits 6 (.getfield 19) 3 9 := ⟨by decide +kernel, rfl⟩
theorem dc_X11_fits_9 : Dc miX11_fits 9 (.getfield 104) 3 12 := ⟨by decide +kernel, rfl⟩
theorem dc_X11_fits_12 : Dc miX11_fits 12 (.getfield 310) 3 15 := ⟨by decide +kernel, rfl⟩
theorem dc_X11_fits_15 : Dc miX11_fits 15 (.if_icmp .ge 82) 3 18 := ⟨by decide +kernel, rfl⟩
theorem dc_X11_fits_18 : Dc miX11_fits 18 (.iconst 0) 1 19 := ⟨by decide +kernel, rfl⟩
theorem dc_X11_fits_19 : Dc miX11_fits 19 (.istore 4) 2 21 := ⟨by decide +kernel, rfl⟩
theorem dc_X11_fits_21 : Dc miX11_fits 21 (.iload 4) 2 23 := ⟨by decide +kernel, rfl⟩
theorem dc_X11_fits_23 : Dc miX11_fits 23 (.aload_n 0) 1 24 := ⟨by decide +kernel, rfl⟩
theorem dc_X11_fits_24 : Dc miX11_fits 24 (.getfield 19) 3 27 := ⟨by decide +kernel, rfl⟩
theorem dc_X11_fits_27 : Dc miX11_fits 27 (.getfield 104) 3 30 := ⟨by decide +kernel, rfl⟩
theorem dc_X11_fits_30 : Dc miX11_fits 30 (.getfield 313) 3 33 := ⟨by decide +kernel, rfl⟩
theorem dc_X11_fits_33 : Dc miX11_fits 33 (.if_icmp .ge 58) 3 36 := ⟨by decide +kernel, rfl⟩
theorem dc_X11_fits_36 : Dc miX11_fits 36 (.bipush 99) 2 38 := ⟨by decide +kernel, rfl⟩
theorem dc_X11_fits_38 : Dc miX11_fits 38 (.aload_n 0) 1 39 := ⟨by decide +kernel, rfl⟩
theorem dc_X11_fits_39 : Dc miX11_fits 39 (.getfield 19) 3 42 := ⟨by decide +kernel, rfl⟩
theorem dc_X11_fits_42 : Dc miX11_fits 42 (.getfield 155) 3 45 := ⟨by decide +kernel, rfl⟩
theorem dc_X11_fits_45 : Dc miX11_fits 45 (.getfield 232) 3 48 := ⟨by decide +kernel, rfl⟩
theorem dc_X11_fits_48 : Dc miX11_fits 48 (.isub) 1 49 := ⟨by decide +kernel, rfl⟩
theorem dc_X11_fits_49 : Dc miX11_fits 49 (.istore 5) 2 51 := ⟨by decide +kernel, rfl⟩
theorem dc_X11_fits_51 : Dc miX11_fits 51 (.iload_n 2) 1 52 := ⟨by decide +kernel, rfl⟩
theorem dc_X11_fits_52 : Dc miX11_fits 52 (.iload 5) 2 54 := ⟨by decide +kernel, rfl⟩
theorem dc_X11_fits_54 : Dc miX11_fits 54 (.aload_n 0) 1 55 := ⟨by decide +kernel, rfl⟩
theorem dc_X11_fits_55 : Dc miX11_fits 55 (.getfield 19) 3 58 := ⟨by decide +kernel, rfl⟩
theorem dc_X11_fits_58 : Dc miX11_fits 58 (.aload_n 0) 1 59 := ⟨by decide +kernel, rfl⟩
theorem dc_X11_fits_59 : Dc miX11_fits 59 (.getfield 19) 3 62 := ⟨by decide +kernel, rfl⟩
theorem dc_X11_fits_62 : Dc miX11_fits 62 (.getfield 155) 3 65 := ⟨by decide +kernel, rfl⟩
theorem dc_X11_fits_65 : Dc miX11_fits 65 (.iload_n 3) 1 66 := ⟨by decide +kernel, rfl⟩
theorem dc_X11_fits_66 : Dc miX11_fits 66 (.iload 4) 2 68 := ⟨by decide +kernel, rfl⟩
theorem dc_X11_fits_68 : Dc miX11_fits 68 (.invokevirtual 212) 3 71 := ⟨by decide +kernel, rfl⟩
theorem dc_X11_fits_71 : Dc miX11_fits 71 (.invokestatic 316) 3 74 := ⟨by decide +kernel, rfl⟩
theorem dc_X11_fits_74 : Dc miX11_fits 74 (.iload_n 1) 1 75 := ⟨by decide +kernel, rfl⟩
theorem dc_X11_fits_75 : Dc miX11_fits 75 (.if_icmp .ne 7) 3 78 := ⟨by decide +kernel, rfl⟩
theorem dc_X11_fits_78 : Dc miX11_fits 78 (.iconst 1) 1 79 := ⟨by decide +kernel, rfl⟩
theorem dc_X11_fits_79 : Dc miX11_fits 79 (.goto 4) 3 82 := ⟨by decide +kernel, rfl⟩
theorem dc_X11_fits_82 : Dc miX11_fits 82 (.iconst 0) 1 83 := ⟨by decide +kernel, rfl⟩
theorem dc_X11_fits_83 : Dc miX11_fits 83 (.iadd) 1 84 := ⟨by decide +kernel, rfl⟩
theorem dc_X11_fits_84 : Dc miX11_fits 84 (.istore_n 2) 1 85 := ⟨by decide +kernel, rfl⟩
theorem dc_X11_fits_85 : Dc miX11_fits 85 (.iinc 4 1) 3 88 := ⟨by decide +kernel, rfl⟩
theorem dc_X11_fits_88 : Dc miX11_fits 88 (.goto (-67)) 3 91 := ⟨by decide +kernel, rfl⟩
theorem dc_X11_fits_91 : Dc miX11_fits 91 (.iinc 3 1) 3 94 := ⟨by decide +kernel, rfl⟩
theorem dc_X11_fits_94 : Dc miX11_fits 94 (.goto (-90)) 3 97 := ⟨by decide +kernel, rfl⟩
theorem dc_X11_fits_97 : Dc miX11_fits 97 (.iload_n 2) 1 98 := ⟨by decide +kernel, rfl⟩
theorem dc_X11_fits_98 : Dc miX11_fits 98 (.ireturn) 1 99 := ⟨by decide +kernel, rfl⟩
def fX11_fits_b21 (N : Nat) (G : pG) (k4 : Int32 × Int32 × pS → Option (Int32 × pS)) (a0 : Nat) (a1 : Int32) (x3 : Int32) : (Int32 × Int32 × pS) → Option (Int32 × pS) := lp (fun (k21 : Int32 × Int32 × pS → Option (Int32 × pS)) (b : Int32 × Int32 × pS) => if (b.2.2.1 (pR G (pR G a0 1) 0) 2) ≤ b.2.1 then (k4 (b.1, x3 + (1 : Int32), b.2.2)) else ((fX10_stingOf N G (pR G a0 1) (pR G (pR G a0 1) 2) x3 b.2.1 b.2.2).bind (fun q1 => if (jmin ((99 : Int32) - (b.2.2.1 (pR G (pR G a0 1) 2) 0)) q1.1) = a1 then (k21 (b.1 + (1 : Int32), b.2.1 + (1 : Int32), q1.2)) else (k21 (b.1 + (0 : Int32), b.2.1 + (1 : Int32), q1.2))))) N
set_option maxRecDepth 100000 in
set_option maxHeartbeats 4000000 in
theorem tX11_fits_b21 {N : Nat} {G : pG} {SK : Nat → Nat} {k4 : Int32 × Int32 × pS → Option (Int32 × pS)} {a0 : Nat} {a1 : Int32} {x3 : Int32} {b : Int32 × Int32 × pS} {r : Int32 × pS} (hW : WT G) (i0 : Is G a0 10) (hk4 : ∀ b : Int32 × Int32 × pS, k4 b = some r → Ev miX11_fits (4, 0, 0) G (Zp G (some (.int r.1)) r.2) SK (0, 0) 4 [some (.ref a0), some (.int a1), some (.int b.1), some (.int b.2.1), none, none] [] b.2.2) (h : fX11_fits_b21 N G k4 a0 a1 x3 b = some r) : Ev miX11_fits (4, 0, 0) G (Zp G (some (.int r.1)) r.2) SK (0, 0) 21 [some (.ref a0), some (.int a1), some (.int b.1), some (.int x3), some (.int b.2.1), none] [] b.2.2 := by
  unfold fX11_fits_b21 at h
  refine lp_ind (P := fun b r9 => r9 = r → Ev miX11_fits (4, 0, 0) G (Zp G (some (.int r.1)) r.2) SK (0, 0) 21 [some (.ref a0), some (.int a1), some (.int b.1), some (.int x3), some (.int b.2.1), none] [] b.2.2) (fun k21 b r9 ih h9 e9 => ?_) N b r h rfl
  clear h
  subst e9
  have h := h9
  clear h9
  have hk21 : ∀ b : Int32 × Int32 × pS, k21 b = some r9 → Ev miX11_fits (4, 0, 0) G (Zp G (some (.int r9.1)) r9.2) SK (0, 0) 21 [some (.ref a0), some (.int a1), some (.int b.1), some (.int x3), some (.int b.2.1), none] [] b.2.2 := fun b hb => ih b r9 hb rfl
  clear ih
  obtain ⟨x2, x4, σ⟩ := b
  dsimp only at h ⊢
  refine ev_iload dc_X11_fits_21 rfl ?_
  refine ev_aload_n dc_X11_fits_23 rfl ?_
  refine ev_getR dc_X11_fits_24 fi_X11_19 rfl i0 ?_
  refine ev_getR dc_X11_fits_27 fi_X11_104 rfl (wt hW i0 1 rfl rfl) ?_
  refine ev_getI dc_X11_fits_30 fi_X11_313 rfl (wt hW (wt hW i0 1 rfl rfl) 0 rfl rfl) ?_
  refine ev_icmp_ge (tgt := 91) dc_X11_fits_33 (by decide) h (fun h => ?_) (fun h => ?_)
  · refine ev_iinc (v := 1) (lv' := [some (.ref a0), some (.int a1), some (.int x2), some (.int (x3 + (1 : Int32))), some (.int x4), none]) dc_X11_fits_91 rfl (by decide) rfl (by decide) rfl ?_
    refine ev_goto (tgt := 4) dc_X11_fits_94 (by decide) ?_
    exact ev_sub (hk4 (x2, x3 + (1 : Int32), σ) h) (And.intro rfl (And.intro rfl (And.intro rfl (And.intro rfl trivial))))
  · refine ev_bipush (v := 99) dc_X11_fits_36 (by decide) ?_
    refine ev_aload_n dc_X11_fits_38 rfl ?_
    refine ev_getR dc_X11_fits_39 fi_X11_19 rfl i0 ?_
    refine ev_getR dc_X11_fits_42 fi_X11_155 rfl (wt hW i0 1 rfl rfl) ?_
    refine ev_getI dc_X11_fits_45 fi_X11_232 rfl (wt hW (wt hW i0 1 rfl rfl) 2 rfl rfl) ?_
    refine ev_isub dc_X11_fits_48 ?_
    refine ev_istore (lv' := [some (.ref a0), some (.int a1), some (.int x2), some (.int x3), some (.int x4), some (.int ((99 : Int32) - (σ.1 (pR G (pR G a0 1) 2) 0)))]) dc_X11_fits_49 rfl (by decide) rfl ?_
    refine ev_iload_n dc_X11_fits_51 rfl ?_
    refine ev_iload dc_X11_fits_52 rfl ?_
    refine ev_aload_n dc_X11_fits_54 rfl ?_
    refine ev_getR dc_X11_fits_55 fi_X11_19 rfl i0 ?_
    refine ev_aload_n dc_X11_fits_58 rfl ?_
    refine ev_getR dc_X11_fits_59 fi_X11_19 rfl i0 ?_
    refine ev_getR dc_X11_fits_62 fi_X11_155 rfl (wt hW i0 1 rfl rfl) ?_
    refine ev_iload_n dc_X11_fits_65 rfl ?_
    refine ev_iload dc_X11_fits_66 rfl ?_
    obtain ⟨q1, hq1, h⟩ := Option.bind_eq_some_iff.mp h
    refine ev_callV (av := [.ref (pR G (pR G a0 1) 2), .int x3, .int x4]) (st := [.int ((99 : Int32) - (σ.1 (pR G (pR G a0 1) 2) 0)), .int x2]) (st1 := [.int q1.1, .int ((99 : Int32) - (σ.1 (pR G (pR G a0 1) 2) 0)), .int x2]) dc_X11_fits_68 (tX10_stingOf hW (wt hW i0 1 rfl rfl) (wt hW (wt hW i0 1 rfl rfl) 2 rfl rfl) hq1) mw_471 cy_X10_stingOf (wt hW i0 1 rfl rfl) (by decide) rfl rfl rfl rfl (Nat.le_of_ble_eq_true rfl) (Nat.le_of_ble_eq_true rfl) ⟨Nat.le_refl _, Nat.le_refl _⟩ ?_
    refine ev_min dc_X11_fits_71 mw_502 (Nat.le_of_ble_eq_true rfl) (Nat.le_of_ble_eq_true rfl) ⟨Nat.le_refl _, Nat.le_refl _⟩ ?_
    refine ev_iload_n dc_X11_fits_74 rfl ?_
    refine ev_icmp_ne (tgt := 82) dc_X11_fits_75 (by decide) h (fun h => ?_) (fun h => ?_)
    · refine ev_iconst (v := 1) dc_X11_fits_78 (by decide) ?_
      refine ev_goto (tgt := 83) dc_X11_fits_79 (by decide) ?_
      refine ev_iadd dc_X11_fits_83 ?_
      refine ev_istore_n (lv' := [some (.ref a0), some (.int a1), some (.int (x2 + (1 : Int32))), some (.int x3), some (.int x4), some (.int ((99 : Int32) - (σ.1 (pR G (pR G a0 1) 2) 0)))]) dc_X11_fits_84 rfl (by decide) rfl ?_
      refine ev_iinc (v := 1) (lv' := [some (.ref a0), some (.int a1), some (.int (x2 + (1 : Int32))), some (.int x3), some (.int (x4 + (1 : Int32))), some (.int ((99 : Int32) - (σ.1 (pR G (pR G a0 1) 2) 0)))]) dc_X11_fits_85 rfl (by decide) rfl (by decide) rfl ?_
      refine ev_goto (tgt := 21) dc_X11_fits_88 (by decide) ?_
      exact ev_sub (hk21 (x2 + (1 : Int32), x4 + (1 : Int32), q1.2) h) (And.intro rfl (And.intro rfl (And.intro rfl (And.intro rfl (And.intro rfl trivial)))))
    · refine ev_iconst (v := 0) dc_X11_fits_82 (by decide) ?_
      refine ev_iadd dc_X11_fits_83 ?_
      refine ev_istore_n (lv' := [some (.ref a0), some (.int a1), some (.int (x2 + (0 : Int32))), some (.int x3), some (.int x4), some (.int ((99 : Int32) - (σ.1 (pR G (pR G a0 1) 2) 0)))]) dc_X11_fits_84 rfl (by decide) rfl ?_
      refine ev_iinc (v := 1) (lv' := [some (.ref a0), some (.int a1), some (.int (x2 + (0 : Int32))), some (.int x3), some (.int (x4 + (1 : Int32))), some (.int ((99 : Int32) - (σ.1 (pR G (pR G a0 1) 2) 0)))]) dc_X11_fits_85 rfl (by decide) rfl (by decide) rfl ?_
      refine ev_goto (tgt := 21) dc_X11_fits_88 (by decide) ?_
      exact ev_sub (hk21 (x2 + (0 : Int32), x4 + (1 : Int32), q1.2) h) (And.intro rfl (And.intro rfl (And.intro rfl (And.intro rfl (And.intro rfl trivial)))))
def fX11_fits_b4 (N : Nat) (G : pG) (a0 : Nat) (a1 : Int32) : (Int32 × Int32 × pS) → Option (Int32 × pS) := lp (fun (k4 : Int32 × Int32 × pS → Option (Int32 × pS)) (b : Int32 × Int32 × pS) => if (b.2.2.1 (pR G (pR G a0 1) 0) 4) ≤ b.2.1 then (some (b.1, b.2.2)) else (fX11_fits_b21 N G k4 a0 a1 b.2.1 (b.1, (0 : Int32), b.2.2))) N
set_option maxRecDepth 100000 in
set_option maxHeartbeats 4000000 in
theorem tX11_fits_b4 {N : Nat} {G : pG} {SK : Nat → Nat} {a0 : Nat} {a1 : Int32} {b : Int32 × Int32 × pS} {r : Int32 × pS} (hW : WT G) (i0 : Is G a0 10) (h : fX11_fits_b4 N G a0 a1 b = some r) : Ev miX11_fits (4, 0, 0) G (Zp G (some (.int r.1)) r.2) SK (0, 0) 4 [some (.ref a0), some (.int a1), some (.int b.1), some (.int b.2.1), none, none] [] b.2.2 := by
  unfold fX11_fits_b4 at h
  refine lp_ind (P := fun b r9 => r9 = r → Ev miX11_fits (4, 0, 0) G (Zp G (some (.int r.1)) r.2) SK (0, 0) 4 [some (.ref a0), some (.int a1), some (.int b.1), some (.int b.2.1), none, none] [] b.2.2) (fun k4 b r9 ih h9 e9 => ?_) N b r h rfl
  clear h
  subst e9
  have h := h9
  clear h9
  have hk4 : ∀ b : Int32 × Int32 × pS, k4 b = some r9 → Ev miX11_fits (4, 0, 0) G (Zp G (some (.int r9.1)) r9.2) SK (0, 0) 4 [some (.ref a0), some (.int a1), some (.int b.1), some (.int b.2.1), none, none] [] b.2.2 := fun b hb => ih b r9 hb rfl
  clear ih
  obtain ⟨x2, x3, σ⟩ := b
  dsimp only at h ⊢
  refine ev_iload_n dc_X11_fits_4 rfl ?_
  refine ev_aload_n dc_X11_fits_5 rfl ?_
  refine ev_getR dc_X11_fits_6 fi_X11_19 rfl i0 ?_
  refine ev_getR dc_X11_fits_9 fi_X11_104 rfl (wt hW i0 1 rfl rfl) ?_
  refine ev_getI dc_X11_fits_12 fi_X11_310 rfl (wt hW (wt hW i0 1 rfl rfl) 0 rfl rfl) ?_
  refine ev_icmp_ge (tgt := 97) dc_X11_fits_15 (by decide) h (fun h => ?_) (fun h => ?_)
  · refine ev_iload_n dc_X11_fits_97 rfl ?_
    cases h
    exact ev_iret dc_X11_fits_98 rfl rfl rfl
  · refine ev_iconst (v := 0) dc_X11_fits_18 (by decide) ?_
    refine ev_istore (lv' := [some (.ref a0), some (.int a1), some (.int x2), some (.int x3), some (.int (0 : Int32)), none]) dc_X11_fits_19 rfl (by decide) rfl ?_
    exact ev_sub (tX11_fits_b21 (b := (x2, (0 : Int32), σ)) hW i0 hk4 h) (And.intro rfl (And.intro rfl (And.intro rfl (And.intro rfl (And.intro rfl trivial)))))
def fX11_fits (N : Nat) (G : pG) (a0 : Nat) (a1 : Int32) (σ : pS) : Option (Int32 × pS) := fX11_fits_b4 N G a0 a1 ((0 : Int32), (0 : Int32), σ)
set_option maxRecDepth 100000 in
set_option maxHeartbeats 4000000 in
theorem tX11_fits {N : Nat} {G : pG} {SK : Nat → Nat} {a0 : Nat} {a1 : Int32} {σ : pS} {r : Int32 × pS} (hW : WT G) (i0 : Is G a0 10) (h : fX11_fits N G a0 a1 σ = some r) : Dn miX11_fits yX11_fits 4 G SK [.ref a0, .int a1] σ (some (.int r.1)) r.2 := by
  unfold fX11_fits at h
  refine dn_of (lv := [some (.ref a0), some (.int a1), none, none, none, none]) (by decide) rfl rfl (Nat.le_of_ble_eq_true rfl) rfl ?_
  refine ev_iconst (v := 0) dc_X11_fits_0 (by decide) ?_
  refine ev_istore_n (lv' := [some (.ref a0), some (.int a1), some (.int (0 : Int32)), none, none, none]) dc_X11_fits_1 rfl (by decide) rfl ?_
  refine ev_iconst (v := 0) dc_X11_fits_2 (by decide) ?_
  refine ev_istore_n (lv' := [some (.ref a0), some (.int a1), some (.int (0 : Int32)), some (.int (0 : Int32)), none, none]) dc_X11_fits_3 rfl (by decide) rfl ?_
  exact ev_sub (tX11_fits_b4 (b := ((0 : Int32), (0 : Int32), σ)) hW i0 h) (And.intro rfl (And.intro rfl (And.intro rfl (And.intro rfl trivial))))
theorem dc_X11_hides_0 : Dc miX11_hides 0 (.iconst 0) 1 1 := ⟨by decide +kernel, rfl⟩
theorem dc_X11_hides_1 : Dc miX11_hides 1 (.istore_n 1) 1 2 := ⟨by decide +kernel, rfl⟩
theorem dc_X11_hides_2 : Dc miX11_hides 2 (.iconst 0) 1 3 := ⟨by decide +kernel, rfl⟩
theorem dc_X11_hides_3 : Dc miX11_hides 3 (.istore_n 2) 1 4 := ⟨by decide +kernel, rfl⟩
theorem dc_X11_hides_4 : Dc miX11_hides 4 (.iload_n 2) 1 5 := ⟨by decide +kernel, rfl⟩
theorem dc_X11_hides_5 : Dc miX11_hides 5 (.bipush 6) 2 7 := ⟨by decide +kernel, rfl⟩
theorem dc_X11_hides_7 : Dc miX11_hides 7 (.if_icmp .ge 59) 3 10 := ⟨by decide +kernel, rfl⟩
theorem dc_X11_hides_10 : Dc miX11_hides 10 (.aload_n 0) 1 11 := ⟨by decide +kernel, rfl⟩
theorem dc_X11_hides_11 : Dc miX11_hides 11 (.getfield 19) 3 14 := ⟨by decide +kernel, rfl⟩
theorem dc_X11_hides_14 : Dc miX11_hides 14 (.getfield 104) 3 17 := ⟨by decide +kernel, rfl⟩
theorem dc_X11_hides_17 : Dc miX11_hides 17 (.aload_n 0) 1 18 := ⟨by decide +kernel, rfl⟩
theorem dc_X11_hides_18 : Dc miX11_hides 18 (.getfield 19) 3 21 := ⟨by decide +kernel, rfl⟩
theorem dc_X11_hides_21 : Dc miX11_hides 21 (.getfield 155) 3 24 := ⟨by decide +kernel, rfl⟩
theorem dc_X11_hides_24 : Dc miX11_hides 24 (.getfield 158) 3 27 := ⟨by decide +kernel, rfl⟩
theorem dc_X11_hides_27 : Dc miX11_hides 27 (.aload_n 0) 1 28 := ⟨by decide +kernel, rfl⟩
theorem dc_X11_hides_28 : Dc miX11_hides 28 (.getfield 19) 3 31 := ⟨by decide +kernel, rfl⟩
theorem dc_X11_hides_31 : Dc miX11_hides 31 (.getfield 155) 3 34 := ⟨by decide +kernel, rfl⟩
theorem dc_X11_hides_34 : Dc miX11_hides 34 (.getfield 245) 3 37 := ⟨by decide +kernel, rfl⟩
theorem dc_X11_hides_37 : Dc miX11_hides 37 (.iload_n 2) 1 38 := ⟨by decide +kernel, rfl⟩
theorem dc_X11_hides_38 : Dc miX11_hides 38 (.invokevirtual 259) 3 41 := ⟨by decide +kernel, rfl⟩
theorem dc_X11_hides_41 : Dc miX11_hides 41 (.aload_n 0) 1 42 := ⟨by decide +kernel, rfl⟩
theorem dc_X11_hides_42 : Dc miX11_hides 42 (.getfield 19) 3 45 := ⟨by decide +kernel, rfl⟩
theorem dc_X11_hides_45 : Dc miX11_hides 45 (.getfield 155) 3 48 := ⟨by decide +kernel, rfl⟩
theorem dc_X11_hides_48 : Dc miX11_hides 48 (.getfield 158) 3 51 := ⟨by decide +kernel, rfl⟩
theorem dc_X11_hides_51 : Dc miX11_hides 51 (.if_icmp .eq 9) 3 54 := ⟨by decide +kernel, rfl⟩
theorem dc_X11_hides_54 : Dc miX11_hides 54 (.iload_n 1) 1 55 := ⟨by decide +kernel, rfl⟩
theorem dc_X11_hides_55 : Dc miX11_hides 55 (.iconst 1) 1 56 := ⟨by decide +kernel, rfl⟩
theorem dc_X11_hides_56 : Dc miX11_hides 56 (.iload_n 2) 1 57 := ⟨by decide +kernel, rfl⟩
theorem dc_X11_hides_57 : Dc miX11_hides 57 (.ishl) 1 58 := ⟨by decide +kernel, rfl⟩
theorem dc_X11_hides_58 : Dc miX11_hides 58 (.ior) 1 59 := ⟨by decide +kernel, rfl⟩
theorem dc_X11_hides_59 : Dc miX11_hides 59 (.istore_n 1) 1 60 := ⟨by decide +kernel, rfl⟩
theorem dc_X11_hides_60 : Dc miX11_hides 60 (.iinc 2 1) 3 63 := ⟨by decide +kernel, rfl⟩
theorem dc_X11_hides_63 : Dc miX11_hides 63 (.goto (-59)) 3 66 := ⟨by decide +kernel, rfl⟩
theorem dc_X11_hides_66 : Dc miX11_hides 66 (.iload_n 1) 1 67 := ⟨by decide +kernel, rfl⟩
theorem dc_X11_hides_67 : Dc miX11_hides 67 (.ireturn) 1 68 := ⟨by decide +kernel, rfl⟩
def fX11_hides_b4 (N : Nat) (G : pG) (a0 : Nat) (σ : pS) : (Int32 × Int32) → Option (Int32) := lp (fun (k4 : Int32 × Int32 → Option (Int32)) (b : Int32 × Int32) => if (6 : Int32) ≤ b.2 then (some b.1) else ((fX8_narrowed N G (pR G (pR G a0 1) 0) (σ.1 (pR G (pR G a0 1) 2) 3) (σ.1 (pR G (pR G a0 1) 2) 2) b.2 σ).bind (fun q1 => if q1 = (σ.1 (pR G (pR G a0 1) 2) 3) then (k4 (b.1, b.2 + (1 : Int32))) else (k4 (b.1 ||| ((1 : Int32) <<< (b.2 &&& 31)), b.2 + (1 : Int32)))))) N
set_option maxRecDepth 100000 in
set_option maxHeartbeats 4000000 in
theorem tX11_hides_b4 {N : Nat} {G : pG} {SK : Nat → Nat} {a0 : Nat} {σ : pS} {b : Int32 × Int32} {r : Int32} (hW : WT G) (i0 : Is G a0 10) (h : fX11_hides_b4 N G a0 σ b = some r) : Ev miX11_hides (3, 0, 0) G (Zp G (some (.int r)) σ) SK (0, 0) 4 [some (.ref a0), some (.int b.1), some (.int b.2)] [] σ := by
  unfold fX11_hides_b4 at h
  refine lp_ind (P := fun b r9 => r9 = r → Ev miX11_hides (3, 0, 0) G (Zp G (some (.int r)) σ) SK (0, 0) 4 [some (.ref a0), some (.int b.1), some (.int b.2)] [] σ) (fun k4 b r9 ih h9 e9 => ?_) N b r h rfl
  clear h
  subst e9
  have h := h9
  clear h9
  have hk4 : ∀ b : Int32 × Int32, k4 b = some r9 → Ev miX11_hides (3, 0, 0) G (Zp G (some (.int r9)) σ) SK (0, 0) 4 [some (.ref a0), some (.int b.1), some (.int b.2)] [] σ := fun b hb => ih b r9 hb rfl
  clear ih
  obtain ⟨x1, x2⟩ := b
  dsimp only at h ⊢
  refine ev_iload_n dc_X11_hides_4 rfl ?_
  refine ev_bipush (v := 6) dc_X11_hides_5 (by decide) ?_
  refine ev_icmp_ge (tgt := 66) dc_X11_hides_7 (by decide) h (fun h => ?_) (fun h => ?_)
  · refine ev_iload_n dc_X11_hides_66 rfl ?_
    cases h
    exact ev_iret dc_X11_hides_67 rfl rfl rfl
  · refine ev_aload_n dc_X11_hides_10 rfl ?_
    refine ev_getR dc_X11_hides_11 fi_X11_19 rfl i0 ?_
    refine ev_getR dc_X11_hides_14 fi_X11_104 rfl (wt hW i0 1 rfl rfl) ?_
    refine ev_aload_n dc_X11_hides_17 rfl ?_
    refine ev_getR dc_X11_hides_18 fi_X11_19 rfl i0 ?_
    refine ev_getR dc_X11_hides_21 fi_X11_155 rfl (wt hW i0 1 rfl rfl) ?_
    refine ev_getI dc_X11_hides_24 fi_X11_158 rfl (wt hW (wt hW i0 1 rfl rfl) 2 rfl rfl) ?_
    refine ev_aload_n dc_X11_hides_27 rfl ?_
    refine ev_getR dc_X11_hides_28 fi_X11_19 rfl i0 ?_
    refine ev_getR dc_X11_hides_31 fi_X11_155 rfl (wt hW i0 1 rfl rfl) ?_
    refine ev_getI dc_X11_hides_34 fi_X11_245 rfl (wt hW (wt hW i0 1 rfl rfl) 2 rfl rfl) ?_
    refine ev_iload_n dc_X11_hides_37 rfl ?_
    obtain ⟨q1, hq1, h⟩ := Option.bind_eq_some_iff.mp h
    refine ev_callV (av := [.int (σ.1 (pR G (pR G a0 1) 2) 3), .int (σ.1 (pR G (pR G a0 1) 2) 2), .int x2]) (st := []) (st1 := [.int q1]) dc_X11_hides_38 (tX8_narrowed hW (wt hW (wt hW i0 1 rfl rfl) 0 rfl rfl) hq1) mw_553 cy_X8_narrowed (wt hW (wt hW i0 1 rfl rfl) 0 rfl rfl) (by decide) rfl rfl rfl rfl (Nat.le_of_ble_eq_true rfl) (Nat.le_of_ble_eq_true rfl) ⟨Nat.le_refl _, Nat.le_refl _⟩ ?_
    refine ev_aload_n dc_X11_hides_41 rfl ?_
    refine ev_getR dc_X11_hides_42 fi_X11_19 rfl i0 ?_
    refine ev_getR dc_X11_hides_45 fi_X11_155 rfl (wt hW i0 1 rfl rfl) ?_
    refine ev_getI dc_X11_hides_48 fi_X11_158 rfl (wt hW (wt hW i0 1 rfl rfl) 2 rfl rfl) ?_
    refine ev_icmp_eq (tgt := 60) dc_X11_hides_51 (by decide) h (fun h => ?_) (fun h => ?_)
    · refine ev_iinc (v := 1) (lv' := [some (.ref a0), some (.int x1), some (.int (x2 + (1 : Int32)))]) dc_X11_hides_60 rfl (by decide) rfl (by decide) rfl ?_
      refine ev_goto (tgt := 4) dc_X11_hides_63 (by decide) ?_
      exact ev_sub (hk4 (x1, x2 + (1 : Int32)) h) (And.intro rfl (And.intro rfl (And.intro rfl trivial)))
    · refine ev_iload_n dc_X11_hides_54 rfl ?_
      refine ev_iconst (v := 1) dc_X11_hides_55 (by decide) ?_
      refine ev_iload_n dc_X11_hides_56 rfl ?_
      refine ev_ishl dc_X11_hides_57 ?_
      refine ev_ior dc_X11_hides_58 ?_
      refine ev_istore_n (lv' := [some (.ref a0), some (.int (x1 ||| ((1 : Int32) <<< (x2 &&& 31)))), some (.int x2)]) dc_X11_hides_59 rfl (by decide) rfl ?_
      refine ev_iinc (v := 1) (lv' := [some (.ref a0), some (.int (x1 ||| ((1 : Int32) <<< (x2 &&& 31)))), some (.int (x2 + (1 : Int32)))]) dc_X11_hides_60 rfl (by decide) rfl (by decide) rfl ?_
      refine ev_goto (tgt := 4) dc_X11_hides_63 (by decide) ?_
      exact ev_sub (hk4 (x1 ||| ((1 : Int32) <<< (x2 &&& 31)), x2 + (1 : Int32)) h) (And.intro rfl (And.intro rfl (And.intro rfl trivial)))
def fX11_hides (N : Nat) (G : pG) (a0 : Nat) (σ : pS) : Option (Int32) := fX11_hides_b4 N G a0 σ ((0 : Int32), (0 : Int32))
set_option maxRecDepth 100000 in
set_option maxHeartbeats 4000000 in
theorem tX11_hides {N : Nat} {G : pG} {SK : Nat → Nat} {a0 : Nat} {σ : pS} {r : Int32} (hW : WT G) (i0 : Is G a0 10) (h : fX11_hides N G a0 σ = some r) : Dn miX11_hides yX11_hides 3 G SK [.ref a0] σ (some (.int r)) σ := by
  unfold fX11_hides at h
  refine dn_of (lv := [some (.ref a0), none, none]) (by decide) rfl rfl (Nat.le_of_ble_eq_true rfl) rfl ?_
  refine ev_iconst (v := 0) dc_X11_hides_0 (by decide) ?_
  refine ev_istore_n (lv' := [some (.ref a0), some (.int (0 : Int32)), none]) dc_X11_hides_1 rfl (by decide) rfl ?_
  refine ev_iconst (v := 0) dc_X11_hides_2 (by decide) ?_
  refine ev_istore_n (lv' := [some (.ref a0), some (.int (0 : Int32)), some (.int (0 : Int32))]) dc_X11_hides_3 rfl (by decide) rfl ?_
  exact ev_sub (tX11_hides_b4 (b := ((0 : Int32), (0 : Int32))) hW i0 h) (And.intro rfl (And.intro rfl (And.intro rfl trivial)))
theorem dc_X11_image_0 : Dc miX11_image 0 (.aload_n 0) 1 1 := ⟨by decide +kernel, rfl⟩
theorem dc_X11_image_1 : Dc miX11_image 1 (.getfield 26) 3 4 := ⟨by decide +kernel, rfl⟩
theorem dc_X11_image_4 : Dc miX11_image 4 (.aload_n 0) 1 5 := ⟨by decide +kernel, rfl⟩
theorem dc_X11_image_5 : Dc miX11_image 5 (.getfield 19) 3 8 := ⟨by decide +kernel, rfl⟩
theorem dc_X11_image_8 : Dc miX11_image 8 (.invokevirtual 83) 3 11 := ⟨by decide +kernel, rfl⟩
theorem dc_X11_image_11 : Dc miX11_image 11 (.aload_n 0) 1 12 := ⟨by decide +kernel, rfl⟩
theorem dc_X11_image_12 : Dc miX11_image 12 (.iconst 1) 1 13 := ⟨by decide +kernel, rfl⟩
theorem dc_X11_image_13 : Dc miX11_image 13 (.putfield 68) 3 16 := ⟨by decide +kernel, rfl⟩
theorem dc_X11_image_16 : Dc miX11_image 16 (.return_) 1 17 := ⟨by decide +kernel, rfl⟩
def fX11_image (N : Nat) (G : pG) (a0 : Nat) (σ : pS) : Option (pS) := (fX10_copyFrom N G (pR G a0 3) (pR G a0 1) σ).bind (fun q1 => some (putF q1 a0 10 (1 : Int32)))
set_option maxRecDepth 100000 in
set_option maxHeartbeats 4000000 in
theorem tX11_image {N : Nat} {G : pG} {SK : Nat → Nat} {a0 : Nat} {σ : pS} {r : pS} (hW : WT G) (i0 : Is G a0 10) (h : fX11_image N G a0 σ = some r) : Dn miX11_image yX11_image 4 G SK [.ref a0] σ none r := by
  unfold fX11_image at h
  refine dn_of (lv := [some (.ref a0)]) (by decide) rfl rfl (Nat.le_of_ble_eq_true rfl) rfl ?_
  refine ev_aload_n dc_X11_image_0 rfl ?_
  refine ev_getR dc_X11_image_1 fi_X11_26 rfl i0 ?_
  refine ev_aload_n dc_X11_image_4 rfl ?_
  refine ev_getR dc_X11_image_5 fi_X11_19 rfl i0 ?_
  obtain ⟨q1, hq1, h⟩ := Option.bind_eq_some_iff.mp h
  refine ev_callV (av := [.ref (pR G a0 1)]) (st := []) (st1 := []) dc_X11_image_8 (tX10_copyFrom hW (wt hW i0 3 rfl rfl) (wt hW i0 1 rfl rfl) hq1) mw_646 cy_X10_copyFrom (wt hW i0 3 rfl rfl) (by decide) rfl rfl rfl rfl (Nat.le_of_ble_eq_true rfl) (Nat.le_of_ble_eq_true rfl) ⟨Nat.le_refl _, Nat.le_refl _⟩ ?_
  refine ev_aload_n dc_X11_image_11 rfl ?_
  refine ev_iconst (v := 1) dc_X11_image_12 (by decide) ?_
  refine ev_putW dc_X11_image_13 fi_X11_68 rfl rfl rfl i0 ?_
  cases h
  exact ev_vret dc_X11_image_16 rfl rfl rfl
theorem dc_X11_learns_0 : Dc miX11_learns 0 (.aload_n 0) 1 1 := ⟨by decide +kernel, rfl⟩
theorem dc_X11_learns_1 : Dc miX11_learns 1 (.getfield 19) 3 4 := ⟨by decide +kernel, rfl⟩
theorem dc_X11_learns_4 : Dc miX11_learns 4 (.getfield 104) 3 7 := ⟨by decide +kernel, rfl⟩
theorem dc_X11_learns_7 : Dc miX11_learns 7 (.aload_n 0) 1 8 := ⟨by decide +kernel, rfl⟩
theorem dc_X11_learns_8 : Dc miX11_learns 8 (.getfield 19) 3 11 := ⟨by decide +kernel, rfl⟩
theorem dc_X11_learns_11 : Dc miX11_learns 11 (.getfield 155) 3 14 := ⟨by decide +kernel, rfl⟩
theorem dc_X11_learns_14 : Dc miX11_learns 14 (.getfield 158) 3 17 := ⟨by decide +kernel, rfl⟩
theorem dc_X11_learns_17 : Dc miX11_learns 17 (.aload_n 0) 1 18 := ⟨by decide +kernel, rfl⟩
theorem dc_X11_learns_18 : Dc miX11_learns 18 (.getfield 19) 3 21 := ⟨by decide +kernel, rfl⟩
theorem dc_X11_learns_21 : Dc miX11_learns 21 (.getfield 155) 3 24 := ⟨by decide +kernel, rfl⟩
theorem dc_X11_learns_24 : Dc miX11_learns 24 (.getfield 245) 3 27 := ⟨by decide +kernel, rfl⟩
theorem dc_X11_learns_27 : Dc miX11_learns 27 (.invokevirtual 334) 3 30 := ⟨by decide +kernel, rfl⟩
theorem dc_X11_learns_30 : Dc miX11_learns 30 (.ireturn) 1 31 := ⟨by decide +kernel, rfl⟩
def fX11_learns (N : Nat) (G : pG) (a0 : Nat) (σ : pS) : Option (Int32) := (fX8_tellingTraits N G (pR G (pR G a0 1) 0) (σ.1 (pR G (pR G a0 1) 2) 3) (σ.1 (pR G (pR G a0 1) 2) 2) σ).bind (fun q1 => some q1)
set_option maxRecDepth 100000 in
set_option maxHeartbeats 4000000 in
theorem tX11_learns {N : Nat} {G : pG} {SK : Nat → Nat} {a0 : Nat} {σ : pS} {r : Int32} (hW : WT G) (i0 : Is G a0 10) (h : fX11_learns N G a0 σ = some r) : Dn miX11_learns yX11_learns 5 G SK [.ref a0] σ (some (.int r)) σ := by
  unfold fX11_learns at h
  refine dn_of (lv := [some (.ref a0)]) (by decide) rfl rfl (Nat.le_of_ble_eq_true rfl) rfl ?_
  refine ev_aload_n dc_X11_learns_0 rfl ?_
  refine ev_getR dc_X11_learns_1 fi_X11_19 rfl i0 ?_
  refine ev_getR dc_X11_learns_4 fi_X11_104 rfl (wt hW i0 1 rfl rfl) ?_
  refine ev_aload_n dc_X11_learns_7 rfl ?_
  refine ev_getR dc_X11_learns_8 fi_X11_19 rfl i0 ?_
  refine ev_getR dc_X11_learns_11 fi_X11_155 rfl (wt hW i0 1 rfl rfl) ?_
  refine ev_getI dc_X11_learns_14 fi_X11_158 rfl (wt hW (wt hW i0 1 rfl rfl) 2 rfl rfl) ?_
  refine ev_aload_n dc_X11_learns_17 rfl ?_
  refine ev_getR dc_X11_learns_18 fi_X11_19 rfl i0 ?_
  refine ev_getR dc_X11_learns_21 fi_X11_155 rfl (wt hW i0 1 rfl rfl) ?_
  refine ev_getI dc_X11_learns_24 fi_X11_245 rfl (wt hW (wt hW i0 1 rfl rfl) 2 rfl rfl) ?_
  obtain ⟨q1, hq1, h⟩ := Option.bind_eq_some_iff.mp h
  refine ev_callV (av := [.int (σ.1 (pR G (pR G a0 1) 2) 3), .int (σ.1 (pR G (pR G a0 1) 2) 2)]) (st := []) (st1 := [.int q1]) dc_X11_learns_27 (tX8_tellingTraits hW (wt hW (wt hW i0 1 rfl rfl) 0 rfl rfl) hq1) mw_520 cy_X8_tellingTraits (wt hW (wt hW i0 1 rfl rfl) 0 rfl rfl) (by decide) rfl rfl rfl rfl (Nat.le_of_ble_eq_true rfl) (Nat.le_of_ble_eq_true rfl) ⟨Nat.le_refl _, Nat.le_refl _⟩ ?_
  cases h
  exact ev_iret dc_X11_learns_30 rfl rfl rfl
theorem dc_X11_likeliest_0 : Dc miX11_likeliest 0 (.iconst (-1)) 1 1 := ⟨by decide +kernel, rfl⟩
theorem dc_X11_likeliest_1 : Dc miX11_likeliest 1 (.istore_n 1) 1 2 := ⟨by decide +kernel, rfl⟩
theorem dc_X11_likeliest_2 : Dc miX11_likeliest 2 (.iconst 0) 1 3 := ⟨by decide +kernel, rfl⟩
theorem dc_X11_likeliest_3 : Dc miX11_likeliest 3 (.istore_n 2) 1 4 := ⟨by decide +kernel, rfl⟩
theorem dc_X11_likeliest_4 : Dc miX11_likeliest 4 (.iconst 0) 1 5 := ⟨by decide +kernel, rfl⟩
theorem dc_X11_likeliest_5 : Dc miX11_likeliest 5 (.istore_n 3) 1 6 := ⟨by decide +kernel, rfl⟩
theorem dc_X11_likeliest_6 : Dc miX11_likeliest 6 (.iload_n 3) 1 7 := ⟨by decide +kernel, rfl⟩
theorem dc_X11_likeliest_7 : Dc miX11_likeliest 7 (.aload_n 0) 1 8 := ⟨by decide +kernel, rfl⟩
theorem dc_X11_likeliest_8 : Dc miX11_likeliest 8 (.getfield 19) 3 11 := ⟨by decide +kernel, rfl⟩
theorem dc_X11_likeliest_11 : Dc miX11_likeliest 11 (.getfield 104) 3 14 := ⟨by decide +kernel, rfl⟩
theorem dc_X11_likeliest_14 : Dc miX11_likeliest 14 (.getfield 248) 3 17 := ⟨by decide +kernel, rfl⟩
theorem dc_X11_likeliest_17 : Dc miX11_likeliest 17 (.if_icmp .ge 61) 3 20 := ⟨by decide +kernel, rfl⟩
theorem dc_X11_likeliest_20 : Dc miX11_likeliest 20 (.aload_n 0) 1 21 := ⟨by decide +kernel, rfl⟩
theorem dc_X11_likeliest_21 : Dc miX11_likeliest 21 (.getfield 19) 3 24 := ⟨by decide +kernel, rfl⟩
theorem dc_X11_likeliest_24 : Dc miX11_likeliest 24 (.getfield 155) 3 27 := ⟨by decide +kernel, rfl⟩
theorem dc_X11_likeliest_27 : Dc miX11_likeliest 27 (.getfield 158) 3 30 := ⟨by decide +kernel, rfl⟩
theorem dc_X11_likeliest_30 : Dc miX11_likeliest 30 (.iload_n 3) 1 31 := ⟨by decide +kernel, rfl⟩
theorem dc_X11_likeliest_31 : Dc miX11_likeliest 31 (.invokestatic 161) 3 34 := ⟨by decide +kernel, rfl⟩
theorem dc_X11_likeliest_34 : Dc miX11_likeliest 34 (.ifCond .eq 38) 3 37 := ⟨by decide +kernel, rfl⟩
theorem dc_X11_likeliest_37 : Dc miX11_likeliest 37 (.aload_n 0) 1 38 := ⟨by decide +kernel, rfl⟩
theorem dc_X11_likeliest_38 : Dc miX11_likeliest 38 (.getfield 19) 3 41 := ⟨by decide +kernel, rfl⟩
theorem dc_X11_likeliest_41 : Dc miX11_likeliest 41 (.getfield 104) 3 44 := ⟨by decide +kernel, rfl⟩
theorem dc_X11_likeliest_44 : Dc miX11_likeliest 44 (.getfield 152) 3 47 := ⟨by decide +kernel, rfl⟩
theorem dc_X11_likeliest_47 : Dc miX11_likeliest 47 (.iload_n 3) 1 48 := ⟨by decide +kernel, rfl⟩
theorem dc_X11_likeliest_48 : Dc miX11_likeliest 48 (.invokestatic 148) 3 51 := ⟨by decide +kernel, rfl⟩
theorem dc_X11_likeliest_51 : Dc miX11_likeliest 51 (.iload_n 2) 1 52 := ⟨by decide +kernel, rfl⟩
theorem dc_X11_likeliest_52 : Dc miX11_likeliest 52 (.if_icmp .le 20) 3 55 := ⟨by decide +kernel, rfl⟩
theorem dc_X11_likeliest_55 : Dc miX11_likeliest 55 (.iload_n 3) 1 56 := ⟨by decide +kernel, rfl⟩
theorem dc_X11_likeliest_56 : Dc miX11_likeliest 56 (.istore_n 1) 1 57 := ⟨by decide +kernel, rfl⟩
theorem dc_X11_likeliest_57 : Dc miX11_likeliest 57 (.aload_n 0) 1 58 := ⟨by decide +kernel, rfl⟩
theorem dc_X11_likeliest_58 : Dc miX11_likeliest 58 (.getfield 19) 3 61 := ⟨by decide +kernel, rfl⟩
theorem dc_X11_likeliest_61 : Dc miX11_likeliest 61 (.getfield 104) 3 64 := ⟨by decide +kernel, rfl⟩
theorem dc_X11_likeliest_64 : Dc miX11_likeliest 64 (.getfield 152) 3 67 := ⟨by decide +kernel, rfl⟩
theorem dc_X11_likeliest_67 : Dc miX11_likeliest 67 (.iload_n 3) 1 68 := ⟨by decide +kernel, rfl⟩
theorem dc_X11_likeliest_68 : Dc miX11_likeliest 68 (.invokestatic 148) 3 71 := ⟨by decide +kernel, rfl⟩
theorem dc_X11_likeliest_71 : Dc miX11_likeliest 71 (.istore_n 2) 1 72 := ⟨by decide +kernel, rfl⟩
theorem dc_X11_likeliest_72 : Dc miX11_likeliest 72 (.iinc 3 1) 3 75 := ⟨by decide +kernel, rfl⟩
theorem dc_X11_likeliest_75 : Dc miX11_likeliest 75 (.goto (-69)) 3 78 := ⟨by decide +kernel, rfl⟩
theorem dc_X11_likeliest_78 : Dc miX11_likeliest 78 (.iload_n 1) 1 79 := ⟨by decide +kernel, rfl⟩
theorem dc_X11_likeliest_79 : Dc miX11_likeliest 79 (.ireturn) 1 80 := ⟨by decide +kernel, rfl⟩
def fX11_likeliest_b6 (N : Nat) (G : pG) (a0 : Nat) (σ : pS) : (Int32 × Int32 × Int32) → Option (Int32) := lp (fun (k6 : Int32 × Int32 × Int32 → Option (Int32)) (b : Int32 × Int32 × Int32) => if (σ.1 (pR G (pR G a0 1) 0) 1) ≤ b.2.2 then (some b.1) else ((fX11_has N G (σ.1 (pR G (pR G a0 1) 2) 3) b.2.2 σ).bind (fun q1 => if q1 = 0 then (k6 (b.1, b.2.1, b.2.2 + (1 : Int32))) else ((fX11_at N G (pR G (pR G (pR G a0 1) 0) 10) b.2.2 σ).bind (fun q2 => if q2 ≤ b.2.1 then (k6 (b.1, b.2.1, b.2.2 + (1 : Int32))) else ((fX11_at N G (pR G (pR G (pR G a0 1) 0) 10) b.2.2 σ).bind (fun q3 => k6 (b.2.2, q3, b.2.2 + (1 : Int32))))))))) N
set_option maxRecDepth 100000 in
set_option maxHeartbeats 4000000 in
theorem tX11_likeliest_b6 {N : Nat} {G : pG} {SK : Nat → Nat} {a0 : Nat} {σ : pS} {b : Int32 × Int32 × Int32} {r : Int32} (hW : WT G) (i0 : Is G a0 10) (h : fX11_likeliest_b6 N G a0 σ b = some r) : Ev miX11_likeliest (2, 0, 0) G (Zp G (some (.int r)) σ) SK (0, 0) 6 [some (.ref a0), some (.int b.1), some (.int b.2.1), some (.int b.2.2)] [] σ := by
  unfold fX11_likeliest_b6 at h
  refine lp_ind (P := fun b r9 => r9 = r → Ev miX11_likeliest (2, 0, 0) G (Zp G (some (.int r)) σ) SK (0, 0) 6 [some (.ref a0), some (.int b.1), some (.int b.2.1), some (.int b.2.2)] [] σ) (fun k6 b r9 ih h9 e9 => ?_) N b r h rfl
  clear h
  subst e9
  have h := h9
  clear h9
  have hk6 : ∀ b : Int32 × Int32 × Int32, k6 b = some r9 → Ev miX11_likeliest (2, 0, 0) G (Zp G (some (.int r9)) σ) SK (0, 0) 6 [some (.ref a0), some (.int b.1), some (.int b.2.1), some (.int b.2.2)] [] σ := fun b hb => ih b r9 hb rfl
  clear ih
  obtain ⟨x1, x2, x3⟩ := b
  dsimp only at h ⊢
  refine ev_iload_n dc_X11_likeliest_6 rfl ?_
  refine ev_aload_n dc_X11_likeliest_7 rfl ?_
  refine ev_getR dc_X11_likeliest_8 fi_X11_19 rfl i0 ?_
  refine ev_getR dc_X11_likeliest_11 fi_X11_104 rfl (wt hW i0 1 rfl rfl) ?_
  refine ev_getI dc_X11_likeliest_14 fi_X11_248 rfl (wt hW (wt hW i0 1 rfl rfl) 0 rfl rfl) ?_
  refine ev_icmp_ge (tgt := 78) dc_X11_likeliest_17 (by decide) h (fun h => ?_) (fun h => ?_)
  · refine ev_iload_n dc_X11_likeliest_78 rfl ?_
    cases h
    exact ev_iret dc_X11_likeliest_79 rfl rfl rfl
  · refine ev_aload_n dc_X11_likeliest_20 rfl ?_
    refine ev_getR dc_X11_likeliest_21 fi_X11_19 rfl i0 ?_
    refine ev_getR dc_X11_likeliest_24 fi_X11_155 rfl (wt hW i0 1 rfl rfl) ?_
    refine ev_getI dc_X11_likeliest_27 fi_X11_158 rfl (wt hW (wt hW i0 1 rfl rfl) 2 rfl rfl) ?_
    refine ev_iload_n dc_X11_likeliest_30 rfl ?_
    obtain ⟨q1, hq1, h⟩ := Option.bind_eq_some_iff.mp h
    refine ev_callS (av := [.int (σ.1 (pR G (pR G a0 1) 2) 3), .int x3]) (st := []) (st1 := [.int q1]) dc_X11_likeliest_31 (tX11_has hW hq1) mw_566 cs_X11_has rfl rfl rfl (Nat.le_of_ble_eq_true rfl) (Nat.le_of_ble_eq_true rfl) ⟨Nat.le_refl _, Nat.le_refl _⟩ ?_
    refine ev_if_eq (tgt := 72) dc_X11_likeliest_34 (by decide) h (fun h => ?_) (fun h => ?_)
    · refine ev_iinc (v := 1) (lv' := [some (.ref a0), some (.int x1), some (.int x2), some (.int (x3 + (1 : Int32)))]) dc_X11_likeliest_72 rfl (by decide) rfl (by decide) rfl ?_
      refine ev_goto (tgt := 6) dc_X11_likeliest_75 (by decide) ?_
      exact ev_sub (hk6 (x1, x2, x3 + (1 : Int32)) h) (And.intro rfl (And.intro rfl (And.intro rfl (And.intro rfl trivial))))
    · refine ev_aload_n dc_X11_likeliest_37 rfl ?_
      refine ev_getR dc_X11_likeliest_38 fi_X11_19 rfl i0 ?_
      refine ev_getR dc_X11_likeliest_41 fi_X11_104 rfl (wt hW i0 1 rfl rfl) ?_
      refine ev_getR dc_X11_likeliest_44 fi_X11_152 rfl (wt hW (wt hW i0 1 rfl rfl) 0 rfl rfl) ?_
      refine ev_iload_n dc_X11_likeliest_47 rfl ?_
      obtain ⟨q2, hq2, h⟩ := Option.bind_eq_some_iff.mp h
      refine ev_callS (av := [.ref (pR G (pR G (pR G a0 1) 0) 10), .int x3]) (st := []) (st1 := [.int q2]) dc_X11_likeliest_48 (tX11_at hW (wt hW (wt hW (wt hW i0 1 rfl rfl) 0 rfl rfl) 10 rfl rfl) hq2) mw_567 cs_X11_at rfl rfl rfl (Nat.le_of_ble_eq_true rfl) (Nat.le_of_ble_eq_true rfl) ⟨Nat.le_refl _, Nat.le_refl _⟩ ?_
      refine ev_iload_n dc_X11_likeliest_51 rfl ?_
      refine ev_icmp_le (tgt := 72) dc_X11_likeliest_52 (by decide) h (fun h => ?_) (fun h => ?_)
      · refine ev_iinc (v := 1) (lv' := [some (.ref a0), some (.int x1), some (.int x2), some (.int (x3 + (1 : Int32)))]) dc_X11_likeliest_72 rfl (by decide) rfl (by decide) rfl ?_
        refine ev_goto (tgt := 6) dc_X11_likeliest_75 (by decide) ?_
        exact ev_sub (hk6 (x1, x2, x3 + (1 : Int32)) h) (And.intro rfl (And.intro rfl (And.intro rfl (And.intro rfl trivial))))
      · refine ev_iload_n dc_X11_likeliest_55 rfl ?_
        refine ev_istore_n (lv' := [some (.ref a0), some (.int x3), some (.int x2), some (.int x3)]) dc_X11_likeliest_56 rfl (by decide) rfl ?_
        refine ev_aload_n dc_X11_likeliest_57 rfl ?_
        refine ev_getR dc_X11_likeliest_58 fi_X11_19 rfl i0 ?_
        refine ev_getR dc_X11_likeliest_61 fi_X11_104 rfl (wt hW i0 1 rfl rfl) ?_
        refine ev_getR dc_X11_likeliest_64 fi_X11_152 rfl (wt hW (wt hW i0 1 rfl rfl) 0 rfl rfl) ?_
        refine ev_iload_n dc_X11_likeliest_67 rfl ?_
        obtain ⟨q3, hq3, h⟩ := Option.bind_eq_some_iff.mp h
        refine ev_callS (av := [.ref (pR G (pR G (pR G a0 1) 0) 10), .int x3]) (st := []) (st1 := [.int q3]) dc_X11_likeliest_68 (tX11_at hW (wt hW (wt hW (wt hW i0 1 rfl rfl) 0 rfl rfl) 10 rfl rfl) hq3) mw_567 cs_X11_at rfl rfl rfl (Nat.le_of_ble_eq_true rfl) (Nat.le_of_ble_eq_true rfl) ⟨Nat.le_refl _, Nat.le_refl _⟩ ?_
        refine ev_istore_n (lv' := [some (.ref a0), some (.int x3), some (.int q3), some (.int x3)]) dc_X11_likeliest_71 rfl (by decide) rfl ?_
        refine ev_iinc (v := 1) (lv' := [some (.ref a0), some (.int x3), some (.int q3), some (.int (x3 + (1 : Int32)))]) dc_X11_likeliest_72 rfl (by decide) rfl (by decide) rfl ?_
        refine ev_goto (tgt := 6) dc_X11_likeliest_75 (by decide) ?_
        exact ev_sub (hk6 (x3, q3, x3 + (1 : Int32)) h) (And.intro rfl (And.intro rfl (And.intro rfl (And.intro rfl trivial))))
def fX11_likeliest (N : Nat) (G : pG) (a0 : Nat) (σ : pS) : Option (Int32) := fX11_likeliest_b6 N G a0 σ ((-1 : Int32), (0 : Int32), (0 : Int32))
set_option maxRecDepth 100000 in
set_option maxHeartbeats 4000000 in
theorem tX11_likeliest {N : Nat} {G : pG} {SK : Nat → Nat} {a0 : Nat} {σ : pS} {r : Int32} (hW : WT G) (i0 : Is G a0 10) (h : fX11_likeliest N G a0 σ = some r) : Dn miX11_likeliest yX11_likeliest 2 G SK [.ref a0] σ (some (.int r)) σ := by
  unfold fX11_likeliest at h
  refine dn_of (lv := [some (.ref a0), none, none, none]) (by decide) rfl rfl (Nat.le_of_ble_eq_true rfl) rfl ?_
  refine ev_iconst (v := (-1)) dc_X11_likeliest_0 (by decide) ?_
  refine ev_istore_n (lv' := [some (.ref a0), some (.int (-1 : Int32)), none, none]) dc_X11_likeliest_1 rfl (by decide) rfl ?_
  refine ev_iconst (v := 0) dc_X11_likeliest_2 (by decide) ?_
  refine ev_istore_n (lv' := [some (.ref a0), some (.int (-1 : Int32)), some (.int (0 : Int32)), none]) dc_X11_likeliest_3 rfl (by decide) rfl ?_
  refine ev_iconst (v := 0) dc_X11_likeliest_4 (by decide) ?_
  refine ev_istore_n (lv' := [some (.ref a0), some (.int (-1 : Int32)), some (.int (0 : Int32)), some (.int (0 : Int32))]) dc_X11_likeliest_5 rfl (by decide) rfl ?_
  exact ev_sub (tX11_likeliest_b6 (b := ((-1 : Int32), (0 : Int32), (0 : Int32))) hW i0 h) (And.intro rfl (And.intro rfl (And.intro rfl (And.intro rfl trivial))))
theorem dc_X11_loudest_0 : Dc miX11_loudest 0 (.aload_n 0) 1 1 := ⟨by decide +kernel, rfl⟩
theorem dc_X11_loudest_1 : Dc miX11_loudest 1 (.getfield 19) 3 4 := ⟨by decide +kernel, rfl⟩
theorem dc_X11_loudest_4 : Dc miX11_loudest 4 (.getfield 155) 3 7 := ⟨by decide +kernel, rfl⟩
theorem dc_X11_loudest_7 : Dc miX11_loudest 7 (.getfield 363) 3 10 := ⟨by decide +kernel, rfl⟩
theorem dc_X11_loudest_10 : Dc miX11_loudest 10 (.astore_n 1) 1 11 := ⟨by decide +kernel, rfl⟩
theorem dc_X11_loudest_11 : Dc miX11_loudest 11 (.iconst (-1)) 1 12 := ⟨by decide +kernel, rfl⟩
theorem dc_X11_loudest_12 : Dc miX11_loudest 12 (.istore_n 2) 1 13 := ⟨by decide +kernel, rfl⟩
theorem dc_X11_loudest_13 : Dc miX11_loudest 13 (.iconst 0) 1 14 := ⟨by decide +kernel, rfl⟩
theorem dc_X11_loudest_14 : Dc miX11_loudest 14 (.istore_n 3) 1 15 := ⟨by decide +kernel, rfl⟩
theorem dc_X11_loudest_15 : Dc miX11_loudest 15 (.iconst 0) 1 16 := ⟨by decide +kernel, rfl⟩
theorem dc_X11_loudest_16 : Dc miX11_loudest 16 (.istore 4) 2 18 := ⟨by decide +kernel, rfl⟩
theorem dc_X11_loudest_18 : Dc miX11_loudest 18 (.iload 4) 2 20 := ⟨by decide +kernel, rfl⟩
theorem dc_X11_loudest_20 : Dc miX11_loudest 20 (.aload_n 0) 1 21 := ⟨by decide +kernel, rfl⟩
theorem dc_X11_loudest_21 : Dc miX11_loudest 21 (.getfield 19) 3 24 := ⟨by decide +kernel, rfl⟩
theorem dc_X11_loudest_24 : Dc miX11_loudest 24 (.getfield 104) 3 27 := ⟨by decide +kernel, rfl⟩
theorem dc_X11_loudest_27 : Dc miX11_loudest 27 (.getfield 310) 3 30 := ⟨by decide +kernel, rfl⟩
theorem dc_X11_loudest_30 : Dc miX11_loudest 30 (.if_icmp .ge 29) 3 33 := ⟨by decide +kernel, rfl⟩
theorem dc_X11_loudest_33 : Dc miX11_loudest 33 (.aload_n 1) 1 34 := ⟨by decide +kernel, rfl⟩
theorem dc_X11_loudest_34 : Dc miX11_loudest 34 (.iload 4) 2 36 := ⟨by decide +kernel, rfl⟩
theorem dc_X11_loudest_36 : Dc miX11_loudest 36 (.invokevirtual 375) 3 39 := ⟨by decide +kernel, rfl⟩
theorem dc_X11_loudest_39 : Dc miX11_loudest 39 (.istore 5) 2 41 := ⟨by decide +kernel, rfl⟩
theorem dc_X11_loudest_41 : Dc miX11_loudest 41 (.iload 5) 2 43 := ⟨by decide +kernel, rfl⟩
theorem dc_X11_loudest_43 : Dc miX11_loudest 43 (.iload_n 3) 1 44 := ⟨by decide +kernel, rfl⟩
theorem dc_X11_loudest_44 : Dc miX11_loudest 44 (.if_icmp .le 9) 3 47 := ⟨by decide +kernel, rfl⟩
theorem dc_X11_loudest_47 : Dc miX11_loudest 47 (.iload 4) 2 49 := ⟨by decide +kernel, rfl⟩
theorem dc_X11_loudest_49 : Dc miX11_loudest 49 (.istore_n 2) 1 50 := ⟨by decide +kernel, rfl⟩
theorem dc_X11_loudest_50 : Dc miX11_loudest 50 (.iload 5) 2 52 := ⟨by decide +kernel, rfl⟩
theorem dc_X11_loudest_52 : Dc miX11_loudest 52 (.istore_n 3) 1 53 := ⟨by decide +kernel, rfl⟩
theorem dc_X11_loudest_53 : Dc miX11_loudest 53 (.iinc 4 1) 3 56 := ⟨by decide +kernel, rfl⟩
theorem dc_X11_loudest_56 : Dc miX11_loudest 56 (.goto (-38)) 3 59 := ⟨by decide +kernel, rfl⟩
theorem dc_X11_loudest_59 : Dc miX11_loudest 59 (.iload_n 2) 1 60 := ⟨by decide +kernel, rfl⟩
theorem dc_X11_loudest_60 : Dc miX11_loudest 60 (.ireturn) 1 61 := ⟨by decide +kernel, rfl⟩
def fX11_loudest_b18 (N : Nat) (G : pG) (a0 : Nat) (x1 : Nat) (σ : pS) : (Int32 × Int32 × Int32) → Option (Int32) := lp (fun (k18 : Int32 × Int32 × Int32 → Option (Int32)) (b : Int32 × Int32 × Int32) => if (σ.1 (pR G (pR G a0 1) 0) 4) ≤ b.2.2 then (some b.1) else ((fX2_recordsOf N G x1 b.2.2 σ).bind (fun q1 => if q1 ≤ b.2.1 then (k18 (b.1, b.2.1, b.2.2 + (1 : Int32))) else (k18 (b.2.2, q1, b.2.2 + (1 : Int32)))))) N
set_option maxRecDepth 100000 in
set_option maxHeartbeats 4000000 in
theorem tX11_loudest_b18 {N : Nat} {G : pG} {SK : Nat → Nat} {a0 : Nat} {x1 : Nat} {σ : pS} {b : Int32 × Int32 × Int32} {r : Int32} (hW : WT G) (i0 : Is G a0 10) (j1 : Is G x1 2) (h : fX11_loudest_b18 N G a0 x1 σ b = some r) : Ev miX11_loudest (4, 0, 0) G (Zp G (some (.int r)) σ) SK (0, 0) 18 [some (.ref a0), some (.ref x1), some (.int b.1), some (.int b.2.1), some (.int b.2.2), none] [] σ := by
  unfold fX11_loudest_b18 at h
  refine lp_ind (P := fun b r9 => r9 = r → Ev miX11_loudest (4, 0, 0) G (Zp G (some (.int r)) σ) SK (0, 0) 18 [some (.ref a0), some (.ref x1), some (.int b.1), some (.int b.2.1), some (.int b.2.2), none] [] σ) (fun k18 b r9 ih h9 e9 => ?_) N b r h rfl
  clear h
  subst e9
  have h := h9
  clear h9
  have hk18 : ∀ b : Int32 × Int32 × Int32, k18 b = some r9 → Ev miX11_loudest (4, 0, 0) G (Zp G (some (.int r9)) σ) SK (0, 0) 18 [some (.ref a0), some (.ref x1), some (.int b.1), some (.int b.2.1), some (.int b.2.2), none] [] σ := fun b hb => ih b r9 hb rfl
  clear ih
  obtain ⟨x2, x3, x4⟩ := b
  dsimp only at h ⊢
  refine ev_iload dc_X11_loudest_18 rfl ?_
  refine ev_aload_n dc_X11_loudest_20 rfl ?_
  refine ev_getR dc_X11_loudest_21 fi_X11_19 rfl i0 ?_
  refine ev_getR dc_X11_loudest_24 fi_X11_104 rfl (wt hW i0 1 rfl rfl) ?_
  refine ev_getI dc_X11_loudest_27 fi_X11_310 rfl (wt hW (wt hW i0 1 rfl rfl) 0 rfl rfl) ?_
  refine ev_icmp_ge (tgt := 59) dc_X11_loudest_30 (by decide) h (fun h => ?_) (fun h => ?_)
  · refine ev_iload_n dc_X11_loudest_59 rfl ?_
    cases h
    exact ev_iret dc_X11_loudest_60 rfl rfl rfl
  · refine ev_aload_n dc_X11_loudest_33 rfl ?_
    refine ev_iload dc_X11_loudest_34 rfl ?_
    obtain ⟨q1, hq1, h⟩ := Option.bind_eq_some_iff.mp h
    refine ev_callV (av := [.int x4]) (st := []) (st1 := [.int q1]) dc_X11_loudest_36 (tX2_recordsOf hW j1 hq1) mw_606 cy_X2_recordsOf j1 (by decide) rfl rfl rfl rfl (Nat.le_of_ble_eq_true rfl) (Nat.le_of_ble_eq_true rfl) ⟨Nat.le_refl _, Nat.le_refl _⟩ ?_
    refine ev_istore (lv' := [some (.ref a0), some (.ref x1), some (.int x2), some (.int x3), some (.int x4), some (.int q1)]) dc_X11_loudest_39 rfl (by decide) rfl ?_
    refine ev_iload dc_X11_loudest_41 rfl ?_
    refine ev_iload_n dc_X11_loudest_43 rfl ?_
    refine ev_icmp_le (tgt := 53) dc_X11_loudest_44 (by decide) h (fun h => ?_) (fun h => ?_)
    · refine ev_iinc (v := 1) (lv' := [some (.ref a0), some (.ref x1), some (.int x2), some (.int x3), some (.int (x4 + (1 : Int32))), some (.int q1)]) dc_X11_loudest_53 rfl (by decide) rfl (by decide) rfl ?_
      refine ev_goto (tgt := 18) dc_X11_loudest_56 (by decide) ?_
      exact ev_sub (hk18 (x2, x3, x4 + (1 : Int32)) h) (And.intro rfl (And.intro rfl (And.intro rfl (And.intro rfl (And.intro rfl trivial)))))
    · refine ev_iload dc_X11_loudest_47 rfl ?_
      refine ev_istore_n (lv' := [some (.ref a0), some (.ref x1), some (.int x4), some (.int x3), some (.int x4), some (.int q1)]) dc_X11_loudest_49 rfl (by decide) rfl ?_
      refine ev_iload dc_X11_loudest_50 rfl ?_
      refine ev_istore_n (lv' := [some (.ref a0), some (.ref x1), some (.int x4), some (.int q1), some (.int x4), some (.int q1)]) dc_X11_loudest_52 rfl (by decide) rfl ?_
      refine ev_iinc (v := 1) (lv' := [some (.ref a0), some (.ref x1), some (.int x4), some (.int q1), some (.int (x4 + (1 : Int32))), some (.int q1)]) dc_X11_loudest_53 rfl (by decide) rfl (by decide) rfl ?_
      refine ev_goto (tgt := 18) dc_X11_loudest_56 (by decide) ?_
      exact ev_sub (hk18 (x4, q1, x4 + (1 : Int32)) h) (And.intro rfl (And.intro rfl (And.intro rfl (And.intro rfl (And.intro rfl trivial)))))
def fX11_loudest (N : Nat) (G : pG) (a0 : Nat) (σ : pS) : Option (Int32) := fX11_loudest_b18 N G a0 (pR G (pR G (pR G a0 1) 2) 8) σ ((-1 : Int32), (0 : Int32), (0 : Int32))
set_option maxRecDepth 100000 in
set_option maxHeartbeats 4000000 in
theorem tX11_loudest {N : Nat} {G : pG} {SK : Nat → Nat} {a0 : Nat} {σ : pS} {r : Int32} (hW : WT G) (i0 : Is G a0 10) (h : fX11_loudest N G a0 σ = some r) : Dn miX11_loudest yX11_loudest 4 G SK [.ref a0] σ (some (.int r)) σ := by
  unfold fX11_loudest at h
  refine dn_of (lv := [some (.ref a0), none, none, none, none, none]) (by decide) rfl rfl (Nat.le_of_ble_eq_true rfl) rfl ?_
  refine ev_aload_n dc_X11_loudest_0 rfl ?_
  refine ev_getR dc_X11_loudest_1 fi_X11_19 rfl i0 ?_
  refine ev_getR dc_X11_loudest_4 fi_X11_155 rfl (wt hW i0 1 rfl rfl) ?_
  refine ev_getR dc_X11_loudest_7 fi_X11_363 rfl (wt hW (wt hW i0 1 rfl rfl) 2 rfl rfl) ?_
  refine ev_astore_n (lv' := [some (.ref a0), some (.ref (pR G (pR G (pR G a0 1) 2) 8)), none, none, none, none]) dc_X11_loudest_10 rfl (by decide) rfl ?_
  refine ev_iconst (v := (-1)) dc_X11_loudest_11 (by decide) ?_
  refine ev_istore_n (lv' := [some (.ref a0), some (.ref (pR G (pR G (pR G a0 1) 2) 8)), some (.int (-1 : Int32)), none, none, none]) dc_X11_loudest_12 rfl (by decide) rfl ?_
  refine ev_iconst (v := 0) dc_X11_loudest_13 (by decide) ?_
  refine ev_istore_n (lv' := [some (.ref a0), some (.ref (pR G (pR G (pR G a0 1) 2) 8)), some (.int (-1 : Int32)), some (.int (0 : Int32)), none, none]) dc_X11_loudest_14 rfl (by decide) rfl ?_
  refine ev_iconst (v := 0) dc_X11_loudest_15 (by decide) ?_
  refine ev_istore (lv' := [some (.ref a0), some (.ref (pR G (pR G (pR G a0 1) 2) 8)), some (.int (-1 : Int32)), some (.int (0 : Int32)), some (.int (0 : Int32)), none]) dc_X11_loudest_16 rfl (by decide) rfl ?_
  exact ev_sub (tX11_loudest_b18 (b := ((-1 : Int32), (0 : Int32), (0 : Int32))) hW i0 (wt hW (wt hW (wt hW i0 1 rfl rfl) 2 rfl rfl) 8 rfl rfl) h) (And.intro rfl (And.intro rfl (And.intro rfl (And.intro rfl (And.intro rfl trivial)))))
theorem dc_X11_orNone_0 : Dc miX11_orNone 0 (.iload_n 0) 1 1 := ⟨by decide +kernel, rfl⟩
theorem dc_X11_orNone_1 : Dc miX11_orNone 1 (.sipush 1000) 3 4 := ⟨by decide +kernel, rfl⟩
theorem dc_X11_orNone_4 : Dc miX11_orNone 4 (.if_icmp .lt 7) 3 7 := ⟨by decide +kernel, rfl⟩
theorem dc_X11_orNone_7 : Dc miX11_orNone 7 (.iconst (-1)) 1 8 := ⟨by decide +kernel, rfl⟩
theorem dc_X11_orNone_8 : Dc miX11_orNone 8 (.goto 4) 3 11 := ⟨by decide +kernel, rfl⟩
theorem dc_X11_orNone_11 : Dc miX11_orNone 11 (.iload_n 0) 1 12 := ⟨by decide +kernel, rfl⟩
theorem dc_X11_orNone_12 : Dc miX11_orNone 12 (.ireturn) 1 13 := ⟨by decide +kernel, rfl⟩
def fX11_orNone (N : Nat) (G : pG) (a0 : Int32) (σ : pS) : Option (Int32) := if a0 < (1000 : Int32) then (some a0) else (some (-1 : Int32))
set_option maxRecDepth 100000 in
set_option maxHeartbeats 4000000 in
theorem tX11_orNone {N : Nat} {G : pG} {SK : Nat → Nat} {a0 : Int32} {σ : pS} {r : Int32} (hW : WT G) (h : fX11_orNone N G a0 σ = some r) : Dn miX11_orNone yX11_orNone 1 G SK [.int a0] σ (some (.int r)) σ := by
  unfold fX11_orNone at h
  refine dn_of (lv := [some (.int a0)]) (by decide) rfl rfl (Nat.le_of_ble_eq_true rfl) rfl ?_
  refine ev_iload_n dc_X11_orNone_0 rfl ?_
  refine ev_sipush (v := 1000) dc_X11_orNone_1 (by decide) ?_
  refine ev_icmp_lt (tgt := 11) dc_X11_orNone_4 (by decide) h (fun h => ?_) (fun h => ?_)
  · refine ev_iload_n dc_X11_orNone_11 rfl ?_
    cases h
    exact ev_iret dc_X11_orNone_12 rfl rfl rfl
  · refine ev_iconst (v := (-1)) dc_X11_orNone_7 (by decide) ?_
    refine ev_goto (tgt := 12) dc_X11_orNone_8 (by decide) ?_
    cases h
    exact ev_iret dc_X11_orNone_12 rfl rfl rfl
theorem dc_X11_seals_0 : Dc miX11_seals 0 (.aload_n 0) 1 1 := ⟨by decide +kernel, rfl⟩
theorem dc_X11_seals_1 : Dc miX11_seals 1 (.getfield 19) 3 4 := ⟨by decide +kernel, rfl⟩
theorem dc_X11_seals_4 : Dc miX11_seals 4 (.getfield 104) 3 7 := ⟨by decide +kernel, rfl⟩
theorem dc_X11_seals_7 : Dc miX11_seals 7 (.iload_n 1) 1 8 := ⟨by decide +kernel, rfl⟩
theorem dc_X11_seals_8 : Dc miX11_seals 8 (.invokevirtual 360) 3 11 := ⟨by decide +kernel, rfl⟩
theorem dc_X11_seals_11 : Dc miX11_seals 11 (.ireturn) 1 12 := ⟨by decide +kernel, rfl⟩
def fX11_seals (N : Nat) (G : pG) (a0 : Nat) (a1 : Int32) (σ : pS) : Option (Int32) := (fX8_dutiesDone N G (pR G (pR G a0 1) 0) a1 σ).bind (fun q1 => some q1)
set_option maxRecDepth 100000 in
set_option maxHeartbeats 4000000 in
theorem tX11_seals {N : Nat} {G : pG} {SK : Nat → Nat} {a0 : Nat} {a1 : Int32} {σ : pS} {r : Int32} (hW : WT G) (i0 : Is G a0 10) (h : fX11_seals N G a0 a1 σ = some r) : Dn miX11_seals yX11_seals 3 G SK [.ref a0, .int a1] σ (some (.int r)) σ := by
  unfold fX11_seals at h
  refine dn_of (lv := [some (.ref a0), some (.int a1)]) (by decide) rfl rfl (Nat.le_of_ble_eq_true rfl) rfl ?_
  refine ev_aload_n dc_X11_seals_0 rfl ?_
  refine ev_getR dc_X11_seals_1 fi_X11_19 rfl i0 ?_
  refine ev_getR dc_X11_seals_4 fi_X11_104 rfl (wt hW i0 1 rfl rfl) ?_
  refine ev_iload_n dc_X11_seals_7 rfl ?_
  obtain ⟨q1, hq1, h⟩ := Option.bind_eq_some_iff.mp h
  refine ev_callV (av := [.int a1]) (st := []) (st1 := [.int q1]) dc_X11_seals_8 (tX8_dutiesDone hW (wt hW (wt hW i0 1 rfl rfl) 0 rfl rfl) hq1) mw_577 cy_X8_dutiesDone (wt hW (wt hW i0 1 rfl rfl) 0 rfl rfl) (by decide) rfl rfl rfl rfl (Nat.le_of_ble_eq_true rfl) (Nat.le_of_ble_eq_true rfl) ⟨Nat.le_refl _, Nat.le_refl _⟩ ?_
  cases h
  exact ev_iret dc_X11_seals_11 rfl rfl rfl
theorem dc_X11_seed_0 : Dc miX11_seed 0 (.aload_n 0) 1 1 := ⟨by decide +kernel, rfl⟩
theorem dc_X11_seed_1 : Dc miX11_seed 1 (.getfield 19) 3 4 := ⟨by decide +kernel, rfl⟩
theorem dc_X11_seed_4 : Dc miX11_seed 4 (.getfield 155) 3 7 := ⟨by decide +kernel, rfl⟩
theorem dc_X11_seed_7 : Dc miX11_seed 7 (.getfield 287) 3 10 := ⟨by decide +kernel, rfl⟩
theorem dc_X11_seed_10 : Dc miX11_seed 10 (.istore_n 2) 1 11 := ⟨by decide +kernel, rfl⟩
theorem dc_X11_seed_11 : Dc miX11_seed 11 (.aload_n 0) 1 12 := ⟨by decide +kernel, rfl⟩
theorem dc_X11_seed_12 : Dc miX11_seed 12 (.getfield 19) 3 15 := ⟨by decide +kernel, rfl⟩
theorem dc_X11_seed_15 : Dc miX11_seed 15 (.getfield 155) 3 18 := ⟨by decide +kernel, rfl⟩
theorem dc_X11_seed_18 : Dc miX11_seed 18 (.iload_n 1) 1 19 := ⟨by decide +kernel, rfl⟩
theorem dc_X11_seed_19 : Dc miX11_seed 19 (.putfield 287) 3 22 := ⟨by decide +kernel, rfl⟩
theorem dc_X11_seed_22 : Dc miX11_seed 22 (.iload_n 2) 1 23 := ⟨by decide +kernel, rfl⟩
theorem dc_X11_seed_23 : Dc miX11_seed 23 (.ireturn) 1 24 := ⟨by decide +kernel, rfl⟩
def fX11_seed (N : Nat) (G : pG) (a0 : Nat) (a1 : Int32) (σ : pS) : Option (Int32 × pS) := some (σ.1 (pR G (pR G a0 1) 2) 5, putF σ (pR G (pR G a0 1) 2) 5 a1)
set_option maxRecDepth 100000 in
set_option maxHeartbeats 4000000 in
theorem tX11_seed {N : Nat} {G : pG} {SK : Nat → Nat} {a0 : Nat} {a1 : Int32} {σ : pS} {r : Int32 × pS} (hW : WT G) (i0 : Is G a0 10) (h : fX11_seed N G a0 a1 σ = some r) : Dn miX11_seed yX11_seed 1 G SK [.ref a0, .int a1] σ (some (.int r.1)) r.2 := by
  unfold fX11_seed at h
  refine dn_of (lv := [some (.ref a0), some (.int a1), none]) (by decide) rfl rfl (Nat.le_of_ble_eq_true rfl) rfl ?_
  refine ev_aload_n dc_X11_seed_0 rfl ?_
  refine ev_getR dc_X11_seed_1 fi_X11_19 rfl i0 ?_
  refine ev_getR dc_X11_seed_4 fi_X11_155 rfl (wt hW i0 1 rfl rfl) ?_
  refine ev_getI dc_X11_seed_7 fi_X11_287 rfl (wt hW (wt hW i0 1 rfl rfl) 2 rfl rfl) ?_
  refine ev_istore_n (lv' := [some (.ref a0), some (.int a1), some (.int (σ.1 (pR G (pR G a0 1) 2) 5))]) dc_X11_seed_10 rfl (by decide) rfl ?_
  refine ev_aload_n dc_X11_seed_11 rfl ?_
  refine ev_getR dc_X11_seed_12 fi_X11_19 rfl i0 ?_
  refine ev_getR dc_X11_seed_15 fi_X11_155 rfl (wt hW i0 1 rfl rfl) ?_
  refine ev_iload_n dc_X11_seed_18 rfl ?_
  refine ev_putI dc_X11_seed_19 fi_X11_287 rfl (wt hW (wt hW i0 1 rfl rfl) 2 rfl rfl) ?_
  refine ev_iload_n dc_X11_seed_22 rfl ?_
  cases h
  exact ev_iret dc_X11_seed_23 rfl rfl rfl
