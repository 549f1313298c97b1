theorem dc_X12_span_0 : Dc miX12_span 0 (.aload_n 0) 1 1 := ⟨by decide +kernel, rfl⟩
theorem dc_X12_span_1 : Dc miX12_span 1 (.iconst 0) 1 2 := ⟨by decide +kernel, rfl⟩
theorem dc_X12_span_2 : Dc miX12_span 2 (.putfield 3) 3 5 := ⟨by decide +kernel, rfl⟩
theorem dc_X12_span_5 : Dc miX12_span 5 (.aload_n 0) 1 6 := ⟨by decide +kernel, rfl⟩
theorem dc_X12_span_6 : Dc miX12_span 6 (.iload_n 1) 1 7 := ⟨by decide +kernel, rfl⟩
theorem dc_X12_span_7 : Dc miX12_span 7 (.iconst 0) 1 8 := ⟨by decide +kernel, rfl⟩
theorem dc_X12_span_8 : Dc miX12_span 8 (.bipush 60) 2 10 := ⟨by decide +kernel, rfl⟩
theorem dc_X12_span_10 : Dc miX12_span 10 (.invokestatic 70) 3 13 := ⟨by decide +kernel, rfl⟩
theorem dc_X12_span_13 : Dc miX12_span 13 (.ifCond .ne 7) 3 16 := ⟨by decide +kernel, rfl⟩
theorem dc_X12_span_16 : Dc miX12_span 16 (.iconst 1) 1 17 := ⟨by decide +kernel, rfl⟩
theorem dc_X12_span_17 : Dc miX12_span 17 (.goto 4) 3 20 := ⟨by decide +kernel, rfl⟩
theorem dc_X12_span_20 : Dc miX12_span 20 (.iconst 0) 1 21 := ⟨by decide +kernel, rfl⟩
theorem dc_X12_span_21 : Dc miX12_span 21 (.iconst 1) 1 22 := ⟨by decide +kernel, rfl⟩
theorem dc_X12_span_22 : Dc miX12_span 22 (.invokevirtual 274) 3 25 := ⟨by decide +kernel, rfl⟩
theorem dc_X12_span_25 : Dc miX12_span 25 (.ifCond .eq 5) 3 28 := ⟨by decide +kernel, rfl⟩
theorem dc_X12_span_28 : Dc miX12_span 28 (.iconst 0) 1 29 := ⟨by decide +kernel, rfl⟩
theorem dc_X12_span_29 : Dc miX12_span 29 (.ireturn) 1 30 := ⟨by decide +kernel, rfl⟩
theorem dc_X12_span_30 : Dc miX12_span 30 (.aload_n 0) 1 31 := ⟨by decide +kernel, rfl⟩
theorem dc_X12_span_31 : Dc miX12_span 31 (.invokevirtual 403) 3 34 := ⟨by decide +kernel, rfl⟩
theorem dc_X12_span_34 : Dc miX12_span 34 (.iconst 0) 1 35 := ⟨by decide +kernel, rfl⟩
theorem dc_X12_span_35 : Dc miX12_span 35 (.istore_n 2) 1 36 := ⟨by decide +kernel, rfl⟩
theorem dc_X12_span_36 : Dc miX12_span 36 (.iconst 1) 1 37 := ⟨by decide +kernel, rfl⟩
theorem dc_X12_span_37 : Dc miX12_span 37 (.istore_n 3) 1 38 := ⟨by decide +kernel, rfl⟩
theorem dc_X12_span_38 : Dc miX12_span 38 (.iload_n 3) 1 39 := ⟨by decide +kernel, rfl⟩
theorem dc_X12_span_39 : Dc miX12_span 39 (.bipush 6) 2 41 := ⟨by decide +kernel, rfl⟩
theorem dc_X12_span_41 : Dc miX12_span 41 (.if_icmp .gt 37) 3 44 := ⟨by decide +kernel, rfl⟩
theorem dc_X12_span_44 : Dc miX12_span 44 (.aload_n 0) 1 45 := ⟨by decide +kernel, rfl⟩
theorem dc_X12_span_45 : Dc miX12_span 45 (.getfield 13) 3 48 := ⟨by decide +kernel, rfl⟩
theorem dc_X12_span_48 : Dc miX12_span 48 (.bipush 16) 2 50 := ⟨by decide +kernel, rfl⟩
theorem dc_X12_span_50 : Dc miX12_span 50 (.iload_n 3) 1 51 := ⟨by decide +kernel, rfl⟩
theorem dc_X12_span_51 : Dc miX12_span 51 (.iastore) 1 52 := ⟨by decide +kernel, rfl⟩
theorem dc_X12_span_52 : Dc miX12_span 52 (.aload_n 0) 1 53 := ⟨by decide +kernel, rfl⟩
theorem dc_X12_span_53 : Dc miX12_span 53 (.iload_n 1) 1 54 := ⟨by decide +kernel, rfl⟩
theorem dc_X12_span_54 : Dc miX12_span 54 (.invokevirtual 397) 3 57 := ⟨by decide +kernel, rfl⟩
theorem dc_X12_span_57 : Dc miX12_span 57 (.pop) 1 58 := ⟨by decide +kernel, rfl⟩
theorem dc_X12_span_58 : Dc miX12_span 58 (.iload_n 2) 1 59 := ⟨by decide +kernel, rfl⟩
theorem dc_X12_span_59 : Dc miX12_span 59 (.aload_n 0) 1 60 := ⟨by decide +kernel, rfl⟩
theorem dc_X12_span_60 : Dc miX12_span 60 (.getfield 13) 3 63 := ⟨by decide +kernel, rfl⟩
theorem dc_X12_span_63 : Dc miX12_span 63 (.bipush 13) 2 65 := ⟨by decide +kernel, rfl⟩
theorem dc_X12_span_65 : Dc miX12_span 65 (.iaload) 1 66 := ⟨by decide +kernel, rfl⟩
theorem dc_X12_span_66 : Dc miX12_span 66 (.iadd) 1 67 := ⟨by decide +kernel, rfl⟩
theorem dc_X12_span_67 : Dc miX12_span 67 (.istore_n 2) 1 68 := ⟨by decide +kernel, rfl⟩
theorem dc_X12_span_68 : Dc miX12_span 68 (.aload_n 0) 1 69 := ⟨by decide +kernel, rfl⟩
theorem dc_X12_span_69 : Dc miX12_span 69 (.invokevirtual 409) 3 72 := ⟨by decide +kernel, rfl⟩
theorem dc_X12_span_72 : Dc miX12_span 72 (.iinc 3 1) 3 75 := ⟨by decide +kernel, rfl⟩
theorem dc_X12_span_75 : Dc miX12_span 75 (.goto (-37)) 3 78 := ⟨by decide +kernel, rfl⟩
theorem dc_X12_span_78 : Dc miX12_span 78 (.iload_n 2) 1 79 := ⟨by decide +kernel, rfl⟩
theorem dc_X12_span_79 : Dc miX12_span 79 (.ireturn) 1 80 := ⟨by decide +kernel, rfl⟩
def fX12_span_b38 (N : Nat) (G : pG) (a0 : Nat) (a1 : Int32) : (Int32 × Int32 × pS) → Option (Int32 × pS) := lp (fun (k38 : Int32 × Int32 × pS → Option (Int32 × pS)) (b : Int32 × Int32 × pS) => if (6 : Int32) < b.2.1 then (some (b.1, b.2.2)) else (ck (inB (16 : Int32) (pN G (pR G a0 1))) ((fX12_goesBy N G a0 a1 (sA b.2.2 (pR G a0 1) (16 : Int32) b.2.1)).bind (fun q1 => ck (inB (13 : Int32) (pN G (pR G a0 1))) ((fX12_bringsBack N G a0 q1.2).bind (fun q2 => k38 (b.1 + (gA q1.2 (pR G a0 1) (13 : Int32)), b.2.1 + (1 : Int32), q2))))))) N
set_option maxRecDepth 100000 in
set_option maxHeartbeats 4000000 in
theorem tX12_span_b38 {N : Nat} {G : pG} {SK : Nat → Nat} {a0 : Nat} {a1 : Int32} {b : Int32 × Int32 × pS} {r : Int32 × pS} (hW : WT G) (i0 : Is G a0 11) (h : fX12_span_b38 N G a0 a1 b = some r) : Ev miX12_span (9, 0, 0) G (Zp G (some (.int r.1)) r.2) SK (0, 0) 38 [some (.ref a0), some (.int a1), some (.int b.1), some (.int b.2.1)] [] b.2.2 := by
  unfold fX12_span_b38 at h
  refine lp_ind (P := fun b r9 => r9 = r → Ev miX12_span (9, 0, 0) G (Zp G (some (.int r.1)) r.2) SK (0, 0) 38 [some (.ref a0), some (.int a1), some (.int b.1), some (.int b.2.1)] [] b.2.2) (fun k38 b r9 ih h9 e9 => ?_) N b r h rfl
  clear h
  subst e9
  have h := h9
  clear h9
  have hk38 : ∀ b : Int32 × Int32 × pS, k38 b = some r9 → Ev miX12_span (9, 0, 0) G (Zp G (some (.int r9.1)) r9.2) SK (0, 0) 38 [some (.ref a0), some (.int a1), some (.int b.1), some (.int b.2.1)] [] b.2.2 := fun b hb => ih b r9 hb rfl
  clear ih
  obtain ⟨x2, x3, σ⟩ := b
  dsimp only at h ⊢
  refine ev_iload_n dc_X12_span_38 rfl ?_
  refine ev_bipush (v := 6) dc_X12_span_39 (by decide) ?_
  refine ev_icmp_gt (tgt := 78) dc_X12_span_41 (by decide) h (fun h => ?_) (fun h => ?_)
  · refine ev_iload_n dc_X12_span_78 rfl ?_
    cases h
    exact ev_iret dc_X12_span_79 rfl rfl rfl
  · refine ev_aload_n dc_X12_span_44 rfl ?_
    refine ev_getR dc_X12_span_45 fi_X12_13 rfl i0 ?_
    refine ev_bipush (v := 16) dc_X12_span_48 (by decide) ?_
    refine ev_iload_n dc_X12_span_50 rfl ?_
    refine ev_iast dc_X12_span_51 (wt hW i0 1 rfl rfl) h (fun h => ?_)
    refine ev_aload_n dc_X12_span_52 rfl ?_
    refine ev_iload_n dc_X12_span_53 rfl ?_
    obtain ⟨q1, hq1, h⟩ := Option.bind_eq_some_iff.mp h
    refine ev_callV (av := [.int a1]) (st := []) (st1 := [.int q1.1]) dc_X12_span_54 (tX12_goesBy hW i0 hq1) mw_1961 cy_X12_goesBy i0 (by decide) rfl rfl rfl rfl (Nat.le_of_ble_eq_true rfl) (Nat.le_of_ble_eq_true rfl) ⟨Nat.le_refl _, Nat.le_refl _⟩ ?_
    refine ev_pop dc_X12_span_57 rfl ?_
    refine ev_iload_n dc_X12_span_58 rfl ?_
    refine ev_aload_n dc_X12_span_59 rfl ?_
    refine ev_getR dc_X12_span_60 fi_X12_13 rfl i0 ?_
    refine ev_bipush (v := 13) dc_X12_span_63 (by decide) ?_
    refine ev_iald dc_X12_span_65 (wt hW i0 1 rfl rfl) h (fun h => ?_)
    refine ev_iadd dc_X12_span_66 ?_
    refine ev_istore_n (lv' := [some (.ref a0), some (.int a1), some (.int (x2 + (gA q1.2 (pR G a0 1) (13 : Int32)))), some (.int x3)]) dc_X12_span_67 rfl (by decide) rfl ?_
    refine ev_aload_n dc_X12_span_68 rfl ?_
    obtain ⟨q2, hq2, h⟩ := Option.bind_eq_some_iff.mp h
    refine ev_callV (av := []) (st := []) (st1 := []) dc_X12_span_69 (tX12_bringsBack hW i0 hq2) mw_1994 cy_X12_bringsBack i0 (by decide) rfl rfl rfl rfl (Nat.le_of_ble_eq_true rfl) (Nat.le_of_ble_eq_true rfl) ⟨Nat.le_refl _, Nat.le_refl _⟩ ?_
    refine ev_iinc (v := 1) (lv' := [some (.ref a0), some (.int a1), some (.int (x2 + (gA q1.2 (pR G a0 1) (13 : Int32)))), some (.int (x3 + (1 : Int32)))]) dc_X12_span_72 rfl (by decide) rfl (by decide) rfl ?_
    refine ev_goto (tgt := 38) dc_X12_span_75 (by decide) ?_
    exact ev_sub (hk38 (x2 + (gA q1.2 (pR G a0 1) (13 : Int32)), x3 + (1 : Int32), q2) h) (And.intro rfl (And.intro rfl (And.intro rfl (And.intro rfl trivial))))
def fX12_span_b21 (N : Nat) (G : pG) (a0 : Nat) (a1 : Int32) (y1 : Int32) (σ : pS) : Option (Int32 × pS) := (fX12_throwsIf N G a0 y1 (1 : Int32) σ).bind (fun q3 => if q3.1 = 0 then ((fX12_keepsAll N G a0 q3.2).bind (fun q4 => fX12_span_b38 N G a0 a1 ((0 : Int32), (1 : Int32), q4))) else (some ((0 : Int32), q3.2)))
set_option maxRecDepth 100000 in
set_option maxHeartbeats 4000000 in
theorem tX12_span_b21 {N : Nat} {G : pG} {SK : Nat → Nat} {a0 : Nat} {a1 : Int32} {y1 : Int32} {σ : pS} {r : Int32 × pS} (hW : WT G) (i0 : Is G a0 11) (h : fX12_span_b21 N G a0 a1 y1 σ = some r) : Ev miX12_span (9, 0, 0) G (Zp G (some (.int r.1)) r.2) SK (0, 0) 21 [some (.ref a0), some (.int a1), none, none] [.int y1, .ref a0] σ := by
  unfold fX12_span_b21 at h
  refine ev_iconst (v := 1) dc_X12_span_21 (by decide) ?_
  obtain ⟨q3, hq3, h⟩ := Option.bind_eq_some_iff.mp h
  refine ev_callV (av := [.int y1, .int (1 : Int32)]) (st := []) (st1 := [.int q3.1]) dc_X12_span_22 (tX12_throwsIf hW i0 hq3) mw_1784 cy_X12_throwsIf i0 (by decide) rfl rfl rfl rfl (Nat.le_of_ble_eq_true rfl) (Nat.le_of_ble_eq_true rfl) ⟨Nat.le_refl _, Nat.le_refl _⟩ ?_
  refine ev_if_eq (tgt := 30) dc_X12_span_25 (by decide) h (fun h => ?_) (fun h => ?_)
  · refine ev_aload_n dc_X12_span_30 rfl ?_
    obtain ⟨q4, hq4, h⟩ := Option.bind_eq_some_iff.mp h
    refine ev_callV (av := []) (st := []) (st1 := []) dc_X12_span_31 (tX12_keepsAll hW i0 hq4) mw_1986 cy_X12_keepsAll i0 (by decide) rfl rfl rfl rfl (Nat.le_of_ble_eq_true rfl) (Nat.le_of_ble_eq_true rfl) ⟨Nat.le_refl _, Nat.le_refl _⟩ ?_
    refine ev_iconst (v := 0) dc_X12_span_34 (by decide) ?_
    refine ev_istore_n (lv' := [some (.ref a0), some (.int a1), some (.int (0 : Int32)), none]) dc_X12_span_35 rfl (by decide) rfl ?_
    refine ev_iconst (v := 1) dc_X12_span_36 (by decide) ?_
    refine ev_istore_n (lv' := [some (.ref a0), some (.int a1), some (.int (0 : Int32)), some (.int (1 : Int32))]) dc_X12_span_37 rfl (by decide) rfl ?_
    exact ev_sub (tX12_span_b38 (b := ((0 : Int32), (1 : Int32), q4)) hW i0 h) (And.intro rfl (And.intro rfl (And.intro rfl (And.intro rfl trivial))))
  · refine ev_iconst (v := 0) dc_X12_span_28 (by decide) ?_
    cases h
    exact ev_iret dc_X12_span_29 rfl rfl rfl
def fX12_span (N : Nat) (G : pG) (a0 : Nat) (a1 : Int32) (σ : pS) : Option (Int32 × pS) := (fX12_in N G a1 (0 : Int32) (60 : Int32) (putF σ a0 0 (0 : Int32))).bind (fun q5 => if q5 = 0 then (fX12_span_b21 N G a0 a1 (1 : Int32) (putF σ a0 0 (0 : Int32))) else (fX12_span_b21 N G a0 a1 (0 : Int32) (putF σ a0 0 (0 : Int32))))
set_option maxRecDepth 100000 in
set_option maxHeartbeats 4000000 in
theorem tX12_span {N : Nat} {G : pG} {SK : Nat → Nat} {a0 : Nat} {a1 : Int32} {σ : pS} {r : Int32 × pS} (hW : WT G) (i0 : Is G a0 11) (h : fX12_span N G a0 a1 σ = some r) : Dn miX12_span yX12_span 9 G SK [.ref a0, .int a1] σ (some (.int r.1)) r.2 := by
  unfold fX12_span at h
  refine dn_of (lv := [some (.ref a0), some (.int a1), none, none]) (by decide) rfl rfl (Nat.le_of_ble_eq_true rfl) rfl ?_
  refine ev_aload_n dc_X12_span_0 rfl ?_
  refine ev_iconst (v := 0) dc_X12_span_1 (by decide) ?_
  refine ev_putI dc_X12_span_2 fi_X12_3 rfl i0 ?_
  refine ev_aload_n dc_X12_span_5 rfl ?_
  refine ev_iload_n dc_X12_span_6 rfl ?_
  refine ev_iconst (v := 0) dc_X12_span_7 (by decide) ?_
  refine ev_bipush (v := 60) dc_X12_span_8 (by decide) ?_
  obtain ⟨q5, hq5, h⟩ := Option.bind_eq_some_iff.mp h
  refine ev_callS (av := [.int a1, .int (0 : Int32), .int (60 : Int32)]) (st := [.ref a0]) (st1 := [.int q5, .ref a0]) dc_X12_span_10 (tX12_in hW hq5) mw_1656 cs_X12_in rfl rfl rfl (Nat.le_of_ble_eq_true rfl) (Nat.le_of_ble_eq_true rfl) ⟨Nat.le_refl _, Nat.le_refl _⟩ ?_
  refine ev_if_ne (tgt := 20) dc_X12_span_13 (by decide) h (fun h => ?_) (fun h => ?_)
  · refine ev_iconst (v := 1) dc_X12_span_16 (by decide) ?_
    refine ev_goto (tgt := 21) dc_X12_span_17 (by decide) ?_
    exact ev_sub (tX12_span_b21 hW i0 h) (And.intro rfl (And.intro rfl trivial))
  · refine ev_iconst (v := 0) dc_X12_span_20 (by decide) ?_
    exact ev_sub (tX12_span_b21 hW i0 h) (And.intro rfl (And.intro rfl trivial))
theorem dc_X12_stings_0 : Dc miX12_stings 0 (.aload_n 0) 1 1 := ⟨by decide +kernel, rfl⟩
theorem dc_X12_stings_1 : Dc miX12_stings 1 (.iconst 0) 1 2 := ⟨by decide +kernel, rfl⟩
theorem dc_X12_stings_2 : Dc miX12_stings 2 (.putfield 3) 3 5 := ⟨by decide +kernel, rfl⟩
theorem dc_X12_stings_5 : Dc miX12_stings 5 (.aload_n 0) 1 6 := ⟨by decide +kernel, rfl⟩
theorem dc_X12_stings_6 : Dc miX12_stings 6 (.aload_n 0) 1 7 := ⟨by decide +kernel, rfl⟩
theorem dc_X12_stings_7 : Dc miX12_stings 7 (.iload_n 1) 1 8 := ⟨by decide +kernel, rfl⟩
theorem dc_X12_stings_8 : Dc miX12_stings 8 (.invokevirtual 343) 3 11 := ⟨by decide +kernel, rfl⟩
theorem dc_X12_stings_11 : Dc miX12_stings 11 (.ifCond .ne 11) 3 14 := ⟨by decide +kernel, rfl⟩
theorem dc_X12_stings_14 : Dc miX12_stings 14 (.aload_n 0) 1 15 := ⟨by decide +kernel, rfl⟩
theorem dc_X12_stings_15 : Dc miX12_stings 15 (.iload_n 2) 1 16 := ⟨by decide +kernel, rfl⟩
theorem dc_X12_stings_16 : Dc miX12_stings 16 (.invokevirtual 346) 3 19 := ⟨by decide +kernel, rfl⟩
theorem dc_X12_stings_19 : Dc miX12_stings 19 (.ifCond .eq 7) 3 22 := ⟨by decide +kernel, rfl⟩
theorem dc_X12_stings_22 : Dc miX12_stings 22 (.iconst 1) 1 23 := ⟨by decide +kernel, rfl⟩
theorem dc_X12_stings_23 : Dc miX12_stings 23 (.goto 4) 3 26 := ⟨by decide +kernel, rfl⟩
theorem dc_X12_stings_26 : Dc miX12_stings 26 (.iconst 0) 1 27 := ⟨by decide +kernel, rfl⟩
theorem dc_X12_stings_27 : Dc miX12_stings 27 (.iconst 1) 1 28 := ⟨by decide +kernel, rfl⟩
theorem dc_X12_stings_28 : Dc miX12_stings 28 (.invokevirtual 274) 3 31 := ⟨by decide +kernel, rfl⟩
theorem dc_X12_stings_31 : Dc miX12_stings 31 (.ifCond .eq 5) 3 34 := ⟨by decide +kernel, rfl⟩
theorem dc_X12_stings_34 : Dc miX12_stings 34 (.iconst 0) 1 35 := ⟨by decide +kernel, rfl⟩
theorem dc_X12_stings_35 : Dc miX12_stings 35 (.ireturn) 1 36 := ⟨by decide +kernel, rfl⟩
theorem dc_X12_stings_36 : Dc miX12_stings 36 (.aload_n 0) 1 37 := ⟨by decide +kernel, rfl⟩
theorem dc_X12_stings_37 : Dc miX12_stings 37 (.invokevirtual 349) 3 40 := ⟨by decide +kernel, rfl⟩
theorem dc_X12_stings_40 : Dc miX12_stings 40 (.aload_n 0) 1 41 := ⟨by decide +kernel, rfl⟩
theorem dc_X12_stings_41 : Dc miX12_stings 41 (.iload_n 1) 1 42 := ⟨by decide +kernel, rfl⟩
theorem dc_X12_stings_42 : Dc miX12_stings 42 (.iload_n 2) 1 43 := ⟨by decide +kernel, rfl⟩
theorem dc_X12_stings_43 : Dc miX12_stings 43 (.invokevirtual 331) 3 46 := ⟨by decide +kernel, rfl⟩
theorem dc_X12_stings_46 : Dc miX12_stings 46 (.ireturn) 1 47 := ⟨by decide +kernel, rfl⟩
def fX12_stings_b27 (N : Nat) (G : pG) (a0 : Nat) (a1 : Int32) (a2 : Int32) (y1 : Int32) (σ : pS) : Option (Int32 × pS) := (fX12_throwsIf N G a0 y1 (1 : Int32) σ).bind (fun q1 => if q1.1 = 0 then ((fX12_looksNow N G a0 q1.2).bind (fun q2 => (fX12_stingsBy N G a0 a1 a2 q2).bind (fun q3 => some (q3.1, q3.2)))) else (some ((0 : Int32), q1.2)))
set_option maxRecDepth 100000 in
set_option maxHeartbeats 4000000 in
theorem tX12_stings_b27 {N : Nat} {G : pG} {SK : Nat → Nat} {a0 : Nat} {a1 : Int32} {a2 : Int32} {y1 : Int32} {σ : pS} {r : Int32 × pS} (hW : WT G) (i0 : Is G a0 11) (h : fX12_stings_b27 N G a0 a1 a2 y1 σ = some r) : Ev miX12_stings (5, 0, 0) G (Zp G (some (.int r.1)) r.2) SK (0, 0) 27 [some (.ref a0), some (.int a1), some (.int a2)] [.int y1, .ref a0] σ := by
  unfold fX12_stings_b27 at h
  refine ev_iconst (v := 1) dc_X12_stings_27 (by decide) ?_
  obtain ⟨q1, hq1, h⟩ := Option.bind_eq_some_iff.mp h
  refine ev_callV (av := [.int y1, .int (1 : Int32)]) (st := []) (st1 := [.int q1.1]) dc_X12_stings_28 (tX12_throwsIf hW i0 hq1) mw_1784 cy_X12_throwsIf i0 (by decide) rfl rfl rfl rfl (Nat.le_of_ble_eq_true rfl) (Nat.le_of_ble_eq_true rfl) ⟨Nat.le_refl _, Nat.le_refl _⟩ ?_
  refine ev_if_eq (tgt := 36) dc_X12_stings_31 (by decide) h (fun h => ?_) (fun h => ?_)
  · refine ev_aload_n dc_X12_stings_36 rfl ?_
    obtain ⟨q2, hq2, h⟩ := Option.bind_eq_some_iff.mp h
    refine ev_callV (av := []) (st := []) (st1 := []) dc_X12_stings_37 (tX12_looksNow hW i0 hq2) mw_1804 cy_X12_looksNow i0 (by decide) rfl rfl rfl rfl (Nat.le_of_ble_eq_true rfl) (Nat.le_of_ble_eq_true rfl) ⟨Nat.le_refl _, Nat.le_refl _⟩ ?_
    refine ev_aload_n dc_X12_stings_40 rfl ?_
    refine ev_iload_n dc_X12_stings_41 rfl ?_
    refine ev_iload_n dc_X12_stings_42 rfl ?_
    obtain ⟨q3, hq3, h⟩ := Option.bind_eq_some_iff.mp h
    refine ev_callV (av := [.int a1, .int a2]) (st := []) (st1 := [.int q3.1]) dc_X12_stings_43 (tX12_stingsBy hW i0 hq3) mw_1816 cy_X12_stingsBy i0 (by decide) rfl rfl rfl rfl (Nat.le_of_ble_eq_true rfl) (Nat.le_of_ble_eq_true rfl) ⟨Nat.le_refl _, Nat.le_refl _⟩ ?_
    cases h
    exact ev_iret dc_X12_stings_46 rfl rfl rfl
  · refine ev_iconst (v := 0) dc_X12_stings_34 (by decide) ?_
    cases h
    exact ev_iret dc_X12_stings_35 rfl rfl rfl
def fX12_stings_b22 (N : Nat) (G : pG) (a0 : Nat) (a1 : Int32) (a2 : Int32) (σ : pS) : Option (Int32 × pS) := fX12_stings_b27 N G a0 a1 a2 (1 : Int32) σ
set_option maxRecDepth 100000 in
set_option maxHeartbeats 4000000 in
theorem tX12_stings_b22 {N : Nat} {G : pG} {SK : Nat → Nat} {a0 : Nat} {a1 : Int32} {a2 : Int32} {σ : pS} {r : Int32 × pS} (hW : WT G) (i0 : Is G a0 11) (h : fX12_stings_b22 N G a0 a1 a2 σ = some r) : Ev miX12_stings (5, 0, 0) G (Zp G (some (.int r.1)) r.2) SK (0, 0) 22 [some (.ref a0), some (.int a1), some (.int a2)] [.ref a0] σ := by
  unfold fX12_stings_b22 at h
  refine ev_iconst (v := 1) dc_X12_stings_22 (by decide) ?_
  refine ev_goto (tgt := 27) dc_X12_stings_23 (by decide) ?_
  exact ev_sub (tX12_stings_b27 hW i0 h) (And.intro rfl (And.intro rfl (And.intro rfl trivial)))
def fX12_stings (N : Nat) (G : pG) (a0 : Nat) (a1 : Int32) (a2 : Int32) (σ : pS) : Option (Int32 × pS) := (fX12_noWho N G a0 a1 (putF σ a0 0 (0 : Int32))).bind (fun q4 => if q4 = 0 then ((fX12_noWord N G a0 a2 (putF σ a0 0 (0 : Int32))).bind (fun q5 => if q5 = 0 then (fX12_stings_b27 N G a0 a1 a2 (0 : Int32) (putF σ a0 0 (0 : Int32))) else (fX12_stings_b22 N G a0 a1 a2 (putF σ a0 0 (0 : Int32))))) else (fX12_stings_b22 N G a0 a1 a2 (putF σ a0 0 (0 : Int32))))
set_option maxRecDepth 100000 in
set_option maxHeartbeats 4000000 in
theorem tX12_stings {N : Nat} {G : pG} {SK : Nat → Nat} {a0 : Nat} {a1 : Int32} {a2 : Int32} {σ : pS} {r : Int32 × pS} (hW : WT G) (i0 : Is G a0 11) (h : fX12_stings N G a0 a1 a2 σ = some r) : Dn miX12_stings yX12_stings 5 G SK [.ref a0, .int a1, .int a2] σ (some (.int r.1)) r.2 := by
  unfold fX12_stings at h
  refine dn_of (lv := [some (.ref a0), some (.int a1), some (.int a2)]) (by decide) rfl rfl (Nat.le_of_ble_eq_true rfl) rfl ?_
  refine ev_aload_n dc_X12_stings_0 rfl ?_
  refine ev_iconst (v := 0) dc_X12_stings_1 (by decide) ?_
  refine ev_putI dc_X12_stings_2 fi_X12_3 rfl i0 ?_
  refine ev_aload_n dc_X12_stings_5 rfl ?_
  refine ev_aload_n dc_X12_stings_6 rfl ?_
  refine ev_iload_n dc_X12_stings_7 rfl ?_
  obtain ⟨q4, hq4, h⟩ := Option.bind_eq_some_iff.mp h
  refine ev_callV (av := [.int a1]) (st := [.ref a0]) (st1 := [.int q4, .ref a0]) dc_X12_stings_8 (tX12_noWho hW i0 hq4) mw_1796 cy_X12_noWho i0 (by decide) rfl rfl rfl rfl (Nat.le_of_ble_eq_true rfl) (Nat.le_of_ble_eq_true rfl) ⟨Nat.le_refl _, Nat.le_refl _⟩ ?_
  refine ev_if_ne (tgt := 22) dc_X12_stings_11 (by decide) h (fun h => ?_) (fun h => ?_)
  · refine ev_aload_n dc_X12_stings_14 rfl ?_
    refine ev_iload_n dc_X12_stings_15 rfl ?_
    obtain ⟨q5, hq5, h⟩ := Option.bind_eq_some_iff.mp h
    refine ev_callV (av := [.int a2]) (st := [.ref a0]) (st1 := [.int q5, .ref a0]) dc_X12_stings_16 (tX12_noWord hW i0 hq5) mw_1800 cy_X12_noWord i0 (by decide) rfl rfl rfl rfl (Nat.le_of_ble_eq_true rfl) (Nat.le_of_ble_eq_true rfl) ⟨Nat.le_refl _, Nat.le_refl _⟩ ?_
    refine ev_if_eq (tgt := 26) dc_X12_stings_19 (by decide) h (fun h => ?_) (fun h => ?_)
    · refine ev_iconst (v := 0) dc_X12_stings_26 (by decide) ?_
      exact ev_sub (tX12_stings_b27 hW i0 h) (And.intro rfl (And.intro rfl (And.intro rfl trivial)))
    · exact ev_sub (tX12_stings_b22 hW i0 h) (And.intro rfl (And.intro rfl (And.intro rfl trivial)))
  · exact ev_sub (tX12_stings_b22 hW i0 h) (And.intro rfl (And.intro rfl (And.intro rfl trivial)))
theorem dc_X12_story_0 : Dc miX12_story 0 (.iconst 0) 1 1 := ⟨by decide +kernel, rfl⟩
theorem dc_X12_story_1 : Dc miX12_story 1 (.istore_n 1) 1 2 := ⟨by decide +kernel, rfl⟩
theorem dc_X12_story_2 : Dc miX12_story 2 (.iload_n 1) 1 3 := ⟨by decide +kernel, rfl⟩
theorem dc_X12_story_3 : Dc miX12_story 3 (.sipush 1232) 3 6 := ⟨by decide +kernel, rfl⟩
theorem dc_X12_story_6 : Dc miX12_story 6 (.if_icmp .ge 21) 3 9 := ⟨by decide +kernel, rfl⟩
theorem dc_X12_story_9 : Dc miX12_story 9 (.aload_n 0) 1 10 := ⟨by decide +kernel, rfl⟩
theorem dc_X12_story_10 : Dc miX12_story 10 (.getfield 20) 3 13 := ⟨by decide +kernel, rfl⟩
theorem dc_X12_story_13 : Dc miX12_story 13 (.iload_n 1) 1 14 := ⟨by decide +kernel, rfl⟩
theorem dc_X12_story_14 : Dc miX12_story 14 (.aload_n 0) 1 15 := ⟨by decide +kernel, rfl⟩
theorem dc_X12_story_15 : Dc miX12_story 15 (.getfield 13) 3 18 := ⟨by decide +kernel, rfl⟩
theorem dc_X12_story_18 : Dc miX12_story 18 (.iload_n 1) 1 19 := ⟨by decide +kernel, rfl⟩
theorem dc_X12_story_19 : Dc miX12_story 19 (.iaload) 1 20 := ⟨by decide +kernel, rfl⟩
theorem dc_X12_story_20 : Dc miX12_story 20 (.iastore) 1 21 := ⟨by decide +kernel, rfl⟩
theorem dc_X12_story_21 : Dc miX12_story 21 (.iinc 1 1) 3 24 := ⟨by decide +kernel, rfl⟩
theorem dc_X12_story_24 : Dc miX12_story 24 (.goto (-22)) 3 27 := ⟨by decide +kernel, rfl⟩
theorem dc_X12_story_27 : Dc miX12_story 27 (.aload_n 0) 1 28 := ⟨by decide +kernel, rfl⟩
theorem dc_X12_story_28 : Dc miX12_story 28 (.iconst 1) 1 29 := ⟨by decide +kernel, rfl⟩
theorem dc_X12_story_29 : Dc miX12_story 29 (.invokevirtual 270) 3 32 := ⟨by decide +kernel, rfl⟩
theorem dc_X12_story_32 : Dc miX12_story 32 (.istore_n 1) 1 33 := ⟨by decide +kernel, rfl⟩
theorem dc_X12_story_33 : Dc miX12_story 33 (.aload_n 0) 1 34 := ⟨by decide +kernel, rfl⟩
theorem dc_X12_story_34 : Dc miX12_story 34 (.iload_n 1) 1 35 := ⟨by decide +kernel, rfl⟩
theorem dc_X12_story_35 : Dc miX12_story 35 (.ifCond .ge 10) 3 38 := ⟨by decide +kernel, rfl⟩
theorem dc_X12_story_38 : Dc miX12_story 38 (.aload_n 0) 1 39 := ⟨by decide +kernel, rfl⟩
theorem dc_X12_story_39 : Dc miX12_story 39 (.getfield 97) 3 42 := ⟨by decide +kernel, rfl⟩
theorem dc_X12_story_42 : Dc miX12_story 42 (.goto 4) 3 45 := ⟨by decide +kernel, rfl⟩
theorem dc_X12_story_45 : Dc miX12_story 45 (.iconst (-1)) 1 46 := ⟨by decide +kernel, rfl⟩
theorem dc_X12_story_46 : Dc miX12_story 46 (.putfield 33) 3 49 := ⟨by decide +kernel, rfl⟩
theorem dc_X12_story_49 : Dc miX12_story 49 (.aload_n 0) 1 50 := ⟨by decide +kernel, rfl⟩
theorem dc_X12_story_50 : Dc miX12_story 50 (.iload_n 1) 1 51 := ⟨by decide +kernel, rfl⟩
theorem dc_X12_story_51 : Dc miX12_story 51 (.ifCond .ge 7) 3 54 := ⟨by decide +kernel, rfl⟩
theorem dc_X12_story_54 : Dc miX12_story 54 (.iconst 1) 1 55 := ⟨by decide +kernel, rfl⟩
theorem dc_X12_story_55 : Dc miX12_story 55 (.goto 4) 3 58 := ⟨by decide +kernel, rfl⟩
theorem dc_X12_story_58 : Dc miX12_story 58 (.iconst 0) 1 59 := ⟨by decide +kernel, rfl⟩
theorem dc_X12_story_59 : Dc miX12_story 59 (.iconst 1) 1 60 := ⟨by decide +kernel, rfl⟩
theorem dc_X12_story_60 : Dc miX12_story 60 (.invokevirtual 274) 3 63 := ⟨by decide +kernel, rfl⟩
theorem dc_X12_story_63 : Dc miX12_story 63 (.ifCond .ne 27) 3 66 := ⟨by decide +kernel, rfl⟩
theorem dc_X12_story_66 : Dc miX12_story 66 (.aload_n 0) 1 67 := ⟨by decide +kernel, rfl⟩
theorem dc_X12_story_67 : Dc miX12_story 67 (.aload_n 0) 1 68 := ⟨by decide +kernel, rfl⟩
theorem dc_X12_story_68 : Dc miX12_story 68 (.getfield 13) 3 71 := ⟨by decide +kernel, rfl⟩
theorem dc_X12_story_71 : Dc miX12_story 71 (.iconst 5) 1 72 := ⟨by decide +kernel, rfl⟩
theorem dc_X12_story_72 : Dc miX12_story 72 (.iaload) 1 73 := ⟨by decide +kernel, rfl⟩
theorem dc_X12_story_73 : Dc miX12_story 73 (.bipush 12) 2 75 := ⟨by decide +kernel, rfl⟩
theorem dc_X12_story_75 : Dc miX12_story 75 (.if_icmp .ne 7) 3 78 := ⟨by decide +kernel, rfl⟩
theorem dc_X12_story_78 : Dc miX12_story 78 (.iconst 1) 1 79 := ⟨by decide +kernel, rfl⟩
theorem dc_X12_story_79 : Dc miX12_story 79 (.goto 4) 3 82 := ⟨by decide +kernel, rfl⟩
theorem dc_X12_story_82 : Dc miX12_story 82 (.iconst 0) 1 83 := ⟨by decide +kernel, rfl⟩
theorem dc_X12_story_83 : Dc miX12_story 83 (.iconst 2) 1 84 := ⟨by decide +kernel, rfl⟩
theorem dc_X12_story_84 : Dc miX12_story 84 (.invokevirtual 274) 3 87 := ⟨by decide +kernel, rfl⟩
theorem dc_X12_story_87 : Dc miX12_story 87 (.ifCond .eq 32) 3 90 := ⟨by decide +kernel, rfl⟩
theorem dc_X12_story_90 : Dc miX12_story 90 (.iconst 0) 1 91 := ⟨by decide +kernel, rfl⟩
theorem dc_X12_story_91 : Dc miX12_story 91 (.istore_n 2) 1 92 := ⟨by decide +kernel, rfl⟩
theorem dc_X12_story_92 : Dc miX12_story 92 (.iload_n 2) 1 93 := ⟨by decide +kernel, rfl⟩
theorem dc_X12_story_93 : Dc miX12_story 93 (.sipush 1232) 3 96 := ⟨by decide +kernel, rfl⟩
theorem dc_X12_story_96 : Dc miX12_story 96 (.if_icmp .ge 21) 3 99 := ⟨by decide +kernel, rfl⟩
theorem dc_X12_story_99 : Dc miX12_story 99 (.aload_n 0) 1 100 := ⟨by decide +kernel, rfl⟩
theorem dc_X12_story_100 : Dc miX12_story 100 (.getfield 13) 3 103 := ⟨by decide +kernel, rfl⟩
theorem dc_X12_story_103 : Dc miX12_story 103 (.iload_n 2) 1 104 := ⟨by decide +kernel, rfl⟩
theorem dc_X12_story_104 : Dc miX12_story 104 (.aload_n 0) 1 105 := ⟨by decide +kernel, rfl⟩
theorem dc_X12_story_105 : Dc miX12_story 105 (.getfield 20) 3 108 := ⟨by decide +kernel, rfl⟩
theorem dc_X12_story_108 : Dc miX12_story 108 (.iload_n 2) 1 109 := ⟨by decide +kernel, rfl⟩
theorem dc_X12_story_109 : Dc miX12_story 109 (.iaload) 1 110 := ⟨by decide +kernel, rfl⟩
theorem dc_X12_story_110 : Dc miX12_story 110 (.iastore) 1 111 := ⟨by decide +kernel, rfl⟩
theorem dc_X12_story_111 : Dc miX12_story 111 (.iinc 2 1) 3 114 := ⟨by decide +kernel, rfl⟩
theorem dc_X12_story_114 : Dc miX12_story 114 (.goto (-22)) 3 117 := ⟨by decide +kernel, rfl⟩
theorem dc_X12_story_117 : Dc miX12_story 117 (.iconst 0) 1 118 := ⟨by decide +kernel, rfl⟩
theorem dc_X12_story_118 : Dc miX12_story 118 (.ireturn) 1 119 := ⟨by decide +kernel, rfl⟩
theorem dc_X12_story_119 : Dc miX12_story 119 (.aload_n 0) 1 120 := ⟨by decide +kernel, rfl⟩
theorem dc_X12_story_120 : Dc miX12_story 120 (.getfield 13) 3 123 := ⟨by decide +kernel, rfl⟩
theorem dc_X12_story_123 : Dc miX12_story 123 (.iconst 5) 1 124 := ⟨by decide +kernel, rfl⟩
theorem dc_X12_story_124 : Dc miX12_story 124 (.dup2) 1 125 := ⟨by decide +kernel, rfl⟩
theorem dc_X12_story_125 : Dc miX12_story 125 (.iaload) 1 126 := ⟨by decide +kernel, rfl⟩
theorem dc_X12_story_126 : Dc miX12_story 126 (.iconst 1) 1 127 := ⟨by decide +kernel, rfl⟩
theorem dc_X12_story_127 : Dc miX12_story 127 (.iadd) 1 128 := ⟨by decide +kernel, rfl⟩
theorem dc_X12_story_128 : Dc miX12_story 128 (.iastore) 1 129 := ⟨by decide +kernel, rfl⟩
theorem dc_X12_story_129 : Dc miX12_story 129 (.aload_n 0) 1 130 := ⟨by decide +kernel, rfl⟩
theorem dc_X12_story_130 : Dc miX12_story 130 (.iconst 0) 1 131 := ⟨by decide +kernel, rfl⟩
theorem dc_X12_story_131 : Dc miX12_story 131 (.putfield 59) 3 134 := ⟨by decide +kernel, rfl⟩
theorem dc_X12_story_134 : Dc miX12_story 134 (.aload_n 0) 1 135 := ⟨by decide +kernel, rfl⟩
theorem dc_X12_story_135 : Dc miX12_story 135 (.getfield 13) 3 138 := ⟨by decide +kernel, rfl⟩
theorem dc_X12_story_138 : Dc miX12_story 138 (.iconst 5) 1 139 := ⟨by decide +kernel, rfl⟩
theorem dc_X12_story_139 : Dc miX12_story 139 (.iaload) 1 140 := ⟨by decide +kernel, rfl⟩
theorem dc_X12_story_140 : Dc miX12_story 140 (.ireturn) 1 141 := ⟨by decide +kernel, rfl⟩
def fX12_story_b92 (N : Nat) (G : pG) (a0 : Nat) : (Int32 × pS) → Option (Int32 × pS) := lp (fun (k92 : Int32 × pS → Option (Int32 × pS)) (b : Int32 × pS) => if (1232 : Int32) ≤ b.1 then (some ((0 : Int32), b.2)) else (ck (inB b.1 (pN G (pR G a0 3))) (ck (inB b.1 (pN G (pR G a0 1))) (k92 (b.1 + (1 : Int32), sA b.2 (pR G a0 1) b.1 (gA b.2 (pR G a0 3) b.1)))))) N
set_option maxRecDepth 100000 in
set_option maxHeartbeats 4000000 in
theorem tX12_story_b92 {N : Nat} {G : pG} {SK : Nat → Nat} {a0 : Nat} {b : Int32 × pS} {r : Int32 × pS} (hW : WT G) (i0 : Is G a0 11) (h : fX12_story_b92 N G a0 b = some r) : Ev miX12_story (133, 0, 0) G (Zp G (some (.int r.1)) r.2) SK (0, 0) 92 [some (.ref a0), none, some (.int b.1)] [] b.2 := by
  unfold fX12_story_b92 at h
  refine lp_ind (P := fun b r9 => r9 = r → Ev miX12_story (133, 0, 0) G (Zp G (some (.int r.1)) r.2) SK (0, 0) 92 [some (.ref a0), none, some (.int b.1)] [] b.2) (fun k92 b r9 ih h9 e9 => ?_) N b r h rfl
  clear h
  subst e9
  have h := h9
  clear h9
  have hk92 : ∀ b : Int32 × pS, k92 b = some r9 → Ev miX12_story (133, 0, 0) G (Zp G (some (.int r9.1)) r9.2) SK (0, 0) 92 [some (.ref a0), none, some (.int b.1)] [] b.2 := fun b hb => ih b r9 hb rfl
  clear ih
  obtain ⟨x2, σ⟩ := b
  dsimp only at h ⊢
  refine ev_iload_n dc_X12_story_92 rfl ?_
  refine ev_sipush (v := 1232) dc_X12_story_93 (by decide) ?_
  refine ev_icmp_ge (tgt := 117) dc_X12_story_96 (by decide) h (fun h => ?_) (fun h => ?_)
  · refine ev_iconst (v := 0) dc_X12_story_117 (by decide) ?_
    cases h
    exact ev_iret dc_X12_story_118 rfl rfl rfl
  · refine ev_aload_n dc_X12_story_99 rfl ?_
    refine ev_getR dc_X12_story_100 fi_X12_13 rfl i0 ?_
    refine ev_iload_n dc_X12_story_103 rfl ?_
    refine ev_aload_n dc_X12_story_104 rfl ?_
    refine ev_getR dc_X12_story_105 fi_X12_20 rfl i0 ?_
    refine ev_iload_n dc_X12_story_108 rfl ?_
    refine ev_iald dc_X12_story_109 (wt hW i0 3 rfl rfl) h (fun h => ?_)
    refine ev_iast dc_X12_story_110 (wt hW i0 1 rfl rfl) h (fun h => ?_)
    refine ev_iinc (v := 1) (lv' := [some (.ref a0), none, some (.int (x2 + (1 : Int32)))]) dc_X12_story_111 rfl (by decide) rfl (by decide) rfl ?_
    refine ev_goto (tgt := 92) dc_X12_story_114 (by decide) ?_
    exact ev_sub (hk92 (x2 + (1 : Int32), sA σ (pR G a0 1) x2 (gA σ (pR G a0 3) x2)) h) (And.intro rfl (And.intro rfl trivial))
def fX12_story_b90 (N : Nat) (G : pG) (a0 : Nat) (σ : pS) : Option (Int32 × pS) := fX12_story_b92 N G a0 ((0 : Int32), σ)
set_option maxRecDepth 100000 in
set_option maxHeartbeats 4000000 in
theorem tX12_story_b90 {N : Nat} {G : pG} {SK : Nat → Nat} {a0 : Nat} {σ : pS} {r : Int32 × pS} (hW : WT G) (i0 : Is G a0 11) (h : fX12_story_b90 N G a0 σ = some r) : Ev miX12_story (133, 0, 0) G (Zp G (some (.int r.1)) r.2) SK (0, 0) 90 [some (.ref a0), none, none] [] σ := by
  unfold fX12_story_b90 at h
  refine ev_iconst (v := 0) dc_X12_story_90 (by decide) ?_
  refine ev_istore_n (lv' := [some (.ref a0), none, some (.int (0 : Int32))]) dc_X12_story_91 rfl (by decide) rfl ?_
  exact ev_sub (tX12_story_b92 (b := ((0 : Int32), σ)) hW i0 h) (And.intro rfl (And.intro rfl trivial))
def fX12_story_b83 (N : Nat) (G : pG) (a0 : Nat) (y1 : Int32) (σ : pS) : Option (Int32 × pS) := (fX12_throwsIf N G a0 y1 (2 : Int32) σ).bind (fun q1 => if q1.1 = 0 then (ck (inB (5 : Int32) (pN G (pR G a0 1))) (ck (inB (5 : Int32) (pN G (pR G a0 1))) (ck (inB (5 : Int32) (pN G (pR G a0 1))) (some (gA (putF (sA q1.2 (pR G a0 1) (5 : Int32) ((gA q1.2 (pR G a0 1) (5 : Int32)) + (1 : Int32))) a0 7 (0 : Int32)) (pR G a0 1) (5 : Int32), putF (sA q1.2 (pR G a0 1) (5 : Int32) ((gA q1.2 (pR G a0 1) (5 : Int32)) + (1 : Int32))) a0 7 (0 : Int32)))))) else (fX12_story_b90 N G a0 q1.2))
set_option maxRecDepth 100000 in
set_option maxHeartbeats 4000000 in
theorem tX12_story_b83 {N : Nat} {G : pG} {SK : Nat → Nat} {a0 : Nat} {y1 : Int32} {σ : pS} {r : Int32 × pS} (hW : WT G) (i0 : Is G a0 11) (h : fX12_story_b83 N G a0 y1 σ = some r) : Ev miX12_story (133, 0, 0) G (Zp G (some (.int r.1)) r.2) SK (0, 0) 83 [some (.ref a0), none, none] [.int y1, .ref a0] σ := by
  unfold fX12_story_b83 at h
  refine ev_iconst (v := 2) dc_X12_story_83 (by decide) ?_
  obtain ⟨q1, hq1, h⟩ := Option.bind_eq_some_iff.mp h
  refine ev_callV (av := [.int y1, .int (2 : Int32)]) (st := []) (st1 := [.int q1.1]) dc_X12_story_84 (tX12_throwsIf hW i0 hq1) mw_1784 cy_X12_throwsIf i0 (by decide) rfl rfl rfl rfl (Nat.le_of_ble_eq_true rfl) (Nat.le_of_ble_eq_true rfl) ⟨Nat.le_refl _, Nat.le_refl _⟩ ?_
  refine ev_if_eq (tgt := 119) dc_X12_story_87 (by decide) h (fun h => ?_) (fun h => ?_)
  · refine ev_aload_n dc_X12_story_119 rfl ?_
    refine ev_getR dc_X12_story_120 fi_X12_13 rfl i0 ?_
    refine ev_iconst (v := 5) dc_X12_story_123 (by decide) ?_
    refine ev_dup2 dc_X12_story_124 rfl rfl ?_
    refine ev_iald dc_X12_story_125 (wt hW i0 1 rfl rfl) h (fun h => ?_)
    refine ev_iconst (v := 1) dc_X12_story_126 (by decide) ?_
    refine ev_iadd dc_X12_story_127 ?_
    refine ev_iast dc_X12_story_128 (wt hW i0 1 rfl rfl) h (fun h => ?_)
    refine ev_aload_n dc_X12_story_129 rfl ?_
    refine ev_iconst (v := 0) dc_X12_story_130 (by decide) ?_
    refine ev_putI dc_X12_story_131 fi_X12_59 rfl i0 ?_
    refine ev_aload_n dc_X12_story_134 rfl ?_
    refine ev_getR dc_X12_story_135 fi_X12_13 rfl i0 ?_
    refine ev_iconst (v := 5) dc_X12_story_138 (by decide) ?_
    refine ev_iald dc_X12_story_139 (wt hW i0 1 rfl rfl) h (fun h => ?_)
    cases h
    exact ev_iret dc_X12_story_140 rfl rfl rfl
  · exact ev_sub (tX12_story_b90 hW i0 h) (And.intro rfl trivial)
def fX12_story_b59 (N : Nat) (G : pG) (a0 : Nat) (y1 : Int32) (σ : pS) : Option (Int32 × pS) := (fX12_throwsIf N G a0 y1 (1 : Int32) σ).bind (fun q2 => if q2.1 = 0 then (ck (inB (5 : Int32) (pN G (pR G a0 1))) (if (gA q2.2 (pR G a0 1) (5 : Int32)) = (12 : Int32) then (fX12_story_b83 N G a0 (1 : Int32) q2.2) else (fX12_story_b83 N G a0 (0 : Int32) q2.2))) else (fX12_story_b90 N G a0 q2.2))
set_option maxRecDepth 100000 in
set_option maxHeartbeats 4000000 in
theorem tX12_story_b59 {N : Nat} {G : pG} {SK : Nat → Nat} {a0 : Nat} {y1 : Int32} {σ : pS} {r : Int32 × pS} (hW : WT G) (i0 : Is G a0 11) (h : fX12_story_b59 N G a0 y1 σ = some r) : Ev miX12_story (133, 0, 0) G (Zp G (some (.int r.1)) r.2) SK (0, 0) 59 [some (.ref a0), none, none] [.int y1, .ref a0] σ := by
  unfold fX12_story_b59 at h
  refine ev_iconst (v := 1) dc_X12_story_59 (by decide) ?_
  obtain ⟨q2, hq2, h⟩ := Option.bind_eq_some_iff.mp h
  refine ev_callV (av := [.int y1, .int (1 : Int32)]) (st := []) (st1 := [.int q2.1]) dc_X12_story_60 (tX12_throwsIf hW i0 hq2) mw_1784 cy_X12_throwsIf i0 (by decide) rfl rfl rfl rfl (Nat.le_of_ble_eq_true rfl) (Nat.le_of_ble_eq_true rfl) ⟨Nat.le_refl _, Nat.le_refl _⟩ ?_
  refine ev_if_ne (tgt := 90) dc_X12_story_63 (by decide) h (fun h => ?_) (fun h => ?_)
  · refine ev_aload_n dc_X12_story_66 rfl ?_
    refine ev_aload_n dc_X12_story_67 rfl ?_
    refine ev_getR dc_X12_story_68 fi_X12_13 rfl i0 ?_
    refine ev_iconst (v := 5) dc_X12_story_71 (by decide) ?_
    refine ev_iald dc_X12_story_72 (wt hW i0 1 rfl rfl) h (fun h => ?_)
    refine ev_bipush (v := 12) dc_X12_story_73 (by decide) ?_
    refine ev_icmp_ne (tgt := 82) dc_X12_story_75 (by decide) h (fun h => ?_) (fun h => ?_)
    · refine ev_iconst (v := 1) dc_X12_story_78 (by decide) ?_
      refine ev_goto (tgt := 83) dc_X12_story_79 (by decide) ?_
      exact ev_sub (tX12_story_b83 hW i0 h) (And.intro rfl trivial)
    · refine ev_iconst (v := 0) dc_X12_story_82 (by decide) ?_
      exact ev_sub (tX12_story_b83 hW i0 h) (And.intro rfl trivial)
  · exact ev_sub (tX12_story_b90 hW i0 h) (And.intro rfl trivial)
def fX12_story_b46 (N : Nat) (G : pG) (a0 : Nat) (x1 : Int32) (y1 : Int32) (σ : pS) : Option (Int32 × pS) := if 0 ≤ x1 then (fX12_story_b59 N G a0 (0 : Int32) (putF σ a0 14 y1)) else (fX12_story_b59 N G a0 (1 : Int32) (putF σ a0 14 y1))
set_option maxRecDepth 100000 in
set_option maxHeartbeats 4000000 in
theorem tX12_story_b46 {N : Nat} {G : pG} {SK : Nat → Nat} {a0 : Nat} {x1 : Int32} {y1 : Int32} {σ : pS} {r : Int32 × pS} (hW : WT G) (i0 : Is G a0 11) (h : fX12_story_b46 N G a0 x1 y1 σ = some r) : Ev miX12_story (133, 0, 0) G (Zp G (some (.int r.1)) r.2) SK (0, 0) 46 [some (.ref a0), some (.int x1), none] [.int y1, .ref a0] σ := by
  unfold fX12_story_b46 at h
  refine ev_putI dc_X12_story_46 fi_X12_33 rfl i0 ?_
  refine ev_aload_n dc_X12_story_49 rfl ?_
  refine ev_iload_n dc_X12_story_50 rfl ?_
  refine ev_if_ge (tgt := 58) dc_X12_story_51 (by decide) h (fun h => ?_) (fun h => ?_)
  · refine ev_iconst (v := 0) dc_X12_story_58 (by decide) ?_
    exact ev_sub (tX12_story_b59 hW i0 h) (And.intro rfl trivial)
  · refine ev_iconst (v := 1) dc_X12_story_54 (by decide) ?_
    refine ev_goto (tgt := 59) dc_X12_story_55 (by decide) ?_
    exact ev_sub (tX12_story_b59 hW i0 h) (And.intro rfl trivial)
def fX12_story_b2 (N : Nat) (G : pG) (a0 : Nat) : (Int32 × pS) → Option (Int32 × pS) := lp (fun (k2 : Int32 × pS → Option (Int32 × pS)) (b : Int32 × pS) => if (1232 : Int32) ≤ b.1 then ((fX12_readAll N G a0 (1 : Int32) b.2).bind (fun q3 => if 0 ≤ q3.1 then (fX12_story_b46 N G a0 q3.1 (-1 : Int32) q3.2) else (fX12_story_b46 N G a0 q3.1 (q3.2.1 a0 12) q3.2))) else (ck (inB b.1 (pN G (pR G a0 1))) (ck (inB b.1 (pN G (pR G a0 3))) (k2 (b.1 + (1 : Int32), sA b.2 (pR G a0 3) b.1 (gA b.2 (pR G a0 1) b.1)))))) N
set_option maxRecDepth 100000 in
set_option maxHeartbeats 4000000 in
theorem tX12_story_b2 {N : Nat} {G : pG} {SK : Nat → Nat} {a0 : Nat} {b : Int32 × pS} {r : Int32 × pS} (hW : WT G) (i0 : Is G a0 11) (h : fX12_story_b2 N G a0 b = some r) : Ev miX12_story (133, 0, 0) G (Zp G (some (.int r.1)) r.2) SK (0, 0) 2 [some (.ref a0), some (.int b.1), none] [] b.2 := by
  unfold fX12_story_b2 at h
  refine lp_ind (P := fun b r9 => r9 = r → Ev miX12_story (133, 0, 0) G (Zp G (some (.int r.1)) r.2) SK (0, 0) 2 [some (.ref a0), some (.int b.1), none] [] b.2) (fun k2 b r9 ih h9 e9 => ?_) N b r h rfl
  clear h
  subst e9
  have h := h9
  clear h9
  have hk2 : ∀ b : Int32 × pS, k2 b = some r9 → Ev miX12_story (133, 0, 0) G (Zp G (some (.int r9.1)) r9.2) SK (0, 0) 2 [some (.ref a0), some (.int b.1), none] [] b.2 := fun b hb => ih b r9 hb rfl
  clear ih
  obtain ⟨x1, σ⟩ := b
  dsimp only at h ⊢
  refine ev_iload_n dc_X12_story_2 rfl ?_
  refine ev_sipush (v := 1232) dc_X12_story_3 (by decide) ?_
  refine ev_icmp_ge (tgt := 27) dc_X12_story_6 (by decide) h (fun h => ?_) (fun h => ?_)
  · refine ev_aload_n dc_X12_story_27 rfl ?_
    refine ev_iconst (v := 1) dc_X12_story_28 (by decide) ?_
    obtain ⟨q3, hq3, h⟩ := Option.bind_eq_some_iff.mp h
    refine ev_callV (av := [.int (1 : Int32)]) (st := []) (st1 := [.int q3.1]) dc_X12_story_29 (tX12_readAll hW i0 hq3) mw_1609 cy_X12_readAll i0 (by decide) rfl rfl rfl rfl (Nat.le_of_ble_eq_true rfl) (Nat.le_of_ble_eq_true rfl) ⟨Nat.le_refl _, Nat.le_refl _⟩ ?_
    refine ev_istore_n (lv' := [some (.ref a0), some (.int q3.1), none]) dc_X12_story_32 rfl (by decide) rfl ?_
    refine ev_aload_n dc_X12_story_33 rfl ?_
    refine ev_iload_n dc_X12_story_34 rfl ?_
    refine ev_if_ge (tgt := 45) dc_X12_story_35 (by decide) h (fun h => ?_) (fun h => ?_)
    · refine ev_iconst (v := (-1)) dc_X12_story_45 (by decide) ?_
      exact ev_sub (tX12_story_b46 hW i0 h) (And.intro rfl (And.intro rfl trivial))
    · refine ev_aload_n dc_X12_story_38 rfl ?_
      refine ev_getI dc_X12_story_39 fi_X12_97 rfl i0 ?_
      refine ev_goto (tgt := 46) dc_X12_story_42 (by decide) ?_
      exact ev_sub (tX12_story_b46 hW i0 h) (And.intro rfl (And.intro rfl trivial))
  · refine ev_aload_n dc_X12_story_9 rfl ?_
    refine ev_getR dc_X12_story_10 fi_X12_20 rfl i0 ?_
    refine ev_iload_n dc_X12_story_13 rfl ?_
    refine ev_aload_n dc_X12_story_14 rfl ?_
    refine ev_getR dc_X12_story_15 fi_X12_13 rfl i0 ?_
    refine ev_iload_n dc_X12_story_18 rfl ?_
    refine ev_iald dc_X12_story_19 (wt hW i0 1 rfl rfl) h (fun h => ?_)
    refine ev_iast dc_X12_story_20 (wt hW i0 3 rfl rfl) h (fun h => ?_)
    refine ev_iinc (v := 1) (lv' := [some (.ref a0), some (.int (x1 + (1 : Int32))), none]) dc_X12_story_21 rfl (by decide) rfl (by decide) rfl ?_
    refine ev_goto (tgt := 2) dc_X12_story_24 (by decide) ?_
    exact ev_sub (hk2 (x1 + (1 : Int32), sA σ (pR G a0 3) x1 (gA σ (pR G a0 1) x1)) h) (And.intro rfl (And.intro rfl trivial))
def fX12_story (N : Nat) (G : pG) (a0 : Nat) (σ : pS) : Option (Int32 × pS) := fX12_story_b2 N G a0 ((0 : Int32), σ)
set_option maxRecDepth 100000 in
set_option maxHeartbeats 4000000 in
theorem tX12_story {N : Nat} {G : pG} {SK : Nat → Nat} {a0 : Nat} {σ : pS} {r : Int32 × pS} (hW : WT G) (i0 : Is G a0 11) (h : fX12_story N G a0 σ = some r) : Dn miX12_story yX12_story 133 G SK [.ref a0] σ (some (.int r.1)) r.2 := by
  unfold fX12_story at h
  refine dn_of (lv := [some (.ref a0), none, none]) (by decide) rfl rfl (Nat.le_of_ble_eq_true rfl) rfl ?_
  refine ev_iconst (v := 0) dc_X12_story_0 (by decide) ?_
  refine ev_istore_n (lv' := [some (.ref a0), some (.int (0 : Int32)), none]) dc_X12_story_1 rfl (by decide) rfl ?_
  exact ev_sub (tX12_story_b2 (b := ((0 : Int32), σ)) hW i0 h) (And.intro rfl (And.intro rfl trivial))
theorem dc_X12_thrown_0 : Dc miX12_thrown 0 (.aload_n 0) 1 1 := ⟨by decide +kernel, rfl⟩
theorem dc_X12_thrown_1 : Dc miX12_thrown 1 (.getfield 3) 3 4 := ⟨by decide +kernel, rfl⟩
theorem dc_X12_thrown_4 : Dc miX12_thrown 4 (.ireturn) 1 5 := ⟨by decide +kernel, rfl⟩
def fX12_thrown (N : Nat) (G : pG) (a0 : Nat) (σ : pS) : Option (Int32) := some (σ.1 a0 0)
set_option maxRecDepth 100000 in
set_option maxHeartbeats 4000000 in
theorem tX12_thrown {N : Nat} {G : pG} {SK : Nat → Nat} {a0 : Nat} {σ : pS} {r : Int32} (hW : WT G) (i0 : Is G a0 11) (h : fX12_thrown N G a0 σ = some r) : Dn miX12_thrown yX12_thrown 1 G SK [.ref a0] σ (some (.int r)) σ := by
  unfold fX12_thrown at h
  refine dn_of (lv := [some (.ref a0)]) (by decide) rfl rfl (Nat.le_of_ble_eq_true rfl) rfl ?_
  refine ev_aload_n dc_X12_thrown_0 rfl ?_
  refine ev_getI dc_X12_thrown_1 fi_X12_3 rfl i0 ?_
  cases h
  exact ev_iret dc_X12_thrown_4 rfl rfl rfl
theorem dc_X12_trial_0 : Dc miX12_trial 0 (.aload_n 0) 1 1 := ⟨by decide +kernel, rfl⟩
theorem dc_X12_trial_1 : Dc miX12_trial 1 (.iconst 0) 1 2 := ⟨by decide +kernel, rfl⟩
theorem dc_X12_trial_2 : Dc miX12_trial 2 (.putfield 3) 3 5 := ⟨by decide +kernel, rfl⟩
theorem dc_X12_trial_5 : Dc miX12_trial 5 (.aload_n 0) 1 6 := ⟨by decide +kernel, rfl⟩
theorem dc_X12_trial_6 : Dc miX12_trial 6 (.iload_n 1) 1 7 := ⟨by decide +kernel, rfl⟩
theorem dc_X12_trial_7 : Dc miX12_trial 7 (.iconst 0) 1 8 := ⟨by decide +kernel, rfl⟩
theorem dc_X12_trial_8 : Dc miX12_trial 8 (.bipush 60) 2 10 := ⟨by decide +kernel, rfl⟩
theorem dc_X12_trial_10 : Dc miX12_trial 10 (.invokestatic 70) 3 13 := ⟨by decide +kernel, rfl⟩
theorem dc_X12_trial_13 : Dc miX12_trial 13 (.ifCond .ne 7) 3 16 := ⟨by decide +kernel, rfl⟩
theorem dc_X12_trial_16 : Dc miX12_trial 16 (.iconst 1) 1 17 := ⟨by decide +kernel, rfl⟩
theorem dc_X12_trial_17 : Dc miX12_trial 17 (.goto 4) 3 20 := ⟨by decide +kernel, rfl⟩
theorem dc_X12_trial_20 : Dc miX12_trial 20 (.iconst 0) 1 21 := ⟨by decide +kernel, rfl⟩
theorem dc_X12_trial_21 : Dc miX12_trial 21 (.iconst 1) 1 22 := ⟨by decide +kernel, rfl⟩
theorem dc_X12_trial_22 : Dc miX12_trial 22 (.invokevirtual 274) 3 25 := ⟨by decide +kernel, rfl⟩
theorem dc_X12_trial_25 : Dc miX12_trial 25 (.ifCond .eq 5) 3 28 := ⟨by decide +kernel, rfl⟩
theorem dc_X12_trial_28 : Dc miX12_trial 28 (.iconst 0) 1 29 := ⟨by decide +kernel, rfl⟩
theorem dc_X12_trial_29 : Dc miX12_trial 29 (.ireturn) 1 30 := ⟨by decide +kernel, rfl⟩
theorem dc_X12_trial_30 : Dc miX12_trial 30 (.aload_n 0) 1 31 := ⟨by decide +kernel, rfl⟩
theorem dc_X12_trial_31 : Dc miX12_trial 31 (.invokevirtual 403) 3 34 := ⟨by decide +kernel, rfl⟩
theorem dc_X12_trial_34 : Dc miX12_trial 34 (.aload_n 0) 1 35 := ⟨by decide +kernel, rfl⟩
theorem dc_X12_trial_35 : Dc miX12_trial 35 (.iload_n 1) 1 36 := ⟨by decide +kernel, rfl⟩
theorem dc_X12_trial_36 : Dc miX12_trial 36 (.invokevirtual 397) 3 39 := ⟨by decide +kernel, rfl⟩
theorem dc_X12_trial_39 : Dc miX12_trial 39 (.pop) 1 40 := ⟨by decide +kernel, rfl⟩
theorem dc_X12_trial_40 : Dc miX12_trial 40 (.iload_n 2) 1 41 := ⟨by decide +kernel, rfl⟩
theorem dc_X12_trial_41 : Dc miX12_trial 41 (.ifCond .eq 13) 3 44 := ⟨by decide +kernel, rfl⟩
theorem dc_X12_trial_44 : Dc miX12_trial 44 (.aload_n 0) 1 45 := ⟨by decide +kernel, rfl⟩
theorem dc_X12_trial_45 : Dc miX12_trial 45 (.getfield 13) 3 48 := ⟨by decide +kernel, rfl⟩
theorem dc_X12_trial_48 : Dc miX12_trial 48 (.bipush 13) 2 50 := ⟨by decide +kernel, rfl⟩
theorem dc_X12_trial_50 : Dc miX12_trial 50 (.iaload) 1 51 := ⟨by decide +kernel, rfl⟩
theorem dc_X12_trial_51 : Dc miX12_trial 51 (.goto 10) 3 54 := ⟨by decide +kernel, rfl⟩
theorem dc_X12_trial_54 : Dc miX12_trial 54 (.aload_n 0) 1 55 := ⟨by decide +kernel, rfl⟩
theorem dc_X12_trial_55 : Dc miX12_trial 55 (.getfield 13) 3 58 := ⟨by decide +kernel, rfl⟩
theorem dc_X12_trial_58 : Dc miX12_trial 58 (.bipush 7) 2 60 := ⟨by decide +kernel, rfl⟩
theorem dc_X12_trial_60 : Dc miX12_trial 60 (.iaload) 1 61 := ⟨by decide +kernel, rfl⟩
theorem dc_X12_trial_61 : Dc miX12_trial 61 (.istore_n 3) 1 62 := ⟨by decide +kernel, rfl⟩
theorem dc_X12_trial_62 : Dc miX12_trial 62 (.aload_n 0) 1 63 := ⟨by decide +kernel, rfl⟩
theorem dc_X12_trial_63 : Dc miX12_trial 63 (.invokevirtual 409) 3 66 := ⟨by decide +kernel, rfl⟩
theorem dc_X12_trial_66 : Dc miX12_trial 66 (.iload_n 3) 1 67 := ⟨by decide +kernel, rfl⟩
theorem dc_X12_trial_67 : Dc miX12_trial 67 (.ireturn) 1 68 := ⟨by decide +kernel, rfl⟩
def fX12_trial_b61 (N : Nat) (G : pG) (a0 : Nat) (y0 : Int32) (σ : pS) : Option (Int32 × pS) := (fX12_bringsBack N G a0 σ).bind (fun q1 => some (y0, q1))
set_option maxRecDepth 100000 in
set_option maxHeartbeats 4000000 in
theorem tX12_trial_b61 {N : Nat} {G : pG} {SK : Nat → Nat} {a0 : Nat} {y0 : Int32} {σ : pS} {r : Int32 × pS} (hW : WT G) (i0 : Is G a0 11) (h : fX12_trial_b61 N G a0 y0 σ = some r) : Ev miX12_trial (9, 0, 0) G (Zp G (some (.int r.1)) r.2) SK (0, 0) 61 [some (.ref a0), none, none, none] [.int y0] σ := by
  unfold fX12_trial_b61 at h
  refine ev_istore_n (lv' := [some (.ref a0), none, none, some (.int y0)]) dc_X12_trial_61 rfl (by decide) rfl ?_
  refine ev_aload_n dc_X12_trial_62 rfl ?_
  obtain ⟨q1, hq1, h⟩ := Option.bind_eq_some_iff.mp h
  refine ev_callV (av := []) (st := []) (st1 := []) dc_X12_trial_63 (tX12_bringsBack hW i0 hq1) mw_1994 cy_X12_bringsBack i0 (by decide) rfl rfl rfl rfl (Nat.le_of_ble_eq_true rfl) (Nat.le_of_ble_eq_true rfl) ⟨Nat.le_refl _, Nat.le_refl _⟩ ?_
  refine ev_iload_n dc_X12_trial_66 rfl ?_
  cases h
  exact ev_iret dc_X12_trial_67 rfl rfl rfl
def fX12_trial_b21 (N : Nat) (G : pG) (a0 : Nat) (a1 : Int32) (a2 : Int32) (y1 : Int32) (σ : pS) : Option (Int32 × pS) := (fX12_throwsIf N G a0 y1 (1 : Int32) σ).bind (fun q2 => if q2.1 = 0 then ((fX12_keepsAll N G a0 q2.2).bind (fun q3 => (fX12_goesBy N G a0 a1 q3).bind (fun q4 => if a2 = 0 then (ck (inB (7 : Int32) (pN G (pR G a0 1))) (fX12_trial_b61 N G a0 (gA q4.2 (pR G a0 1) (7 : Int32)) q4.2)) else (ck (inB (13 : Int32) (pN G (pR G a0 1))) (fX12_trial_b61 N G a0 (gA q4.2 (pR G a0 1) (13 : Int32)) q4.2))))) else (some ((0 : Int32), q2.2)))
set_option maxRecDepth 100000 in
set_option maxHeartbeats 4000000 in
theorem tX12_trial_b21 {N : Nat} {G : pG} {SK : Nat → Nat} {a0 : Nat} {a1 : Int32} {a2 : Int32} {y1 : Int32} {σ : pS} {r : Int32 × pS} (hW : WT G) (i0 : Is G a0 11) (h : fX12_trial_b21 N G a0 a1 a2 y1 σ = some r) : Ev miX12_trial (9, 0, 0) G (Zp G (some (.int r.1)) r.2) SK (0, 0) 21 [some (.ref a0), some (.int a1), some (.int a2), none] [.int y1, .ref a0] σ := by
  unfold fX12_trial_b21 at h
  refine ev_iconst (v := 1) dc_X12_trial_21 (by decide) ?_
  obtain ⟨q2, hq2, h⟩ := Option.bind_eq_some_iff.mp h
  refine ev_callV (av := [.int y1, .int (1 : Int32)]) (st := []) (st1 := [.int q2.1]) dc_X12_trial_22 (tX12_throwsIf hW i0 hq2) mw_1784 cy_X12_throwsIf i0 (by decide) rfl rfl rfl rfl (Nat.le_of_ble_eq_true rfl) (Nat.le_of_ble_eq_true rfl) ⟨Nat.le_refl _, Nat.le_refl _⟩ ?_
  refine ev_if_eq (tgt := 30) dc_X12_trial_25 (by decide) h (fun h => ?_) (fun h => ?_)
  · refine ev_aload_n dc_X12_trial_30 rfl ?_
    obtain ⟨q3, hq3, h⟩ := Option.bind_eq_some_iff.mp h
    refine ev_callV (av := []) (st := []) (st1 := []) dc_X12_trial_31 (tX12_keepsAll hW i0 hq3) mw_1986 cy_X12_keepsAll i0 (by decide) rfl rfl rfl rfl (Nat.le_of_ble_eq_true rfl) (Nat.le_of_ble_eq_true rfl) ⟨Nat.le_refl _, Nat.le_refl _⟩ ?_
    refine ev_aload_n dc_X12_trial_34 rfl ?_
    refine ev_iload_n dc_X12_trial_35 rfl ?_
    obtain ⟨q4, hq4, h⟩ := Option.bind_eq_some_iff.mp h
    refine ev_callV (av := [.int a1]) (st := []) (st1 := [.int q4.1]) dc_X12_trial_36 (tX12_goesBy hW i0 hq4) mw_1961 cy_X12_goesBy i0 (by decide) rfl rfl rfl rfl (Nat.le_of_ble_eq_true rfl) (Nat.le_of_ble_eq_true rfl) ⟨Nat.le_refl _, Nat.le_refl _⟩ ?_
    refine ev_pop dc_X12_trial_39 rfl ?_
    refine ev_iload_n dc_X12_trial_40 rfl ?_
    refine ev_if_eq (tgt := 54) dc_X12_trial_41 (by decide) h (fun h => ?_) (fun h => ?_)
    · refine ev_aload_n dc_X12_trial_54 rfl ?_
      refine ev_getR dc_X12_trial_55 fi_X12_13 rfl i0 ?_
      refine ev_bipush (v := 7) dc_X12_trial_58 (by decide) ?_
      refine ev_iald dc_X12_trial_60 (wt hW i0 1 rfl rfl) h (fun h => ?_)
      exact ev_sub (tX12_trial_b61 hW i0 h) (And.intro rfl trivial)
    · refine ev_aload_n dc_X12_trial_44 rfl ?_
      refine ev_getR dc_X12_trial_45 fi_X12_13 rfl i0 ?_
      refine ev_bipush (v := 13) dc_X12_trial_48 (by decide) ?_
      refine ev_iald dc_X12_trial_50 (wt hW i0 1 rfl rfl) h (fun h => ?_)
      refine ev_goto (tgt := 61) dc_X12_trial_51 (by decide) ?_
      exact ev_sub (tX12_trial_b61 hW i0 h) (And.intro rfl trivial)
  · refine ev_iconst (v := 0) dc_X12_trial_28 (by decide) ?_
    cases h
    exact ev_iret dc_X12_trial_29 rfl rfl rfl
def fX12_trial (N : Nat) (G : pG) (a0 : Nat) (a1 : Int32) (a2 : Int32) (σ : pS) : Option (Int32 × pS) := (fX12_in N G a1 (0 : Int32) (60 : Int32) (putF σ a0 0 (0 : Int32))).bind (fun q5 => if q5 = 0 then (fX12_trial_b21 N G a0 a1 a2 (1 : Int32) (putF σ a0 0 (0 : Int32))) else (fX12_trial_b21 N G a0 a1 a2 (0 : Int32) (putF σ a0 0 (0 : Int32))))
set_option maxRecDepth 100000 in
set_option maxHeartbeats 4000000 in
theorem tX12_trial {N : Nat} {G : pG} {SK : Nat → Nat} {a0 : Nat} {a1 : Int32} {a2 : Int32} {σ : pS} {r : Int32 × pS} (hW : WT G) (i0 : Is G a0 11) (h : fX12_trial N G a0 a1 a2 σ = some r) : Dn miX12_trial yX12_trial 9 G SK [.ref a0, .int a1, .int a2] σ (some (.int r.1)) r.2 := by
  unfold fX12_trial at h
  refine dn_of (lv := [some (.ref a0), some (.int a1), some (.int a2), none]) (by decide) rfl rfl (Nat.le_of_ble_eq_true rfl) rfl ?_
  refine ev_aload_n dc_X12_trial_0 rfl ?_
  refine ev_iconst (v := 0) dc_X12_trial_1 (by decide) ?_
  refine ev_putI dc_X12_trial_2 fi_X12_3 rfl i0 ?_
  refine ev_aload_n dc_X12_trial_5 rfl ?_
  refine ev_iload_n dc_X12_trial_6 rfl ?_
  refine ev_iconst (v := 0) dc_X12_trial_7 (by decide) ?_
  refine ev_bipush (v := 60) dc_X12_trial_8 (by decide) ?_
  obtain ⟨q5, hq5, h⟩ := Option.bind_eq_some_iff.mp h
  refine ev_callS (av := [.int a1, .int (0 : Int32), .int (60 : Int32)]) (st := [.ref a0]) (st1 := [.int q5, .ref a0]) dc_X12_trial_10 (tX12_in hW hq5) mw_1656 cs_X12_in rfl rfl rfl (Nat.le_of_ble_eq_true rfl) (Nat.le_of_ble_eq_true rfl) ⟨Nat.le_refl _, Nat.le_refl _⟩ ?_
  refine ev_if_ne (tgt := 20) dc_X12_trial_13 (by decide) h (fun h => ?_) (fun h => ?_)
  · refine ev_iconst (v := 1) dc_X12_trial_16 (by decide) ?_
    refine ev_goto (tgt := 21) dc_X12_trial_17 (by decide) ?_
    exact ev_sub (tX12_trial_b21 hW i0 h) (And.intro rfl (And.intro rfl (And.intro rfl trivial)))
  · refine ev_iconst (v := 0) dc_X12_trial_20 (by decide) ?_
    exact ev_sub (tX12_trial_b21 hW i0 h) (And.intro rfl (And.intro rfl (And.intro rfl trivial)))
theorem dc_X12_undo_0 : Dc miX12_undo 0 (.aload_n 0) 1 1 := ⟨by decide +kernel, rfl⟩
theorem dc_X12_undo_1 : Dc miX12_undo 1 (.iconst 0) 1 2 := ⟨by decide +kernel, rfl⟩
theorem dc_X12_undo_2 : Dc miX12_undo 2 (.putfield 3) 3 5 := ⟨by decide +kernel, rfl⟩
theorem dc_X12_undo_5 : Dc miX12_undo 5 (.aload_n 0) 1 6 := ⟨by decide +kernel, rfl⟩
theorem dc_X12_undo_6 : Dc miX12_undo 6 (.getfield 59) 3 9 := ⟨by decide +kernel, rfl⟩
theorem dc_X12_undo_9 : Dc miX12_undo 9 (.ifCond .ne 5) 3 12 := ⟨by decide +kernel, rfl⟩
theorem dc_X12_undo_12 : Dc miX12_undo 12 (.iconst 0) 1 13 := ⟨by decide +kernel, rfl⟩
theorem dc_X12_undo_13 : Dc miX12_undo 13 (.ireturn) 1 14 := ⟨by decide +kernel, rfl⟩
theorem dc_X12_undo_14 : Dc miX12_undo 14 (.aload_n 0) 1 15 := ⟨by decide +kernel, rfl⟩
theorem dc_X12_undo_15 : Dc miX12_undo 15 (.dup) 1 16 := ⟨by decide +kernel, rfl⟩
theorem dc_X12_undo_16 : Dc miX12_undo 16 (.getfield 59) 3 19 := ⟨by decide +kernel, rfl⟩
theorem dc_X12_undo_19 : Dc miX12_undo 19 (.iconst 1) 1 20 := ⟨by decide +kernel, rfl⟩
theorem dc_X12_undo_20 : Dc miX12_undo 20 (.isub) 1 21 := ⟨by decide +kernel, rfl⟩
theorem dc_X12_undo_21 : Dc miX12_undo 21 (.putfield 59) 3 24 := ⟨by decide +kernel, rfl⟩
theorem dc_X12_undo_24 : Dc miX12_undo 24 (.iconst 0) 1 25 := ⟨by decide +kernel, rfl⟩
theorem dc_X12_undo_25 : Dc miX12_undo 25 (.istore_n 1) 1 26 := ⟨by decide +kernel, rfl⟩
theorem dc_X12_undo_26 : Dc miX12_undo 26 (.iload_n 1) 1 27 := ⟨by decide +kernel, rfl⟩
theorem dc_X12_undo_27 : Dc miX12_undo 27 (.sipush 383) 3 30 := ⟨by decide +kernel, rfl⟩
theorem dc_X12_undo_30 : Dc miX12_undo 30 (.if_icmp .ge 30) 3 33 := ⟨by decide +kernel, rfl⟩
theorem dc_X12_undo_33 : Dc miX12_undo 33 (.aload_n 0) 1 34 := ⟨by decide +kernel, rfl⟩
theorem dc_X12_undo_34 : Dc miX12_undo 34 (.getfield 13) 3 37 := ⟨by decide +kernel, rfl⟩
theorem dc_X12_undo_37 : Dc miX12_undo 37 (.iload_n 1) 1 38 := ⟨by decide +kernel, rfl⟩
theorem dc_X12_undo_38 : Dc miX12_undo 38 (.aload_n 0) 1 39 := ⟨by decide +kernel, rfl⟩
theorem dc_X12_undo_39 : Dc miX12_undo 39 (.getfield 26) 3 42 := ⟨by decide +kernel, rfl⟩
theorem dc_X12_undo_42 : Dc miX12_undo 42 (.sipush 383) 3 45 := ⟨by decide +kernel, rfl⟩
theorem dc_X12_undo_45 : Dc miX12_undo 45 (.aload_n 0) 1 46 := ⟨by decide +kernel, rfl⟩
theorem dc_X12_undo_46 : Dc miX12_undo 46 (.getfield 59) 3 49 := ⟨by decide +kernel, rfl⟩
theorem dc_X12_undo_49 : Dc miX12_undo 49 (.imul) 1 50 := ⟨by decide +kernel, rfl⟩
theorem dc_X12_undo_50 : Dc miX12_undo 50 (.iload_n 1) 1 51 := ⟨by decide +kernel, rfl⟩
theorem dc_X12_undo_51 : Dc miX12_undo 51 (.iadd) 1 52 := ⟨by decide +kernel, rfl⟩
theorem dc_X12_undo_52 : Dc miX12_undo 52 (.iaload) 1 53 := ⟨by decide +kernel, rfl⟩
theorem dc_X12_undo_53 : Dc miX12_undo 53 (.iastore) 1 54 := ⟨by decide +kernel, rfl⟩
theorem dc_X12_undo_54 : Dc miX12_undo 54 (.iinc 1 1) 3 57 := ⟨by decide +kernel, rfl⟩
theorem dc_X12_undo_57 : Dc miX12_undo 57 (.goto (-31)) 3 60 := ⟨by decide +kernel, rfl⟩
theorem dc_X12_undo_60 : Dc miX12_undo 60 (.iconst 1) 1 61 := ⟨by decide +kernel, rfl⟩
theorem dc_X12_undo_61 : Dc miX12_undo 61 (.ireturn) 1 62 := ⟨by decide +kernel, rfl⟩
def fX12_undo_b26 (N : Nat) (G : pG) (a0 : Nat) : (Int32 × pS) → Option (Int32 × pS) := lp (fun (k26 : Int32 × pS → Option (Int32 × pS)) (b : Int32 × pS) => if (383 : Int32) ≤ b.1 then (some ((1 : Int32), b.2)) else (ck (inB (((383 : Int32) * (b.2.1 a0 7)) + b.1) (pN G (pR G a0 5))) (ck (inB b.1 (pN G (pR G a0 1))) (k26 (b.1 + (1 : Int32), sA b.2 (pR G a0 1) b.1 (gA b.2 (pR G a0 5) (((383 : Int32) * (b.2.1 a0 7)) + b.1))))))) N
set_option maxRecDepth 100000 in
set_option maxHeartbeats 4000000 in
theorem tX12_undo_b26 {N : Nat} {G : pG} {SK : Nat → Nat} {a0 : Nat} {b : Int32 × pS} {r : Int32 × pS} (hW : WT G) (i0 : Is G a0 11) (h : fX12_undo_b26 N G a0 b = some r) : Ev miX12_undo (1, 0, 0) G (Zp G (some (.int r.1)) r.2) SK (0, 0) 26 [some (.ref a0), some (.int b.1)] [] b.2 := by
  unfold fX12_undo_b26 at h
  refine lp_ind (P := fun b r9 => r9 = r → Ev miX12_undo (1, 0, 0) G (Zp G (some (.int r.1)) r.2) SK (0, 0) 26 [some (.ref a0), some (.int b.1)] [] b.2) (fun k26 b r9 ih h9 e9 => ?_) N b r h rfl
  clear h
  subst e9
  have h := h9
  clear h9
  have hk26 : ∀ b : Int32 × pS, k26 b = some r9 → Ev miX12_undo (1, 0, 0) G (Zp G (some (.int r9.1)) r9.2) SK (0, 0) 26 [some (.ref a0), some (.int b.1)] [] b.2 := fun b hb => ih b r9 hb rfl
  clear ih
  obtain ⟨x1, σ⟩ := b
  dsimp only at h ⊢
  refine ev_iload_n dc_X12_undo_26 rfl ?_
  refine ev_sipush (v := 383) dc_X12_undo_27 (by decide) ?_
  refine ev_icmp_ge (tgt := 60) dc_X12_undo_30 (by decide) h (fun h => ?_) (fun h => ?_)
  · refine ev_iconst (v := 1) dc_X12_undo_60 (by decide) ?_
    cases h
    exact ev_zretc dc_X12_undo_61 rfl rfl rfl rfl
  · refine ev_aload_n dc_X12_undo_33 rfl ?_
    refine ev_getR dc_X12_undo_34 fi_X12_13 rfl i0 ?_
    refine ev_iload_n dc_X12_undo_37 rfl ?_
    refine ev_aload_n dc_X12_undo_38 rfl ?_
    refine ev_getR dc_X12_undo_39 fi_X12_26 rfl i0 ?_
    refine ev_sipush (v := 383) dc_X12_undo_42 (by decide) ?_
    refine ev_aload_n dc_X12_undo_45 rfl ?_
    refine ev_getI dc_X12_undo_46 fi_X12_59 rfl i0 ?_
    refine ev_imul dc_X12_undo_49 ?_
    refine ev_iload_n dc_X12_undo_50 rfl ?_
    refine ev_iadd dc_X12_undo_51 ?_
    refine ev_iald dc_X12_undo_52 (wt hW i0 5 rfl rfl) h (fun h => ?_)
    refine ev_iast dc_X12_undo_53 (wt hW i0 1 rfl rfl) h (fun h => ?_)
    refine ev_iinc (v := 1) (lv' := [some (.ref a0), some (.int (x1 + (1 : Int32)))]) dc_X12_undo_54 rfl (by decide) rfl (by decide) rfl ?_
    refine ev_goto (tgt := 26) dc_X12_undo_57 (by decide) ?_
    exact ev_sub (hk26 (x1 + (1 : Int32), sA σ (pR G a0 1) x1 (gA σ (pR G a0 5) (((383 : Int32) * (σ.1 a0 7)) + x1))) h) (And.intro rfl (And.intro rfl trivial))
def fX12_undo (N : Nat) (G : pG) (a0 : Nat) (σ : pS) : Option (Int32 × pS) := if ((putF σ a0 0 (0 : Int32)).1 a0 7) = 0 then (some ((0 : Int32), putF σ a0 0 (0 : Int32))) else (fX12_undo_b26 N G a0 ((0 : Int32), putF (putF σ a0 0 (0 : Int32)) a0 7 (((putF σ a0 0 (0 : Int32)).1 a0 7) - (1 : Int32))))
set_option maxRecDepth 100000 in
set_option maxHeartbeats 4000000 in
theorem tX12_undo {N : Nat} {G : pG} {SK : Nat → Nat} {a0 : Nat} {σ : pS} {r : Int32 × pS} (hW : WT G) (i0 : Is G a0 11) (h : fX12_undo N G a0 σ = some r) : Dn miX12_undo yX12_undo 1 G SK [.ref a0] σ (some (.int r.1)) r.2 := by
  unfold fX12_undo at h
  refine dn_of (lv := [some (.ref a0), none]) (by decide) rfl rfl (Nat.le_of_ble_eq_true rfl) rfl ?_
  refine ev_aload_n dc_X12_undo_0 rfl ?_
  refine ev_iconst (v := 0) dc_X12_undo_1 (by decide) ?_
  refine ev_putI dc_X12_undo_2 fi_X12_3 rfl i0 ?_
  refine ev_aload_n dc_X12_undo_5 rfl ?_
  refine ev_getI dc_X12_undo_6 fi_X12_59 rfl i0 ?_
  refine ev_if_ne (tgt := 14) dc_X12_undo_9 (by decide) h (fun h => ?_) (fun h => ?_)
  · refine ev_iconst (v := 0) dc_X12_undo_12 (by decide) ?_
    cases h
    exact ev_zretc dc_X12_undo_13 rfl rfl rfl rfl
  · refine ev_aload_n dc_X12_undo_14 rfl ?_
    refine ev_dup dc_X12_undo_15 rfl ?_
    refine ev_getI dc_X12_undo_16 fi_X12_59 rfl i0 ?_
    refine ev_iconst (v := 1) dc_X12_undo_19 (by decide) ?_
    refine ev_isub dc_X12_undo_20 ?_
    refine ev_putI dc_X12_undo_21 fi_X12_59 rfl i0 ?_
    refine ev_iconst (v := 0) dc_X12_undo_24 (by decide) ?_
    refine ev_istore_n (lv' := [some (.ref a0), some (.int (0 : Int32))]) dc_X12_undo_25 rfl (by decide) rfl ?_
    exact ev_sub (tX12_undo_b26 (b := ((0 : Int32), putF (putF σ a0 0 (0 : Int32)) a0 7 (((putF σ a0 0 (0 : Int32)).1 a0 7) - (1 : Int32)))) hW i0 h) (And.intro rfl (And.intro rfl trivial))
theorem dc_X12_word_0 : Dc miX12_word 0 (.aload_n 0) 1 1 := ⟨by decide +kernel, rfl⟩
theorem dc_X12_word_1 : Dc miX12_word 1 (.iconst 0) 1 2 := ⟨by decide +kernel, rfl⟩
theorem dc_X12_word_2 : Dc miX12_word 2 (.putfield 3) 3 5 := ⟨by decide +kernel, rfl⟩
theorem dc_X12_word_5 : Dc miX12_word 5 (.aload_n 0) 1 6 := ⟨by decide +kernel, rfl⟩
theorem dc_X12_word_6 : Dc miX12_word 6 (.aload_n 0) 1 7 := ⟨by decide +kernel, rfl⟩
theorem dc_X12_word_7 : Dc miX12_word 7 (.iload_n 1) 1 8 := ⟨by decide +kernel, rfl⟩
theorem dc_X12_word_8 : Dc miX12_word 8 (.invokevirtual 346) 3 11 := ⟨by decide +kernel, rfl⟩
theorem dc_X12_word_11 : Dc miX12_word 11 (.iconst 1) 1 12 := ⟨by decide +kernel, rfl⟩
theorem dc_X12_word_12 : Dc miX12_word 12 (.invokevirtual 274) 3 15 := ⟨by decide +kernel, rfl⟩
theorem dc_X12_word_15 : Dc miX12_word 15 (.ifCond .eq 7) 3 18 := ⟨by decide +kernel, rfl⟩
theorem dc_X12_word_18 : Dc miX12_word 18 (.iconst 0) 1 19 := ⟨by decide +kernel, rfl⟩
theorem dc_X12_word_19 : Dc miX12_word 19 (.goto 17) 3 22 := ⟨by decide +kernel, rfl⟩
theorem dc_X12_word_22 : Dc miX12_word 22 (.aload_n 0) 1 23 := ⟨by decide +kernel, rfl⟩
theorem dc_X12_word_23 : Dc miX12_word 23 (.iload_n 1) 1 24 := ⟨by decide +kernel, rfl⟩
theorem dc_X12_word_24 : Dc miX12_word 24 (.iload_n 2) 1 25 := ⟨by decide +kernel, rfl⟩
theorem dc_X12_word_25 : Dc miX12_word 25 (.ifCond .eq 7) 3 28 := ⟨by decide +kernel, rfl⟩
theorem dc_X12_word_28 : Dc miX12_word 28 (.iconst 1) 1 29 := ⟨by decide +kernel, rfl⟩
theorem dc_X12_word_29 : Dc miX12_word 29 (.goto 4) 3 32 := ⟨by decide +kernel, rfl⟩
theorem dc_X12_word_32 : Dc miX12_word 32 (.iconst 0) 1 33 := ⟨by decide +kernel, rfl⟩
theorem dc_X12_word_33 : Dc miX12_word 33 (.invokevirtual 314) 3 36 := ⟨by decide +kernel, rfl⟩
theorem dc_X12_word_36 : Dc miX12_word 36 (.ireturn) 1 37 := ⟨by decide +kernel, rfl⟩
def fX12_word_b33 (N : Nat) (G : pG) (a0 : Nat) (y1 : Int32) (y2 : Int32) (σ : pS) : Option (Int32 × pS) := (fX12_ofWord N G a0 y1 y2 σ).bind (fun q1 => some (q1, σ))
set_option maxRecDepth 100000 in
set_option maxHeartbeats 4000000 in
theorem tX12_word_b33 {N : Nat} {G : pG} {SK : Nat → Nat} {a0 : Nat} {y1 : Int32} {y2 : Int32} {σ : pS} {r : Int32 × pS} (hW : WT G) (i0 : Is G a0 11) (h : fX12_word_b33 N G a0 y1 y2 σ = some r) : Ev miX12_word (3, 0, 0) G (Zp G (some (.int r.1)) r.2) SK (0, 0) 33 [some (.ref a0), none, none] [.int y2, .int y1, .ref a0] σ := by
  unfold fX12_word_b33 at h
  obtain ⟨q1, hq1, h⟩ := Option.bind_eq_some_iff.mp h
  refine ev_callV (av := [.int y1, .int y2]) (st := []) (st1 := [.int q1]) dc_X12_word_33 (tX12_ofWord hW i0 hq1) mw_1820 cy_X12_ofWord i0 (by decide) rfl rfl rfl rfl (Nat.le_of_ble_eq_true rfl) (Nat.le_of_ble_eq_true rfl) ⟨Nat.le_refl _, Nat.le_refl _⟩ ?_
  cases h
  exact ev_iret dc_X12_word_36 rfl rfl rfl
def fX12_word (N : Nat) (G : pG) (a0 : Nat) (a1 : Int32) (a2 : Int32) (σ : pS) : Option (Int32 × pS) := (fX12_noWord N G a0 a1 (putF σ a0 0 (0 : Int32))).bind (fun q2 => (fX12_throwsIf N G a0 q2 (1 : Int32) (putF σ a0 0 (0 : Int32))).bind (fun q3 => if q3.1 = 0 then (if a2 = 0 then (fX12_word_b33 N G a0 a1 (0 : Int32) q3.2) else (fX12_word_b33 N G a0 a1 (1 : Int32) q3.2)) else (some ((0 : Int32), q3.2))))
set_option maxRecDepth 100000 in
set_option maxHeartbeats 4000000 in
theorem tX12_word {N : Nat} {G : pG} {SK : Nat → Nat} {a0 : Nat} {a1 : Int32} {a2 : Int32} {σ : pS} {r : Int32 × pS} (hW : WT G) (i0 : Is G a0 11) (h : fX12_word N G a0 a1 a2 σ = some r) : Dn miX12_word yX12_word 3 G SK [.ref a0, .int a1, .int a2] σ (some (.int r.1)) r.2 := by
  unfold fX12_word at h
  refine dn_of (lv := [some (.ref a0), some (.int a1), some (.int a2)]) (by decide) rfl rfl (Nat.le_of_ble_eq_true rfl) rfl ?_
  refine ev_aload_n dc_X12_word_0 rfl ?_
  refine ev_iconst (v := 0) dc_X12_word_1 (by decide) ?_
  refine ev_putI dc_X12_word_2 fi_X12_3 rfl i0 ?_
  refine ev_aload_n dc_X12_word_5 rfl ?_
  refine ev_aload_n dc_X12_word_6 rfl ?_
  refine ev_iload_n dc_X12_word_7 rfl ?_
  obtain ⟨q2, hq2, h⟩ := Option.bind_eq_some_iff.mp h
  refine ev_callV (av := [.int a1]) (st := [.ref a0]) (st1 := [.int q2, .ref a0]) dc_X12_word_8 (tX12_noWord hW i0 hq2) mw_1800 cy_X12_noWord i0 (by decide) rfl rfl rfl rfl (Nat.le_of_ble_eq_true rfl) (Nat.le_of_ble_eq_true rfl) ⟨Nat.le_refl _, Nat.le_refl _⟩ ?_
  refine ev_iconst (v := 1) dc_X12_word_11 (by decide) ?_
  obtain ⟨q3, hq3, h⟩ := Option.bind_eq_some_iff.mp h
  refine ev_callV (av := [.int q2, .int (1 : Int32)]) (st := []) (st1 := [.int q3.1]) dc_X12_word_12 (tX12_throwsIf hW i0 hq3) mw_1784 cy_X12_throwsIf i0 (by decide) rfl rfl rfl rfl (Nat.le_of_ble_eq_true rfl) (Nat.le_of_ble_eq_true rfl) ⟨Nat.le_refl _, Nat.le_refl _⟩ ?_
  refine ev_if_eq (tgt := 22) dc_X12_word_15 (by decide) h (fun h => ?_) (fun h => ?_)
  · refine ev_aload_n dc_X12_word_22 rfl ?_
    refine ev_iload_n dc_X12_word_23 rfl ?_
    refine ev_iload_n dc_X12_word_24 rfl ?_
    refine ev_if_eq (tgt := 32) dc_X12_word_25 (by decide) h (fun h => ?_) (fun h => ?_)
    · refine ev_iconst (v := 0) dc_X12_word_32 (by decide) ?_
      exact ev_sub (tX12_word_b33 hW i0 h) (And.intro rfl trivial)
    · refine ev_iconst (v := 1) dc_X12_word_28 (by decide) ?_
      refine ev_goto (tgt := 33) dc_X12_word_29 (by decide) ?_
      exact ev_sub (tX12_word_b33 hW i0 h) (And.intro rfl trivial)
  · refine ev_iconst (v := 0) dc_X12_word_18 (by decide) ?_
    refine ev_goto (tgt := 36) dc_X12_word_19 (by decide) ?_
    cases h
    exact ev_iret dc_X12_word_36 rfl rfl rfl
theorem dc_X12_worst_0 : Dc miX12_worst 0 (.aload_n 0) 1 1 := ⟨by decide +kernel, rfl⟩
theorem dc_X12_worst_1 : Dc miX12_worst 1 (.iconst 0) 1 2 := ⟨by decide +kernel, rfl⟩
theorem dc_X12_worst_2 : Dc miX12_worst 2 (.putfield 3) 3 5 := ⟨by decide +kernel, rfl⟩
theorem dc_X12_worst_5 : Dc miX12_worst 5 (.aload_n 0) 1 6 := ⟨by decide +kernel, rfl⟩
theorem dc_X12_worst_6 : Dc miX12_worst 6 (.getfield 13) 3 9 := ⟨by decide +kernel, rfl⟩
theorem dc_X12_worst_9 : Dc miX12_worst 9 (.bipush 12) 2 11 := ⟨by decide +kernel, rfl⟩
theorem dc_X12_worst_11 : Dc miX12_worst 11 (.iaload) 1 12 := ⟨by decide +kernel, rfl⟩
theorem dc_X12_worst_12 : Dc miX12_worst 12 (.istore_n 1) 1 13 := ⟨by decide +kernel, rfl⟩
theorem dc_X12_worst_13 : Dc miX12_worst 13 (.iconst 0) 1 14 := ⟨by decide +kernel, rfl⟩
theorem dc_X12_worst_14 : Dc miX12_worst 14 (.istore_n 2) 1 15 := ⟨by decide +kernel, rfl⟩
theorem dc_X12_worst_15 : Dc miX12_worst 15 (.iload_n 2) 1 16 := ⟨by decide +kernel, rfl⟩
theorem dc_X12_worst_16 : Dc miX12_worst 16 (.iload_n 1) 1 17 := ⟨by decide +kernel, rfl⟩
theorem dc_X12_worst_17 : Dc miX12_worst 17 (.if_icmp .gt 28) 3 20 := ⟨by decide +kernel, rfl⟩
theorem dc_X12_worst_20 : Dc miX12_worst 20 (.iload_n 2) 1 21 := ⟨by decide +kernel, rfl⟩
theorem dc_X12_worst_21 : Dc miX12_worst 21 (.iload_n 1) 1 22 := ⟨by decide +kernel, rfl⟩
theorem dc_X12_worst_22 : Dc miX12_worst 22 (.iconst (-1)) 1 23 := ⟨by decide +kernel, rfl⟩
theorem dc_X12_worst_23 : Dc miX12_worst 23 (.ixor) 1 24 := ⟨by decide +kernel, rfl⟩
theorem dc_X12_worst_24 : Dc miX12_worst 24 (.iand) 1 25 := ⟨by decide +kernel, rfl⟩
theorem dc_X12_worst_25 : Dc miX12_worst 25 (.ifCond .ne 14) 3 28 := ⟨by decide +kernel, rfl⟩
theorem dc_X12_worst_28 : Dc miX12_worst 28 (.aload_n 0) 1 29 := ⟨by decide +kernel, rfl⟩
theorem dc_X12_worst_29 : Dc miX12_worst 29 (.getfield 52) 3 32 := ⟨by decide +kernel, rfl⟩
theorem dc_X12_worst_32 : Dc miX12_worst 32 (.iload_n 2) 1 33 := ⟨by decide +kernel, rfl⟩
theorem dc_X12_worst_33 : Dc miX12_worst 33 (.aload_n 0) 1 34 := ⟨by decide +kernel, rfl⟩
theorem dc_X12_worst_34 : Dc miX12_worst 34 (.iload_n 2) 1 35 := ⟨by decide +kernel, rfl⟩
theorem dc_X12_worst_35 : Dc miX12_worst 35 (.invokevirtual 459) 3 38 := ⟨by decide +kernel, rfl⟩
theorem dc_X12_worst_38 : Dc miX12_worst 38 (.iastore) 1 39 := ⟨by decide +kernel, rfl⟩
theorem dc_X12_worst_39 : Dc miX12_worst 39 (.iinc 2 1) 3 42 := ⟨by decide +kernel, rfl⟩
theorem dc_X12_worst_42 : Dc miX12_worst 42 (.goto (-27)) 3 45 := ⟨by decide +kernel, rfl⟩
theorem dc_X12_worst_45 : Dc miX12_worst 45 (.aload_n 0) 1 46 := ⟨by decide +kernel, rfl⟩
theorem dc_X12_worst_46 : Dc miX12_worst 46 (.getfield 52) 3 49 := ⟨by decide +kernel, rfl⟩
theorem dc_X12_worst_49 : Dc miX12_worst 49 (.iload_n 1) 1 50 := ⟨by decide +kernel, rfl⟩
theorem dc_X12_worst_50 : Dc miX12_worst 50 (.iaload) 1 51 := ⟨by decide +kernel, rfl⟩
theorem dc_X12_worst_51 : Dc miX12_worst 51 (.ldc_w 418) 3 54 := ⟨by decide +kernel, rfl⟩
theorem dc_X12_worst_54 : Dc miX12_worst 54 (.if_icmp .lt 7) 3 57 := ⟨by decide +kernel, rfl⟩
theorem dc_X12_worst_57 : Dc miX12_worst 57 (.iconst (-1)) 1 58 := ⟨by decide +kernel, rfl⟩
theorem dc_X12_worst_58 : Dc miX12_worst 58 (.goto 9) 3 61 := ⟨by decide +kernel, rfl⟩
theorem dc_X12_worst_61 : Dc miX12_worst 61 (.aload_n 0) 1 62 := ⟨by decide +kernel, rfl⟩
theorem dc_X12_worst_62 : Dc miX12_worst 62 (.getfield 52) 3 65 := ⟨by decide +kernel, rfl⟩
theorem dc_X12_worst_65 : Dc miX12_worst 65 (.iload_n 1) 1 66 := ⟨by decide +kernel, rfl⟩
theorem dc_X12_worst_66 : Dc miX12_worst 66 (.iaload) 1 67 := ⟨by decide +kernel, rfl⟩
theorem dc_X12_worst_67 : Dc miX12_worst 67 (.ireturn) 1 68 := ⟨by decide +kernel, rfl⟩
def fX12_worst_b15 (N : Nat) (G : pG) (a0 : Nat) (x1 : Int32) : (Int32 × pS) → Option (Int32 × pS) := lp (fun (k15 : Int32 × pS → Option (Int32 × pS)) (b : Int32 × pS) => if x1 < b.1 then (ck (inB x1 (pN G (pR G a0 28))) (if (gA b.2 (pR G a0 28) x1) < (1000000 : Int32) then (ck (inB x1 (pN G (pR G a0 28))) (some (gA b.2 (pR G a0 28) x1, b.2))) else (some ((-1 : Int32), b.2)))) else (if (b.1 &&& (x1 ^^^ (-1 : Int32))) = 0 then ((fX12_crumbsOf N G a0 b.1 b.2).bind (fun q1 => ck (inB b.1 (pN G (pR G a0 28))) (k15 (b.1 + (1 : Int32), sA b.2 (pR G a0 28) b.1 q1)))) else (k15 (b.1 + (1 : Int32), b.2)))) N
set_option maxRecDepth 100000 in
set_option maxHeartbeats 4000000 in
theorem tX12_worst_b15 {N : Nat} {G : pG} {SK : Nat → Nat} {a0 : Nat} {x1 : Int32} {b : Int32 × pS} {r : Int32 × pS} (hW : WT G) (i0 : Is G a0 11) (h : fX12_worst_b15 N G a0 x1 b = some r) : Ev miX12_worst (4, 0, 0) G (Zp G (some (.int r.1)) r.2) SK (0, 0) 15 [some (.ref a0), some (.int x1), some (.int b.1)] [] b.2 := by
  unfold fX12_worst_b15 at h
  refine lp_ind (P := fun b r9 => r9 = r → Ev miX12_worst (4, 0, 0) G (Zp G (some (.int r.1)) r.2) SK (0, 0) 15 [some (.ref a0), some (.int x1), some (.int b.1)] [] b.2) (fun k15 b r9 ih h9 e9 => ?_) N b r h rfl
  clear h
  subst e9
  have h := h9
  clear h9
  have hk15 : ∀ b : Int32 × pS, k15 b = some r9 → Ev miX12_worst (4, 0, 0) G (Zp G (some (.int r9.1)) r9.2) SK (0, 0) 15 [some (.ref a0), some (.int x1), some (.int b.1)] [] b.2 := fun b hb => ih b r9 hb rfl
  clear ih
  obtain ⟨x2, σ⟩ := b
  dsimp only at h ⊢
  refine ev_iload_n dc_X12_worst_15 rfl ?_
  refine ev_iload_n dc_X12_worst_16 rfl ?_
  refine ev_icmp_gt (tgt := 45) dc_X12_worst_17 (by decide) h (fun h => ?_) (fun h => ?_)
  · refine ev_aload_n dc_X12_worst_45 rfl ?_
    refine ev_getR dc_X12_worst_46 fi_X12_52 rfl i0 ?_
    refine ev_iload_n dc_X12_worst_49 rfl ?_
    refine ev_iald dc_X12_worst_50 (wt hW i0 28 rfl rfl) h (fun h => ?_)
    refine ev_ldcw (v := 1000000) dc_X12_worst_51 mw_2025 ?_
    refine ev_icmp_lt (tgt := 61) dc_X12_worst_54 (by decide) h (fun h => ?_) (fun h => ?_)
    · refine ev_aload_n dc_X12_worst_61 rfl ?_
      refine ev_getR dc_X12_worst_62 fi_X12_52 rfl i0 ?_
      refine ev_iload_n dc_X12_worst_65 rfl ?_
      refine ev_iald dc_X12_worst_66 (wt hW i0 28 rfl rfl) h (fun h => ?_)
      cases h
      exact ev_iret dc_X12_worst_67 rfl rfl rfl
    · refine ev_iconst (v := (-1)) dc_X12_worst_57 (by decide) ?_
      refine ev_goto (tgt := 67) dc_X12_worst_58 (by decide) ?_
      cases h
      exact ev_iret dc_X12_worst_67 rfl rfl rfl
  · refine ev_iload_n dc_X12_worst_20 rfl ?_
    refine ev_iload_n dc_X12_worst_21 rfl ?_
    refine ev_iconst (v := (-1)) dc_X12_worst_22 (by decide) ?_
    refine ev_ixor dc_X12_worst_23 ?_
    refine ev_iand dc_X12_worst_24 ?_
    refine ev_if_ne (tgt := 39) dc_X12_worst_25 (by decide) h (fun h => ?_) (fun h => ?_)
    · refine ev_aload_n dc_X12_worst_28 rfl ?_
      refine ev_getR dc_X12_worst_29 fi_X12_52 rfl i0 ?_
      refine ev_iload_n dc_X12_worst_32 rfl ?_
      refine ev_aload_n dc_X12_worst_33 rfl ?_
      refine ev_iload_n dc_X12_worst_34 rfl ?_
      obtain ⟨q1, hq1, h⟩ := Option.bind_eq_some_iff.mp h
      refine ev_callV (av := [.int x2]) (st := [.int x2, .ref (pR G a0 28)]) (st1 := [.int q1, .int x2, .ref (pR G a0 28)]) dc_X12_worst_35 (tX12_crumbsOf hW i0 hq1) mw_2110 cy_X12_crumbsOf i0 (by decide) rfl rfl rfl rfl (Nat.le_of_ble_eq_true rfl) (Nat.le_of_ble_eq_true rfl) ⟨Nat.le_refl _, Nat.le_refl _⟩ ?_
      refine ev_iast dc_X12_worst_38 (wt hW i0 28 rfl rfl) h (fun h => ?_)
      refine ev_iinc (v := 1) (lv' := [some (.ref a0), some (.int x1), some (.int (x2 + (1 : Int32)))]) dc_X12_worst_39 rfl (by decide) rfl (by decide) rfl ?_
      refine ev_goto (tgt := 15) dc_X12_worst_42 (by decide) ?_
      exact ev_sub (hk15 (x2 + (1 : Int32), sA σ (pR G a0 28) x2 q1) h) (And.intro rfl (And.intro rfl (And.intro rfl trivial)))
    · refine ev_iinc (v := 1) (lv' := [some (.ref a0), some (.int x1), some (.int (x2 + (1 : Int32)))]) dc_X12_worst_39 rfl (by decide) rfl (by decide) rfl ?_
      refine ev_goto (tgt := 15) dc_X12_worst_42 (by decide) ?_
      exact ev_sub (hk15 (x2 + (1 : Int32), σ) h) (And.intro rfl (And.intro rfl (And.intro rfl trivial)))
def fX12_worst (N : Nat) (G : pG) (a0 : Nat) (σ : pS) : Option (Int32 × pS) := ck (inB (12 : Int32) (pN G (pR G a0 1))) (fX12_worst_b15 N G a0 (gA (putF σ a0 0 (0 : Int32)) (pR G a0 1) (12 : Int32)) ((0 : Int32), putF σ a0 0 (0 : Int32)))
set_option maxRecDepth 100000 in
set_option maxHeartbeats 4000000 in
theorem tX12_worst {N : Nat} {G : pG} {SK : Nat → Nat} {a0 : Nat} {σ : pS} {r : Int32 × pS} (hW : WT G) (i0 : Is G a0 11) (h : fX12_worst N G a0 σ = some r) : Dn miX12_worst yX12_worst 4 G SK [.ref a0] σ (some (.int r.1)) r.2 := by
  unfold fX12_worst at h
  refine dn_of (lv := [some (.ref a0), none, none]) (by decide) rfl rfl (Nat.le_of_ble_eq_true rfl) rfl ?_
  refine ev_aload_n dc_X12_worst_0 rfl ?_
  refine ev_iconst (v := 0) dc_X12_worst_1 (by decide) ?_
  refine ev_putI dc_X12_worst_2 fi_X12_3 rfl i0 ?_
  refine ev_aload_n dc_X12_worst_5 rfl ?_
  refine ev_getR dc_X12_worst_6 fi_X12_13 rfl i0 ?_
  refine ev_bipush (v := 12) dc_X12_worst_9 (by decide) ?_
  refine ev_iald dc_X12_worst_11 (wt hW i0 1 rfl rfl) h (fun h => ?_)
  refine ev_istore_n (lv' := [some (.ref a0), some (.int (gA (putF σ a0 0 (0 : Int32)) (pR G a0 1) (12 : Int32))), none]) dc_X12_worst_12 rfl (by decide) rfl ?_
  refine ev_iconst (v := 0) dc_X12_worst_13 (by decide) ?_
  refine ev_istore_n (lv' := [some (.ref a0), some (.int (gA (putF σ a0 0 (0 : Int32)) (pR G a0 1) (12 : Int32))), some (.int (0 : Int32))]) dc_X12_worst_14 rfl (by decide) rfl ?_
  exact ev_sub (tX12_worst_b15 (b := ((0 : Int32), putF σ a0 0 (0 : Int32))) hW i0 h) (And.intro rfl (And.intro rfl (And.intro rfl trivial)))
theorem dc_X12_would_0 : Dc miX12_would 0 (.aload_n 0) 1 1 := ⟨by decide +kernel, rfl⟩
theorem dc_X12_would_1 : Dc miX12_would 1 (.iconst 0) 1 2 := ⟨by decide +kernel, rfl⟩
theorem dc_X12_would_2 : Dc miX12_would 2 (.putfield 3) 3 5 := ⟨by decide +kernel, rfl⟩
theorem dc_X12_would_5 : Dc miX12_would 5 (.aload_n 0) 1 6 := ⟨by decide +kernel, rfl⟩
theorem dc_X12_would_6 : Dc miX12_would 6 (.aload_n 0) 1 7 := ⟨by decide +kernel, rfl⟩
theorem dc_X12_would_7 : Dc miX12_would 7 (.iload_n 1) 1 8 := ⟨by decide +kernel, rfl⟩
theorem dc_X12_would_8 : Dc miX12_would 8 (.invokevirtual 343) 3 11 := ⟨by decide +kernel, rfl⟩
theorem dc_X12_would_11 : Dc miX12_would 11 (.ifCond .ne 11) 3 14 := ⟨by decide +kernel, rfl⟩
theorem dc_X12_would_14 : Dc miX12_would 14 (.aload_n 0) 1 15 := ⟨by decide +kernel, rfl⟩
theorem dc_X12_would_15 : Dc miX12_would 15 (.iload_n 2) 1 16 := ⟨by decide +kernel, rfl⟩
theorem dc_X12_would_16 : Dc miX12_would 16 (.invokevirtual 346) 3 19 := ⟨by decide +kernel, rfl⟩
theorem dc_X12_would_19 : Dc miX12_would 19 (.ifCond .eq 7) 3 22 := ⟨by decide +kernel, rfl⟩
theorem dc_X12_would_22 : Dc miX12_would 22 (.iconst 1) 1 23 := ⟨by decide +kernel, rfl⟩
theorem dc_X12_would_23 : Dc miX12_would 23 (.goto 4) 3 26 := ⟨by decide +kernel, rfl⟩
theorem dc_X12_would_26 : Dc miX12_would 26 (.iconst 0) 1 27 := ⟨by decide +kernel, rfl⟩
theorem dc_X12_would_27 : Dc miX12_would 27 (.iconst 1) 1 28 := ⟨by decide +kernel, rfl⟩
theorem dc_X12_would_28 : Dc miX12_would 28 (.invokevirtual 274) 3 31 := ⟨by decide +kernel, rfl⟩
theorem dc_X12_would_31 : Dc miX12_would 31 (.ifCond .eq 5) 3 34 := ⟨by decide +kernel, rfl⟩
theorem dc_X12_would_34 : Dc miX12_would 34 (.iconst 0) 1 35 := ⟨by decide +kernel, rfl⟩
theorem dc_X12_would_35 : Dc miX12_would 35 (.ireturn) 1 36 := ⟨by decide +kernel, rfl⟩
theorem dc_X12_would_36 : Dc miX12_would 36 (.aload_n 0) 1 37 := ⟨by decide +kernel, rfl⟩
theorem dc_X12_would_37 : Dc miX12_would 37 (.invokevirtual 349) 3 40 := ⟨by decide +kernel, rfl⟩
theorem dc_X12_would_40 : Dc miX12_would 40 (.iload_n 3) 1 41 := ⟨by decide +kernel, rfl⟩
theorem dc_X12_would_41 : Dc miX12_would 41 (.ifCond .eq 21) 3 44 := ⟨by decide +kernel, rfl⟩
theorem dc_X12_would_44 : Dc miX12_would 44 (.aload_n 0) 1 45 := ⟨by decide +kernel, rfl⟩
theorem dc_X12_would_45 : Dc miX12_would 45 (.aload_n 0) 1 46 := ⟨by decide +kernel, rfl⟩
theorem dc_X12_would_46 : Dc miX12_would 46 (.getfield 13) 3 49 := ⟨by decide +kernel, rfl⟩
theorem dc_X12_would_49 : Dc miX12_would 49 (.bipush 12) 2 51 := ⟨by decide +kernel, rfl⟩
theorem dc_X12_would_51 : Dc miX12_would 51 (.iaload) 1 52 := ⟨by decide +kernel, rfl⟩
theorem dc_X12_would_52 : Dc miX12_would 52 (.iload_n 2) 1 53 := ⟨by decide +kernel, rfl⟩
theorem dc_X12_would_53 : Dc miX12_would 53 (.invokevirtual 352) 3 56 := ⟨by decide +kernel, rfl⟩
theorem dc_X12_would_56 : Dc miX12_would 56 (.invokestatic 139) 3 59 := ⟨by decide +kernel, rfl⟩
theorem dc_X12_would_59 : Dc miX12_would 59 (.goto 9) 3 62 := ⟨by decide +kernel, rfl⟩
theorem dc_X12_would_62 : Dc miX12_would 62 (.aload_n 0) 1 63 := ⟨by decide +kernel, rfl⟩
theorem dc_X12_would_63 : Dc miX12_would 63 (.iload_n 1) 1 64 := ⟨by decide +kernel, rfl⟩
theorem dc_X12_would_64 : Dc miX12_would 64 (.iload_n 2) 1 65 := ⟨by decide +kernel, rfl⟩
theorem dc_X12_would_65 : Dc miX12_would 65 (.invokevirtual 355) 3 68 := ⟨by decide +kernel, rfl⟩
theorem dc_X12_would_68 : Dc miX12_would 68 (.ireturn) 1 69 := ⟨by decide +kernel, rfl⟩
def fX12_would_b27 (N : Nat) (G : pG) (a0 : Nat) (a1 : Int32) (a2 : Int32) (a3 : Int32) (y1 : Int32) (σ : pS) : Option (Int32 × pS) := (fX12_throwsIf N G a0 y1 (1 : Int32) σ).bind (fun q1 => if q1.1 = 0 then ((fX12_looksNow N G a0 q1.2).bind (fun q2 => if a3 = 0 then ((fX12_behindWord N G a0 a1 a2 q2).bind (fun q3 => some (q3.1, q3.2))) else (ck (inB (12 : Int32) (pN G (pR G a0 1))) ((fX12_possibleBehind N G a0 (gA q2 (pR G a0 1) (12 : Int32)) a2 q2).bind (fun q4 => (fJ6_bitCount_0f7a4 N G q4 q2).bind (fun q5 => some (q5, q2))))))) else (some ((0 : Int32), q1.2)))
set_option maxRecDepth 100000 in
set_option maxHeartbeats 4000000 in
theorem tX12_would_b27 {N : Nat} {G : pG} {SK : Nat → Nat} {a0 : Nat} {a1 : Int32} {a2 : Int32} {a3 : Int32} {y1 : Int32} {σ : pS} {r : Int32 × pS} (hW : WT G) (i0 : Is G a0 11) (h : fX12_would_b27 N G a0 a1 a2 a3 y1 σ = some r) : Ev miX12_would (6, 0, 0) G (Zp G (some (.int r.1)) r.2) SK (0, 0) 27 [some (.ref a0), some (.int a1), some (.int a2), some (.int a3)] [.int y1, .ref a0] σ := by
  unfold fX12_would_b27 at h
  refine ev_iconst (v := 1) dc_X12_would_27 (by decide) ?_
  obtain ⟨q1, hq1, h⟩ := Option.bind_eq_some_iff.mp h
  refine ev_callV (av := [.int y1, .int (1 : Int32)]) (st := []) (st1 := [.int q1.1]) dc_X12_would_28 (tX12_throwsIf hW i0 hq1) mw_1784 cy_X12_throwsIf i0 (by decide) rfl rfl rfl rfl (Nat.le_of_ble_eq_true rfl) (Nat.le_of_ble_eq_true rfl) ⟨Nat.le_refl _, Nat.le_refl _⟩ ?_
  refine ev_if_eq (tgt := 36) dc_X12_would_31 (by decide) h (fun h => ?_) (fun h => ?_)
  · refine ev_aload_n dc_X12_would_36 rfl ?_
    obtain ⟨q2, hq2, h⟩ := Option.bind_eq_some_iff.mp h
    refine ev_callV (av := []) (st := []) (st1 := []) dc_X12_would_37 (tX12_looksNow hW i0 hq2) mw_1804 cy_X12_looksNow i0 (by decide) rfl rfl rfl rfl (Nat.le_of_ble_eq_true rfl) (Nat.le_of_ble_eq_true rfl) ⟨Nat.le_refl _, Nat.le_refl _⟩ ?_
    refine ev_iload_n dc_X12_would_40 rfl ?_
    refine ev_if_eq (tgt := 62) dc_X12_would_41 (by decide) h (fun h => ?_) (fun h => ?_)
    · refine ev_aload_n dc_X12_would_62 rfl ?_
      refine ev_iload_n dc_X12_would_63 rfl ?_
      refine ev_iload_n dc_X12_would_64 rfl ?_
      obtain ⟨q3, hq3, h⟩ := Option.bind_eq_some_iff.mp h
      refine ev_callV (av := [.int a1, .int a2]) (st := []) (st1 := [.int q3.1]) dc_X12_would_65 (tX12_behindWord hW i0 hq3) mw_1857 cy_X12_behindWord i0 (by decide) rfl rfl rfl rfl (Nat.le_of_ble_eq_true rfl) (Nat.le_of_ble_eq_true rfl) ⟨Nat.le_refl _, Nat.le_refl _⟩ ?_
      cases h
      exact ev_iret dc_X12_would_68 rfl rfl rfl
    · refine ev_aload_n dc_X12_would_44 rfl ?_
      refine ev_aload_n dc_X12_would_45 rfl ?_
      refine ev_getR dc_X12_would_46 fi_X12_13 rfl i0 ?_
      refine ev_bipush (v := 12) dc_X12_would_49 (by decide) ?_
      refine ev_iald dc_X12_would_51 (wt hW i0 1 rfl rfl) h (fun h => ?_)
      refine ev_iload_n dc_X12_would_52 rfl ?_
      obtain ⟨q4, hq4, h⟩ := Option.bind_eq_some_iff.mp h
      refine ev_callV (av := [.int (gA q2 (pR G a0 1) (12 : Int32)), .int a2]) (st := []) (st1 := [.int q4]) dc_X12_would_53 (tX12_possibleBehind hW i0 hq4) mw_1849 cy_X12_possibleBehind i0 (by decide) rfl rfl rfl rfl (Nat.le_of_ble_eq_true rfl) (Nat.le_of_ble_eq_true rfl) ⟨Nat.le_refl _, Nat.le_refl _⟩ ?_
      obtain ⟨q5, hq5, h⟩ := Option.bind_eq_some_iff.mp h
      refine ev_callS (av := [.int q4]) (st := []) (st1 := [.int q5]) dc_X12_would_56 (tJ6_bitCount_0f7a4 hW hq5) mw_1685 cs_J6_bitCount_0f7a4 rfl rfl rfl (Nat.le_of_ble_eq_true rfl) (Nat.le_of_ble_eq_true rfl) ⟨Nat.le_refl _, Nat.le_refl _⟩ ?_
      refine ev_goto (tgt := 68) dc_X12_would_59 (by decide) ?_
      cases h
      exact ev_iret dc_X12_would_68 rfl rfl rfl
  · refine ev_iconst (v := 0) dc_X12_would_34 (by decide) ?_
    cases h
    exact ev_iret dc_X12_would_35 rfl rfl rfl
def fX12_would_b22 (N : Nat) (G : pG) (a0 : Nat) (a1 : Int32) (a2 : Int32) (a3 : Int32) (σ : pS) : Option (Int32 × pS) := fX12_would_b27 N G a0 a1 a2 a3 (1 : Int32) σ
set_option maxRecDepth 100000 in
set_option maxHeartbeats 4000000 in
theorem tX12_would_b22 {N : Nat} {G : pG} {SK : Nat → Nat} {a0 : Nat} {a1 : Int32} {a2 : Int32} {a3 : Int32} {σ : pS} {r : Int32 × pS} (hW : WT G) (i0 : Is G a0 11) (h : fX12_would_b22 N G a0 a1 a2 a3 σ = some r) : Ev miX12_would (6, 0, 0) G (Zp G (some (.int r.1)) r.2) SK (0, 0) 22 [some (.ref a0), some (.int a1), some (.int a2), some (.int a3)] [.ref a0] σ := by
  unfold fX12_would_b22 at h
  refine ev_iconst (v := 1) dc_X12_would_22 (by decide) ?_
  refine ev_goto (tgt := 27) dc_X12_would_23 (by decide) ?_
  exact ev_sub (tX12_would_b27 hW i0 h) (And.intro rfl (And.intro rfl (And.intro rfl (And.intro rfl trivial))))
def fX12_would (N : Nat) (G : pG) (a0 : Nat) (a1 : Int32) (a2 : Int32) (a3 : Int32) (σ : pS) : Option (Int32 × pS) := (fX12_noWho N G a0 a1 (putF σ a0 0 (0 : Int32))).bind (fun q6 => if q6 = 0 then ((fX12_noWord N G a0 a2 (putF σ a0 0 (0 : Int32))).bind (fun q7 => if q7 = 0 then (fX12_would_b27 N G a0 a1 a2 a3 (0 : Int32) (putF σ a0 0 (0 : Int32))) else (fX12_would_b22 N G a0 a1 a2 a3 (putF σ a0 0 (0 : Int32))))) else (fX12_would_b22 N G a0 a1 a2 a3 (putF σ a0 0 (0 : Int32))))
set_option maxRecDepth 100000 in
set_option maxHeartbeats 4000000 in
theorem tX12_would {N : Nat} {G : pG} {SK : Nat → Nat} {a0 : Nat} {a1 : Int32} {a2 : Int32} {a3 : Int32} {σ : pS} {r : Int32 × pS} (hW : WT G) (i0 : Is G a0 11) (h : fX12_would N G a0 a1 a2 a3 σ = some r) : Dn miX12_would yX12_would 6 G SK [.ref a0, .int a1, .int a2, .int a3] σ (some (.int r.1)) r.2 := by
  unfold fX12_would at h
  refine dn_of (lv := [some (.ref a0), some (.int a1), some (.int a2), some (.int a3)]) (by decide) rfl rfl (Nat.le_of_ble_eq_true rfl) rfl ?_
  refine ev_aload_n dc_X12_would_0 rfl ?_
  refine ev_iconst (v := 0) dc_X12_would_1 (by decide) ?_
  refine ev_putI dc_X12_would_2 fi_X12_3 rfl i0 ?_
  refine ev_aload_n dc_X12_would_5 rfl ?_
  refine ev_aload_n dc_X12_would_6 rfl ?_
  refine ev_iload_n dc_X12_would_7 rfl ?_
  obtain ⟨q6, hq6, h⟩ := Option.bind_eq_some_iff.mp h
  refine ev_callV (av := [.int a1]) (st := [.ref a0]) (st1 := [.int q6, .ref a0]) dc_X12_would_8 (tX12_noWho hW i0 hq6) mw_1796 cy_X12_noWho i0 (by decide) rfl rfl rfl rfl (Nat.le_of_ble_eq_true rfl) (Nat.le_of_ble_eq_true rfl) ⟨Nat.le_refl _, Nat.le_refl _⟩ ?_
  refine ev_if_ne (tgt := 22) dc_X12_would_11 (by decide) h (fun h => ?_) (fun h => ?_)
  · refine ev_aload_n dc_X12_would_14 rfl ?_
    refine ev_iload_n dc_X12_would_15 rfl ?_
    obtain ⟨q7, hq7, h⟩ := Option.bind_eq_some_iff.mp h
    refine ev_callV (av := [.int a2]) (st := [.ref a0]) (st1 := [.int q7, .ref a0]) dc_X12_would_16 (tX12_noWord hW i0 hq7) mw_1800 cy_X12_noWord i0 (by decide) rfl rfl rfl rfl (Nat.le_of_ble_eq_true rfl) (Nat.le_of_ble_eq_true rfl) ⟨Nat.le_refl _, Nat.le_refl _⟩ ?_
    refine ev_if_eq (tgt := 26) dc_X12_would_19 (by decide) h (fun h => ?_) (fun h => ?_)
    · refine ev_iconst (v := 0) dc_X12_would_26 (by decide) ?_
      exact ev_sub (tX12_would_b27 hW i0 h) (And.intro rfl (And.intro rfl (And.intro rfl (And.intro rfl trivial))))
    · exact ev_sub (tX12_would_b22 hW i0 h) (And.intro rfl (And.intro rfl (And.intro rfl (And.intro rfl trivial))))
  · exact ev_sub (tX12_would_b22 hW i0 h) (And.intro rfl (And.intro rfl (And.intro rfl (And.intro rfl trivial))))
