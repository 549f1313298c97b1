theorem dc_X12_sumOf_0 : Dc miX12_sumOf 0 (.iconst 0) 1 1 := ⟨by decide +kernel, rfl⟩
theorem dc_X12_sumOf_1 : Dc miX12_sumOf 1 (.istore_n 2) 1 2 := ⟨by decide +kernel, rfl⟩
theorem dc_X12_sumOf_2 : Dc miX12_sumOf 2 (.iconst 0) 1 3 := ⟨by decide +kernel, rfl⟩
theorem dc_X12_sumOf_3 : Dc miX12_sumOf 3 (.istore_n 3) 1 4 := ⟨by decide +kernel, rfl⟩
theorem dc_X12_sumOf_4 : Dc miX12_sumOf 4 (.aload_n 0) 1 5 := ⟨by decide +kernel, rfl⟩
theorem dc_X12_sumOf_5 : Dc miX12_sumOf 5 (.getfield 13) 3 8 := ⟨by decide +kernel, rfl⟩
theorem dc_X12_sumOf_8 : Dc miX12_sumOf 8 (.bipush 6) 2 10 := ⟨by decide +kernel, rfl⟩
theorem dc_X12_sumOf_10 : Dc miX12_sumOf 10 (.iaload) 1 11 := ⟨by decide +kernel, rfl⟩
theorem dc_X12_sumOf_11 : Dc miX12_sumOf 11 (.iconst 1) 1 12 := ⟨by decide +kernel, rfl⟩
theorem dc_X12_sumOf_12 : Dc miX12_sumOf 12 (.if_icmp .ne 62) 3 15 := ⟨by decide +kernel, rfl⟩
theorem dc_X12_sumOf_15 : Dc miX12_sumOf 15 (.iload_n 3) 1 16 := ⟨by decide +kernel, rfl⟩
theorem dc_X12_sumOf_16 : Dc miX12_sumOf 16 (.aload_n 0) 1 17 := ⟨by decide +kernel, rfl⟩
theorem dc_X12_sumOf_17 : Dc miX12_sumOf 17 (.getfield 13) 3 20 := ⟨by decide +kernel, rfl⟩
theorem dc_X12_sumOf_20 : Dc miX12_sumOf 20 (.sipush 383) 3 23 := ⟨by decide +kernel, rfl⟩
theorem dc_X12_sumOf_23 : Dc miX12_sumOf 23 (.iaload) 1 24 := ⟨by decide +kernel, rfl⟩
theorem dc_X12_sumOf_24 : Dc miX12_sumOf 24 (.if_icmp .ge 50) 3 27 := ⟨by decide +kernel, rfl⟩
theorem dc_X12_sumOf_27 : Dc miX12_sumOf 27 (.aload_n 0) 1 28 := ⟨by decide +kernel, rfl⟩
theorem dc_X12_sumOf_28 : Dc miX12_sumOf 28 (.getfield 13) 3 31 := ⟨by decide +kernel, rfl⟩
theorem dc_X12_sumOf_31 : Dc miX12_sumOf 31 (.sipush 384) 3 34 := ⟨by decide +kernel, rfl⟩
theorem dc_X12_sumOf_34 : Dc miX12_sumOf 34 (.iconst 4) 1 35 := ⟨by decide +kernel, rfl⟩
theorem dc_X12_sumOf_35 : Dc miX12_sumOf 35 (.iload_n 3) 1 36 := ⟨by decide +kernel, rfl⟩
theorem dc_X12_sumOf_36 : Dc miX12_sumOf 36 (.imul) 1 37 := ⟨by decide +kernel, rfl⟩
theorem dc_X12_sumOf_37 : Dc miX12_sumOf 37 (.iadd) 1 38 := ⟨by decide +kernel, rfl⟩
theorem dc_X12_sumOf_38 : Dc miX12_sumOf 38 (.iaload) 1 39 := ⟨by decide +kernel, rfl⟩
theorem dc_X12_sumOf_39 : Dc miX12_sumOf 39 (.iload_n 1) 1 40 := ⟨by decide +kernel, rfl⟩
theorem dc_X12_sumOf_40 : Dc miX12_sumOf 40 (.if_icmp .ne 28) 3 43 := ⟨by decide +kernel, rfl⟩
theorem dc_X12_sumOf_43 : Dc miX12_sumOf 43 (.aload_n 0) 1 44 := ⟨by decide +kernel, rfl⟩
theorem dc_X12_sumOf_44 : Dc miX12_sumOf 44 (.iload_n 3) 1 45 := ⟨by decide +kernel, rfl⟩
theorem dc_X12_sumOf_45 : Dc miX12_sumOf 45 (.invokevirtual 304) 3 48 := ⟨by decide +kernel, rfl⟩
theorem dc_X12_sumOf_48 : Dc miX12_sumOf 48 (.ifCond .eq 20) 3 51 := ⟨by decide +kernel, rfl⟩
theorem dc_X12_sumOf_51 : Dc miX12_sumOf 51 (.iload_n 2) 1 52 := ⟨by decide +kernel, rfl⟩
theorem dc_X12_sumOf_52 : Dc miX12_sumOf 52 (.aload_n 0) 1 53 := ⟨by decide +kernel, rfl⟩
theorem dc_X12_sumOf_53 : Dc miX12_sumOf 53 (.getfield 13) 3 56 := ⟨by decide +kernel, rfl⟩
theorem dc_X12_sumOf_56 : Dc miX12_sumOf 56 (.sipush 384) 3 59 := ⟨by decide +kernel, rfl⟩
theorem dc_X12_sumOf_59 : Dc miX12_sumOf 59 (.iconst 4) 1 60 := ⟨by decide +kernel, rfl⟩
theorem dc_X12_sumOf_60 : Dc miX12_sumOf 60 (.iload_n 3) 1 61 := ⟨by decide +kernel, rfl⟩
theorem dc_X12_sumOf_61 : Dc miX12_sumOf 61 (.imul) 1 62 := ⟨by decide +kernel, rfl⟩
theorem dc_X12_sumOf_62 : Dc miX12_sumOf 62 (.iadd) 1 63 := ⟨by decide +kernel, rfl⟩
theorem dc_X12_sumOf_63 : Dc miX12_sumOf 63 (.iconst 1) 1 64 := ⟨by decide +kernel, rfl⟩
theorem dc_X12_sumOf_64 : Dc miX12_sumOf 64 (.iadd) 1 65 := ⟨by decide +kernel, rfl⟩
theorem dc_X12_sumOf_65 : Dc miX12_sumOf 65 (.iaload) 1 66 := ⟨by decide +kernel, rfl⟩
theorem dc_X12_sumOf_66 : Dc miX12_sumOf 66 (.iadd) 1 67 := ⟨by decide +kernel, rfl⟩
theorem dc_X12_sumOf_67 : Dc miX12_sumOf 67 (.istore_n 2) 1 68 := ⟨by decide +kernel, rfl⟩
theorem dc_X12_sumOf_68 : Dc miX12_sumOf 68 (.iinc 3 1) 3 71 := ⟨by decide +kernel, rfl⟩
theorem dc_X12_sumOf_71 : Dc miX12_sumOf 71 (.goto (-67)) 3 74 := ⟨by decide +kernel, rfl⟩
theorem dc_X12_sumOf_74 : Dc miX12_sumOf 74 (.iload_n 2) 1 75 := ⟨by decide +kernel, rfl⟩
theorem dc_X12_sumOf_75 : Dc miX12_sumOf 75 (.ireturn) 1 76 := ⟨by decide +kernel, rfl⟩
def fX12_sumOf_b4 (N : Nat) (G : pG) (a0 : Nat) (a1 : Int32) : (Int32 × Int32 × pS) → Option (Int32 × pS) := lp (fun (k4 : Int32 × Int32 × pS → Option (Int32 × pS)) (b : Int32 × Int32 × pS) => ck (inB (6 : Int32) (pN G (pR G a0 1))) (if (gA b.2.2 (pR G a0 1) (6 : Int32)) = (1 : Int32) then (ck (inB (383 : Int32) (pN G (pR G a0 1))) (if (gA b.2.2 (pR G a0 1) (383 : Int32)) ≤ b.2.1 then (some (b.1, b.2.2)) else (ck (inB ((384 : Int32) + ((4 : Int32) * b.2.1)) (pN G (pR G a0 1))) (if (gA b.2.2 (pR G a0 1) ((384 : Int32) + ((4 : Int32) * b.2.1))) = a1 then ((fX12_holdsLine N G a0 b.2.1 b.2.2).bind (fun q1 => if q1.1 = 0 then (k4 (b.1, b.2.1 + (1 : Int32), q1.2)) else (ck (inB (((384 : Int32) + ((4 : Int32) * b.2.1)) + (1 : Int32)) (pN G (pR G a0 1))) (k4 (b.1 + (gA q1.2 (pR G a0 1) (((384 : Int32) + ((4 : Int32) * b.2.1)) + (1 : Int32))), b.2.1 + (1 : Int32), q1.2))))) else (k4 (b.1, b.2.1 + (1 : Int32), b.2.2)))))) else (some (b.1, b.2.2)))) N
set_option maxRecDepth 100000 in
set_option maxHeartbeats 4000000 in
theorem tX12_sumOf_b4 {N : Nat} {G : pG} {SK : Nat → Nat} {a0 : Nat} {a1 : Int32} {b : Int32 × Int32 × pS} {r : Int32 × pS} (hW : WT G) (i0 : Is G a0 11) (h : fX12_sumOf_b4 N G a0 a1 b = some r) : Ev miX12_sumOf (3, 0, 0) G (Zp G (some (.int r.1)) r.2) SK (0, 0) 4 [some (.ref a0), some (.int a1), some (.int b.1), some (.int b.2.1)] [] b.2.2 := by
  unfold fX12_sumOf_b4 at h
  refine lp_ind (P := fun b r9 => r9 = r → Ev miX12_sumOf (3, 0, 0) G (Zp G (some (.int r.1)) r.2) SK (0, 0) 4 [some (.ref a0), some (.int a1), some (.int b.1), some (.int b.2.1)] [] b.2.2) (fun k4 b r9 ih h9 e9 => ?_) N b r h rfl
  clear h
  subst e9
  have h := h9
  clear h9
  have hk4 : ∀ b : Int32 × Int32 × pS, k4 b = some r9 → Ev miX12_sumOf (3, 0, 0) G (Zp G (some (.int r9.1)) r9.2) SK (0, 0) 4 [some (.ref a0), some (.int a1), some (.int b.1), some (.int b.2.1)] [] b.2.2 := fun b hb => ih b r9 hb rfl
  clear ih
  obtain ⟨x2, x3, σ⟩ := b
  dsimp only at h ⊢
  refine ev_aload_n dc_X12_sumOf_4 rfl ?_
  refine ev_getR dc_X12_sumOf_5 fi_X12_13 rfl i0 ?_
  refine ev_bipush (v := 6) dc_X12_sumOf_8 (by decide) ?_
  refine ev_iald dc_X12_sumOf_10 (wt hW i0 1 rfl rfl) h (fun h => ?_)
  refine ev_iconst (v := 1) dc_X12_sumOf_11 (by decide) ?_
  refine ev_icmp_ne (tgt := 74) dc_X12_sumOf_12 (by decide) h (fun h => ?_) (fun h => ?_)
  · refine ev_iload_n dc_X12_sumOf_15 rfl ?_
    refine ev_aload_n dc_X12_sumOf_16 rfl ?_
    refine ev_getR dc_X12_sumOf_17 fi_X12_13 rfl i0 ?_
    refine ev_sipush (v := 383) dc_X12_sumOf_20 (by decide) ?_
    refine ev_iald dc_X12_sumOf_23 (wt hW i0 1 rfl rfl) h (fun h => ?_)
    refine ev_icmp_ge (tgt := 74) dc_X12_sumOf_24 (by decide) h (fun h => ?_) (fun h => ?_)
    · refine ev_iload_n dc_X12_sumOf_74 rfl ?_
      cases h
      exact ev_iret dc_X12_sumOf_75 rfl rfl rfl
    · refine ev_aload_n dc_X12_sumOf_27 rfl ?_
      refine ev_getR dc_X12_sumOf_28 fi_X12_13 rfl i0 ?_
      refine ev_sipush (v := 384) dc_X12_sumOf_31 (by decide) ?_
      refine ev_iconst (v := 4) dc_X12_sumOf_34 (by decide) ?_
      refine ev_iload_n dc_X12_sumOf_35 rfl ?_
      refine ev_imul dc_X12_sumOf_36 ?_
      refine ev_iadd dc_X12_sumOf_37 ?_
      refine ev_iald dc_X12_sumOf_38 (wt hW i0 1 rfl rfl) h (fun h => ?_)
      refine ev_iload_n dc_X12_sumOf_39 rfl ?_
      refine ev_icmp_ne (tgt := 68) dc_X12_sumOf_40 (by decide) h (fun h => ?_) (fun h => ?_)
      · refine ev_aload_n dc_X12_sumOf_43 rfl ?_
        refine ev_iload_n dc_X12_sumOf_44 rfl ?_
        obtain ⟨q1, hq1, h⟩ := Option.bind_eq_some_iff.mp h
        refine ev_callV (av := [.int x3]) (st := []) (st1 := [.int q1.1]) dc_X12_sumOf_45 (tX12_holdsLine hW i0 hq1) mw_1836 cy_X12_holdsLine i0 (by decide) rfl rfl rfl rfl (Nat.le_of_ble_eq_true rfl) (Nat.le_of_ble_eq_true rfl) ⟨Nat.le_refl _, Nat.le_refl _⟩ ?_
        refine ev_if_eq (tgt := 68) dc_X12_sumOf_48 (by decide) h (fun h => ?_) (fun h => ?_)
        · refine ev_iinc (v := 1) (lv' := [some (.ref a0), some (.int a1), some (.int x2), some (.int (x3 + (1 : Int32)))]) dc_X12_sumOf_68 rfl (by decide) rfl (by decide) rfl ?_
          refine ev_goto (tgt := 4) dc_X12_sumOf_71 (by decide) ?_
          exact ev_sub (hk4 (x2, x3 + (1 : Int32), q1.2) h) (And.intro rfl (And.intro rfl (And.intro rfl (And.intro rfl trivial))))
        · refine ev_iload_n dc_X12_sumOf_51 rfl ?_
          refine ev_aload_n dc_X12_sumOf_52 rfl ?_
          refine ev_getR dc_X12_sumOf_53 fi_X12_13 rfl i0 ?_
          refine ev_sipush (v := 384) dc_X12_sumOf_56 (by decide) ?_
          refine ev_iconst (v := 4) dc_X12_sumOf_59 (by decide) ?_
          refine ev_iload_n dc_X12_sumOf_60 rfl ?_
          refine ev_imul dc_X12_sumOf_61 ?_
          refine ev_iadd dc_X12_sumOf_62 ?_
          refine ev_iconst (v := 1) dc_X12_sumOf_63 (by decide) ?_
          refine ev_iadd dc_X12_sumOf_64 ?_
          refine ev_iald dc_X12_sumOf_65 (wt hW i0 1 rfl rfl) h (fun h => ?_)
          refine ev_iadd dc_X12_sumOf_66 ?_
          refine ev_istore_n (lv' := [some (.ref a0), some (.int a1), some (.int (x2 + (gA q1.2 (pR G a0 1) (((384 : Int32) + ((4 : Int32) * x3)) + (1 : Int32))))), some (.int x3)]) dc_X12_sumOf_67 rfl (by decide) rfl ?_
          refine ev_iinc (v := 1) (lv' := [some (.ref a0), some (.int a1), some (.int (x2 + (gA q1.2 (pR G a0 1) (((384 : Int32) + ((4 : Int32) * x3)) + (1 : Int32))))), some (.int (x3 + (1 : Int32)))]) dc_X12_sumOf_68 rfl (by decide) rfl (by decide) rfl ?_
          refine ev_goto (tgt := 4) dc_X12_sumOf_71 (by decide) ?_
          exact ev_sub (hk4 (x2 + (gA q1.2 (pR G a0 1) (((384 : Int32) + ((4 : Int32) * x3)) + (1 : Int32))), x3 + (1 : Int32), q1.2) h) (And.intro rfl (And.intro rfl (And.intro rfl (And.intro rfl trivial))))
      · refine ev_iinc (v := 1) (lv' := [some (.ref a0), some (.int a1), some (.int x2), some (.int (x3 + (1 : Int32)))]) dc_X12_sumOf_68 rfl (by decide) rfl (by decide) rfl ?_
        refine ev_goto (tgt := 4) dc_X12_sumOf_71 (by decide) ?_
        exact ev_sub (hk4 (x2, x3 + (1 : Int32), σ) h) (And.intro rfl (And.intro rfl (And.intro rfl (And.intro rfl trivial))))
  · refine ev_iload_n dc_X12_sumOf_74 rfl ?_
    cases h
    exact ev_iret dc_X12_sumOf_75 rfl rfl rfl
def fX12_sumOf (N : Nat) (G : pG) (a0 : Nat) (a1 : Int32) (σ : pS) : Option (Int32 × pS) := fX12_sumOf_b4 N G a0 a1 ((0 : Int32), (0 : Int32), σ)
set_option maxRecDepth 100000 in
set_option maxHeartbeats 4000000 in
theorem tX12_sumOf {N : Nat} {G : pG} {SK : Nat → Nat} {a0 : Nat} {a1 : Int32} {σ : pS} {r : Int32 × pS} (hW : WT G) (i0 : Is G a0 11) (h : fX12_sumOf N G a0 a1 σ = some r) : Dn miX12_sumOf yX12_sumOf 3 G SK [.ref a0, .int a1] σ (some (.int r.1)) r.2 := by
  unfold fX12_sumOf at h
  refine dn_of (lv := [some (.ref a0), some (.int a1), none, none]) (by decide) rfl rfl (Nat.le_of_ble_eq_true rfl) rfl ?_
  refine ev_iconst (v := 0) dc_X12_sumOf_0 (by decide) ?_
  refine ev_istore_n (lv' := [some (.ref a0), some (.int a1), some (.int (0 : Int32)), none]) dc_X12_sumOf_1 rfl (by decide) rfl ?_
  refine ev_iconst (v := 0) dc_X12_sumOf_2 (by decide) ?_
  refine ev_istore_n (lv' := [some (.ref a0), some (.int a1), some (.int (0 : Int32)), some (.int (0 : Int32))]) dc_X12_sumOf_3 rfl (by decide) rfl ?_
  exact ev_sub (tX12_sumOf_b4 (b := ((0 : Int32), (0 : Int32), σ)) hW i0 h) (And.intro rfl (And.intro rfl (And.intro rfl (And.intro rfl trivial))))
theorem dc_X12_easesBy_0 : Dc miX12_easesBy 0 (.aload_n 0) 1 1 := ⟨by decide +kernel, rfl⟩
theorem dc_X12_easesBy_1 : Dc miX12_easesBy 1 (.iconst 0) 1 2 := ⟨by decide +kernel, rfl⟩
theorem dc_X12_easesBy_2 : Dc miX12_easesBy 2 (.putfield 280) 3 5 := ⟨by decide +kernel, rfl⟩
theorem dc_X12_easesBy_5 : Dc miX12_easesBy 5 (.aload_n 0) 1 6 := ⟨by decide +kernel, rfl⟩
theorem dc_X12_easesBy_6 : Dc miX12_easesBy 6 (.iconst 0) 1 7 := ⟨by decide +kernel, rfl⟩
theorem dc_X12_easesBy_7 : Dc miX12_easesBy 7 (.putfield 295) 3 10 := ⟨by decide +kernel, rfl⟩
theorem dc_X12_easesBy_10 : Dc miX12_easesBy 10 (.aload_n 0) 1 11 := ⟨by decide +kernel, rfl⟩
theorem dc_X12_easesBy_11 : Dc miX12_easesBy 11 (.iload_n 1) 1 12 := ⟨by decide +kernel, rfl⟩
theorem dc_X12_easesBy_12 : Dc miX12_easesBy 12 (.putfield 283) 3 15 := ⟨by decide +kernel, rfl⟩
theorem dc_X12_easesBy_15 : Dc miX12_easesBy 15 (.aload_n 0) 1 16 := ⟨by decide +kernel, rfl⟩
theorem dc_X12_easesBy_16 : Dc miX12_easesBy 16 (.iconst 0) 1 17 := ⟨by decide +kernel, rfl⟩
theorem dc_X12_easesBy_17 : Dc miX12_easesBy 17 (.putfield 298) 3 20 := ⟨by decide +kernel, rfl⟩
theorem dc_X12_easesBy_20 : Dc miX12_easesBy 20 (.aload_n 0) 1 21 := ⟨by decide +kernel, rfl⟩
theorem dc_X12_easesBy_21 : Dc miX12_easesBy 21 (.iload_n 1) 1 22 := ⟨by decide +kernel, rfl⟩
theorem dc_X12_easesBy_22 : Dc miX12_easesBy 22 (.iconst 0) 1 23 := ⟨by decide +kernel, rfl⟩
theorem dc_X12_easesBy_23 : Dc miX12_easesBy 23 (.invokevirtual 328) 3 26 := ⟨by decide +kernel, rfl⟩
theorem dc_X12_easesBy_26 : Dc miX12_easesBy 26 (.aload_n 0) 1 27 := ⟨by decide +kernel, rfl⟩
theorem dc_X12_easesBy_27 : Dc miX12_easesBy 27 (.iconst 2) 1 28 := ⟨by decide +kernel, rfl⟩
theorem dc_X12_easesBy_28 : Dc miX12_easesBy 28 (.invokevirtual 320) 3 31 := ⟨by decide +kernel, rfl⟩
theorem dc_X12_easesBy_31 : Dc miX12_easesBy 31 (.iadd) 1 32 := ⟨by decide +kernel, rfl⟩
theorem dc_X12_easesBy_32 : Dc miX12_easesBy 32 (.ireturn) 1 33 := ⟨by decide +kernel, rfl⟩
def fX12_easesBy (N : Nat) (G : pG) (a0 : Nat) (a1 : Int32) (σ : pS) : Option (Int32 × pS) := (fX12_ofDeed N G a0 a1 (0 : Int32) (putF (putF (putF (putF σ a0 18 (0 : Int32)) a0 20 (0 : Int32)) a0 19 a1) a0 24 (0 : Int32))).bind (fun q1 => (fX12_sumOf N G a0 (2 : Int32) (putF (putF (putF (putF σ a0 18 (0 : Int32)) a0 20 (0 : Int32)) a0 19 a1) a0 24 (0 : Int32))).bind (fun q2 => some (q1 + q2.1, q2.2)))
set_option maxRecDepth 100000 in
set_option maxHeartbeats 4000000 in
theorem tX12_easesBy {N : Nat} {G : pG} {SK : Nat → Nat} {a0 : Nat} {a1 : Int32} {σ : pS} {r : Int32 × pS} (hW : WT G) (i0 : Is G a0 11) (h : fX12_easesBy N G a0 a1 σ = some r) : Dn miX12_easesBy yX12_easesBy 4 G SK [.ref a0, .int a1] σ (some (.int r.1)) r.2 := by
  unfold fX12_easesBy at h
  refine dn_of (lv := [some (.ref a0), some (.int a1)]) (by decide) rfl rfl (Nat.le_of_ble_eq_true rfl) rfl ?_
  refine ev_aload_n dc_X12_easesBy_0 rfl ?_
  refine ev_iconst (v := 0) dc_X12_easesBy_1 (by decide) ?_
  refine ev_putI dc_X12_easesBy_2 fi_X12_280 rfl i0 ?_
  refine ev_aload_n dc_X12_easesBy_5 rfl ?_
  refine ev_iconst (v := 0) dc_X12_easesBy_6 (by decide) ?_
  refine ev_putI dc_X12_easesBy_7 fi_X12_295 rfl i0 ?_
  refine ev_aload_n dc_X12_easesBy_10 rfl ?_
  refine ev_iload_n dc_X12_easesBy_11 rfl ?_
  refine ev_putI dc_X12_easesBy_12 fi_X12_283 rfl i0 ?_
  refine ev_aload_n dc_X12_easesBy_15 rfl ?_
  refine ev_iconst (v := 0) dc_X12_easesBy_16 (by decide) ?_
  refine ev_putW dc_X12_easesBy_17 fi_X12_298 rfl rfl rfl i0 ?_
  refine ev_aload_n dc_X12_easesBy_20 rfl ?_
  refine ev_iload_n dc_X12_easesBy_21 rfl ?_
  refine ev_iconst (v := 0) dc_X12_easesBy_22 (by decide) ?_
  obtain ⟨q1, hq1, h⟩ := Option.bind_eq_some_iff.mp h
  refine ev_callV (av := [.int a1, .int (0 : Int32)]) (st := []) (st1 := [.int q1]) dc_X12_easesBy_23 (tX12_ofDeed hW i0 hq1) mw_1874 cy_X12_ofDeed i0 (by decide) rfl rfl rfl rfl (Nat.le_of_ble_eq_true rfl) (Nat.le_of_ble_eq_true rfl) ⟨Nat.le_refl _, Nat.le_refl _⟩ ?_
  refine ev_aload_n dc_X12_easesBy_26 rfl ?_
  refine ev_iconst (v := 2) dc_X12_easesBy_27 (by decide) ?_
  obtain ⟨q2, hq2, h⟩ := Option.bind_eq_some_iff.mp h
  refine ev_callV (av := [.int (2 : Int32)]) (st := [.int q1]) (st1 := [.int q2.1, .int q1]) dc_X12_easesBy_28 (tX12_sumOf hW i0 hq2) mw_1832 cy_X12_sumOf i0 (by decide) rfl rfl rfl rfl (Nat.le_of_ble_eq_true rfl) (Nat.le_of_ble_eq_true rfl) ⟨Nat.le_refl _, Nat.le_refl _⟩ ?_
  refine ev_iadd dc_X12_easesBy_31 ?_
  cases h
  exact ev_iret dc_X12_easesBy_32 rfl rfl rfl
theorem dc_X12_behindDeed_0 : Dc miX12_behindDeed 0 (.iconst 0) 1 1 := ⟨by decide +kernel, rfl⟩
theorem dc_X12_behindDeed_1 : Dc miX12_behindDeed 1 (.aload_n 0) 1 2 := ⟨by decide +kernel, rfl⟩
theorem dc_X12_behindDeed_2 : Dc miX12_behindDeed 2 (.getfield 286) 3 5 := ⟨by decide +kernel, rfl⟩
theorem dc_X12_behindDeed_5 : Dc miX12_behindDeed 5 (.aload_n 0) 1 6 := ⟨by decide +kernel, rfl⟩
theorem dc_X12_behindDeed_6 : Dc miX12_behindDeed 6 (.iload_n 1) 1 7 := ⟨by decide +kernel, rfl⟩
theorem dc_X12_behindDeed_7 : Dc miX12_behindDeed 7 (.invokevirtual 337) 3 10 := ⟨by decide +kernel, rfl⟩
theorem dc_X12_behindDeed_10 : Dc miX12_behindDeed 10 (.isub) 1 11 := ⟨by decide +kernel, rfl⟩
theorem dc_X12_behindDeed_11 : Dc miX12_behindDeed 11 (.invokestatic 323) 3 14 := ⟨by decide +kernel, rfl⟩
theorem dc_X12_behindDeed_14 : Dc miX12_behindDeed 14 (.ireturn) 1 15 := ⟨by decide +kernel, rfl⟩
def fX12_behindDeed (N : Nat) (G : pG) (a0 : Nat) (a1 : Int32) (σ : pS) : Option (Int32 × pS) := (fX12_easesBy N G a0 a1 σ).bind (fun q1 => some (jmax (0 : Int32) ((σ.1 a0 21) - q1.1), q1.2))
set_option maxRecDepth 100000 in
set_option maxHeartbeats 4000000 in
theorem tX12_behindDeed {N : Nat} {G : pG} {SK : Nat → Nat} {a0 : Nat} {a1 : Int32} {σ : pS} {r : Int32 × pS} (hW : WT G) (i0 : Is G a0 11) (h : fX12_behindDeed N G a0 a1 σ = some r) : Dn miX12_behindDeed yX12_behindDeed 5 G SK [.ref a0, .int a1] σ (some (.int r.1)) r.2 := by
  unfold fX12_behindDeed at h
  refine dn_of (lv := [some (.ref a0), some (.int a1)]) (by decide) rfl rfl (Nat.le_of_ble_eq_true rfl) rfl ?_
  refine ev_iconst (v := 0) dc_X12_behindDeed_0 (by decide) ?_
  refine ev_aload_n dc_X12_behindDeed_1 rfl ?_
  refine ev_getI dc_X12_behindDeed_2 fi_X12_286 rfl i0 ?_
  refine ev_aload_n dc_X12_behindDeed_5 rfl ?_
  refine ev_iload_n dc_X12_behindDeed_6 rfl ?_
  obtain ⟨q1, hq1, h⟩ := Option.bind_eq_some_iff.mp h
  refine ev_callV (av := [.int a1]) (st := [.int (σ.1 a0 21), .int (0 : Int32)]) (st1 := [.int q1.1, .int (σ.1 a0 21), .int (0 : Int32)]) dc_X12_behindDeed_7 (tX12_easesBy hW i0 hq1) mw_1870 cy_X12_easesBy i0 (by decide) rfl rfl rfl rfl (Nat.le_of_ble_eq_true rfl) (Nat.le_of_ble_eq_true rfl) ⟨Nat.le_refl _, Nat.le_refl _⟩ ?_
  refine ev_isub dc_X12_behindDeed_10 ?_
  refine ev_max dc_X12_behindDeed_11 mw_1844 (Nat.le_of_ble_eq_true rfl) (Nat.le_of_ble_eq_true rfl) ⟨Nat.le_refl _, Nat.le_refl _⟩ ?_
  cases h
  exact ev_iret dc_X12_behindDeed_14 rfl rfl rfl
theorem dc_X12_howMany_0 : Dc miX12_howMany 0 (.aload_n 0) 1 1 := ⟨by decide +kernel, rfl⟩
theorem dc_X12_howMany_1 : Dc miX12_howMany 1 (.getfield 13) 3 4 := ⟨by decide +kernel, rfl⟩
theorem dc_X12_howMany_4 : Dc miX12_howMany 4 (.bipush 12) 2 6 := ⟨by decide +kernel, rfl⟩
theorem dc_X12_howMany_6 : Dc miX12_howMany 6 (.iaload) 1 7 := ⟨by decide +kernel, rfl⟩
theorem dc_X12_howMany_7 : Dc miX12_howMany 7 (.invokestatic 139) 3 10 := ⟨by decide +kernel, rfl⟩
theorem dc_X12_howMany_10 : Dc miX12_howMany 10 (.ireturn) 1 11 := ⟨by decide +kernel, rfl⟩
def fX12_howMany (N : Nat) (G : pG) (a0 : Nat) (σ : pS) : Option (Int32) := ck (inB (12 : Int32) (pN G (pR G a0 1))) ((fJ6_bitCount_0f7a4 N G (gA σ (pR G a0 1) (12 : Int32)) σ).bind (fun q1 => some q1))
set_option maxRecDepth 100000 in
set_option maxHeartbeats 4000000 in
theorem tX12_howMany {N : Nat} {G : pG} {SK : Nat → Nat} {a0 : Nat} {σ : pS} {r : Int32} (hW : WT G) (i0 : Is G a0 11) (h : fX12_howMany N G a0 σ = some r) : Dn miX12_howMany yX12_howMany 2 G SK [.ref a0] σ (some (.int r)) σ := by
  unfold fX12_howMany at h
  refine dn_of (lv := [some (.ref a0)]) (by decide) rfl rfl (Nat.le_of_ble_eq_true rfl) rfl ?_
  refine ev_aload_n dc_X12_howMany_0 rfl ?_
  refine ev_getR dc_X12_howMany_1 fi_X12_13 rfl i0 ?_
  refine ev_bipush (v := 12) dc_X12_howMany_4 (by decide) ?_
  refine ev_iald dc_X12_howMany_6 (wt hW i0 1 rfl rfl) h (fun h => ?_)
  obtain ⟨q1, hq1, h⟩ := Option.bind_eq_some_iff.mp h
  refine ev_callS (av := [.int (gA σ (pR G a0 1) (12 : Int32))]) (st := []) (st1 := [.int q1]) dc_X12_howMany_7 (tJ6_bitCount_0f7a4 hW hq1) mw_1685 cs_J6_bitCount_0f7a4 rfl rfl rfl (Nat.le_of_ble_eq_true rfl) (Nat.le_of_ble_eq_true rfl) ⟨Nat.le_refl _, Nat.le_refl _⟩ ?_
  cases h
  exact ev_iret dc_X12_howMany_10 rfl rfl rfl
theorem dc_X12_looks_0 : Dc miX12_looks 0 (.aload_n 0) 1 1 := ⟨by decide +kernel, rfl⟩
theorem dc_X12_looks_1 : Dc miX12_looks 1 (.iload_n 1) 1 2 := ⟨by decide +kernel, rfl⟩
theorem dc_X12_looks_2 : Dc miX12_looks 2 (.putfield 286) 3 5 := ⟨by decide +kernel, rfl⟩
theorem dc_X12_looks_5 : Dc miX12_looks 5 (.aload_n 0) 1 6 := ⟨by decide +kernel, rfl⟩
theorem dc_X12_looks_6 : Dc miX12_looks 6 (.iload_n 2) 1 7 := ⟨by decide +kernel, rfl⟩
theorem dc_X12_looks_7 : Dc miX12_looks 7 (.putfield 289) 3 10 := ⟨by decide +kernel, rfl⟩
theorem dc_X12_looks_10 : Dc miX12_looks 10 (.aload_n 0) 1 11 := ⟨by decide +kernel, rfl⟩
theorem dc_X12_looks_11 : Dc miX12_looks 11 (.iload_n 3) 1 12 := ⟨by decide +kernel, rfl⟩
theorem dc_X12_looks_12 : Dc miX12_looks 12 (.putfield 292) 3 15 := ⟨by decide +kernel, rfl⟩
theorem dc_X12_looks_15 : Dc miX12_looks 15 (.return_) 1 16 := ⟨by decide +kernel, rfl⟩
def fX12_looks (N : Nat) (G : pG) (a0 : Nat) (a1 : Int32) (a2 : Int32) (a3 : Int32) (σ : pS) : Option (pS) := some (putF (putF (putF σ a0 21 a1) a0 22 a2) a0 23 a3)
set_option maxRecDepth 100000 in
set_option maxHeartbeats 4000000 in
theorem tX12_looks {N : Nat} {G : pG} {SK : Nat → Nat} {a0 : Nat} {a1 : Int32} {a2 : Int32} {a3 : Int32} {σ : pS} {r : pS} (hW : WT G) (i0 : Is G a0 11) (h : fX12_looks N G a0 a1 a2 a3 σ = some r) : Dn miX12_looks yX12_looks 1 G SK [.ref a0, .int a1, .int a2, .int a3] σ none r := by
  unfold fX12_looks at h
  refine dn_of (lv := [some (.ref a0), some (.int a1), some (.int a2), some (.int a3)]) (by decide) rfl rfl (Nat.le_of_ble_eq_true rfl) rfl ?_
  refine ev_aload_n dc_X12_looks_0 rfl ?_
  refine ev_iload_n dc_X12_looks_1 rfl ?_
  refine ev_putI dc_X12_looks_2 fi_X12_286 rfl i0 ?_
  refine ev_aload_n dc_X12_looks_5 rfl ?_
  refine ev_iload_n dc_X12_looks_6 rfl ?_
  refine ev_putI dc_X12_looks_7 fi_X12_289 rfl i0 ?_
  refine ev_aload_n dc_X12_looks_10 rfl ?_
  refine ev_iload_n dc_X12_looks_11 rfl ?_
  refine ev_putI dc_X12_looks_12 fi_X12_292 rfl i0 ?_
  cases h
  exact ev_vret dc_X12_looks_15 rfl rfl rfl
theorem dc_X12_looksNow_0 : Dc miX12_looksNow 0 (.aload_n 0) 1 1 := ⟨by decide +kernel, rfl⟩
theorem dc_X12_looksNow_1 : Dc miX12_looksNow 1 (.aload_n 0) 1 2 := ⟨by decide +kernel, rfl⟩
theorem dc_X12_looksNow_2 : Dc miX12_looksNow 2 (.getfield 13) 3 5 := ⟨by decide +kernel, rfl⟩
theorem dc_X12_looksNow_5 : Dc miX12_looksNow 5 (.bipush 7) 2 7 := ⟨by decide +kernel, rfl⟩
theorem dc_X12_looksNow_7 : Dc miX12_looksNow 7 (.iaload) 1 8 := ⟨by decide +kernel, rfl⟩
theorem dc_X12_looksNow_8 : Dc miX12_looksNow 8 (.aload_n 0) 1 9 := ⟨by decide +kernel, rfl⟩
theorem dc_X12_looksNow_9 : Dc miX12_looksNow 9 (.getfield 13) 3 12 := ⟨by decide +kernel, rfl⟩
theorem dc_X12_looksNow_12 : Dc miX12_looksNow 12 (.bipush 9) 2 14 := ⟨by decide +kernel, rfl⟩
theorem dc_X12_looksNow_14 : Dc miX12_looksNow 14 (.iaload) 1 15 := ⟨by decide +kernel, rfl⟩
theorem dc_X12_looksNow_15 : Dc miX12_looksNow 15 (.aload_n 0) 1 16 := ⟨by decide +kernel, rfl⟩
theorem dc_X12_looksNow_16 : Dc miX12_looksNow 16 (.invokevirtual 307) 3 19 := ⟨by decide +kernel, rfl⟩
theorem dc_X12_looksNow_19 : Dc miX12_looksNow 19 (.invokevirtual 310) 3 22 := ⟨by decide +kernel, rfl⟩
theorem dc_X12_looksNow_22 : Dc miX12_looksNow 22 (.return_) 1 23 := ⟨by decide +kernel, rfl⟩
def fX12_looksNow (N : Nat) (G : pG) (a0 : Nat) (σ : pS) : Option (pS) := ck (inB (7 : Int32) (pN G (pR G a0 1))) (ck (inB (9 : Int32) (pN G (pR G a0 1))) ((fX12_howMany N G a0 σ).bind (fun q1 => (fX12_looks N G a0 (gA σ (pR G a0 1) (7 : Int32)) (gA σ (pR G a0 1) (9 : Int32)) q1 σ).bind (fun q2 => some q2))))
set_option maxRecDepth 100000 in
set_option maxHeartbeats 4000000 in
theorem tX12_looksNow {N : Nat} {G : pG} {SK : Nat → Nat} {a0 : Nat} {σ : pS} {r : pS} (hW : WT G) (i0 : Is G a0 11) (h : fX12_looksNow N G a0 σ = some r) : Dn miX12_looksNow yX12_looksNow 3 G SK [.ref a0] σ none r := by
  unfold fX12_looksNow at h
  refine dn_of (lv := [some (.ref a0)]) (by decide) rfl rfl (Nat.le_of_ble_eq_true rfl) rfl ?_
  refine ev_aload_n dc_X12_looksNow_0 rfl ?_
  refine ev_aload_n dc_X12_looksNow_1 rfl ?_
  refine ev_getR dc_X12_looksNow_2 fi_X12_13 rfl i0 ?_
  refine ev_bipush (v := 7) dc_X12_looksNow_5 (by decide) ?_
  refine ev_iald dc_X12_looksNow_7 (wt hW i0 1 rfl rfl) h (fun h => ?_)
  refine ev_aload_n dc_X12_looksNow_8 rfl ?_
  refine ev_getR dc_X12_looksNow_9 fi_X12_13 rfl i0 ?_
  refine ev_bipush (v := 9) dc_X12_looksNow_12 (by decide) ?_
  refine ev_iald dc_X12_looksNow_14 (wt hW i0 1 rfl rfl) h (fun h => ?_)
  refine ev_aload_n dc_X12_looksNow_15 rfl ?_
  obtain ⟨q1, hq1, h⟩ := Option.bind_eq_some_iff.mp h
  refine ev_callV (av := []) (st := [.int (gA σ (pR G a0 1) (9 : Int32)), .int (gA σ (pR G a0 1) (7 : Int32)), .ref a0]) (st1 := [.int q1, .int (gA σ (pR G a0 1) (9 : Int32)), .int (gA σ (pR G a0 1) (7 : Int32)), .ref a0]) dc_X12_looksNow_16 (tX12_howMany hW i0 hq1) mw_1808 cy_X12_howMany i0 (by decide) rfl rfl rfl rfl (Nat.le_of_ble_eq_true rfl) (Nat.le_of_ble_eq_true rfl) ⟨Nat.le_refl _, Nat.le_refl _⟩ ?_
  obtain ⟨q2, hq2, h⟩ := Option.bind_eq_some_iff.mp h
  refine ev_callV (av := [.int (gA σ (pR G a0 1) (7 : Int32)), .int (gA σ (pR G a0 1) (9 : Int32)), .int q1]) (st := []) (st1 := []) dc_X12_looksNow_19 (tX12_looks hW i0 hq2) mw_1812 cy_X12_looks i0 (by decide) rfl rfl rfl rfl (Nat.le_of_ble_eq_true rfl) (Nat.le_of_ble_eq_true rfl) ⟨Nat.le_refl _, Nat.le_refl _⟩ ?_
  cases h
  exact ev_vret dc_X12_looksNow_22 rfl rfl rfl
theorem dc_X12_isDone_0 : Dc miX12_isDone 0 (.aload_n 0) 1 1 := ⟨by decide +kernel, rfl⟩
theorem dc_X12_isDone_1 : Dc miX12_isDone 1 (.invokevirtual 349) 3 4 := ⟨by decide +kernel, rfl⟩
theorem dc_X12_isDone_4 : Dc miX12_isDone 4 (.aload_n 0) 1 5 := ⟨by decide +kernel, rfl⟩
theorem dc_X12_isDone_5 : Dc miX12_isDone 5 (.getfield 13) 3 8 := ⟨by decide +kernel, rfl⟩
theorem dc_X12_isDone_8 : Dc miX12_isDone 8 (.bipush 7) 2 10 := ⟨by decide +kernel, rfl⟩
theorem dc_X12_isDone_10 : Dc miX12_isDone 10 (.aload_n 0) 1 11 := ⟨by decide +kernel, rfl⟩
theorem dc_X12_isDone_11 : Dc miX12_isDone 11 (.iload_n 1) 1 12 := ⟨by decide +kernel, rfl⟩
theorem dc_X12_isDone_12 : Dc miX12_isDone 12 (.invokevirtual 364) 3 15 := ⟨by decide +kernel, rfl⟩
theorem dc_X12_isDone_15 : Dc miX12_isDone 15 (.iastore) 1 16 := ⟨by decide +kernel, rfl⟩
theorem dc_X12_isDone_16 : Dc miX12_isDone 16 (.return_) 1 17 := ⟨by decide +kernel, rfl⟩
def fX12_isDone (N : Nat) (G : pG) (a0 : Nat) (a1 : Int32) (σ : pS) : Option (pS) := (fX12_looksNow N G a0 σ).bind (fun q1 => (fX12_behindDeed N G a0 a1 q1).bind (fun q2 => ck (inB (7 : Int32) (pN G (pR G a0 1))) (some (sA q2.2 (pR G a0 1) (7 : Int32) q2.1))))
set_option maxRecDepth 100000 in
set_option maxHeartbeats 4000000 in
theorem tX12_isDone {N : Nat} {G : pG} {SK : Nat → Nat} {a0 : Nat} {a1 : Int32} {σ : pS} {r : pS} (hW : WT G) (i0 : Is G a0 11) (h : fX12_isDone N G a0 a1 σ = some r) : Dn miX12_isDone yX12_isDone 6 G SK [.ref a0, .int a1] σ none r := by
  unfold fX12_isDone at h
  refine dn_of (lv := [some (.ref a0), some (.int a1)]) (by decide) rfl rfl (Nat.le_of_ble_eq_true rfl) rfl ?_
  refine ev_aload_n dc_X12_isDone_0 rfl ?_
  obtain ⟨q1, hq1, h⟩ := Option.bind_eq_some_iff.mp h
  refine ev_callV (av := []) (st := []) (st1 := []) dc_X12_isDone_1 (tX12_looksNow hW i0 hq1) mw_1804 cy_X12_looksNow i0 (by decide) rfl rfl rfl rfl (Nat.le_of_ble_eq_true rfl) (Nat.le_of_ble_eq_true rfl) ⟨Nat.le_refl _, Nat.le_refl _⟩ ?_
  refine ev_aload_n dc_X12_isDone_4 rfl ?_
  refine ev_getR dc_X12_isDone_5 fi_X12_13 rfl i0 ?_
  refine ev_bipush (v := 7) dc_X12_isDone_8 (by decide) ?_
  refine ev_aload_n dc_X12_isDone_10 rfl ?_
  refine ev_iload_n dc_X12_isDone_11 rfl ?_
  obtain ⟨q2, hq2, h⟩ := Option.bind_eq_some_iff.mp h
  refine ev_callV (av := [.int a1]) (st := [.int (7 : Int32), .ref (pR G a0 1)]) (st1 := [.int q2.1, .int (7 : Int32), .ref (pR G a0 1)]) dc_X12_isDone_12 (tX12_behindDeed hW i0 hq2) mw_1930 cy_X12_behindDeed i0 (by decide) rfl rfl rfl rfl (Nat.le_of_ble_eq_true rfl) (Nat.le_of_ble_eq_true rfl) ⟨Nat.le_refl _, Nat.le_refl _⟩ ?_
  refine ev_iast dc_X12_isDone_15 (wt hW i0 1 rfl rfl) h (fun h => ?_)
  cases h
  exact ev_vret dc_X12_isDone_16 rfl rfl rfl
theorem dc_X12_isGone_0 : Dc miX12_isGone 0 (.aload_n 0) 1 1 := ⟨by decide +kernel, rfl⟩
theorem dc_X12_isGone_1 : Dc miX12_isGone 1 (.getfield 13) 3 4 := ⟨by decide +kernel, rfl⟩
theorem dc_X12_isGone_4 : Dc miX12_isGone 4 (.bipush 13) 2 6 := ⟨by decide +kernel, rfl⟩
theorem dc_X12_isGone_6 : Dc miX12_isGone 6 (.iaload) 1 7 := ⟨by decide +kernel, rfl⟩
theorem dc_X12_isGone_7 : Dc miX12_isGone 7 (.iconst 1) 1 8 := ⟨by decide +kernel, rfl⟩
theorem dc_X12_isGone_8 : Dc miX12_isGone 8 (.if_icmp .ne 7) 3 11 := ⟨by decide +kernel, rfl⟩
theorem dc_X12_isGone_11 : Dc miX12_isGone 11 (.iconst 1) 1 12 := ⟨by decide +kernel, rfl⟩
theorem dc_X12_isGone_12 : Dc miX12_isGone 12 (.goto 4) 3 15 := ⟨by decide +kernel, rfl⟩
theorem dc_X12_isGone_15 : Dc miX12_isGone 15 (.iconst 0) 1 16 := ⟨by decide +kernel, rfl⟩
theorem dc_X12_isGone_16 : Dc miX12_isGone 16 (.ireturn) 1 17 := ⟨by decide +kernel, rfl⟩
def fX12_isGone (N : Nat) (G : pG) (a0 : Nat) (σ : pS) : Option (Int32) := ck (inB (13 : Int32) (pN G (pR G a0 1))) (if (gA σ (pR G a0 1) (13 : Int32)) = (1 : Int32) then (some (1 : Int32)) else (some (0 : Int32)))
set_option maxRecDepth 100000 in
set_option maxHeartbeats 4000000 in
theorem tX12_isGone {N : Nat} {G : pG} {SK : Nat → Nat} {a0 : Nat} {σ : pS} {r : Int32} (hW : WT G) (i0 : Is G a0 11) (h : fX12_isGone N G a0 σ = some r) : Dn miX12_isGone yX12_isGone 1 G SK [.ref a0] σ (some (.int r)) σ := by
  unfold fX12_isGone at h
  refine dn_of (lv := [some (.ref a0)]) (by decide) rfl rfl (Nat.le_of_ble_eq_true rfl) rfl ?_
  refine ev_aload_n dc_X12_isGone_0 rfl ?_
  refine ev_getR dc_X12_isGone_1 fi_X12_13 rfl i0 ?_
  refine ev_bipush (v := 13) dc_X12_isGone_4 (by decide) ?_
  refine ev_iald dc_X12_isGone_6 (wt hW i0 1 rfl rfl) h (fun h => ?_)
  refine ev_iconst (v := 1) dc_X12_isGone_7 (by decide) ?_
  refine ev_icmp_ne (tgt := 15) dc_X12_isGone_8 (by decide) h (fun h => ?_) (fun h => ?_)
  · refine ev_iconst (v := 1) dc_X12_isGone_11 (by decide) ?_
    refine ev_goto (tgt := 16) dc_X12_isGone_12 (by decide) ?_
    cases h
    exact ev_zretc dc_X12_isGone_16 rfl rfl rfl rfl
  · refine ev_iconst (v := 0) dc_X12_isGone_15 (by decide) ?_
    cases h
    exact ev_zretc dc_X12_isGone_16 rfl rfl rfl rfl
theorem dc_X12_ofWho_0 : Dc miX12_ofWho 0 (.aload_n 0) 1 1 := ⟨by decide +kernel, rfl⟩
theorem dc_X12_ofWho_1 : Dc miX12_ofWho 1 (.getfield 13) 3 4 := ⟨by decide +kernel, rfl⟩
theorem dc_X12_ofWho_4 : Dc miX12_ofWho 4 (.bipush 37) 2 6 := ⟨by decide +kernel, rfl⟩
theorem dc_X12_ofWho_6 : Dc miX12_ofWho 6 (.iconst 3) 1 7 := ⟨by decide +kernel, rfl⟩
theorem dc_X12_ofWho_7 : Dc miX12_ofWho 7 (.iload_n 1) 1 8 := ⟨by decide +kernel, rfl⟩
theorem dc_X12_ofWho_8 : Dc miX12_ofWho 8 (.imul) 1 9 := ⟨by decide +kernel, rfl⟩
theorem dc_X12_ofWho_9 : Dc miX12_ofWho 9 (.iadd) 1 10 := ⟨by decide +kernel, rfl⟩
theorem dc_X12_ofWho_10 : Dc miX12_ofWho 10 (.iload_n 2) 1 11 := ⟨by decide +kernel, rfl⟩
theorem dc_X12_ofWho_11 : Dc miX12_ofWho 11 (.iadd) 1 12 := ⟨by decide +kernel, rfl⟩
theorem dc_X12_ofWho_12 : Dc miX12_ofWho 12 (.iaload) 1 13 := ⟨by decide +kernel, rfl⟩
theorem dc_X12_ofWho_13 : Dc miX12_ofWho 13 (.ireturn) 1 14 := ⟨by decide +kernel, rfl⟩
def fX12_ofWho (N : Nat) (G : pG) (a0 : Nat) (a1 : Int32) (a2 : Int32) (σ : pS) : Option (Int32) := ck (inB (((37 : Int32) + ((3 : Int32) * a1)) + a2) (pN G (pR G a0 1))) (some (gA σ (pR G a0 1) (((37 : Int32) + ((3 : Int32) * a1)) + a2)))
set_option maxRecDepth 100000 in
set_option maxHeartbeats 4000000 in
theorem tX12_ofWho {N : Nat} {G : pG} {SK : Nat → Nat} {a0 : Nat} {a1 : Int32} {a2 : Int32} {σ : pS} {r : Int32} (hW : WT G) (i0 : Is G a0 11) (h : fX12_ofWho N G a0 a1 a2 σ = some r) : Dn miX12_ofWho yX12_ofWho 1 G SK [.ref a0, .int a1, .int a2] σ (some (.int r)) σ := by
  unfold fX12_ofWho at h
  refine dn_of (lv := [some (.ref a0), some (.int a1), some (.int a2)]) (by decide) rfl rfl (Nat.le_of_ble_eq_true rfl) rfl ?_
  refine ev_aload_n dc_X12_ofWho_0 rfl ?_
  refine ev_getR dc_X12_ofWho_1 fi_X12_13 rfl i0 ?_
  refine ev_bipush (v := 37) dc_X12_ofWho_4 (by decide) ?_
  refine ev_iconst (v := 3) dc_X12_ofWho_6 (by decide) ?_
  refine ev_iload_n dc_X12_ofWho_7 rfl ?_
  refine ev_imul dc_X12_ofWho_8 ?_
  refine ev_iadd dc_X12_ofWho_9 ?_
  refine ev_iload_n dc_X12_ofWho_10 rfl ?_
  refine ev_iadd dc_X12_ofWho_11 ?_
  refine ev_iald dc_X12_ofWho_12 (wt hW i0 1 rfl rfl) h (fun h => ?_)
  cases h
  exact ev_iret dc_X12_ofWho_13 rfl rfl rfl
theorem dc_X12_isNear_0 : Dc miX12_isNear 0 (.aload_n 0) 1 1 := ⟨by decide +kernel, rfl⟩
theorem dc_X12_isNear_1 : Dc miX12_isNear 1 (.iload_n 1) 1 2 := ⟨by decide +kernel, rfl⟩
theorem dc_X12_isNear_2 : Dc miX12_isNear 2 (.iconst 2) 1 3 := ⟨by decide +kernel, rfl⟩
theorem dc_X12_isNear_3 : Dc miX12_isNear 3 (.invokevirtual 62) 3 6 := ⟨by decide +kernel, rfl⟩
theorem dc_X12_isNear_6 : Dc miX12_isNear 6 (.iconst 1) 1 7 := ⟨by decide +kernel, rfl⟩
theorem dc_X12_isNear_7 : Dc miX12_isNear 7 (.if_icmp .ne 7) 3 10 := ⟨by decide +kernel, rfl⟩
theorem dc_X12_isNear_10 : Dc miX12_isNear 10 (.iconst 1) 1 11 := ⟨by decide +kernel, rfl⟩
theorem dc_X12_isNear_11 : Dc miX12_isNear 11 (.goto 4) 3 14 := ⟨by decide +kernel, rfl⟩
theorem dc_X12_isNear_14 : Dc miX12_isNear 14 (.iconst 0) 1 15 := ⟨by decide +kernel, rfl⟩
theorem dc_X12_isNear_15 : Dc miX12_isNear 15 (.ireturn) 1 16 := ⟨by decide +kernel, rfl⟩
def fX12_isNear (N : Nat) (G : pG) (a0 : Nat) (a1 : Int32) (σ : pS) : Option (Int32) := (fX12_ofWho N G a0 a1 (2 : Int32) σ).bind (fun q1 => if q1 = (1 : Int32) then (some (1 : Int32)) else (some (0 : Int32)))
set_option maxRecDepth 100000 in
set_option maxHeartbeats 4000000 in
theorem tX12_isNear {N : Nat} {G : pG} {SK : Nat → Nat} {a0 : Nat} {a1 : Int32} {σ : pS} {r : Int32} (hW : WT G) (i0 : Is G a0 11) (h : fX12_isNear N G a0 a1 σ = some r) : Dn miX12_isNear yX12_isNear 2 G SK [.ref a0, .int a1] σ (some (.int r)) σ := by
  unfold fX12_isNear at h
  refine dn_of (lv := [some (.ref a0), some (.int a1)]) (by decide) rfl rfl (Nat.le_of_ble_eq_true rfl) rfl ?_
  refine ev_aload_n dc_X12_isNear_0 rfl ?_
  refine ev_iload_n dc_X12_isNear_1 rfl ?_
  refine ev_iconst (v := 2) dc_X12_isNear_2 (by decide) ?_
  obtain ⟨q1, hq1, h⟩ := Option.bind_eq_some_iff.mp h
  refine ev_callV (av := [.int a1, .int (2 : Int32)]) (st := []) (st1 := [.int q1]) dc_X12_isNear_3 (tX12_ofWho hW i0 hq1) mw_1886 cy_X12_ofWho i0 (by decide) rfl rfl rfl rfl (Nat.le_of_ble_eq_true rfl) (Nat.le_of_ble_eq_true rfl) ⟨Nat.le_refl _, Nat.le_refl _⟩ ?_
  refine ev_iconst (v := 1) dc_X12_isNear_6 (by decide) ?_
  refine ev_icmp_ne (tgt := 14) dc_X12_isNear_7 (by decide) h (fun h => ?_) (fun h => ?_)
  · refine ev_iconst (v := 1) dc_X12_isNear_10 (by decide) ?_
    refine ev_goto (tgt := 15) dc_X12_isNear_11 (by decide) ?_
    cases h
    exact ev_zretc dc_X12_isNear_15 rfl rfl rfl rfl
  · refine ev_iconst (v := 0) dc_X12_isNear_14 (by decide) ?_
    cases h
    exact ev_zretc dc_X12_isNear_15 rfl rfl rfl rfl
theorem dc_X12_isOver_0 : Dc miX12_isOver 0 (.aload_n 0) 1 1 := ⟨by decide +kernel, rfl⟩
theorem dc_X12_isOver_1 : Dc miX12_isOver 1 (.invokevirtual 367) 3 4 := ⟨by decide +kernel, rfl⟩
theorem dc_X12_isOver_4 : Dc miX12_isOver 4 (.ifCond .ne 20) 3 7 := ⟨by decide +kernel, rfl⟩
theorem dc_X12_isOver_7 : Dc miX12_isOver 7 (.aload_n 0) 1 8 := ⟨by decide +kernel, rfl⟩
theorem dc_X12_isOver_8 : Dc miX12_isOver 8 (.getfield 13) 3 11 := ⟨by decide +kernel, rfl⟩
theorem dc_X12_isOver_11 : Dc miX12_isOver 11 (.bipush 9) 2 13 := ⟨by decide +kernel, rfl⟩
theorem dc_X12_isOver_13 : Dc miX12_isOver 13 (.iaload) 1 14 := ⟨by decide +kernel, rfl⟩
theorem dc_X12_isOver_14 : Dc miX12_isOver 14 (.aload_n 0) 1 15 := ⟨by decide +kernel, rfl⟩
theorem dc_X12_isOver_15 : Dc miX12_isOver 15 (.getfield 13) 3 18 := ⟨by decide +kernel, rfl⟩
theorem dc_X12_isOver_18 : Dc miX12_isOver 18 (.bipush 10) 2 20 := ⟨by decide +kernel, rfl⟩
theorem dc_X12_isOver_20 : Dc miX12_isOver 20 (.iaload) 1 21 := ⟨by decide +kernel, rfl⟩
theorem dc_X12_isOver_21 : Dc miX12_isOver 21 (.if_icmp .lt 7) 3 24 := ⟨by decide +kernel, rfl⟩
theorem dc_X12_isOver_24 : Dc miX12_isOver 24 (.iconst 1) 1 25 := ⟨by decide +kernel, rfl⟩
theorem dc_X12_isOver_25 : Dc miX12_isOver 25 (.goto 4) 3 28 := ⟨by decide +kernel, rfl⟩
theorem dc_X12_isOver_28 : Dc miX12_isOver 28 (.iconst 0) 1 29 := ⟨by decide +kernel, rfl⟩
theorem dc_X12_isOver_29 : Dc miX12_isOver 29 (.ireturn) 1 30 := ⟨by decide +kernel, rfl⟩
def fX12_isOver_b24 (N : Nat) (G : pG) (σ : pS) : Option (Int32) := some (1 : Int32)
set_option maxRecDepth 100000 in
set_option maxHeartbeats 4000000 in
theorem tX12_isOver_b24 {N : Nat} {G : pG} {SK : Nat → Nat} {σ : pS} {r : Int32} (hW : WT G) (h : fX12_isOver_b24 N G σ = some r) : Ev miX12_isOver (2, 0, 0) G (Zp G (some (.int r)) σ) SK (0, 0) 24 [none] [] σ := by
  unfold fX12_isOver_b24 at h
  refine ev_iconst (v := 1) dc_X12_isOver_24 (by decide) ?_
  refine ev_goto (tgt := 29) dc_X12_isOver_25 (by decide) ?_
  cases h
  exact ev_zretc dc_X12_isOver_29 rfl rfl rfl rfl
def fX12_isOver (N : Nat) (G : pG) (a0 : Nat) (σ : pS) : Option (Int32) := (fX12_isGone N G a0 σ).bind (fun q1 => if q1 = 0 then (ck (inB (9 : Int32) (pN G (pR G a0 1))) (ck (inB (10 : Int32) (pN G (pR G a0 1))) (if (gA σ (pR G a0 1) (9 : Int32)) < (gA σ (pR G a0 1) (10 : Int32)) then (some (0 : Int32)) else (fX12_isOver_b24 N G σ)))) else (fX12_isOver_b24 N G σ))
set_option maxRecDepth 100000 in
set_option maxHeartbeats 4000000 in
theorem tX12_isOver {N : Nat} {G : pG} {SK : Nat → Nat} {a0 : Nat} {σ : pS} {r : Int32} (hW : WT G) (i0 : Is G a0 11) (h : fX12_isOver N G a0 σ = some r) : Dn miX12_isOver yX12_isOver 2 G SK [.ref a0] σ (some (.int r)) σ := by
  unfold fX12_isOver at h
  refine dn_of (lv := [some (.ref a0)]) (by decide) rfl rfl (Nat.le_of_ble_eq_true rfl) rfl ?_
  refine ev_aload_n dc_X12_isOver_0 rfl ?_
  obtain ⟨q1, hq1, h⟩ := Option.bind_eq_some_iff.mp h
  refine ev_callV (av := []) (st := []) (st1 := [.int q1]) dc_X12_isOver_1 (tX12_isGone hW i0 hq1) mw_1902 cy_X12_isGone i0 (by decide) rfl rfl rfl rfl (Nat.le_of_ble_eq_true rfl) (Nat.le_of_ble_eq_true rfl) ⟨Nat.le_refl _, Nat.le_refl _⟩ ?_
  refine ev_if_ne (tgt := 24) dc_X12_isOver_4 (by decide) h (fun h => ?_) (fun h => ?_)
  · refine ev_aload_n dc_X12_isOver_7 rfl ?_
    refine ev_getR dc_X12_isOver_8 fi_X12_13 rfl i0 ?_
    refine ev_bipush (v := 9) dc_X12_isOver_11 (by decide) ?_
    refine ev_iald dc_X12_isOver_13 (wt hW i0 1 rfl rfl) h (fun h => ?_)
    refine ev_aload_n dc_X12_isOver_14 rfl ?_
    refine ev_getR dc_X12_isOver_15 fi_X12_13 rfl i0 ?_
    refine ev_bipush (v := 10) dc_X12_isOver_18 (by decide) ?_
    refine ev_iald dc_X12_isOver_20 (wt hW i0 1 rfl rfl) h (fun h => ?_)
    refine ev_icmp_lt (tgt := 28) dc_X12_isOver_21 (by decide) h (fun h => ?_) (fun h => ?_)
    · refine ev_iconst (v := 0) dc_X12_isOver_28 (by decide) ?_
      cases h
      exact ev_zretc dc_X12_isOver_29 rfl rfl rfl rfl
    · exact ev_sub (tX12_isOver_b24 hW h) trivial
  · exact ev_sub (tX12_isOver_b24 hW h) trivial
theorem dc_X12_has_0 : Dc miX12_has 0 (.iload_n 0) 1 1 := ⟨by decide +kernel, rfl⟩
theorem dc_X12_has_1 : Dc miX12_has 1 (.iload_n 1) 1 2 := ⟨by decide +kernel, rfl⟩
theorem dc_X12_has_2 : Dc miX12_has 2 (.ishr) 1 3 := ⟨by decide +kernel, rfl⟩
theorem dc_X12_has_3 : Dc miX12_has 3 (.iconst 1) 1 4 := ⟨by decide +kernel, rfl⟩
theorem dc_X12_has_4 : Dc miX12_has 4 (.iand) 1 5 := ⟨by decide +kernel, rfl⟩
theorem dc_X12_has_5 : Dc miX12_has 5 (.iconst 1) 1 6 := ⟨by decide +kernel, rfl⟩
theorem dc_X12_has_6 : Dc miX12_has 6 (.if_icmp .ne 7) 3 9 := ⟨by decide +kernel, rfl⟩
theorem dc_X12_has_9 : Dc miX12_has 9 (.iconst 1) 1 10 := ⟨by decide +kernel, rfl⟩
theorem dc_X12_has_10 : Dc miX12_has 10 (.goto 4) 3 13 := ⟨by decide +kernel, rfl⟩
theorem dc_X12_has_13 : Dc miX12_has 13 (.iconst 0) 1 14 := ⟨by decide +kernel, rfl⟩
theorem dc_X12_has_14 : Dc miX12_has 14 (.ireturn) 1 15 := ⟨by decide +kernel, rfl⟩
def fX12_has (N : Nat) (G : pG) (a0 : Int32) (a1 : Int32) (σ : pS) : Option (Int32) := if ((a0 >>> (a1 &&& 31)) &&& (1 : Int32)) = (1 : Int32) then (some (1 : Int32)) else (some (0 : Int32))
set_option maxRecDepth 100000 in
set_option maxHeartbeats 4000000 in
theorem tX12_has {N : Nat} {G : pG} {SK : Nat → Nat} {a0 : Int32} {a1 : Int32} {σ : pS} {r : Int32} (hW : WT G) (h : fX12_has N G a0 a1 σ = some r) : Dn miX12_has yX12_has 1 G SK [.int a0, .int a1] σ (some (.int r)) σ := by
  unfold fX12_has at h
  refine dn_of (lv := [some (.int a0), some (.int a1)]) (by decide) rfl rfl (Nat.le_of_ble_eq_true rfl) rfl ?_
  refine ev_iload_n dc_X12_has_0 rfl ?_
  refine ev_iload_n dc_X12_has_1 rfl ?_
  refine ev_ishr dc_X12_has_2 ?_
  refine ev_iconst (v := 1) dc_X12_has_3 (by decide) ?_
  refine ev_iand dc_X12_has_4 ?_
  refine ev_iconst (v := 1) dc_X12_has_5 (by decide) ?_
  refine ev_icmp_ne (tgt := 13) dc_X12_has_6 (by decide) h (fun h => ?_) (fun h => ?_)
  · refine ev_iconst (v := 1) dc_X12_has_9 (by decide) ?_
    refine ev_goto (tgt := 14) dc_X12_has_10 (by decide) ?_
    cases h
    exact ev_zretc dc_X12_has_14 rfl rfl rfl rfl
  · refine ev_iconst (v := 0) dc_X12_has_13 (by decide) ?_
    cases h
    exact ev_zretc dc_X12_has_14 rfl rfl rfl rfl
theorem dc_X12_ofWord_0 : Dc miX12_ofWord 0 (.aload_n 0) 1 1 := ⟨by decide +kernel, rfl⟩
theorem dc_X12_ofWord_1 : Dc miX12_ofWord 1 (.getfield 13) 3 4 := ⟨by decide +kernel, rfl⟩
theorem dc_X12_ofWord_4 : Dc miX12_ofWord 4 (.bipush 55) 2 6 := ⟨by decide +kernel, rfl⟩
theorem dc_X12_ofWord_6 : Dc miX12_ofWord 6 (.iconst 2) 1 7 := ⟨by decide +kernel, rfl⟩
theorem dc_X12_ofWord_7 : Dc miX12_ofWord 7 (.iload_n 1) 1 8 := ⟨by decide +kernel, rfl⟩
theorem dc_X12_ofWord_8 : Dc miX12_ofWord 8 (.imul) 1 9 := ⟨by decide +kernel, rfl⟩
theorem dc_X12_ofWord_9 : Dc miX12_ofWord 9 (.iadd) 1 10 := ⟨by decide +kernel, rfl⟩
theorem dc_X12_ofWord_10 : Dc miX12_ofWord 10 (.iload_n 2) 1 11 := ⟨by decide +kernel, rfl⟩
theorem dc_X12_ofWord_11 : Dc miX12_ofWord 11 (.iadd) 1 12 := ⟨by decide +kernel, rfl⟩
theorem dc_X12_ofWord_12 : Dc miX12_ofWord 12 (.iaload) 1 13 := ⟨by decide +kernel, rfl⟩
theorem dc_X12_ofWord_13 : Dc miX12_ofWord 13 (.ireturn) 1 14 := ⟨by decide +kernel, rfl⟩
def fX12_ofWord (N : Nat) (G : pG) (a0 : Nat) (a1 : Int32) (a2 : Int32) (σ : pS) : Option (Int32) := ck (inB (((55 : Int32) + ((2 : Int32) * a1)) + a2) (pN G (pR G a0 1))) (some (gA σ (pR G a0 1) (((55 : Int32) + ((2 : Int32) * a1)) + a2)))
set_option maxRecDepth 100000 in
set_option maxHeartbeats 4000000 in
theorem tX12_ofWord {N : Nat} {G : pG} {SK : Nat → Nat} {a0 : Nat} {a1 : Int32} {a2 : Int32} {σ : pS} {r : Int32} (hW : WT G) (i0 : Is G a0 11) (h : fX12_ofWord N G a0 a1 a2 σ = some r) : Dn miX12_ofWord yX12_ofWord 1 G SK [.ref a0, .int a1, .int a2] σ (some (.int r)) σ := by
  unfold fX12_ofWord at h
  refine dn_of (lv := [some (.ref a0), some (.int a1), some (.int a2)]) (by decide) rfl rfl (Nat.le_of_ble_eq_true rfl) rfl ?_
  refine ev_aload_n dc_X12_ofWord_0 rfl ?_
  refine ev_getR dc_X12_ofWord_1 fi_X12_13 rfl i0 ?_
  refine ev_bipush (v := 55) dc_X12_ofWord_4 (by decide) ?_
  refine ev_iconst (v := 2) dc_X12_ofWord_6 (by decide) ?_
  refine ev_iload_n dc_X12_ofWord_7 rfl ?_
  refine ev_imul dc_X12_ofWord_8 ?_
  refine ev_iadd dc_X12_ofWord_9 ?_
  refine ev_iload_n dc_X12_ofWord_10 rfl ?_
  refine ev_iadd dc_X12_ofWord_11 ?_
  refine ev_iald dc_X12_ofWord_12 (wt hW i0 1 rfl rfl) h (fun h => ?_)
  cases h
  exact ev_iret dc_X12_ofWord_13 rfl rfl rfl
theorem dc_X12_names_0 : Dc miX12_names 0 (.aload_n 0) 1 1 := ⟨by decide +kernel, rfl⟩
theorem dc_X12_names_1 : Dc miX12_names 1 (.getfield 13) 3 4 := ⟨by decide +kernel, rfl⟩
theorem dc_X12_names_4 : Dc miX12_names 4 (.iconst 0) 1 5 := ⟨by decide +kernel, rfl⟩
theorem dc_X12_names_5 : Dc miX12_names 5 (.iaload) 1 6 := ⟨by decide +kernel, rfl⟩
theorem dc_X12_names_6 : Dc miX12_names 6 (.ireturn) 1 7 := ⟨by decide +kernel, rfl⟩
def fX12_names (N : Nat) (G : pG) (a0 : Nat) (σ : pS) : Option (Int32) := ck (inB (0 : Int32) (pN G (pR G a0 1))) (some (gA σ (pR G a0 1) (0 : Int32)))
set_option maxRecDepth 100000 in
set_option maxHeartbeats 4000000 in
theorem tX12_names {N : Nat} {G : pG} {SK : Nat → Nat} {a0 : Nat} {σ : pS} {r : Int32} (hW : WT G) (i0 : Is G a0 11) (h : fX12_names N G a0 σ = some r) : Dn miX12_names yX12_names 1 G SK [.ref a0] σ (some (.int r)) σ := by
  unfold fX12_names at h
  refine dn_of (lv := [some (.ref a0)]) (by decide) rfl rfl (Nat.le_of_ble_eq_true rfl) rfl ?_
  refine ev_aload_n dc_X12_names_0 rfl ?_
  refine ev_getR dc_X12_names_1 fi_X12_13 rfl i0 ?_
  refine ev_iconst (v := 0) dc_X12_names_4 (by decide) ?_
  refine ev_iald dc_X12_names_5 (wt hW i0 1 rfl rfl) h (fun h => ?_)
  cases h
  exact ev_iret dc_X12_names_6 rfl rfl rfl
theorem dc_X12_ofName_0 : Dc miX12_ofName 0 (.aload_n 0) 1 1 := ⟨by decide +kernel, rfl⟩
theorem dc_X12_ofName_1 : Dc miX12_ofName 1 (.getfield 13) 3 4 := ⟨by decide +kernel, rfl⟩
theorem dc_X12_ofName_4 : Dc miX12_ofName 4 (.bipush 17) 2 6 := ⟨by decide +kernel, rfl⟩
theorem dc_X12_ofName_6 : Dc miX12_ofName 6 (.iconst 2) 1 7 := ⟨by decide +kernel, rfl⟩
theorem dc_X12_ofName_7 : Dc miX12_ofName 7 (.iload_n 1) 1 8 := ⟨by decide +kernel, rfl⟩
theorem dc_X12_ofName_8 : Dc miX12_ofName 8 (.imul) 1 9 := ⟨by decide +kernel, rfl⟩
theorem dc_X12_ofName_9 : Dc miX12_ofName 9 (.iadd) 1 10 := ⟨by decide +kernel, rfl⟩
theorem dc_X12_ofName_10 : Dc miX12_ofName 10 (.iload_n 2) 1 11 := ⟨by decide +kernel, rfl⟩
theorem dc_X12_ofName_11 : Dc miX12_ofName 11 (.iadd) 1 12 := ⟨by decide +kernel, rfl⟩
theorem dc_X12_ofName_12 : Dc miX12_ofName 12 (.iaload) 1 13 := ⟨by decide +kernel, rfl⟩
theorem dc_X12_ofName_13 : Dc miX12_ofName 13 (.ireturn) 1 14 := ⟨by decide +kernel, rfl⟩
def fX12_ofName (N : Nat) (G : pG) (a0 : Nat) (a1 : Int32) (a2 : Int32) (σ : pS) : Option (Int32) := ck (inB (((17 : Int32) + ((2 : Int32) * a1)) + a2) (pN G (pR G a0 1))) (some (gA σ (pR G a0 1) (((17 : Int32) + ((2 : Int32) * a1)) + a2)))
set_option maxRecDepth 100000 in
set_option maxHeartbeats 4000000 in
theorem tX12_ofName {N : Nat} {G : pG} {SK : Nat → Nat} {a0 : Nat} {a1 : Int32} {a2 : Int32} {σ : pS} {r : Int32} (hW : WT G) (i0 : Is G a0 11) (h : fX12_ofName N G a0 a1 a2 σ = some r) : Dn miX12_ofName yX12_ofName 1 G SK [.ref a0, .int a1, .int a2] σ (some (.int r)) σ := by
  unfold fX12_ofName at h
  refine dn_of (lv := [some (.ref a0), some (.int a1), some (.int a2)]) (by decide) rfl rfl (Nat.le_of_ble_eq_true rfl) rfl ?_
  refine ev_aload_n dc_X12_ofName_0 rfl ?_
  refine ev_getR dc_X12_ofName_1 fi_X12_13 rfl i0 ?_
  refine ev_bipush (v := 17) dc_X12_ofName_4 (by decide) ?_
  refine ev_iconst (v := 2) dc_X12_ofName_6 (by decide) ?_
  refine ev_iload_n dc_X12_ofName_7 rfl ?_
  refine ev_imul dc_X12_ofName_8 ?_
  refine ev_iadd dc_X12_ofName_9 ?_
  refine ev_iload_n dc_X12_ofName_10 rfl ?_
  refine ev_iadd dc_X12_ofName_11 ?_
  refine ev_iald dc_X12_ofName_12 (wt hW i0 1 rfl rfl) h (fun h => ?_)
  cases h
  exact ev_iret dc_X12_ofName_13 rfl rfl rfl
theorem dc_X12_traitsOfHis_0 : Dc miX12_traitsOfHis 0 (.aload_n 0) 1 1 := ⟨by decide +kernel, rfl⟩
theorem dc_X12_traitsOfHis_1 : Dc miX12_traitsOfHis 1 (.invokevirtual 66) 3 4 := ⟨by decide +kernel, rfl⟩
theorem dc_X12_traitsOfHis_4 : Dc miX12_traitsOfHis 4 (.ifCond .ne 7) 3 7 := ⟨by decide +kernel, rfl⟩
theorem dc_X12_traitsOfHis_7 : Dc miX12_traitsOfHis 7 (.iconst 0) 1 8 := ⟨by decide +kernel, rfl⟩
theorem dc_X12_traitsOfHis_8 : Dc miX12_traitsOfHis 8 (.goto 15) 3 11 := ⟨by decide +kernel, rfl⟩
theorem dc_X12_traitsOfHis_11 : Dc miX12_traitsOfHis 11 (.aload_n 0) 1 12 := ⟨by decide +kernel, rfl⟩
theorem dc_X12_traitsOfHis_12 : Dc miX12_traitsOfHis 12 (.aload_n 0) 1 13 := ⟨by decide +kernel, rfl⟩
theorem dc_X12_traitsOfHis_13 : Dc miX12_traitsOfHis 13 (.getfield 13) 3 16 := ⟨by decide +kernel, rfl⟩
theorem dc_X12_traitsOfHis_16 : Dc miX12_traitsOfHis 16 (.bipush 11) 2 18 := ⟨by decide +kernel, rfl⟩
theorem dc_X12_traitsOfHis_18 : Dc miX12_traitsOfHis 18 (.iaload) 1 19 := ⟨by decide +kernel, rfl⟩
theorem dc_X12_traitsOfHis_19 : Dc miX12_traitsOfHis 19 (.iconst 0) 1 20 := ⟨by decide +kernel, rfl⟩
theorem dc_X12_traitsOfHis_20 : Dc miX12_traitsOfHis 20 (.invokevirtual 277) 3 23 := ⟨by decide +kernel, rfl⟩
theorem dc_X12_traitsOfHis_23 : Dc miX12_traitsOfHis 23 (.ireturn) 1 24 := ⟨by decide +kernel, rfl⟩
def fX12_traitsOfHis (N : Nat) (G : pG) (a0 : Nat) (σ : pS) : Option (Int32) := (fX12_names N G a0 σ).bind (fun q1 => if q1 = 0 then (some (0 : Int32)) else (ck (inB (11 : Int32) (pN G (pR G a0 1))) ((fX12_ofName N G a0 (gA σ (pR G a0 1) (11 : Int32)) (0 : Int32) σ).bind (fun q2 => some q2))))
set_option maxRecDepth 100000 in
set_option maxHeartbeats 4000000 in
theorem tX12_traitsOfHis {N : Nat} {G : pG} {SK : Nat → Nat} {a0 : Nat} {σ : pS} {r : Int32} (hW : WT G) (i0 : Is G a0 11) (h : fX12_traitsOfHis N G a0 σ = some r) : Dn miX12_traitsOfHis yX12_traitsOfHis 2 G SK [.ref a0] σ (some (.int r)) σ := by
  unfold fX12_traitsOfHis at h
  refine dn_of (lv := [some (.ref a0)]) (by decide) rfl rfl (Nat.le_of_ble_eq_true rfl) rfl ?_
  refine ev_aload_n dc_X12_traitsOfHis_0 rfl ?_
  obtain ⟨q1, hq1, h⟩ := Option.bind_eq_some_iff.mp h
  refine ev_callV (av := []) (st := []) (st1 := [.int q1]) dc_X12_traitsOfHis_1 (tX12_names hW i0 hq1) mw_1648 cy_X12_names i0 (by decide) rfl rfl rfl rfl (Nat.le_of_ble_eq_true rfl) (Nat.le_of_ble_eq_true rfl) ⟨Nat.le_refl _, Nat.le_refl _⟩ ?_
  refine ev_if_ne (tgt := 11) dc_X12_traitsOfHis_4 (by decide) h (fun h => ?_) (fun h => ?_)
  · refine ev_iconst (v := 0) dc_X12_traitsOfHis_7 (by decide) ?_
    refine ev_goto (tgt := 23) dc_X12_traitsOfHis_8 (by decide) ?_
    cases h
    exact ev_iret dc_X12_traitsOfHis_23 rfl rfl rfl
  · refine ev_aload_n dc_X12_traitsOfHis_11 rfl ?_
    refine ev_aload_n dc_X12_traitsOfHis_12 rfl ?_
    refine ev_getR dc_X12_traitsOfHis_13 fi_X12_13 rfl i0 ?_
    refine ev_bipush (v := 11) dc_X12_traitsOfHis_16 (by decide) ?_
    refine ev_iald dc_X12_traitsOfHis_18 (wt hW i0 1 rfl rfl) h (fun h => ?_)
    refine ev_iconst (v := 0) dc_X12_traitsOfHis_19 (by decide) ?_
    obtain ⟨q2, hq2, h⟩ := Option.bind_eq_some_iff.mp h
    refine ev_callV (av := [.int (gA σ (pR G a0 1) (11 : Int32)), .int (0 : Int32)]) (st := []) (st1 := [.int q2]) dc_X12_traitsOfHis_20 (tX12_ofName hW i0 hq2) mw_1828 cy_X12_ofName i0 (by decide) rfl rfl rfl rfl (Nat.le_of_ble_eq_true rfl) (Nat.le_of_ble_eq_true rfl) ⟨Nat.le_refl _, Nat.le_refl _⟩ ?_
    cases h
    exact ev_iret dc_X12_traitsOfHis_23 rfl rfl rfl
theorem dc_X12_stingsBy_0 : Dc miX12_stingsBy 0 (.aload_n 0) 1 1 := ⟨by decide +kernel, rfl⟩
theorem dc_X12_stingsBy_1 : Dc miX12_stingsBy 1 (.iload_n 2) 1 2 := ⟨by decide +kernel, rfl⟩
theorem dc_X12_stingsBy_2 : Dc miX12_stingsBy 2 (.iconst 1) 1 3 := ⟨by decide +kernel, rfl⟩
theorem dc_X12_stingsBy_3 : Dc miX12_stingsBy 3 (.invokevirtual 314) 3 6 := ⟨by decide +kernel, rfl⟩
theorem dc_X12_stingsBy_6 : Dc miX12_stingsBy 6 (.istore_n 3) 1 7 := ⟨by decide +kernel, rfl⟩
theorem dc_X12_stingsBy_7 : Dc miX12_stingsBy 7 (.aload_n 0) 1 8 := ⟨by decide +kernel, rfl⟩
theorem dc_X12_stingsBy_8 : Dc miX12_stingsBy 8 (.iload_n 2) 1 9 := ⟨by decide +kernel, rfl⟩
theorem dc_X12_stingsBy_9 : Dc miX12_stingsBy 9 (.putfield 280) 3 12 := ⟨by decide +kernel, rfl⟩
theorem dc_X12_stingsBy_12 : Dc miX12_stingsBy 12 (.aload_n 0) 1 13 := ⟨by decide +kernel, rfl⟩
theorem dc_X12_stingsBy_13 : Dc miX12_stingsBy 13 (.iload_n 1) 1 14 := ⟨by decide +kernel, rfl⟩
theorem dc_X12_stingsBy_14 : Dc miX12_stingsBy 14 (.putfield 295) 3 17 := ⟨by decide +kernel, rfl⟩
theorem dc_X12_stingsBy_17 : Dc miX12_stingsBy 17 (.aload_n 0) 1 18 := ⟨by decide +kernel, rfl⟩
theorem dc_X12_stingsBy_18 : Dc miX12_stingsBy 18 (.iconst 0) 1 19 := ⟨by decide +kernel, rfl⟩
theorem dc_X12_stingsBy_19 : Dc miX12_stingsBy 19 (.putfield 283) 3 22 := ⟨by decide +kernel, rfl⟩
theorem dc_X12_stingsBy_22 : Dc miX12_stingsBy 22 (.aload_n 0) 1 23 := ⟨by decide +kernel, rfl⟩
theorem dc_X12_stingsBy_23 : Dc miX12_stingsBy 23 (.iload_n 3) 1 24 := ⟨by decide +kernel, rfl⟩
theorem dc_X12_stingsBy_24 : Dc miX12_stingsBy 24 (.ifCond .lt 18) 3 27 := ⟨by decide +kernel, rfl⟩
theorem dc_X12_stingsBy_27 : Dc miX12_stingsBy 27 (.aload_n 0) 1 28 := ⟨by decide +kernel, rfl⟩
theorem dc_X12_stingsBy_28 : Dc miX12_stingsBy 28 (.invokevirtual 317) 3 31 := ⟨by decide +kernel, rfl⟩
theorem dc_X12_stingsBy_31 : Dc miX12_stingsBy 31 (.iload_n 3) 1 32 := ⟨by decide +kernel, rfl⟩
theorem dc_X12_stingsBy_32 : Dc miX12_stingsBy 32 (.invokestatic 122) 3 35 := ⟨by decide +kernel, rfl⟩
theorem dc_X12_stingsBy_35 : Dc miX12_stingsBy 35 (.ifCond .eq 7) 3 38 := ⟨by decide +kernel, rfl⟩
theorem dc_X12_stingsBy_38 : Dc miX12_stingsBy 38 (.iconst 1) 1 39 := ⟨by decide +kernel, rfl⟩
theorem dc_X12_stingsBy_39 : Dc miX12_stingsBy 39 (.goto 4) 3 42 := ⟨by decide +kernel, rfl⟩
theorem dc_X12_stingsBy_42 : Dc miX12_stingsBy 42 (.iconst 0) 1 43 := ⟨by decide +kernel, rfl⟩
theorem dc_X12_stingsBy_43 : Dc miX12_stingsBy 43 (.putfield 298) 3 46 := ⟨by decide +kernel, rfl⟩
theorem dc_X12_stingsBy_46 : Dc miX12_stingsBy 46 (.iconst 0) 1 47 := ⟨by decide +kernel, rfl⟩
theorem dc_X12_stingsBy_47 : Dc miX12_stingsBy 47 (.aload_n 0) 1 48 := ⟨by decide +kernel, rfl⟩
theorem dc_X12_stingsBy_48 : Dc miX12_stingsBy 48 (.iload_n 2) 1 49 := ⟨by decide +kernel, rfl⟩
theorem dc_X12_stingsBy_49 : Dc miX12_stingsBy 49 (.iconst 0) 1 50 := ⟨by decide +kernel, rfl⟩
theorem dc_X12_stingsBy_50 : Dc miX12_stingsBy 50 (.invokevirtual 314) 3 53 := ⟨by decide +kernel, rfl⟩
theorem dc_X12_stingsBy_53 : Dc miX12_stingsBy 53 (.aload_n 0) 1 54 := ⟨by decide +kernel, rfl⟩
theorem dc_X12_stingsBy_54 : Dc miX12_stingsBy 54 (.iconst 0) 1 55 := ⟨by decide +kernel, rfl⟩
theorem dc_X12_stingsBy_55 : Dc miX12_stingsBy 55 (.invokevirtual 320) 3 58 := ⟨by decide +kernel, rfl⟩
theorem dc_X12_stingsBy_58 : Dc miX12_stingsBy 58 (.iadd) 1 59 := ⟨by decide +kernel, rfl⟩
theorem dc_X12_stingsBy_59 : Dc miX12_stingsBy 59 (.aload_n 0) 1 60 := ⟨by decide +kernel, rfl⟩
theorem dc_X12_stingsBy_60 : Dc miX12_stingsBy 60 (.iconst 1) 1 61 := ⟨by decide +kernel, rfl⟩
theorem dc_X12_stingsBy_61 : Dc miX12_stingsBy 61 (.invokevirtual 320) 3 64 := ⟨by decide +kernel, rfl⟩
theorem dc_X12_stingsBy_64 : Dc miX12_stingsBy 64 (.isub) 1 65 := ⟨by decide +kernel, rfl⟩
theorem dc_X12_stingsBy_65 : Dc miX12_stingsBy 65 (.invokestatic 323) 3 68 := ⟨by decide +kernel, rfl⟩
theorem dc_X12_stingsBy_68 : Dc miX12_stingsBy 68 (.ireturn) 1 69 := ⟨by decide +kernel, rfl⟩
def fX12_stingsBy_b43 (N : Nat) (G : pG) (a0 : Nat) (a2 : Int32) (y1 : Int32) (σ : pS) : Option (Int32 × pS) := ck (isZ y1) ((fX12_ofWord N G a0 a2 (0 : Int32) (putF σ a0 24 y1)).bind (fun q1 => (fX12_sumOf N G a0 (0 : Int32) (putF σ a0 24 y1)).bind (fun q2 => (fX12_sumOf N G a0 (1 : Int32) q2.2).bind (fun q3 => some (jmax (0 : Int32) ((q1 + q2.1) - q3.1), q3.2)))))
set_option maxRecDepth 100000 in
set_option maxHeartbeats 4000000 in
theorem tX12_stingsBy_b43 {N : Nat} {G : pG} {SK : Nat → Nat} {a0 : Nat} {a2 : Int32} {y1 : Int32} {σ : pS} {r : Int32 × pS} (hW : WT G) (i0 : Is G a0 11) (h : fX12_stingsBy_b43 N G a0 a2 y1 σ = some r) : Ev miX12_stingsBy (4, 0, 0) G (Zp G (some (.int r.1)) r.2) SK (0, 0) 43 [some (.ref a0), none, some (.int a2), none] [.int y1, .ref a0] σ := by
  unfold fX12_stingsBy_b43 at h
  refine ev_putZ dc_X12_stingsBy_43 fi_X12_298 rfl i0 h (fun h => ?_)
  refine ev_iconst (v := 0) dc_X12_stingsBy_46 (by decide) ?_
  refine ev_aload_n dc_X12_stingsBy_47 rfl ?_
  refine ev_iload_n dc_X12_stingsBy_48 rfl ?_
  refine ev_iconst (v := 0) dc_X12_stingsBy_49 (by decide) ?_
  obtain ⟨q1, hq1, h⟩ := Option.bind_eq_some_iff.mp h
  refine ev_callV (av := [.int a2, .int (0 : Int32)]) (st := [.int (0 : Int32)]) (st1 := [.int q1, .int (0 : Int32)]) dc_X12_stingsBy_50 (tX12_ofWord hW i0 hq1) mw_1820 cy_X12_ofWord i0 (by decide) rfl rfl rfl rfl (Nat.le_of_ble_eq_true rfl) (Nat.le_of_ble_eq_true rfl) ⟨Nat.le_refl _, Nat.le_refl _⟩ ?_
  refine ev_aload_n dc_X12_stingsBy_53 rfl ?_
  refine ev_iconst (v := 0) dc_X12_stingsBy_54 (by decide) ?_
  obtain ⟨q2, hq2, h⟩ := Option.bind_eq_some_iff.mp h
  refine ev_callV (av := [.int (0 : Int32)]) (st := [.int q1, .int (0 : Int32)]) (st1 := [.int q2.1, .int q1, .int (0 : Int32)]) dc_X12_stingsBy_55 (tX12_sumOf hW i0 hq2) mw_1832 cy_X12_sumOf i0 (by decide) rfl rfl rfl rfl (Nat.le_of_ble_eq_true rfl) (Nat.le_of_ble_eq_true rfl) ⟨Nat.le_refl _, Nat.le_refl _⟩ ?_
  refine ev_iadd dc_X12_stingsBy_58 ?_
  refine ev_aload_n dc_X12_stingsBy_59 rfl ?_
  refine ev_iconst (v := 1) dc_X12_stingsBy_60 (by decide) ?_
  obtain ⟨q3, hq3, h⟩ := Option.bind_eq_some_iff.mp h
  refine ev_callV (av := [.int (1 : Int32)]) (st := [.int (q1 + q2.1), .int (0 : Int32)]) (st1 := [.int q3.1, .int (q1 + q2.1), .int (0 : Int32)]) dc_X12_stingsBy_61 (tX12_sumOf hW i0 hq3) mw_1832 cy_X12_sumOf i0 (by decide) rfl rfl rfl rfl (Nat.le_of_ble_eq_true rfl) (Nat.le_of_ble_eq_true rfl) ⟨Nat.le_refl _, Nat.le_refl _⟩ ?_
  refine ev_isub dc_X12_stingsBy_64 ?_
  refine ev_max dc_X12_stingsBy_65 mw_1844 (Nat.le_of_ble_eq_true rfl) (Nat.le_of_ble_eq_true rfl) ⟨Nat.le_refl _, Nat.le_refl _⟩ ?_
  cases h
  exact ev_iret dc_X12_stingsBy_68 rfl rfl rfl
def fX12_stingsBy_b42 (N : Nat) (G : pG) (a0 : Nat) (a2 : Int32) (σ : pS) : Option (Int32 × pS) := fX12_stingsBy_b43 N G a0 a2 (0 : Int32) σ
set_option maxRecDepth 100000 in
set_option maxHeartbeats 4000000 in
theorem tX12_stingsBy_b42 {N : Nat} {G : pG} {SK : Nat → Nat} {a0 : Nat} {a2 : Int32} {σ : pS} {r : Int32 × pS} (hW : WT G) (i0 : Is G a0 11) (h : fX12_stingsBy_b42 N G a0 a2 σ = some r) : Ev miX12_stingsBy (4, 0, 0) G (Zp G (some (.int r.1)) r.2) SK (0, 0) 42 [some (.ref a0), none, some (.int a2), none] [.ref a0] σ := by
  unfold fX12_stingsBy_b42 at h
  refine ev_iconst (v := 0) dc_X12_stingsBy_42 (by decide) ?_
  exact ev_sub (tX12_stingsBy_b43 hW i0 h) (And.intro rfl (And.intro rfl trivial))
def fX12_stingsBy (N : Nat) (G : pG) (a0 : Nat) (a1 : Int32) (a2 : Int32) (σ : pS) : Option (Int32 × pS) := (fX12_ofWord N G a0 a2 (1 : Int32) σ).bind (fun q4 => if q4 < 0 then (fX12_stingsBy_b42 N G a0 a2 (putF (putF (putF σ a0 18 a2) a0 20 a1) a0 19 (0 : Int32))) else ((fX12_traitsOfHis N G a0 (putF (putF (putF σ a0 18 a2) a0 20 a1) a0 19 (0 : Int32))).bind (fun q5 => (fX12_has N G q5 q4 (putF (putF (putF σ a0 18 a2) a0 20 a1) a0 19 (0 : Int32))).bind (fun q6 => if q6 = 0 then (fX12_stingsBy_b42 N G a0 a2 (putF (putF (putF σ a0 18 a2) a0 20 a1) a0 19 (0 : Int32))) else (fX12_stingsBy_b43 N G a0 a2 (1 : Int32) (putF (putF (putF σ a0 18 a2) a0 20 a1) a0 19 (0 : Int32)))))))
set_option maxRecDepth 100000 in
set_option maxHeartbeats 4000000 in
theorem tX12_stingsBy {N : Nat} {G : pG} {SK : Nat → Nat} {a0 : Nat} {a1 : Int32} {a2 : Int32} {σ : pS} {r : Int32 × pS} (hW : WT G) (i0 : Is G a0 11) (h : fX12_stingsBy N G a0 a1 a2 σ = some r) : Dn miX12_stingsBy yX12_stingsBy 4 G SK [.ref a0, .int a1, .int a2] σ (some (.int r.1)) r.2 := by
  unfold fX12_stingsBy at h
  refine dn_of (lv := [some (.ref a0), some (.int a1), some (.int a2), none]) (by decide) rfl rfl (Nat.le_of_ble_eq_true rfl) rfl ?_
  refine ev_aload_n dc_X12_stingsBy_0 rfl ?_
  refine ev_iload_n dc_X12_stingsBy_1 rfl ?_
  refine ev_iconst (v := 1) dc_X12_stingsBy_2 (by decide) ?_
  obtain ⟨q4, hq4, h⟩ := Option.bind_eq_some_iff.mp h
  refine ev_callV (av := [.int a2, .int (1 : Int32)]) (st := []) (st1 := [.int q4]) dc_X12_stingsBy_3 (tX12_ofWord hW i0 hq4) mw_1820 cy_X12_ofWord i0 (by decide) rfl rfl rfl rfl (Nat.le_of_ble_eq_true rfl) (Nat.le_of_ble_eq_true rfl) ⟨Nat.le_refl _, Nat.le_refl _⟩ ?_
  refine ev_istore_n (lv' := [some (.ref a0), some (.int a1), some (.int a2), some (.int q4)]) dc_X12_stingsBy_6 rfl (by decide) rfl ?_
  refine ev_aload_n dc_X12_stingsBy_7 rfl ?_
  refine ev_iload_n dc_X12_stingsBy_8 rfl ?_
  refine ev_putI dc_X12_stingsBy_9 fi_X12_280 rfl i0 ?_
  refine ev_aload_n dc_X12_stingsBy_12 rfl ?_
  refine ev_iload_n dc_X12_stingsBy_13 rfl ?_
  refine ev_putI dc_X12_stingsBy_14 fi_X12_295 rfl i0 ?_
  refine ev_aload_n dc_X12_stingsBy_17 rfl ?_
  refine ev_iconst (v := 0) dc_X12_stingsBy_18 (by decide) ?_
  refine ev_putI dc_X12_stingsBy_19 fi_X12_283 rfl i0 ?_
  refine ev_aload_n dc_X12_stingsBy_22 rfl ?_
  refine ev_iload_n dc_X12_stingsBy_23 rfl ?_
  refine ev_if_lt (tgt := 42) dc_X12_stingsBy_24 (by decide) h (fun h => ?_) (fun h => ?_)
  · exact ev_sub (tX12_stingsBy_b42 hW i0 h) (And.intro rfl (And.intro rfl trivial))
  · refine ev_aload_n dc_X12_stingsBy_27 rfl ?_
    obtain ⟨q5, hq5, h⟩ := Option.bind_eq_some_iff.mp h
    refine ev_callV (av := []) (st := [.ref a0]) (st1 := [.int q5, .ref a0]) dc_X12_stingsBy_28 (tX12_traitsOfHis hW i0 hq5) mw_1824 cy_X12_traitsOfHis i0 (by decide) rfl rfl rfl rfl (Nat.le_of_ble_eq_true rfl) (Nat.le_of_ble_eq_true rfl) ⟨Nat.le_refl _, Nat.le_refl _⟩ ?_
    refine ev_iload_n dc_X12_stingsBy_31 rfl ?_
    obtain ⟨q6, hq6, h⟩ := Option.bind_eq_some_iff.mp h
    refine ev_callS (av := [.int q5, .int q4]) (st := [.ref a0]) (st1 := [.int q6, .ref a0]) dc_X12_stingsBy_32 (tX12_has hW hq6) mw_1659 cs_X12_has rfl rfl rfl (Nat.le_of_ble_eq_true rfl) (Nat.le_of_ble_eq_true rfl) ⟨Nat.le_refl _, Nat.le_refl _⟩ ?_
    refine ev_if_eq (tgt := 42) dc_X12_stingsBy_35 (by decide) h (fun h => ?_) (fun h => ?_)
    · exact ev_sub (tX12_stingsBy_b42 hW i0 h) (And.intro rfl (And.intro rfl trivial))
    · refine ev_iconst (v := 1) dc_X12_stingsBy_38 (by decide) ?_
      refine ev_goto (tgt := 43) dc_X12_stingsBy_39 (by decide) ?_
      exact ev_sub (tX12_stingsBy_b43 hW i0 h) (And.intro rfl (And.intro rfl trivial))
theorem dc_X12_behindWord_0 : Dc miX12_behindWord 0 (.bipush 99) 2 2 := ⟨by decide +kernel, rfl⟩
theorem dc_X12_behindWord_2 : Dc miX12_behindWord 2 (.aload_n 0) 1 3 := ⟨by decide +kernel, rfl⟩
theorem dc_X12_behindWord_3 : Dc miX12_behindWord 3 (.getfield 286) 3 6 := ⟨by decide +kernel, rfl⟩
theorem dc_X12_behindWord_6 : Dc miX12_behindWord 6 (.aload_n 0) 1 7 := ⟨by decide +kernel, rfl⟩
theorem dc_X12_behindWord_7 : Dc miX12_behindWord 7 (.iload_n 1) 1 8 := ⟨by decide +kernel, rfl⟩
theorem dc_X12_behindWord_8 : Dc miX12_behindWord 8 (.iload_n 2) 1 9 := ⟨by decide +kernel, rfl⟩
theorem dc_X12_behindWord_9 : Dc miX12_behindWord 9 (.invokevirtual 331) 3 12 := ⟨by decide +kernel, rfl⟩
theorem dc_X12_behindWord_12 : Dc miX12_behindWord 12 (.iadd) 1 13 := ⟨by decide +kernel, rfl⟩
theorem dc_X12_behindWord_13 : Dc miX12_behindWord 13 (.invokestatic 334) 3 16 := ⟨by decide +kernel, rfl⟩
theorem dc_X12_behindWord_16 : Dc miX12_behindWord 16 (.ireturn) 1 17 := ⟨by decide +kernel, rfl⟩
def fX12_behindWord (N : Nat) (G : pG) (a0 : Nat) (a1 : Int32) (a2 : Int32) (σ : pS) : Option (Int32 × pS) := (fX12_stingsBy N G a0 a1 a2 σ).bind (fun q1 => some (jmin (99 : Int32) ((σ.1 a0 21) + q1.1), q1.2))
set_option maxRecDepth 100000 in
set_option maxHeartbeats 4000000 in
theorem tX12_behindWord {N : Nat} {G : pG} {SK : Nat → Nat} {a0 : Nat} {a1 : Int32} {a2 : Int32} {σ : pS} {r : Int32 × pS} (hW : WT G) (i0 : Is G a0 11) (h : fX12_behindWord N G a0 a1 a2 σ = some r) : Dn miX12_behindWord yX12_behindWord 5 G SK [.ref a0, .int a1, .int a2] σ (some (.int r.1)) r.2 := by
  unfold fX12_behindWord at h
  refine dn_of (lv := [some (.ref a0), some (.int a1), some (.int a2)]) (by decide) rfl rfl (Nat.le_of_ble_eq_true rfl) rfl ?_
  refine ev_bipush (v := 99) dc_X12_behindWord_0 (by decide) ?_
  refine ev_aload_n dc_X12_behindWord_2 rfl ?_
  refine ev_getI dc_X12_behindWord_3 fi_X12_286 rfl i0 ?_
  refine ev_aload_n dc_X12_behindWord_6 rfl ?_
  refine ev_iload_n dc_X12_behindWord_7 rfl ?_
  refine ev_iload_n dc_X12_behindWord_8 rfl ?_
  obtain ⟨q1, hq1, h⟩ := Option.bind_eq_some_iff.mp h
  refine ev_callV (av := [.int a1, .int a2]) (st := [.int (σ.1 a0 21), .int (99 : Int32)]) (st1 := [.int q1.1, .int (σ.1 a0 21), .int (99 : Int32)]) dc_X12_behindWord_9 (tX12_stingsBy hW i0 hq1) mw_1816 cy_X12_stingsBy i0 (by decide) rfl rfl rfl rfl (Nat.le_of_ble_eq_true rfl) (Nat.le_of_ble_eq_true rfl) ⟨Nat.le_refl _, Nat.le_refl _⟩ ?_
  refine ev_iadd dc_X12_behindWord_12 ?_
  refine ev_min dc_X12_behindWord_13 mw_1861 (Nat.le_of_ble_eq_true rfl) (Nat.le_of_ble_eq_true rfl) ⟨Nat.le_refl _, Nat.le_refl _⟩ ?_
  cases h
  exact ev_iret dc_X12_behindWord_16 rfl rfl rfl
theorem dc_X12_staysOf_0 : Dc miX12_staysOf 0 (.iconst 0) 1 1 := ⟨by decide +kernel, rfl⟩
theorem dc_X12_staysOf_1 : Dc miX12_staysOf 1 (.istore_n 3) 1 2 := ⟨by decide +kernel, rfl⟩
theorem dc_X12_staysOf_2 : Dc miX12_staysOf 2 (.iconst 0) 1 3 := ⟨by decide +kernel, rfl⟩
theorem dc_X12_staysOf_3 : Dc miX12_staysOf 3 (.istore 4) 2 5 := ⟨by decide +kernel, rfl⟩
theorem dc_X12_staysOf_5 : Dc miX12_staysOf 5 (.iload 4) 2 7 := ⟨by decide +kernel, rfl⟩
theorem dc_X12_staysOf_7 : Dc miX12_staysOf 7 (.aload_n 0) 1 8 := ⟨by decide +kernel, rfl⟩
theorem dc_X12_staysOf_8 : Dc miX12_staysOf 8 (.invokevirtual 66) 3 11 := ⟨by decide +kernel, rfl⟩
theorem dc_X12_staysOf_11 : Dc miX12_staysOf 11 (.if_icmp .ge 51) 3 14 := ⟨by decide +kernel, rfl⟩
theorem dc_X12_staysOf_14 : Dc miX12_staysOf 14 (.iload_n 3) 1 15 := ⟨by decide +kernel, rfl⟩
theorem dc_X12_staysOf_15 : Dc miX12_staysOf 15 (.iload_n 1) 1 16 := ⟨by decide +kernel, rfl⟩
theorem dc_X12_staysOf_16 : Dc miX12_staysOf 16 (.iload 4) 2 18 := ⟨by decide +kernel, rfl⟩
theorem dc_X12_staysOf_18 : Dc miX12_staysOf 18 (.invokestatic 122) 3 21 := ⟨by decide +kernel, rfl⟩
theorem dc_X12_staysOf_21 : Dc miX12_staysOf 21 (.ifCond .eq 32) 3 24 := ⟨by decide +kernel, rfl⟩
theorem dc_X12_staysOf_24 : Dc miX12_staysOf 24 (.aload_n 0) 1 25 := ⟨by decide +kernel, rfl⟩
theorem dc_X12_staysOf_25 : Dc miX12_staysOf 25 (.iload 4) 2 27 := ⟨by decide +kernel, rfl⟩
theorem dc_X12_staysOf_27 : Dc miX12_staysOf 27 (.iconst 0) 1 28 := ⟨by decide +kernel, rfl⟩
theorem dc_X12_staysOf_28 : Dc miX12_staysOf 28 (.invokevirtual 277) 3 31 := ⟨by decide +kernel, rfl⟩
theorem dc_X12_staysOf_31 : Dc miX12_staysOf 31 (.iload_n 2) 1 32 := ⟨by decide +kernel, rfl⟩
theorem dc_X12_staysOf_32 : Dc miX12_staysOf 32 (.invokestatic 122) 3 35 := ⟨by decide +kernel, rfl⟩
theorem dc_X12_staysOf_35 : Dc miX12_staysOf 35 (.aload_n 0) 1 36 := ⟨by decide +kernel, rfl⟩
theorem dc_X12_staysOf_36 : Dc miX12_staysOf 36 (.invokevirtual 317) 3 39 := ⟨by decide +kernel, rfl⟩
theorem dc_X12_staysOf_39 : Dc miX12_staysOf 39 (.iload_n 2) 1 40 := ⟨by decide +kernel, rfl⟩
theorem dc_X12_staysOf_40 : Dc miX12_staysOf 40 (.invokestatic 122) 3 43 := ⟨by decide +kernel, rfl⟩
theorem dc_X12_staysOf_43 : Dc miX12_staysOf 43 (.if_icmp .ne 10) 3 46 := ⟨by decide +kernel, rfl⟩
theorem dc_X12_staysOf_46 : Dc miX12_staysOf 46 (.iconst 1) 1 47 := ⟨by decide +kernel, rfl⟩
theorem dc_X12_staysOf_47 : Dc miX12_staysOf 47 (.iload 4) 2 49 := ⟨by decide +kernel, rfl⟩
theorem dc_X12_staysOf_49 : Dc miX12_staysOf 49 (.ishl) 1 50 := ⟨by decide +kernel, rfl⟩
theorem dc_X12_staysOf_50 : Dc miX12_staysOf 50 (.goto 4) 3 53 := ⟨by decide +kernel, rfl⟩
theorem dc_X12_staysOf_53 : Dc miX12_staysOf 53 (.iconst 0) 1 54 := ⟨by decide +kernel, rfl⟩
theorem dc_X12_staysOf_54 : Dc miX12_staysOf 54 (.ior) 1 55 := ⟨by decide +kernel, rfl⟩
theorem dc_X12_staysOf_55 : Dc miX12_staysOf 55 (.istore_n 3) 1 56 := ⟨by decide +kernel, rfl⟩
theorem dc_X12_staysOf_56 : Dc miX12_staysOf 56 (.iinc 4 1) 3 59 := ⟨by decide +kernel, rfl⟩
theorem dc_X12_staysOf_59 : Dc miX12_staysOf 59 (.goto (-54)) 3 62 := ⟨by decide +kernel, rfl⟩
theorem dc_X12_staysOf_62 : Dc miX12_staysOf 62 (.iload_n 3) 1 63 := ⟨by decide +kernel, rfl⟩
theorem dc_X12_staysOf_63 : Dc miX12_staysOf 63 (.ireturn) 1 64 := ⟨by decide +kernel, rfl⟩
def fX12_staysOf_b53 (N : Nat) (G : pG) (k5 : Int32 × Int32 → Option (Int32)) (a0 : Nat) (a1 : Int32) (a2 : Int32) (x4 : Int32) (y0 : Int32) (σ : pS) : Option (Int32) := k5 (y0 ||| (0 : Int32), x4 + (1 : Int32))
set_option maxRecDepth 100000 in
set_option maxHeartbeats 4000000 in
theorem tX12_staysOf_b53 {N : Nat} {G : pG} {SK : Nat → Nat} {k5 : Int32 × Int32 → Option (Int32)} {a0 : Nat} {a1 : Int32} {a2 : Int32} {x4 : Int32} {y0 : Int32} {σ : pS} {r : Int32} (hW : WT G) (i0 : Is G a0 11) (hk5 : ∀ b : Int32 × Int32, k5 b = some r → Ev miX12_staysOf (3, 0, 0) G (Zp G (some (.int r)) σ) SK (0, 0) 5 [some (.ref a0), some (.int a1), some (.int a2), some (.int b.1), some (.int b.2)] [] σ) (h : fX12_staysOf_b53 N G k5 a0 a1 a2 x4 y0 σ = some r) : Ev miX12_staysOf (3, 0, 0) G (Zp G (some (.int r)) σ) SK (0, 0) 53 [some (.ref a0), some (.int a1), some (.int a2), none, some (.int x4)] [.int y0] σ := by
  unfold fX12_staysOf_b53 at h
  refine ev_iconst (v := 0) dc_X12_staysOf_53 (by decide) ?_
  refine ev_ior dc_X12_staysOf_54 ?_
  refine ev_istore_n (lv' := [some (.ref a0), some (.int a1), some (.int a2), some (.int (y0 ||| (0 : Int32))), some (.int x4)]) dc_X12_staysOf_55 rfl (by decide) rfl ?_
  refine ev_iinc (v := 1) (lv' := [some (.ref a0), some (.int a1), some (.int a2), some (.int (y0 ||| (0 : Int32))), some (.int (x4 + (1 : Int32)))]) dc_X12_staysOf_56 rfl (by decide) rfl (by decide) rfl ?_
  refine ev_goto (tgt := 5) dc_X12_staysOf_59 (by decide) ?_
  exact ev_sub (hk5 (y0 ||| (0 : Int32), x4 + (1 : Int32)) h) (And.intro rfl (And.intro rfl (And.intro rfl (And.intro rfl (And.intro rfl trivial)))))
def fX12_staysOf_b5 (N : Nat) (G : pG) (a0 : Nat) (a1 : Int32) (a2 : Int32) (σ : pS) : (Int32 × Int32) → Option (Int32) := lp (fun (k5 : Int32 × Int32 → Option (Int32)) (b : Int32 × Int32) => (fX12_names N G a0 σ).bind (fun q1 => if q1 ≤ b.2 then (some b.1) else ((fX12_has N G a1 b.2 σ).bind (fun q2 => if q2 = 0 then (fX12_staysOf_b53 N G k5 a0 a1 a2 b.2 b.1 σ) else ((fX12_ofName N G a0 b.2 (0 : Int32) σ).bind (fun q3 => (fX12_has N G q3 a2 σ).bind (fun q4 => (fX12_traitsOfHis N G a0 σ).bind (fun q5 => (fX12_has N G q5 a2 σ).bind (fun q6 => if q4 = q6 then (k5 (b.1 ||| ((1 : Int32) <<< (b.2 &&& 31)), b.2 + (1 : Int32))) else (fX12_staysOf_b53 N G k5 a0 a1 a2 b.2 b.1 σ)))))))))) N
set_option maxRecDepth 100000 in
set_option maxHeartbeats 4000000 in
theorem tX12_staysOf_b5 {N : Nat} {G : pG} {SK : Nat → Nat} {a0 : Nat} {a1 : Int32} {a2 : Int32} {σ : pS} {b : Int32 × Int32} {r : Int32} (hW : WT G) (i0 : Is G a0 11) (h : fX12_staysOf_b5 N G a0 a1 a2 σ b = some r) : Ev miX12_staysOf (3, 0, 0) G (Zp G (some (.int r)) σ) SK (0, 0) 5 [some (.ref a0), some (.int a1), some (.int a2), some (.int b.1), some (.int b.2)] [] σ := by
  unfold fX12_staysOf_b5 at h
  refine lp_ind (P := fun b r9 => r9 = r → Ev miX12_staysOf (3, 0, 0) G (Zp G (some (.int r)) σ) SK (0, 0) 5 [some (.ref a0), some (.int a1), some (.int a2), some (.int b.1), some (.int b.2)] [] σ) (fun k5 b r9 ih h9 e9 => ?_) N b r h rfl
  clear h
  subst e9
  have h := h9
  clear h9
  have hk5 : ∀ b : Int32 × Int32, k5 b = some r9 → Ev miX12_staysOf (3, 0, 0) G (Zp G (some (.int r9)) σ) SK (0, 0) 5 [some (.ref a0), some (.int a1), some (.int a2), some (.int b.1), some (.int b.2)] [] σ := fun b hb => ih b r9 hb rfl
  clear ih
  obtain ⟨x3, x4⟩ := b
  dsimp only at h ⊢
  refine ev_iload dc_X12_staysOf_5 rfl ?_
  refine ev_aload_n dc_X12_staysOf_7 rfl ?_
  obtain ⟨q1, hq1, h⟩ := Option.bind_eq_some_iff.mp h
  refine ev_callV (av := []) (st := [.int x4]) (st1 := [.int q1, .int x4]) dc_X12_staysOf_8 (tX12_names hW i0 hq1) mw_1648 cy_X12_names i0 (by decide) rfl rfl rfl rfl (Nat.le_of_ble_eq_true rfl) (Nat.le_of_ble_eq_true rfl) ⟨Nat.le_refl _, Nat.le_refl _⟩ ?_
  refine ev_icmp_ge (tgt := 62) dc_X12_staysOf_11 (by decide) h (fun h => ?_) (fun h => ?_)
  · refine ev_iload_n dc_X12_staysOf_62 rfl ?_
    cases h
    exact ev_iret dc_X12_staysOf_63 rfl rfl rfl
  · refine ev_iload_n dc_X12_staysOf_14 rfl ?_
    refine ev_iload_n dc_X12_staysOf_15 rfl ?_
    refine ev_iload dc_X12_staysOf_16 rfl ?_
    obtain ⟨q2, hq2, h⟩ := Option.bind_eq_some_iff.mp h
    refine ev_callS (av := [.int a1, .int x4]) (st := [.int x3]) (st1 := [.int q2, .int x3]) dc_X12_staysOf_18 (tX12_has hW hq2) mw_1659 cs_X12_has rfl rfl rfl (Nat.le_of_ble_eq_true rfl) (Nat.le_of_ble_eq_true rfl) ⟨Nat.le_refl _, Nat.le_refl _⟩ ?_
    refine ev_if_eq (tgt := 53) dc_X12_staysOf_21 (by decide) h (fun h => ?_) (fun h => ?_)
    · exact ev_sub (tX12_staysOf_b53 hW i0 hk5 h) (And.intro rfl (And.intro rfl (And.intro rfl (And.intro rfl trivial))))
    · refine ev_aload_n dc_X12_staysOf_24 rfl ?_
      refine ev_iload dc_X12_staysOf_25 rfl ?_
      refine ev_iconst (v := 0) dc_X12_staysOf_27 (by decide) ?_
      obtain ⟨q3, hq3, h⟩ := Option.bind_eq_some_iff.mp h
      refine ev_callV (av := [.int x4, .int (0 : Int32)]) (st := [.int x3]) (st1 := [.int q3, .int x3]) dc_X12_staysOf_28 (tX12_ofName hW i0 hq3) mw_1828 cy_X12_ofName i0 (by decide) rfl rfl rfl rfl (Nat.le_of_ble_eq_true rfl) (Nat.le_of_ble_eq_true rfl) ⟨Nat.le_refl _, Nat.le_refl _⟩ ?_
      refine ev_iload_n dc_X12_staysOf_31 rfl ?_
      obtain ⟨q4, hq4, h⟩ := Option.bind_eq_some_iff.mp h
      refine ev_callS (av := [.int q3, .int a2]) (st := [.int x3]) (st1 := [.int q4, .int x3]) dc_X12_staysOf_32 (tX12_has hW hq4) mw_1659 cs_X12_has rfl rfl rfl (Nat.le_of_ble_eq_true rfl) (Nat.le_of_ble_eq_true rfl) ⟨Nat.le_refl _, Nat.le_refl _⟩ ?_
      refine ev_aload_n dc_X12_staysOf_35 rfl ?_
      obtain ⟨q5, hq5, h⟩ := Option.bind_eq_some_iff.mp h
      refine ev_callV (av := []) (st := [.int q4, .int x3]) (st1 := [.int q5, .int q4, .int x3]) dc_X12_staysOf_36 (tX12_traitsOfHis hW i0 hq5) mw_1824 cy_X12_traitsOfHis i0 (by decide) rfl rfl rfl rfl (Nat.le_of_ble_eq_true rfl) (Nat.le_of_ble_eq_true rfl) ⟨Nat.le_refl _, Nat.le_refl _⟩ ?_
      refine ev_iload_n dc_X12_staysOf_39 rfl ?_
      obtain ⟨q6, hq6, h⟩ := Option.bind_eq_some_iff.mp h
      refine ev_callS (av := [.int q5, .int a2]) (st := [.int q4, .int x3]) (st1 := [.int q6, .int q4, .int x3]) dc_X12_staysOf_40 (tX12_has hW hq6) mw_1659 cs_X12_has rfl rfl rfl (Nat.le_of_ble_eq_true rfl) (Nat.le_of_ble_eq_true rfl) ⟨Nat.le_refl _, Nat.le_refl _⟩ ?_
      refine ev_icmp_ne (tgt := 53) dc_X12_staysOf_43 (by decide) h (fun h => ?_) (fun h => ?_)
      · refine ev_iconst (v := 1) dc_X12_staysOf_46 (by decide) ?_
        refine ev_iload dc_X12_staysOf_47 rfl ?_
        refine ev_ishl dc_X12_staysOf_49 ?_
        refine ev_goto (tgt := 54) dc_X12_staysOf_50 (by decide) ?_
        refine ev_ior dc_X12_staysOf_54 ?_
        refine ev_istore_n (lv' := [some (.ref a0), some (.int a1), some (.int a2), some (.int (x3 ||| ((1 : Int32) <<< (x4 &&& 31)))), some (.int x4)]) dc_X12_staysOf_55 rfl (by decide) rfl ?_
        refine ev_iinc (v := 1) (lv' := [some (.ref a0), some (.int a1), some (.int a2), some (.int (x3 ||| ((1 : Int32) <<< (x4 &&& 31)))), some (.int (x4 + (1 : Int32)))]) dc_X12_staysOf_56 rfl (by decide) rfl (by decide) rfl ?_
        refine ev_goto (tgt := 5) dc_X12_staysOf_59 (by decide) ?_
        exact ev_sub (hk5 (x3 ||| ((1 : Int32) <<< (x4 &&& 31)), x4 + (1 : Int32)) h) (And.intro rfl (And.intro rfl (And.intro rfl (And.intro rfl (And.intro rfl trivial)))))
      · exact ev_sub (tX12_staysOf_b53 hW i0 hk5 h) (And.intro rfl (And.intro rfl (And.intro rfl (And.intro rfl trivial))))
def fX12_staysOf (N : Nat) (G : pG) (a0 : Nat) (a1 : Int32) (a2 : Int32) (σ : pS) : Option (Int32) := fX12_staysOf_b5 N G a0 a1 a2 σ ((0 : Int32), (0 : Int32))
set_option maxRecDepth 100000 in
set_option maxHeartbeats 4000000 in
theorem tX12_staysOf {N : Nat} {G : pG} {SK : Nat → Nat} {a0 : Nat} {a1 : Int32} {a2 : Int32} {σ : pS} {r : Int32} (hW : WT G) (i0 : Is G a0 11) (h : fX12_staysOf N G a0 a1 a2 σ = some r) : Dn miX12_staysOf yX12_staysOf 3 G SK [.ref a0, .int a1, .int a2] σ (some (.int r)) σ := by
  unfold fX12_staysOf at h
  refine dn_of (lv := [some (.ref a0), some (.int a1), some (.int a2), none, none]) (by decide) rfl rfl (Nat.le_of_ble_eq_true rfl) rfl ?_
  refine ev_iconst (v := 0) dc_X12_staysOf_0 (by decide) ?_
  refine ev_istore_n (lv' := [some (.ref a0), some (.int a1), some (.int a2), some (.int (0 : Int32)), none]) dc_X12_staysOf_1 rfl (by decide) rfl ?_
  refine ev_iconst (v := 0) dc_X12_staysOf_2 (by decide) ?_
  refine ev_istore (lv' := [some (.ref a0), some (.int a1), some (.int a2), some (.int (0 : Int32)), some (.int (0 : Int32))]) dc_X12_staysOf_3 rfl (by decide) rfl ?_
  exact ev_sub (tX12_staysOf_b5 (b := ((0 : Int32), (0 : Int32))) hW i0 h) (And.intro rfl (And.intro rfl (And.intro rfl (And.intro rfl (And.intro rfl trivial)))))
theorem dc_X12_possibleBehind_0 : Dc miX12_possibleBehind 0 (.aload_n 0) 1 1 := ⟨by decide +kernel, rfl⟩
theorem dc_X12_possibleBehind_1 : Dc miX12_possibleBehind 1 (.iload_n 2) 1 2 := ⟨by decide +kernel, rfl⟩
theorem dc_X12_possibleBehind_2 : Dc miX12_possibleBehind 2 (.iconst 1) 1 3 := ⟨by decide +kernel, rfl⟩
theorem dc_X12_possibleBehind_3 : Dc miX12_possibleBehind 3 (.invokevirtual 314) 3 6 := ⟨by decide +kernel, rfl⟩
theorem dc_X12_possibleBehind_6 : Dc miX12_possibleBehind 6 (.istore_n 3) 1 7 := ⟨by decide +kernel, rfl⟩
theorem dc_X12_possibleBehind_7 : Dc miX12_possibleBehind 7 (.iload_n 3) 1 8 := ⟨by decide +kernel, rfl⟩
theorem dc_X12_possibleBehind_8 : Dc miX12_possibleBehind 8 (.ifCond .ge 7) 3 11 := ⟨by decide +kernel, rfl⟩
theorem dc_X12_possibleBehind_11 : Dc miX12_possibleBehind 11 (.iload_n 1) 1 12 := ⟨by decide +kernel, rfl⟩
theorem dc_X12_possibleBehind_12 : Dc miX12_possibleBehind 12 (.goto 9) 3 15 := ⟨by decide +kernel, rfl⟩
theorem dc_X12_possibleBehind_15 : Dc miX12_possibleBehind 15 (.aload_n 0) 1 16 := ⟨by decide +kernel, rfl⟩
theorem dc_X12_possibleBehind_16 : Dc miX12_possibleBehind 16 (.iload_n 1) 1 17 := ⟨by decide +kernel, rfl⟩
theorem dc_X12_possibleBehind_17 : Dc miX12_possibleBehind 17 (.iload_n 3) 1 18 := ⟨by decide +kernel, rfl⟩
theorem dc_X12_possibleBehind_18 : Dc miX12_possibleBehind 18 (.invokevirtual 340) 3 21 := ⟨by decide +kernel, rfl⟩
theorem dc_X12_possibleBehind_21 : Dc miX12_possibleBehind 21 (.ireturn) 1 22 := ⟨by decide +kernel, rfl⟩
def fX12_possibleBehind (N : Nat) (G : pG) (a0 : Nat) (a1 : Int32) (a2 : Int32) (σ : pS) : Option (Int32) := (fX12_ofWord N G a0 a2 (1 : Int32) σ).bind (fun q1 => if 0 ≤ q1 then ((fX12_staysOf N G a0 a1 q1 σ).bind (fun q2 => some q2)) else (some a1))
set_option maxRecDepth 100000 in
set_option maxHeartbeats 4000000 in
theorem tX12_possibleBehind {N : Nat} {G : pG} {SK : Nat → Nat} {a0 : Nat} {a1 : Int32} {a2 : Int32} {σ : pS} {r : Int32} (hW : WT G) (i0 : Is G a0 11) (h : fX12_possibleBehind N G a0 a1 a2 σ = some r) : Dn miX12_possibleBehind yX12_possibleBehind 4 G SK [.ref a0, .int a1, .int a2] σ (some (.int r)) σ := by
  unfold fX12_possibleBehind at h
  refine dn_of (lv := [some (.ref a0), some (.int a1), some (.int a2), none]) (by decide) rfl rfl (Nat.le_of_ble_eq_true rfl) rfl ?_
  refine ev_aload_n dc_X12_possibleBehind_0 rfl ?_
  refine ev_iload_n dc_X12_possibleBehind_1 rfl ?_
  refine ev_iconst (v := 1) dc_X12_possibleBehind_2 (by decide) ?_
  obtain ⟨q1, hq1, h⟩ := Option.bind_eq_some_iff.mp h
  refine ev_callV (av := [.int a2, .int (1 : Int32)]) (st := []) (st1 := [.int q1]) dc_X12_possibleBehind_3 (tX12_ofWord hW i0 hq1) mw_1820 cy_X12_ofWord i0 (by decide) rfl rfl rfl rfl (Nat.le_of_ble_eq_true rfl) (Nat.le_of_ble_eq_true rfl) ⟨Nat.le_refl _, Nat.le_refl _⟩ ?_
  refine ev_istore_n (lv' := [some (.ref a0), some (.int a1), some (.int a2), some (.int q1)]) dc_X12_possibleBehind_6 rfl (by decide) rfl ?_
  refine ev_iload_n dc_X12_possibleBehind_7 rfl ?_
  refine ev_if_ge (tgt := 15) dc_X12_possibleBehind_8 (by decide) h (fun h => ?_) (fun h => ?_)
  · refine ev_aload_n dc_X12_possibleBehind_15 rfl ?_
    refine ev_iload_n dc_X12_possibleBehind_16 rfl ?_
    refine ev_iload_n dc_X12_possibleBehind_17 rfl ?_
    obtain ⟨q2, hq2, h⟩ := Option.bind_eq_some_iff.mp h
    refine ev_callV (av := [.int a1, .int q1]) (st := []) (st1 := [.int q2]) dc_X12_possibleBehind_18 (tX12_staysOf hW i0 hq2) mw_1853 cy_X12_staysOf i0 (by decide) rfl rfl rfl rfl (Nat.le_of_ble_eq_true rfl) (Nat.le_of_ble_eq_true rfl) ⟨Nat.le_refl _, Nat.le_refl _⟩ ?_
    cases h
    exact ev_iret dc_X12_possibleBehind_21 rfl rfl rfl
  · refine ev_iload_n dc_X12_possibleBehind_11 rfl ?_
    refine ev_goto (tgt := 21) dc_X12_possibleBehind_12 (by decide) ?_
    cases h
    exact ev_iret dc_X12_possibleBehind_21 rfl rfl rfl
theorem dc_X12_tells_0 : Dc miX12_tells 0 (.sipush 299) 3 3 := ⟨by decide +kernel, rfl⟩
theorem dc_X12_tells_3 : Dc miX12_tells 3 (.istore_n 3) 1 4 := ⟨by decide +kernel, rfl⟩
theorem dc_X12_tells_4 : Dc miX12_tells 4 (.iload_n 3) 1 5 := ⟨by decide +kernel, rfl⟩
theorem dc_X12_tells_5 : Dc miX12_tells 5 (.iconst 5) 1 6 := ⟨by decide +kernel, rfl⟩
theorem dc_X12_tells_6 : Dc miX12_tells 6 (.if_icmp .lt 29) 3 9 := ⟨by decide +kernel, rfl⟩
theorem dc_X12_tells_9 : Dc miX12_tells 9 (.aload_n 0) 1 10 := ⟨by decide +kernel, rfl⟩
theorem dc_X12_tells_10 : Dc miX12_tells 10 (.getfield 13) 3 13 := ⟨by decide +kernel, rfl⟩
theorem dc_X12_tells_13 : Dc miX12_tells 13 (.bipush 83) 2 15 := ⟨by decide +kernel, rfl⟩
theorem dc_X12_tells_15 : Dc miX12_tells 15 (.iload_n 3) 1 16 := ⟨by decide +kernel, rfl⟩
theorem dc_X12_tells_16 : Dc miX12_tells 16 (.iadd) 1 17 := ⟨by decide +kernel, rfl⟩
theorem dc_X12_tells_17 : Dc miX12_tells 17 (.aload_n 0) 1 18 := ⟨by decide +kernel, rfl⟩
theorem dc_X12_tells_18 : Dc miX12_tells 18 (.getfield 13) 3 21 := ⟨by decide +kernel, rfl⟩
theorem dc_X12_tells_21 : Dc miX12_tells 21 (.bipush 83) 2 23 := ⟨by decide +kernel, rfl⟩
theorem dc_X12_tells_23 : Dc miX12_tells 23 (.iload_n 3) 1 24 := ⟨by decide +kernel, rfl⟩
theorem dc_X12_tells_24 : Dc miX12_tells 24 (.iadd) 1 25 := ⟨by decide +kernel, rfl⟩
theorem dc_X12_tells_25 : Dc miX12_tells 25 (.iconst 5) 1 26 := ⟨by decide +kernel, rfl⟩
theorem dc_X12_tells_26 : Dc miX12_tells 26 (.isub) 1 27 := ⟨by decide +kernel, rfl⟩
theorem dc_X12_tells_27 : Dc miX12_tells 27 (.iaload) 1 28 := ⟨by decide +kernel, rfl⟩
theorem dc_X12_tells_28 : Dc miX12_tells 28 (.iastore) 1 29 := ⟨by decide +kernel, rfl⟩
theorem dc_X12_tells_29 : Dc miX12_tells 29 (.iinc 3 (-1)) 3 32 := ⟨by decide +kernel, rfl⟩
theorem dc_X12_tells_32 : Dc miX12_tells 32 (.goto (-28)) 3 35 := ⟨by decide +kernel, rfl⟩
theorem dc_X12_tells_35 : Dc miX12_tells 35 (.aload_n 0) 1 36 := ⟨by decide +kernel, rfl⟩
theorem dc_X12_tells_36 : Dc miX12_tells 36 (.getfield 13) 3 39 := ⟨by decide +kernel, rfl⟩
theorem dc_X12_tells_39 : Dc miX12_tells 39 (.bipush 83) 2 41 := ⟨by decide +kernel, rfl⟩
theorem dc_X12_tells_41 : Dc miX12_tells 41 (.aload_n 0) 1 42 := ⟨by decide +kernel, rfl⟩
theorem dc_X12_tells_42 : Dc miX12_tells 42 (.getfield 13) 3 45 := ⟨by decide +kernel, rfl⟩
theorem dc_X12_tells_45 : Dc miX12_tells 45 (.bipush 9) 2 47 := ⟨by decide +kernel, rfl⟩
theorem dc_X12_tells_47 : Dc miX12_tells 47 (.iaload) 1 48 := ⟨by decide +kernel, rfl⟩
theorem dc_X12_tells_48 : Dc miX12_tells 48 (.iastore) 1 49 := ⟨by decide +kernel, rfl⟩
theorem dc_X12_tells_49 : Dc miX12_tells 49 (.aload_n 0) 1 50 := ⟨by decide +kernel, rfl⟩
theorem dc_X12_tells_50 : Dc miX12_tells 50 (.getfield 13) 3 53 := ⟨by decide +kernel, rfl⟩
theorem dc_X12_tells_53 : Dc miX12_tells 53 (.bipush 84) 2 55 := ⟨by decide +kernel, rfl⟩
theorem dc_X12_tells_55 : Dc miX12_tells 55 (.iload_n 1) 1 56 := ⟨by decide +kernel, rfl⟩
theorem dc_X12_tells_56 : Dc miX12_tells 56 (.iastore) 1 57 := ⟨by decide +kernel, rfl⟩
theorem dc_X12_tells_57 : Dc miX12_tells 57 (.aload_n 0) 1 58 := ⟨by decide +kernel, rfl⟩
theorem dc_X12_tells_58 : Dc miX12_tells 58 (.getfield 13) 3 61 := ⟨by decide +kernel, rfl⟩
theorem dc_X12_tells_61 : Dc miX12_tells 61 (.bipush 85) 2 63 := ⟨by decide +kernel, rfl⟩
theorem dc_X12_tells_63 : Dc miX12_tells 63 (.iload_n 2) 1 64 := ⟨by decide +kernel, rfl⟩
theorem dc_X12_tells_64 : Dc miX12_tells 64 (.iastore) 1 65 := ⟨by decide +kernel, rfl⟩
theorem dc_X12_tells_65 : Dc miX12_tells 65 (.aload_n 0) 1 66 := ⟨by decide +kernel, rfl⟩
theorem dc_X12_tells_66 : Dc miX12_tells 66 (.getfield 13) 3 69 := ⟨by decide +kernel, rfl⟩
theorem dc_X12_tells_69 : Dc miX12_tells 69 (.bipush 86) 2 71 := ⟨by decide +kernel, rfl⟩
theorem dc_X12_tells_71 : Dc miX12_tells 71 (.aload_n 0) 1 72 := ⟨by decide +kernel, rfl⟩
theorem dc_X12_tells_72 : Dc miX12_tells 72 (.getfield 13) 3 75 := ⟨by decide +kernel, rfl⟩
theorem dc_X12_tells_75 : Dc miX12_tells 75 (.bipush 7) 2 77 := ⟨by decide +kernel, rfl⟩
theorem dc_X12_tells_77 : Dc miX12_tells 77 (.iaload) 1 78 := ⟨by decide +kernel, rfl⟩
theorem dc_X12_tells_78 : Dc miX12_tells 78 (.iastore) 1 79 := ⟨by decide +kernel, rfl⟩
theorem dc_X12_tells_79 : Dc miX12_tells 79 (.aload_n 0) 1 80 := ⟨by decide +kernel, rfl⟩
theorem dc_X12_tells_80 : Dc miX12_tells 80 (.getfield 13) 3 83 := ⟨by decide +kernel, rfl⟩
theorem dc_X12_tells_83 : Dc miX12_tells 83 (.bipush 87) 2 85 := ⟨by decide +kernel, rfl⟩
theorem dc_X12_tells_85 : Dc miX12_tells 85 (.aload_n 0) 1 86 := ⟨by decide +kernel, rfl⟩
theorem dc_X12_tells_86 : Dc miX12_tells 86 (.invokevirtual 307) 3 89 := ⟨by decide +kernel, rfl⟩
theorem dc_X12_tells_89 : Dc miX12_tells 89 (.iastore) 1 90 := ⟨by decide +kernel, rfl⟩
theorem dc_X12_tells_90 : Dc miX12_tells 90 (.aload_n 0) 1 91 := ⟨by decide +kernel, rfl⟩
theorem dc_X12_tells_91 : Dc miX12_tells 91 (.getfield 13) 3 94 := ⟨by decide +kernel, rfl⟩
theorem dc_X12_tells_94 : Dc miX12_tells 94 (.bipush 15) 2 96 := ⟨by decide +kernel, rfl⟩
theorem dc_X12_tells_96 : Dc miX12_tells 96 (.bipush 60) 2 98 := ⟨by decide +kernel, rfl⟩
theorem dc_X12_tells_98 : Dc miX12_tells 98 (.aload_n 0) 1 99 := ⟨by decide +kernel, rfl⟩
theorem dc_X12_tells_99 : Dc miX12_tells 99 (.getfield 13) 3 102 := ⟨by decide +kernel, rfl⟩
theorem dc_X12_tells_102 : Dc miX12_tells 102 (.bipush 15) 2 104 := ⟨by decide +kernel, rfl⟩
theorem dc_X12_tells_104 : Dc miX12_tells 104 (.iaload) 1 105 := ⟨by decide +kernel, rfl⟩
theorem dc_X12_tells_105 : Dc miX12_tells 105 (.iconst 1) 1 106 := ⟨by decide +kernel, rfl⟩
theorem dc_X12_tells_106 : Dc miX12_tells 106 (.iadd) 1 107 := ⟨by decide +kernel, rfl⟩
theorem dc_X12_tells_107 : Dc miX12_tells 107 (.invokestatic 334) 3 110 := ⟨by decide +kernel, rfl⟩
theorem dc_X12_tells_110 : Dc miX12_tells 110 (.iastore) 1 111 := ⟨by decide +kernel, rfl⟩
theorem dc_X12_tells_111 : Dc miX12_tells 111 (.return_) 1 112 := ⟨by decide +kernel, rfl⟩
def fX12_tells_b4 (N : Nat) (G : pG) (a0 : Nat) (a1 : Int32) (a2 : Int32) : (Int32 × pS) → Option (pS) := lp (fun (k4 : Int32 × pS → Option (pS)) (b : Int32 × pS) => if b.1 < (5 : Int32) then (ck (inB (9 : Int32) (pN G (pR G a0 1))) (ck (inB (83 : Int32) (pN G (pR G a0 1))) (ck (inB (84 : Int32) (pN G (pR G a0 1))) (ck (inB (85 : Int32) (pN G (pR G a0 1))) (ck (inB (7 : Int32) (pN G (pR G a0 1))) (ck (inB (86 : Int32) (pN G (pR G a0 1))) ((fX12_howMany N G a0 (sA (sA (sA (sA b.2 (pR G a0 1) (83 : Int32) (gA b.2 (pR G a0 1) (9 : Int32))) (pR G a0 1) (84 : Int32) a1) (pR G a0 1) (85 : Int32) a2) (pR G a0 1) (86 : Int32) (gA (sA (sA (sA b.2 (pR G a0 1) (83 : Int32) (gA b.2 (pR G a0 1) (9 : Int32))) (pR G a0 1) (84 : Int32) a1) (pR G a0 1) (85 : Int32) a2) (pR G a0 1) (7 : Int32)))).bind (fun q1 => ck (inB (87 : Int32) (pN G (pR G a0 1))) (ck (inB (15 : Int32) (pN G (pR G a0 1))) (ck (inB (15 : Int32) (pN G (pR G a0 1))) (some (sA (sA (sA (sA (sA (sA b.2 (pR G a0 1) (83 : Int32) (gA b.2 (pR G a0 1) (9 : Int32))) (pR G a0 1) (84 : Int32) a1) (pR G a0 1) (85 : Int32) a2) (pR G a0 1) (86 : Int32) (gA (sA (sA (sA b.2 (pR G a0 1) (83 : Int32) (gA b.2 (pR G a0 1) (9 : Int32))) (pR G a0 1) (84 : Int32) a1) (pR G a0 1) (85 : Int32) a2) (pR G a0 1) (7 : Int32))) (pR G a0 1) (87 : Int32) q1) (pR G a0 1) (15 : Int32) (jmin (60 : Int32) ((gA (sA (sA (sA (sA (sA b.2 (pR G a0 1) (83 : Int32) (gA b.2 (pR G a0 1) (9 : Int32))) (pR G a0 1) (84 : Int32) a1) (pR G a0 1) (85 : Int32) a2) (pR G a0 1) (86 : Int32) (gA (sA (sA (sA b.2 (pR G a0 1) (83 : Int32) (gA b.2 (pR G a0 1) (9 : Int32))) (pR G a0 1) (84 : Int32) a1) (pR G a0 1) (85 : Int32) a2) (pR G a0 1) (7 : Int32))) (pR G a0 1) (87 : Int32) q1) (pR G a0 1) (15 : Int32)) + (1 : Int32))))))))))))))) else (ck (inB (((83 : Int32) + b.1) - (5 : Int32)) (pN G (pR G a0 1))) (ck (inB ((83 : Int32) + b.1) (pN G (pR G a0 1))) (k4 (b.1 + (-1 : Int32), sA b.2 (pR G a0 1) ((83 : Int32) + b.1) (gA b.2 (pR G a0 1) (((83 : Int32) + b.1) - (5 : Int32)))))))) N
set_option maxRecDepth 100000 in
set_option maxHeartbeats 4000000 in
theorem tX12_tells_b4 {N : Nat} {G : pG} {SK : Nat → Nat} {a0 : Nat} {a1 : Int32} {a2 : Int32} {b : Int32 × pS} {r : pS} (hW : WT G) (i0 : Is G a0 11) (h : fX12_tells_b4 N G a0 a1 a2 b = some r) : Ev miX12_tells (3, 0, 0) G (Zp G none r) SK (0, 0) 4 [some (.ref a0), some (.int a1), some (.int a2), some (.int b.1)] [] b.2 := by
  unfold fX12_tells_b4 at h
  refine lp_ind (P := fun b r9 => r9 = r → Ev miX12_tells (3, 0, 0) G (Zp G none r) SK (0, 0) 4 [some (.ref a0), some (.int a1), some (.int a2), some (.int b.1)] [] b.2) (fun k4 b r9 ih h9 e9 => ?_) N b r h rfl
  clear h
  subst e9
  have h := h9
  clear h9
  have hk4 : ∀ b : Int32 × pS, k4 b = some r9 → Ev miX12_tells (3, 0, 0) G (Zp G none r9) SK (0, 0) 4 [some (.ref a0), some (.int a1), some (.int a2), some (.int b.1)] [] b.2 := fun b hb => ih b r9 hb rfl
  clear ih
  obtain ⟨x3, σ⟩ := b
  dsimp only at h ⊢
  refine ev_iload_n dc_X12_tells_4 rfl ?_
  refine ev_iconst (v := 5) dc_X12_tells_5 (by decide) ?_
  refine ev_icmp_lt (tgt := 35) dc_X12_tells_6 (by decide) h (fun h => ?_) (fun h => ?_)
  · refine ev_aload_n dc_X12_tells_35 rfl ?_
    refine ev_getR dc_X12_tells_36 fi_X12_13 rfl i0 ?_
    refine ev_bipush (v := 83) dc_X12_tells_39 (by decide) ?_
    refine ev_aload_n dc_X12_tells_41 rfl ?_
    refine ev_getR dc_X12_tells_42 fi_X12_13 rfl i0 ?_
    refine ev_bipush (v := 9) dc_X12_tells_45 (by decide) ?_
    refine ev_iald dc_X12_tells_47 (wt hW i0 1 rfl rfl) h (fun h => ?_)
    refine ev_iast dc_X12_tells_48 (wt hW i0 1 rfl rfl) h (fun h => ?_)
    refine ev_aload_n dc_X12_tells_49 rfl ?_
    refine ev_getR dc_X12_tells_50 fi_X12_13 rfl i0 ?_
    refine ev_bipush (v := 84) dc_X12_tells_53 (by decide) ?_
    refine ev_iload_n dc_X12_tells_55 rfl ?_
    refine ev_iast dc_X12_tells_56 (wt hW i0 1 rfl rfl) h (fun h => ?_)
    refine ev_aload_n dc_X12_tells_57 rfl ?_
    refine ev_getR dc_X12_tells_58 fi_X12_13 rfl i0 ?_
    refine ev_bipush (v := 85) dc_X12_tells_61 (by decide) ?_
    refine ev_iload_n dc_X12_tells_63 rfl ?_
    refine ev_iast dc_X12_tells_64 (wt hW i0 1 rfl rfl) h (fun h => ?_)
    refine ev_aload_n dc_X12_tells_65 rfl ?_
    refine ev_getR dc_X12_tells_66 fi_X12_13 rfl i0 ?_
    refine ev_bipush (v := 86) dc_X12_tells_69 (by decide) ?_
    refine ev_aload_n dc_X12_tells_71 rfl ?_
    refine ev_getR dc_X12_tells_72 fi_X12_13 rfl i0 ?_
    refine ev_bipush (v := 7) dc_X12_tells_75 (by decide) ?_
    refine ev_iald dc_X12_tells_77 (wt hW i0 1 rfl rfl) h (fun h => ?_)
    refine ev_iast dc_X12_tells_78 (wt hW i0 1 rfl rfl) h (fun h => ?_)
    refine ev_aload_n dc_X12_tells_79 rfl ?_
    refine ev_getR dc_X12_tells_80 fi_X12_13 rfl i0 ?_
    refine ev_bipush (v := 87) dc_X12_tells_83 (by decide) ?_
    refine ev_aload_n dc_X12_tells_85 rfl ?_
    obtain ⟨q1, hq1, h⟩ := Option.bind_eq_some_iff.mp h
    refine ev_callV (av := []) (st := [.int (87 : Int32), .ref (pR G a0 1)]) (st1 := [.int q1, .int (87 : Int32), .ref (pR G a0 1)]) dc_X12_tells_86 (tX12_howMany hW i0 hq1) mw_1808 cy_X12_howMany i0 (by decide) rfl rfl rfl rfl (Nat.le_of_ble_eq_true rfl) (Nat.le_of_ble_eq_true rfl) ⟨Nat.le_refl _, Nat.le_refl _⟩ ?_
    refine ev_iast dc_X12_tells_89 (wt hW i0 1 rfl rfl) h (fun h => ?_)
    refine ev_aload_n dc_X12_tells_90 rfl ?_
    refine ev_getR dc_X12_tells_91 fi_X12_13 rfl i0 ?_
    refine ev_bipush (v := 15) dc_X12_tells_94 (by decide) ?_
    refine ev_bipush (v := 60) dc_X12_tells_96 (by decide) ?_
    refine ev_aload_n dc_X12_tells_98 rfl ?_
    refine ev_getR dc_X12_tells_99 fi_X12_13 rfl i0 ?_
    refine ev_bipush (v := 15) dc_X12_tells_102 (by decide) ?_
    refine ev_iald dc_X12_tells_104 (wt hW i0 1 rfl rfl) h (fun h => ?_)
    refine ev_iconst (v := 1) dc_X12_tells_105 (by decide) ?_
    refine ev_iadd dc_X12_tells_106 ?_
    refine ev_min dc_X12_tells_107 mw_1861 (Nat.le_of_ble_eq_true rfl) (Nat.le_of_ble_eq_true rfl) ⟨Nat.le_refl _, Nat.le_refl _⟩ ?_
    refine ev_iast dc_X12_tells_110 (wt hW i0 1 rfl rfl) h (fun h => ?_)
    cases h
    exact ev_vret dc_X12_tells_111 rfl rfl rfl
  · refine ev_aload_n dc_X12_tells_9 rfl ?_
    refine ev_getR dc_X12_tells_10 fi_X12_13 rfl i0 ?_
    refine ev_bipush (v := 83) dc_X12_tells_13 (by decide) ?_
    refine ev_iload_n dc_X12_tells_15 rfl ?_
    refine ev_iadd dc_X12_tells_16 ?_
    refine ev_aload_n dc_X12_tells_17 rfl ?_
    refine ev_getR dc_X12_tells_18 fi_X12_13 rfl i0 ?_
    refine ev_bipush (v := 83) dc_X12_tells_21 (by decide) ?_
    refine ev_iload_n dc_X12_tells_23 rfl ?_
    refine ev_iadd dc_X12_tells_24 ?_
    refine ev_iconst (v := 5) dc_X12_tells_25 (by decide) ?_
    refine ev_isub dc_X12_tells_26 ?_
    refine ev_iald dc_X12_tells_27 (wt hW i0 1 rfl rfl) h (fun h => ?_)
    refine ev_iast dc_X12_tells_28 (wt hW i0 1 rfl rfl) h (fun h => ?_)
    refine ev_iinc (v := (-1)) (lv' := [some (.ref a0), some (.int a1), some (.int a2), some (.int (x3 + (-1 : Int32)))]) dc_X12_tells_29 rfl (by decide) rfl (by decide) rfl ?_
    refine ev_goto (tgt := 4) dc_X12_tells_32 (by decide) ?_
    exact ev_sub (hk4 (x3 + (-1 : Int32), sA σ (pR G a0 1) ((83 : Int32) + x3) (gA σ (pR G a0 1) (((83 : Int32) + x3) - (5 : Int32)))) h) (And.intro rfl (And.intro rfl (And.intro rfl (And.intro rfl trivial))))
def fX12_tells (N : Nat) (G : pG) (a0 : Nat) (a1 : Int32) (a2 : Int32) (σ : pS) : Option (pS) := fX12_tells_b4 N G a0 a1 a2 ((299 : Int32), σ)
set_option maxRecDepth 100000 in
set_option maxHeartbeats 4000000 in
theorem tX12_tells {N : Nat} {G : pG} {SK : Nat → Nat} {a0 : Nat} {a1 : Int32} {a2 : Int32} {σ : pS} {r : pS} (hW : WT G) (i0 : Is G a0 11) (h : fX12_tells N G a0 a1 a2 σ = some r) : Dn miX12_tells yX12_tells 3 G SK [.ref a0, .int a1, .int a2] σ none r := by
  unfold fX12_tells at h
  refine dn_of (lv := [some (.ref a0), some (.int a1), some (.int a2), none]) (by decide) rfl rfl (Nat.le_of_ble_eq_true rfl) rfl ?_
  refine ev_sipush (v := 299) dc_X12_tells_0 (by decide) ?_
  refine ev_istore_n (lv' := [some (.ref a0), some (.int a1), some (.int a2), some (.int (299 : Int32))]) dc_X12_tells_3 rfl (by decide) rfl ?_
  exact ev_sub (tX12_tells_b4 (b := ((299 : Int32), σ)) hW i0 h) (And.intro rfl (And.intro rfl (And.intro rfl (And.intro rfl trivial))))
theorem dc_X12_says_0 : Dc miX12_says 0 (.aload_n 0) 1 1 := ⟨by decide +kernel, rfl⟩
theorem dc_X12_says_1 : Dc miX12_says 1 (.invokevirtual 349) 3 4 := ⟨by decide +kernel, rfl⟩
theorem dc_X12_says_4 : Dc miX12_says 4 (.aload_n 0) 1 5 := ⟨by decide +kernel, rfl⟩
theorem dc_X12_says_5 : Dc miX12_says 5 (.getfield 13) 3 8 := ⟨by decide +kernel, rfl⟩
theorem dc_X12_says_8 : Dc miX12_says 8 (.bipush 7) 2 10 := ⟨by decide +kernel, rfl⟩
theorem dc_X12_says_10 : Dc miX12_says 10 (.aload_n 0) 1 11 := ⟨by decide +kernel, rfl⟩
theorem dc_X12_says_11 : Dc miX12_says 11 (.iload_n 1) 1 12 := ⟨by decide +kernel, rfl⟩
theorem dc_X12_says_12 : Dc miX12_says 12 (.iload_n 2) 1 13 := ⟨by decide +kernel, rfl⟩
theorem dc_X12_says_13 : Dc miX12_says 13 (.invokevirtual 355) 3 16 := ⟨by decide +kernel, rfl⟩
theorem dc_X12_says_16 : Dc miX12_says 16 (.iastore) 1 17 := ⟨by decide +kernel, rfl⟩
theorem dc_X12_says_17 : Dc miX12_says 17 (.aload_n 0) 1 18 := ⟨by decide +kernel, rfl⟩
theorem dc_X12_says_18 : Dc miX12_says 18 (.getfield 13) 3 21 := ⟨by decide +kernel, rfl⟩
theorem dc_X12_says_21 : Dc miX12_says 21 (.bipush 12) 2 23 := ⟨by decide +kernel, rfl⟩
theorem dc_X12_says_23 : Dc miX12_says 23 (.aload_n 0) 1 24 := ⟨by decide +kernel, rfl⟩
theorem dc_X12_says_24 : Dc miX12_says 24 (.aload_n 0) 1 25 := ⟨by decide +kernel, rfl⟩
theorem dc_X12_says_25 : Dc miX12_says 25 (.getfield 13) 3 28 := ⟨by decide +kernel, rfl⟩
theorem dc_X12_says_28 : Dc miX12_says 28 (.bipush 12) 2 30 := ⟨by decide +kernel, rfl⟩
theorem dc_X12_says_30 : Dc miX12_says 30 (.iaload) 1 31 := ⟨by decide +kernel, rfl⟩
theorem dc_X12_says_31 : Dc miX12_says 31 (.iload_n 2) 1 32 := ⟨by decide +kernel, rfl⟩
theorem dc_X12_says_32 : Dc miX12_says 32 (.invokevirtual 352) 3 35 := ⟨by decide +kernel, rfl⟩
theorem dc_X12_says_35 : Dc miX12_says 35 (.iastore) 1 36 := ⟨by decide +kernel, rfl⟩
theorem dc_X12_says_36 : Dc miX12_says 36 (.aload_n 0) 1 37 := ⟨by decide +kernel, rfl⟩
theorem dc_X12_says_37 : Dc miX12_says 37 (.getfield 13) 3 40 := ⟨by decide +kernel, rfl⟩
theorem dc_X12_says_40 : Dc miX12_says 40 (.bipush 7) 2 42 := ⟨by decide +kernel, rfl⟩
theorem dc_X12_says_42 : Dc miX12_says 42 (.iaload) 1 43 := ⟨by decide +kernel, rfl⟩
theorem dc_X12_says_43 : Dc miX12_says 43 (.aload_n 0) 1 44 := ⟨by decide +kernel, rfl⟩
theorem dc_X12_says_44 : Dc miX12_says 44 (.getfield 13) 3 47 := ⟨by decide +kernel, rfl⟩
theorem dc_X12_says_47 : Dc miX12_says 47 (.bipush 8) 2 49 := ⟨by decide +kernel, rfl⟩
theorem dc_X12_says_49 : Dc miX12_says 49 (.iaload) 1 50 := ⟨by decide +kernel, rfl⟩
theorem dc_X12_says_50 : Dc miX12_says 50 (.if_icmp .lt 11) 3 53 := ⟨by decide +kernel, rfl⟩
theorem dc_X12_says_53 : Dc miX12_says 53 (.aload_n 0) 1 54 := ⟨by decide +kernel, rfl⟩
theorem dc_X12_says_54 : Dc miX12_says 54 (.getfield 13) 3 57 := ⟨by decide +kernel, rfl⟩
theorem dc_X12_says_57 : Dc miX12_says 57 (.bipush 13) 2 59 := ⟨by decide +kernel, rfl⟩
theorem dc_X12_says_59 : Dc miX12_says 59 (.iconst 1) 1 60 := ⟨by decide +kernel, rfl⟩
theorem dc_X12_says_60 : Dc miX12_says 60 (.iastore) 1 61 := ⟨by decide +kernel, rfl⟩
theorem dc_X12_says_61 : Dc miX12_says 61 (.aload_n 0) 1 62 := ⟨by decide +kernel, rfl⟩
theorem dc_X12_says_62 : Dc miX12_says 62 (.iload_n 1) 1 63 := ⟨by decide +kernel, rfl⟩
theorem dc_X12_says_63 : Dc miX12_says 63 (.iload_n 2) 1 64 := ⟨by decide +kernel, rfl⟩
theorem dc_X12_says_64 : Dc miX12_says 64 (.invokevirtual 361) 3 67 := ⟨by decide +kernel, rfl⟩
theorem dc_X12_says_67 : Dc miX12_says 67 (.return_) 1 68 := ⟨by decide +kernel, rfl⟩
def fX12_says_b61 (N : Nat) (G : pG) (a0 : Nat) (a1 : Int32) (a2 : Int32) (σ : pS) : Option (pS) := (fX12_tells N G a0 a1 a2 σ).bind (fun q1 => some q1)
set_option maxRecDepth 100000 in
set_option maxHeartbeats 4000000 in
theorem tX12_says_b61 {N : Nat} {G : pG} {SK : Nat → Nat} {a0 : Nat} {a1 : Int32} {a2 : Int32} {σ : pS} {r : pS} (hW : WT G) (i0 : Is G a0 11) (h : fX12_says_b61 N G a0 a1 a2 σ = some r) : Ev miX12_says (6, 0, 0) G (Zp G none r) SK (0, 0) 61 [some (.ref a0), some (.int a1), some (.int a2)] [] σ := by
  unfold fX12_says_b61 at h
  refine ev_aload_n dc_X12_says_61 rfl ?_
  refine ev_iload_n dc_X12_says_62 rfl ?_
  refine ev_iload_n dc_X12_says_63 rfl ?_
  obtain ⟨q1, hq1, h⟩ := Option.bind_eq_some_iff.mp h
  refine ev_callV (av := [.int a1, .int a2]) (st := []) (st1 := []) dc_X12_says_64 (tX12_tells hW i0 hq1) mw_1918 cy_X12_tells i0 (by decide) rfl rfl rfl rfl (Nat.le_of_ble_eq_true rfl) (Nat.le_of_ble_eq_true rfl) ⟨Nat.le_refl _, Nat.le_refl _⟩ ?_
  cases h
  exact ev_vret dc_X12_says_67 rfl rfl rfl
def fX12_says (N : Nat) (G : pG) (a0 : Nat) (a1 : Int32) (a2 : Int32) (σ : pS) : Option (pS) := (fX12_looksNow N G a0 σ).bind (fun q2 => (fX12_behindWord N G a0 a1 a2 q2).bind (fun q3 => ck (inB (7 : Int32) (pN G (pR G a0 1))) (ck (inB (12 : Int32) (pN G (pR G a0 1))) ((fX12_possibleBehind N G a0 (gA (sA q3.2 (pR G a0 1) (7 : Int32) q3.1) (pR G a0 1) (12 : Int32)) a2 (sA q3.2 (pR G a0 1) (7 : Int32) q3.1)).bind (fun q4 => ck (inB (12 : Int32) (pN G (pR G a0 1))) (ck (inB (7 : Int32) (pN G (pR G a0 1))) (ck (inB (8 : Int32) (pN G (pR G a0 1))) (if (gA (sA (sA q3.2 (pR G a0 1) (7 : Int32) q3.1) (pR G a0 1) (12 : Int32) q4) (pR G a0 1) (7 : Int32)) < (gA (sA (sA q3.2 (pR G a0 1) (7 : Int32) q3.1) (pR G a0 1) (12 : Int32) q4) (pR G a0 1) (8 : Int32)) then (fX12_says_b61 N G a0 a1 a2 (sA (sA q3.2 (pR G a0 1) (7 : Int32) q3.1) (pR G a0 1) (12 : Int32) q4)) else (ck (inB (13 : Int32) (pN G (pR G a0 1))) (fX12_says_b61 N G a0 a1 a2 (sA (sA (sA q3.2 (pR G a0 1) (7 : Int32) q3.1) (pR G a0 1) (12 : Int32) q4) (pR G a0 1) (13 : Int32) (1 : Int32))))))))))))
set_option maxRecDepth 100000 in
set_option maxHeartbeats 4000000 in
theorem tX12_says {N : Nat} {G : pG} {SK : Nat → Nat} {a0 : Nat} {a1 : Int32} {a2 : Int32} {σ : pS} {r : pS} (hW : WT G) (i0 : Is G a0 11) (h : fX12_says N G a0 a1 a2 σ = some r) : Dn miX12_says yX12_says 6 G SK [.ref a0, .int a1, .int a2] σ none r := by
  unfold fX12_says at h
  refine dn_of (lv := [some (.ref a0), some (.int a1), some (.int a2)]) (by decide) rfl rfl (Nat.le_of_ble_eq_true rfl) rfl ?_
  refine ev_aload_n dc_X12_says_0 rfl ?_
  obtain ⟨q2, hq2, h⟩ := Option.bind_eq_some_iff.mp h
  refine ev_callV (av := []) (st := []) (st1 := []) dc_X12_says_1 (tX12_looksNow hW i0 hq2) mw_1804 cy_X12_looksNow i0 (by decide) rfl rfl rfl rfl (Nat.le_of_ble_eq_true rfl) (Nat.le_of_ble_eq_true rfl) ⟨Nat.le_refl _, Nat.le_refl _⟩ ?_
  refine ev_aload_n dc_X12_says_4 rfl ?_
  refine ev_getR dc_X12_says_5 fi_X12_13 rfl i0 ?_
  refine ev_bipush (v := 7) dc_X12_says_8 (by decide) ?_
  refine ev_aload_n dc_X12_says_10 rfl ?_
  refine ev_iload_n dc_X12_says_11 rfl ?_
  refine ev_iload_n dc_X12_says_12 rfl ?_
  obtain ⟨q3, hq3, h⟩ := Option.bind_eq_some_iff.mp h
  refine ev_callV (av := [.int a1, .int a2]) (st := [.int (7 : Int32), .ref (pR G a0 1)]) (st1 := [.int q3.1, .int (7 : Int32), .ref (pR G a0 1)]) dc_X12_says_13 (tX12_behindWord hW i0 hq3) mw_1857 cy_X12_behindWord i0 (by decide) rfl rfl rfl rfl (Nat.le_of_ble_eq_true rfl) (Nat.le_of_ble_eq_true rfl) ⟨Nat.le_refl _, Nat.le_refl _⟩ ?_
  refine ev_iast dc_X12_says_16 (wt hW i0 1 rfl rfl) h (fun h => ?_)
  refine ev_aload_n dc_X12_says_17 rfl ?_
  refine ev_getR dc_X12_says_18 fi_X12_13 rfl i0 ?_
  refine ev_bipush (v := 12) dc_X12_says_21 (by decide) ?_
  refine ev_aload_n dc_X12_says_23 rfl ?_
  refine ev_aload_n dc_X12_says_24 rfl ?_
  refine ev_getR dc_X12_says_25 fi_X12_13 rfl i0 ?_
  refine ev_bipush (v := 12) dc_X12_says_28 (by decide) ?_
  refine ev_iald dc_X12_says_30 (wt hW i0 1 rfl rfl) h (fun h => ?_)
  refine ev_iload_n dc_X12_says_31 rfl ?_
  obtain ⟨q4, hq4, h⟩ := Option.bind_eq_some_iff.mp h
  refine ev_callV (av := [.int (gA (sA q3.2 (pR G a0 1) (7 : Int32) q3.1) (pR G a0 1) (12 : Int32)), .int a2]) (st := [.int (12 : Int32), .ref (pR G a0 1)]) (st1 := [.int q4, .int (12 : Int32), .ref (pR G a0 1)]) dc_X12_says_32 (tX12_possibleBehind hW i0 hq4) mw_1849 cy_X12_possibleBehind i0 (by decide) rfl rfl rfl rfl (Nat.le_of_ble_eq_true rfl) (Nat.le_of_ble_eq_true rfl) ⟨Nat.le_refl _, Nat.le_refl _⟩ ?_
  refine ev_iast dc_X12_says_35 (wt hW i0 1 rfl rfl) h (fun h => ?_)
  refine ev_aload_n dc_X12_says_36 rfl ?_
  refine ev_getR dc_X12_says_37 fi_X12_13 rfl i0 ?_
  refine ev_bipush (v := 7) dc_X12_says_40 (by decide) ?_
  refine ev_iald dc_X12_says_42 (wt hW i0 1 rfl rfl) h (fun h => ?_)
  refine ev_aload_n dc_X12_says_43 rfl ?_
  refine ev_getR dc_X12_says_44 fi_X12_13 rfl i0 ?_
  refine ev_bipush (v := 8) dc_X12_says_47 (by decide) ?_
  refine ev_iald dc_X12_says_49 (wt hW i0 1 rfl rfl) h (fun h => ?_)
  refine ev_icmp_lt (tgt := 61) dc_X12_says_50 (by decide) h (fun h => ?_) (fun h => ?_)
  · exact ev_sub (tX12_says_b61 hW i0 h) (And.intro rfl (And.intro rfl (And.intro rfl trivial)))
  · refine ev_aload_n dc_X12_says_53 rfl ?_
    refine ev_getR dc_X12_says_54 fi_X12_13 rfl i0 ?_
    refine ev_bipush (v := 13) dc_X12_says_57 (by decide) ?_
    refine ev_iconst (v := 1) dc_X12_says_59 (by decide) ?_
    refine ev_iast dc_X12_says_60 (wt hW i0 1 rfl rfl) h (fun h => ?_)
    exact ev_sub (tX12_says_b61 hW i0 h) (And.intro rfl (And.intro rfl (And.intro rfl trivial)))
theorem dc_X12_calmNight_0 : Dc miX12_calmNight 0 (.aload_n 0) 1 1 := ⟨by decide +kernel, rfl⟩
theorem dc_X12_calmNight_1 : Dc miX12_calmNight 1 (.invokevirtual 391) 3 4 := ⟨by decide +kernel, rfl⟩
theorem dc_X12_calmNight_4 : Dc miX12_calmNight 4 (.ifCond .eq 4) 3 7 := ⟨by decide +kernel, rfl⟩
theorem dc_X12_calmNight_7 : Dc miX12_calmNight 7 (.return_) 1 8 := ⟨by decide +kernel, rfl⟩
theorem dc_X12_calmNight_8 : Dc miX12_calmNight 8 (.iconst 0) 1 9 := ⟨by decide +kernel, rfl⟩
theorem dc_X12_calmNight_9 : Dc miX12_calmNight 9 (.istore_n 2) 1 10 := ⟨by decide +kernel, rfl⟩
theorem dc_X12_calmNight_10 : Dc miX12_calmNight 10 (.iload_n 2) 1 11 := ⟨by decide +kernel, rfl⟩
theorem dc_X12_calmNight_11 : Dc miX12_calmNight 11 (.aload_n 0) 1 12 := ⟨by decide +kernel, rfl⟩
theorem dc_X12_calmNight_12 : Dc miX12_calmNight 12 (.invokevirtual 74) 3 15 := ⟨by decide +kernel, rfl⟩
theorem dc_X12_calmNight_15 : Dc miX12_calmNight 15 (.if_icmp .ge 35) 3 18 := ⟨by decide +kernel, rfl⟩
theorem dc_X12_calmNight_18 : Dc miX12_calmNight 18 (.aload_n 0) 1 19 := ⟨by decide +kernel, rfl⟩
theorem dc_X12_calmNight_19 : Dc miX12_calmNight 19 (.invokevirtual 367) 3 22 := ⟨by decide +kernel, rfl⟩
theorem dc_X12_calmNight_22 : Dc miX12_calmNight 22 (.ifCond .ne 28) 3 25 := ⟨by decide +kernel, rfl⟩
theorem dc_X12_calmNight_25 : Dc miX12_calmNight 25 (.aload_n 0) 1 26 := ⟨by decide +kernel, rfl⟩
theorem dc_X12_calmNight_26 : Dc miX12_calmNight 26 (.iload_n 2) 1 27 := ⟨by decide +kernel, rfl⟩
theorem dc_X12_calmNight_27 : Dc miX12_calmNight 27 (.invokevirtual 370) 3 30 := ⟨by decide +kernel, rfl⟩
theorem dc_X12_calmNight_30 : Dc miX12_calmNight 30 (.ifCond .eq 14) 3 33 := ⟨by decide +kernel, rfl⟩
theorem dc_X12_calmNight_33 : Dc miX12_calmNight 33 (.aload_n 0) 1 34 := ⟨by decide +kernel, rfl⟩
theorem dc_X12_calmNight_34 : Dc miX12_calmNight 34 (.iload_n 2) 1 35 := ⟨by decide +kernel, rfl⟩
theorem dc_X12_calmNight_35 : Dc miX12_calmNight 35 (.aload_n 0) 1 36 := ⟨by decide +kernel, rfl⟩
theorem dc_X12_calmNight_36 : Dc miX12_calmNight 36 (.iload_n 2) 1 37 := ⟨by decide +kernel, rfl⟩
theorem dc_X12_calmNight_37 : Dc miX12_calmNight 37 (.iconst 1) 1 38 := ⟨by decide +kernel, rfl⟩
theorem dc_X12_calmNight_38 : Dc miX12_calmNight 38 (.invokevirtual 62) 3 41 := ⟨by decide +kernel, rfl⟩
theorem dc_X12_calmNight_41 : Dc miX12_calmNight 41 (.invokevirtual 376) 3 44 := ⟨by decide +kernel, rfl⟩
theorem dc_X12_calmNight_44 : Dc miX12_calmNight 44 (.iinc 2 1) 3 47 := ⟨by decide +kernel, rfl⟩
theorem dc_X12_calmNight_47 : Dc miX12_calmNight 47 (.goto (-37)) 3 50 := ⟨by decide +kernel, rfl⟩
theorem dc_X12_calmNight_50 : Dc miX12_calmNight 50 (.aload_n 0) 1 51 := ⟨by decide +kernel, rfl⟩
theorem dc_X12_calmNight_51 : Dc miX12_calmNight 51 (.invokevirtual 367) 3 54 := ⟨by decide +kernel, rfl⟩
theorem dc_X12_calmNight_54 : Dc miX12_calmNight 54 (.ifCond .ne 12) 3 57 := ⟨by decide +kernel, rfl⟩
theorem dc_X12_calmNight_57 : Dc miX12_calmNight 57 (.iload_n 1) 1 58 := ⟨by decide +kernel, rfl⟩
theorem dc_X12_calmNight_58 : Dc miX12_calmNight 58 (.ifCond .lt 8) 3 61 := ⟨by decide +kernel, rfl⟩
theorem dc_X12_calmNight_61 : Dc miX12_calmNight 61 (.aload_n 0) 1 62 := ⟨by decide +kernel, rfl⟩
theorem dc_X12_calmNight_62 : Dc miX12_calmNight 62 (.iload_n 1) 1 63 := ⟨by decide +kernel, rfl⟩
theorem dc_X12_calmNight_63 : Dc miX12_calmNight 63 (.invokevirtual 379) 3 66 := ⟨by decide +kernel, rfl⟩
theorem dc_X12_calmNight_66 : Dc miX12_calmNight 66 (.aload_n 0) 1 67 := ⟨by decide +kernel, rfl⟩
theorem dc_X12_calmNight_67 : Dc miX12_calmNight 67 (.getfield 13) 3 70 := ⟨by decide +kernel, rfl⟩
theorem dc_X12_calmNight_70 : Dc miX12_calmNight 70 (.bipush 9) 2 72 := ⟨by decide +kernel, rfl⟩
theorem dc_X12_calmNight_72 : Dc miX12_calmNight 72 (.dup2) 1 73 := ⟨by decide +kernel, rfl⟩
theorem dc_X12_calmNight_73 : Dc miX12_calmNight 73 (.iaload) 1 74 := ⟨by decide +kernel, rfl⟩
theorem dc_X12_calmNight_74 : Dc miX12_calmNight 74 (.iconst 1) 1 75 := ⟨by decide +kernel, rfl⟩
theorem dc_X12_calmNight_75 : Dc miX12_calmNight 75 (.iadd) 1 76 := ⟨by decide +kernel, rfl⟩
theorem dc_X12_calmNight_76 : Dc miX12_calmNight 76 (.iastore) 1 77 := ⟨by decide +kernel, rfl⟩
theorem dc_X12_calmNight_77 : Dc miX12_calmNight 77 (.return_) 1 78 := ⟨by decide +kernel, rfl⟩
def fX12_calmNight_b66 (N : Nat) (G : pG) (a0 : Nat) (σ : pS) : Option (pS) := ck (inB (9 : Int32) (pN G (pR G a0 1))) (ck (inB (9 : Int32) (pN G (pR G a0 1))) (some (sA σ (pR G a0 1) (9 : Int32) ((gA σ (pR G a0 1) (9 : Int32)) + (1 : Int32)))))
set_option maxRecDepth 100000 in
set_option maxHeartbeats 4000000 in
theorem tX12_calmNight_b66 {N : Nat} {G : pG} {SK : Nat → Nat} {a0 : Nat} {σ : pS} {r : pS} (hW : WT G) (i0 : Is G a0 11) (h : fX12_calmNight_b66 N G a0 σ = some r) : Ev miX12_calmNight (7, 0, 0) G (Zp G none r) SK (0, 0) 66 [some (.ref a0), none, none] [] σ := by
  unfold fX12_calmNight_b66 at h
  refine ev_aload_n dc_X12_calmNight_66 rfl ?_
  refine ev_getR dc_X12_calmNight_67 fi_X12_13 rfl i0 ?_
  refine ev_bipush (v := 9) dc_X12_calmNight_70 (by decide) ?_
  refine ev_dup2 dc_X12_calmNight_72 rfl rfl ?_
  refine ev_iald dc_X12_calmNight_73 (wt hW i0 1 rfl rfl) h (fun h => ?_)
  refine ev_iconst (v := 1) dc_X12_calmNight_74 (by decide) ?_
  refine ev_iadd dc_X12_calmNight_75 ?_
  refine ev_iast dc_X12_calmNight_76 (wt hW i0 1 rfl rfl) h (fun h => ?_)
  cases h
  exact ev_vret dc_X12_calmNight_77 rfl rfl rfl
def fX12_calmNight_b50 (N : Nat) (G : pG) (a0 : Nat) (a1 : Int32) (σ : pS) : Option (pS) := (fX12_isGone N G a0 σ).bind (fun q1 => if q1 = 0 then (if a1 < 0 then (fX12_calmNight_b66 N G a0 σ) else ((fX12_isDone N G a0 a1 σ).bind (fun q2 => fX12_calmNight_b66 N G a0 q2))) else (fX12_calmNight_b66 N G a0 σ))
set_option maxRecDepth 100000 in
set_option maxHeartbeats 4000000 in
theorem tX12_calmNight_b50 {N : Nat} {G : pG} {SK : Nat → Nat} {a0 : Nat} {a1 : Int32} {σ : pS} {r : pS} (hW : WT G) (i0 : Is G a0 11) (h : fX12_calmNight_b50 N G a0 a1 σ = some r) : Ev miX12_calmNight (7, 0, 0) G (Zp G none r) SK (0, 0) 50 [some (.ref a0), some (.int a1), none] [] σ := by
  unfold fX12_calmNight_b50 at h
  refine ev_aload_n dc_X12_calmNight_50 rfl ?_
  obtain ⟨q1, hq1, h⟩ := Option.bind_eq_some_iff.mp h
  refine ev_callV (av := []) (st := []) (st1 := [.int q1]) dc_X12_calmNight_51 (tX12_isGone hW i0 hq1) mw_1902 cy_X12_isGone i0 (by decide) rfl rfl rfl rfl (Nat.le_of_ble_eq_true rfl) (Nat.le_of_ble_eq_true rfl) ⟨Nat.le_refl _, Nat.le_refl _⟩ ?_
  refine ev_if_ne (tgt := 66) dc_X12_calmNight_54 (by decide) h (fun h => ?_) (fun h => ?_)
  · refine ev_iload_n dc_X12_calmNight_57 rfl ?_
    refine ev_if_lt (tgt := 66) dc_X12_calmNight_58 (by decide) h (fun h => ?_) (fun h => ?_)
    · exact ev_sub (tX12_calmNight_b66 hW i0 h) (And.intro rfl trivial)
    · refine ev_aload_n dc_X12_calmNight_61 rfl ?_
      refine ev_iload_n dc_X12_calmNight_62 rfl ?_
      obtain ⟨q2, hq2, h⟩ := Option.bind_eq_some_iff.mp h
      refine ev_callV (av := [.int a1]) (st := []) (st1 := []) dc_X12_calmNight_63 (tX12_isDone hW i0 hq2) mw_1926 cy_X12_isDone i0 (by decide) rfl rfl rfl rfl (Nat.le_of_ble_eq_true rfl) (Nat.le_of_ble_eq_true rfl) ⟨Nat.le_refl _, Nat.le_refl _⟩ ?_
      exact ev_sub (tX12_calmNight_b66 hW i0 h) (And.intro rfl trivial)
  · exact ev_sub (tX12_calmNight_b66 hW i0 h) (And.intro rfl trivial)
def fX12_calmNight_b10 (N : Nat) (G : pG) (a0 : Nat) (a1 : Int32) : (Int32 × pS) → Option (pS) := lp (fun (k10 : Int32 × pS → Option (pS)) (b : Int32 × pS) => (fX12_courtiers N G a0 b.2).bind (fun q3 => if q3 ≤ b.1 then (fX12_calmNight_b50 N G a0 a1 b.2) else ((fX12_isGone N G a0 b.2).bind (fun q4 => if q4 = 0 then ((fX12_isNear N G a0 b.1 b.2).bind (fun q5 => if q5 = 0 then (k10 (b.1 + (1 : Int32), b.2)) else ((fX12_ofWho N G a0 b.1 (1 : Int32) b.2).bind (fun q6 => (fX12_says N G a0 b.1 q6 b.2).bind (fun q7 => k10 (b.1 + (1 : Int32), q7)))))) else (fX12_calmNight_b50 N G a0 a1 b.2))))) N
set_option maxRecDepth 100000 in
set_option maxHeartbeats 4000000 in
theorem tX12_calmNight_b10 {N : Nat} {G : pG} {SK : Nat → Nat} {a0 : Nat} {a1 : Int32} {b : Int32 × pS} {r : pS} (hW : WT G) (i0 : Is G a0 11) (h : fX12_calmNight_b10 N G a0 a1 b = some r) : Ev miX12_calmNight (7, 0, 0) G (Zp G none r) SK (0, 0) 10 [some (.ref a0), some (.int a1), some (.int b.1)] [] b.2 := by
  unfold fX12_calmNight_b10 at h
  refine lp_ind (P := fun b r9 => r9 = r → Ev miX12_calmNight (7, 0, 0) G (Zp G none r) SK (0, 0) 10 [some (.ref a0), some (.int a1), some (.int b.1)] [] b.2) (fun k10 b r9 ih h9 e9 => ?_) N b r h rfl
  clear h
  subst e9
  have h := h9
  clear h9
  have hk10 : ∀ b : Int32 × pS, k10 b = some r9 → Ev miX12_calmNight (7, 0, 0) G (Zp G none r9) SK (0, 0) 10 [some (.ref a0), some (.int a1), some (.int b.1)] [] b.2 := fun b hb => ih b r9 hb rfl
  clear ih
  obtain ⟨x2, σ⟩ := b
  dsimp only at h ⊢
  refine ev_iload_n dc_X12_calmNight_10 rfl ?_
  refine ev_aload_n dc_X12_calmNight_11 rfl ?_
  obtain ⟨q3, hq3, h⟩ := Option.bind_eq_some_iff.mp h
  refine ev_callV (av := []) (st := [.int x2]) (st1 := [.int q3, .int x2]) dc_X12_calmNight_12 (tX12_courtiers hW i0 hq3) mw_1705 cy_X12_courtiers i0 (by decide) rfl rfl rfl rfl (Nat.le_of_ble_eq_true rfl) (Nat.le_of_ble_eq_true rfl) ⟨Nat.le_refl _, Nat.le_refl _⟩ ?_
  refine ev_icmp_ge (tgt := 50) dc_X12_calmNight_15 (by decide) h (fun h => ?_) (fun h => ?_)
  · exact ev_sub (tX12_calmNight_b50 hW i0 h) (And.intro rfl (And.intro rfl trivial))
  · refine ev_aload_n dc_X12_calmNight_18 rfl ?_
    obtain ⟨q4, hq4, h⟩ := Option.bind_eq_some_iff.mp h
    refine ev_callV (av := []) (st := []) (st1 := [.int q4]) dc_X12_calmNight_19 (tX12_isGone hW i0 hq4) mw_1902 cy_X12_isGone i0 (by decide) rfl rfl rfl rfl (Nat.le_of_ble_eq_true rfl) (Nat.le_of_ble_eq_true rfl) ⟨Nat.le_refl _, Nat.le_refl _⟩ ?_
    refine ev_if_ne (tgt := 50) dc_X12_calmNight_22 (by decide) h (fun h => ?_) (fun h => ?_)
    · refine ev_aload_n dc_X12_calmNight_25 rfl ?_
      refine ev_iload_n dc_X12_calmNight_26 rfl ?_
      obtain ⟨q5, hq5, h⟩ := Option.bind_eq_some_iff.mp h
      refine ev_callV (av := [.int x2]) (st := []) (st1 := [.int q5]) dc_X12_calmNight_27 (tX12_isNear hW i0 hq5) mw_1906 cy_X12_isNear i0 (by decide) rfl rfl rfl rfl (Nat.le_of_ble_eq_true rfl) (Nat.le_of_ble_eq_true rfl) ⟨Nat.le_refl _, Nat.le_refl _⟩ ?_
      refine ev_if_eq (tgt := 44) dc_X12_calmNight_30 (by decide) h (fun h => ?_) (fun h => ?_)
      · refine ev_iinc (v := 1) (lv' := [some (.ref a0), some (.int a1), some (.int (x2 + (1 : Int32)))]) dc_X12_calmNight_44 rfl (by decide) rfl (by decide) rfl ?_
        refine ev_goto (tgt := 10) dc_X12_calmNight_47 (by decide) ?_
        exact ev_sub (hk10 (x2 + (1 : Int32), σ) h) (And.intro rfl (And.intro rfl (And.intro rfl trivial)))
      · refine ev_aload_n dc_X12_calmNight_33 rfl ?_
        refine ev_iload_n dc_X12_calmNight_34 rfl ?_
        refine ev_aload_n dc_X12_calmNight_35 rfl ?_
        refine ev_iload_n dc_X12_calmNight_36 rfl ?_
        refine ev_iconst (v := 1) dc_X12_calmNight_37 (by decide) ?_
        obtain ⟨q6, hq6, h⟩ := Option.bind_eq_some_iff.mp h
        refine ev_callV (av := [.int x2, .int (1 : Int32)]) (st := [.int x2, .ref a0]) (st1 := [.int q6, .int x2, .ref a0]) dc_X12_calmNight_38 (tX12_ofWho hW i0 hq6) mw_1886 cy_X12_ofWho i0 (by decide) rfl rfl rfl rfl (Nat.le_of_ble_eq_true rfl) (Nat.le_of_ble_eq_true rfl) ⟨Nat.le_refl _, Nat.le_refl _⟩ ?_
        obtain ⟨q7, hq7, h⟩ := Option.bind_eq_some_iff.mp h
        refine ev_callV (av := [.int x2, .int q6]) (st := []) (st1 := []) dc_X12_calmNight_41 (tX12_says hW i0 hq7) mw_1914 cy_X12_says i0 (by decide) rfl rfl rfl rfl (Nat.le_of_ble_eq_true rfl) (Nat.le_of_ble_eq_true rfl) ⟨Nat.le_refl _, Nat.le_refl _⟩ ?_
        refine ev_iinc (v := 1) (lv' := [some (.ref a0), some (.int a1), some (.int (x2 + (1 : Int32)))]) dc_X12_calmNight_44 rfl (by decide) rfl (by decide) rfl ?_
        refine ev_goto (tgt := 10) dc_X12_calmNight_47 (by decide) ?_
        exact ev_sub (hk10 (x2 + (1 : Int32), q7) h) (And.intro rfl (And.intro rfl (And.intro rfl trivial)))
    · exact ev_sub (tX12_calmNight_b50 hW i0 h) (And.intro rfl (And.intro rfl trivial))
def fX12_calmNight (N : Nat) (G : pG) (a0 : Nat) (a1 : Int32) (σ : pS) : Option (pS) := (fX12_isOver N G a0 σ).bind (fun q8 => if q8 = 0 then (fX12_calmNight_b10 N G a0 a1 ((0 : Int32), σ)) else (some σ))
set_option maxRecDepth 100000 in
set_option maxHeartbeats 4000000 in
theorem tX12_calmNight {N : Nat} {G : pG} {SK : Nat → Nat} {a0 : Nat} {a1 : Int32} {σ : pS} {r : pS} (hW : WT G) (i0 : Is G a0 11) (h : fX12_calmNight N G a0 a1 σ = some r) : Dn miX12_calmNight yX12_calmNight 7 G SK [.ref a0, .int a1] σ none r := by
  unfold fX12_calmNight at h
  refine dn_of (lv := [some (.ref a0), some (.int a1), none]) (by decide) rfl rfl (Nat.le_of_ble_eq_true rfl) rfl ?_
  refine ev_aload_n dc_X12_calmNight_0 rfl ?_
  obtain ⟨q8, hq8, h⟩ := Option.bind_eq_some_iff.mp h
  refine ev_callV (av := []) (st := []) (st1 := [.int q8]) dc_X12_calmNight_1 (tX12_isOver hW i0 hq8) mw_1965 cy_X12_isOver i0 (by decide) rfl rfl rfl rfl (Nat.le_of_ble_eq_true rfl) (Nat.le_of_ble_eq_true rfl) ⟨Nat.le_refl _, Nat.le_refl _⟩ ?_
  refine ev_if_eq (tgt := 8) dc_X12_calmNight_4 (by decide) h (fun h => ?_) (fun h => ?_)
  · refine ev_iconst (v := 0) dc_X12_calmNight_8 (by decide) ?_
    refine ev_istore_n (lv' := [some (.ref a0), some (.int a1), some (.int (0 : Int32))]) dc_X12_calmNight_9 rfl (by decide) rfl ?_
    exact ev_sub (tX12_calmNight_b10 (b := ((0 : Int32), σ)) hW i0 h) (And.intro rfl (And.intro rfl (And.intro rfl trivial)))
  · cases h
    exact ev_vret dc_X12_calmNight_7 rfl rfl rfl
theorem dc_X12_in_0 : Dc miX12_in 0 (.iload_n 0) 1 1 := ⟨by decide +kernel, rfl⟩
theorem dc_X12_in_1 : Dc miX12_in 1 (.iload_n 1) 1 2 := ⟨by decide +kernel, rfl⟩
theorem dc_X12_in_2 : Dc miX12_in 2 (.if_icmp .lt 12) 3 5 := ⟨by decide +kernel, rfl⟩
theorem dc_X12_in_5 : Dc miX12_in 5 (.iload_n 0) 1 6 := ⟨by decide +kernel, rfl⟩
theorem dc_X12_in_6 : Dc miX12_in 6 (.iload_n 2) 1 7 := ⟨by decide +kernel, rfl⟩
theorem dc_X12_in_7 : Dc miX12_in 7 (.if_icmp .gt 7) 3 10 := ⟨by decide +kernel, rfl⟩
theorem dc_X12_in_10 : Dc miX12_in 10 (.iconst 1) 1 11 := ⟨by decide +kernel, rfl⟩
theorem dc_X12_in_11 : Dc miX12_in 11 (.goto 4) 3 14 := ⟨by decide +kernel, rfl⟩
theorem dc_X12_in_14 : Dc miX12_in 14 (.iconst 0) 1 15 := ⟨by decide +kernel, rfl⟩
theorem dc_X12_in_15 : Dc miX12_in 15 (.ireturn) 1 16 := ⟨by decide +kernel, rfl⟩
def fX12_in (N : Nat) (G : pG) (a0 : Int32) (a1 : Int32) (a2 : Int32) (σ : pS) : Option (Int32) := if a0 < a1 then (some (0 : Int32)) else (if a2 < a0 then (some (0 : Int32)) else (some (1 : Int32)))
set_option maxRecDepth 100000 in
set_option maxHeartbeats 4000000 in
theorem tX12_in {N : Nat} {G : pG} {SK : Nat → Nat} {a0 : Int32} {a1 : Int32} {a2 : Int32} {σ : pS} {r : Int32} (hW : WT G) (h : fX12_in N G a0 a1 a2 σ = some r) : Dn miX12_in yX12_in 1 G SK [.int a0, .int a1, .int a2] σ (some (.int r)) σ := by
  unfold fX12_in at h
  refine dn_of (lv := [some (.int a0), some (.int a1), some (.int a2)]) (by decide) rfl rfl (Nat.le_of_ble_eq_true rfl) rfl ?_
  refine ev_iload_n dc_X12_in_0 rfl ?_
  refine ev_iload_n dc_X12_in_1 rfl ?_
  refine ev_icmp_lt (tgt := 14) dc_X12_in_2 (by decide) h (fun h => ?_) (fun h => ?_)
  · refine ev_iconst (v := 0) dc_X12_in_14 (by decide) ?_
    cases h
    exact ev_zretc dc_X12_in_15 rfl rfl rfl rfl
  · refine ev_iload_n dc_X12_in_5 rfl ?_
    refine ev_iload_n dc_X12_in_6 rfl ?_
    refine ev_icmp_gt (tgt := 14) dc_X12_in_7 (by decide) h (fun h => ?_) (fun h => ?_)
    · refine ev_iconst (v := 0) dc_X12_in_14 (by decide) ?_
      cases h
      exact ev_zretc dc_X12_in_15 rfl rfl rfl rfl
    · refine ev_iconst (v := 1) dc_X12_in_10 (by decide) ?_
      refine ev_goto (tgt := 15) dc_X12_in_11 (by decide) ?_
      cases h
      exact ev_zretc dc_X12_in_15 rfl rfl rfl rfl
theorem dc_X12_keepsAll_0 : Dc miX12_keepsAll 0 (.iconst 0) 1 1 := ⟨by decide +kernel, rfl⟩
theorem dc_X12_keepsAll_1 : Dc miX12_keepsAll 1 (.istore_n 1) 1 2 := ⟨by decide +kernel, rfl⟩
theorem dc_X12_keepsAll_2 : Dc miX12_keepsAll 2 (.iload_n 1) 1 3 := ⟨by decide +kernel, rfl⟩
theorem dc_X12_keepsAll_3 : Dc miX12_keepsAll 3 (.sipush 383) 3 6 := ⟨by decide +kernel, rfl⟩
theorem dc_X12_keepsAll_6 : Dc miX12_keepsAll 6 (.if_icmp .ge 21) 3 9 := ⟨by decide +kernel, rfl⟩
theorem dc_X12_keepsAll_9 : Dc miX12_keepsAll 9 (.aload_n 0) 1 10 := ⟨by decide +kernel, rfl⟩
theorem dc_X12_keepsAll_10 : Dc miX12_keepsAll 10 (.getfield 23) 3 13 := ⟨by decide +kernel, rfl⟩
theorem dc_X12_keepsAll_13 : Dc miX12_keepsAll 13 (.iload_n 1) 1 14 := ⟨by decide +kernel, rfl⟩
theorem dc_X12_keepsAll_14 : Dc miX12_keepsAll 14 (.aload_n 0) 1 15 := ⟨by decide +kernel, rfl⟩
theorem dc_X12_keepsAll_15 : Dc miX12_keepsAll 15 (.getfield 13) 3 18 := ⟨by decide +kernel, rfl⟩
theorem dc_X12_keepsAll_18 : Dc miX12_keepsAll 18 (.iload_n 1) 1 19 := ⟨by decide +kernel, rfl⟩
theorem dc_X12_keepsAll_19 : Dc miX12_keepsAll 19 (.iaload) 1 20 := ⟨by decide +kernel, rfl⟩
theorem dc_X12_keepsAll_20 : Dc miX12_keepsAll 20 (.iastore) 1 21 := ⟨by decide +kernel, rfl⟩
theorem dc_X12_keepsAll_21 : Dc miX12_keepsAll 21 (.iinc 1 1) 3 24 := ⟨by decide +kernel, rfl⟩
theorem dc_X12_keepsAll_24 : Dc miX12_keepsAll 24 (.goto (-22)) 3 27 := ⟨by decide +kernel, rfl⟩
theorem dc_X12_keepsAll_27 : Dc miX12_keepsAll 27 (.return_) 1 28 := ⟨by decide +kernel, rfl⟩
def fX12_keepsAll_b2 (N : Nat) (G : pG) (a0 : Nat) : (Int32 × pS) → Option (pS) := lp (fun (k2 : Int32 × pS → Option (pS)) (b : Int32 × pS) => if (383 : Int32) ≤ b.1 then (some b.2) else (ck (inB b.1 (pN G (pR G a0 1))) (ck (inB b.1 (pN G (pR G a0 4))) (k2 (b.1 + (1 : Int32), sA b.2 (pR G a0 4) b.1 (gA b.2 (pR G a0 1) b.1)))))) N
set_option maxRecDepth 100000 in
set_option maxHeartbeats 4000000 in
theorem tX12_keepsAll_b2 {N : Nat} {G : pG} {SK : Nat → Nat} {a0 : Nat} {b : Int32 × pS} {r : pS} (hW : WT G) (i0 : Is G a0 11) (h : fX12_keepsAll_b2 N G a0 b = some r) : Ev miX12_keepsAll (1, 0, 0) G (Zp G none r) SK (0, 0) 2 [some (.ref a0), some (.int b.1)] [] b.2 := by
  unfold fX12_keepsAll_b2 at h
  refine lp_ind (P := fun b r9 => r9 = r → Ev miX12_keepsAll (1, 0, 0) G (Zp G none r) SK (0, 0) 2 [some (.ref a0), some (.int b.1)] [] b.2) (fun k2 b r9 ih h9 e9 => ?_) N b r h rfl
  clear h
  subst e9
  have h := h9
  clear h9
  have hk2 : ∀ b : Int32 × pS, k2 b = some r9 → Ev miX12_keepsAll (1, 0, 0) G (Zp G none r9) SK (0, 0) 2 [some (.ref a0), some (.int b.1)] [] b.2 := fun b hb => ih b r9 hb rfl
  clear ih
  obtain ⟨x1, σ⟩ := b
  dsimp only at h ⊢
  refine ev_iload_n dc_X12_keepsAll_2 rfl ?_
  refine ev_sipush (v := 383) dc_X12_keepsAll_3 (by decide) ?_
  refine ev_icmp_ge (tgt := 27) dc_X12_keepsAll_6 (by decide) h (fun h => ?_) (fun h => ?_)
  · cases h
    exact ev_vret dc_X12_keepsAll_27 rfl rfl rfl
  · refine ev_aload_n dc_X12_keepsAll_9 rfl ?_
    refine ev_getR dc_X12_keepsAll_10 fi_X12_23 rfl i0 ?_
    refine ev_iload_n dc_X12_keepsAll_13 rfl ?_
    refine ev_aload_n dc_X12_keepsAll_14 rfl ?_
    refine ev_getR dc_X12_keepsAll_15 fi_X12_13 rfl i0 ?_
    refine ev_iload_n dc_X12_keepsAll_18 rfl ?_
    refine ev_iald dc_X12_keepsAll_19 (wt hW i0 1 rfl rfl) h (fun h => ?_)
    refine ev_iast dc_X12_keepsAll_20 (wt hW i0 4 rfl rfl) h (fun h => ?_)
    refine ev_iinc (v := 1) (lv' := [some (.ref a0), some (.int (x1 + (1 : Int32)))]) dc_X12_keepsAll_21 rfl (by decide) rfl (by decide) rfl ?_
    refine ev_goto (tgt := 2) dc_X12_keepsAll_24 (by decide) ?_
    exact ev_sub (hk2 (x1 + (1 : Int32), sA σ (pR G a0 4) x1 (gA σ (pR G a0 1) x1)) h) (And.intro rfl (And.intro rfl trivial))
def fX12_keepsAll (N : Nat) (G : pG) (a0 : Nat) (σ : pS) : Option (pS) := fX12_keepsAll_b2 N G a0 ((0 : Int32), σ)
set_option maxRecDepth 100000 in
set_option maxHeartbeats 4000000 in
theorem tX12_keepsAll {N : Nat} {G : pG} {SK : Nat → Nat} {a0 : Nat} {σ : pS} {r : pS} (hW : WT G) (i0 : Is G a0 11) (h : fX12_keepsAll N G a0 σ = some r) : Dn miX12_keepsAll yX12_keepsAll 1 G SK [.ref a0] σ none r := by
  unfold fX12_keepsAll at h
  refine dn_of (lv := [some (.ref a0), none]) (by decide) rfl rfl (Nat.le_of_ble_eq_true rfl) rfl ?_
  refine ev_iconst (v := 0) dc_X12_keepsAll_0 (by decide) ?_
  refine ev_istore_n (lv' := [some (.ref a0), some (.int (0 : Int32))]) dc_X12_keepsAll_1 rfl (by decide) rfl ?_
  exact ev_sub (tX12_keepsAll_b2 (b := ((0 : Int32), σ)) hW i0 h) (And.intro rfl (And.intro rfl trivial))
theorem dc_X12_deeds_0 : Dc miX12_deeds 0 (.aload_n 0) 1 1 := ⟨by decide +kernel, rfl⟩
theorem dc_X12_deeds_1 : Dc miX12_deeds 1 (.getfield 13) 3 4 := ⟨by decide +kernel, rfl⟩
theorem dc_X12_deeds_4 : Dc miX12_deeds 4 (.iconst 3) 1 5 := ⟨by decide +kernel, rfl⟩
theorem dc_X12_deeds_5 : Dc miX12_deeds 5 (.iaload) 1 6 := ⟨by decide +kernel, rfl⟩
theorem dc_X12_deeds_6 : Dc miX12_deeds 6 (.ireturn) 1 7 := ⟨by decide +kernel, rfl⟩
def fX12_deeds (N : Nat) (G : pG) (a0 : Nat) (σ : pS) : Option (Int32) := ck (inB (3 : Int32) (pN G (pR G a0 1))) (some (gA σ (pR G a0 1) (3 : Int32)))
set_option maxRecDepth 100000 in
set_option maxHeartbeats 4000000 in
theorem tX12_deeds {N : Nat} {G : pG} {SK : Nat → Nat} {a0 : Nat} {σ : pS} {r : Int32} (hW : WT G) (i0 : Is G a0 11) (h : fX12_deeds N G a0 σ = some r) : Dn miX12_deeds yX12_deeds 1 G SK [.ref a0] σ (some (.int r)) σ := by
  unfold fX12_deeds at h
  refine dn_of (lv := [some (.ref a0)]) (by decide) rfl rfl (Nat.le_of_ble_eq_true rfl) rfl ?_
  refine ev_aload_n dc_X12_deeds_0 rfl ?_
  refine ev_getR dc_X12_deeds_1 fi_X12_13 rfl i0 ?_
  refine ev_iconst (v := 3) dc_X12_deeds_4 (by decide) ?_
  refine ev_iald dc_X12_deeds_5 (wt hW i0 1 rfl rfl) h (fun h => ?_)
  cases h
  exact ev_iret dc_X12_deeds_6 rfl rfl rfl
theorem dc_X12_noDeed_0 : Dc miX12_noDeed 0 (.iload_n 1) 1 1 := ⟨by decide +kernel, rfl⟩
theorem dc_X12_noDeed_1 : Dc miX12_noDeed 1 (.iconst 0) 1 2 := ⟨by decide +kernel, rfl⟩
theorem dc_X12_noDeed_2 : Dc miX12_noDeed 2 (.aload_n 0) 1 3 := ⟨by decide +kernel, rfl⟩
theorem dc_X12_noDeed_3 : Dc miX12_noDeed 3 (.invokevirtual 80) 3 6 := ⟨by decide +kernel, rfl⟩
theorem dc_X12_noDeed_6 : Dc miX12_noDeed 6 (.iconst 1) 1 7 := ⟨by decide +kernel, rfl⟩
theorem dc_X12_noDeed_7 : Dc miX12_noDeed 7 (.isub) 1 8 := ⟨by decide +kernel, rfl⟩
theorem dc_X12_noDeed_8 : Dc miX12_noDeed 8 (.invokestatic 70) 3 11 := ⟨by decide +kernel, rfl⟩
theorem dc_X12_noDeed_11 : Dc miX12_noDeed 11 (.ifCond .ne 7) 3 14 := ⟨by decide +kernel, rfl⟩
theorem dc_X12_noDeed_14 : Dc miX12_noDeed 14 (.iconst 1) 1 15 := ⟨by decide +kernel, rfl⟩
theorem dc_X12_noDeed_15 : Dc miX12_noDeed 15 (.goto 4) 3 18 := ⟨by decide +kernel, rfl⟩
theorem dc_X12_noDeed_18 : Dc miX12_noDeed 18 (.iconst 0) 1 19 := ⟨by decide +kernel, rfl⟩
theorem dc_X12_noDeed_19 : Dc miX12_noDeed 19 (.ireturn) 1 20 := ⟨by decide +kernel, rfl⟩
def fX12_noDeed (N : Nat) (G : pG) (a0 : Nat) (a1 : Int32) (σ : pS) : Option (Int32) := (fX12_deeds N G a0 σ).bind (fun q1 => (fX12_in N G a1 (0 : Int32) (q1 - (1 : Int32)) σ).bind (fun q2 => if q2 = 0 then (some (1 : Int32)) else (some (0 : Int32))))
set_option maxRecDepth 100000 in
set_option maxHeartbeats 4000000 in
theorem tX12_noDeed {N : Nat} {G : pG} {SK : Nat → Nat} {a0 : Nat} {a1 : Int32} {σ : pS} {r : Int32} (hW : WT G) (i0 : Is G a0 11) (h : fX12_noDeed N G a0 a1 σ = some r) : Dn miX12_noDeed yX12_noDeed 2 G SK [.ref a0, .int a1] σ (some (.int r)) σ := by
  unfold fX12_noDeed at h
  refine dn_of (lv := [some (.ref a0), some (.int a1)]) (by decide) rfl rfl (Nat.le_of_ble_eq_true rfl) rfl ?_
  refine ev_iload_n dc_X12_noDeed_0 rfl ?_
  refine ev_iconst (v := 0) dc_X12_noDeed_1 (by decide) ?_
  refine ev_aload_n dc_X12_noDeed_2 rfl ?_
  obtain ⟨q1, hq1, h⟩ := Option.bind_eq_some_iff.mp h
  refine ev_callV (av := []) (st := [.int (0 : Int32), .int a1]) (st1 := [.int q1, .int (0 : Int32), .int a1]) dc_X12_noDeed_3 (tX12_deeds hW i0 hq1) mw_1695 cy_X12_deeds i0 (by decide) rfl rfl rfl rfl (Nat.le_of_ble_eq_true rfl) (Nat.le_of_ble_eq_true rfl) ⟨Nat.le_refl _, Nat.le_refl _⟩ ?_
  refine ev_iconst (v := 1) dc_X12_noDeed_6 (by decide) ?_
  refine ev_isub dc_X12_noDeed_7 ?_
  obtain ⟨q2, hq2, h⟩ := Option.bind_eq_some_iff.mp h
  refine ev_callS (av := [.int a1, .int (0 : Int32), .int (q1 - (1 : Int32))]) (st := []) (st1 := [.int q2]) dc_X12_noDeed_8 (tX12_in hW hq2) mw_1656 cs_X12_in rfl rfl rfl (Nat.le_of_ble_eq_true rfl) (Nat.le_of_ble_eq_true rfl) ⟨Nat.le_refl _, Nat.le_refl _⟩ ?_
  refine ev_if_ne (tgt := 18) dc_X12_noDeed_11 (by decide) h (fun h => ?_) (fun h => ?_)
  · refine ev_iconst (v := 1) dc_X12_noDeed_14 (by decide) ?_
    refine ev_goto (tgt := 19) dc_X12_noDeed_15 (by decide) ?_
    cases h
    exact ev_zretc dc_X12_noDeed_19 rfl rfl rfl rfl
  · refine ev_iconst (v := 0) dc_X12_noDeed_18 (by decide) ?_
    cases h
    exact ev_zretc dc_X12_noDeed_19 rfl rfl rfl rfl
theorem dc_X12_noDeedTold_0 : Dc miX12_noDeedTold 0 (.iload_n 1) 1 1 := ⟨by decide +kernel, rfl⟩
theorem dc_X12_noDeedTold_1 : Dc miX12_noDeedTold 1 (.iconst (-1)) 1 2 := ⟨by decide +kernel, rfl⟩
theorem dc_X12_noDeedTold_2 : Dc miX12_noDeedTold 2 (.if_icmp .eq 15) 3 5 := ⟨by decide +kernel, rfl⟩
theorem dc_X12_noDeedTold_5 : Dc miX12_noDeedTold 5 (.aload_n 0) 1 6 := ⟨by decide +kernel, rfl⟩
theorem dc_X12_noDeedTold_6 : Dc miX12_noDeedTold 6 (.iload_n 1) 1 7 := ⟨by decide +kernel, rfl⟩
theorem dc_X12_noDeedTold_7 : Dc miX12_noDeedTold 7 (.invokevirtual 358) 3 10 := ⟨by decide +kernel, rfl⟩
theorem dc_X12_noDeedTold_10 : Dc miX12_noDeedTold 10 (.ifCond .eq 7) 3 13 := ⟨by decide +kernel, rfl⟩
theorem dc_X12_noDeedTold_13 : Dc miX12_noDeedTold 13 (.iconst 1) 1 14 := ⟨by decide +kernel, rfl⟩
theorem dc_X12_noDeedTold_14 : Dc miX12_noDeedTold 14 (.goto 4) 3 17 := ⟨by decide +kernel, rfl⟩
theorem dc_X12_noDeedTold_17 : Dc miX12_noDeedTold 17 (.iconst 0) 1 18 := ⟨by decide +kernel, rfl⟩
theorem dc_X12_noDeedTold_18 : Dc miX12_noDeedTold 18 (.ireturn) 1 19 := ⟨by decide +kernel, rfl⟩
def fX12_noDeedTold (N : Nat) (G : pG) (a0 : Nat) (a1 : Int32) (σ : pS) : Option (Int32) := if a1 = (-1 : Int32) then (some (0 : Int32)) else ((fX12_noDeed N G a0 a1 σ).bind (fun q1 => if q1 = 0 then (some (0 : Int32)) else (some (1 : Int32))))
set_option maxRecDepth 100000 in
set_option maxHeartbeats 4000000 in
theorem tX12_noDeedTold {N : Nat} {G : pG} {SK : Nat → Nat} {a0 : Nat} {a1 : Int32} {σ : pS} {r : Int32} (hW : WT G) (i0 : Is G a0 11) (h : fX12_noDeedTold N G a0 a1 σ = some r) : Dn miX12_noDeedTold yX12_noDeedTold 3 G SK [.ref a0, .int a1] σ (some (.int r)) σ := by
  unfold fX12_noDeedTold at h
  refine dn_of (lv := [some (.ref a0), some (.int a1)]) (by decide) rfl rfl (Nat.le_of_ble_eq_true rfl) rfl ?_
  refine ev_iload_n dc_X12_noDeedTold_0 rfl ?_
  refine ev_iconst (v := (-1)) dc_X12_noDeedTold_1 (by decide) ?_
  refine ev_icmp_eq (tgt := 17) dc_X12_noDeedTold_2 (by decide) h (fun h => ?_) (fun h => ?_)
  · refine ev_iconst (v := 0) dc_X12_noDeedTold_17 (by decide) ?_
    cases h
    exact ev_zretc dc_X12_noDeedTold_18 rfl rfl rfl rfl
  · refine ev_aload_n dc_X12_noDeedTold_5 rfl ?_
    refine ev_iload_n dc_X12_noDeedTold_6 rfl ?_
    obtain ⟨q1, hq1, h⟩ := Option.bind_eq_some_iff.mp h
    refine ev_callV (av := [.int a1]) (st := []) (st1 := [.int q1]) dc_X12_noDeedTold_7 (tX12_noDeed hW i0 hq1) mw_1866 cy_X12_noDeed i0 (by decide) rfl rfl rfl rfl (Nat.le_of_ble_eq_true rfl) (Nat.le_of_ble_eq_true rfl) ⟨Nat.le_refl _, Nat.le_refl _⟩ ?_
    refine ev_if_eq (tgt := 17) dc_X12_noDeedTold_10 (by decide) h (fun h => ?_) (fun h => ?_)
    · refine ev_iconst (v := 0) dc_X12_noDeedTold_17 (by decide) ?_
      cases h
      exact ev_zretc dc_X12_noDeedTold_18 rfl rfl rfl rfl
    · refine ev_iconst (v := 1) dc_X12_noDeedTold_13 (by decide) ?_
      refine ev_goto (tgt := 18) dc_X12_noDeedTold_14 (by decide) ?_
      cases h
      exact ev_zretc dc_X12_noDeedTold_18 rfl rfl rfl rfl
theorem dc_X12_throwsIf_0 : Dc miX12_throwsIf 0 (.iload_n 1) 1 1 := ⟨by decide +kernel, rfl⟩
theorem dc_X12_throwsIf_1 : Dc miX12_throwsIf 1 (.ifCond .eq 8) 3 4 := ⟨by decide +kernel, rfl⟩
theorem dc_X12_throwsIf_4 : Dc miX12_throwsIf 4 (.aload_n 0) 1 5 := ⟨by decide +kernel, rfl⟩
theorem dc_X12_throwsIf_5 : Dc miX12_throwsIf 5 (.iload_n 2) 1 6 := ⟨by decide +kernel, rfl⟩
theorem dc_X12_throwsIf_6 : Dc miX12_throwsIf 6 (.putfield 3) 3 9 := ⟨by decide +kernel, rfl⟩
theorem dc_X12_throwsIf_9 : Dc miX12_throwsIf 9 (.iload_n 1) 1 10 := ⟨by decide +kernel, rfl⟩
theorem dc_X12_throwsIf_10 : Dc miX12_throwsIf 10 (.ireturn) 1 11 := ⟨by decide +kernel, rfl⟩
def fX12_throwsIf (N : Nat) (G : pG) (a0 : Nat) (a1 : Int32) (a2 : Int32) (σ : pS) : Option (Int32 × pS) := if a1 = 0 then (ck (isZ a1) (some (a1, σ))) else (ck (isZ a1) (some (a1, putF σ a0 0 a2)))
set_option maxRecDepth 100000 in
set_option maxHeartbeats 4000000 in
theorem tX12_throwsIf {N : Nat} {G : pG} {SK : Nat → Nat} {a0 : Nat} {a1 : Int32} {a2 : Int32} {σ : pS} {r : Int32 × pS} (hW : WT G) (i0 : Is G a0 11) (h : fX12_throwsIf N G a0 a1 a2 σ = some r) : Dn miX12_throwsIf yX12_throwsIf 1 G SK [.ref a0, .int a1, .int a2] σ (some (.int r.1)) r.2 := by
  unfold fX12_throwsIf at h
  refine dn_of (lv := [some (.ref a0), some (.int a1), some (.int a2)]) (by decide) rfl rfl (Nat.le_of_ble_eq_true rfl) rfl ?_
  refine ev_iload_n dc_X12_throwsIf_0 rfl ?_
  refine ev_if_eq (tgt := 9) dc_X12_throwsIf_1 (by decide) h (fun h => ?_) (fun h => ?_)
  · refine ev_iload_n dc_X12_throwsIf_9 rfl ?_
    have h2 := (ck_s h).2
    cases h2
    exact ev_zret dc_X12_throwsIf_10 rfl h rfl rfl
  · refine ev_aload_n dc_X12_throwsIf_4 rfl ?_
    refine ev_iload_n dc_X12_throwsIf_5 rfl ?_
    refine ev_putI dc_X12_throwsIf_6 fi_X12_3 rfl i0 ?_
    refine ev_iload_n dc_X12_throwsIf_9 rfl ?_
    have h2 := (ck_s h).2
    cases h2
    exact ev_zret dc_X12_throwsIf_10 rfl h rfl rfl
