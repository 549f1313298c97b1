theorem dc_X12_ahead_0 : Dc miX12_ahead 0 (.aload_n 0) 1 1 := ⟨by decide +kernel, rfl⟩
theorem dc_X12_ahead_1 : Dc miX12_ahead 1 (.iconst 0) 1 2 := ⟨by decide +kernel, rfl⟩
theorem dc_X12_ahead_2 : Dc miX12_ahead 2 (.putfield 3) 3 5 := ⟨by decide +kernel, rfl⟩
theorem dc_X12_ahead_5 : Dc miX12_ahead 5 (.aload_n 0) 1 6 := ⟨by decide +kernel, rfl⟩
theorem dc_X12_ahead_6 : Dc miX12_ahead 6 (.aload_n 0) 1 7 := ⟨by decide +kernel, rfl⟩
theorem dc_X12_ahead_7 : Dc miX12_ahead 7 (.iload_n 1) 1 8 := ⟨by decide +kernel, rfl⟩
theorem dc_X12_ahead_8 : Dc miX12_ahead 8 (.invokevirtual 400) 3 11 := ⟨by decide +kernel, rfl⟩
theorem dc_X12_ahead_11 : Dc miX12_ahead 11 (.iconst 1) 1 12 := ⟨by decide +kernel, rfl⟩
theorem dc_X12_ahead_12 : Dc miX12_ahead 12 (.invokevirtual 274) 3 15 := ⟨by decide +kernel, rfl⟩
theorem dc_X12_ahead_15 : Dc miX12_ahead 15 (.ifCond .ne 27) 3 18 := ⟨by decide +kernel, rfl⟩
theorem dc_X12_ahead_18 : Dc miX12_ahead 18 (.aload_n 0) 1 19 := ⟨by decide +kernel, rfl⟩
theorem dc_X12_ahead_19 : Dc miX12_ahead 19 (.iload_n 2) 1 20 := ⟨by decide +kernel, rfl⟩
theorem dc_X12_ahead_20 : Dc miX12_ahead 20 (.iconst 0) 1 21 := ⟨by decide +kernel, rfl⟩
theorem dc_X12_ahead_21 : Dc miX12_ahead 21 (.sipush 400) 3 24 := ⟨by decide +kernel, rfl⟩
theorem dc_X12_ahead_24 : Dc miX12_ahead 24 (.invokestatic 70) 3 27 := ⟨by decide +kernel, rfl⟩
theorem dc_X12_ahead_27 : Dc miX12_ahead 27 (.ifCond .ne 7) 3 30 := ⟨by decide +kernel, rfl⟩
theorem dc_X12_ahead_30 : Dc miX12_ahead 30 (.iconst 1) 1 31 := ⟨by decide +kernel, rfl⟩
theorem dc_X12_ahead_31 : Dc miX12_ahead 31 (.goto 4) 3 34 := ⟨by decide +kernel, rfl⟩
theorem dc_X12_ahead_34 : Dc miX12_ahead 34 (.iconst 0) 1 35 := ⟨by decide +kernel, rfl⟩
theorem dc_X12_ahead_35 : Dc miX12_ahead 35 (.iconst 2) 1 36 := ⟨by decide +kernel, rfl⟩
theorem dc_X12_ahead_36 : Dc miX12_ahead 36 (.invokevirtual 274) 3 39 := ⟨by decide +kernel, rfl⟩
theorem dc_X12_ahead_39 : Dc miX12_ahead 39 (.ifCond .eq 5) 3 42 := ⟨by decide +kernel, rfl⟩
theorem dc_X12_ahead_42 : Dc miX12_ahead 42 (.iconst 0) 1 43 := ⟨by decide +kernel, rfl⟩
theorem dc_X12_ahead_43 : Dc miX12_ahead 43 (.ireturn) 1 44 := ⟨by decide +kernel, rfl⟩
theorem dc_X12_ahead_44 : Dc miX12_ahead 44 (.aload_n 0) 1 45 := ⟨by decide +kernel, rfl⟩
theorem dc_X12_ahead_45 : Dc miX12_ahead 45 (.invokevirtual 403) 3 48 := ⟨by decide +kernel, rfl⟩
theorem dc_X12_ahead_48 : Dc miX12_ahead 48 (.iconst 0) 1 49 := ⟨by decide +kernel, rfl⟩
theorem dc_X12_ahead_49 : Dc miX12_ahead 49 (.istore_n 3) 1 50 := ⟨by decide +kernel, rfl⟩
theorem dc_X12_ahead_50 : Dc miX12_ahead 50 (.iload_n 3) 1 51 := ⟨by decide +kernel, rfl⟩
theorem dc_X12_ahead_51 : Dc miX12_ahead 51 (.iload_n 2) 1 52 := ⟨by decide +kernel, rfl⟩
theorem dc_X12_ahead_52 : Dc miX12_ahead 52 (.if_icmp .ge 14) 3 55 := ⟨by decide +kernel, rfl⟩
theorem dc_X12_ahead_55 : Dc miX12_ahead 55 (.aload_n 0) 1 56 := ⟨by decide +kernel, rfl⟩
theorem dc_X12_ahead_56 : Dc miX12_ahead 56 (.iload_n 1) 1 57 := ⟨by decide +kernel, rfl⟩
theorem dc_X12_ahead_57 : Dc miX12_ahead 57 (.invokevirtual 406) 3 60 := ⟨by decide +kernel, rfl⟩
theorem dc_X12_ahead_60 : Dc miX12_ahead 60 (.iinc 3 1) 3 63 := ⟨by decide +kernel, rfl⟩
theorem dc_X12_ahead_63 : Dc miX12_ahead 63 (.goto (-13)) 3 66 := ⟨by decide +kernel, rfl⟩
theorem dc_X12_ahead_66 : Dc miX12_ahead 66 (.aload_n 0) 1 67 := ⟨by decide +kernel, rfl⟩
theorem dc_X12_ahead_67 : Dc miX12_ahead 67 (.getfield 13) 3 70 := ⟨by decide +kernel, rfl⟩
theorem dc_X12_ahead_70 : Dc miX12_ahead 70 (.bipush 7) 2 72 := ⟨by decide +kernel, rfl⟩
theorem dc_X12_ahead_72 : Dc miX12_ahead 72 (.iaload) 1 73 := ⟨by decide +kernel, rfl⟩
theorem dc_X12_ahead_73 : Dc miX12_ahead 73 (.istore_n 3) 1 74 := ⟨by decide +kernel, rfl⟩
theorem dc_X12_ahead_74 : Dc miX12_ahead 74 (.aload_n 0) 1 75 := ⟨by decide +kernel, rfl⟩
theorem dc_X12_ahead_75 : Dc miX12_ahead 75 (.invokevirtual 409) 3 78 := ⟨by decide +kernel, rfl⟩
theorem dc_X12_ahead_78 : Dc miX12_ahead 78 (.iload_n 3) 1 79 := ⟨by decide +kernel, rfl⟩
theorem dc_X12_ahead_79 : Dc miX12_ahead 79 (.ireturn) 1 80 := ⟨by decide +kernel, rfl⟩
def fX12_ahead_b50 (N : Nat) (G : pG) (a0 : Nat) (a1 : Int32) (a2 : Int32) : (Int32 × pS) → Option (Int32 × pS) := lp (fun (k50 : Int32 × pS → Option (Int32 × pS)) (b : Int32 × pS) => if a2 ≤ b.1 then (ck (inB (7 : Int32) (pN G (pR G a0 1))) ((fX12_bringsBack N G a0 b.2).bind (fun q1 => some (gA b.2 (pR G a0 1) (7 : Int32), q1)))) else ((fX12_calmNight N G a0 a1 b.2).bind (fun q2 => k50 (b.1 + (1 : Int32), q2)))) N
set_option maxRecDepth 100000 in
set_option maxHeartbeats 4000000 in
theorem tX12_ahead_b50 {N : Nat} {G : pG} {SK : Nat → Nat} {a0 : Nat} {a1 : Int32} {a2 : Int32} {b : Int32 × pS} {r : Int32 × pS} (hW : WT G) (i0 : Is G a0 11) (h : fX12_ahead_b50 N G a0 a1 a2 b = some r) : Ev miX12_ahead (8, 0, 0) G (Zp G (some (.int r.1)) r.2) SK (0, 0) 50 [some (.ref a0), some (.int a1), some (.int a2), some (.int b.1)] [] b.2 := by
  unfold fX12_ahead_b50 at h
  refine lp_ind (P := fun b r9 => r9 = r → Ev miX12_ahead (8, 0, 0) G (Zp G (some (.int r.1)) r.2) SK (0, 0) 50 [some (.ref a0), some (.int a1), some (.int a2), some (.int b.1)] [] b.2) (fun k50 b r9 ih h9 e9 => ?_) N b r h rfl
  clear h
  subst e9
  have h := h9
  clear h9
  have hk50 : ∀ b : Int32 × pS, k50 b = some r9 → Ev miX12_ahead (8, 0, 0) G (Zp G (some (.int r9.1)) r9.2) SK (0, 0) 50 [some (.ref a0), some (.int a1), some (.int a2), some (.int b.1)] [] b.2 := fun b hb => ih b r9 hb rfl
  clear ih
  obtain ⟨x3, σ⟩ := b
  dsimp only at h ⊢
  refine ev_iload_n dc_X12_ahead_50 rfl ?_
  refine ev_iload_n dc_X12_ahead_51 rfl ?_
  refine ev_icmp_ge (tgt := 66) dc_X12_ahead_52 (by decide) h (fun h => ?_) (fun h => ?_)
  · refine ev_aload_n dc_X12_ahead_66 rfl ?_
    refine ev_getR dc_X12_ahead_67 fi_X12_13 rfl i0 ?_
    refine ev_bipush (v := 7) dc_X12_ahead_70 (by decide) ?_
    refine ev_iald dc_X12_ahead_72 (wt hW i0 1 rfl rfl) h (fun h => ?_)
    refine ev_istore_n (lv' := [some (.ref a0), some (.int a1), some (.int a2), some (.int (gA σ (pR G a0 1) (7 : Int32)))]) dc_X12_ahead_73 rfl (by decide) rfl ?_
    refine ev_aload_n dc_X12_ahead_74 rfl ?_
    obtain ⟨q1, hq1, h⟩ := Option.bind_eq_some_iff.mp h
    refine ev_callV (av := []) (st := []) (st1 := []) dc_X12_ahead_75 (tX12_bringsBack hW i0 hq1) mw_1994 cy_X12_bringsBack i0 (by decide) rfl rfl rfl rfl (Nat.le_of_ble_eq_true rfl) (Nat.le_of_ble_eq_true rfl) ⟨Nat.le_refl _, Nat.le_refl _⟩ ?_
    refine ev_iload_n dc_X12_ahead_78 rfl ?_
    cases h
    exact ev_iret dc_X12_ahead_79 rfl rfl rfl
  · refine ev_aload_n dc_X12_ahead_55 rfl ?_
    refine ev_iload_n dc_X12_ahead_56 rfl ?_
    obtain ⟨q2, hq2, h⟩ := Option.bind_eq_some_iff.mp h
    refine ev_callV (av := [.int a1]) (st := []) (st1 := []) dc_X12_ahead_57 (tX12_calmNight hW i0 hq2) mw_1990 cy_X12_calmNight i0 (by decide) rfl rfl rfl rfl (Nat.le_of_ble_eq_true rfl) (Nat.le_of_ble_eq_true rfl) ⟨Nat.le_refl _, Nat.le_refl _⟩ ?_
    refine ev_iinc (v := 1) (lv' := [some (.ref a0), some (.int a1), some (.int a2), some (.int (x3 + (1 : Int32)))]) dc_X12_ahead_60 rfl (by decide) rfl (by decide) rfl ?_
    refine ev_goto (tgt := 50) dc_X12_ahead_63 (by decide) ?_
    exact ev_sub (hk50 (x3 + (1 : Int32), q2) h) (And.intro rfl (And.intro rfl (And.intro rfl (And.intro rfl trivial))))
def fX12_ahead_b35 (N : Nat) (G : pG) (a0 : Nat) (a1 : Int32) (a2 : Int32) (y1 : Int32) (σ : pS) : Option (Int32 × pS) := (fX12_throwsIf N G a0 y1 (2 : Int32) σ).bind (fun q3 => if q3.1 = 0 then ((fX12_keepsAll N G a0 q3.2).bind (fun q4 => fX12_ahead_b50 N G a0 a1 a2 ((0 : Int32), q4))) else (some ((0 : Int32), q3.2)))
set_option maxRecDepth 100000 in
set_option maxHeartbeats 4000000 in
theorem tX12_ahead_b35 {N : Nat} {G : pG} {SK : Nat → Nat} {a0 : Nat} {a1 : Int32} {a2 : Int32} {y1 : Int32} {σ : pS} {r : Int32 × pS} (hW : WT G) (i0 : Is G a0 11) (h : fX12_ahead_b35 N G a0 a1 a2 y1 σ = some r) : Ev miX12_ahead (8, 0, 0) G (Zp G (some (.int r.1)) r.2) SK (0, 0) 35 [some (.ref a0), some (.int a1), some (.int a2), none] [.int y1, .ref a0] σ := by
  unfold fX12_ahead_b35 at h
  refine ev_iconst (v := 2) dc_X12_ahead_35 (by decide) ?_
  obtain ⟨q3, hq3, h⟩ := Option.bind_eq_some_iff.mp h
  refine ev_callV (av := [.int y1, .int (2 : Int32)]) (st := []) (st1 := [.int q3.1]) dc_X12_ahead_36 (tX12_throwsIf hW i0 hq3) mw_1784 cy_X12_throwsIf i0 (by decide) rfl rfl rfl rfl (Nat.le_of_ble_eq_true rfl) (Nat.le_of_ble_eq_true rfl) ⟨Nat.le_refl _, Nat.le_refl _⟩ ?_
  refine ev_if_eq (tgt := 44) dc_X12_ahead_39 (by decide) h (fun h => ?_) (fun h => ?_)
  · refine ev_aload_n dc_X12_ahead_44 rfl ?_
    obtain ⟨q4, hq4, h⟩ := Option.bind_eq_some_iff.mp h
    refine ev_callV (av := []) (st := []) (st1 := []) dc_X12_ahead_45 (tX12_keepsAll hW i0 hq4) mw_1986 cy_X12_keepsAll i0 (by decide) rfl rfl rfl rfl (Nat.le_of_ble_eq_true rfl) (Nat.le_of_ble_eq_true rfl) ⟨Nat.le_refl _, Nat.le_refl _⟩ ?_
    refine ev_iconst (v := 0) dc_X12_ahead_48 (by decide) ?_
    refine ev_istore_n (lv' := [some (.ref a0), some (.int a1), some (.int a2), some (.int (0 : Int32))]) dc_X12_ahead_49 rfl (by decide) rfl ?_
    exact ev_sub (tX12_ahead_b50 (b := ((0 : Int32), q4)) hW i0 h) (And.intro rfl (And.intro rfl (And.intro rfl (And.intro rfl trivial))))
  · refine ev_iconst (v := 0) dc_X12_ahead_42 (by decide) ?_
    cases h
    exact ev_iret dc_X12_ahead_43 rfl rfl rfl
def fX12_ahead (N : Nat) (G : pG) (a0 : Nat) (a1 : Int32) (a2 : Int32) (σ : pS) : Option (Int32 × pS) := (fX12_noDeedTold N G a0 a1 (putF σ a0 0 (0 : Int32))).bind (fun q5 => (fX12_throwsIf N G a0 q5 (1 : Int32) (putF σ a0 0 (0 : Int32))).bind (fun q6 => if q6.1 = 0 then ((fX12_in N G a2 (0 : Int32) (400 : Int32) q6.2).bind (fun q7 => if q7 = 0 then (fX12_ahead_b35 N G a0 a1 a2 (1 : Int32) q6.2) else (fX12_ahead_b35 N G a0 a1 a2 (0 : Int32) q6.2))) else (some ((0 : Int32), q6.2))))
set_option maxRecDepth 100000 in
set_option maxHeartbeats 4000000 in
theorem tX12_ahead {N : Nat} {G : pG} {SK : Nat → Nat} {a0 : Nat} {a1 : Int32} {a2 : Int32} {σ : pS} {r : Int32 × pS} (hW : WT G) (i0 : Is G a0 11) (h : fX12_ahead N G a0 a1 a2 σ = some r) : Dn miX12_ahead yX12_ahead 8 G SK [.ref a0, .int a1, .int a2] σ (some (.int r.1)) r.2 := by
  unfold fX12_ahead at h
  refine dn_of (lv := [some (.ref a0), some (.int a1), some (.int a2), none]) (by decide) rfl rfl (Nat.le_of_ble_eq_true rfl) rfl ?_
  refine ev_aload_n dc_X12_ahead_0 rfl ?_
  refine ev_iconst (v := 0) dc_X12_ahead_1 (by decide) ?_
  refine ev_putI dc_X12_ahead_2 fi_X12_3 rfl i0 ?_
  refine ev_aload_n dc_X12_ahead_5 rfl ?_
  refine ev_aload_n dc_X12_ahead_6 rfl ?_
  refine ev_iload_n dc_X12_ahead_7 rfl ?_
  obtain ⟨q5, hq5, h⟩ := Option.bind_eq_some_iff.mp h
  refine ev_callV (av := [.int a1]) (st := [.ref a0]) (st1 := [.int q5, .ref a0]) dc_X12_ahead_8 (tX12_noDeedTold hW i0 hq5) mw_1982 cy_X12_noDeedTold i0 (by decide) rfl rfl rfl rfl (Nat.le_of_ble_eq_true rfl) (Nat.le_of_ble_eq_true rfl) ⟨Nat.le_refl _, Nat.le_refl _⟩ ?_
  refine ev_iconst (v := 1) dc_X12_ahead_11 (by decide) ?_
  obtain ⟨q6, hq6, h⟩ := Option.bind_eq_some_iff.mp h
  refine ev_callV (av := [.int q5, .int (1 : Int32)]) (st := []) (st1 := [.int q6.1]) dc_X12_ahead_12 (tX12_throwsIf hW i0 hq6) mw_1784 cy_X12_throwsIf i0 (by decide) rfl rfl rfl rfl (Nat.le_of_ble_eq_true rfl) (Nat.le_of_ble_eq_true rfl) ⟨Nat.le_refl _, Nat.le_refl _⟩ ?_
  refine ev_if_ne (tgt := 42) dc_X12_ahead_15 (by decide) h (fun h => ?_) (fun h => ?_)
  · refine ev_aload_n dc_X12_ahead_18 rfl ?_
    refine ev_iload_n dc_X12_ahead_19 rfl ?_
    refine ev_iconst (v := 0) dc_X12_ahead_20 (by decide) ?_
    refine ev_sipush (v := 400) dc_X12_ahead_21 (by decide) ?_
    obtain ⟨q7, hq7, h⟩ := Option.bind_eq_some_iff.mp h
    refine ev_callS (av := [.int a2, .int (0 : Int32), .int (400 : Int32)]) (st := [.ref a0]) (st1 := [.int q7, .ref a0]) dc_X12_ahead_24 (tX12_in hW hq7) mw_1656 cs_X12_in rfl rfl rfl (Nat.le_of_ble_eq_true rfl) (Nat.le_of_ble_eq_true rfl) ⟨Nat.le_refl _, Nat.le_refl _⟩ ?_
    refine ev_if_ne (tgt := 34) dc_X12_ahead_27 (by decide) h (fun h => ?_) (fun h => ?_)
    · refine ev_iconst (v := 1) dc_X12_ahead_30 (by decide) ?_
      refine ev_goto (tgt := 35) dc_X12_ahead_31 (by decide) ?_
      exact ev_sub (tX12_ahead_b35 hW i0 h) (And.intro rfl (And.intro rfl (And.intro rfl trivial)))
    · refine ev_iconst (v := 0) dc_X12_ahead_34 (by decide) ?_
      exact ev_sub (tX12_ahead_b35 hW i0 h) (And.intro rfl (And.intro rfl (And.intro rfl trivial)))
  · refine ev_iconst (v := 0) dc_X12_ahead_42 (by decide) ?_
    cases h
    exact ev_iret dc_X12_ahead_43 rfl rfl rfl
theorem dc_X12_alike_0 : Dc miX12_alike 0 (.aload_n 0) 1 1 := ⟨by decide +kernel, rfl⟩
theorem dc_X12_alike_1 : Dc miX12_alike 1 (.iconst 0) 1 2 := ⟨by decide +kernel, rfl⟩
theorem dc_X12_alike_2 : Dc miX12_alike 2 (.putfield 3) 3 5 := ⟨by decide +kernel, rfl⟩
theorem dc_X12_alike_5 : Dc miX12_alike 5 (.iconst 0) 1 6 := ⟨by decide +kernel, rfl⟩
theorem dc_X12_alike_6 : Dc miX12_alike 6 (.istore_n 1) 1 7 := ⟨by decide +kernel, rfl⟩
theorem dc_X12_alike_7 : Dc miX12_alike 7 (.iconst 0) 1 8 := ⟨by decide +kernel, rfl⟩
theorem dc_X12_alike_8 : Dc miX12_alike 8 (.istore_n 2) 1 9 := ⟨by decide +kernel, rfl⟩
theorem dc_X12_alike_9 : Dc miX12_alike 9 (.iload_n 2) 1 10 := ⟨by decide +kernel, rfl⟩
theorem dc_X12_alike_10 : Dc miX12_alike 10 (.aload_n 0) 1 11 := ⟨by decide +kernel, rfl⟩
theorem dc_X12_alike_11 : Dc miX12_alike 11 (.invokevirtual 66) 3 14 := ⟨by decide +kernel, rfl⟩
theorem dc_X12_alike_14 : Dc miX12_alike 14 (.if_icmp .ge 45) 3 17 := ⟨by decide +kernel, rfl⟩
theorem dc_X12_alike_17 : Dc miX12_alike 17 (.iconst 0) 1 18 := ⟨by decide +kernel, rfl⟩
theorem dc_X12_alike_18 : Dc miX12_alike 18 (.istore_n 3) 1 19 := ⟨by decide +kernel, rfl⟩
theorem dc_X12_alike_19 : Dc miX12_alike 19 (.iload_n 3) 1 20 := ⟨by decide +kernel, rfl⟩
theorem dc_X12_alike_20 : Dc miX12_alike 20 (.iload_n 2) 1 21 := ⟨by decide +kernel, rfl⟩
theorem dc_X12_alike_21 : Dc miX12_alike 21 (.if_icmp .ge 32) 3 24 := ⟨by decide +kernel, rfl⟩
theorem dc_X12_alike_24 : Dc miX12_alike 24 (.iload_n 1) 1 25 := ⟨by decide +kernel, rfl⟩
theorem dc_X12_alike_25 : Dc miX12_alike 25 (.aload_n 0) 1 26 := ⟨by decide +kernel, rfl⟩
theorem dc_X12_alike_26 : Dc miX12_alike 26 (.iload_n 2) 1 27 := ⟨by decide +kernel, rfl⟩
theorem dc_X12_alike_27 : Dc miX12_alike 27 (.iconst 0) 1 28 := ⟨by decide +kernel, rfl⟩
theorem dc_X12_alike_28 : Dc miX12_alike 28 (.invokevirtual 277) 3 31 := ⟨by decide +kernel, rfl⟩
theorem dc_X12_alike_31 : Dc miX12_alike 31 (.aload_n 0) 1 32 := ⟨by decide +kernel, rfl⟩
theorem dc_X12_alike_32 : Dc miX12_alike 32 (.iload_n 3) 1 33 := ⟨by decide +kernel, rfl⟩
theorem dc_X12_alike_33 : Dc miX12_alike 33 (.iconst 0) 1 34 := ⟨by decide +kernel, rfl⟩
theorem dc_X12_alike_34 : Dc miX12_alike 34 (.invokevirtual 277) 3 37 := ⟨by decide +kernel, rfl⟩
theorem dc_X12_alike_37 : Dc miX12_alike 37 (.if_icmp .ne 7) 3 40 := ⟨by decide +kernel, rfl⟩
theorem dc_X12_alike_40 : Dc miX12_alike 40 (.iconst 1) 1 41 := ⟨by decide +kernel, rfl⟩
theorem dc_X12_alike_41 : Dc miX12_alike 41 (.goto 4) 3 44 := ⟨by decide +kernel, rfl⟩
theorem dc_X12_alike_44 : Dc miX12_alike 44 (.iconst 0) 1 45 := ⟨by decide +kernel, rfl⟩
theorem dc_X12_alike_45 : Dc miX12_alike 45 (.iadd) 1 46 := ⟨by decide +kernel, rfl⟩
theorem dc_X12_alike_46 : Dc miX12_alike 46 (.istore_n 1) 1 47 := ⟨by decide +kernel, rfl⟩
theorem dc_X12_alike_47 : Dc miX12_alike 47 (.iinc 3 1) 3 50 := ⟨by decide +kernel, rfl⟩
theorem dc_X12_alike_50 : Dc miX12_alike 50 (.goto (-31)) 3 53 := ⟨by decide +kernel, rfl⟩
theorem dc_X12_alike_53 : Dc miX12_alike 53 (.iinc 2 1) 3 56 := ⟨by decide +kernel, rfl⟩
theorem dc_X12_alike_56 : Dc miX12_alike 56 (.goto (-47)) 3 59 := ⟨by decide +kernel, rfl⟩
theorem dc_X12_alike_59 : Dc miX12_alike 59 (.iload_n 1) 1 60 := ⟨by decide +kernel, rfl⟩
theorem dc_X12_alike_60 : Dc miX12_alike 60 (.ireturn) 1 61 := ⟨by decide +kernel, rfl⟩
def fX12_alike_b19 (N : Nat) (G : pG) (k9 : Int32 × Int32 × pS → Option (Int32 × pS)) (a0 : Nat) (x2 : Int32) : (Int32 × Int32 × pS) → Option (Int32 × pS) := lp (fun (k19 : Int32 × Int32 × pS → Option (Int32 × pS)) (b : Int32 × Int32 × pS) => if x2 ≤ b.2.1 then (k9 (b.1, x2 + (1 : Int32), b.2.2)) else ((fX12_ofName N G a0 x2 (0 : Int32) b.2.2).bind (fun q1 => (fX12_ofName N G a0 b.2.1 (0 : Int32) b.2.2).bind (fun q2 => if q1 = q2 then (k19 (b.1 + (1 : Int32), b.2.1 + (1 : Int32), b.2.2)) else (k19 (b.1 + (0 : Int32), b.2.1 + (1 : Int32), b.2.2)))))) N
set_option maxRecDepth 100000 in
set_option maxHeartbeats 4000000 in
theorem tX12_alike_b19 {N : Nat} {G : pG} {SK : Nat → Nat} {k9 : Int32 × Int32 × pS → Option (Int32 × pS)} {a0 : Nat} {x2 : Int32} {b : Int32 × Int32 × pS} {r : Int32 × pS} (hW : WT G) (i0 : Is G a0 11) (hk9 : ∀ b : Int32 × Int32 × pS, k9 b = some r → Ev miX12_alike (2, 0, 0) G (Zp G (some (.int r.1)) r.2) SK (0, 0) 9 [some (.ref a0), some (.int b.1), some (.int b.2.1), none] [] b.2.2) (h : fX12_alike_b19 N G k9 a0 x2 b = some r) : Ev miX12_alike (2, 0, 0) G (Zp G (some (.int r.1)) r.2) SK (0, 0) 19 [some (.ref a0), some (.int b.1), some (.int x2), some (.int b.2.1)] [] b.2.2 := by
  unfold fX12_alike_b19 at h
  refine lp_ind (P := fun b r9 => r9 = r → Ev miX12_alike (2, 0, 0) G (Zp G (some (.int r.1)) r.2) SK (0, 0) 19 [some (.ref a0), some (.int b.1), some (.int x2), some (.int b.2.1)] [] b.2.2) (fun k19 b r9 ih h9 e9 => ?_) N b r h rfl
  clear h
  subst e9
  have h := h9
  clear h9
  have hk19 : ∀ b : Int32 × Int32 × pS, k19 b = some r9 → Ev miX12_alike (2, 0, 0) G (Zp G (some (.int r9.1)) r9.2) SK (0, 0) 19 [some (.ref a0), some (.int b.1), some (.int x2), some (.int b.2.1)] [] b.2.2 := fun b hb => ih b r9 hb rfl
  clear ih
  obtain ⟨x1, x3, σ⟩ := b
  dsimp only at h ⊢
  refine ev_iload_n dc_X12_alike_19 rfl ?_
  refine ev_iload_n dc_X12_alike_20 rfl ?_
  refine ev_icmp_ge (tgt := 53) dc_X12_alike_21 (by decide) h (fun h => ?_) (fun h => ?_)
  · refine ev_iinc (v := 1) (lv' := [some (.ref a0), some (.int x1), some (.int (x2 + (1 : Int32))), some (.int x3)]) dc_X12_alike_53 rfl (by decide) rfl (by decide) rfl ?_
    refine ev_goto (tgt := 9) dc_X12_alike_56 (by decide) ?_
    exact ev_sub (hk9 (x1, x2 + (1 : Int32), σ) h) (And.intro rfl (And.intro rfl (And.intro rfl trivial)))
  · refine ev_iload_n dc_X12_alike_24 rfl ?_
    refine ev_aload_n dc_X12_alike_25 rfl ?_
    refine ev_iload_n dc_X12_alike_26 rfl ?_
    refine ev_iconst (v := 0) dc_X12_alike_27 (by decide) ?_
    obtain ⟨q1, hq1, h⟩ := Option.bind_eq_some_iff.mp h
    refine ev_callV (av := [.int x2, .int (0 : Int32)]) (st := [.int x1]) (st1 := [.int q1, .int x1]) dc_X12_alike_28 (tX12_ofName hW i0 hq1) mw_1828 cy_X12_ofName i0 (by decide) rfl rfl rfl rfl (Nat.le_of_ble_eq_true rfl) (Nat.le_of_ble_eq_true rfl) ⟨Nat.le_refl _, Nat.le_refl _⟩ ?_
    refine ev_aload_n dc_X12_alike_31 rfl ?_
    refine ev_iload_n dc_X12_alike_32 rfl ?_
    refine ev_iconst (v := 0) dc_X12_alike_33 (by decide) ?_
    obtain ⟨q2, hq2, h⟩ := Option.bind_eq_some_iff.mp h
    refine ev_callV (av := [.int x3, .int (0 : Int32)]) (st := [.int q1, .int x1]) (st1 := [.int q2, .int q1, .int x1]) dc_X12_alike_34 (tX12_ofName hW i0 hq2) mw_1828 cy_X12_ofName i0 (by decide) rfl rfl rfl rfl (Nat.le_of_ble_eq_true rfl) (Nat.le_of_ble_eq_true rfl) ⟨Nat.le_refl _, Nat.le_refl _⟩ ?_
    refine ev_icmp_ne (tgt := 44) dc_X12_alike_37 (by decide) h (fun h => ?_) (fun h => ?_)
    · refine ev_iconst (v := 1) dc_X12_alike_40 (by decide) ?_
      refine ev_goto (tgt := 45) dc_X12_alike_41 (by decide) ?_
      refine ev_iadd dc_X12_alike_45 ?_
      refine ev_istore_n (lv' := [some (.ref a0), some (.int (x1 + (1 : Int32))), some (.int x2), some (.int x3)]) dc_X12_alike_46 rfl (by decide) rfl ?_
      refine ev_iinc (v := 1) (lv' := [some (.ref a0), some (.int (x1 + (1 : Int32))), some (.int x2), some (.int (x3 + (1 : Int32)))]) dc_X12_alike_47 rfl (by decide) rfl (by decide) rfl ?_
      refine ev_goto (tgt := 19) dc_X12_alike_50 (by decide) ?_
      exact ev_sub (hk19 (x1 + (1 : Int32), x3 + (1 : Int32), σ) h) (And.intro rfl (And.intro rfl (And.intro rfl (And.intro rfl trivial))))
    · refine ev_iconst (v := 0) dc_X12_alike_44 (by decide) ?_
      refine ev_iadd dc_X12_alike_45 ?_
      refine ev_istore_n (lv' := [some (.ref a0), some (.int (x1 + (0 : Int32))), some (.int x2), some (.int x3)]) dc_X12_alike_46 rfl (by decide) rfl ?_
      refine ev_iinc (v := 1) (lv' := [some (.ref a0), some (.int (x1 + (0 : Int32))), some (.int x2), some (.int (x3 + (1 : Int32)))]) dc_X12_alike_47 rfl (by decide) rfl (by decide) rfl ?_
      refine ev_goto (tgt := 19) dc_X12_alike_50 (by decide) ?_
      exact ev_sub (hk19 (x1 + (0 : Int32), x3 + (1 : Int32), σ) h) (And.intro rfl (And.intro rfl (And.intro rfl (And.intro rfl trivial))))
def fX12_alike_b9 (N : Nat) (G : pG) (a0 : Nat) : (Int32 × Int32 × pS) → Option (Int32 × pS) := lp (fun (k9 : Int32 × Int32 × pS → Option (Int32 × pS)) (b : Int32 × Int32 × pS) => (fX12_names N G a0 b.2.2).bind (fun q3 => if q3 ≤ b.2.1 then (some (b.1, b.2.2)) else (fX12_alike_b19 N G k9 a0 b.2.1 (b.1, (0 : Int32), b.2.2)))) N
set_option maxRecDepth 100000 in
set_option maxHeartbeats 4000000 in
theorem tX12_alike_b9 {N : Nat} {G : pG} {SK : Nat → Nat} {a0 : Nat} {b : Int32 × Int32 × pS} {r : Int32 × pS} (hW : WT G) (i0 : Is G a0 11) (h : fX12_alike_b9 N G a0 b = some r) : Ev miX12_alike (2, 0, 0) G (Zp G (some (.int r.1)) r.2) SK (0, 0) 9 [some (.ref a0), some (.int b.1), some (.int b.2.1), none] [] b.2.2 := by
  unfold fX12_alike_b9 at h
  refine lp_ind (P := fun b r9 => r9 = r → Ev miX12_alike (2, 0, 0) G (Zp G (some (.int r.1)) r.2) SK (0, 0) 9 [some (.ref a0), some (.int b.1), some (.int b.2.1), none] [] b.2.2) (fun k9 b r9 ih h9 e9 => ?_) N b r h rfl
  clear h
  subst e9
  have h := h9
  clear h9
  have hk9 : ∀ b : Int32 × Int32 × pS, k9 b = some r9 → Ev miX12_alike (2, 0, 0) G (Zp G (some (.int r9.1)) r9.2) SK (0, 0) 9 [some (.ref a0), some (.int b.1), some (.int b.2.1), none] [] b.2.2 := fun b hb => ih b r9 hb rfl
  clear ih
  obtain ⟨x1, x2, σ⟩ := b
  dsimp only at h ⊢
  refine ev_iload_n dc_X12_alike_9 rfl ?_
  refine ev_aload_n dc_X12_alike_10 rfl ?_
  obtain ⟨q3, hq3, h⟩ := Option.bind_eq_some_iff.mp h
  refine ev_callV (av := []) (st := [.int x2]) (st1 := [.int q3, .int x2]) dc_X12_alike_11 (tX12_names hW i0 hq3) mw_1648 cy_X12_names i0 (by decide) rfl rfl rfl rfl (Nat.le_of_ble_eq_true rfl) (Nat.le_of_ble_eq_true rfl) ⟨Nat.le_refl _, Nat.le_refl _⟩ ?_
  refine ev_icmp_ge (tgt := 59) dc_X12_alike_14 (by decide) h (fun h => ?_) (fun h => ?_)
  · refine ev_iload_n dc_X12_alike_59 rfl ?_
    cases h
    exact ev_iret dc_X12_alike_60 rfl rfl rfl
  · refine ev_iconst (v := 0) dc_X12_alike_17 (by decide) ?_
    refine ev_istore_n (lv' := [some (.ref a0), some (.int x1), some (.int x2), some (.int (0 : Int32))]) dc_X12_alike_18 rfl (by decide) rfl ?_
    exact ev_sub (tX12_alike_b19 (b := (x1, (0 : Int32), σ)) hW i0 hk9 h) (And.intro rfl (And.intro rfl (And.intro rfl (And.intro rfl trivial))))
def fX12_alike (N : Nat) (G : pG) (a0 : Nat) (σ : pS) : Option (Int32 × pS) := fX12_alike_b9 N G a0 ((0 : Int32), (0 : Int32), putF σ a0 0 (0 : Int32))
set_option maxRecDepth 100000 in
set_option maxHeartbeats 4000000 in
theorem tX12_alike {N : Nat} {G : pG} {SK : Nat → Nat} {a0 : Nat} {σ : pS} {r : Int32 × pS} (hW : WT G) (i0 : Is G a0 11) (h : fX12_alike N G a0 σ = some r) : Dn miX12_alike yX12_alike 2 G SK [.ref a0] σ (some (.int r.1)) r.2 := by
  unfold fX12_alike at h
  refine dn_of (lv := [some (.ref a0), none, none, none]) (by decide) rfl rfl (Nat.le_of_ble_eq_true rfl) rfl ?_
  refine ev_aload_n dc_X12_alike_0 rfl ?_
  refine ev_iconst (v := 0) dc_X12_alike_1 (by decide) ?_
  refine ev_putI dc_X12_alike_2 fi_X12_3 rfl i0 ?_
  refine ev_iconst (v := 0) dc_X12_alike_5 (by decide) ?_
  refine ev_istore_n (lv' := [some (.ref a0), some (.int (0 : Int32)), none, none]) dc_X12_alike_6 rfl (by decide) rfl ?_
  refine ev_iconst (v := 0) dc_X12_alike_7 (by decide) ?_
  refine ev_istore_n (lv' := [some (.ref a0), some (.int (0 : Int32)), some (.int (0 : Int32)), none]) dc_X12_alike_8 rfl (by decide) rfl ?_
  exact ev_sub (tX12_alike_b9 (b := ((0 : Int32), (0 : Int32), putF σ a0 0 (0 : Int32))) hW i0 h) (And.intro rfl (And.intro rfl (And.intro rfl trivial)))
theorem dc_X12_duties_0 : Dc miX12_duties 0 (.aload_n 0) 1 1 := ⟨by decide +kernel, rfl⟩
theorem dc_X12_duties_1 : Dc miX12_duties 1 (.getfield 13) 3 4 := ⟨by decide +kernel, rfl⟩
theorem dc_X12_duties_4 : Dc miX12_duties 4 (.iconst 4) 1 5 := ⟨by decide +kernel, rfl⟩
theorem dc_X12_duties_5 : Dc miX12_duties 5 (.iaload) 1 6 := ⟨by decide +kernel, rfl⟩
theorem dc_X12_duties_6 : Dc miX12_duties 6 (.ireturn) 1 7 := ⟨by decide +kernel, rfl⟩
def fX12_duties (N : Nat) (G : pG) (a0 : Nat) (σ : pS) : Option (Int32) := ck (inB (4 : Int32) (pN G (pR G a0 1))) (some (gA σ (pR G a0 1) (4 : Int32)))
set_option maxRecDepth 100000 in
set_option maxHeartbeats 4000000 in
theorem tX12_duties {N : Nat} {G : pG} {SK : Nat → Nat} {a0 : Nat} {σ : pS} {r : Int32} (hW : WT G) (i0 : Is G a0 11) (h : fX12_duties N G a0 σ = some r) : Dn miX12_duties yX12_duties 1 G SK [.ref a0] σ (some (.int r)) σ := by
  unfold fX12_duties at h
  refine dn_of (lv := [some (.ref a0)]) (by decide) rfl rfl (Nat.le_of_ble_eq_true rfl) rfl ?_
  refine ev_aload_n dc_X12_duties_0 rfl ?_
  refine ev_getR dc_X12_duties_1 fi_X12_13 rfl i0 ?_
  refine ev_iconst (v := 4) dc_X12_duties_4 (by decide) ?_
  refine ev_iald dc_X12_duties_5 (wt hW i0 1 rfl rfl) h (fun h => ?_)
  cases h
  exact ev_iret dc_X12_duties_6 rfl rfl rfl
theorem dc_X12_allDuties_0 : Dc miX12_allDuties 0 (.iconst 1) 1 1 := ⟨by decide +kernel, rfl⟩
theorem dc_X12_allDuties_1 : Dc miX12_allDuties 1 (.aload_n 0) 1 2 := ⟨by decide +kernel, rfl⟩
theorem dc_X12_allDuties_2 : Dc miX12_allDuties 2 (.invokevirtual 150) 3 5 := ⟨by decide +kernel, rfl⟩
theorem dc_X12_allDuties_5 : Dc miX12_allDuties 5 (.ishl) 1 6 := ⟨by decide +kernel, rfl⟩
theorem dc_X12_allDuties_6 : Dc miX12_allDuties 6 (.iconst 1) 1 7 := ⟨by decide +kernel, rfl⟩
theorem dc_X12_allDuties_7 : Dc miX12_allDuties 7 (.isub) 1 8 := ⟨by decide +kernel, rfl⟩
theorem dc_X12_allDuties_8 : Dc miX12_allDuties 8 (.ireturn) 1 9 := ⟨by decide +kernel, rfl⟩
def fX12_allDuties (N : Nat) (G : pG) (a0 : Nat) (σ : pS) : Option (Int32) := (fX12_duties N G a0 σ).bind (fun q1 => some (((1 : Int32) <<< (q1 &&& 31)) - (1 : Int32)))
set_option maxRecDepth 100000 in
set_option maxHeartbeats 4000000 in
theorem tX12_allDuties {N : Nat} {G : pG} {SK : Nat → Nat} {a0 : Nat} {σ : pS} {r : Int32} (hW : WT G) (i0 : Is G a0 11) (h : fX12_allDuties N G a0 σ = some r) : Dn miX12_allDuties yX12_allDuties 2 G SK [.ref a0] σ (some (.int r)) σ := by
  unfold fX12_allDuties at h
  refine dn_of (lv := [some (.ref a0)]) (by decide) rfl rfl (Nat.le_of_ble_eq_true rfl) rfl ?_
  refine ev_iconst (v := 1) dc_X12_allDuties_0 (by decide) ?_
  refine ev_aload_n dc_X12_allDuties_1 rfl ?_
  obtain ⟨q1, hq1, h⟩ := Option.bind_eq_some_iff.mp h
  refine ev_callV (av := []) (st := [.int (1 : Int32)]) (st1 := [.int q1, .int (1 : Int32)]) dc_X12_allDuties_2 (tX12_duties hW i0 hq1) mw_1715 cy_X12_duties i0 (by decide) rfl rfl rfl rfl (Nat.le_of_ble_eq_true rfl) (Nat.le_of_ble_eq_true rfl) ⟨Nat.le_refl _, Nat.le_refl _⟩ ?_
  refine ev_ishl dc_X12_allDuties_5 ?_
  refine ev_iconst (v := 1) dc_X12_allDuties_6 (by decide) ?_
  refine ev_isub dc_X12_allDuties_7 ?_
  cases h
  exact ev_iret dc_X12_allDuties_8 rfl rfl rfl
theorem dc_X12_doneBy_0 : Dc miX12_doneBy 0 (.iconst 0) 1 1 := ⟨by decide +kernel, rfl⟩
theorem dc_X12_doneBy_1 : Dc miX12_doneBy 1 (.istore_n 2) 1 2 := ⟨by decide +kernel, rfl⟩
theorem dc_X12_doneBy_2 : Dc miX12_doneBy 2 (.iconst 0) 1 3 := ⟨by decide +kernel, rfl⟩
theorem dc_X12_doneBy_3 : Dc miX12_doneBy 3 (.istore_n 3) 1 4 := ⟨by decide +kernel, rfl⟩
theorem dc_X12_doneBy_4 : Dc miX12_doneBy 4 (.iload_n 3) 1 5 := ⟨by decide +kernel, rfl⟩
theorem dc_X12_doneBy_5 : Dc miX12_doneBy 5 (.aload_n 0) 1 6 := ⟨by decide +kernel, rfl⟩
theorem dc_X12_doneBy_6 : Dc miX12_doneBy 6 (.invokevirtual 150) 3 9 := ⟨by decide +kernel, rfl⟩
theorem dc_X12_doneBy_9 : Dc miX12_doneBy 9 (.if_icmp .ge 33) 3 12 := ⟨by decide +kernel, rfl⟩
theorem dc_X12_doneBy_12 : Dc miX12_doneBy 12 (.iload_n 2) 1 13 := ⟨by decide +kernel, rfl⟩
theorem dc_X12_doneBy_13 : Dc miX12_doneBy 13 (.aload_n 0) 1 14 := ⟨by decide +kernel, rfl⟩
theorem dc_X12_doneBy_14 : Dc miX12_doneBy 14 (.getfield 13) 3 17 := ⟨by decide +kernel, rfl⟩
theorem dc_X12_doneBy_17 : Dc miX12_doneBy 17 (.bipush 75) 2 19 := ⟨by decide +kernel, rfl⟩
theorem dc_X12_doneBy_19 : Dc miX12_doneBy 19 (.iload_n 3) 1 20 := ⟨by decide +kernel, rfl⟩
theorem dc_X12_doneBy_20 : Dc miX12_doneBy 20 (.iadd) 1 21 := ⟨by decide +kernel, rfl⟩
theorem dc_X12_doneBy_21 : Dc miX12_doneBy 21 (.iaload) 1 22 := ⟨by decide +kernel, rfl⟩
theorem dc_X12_doneBy_22 : Dc miX12_doneBy 22 (.iload_n 1) 1 23 := ⟨by decide +kernel, rfl⟩
theorem dc_X12_doneBy_23 : Dc miX12_doneBy 23 (.iand) 1 24 := ⟨by decide +kernel, rfl⟩
theorem dc_X12_doneBy_24 : Dc miX12_doneBy 24 (.ifCond .eq 9) 3 27 := ⟨by decide +kernel, rfl⟩
theorem dc_X12_doneBy_27 : Dc miX12_doneBy 27 (.iconst 1) 1 28 := ⟨by decide +kernel, rfl⟩
theorem dc_X12_doneBy_28 : Dc miX12_doneBy 28 (.iload_n 3) 1 29 := ⟨by decide +kernel, rfl⟩
theorem dc_X12_doneBy_29 : Dc miX12_doneBy 29 (.ishl) 1 30 := ⟨by decide +kernel, rfl⟩
theorem dc_X12_doneBy_30 : Dc miX12_doneBy 30 (.goto 4) 3 33 := ⟨by decide +kernel, rfl⟩
theorem dc_X12_doneBy_33 : Dc miX12_doneBy 33 (.iconst 0) 1 34 := ⟨by decide +kernel, rfl⟩
theorem dc_X12_doneBy_34 : Dc miX12_doneBy 34 (.ior) 1 35 := ⟨by decide +kernel, rfl⟩
theorem dc_X12_doneBy_35 : Dc miX12_doneBy 35 (.istore_n 2) 1 36 := ⟨by decide +kernel, rfl⟩
theorem dc_X12_doneBy_36 : Dc miX12_doneBy 36 (.iinc 3 1) 3 39 := ⟨by decide +kernel, rfl⟩
theorem dc_X12_doneBy_39 : Dc miX12_doneBy 39 (.goto (-35)) 3 42 := ⟨by decide +kernel, rfl⟩
theorem dc_X12_doneBy_42 : Dc miX12_doneBy 42 (.iload_n 2) 1 43 := ⟨by decide +kernel, rfl⟩
theorem dc_X12_doneBy_43 : Dc miX12_doneBy 43 (.ireturn) 1 44 := ⟨by decide +kernel, rfl⟩
def fX12_doneBy_b4 (N : Nat) (G : pG) (a0 : Nat) (a1 : Int32) (σ : pS) : (Int32 × Int32) → Option (Int32) := lp (fun (k4 : Int32 × Int32 → Option (Int32)) (b : Int32 × Int32) => (fX12_duties N G a0 σ).bind (fun q1 => if q1 ≤ b.2 then (some b.1) else (ck (inB ((75 : Int32) + b.2) (pN G (pR G a0 1))) (if ((gA σ (pR G a0 1) ((75 : Int32) + b.2)) &&& a1) = 0 then (k4 (b.1 ||| (0 : Int32), b.2 + (1 : Int32))) else (k4 (b.1 ||| ((1 : Int32) <<< (b.2 &&& 31)), b.2 + (1 : Int32))))))) N
set_option maxRecDepth 100000 in
set_option maxHeartbeats 4000000 in
theorem tX12_doneBy_b4 {N : Nat} {G : pG} {SK : Nat → Nat} {a0 : Nat} {a1 : Int32} {σ : pS} {b : Int32 × Int32} {r : Int32} (hW : WT G) (i0 : Is G a0 11) (h : fX12_doneBy_b4 N G a0 a1 σ b = some r) : Ev miX12_doneBy (2, 0, 0) G (Zp G (some (.int r)) σ) SK (0, 0) 4 [some (.ref a0), some (.int a1), some (.int b.1), some (.int b.2)] [] σ := by
  unfold fX12_doneBy_b4 at h
  refine lp_ind (P := fun b r9 => r9 = r → Ev miX12_doneBy (2, 0, 0) G (Zp G (some (.int r)) σ) SK (0, 0) 4 [some (.ref a0), some (.int a1), some (.int b.1), some (.int b.2)] [] σ) (fun k4 b r9 ih h9 e9 => ?_) N b r h rfl
  clear h
  subst e9
  have h := h9
  clear h9
  have hk4 : ∀ b : Int32 × Int32, k4 b = some r9 → Ev miX12_doneBy (2, 0, 0) G (Zp G (some (.int r9)) σ) SK (0, 0) 4 [some (.ref a0), some (.int a1), some (.int b.1), some (.int b.2)] [] σ := fun b hb => ih b r9 hb rfl
  clear ih
  obtain ⟨x2, x3⟩ := b
  dsimp only at h ⊢
  refine ev_iload_n dc_X12_doneBy_4 rfl ?_
  refine ev_aload_n dc_X12_doneBy_5 rfl ?_
  obtain ⟨q1, hq1, h⟩ := Option.bind_eq_some_iff.mp h
  refine ev_callV (av := []) (st := [.int x3]) (st1 := [.int q1, .int x3]) dc_X12_doneBy_6 (tX12_duties hW i0 hq1) mw_1715 cy_X12_duties i0 (by decide) rfl rfl rfl rfl (Nat.le_of_ble_eq_true rfl) (Nat.le_of_ble_eq_true rfl) ⟨Nat.le_refl _, Nat.le_refl _⟩ ?_
  refine ev_icmp_ge (tgt := 42) dc_X12_doneBy_9 (by decide) h (fun h => ?_) (fun h => ?_)
  · refine ev_iload_n dc_X12_doneBy_42 rfl ?_
    cases h
    exact ev_iret dc_X12_doneBy_43 rfl rfl rfl
  · refine ev_iload_n dc_X12_doneBy_12 rfl ?_
    refine ev_aload_n dc_X12_doneBy_13 rfl ?_
    refine ev_getR dc_X12_doneBy_14 fi_X12_13 rfl i0 ?_
    refine ev_bipush (v := 75) dc_X12_doneBy_17 (by decide) ?_
    refine ev_iload_n dc_X12_doneBy_19 rfl ?_
    refine ev_iadd dc_X12_doneBy_20 ?_
    refine ev_iald dc_X12_doneBy_21 (wt hW i0 1 rfl rfl) h (fun h => ?_)
    refine ev_iload_n dc_X12_doneBy_22 rfl ?_
    refine ev_iand dc_X12_doneBy_23 ?_
    refine ev_if_eq (tgt := 33) dc_X12_doneBy_24 (by decide) h (fun h => ?_) (fun h => ?_)
    · refine ev_iconst (v := 0) dc_X12_doneBy_33 (by decide) ?_
      refine ev_ior dc_X12_doneBy_34 ?_
      refine ev_istore_n (lv' := [some (.ref a0), some (.int a1), some (.int (x2 ||| (0 : Int32))), some (.int x3)]) dc_X12_doneBy_35 rfl (by decide) rfl ?_
      refine ev_iinc (v := 1) (lv' := [some (.ref a0), some (.int a1), some (.int (x2 ||| (0 : Int32))), some (.int (x3 + (1 : Int32)))]) dc_X12_doneBy_36 rfl (by decide) rfl (by decide) rfl ?_
      refine ev_goto (tgt := 4) dc_X12_doneBy_39 (by decide) ?_
      exact ev_sub (hk4 (x2 ||| (0 : Int32), x3 + (1 : Int32)) h) (And.intro rfl (And.intro rfl (And.intro rfl (And.intro rfl trivial))))
    · refine ev_iconst (v := 1) dc_X12_doneBy_27 (by decide) ?_
      refine ev_iload_n dc_X12_doneBy_28 rfl ?_
      refine ev_ishl dc_X12_doneBy_29 ?_
      refine ev_goto (tgt := 34) dc_X12_doneBy_30 (by decide) ?_
      refine ev_ior dc_X12_doneBy_34 ?_
      refine ev_istore_n (lv' := [some (.ref a0), some (.int a1), some (.int (x2 ||| ((1 : Int32) <<< (x3 &&& 31)))), some (.int x3)]) dc_X12_doneBy_35 rfl (by decide) rfl ?_
      refine ev_iinc (v := 1) (lv' := [some (.ref a0), some (.int a1), some (.int (x2 ||| ((1 : Int32) <<< (x3 &&& 31)))), some (.int (x3 + (1 : Int32)))]) dc_X12_doneBy_36 rfl (by decide) rfl (by decide) rfl ?_
      refine ev_goto (tgt := 4) dc_X12_doneBy_39 (by decide) ?_
      exact ev_sub (hk4 (x2 ||| ((1 : Int32) <<< (x3 &&& 31)), x3 + (1 : Int32)) h) (And.intro rfl (And.intro rfl (And.intro rfl (And.intro rfl trivial))))
def fX12_doneBy (N : Nat) (G : pG) (a0 : Nat) (a1 : Int32) (σ : pS) : Option (Int32) := fX12_doneBy_b4 N G a0 a1 σ ((0 : Int32), (0 : Int32))
set_option maxRecDepth 100000 in
set_option maxHeartbeats 4000000 in
theorem tX12_doneBy {N : Nat} {G : pG} {SK : Nat → Nat} {a0 : Nat} {a1 : Int32} {σ : pS} {r : Int32} (hW : WT G) (i0 : Is G a0 11) (h : fX12_doneBy N G a0 a1 σ = some r) : Dn miX12_doneBy yX12_doneBy 2 G SK [.ref a0, .int a1] σ (some (.int r)) σ := by
  unfold fX12_doneBy at h
  refine dn_of (lv := [some (.ref a0), some (.int a1), none, none]) (by decide) rfl rfl (Nat.le_of_ble_eq_true rfl) rfl ?_
  refine ev_iconst (v := 0) dc_X12_doneBy_0 (by decide) ?_
  refine ev_istore_n (lv' := [some (.ref a0), some (.int a1), some (.int (0 : Int32)), none]) dc_X12_doneBy_1 rfl (by decide) rfl ?_
  refine ev_iconst (v := 0) dc_X12_doneBy_2 (by decide) ?_
  refine ev_istore_n (lv' := [some (.ref a0), some (.int a1), some (.int (0 : Int32)), some (.int (0 : Int32))]) dc_X12_doneBy_3 rfl (by decide) rfl ?_
  exact ev_sub (tX12_doneBy_b4 (b := ((0 : Int32), (0 : Int32))) hW i0 h) (And.intro rfl (And.intro rfl (And.intro rfl (And.intro rfl trivial))))
theorem dc_X12_alone_0 : Dc miX12_alone 0 (.aload_n 0) 1 1 := ⟨by decide +kernel, rfl⟩
theorem dc_X12_alone_1 : Dc miX12_alone 1 (.iconst 0) 1 2 := ⟨by decide +kernel, rfl⟩
theorem dc_X12_alone_2 : Dc miX12_alone 2 (.putfield 3) 3 5 := ⟨by decide +kernel, rfl⟩
theorem dc_X12_alone_5 : Dc miX12_alone 5 (.iconst 0) 1 6 := ⟨by decide +kernel, rfl⟩
theorem dc_X12_alone_6 : Dc miX12_alone 6 (.istore_n 1) 1 7 := ⟨by decide +kernel, rfl⟩
theorem dc_X12_alone_7 : Dc miX12_alone 7 (.iconst 0) 1 8 := ⟨by decide +kernel, rfl⟩
theorem dc_X12_alone_8 : Dc miX12_alone 8 (.istore_n 2) 1 9 := ⟨by decide +kernel, rfl⟩
theorem dc_X12_alone_9 : Dc miX12_alone 9 (.iload_n 2) 1 10 := ⟨by decide +kernel, rfl⟩
theorem dc_X12_alone_10 : Dc miX12_alone 10 (.bipush 6) 2 12 := ⟨by decide +kernel, rfl⟩
theorem dc_X12_alone_12 : Dc miX12_alone 12 (.if_icmp .ge 35) 3 15 := ⟨by decide +kernel, rfl⟩
theorem dc_X12_alone_15 : Dc miX12_alone 15 (.iload_n 1) 1 16 := ⟨by decide +kernel, rfl⟩
theorem dc_X12_alone_16 : Dc miX12_alone 16 (.aload_n 0) 1 17 := ⟨by decide +kernel, rfl⟩
theorem dc_X12_alone_17 : Dc miX12_alone 17 (.iconst 1) 1 18 := ⟨by decide +kernel, rfl⟩
theorem dc_X12_alone_18 : Dc miX12_alone 18 (.iload_n 2) 1 19 := ⟨by decide +kernel, rfl⟩
theorem dc_X12_alone_19 : Dc miX12_alone 19 (.ishl) 1 20 := ⟨by decide +kernel, rfl⟩
theorem dc_X12_alone_20 : Dc miX12_alone 20 (.iconst (-1)) 1 21 := ⟨by decide +kernel, rfl⟩
theorem dc_X12_alone_21 : Dc miX12_alone 21 (.ixor) 1 22 := ⟨by decide +kernel, rfl⟩
theorem dc_X12_alone_22 : Dc miX12_alone 22 (.invokevirtual 462) 3 25 := ⟨by decide +kernel, rfl⟩
theorem dc_X12_alone_25 : Dc miX12_alone 25 (.aload_n 0) 1 26 := ⟨by decide +kernel, rfl⟩
theorem dc_X12_alone_26 : Dc miX12_alone 26 (.invokevirtual 465) 3 29 := ⟨by decide +kernel, rfl⟩
theorem dc_X12_alone_29 : Dc miX12_alone 29 (.if_icmp .eq 9) 3 32 := ⟨by decide +kernel, rfl⟩
theorem dc_X12_alone_32 : Dc miX12_alone 32 (.iconst 1) 1 33 := ⟨by decide +kernel, rfl⟩
theorem dc_X12_alone_33 : Dc miX12_alone 33 (.iload_n 2) 1 34 := ⟨by decide +kernel, rfl⟩
theorem dc_X12_alone_34 : Dc miX12_alone 34 (.ishl) 1 35 := ⟨by decide +kernel, rfl⟩
theorem dc_X12_alone_35 : Dc miX12_alone 35 (.goto 4) 3 38 := ⟨by decide +kernel, rfl⟩
theorem dc_X12_alone_38 : Dc miX12_alone 38 (.iconst 0) 1 39 := ⟨by decide +kernel, rfl⟩
theorem dc_X12_alone_39 : Dc miX12_alone 39 (.ior) 1 40 := ⟨by decide +kernel, rfl⟩
theorem dc_X12_alone_40 : Dc miX12_alone 40 (.istore_n 1) 1 41 := ⟨by decide +kernel, rfl⟩
theorem dc_X12_alone_41 : Dc miX12_alone 41 (.iinc 2 1) 3 44 := ⟨by decide +kernel, rfl⟩
theorem dc_X12_alone_44 : Dc miX12_alone 44 (.goto (-35)) 3 47 := ⟨by decide +kernel, rfl⟩
theorem dc_X12_alone_47 : Dc miX12_alone 47 (.iload_n 1) 1 48 := ⟨by decide +kernel, rfl⟩
theorem dc_X12_alone_48 : Dc miX12_alone 48 (.ireturn) 1 49 := ⟨by decide +kernel, rfl⟩
def fX12_alone_b9 (N : Nat) (G : pG) (a0 : Nat) : (Int32 × Int32 × pS) → Option (Int32 × pS) := lp (fun (k9 : Int32 × Int32 × pS → Option (Int32 × pS)) (b : Int32 × Int32 × pS) => if (6 : Int32) ≤ b.2.1 then (some (b.1, b.2.2)) else ((fX12_doneBy N G a0 (((1 : Int32) <<< (b.2.1 &&& 31)) ^^^ (-1 : Int32)) b.2.2).bind (fun q1 => (fX12_allDuties N G a0 b.2.2).bind (fun q2 => if q1 = q2 then (k9 (b.1 ||| (0 : Int32), b.2.1 + (1 : Int32), b.2.2)) else (k9 (b.1 ||| ((1 : Int32) <<< (b.2.1 &&& 31)), b.2.1 + (1 : Int32), b.2.2)))))) N
set_option maxRecDepth 100000 in
set_option maxHeartbeats 4000000 in
theorem tX12_alone_b9 {N : Nat} {G : pG} {SK : Nat → Nat} {a0 : Nat} {b : Int32 × Int32 × pS} {r : Int32 × pS} (hW : WT G) (i0 : Is G a0 11) (h : fX12_alone_b9 N G a0 b = some r) : Ev miX12_alone (3, 0, 0) G (Zp G (some (.int r.1)) r.2) SK (0, 0) 9 [some (.ref a0), some (.int b.1), some (.int b.2.1)] [] b.2.2 := by
  unfold fX12_alone_b9 at h
  refine lp_ind (P := fun b r9 => r9 = r → Ev miX12_alone (3, 0, 0) G (Zp G (some (.int r.1)) r.2) SK (0, 0) 9 [some (.ref a0), some (.int b.1), some (.int b.2.1)] [] b.2.2) (fun k9 b r9 ih h9 e9 => ?_) N b r h rfl
  clear h
  subst e9
  have h := h9
  clear h9
  have hk9 : ∀ b : Int32 × Int32 × pS, k9 b = some r9 → Ev miX12_alone (3, 0, 0) G (Zp G (some (.int r9.1)) r9.2) SK (0, 0) 9 [some (.ref a0), some (.int b.1), some (.int b.2.1)] [] b.2.2 := fun b hb => ih b r9 hb rfl
  clear ih
  obtain ⟨x1, x2, σ⟩ := b
  dsimp only at h ⊢
  refine ev_iload_n dc_X12_alone_9 rfl ?_
  refine ev_bipush (v := 6) dc_X12_alone_10 (by decide) ?_
  refine ev_icmp_ge (tgt := 47) dc_X12_alone_12 (by decide) h (fun h => ?_) (fun h => ?_)
  · refine ev_iload_n dc_X12_alone_47 rfl ?_
    cases h
    exact ev_iret dc_X12_alone_48 rfl rfl rfl
  · refine ev_iload_n dc_X12_alone_15 rfl ?_
    refine ev_aload_n dc_X12_alone_16 rfl ?_
    refine ev_iconst (v := 1) dc_X12_alone_17 (by decide) ?_
    refine ev_iload_n dc_X12_alone_18 rfl ?_
    refine ev_ishl dc_X12_alone_19 ?_
    refine ev_iconst (v := (-1)) dc_X12_alone_20 (by decide) ?_
    refine ev_ixor dc_X12_alone_21 ?_
    obtain ⟨q1, hq1, h⟩ := Option.bind_eq_some_iff.mp h
    refine ev_callV (av := [.int (((1 : Int32) <<< (x2 &&& 31)) ^^^ (-1 : Int32))]) (st := [.int x1]) (st1 := [.int q1, .int x1]) dc_X12_alone_22 (tX12_doneBy hW i0 hq1) mw_2138 cy_X12_doneBy i0 (by decide) rfl rfl rfl rfl (Nat.le_of_ble_eq_true rfl) (Nat.le_of_ble_eq_true rfl) ⟨Nat.le_refl _, Nat.le_refl _⟩ ?_
    refine ev_aload_n dc_X12_alone_25 rfl ?_
    obtain ⟨q2, hq2, h⟩ := Option.bind_eq_some_iff.mp h
    refine ev_callV (av := []) (st := [.int q1, .int x1]) (st1 := [.int q2, .int q1, .int x1]) dc_X12_alone_26 (tX12_allDuties hW i0 hq2) mw_2146 cy_X12_allDuties i0 (by decide) rfl rfl rfl rfl (Nat.le_of_ble_eq_true rfl) (Nat.le_of_ble_eq_true rfl) ⟨Nat.le_refl _, Nat.le_refl _⟩ ?_
    refine ev_icmp_eq (tgt := 38) dc_X12_alone_29 (by decide) h (fun h => ?_) (fun h => ?_)
    · refine ev_iconst (v := 0) dc_X12_alone_38 (by decide) ?_
      refine ev_ior dc_X12_alone_39 ?_
      refine ev_istore_n (lv' := [some (.ref a0), some (.int (x1 ||| (0 : Int32))), some (.int x2)]) dc_X12_alone_40 rfl (by decide) rfl ?_
      refine ev_iinc (v := 1) (lv' := [some (.ref a0), some (.int (x1 ||| (0 : Int32))), some (.int (x2 + (1 : Int32)))]) dc_X12_alone_41 rfl (by decide) rfl (by decide) rfl ?_
      refine ev_goto (tgt := 9) dc_X12_alone_44 (by decide) ?_
      exact ev_sub (hk9 (x1 ||| (0 : Int32), x2 + (1 : Int32), σ) h) (And.intro rfl (And.intro rfl (And.intro rfl trivial)))
    · refine ev_iconst (v := 1) dc_X12_alone_32 (by decide) ?_
      refine ev_iload_n dc_X12_alone_33 rfl ?_
      refine ev_ishl dc_X12_alone_34 ?_
      refine ev_goto (tgt := 39) dc_X12_alone_35 (by decide) ?_
      refine ev_ior dc_X12_alone_39 ?_
      refine ev_istore_n (lv' := [some (.ref a0), some (.int (x1 ||| ((1 : Int32) <<< (x2 &&& 31)))), some (.int x2)]) dc_X12_alone_40 rfl (by decide) rfl ?_
      refine ev_iinc (v := 1) (lv' := [some (.ref a0), some (.int (x1 ||| ((1 : Int32) <<< (x2 &&& 31)))), some (.int (x2 + (1 : Int32)))]) dc_X12_alone_41 rfl (by decide) rfl (by decide) rfl ?_
      refine ev_goto (tgt := 9) dc_X12_alone_44 (by decide) ?_
      exact ev_sub (hk9 (x1 ||| ((1 : Int32) <<< (x2 &&& 31)), x2 + (1 : Int32), σ) h) (And.intro rfl (And.intro rfl (And.intro rfl trivial)))
def fX12_alone (N : Nat) (G : pG) (a0 : Nat) (σ : pS) : Option (Int32 × pS) := fX12_alone_b9 N G a0 ((0 : Int32), (0 : Int32), putF σ a0 0 (0 : Int32))
set_option maxRecDepth 100000 in
set_option maxHeartbeats 4000000 in
theorem tX12_alone {N : Nat} {G : pG} {SK : Nat → Nat} {a0 : Nat} {σ : pS} {r : Int32 × pS} (hW : WT G) (i0 : Is G a0 11) (h : fX12_alone N G a0 σ = some r) : Dn miX12_alone yX12_alone 3 G SK [.ref a0] σ (some (.int r.1)) r.2 := by
  unfold fX12_alone at h
  refine dn_of (lv := [some (.ref a0), none, none]) (by decide) rfl rfl (Nat.le_of_ble_eq_true rfl) rfl ?_
  refine ev_aload_n dc_X12_alone_0 rfl ?_
  refine ev_iconst (v := 0) dc_X12_alone_1 (by decide) ?_
  refine ev_putI dc_X12_alone_2 fi_X12_3 rfl i0 ?_
  refine ev_iconst (v := 0) dc_X12_alone_5 (by decide) ?_
  refine ev_istore_n (lv' := [some (.ref a0), some (.int (0 : Int32)), none]) dc_X12_alone_6 rfl (by decide) rfl ?_
  refine ev_iconst (v := 0) dc_X12_alone_7 (by decide) ?_
  refine ev_istore_n (lv' := [some (.ref a0), some (.int (0 : Int32)), some (.int (0 : Int32))]) dc_X12_alone_8 rfl (by decide) rfl ?_
  exact ev_sub (tX12_alone_b9 (b := ((0 : Int32), (0 : Int32), putF σ a0 0 (0 : Int32))) hW i0 h) (And.intro rfl (And.intro rfl (And.intro rfl trivial)))
theorem dc_X12_possibleBy_0 : Dc miX12_possibleBy 0 (.aload_n 0) 1 1 := ⟨by decide +kernel, rfl⟩
theorem dc_X12_possibleBy_1 : Dc miX12_possibleBy 1 (.getfield 13) 3 4 := ⟨by decide +kernel, rfl⟩
theorem dc_X12_possibleBy_4 : Dc miX12_possibleBy 4 (.bipush 12) 2 6 := ⟨by decide +kernel, rfl⟩
theorem dc_X12_possibleBy_6 : Dc miX12_possibleBy 6 (.iaload) 1 7 := ⟨by decide +kernel, rfl⟩
theorem dc_X12_possibleBy_7 : Dc miX12_possibleBy 7 (.istore_n 2) 1 8 := ⟨by decide +kernel, rfl⟩
theorem dc_X12_possibleBy_8 : Dc miX12_possibleBy 8 (.iconst 0) 1 9 := ⟨by decide +kernel, rfl⟩
theorem dc_X12_possibleBy_9 : Dc miX12_possibleBy 9 (.istore_n 3) 1 10 := ⟨by decide +kernel, rfl⟩
theorem dc_X12_possibleBy_10 : Dc miX12_possibleBy 10 (.iload_n 3) 1 11 := ⟨by decide +kernel, rfl⟩
theorem dc_X12_possibleBy_11 : Dc miX12_possibleBy 11 (.bipush 6) 2 13 := ⟨by decide +kernel, rfl⟩
theorem dc_X12_possibleBy_13 : Dc miX12_possibleBy 13 (.if_icmp .ge 28) 3 16 := ⟨by decide +kernel, rfl⟩
theorem dc_X12_possibleBy_16 : Dc miX12_possibleBy 16 (.iload_n 1) 1 17 := ⟨by decide +kernel, rfl⟩
theorem dc_X12_possibleBy_17 : Dc miX12_possibleBy 17 (.iload_n 3) 1 18 := ⟨by decide +kernel, rfl⟩
theorem dc_X12_possibleBy_18 : Dc miX12_possibleBy 18 (.invokestatic 122) 3 21 := ⟨by decide +kernel, rfl⟩
theorem dc_X12_possibleBy_21 : Dc miX12_possibleBy 21 (.ifCond .eq 12) 3 24 := ⟨by decide +kernel, rfl⟩
theorem dc_X12_possibleBy_24 : Dc miX12_possibleBy 24 (.aload_n 0) 1 25 := ⟨by decide +kernel, rfl⟩
theorem dc_X12_possibleBy_25 : Dc miX12_possibleBy 25 (.iload_n 2) 1 26 := ⟨by decide +kernel, rfl⟩
theorem dc_X12_possibleBy_26 : Dc miX12_possibleBy 26 (.iload_n 3) 1 27 := ⟨by decide +kernel, rfl⟩
theorem dc_X12_possibleBy_27 : Dc miX12_possibleBy 27 (.invokevirtual 340) 3 30 := ⟨by decide +kernel, rfl⟩
theorem dc_X12_possibleBy_30 : Dc miX12_possibleBy 30 (.goto 4) 3 33 := ⟨by decide +kernel, rfl⟩
theorem dc_X12_possibleBy_33 : Dc miX12_possibleBy 33 (.iload_n 2) 1 34 := ⟨by decide +kernel, rfl⟩
theorem dc_X12_possibleBy_34 : Dc miX12_possibleBy 34 (.istore_n 2) 1 35 := ⟨by decide +kernel, rfl⟩
theorem dc_X12_possibleBy_35 : Dc miX12_possibleBy 35 (.iinc 3 1) 3 38 := ⟨by decide +kernel, rfl⟩
theorem dc_X12_possibleBy_38 : Dc miX12_possibleBy 38 (.goto (-28)) 3 41 := ⟨by decide +kernel, rfl⟩
theorem dc_X12_possibleBy_41 : Dc miX12_possibleBy 41 (.iload_n 2) 1 42 := ⟨by decide +kernel, rfl⟩
theorem dc_X12_possibleBy_42 : Dc miX12_possibleBy 42 (.ireturn) 1 43 := ⟨by decide +kernel, rfl⟩
def fX12_possibleBy_b10 (N : Nat) (G : pG) (a0 : Nat) (a1 : Int32) (σ : pS) : (Int32 × Int32) → Option (Int32) := lp (fun (k10 : Int32 × Int32 → Option (Int32)) (b : Int32 × Int32) => if (6 : Int32) ≤ b.2 then (some b.1) else ((fX12_has N G a1 b.2 σ).bind (fun q1 => if q1 = 0 then (k10 (b.1, b.2 + (1 : Int32))) else ((fX12_staysOf N G a0 b.1 b.2 σ).bind (fun q2 => k10 (q2, b.2 + (1 : Int32))))))) N
set_option maxRecDepth 100000 in
set_option maxHeartbeats 4000000 in
theorem tX12_possibleBy_b10 {N : Nat} {G : pG} {SK : Nat → Nat} {a0 : Nat} {a1 : Int32} {σ : pS} {b : Int32 × Int32} {r : Int32} (hW : WT G) (i0 : Is G a0 11) (h : fX12_possibleBy_b10 N G a0 a1 σ b = some r) : Ev miX12_possibleBy (4, 0, 0) G (Zp G (some (.int r)) σ) SK (0, 0) 10 [some (.ref a0), some (.int a1), some (.int b.1), some (.int b.2)] [] σ := by
  unfold fX12_possibleBy_b10 at h
  refine lp_ind (P := fun b r9 => r9 = r → Ev miX12_possibleBy (4, 0, 0) G (Zp G (some (.int r)) σ) SK (0, 0) 10 [some (.ref a0), some (.int a1), some (.int b.1), some (.int b.2)] [] σ) (fun k10 b r9 ih h9 e9 => ?_) N b r h rfl
  clear h
  subst e9
  have h := h9
  clear h9
  have hk10 : ∀ b : Int32 × Int32, k10 b = some r9 → Ev miX12_possibleBy (4, 0, 0) G (Zp G (some (.int r9)) σ) SK (0, 0) 10 [some (.ref a0), some (.int a1), some (.int b.1), some (.int b.2)] [] σ := fun b hb => ih b r9 hb rfl
  clear ih
  obtain ⟨x2, x3⟩ := b
  dsimp only at h ⊢
  refine ev_iload_n dc_X12_possibleBy_10 rfl ?_
  refine ev_bipush (v := 6) dc_X12_possibleBy_11 (by decide) ?_
  refine ev_icmp_ge (tgt := 41) dc_X12_possibleBy_13 (by decide) h (fun h => ?_) (fun h => ?_)
  · refine ev_iload_n dc_X12_possibleBy_41 rfl ?_
    cases h
    exact ev_iret dc_X12_possibleBy_42 rfl rfl rfl
  · refine ev_iload_n dc_X12_possibleBy_16 rfl ?_
    refine ev_iload_n dc_X12_possibleBy_17 rfl ?_
    obtain ⟨q1, hq1, h⟩ := Option.bind_eq_some_iff.mp h
    refine ev_callS (av := [.int a1, .int x3]) (st := []) (st1 := [.int q1]) dc_X12_possibleBy_18 (tX12_has hW hq1) mw_1659 cs_X12_has rfl rfl rfl (Nat.le_of_ble_eq_true rfl) (Nat.le_of_ble_eq_true rfl) ⟨Nat.le_refl _, Nat.le_refl _⟩ ?_
    refine ev_if_eq (tgt := 33) dc_X12_possibleBy_21 (by decide) h (fun h => ?_) (fun h => ?_)
    · refine ev_iload_n dc_X12_possibleBy_33 rfl ?_
      refine ev_istore_n (lv' := [some (.ref a0), some (.int a1), some (.int x2), some (.int x3)]) dc_X12_possibleBy_34 rfl (by decide) rfl ?_
      refine ev_iinc (v := 1) (lv' := [some (.ref a0), some (.int a1), some (.int x2), some (.int (x3 + (1 : Int32)))]) dc_X12_possibleBy_35 rfl (by decide) rfl (by decide) rfl ?_
      refine ev_goto (tgt := 10) dc_X12_possibleBy_38 (by decide) ?_
      exact ev_sub (hk10 (x2, x3 + (1 : Int32)) h) (And.intro rfl (And.intro rfl (And.intro rfl (And.intro rfl trivial))))
    · refine ev_aload_n dc_X12_possibleBy_24 rfl ?_
      refine ev_iload_n dc_X12_possibleBy_25 rfl ?_
      refine ev_iload_n dc_X12_possibleBy_26 rfl ?_
      obtain ⟨q2, hq2, h⟩ := Option.bind_eq_some_iff.mp h
      refine ev_callV (av := [.int x2, .int x3]) (st := []) (st1 := [.int q2]) dc_X12_possibleBy_27 (tX12_staysOf hW i0 hq2) mw_1853 cy_X12_staysOf i0 (by decide) rfl rfl rfl rfl (Nat.le_of_ble_eq_true rfl) (Nat.le_of_ble_eq_true rfl) ⟨Nat.le_refl _, Nat.le_refl _⟩ ?_
      refine ev_goto (tgt := 34) dc_X12_possibleBy_30 (by decide) ?_
      refine ev_istore_n (lv' := [some (.ref a0), some (.int a1), some (.int q2), some (.int x3)]) dc_X12_possibleBy_34 rfl (by decide) rfl ?_
      refine ev_iinc (v := 1) (lv' := [some (.ref a0), some (.int a1), some (.int q2), some (.int (x3 + (1 : Int32)))]) dc_X12_possibleBy_35 rfl (by decide) rfl (by decide) rfl ?_
      refine ev_goto (tgt := 10) dc_X12_possibleBy_38 (by decide) ?_
      exact ev_sub (hk10 (q2, x3 + (1 : Int32)) h) (And.intro rfl (And.intro rfl (And.intro rfl (And.intro rfl trivial))))
def fX12_possibleBy (N : Nat) (G : pG) (a0 : Nat) (a1 : Int32) (σ : pS) : Option (Int32) := ck (inB (12 : Int32) (pN G (pR G a0 1))) (fX12_possibleBy_b10 N G a0 a1 σ (gA σ (pR G a0 1) (12 : Int32), (0 : Int32)))
set_option maxRecDepth 100000 in
set_option maxHeartbeats 4000000 in
theorem tX12_possibleBy {N : Nat} {G : pG} {SK : Nat → Nat} {a0 : Nat} {a1 : Int32} {σ : pS} {r : Int32} (hW : WT G) (i0 : Is G a0 11) (h : fX12_possibleBy N G a0 a1 σ = some r) : Dn miX12_possibleBy yX12_possibleBy 4 G SK [.ref a0, .int a1] σ (some (.int r)) σ := by
  unfold fX12_possibleBy at h
  refine dn_of (lv := [some (.ref a0), some (.int a1), none, none]) (by decide) rfl rfl (Nat.le_of_ble_eq_true rfl) rfl ?_
  refine ev_aload_n dc_X12_possibleBy_0 rfl ?_
  refine ev_getR dc_X12_possibleBy_1 fi_X12_13 rfl i0 ?_
  refine ev_bipush (v := 12) dc_X12_possibleBy_4 (by decide) ?_
  refine ev_iald dc_X12_possibleBy_6 (wt hW i0 1 rfl rfl) h (fun h => ?_)
  refine ev_istore_n (lv' := [some (.ref a0), some (.int a1), some (.int (gA σ (pR G a0 1) (12 : Int32))), none]) dc_X12_possibleBy_7 rfl (by decide) rfl ?_
  refine ev_iconst (v := 0) dc_X12_possibleBy_8 (by decide) ?_
  refine ev_istore_n (lv' := [some (.ref a0), some (.int a1), some (.int (gA σ (pR G a0 1) (12 : Int32))), some (.int (0 : Int32))]) dc_X12_possibleBy_9 rfl (by decide) rfl ?_
  exact ev_sub (tX12_possibleBy_b10 (b := (gA σ (pR G a0 1) (12 : Int32), (0 : Int32))) hW i0 h) (And.intro rfl (And.intro rfl (And.intro rfl (And.intro rfl trivial))))
theorem dc_X12_words_0 : Dc miX12_words 0 (.aload_n 0) 1 1 := ⟨by decide +kernel, rfl⟩
theorem dc_X12_words_1 : Dc miX12_words 1 (.getfield 13) 3 4 := ⟨by decide +kernel, rfl⟩
theorem dc_X12_words_4 : Dc miX12_words 4 (.iconst 2) 1 5 := ⟨by decide +kernel, rfl⟩
theorem dc_X12_words_5 : Dc miX12_words 5 (.iaload) 1 6 := ⟨by decide +kernel, rfl⟩
theorem dc_X12_words_6 : Dc miX12_words 6 (.ireturn) 1 7 := ⟨by decide +kernel, rfl⟩
def fX12_words (N : Nat) (G : pG) (a0 : Nat) (σ : pS) : Option (Int32) := ck (inB (2 : Int32) (pN G (pR G a0 1))) (some (gA σ (pR G a0 1) (2 : Int32)))
set_option maxRecDepth 100000 in
set_option maxHeartbeats 4000000 in
theorem tX12_words {N : Nat} {G : pG} {SK : Nat → Nat} {a0 : Nat} {σ : pS} {r : Int32} (hW : WT G) (i0 : Is G a0 11) (h : fX12_words N G a0 σ = some r) : Dn miX12_words yX12_words 1 G SK [.ref a0] σ (some (.int r)) σ := by
  unfold fX12_words at h
  refine dn_of (lv := [some (.ref a0)]) (by decide) rfl rfl (Nat.le_of_ble_eq_true rfl) rfl ?_
  refine ev_aload_n dc_X12_words_0 rfl ?_
  refine ev_getR dc_X12_words_1 fi_X12_13 rfl i0 ?_
  refine ev_iconst (v := 2) dc_X12_words_4 (by decide) ?_
  refine ev_iald dc_X12_words_5 (wt hW i0 1 rfl rfl) h (fun h => ?_)
  cases h
  exact ev_iret dc_X12_words_6 rfl rfl rfl
theorem dc_X12_asksBy_0 : Dc miX12_asksBy 0 (.aload_n 0) 1 1 := ⟨by decide +kernel, rfl⟩
theorem dc_X12_asksBy_1 : Dc miX12_asksBy 1 (.iload_n 2) 1 2 := ⟨by decide +kernel, rfl⟩
theorem dc_X12_asksBy_2 : Dc miX12_asksBy 2 (.invokevirtual 444) 3 5 := ⟨by decide +kernel, rfl⟩
theorem dc_X12_asksBy_5 : Dc miX12_asksBy 5 (.invokestatic 139) 3 8 := ⟨by decide +kernel, rfl⟩
theorem dc_X12_asksBy_8 : Dc miX12_asksBy 8 (.istore 4) 2 10 := ⟨by decide +kernel, rfl⟩
theorem dc_X12_asksBy_10 : Dc miX12_asksBy 10 (.iconst 0) 1 11 := ⟨by decide +kernel, rfl⟩
theorem dc_X12_asksBy_11 : Dc miX12_asksBy 11 (.istore 5) 2 13 := ⟨by decide +kernel, rfl⟩
theorem dc_X12_asksBy_13 : Dc miX12_asksBy 13 (.iconst 0) 1 14 := ⟨by decide +kernel, rfl⟩
theorem dc_X12_asksBy_14 : Dc miX12_asksBy 14 (.istore 6) 2 16 := ⟨by decide +kernel, rfl⟩
theorem dc_X12_asksBy_16 : Dc miX12_asksBy 16 (.iload 6) 2 18 := ⟨by decide +kernel, rfl⟩
theorem dc_X12_asksBy_18 : Dc miX12_asksBy 18 (.aload_n 0) 1 19 := ⟨by decide +kernel, rfl⟩
theorem dc_X12_asksBy_19 : Dc miX12_asksBy 19 (.invokevirtual 77) 3 22 := ⟨by decide +kernel, rfl⟩
theorem dc_X12_asksBy_22 : Dc miX12_asksBy 22 (.if_icmp .ge 92) 3 25 := ⟨by decide +kernel, rfl⟩
theorem dc_X12_asksBy_25 : Dc miX12_asksBy 25 (.aload_n 0) 1 26 := ⟨by decide +kernel, rfl⟩
theorem dc_X12_asksBy_26 : Dc miX12_asksBy 26 (.iload_n 3) 1 27 := ⟨by decide +kernel, rfl⟩
theorem dc_X12_asksBy_27 : Dc miX12_asksBy 27 (.aload_n 0) 1 28 := ⟨by decide +kernel, rfl⟩
theorem dc_X12_asksBy_28 : Dc miX12_asksBy 28 (.getfield 13) 3 31 := ⟨by decide +kernel, rfl⟩
theorem dc_X12_asksBy_31 : Dc miX12_asksBy 31 (.bipush 9) 2 33 := ⟨by decide +kernel, rfl⟩
theorem dc_X12_asksBy_33 : Dc miX12_asksBy 33 (.iaload) 1 34 := ⟨by decide +kernel, rfl⟩
theorem dc_X12_asksBy_34 : Dc miX12_asksBy 34 (.iload 4) 2 36 := ⟨by decide +kernel, rfl⟩
theorem dc_X12_asksBy_36 : Dc miX12_asksBy 36 (.invokevirtual 310) 3 39 := ⟨by decide +kernel, rfl⟩
theorem dc_X12_asksBy_39 : Dc miX12_asksBy 39 (.aload_n 0) 1 40 := ⟨by decide +kernel, rfl⟩
theorem dc_X12_asksBy_40 : Dc miX12_asksBy 40 (.iload_n 1) 1 41 := ⟨by decide +kernel, rfl⟩
theorem dc_X12_asksBy_41 : Dc miX12_asksBy 41 (.iload 6) 2 43 := ⟨by decide +kernel, rfl⟩
theorem dc_X12_asksBy_43 : Dc miX12_asksBy 43 (.invokevirtual 355) 3 46 := ⟨by decide +kernel, rfl⟩
theorem dc_X12_asksBy_46 : Dc miX12_asksBy 46 (.istore 7) 2 48 := ⟨by decide +kernel, rfl⟩
theorem dc_X12_asksBy_48 : Dc miX12_asksBy 48 (.aload_n 0) 1 49 := ⟨by decide +kernel, rfl⟩
theorem dc_X12_asksBy_49 : Dc miX12_asksBy 49 (.iload 6) 2 51 := ⟨by decide +kernel, rfl⟩
theorem dc_X12_asksBy_51 : Dc miX12_asksBy 51 (.iconst 1) 1 52 := ⟨by decide +kernel, rfl⟩
theorem dc_X12_asksBy_52 : Dc miX12_asksBy 52 (.invokevirtual 314) 3 55 := ⟨by decide +kernel, rfl⟩
theorem dc_X12_asksBy_55 : Dc miX12_asksBy 55 (.istore 8) 2 57 := ⟨by decide +kernel, rfl⟩
theorem dc_X12_asksBy_57 : Dc miX12_asksBy 57 (.iload 5) 2 59 := ⟨by decide +kernel, rfl⟩
theorem dc_X12_asksBy_59 : Dc miX12_asksBy 59 (.ifCond .ne 15) 3 62 := ⟨by decide +kernel, rfl⟩
theorem dc_X12_asksBy_62 : Dc miX12_asksBy 62 (.iload 7) 2 64 := ⟨by decide +kernel, rfl⟩
theorem dc_X12_asksBy_64 : Dc miX12_asksBy 64 (.aload_n 0) 1 65 := ⟨by decide +kernel, rfl⟩
theorem dc_X12_asksBy_65 : Dc miX12_asksBy 65 (.getfield 13) 3 68 := ⟨by decide +kernel, rfl⟩
theorem dc_X12_asksBy_68 : Dc miX12_asksBy 68 (.bipush 8) 2 70 := ⟨by decide +kernel, rfl⟩
theorem dc_X12_asksBy_70 : Dc miX12_asksBy 70 (.iaload) 1 71 := ⟨by decide +kernel, rfl⟩
theorem dc_X12_asksBy_71 : Dc miX12_asksBy 71 (.if_icmp .lt 7) 3 74 := ⟨by decide +kernel, rfl⟩
theorem dc_X12_asksBy_74 : Dc miX12_asksBy 74 (.iconst 1) 1 75 := ⟨by decide +kernel, rfl⟩
theorem dc_X12_asksBy_75 : Dc miX12_asksBy 75 (.goto 4) 3 78 := ⟨by decide +kernel, rfl⟩
theorem dc_X12_asksBy_78 : Dc miX12_asksBy 78 (.iconst 0) 1 79 := ⟨by decide +kernel, rfl⟩
theorem dc_X12_asksBy_79 : Dc miX12_asksBy 79 (.istore 5) 2 81 := ⟨by decide +kernel, rfl⟩
theorem dc_X12_asksBy_81 : Dc miX12_asksBy 81 (.aload_n 0) 1 82 := ⟨by decide +kernel, rfl⟩
theorem dc_X12_asksBy_82 : Dc miX12_asksBy 82 (.getfield 49) 3 85 := ⟨by decide +kernel, rfl⟩
theorem dc_X12_asksBy_85 : Dc miX12_asksBy 85 (.bipush 100) 2 87 := ⟨by decide +kernel, rfl⟩
theorem dc_X12_asksBy_87 : Dc miX12_asksBy 87 (.iload 8) 2 89 := ⟨by decide +kernel, rfl⟩
theorem dc_X12_asksBy_89 : Dc miX12_asksBy 89 (.ifCond .ge 7) 3 92 := ⟨by decide +kernel, rfl⟩
theorem dc_X12_asksBy_92 : Dc miX12_asksBy 92 (.iload_n 2) 1 93 := ⟨by decide +kernel, rfl⟩
theorem dc_X12_asksBy_93 : Dc miX12_asksBy 93 (.goto 9) 3 96 := ⟨by decide +kernel, rfl⟩
theorem dc_X12_asksBy_96 : Dc miX12_asksBy 96 (.iload_n 2) 1 97 := ⟨by decide +kernel, rfl⟩
theorem dc_X12_asksBy_97 : Dc miX12_asksBy 97 (.iconst 1) 1 98 := ⟨by decide +kernel, rfl⟩
theorem dc_X12_asksBy_98 : Dc miX12_asksBy 98 (.iload 8) 2 100 := ⟨by decide +kernel, rfl⟩
theorem dc_X12_asksBy_100 : Dc miX12_asksBy 100 (.ishl) 1 101 := ⟨by decide +kernel, rfl⟩
theorem dc_X12_asksBy_101 : Dc miX12_asksBy 101 (.ior) 1 102 := ⟨by decide +kernel, rfl⟩
theorem dc_X12_asksBy_102 : Dc miX12_asksBy 102 (.imul) 1 103 := ⟨by decide +kernel, rfl⟩
theorem dc_X12_asksBy_103 : Dc miX12_asksBy 103 (.iload 7) 2 105 := ⟨by decide +kernel, rfl⟩
theorem dc_X12_asksBy_105 : Dc miX12_asksBy 105 (.iadd) 1 106 := ⟨by decide +kernel, rfl⟩
theorem dc_X12_asksBy_106 : Dc miX12_asksBy 106 (.iconst 1) 1 107 := ⟨by decide +kernel, rfl⟩
theorem dc_X12_asksBy_107 : Dc miX12_asksBy 107 (.bastore) 1 108 := ⟨by decide +kernel, rfl⟩
theorem dc_X12_asksBy_108 : Dc miX12_asksBy 108 (.iinc 6 1) 3 111 := ⟨by decide +kernel, rfl⟩
theorem dc_X12_asksBy_111 : Dc miX12_asksBy 111 (.goto (-95)) 3 114 := ⟨by decide +kernel, rfl⟩
theorem dc_X12_asksBy_114 : Dc miX12_asksBy 114 (.iload 5) 2 116 := ⟨by decide +kernel, rfl⟩
theorem dc_X12_asksBy_116 : Dc miX12_asksBy 116 (.ireturn) 1 117 := ⟨by decide +kernel, rfl⟩
def fX12_asksBy_b102 (N : Nat) (G : pG) (k16 : Int32 × Int32 × pS → Option (Int32 × pS)) (a0 : Nat) (a1 : Int32) (a2 : Int32) (a3 : Int32) (x4 : Int32) (x5 : Int32) (x6 : Int32) (x7 : Int32) (y0 : Nat) (y1 : Int32) (y2 : Int32) (σ : pS) : Option (Int32 × pS) := ck (inB ((y1 * y2) + x7) (pN G y0)) (k16 (x5, x6 + (1 : Int32), sA σ y0 ((y1 * y2) + x7) (vp_nar .boolean (1 : Int32))))
set_option maxRecDepth 100000 in
set_option maxHeartbeats 4000000 in
theorem tX12_asksBy_b102 {N : Nat} {G : pG} {SK : Nat → Nat} {k16 : Int32 × Int32 × pS → Option (Int32 × pS)} {a0 : Nat} {a1 : Int32} {a2 : Int32} {a3 : Int32} {x4 : Int32} {x5 : Int32} {x6 : Int32} {x7 : Int32} {y0 : Nat} {y1 : Int32} {y2 : Int32} {σ : pS} {r : Int32 × pS} (hW : WT G) (i0 : Is G a0 11) (w0 : Is G y0 15) (hk16 : ∀ b : Int32 × Int32 × pS, k16 b = some r → Ev miX12_asksBy (6, 0, 0) G (Zp G (some (.int r.1)) r.2) SK (0, 0) 16 [some (.ref a0), some (.int a1), some (.int a2), some (.int a3), some (.int x4), some (.int b.1), some (.int b.2.1), none, none] [] b.2.2) (h : fX12_asksBy_b102 N G k16 a0 a1 a2 a3 x4 x5 x6 x7 y0 y1 y2 σ = some r) : Ev miX12_asksBy (6, 0, 0) G (Zp G (some (.int r.1)) r.2) SK (0, 0) 102 [some (.ref a0), some (.int a1), some (.int a2), some (.int a3), some (.int x4), some (.int x5), some (.int x6), some (.int x7), none] [.int y2, .int y1, .ref y0] σ := by
  unfold fX12_asksBy_b102 at h
  refine ev_imul dc_X12_asksBy_102 ?_
  refine ev_iload dc_X12_asksBy_103 rfl ?_
  refine ev_iadd dc_X12_asksBy_105 ?_
  refine ev_iconst (v := 1) dc_X12_asksBy_106 (by decide) ?_
  refine ev_zast dc_X12_asksBy_107 w0 h (fun h => ?_)
  refine ev_iinc (v := 1) (lv' := [some (.ref a0), some (.int a1), some (.int a2), some (.int a3), some (.int x4), some (.int x5), some (.int (x6 + (1 : Int32))), some (.int x7), none]) dc_X12_asksBy_108 rfl (by decide) rfl (by decide) rfl ?_
  refine ev_goto (tgt := 16) dc_X12_asksBy_111 (by decide) ?_
  exact ev_sub (hk16 (x5, x6 + (1 : Int32), sA σ y0 ((y1 * y2) + x7) (vp_nar .boolean (1 : Int32))) h) (And.intro rfl (And.intro rfl (And.intro rfl (And.intro rfl (And.intro rfl (And.intro rfl (And.intro rfl trivial)))))))
def fX12_asksBy_b79 (N : Nat) (G : pG) (k16 : Int32 × Int32 × pS → Option (Int32 × pS)) (a0 : Nat) (a1 : Int32) (a2 : Int32) (a3 : Int32) (x4 : Int32) (x6 : Int32) (x7 : Int32) (x8 : Int32) (y0 : Int32) (σ : pS) : Option (Int32 × pS) := if 0 ≤ x8 then (fX12_asksBy_b102 N G k16 a0 a1 a2 a3 x4 y0 x6 x7 (pR G a0 27) (100 : Int32) (a2 ||| ((1 : Int32) <<< (x8 &&& 31))) σ) else (fX12_asksBy_b102 N G k16 a0 a1 a2 a3 x4 y0 x6 x7 (pR G a0 27) (100 : Int32) a2 σ)
set_option maxRecDepth 100000 in
set_option maxHeartbeats 4000000 in
theorem tX12_asksBy_b79 {N : Nat} {G : pG} {SK : Nat → Nat} {k16 : Int32 × Int32 × pS → Option (Int32 × pS)} {a0 : Nat} {a1 : Int32} {a2 : Int32} {a3 : Int32} {x4 : Int32} {x6 : Int32} {x7 : Int32} {x8 : Int32} {y0 : Int32} {σ : pS} {r : Int32 × pS} (hW : WT G) (i0 : Is G a0 11) (hk16 : ∀ b : Int32 × Int32 × pS, k16 b = some r → Ev miX12_asksBy (6, 0, 0) G (Zp G (some (.int r.1)) r.2) SK (0, 0) 16 [some (.ref a0), some (.int a1), some (.int a2), some (.int a3), some (.int x4), some (.int b.1), some (.int b.2.1), none, none] [] b.2.2) (h : fX12_asksBy_b79 N G k16 a0 a1 a2 a3 x4 x6 x7 x8 y0 σ = some r) : Ev miX12_asksBy (6, 0, 0) G (Zp G (some (.int r.1)) r.2) SK (0, 0) 79 [some (.ref a0), some (.int a1), some (.int a2), some (.int a3), some (.int x4), none, some (.int x6), some (.int x7), some (.int x8)] [.int y0] σ := by
  unfold fX12_asksBy_b79 at h
  refine ev_istore (lv' := [some (.ref a0), some (.int a1), some (.int a2), some (.int a3), some (.int x4), some (.int y0), some (.int x6), some (.int x7), some (.int x8)]) dc_X12_asksBy_79 rfl (by decide) rfl ?_
  refine ev_aload_n dc_X12_asksBy_81 rfl ?_
  refine ev_getR dc_X12_asksBy_82 fi_X12_49 rfl i0 ?_
  refine ev_bipush (v := 100) dc_X12_asksBy_85 (by decide) ?_
  refine ev_iload dc_X12_asksBy_87 rfl ?_
  refine ev_if_ge (tgt := 96) dc_X12_asksBy_89 (by decide) h (fun h => ?_) (fun h => ?_)
  · refine ev_iload_n dc_X12_asksBy_96 rfl ?_
    refine ev_iconst (v := 1) dc_X12_asksBy_97 (by decide) ?_
    refine ev_iload dc_X12_asksBy_98 rfl ?_
    refine ev_ishl dc_X12_asksBy_100 ?_
    refine ev_ior dc_X12_asksBy_101 ?_
    exact ev_sub (tX12_asksBy_b102 hW i0 (wt hW i0 27 rfl rfl) hk16 h) (And.intro rfl (And.intro rfl (And.intro rfl (And.intro rfl (And.intro rfl (And.intro rfl (And.intro rfl (And.intro rfl trivial))))))))
  · refine ev_iload_n dc_X12_asksBy_92 rfl ?_
    refine ev_goto (tgt := 102) dc_X12_asksBy_93 (by decide) ?_
    exact ev_sub (tX12_asksBy_b102 hW i0 (wt hW i0 27 rfl rfl) hk16 h) (And.intro rfl (And.intro rfl (And.intro rfl (And.intro rfl (And.intro rfl (And.intro rfl (And.intro rfl (And.intro rfl trivial))))))))
def fX12_asksBy_b74 (N : Nat) (G : pG) (k16 : Int32 × Int32 × pS → Option (Int32 × pS)) (a0 : Nat) (a1 : Int32) (a2 : Int32) (a3 : Int32) (x4 : Int32) (x6 : Int32) (x7 : Int32) (x8 : Int32) (σ : pS) : Option (Int32 × pS) := fX12_asksBy_b79 N G k16 a0 a1 a2 a3 x4 x6 x7 x8 (1 : Int32) σ
set_option maxRecDepth 100000 in
set_option maxHeartbeats 4000000 in
theorem tX12_asksBy_b74 {N : Nat} {G : pG} {SK : Nat → Nat} {k16 : Int32 × Int32 × pS → Option (Int32 × pS)} {a0 : Nat} {a1 : Int32} {a2 : Int32} {a3 : Int32} {x4 : Int32} {x6 : Int32} {x7 : Int32} {x8 : Int32} {σ : pS} {r : Int32 × pS} (hW : WT G) (i0 : Is G a0 11) (hk16 : ∀ b : Int32 × Int32 × pS, k16 b = some r → Ev miX12_asksBy (6, 0, 0) G (Zp G (some (.int r.1)) r.2) SK (0, 0) 16 [some (.ref a0), some (.int a1), some (.int a2), some (.int a3), some (.int x4), some (.int b.1), some (.int b.2.1), none, none] [] b.2.2) (h : fX12_asksBy_b74 N G k16 a0 a1 a2 a3 x4 x6 x7 x8 σ = some r) : Ev miX12_asksBy (6, 0, 0) G (Zp G (some (.int r.1)) r.2) SK (0, 0) 74 [some (.ref a0), some (.int a1), some (.int a2), some (.int a3), some (.int x4), none, some (.int x6), some (.int x7), some (.int x8)] [] σ := by
  unfold fX12_asksBy_b74 at h
  refine ev_iconst (v := 1) dc_X12_asksBy_74 (by decide) ?_
  refine ev_goto (tgt := 79) dc_X12_asksBy_75 (by decide) ?_
  exact ev_sub (tX12_asksBy_b79 hW i0 hk16 h) (And.intro rfl (And.intro rfl (And.intro rfl (And.intro rfl (And.intro rfl (And.intro rfl (And.intro rfl (And.intro rfl trivial))))))))
def fX12_asksBy_b16 (N : Nat) (G : pG) (a0 : Nat) (a1 : Int32) (a2 : Int32) (a3 : Int32) (x4 : Int32) : (Int32 × Int32 × pS) → Option (Int32 × pS) := lp (fun (k16 : Int32 × Int32 × pS → Option (Int32 × pS)) (b : Int32 × Int32 × pS) => (fX12_words N G a0 b.2.2).bind (fun q1 => if q1 ≤ b.2.1 then (ck (isZ b.1) (some (b.1, b.2.2))) else (ck (inB (9 : Int32) (pN G (pR G a0 1))) ((fX12_looks N G a0 a3 (gA b.2.2 (pR G a0 1) (9 : Int32)) x4 b.2.2).bind (fun q2 => (fX12_behindWord N G a0 a1 b.2.1 q2).bind (fun q3 => (fX12_ofWord N G a0 b.2.1 (1 : Int32) q3.2).bind (fun q4 => if b.1 = 0 then (ck (inB (8 : Int32) (pN G (pR G a0 1))) (if q3.1 < (gA q3.2 (pR G a0 1) (8 : Int32)) then (fX12_asksBy_b79 N G k16 a0 a1 a2 a3 x4 b.2.1 q3.1 q4 (0 : Int32) q3.2) else (fX12_asksBy_b74 N G k16 a0 a1 a2 a3 x4 b.2.1 q3.1 q4 q3.2))) else (fX12_asksBy_b74 N G k16 a0 a1 a2 a3 x4 b.2.1 q3.1 q4 q3.2)))))))) N
set_option maxRecDepth 100000 in
set_option maxHeartbeats 4000000 in
theorem tX12_asksBy_b16 {N : Nat} {G : pG} {SK : Nat → Nat} {a0 : Nat} {a1 : Int32} {a2 : Int32} {a3 : Int32} {x4 : Int32} {b : Int32 × Int32 × pS} {r : Int32 × pS} (hW : WT G) (i0 : Is G a0 11) (h : fX12_asksBy_b16 N G a0 a1 a2 a3 x4 b = some r) : Ev miX12_asksBy (6, 0, 0) G (Zp G (some (.int r.1)) r.2) SK (0, 0) 16 [some (.ref a0), some (.int a1), some (.int a2), some (.int a3), some (.int x4), some (.int b.1), some (.int b.2.1), none, none] [] b.2.2 := by
  unfold fX12_asksBy_b16 at h
  refine lp_ind (P := fun b r9 => r9 = r → Ev miX12_asksBy (6, 0, 0) G (Zp G (some (.int r.1)) r.2) SK (0, 0) 16 [some (.ref a0), some (.int a1), some (.int a2), some (.int a3), some (.int x4), some (.int b.1), some (.int b.2.1), none, none] [] b.2.2) (fun k16 b r9 ih h9 e9 => ?_) N b r h rfl
  clear h
  subst e9
  have h := h9
  clear h9
  have hk16 : ∀ b : Int32 × Int32 × pS, k16 b = some r9 → Ev miX12_asksBy (6, 0, 0) G (Zp G (some (.int r9.1)) r9.2) SK (0, 0) 16 [some (.ref a0), some (.int a1), some (.int a2), some (.int a3), some (.int x4), some (.int b.1), some (.int b.2.1), none, none] [] b.2.2 := fun b hb => ih b r9 hb rfl
  clear ih
  obtain ⟨x5, x6, σ⟩ := b
  dsimp only at h ⊢
  refine ev_iload dc_X12_asksBy_16 rfl ?_
  refine ev_aload_n dc_X12_asksBy_18 rfl ?_
  obtain ⟨q1, hq1, h⟩ := Option.bind_eq_some_iff.mp h
  refine ev_callV (av := []) (st := [.int x6]) (st1 := [.int q1, .int x6]) dc_X12_asksBy_19 (tX12_words hW i0 hq1) mw_1676 cy_X12_words i0 (by decide) rfl rfl rfl rfl (Nat.le_of_ble_eq_true rfl) (Nat.le_of_ble_eq_true rfl) ⟨Nat.le_refl _, Nat.le_refl _⟩ ?_
  refine ev_icmp_ge (tgt := 114) dc_X12_asksBy_22 (by decide) h (fun h => ?_) (fun h => ?_)
  · refine ev_iload dc_X12_asksBy_114 rfl ?_
    have h2 := (ck_s h).2
    cases h2
    exact ev_zret dc_X12_asksBy_116 rfl h rfl rfl
  · refine ev_aload_n dc_X12_asksBy_25 rfl ?_
    refine ev_iload_n dc_X12_asksBy_26 rfl ?_
    refine ev_aload_n dc_X12_asksBy_27 rfl ?_
    refine ev_getR dc_X12_asksBy_28 fi_X12_13 rfl i0 ?_
    refine ev_bipush (v := 9) dc_X12_asksBy_31 (by decide) ?_
    refine ev_iald dc_X12_asksBy_33 (wt hW i0 1 rfl rfl) h (fun h => ?_)
    refine ev_iload dc_X12_asksBy_34 rfl ?_
    obtain ⟨q2, hq2, h⟩ := Option.bind_eq_some_iff.mp h
    refine ev_callV (av := [.int a3, .int (gA σ (pR G a0 1) (9 : Int32)), .int x4]) (st := []) (st1 := []) dc_X12_asksBy_36 (tX12_looks hW i0 hq2) mw_1812 cy_X12_looks i0 (by decide) rfl rfl rfl rfl (Nat.le_of_ble_eq_true rfl) (Nat.le_of_ble_eq_true rfl) ⟨Nat.le_refl _, Nat.le_refl _⟩ ?_
    refine ev_aload_n dc_X12_asksBy_39 rfl ?_
    refine ev_iload_n dc_X12_asksBy_40 rfl ?_
    refine ev_iload dc_X12_asksBy_41 rfl ?_
    obtain ⟨q3, hq3, h⟩ := Option.bind_eq_some_iff.mp h
    refine ev_callV (av := [.int a1, .int x6]) (st := []) (st1 := [.int q3.1]) dc_X12_asksBy_43 (tX12_behindWord hW i0 hq3) mw_1857 cy_X12_behindWord i0 (by decide) rfl rfl rfl rfl (Nat.le_of_ble_eq_true rfl) (Nat.le_of_ble_eq_true rfl) ⟨Nat.le_refl _, Nat.le_refl _⟩ ?_
    refine ev_istore (lv' := [some (.ref a0), some (.int a1), some (.int a2), some (.int a3), some (.int x4), some (.int x5), some (.int x6), some (.int q3.1), none]) dc_X12_asksBy_46 rfl (by decide) rfl ?_
    refine ev_aload_n dc_X12_asksBy_48 rfl ?_
    refine ev_iload dc_X12_asksBy_49 rfl ?_
    refine ev_iconst (v := 1) dc_X12_asksBy_51 (by decide) ?_
    obtain ⟨q4, hq4, h⟩ := Option.bind_eq_some_iff.mp h
    refine ev_callV (av := [.int x6, .int (1 : Int32)]) (st := []) (st1 := [.int q4]) dc_X12_asksBy_52 (tX12_ofWord hW i0 hq4) mw_1820 cy_X12_ofWord i0 (by decide) rfl rfl rfl rfl (Nat.le_of_ble_eq_true rfl) (Nat.le_of_ble_eq_true rfl) ⟨Nat.le_refl _, Nat.le_refl _⟩ ?_
    refine ev_istore (lv' := [some (.ref a0), some (.int a1), some (.int a2), some (.int a3), some (.int x4), some (.int x5), some (.int x6), some (.int q3.1), some (.int q4)]) dc_X12_asksBy_55 rfl (by decide) rfl ?_
    refine ev_iload dc_X12_asksBy_57 rfl ?_
    refine ev_if_ne (tgt := 74) dc_X12_asksBy_59 (by decide) h (fun h => ?_) (fun h => ?_)
    · refine ev_iload dc_X12_asksBy_62 rfl ?_
      refine ev_aload_n dc_X12_asksBy_64 rfl ?_
      refine ev_getR dc_X12_asksBy_65 fi_X12_13 rfl i0 ?_
      refine ev_bipush (v := 8) dc_X12_asksBy_68 (by decide) ?_
      refine ev_iald dc_X12_asksBy_70 (wt hW i0 1 rfl rfl) h (fun h => ?_)
      refine ev_icmp_lt (tgt := 78) dc_X12_asksBy_71 (by decide) h (fun h => ?_) (fun h => ?_)
      · refine ev_iconst (v := 0) dc_X12_asksBy_78 (by decide) ?_
        exact ev_sub (tX12_asksBy_b79 hW i0 hk16 h) (And.intro rfl (And.intro rfl (And.intro rfl (And.intro rfl (And.intro rfl (And.intro rfl (And.intro rfl (And.intro rfl trivial))))))))
      · exact ev_sub (tX12_asksBy_b74 hW i0 hk16 h) (And.intro rfl (And.intro rfl (And.intro rfl (And.intro rfl (And.intro rfl (And.intro rfl (And.intro rfl (And.intro rfl trivial))))))))
    · exact ev_sub (tX12_asksBy_b74 hW i0 hk16 h) (And.intro rfl (And.intro rfl (And.intro rfl (And.intro rfl (And.intro rfl (And.intro rfl (And.intro rfl (And.intro rfl trivial))))))))
def fX12_asksBy (N : Nat) (G : pG) (a0 : Nat) (a1 : Int32) (a2 : Int32) (a3 : Int32) (σ : pS) : Option (Int32 × pS) := (fX12_possibleBy N G a0 a2 σ).bind (fun q5 => (fJ6_bitCount_0f7a4 N G q5 σ).bind (fun q6 => fX12_asksBy_b16 N G a0 a1 a2 a3 q6 ((0 : Int32), (0 : Int32), σ)))
set_option maxRecDepth 100000 in
set_option maxHeartbeats 4000000 in
theorem tX12_asksBy {N : Nat} {G : pG} {SK : Nat → Nat} {a0 : Nat} {a1 : Int32} {a2 : Int32} {a3 : Int32} {σ : pS} {r : Int32 × pS} (hW : WT G) (i0 : Is G a0 11) (h : fX12_asksBy N G a0 a1 a2 a3 σ = some r) : Dn miX12_asksBy yX12_asksBy 6 G SK [.ref a0, .int a1, .int a2, .int a3] σ (some (.int r.1)) r.2 := by
  unfold fX12_asksBy at h
  refine dn_of (lv := [some (.ref a0), some (.int a1), some (.int a2), some (.int a3), none, none, none, none, none]) (by decide) rfl rfl (Nat.le_of_ble_eq_true rfl) rfl ?_
  refine ev_aload_n dc_X12_asksBy_0 rfl ?_
  refine ev_iload_n dc_X12_asksBy_1 rfl ?_
  obtain ⟨q5, hq5, h⟩ := Option.bind_eq_some_iff.mp h
  refine ev_callV (av := [.int a2]) (st := []) (st1 := [.int q5]) dc_X12_asksBy_2 (tX12_possibleBy hW i0 hq5) mw_2070 cy_X12_possibleBy i0 (by decide) rfl rfl rfl rfl (Nat.le_of_ble_eq_true rfl) (Nat.le_of_ble_eq_true rfl) ⟨Nat.le_refl _, Nat.le_refl _⟩ ?_
  obtain ⟨q6, hq6, h⟩ := Option.bind_eq_some_iff.mp h
  refine ev_callS (av := [.int q5]) (st := []) (st1 := [.int q6]) dc_X12_asksBy_5 (tJ6_bitCount_0f7a4 hW hq6) mw_1685 cs_J6_bitCount_0f7a4 rfl rfl rfl (Nat.le_of_ble_eq_true rfl) (Nat.le_of_ble_eq_true rfl) ⟨Nat.le_refl _, Nat.le_refl _⟩ ?_
  refine ev_istore (lv' := [some (.ref a0), some (.int a1), some (.int a2), some (.int a3), some (.int q6), none, none, none, none]) dc_X12_asksBy_8 rfl (by decide) rfl ?_
  refine ev_iconst (v := 0) dc_X12_asksBy_10 (by decide) ?_
  refine ev_istore (lv' := [some (.ref a0), some (.int a1), some (.int a2), some (.int a3), some (.int q6), some (.int (0 : Int32)), none, none, none]) dc_X12_asksBy_11 rfl (by decide) rfl ?_
  refine ev_iconst (v := 0) dc_X12_asksBy_13 (by decide) ?_
  refine ev_istore (lv' := [some (.ref a0), some (.int a1), some (.int a2), some (.int a3), some (.int q6), some (.int (0 : Int32)), some (.int (0 : Int32)), none, none]) dc_X12_asksBy_14 rfl (by decide) rfl ?_
  exact ev_sub (tX12_asksBy_b16 (b := ((0 : Int32), (0 : Int32), σ)) hW i0 h) (And.intro rfl (And.intro rfl (And.intro rfl (And.intro rfl (And.intro rfl (And.intro rfl (And.intro rfl trivial)))))))
theorem dc_X12_back_0 : Dc miX12_back 0 (.aload_n 0) 1 1 := ⟨by decide +kernel, rfl⟩
theorem dc_X12_back_1 : Dc miX12_back 1 (.iconst 0) 1 2 := ⟨by decide +kernel, rfl⟩
theorem dc_X12_back_2 : Dc miX12_back 2 (.putfield 3) 3 5 := ⟨by decide +kernel, rfl⟩
theorem dc_X12_back_5 : Dc miX12_back 5 (.aload_n 0) 1 6 := ⟨by decide +kernel, rfl⟩
theorem dc_X12_back_6 : Dc miX12_back 6 (.getfield 55) 3 9 := ⟨by decide +kernel, rfl⟩
theorem dc_X12_back_9 : Dc miX12_back 9 (.ifCond .ne 5) 3 12 := ⟨by decide +kernel, rfl⟩
theorem dc_X12_back_12 : Dc miX12_back 12 (.iconst 0) 1 13 := ⟨by decide +kernel, rfl⟩
theorem dc_X12_back_13 : Dc miX12_back 13 (.ireturn) 1 14 := ⟨by decide +kernel, rfl⟩
theorem dc_X12_back_14 : Dc miX12_back 14 (.iconst 0) 1 15 := ⟨by decide +kernel, rfl⟩
theorem dc_X12_back_15 : Dc miX12_back 15 (.istore_n 1) 1 16 := ⟨by decide +kernel, rfl⟩
theorem dc_X12_back_16 : Dc miX12_back 16 (.iload_n 1) 1 17 := ⟨by decide +kernel, rfl⟩
theorem dc_X12_back_17 : Dc miX12_back 17 (.sipush 1232) 3 20 := ⟨by decide +kernel, rfl⟩
theorem dc_X12_back_20 : Dc miX12_back 20 (.if_icmp .ge 21) 3 23 := ⟨by decide +kernel, rfl⟩
theorem dc_X12_back_23 : Dc miX12_back 23 (.aload_n 0) 1 24 := ⟨by decide +kernel, rfl⟩
theorem dc_X12_back_24 : Dc miX12_back 24 (.getfield 13) 3 27 := ⟨by decide +kernel, rfl⟩
theorem dc_X12_back_27 : Dc miX12_back 27 (.iload_n 1) 1 28 := ⟨by decide +kernel, rfl⟩
theorem dc_X12_back_28 : Dc miX12_back 28 (.aload_n 0) 1 29 := ⟨by decide +kernel, rfl⟩
theorem dc_X12_back_29 : Dc miX12_back 29 (.getfield 17) 3 32 := ⟨by decide +kernel, rfl⟩
theorem dc_X12_back_32 : Dc miX12_back 32 (.iload_n 1) 1 33 := ⟨by decide +kernel, rfl⟩
theorem dc_X12_back_33 : Dc miX12_back 33 (.iaload) 1 34 := ⟨by decide +kernel, rfl⟩
theorem dc_X12_back_34 : Dc miX12_back 34 (.iastore) 1 35 := ⟨by decide +kernel, rfl⟩
theorem dc_X12_back_35 : Dc miX12_back 35 (.iinc 1 1) 3 38 := ⟨by decide +kernel, rfl⟩
theorem dc_X12_back_38 : Dc miX12_back 38 (.goto (-22)) 3 41 := ⟨by decide +kernel, rfl⟩
theorem dc_X12_back_41 : Dc miX12_back 41 (.aload_n 0) 1 42 := ⟨by decide +kernel, rfl⟩
theorem dc_X12_back_42 : Dc miX12_back 42 (.iconst 0) 1 43 := ⟨by decide +kernel, rfl⟩
theorem dc_X12_back_43 : Dc miX12_back 43 (.putfield 59) 3 46 := ⟨by decide +kernel, rfl⟩
theorem dc_X12_back_46 : Dc miX12_back 46 (.iconst 1) 1 47 := ⟨by decide +kernel, rfl⟩
theorem dc_X12_back_47 : Dc miX12_back 47 (.ireturn) 1 48 := ⟨by decide +kernel, rfl⟩
def fX12_back_b16 (N : Nat) (G : pG) (a0 : Nat) : (Int32 × pS) → Option (Int32 × pS) := lp (fun (k16 : Int32 × pS → Option (Int32 × pS)) (b : Int32 × pS) => if (1232 : Int32) ≤ b.1 then (some ((1 : Int32), putF b.2 a0 7 (0 : Int32))) else (ck (inB b.1 (pN G (pR G a0 2))) (ck (inB b.1 (pN G (pR G a0 1))) (k16 (b.1 + (1 : Int32), sA b.2 (pR G a0 1) b.1 (gA b.2 (pR G a0 2) b.1)))))) N
set_option maxRecDepth 100000 in
set_option maxHeartbeats 4000000 in
theorem tX12_back_b16 {N : Nat} {G : pG} {SK : Nat → Nat} {a0 : Nat} {b : Int32 × pS} {r : Int32 × pS} (hW : WT G) (i0 : Is G a0 11) (h : fX12_back_b16 N G a0 b = some r) : Ev miX12_back (1, 0, 0) G (Zp G (some (.int r.1)) r.2) SK (0, 0) 16 [some (.ref a0), some (.int b.1)] [] b.2 := by
  unfold fX12_back_b16 at h
  refine lp_ind (P := fun b r9 => r9 = r → Ev miX12_back (1, 0, 0) G (Zp G (some (.int r.1)) r.2) SK (0, 0) 16 [some (.ref a0), some (.int b.1)] [] b.2) (fun k16 b r9 ih h9 e9 => ?_) N b r h rfl
  clear h
  subst e9
  have h := h9
  clear h9
  have hk16 : ∀ b : Int32 × pS, k16 b = some r9 → Ev miX12_back (1, 0, 0) G (Zp G (some (.int r9.1)) r9.2) SK (0, 0) 16 [some (.ref a0), some (.int b.1)] [] b.2 := fun b hb => ih b r9 hb rfl
  clear ih
  obtain ⟨x1, σ⟩ := b
  dsimp only at h ⊢
  refine ev_iload_n dc_X12_back_16 rfl ?_
  refine ev_sipush (v := 1232) dc_X12_back_17 (by decide) ?_
  refine ev_icmp_ge (tgt := 41) dc_X12_back_20 (by decide) h (fun h => ?_) (fun h => ?_)
  · refine ev_aload_n dc_X12_back_41 rfl ?_
    refine ev_iconst (v := 0) dc_X12_back_42 (by decide) ?_
    refine ev_putI dc_X12_back_43 fi_X12_59 rfl i0 ?_
    refine ev_iconst (v := 1) dc_X12_back_46 (by decide) ?_
    cases h
    exact ev_zretc dc_X12_back_47 rfl rfl rfl rfl
  · refine ev_aload_n dc_X12_back_23 rfl ?_
    refine ev_getR dc_X12_back_24 fi_X12_13 rfl i0 ?_
    refine ev_iload_n dc_X12_back_27 rfl ?_
    refine ev_aload_n dc_X12_back_28 rfl ?_
    refine ev_getR dc_X12_back_29 fi_X12_17 rfl i0 ?_
    refine ev_iload_n dc_X12_back_32 rfl ?_
    refine ev_iald dc_X12_back_33 (wt hW i0 2 rfl rfl) h (fun h => ?_)
    refine ev_iast dc_X12_back_34 (wt hW i0 1 rfl rfl) h (fun h => ?_)
    refine ev_iinc (v := 1) (lv' := [some (.ref a0), some (.int (x1 + (1 : Int32)))]) dc_X12_back_35 rfl (by decide) rfl (by decide) rfl ?_
    refine ev_goto (tgt := 16) dc_X12_back_38 (by decide) ?_
    exact ev_sub (hk16 (x1 + (1 : Int32), sA σ (pR G a0 1) x1 (gA σ (pR G a0 2) x1)) h) (And.intro rfl (And.intro rfl trivial))
def fX12_back (N : Nat) (G : pG) (a0 : Nat) (σ : pS) : Option (Int32 × pS) := if ((putF σ a0 0 (0 : Int32)).1 a0 6) = 0 then (some ((0 : Int32), putF σ a0 0 (0 : Int32))) else (fX12_back_b16 N G a0 ((0 : Int32), putF σ a0 0 (0 : Int32)))
set_option maxRecDepth 100000 in
set_option maxHeartbeats 4000000 in
theorem tX12_back {N : Nat} {G : pG} {SK : Nat → Nat} {a0 : Nat} {σ : pS} {r : Int32 × pS} (hW : WT G) (i0 : Is G a0 11) (h : fX12_back N G a0 σ = some r) : Dn miX12_back yX12_back 1 G SK [.ref a0] σ (some (.int r.1)) r.2 := by
  unfold fX12_back at h
  refine dn_of (lv := [some (.ref a0), none]) (by decide) rfl rfl (Nat.le_of_ble_eq_true rfl) rfl ?_
  refine ev_aload_n dc_X12_back_0 rfl ?_
  refine ev_iconst (v := 0) dc_X12_back_1 (by decide) ?_
  refine ev_putI dc_X12_back_2 fi_X12_3 rfl i0 ?_
  refine ev_aload_n dc_X12_back_5 rfl ?_
  refine ev_getI dc_X12_back_6 fi_X12_55 rfl i0 ?_
  refine ev_if_ne (tgt := 14) dc_X12_back_9 (by decide) h (fun h => ?_) (fun h => ?_)
  · refine ev_iconst (v := 0) dc_X12_back_12 (by decide) ?_
    cases h
    exact ev_zretc dc_X12_back_13 rfl rfl rfl rfl
  · refine ev_iconst (v := 0) dc_X12_back_14 (by decide) ?_
    refine ev_istore_n (lv' := [some (.ref a0), some (.int (0 : Int32))]) dc_X12_back_15 rfl (by decide) rfl ?_
    exact ev_sub (tX12_back_b16 (b := ((0 : Int32), putF σ a0 0 (0 : Int32))) hW i0 h) (And.intro rfl (And.intro rfl trivial))
theorem dc_X12_ofLog_0 : Dc miX12_ofLog 0 (.aload_n 0) 1 1 := ⟨by decide +kernel, rfl⟩
theorem dc_X12_ofLog_1 : Dc miX12_ofLog 1 (.getfield 13) 3 4 := ⟨by decide +kernel, rfl⟩
theorem dc_X12_ofLog_4 : Dc miX12_ofLog 4 (.bipush 83) 2 6 := ⟨by decide +kernel, rfl⟩
theorem dc_X12_ofLog_6 : Dc miX12_ofLog 6 (.iconst 5) 1 7 := ⟨by decide +kernel, rfl⟩
theorem dc_X12_ofLog_7 : Dc miX12_ofLog 7 (.iload_n 1) 1 8 := ⟨by decide +kernel, rfl⟩
theorem dc_X12_ofLog_8 : Dc miX12_ofLog 8 (.imul) 1 9 := ⟨by decide +kernel, rfl⟩
theorem dc_X12_ofLog_9 : Dc miX12_ofLog 9 (.iadd) 1 10 := ⟨by decide +kernel, rfl⟩
theorem dc_X12_ofLog_10 : Dc miX12_ofLog 10 (.iload_n 2) 1 11 := ⟨by decide +kernel, rfl⟩
theorem dc_X12_ofLog_11 : Dc miX12_ofLog 11 (.iadd) 1 12 := ⟨by decide +kernel, rfl⟩
theorem dc_X12_ofLog_12 : Dc miX12_ofLog 12 (.iaload) 1 13 := ⟨by decide +kernel, rfl⟩
theorem dc_X12_ofLog_13 : Dc miX12_ofLog 13 (.ireturn) 1 14 := ⟨by decide +kernel, rfl⟩
def fX12_ofLog (N : Nat) (G : pG) (a0 : Nat) (a1 : Int32) (a2 : Int32) (σ : pS) : Option (Int32) := ck (inB (((83 : Int32) + ((5 : Int32) * a1)) + a2) (pN G (pR G a0 1))) (some (gA σ (pR G a0 1) (((83 : Int32) + ((5 : Int32) * a1)) + a2)))
set_option maxRecDepth 100000 in
set_option maxHeartbeats 4000000 in
theorem tX12_ofLog {N : Nat} {G : pG} {SK : Nat → Nat} {a0 : Nat} {a1 : Int32} {a2 : Int32} {σ : pS} {r : Int32} (hW : WT G) (i0 : Is G a0 11) (h : fX12_ofLog N G a0 a1 a2 σ = some r) : Dn miX12_ofLog yX12_ofLog 1 G SK [.ref a0, .int a1, .int a2] σ (some (.int r)) σ := by
  unfold fX12_ofLog at h
  refine dn_of (lv := [some (.ref a0), some (.int a1), some (.int a2)]) (by decide) rfl rfl (Nat.le_of_ble_eq_true rfl) rfl ?_
  refine ev_aload_n dc_X12_ofLog_0 rfl ?_
  refine ev_getR dc_X12_ofLog_1 fi_X12_13 rfl i0 ?_
  refine ev_bipush (v := 83) dc_X12_ofLog_4 (by decide) ?_
  refine ev_iconst (v := 5) dc_X12_ofLog_6 (by decide) ?_
  refine ev_iload_n dc_X12_ofLog_7 rfl ?_
  refine ev_imul dc_X12_ofLog_8 ?_
  refine ev_iadd dc_X12_ofLog_9 ?_
  refine ev_iload_n dc_X12_ofLog_10 rfl ?_
  refine ev_iadd dc_X12_ofLog_11 ?_
  refine ev_iald dc_X12_ofLog_12 (wt hW i0 1 rfl rfl) h (fun h => ?_)
  cases h
  exact ev_iret dc_X12_ofLog_13 rfl rfl rfl
theorem dc_X12_began_0 : Dc miX12_began 0 (.aload_n 0) 1 1 := ⟨by decide +kernel, rfl⟩
theorem dc_X12_began_1 : Dc miX12_began 1 (.iconst 0) 1 2 := ⟨by decide +kernel, rfl⟩
theorem dc_X12_began_2 : Dc miX12_began 2 (.putfield 3) 3 5 := ⟨by decide +kernel, rfl⟩
theorem dc_X12_began_5 : Dc miX12_began 5 (.iconst 0) 1 6 := ⟨by decide +kernel, rfl⟩
theorem dc_X12_began_6 : Dc miX12_began 6 (.istore_n 1) 1 7 := ⟨by decide +kernel, rfl⟩
theorem dc_X12_began_7 : Dc miX12_began 7 (.iload_n 1) 1 8 := ⟨by decide +kernel, rfl⟩
theorem dc_X12_began_8 : Dc miX12_began 8 (.aload_n 0) 1 9 := ⟨by decide +kernel, rfl⟩
theorem dc_X12_began_9 : Dc miX12_began 9 (.getfield 13) 3 12 := ⟨by decide +kernel, rfl⟩
theorem dc_X12_began_12 : Dc miX12_began 12 (.bipush 15) 2 14 := ⟨by decide +kernel, rfl⟩
theorem dc_X12_began_14 : Dc miX12_began 14 (.iaload) 1 15 := ⟨by decide +kernel, rfl⟩
theorem dc_X12_began_15 : Dc miX12_began 15 (.if_icmp .ge 27) 3 18 := ⟨by decide +kernel, rfl⟩
theorem dc_X12_began_18 : Dc miX12_began 18 (.aload_n 0) 1 19 := ⟨by decide +kernel, rfl⟩
theorem dc_X12_began_19 : Dc miX12_began 19 (.iload_n 1) 1 20 := ⟨by decide +kernel, rfl⟩
theorem dc_X12_began_20 : Dc miX12_began 20 (.iconst 3) 1 21 := ⟨by decide +kernel, rfl⟩
theorem dc_X12_began_21 : Dc miX12_began 21 (.invokevirtual 468) 3 24 := ⟨by decide +kernel, rfl⟩
theorem dc_X12_began_24 : Dc miX12_began 24 (.aload_n 0) 1 25 := ⟨by decide +kernel, rfl⟩
theorem dc_X12_began_25 : Dc miX12_began 25 (.getfield 13) 3 28 := ⟨by decide +kernel, rfl⟩
theorem dc_X12_began_28 : Dc miX12_began 28 (.bipush 8) 2 30 := ⟨by decide +kernel, rfl⟩
theorem dc_X12_began_30 : Dc miX12_began 30 (.iaload) 1 31 := ⟨by decide +kernel, rfl⟩
theorem dc_X12_began_31 : Dc miX12_began 31 (.iconst 2) 1 32 := ⟨by decide +kernel, rfl⟩
theorem dc_X12_began_32 : Dc miX12_began 32 (.idiv) 1 33 := ⟨by decide +kernel, rfl⟩
theorem dc_X12_began_33 : Dc miX12_began 33 (.if_icmp .le 9) 3 36 := ⟨by decide +kernel, rfl⟩
theorem dc_X12_began_36 : Dc miX12_began 36 (.iinc 1 1) 3 39 := ⟨by decide +kernel, rfl⟩
theorem dc_X12_began_39 : Dc miX12_began 39 (.goto (-32)) 3 42 := ⟨by decide +kernel, rfl⟩
theorem dc_X12_began_42 : Dc miX12_began 42 (.iload_n 1) 1 43 := ⟨by decide +kernel, rfl⟩
theorem dc_X12_began_43 : Dc miX12_began 43 (.iconst 1) 1 44 := ⟨by decide +kernel, rfl⟩
theorem dc_X12_began_44 : Dc miX12_began 44 (.isub) 1 45 := ⟨by decide +kernel, rfl⟩
theorem dc_X12_began_45 : Dc miX12_began 45 (.ireturn) 1 46 := ⟨by decide +kernel, rfl⟩
def fX12_began_b7 (N : Nat) (G : pG) (a0 : Nat) : (Int32 × pS) → Option (Int32 × pS) := lp (fun (k7 : Int32 × pS → Option (Int32 × pS)) (b : Int32 × pS) => ck (inB (15 : Int32) (pN G (pR G a0 1))) (if (gA b.2 (pR G a0 1) (15 : Int32)) ≤ b.1 then (some (b.1 - (1 : Int32), b.2)) else ((fX12_ofLog N G a0 b.1 (3 : Int32) b.2).bind (fun q1 => ck (inB (8 : Int32) (pN G (pR G a0 1))) (if q1 ≤ ((gA b.2 (pR G a0 1) (8 : Int32)) / (2 : Int32)) then (some (b.1 - (1 : Int32), b.2)) else (k7 (b.1 + (1 : Int32), b.2))))))) N
set_option maxRecDepth 100000 in
set_option maxHeartbeats 4000000 in
theorem tX12_began_b7 {N : Nat} {G : pG} {SK : Nat → Nat} {a0 : Nat} {b : Int32 × pS} {r : Int32 × pS} (hW : WT G) (i0 : Is G a0 11) (h : fX12_began_b7 N G a0 b = some r) : Ev miX12_began (2, 0, 0) G (Zp G (some (.int r.1)) r.2) SK (0, 0) 7 [some (.ref a0), some (.int b.1)] [] b.2 := by
  unfold fX12_began_b7 at h
  refine lp_ind (P := fun b r9 => r9 = r → Ev miX12_began (2, 0, 0) G (Zp G (some (.int r.1)) r.2) SK (0, 0) 7 [some (.ref a0), some (.int b.1)] [] b.2) (fun k7 b r9 ih h9 e9 => ?_) N b r h rfl
  clear h
  subst e9
  have h := h9
  clear h9
  have hk7 : ∀ b : Int32 × pS, k7 b = some r9 → Ev miX12_began (2, 0, 0) G (Zp G (some (.int r9.1)) r9.2) SK (0, 0) 7 [some (.ref a0), some (.int b.1)] [] b.2 := fun b hb => ih b r9 hb rfl
  clear ih
  obtain ⟨x1, σ⟩ := b
  dsimp only at h ⊢
  refine ev_iload_n dc_X12_began_7 rfl ?_
  refine ev_aload_n dc_X12_began_8 rfl ?_
  refine ev_getR dc_X12_began_9 fi_X12_13 rfl i0 ?_
  refine ev_bipush (v := 15) dc_X12_began_12 (by decide) ?_
  refine ev_iald dc_X12_began_14 (wt hW i0 1 rfl rfl) h (fun h => ?_)
  refine ev_icmp_ge (tgt := 42) dc_X12_began_15 (by decide) h (fun h => ?_) (fun h => ?_)
  · refine ev_iload_n dc_X12_began_42 rfl ?_
    refine ev_iconst (v := 1) dc_X12_began_43 (by decide) ?_
    refine ev_isub dc_X12_began_44 ?_
    cases h
    exact ev_iret dc_X12_began_45 rfl rfl rfl
  · refine ev_aload_n dc_X12_began_18 rfl ?_
    refine ev_iload_n dc_X12_began_19 rfl ?_
    refine ev_iconst (v := 3) dc_X12_began_20 (by decide) ?_
    obtain ⟨q1, hq1, h⟩ := Option.bind_eq_some_iff.mp h
    refine ev_callV (av := [.int x1, .int (3 : Int32)]) (st := []) (st1 := [.int q1]) dc_X12_began_21 (tX12_ofLog hW i0 hq1) mw_2162 cy_X12_ofLog i0 (by decide) rfl rfl rfl rfl (Nat.le_of_ble_eq_true rfl) (Nat.le_of_ble_eq_true rfl) ⟨Nat.le_refl _, Nat.le_refl _⟩ ?_
    refine ev_aload_n dc_X12_began_24 rfl ?_
    refine ev_getR dc_X12_began_25 fi_X12_13 rfl i0 ?_
    refine ev_bipush (v := 8) dc_X12_began_28 (by decide) ?_
    refine ev_iald dc_X12_began_30 (wt hW i0 1 rfl rfl) h (fun h => ?_)
    refine ev_iconst (v := 2) dc_X12_began_31 (by decide) ?_
    refine ev_idiv dc_X12_began_32 (by decide) ?_
    refine ev_icmp_le (tgt := 42) dc_X12_began_33 (by decide) h (fun h => ?_) (fun h => ?_)
    · refine ev_iload_n dc_X12_began_42 rfl ?_
      refine ev_iconst (v := 1) dc_X12_began_43 (by decide) ?_
      refine ev_isub dc_X12_began_44 ?_
      cases h
      exact ev_iret dc_X12_began_45 rfl rfl rfl
    · refine ev_iinc (v := 1) (lv' := [some (.ref a0), some (.int (x1 + (1 : Int32)))]) dc_X12_began_36 rfl (by decide) rfl (by decide) rfl ?_
      refine ev_goto (tgt := 7) dc_X12_began_39 (by decide) ?_
      exact ev_sub (hk7 (x1 + (1 : Int32), σ) h) (And.intro rfl (And.intro rfl trivial))
def fX12_began (N : Nat) (G : pG) (a0 : Nat) (σ : pS) : Option (Int32 × pS) := fX12_began_b7 N G a0 ((0 : Int32), putF σ a0 0 (0 : Int32))
set_option maxRecDepth 100000 in
set_option maxHeartbeats 4000000 in
theorem tX12_began {N : Nat} {G : pG} {SK : Nat → Nat} {a0 : Nat} {σ : pS} {r : Int32 × pS} (hW : WT G) (i0 : Is G a0 11) (h : fX12_began N G a0 σ = some r) : Dn miX12_began yX12_began 2 G SK [.ref a0] σ (some (.int r.1)) r.2 := by
  unfold fX12_began at h
  refine dn_of (lv := [some (.ref a0), none]) (by decide) rfl rfl (Nat.le_of_ble_eq_true rfl) rfl ?_
  refine ev_aload_n dc_X12_began_0 rfl ?_
  refine ev_iconst (v := 0) dc_X12_began_1 (by decide) ?_
  refine ev_putI dc_X12_began_2 fi_X12_3 rfl i0 ?_
  refine ev_iconst (v := 0) dc_X12_began_5 (by decide) ?_
  refine ev_istore_n (lv' := [some (.ref a0), some (.int (0 : Int32))]) dc_X12_began_6 rfl (by decide) rfl ?_
  exact ev_sub (tX12_began_b7 (b := ((0 : Int32), putF σ a0 0 (0 : Int32))) hW i0 h) (And.intro rfl (And.intro rfl trivial))
theorem dc_X12_tillOf_0 : Dc miX12_tillOf 0 (.aload_n 0) 1 1 := ⟨by decide +kernel, rfl⟩
theorem dc_X12_tillOf_1 : Dc miX12_tillOf 1 (.getfield 42) 3 4 := ⟨by decide +kernel, rfl⟩
theorem dc_X12_tillOf_4 : Dc miX12_tillOf 4 (.bipush 100) 2 6 := ⟨by decide +kernel, rfl⟩
theorem dc_X12_tillOf_6 : Dc miX12_tillOf 6 (.iload_n 1) 1 7 := ⟨by decide +kernel, rfl⟩
theorem dc_X12_tillOf_7 : Dc miX12_tillOf 7 (.imul) 1 8 := ⟨by decide +kernel, rfl⟩
theorem dc_X12_tillOf_8 : Dc miX12_tillOf 8 (.iload_n 2) 1 9 := ⟨by decide +kernel, rfl⟩
theorem dc_X12_tillOf_9 : Dc miX12_tillOf 9 (.iadd) 1 10 := ⟨by decide +kernel, rfl⟩
theorem dc_X12_tillOf_10 : Dc miX12_tillOf 10 (.iaload) 1 11 := ⟨by decide +kernel, rfl⟩
theorem dc_X12_tillOf_11 : Dc miX12_tillOf 11 (.ireturn) 1 12 := ⟨by decide +kernel, rfl⟩
def fX12_tillOf (N : Nat) (G : pG) (a0 : Nat) (a1 : Int32) (a2 : Int32) (σ : pS) : Option (Int32) := ck (inB (((100 : Int32) * a1) + a2) (pN G (pR G a0 25))) (some (gA σ (pR G a0 25) (((100 : Int32) * a1) + a2)))
set_option maxRecDepth 100000 in
set_option maxHeartbeats 4000000 in
theorem tX12_tillOf {N : Nat} {G : pG} {SK : Nat → Nat} {a0 : Nat} {a1 : Int32} {a2 : Int32} {σ : pS} {r : Int32} (hW : WT G) (i0 : Is G a0 11) (h : fX12_tillOf N G a0 a1 a2 σ = some r) : Dn miX12_tillOf yX12_tillOf 1 G SK [.ref a0, .int a1, .int a2] σ (some (.int r)) σ := by
  unfold fX12_tillOf at h
  refine dn_of (lv := [some (.ref a0), some (.int a1), some (.int a2)]) (by decide) rfl rfl (Nat.le_of_ble_eq_true rfl) rfl ?_
  refine ev_aload_n dc_X12_tillOf_0 rfl ?_
  refine ev_getR dc_X12_tillOf_1 fi_X12_42 rfl i0 ?_
  refine ev_bipush (v := 100) dc_X12_tillOf_4 (by decide) ?_
  refine ev_iload_n dc_X12_tillOf_6 rfl ?_
  refine ev_imul dc_X12_tillOf_7 ?_
  refine ev_iload_n dc_X12_tillOf_8 rfl ?_
  refine ev_iadd dc_X12_tillOf_9 ?_
  refine ev_iald dc_X12_tillOf_10 (wt hW i0 25 rfl rfl) h (fun h => ?_)
  cases h
  exact ev_iret dc_X12_tillOf_11 rfl rfl rfl
theorem dc_X12_behindDeeds_0 : Dc miX12_behindDeeds 0 (.aload_n 0) 1 1 := ⟨by decide +kernel, rfl⟩
theorem dc_X12_behindDeeds_1 : Dc miX12_behindDeeds 1 (.iload_n 1) 1 2 := ⟨by decide +kernel, rfl⟩
theorem dc_X12_behindDeeds_2 : Dc miX12_behindDeeds 2 (.iconst 1) 1 3 := ⟨by decide +kernel, rfl⟩
theorem dc_X12_behindDeeds_3 : Dc miX12_behindDeeds 3 (.iadd) 1 4 := ⟨by decide +kernel, rfl⟩
theorem dc_X12_behindDeeds_4 : Dc miX12_behindDeeds 4 (.iload_n 2) 1 5 := ⟨by decide +kernel, rfl⟩
theorem dc_X12_behindDeeds_5 : Dc miX12_behindDeeds 5 (.invokevirtual 415) 3 8 := ⟨by decide +kernel, rfl⟩
theorem dc_X12_behindDeeds_8 : Dc miX12_behindDeeds 8 (.istore_n 3) 1 9 := ⟨by decide +kernel, rfl⟩
theorem dc_X12_behindDeeds_9 : Dc miX12_behindDeeds 9 (.iconst 0) 1 10 := ⟨by decide +kernel, rfl⟩
theorem dc_X12_behindDeeds_10 : Dc miX12_behindDeeds 10 (.istore 4) 2 12 := ⟨by decide +kernel, rfl⟩
theorem dc_X12_behindDeeds_12 : Dc miX12_behindDeeds 12 (.iload 4) 2 14 := ⟨by decide +kernel, rfl⟩
theorem dc_X12_behindDeeds_14 : Dc miX12_behindDeeds 14 (.aload_n 0) 1 15 := ⟨by decide +kernel, rfl⟩
theorem dc_X12_behindDeeds_15 : Dc miX12_behindDeeds 15 (.invokevirtual 80) 3 18 := ⟨by decide +kernel, rfl⟩
theorem dc_X12_behindDeeds_18 : Dc miX12_behindDeeds 18 (.if_icmp .ge 45) 3 21 := ⟨by decide +kernel, rfl⟩
theorem dc_X12_behindDeeds_21 : Dc miX12_behindDeeds 21 (.aload_n 0) 1 22 := ⟨by decide +kernel, rfl⟩
theorem dc_X12_behindDeeds_22 : Dc miX12_behindDeeds 22 (.iload_n 2) 1 23 := ⟨by decide +kernel, rfl⟩
theorem dc_X12_behindDeeds_23 : Dc miX12_behindDeeds 23 (.aload_n 0) 1 24 := ⟨by decide +kernel, rfl⟩
theorem dc_X12_behindDeeds_24 : Dc miX12_behindDeeds 24 (.getfield 13) 3 27 := ⟨by decide +kernel, rfl⟩
theorem dc_X12_behindDeeds_27 : Dc miX12_behindDeeds 27 (.bipush 9) 2 29 := ⟨by decide +kernel, rfl⟩
theorem dc_X12_behindDeeds_29 : Dc miX12_behindDeeds 29 (.iaload) 1 30 := ⟨by decide +kernel, rfl⟩
theorem dc_X12_behindDeeds_30 : Dc miX12_behindDeeds 30 (.iload_n 1) 1 31 := ⟨by decide +kernel, rfl⟩
theorem dc_X12_behindDeeds_31 : Dc miX12_behindDeeds 31 (.iadd) 1 32 := ⟨by decide +kernel, rfl⟩
theorem dc_X12_behindDeeds_32 : Dc miX12_behindDeeds 32 (.aload_n 0) 1 33 := ⟨by decide +kernel, rfl⟩
theorem dc_X12_behindDeeds_33 : Dc miX12_behindDeeds 33 (.invokevirtual 307) 3 36 := ⟨by decide +kernel, rfl⟩
theorem dc_X12_behindDeeds_36 : Dc miX12_behindDeeds 36 (.invokevirtual 310) 3 39 := ⟨by decide +kernel, rfl⟩
theorem dc_X12_behindDeeds_39 : Dc miX12_behindDeeds 39 (.iload_n 3) 1 40 := ⟨by decide +kernel, rfl⟩
theorem dc_X12_behindDeeds_40 : Dc miX12_behindDeeds 40 (.aload_n 0) 1 41 := ⟨by decide +kernel, rfl⟩
theorem dc_X12_behindDeeds_41 : Dc miX12_behindDeeds 41 (.iload_n 1) 1 42 := ⟨by decide +kernel, rfl⟩
theorem dc_X12_behindDeeds_42 : Dc miX12_behindDeeds 42 (.iconst 1) 1 43 := ⟨by decide +kernel, rfl⟩
theorem dc_X12_behindDeeds_43 : Dc miX12_behindDeeds 43 (.iadd) 1 44 := ⟨by decide +kernel, rfl⟩
theorem dc_X12_behindDeeds_44 : Dc miX12_behindDeeds 44 (.aload_n 0) 1 45 := ⟨by decide +kernel, rfl⟩
theorem dc_X12_behindDeeds_45 : Dc miX12_behindDeeds 45 (.iload 4) 2 47 := ⟨by decide +kernel, rfl⟩
theorem dc_X12_behindDeeds_47 : Dc miX12_behindDeeds 47 (.invokevirtual 364) 3 50 := ⟨by decide +kernel, rfl⟩
theorem dc_X12_behindDeeds_50 : Dc miX12_behindDeeds 50 (.invokevirtual 415) 3 53 := ⟨by decide +kernel, rfl⟩
theorem dc_X12_behindDeeds_53 : Dc miX12_behindDeeds 53 (.invokestatic 323) 3 56 := ⟨by decide +kernel, rfl⟩
theorem dc_X12_behindDeeds_56 : Dc miX12_behindDeeds 56 (.istore_n 3) 1 57 := ⟨by decide +kernel, rfl⟩
theorem dc_X12_behindDeeds_57 : Dc miX12_behindDeeds 57 (.iinc 4 1) 3 60 := ⟨by decide +kernel, rfl⟩
theorem dc_X12_behindDeeds_60 : Dc miX12_behindDeeds 60 (.goto (-48)) 3 63 := ⟨by decide +kernel, rfl⟩
theorem dc_X12_behindDeeds_63 : Dc miX12_behindDeeds 63 (.ldc_w 418) 3 66 := ⟨by decide +kernel, rfl⟩
theorem dc_X12_behindDeeds_66 : Dc miX12_behindDeeds 66 (.iload_n 3) 1 67 := ⟨by decide +kernel, rfl⟩
theorem dc_X12_behindDeeds_67 : Dc miX12_behindDeeds 67 (.iconst 1) 1 68 := ⟨by decide +kernel, rfl⟩
theorem dc_X12_behindDeeds_68 : Dc miX12_behindDeeds 68 (.iadd) 1 69 := ⟨by decide +kernel, rfl⟩
theorem dc_X12_behindDeeds_69 : Dc miX12_behindDeeds 69 (.invokestatic 334) 3 72 := ⟨by decide +kernel, rfl⟩
theorem dc_X12_behindDeeds_72 : Dc miX12_behindDeeds 72 (.ireturn) 1 73 := ⟨by decide +kernel, rfl⟩
def fX12_behindDeeds_b12 (N : Nat) (G : pG) (a0 : Nat) (a1 : Int32) (a2 : Int32) : (Int32 × Int32 × pS) → Option (Int32 × pS) := lp (fun (k12 : Int32 × Int32 × pS → Option (Int32 × pS)) (b : Int32 × Int32 × pS) => (fX12_deeds N G a0 b.2.2).bind (fun q1 => if q1 ≤ b.2.1 then (some (jmin (1000000 : Int32) (b.1 + (1 : Int32)), b.2.2)) else (ck (inB (9 : Int32) (pN G (pR G a0 1))) ((fX12_howMany N G a0 b.2.2).bind (fun q2 => (fX12_looks N G a0 a2 ((gA b.2.2 (pR G a0 1) (9 : Int32)) + a1) q2 b.2.2).bind (fun q3 => (fX12_behindDeed N G a0 b.2.1 q3).bind (fun q4 => (fX12_tillOf N G a0 (a1 + (1 : Int32)) q4.1 q4.2).bind (fun q5 => k12 (jmax b.1 q5, b.2.1 + (1 : Int32), q4.2))))))))) N
set_option maxRecDepth 100000 in
set_option maxHeartbeats 4000000 in
theorem tX12_behindDeeds_b12 {N : Nat} {G : pG} {SK : Nat → Nat} {a0 : Nat} {a1 : Int32} {a2 : Int32} {b : Int32 × Int32 × pS} {r : Int32 × pS} (hW : WT G) (i0 : Is G a0 11) (h : fX12_behindDeeds_b12 N G a0 a1 a2 b = some r) : Ev miX12_behindDeeds (6, 0, 0) G (Zp G (some (.int r.1)) r.2) SK (0, 0) 12 [some (.ref a0), some (.int a1), some (.int a2), some (.int b.1), some (.int b.2.1)] [] b.2.2 := by
  unfold fX12_behindDeeds_b12 at h
  refine lp_ind (P := fun b r9 => r9 = r → Ev miX12_behindDeeds (6, 0, 0) G (Zp G (some (.int r.1)) r.2) SK (0, 0) 12 [some (.ref a0), some (.int a1), some (.int a2), some (.int b.1), some (.int b.2.1)] [] b.2.2) (fun k12 b r9 ih h9 e9 => ?_) N b r h rfl
  clear h
  subst e9
  have h := h9
  clear h9
  have hk12 : ∀ b : Int32 × Int32 × pS, k12 b = some r9 → Ev miX12_behindDeeds (6, 0, 0) G (Zp G (some (.int r9.1)) r9.2) SK (0, 0) 12 [some (.ref a0), some (.int a1), some (.int a2), some (.int b.1), some (.int b.2.1)] [] b.2.2 := fun b hb => ih b r9 hb rfl
  clear ih
  obtain ⟨x3, x4, σ⟩ := b
  dsimp only at h ⊢
  refine ev_iload dc_X12_behindDeeds_12 rfl ?_
  refine ev_aload_n dc_X12_behindDeeds_14 rfl ?_
  obtain ⟨q1, hq1, h⟩ := Option.bind_eq_some_iff.mp h
  refine ev_callV (av := []) (st := [.int x4]) (st1 := [.int q1, .int x4]) dc_X12_behindDeeds_15 (tX12_deeds hW i0 hq1) mw_1695 cy_X12_deeds i0 (by decide) rfl rfl rfl rfl (Nat.le_of_ble_eq_true rfl) (Nat.le_of_ble_eq_true rfl) ⟨Nat.le_refl _, Nat.le_refl _⟩ ?_
  refine ev_icmp_ge (tgt := 63) dc_X12_behindDeeds_18 (by decide) h (fun h => ?_) (fun h => ?_)
  · refine ev_ldcw (v := 1000000) dc_X12_behindDeeds_63 mw_2025 ?_
    refine ev_iload_n dc_X12_behindDeeds_66 rfl ?_
    refine ev_iconst (v := 1) dc_X12_behindDeeds_67 (by decide) ?_
    refine ev_iadd dc_X12_behindDeeds_68 ?_
    refine ev_min dc_X12_behindDeeds_69 mw_1861 (Nat.le_of_ble_eq_true rfl) (Nat.le_of_ble_eq_true rfl) ⟨Nat.le_refl _, Nat.le_refl _⟩ ?_
    cases h
    exact ev_iret dc_X12_behindDeeds_72 rfl rfl rfl
  · refine ev_aload_n dc_X12_behindDeeds_21 rfl ?_
    refine ev_iload_n dc_X12_behindDeeds_22 rfl ?_
    refine ev_aload_n dc_X12_behindDeeds_23 rfl ?_
    refine ev_getR dc_X12_behindDeeds_24 fi_X12_13 rfl i0 ?_
    refine ev_bipush (v := 9) dc_X12_behindDeeds_27 (by decide) ?_
    refine ev_iald dc_X12_behindDeeds_29 (wt hW i0 1 rfl rfl) h (fun h => ?_)
    refine ev_iload_n dc_X12_behindDeeds_30 rfl ?_
    refine ev_iadd dc_X12_behindDeeds_31 ?_
    refine ev_aload_n dc_X12_behindDeeds_32 rfl ?_
    obtain ⟨q2, hq2, h⟩ := Option.bind_eq_some_iff.mp h
    refine ev_callV (av := []) (st := [.int ((gA σ (pR G a0 1) (9 : Int32)) + a1), .int a2, .ref a0]) (st1 := [.int q2, .int ((gA σ (pR G a0 1) (9 : Int32)) + a1), .int a2, .ref a0]) dc_X12_behindDeeds_33 (tX12_howMany hW i0 hq2) mw_1808 cy_X12_howMany i0 (by decide) rfl rfl rfl rfl (Nat.le_of_ble_eq_true rfl) (Nat.le_of_ble_eq_true rfl) ⟨Nat.le_refl _, Nat.le_refl _⟩ ?_
    obtain ⟨q3, hq3, h⟩ := Option.bind_eq_some_iff.mp h
    refine ev_callV (av := [.int a2, .int ((gA σ (pR G a0 1) (9 : Int32)) + a1), .int q2]) (st := []) (st1 := []) dc_X12_behindDeeds_36 (tX12_looks hW i0 hq3) mw_1812 cy_X12_looks i0 (by decide) rfl rfl rfl rfl (Nat.le_of_ble_eq_true rfl) (Nat.le_of_ble_eq_true rfl) ⟨Nat.le_refl _, Nat.le_refl _⟩ ?_
    refine ev_iload_n dc_X12_behindDeeds_39 rfl ?_
    refine ev_aload_n dc_X12_behindDeeds_40 rfl ?_
    refine ev_iload_n dc_X12_behindDeeds_41 rfl ?_
    refine ev_iconst (v := 1) dc_X12_behindDeeds_42 (by decide) ?_
    refine ev_iadd dc_X12_behindDeeds_43 ?_
    refine ev_aload_n dc_X12_behindDeeds_44 rfl ?_
    refine ev_iload dc_X12_behindDeeds_45 rfl ?_
    obtain ⟨q4, hq4, h⟩ := Option.bind_eq_some_iff.mp h
    refine ev_callV (av := [.int x4]) (st := [.int (a1 + (1 : Int32)), .ref a0, .int x3]) (st1 := [.int q4.1, .int (a1 + (1 : Int32)), .ref a0, .int x3]) dc_X12_behindDeeds_47 (tX12_behindDeed hW i0 hq4) mw_1930 cy_X12_behindDeed i0 (by decide) rfl rfl rfl rfl (Nat.le_of_ble_eq_true rfl) (Nat.le_of_ble_eq_true rfl) ⟨Nat.le_refl _, Nat.le_refl _⟩ ?_
    obtain ⟨q5, hq5, h⟩ := Option.bind_eq_some_iff.mp h
    refine ev_callV (av := [.int (a1 + (1 : Int32)), .int q4.1]) (st := [.int x3]) (st1 := [.int q5, .int x3]) dc_X12_behindDeeds_50 (tX12_tillOf hW i0 hq5) mw_2038 cy_X12_tillOf i0 (by decide) rfl rfl rfl rfl (Nat.le_of_ble_eq_true rfl) (Nat.le_of_ble_eq_true rfl) ⟨Nat.le_refl _, Nat.le_refl _⟩ ?_
    refine ev_max dc_X12_behindDeeds_53 mw_1844 (Nat.le_of_ble_eq_true rfl) (Nat.le_of_ble_eq_true rfl) ⟨Nat.le_refl _, Nat.le_refl _⟩ ?_
    refine ev_istore_n (lv' := [some (.ref a0), some (.int a1), some (.int a2), some (.int (jmax x3 q5)), some (.int x4)]) dc_X12_behindDeeds_56 rfl (by decide) rfl ?_
    refine ev_iinc (v := 1) (lv' := [some (.ref a0), some (.int a1), some (.int a2), some (.int (jmax x3 q5)), some (.int (x4 + (1 : Int32)))]) dc_X12_behindDeeds_57 rfl (by decide) rfl (by decide) rfl ?_
    refine ev_goto (tgt := 12) dc_X12_behindDeeds_60 (by decide) ?_
    exact ev_sub (hk12 (jmax x3 q5, x4 + (1 : Int32), q4.2) h) (And.intro rfl (And.intro rfl (And.intro rfl (And.intro rfl (And.intro rfl trivial)))))
def fX12_behindDeeds (N : Nat) (G : pG) (a0 : Nat) (a1 : Int32) (a2 : Int32) (σ : pS) : Option (Int32 × pS) := (fX12_tillOf N G a0 (a1 + (1 : Int32)) a2 σ).bind (fun q6 => fX12_behindDeeds_b12 N G a0 a1 a2 (q6, (0 : Int32), σ))
set_option maxRecDepth 100000 in
set_option maxHeartbeats 4000000 in
theorem tX12_behindDeeds {N : Nat} {G : pG} {SK : Nat → Nat} {a0 : Nat} {a1 : Int32} {a2 : Int32} {σ : pS} {r : Int32 × pS} (hW : WT G) (i0 : Is G a0 11) (h : fX12_behindDeeds N G a0 a1 a2 σ = some r) : Dn miX12_behindDeeds yX12_behindDeeds 6 G SK [.ref a0, .int a1, .int a2] σ (some (.int r.1)) r.2 := by
  unfold fX12_behindDeeds at h
  refine dn_of (lv := [some (.ref a0), some (.int a1), some (.int a2), none, none]) (by decide) rfl rfl (Nat.le_of_ble_eq_true rfl) rfl ?_
  refine ev_aload_n dc_X12_behindDeeds_0 rfl ?_
  refine ev_iload_n dc_X12_behindDeeds_1 rfl ?_
  refine ev_iconst (v := 1) dc_X12_behindDeeds_2 (by decide) ?_
  refine ev_iadd dc_X12_behindDeeds_3 ?_
  refine ev_iload_n dc_X12_behindDeeds_4 rfl ?_
  obtain ⟨q6, hq6, h⟩ := Option.bind_eq_some_iff.mp h
  refine ev_callV (av := [.int (a1 + (1 : Int32)), .int a2]) (st := []) (st1 := [.int q6]) dc_X12_behindDeeds_5 (tX12_tillOf hW i0 hq6) mw_2038 cy_X12_tillOf i0 (by decide) rfl rfl rfl rfl (Nat.le_of_ble_eq_true rfl) (Nat.le_of_ble_eq_true rfl) ⟨Nat.le_refl _, Nat.le_refl _⟩ ?_
  refine ev_istore_n (lv' := [some (.ref a0), some (.int a1), some (.int a2), some (.int q6), none]) dc_X12_behindDeeds_8 rfl (by decide) rfl ?_
  refine ev_iconst (v := 0) dc_X12_behindDeeds_9 (by decide) ?_
  refine ev_istore (lv' := [some (.ref a0), some (.int a1), some (.int a2), some (.int q6), some (.int (0 : Int32))]) dc_X12_behindDeeds_10 rfl (by decide) rfl ?_
  exact ev_sub (tX12_behindDeeds_b12 (b := (q6, (0 : Int32), σ)) hW i0 h) (And.intro rfl (And.intro rfl (And.intro rfl (And.intro rfl (And.intro rfl trivial)))))
theorem dc_X12_creditOf_0 : Dc miX12_creditOf 0 (.iconst 0) 1 1 := ⟨by decide +kernel, rfl⟩
theorem dc_X12_creditOf_1 : Dc miX12_creditOf 1 (.istore_n 2) 1 2 := ⟨by decide +kernel, rfl⟩
theorem dc_X12_creditOf_2 : Dc miX12_creditOf 2 (.iconst 0) 1 3 := ⟨by decide +kernel, rfl⟩
theorem dc_X12_creditOf_3 : Dc miX12_creditOf 3 (.istore_n 3) 1 4 := ⟨by decide +kernel, rfl⟩
theorem dc_X12_creditOf_4 : Dc miX12_creditOf 4 (.iload_n 3) 1 5 := ⟨by decide +kernel, rfl⟩
theorem dc_X12_creditOf_5 : Dc miX12_creditOf 5 (.aload_n 0) 1 6 := ⟨by decide +kernel, rfl⟩
theorem dc_X12_creditOf_6 : Dc miX12_creditOf 6 (.invokevirtual 66) 3 9 := ⟨by decide +kernel, rfl⟩
theorem dc_X12_creditOf_9 : Dc miX12_creditOf 9 (.if_icmp .ge 30) 3 12 := ⟨by decide +kernel, rfl⟩
theorem dc_X12_creditOf_12 : Dc miX12_creditOf 12 (.iload_n 2) 1 13 := ⟨by decide +kernel, rfl⟩
theorem dc_X12_creditOf_13 : Dc miX12_creditOf 13 (.iload_n 1) 1 14 := ⟨by decide +kernel, rfl⟩
theorem dc_X12_creditOf_14 : Dc miX12_creditOf 14 (.iload_n 3) 1 15 := ⟨by decide +kernel, rfl⟩
theorem dc_X12_creditOf_15 : Dc miX12_creditOf 15 (.invokestatic 122) 3 18 := ⟨by decide +kernel, rfl⟩
theorem dc_X12_creditOf_18 : Dc miX12_creditOf 18 (.ifCond .eq 12) 3 21 := ⟨by decide +kernel, rfl⟩
theorem dc_X12_creditOf_21 : Dc miX12_creditOf 21 (.aload_n 0) 1 22 := ⟨by decide +kernel, rfl⟩
theorem dc_X12_creditOf_22 : Dc miX12_creditOf 22 (.iload_n 3) 1 23 := ⟨by decide +kernel, rfl⟩
theorem dc_X12_creditOf_23 : Dc miX12_creditOf 23 (.iconst 1) 1 24 := ⟨by decide +kernel, rfl⟩
theorem dc_X12_creditOf_24 : Dc miX12_creditOf 24 (.invokevirtual 277) 3 27 := ⟨by decide +kernel, rfl⟩
theorem dc_X12_creditOf_27 : Dc miX12_creditOf 27 (.goto 4) 3 30 := ⟨by decide +kernel, rfl⟩
theorem dc_X12_creditOf_30 : Dc miX12_creditOf 30 (.iconst 0) 1 31 := ⟨by decide +kernel, rfl⟩
theorem dc_X12_creditOf_31 : Dc miX12_creditOf 31 (.iadd) 1 32 := ⟨by decide +kernel, rfl⟩
theorem dc_X12_creditOf_32 : Dc miX12_creditOf 32 (.istore_n 2) 1 33 := ⟨by decide +kernel, rfl⟩
theorem dc_X12_creditOf_33 : Dc miX12_creditOf 33 (.iinc 3 1) 3 36 := ⟨by decide +kernel, rfl⟩
theorem dc_X12_creditOf_36 : Dc miX12_creditOf 36 (.goto (-32)) 3 39 := ⟨by decide +kernel, rfl⟩
theorem dc_X12_creditOf_39 : Dc miX12_creditOf 39 (.iload_n 2) 1 40 := ⟨by decide +kernel, rfl⟩
theorem dc_X12_creditOf_40 : Dc miX12_creditOf 40 (.ireturn) 1 41 := ⟨by decide +kernel, rfl⟩
def fX12_creditOf_b4 (N : Nat) (G : pG) (a0 : Nat) (a1 : Int32) (σ : pS) : (Int32 × Int32) → Option (Int32) := lp (fun (k4 : Int32 × Int32 → Option (Int32)) (b : Int32 × Int32) => (fX12_names N G a0 σ).bind (fun q1 => if q1 ≤ b.2 then (some b.1) else ((fX12_has N G a1 b.2 σ).bind (fun q2 => if q2 = 0 then (k4 (b.1 + (0 : Int32), b.2 + (1 : Int32))) else ((fX12_ofName N G a0 b.2 (1 : Int32) σ).bind (fun q3 => k4 (b.1 + q3, b.2 + (1 : Int32)))))))) N
set_option maxRecDepth 100000 in
set_option maxHeartbeats 4000000 in
theorem tX12_creditOf_b4 {N : Nat} {G : pG} {SK : Nat → Nat} {a0 : Nat} {a1 : Int32} {σ : pS} {b : Int32 × Int32} {r : Int32} (hW : WT G) (i0 : Is G a0 11) (h : fX12_creditOf_b4 N G a0 a1 σ b = some r) : Ev miX12_creditOf (2, 0, 0) G (Zp G (some (.int r)) σ) SK (0, 0) 4 [some (.ref a0), some (.int a1), some (.int b.1), some (.int b.2)] [] σ := by
  unfold fX12_creditOf_b4 at h
  refine lp_ind (P := fun b r9 => r9 = r → Ev miX12_creditOf (2, 0, 0) G (Zp G (some (.int r)) σ) SK (0, 0) 4 [some (.ref a0), some (.int a1), some (.int b.1), some (.int b.2)] [] σ) (fun k4 b r9 ih h9 e9 => ?_) N b r h rfl
  clear h
  subst e9
  have h := h9
  clear h9
  have hk4 : ∀ b : Int32 × Int32, k4 b = some r9 → Ev miX12_creditOf (2, 0, 0) G (Zp G (some (.int r9)) σ) SK (0, 0) 4 [some (.ref a0), some (.int a1), some (.int b.1), some (.int b.2)] [] σ := fun b hb => ih b r9 hb rfl
  clear ih
  obtain ⟨x2, x3⟩ := b
  dsimp only at h ⊢
  refine ev_iload_n dc_X12_creditOf_4 rfl ?_
  refine ev_aload_n dc_X12_creditOf_5 rfl ?_
  obtain ⟨q1, hq1, h⟩ := Option.bind_eq_some_iff.mp h
  refine ev_callV (av := []) (st := [.int x3]) (st1 := [.int q1, .int x3]) dc_X12_creditOf_6 (tX12_names hW i0 hq1) mw_1648 cy_X12_names i0 (by decide) rfl rfl rfl rfl (Nat.le_of_ble_eq_true rfl) (Nat.le_of_ble_eq_true rfl) ⟨Nat.le_refl _, Nat.le_refl _⟩ ?_
  refine ev_icmp_ge (tgt := 39) dc_X12_creditOf_9 (by decide) h (fun h => ?_) (fun h => ?_)
  · refine ev_iload_n dc_X12_creditOf_39 rfl ?_
    cases h
    exact ev_iret dc_X12_creditOf_40 rfl rfl rfl
  · refine ev_iload_n dc_X12_creditOf_12 rfl ?_
    refine ev_iload_n dc_X12_creditOf_13 rfl ?_
    refine ev_iload_n dc_X12_creditOf_14 rfl ?_
    obtain ⟨q2, hq2, h⟩ := Option.bind_eq_some_iff.mp h
    refine ev_callS (av := [.int a1, .int x3]) (st := [.int x2]) (st1 := [.int q2, .int x2]) dc_X12_creditOf_15 (tX12_has hW hq2) mw_1659 cs_X12_has rfl rfl rfl (Nat.le_of_ble_eq_true rfl) (Nat.le_of_ble_eq_true rfl) ⟨Nat.le_refl _, Nat.le_refl _⟩ ?_
    refine ev_if_eq (tgt := 30) dc_X12_creditOf_18 (by decide) h (fun h => ?_) (fun h => ?_)
    · refine ev_iconst (v := 0) dc_X12_creditOf_30 (by decide) ?_
      refine ev_iadd dc_X12_creditOf_31 ?_
      refine ev_istore_n (lv' := [some (.ref a0), some (.int a1), some (.int (x2 + (0 : Int32))), some (.int x3)]) dc_X12_creditOf_32 rfl (by decide) rfl ?_
      refine ev_iinc (v := 1) (lv' := [some (.ref a0), some (.int a1), some (.int (x2 + (0 : Int32))), some (.int (x3 + (1 : Int32)))]) dc_X12_creditOf_33 rfl (by decide) rfl (by decide) rfl ?_
      refine ev_goto (tgt := 4) dc_X12_creditOf_36 (by decide) ?_
      exact ev_sub (hk4 (x2 + (0 : Int32), x3 + (1 : Int32)) h) (And.intro rfl (And.intro rfl (And.intro rfl (And.intro rfl trivial))))
    · refine ev_aload_n dc_X12_creditOf_21 rfl ?_
      refine ev_iload_n dc_X12_creditOf_22 rfl ?_
      refine ev_iconst (v := 1) dc_X12_creditOf_23 (by decide) ?_
      obtain ⟨q3, hq3, h⟩ := Option.bind_eq_some_iff.mp h
      refine ev_callV (av := [.int x3, .int (1 : Int32)]) (st := [.int x2]) (st1 := [.int q3, .int x2]) dc_X12_creditOf_24 (tX12_ofName hW i0 hq3) mw_1828 cy_X12_ofName i0 (by decide) rfl rfl rfl rfl (Nat.le_of_ble_eq_true rfl) (Nat.le_of_ble_eq_true rfl) ⟨Nat.le_refl _, Nat.le_refl _⟩ ?_
      refine ev_goto (tgt := 31) dc_X12_creditOf_27 (by decide) ?_
      refine ev_iadd dc_X12_creditOf_31 ?_
      refine ev_istore_n (lv' := [some (.ref a0), some (.int a1), some (.int (x2 + q3)), some (.int x3)]) dc_X12_creditOf_32 rfl (by decide) rfl ?_
      refine ev_iinc (v := 1) (lv' := [some (.ref a0), some (.int a1), some (.int (x2 + q3)), some (.int (x3 + (1 : Int32)))]) dc_X12_creditOf_33 rfl (by decide) rfl (by decide) rfl ?_
      refine ev_goto (tgt := 4) dc_X12_creditOf_36 (by decide) ?_
      exact ev_sub (hk4 (x2 + q3, x3 + (1 : Int32)) h) (And.intro rfl (And.intro rfl (And.intro rfl (And.intro rfl trivial))))
def fX12_creditOf (N : Nat) (G : pG) (a0 : Nat) (a1 : Int32) (σ : pS) : Option (Int32) := fX12_creditOf_b4 N G a0 a1 σ ((0 : Int32), (0 : Int32))
set_option maxRecDepth 100000 in
set_option maxHeartbeats 4000000 in
theorem tX12_creditOf {N : Nat} {G : pG} {SK : Nat → Nat} {a0 : Nat} {a1 : Int32} {σ : pS} {r : Int32} (hW : WT G) (i0 : Is G a0 11) (h : fX12_creditOf N G a0 a1 σ = some r) : Dn miX12_creditOf yX12_creditOf 2 G SK [.ref a0, .int a1] σ (some (.int r)) σ := by
  unfold fX12_creditOf at h
  refine dn_of (lv := [some (.ref a0), some (.int a1), none, none]) (by decide) rfl rfl (Nat.le_of_ble_eq_true rfl) rfl ?_
  refine ev_iconst (v := 0) dc_X12_creditOf_0 (by decide) ?_
  refine ev_istore_n (lv' := [some (.ref a0), some (.int a1), some (.int (0 : Int32)), none]) dc_X12_creditOf_1 rfl (by decide) rfl ?_
  refine ev_iconst (v := 0) dc_X12_creditOf_2 (by decide) ?_
  refine ev_istore_n (lv' := [some (.ref a0), some (.int a1), some (.int (0 : Int32)), some (.int (0 : Int32))]) dc_X12_creditOf_3 rfl (by decide) rfl ?_
  exact ev_sub (tX12_creditOf_b4 (b := ((0 : Int32), (0 : Int32))) hW i0 h) (And.intro rfl (And.intro rfl (And.intro rfl (And.intro rfl trivial))))
theorem dc_X12_beliefOf_0 : Dc miX12_beliefOf 0 (.aload_n 0) 1 1 := ⟨by decide +kernel, rfl⟩
theorem dc_X12_beliefOf_1 : Dc miX12_beliefOf 1 (.aload_n 0) 1 2 := ⟨by decide +kernel, rfl⟩
theorem dc_X12_beliefOf_2 : Dc miX12_beliefOf 2 (.getfield 13) 3 5 := ⟨by decide +kernel, rfl⟩
theorem dc_X12_beliefOf_5 : Dc miX12_beliefOf 5 (.bipush 12) 2 7 := ⟨by decide +kernel, rfl⟩
theorem dc_X12_beliefOf_7 : Dc miX12_beliefOf 7 (.iaload) 1 8 := ⟨by decide +kernel, rfl⟩
theorem dc_X12_beliefOf_8 : Dc miX12_beliefOf 8 (.invokevirtual 450) 3 11 := ⟨by decide +kernel, rfl⟩
theorem dc_X12_beliefOf_11 : Dc miX12_beliefOf 11 (.istore_n 2) 1 12 := ⟨by decide +kernel, rfl⟩
theorem dc_X12_beliefOf_12 : Dc miX12_beliefOf 12 (.iload_n 2) 1 13 := ⟨by decide +kernel, rfl⟩
theorem dc_X12_beliefOf_13 : Dc miX12_beliefOf 13 (.ifCond .ne 7) 3 16 := ⟨by decide +kernel, rfl⟩
theorem dc_X12_beliefOf_16 : Dc miX12_beliefOf 16 (.iconst 0) 1 17 := ⟨by decide +kernel, rfl⟩
theorem dc_X12_beliefOf_17 : Dc miX12_beliefOf 17 (.goto 22) 3 20 := ⟨by decide +kernel, rfl⟩
theorem dc_X12_beliefOf_20 : Dc miX12_beliefOf 20 (.sipush 10000) 3 23 := ⟨by decide +kernel, rfl⟩
theorem dc_X12_beliefOf_23 : Dc miX12_beliefOf 23 (.aload_n 0) 1 24 := ⟨by decide +kernel, rfl⟩
theorem dc_X12_beliefOf_24 : Dc miX12_beliefOf 24 (.iload_n 1) 1 25 := ⟨by decide +kernel, rfl⟩
theorem dc_X12_beliefOf_25 : Dc miX12_beliefOf 25 (.aload_n 0) 1 26 := ⟨by decide +kernel, rfl⟩
theorem dc_X12_beliefOf_26 : Dc miX12_beliefOf 26 (.getfield 13) 3 29 := ⟨by decide +kernel, rfl⟩
theorem dc_X12_beliefOf_29 : Dc miX12_beliefOf 29 (.bipush 12) 2 31 := ⟨by decide +kernel, rfl⟩
theorem dc_X12_beliefOf_31 : Dc miX12_beliefOf 31 (.iaload) 1 32 := ⟨by decide +kernel, rfl⟩
theorem dc_X12_beliefOf_32 : Dc miX12_beliefOf 32 (.iand) 1 33 := ⟨by decide +kernel, rfl⟩
theorem dc_X12_beliefOf_33 : Dc miX12_beliefOf 33 (.invokevirtual 450) 3 36 := ⟨by decide +kernel, rfl⟩
theorem dc_X12_beliefOf_36 : Dc miX12_beliefOf 36 (.imul) 1 37 := ⟨by decide +kernel, rfl⟩
theorem dc_X12_beliefOf_37 : Dc miX12_beliefOf 37 (.iload_n 2) 1 38 := ⟨by decide +kernel, rfl⟩
theorem dc_X12_beliefOf_38 : Dc miX12_beliefOf 38 (.idiv) 1 39 := ⟨by decide +kernel, rfl⟩
theorem dc_X12_beliefOf_39 : Dc miX12_beliefOf 39 (.ireturn) 1 40 := ⟨by decide +kernel, rfl⟩
def fX12_beliefOf (N : Nat) (G : pG) (a0 : Nat) (a1 : Int32) (σ : pS) : Option (Int32) := ck (inB (12 : Int32) (pN G (pR G a0 1))) ((fX12_creditOf N G a0 (gA σ (pR G a0 1) (12 : Int32)) σ).bind (fun q1 => if q1 = 0 then (some (0 : Int32)) else (ck (inB (12 : Int32) (pN G (pR G a0 1))) ((fX12_creditOf N G a0 (a1 &&& (gA σ (pR G a0 1) (12 : Int32))) σ).bind (fun q2 => ck (decide (¬ q1 = 0)) (some (((10000 : Int32) * q2) / q1)))))))
set_option maxRecDepth 100000 in
set_option maxHeartbeats 4000000 in
theorem tX12_beliefOf {N : Nat} {G : pG} {SK : Nat → Nat} {a0 : Nat} {a1 : Int32} {σ : pS} {r : Int32} (hW : WT G) (i0 : Is G a0 11) (h : fX12_beliefOf N G a0 a1 σ = some r) : Dn miX12_beliefOf yX12_beliefOf 3 G SK [.ref a0, .int a1] σ (some (.int r)) σ := by
  unfold fX12_beliefOf at h
  refine dn_of (lv := [some (.ref a0), some (.int a1), none]) (by decide) rfl rfl (Nat.le_of_ble_eq_true rfl) rfl ?_
  refine ev_aload_n dc_X12_beliefOf_0 rfl ?_
  refine ev_aload_n dc_X12_beliefOf_1 rfl ?_
  refine ev_getR dc_X12_beliefOf_2 fi_X12_13 rfl i0 ?_
  refine ev_bipush (v := 12) dc_X12_beliefOf_5 (by decide) ?_
  refine ev_iald dc_X12_beliefOf_7 (wt hW i0 1 rfl rfl) h (fun h => ?_)
  obtain ⟨q1, hq1, h⟩ := Option.bind_eq_some_iff.mp h
  refine ev_callV (av := [.int (gA σ (pR G a0 1) (12 : Int32))]) (st := []) (st1 := [.int q1]) dc_X12_beliefOf_8 (tX12_creditOf hW i0 hq1) mw_2082 cy_X12_creditOf i0 (by decide) rfl rfl rfl rfl (Nat.le_of_ble_eq_true rfl) (Nat.le_of_ble_eq_true rfl) ⟨Nat.le_refl _, Nat.le_refl _⟩ ?_
  refine ev_istore_n (lv' := [some (.ref a0), some (.int a1), some (.int q1)]) dc_X12_beliefOf_11 rfl (by decide) rfl ?_
  refine ev_iload_n dc_X12_beliefOf_12 rfl ?_
  refine ev_if_ne (tgt := 20) dc_X12_beliefOf_13 (by decide) h (fun h => ?_) (fun h => ?_)
  · refine ev_iconst (v := 0) dc_X12_beliefOf_16 (by decide) ?_
    refine ev_goto (tgt := 39) dc_X12_beliefOf_17 (by decide) ?_
    cases h
    exact ev_iret dc_X12_beliefOf_39 rfl rfl rfl
  · refine ev_sipush (v := 10000) dc_X12_beliefOf_20 (by decide) ?_
    refine ev_aload_n dc_X12_beliefOf_23 rfl ?_
    refine ev_iload_n dc_X12_beliefOf_24 rfl ?_
    refine ev_aload_n dc_X12_beliefOf_25 rfl ?_
    refine ev_getR dc_X12_beliefOf_26 fi_X12_13 rfl i0 ?_
    refine ev_bipush (v := 12) dc_X12_beliefOf_29 (by decide) ?_
    refine ev_iald dc_X12_beliefOf_31 (wt hW i0 1 rfl rfl) h (fun h => ?_)
    refine ev_iand dc_X12_beliefOf_32 ?_
    obtain ⟨q2, hq2, h⟩ := Option.bind_eq_some_iff.mp h
    refine ev_callV (av := [.int (a1 &&& (gA σ (pR G a0 1) (12 : Int32)))]) (st := [.int (10000 : Int32)]) (st1 := [.int q2, .int (10000 : Int32)]) dc_X12_beliefOf_33 (tX12_creditOf hW i0 hq2) mw_2082 cy_X12_creditOf i0 (by decide) rfl rfl rfl rfl (Nat.le_of_ble_eq_true rfl) (Nat.le_of_ble_eq_true rfl) ⟨Nat.le_refl _, Nat.le_refl _⟩ ?_
    refine ev_imul dc_X12_beliefOf_36 ?_
    refine ev_iload_n dc_X12_beliefOf_37 rfl ?_
    obtain ⟨hz, h⟩ := ck_s h
    refine ev_idiv dc_X12_beliefOf_38 (of_decide_eq_true hz) ?_
    cases h
    exact ev_iret dc_X12_beliefOf_39 rfl rfl rfl
theorem dc_X12_noTrait_0 : Dc miX12_noTrait 0 (.iload_n 0) 1 1 := ⟨by decide +kernel, rfl⟩
theorem dc_X12_noTrait_1 : Dc miX12_noTrait 1 (.iconst 0) 1 2 := ⟨by decide +kernel, rfl⟩
theorem dc_X12_noTrait_2 : Dc miX12_noTrait 2 (.iconst 5) 1 3 := ⟨by decide +kernel, rfl⟩
theorem dc_X12_noTrait_3 : Dc miX12_noTrait 3 (.invokestatic 70) 3 6 := ⟨by decide +kernel, rfl⟩
theorem dc_X12_noTrait_6 : Dc miX12_noTrait 6 (.ifCond .ne 7) 3 9 := ⟨by decide +kernel, rfl⟩
theorem dc_X12_noTrait_9 : Dc miX12_noTrait 9 (.iconst 1) 1 10 := ⟨by decide +kernel, rfl⟩
theorem dc_X12_noTrait_10 : Dc miX12_noTrait 10 (.goto 4) 3 13 := ⟨by decide +kernel, rfl⟩
theorem dc_X12_noTrait_13 : Dc miX12_noTrait 13 (.iconst 0) 1 14 := ⟨by decide +kernel, rfl⟩
theorem dc_X12_noTrait_14 : Dc miX12_noTrait 14 (.ireturn) 1 15 := ⟨by decide +kernel, rfl⟩
def fX12_noTrait (N : Nat) (G : pG) (a0 : Int32) (σ : pS) : Option (Int32) := (fX12_in N G a0 (0 : Int32) (5 : Int32) σ).bind (fun q1 => if q1 = 0 then (some (1 : Int32)) else (some (0 : Int32)))
set_option maxRecDepth 100000 in
set_option maxHeartbeats 4000000 in
theorem tX12_noTrait {N : Nat} {G : pG} {SK : Nat → Nat} {a0 : Int32} {σ : pS} {r : Int32} (hW : WT G) (h : fX12_noTrait N G a0 σ = some r) : Dn miX12_noTrait yX12_noTrait 2 G SK [.int a0] σ (some (.int r)) σ := by
  unfold fX12_noTrait at h
  refine dn_of (lv := [some (.int a0)]) (by decide) rfl rfl (Nat.le_of_ble_eq_true rfl) rfl ?_
  refine ev_iload_n dc_X12_noTrait_0 rfl ?_
  refine ev_iconst (v := 0) dc_X12_noTrait_1 (by decide) ?_
  refine ev_iconst (v := 5) dc_X12_noTrait_2 (by decide) ?_
  obtain ⟨q1, hq1, h⟩ := Option.bind_eq_some_iff.mp h
  refine ev_callS (av := [.int a0, .int (0 : Int32), .int (5 : Int32)]) (st := []) (st1 := [.int q1]) dc_X12_noTrait_3 (tX12_in hW hq1) mw_1656 cs_X12_in rfl rfl rfl (Nat.le_of_ble_eq_true rfl) (Nat.le_of_ble_eq_true rfl) ⟨Nat.le_refl _, Nat.le_refl _⟩ ?_
  refine ev_if_ne (tgt := 13) dc_X12_noTrait_6 (by decide) h (fun h => ?_) (fun h => ?_)
  · refine ev_iconst (v := 1) dc_X12_noTrait_9 (by decide) ?_
    refine ev_goto (tgt := 14) dc_X12_noTrait_10 (by decide) ?_
    cases h
    exact ev_zretc dc_X12_noTrait_14 rfl rfl rfl rfl
  · refine ev_iconst (v := 0) dc_X12_noTrait_13 (by decide) ?_
    cases h
    exact ev_zretc dc_X12_noTrait_14 rfl rfl rfl rfl
theorem dc_X12_whoHave_0 : Dc miX12_whoHave 0 (.iconst 0) 1 1 := ⟨by decide +kernel, rfl⟩
theorem dc_X12_whoHave_1 : Dc miX12_whoHave 1 (.istore_n 2) 1 2 := ⟨by decide +kernel, rfl⟩
theorem dc_X12_whoHave_2 : Dc miX12_whoHave 2 (.iconst 0) 1 3 := ⟨by decide +kernel, rfl⟩
theorem dc_X12_whoHave_3 : Dc miX12_whoHave 3 (.istore_n 3) 1 4 := ⟨by decide +kernel, rfl⟩
theorem dc_X12_whoHave_4 : Dc miX12_whoHave 4 (.iload_n 3) 1 5 := ⟨by decide +kernel, rfl⟩
theorem dc_X12_whoHave_5 : Dc miX12_whoHave 5 (.aload_n 0) 1 6 := ⟨by decide +kernel, rfl⟩
theorem dc_X12_whoHave_6 : Dc miX12_whoHave 6 (.invokevirtual 66) 3 9 := ⟨by decide +kernel, rfl⟩
theorem dc_X12_whoHave_9 : Dc miX12_whoHave 9 (.if_icmp .ge 32) 3 12 := ⟨by decide +kernel, rfl⟩
theorem dc_X12_whoHave_12 : Dc miX12_whoHave 12 (.iload_n 2) 1 13 := ⟨by decide +kernel, rfl⟩
theorem dc_X12_whoHave_13 : Dc miX12_whoHave 13 (.aload_n 0) 1 14 := ⟨by decide +kernel, rfl⟩
theorem dc_X12_whoHave_14 : Dc miX12_whoHave 14 (.iload_n 3) 1 15 := ⟨by decide +kernel, rfl⟩
theorem dc_X12_whoHave_15 : Dc miX12_whoHave 15 (.iconst 0) 1 16 := ⟨by decide +kernel, rfl⟩
theorem dc_X12_whoHave_16 : Dc miX12_whoHave 16 (.invokevirtual 277) 3 19 := ⟨by decide +kernel, rfl⟩
theorem dc_X12_whoHave_19 : Dc miX12_whoHave 19 (.iload_n 1) 1 20 := ⟨by decide +kernel, rfl⟩
theorem dc_X12_whoHave_20 : Dc miX12_whoHave 20 (.invokestatic 122) 3 23 := ⟨by decide +kernel, rfl⟩
theorem dc_X12_whoHave_23 : Dc miX12_whoHave 23 (.ifCond .eq 9) 3 26 := ⟨by decide +kernel, rfl⟩
theorem dc_X12_whoHave_26 : Dc miX12_whoHave 26 (.iconst 1) 1 27 := ⟨by decide +kernel, rfl⟩
theorem dc_X12_whoHave_27 : Dc miX12_whoHave 27 (.iload_n 3) 1 28 := ⟨by decide +kernel, rfl⟩
theorem dc_X12_whoHave_28 : Dc miX12_whoHave 28 (.ishl) 1 29 := ⟨by decide +kernel, rfl⟩
theorem dc_X12_whoHave_29 : Dc miX12_whoHave 29 (.goto 4) 3 32 := ⟨by decide +kernel, rfl⟩
theorem dc_X12_whoHave_32 : Dc miX12_whoHave 32 (.iconst 0) 1 33 := ⟨by decide +kernel, rfl⟩
theorem dc_X12_whoHave_33 : Dc miX12_whoHave 33 (.ior) 1 34 := ⟨by decide +kernel, rfl⟩
theorem dc_X12_whoHave_34 : Dc miX12_whoHave 34 (.istore_n 2) 1 35 := ⟨by decide +kernel, rfl⟩
theorem dc_X12_whoHave_35 : Dc miX12_whoHave 35 (.iinc 3 1) 3 38 := ⟨by decide +kernel, rfl⟩
theorem dc_X12_whoHave_38 : Dc miX12_whoHave 38 (.goto (-34)) 3 41 := ⟨by decide +kernel, rfl⟩
theorem dc_X12_whoHave_41 : Dc miX12_whoHave 41 (.iload_n 2) 1 42 := ⟨by decide +kernel, rfl⟩
theorem dc_X12_whoHave_42 : Dc miX12_whoHave 42 (.ireturn) 1 43 := ⟨by decide +kernel, rfl⟩
def fX12_whoHave_b4 (N : Nat) (G : pG) (a0 : Nat) (a1 : Int32) (σ : pS) : (Int32 × Int32) → Option (Int32) := lp (fun (k4 : Int32 × Int32 → Option (Int32)) (b : Int32 × Int32) => (fX12_names N G a0 σ).bind (fun q1 => if q1 ≤ b.2 then (some b.1) else ((fX12_ofName N G a0 b.2 (0 : Int32) σ).bind (fun q2 => (fX12_has N G q2 a1 σ).bind (fun q3 => if q3 = 0 then (k4 (b.1 ||| (0 : Int32), b.2 + (1 : Int32))) else (k4 (b.1 ||| ((1 : Int32) <<< (b.2 &&& 31)), b.2 + (1 : Int32)))))))) N
set_option maxRecDepth 100000 in
set_option maxHeartbeats 4000000 in
theorem tX12_whoHave_b4 {N : Nat} {G : pG} {SK : Nat → Nat} {a0 : Nat} {a1 : Int32} {σ : pS} {b : Int32 × Int32} {r : Int32} (hW : WT G) (i0 : Is G a0 11) (h : fX12_whoHave_b4 N G a0 a1 σ b = some r) : Ev miX12_whoHave (2, 0, 0) G (Zp G (some (.int r)) σ) SK (0, 0) 4 [some (.ref a0), some (.int a1), some (.int b.1), some (.int b.2)] [] σ := by
  unfold fX12_whoHave_b4 at h
  refine lp_ind (P := fun b r9 => r9 = r → Ev miX12_whoHave (2, 0, 0) G (Zp G (some (.int r)) σ) SK (0, 0) 4 [some (.ref a0), some (.int a1), some (.int b.1), some (.int b.2)] [] σ) (fun k4 b r9 ih h9 e9 => ?_) N b r h rfl
  clear h
  subst e9
  have h := h9
  clear h9
  have hk4 : ∀ b : Int32 × Int32, k4 b = some r9 → Ev miX12_whoHave (2, 0, 0) G (Zp G (some (.int r9)) σ) SK (0, 0) 4 [some (.ref a0), some (.int a1), some (.int b.1), some (.int b.2)] [] σ := fun b hb => ih b r9 hb rfl
  clear ih
  obtain ⟨x2, x3⟩ := b
  dsimp only at h ⊢
  refine ev_iload_n dc_X12_whoHave_4 rfl ?_
  refine ev_aload_n dc_X12_whoHave_5 rfl ?_
  obtain ⟨q1, hq1, h⟩ := Option.bind_eq_some_iff.mp h
  refine ev_callV (av := []) (st := [.int x3]) (st1 := [.int q1, .int x3]) dc_X12_whoHave_6 (tX12_names hW i0 hq1) mw_1648 cy_X12_names i0 (by decide) rfl rfl rfl rfl (Nat.le_of_ble_eq_true rfl) (Nat.le_of_ble_eq_true rfl) ⟨Nat.le_refl _, Nat.le_refl _⟩ ?_
  refine ev_icmp_ge (tgt := 41) dc_X12_whoHave_9 (by decide) h (fun h => ?_) (fun h => ?_)
  · refine ev_iload_n dc_X12_whoHave_41 rfl ?_
    cases h
    exact ev_iret dc_X12_whoHave_42 rfl rfl rfl
  · refine ev_iload_n dc_X12_whoHave_12 rfl ?_
    refine ev_aload_n dc_X12_whoHave_13 rfl ?_
    refine ev_iload_n dc_X12_whoHave_14 rfl ?_
    refine ev_iconst (v := 0) dc_X12_whoHave_15 (by decide) ?_
    obtain ⟨q2, hq2, h⟩ := Option.bind_eq_some_iff.mp h
    refine ev_callV (av := [.int x3, .int (0 : Int32)]) (st := [.int x2]) (st1 := [.int q2, .int x2]) dc_X12_whoHave_16 (tX12_ofName hW i0 hq2) mw_1828 cy_X12_ofName i0 (by decide) rfl rfl rfl rfl (Nat.le_of_ble_eq_true rfl) (Nat.le_of_ble_eq_true rfl) ⟨Nat.le_refl _, Nat.le_refl _⟩ ?_
    refine ev_iload_n dc_X12_whoHave_19 rfl ?_
    obtain ⟨q3, hq3, h⟩ := Option.bind_eq_some_iff.mp h
    refine ev_callS (av := [.int q2, .int a1]) (st := [.int x2]) (st1 := [.int q3, .int x2]) dc_X12_whoHave_20 (tX12_has hW hq3) mw_1659 cs_X12_has rfl rfl rfl (Nat.le_of_ble_eq_true rfl) (Nat.le_of_ble_eq_true rfl) ⟨Nat.le_refl _, Nat.le_refl _⟩ ?_
    refine ev_if_eq (tgt := 32) dc_X12_whoHave_23 (by decide) h (fun h => ?_) (fun h => ?_)
    · refine ev_iconst (v := 0) dc_X12_whoHave_32 (by decide) ?_
      refine ev_ior dc_X12_whoHave_33 ?_
      refine ev_istore_n (lv' := [some (.ref a0), some (.int a1), some (.int (x2 ||| (0 : Int32))), some (.int x3)]) dc_X12_whoHave_34 rfl (by decide) rfl ?_
      refine ev_iinc (v := 1) (lv' := [some (.ref a0), some (.int a1), some (.int (x2 ||| (0 : Int32))), some (.int (x3 + (1 : Int32)))]) dc_X12_whoHave_35 rfl (by decide) rfl (by decide) rfl ?_
      refine ev_goto (tgt := 4) dc_X12_whoHave_38 (by decide) ?_
      exact ev_sub (hk4 (x2 ||| (0 : Int32), x3 + (1 : Int32)) h) (And.intro rfl (And.intro rfl (And.intro rfl (And.intro rfl trivial))))
    · refine ev_iconst (v := 1) dc_X12_whoHave_26 (by decide) ?_
      refine ev_iload_n dc_X12_whoHave_27 rfl ?_
      refine ev_ishl dc_X12_whoHave_28 ?_
      refine ev_goto (tgt := 33) dc_X12_whoHave_29 (by decide) ?_
      refine ev_ior dc_X12_whoHave_33 ?_
      refine ev_istore_n (lv' := [some (.ref a0), some (.int a1), some (.int (x2 ||| ((1 : Int32) <<< (x3 &&& 31)))), some (.int x3)]) dc_X12_whoHave_34 rfl (by decide) rfl ?_
      refine ev_iinc (v := 1) (lv' := [some (.ref a0), some (.int a1), some (.int (x2 ||| ((1 : Int32) <<< (x3 &&& 31)))), some (.int (x3 + (1 : Int32)))]) dc_X12_whoHave_35 rfl (by decide) rfl (by decide) rfl ?_
      refine ev_goto (tgt := 4) dc_X12_whoHave_38 (by decide) ?_
      exact ev_sub (hk4 (x2 ||| ((1 : Int32) <<< (x3 &&& 31)), x3 + (1 : Int32)) h) (And.intro rfl (And.intro rfl (And.intro rfl (And.intro rfl trivial))))
def fX12_whoHave (N : Nat) (G : pG) (a0 : Nat) (a1 : Int32) (σ : pS) : Option (Int32) := fX12_whoHave_b4 N G a0 a1 σ ((0 : Int32), (0 : Int32))
set_option maxRecDepth 100000 in
set_option maxHeartbeats 4000000 in
theorem tX12_whoHave {N : Nat} {G : pG} {SK : Nat → Nat} {a0 : Nat} {a1 : Int32} {σ : pS} {r : Int32} (hW : WT G) (i0 : Is G a0 11) (h : fX12_whoHave N G a0 a1 σ = some r) : Dn miX12_whoHave yX12_whoHave 2 G SK [.ref a0, .int a1] σ (some (.int r)) σ := by
  unfold fX12_whoHave at h
  refine dn_of (lv := [some (.ref a0), some (.int a1), none, none]) (by decide) rfl rfl (Nat.le_of_ble_eq_true rfl) rfl ?_
  refine ev_iconst (v := 0) dc_X12_whoHave_0 (by decide) ?_
  refine ev_istore_n (lv' := [some (.ref a0), some (.int a1), some (.int (0 : Int32)), none]) dc_X12_whoHave_1 rfl (by decide) rfl ?_
  refine ev_iconst (v := 0) dc_X12_whoHave_2 (by decide) ?_
  refine ev_istore_n (lv' := [some (.ref a0), some (.int a1), some (.int (0 : Int32)), some (.int (0 : Int32))]) dc_X12_whoHave_3 rfl (by decide) rfl ?_
  exact ev_sub (tX12_whoHave_b4 (b := ((0 : Int32), (0 : Int32))) hW i0 h) (And.intro rfl (And.intro rfl (And.intro rfl (And.intro rfl trivial))))
theorem dc_X12_belief_0 : Dc miX12_belief 0 (.aload_n 0) 1 1 := ⟨by decide +kernel, rfl⟩
theorem dc_X12_belief_1 : Dc miX12_belief 1 (.iconst 0) 1 2 := ⟨by decide +kernel, rfl⟩
theorem dc_X12_belief_2 : Dc miX12_belief 2 (.putfield 3) 3 5 := ⟨by decide +kernel, rfl⟩
theorem dc_X12_belief_5 : Dc miX12_belief 5 (.aload_n 0) 1 6 := ⟨by decide +kernel, rfl⟩
theorem dc_X12_belief_6 : Dc miX12_belief 6 (.iload_n 1) 1 7 := ⟨by decide +kernel, rfl⟩
theorem dc_X12_belief_7 : Dc miX12_belief 7 (.invokestatic 385) 3 10 := ⟨by decide +kernel, rfl⟩
theorem dc_X12_belief_10 : Dc miX12_belief 10 (.iconst 1) 1 11 := ⟨by decide +kernel, rfl⟩
theorem dc_X12_belief_11 : Dc miX12_belief 11 (.invokevirtual 274) 3 14 := ⟨by decide +kernel, rfl⟩
theorem dc_X12_belief_14 : Dc miX12_belief 14 (.ifCond .eq 7) 3 17 := ⟨by decide +kernel, rfl⟩
theorem dc_X12_belief_17 : Dc miX12_belief 17 (.iconst 0) 1 18 := ⟨by decide +kernel, rfl⟩
theorem dc_X12_belief_18 : Dc miX12_belief 18 (.goto 12) 3 21 := ⟨by decide +kernel, rfl⟩
theorem dc_X12_belief_21 : Dc miX12_belief 21 (.aload_n 0) 1 22 := ⟨by decide +kernel, rfl⟩
theorem dc_X12_belief_22 : Dc miX12_belief 22 (.aload_n 0) 1 23 := ⟨by decide +kernel, rfl⟩
theorem dc_X12_belief_23 : Dc miX12_belief 23 (.iload_n 1) 1 24 := ⟨by decide +kernel, rfl⟩
theorem dc_X12_belief_24 : Dc miX12_belief 24 (.invokevirtual 456) 3 27 := ⟨by decide +kernel, rfl⟩
theorem dc_X12_belief_27 : Dc miX12_belief 27 (.invokevirtual 453) 3 30 := ⟨by decide +kernel, rfl⟩
theorem dc_X12_belief_30 : Dc miX12_belief 30 (.ireturn) 1 31 := ⟨by decide +kernel, rfl⟩
def fX12_belief (N : Nat) (G : pG) (a0 : Nat) (a1 : Int32) (σ : pS) : Option (Int32 × pS) := (fX12_noTrait N G a1 (putF σ a0 0 (0 : Int32))).bind (fun q1 => (fX12_throwsIf N G a0 q1 (1 : Int32) (putF σ a0 0 (0 : Int32))).bind (fun q2 => if q2.1 = 0 then ((fX12_whoHave N G a0 a1 q2.2).bind (fun q3 => (fX12_beliefOf N G a0 q3 q2.2).bind (fun q4 => some (q4, q2.2)))) else (some ((0 : Int32), q2.2))))
set_option maxRecDepth 100000 in
set_option maxHeartbeats 4000000 in
theorem tX12_belief {N : Nat} {G : pG} {SK : Nat → Nat} {a0 : Nat} {a1 : Int32} {σ : pS} {r : Int32 × pS} (hW : WT G) (i0 : Is G a0 11) (h : fX12_belief N G a0 a1 σ = some r) : Dn miX12_belief yX12_belief 4 G SK [.ref a0, .int a1] σ (some (.int r.1)) r.2 := by
  unfold fX12_belief at h
  refine dn_of (lv := [some (.ref a0), some (.int a1)]) (by decide) rfl rfl (Nat.le_of_ble_eq_true rfl) rfl ?_
  refine ev_aload_n dc_X12_belief_0 rfl ?_
  refine ev_iconst (v := 0) dc_X12_belief_1 (by decide) ?_
  refine ev_putI dc_X12_belief_2 fi_X12_3 rfl i0 ?_
  refine ev_aload_n dc_X12_belief_5 rfl ?_
  refine ev_iload_n dc_X12_belief_6 rfl ?_
  obtain ⟨q1, hq1, h⟩ := Option.bind_eq_some_iff.mp h
  refine ev_callS (av := [.int a1]) (st := [.ref a0]) (st1 := [.int q1, .ref a0]) dc_X12_belief_7 (tX12_noTrait hW hq1) mw_1954 cs_X12_noTrait rfl rfl rfl (Nat.le_of_ble_eq_true rfl) (Nat.le_of_ble_eq_true rfl) ⟨Nat.le_refl _, Nat.le_refl _⟩ ?_
  refine ev_iconst (v := 1) dc_X12_belief_10 (by decide) ?_
  obtain ⟨q2, hq2, h⟩ := Option.bind_eq_some_iff.mp h
  refine ev_callV (av := [.int q1, .int (1 : Int32)]) (st := []) (st1 := [.int q2.1]) dc_X12_belief_11 (tX12_throwsIf hW i0 hq2) mw_1784 cy_X12_throwsIf i0 (by decide) rfl rfl rfl rfl (Nat.le_of_ble_eq_true rfl) (Nat.le_of_ble_eq_true rfl) ⟨Nat.le_refl _, Nat.le_refl _⟩ ?_
  refine ev_if_eq (tgt := 21) dc_X12_belief_14 (by decide) h (fun h => ?_) (fun h => ?_)
  · refine ev_aload_n dc_X12_belief_21 rfl ?_
    refine ev_aload_n dc_X12_belief_22 rfl ?_
    refine ev_iload_n dc_X12_belief_23 rfl ?_
    obtain ⟨q3, hq3, h⟩ := Option.bind_eq_some_iff.mp h
    refine ev_callV (av := [.int a1]) (st := [.ref a0]) (st1 := [.int q3, .ref a0]) dc_X12_belief_24 (tX12_whoHave hW i0 hq3) mw_2090 cy_X12_whoHave i0 (by decide) rfl rfl rfl rfl (Nat.le_of_ble_eq_true rfl) (Nat.le_of_ble_eq_true rfl) ⟨Nat.le_refl _, Nat.le_refl _⟩ ?_
    obtain ⟨q4, hq4, h⟩ := Option.bind_eq_some_iff.mp h
    refine ev_callV (av := [.int q3]) (st := []) (st1 := [.int q4]) dc_X12_belief_27 (tX12_beliefOf hW i0 hq4) mw_2078 cy_X12_beliefOf i0 (by decide) rfl rfl rfl rfl (Nat.le_of_ble_eq_true rfl) (Nat.le_of_ble_eq_true rfl) ⟨Nat.le_refl _, Nat.le_refl _⟩ ?_
    cases h
    exact ev_iret dc_X12_belief_30 rfl rfl rfl
  · refine ev_iconst (v := 0) dc_X12_belief_17 (by decide) ?_
    refine ev_goto (tgt := 30) dc_X12_belief_18 (by decide) ?_
    cases h
    exact ev_iret dc_X12_belief_30 rfl rfl rfl
