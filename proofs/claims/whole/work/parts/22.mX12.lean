theorem dc_X12_deed_0 : Dc miX12_deed 0 (.aload_n 0) 1 1 := ⟨by decide +kernel, rfl⟩
theorem dc_X12_deed_1 : Dc miX12_deed 1 (.iconst 0) 1 2 := ⟨by decide +kernel, rfl⟩
theorem dc_X12_deed_2 : Dc miX12_deed 2 (.putfield 3) 3 5 := ⟨by decide +kernel, rfl⟩
theorem dc_X12_deed_5 : Dc miX12_deed 5 (.aload_n 0) 1 6 := ⟨by decide +kernel, rfl⟩
theorem dc_X12_deed_6 : Dc miX12_deed 6 (.aload_n 0) 1 7 := ⟨by decide +kernel, rfl⟩
theorem dc_X12_deed_7 : Dc miX12_deed 7 (.iload_n 1) 1 8 := ⟨by decide +kernel, rfl⟩
theorem dc_X12_deed_8 : Dc miX12_deed 8 (.invokevirtual 358) 3 11 := ⟨by decide +kernel, rfl⟩
theorem dc_X12_deed_11 : Dc miX12_deed 11 (.iconst 1) 1 12 := ⟨by decide +kernel, rfl⟩
theorem dc_X12_deed_12 : Dc miX12_deed 12 (.invokevirtual 274) 3 15 := ⟨by decide +kernel, rfl⟩
theorem dc_X12_deed_15 : Dc miX12_deed 15 (.ifCond .ne 25) 3 18 := ⟨by decide +kernel, rfl⟩
theorem dc_X12_deed_18 : Dc miX12_deed 18 (.aload_n 0) 1 19 := ⟨by decide +kernel, rfl⟩
theorem dc_X12_deed_19 : Dc miX12_deed 19 (.iload_n 2) 1 20 := ⟨by decide +kernel, rfl⟩
theorem dc_X12_deed_20 : Dc miX12_deed 20 (.iconst 0) 1 21 := ⟨by decide +kernel, rfl⟩
theorem dc_X12_deed_21 : Dc miX12_deed 21 (.iconst 2) 1 22 := ⟨by decide +kernel, rfl⟩
theorem dc_X12_deed_22 : Dc miX12_deed 22 (.invokestatic 70) 3 25 := ⟨by decide +kernel, rfl⟩
theorem dc_X12_deed_25 : Dc miX12_deed 25 (.ifCond .ne 7) 3 28 := ⟨by decide +kernel, rfl⟩
theorem dc_X12_deed_28 : Dc miX12_deed 28 (.iconst 1) 1 29 := ⟨by decide +kernel, rfl⟩
theorem dc_X12_deed_29 : Dc miX12_deed 29 (.goto 4) 3 32 := ⟨by decide +kernel, rfl⟩
theorem dc_X12_deed_32 : Dc miX12_deed 32 (.iconst 0) 1 33 := ⟨by decide +kernel, rfl⟩
theorem dc_X12_deed_33 : Dc miX12_deed 33 (.iconst 2) 1 34 := ⟨by decide +kernel, rfl⟩
theorem dc_X12_deed_34 : Dc miX12_deed 34 (.invokevirtual 274) 3 37 := ⟨by decide +kernel, rfl⟩
theorem dc_X12_deed_37 : Dc miX12_deed 37 (.ifCond .eq 5) 3 40 := ⟨by decide +kernel, rfl⟩
theorem dc_X12_deed_40 : Dc miX12_deed 40 (.iconst 0) 1 41 := ⟨by decide +kernel, rfl⟩
theorem dc_X12_deed_41 : Dc miX12_deed 41 (.ireturn) 1 42 := ⟨by decide +kernel, rfl⟩
theorem dc_X12_deed_42 : Dc miX12_deed 42 (.aload_n 0) 1 43 := ⟨by decide +kernel, rfl⟩
theorem dc_X12_deed_43 : Dc miX12_deed 43 (.invokevirtual 349) 3 46 := ⟨by decide +kernel, rfl⟩
theorem dc_X12_deed_46 : Dc miX12_deed 46 (.iload_n 2) 1 47 := ⟨by decide +kernel, rfl⟩
theorem dc_X12_deed_47 : Dc miX12_deed 47 (.iconst 2) 1 48 := ⟨by decide +kernel, rfl⟩
theorem dc_X12_deed_48 : Dc miX12_deed 48 (.if_icmp .ne 11) 3 51 := ⟨by decide +kernel, rfl⟩
theorem dc_X12_deed_51 : Dc miX12_deed 51 (.aload_n 0) 1 52 := ⟨by decide +kernel, rfl⟩
theorem dc_X12_deed_52 : Dc miX12_deed 52 (.iload_n 1) 1 53 := ⟨by decide +kernel, rfl⟩
theorem dc_X12_deed_53 : Dc miX12_deed 53 (.invokevirtual 337) 3 56 := ⟨by decide +kernel, rfl⟩
theorem dc_X12_deed_56 : Dc miX12_deed 56 (.goto 9) 3 59 := ⟨by decide +kernel, rfl⟩
theorem dc_X12_deed_59 : Dc miX12_deed 59 (.aload_n 0) 1 60 := ⟨by decide +kernel, rfl⟩
theorem dc_X12_deed_60 : Dc miX12_deed 60 (.iload_n 1) 1 61 := ⟨by decide +kernel, rfl⟩
theorem dc_X12_deed_61 : Dc miX12_deed 61 (.iload_n 2) 1 62 := ⟨by decide +kernel, rfl⟩
theorem dc_X12_deed_62 : Dc miX12_deed 62 (.invokevirtual 328) 3 65 := ⟨by decide +kernel, rfl⟩
theorem dc_X12_deed_65 : Dc miX12_deed 65 (.ireturn) 1 66 := ⟨by decide +kernel, rfl⟩
def fX12_deed_b33 (N : Nat) (G : pG) (a0 : Nat) (a1 : Int32) (a2 : Int32) (y1 : Int32) (σ : pS) : Option (Int32 × pS) := (fX12_throwsIf N G a0 y1 (2 : Int32) σ).bind (fun q1 => if q1.1 = 0 then ((fX12_looksNow N G a0 q1.2).bind (fun q2 => if a2 = (2 : Int32) then ((fX12_easesBy N G a0 a1 q2).bind (fun q3 => some (q3.1, q3.2))) else ((fX12_ofDeed N G a0 a1 a2 q2).bind (fun q4 => some (q4, q2))))) else (some ((0 : Int32), q1.2)))
set_option maxRecDepth 100000 in
set_option maxHeartbeats 4000000 in
theorem tX12_deed_b33 {N : Nat} {G : pG} {SK : Nat → Nat} {a0 : Nat} {a1 : Int32} {a2 : Int32} {y1 : Int32} {σ : pS} {r : Int32 × pS} (hW : WT G) (i0 : Is G a0 11) (h : fX12_deed_b33 N G a0 a1 a2 y1 σ = some r) : Ev miX12_deed (5, 0, 0) G (Zp G (some (.int r.1)) r.2) SK (0, 0) 33 [some (.ref a0), some (.int a1), some (.int a2)] [.int y1, .ref a0] σ := by
  unfold fX12_deed_b33 at h
  refine ev_iconst (v := 2) dc_X12_deed_33 (by decide) ?_
  obtain ⟨q1, hq1, h⟩ := Option.bind_eq_some_iff.mp h
  refine ev_callV (av := [.int y1, .int (2 : Int32)]) (st := []) (st1 := [.int q1.1]) dc_X12_deed_34 (tX12_throwsIf hW i0 hq1) mw_1784 cy_X12_throwsIf i0 (by decide) rfl rfl rfl rfl (Nat.le_of_ble_eq_true rfl) (Nat.le_of_ble_eq_true rfl) ⟨Nat.le_refl _, Nat.le_refl _⟩ ?_
  refine ev_if_eq (tgt := 42) dc_X12_deed_37 (by decide) h (fun h => ?_) (fun h => ?_)
  · refine ev_aload_n dc_X12_deed_42 rfl ?_
    obtain ⟨q2, hq2, h⟩ := Option.bind_eq_some_iff.mp h
    refine ev_callV (av := []) (st := []) (st1 := []) dc_X12_deed_43 (tX12_looksNow hW i0 hq2) mw_1804 cy_X12_looksNow i0 (by decide) rfl rfl rfl rfl (Nat.le_of_ble_eq_true rfl) (Nat.le_of_ble_eq_true rfl) ⟨Nat.le_refl _, Nat.le_refl _⟩ ?_
    refine ev_iload_n dc_X12_deed_46 rfl ?_
    refine ev_iconst (v := 2) dc_X12_deed_47 (by decide) ?_
    refine ev_icmp_ne (tgt := 59) dc_X12_deed_48 (by decide) h (fun h => ?_) (fun h => ?_)
    · refine ev_aload_n dc_X12_deed_51 rfl ?_
      refine ev_iload_n dc_X12_deed_52 rfl ?_
      obtain ⟨q3, hq3, h⟩ := Option.bind_eq_some_iff.mp h
      refine ev_callV (av := [.int a1]) (st := []) (st1 := [.int q3.1]) dc_X12_deed_53 (tX12_easesBy hW i0 hq3) mw_1870 cy_X12_easesBy i0 (by decide) rfl rfl rfl rfl (Nat.le_of_ble_eq_true rfl) (Nat.le_of_ble_eq_true rfl) ⟨Nat.le_refl _, Nat.le_refl _⟩ ?_
      refine ev_goto (tgt := 65) dc_X12_deed_56 (by decide) ?_
      cases h
      exact ev_iret dc_X12_deed_65 rfl rfl rfl
    · refine ev_aload_n dc_X12_deed_59 rfl ?_
      refine ev_iload_n dc_X12_deed_60 rfl ?_
      refine ev_iload_n dc_X12_deed_61 rfl ?_
      obtain ⟨q4, hq4, h⟩ := Option.bind_eq_some_iff.mp h
      refine ev_callV (av := [.int a1, .int a2]) (st := []) (st1 := [.int q4]) dc_X12_deed_62 (tX12_ofDeed hW i0 hq4) mw_1874 cy_X12_ofDeed i0 (by decide) rfl rfl rfl rfl (Nat.le_of_ble_eq_true rfl) (Nat.le_of_ble_eq_true rfl) ⟨Nat.le_refl _, Nat.le_refl _⟩ ?_
      cases h
      exact ev_iret dc_X12_deed_65 rfl rfl rfl
  · refine ev_iconst (v := 0) dc_X12_deed_40 (by decide) ?_
    cases h
    exact ev_iret dc_X12_deed_41 rfl rfl rfl
def fX12_deed (N : Nat) (G : pG) (a0 : Nat) (a1 : Int32) (a2 : Int32) (σ : pS) : Option (Int32 × pS) := (fX12_noDeed N G a0 a1 (putF σ a0 0 (0 : Int32))).bind (fun q5 => (fX12_throwsIf N G a0 q5 (1 : Int32) (putF σ a0 0 (0 : Int32))).bind (fun q6 => if q6.1 = 0 then ((fX12_in N G a2 (0 : Int32) (2 : Int32) q6.2).bind (fun q7 => if q7 = 0 then (fX12_deed_b33 N G a0 a1 a2 (1 : Int32) q6.2) else (fX12_deed_b33 N G a0 a1 a2 (0 : Int32) q6.2))) else (some ((0 : Int32), q6.2))))
set_option maxRecDepth 100000 in
set_option maxHeartbeats 4000000 in
theorem tX12_deed {N : Nat} {G : pG} {SK : Nat → Nat} {a0 : Nat} {a1 : Int32} {a2 : Int32} {σ : pS} {r : Int32 × pS} (hW : WT G) (i0 : Is G a0 11) (h : fX12_deed N G a0 a1 a2 σ = some r) : Dn miX12_deed yX12_deed 5 G SK [.ref a0, .int a1, .int a2] σ (some (.int r.1)) r.2 := by
  unfold fX12_deed at h
  refine dn_of (lv := [some (.ref a0), some (.int a1), some (.int a2)]) (by decide) rfl rfl (Nat.le_of_ble_eq_true rfl) rfl ?_
  refine ev_aload_n dc_X12_deed_0 rfl ?_
  refine ev_iconst (v := 0) dc_X12_deed_1 (by decide) ?_
  refine ev_putI dc_X12_deed_2 fi_X12_3 rfl i0 ?_
  refine ev_aload_n dc_X12_deed_5 rfl ?_
  refine ev_aload_n dc_X12_deed_6 rfl ?_
  refine ev_iload_n dc_X12_deed_7 rfl ?_
  obtain ⟨q5, hq5, h⟩ := Option.bind_eq_some_iff.mp h
  refine ev_callV (av := [.int a1]) (st := [.ref a0]) (st1 := [.int q5, .ref a0]) dc_X12_deed_8 (tX12_noDeed hW i0 hq5) mw_1866 cy_X12_noDeed i0 (by decide) rfl rfl rfl rfl (Nat.le_of_ble_eq_true rfl) (Nat.le_of_ble_eq_true rfl) ⟨Nat.le_refl _, Nat.le_refl _⟩ ?_
  refine ev_iconst (v := 1) dc_X12_deed_11 (by decide) ?_
  obtain ⟨q6, hq6, h⟩ := Option.bind_eq_some_iff.mp h
  refine ev_callV (av := [.int q5, .int (1 : Int32)]) (st := []) (st1 := [.int q6.1]) dc_X12_deed_12 (tX12_throwsIf hW i0 hq6) mw_1784 cy_X12_throwsIf i0 (by decide) rfl rfl rfl rfl (Nat.le_of_ble_eq_true rfl) (Nat.le_of_ble_eq_true rfl) ⟨Nat.le_refl _, Nat.le_refl _⟩ ?_
  refine ev_if_ne (tgt := 40) dc_X12_deed_15 (by decide) h (fun h => ?_) (fun h => ?_)
  · refine ev_aload_n dc_X12_deed_18 rfl ?_
    refine ev_iload_n dc_X12_deed_19 rfl ?_
    refine ev_iconst (v := 0) dc_X12_deed_20 (by decide) ?_
    refine ev_iconst (v := 2) dc_X12_deed_21 (by decide) ?_
    obtain ⟨q7, hq7, h⟩ := Option.bind_eq_some_iff.mp h
    refine ev_callS (av := [.int a2, .int (0 : Int32), .int (2 : Int32)]) (st := [.ref a0]) (st1 := [.int q7, .ref a0]) dc_X12_deed_22 (tX12_in hW hq7) mw_1656 cs_X12_in rfl rfl rfl (Nat.le_of_ble_eq_true rfl) (Nat.le_of_ble_eq_true rfl) ⟨Nat.le_refl _, Nat.le_refl _⟩ ?_
    refine ev_if_ne (tgt := 32) dc_X12_deed_25 (by decide) h (fun h => ?_) (fun h => ?_)
    · refine ev_iconst (v := 1) dc_X12_deed_28 (by decide) ?_
      refine ev_goto (tgt := 33) dc_X12_deed_29 (by decide) ?_
      exact ev_sub (tX12_deed_b33 hW i0 h) (And.intro rfl (And.intro rfl (And.intro rfl trivial)))
    · refine ev_iconst (v := 0) dc_X12_deed_32 (by decide) ?_
      exact ev_sub (tX12_deed_b33 hW i0 h) (And.intro rfl (And.intro rfl (And.intro rfl trivial)))
  · refine ev_iconst (v := 0) dc_X12_deed_40 (by decide) ?_
    cases h
    exact ev_iret dc_X12_deed_41 rfl rfl rfl
theorem dc_X12_does_0 : Dc miX12_does 0 (.aload_n 0) 1 1 := ⟨by decide +kernel, rfl⟩
theorem dc_X12_does_1 : Dc miX12_does 1 (.iconst 0) 1 2 := ⟨by decide +kernel, rfl⟩
theorem dc_X12_does_2 : Dc miX12_does 2 (.putfield 3) 3 5 := ⟨by decide +kernel, rfl⟩
theorem dc_X12_does_5 : Dc miX12_does 5 (.aload_n 0) 1 6 := ⟨by decide +kernel, rfl⟩
theorem dc_X12_does_6 : Dc miX12_does 6 (.aload_n 0) 1 7 := ⟨by decide +kernel, rfl⟩
theorem dc_X12_does_7 : Dc miX12_does 7 (.iload_n 1) 1 8 := ⟨by decide +kernel, rfl⟩
theorem dc_X12_does_8 : Dc miX12_does 8 (.invokevirtual 358) 3 11 := ⟨by decide +kernel, rfl⟩
theorem dc_X12_does_11 : Dc miX12_does 11 (.iconst 1) 1 12 := ⟨by decide +kernel, rfl⟩
theorem dc_X12_does_12 : Dc miX12_does 12 (.invokevirtual 274) 3 15 := ⟨by decide +kernel, rfl⟩
theorem dc_X12_does_15 : Dc miX12_does 15 (.ifCond .ne 15) 3 18 := ⟨by decide +kernel, rfl⟩
theorem dc_X12_does_18 : Dc miX12_does 18 (.aload_n 0) 1 19 := ⟨by decide +kernel, rfl⟩
theorem dc_X12_does_19 : Dc miX12_does 19 (.aload_n 0) 1 20 := ⟨by decide +kernel, rfl⟩
theorem dc_X12_does_20 : Dc miX12_does 20 (.invokevirtual 367) 3 23 := ⟨by decide +kernel, rfl⟩
theorem dc_X12_does_23 : Dc miX12_does 23 (.iconst 2) 1 24 := ⟨by decide +kernel, rfl⟩
theorem dc_X12_does_24 : Dc miX12_does 24 (.invokevirtual 274) 3 27 := ⟨by decide +kernel, rfl⟩
theorem dc_X12_does_27 : Dc miX12_does 27 (.ifCond .eq 5) 3 30 := ⟨by decide +kernel, rfl⟩
theorem dc_X12_does_30 : Dc miX12_does 30 (.iconst 0) 1 31 := ⟨by decide +kernel, rfl⟩
theorem dc_X12_does_31 : Dc miX12_does 31 (.ireturn) 1 32 := ⟨by decide +kernel, rfl⟩
theorem dc_X12_does_32 : Dc miX12_does 32 (.aload_n 0) 1 33 := ⟨by decide +kernel, rfl⟩
theorem dc_X12_does_33 : Dc miX12_does 33 (.invokevirtual 373) 3 36 := ⟨by decide +kernel, rfl⟩
theorem dc_X12_does_36 : Dc miX12_does 36 (.aload_n 0) 1 37 := ⟨by decide +kernel, rfl⟩
theorem dc_X12_does_37 : Dc miX12_does 37 (.iload_n 1) 1 38 := ⟨by decide +kernel, rfl⟩
theorem dc_X12_does_38 : Dc miX12_does 38 (.invokevirtual 379) 3 41 := ⟨by decide +kernel, rfl⟩
theorem dc_X12_does_41 : Dc miX12_does 41 (.aload_n 0) 1 42 := ⟨by decide +kernel, rfl⟩
theorem dc_X12_does_42 : Dc miX12_does 42 (.getfield 13) 3 45 := ⟨by decide +kernel, rfl⟩
theorem dc_X12_does_45 : Dc miX12_does 45 (.bipush 7) 2 47 := ⟨by decide +kernel, rfl⟩
theorem dc_X12_does_47 : Dc miX12_does 47 (.iaload) 1 48 := ⟨by decide +kernel, rfl⟩
theorem dc_X12_does_48 : Dc miX12_does 48 (.ireturn) 1 49 := ⟨by decide +kernel, rfl⟩
def fX12_does (N : Nat) (G : pG) (a0 : Nat) (a1 : Int32) (σ : pS) : Option (Int32 × pS) := (fX12_noDeed N G a0 a1 (putF σ a0 0 (0 : Int32))).bind (fun q1 => (fX12_throwsIf N G a0 q1 (1 : Int32) (putF σ a0 0 (0 : Int32))).bind (fun q2 => if q2.1 = 0 then ((fX12_isGone N G a0 q2.2).bind (fun q3 => (fX12_throwsIf N G a0 q3 (2 : Int32) q2.2).bind (fun q4 => if q4.1 = 0 then ((fX12_remembers N G a0 q4.2).bind (fun q5 => (fX12_isDone N G a0 a1 q5).bind (fun q6 => ck (inB (7 : Int32) (pN G (pR G a0 1))) (some (gA q6 (pR G a0 1) (7 : Int32), q6))))) else (some ((0 : Int32), q4.2))))) else (some ((0 : Int32), q2.2))))
set_option maxRecDepth 100000 in
set_option maxHeartbeats 4000000 in
theorem tX12_does {N : Nat} {G : pG} {SK : Nat → Nat} {a0 : Nat} {a1 : Int32} {σ : pS} {r : Int32 × pS} (hW : WT G) (i0 : Is G a0 11) (h : fX12_does N G a0 a1 σ = some r) : Dn miX12_does yX12_does 7 G SK [.ref a0, .int a1] σ (some (.int r.1)) r.2 := by
  unfold fX12_does at h
  refine dn_of (lv := [some (.ref a0), some (.int a1)]) (by decide) rfl rfl (Nat.le_of_ble_eq_true rfl) rfl ?_
  refine ev_aload_n dc_X12_does_0 rfl ?_
  refine ev_iconst (v := 0) dc_X12_does_1 (by decide) ?_
  refine ev_putI dc_X12_does_2 fi_X12_3 rfl i0 ?_
  refine ev_aload_n dc_X12_does_5 rfl ?_
  refine ev_aload_n dc_X12_does_6 rfl ?_
  refine ev_iload_n dc_X12_does_7 rfl ?_
  obtain ⟨q1, hq1, h⟩ := Option.bind_eq_some_iff.mp h
  refine ev_callV (av := [.int a1]) (st := [.ref a0]) (st1 := [.int q1, .ref a0]) dc_X12_does_8 (tX12_noDeed hW i0 hq1) mw_1866 cy_X12_noDeed i0 (by decide) rfl rfl rfl rfl (Nat.le_of_ble_eq_true rfl) (Nat.le_of_ble_eq_true rfl) ⟨Nat.le_refl _, Nat.le_refl _⟩ ?_
  refine ev_iconst (v := 1) dc_X12_does_11 (by decide) ?_
  obtain ⟨q2, hq2, h⟩ := Option.bind_eq_some_iff.mp h
  refine ev_callV (av := [.int q1, .int (1 : Int32)]) (st := []) (st1 := [.int q2.1]) dc_X12_does_12 (tX12_throwsIf hW i0 hq2) mw_1784 cy_X12_throwsIf i0 (by decide) rfl rfl rfl rfl (Nat.le_of_ble_eq_true rfl) (Nat.le_of_ble_eq_true rfl) ⟨Nat.le_refl _, Nat.le_refl _⟩ ?_
  refine ev_if_ne (tgt := 30) dc_X12_does_15 (by decide) h (fun h => ?_) (fun h => ?_)
  · refine ev_aload_n dc_X12_does_18 rfl ?_
    refine ev_aload_n dc_X12_does_19 rfl ?_
    obtain ⟨q3, hq3, h⟩ := Option.bind_eq_some_iff.mp h
    refine ev_callV (av := []) (st := [.ref a0]) (st1 := [.int q3, .ref a0]) dc_X12_does_20 (tX12_isGone hW i0 hq3) mw_1902 cy_X12_isGone i0 (by decide) rfl rfl rfl rfl (Nat.le_of_ble_eq_true rfl) (Nat.le_of_ble_eq_true rfl) ⟨Nat.le_refl _, Nat.le_refl _⟩ ?_
    refine ev_iconst (v := 2) dc_X12_does_23 (by decide) ?_
    obtain ⟨q4, hq4, h⟩ := Option.bind_eq_some_iff.mp h
    refine ev_callV (av := [.int q3, .int (2 : Int32)]) (st := []) (st1 := [.int q4.1]) dc_X12_does_24 (tX12_throwsIf hW i0 hq4) mw_1784 cy_X12_throwsIf i0 (by decide) rfl rfl rfl rfl (Nat.le_of_ble_eq_true rfl) (Nat.le_of_ble_eq_true rfl) ⟨Nat.le_refl _, Nat.le_refl _⟩ ?_
    refine ev_if_eq (tgt := 32) dc_X12_does_27 (by decide) h (fun h => ?_) (fun h => ?_)
    · refine ev_aload_n dc_X12_does_32 rfl ?_
      obtain ⟨q5, hq5, h⟩ := Option.bind_eq_some_iff.mp h
      refine ev_callV (av := []) (st := []) (st1 := []) dc_X12_does_33 (tX12_remembers hW i0 hq5) mw_1910 cy_X12_remembers i0 (by decide) rfl rfl rfl rfl (Nat.le_of_ble_eq_true rfl) (Nat.le_of_ble_eq_true rfl) ⟨Nat.le_refl _, Nat.le_refl _⟩ ?_
      refine ev_aload_n dc_X12_does_36 rfl ?_
      refine ev_iload_n dc_X12_does_37 rfl ?_
      obtain ⟨q6, hq6, h⟩ := Option.bind_eq_some_iff.mp h
      refine ev_callV (av := [.int a1]) (st := []) (st1 := []) dc_X12_does_38 (tX12_isDone hW i0 hq6) mw_1926 cy_X12_isDone i0 (by decide) rfl rfl rfl rfl (Nat.le_of_ble_eq_true rfl) (Nat.le_of_ble_eq_true rfl) ⟨Nat.le_refl _, Nat.le_refl _⟩ ?_
      refine ev_aload_n dc_X12_does_41 rfl ?_
      refine ev_getR dc_X12_does_42 fi_X12_13 rfl i0 ?_
      refine ev_bipush (v := 7) dc_X12_does_45 (by decide) ?_
      refine ev_iald dc_X12_does_47 (wt hW i0 1 rfl rfl) h (fun h => ?_)
      cases h
      exact ev_iret dc_X12_does_48 rfl rfl rfl
    · refine ev_iconst (v := 0) dc_X12_does_30 (by decide) ?_
      cases h
      exact ev_iret dc_X12_does_31 rfl rfl rfl
  · refine ev_iconst (v := 0) dc_X12_does_30 (by decide) ?_
    cases h
    exact ev_iret dc_X12_does_31 rfl rfl rfl
theorem dc_X12_drawn_0 : Dc miX12_drawn 0 (.aload_n 0) 1 1 := ⟨by decide +kernel, rfl⟩
theorem dc_X12_drawn_1 : Dc miX12_drawn 1 (.getfield 13) 3 4 := ⟨by decide +kernel, rfl⟩
theorem dc_X12_drawn_4 : Dc miX12_drawn 4 (.bipush 16) 2 6 := ⟨by decide +kernel, rfl⟩
theorem dc_X12_drawn_6 : Dc miX12_drawn 6 (.ldc 83) 2 8 := ⟨by decide +kernel, rfl⟩
theorem dc_X12_drawn_8 : Dc miX12_drawn 8 (.aload_n 0) 1 9 := ⟨by decide +kernel, rfl⟩
theorem dc_X12_drawn_9 : Dc miX12_drawn 9 (.getfield 13) 3 12 := ⟨by decide +kernel, rfl⟩
theorem dc_X12_drawn_12 : Dc miX12_drawn 12 (.bipush 16) 2 14 := ⟨by decide +kernel, rfl⟩
theorem dc_X12_drawn_14 : Dc miX12_drawn 14 (.iaload) 1 15 := ⟨by decide +kernel, rfl⟩
theorem dc_X12_drawn_15 : Dc miX12_drawn 15 (.imul) 1 16 := ⟨by decide +kernel, rfl⟩
theorem dc_X12_drawn_16 : Dc miX12_drawn 16 (.sipush 12345) 3 19 := ⟨by decide +kernel, rfl⟩
theorem dc_X12_drawn_19 : Dc miX12_drawn 19 (.iadd) 1 20 := ⟨by decide +kernel, rfl⟩
theorem dc_X12_drawn_20 : Dc miX12_drawn 20 (.iastore) 1 21 := ⟨by decide +kernel, rfl⟩
theorem dc_X12_drawn_21 : Dc miX12_drawn 21 (.aload_n 0) 1 22 := ⟨by decide +kernel, rfl⟩
theorem dc_X12_drawn_22 : Dc miX12_drawn 22 (.getfield 13) 3 25 := ⟨by decide +kernel, rfl⟩
theorem dc_X12_drawn_25 : Dc miX12_drawn 25 (.bipush 16) 2 27 := ⟨by decide +kernel, rfl⟩
theorem dc_X12_drawn_27 : Dc miX12_drawn 27 (.iaload) 1 28 := ⟨by decide +kernel, rfl⟩
theorem dc_X12_drawn_28 : Dc miX12_drawn 28 (.bipush 16) 2 30 := ⟨by decide +kernel, rfl⟩
theorem dc_X12_drawn_30 : Dc miX12_drawn 30 (.ishr) 1 31 := ⟨by decide +kernel, rfl⟩
theorem dc_X12_drawn_31 : Dc miX12_drawn 31 (.sipush 32767) 3 34 := ⟨by decide +kernel, rfl⟩
theorem dc_X12_drawn_34 : Dc miX12_drawn 34 (.iand) 1 35 := ⟨by decide +kernel, rfl⟩
theorem dc_X12_drawn_35 : Dc miX12_drawn 35 (.iload_n 1) 1 36 := ⟨by decide +kernel, rfl⟩
theorem dc_X12_drawn_36 : Dc miX12_drawn 36 (.irem) 1 37 := ⟨by decide +kernel, rfl⟩
theorem dc_X12_drawn_37 : Dc miX12_drawn 37 (.ireturn) 1 38 := ⟨by decide +kernel, rfl⟩
def fX12_drawn (N : Nat) (G : pG) (a0 : Nat) (a1 : Int32) (σ : pS) : Option (Int32 × pS) := ck (inB (16 : Int32) (pN G (pR G a0 1))) (ck (inB (16 : Int32) (pN G (pR G a0 1))) (ck (inB (16 : Int32) (pN G (pR G a0 1))) (ck (decide (¬ a1 = 0)) (some (jrem (((gA (sA σ (pR G a0 1) (16 : Int32) (((1103515245 : Int32) * (gA σ (pR G a0 1) (16 : Int32))) + (12345 : Int32))) (pR G a0 1) (16 : Int32)) >>> ((16 : Int32) &&& 31)) &&& (32767 : Int32)) a1, sA σ (pR G a0 1) (16 : Int32) (((1103515245 : Int32) * (gA σ (pR G a0 1) (16 : Int32))) + (12345 : Int32)))))))
set_option maxRecDepth 100000 in
set_option maxHeartbeats 4000000 in
theorem tX12_drawn {N : Nat} {G : pG} {SK : Nat → Nat} {a0 : Nat} {a1 : Int32} {σ : pS} {r : Int32 × pS} (hW : WT G) (i0 : Is G a0 11) (h : fX12_drawn N G a0 a1 σ = some r) : Dn miX12_drawn yX12_drawn 1 G SK [.ref a0, .int a1] σ (some (.int r.1)) r.2 := by
  unfold fX12_drawn at h
  refine dn_of (lv := [some (.ref a0), some (.int a1)]) (by decide) rfl rfl (Nat.le_of_ble_eq_true rfl) rfl ?_
  refine ev_aload_n dc_X12_drawn_0 rfl ?_
  refine ev_getR dc_X12_drawn_1 fi_X12_13 rfl i0 ?_
  refine ev_bipush (v := 16) dc_X12_drawn_4 (by decide) ?_
  refine ev_ldc (v := 1103515245) dc_X12_drawn_6 mw_1977 ?_
  refine ev_aload_n dc_X12_drawn_8 rfl ?_
  refine ev_getR dc_X12_drawn_9 fi_X12_13 rfl i0 ?_
  refine ev_bipush (v := 16) dc_X12_drawn_12 (by decide) ?_
  refine ev_iald dc_X12_drawn_14 (wt hW i0 1 rfl rfl) h (fun h => ?_)
  refine ev_imul dc_X12_drawn_15 ?_
  refine ev_sipush (v := 12345) dc_X12_drawn_16 (by decide) ?_
  refine ev_iadd dc_X12_drawn_19 ?_
  refine ev_iast dc_X12_drawn_20 (wt hW i0 1 rfl rfl) h (fun h => ?_)
  refine ev_aload_n dc_X12_drawn_21 rfl ?_
  refine ev_getR dc_X12_drawn_22 fi_X12_13 rfl i0 ?_
  refine ev_bipush (v := 16) dc_X12_drawn_25 (by decide) ?_
  refine ev_iald dc_X12_drawn_27 (wt hW i0 1 rfl rfl) h (fun h => ?_)
  refine ev_bipush (v := 16) dc_X12_drawn_28 (by decide) ?_
  refine ev_ishr dc_X12_drawn_30 ?_
  refine ev_sipush (v := 32767) dc_X12_drawn_31 (by decide) ?_
  refine ev_iand dc_X12_drawn_34 ?_
  refine ev_iload_n dc_X12_drawn_35 rfl ?_
  obtain ⟨hz, h⟩ := ck_s h
  refine ev_irem dc_X12_drawn_36 (of_decide_eq_true hz) ?_
  cases h
  exact ev_iret dc_X12_drawn_37 rfl rfl rfl
theorem dc_X12_duty_0 : Dc miX12_duty 0 (.aload_n 0) 1 1 := ⟨by decide +kernel, rfl⟩
theorem dc_X12_duty_1 : Dc miX12_duty 1 (.iconst 0) 1 2 := ⟨by decide +kernel, rfl⟩
theorem dc_X12_duty_2 : Dc miX12_duty 2 (.putfield 3) 3 5 := ⟨by decide +kernel, rfl⟩
theorem dc_X12_duty_5 : Dc miX12_duty 5 (.aload_n 0) 1 6 := ⟨by decide +kernel, rfl⟩
theorem dc_X12_duty_6 : Dc miX12_duty 6 (.iload_n 1) 1 7 := ⟨by decide +kernel, rfl⟩
theorem dc_X12_duty_7 : Dc miX12_duty 7 (.iconst 0) 1 8 := ⟨by decide +kernel, rfl⟩
theorem dc_X12_duty_8 : Dc miX12_duty 8 (.aload_n 0) 1 9 := ⟨by decide +kernel, rfl⟩
theorem dc_X12_duty_9 : Dc miX12_duty 9 (.invokevirtual 150) 3 12 := ⟨by decide +kernel, rfl⟩
theorem dc_X12_duty_12 : Dc miX12_duty 12 (.iconst 1) 1 13 := ⟨by decide +kernel, rfl⟩
theorem dc_X12_duty_13 : Dc miX12_duty 13 (.isub) 1 14 := ⟨by decide +kernel, rfl⟩
theorem dc_X12_duty_14 : Dc miX12_duty 14 (.invokestatic 70) 3 17 := ⟨by decide +kernel, rfl⟩
theorem dc_X12_duty_17 : Dc miX12_duty 17 (.ifCond .ne 7) 3 20 := ⟨by decide +kernel, rfl⟩
theorem dc_X12_duty_20 : Dc miX12_duty 20 (.iconst 1) 1 21 := ⟨by decide +kernel, rfl⟩
theorem dc_X12_duty_21 : Dc miX12_duty 21 (.goto 4) 3 24 := ⟨by decide +kernel, rfl⟩
theorem dc_X12_duty_24 : Dc miX12_duty 24 (.iconst 0) 1 25 := ⟨by decide +kernel, rfl⟩
theorem dc_X12_duty_25 : Dc miX12_duty 25 (.iconst 1) 1 26 := ⟨by decide +kernel, rfl⟩
theorem dc_X12_duty_26 : Dc miX12_duty 26 (.invokevirtual 274) 3 29 := ⟨by decide +kernel, rfl⟩
theorem dc_X12_duty_29 : Dc miX12_duty 29 (.ifCond .eq 7) 3 32 := ⟨by decide +kernel, rfl⟩
theorem dc_X12_duty_32 : Dc miX12_duty 32 (.iconst 0) 1 33 := ⟨by decide +kernel, rfl⟩
theorem dc_X12_duty_33 : Dc miX12_duty 33 (.goto 12) 3 36 := ⟨by decide +kernel, rfl⟩
theorem dc_X12_duty_36 : Dc miX12_duty 36 (.aload_n 0) 1 37 := ⟨by decide +kernel, rfl⟩
theorem dc_X12_duty_37 : Dc miX12_duty 37 (.getfield 13) 3 40 := ⟨by decide +kernel, rfl⟩
theorem dc_X12_duty_40 : Dc miX12_duty 40 (.bipush 75) 2 42 := ⟨by decide +kernel, rfl⟩
theorem dc_X12_duty_42 : Dc miX12_duty 42 (.iload_n 1) 1 43 := ⟨by decide +kernel, rfl⟩
theorem dc_X12_duty_43 : Dc miX12_duty 43 (.iadd) 1 44 := ⟨by decide +kernel, rfl⟩
theorem dc_X12_duty_44 : Dc miX12_duty 44 (.iaload) 1 45 := ⟨by decide +kernel, rfl⟩
theorem dc_X12_duty_45 : Dc miX12_duty 45 (.ireturn) 1 46 := ⟨by decide +kernel, rfl⟩
def fX12_duty_b25 (N : Nat) (G : pG) (a0 : Nat) (a1 : Int32) (y1 : Int32) (σ : pS) : Option (Int32 × pS) := (fX12_throwsIf N G a0 y1 (1 : Int32) σ).bind (fun q1 => if q1.1 = 0 then (ck (inB ((75 : Int32) + a1) (pN G (pR G a0 1))) (some (gA q1.2 (pR G a0 1) ((75 : Int32) + a1), q1.2))) else (some ((0 : Int32), q1.2)))
set_option maxRecDepth 100000 in
set_option maxHeartbeats 4000000 in
theorem tX12_duty_b25 {N : Nat} {G : pG} {SK : Nat → Nat} {a0 : Nat} {a1 : Int32} {y1 : Int32} {σ : pS} {r : Int32 × pS} (hW : WT G) (i0 : Is G a0 11) (h : fX12_duty_b25 N G a0 a1 y1 σ = some r) : Ev miX12_duty (2, 0, 0) G (Zp G (some (.int r.1)) r.2) SK (0, 0) 25 [some (.ref a0), some (.int a1)] [.int y1, .ref a0] σ := by
  unfold fX12_duty_b25 at h
  refine ev_iconst (v := 1) dc_X12_duty_25 (by decide) ?_
  obtain ⟨q1, hq1, h⟩ := Option.bind_eq_some_iff.mp h
  refine ev_callV (av := [.int y1, .int (1 : Int32)]) (st := []) (st1 := [.int q1.1]) dc_X12_duty_26 (tX12_throwsIf hW i0 hq1) mw_1784 cy_X12_throwsIf i0 (by decide) rfl rfl rfl rfl (Nat.le_of_ble_eq_true rfl) (Nat.le_of_ble_eq_true rfl) ⟨Nat.le_refl _, Nat.le_refl _⟩ ?_
  refine ev_if_eq (tgt := 36) dc_X12_duty_29 (by decide) h (fun h => ?_) (fun h => ?_)
  · refine ev_aload_n dc_X12_duty_36 rfl ?_
    refine ev_getR dc_X12_duty_37 fi_X12_13 rfl i0 ?_
    refine ev_bipush (v := 75) dc_X12_duty_40 (by decide) ?_
    refine ev_iload_n dc_X12_duty_42 rfl ?_
    refine ev_iadd dc_X12_duty_43 ?_
    refine ev_iald dc_X12_duty_44 (wt hW i0 1 rfl rfl) h (fun h => ?_)
    cases h
    exact ev_iret dc_X12_duty_45 rfl rfl rfl
  · refine ev_iconst (v := 0) dc_X12_duty_32 (by decide) ?_
    refine ev_goto (tgt := 45) dc_X12_duty_33 (by decide) ?_
    cases h
    exact ev_iret dc_X12_duty_45 rfl rfl rfl
def fX12_duty (N : Nat) (G : pG) (a0 : Nat) (a1 : Int32) (σ : pS) : Option (Int32 × pS) := (fX12_duties N G a0 (putF σ a0 0 (0 : Int32))).bind (fun q2 => (fX12_in N G a1 (0 : Int32) (q2 - (1 : Int32)) (putF σ a0 0 (0 : Int32))).bind (fun q3 => if q3 = 0 then (fX12_duty_b25 N G a0 a1 (1 : Int32) (putF σ a0 0 (0 : Int32))) else (fX12_duty_b25 N G a0 a1 (0 : Int32) (putF σ a0 0 (0 : Int32)))))
set_option maxRecDepth 100000 in
set_option maxHeartbeats 4000000 in
theorem tX12_duty {N : Nat} {G : pG} {SK : Nat → Nat} {a0 : Nat} {a1 : Int32} {σ : pS} {r : Int32 × pS} (hW : WT G) (i0 : Is G a0 11) (h : fX12_duty N G a0 a1 σ = some r) : Dn miX12_duty yX12_duty 2 G SK [.ref a0, .int a1] σ (some (.int r.1)) r.2 := by
  unfold fX12_duty at h
  refine dn_of (lv := [some (.ref a0), some (.int a1)]) (by decide) rfl rfl (Nat.le_of_ble_eq_true rfl) rfl ?_
  refine ev_aload_n dc_X12_duty_0 rfl ?_
  refine ev_iconst (v := 0) dc_X12_duty_1 (by decide) ?_
  refine ev_putI dc_X12_duty_2 fi_X12_3 rfl i0 ?_
  refine ev_aload_n dc_X12_duty_5 rfl ?_
  refine ev_iload_n dc_X12_duty_6 rfl ?_
  refine ev_iconst (v := 0) dc_X12_duty_7 (by decide) ?_
  refine ev_aload_n dc_X12_duty_8 rfl ?_
  obtain ⟨q2, hq2, h⟩ := Option.bind_eq_some_iff.mp h
  refine ev_callV (av := []) (st := [.int (0 : Int32), .int a1, .ref a0]) (st1 := [.int q2, .int (0 : Int32), .int a1, .ref a0]) dc_X12_duty_9 (tX12_duties hW i0 hq2) mw_1715 cy_X12_duties i0 (by decide) rfl rfl rfl rfl (Nat.le_of_ble_eq_true rfl) (Nat.le_of_ble_eq_true rfl) ⟨Nat.le_refl _, Nat.le_refl _⟩ ?_
  refine ev_iconst (v := 1) dc_X12_duty_12 (by decide) ?_
  refine ev_isub dc_X12_duty_13 ?_
  obtain ⟨q3, hq3, h⟩ := Option.bind_eq_some_iff.mp h
  refine ev_callS (av := [.int a1, .int (0 : Int32), .int (q2 - (1 : Int32))]) (st := [.ref a0]) (st1 := [.int q3, .ref a0]) dc_X12_duty_14 (tX12_in hW hq3) mw_1656 cs_X12_in rfl rfl rfl (Nat.le_of_ble_eq_true rfl) (Nat.le_of_ble_eq_true rfl) ⟨Nat.le_refl _, Nat.le_refl _⟩ ?_
  refine ev_if_ne (tgt := 24) dc_X12_duty_17 (by decide) h (fun h => ?_) (fun h => ?_)
  · refine ev_iconst (v := 1) dc_X12_duty_20 (by decide) ?_
    refine ev_goto (tgt := 25) dc_X12_duty_21 (by decide) ?_
    exact ev_sub (tX12_duty_b25 hW i0 h) (And.intro rfl (And.intro rfl trivial))
  · refine ev_iconst (v := 0) dc_X12_duty_24 (by decide) ?_
    exact ev_sub (tX12_duty_b25 hW i0 h) (And.intro rfl (And.intro rfl trivial))
theorem dc_X12_emits_0 : Dc miX12_emits 0 (.aload_n 0) 1 1 := ⟨by decide +kernel, rfl⟩
theorem dc_X12_emits_1 : Dc miX12_emits 1 (.getfield 13) 3 4 := ⟨by decide +kernel, rfl⟩
theorem dc_X12_emits_4 : Dc miX12_emits 4 (.sipush 1281) 3 7 := ⟨by decide +kernel, rfl⟩
theorem dc_X12_emits_7 : Dc miX12_emits 7 (.iconst 2) 1 8 := ⟨by decide +kernel, rfl⟩
theorem dc_X12_emits_8 : Dc miX12_emits 8 (.aload_n 0) 1 9 := ⟨by decide +kernel, rfl⟩
theorem dc_X12_emits_9 : Dc miX12_emits 9 (.getfield 202) 3 12 := ⟨by decide +kernel, rfl⟩
theorem dc_X12_emits_12 : Dc miX12_emits 12 (.imul) 1 13 := ⟨by decide +kernel, rfl⟩
theorem dc_X12_emits_13 : Dc miX12_emits 13 (.iadd) 1 14 := ⟨by decide +kernel, rfl⟩
theorem dc_X12_emits_14 : Dc miX12_emits 14 (.iload_n 1) 1 15 := ⟨by decide +kernel, rfl⟩
theorem dc_X12_emits_15 : Dc miX12_emits 15 (.iastore) 1 16 := ⟨by decide +kernel, rfl⟩
theorem dc_X12_emits_16 : Dc miX12_emits 16 (.aload_n 0) 1 17 := ⟨by decide +kernel, rfl⟩
theorem dc_X12_emits_17 : Dc miX12_emits 17 (.getfield 13) 3 20 := ⟨by decide +kernel, rfl⟩
theorem dc_X12_emits_20 : Dc miX12_emits 20 (.sipush 1281) 3 23 := ⟨by decide +kernel, rfl⟩
theorem dc_X12_emits_23 : Dc miX12_emits 23 (.iconst 2) 1 24 := ⟨by decide +kernel, rfl⟩
theorem dc_X12_emits_24 : Dc miX12_emits 24 (.aload_n 0) 1 25 := ⟨by decide +kernel, rfl⟩
theorem dc_X12_emits_25 : Dc miX12_emits 25 (.getfield 202) 3 28 := ⟨by decide +kernel, rfl⟩
theorem dc_X12_emits_28 : Dc miX12_emits 28 (.imul) 1 29 := ⟨by decide +kernel, rfl⟩
theorem dc_X12_emits_29 : Dc miX12_emits 29 (.iadd) 1 30 := ⟨by decide +kernel, rfl⟩
theorem dc_X12_emits_30 : Dc miX12_emits 30 (.iconst 1) 1 31 := ⟨by decide +kernel, rfl⟩
theorem dc_X12_emits_31 : Dc miX12_emits 31 (.iadd) 1 32 := ⟨by decide +kernel, rfl⟩
theorem dc_X12_emits_32 : Dc miX12_emits 32 (.iload_n 2) 1 33 := ⟨by decide +kernel, rfl⟩
theorem dc_X12_emits_33 : Dc miX12_emits 33 (.iastore) 1 34 := ⟨by decide +kernel, rfl⟩
theorem dc_X12_emits_34 : Dc miX12_emits 34 (.aload_n 0) 1 35 := ⟨by decide +kernel, rfl⟩
theorem dc_X12_emits_35 : Dc miX12_emits 35 (.dup) 1 36 := ⟨by decide +kernel, rfl⟩
theorem dc_X12_emits_36 : Dc miX12_emits 36 (.getfield 202) 3 39 := ⟨by decide +kernel, rfl⟩
theorem dc_X12_emits_39 : Dc miX12_emits 39 (.iconst 1) 1 40 := ⟨by decide +kernel, rfl⟩
theorem dc_X12_emits_40 : Dc miX12_emits 40 (.iadd) 1 41 := ⟨by decide +kernel, rfl⟩
theorem dc_X12_emits_41 : Dc miX12_emits 41 (.putfield 202) 3 44 := ⟨by decide +kernel, rfl⟩
theorem dc_X12_emits_44 : Dc miX12_emits 44 (.return_) 1 45 := ⟨by decide +kernel, rfl⟩
def fX12_emits (N : Nat) (G : pG) (a0 : Nat) (a1 : Int32) (a2 : Int32) (σ : pS) : Option (pS) := ck (inB ((1281 : Int32) + ((2 : Int32) * (σ.1 a0 16))) (pN G (pR G a0 1))) (ck (inB (((1281 : Int32) + ((2 : Int32) * ((sA σ (pR G a0 1) ((1281 : Int32) + ((2 : Int32) * (σ.1 a0 16))) a1).1 a0 16))) + (1 : Int32)) (pN G (pR G a0 1))) (some (putF (sA (sA σ (pR G a0 1) ((1281 : Int32) + ((2 : Int32) * (σ.1 a0 16))) a1) (pR G a0 1) (((1281 : Int32) + ((2 : Int32) * ((sA σ (pR G a0 1) ((1281 : Int32) + ((2 : Int32) * (σ.1 a0 16))) a1).1 a0 16))) + (1 : Int32)) a2) a0 16 (((sA (sA σ (pR G a0 1) ((1281 : Int32) + ((2 : Int32) * (σ.1 a0 16))) a1) (pR G a0 1) (((1281 : Int32) + ((2 : Int32) * ((sA σ (pR G a0 1) ((1281 : Int32) + ((2 : Int32) * (σ.1 a0 16))) a1).1 a0 16))) + (1 : Int32)) a2).1 a0 16) + (1 : Int32)))))
set_option maxRecDepth 100000 in
set_option maxHeartbeats 4000000 in
theorem tX12_emits {N : Nat} {G : pG} {SK : Nat → Nat} {a0 : Nat} {a1 : Int32} {a2 : Int32} {σ : pS} {r : pS} (hW : WT G) (i0 : Is G a0 11) (h : fX12_emits N G a0 a1 a2 σ = some r) : Dn miX12_emits yX12_emits 1 G SK [.ref a0, .int a1, .int a2] σ none r := by
  unfold fX12_emits at h
  refine dn_of (lv := [some (.ref a0), some (.int a1), some (.int a2)]) (by decide) rfl rfl (Nat.le_of_ble_eq_true rfl) rfl ?_
  refine ev_aload_n dc_X12_emits_0 rfl ?_
  refine ev_getR dc_X12_emits_1 fi_X12_13 rfl i0 ?_
  refine ev_sipush (v := 1281) dc_X12_emits_4 (by decide) ?_
  refine ev_iconst (v := 2) dc_X12_emits_7 (by decide) ?_
  refine ev_aload_n dc_X12_emits_8 rfl ?_
  refine ev_getI dc_X12_emits_9 fi_X12_202 rfl i0 ?_
  refine ev_imul dc_X12_emits_12 ?_
  refine ev_iadd dc_X12_emits_13 ?_
  refine ev_iload_n dc_X12_emits_14 rfl ?_
  refine ev_iast dc_X12_emits_15 (wt hW i0 1 rfl rfl) h (fun h => ?_)
  refine ev_aload_n dc_X12_emits_16 rfl ?_
  refine ev_getR dc_X12_emits_17 fi_X12_13 rfl i0 ?_
  refine ev_sipush (v := 1281) dc_X12_emits_20 (by decide) ?_
  refine ev_iconst (v := 2) dc_X12_emits_23 (by decide) ?_
  refine ev_aload_n dc_X12_emits_24 rfl ?_
  refine ev_getI dc_X12_emits_25 fi_X12_202 rfl i0 ?_
  refine ev_imul dc_X12_emits_28 ?_
  refine ev_iadd dc_X12_emits_29 ?_
  refine ev_iconst (v := 1) dc_X12_emits_30 (by decide) ?_
  refine ev_iadd dc_X12_emits_31 ?_
  refine ev_iload_n dc_X12_emits_32 rfl ?_
  refine ev_iast dc_X12_emits_33 (wt hW i0 1 rfl rfl) h (fun h => ?_)
  refine ev_aload_n dc_X12_emits_34 rfl ?_
  refine ev_dup dc_X12_emits_35 rfl ?_
  refine ev_getI dc_X12_emits_36 fi_X12_202 rfl i0 ?_
  refine ev_iconst (v := 1) dc_X12_emits_39 (by decide) ?_
  refine ev_iadd dc_X12_emits_40 ?_
  refine ev_putI dc_X12_emits_41 fi_X12_202 rfl i0 ?_
  cases h
  exact ev_vret dc_X12_emits_44 rfl rfl rfl
theorem dc_X12_end_0 : Dc miX12_end 0 (.aload_n 0) 1 1 := ⟨by decide +kernel, rfl⟩
theorem dc_X12_end_1 : Dc miX12_end 1 (.iconst 0) 1 2 := ⟨by decide +kernel, rfl⟩
theorem dc_X12_end_2 : Dc miX12_end 2 (.putfield 3) 3 5 := ⟨by decide +kernel, rfl⟩
theorem dc_X12_end_5 : Dc miX12_end 5 (.iload_n 1) 1 6 := ⟨by decide +kernel, rfl⟩
theorem dc_X12_end_6 : Dc miX12_end 6 (.ifCond .lt 11) 3 9 := ⟨by decide +kernel, rfl⟩
theorem dc_X12_end_9 : Dc miX12_end 9 (.iload_n 1) 1 10 := ⟨by decide +kernel, rfl⟩
theorem dc_X12_end_10 : Dc miX12_end 10 (.aload_n 0) 1 11 := ⟨by decide +kernel, rfl⟩
theorem dc_X12_end_11 : Dc miX12_end 11 (.getfield 84) 3 14 := ⟨by decide +kernel, rfl⟩
theorem dc_X12_end_14 : Dc miX12_end 14 (.if_icmp .le 5) 3 17 := ⟨by decide +kernel, rfl⟩
theorem dc_X12_end_17 : Dc miX12_end 17 (.iconst 0) 1 18 := ⟨by decide +kernel, rfl⟩
theorem dc_X12_end_18 : Dc miX12_end 18 (.ireturn) 1 19 := ⟨by decide +kernel, rfl⟩
theorem dc_X12_end_19 : Dc miX12_end 19 (.aload_n 0) 1 20 := ⟨by decide +kernel, rfl⟩
theorem dc_X12_end_20 : Dc miX12_end 20 (.iload_n 1) 1 21 := ⟨by decide +kernel, rfl⟩
theorem dc_X12_end_21 : Dc miX12_end 21 (.putfield 84) 3 24 := ⟨by decide +kernel, rfl⟩
theorem dc_X12_end_24 : Dc miX12_end 24 (.iconst 1) 1 25 := ⟨by decide +kernel, rfl⟩
theorem dc_X12_end_25 : Dc miX12_end 25 (.ireturn) 1 26 := ⟨by decide +kernel, rfl⟩
def fX12_end (N : Nat) (G : pG) (a0 : Nat) (a1 : Int32) (σ : pS) : Option (Int32 × pS) := if a1 < 0 then (some ((0 : Int32), putF σ a0 0 (0 : Int32))) else (if a1 ≤ ((putF σ a0 0 (0 : Int32)).1 a0 9) then (some ((1 : Int32), putF (putF σ a0 0 (0 : Int32)) a0 9 a1)) else (some ((0 : Int32), putF σ a0 0 (0 : Int32))))
set_option maxRecDepth 100000 in
set_option maxHeartbeats 4000000 in
theorem tX12_end {N : Nat} {G : pG} {SK : Nat → Nat} {a0 : Nat} {a1 : Int32} {σ : pS} {r : Int32 × pS} (hW : WT G) (i0 : Is G a0 11) (h : fX12_end N G a0 a1 σ = some r) : Dn miX12_end yX12_end 1 G SK [.ref a0, .int a1] σ (some (.int r.1)) r.2 := by
  unfold fX12_end at h
  refine dn_of (lv := [some (.ref a0), some (.int a1)]) (by decide) rfl rfl (Nat.le_of_ble_eq_true rfl) rfl ?_
  refine ev_aload_n dc_X12_end_0 rfl ?_
  refine ev_iconst (v := 0) dc_X12_end_1 (by decide) ?_
  refine ev_putI dc_X12_end_2 fi_X12_3 rfl i0 ?_
  refine ev_iload_n dc_X12_end_5 rfl ?_
  refine ev_if_lt (tgt := 17) dc_X12_end_6 (by decide) h (fun h => ?_) (fun h => ?_)
  · refine ev_iconst (v := 0) dc_X12_end_17 (by decide) ?_
    cases h
    exact ev_zretc dc_X12_end_18 rfl rfl rfl rfl
  · refine ev_iload_n dc_X12_end_9 rfl ?_
    refine ev_aload_n dc_X12_end_10 rfl ?_
    refine ev_getI dc_X12_end_11 fi_X12_84 rfl i0 ?_
    refine ev_icmp_le (tgt := 19) dc_X12_end_14 (by decide) h (fun h => ?_) (fun h => ?_)
    · refine ev_aload_n dc_X12_end_19 rfl ?_
      refine ev_iload_n dc_X12_end_20 rfl ?_
      refine ev_putI dc_X12_end_21 fi_X12_84 rfl i0 ?_
      refine ev_iconst (v := 1) dc_X12_end_24 (by decide) ?_
      cases h
      exact ev_zretc dc_X12_end_25 rfl rfl rfl rfl
    · refine ev_iconst (v := 0) dc_X12_end_17 (by decide) ?_
      cases h
      exact ev_zretc dc_X12_end_18 rfl rfl rfl rfl
theorem dc_X12_fault_0 : Dc miX12_fault 0 (.aload_n 0) 1 1 := ⟨by decide +kernel, rfl⟩
theorem dc_X12_fault_1 : Dc miX12_fault 1 (.iconst 0) 1 2 := ⟨by decide +kernel, rfl⟩
theorem dc_X12_fault_2 : Dc miX12_fault 2 (.putfield 3) 3 5 := ⟨by decide +kernel, rfl⟩
theorem dc_X12_fault_5 : Dc miX12_fault 5 (.aload_n 0) 1 6 := ⟨by decide +kernel, rfl⟩
theorem dc_X12_fault_6 : Dc miX12_fault 6 (.getfield 33) 3 9 := ⟨by decide +kernel, rfl⟩
theorem dc_X12_fault_9 : Dc miX12_fault 9 (.ireturn) 1 10 := ⟨by decide +kernel, rfl⟩
def fX12_fault (N : Nat) (G : pG) (a0 : Nat) (σ : pS) : Option (Int32 × pS) := some ((putF σ a0 0 (0 : Int32)).1 a0 14, putF σ a0 0 (0 : Int32))
set_option maxRecDepth 100000 in
set_option maxHeartbeats 4000000 in
theorem tX12_fault {N : Nat} {G : pG} {SK : Nat → Nat} {a0 : Nat} {σ : pS} {r : Int32 × pS} (hW : WT G) (i0 : Is G a0 11) (h : fX12_fault N G a0 σ = some r) : Dn miX12_fault yX12_fault 1 G SK [.ref a0] σ (some (.int r.1)) r.2 := by
  unfold fX12_fault at h
  refine dn_of (lv := [some (.ref a0)]) (by decide) rfl rfl (Nat.le_of_ble_eq_true rfl) rfl ?_
  refine ev_aload_n dc_X12_fault_0 rfl ?_
  refine ev_iconst (v := 0) dc_X12_fault_1 (by decide) ?_
  refine ev_putI dc_X12_fault_2 fi_X12_3 rfl i0 ?_
  refine ev_aload_n dc_X12_fault_5 rfl ?_
  refine ev_getI dc_X12_fault_6 fi_X12_33 rfl i0 ?_
  cases h
  exact ev_iret dc_X12_fault_9 rfl rfl rfl
theorem dc_X12_feed_0 : Dc miX12_feed 0 (.aload_n 0) 1 1 := ⟨by decide +kernel, rfl⟩
theorem dc_X12_feed_1 : Dc miX12_feed 1 (.iconst 0) 1 2 := ⟨by decide +kernel, rfl⟩
theorem dc_X12_feed_2 : Dc miX12_feed 2 (.putfield 3) 3 5 := ⟨by decide +kernel, rfl⟩
theorem dc_X12_feed_5 : Dc miX12_feed 5 (.aload_n 0) 1 6 := ⟨by decide +kernel, rfl⟩
theorem dc_X12_feed_6 : Dc miX12_feed 6 (.getfield 84) 3 9 := ⟨by decide +kernel, rfl⟩
theorem dc_X12_feed_9 : Dc miX12_feed 9 (.bipush 20) 2 11 := ⟨by decide +kernel, rfl⟩
theorem dc_X12_feed_11 : Dc miX12_feed 11 (.iadd) 1 12 := ⟨by decide +kernel, rfl⟩
theorem dc_X12_feed_12 : Dc miX12_feed 12 (.sipush 400) 3 15 := ⟨by decide +kernel, rfl⟩
theorem dc_X12_feed_15 : Dc miX12_feed 15 (.if_icmp .le 5) 3 18 := ⟨by decide +kernel, rfl⟩
theorem dc_X12_feed_18 : Dc miX12_feed 18 (.iconst (-1)) 1 19 := ⟨by decide +kernel, rfl⟩
theorem dc_X12_feed_19 : Dc miX12_feed 19 (.ireturn) 1 20 := ⟨by decide +kernel, rfl⟩
theorem dc_X12_feed_20 : Dc miX12_feed 20 (.aload_n 0) 1 21 := ⟨by decide +kernel, rfl⟩
theorem dc_X12_feed_21 : Dc miX12_feed 21 (.getfield 36) 3 24 := ⟨by decide +kernel, rfl⟩
theorem dc_X12_feed_24 : Dc miX12_feed 24 (.iconst 0) 1 25 := ⟨by decide +kernel, rfl⟩
theorem dc_X12_feed_25 : Dc miX12_feed 25 (.iload_n 1) 1 26 := ⟨by decide +kernel, rfl⟩
theorem dc_X12_feed_26 : Dc miX12_feed 26 (.iastore) 1 27 := ⟨by decide +kernel, rfl⟩
theorem dc_X12_feed_27 : Dc miX12_feed 27 (.aload_n 0) 1 28 := ⟨by decide +kernel, rfl⟩
theorem dc_X12_feed_28 : Dc miX12_feed 28 (.getfield 36) 3 31 := ⟨by decide +kernel, rfl⟩
theorem dc_X12_feed_31 : Dc miX12_feed 31 (.iconst 1) 1 32 := ⟨by decide +kernel, rfl⟩
theorem dc_X12_feed_32 : Dc miX12_feed 32 (.iload_n 2) 1 33 := ⟨by decide +kernel, rfl⟩
theorem dc_X12_feed_33 : Dc miX12_feed 33 (.iastore) 1 34 := ⟨by decide +kernel, rfl⟩
theorem dc_X12_feed_34 : Dc miX12_feed 34 (.aload_n 0) 1 35 := ⟨by decide +kernel, rfl⟩
theorem dc_X12_feed_35 : Dc miX12_feed 35 (.getfield 36) 3 38 := ⟨by decide +kernel, rfl⟩
theorem dc_X12_feed_38 : Dc miX12_feed 38 (.iconst 2) 1 39 := ⟨by decide +kernel, rfl⟩
theorem dc_X12_feed_39 : Dc miX12_feed 39 (.iload_n 3) 1 40 := ⟨by decide +kernel, rfl⟩
theorem dc_X12_feed_40 : Dc miX12_feed 40 (.iastore) 1 41 := ⟨by decide +kernel, rfl⟩
theorem dc_X12_feed_41 : Dc miX12_feed 41 (.aload_n 0) 1 42 := ⟨by decide +kernel, rfl⟩
theorem dc_X12_feed_42 : Dc miX12_feed 42 (.getfield 36) 3 45 := ⟨by decide +kernel, rfl⟩
theorem dc_X12_feed_45 : Dc miX12_feed 45 (.iconst 3) 1 46 := ⟨by decide +kernel, rfl⟩
theorem dc_X12_feed_46 : Dc miX12_feed 46 (.iload 4) 2 48 := ⟨by decide +kernel, rfl⟩
theorem dc_X12_feed_48 : Dc miX12_feed 48 (.iastore) 1 49 := ⟨by decide +kernel, rfl⟩
theorem dc_X12_feed_49 : Dc miX12_feed 49 (.aload_n 0) 1 50 := ⟨by decide +kernel, rfl⟩
theorem dc_X12_feed_50 : Dc miX12_feed 50 (.getfield 36) 3 53 := ⟨by decide +kernel, rfl⟩
theorem dc_X12_feed_53 : Dc miX12_feed 53 (.iconst 4) 1 54 := ⟨by decide +kernel, rfl⟩
theorem dc_X12_feed_54 : Dc miX12_feed 54 (.iload 5) 2 56 := ⟨by decide +kernel, rfl⟩
theorem dc_X12_feed_56 : Dc miX12_feed 56 (.iastore) 1 57 := ⟨by decide +kernel, rfl⟩
theorem dc_X12_feed_57 : Dc miX12_feed 57 (.iconst 0) 1 58 := ⟨by decide +kernel, rfl⟩
theorem dc_X12_feed_58 : Dc miX12_feed 58 (.istore 6) 2 60 := ⟨by decide +kernel, rfl⟩
theorem dc_X12_feed_60 : Dc miX12_feed 60 (.iload 6) 2 62 := ⟨by decide +kernel, rfl⟩
theorem dc_X12_feed_62 : Dc miX12_feed 62 (.bipush 20) 2 64 := ⟨by decide +kernel, rfl⟩
theorem dc_X12_feed_64 : Dc miX12_feed 64 (.if_icmp .ge 42) 3 67 := ⟨by decide +kernel, rfl⟩
theorem dc_X12_feed_67 : Dc miX12_feed 67 (.aload_n 0) 1 68 := ⟨by decide +kernel, rfl⟩
theorem dc_X12_feed_68 : Dc miX12_feed 68 (.getfield 29) 3 71 := ⟨by decide +kernel, rfl⟩
theorem dc_X12_feed_71 : Dc miX12_feed 71 (.aload_n 0) 1 72 := ⟨by decide +kernel, rfl⟩
theorem dc_X12_feed_72 : Dc miX12_feed 72 (.getfield 84) 3 75 := ⟨by decide +kernel, rfl⟩
theorem dc_X12_feed_75 : Dc miX12_feed 75 (.iload 6) 2 77 := ⟨by decide +kernel, rfl⟩
theorem dc_X12_feed_77 : Dc miX12_feed 77 (.iadd) 1 78 := ⟨by decide +kernel, rfl⟩
theorem dc_X12_feed_78 : Dc miX12_feed 78 (.aload_n 0) 1 79 := ⟨by decide +kernel, rfl⟩
theorem dc_X12_feed_79 : Dc miX12_feed 79 (.getfield 36) 3 82 := ⟨by decide +kernel, rfl⟩
theorem dc_X12_feed_82 : Dc miX12_feed 82 (.iload 6) 2 84 := ⟨by decide +kernel, rfl⟩
theorem dc_X12_feed_84 : Dc miX12_feed 84 (.iconst 4) 1 85 := ⟨by decide +kernel, rfl⟩
theorem dc_X12_feed_85 : Dc miX12_feed 85 (.idiv) 1 86 := ⟨by decide +kernel, rfl⟩
theorem dc_X12_feed_86 : Dc miX12_feed 86 (.iaload) 1 87 := ⟨by decide +kernel, rfl⟩
theorem dc_X12_feed_87 : Dc miX12_feed 87 (.bipush 24) 2 89 := ⟨by decide +kernel, rfl⟩
theorem dc_X12_feed_89 : Dc miX12_feed 89 (.bipush 8) 2 91 := ⟨by decide +kernel, rfl⟩
theorem dc_X12_feed_91 : Dc miX12_feed 91 (.iload 6) 2 93 := ⟨by decide +kernel, rfl⟩
theorem dc_X12_feed_93 : Dc miX12_feed 93 (.iconst 4) 1 94 := ⟨by decide +kernel, rfl⟩
theorem dc_X12_feed_94 : Dc miX12_feed 94 (.irem) 1 95 := ⟨by decide +kernel, rfl⟩
theorem dc_X12_feed_95 : Dc miX12_feed 95 (.imul) 1 96 := ⟨by decide +kernel, rfl⟩
theorem dc_X12_feed_96 : Dc miX12_feed 96 (.isub) 1 97 := ⟨by decide +kernel, rfl⟩
theorem dc_X12_feed_97 : Dc miX12_feed 97 (.ishr) 1 98 := ⟨by decide +kernel, rfl⟩
theorem dc_X12_feed_98 : Dc miX12_feed 98 (.i2b) 1 99 := ⟨by decide +kernel, rfl⟩
theorem dc_X12_feed_99 : Dc miX12_feed 99 (.bastore) 1 100 := ⟨by decide +kernel, rfl⟩
theorem dc_X12_feed_100 : Dc miX12_feed 100 (.iinc 6 1) 3 103 := ⟨by decide +kernel, rfl⟩
theorem dc_X12_feed_103 : Dc miX12_feed 103 (.goto (-43)) 3 106 := ⟨by decide +kernel, rfl⟩
theorem dc_X12_feed_106 : Dc miX12_feed 106 (.aload_n 0) 1 107 := ⟨by decide +kernel, rfl⟩
theorem dc_X12_feed_107 : Dc miX12_feed 107 (.dup) 1 108 := ⟨by decide +kernel, rfl⟩
theorem dc_X12_feed_108 : Dc miX12_feed 108 (.getfield 84) 3 111 := ⟨by decide +kernel, rfl⟩
theorem dc_X12_feed_111 : Dc miX12_feed 111 (.bipush 20) 2 113 := ⟨by decide +kernel, rfl⟩
theorem dc_X12_feed_113 : Dc miX12_feed 113 (.iadd) 1 114 := ⟨by decide +kernel, rfl⟩
theorem dc_X12_feed_114 : Dc miX12_feed 114 (.putfield 84) 3 117 := ⟨by decide +kernel, rfl⟩
theorem dc_X12_feed_117 : Dc miX12_feed 117 (.aload_n 0) 1 118 := ⟨by decide +kernel, rfl⟩
theorem dc_X12_feed_118 : Dc miX12_feed 118 (.getfield 84) 3 121 := ⟨by decide +kernel, rfl⟩
theorem dc_X12_feed_121 : Dc miX12_feed 121 (.ireturn) 1 122 := ⟨by decide +kernel, rfl⟩
def fX12_feed_b60 (N : Nat) (G : pG) (a0 : Nat) : (Int32 × pS) → Option (Int32 × pS) := lp (fun (k60 : Int32 × pS → Option (Int32 × pS)) (b : Int32 × pS) => if (20 : Int32) ≤ b.1 then (some ((putF b.2 a0 9 ((b.2.1 a0 9) + (20 : Int32))).1 a0 9, putF b.2 a0 9 ((b.2.1 a0 9) + (20 : Int32)))) else (ck (inB (b.1 / (4 : Int32)) (pN G (pR G a0 15))) (ck (inB ((b.2.1 a0 9) + b.1) (pN G (pR G a0 8))) (k60 (b.1 + (1 : Int32), sA b.2 (pR G a0 8) ((b.2.1 a0 9) + b.1) (vp_nar .byte (((gA b.2 (pR G a0 15) (b.1 / (4 : Int32))) >>> (((24 : Int32) - ((8 : Int32) * (jrem b.1 (4 : Int32)))) &&& 31)).toInt8.toInt32))))))) N
set_option maxRecDepth 100000 in
set_option maxHeartbeats 4000000 in
theorem tX12_feed_b60 {N : Nat} {G : pG} {SK : Nat → Nat} {a0 : Nat} {b : Int32 × pS} {r : Int32 × pS} (hW : WT G) (i0 : Is G a0 11) (h : fX12_feed_b60 N G a0 b = some r) : Ev miX12_feed (1, 0, 0) G (Zp G (some (.int r.1)) r.2) SK (0, 0) 60 [some (.ref a0), none, none, none, none, none, some (.int b.1)] [] b.2 := by
  unfold fX12_feed_b60 at h
  refine lp_ind (P := fun b r9 => r9 = r → Ev miX12_feed (1, 0, 0) G (Zp G (some (.int r.1)) r.2) SK (0, 0) 60 [some (.ref a0), none, none, none, none, none, some (.int b.1)] [] b.2) (fun k60 b r9 ih h9 e9 => ?_) N b r h rfl
  clear h
  subst e9
  have h := h9
  clear h9
  have hk60 : ∀ b : Int32 × pS, k60 b = some r9 → Ev miX12_feed (1, 0, 0) G (Zp G (some (.int r9.1)) r9.2) SK (0, 0) 60 [some (.ref a0), none, none, none, none, none, some (.int b.1)] [] b.2 := fun b hb => ih b r9 hb rfl
  clear ih
  obtain ⟨x6, σ⟩ := b
  dsimp only at h ⊢
  refine ev_iload dc_X12_feed_60 rfl ?_
  refine ev_bipush (v := 20) dc_X12_feed_62 (by decide) ?_
  refine ev_icmp_ge (tgt := 106) dc_X12_feed_64 (by decide) h (fun h => ?_) (fun h => ?_)
  · refine ev_aload_n dc_X12_feed_106 rfl ?_
    refine ev_dup dc_X12_feed_107 rfl ?_
    refine ev_getI dc_X12_feed_108 fi_X12_84 rfl i0 ?_
    refine ev_bipush (v := 20) dc_X12_feed_111 (by decide) ?_
    refine ev_iadd dc_X12_feed_113 ?_
    refine ev_putI dc_X12_feed_114 fi_X12_84 rfl i0 ?_
    refine ev_aload_n dc_X12_feed_117 rfl ?_
    refine ev_getI dc_X12_feed_118 fi_X12_84 rfl i0 ?_
    cases h
    exact ev_iret dc_X12_feed_121 rfl rfl rfl
  · refine ev_aload_n dc_X12_feed_67 rfl ?_
    refine ev_getR dc_X12_feed_68 fi_X12_29 rfl i0 ?_
    refine ev_aload_n dc_X12_feed_71 rfl ?_
    refine ev_getI dc_X12_feed_72 fi_X12_84 rfl i0 ?_
    refine ev_iload dc_X12_feed_75 rfl ?_
    refine ev_iadd dc_X12_feed_77 ?_
    refine ev_aload_n dc_X12_feed_78 rfl ?_
    refine ev_getR dc_X12_feed_79 fi_X12_36 rfl i0 ?_
    refine ev_iload dc_X12_feed_82 rfl ?_
    refine ev_iconst (v := 4) dc_X12_feed_84 (by decide) ?_
    refine ev_idiv dc_X12_feed_85 (by decide) ?_
    refine ev_iald dc_X12_feed_86 (wt hW i0 15 rfl rfl) h (fun h => ?_)
    refine ev_bipush (v := 24) dc_X12_feed_87 (by decide) ?_
    refine ev_bipush (v := 8) dc_X12_feed_89 (by decide) ?_
    refine ev_iload dc_X12_feed_91 rfl ?_
    refine ev_iconst (v := 4) dc_X12_feed_93 (by decide) ?_
    refine ev_irem dc_X12_feed_94 (by decide) ?_
    refine ev_imul dc_X12_feed_95 ?_
    refine ev_isub dc_X12_feed_96 ?_
    refine ev_ishr dc_X12_feed_97 ?_
    refine ev_i2b dc_X12_feed_98 ?_
    refine ev_bast dc_X12_feed_99 (wt hW i0 8 rfl rfl) h (fun h => ?_)
    refine ev_iinc (v := 1) (lv' := [some (.ref a0), none, none, none, none, none, some (.int (x6 + (1 : Int32)))]) dc_X12_feed_100 rfl (by decide) rfl (by decide) rfl ?_
    refine ev_goto (tgt := 60) dc_X12_feed_103 (by decide) ?_
    exact ev_sub (hk60 (x6 + (1 : Int32), sA σ (pR G a0 8) ((σ.1 a0 9) + x6) (vp_nar .byte (((gA σ (pR G a0 15) (x6 / (4 : Int32))) >>> (((24 : Int32) - ((8 : Int32) * (jrem x6 (4 : Int32)))) &&& 31)).toInt8.toInt32))) h) (And.intro rfl (And.intro rfl trivial))
def fX12_feed (N : Nat) (G : pG) (a0 : Nat) (a1 : Int32) (a2 : Int32) (a3 : Int32) (a4 : Int32) (a5 : Int32) (σ : pS) : Option (Int32 × pS) := if (((putF σ a0 0 (0 : Int32)).1 a0 9) + (20 : Int32)) ≤ (400 : Int32) then (ck (inB (0 : Int32) (pN G (pR G a0 15))) (ck (inB (1 : Int32) (pN G (pR G a0 15))) (ck (inB (2 : Int32) (pN G (pR G a0 15))) (ck (inB (3 : Int32) (pN G (pR G a0 15))) (ck (inB (4 : Int32) (pN G (pR G a0 15))) (fX12_feed_b60 N G a0 ((0 : Int32), sA (sA (sA (sA (sA (putF σ a0 0 (0 : Int32)) (pR G a0 15) (0 : Int32) a1) (pR G a0 15) (1 : Int32) a2) (pR G a0 15) (2 : Int32) a3) (pR G a0 15) (3 : Int32) a4) (pR G a0 15) (4 : Int32) a5))))))) else (some ((-1 : Int32), putF σ a0 0 (0 : Int32)))
set_option maxRecDepth 100000 in
set_option maxHeartbeats 4000000 in
theorem tX12_feed {N : Nat} {G : pG} {SK : Nat → Nat} {a0 : Nat} {a1 : Int32} {a2 : Int32} {a3 : Int32} {a4 : Int32} {a5 : Int32} {σ : pS} {r : Int32 × pS} (hW : WT G) (i0 : Is G a0 11) (h : fX12_feed N G a0 a1 a2 a3 a4 a5 σ = some r) : Dn miX12_feed yX12_feed 1 G SK [.ref a0, .int a1, .int a2, .int a3, .int a4, .int a5] σ (some (.int r.1)) r.2 := by
  unfold fX12_feed at h
  refine dn_of (lv := [some (.ref a0), some (.int a1), some (.int a2), some (.int a3), some (.int a4), some (.int a5), none]) (by decide) rfl rfl (Nat.le_of_ble_eq_true rfl) rfl ?_
  refine ev_aload_n dc_X12_feed_0 rfl ?_
  refine ev_iconst (v := 0) dc_X12_feed_1 (by decide) ?_
  refine ev_putI dc_X12_feed_2 fi_X12_3 rfl i0 ?_
  refine ev_aload_n dc_X12_feed_5 rfl ?_
  refine ev_getI dc_X12_feed_6 fi_X12_84 rfl i0 ?_
  refine ev_bipush (v := 20) dc_X12_feed_9 (by decide) ?_
  refine ev_iadd dc_X12_feed_11 ?_
  refine ev_sipush (v := 400) dc_X12_feed_12 (by decide) ?_
  refine ev_icmp_le (tgt := 20) dc_X12_feed_15 (by decide) h (fun h => ?_) (fun h => ?_)
  · refine ev_aload_n dc_X12_feed_20 rfl ?_
    refine ev_getR dc_X12_feed_21 fi_X12_36 rfl i0 ?_
    refine ev_iconst (v := 0) dc_X12_feed_24 (by decide) ?_
    refine ev_iload_n dc_X12_feed_25 rfl ?_
    refine ev_iast dc_X12_feed_26 (wt hW i0 15 rfl rfl) h (fun h => ?_)
    refine ev_aload_n dc_X12_feed_27 rfl ?_
    refine ev_getR dc_X12_feed_28 fi_X12_36 rfl i0 ?_
    refine ev_iconst (v := 1) dc_X12_feed_31 (by decide) ?_
    refine ev_iload_n dc_X12_feed_32 rfl ?_
    refine ev_iast dc_X12_feed_33 (wt hW i0 15 rfl rfl) h (fun h => ?_)
    refine ev_aload_n dc_X12_feed_34 rfl ?_
    refine ev_getR dc_X12_feed_35 fi_X12_36 rfl i0 ?_
    refine ev_iconst (v := 2) dc_X12_feed_38 (by decide) ?_
    refine ev_iload_n dc_X12_feed_39 rfl ?_
    refine ev_iast dc_X12_feed_40 (wt hW i0 15 rfl rfl) h (fun h => ?_)
    refine ev_aload_n dc_X12_feed_41 rfl ?_
    refine ev_getR dc_X12_feed_42 fi_X12_36 rfl i0 ?_
    refine ev_iconst (v := 3) dc_X12_feed_45 (by decide) ?_
    refine ev_iload dc_X12_feed_46 rfl ?_
    refine ev_iast dc_X12_feed_48 (wt hW i0 15 rfl rfl) h (fun h => ?_)
    refine ev_aload_n dc_X12_feed_49 rfl ?_
    refine ev_getR dc_X12_feed_50 fi_X12_36 rfl i0 ?_
    refine ev_iconst (v := 4) dc_X12_feed_53 (by decide) ?_
    refine ev_iload dc_X12_feed_54 rfl ?_
    refine ev_iast dc_X12_feed_56 (wt hW i0 15 rfl rfl) h (fun h => ?_)
    refine ev_iconst (v := 0) dc_X12_feed_57 (by decide) ?_
    refine ev_istore (lv' := [some (.ref a0), some (.int a1), some (.int a2), some (.int a3), some (.int a4), some (.int a5), some (.int (0 : Int32))]) dc_X12_feed_58 rfl (by decide) rfl ?_
    exact ev_sub (tX12_feed_b60 (b := ((0 : Int32), sA (sA (sA (sA (sA (putF σ a0 0 (0 : Int32)) (pR G a0 15) (0 : Int32) a1) (pR G a0 15) (1 : Int32) a2) (pR G a0 15) (2 : Int32) a3) (pR G a0 15) (3 : Int32) a4) (pR G a0 15) (4 : Int32) a5)) hW i0 h) (And.intro rfl (And.intro rfl trivial))
  · refine ev_iconst (v := (-1)) dc_X12_feed_18 (by decide) ?_
    cases h
    exact ev_iret dc_X12_feed_19 rfl rfl rfl
theorem dc_X12_fewest_0 : Dc miX12_fewest 0 (.aload_n 0) 1 1 := ⟨by decide +kernel, rfl⟩
theorem dc_X12_fewest_1 : Dc miX12_fewest 1 (.iconst 0) 1 2 := ⟨by decide +kernel, rfl⟩
theorem dc_X12_fewest_2 : Dc miX12_fewest 2 (.putfield 3) 3 5 := ⟨by decide +kernel, rfl⟩
theorem dc_X12_fewest_5 : Dc miX12_fewest 5 (.aload_n 0) 1 6 := ⟨by decide +kernel, rfl⟩
theorem dc_X12_fewest_6 : Dc miX12_fewest 6 (.aload_n 0) 1 7 := ⟨by decide +kernel, rfl⟩
theorem dc_X12_fewest_7 : Dc miX12_fewest 7 (.iload_n 1) 1 8 := ⟨by decide +kernel, rfl⟩
theorem dc_X12_fewest_8 : Dc miX12_fewest 8 (.invokevirtual 343) 3 11 := ⟨by decide +kernel, rfl⟩
theorem dc_X12_fewest_11 : Dc miX12_fewest 11 (.iconst 1) 1 12 := ⟨by decide +kernel, rfl⟩
theorem dc_X12_fewest_12 : Dc miX12_fewest 12 (.invokevirtual 274) 3 15 := ⟨by decide +kernel, rfl⟩
theorem dc_X12_fewest_15 : Dc miX12_fewest 15 (.ifCond .eq 5) 3 18 := ⟨by decide +kernel, rfl⟩
theorem dc_X12_fewest_18 : Dc miX12_fewest 18 (.iconst 0) 1 19 := ⟨by decide +kernel, rfl⟩
theorem dc_X12_fewest_19 : Dc miX12_fewest 19 (.ireturn) 1 20 := ⟨by decide +kernel, rfl⟩
theorem dc_X12_fewest_20 : Dc miX12_fewest 20 (.iconst 0) 1 21 := ⟨by decide +kernel, rfl⟩
theorem dc_X12_fewest_21 : Dc miX12_fewest 21 (.istore_n 2) 1 22 := ⟨by decide +kernel, rfl⟩
theorem dc_X12_fewest_22 : Dc miX12_fewest 22 (.iload_n 2) 1 23 := ⟨by decide +kernel, rfl⟩
theorem dc_X12_fewest_23 : Dc miX12_fewest 23 (.aload_n 0) 1 24 := ⟨by decide +kernel, rfl⟩
theorem dc_X12_fewest_24 : Dc miX12_fewest 24 (.getfield 45) 3 27 := ⟨by decide +kernel, rfl⟩
theorem dc_X12_fewest_27 : Dc miX12_fewest 27 (.arraylength) 1 28 := ⟨by decide +kernel, rfl⟩
theorem dc_X12_fewest_28 : Dc miX12_fewest 28 (.if_icmp .ge 16) 3 31 := ⟨by decide +kernel, rfl⟩
theorem dc_X12_fewest_31 : Dc miX12_fewest 31 (.aload_n 0) 1 32 := ⟨by decide +kernel, rfl⟩
theorem dc_X12_fewest_32 : Dc miX12_fewest 32 (.getfield 45) 3 35 := ⟨by decide +kernel, rfl⟩
theorem dc_X12_fewest_35 : Dc miX12_fewest 35 (.iload_n 2) 1 36 := ⟨by decide +kernel, rfl⟩
theorem dc_X12_fewest_36 : Dc miX12_fewest 36 (.iconst 0) 1 37 := ⟨by decide +kernel, rfl⟩
theorem dc_X12_fewest_37 : Dc miX12_fewest 37 (.bastore) 1 38 := ⟨by decide +kernel, rfl⟩
theorem dc_X12_fewest_38 : Dc miX12_fewest 38 (.iinc 2 1) 3 41 := ⟨by decide +kernel, rfl⟩
theorem dc_X12_fewest_41 : Dc miX12_fewest 41 (.goto (-19)) 3 44 := ⟨by decide +kernel, rfl⟩
theorem dc_X12_fewest_44 : Dc miX12_fewest 44 (.aload_n 0) 1 45 := ⟨by decide +kernel, rfl⟩
theorem dc_X12_fewest_45 : Dc miX12_fewest 45 (.getfield 45) 3 48 := ⟨by decide +kernel, rfl⟩
theorem dc_X12_fewest_48 : Dc miX12_fewest 48 (.aload_n 0) 1 49 := ⟨by decide +kernel, rfl⟩
theorem dc_X12_fewest_49 : Dc miX12_fewest 49 (.getfield 13) 3 52 := ⟨by decide +kernel, rfl⟩
theorem dc_X12_fewest_52 : Dc miX12_fewest 52 (.bipush 7) 2 54 := ⟨by decide +kernel, rfl⟩
theorem dc_X12_fewest_54 : Dc miX12_fewest 54 (.iaload) 1 55 := ⟨by decide +kernel, rfl⟩
theorem dc_X12_fewest_55 : Dc miX12_fewest 55 (.iconst 1) 1 56 := ⟨by decide +kernel, rfl⟩
theorem dc_X12_fewest_56 : Dc miX12_fewest 56 (.bastore) 1 57 := ⟨by decide +kernel, rfl⟩
theorem dc_X12_fewest_57 : Dc miX12_fewest 57 (.iconst 1) 1 58 := ⟨by decide +kernel, rfl⟩
theorem dc_X12_fewest_58 : Dc miX12_fewest 58 (.istore_n 2) 1 59 := ⟨by decide +kernel, rfl⟩
theorem dc_X12_fewest_59 : Dc miX12_fewest 59 (.iload_n 2) 1 60 := ⟨by decide +kernel, rfl⟩
theorem dc_X12_fewest_60 : Dc miX12_fewest 60 (.bipush 20) 2 62 := ⟨by decide +kernel, rfl⟩
theorem dc_X12_fewest_62 : Dc miX12_fewest 62 (.if_icmp .gt 131) 3 65 := ⟨by decide +kernel, rfl⟩
theorem dc_X12_fewest_65 : Dc miX12_fewest 65 (.aload_n 0) 1 66 := ⟨by decide +kernel, rfl⟩
theorem dc_X12_fewest_66 : Dc miX12_fewest 66 (.invokevirtual 367) 3 69 := ⟨by decide +kernel, rfl⟩
theorem dc_X12_fewest_69 : Dc miX12_fewest 69 (.ifCond .ne 124) 3 72 := ⟨by decide +kernel, rfl⟩
theorem dc_X12_fewest_72 : Dc miX12_fewest 72 (.iconst 0) 1 73 := ⟨by decide +kernel, rfl⟩
theorem dc_X12_fewest_73 : Dc miX12_fewest 73 (.istore_n 3) 1 74 := ⟨by decide +kernel, rfl⟩
theorem dc_X12_fewest_74 : Dc miX12_fewest 74 (.iconst 0) 1 75 := ⟨by decide +kernel, rfl⟩
theorem dc_X12_fewest_75 : Dc miX12_fewest 75 (.istore 4) 2 77 := ⟨by decide +kernel, rfl⟩
theorem dc_X12_fewest_77 : Dc miX12_fewest 77 (.iload 4) 2 79 := ⟨by decide +kernel, rfl⟩
theorem dc_X12_fewest_79 : Dc miX12_fewest 79 (.aload_n 0) 1 80 := ⟨by decide +kernel, rfl⟩
theorem dc_X12_fewest_80 : Dc miX12_fewest 80 (.getfield 49) 3 83 := ⟨by decide +kernel, rfl⟩
theorem dc_X12_fewest_83 : Dc miX12_fewest 83 (.arraylength) 1 84 := ⟨by decide +kernel, rfl⟩
theorem dc_X12_fewest_84 : Dc miX12_fewest 84 (.if_icmp .ge 17) 3 87 := ⟨by decide +kernel, rfl⟩
theorem dc_X12_fewest_87 : Dc miX12_fewest 87 (.aload_n 0) 1 88 := ⟨by decide +kernel, rfl⟩
theorem dc_X12_fewest_88 : Dc miX12_fewest 88 (.getfield 49) 3 91 := ⟨by decide +kernel, rfl⟩
theorem dc_X12_fewest_91 : Dc miX12_fewest 91 (.iload 4) 2 93 := ⟨by decide +kernel, rfl⟩
theorem dc_X12_fewest_93 : Dc miX12_fewest 93 (.iconst 0) 1 94 := ⟨by decide +kernel, rfl⟩
theorem dc_X12_fewest_94 : Dc miX12_fewest 94 (.bastore) 1 95 := ⟨by decide +kernel, rfl⟩
theorem dc_X12_fewest_95 : Dc miX12_fewest 95 (.iinc 4 1) 3 98 := ⟨by decide +kernel, rfl⟩
theorem dc_X12_fewest_98 : Dc miX12_fewest 98 (.goto (-21)) 3 101 := ⟨by decide +kernel, rfl⟩
theorem dc_X12_fewest_101 : Dc miX12_fewest 101 (.iconst 0) 1 102 := ⟨by decide +kernel, rfl⟩
theorem dc_X12_fewest_102 : Dc miX12_fewest 102 (.istore 4) 2 104 := ⟨by decide +kernel, rfl⟩
theorem dc_X12_fewest_104 : Dc miX12_fewest 104 (.iload 4) 2 106 := ⟨by decide +kernel, rfl⟩
theorem dc_X12_fewest_106 : Dc miX12_fewest 106 (.aload_n 0) 1 107 := ⟨by decide +kernel, rfl⟩
theorem dc_X12_fewest_107 : Dc miX12_fewest 107 (.getfield 45) 3 110 := ⟨by decide +kernel, rfl⟩
theorem dc_X12_fewest_110 : Dc miX12_fewest 110 (.arraylength) 1 111 := ⟨by decide +kernel, rfl⟩
theorem dc_X12_fewest_111 : Dc miX12_fewest 111 (.if_icmp .ge 37) 3 114 := ⟨by decide +kernel, rfl⟩
theorem dc_X12_fewest_114 : Dc miX12_fewest 114 (.aload_n 0) 1 115 := ⟨by decide +kernel, rfl⟩
theorem dc_X12_fewest_115 : Dc miX12_fewest 115 (.getfield 45) 3 118 := ⟨by decide +kernel, rfl⟩
theorem dc_X12_fewest_118 : Dc miX12_fewest 118 (.iload 4) 2 120 := ⟨by decide +kernel, rfl⟩
theorem dc_X12_fewest_120 : Dc miX12_fewest 120 (.baload) 1 121 := ⟨by decide +kernel, rfl⟩
theorem dc_X12_fewest_121 : Dc miX12_fewest 121 (.ifCond .eq 21) 3 124 := ⟨by decide +kernel, rfl⟩
theorem dc_X12_fewest_124 : Dc miX12_fewest 124 (.iload_n 3) 1 125 := ⟨by decide +kernel, rfl⟩
theorem dc_X12_fewest_125 : Dc miX12_fewest 125 (.aload_n 0) 1 126 := ⟨by decide +kernel, rfl⟩
theorem dc_X12_fewest_126 : Dc miX12_fewest 126 (.iload_n 1) 1 127 := ⟨by decide +kernel, rfl⟩
theorem dc_X12_fewest_127 : Dc miX12_fewest 127 (.iload 4) 2 129 := ⟨by decide +kernel, rfl⟩
theorem dc_X12_fewest_129 : Dc miX12_fewest 129 (.bipush 100) 2 131 := ⟨by decide +kernel, rfl⟩
theorem dc_X12_fewest_131 : Dc miX12_fewest 131 (.idiv) 1 132 := ⟨by decide +kernel, rfl⟩
theorem dc_X12_fewest_132 : Dc miX12_fewest 132 (.iload 4) 2 134 := ⟨by decide +kernel, rfl⟩
theorem dc_X12_fewest_134 : Dc miX12_fewest 134 (.bipush 100) 2 136 := ⟨by decide +kernel, rfl⟩
theorem dc_X12_fewest_136 : Dc miX12_fewest 136 (.irem) 1 137 := ⟨by decide +kernel, rfl⟩
theorem dc_X12_fewest_137 : Dc miX12_fewest 137 (.invokevirtual 447) 3 140 := ⟨by decide +kernel, rfl⟩
theorem dc_X12_fewest_140 : Dc miX12_fewest 140 (.ior) 1 141 := ⟨by decide +kernel, rfl⟩
theorem dc_X12_fewest_141 : Dc miX12_fewest 141 (.istore_n 3) 1 142 := ⟨by decide +kernel, rfl⟩
theorem dc_X12_fewest_142 : Dc miX12_fewest 142 (.iinc 4 1) 3 145 := ⟨by decide +kernel, rfl⟩
theorem dc_X12_fewest_145 : Dc miX12_fewest 145 (.goto (-41)) 3 148 := ⟨by decide +kernel, rfl⟩
theorem dc_X12_fewest_148 : Dc miX12_fewest 148 (.iload_n 3) 1 149 := ⟨by decide +kernel, rfl⟩
theorem dc_X12_fewest_149 : Dc miX12_fewest 149 (.ifCond .eq 5) 3 152 := ⟨by decide +kernel, rfl⟩
theorem dc_X12_fewest_152 : Dc miX12_fewest 152 (.iload_n 2) 1 153 := ⟨by decide +kernel, rfl⟩
theorem dc_X12_fewest_153 : Dc miX12_fewest 153 (.ireturn) 1 154 := ⟨by decide +kernel, rfl⟩
theorem dc_X12_fewest_154 : Dc miX12_fewest 154 (.iconst 0) 1 155 := ⟨by decide +kernel, rfl⟩
theorem dc_X12_fewest_155 : Dc miX12_fewest 155 (.istore 4) 2 157 := ⟨by decide +kernel, rfl⟩
theorem dc_X12_fewest_157 : Dc miX12_fewest 157 (.iload 4) 2 159 := ⟨by decide +kernel, rfl⟩
theorem dc_X12_fewest_159 : Dc miX12_fewest 159 (.aload_n 0) 1 160 := ⟨by decide +kernel, rfl⟩
theorem dc_X12_fewest_160 : Dc miX12_fewest 160 (.getfield 45) 3 163 := ⟨by decide +kernel, rfl⟩
theorem dc_X12_fewest_163 : Dc miX12_fewest 163 (.arraylength) 1 164 := ⟨by decide +kernel, rfl⟩
theorem dc_X12_fewest_164 : Dc miX12_fewest 164 (.if_icmp .ge 23) 3 167 := ⟨by decide +kernel, rfl⟩
theorem dc_X12_fewest_167 : Dc miX12_fewest 167 (.aload_n 0) 1 168 := ⟨by decide +kernel, rfl⟩
theorem dc_X12_fewest_168 : Dc miX12_fewest 168 (.getfield 45) 3 171 := ⟨by decide +kernel, rfl⟩
theorem dc_X12_fewest_171 : Dc miX12_fewest 171 (.iload 4) 2 173 := ⟨by decide +kernel, rfl⟩
theorem dc_X12_fewest_173 : Dc miX12_fewest 173 (.aload_n 0) 1 174 := ⟨by decide +kernel, rfl⟩
theorem dc_X12_fewest_174 : Dc miX12_fewest 174 (.getfield 49) 3 177 := ⟨by decide +kernel, rfl⟩
theorem dc_X12_fewest_177 : Dc miX12_fewest 177 (.iload 4) 2 179 := ⟨by decide +kernel, rfl⟩
theorem dc_X12_fewest_179 : Dc miX12_fewest 179 (.baload) 1 180 := ⟨by decide +kernel, rfl⟩
theorem dc_X12_fewest_180 : Dc miX12_fewest 180 (.bastore) 1 181 := ⟨by decide +kernel, rfl⟩
theorem dc_X12_fewest_181 : Dc miX12_fewest 181 (.iinc 4 1) 3 184 := ⟨by decide +kernel, rfl⟩
theorem dc_X12_fewest_184 : Dc miX12_fewest 184 (.goto (-27)) 3 187 := ⟨by decide +kernel, rfl⟩
theorem dc_X12_fewest_187 : Dc miX12_fewest 187 (.iinc 2 1) 3 190 := ⟨by decide +kernel, rfl⟩
theorem dc_X12_fewest_190 : Dc miX12_fewest 190 (.goto (-131)) 3 193 := ⟨by decide +kernel, rfl⟩
theorem dc_X12_fewest_193 : Dc miX12_fewest 193 (.iconst (-1)) 1 194 := ⟨by decide +kernel, rfl⟩
theorem dc_X12_fewest_194 : Dc miX12_fewest 194 (.ireturn) 1 195 := ⟨by decide +kernel, rfl⟩
def fX12_fewest_b157 (N : Nat) (G : pG) (k59 : Int32 × pS → Option (Int32 × pS)) (a0 : Nat) (a1 : Int32) (x2 : Int32) : (Int32 × pS) → Option (Int32 × pS) := lp (fun (k157 : Int32 × pS → Option (Int32 × pS)) (b : Int32 × pS) => if (Int32.ofNat (pN G (pR G a0 26))) ≤ b.1 then (k59 (x2 + (1 : Int32), b.2)) else (ck (inB b.1 (pN G (pR G a0 27))) (ck (inB b.1 (pN G (pR G a0 26))) (k157 (b.1 + (1 : Int32), sA b.2 (pR G a0 26) b.1 (vp_nar .boolean (gA b.2 (pR G a0 27) b.1))))))) N
set_option maxRecDepth 100000 in
set_option maxHeartbeats 4000000 in
theorem tX12_fewest_b157 {N : Nat} {G : pG} {SK : Nat → Nat} {k59 : Int32 × pS → Option (Int32 × pS)} {a0 : Nat} {a1 : Int32} {x2 : Int32} {b : Int32 × pS} {r : Int32 × pS} (hW : WT G) (i0 : Is G a0 11) (hk59 : ∀ b : Int32 × pS, k59 b = some r → Ev miX12_fewest (7, 0, 0) G (Zp G (some (.int r.1)) r.2) SK (0, 0) 59 [some (.ref a0), some (.int a1), some (.int b.1), none, none] [] b.2) (h : fX12_fewest_b157 N G k59 a0 a1 x2 b = some r) : Ev miX12_fewest (7, 0, 0) G (Zp G (some (.int r.1)) r.2) SK (0, 0) 157 [some (.ref a0), some (.int a1), some (.int x2), none, some (.int b.1)] [] b.2 := by
  unfold fX12_fewest_b157 at h
  refine lp_ind (P := fun b r9 => r9 = r → Ev miX12_fewest (7, 0, 0) G (Zp G (some (.int r.1)) r.2) SK (0, 0) 157 [some (.ref a0), some (.int a1), some (.int x2), none, some (.int b.1)] [] b.2) (fun k157 b r9 ih h9 e9 => ?_) N b r h rfl
  clear h
  subst e9
  have h := h9
  clear h9
  have hk157 : ∀ b : Int32 × pS, k157 b = some r9 → Ev miX12_fewest (7, 0, 0) G (Zp G (some (.int r9.1)) r9.2) SK (0, 0) 157 [some (.ref a0), some (.int a1), some (.int x2), none, some (.int b.1)] [] b.2 := fun b hb => ih b r9 hb rfl
  clear ih
  obtain ⟨x4, σ⟩ := b
  dsimp only at h ⊢
  refine ev_iload dc_X12_fewest_157 rfl ?_
  refine ev_aload_n dc_X12_fewest_159 rfl ?_
  refine ev_getR dc_X12_fewest_160 fi_X12_45 rfl i0 ?_
  refine ev_alen dc_X12_fewest_163 (wt hW i0 26 rfl rfl) (by decide) rfl ?_
  refine ev_icmp_ge (tgt := 187) dc_X12_fewest_164 (by decide) h (fun h => ?_) (fun h => ?_)
  · refine ev_iinc (v := 1) (lv' := [some (.ref a0), some (.int a1), some (.int (x2 + (1 : Int32))), none, some (.int x4)]) dc_X12_fewest_187 rfl (by decide) rfl (by decide) rfl ?_
    refine ev_goto (tgt := 59) dc_X12_fewest_190 (by decide) ?_
    exact ev_sub (hk59 (x2 + (1 : Int32), σ) h) (And.intro rfl (And.intro rfl (And.intro rfl trivial)))
  · refine ev_aload_n dc_X12_fewest_167 rfl ?_
    refine ev_getR dc_X12_fewest_168 fi_X12_45 rfl i0 ?_
    refine ev_iload dc_X12_fewest_171 rfl ?_
    refine ev_aload_n dc_X12_fewest_173 rfl ?_
    refine ev_getR dc_X12_fewest_174 fi_X12_49 rfl i0 ?_
    refine ev_iload dc_X12_fewest_177 rfl ?_
    refine ev_zald dc_X12_fewest_179 (wt hW i0 27 rfl rfl) h (fun h => ?_)
    refine ev_zast dc_X12_fewest_180 (wt hW i0 26 rfl rfl) h (fun h => ?_)
    refine ev_iinc (v := 1) (lv' := [some (.ref a0), some (.int a1), some (.int x2), none, some (.int (x4 + (1 : Int32)))]) dc_X12_fewest_181 rfl (by decide) rfl (by decide) rfl ?_
    refine ev_goto (tgt := 157) dc_X12_fewest_184 (by decide) ?_
    exact ev_sub (hk157 (x4 + (1 : Int32), sA σ (pR G a0 26) x4 (vp_nar .boolean (gA σ (pR G a0 27) x4))) h) (And.intro rfl (And.intro rfl (And.intro rfl (And.intro rfl trivial))))
def fX12_fewest_b104 (N : Nat) (G : pG) (k59 : Int32 × pS → Option (Int32 × pS)) (a0 : Nat) (a1 : Int32) (x2 : Int32) : (Int32 × Int32 × pS) → Option (Int32 × pS) := lp (fun (k104 : Int32 × Int32 × pS → Option (Int32 × pS)) (b : Int32 × Int32 × pS) => if (Int32.ofNat (pN G (pR G a0 26))) ≤ b.2.1 then (if b.1 = 0 then (fX12_fewest_b157 N G k59 a0 a1 x2 ((0 : Int32), b.2.2)) else (some (x2, b.2.2))) else (ck (inB b.2.1 (pN G (pR G a0 26))) (if (gA b.2.2 (pR G a0 26) b.2.1) = 0 then (k104 (b.1, b.2.1 + (1 : Int32), b.2.2)) else ((fX12_asksBy N G a0 a1 (b.2.1 / (100 : Int32)) (jrem b.2.1 (100 : Int32)) b.2.2).bind (fun q1 => k104 (b.1 ||| q1.1, b.2.1 + (1 : Int32), q1.2)))))) N
set_option maxRecDepth 100000 in
set_option maxHeartbeats 4000000 in
theorem tX12_fewest_b104 {N : Nat} {G : pG} {SK : Nat → Nat} {k59 : Int32 × pS → Option (Int32 × pS)} {a0 : Nat} {a1 : Int32} {x2 : Int32} {b : Int32 × Int32 × pS} {r : Int32 × pS} (hW : WT G) (i0 : Is G a0 11) (hk59 : ∀ b : Int32 × pS, k59 b = some r → Ev miX12_fewest (7, 0, 0) G (Zp G (some (.int r.1)) r.2) SK (0, 0) 59 [some (.ref a0), some (.int a1), some (.int b.1), none, none] [] b.2) (h : fX12_fewest_b104 N G k59 a0 a1 x2 b = some r) : Ev miX12_fewest (7, 0, 0) G (Zp G (some (.int r.1)) r.2) SK (0, 0) 104 [some (.ref a0), some (.int a1), some (.int x2), some (.int b.1), some (.int b.2.1)] [] b.2.2 := by
  unfold fX12_fewest_b104 at h
  refine lp_ind (P := fun b r9 => r9 = r → Ev miX12_fewest (7, 0, 0) G (Zp G (some (.int r.1)) r.2) SK (0, 0) 104 [some (.ref a0), some (.int a1), some (.int x2), some (.int b.1), some (.int b.2.1)] [] b.2.2) (fun k104 b r9 ih h9 e9 => ?_) N b r h rfl
  clear h
  subst e9
  have h := h9
  clear h9
  have hk104 : ∀ b : Int32 × Int32 × pS, k104 b = some r9 → Ev miX12_fewest (7, 0, 0) G (Zp G (some (.int r9.1)) r9.2) SK (0, 0) 104 [some (.ref a0), some (.int a1), some (.int x2), some (.int b.1), some (.int b.2.1)] [] b.2.2 := fun b hb => ih b r9 hb rfl
  clear ih
  obtain ⟨x3, x4, σ⟩ := b
  dsimp only at h ⊢
  refine ev_iload dc_X12_fewest_104 rfl ?_
  refine ev_aload_n dc_X12_fewest_106 rfl ?_
  refine ev_getR dc_X12_fewest_107 fi_X12_45 rfl i0 ?_
  refine ev_alen dc_X12_fewest_110 (wt hW i0 26 rfl rfl) (by decide) rfl ?_
  refine ev_icmp_ge (tgt := 148) dc_X12_fewest_111 (by decide) h (fun h => ?_) (fun h => ?_)
  · refine ev_iload_n dc_X12_fewest_148 rfl ?_
    refine ev_if_eq (tgt := 154) dc_X12_fewest_149 (by decide) h (fun h => ?_) (fun h => ?_)
    · refine ev_iconst (v := 0) dc_X12_fewest_154 (by decide) ?_
      refine ev_istore (lv' := [some (.ref a0), some (.int a1), some (.int x2), some (.int x3), some (.int (0 : Int32))]) dc_X12_fewest_155 rfl (by decide) rfl ?_
      exact ev_sub (tX12_fewest_b157 (b := ((0 : Int32), σ)) hW i0 hk59 h) (And.intro rfl (And.intro rfl (And.intro rfl (And.intro rfl trivial))))
    · refine ev_iload_n dc_X12_fewest_152 rfl ?_
      cases h
      exact ev_iret dc_X12_fewest_153 rfl rfl rfl
  · refine ev_aload_n dc_X12_fewest_114 rfl ?_
    refine ev_getR dc_X12_fewest_115 fi_X12_45 rfl i0 ?_
    refine ev_iload dc_X12_fewest_118 rfl ?_
    refine ev_zald dc_X12_fewest_120 (wt hW i0 26 rfl rfl) h (fun h => ?_)
    refine ev_if_eq (tgt := 142) dc_X12_fewest_121 (by decide) h (fun h => ?_) (fun h => ?_)
    · refine ev_iinc (v := 1) (lv' := [some (.ref a0), some (.int a1), some (.int x2), some (.int x3), some (.int (x4 + (1 : Int32)))]) dc_X12_fewest_142 rfl (by decide) rfl (by decide) rfl ?_
      refine ev_goto (tgt := 104) dc_X12_fewest_145 (by decide) ?_
      exact ev_sub (hk104 (x3, x4 + (1 : Int32), σ) h) (And.intro rfl (And.intro rfl (And.intro rfl (And.intro rfl (And.intro rfl trivial)))))
    · refine ev_iload_n dc_X12_fewest_124 rfl ?_
      refine ev_aload_n dc_X12_fewest_125 rfl ?_
      refine ev_iload_n dc_X12_fewest_126 rfl ?_
      refine ev_iload dc_X12_fewest_127 rfl ?_
      refine ev_bipush (v := 100) dc_X12_fewest_129 (by decide) ?_
      refine ev_idiv dc_X12_fewest_131 (by decide) ?_
      refine ev_iload dc_X12_fewest_132 rfl ?_
      refine ev_bipush (v := 100) dc_X12_fewest_134 (by decide) ?_
      refine ev_irem dc_X12_fewest_136 (by decide) ?_
      obtain ⟨q1, hq1, h⟩ := Option.bind_eq_some_iff.mp h
      refine ev_callV (av := [.int a1, .int (x4 / (100 : Int32)), .int (jrem x4 (100 : Int32))]) (st := [.int x3]) (st1 := [.int q1.1, .int x3]) dc_X12_fewest_137 (tX12_asksBy hW i0 hq1) mw_2066 cy_X12_asksBy i0 (by decide) rfl rfl rfl rfl (Nat.le_of_ble_eq_true rfl) (Nat.le_of_ble_eq_true rfl) ⟨Nat.le_refl _, Nat.le_refl _⟩ ?_
      refine ev_ior dc_X12_fewest_140 ?_
      refine ev_istore_n (lv' := [some (.ref a0), some (.int a1), some (.int x2), some (.int (x3 ||| q1.1)), some (.int x4)]) dc_X12_fewest_141 rfl (by decide) rfl ?_
      refine ev_iinc (v := 1) (lv' := [some (.ref a0), some (.int a1), some (.int x2), some (.int (x3 ||| q1.1)), some (.int (x4 + (1 : Int32)))]) dc_X12_fewest_142 rfl (by decide) rfl (by decide) rfl ?_
      refine ev_goto (tgt := 104) dc_X12_fewest_145 (by decide) ?_
      exact ev_sub (hk104 (x3 ||| q1.1, x4 + (1 : Int32), q1.2) h) (And.intro rfl (And.intro rfl (And.intro rfl (And.intro rfl (And.intro rfl trivial)))))
def fX12_fewest_b77 (N : Nat) (G : pG) (k59 : Int32 × pS → Option (Int32 × pS)) (a0 : Nat) (a1 : Int32) (x2 : Int32) (x3 : Int32) : (Int32 × pS) → Option (Int32 × pS) := lp (fun (k77 : Int32 × pS → Option (Int32 × pS)) (b : Int32 × pS) => if (Int32.ofNat (pN G (pR G a0 27))) ≤ b.1 then (fX12_fewest_b104 N G k59 a0 a1 x2 (x3, (0 : Int32), b.2)) else (ck (inB b.1 (pN G (pR G a0 27))) (k77 (b.1 + (1 : Int32), sA b.2 (pR G a0 27) b.1 (vp_nar .boolean (0 : Int32)))))) N
set_option maxRecDepth 100000 in
set_option maxHeartbeats 4000000 in
theorem tX12_fewest_b77 {N : Nat} {G : pG} {SK : Nat → Nat} {k59 : Int32 × pS → Option (Int32 × pS)} {a0 : Nat} {a1 : Int32} {x2 : Int32} {x3 : Int32} {b : Int32 × pS} {r : Int32 × pS} (hW : WT G) (i0 : Is G a0 11) (hk59 : ∀ b : Int32 × pS, k59 b = some r → Ev miX12_fewest (7, 0, 0) G (Zp G (some (.int r.1)) r.2) SK (0, 0) 59 [some (.ref a0), some (.int a1), some (.int b.1), none, none] [] b.2) (h : fX12_fewest_b77 N G k59 a0 a1 x2 x3 b = some r) : Ev miX12_fewest (7, 0, 0) G (Zp G (some (.int r.1)) r.2) SK (0, 0) 77 [some (.ref a0), some (.int a1), some (.int x2), some (.int x3), some (.int b.1)] [] b.2 := by
  unfold fX12_fewest_b77 at h
  refine lp_ind (P := fun b r9 => r9 = r → Ev miX12_fewest (7, 0, 0) G (Zp G (some (.int r.1)) r.2) SK (0, 0) 77 [some (.ref a0), some (.int a1), some (.int x2), some (.int x3), some (.int b.1)] [] b.2) (fun k77 b r9 ih h9 e9 => ?_) N b r h rfl
  clear h
  subst e9
  have h := h9
  clear h9
  have hk77 : ∀ b : Int32 × pS, k77 b = some r9 → Ev miX12_fewest (7, 0, 0) G (Zp G (some (.int r9.1)) r9.2) SK (0, 0) 77 [some (.ref a0), some (.int a1), some (.int x2), some (.int x3), some (.int b.1)] [] b.2 := fun b hb => ih b r9 hb rfl
  clear ih
  obtain ⟨x4, σ⟩ := b
  dsimp only at h ⊢
  refine ev_iload dc_X12_fewest_77 rfl ?_
  refine ev_aload_n dc_X12_fewest_79 rfl ?_
  refine ev_getR dc_X12_fewest_80 fi_X12_49 rfl i0 ?_
  refine ev_alen dc_X12_fewest_83 (wt hW i0 27 rfl rfl) (by decide) rfl ?_
  refine ev_icmp_ge (tgt := 101) dc_X12_fewest_84 (by decide) h (fun h => ?_) (fun h => ?_)
  · refine ev_iconst (v := 0) dc_X12_fewest_101 (by decide) ?_
    refine ev_istore (lv' := [some (.ref a0), some (.int a1), some (.int x2), some (.int x3), some (.int (0 : Int32))]) dc_X12_fewest_102 rfl (by decide) rfl ?_
    exact ev_sub (tX12_fewest_b104 (b := (x3, (0 : Int32), σ)) hW i0 hk59 h) (And.intro rfl (And.intro rfl (And.intro rfl (And.intro rfl (And.intro rfl trivial)))))
  · refine ev_aload_n dc_X12_fewest_87 rfl ?_
    refine ev_getR dc_X12_fewest_88 fi_X12_49 rfl i0 ?_
    refine ev_iload dc_X12_fewest_91 rfl ?_
    refine ev_iconst (v := 0) dc_X12_fewest_93 (by decide) ?_
    refine ev_zast dc_X12_fewest_94 (wt hW i0 27 rfl rfl) h (fun h => ?_)
    refine ev_iinc (v := 1) (lv' := [some (.ref a0), some (.int a1), some (.int x2), some (.int x3), some (.int (x4 + (1 : Int32)))]) dc_X12_fewest_95 rfl (by decide) rfl (by decide) rfl ?_
    refine ev_goto (tgt := 77) dc_X12_fewest_98 (by decide) ?_
    exact ev_sub (hk77 (x4 + (1 : Int32), sA σ (pR G a0 27) x4 (vp_nar .boolean (0 : Int32))) h) (And.intro rfl (And.intro rfl (And.intro rfl (And.intro rfl (And.intro rfl trivial)))))
def fX12_fewest_b59 (N : Nat) (G : pG) (a0 : Nat) (a1 : Int32) : (Int32 × pS) → Option (Int32 × pS) := lp (fun (k59 : Int32 × pS → Option (Int32 × pS)) (b : Int32 × pS) => if (20 : Int32) < b.1 then (some ((-1 : Int32), b.2)) else ((fX12_isGone N G a0 b.2).bind (fun q2 => if q2 = 0 then (fX12_fewest_b77 N G k59 a0 a1 b.1 (0 : Int32) ((0 : Int32), b.2)) else (some ((-1 : Int32), b.2))))) N
set_option maxRecDepth 100000 in
set_option maxHeartbeats 4000000 in
theorem tX12_fewest_b59 {N : Nat} {G : pG} {SK : Nat → Nat} {a0 : Nat} {a1 : Int32} {b : Int32 × pS} {r : Int32 × pS} (hW : WT G) (i0 : Is G a0 11) (h : fX12_fewest_b59 N G a0 a1 b = some r) : Ev miX12_fewest (7, 0, 0) G (Zp G (some (.int r.1)) r.2) SK (0, 0) 59 [some (.ref a0), some (.int a1), some (.int b.1), none, none] [] b.2 := by
  unfold fX12_fewest_b59 at h
  refine lp_ind (P := fun b r9 => r9 = r → Ev miX12_fewest (7, 0, 0) G (Zp G (some (.int r.1)) r.2) SK (0, 0) 59 [some (.ref a0), some (.int a1), some (.int b.1), none, none] [] b.2) (fun k59 b r9 ih h9 e9 => ?_) N b r h rfl
  clear h
  subst e9
  have h := h9
  clear h9
  have hk59 : ∀ b : Int32 × pS, k59 b = some r9 → Ev miX12_fewest (7, 0, 0) G (Zp G (some (.int r9.1)) r9.2) SK (0, 0) 59 [some (.ref a0), some (.int a1), some (.int b.1), none, none] [] b.2 := fun b hb => ih b r9 hb rfl
  clear ih
  obtain ⟨x2, σ⟩ := b
  dsimp only at h ⊢
  refine ev_iload_n dc_X12_fewest_59 rfl ?_
  refine ev_bipush (v := 20) dc_X12_fewest_60 (by decide) ?_
  refine ev_icmp_gt (tgt := 193) dc_X12_fewest_62 (by decide) h (fun h => ?_) (fun h => ?_)
  · refine ev_iconst (v := (-1)) dc_X12_fewest_193 (by decide) ?_
    cases h
    exact ev_iret dc_X12_fewest_194 rfl rfl rfl
  · refine ev_aload_n dc_X12_fewest_65 rfl ?_
    obtain ⟨q2, hq2, h⟩ := Option.bind_eq_some_iff.mp h
    refine ev_callV (av := []) (st := []) (st1 := [.int q2]) dc_X12_fewest_66 (tX12_isGone hW i0 hq2) mw_1902 cy_X12_isGone i0 (by decide) rfl rfl rfl rfl (Nat.le_of_ble_eq_true rfl) (Nat.le_of_ble_eq_true rfl) ⟨Nat.le_refl _, Nat.le_refl _⟩ ?_
    refine ev_if_ne (tgt := 193) dc_X12_fewest_69 (by decide) h (fun h => ?_) (fun h => ?_)
    · refine ev_iconst (v := 0) dc_X12_fewest_72 (by decide) ?_
      refine ev_istore_n (lv' := [some (.ref a0), some (.int a1), some (.int x2), some (.int (0 : Int32)), none]) dc_X12_fewest_73 rfl (by decide) rfl ?_
      refine ev_iconst (v := 0) dc_X12_fewest_74 (by decide) ?_
      refine ev_istore (lv' := [some (.ref a0), some (.int a1), some (.int x2), some (.int (0 : Int32)), some (.int (0 : Int32))]) dc_X12_fewest_75 rfl (by decide) rfl ?_
      exact ev_sub (tX12_fewest_b77 (b := ((0 : Int32), σ)) hW i0 hk59 h) (And.intro rfl (And.intro rfl (And.intro rfl (And.intro rfl (And.intro rfl trivial)))))
    · refine ev_iconst (v := (-1)) dc_X12_fewest_193 (by decide) ?_
      cases h
      exact ev_iret dc_X12_fewest_194 rfl rfl rfl
def fX12_fewest_b22 (N : Nat) (G : pG) (a0 : Nat) (a1 : Int32) : (Int32 × pS) → Option (Int32 × pS) := lp (fun (k22 : Int32 × pS → Option (Int32 × pS)) (b : Int32 × pS) => if (Int32.ofNat (pN G (pR G a0 26))) ≤ b.1 then (ck (inB (7 : Int32) (pN G (pR G a0 1))) (ck (inB (gA b.2 (pR G a0 1) (7 : Int32)) (pN G (pR G a0 26))) (fX12_fewest_b59 N G a0 a1 ((1 : Int32), sA b.2 (pR G a0 26) (gA b.2 (pR G a0 1) (7 : Int32)) (vp_nar .boolean (1 : Int32)))))) else (ck (inB b.1 (pN G (pR G a0 26))) (k22 (b.1 + (1 : Int32), sA b.2 (pR G a0 26) b.1 (vp_nar .boolean (0 : Int32)))))) N
set_option maxRecDepth 100000 in
set_option maxHeartbeats 4000000 in
theorem tX12_fewest_b22 {N : Nat} {G : pG} {SK : Nat → Nat} {a0 : Nat} {a1 : Int32} {b : Int32 × pS} {r : Int32 × pS} (hW : WT G) (i0 : Is G a0 11) (h : fX12_fewest_b22 N G a0 a1 b = some r) : Ev miX12_fewest (7, 0, 0) G (Zp G (some (.int r.1)) r.2) SK (0, 0) 22 [some (.ref a0), some (.int a1), some (.int b.1), none, none] [] b.2 := by
  unfold fX12_fewest_b22 at h
  refine lp_ind (P := fun b r9 => r9 = r → Ev miX12_fewest (7, 0, 0) G (Zp G (some (.int r.1)) r.2) SK (0, 0) 22 [some (.ref a0), some (.int a1), some (.int b.1), none, none] [] b.2) (fun k22 b r9 ih h9 e9 => ?_) N b r h rfl
  clear h
  subst e9
  have h := h9
  clear h9
  have hk22 : ∀ b : Int32 × pS, k22 b = some r9 → Ev miX12_fewest (7, 0, 0) G (Zp G (some (.int r9.1)) r9.2) SK (0, 0) 22 [some (.ref a0), some (.int a1), some (.int b.1), none, none] [] b.2 := fun b hb => ih b r9 hb rfl
  clear ih
  obtain ⟨x2, σ⟩ := b
  dsimp only at h ⊢
  refine ev_iload_n dc_X12_fewest_22 rfl ?_
  refine ev_aload_n dc_X12_fewest_23 rfl ?_
  refine ev_getR dc_X12_fewest_24 fi_X12_45 rfl i0 ?_
  refine ev_alen dc_X12_fewest_27 (wt hW i0 26 rfl rfl) (by decide) rfl ?_
  refine ev_icmp_ge (tgt := 44) dc_X12_fewest_28 (by decide) h (fun h => ?_) (fun h => ?_)
  · refine ev_aload_n dc_X12_fewest_44 rfl ?_
    refine ev_getR dc_X12_fewest_45 fi_X12_45 rfl i0 ?_
    refine ev_aload_n dc_X12_fewest_48 rfl ?_
    refine ev_getR dc_X12_fewest_49 fi_X12_13 rfl i0 ?_
    refine ev_bipush (v := 7) dc_X12_fewest_52 (by decide) ?_
    refine ev_iald dc_X12_fewest_54 (wt hW i0 1 rfl rfl) h (fun h => ?_)
    refine ev_iconst (v := 1) dc_X12_fewest_55 (by decide) ?_
    refine ev_zast dc_X12_fewest_56 (wt hW i0 26 rfl rfl) h (fun h => ?_)
    refine ev_iconst (v := 1) dc_X12_fewest_57 (by decide) ?_
    refine ev_istore_n (lv' := [some (.ref a0), some (.int a1), some (.int (1 : Int32)), none, none]) dc_X12_fewest_58 rfl (by decide) rfl ?_
    exact ev_sub (tX12_fewest_b59 (b := ((1 : Int32), sA σ (pR G a0 26) (gA σ (pR G a0 1) (7 : Int32)) (vp_nar .boolean (1 : Int32)))) hW i0 h) (And.intro rfl (And.intro rfl (And.intro rfl trivial)))
  · refine ev_aload_n dc_X12_fewest_31 rfl ?_
    refine ev_getR dc_X12_fewest_32 fi_X12_45 rfl i0 ?_
    refine ev_iload_n dc_X12_fewest_35 rfl ?_
    refine ev_iconst (v := 0) dc_X12_fewest_36 (by decide) ?_
    refine ev_zast dc_X12_fewest_37 (wt hW i0 26 rfl rfl) h (fun h => ?_)
    refine ev_iinc (v := 1) (lv' := [some (.ref a0), some (.int a1), some (.int (x2 + (1 : Int32))), none, none]) dc_X12_fewest_38 rfl (by decide) rfl (by decide) rfl ?_
    refine ev_goto (tgt := 22) dc_X12_fewest_41 (by decide) ?_
    exact ev_sub (hk22 (x2 + (1 : Int32), sA σ (pR G a0 26) x2 (vp_nar .boolean (0 : Int32))) h) (And.intro rfl (And.intro rfl (And.intro rfl trivial)))
def fX12_fewest (N : Nat) (G : pG) (a0 : Nat) (a1 : Int32) (σ : pS) : Option (Int32 × pS) := (fX12_noWho N G a0 a1 (putF σ a0 0 (0 : Int32))).bind (fun q3 => (fX12_throwsIf N G a0 q3 (1 : Int32) (putF σ a0 0 (0 : Int32))).bind (fun q4 => if q4.1 = 0 then (fX12_fewest_b22 N G a0 a1 ((0 : Int32), q4.2)) else (some ((0 : Int32), q4.2))))
set_option maxRecDepth 100000 in
set_option maxHeartbeats 4000000 in
theorem tX12_fewest {N : Nat} {G : pG} {SK : Nat → Nat} {a0 : Nat} {a1 : Int32} {σ : pS} {r : Int32 × pS} (hW : WT G) (i0 : Is G a0 11) (h : fX12_fewest N G a0 a1 σ = some r) : Dn miX12_fewest yX12_fewest 7 G SK [.ref a0, .int a1] σ (some (.int r.1)) r.2 := by
  unfold fX12_fewest at h
  refine dn_of (lv := [some (.ref a0), some (.int a1), none, none, none]) (by decide) rfl rfl (Nat.le_of_ble_eq_true rfl) rfl ?_
  refine ev_aload_n dc_X12_fewest_0 rfl ?_
  refine ev_iconst (v := 0) dc_X12_fewest_1 (by decide) ?_
  refine ev_putI dc_X12_fewest_2 fi_X12_3 rfl i0 ?_
  refine ev_aload_n dc_X12_fewest_5 rfl ?_
  refine ev_aload_n dc_X12_fewest_6 rfl ?_
  refine ev_iload_n dc_X12_fewest_7 rfl ?_
  obtain ⟨q3, hq3, h⟩ := Option.bind_eq_some_iff.mp h
  refine ev_callV (av := [.int a1]) (st := [.ref a0]) (st1 := [.int q3, .ref a0]) dc_X12_fewest_8 (tX12_noWho hW i0 hq3) mw_1796 cy_X12_noWho i0 (by decide) rfl rfl rfl rfl (Nat.le_of_ble_eq_true rfl) (Nat.le_of_ble_eq_true rfl) ⟨Nat.le_refl _, Nat.le_refl _⟩ ?_
  refine ev_iconst (v := 1) dc_X12_fewest_11 (by decide) ?_
  obtain ⟨q4, hq4, h⟩ := Option.bind_eq_some_iff.mp h
  refine ev_callV (av := [.int q3, .int (1 : Int32)]) (st := []) (st1 := [.int q4.1]) dc_X12_fewest_12 (tX12_throwsIf hW i0 hq4) mw_1784 cy_X12_throwsIf i0 (by decide) rfl rfl rfl rfl (Nat.le_of_ble_eq_true rfl) (Nat.le_of_ble_eq_true rfl) ⟨Nat.le_refl _, Nat.le_refl _⟩ ?_
  refine ev_if_eq (tgt := 20) dc_X12_fewest_15 (by decide) h (fun h => ?_) (fun h => ?_)
  · refine ev_iconst (v := 0) dc_X12_fewest_20 (by decide) ?_
    refine ev_istore_n (lv' := [some (.ref a0), some (.int a1), some (.int (0 : Int32)), none, none]) dc_X12_fewest_21 rfl (by decide) rfl ?_
    exact ev_sub (tX12_fewest_b22 (b := ((0 : Int32), q4.2)) hW i0 h) (And.intro rfl (And.intro rfl (And.intro rfl trivial)))
  · refine ev_iconst (v := 0) dc_X12_fewest_18 (by decide) ?_
    cases h
    exact ev_iret dc_X12_fewest_19 rfl rfl rfl
theorem dc_X12_first_0 : Dc miX12_first 0 (.aload_n 0) 1 1 := ⟨by decide +kernel, rfl⟩
theorem dc_X12_first_1 : Dc miX12_first 1 (.iconst 0) 1 2 := ⟨by decide +kernel, rfl⟩
theorem dc_X12_first_2 : Dc miX12_first 2 (.putfield 3) 3 5 := ⟨by decide +kernel, rfl⟩
theorem dc_X12_first_5 : Dc miX12_first 5 (.aload_n 0) 1 6 := ⟨by decide +kernel, rfl⟩
theorem dc_X12_first_6 : Dc miX12_first 6 (.aload_n 0) 1 7 := ⟨by decide +kernel, rfl⟩
theorem dc_X12_first_7 : Dc miX12_first 7 (.iload_n 1) 1 8 := ⟨by decide +kernel, rfl⟩
theorem dc_X12_first_8 : Dc miX12_first 8 (.invokevirtual 400) 3 11 := ⟨by decide +kernel, rfl⟩
theorem dc_X12_first_11 : Dc miX12_first 11 (.iconst 1) 1 12 := ⟨by decide +kernel, rfl⟩
theorem dc_X12_first_12 : Dc miX12_first 12 (.invokevirtual 274) 3 15 := ⟨by decide +kernel, rfl⟩
theorem dc_X12_first_15 : Dc miX12_first 15 (.ifCond .eq 5) 3 18 := ⟨by decide +kernel, rfl⟩
theorem dc_X12_first_18 : Dc miX12_first 18 (.iconst 0) 1 19 := ⟨by decide +kernel, rfl⟩
theorem dc_X12_first_19 : Dc miX12_first 19 (.ireturn) 1 20 := ⟨by decide +kernel, rfl⟩
theorem dc_X12_first_20 : Dc miX12_first 20 (.aload_n 0) 1 21 := ⟨by decide +kernel, rfl⟩
theorem dc_X12_first_21 : Dc miX12_first 21 (.invokevirtual 403) 3 24 := ⟨by decide +kernel, rfl⟩
theorem dc_X12_first_24 : Dc miX12_first 24 (.iconst (-1)) 1 25 := ⟨by decide +kernel, rfl⟩
theorem dc_X12_first_25 : Dc miX12_first 25 (.istore_n 2) 1 26 := ⟨by decide +kernel, rfl⟩
theorem dc_X12_first_26 : Dc miX12_first 26 (.iconst 1) 1 27 := ⟨by decide +kernel, rfl⟩
theorem dc_X12_first_27 : Dc miX12_first 27 (.istore_n 3) 1 28 := ⟨by decide +kernel, rfl⟩
theorem dc_X12_first_28 : Dc miX12_first 28 (.iload_n 3) 1 29 := ⟨by decide +kernel, rfl⟩
theorem dc_X12_first_29 : Dc miX12_first 29 (.sipush 400) 3 32 := ⟨by decide +kernel, rfl⟩
theorem dc_X12_first_32 : Dc miX12_first 32 (.if_icmp .gt 31) 3 35 := ⟨by decide +kernel, rfl⟩
theorem dc_X12_first_35 : Dc miX12_first 35 (.iload_n 2) 1 36 := ⟨by decide +kernel, rfl⟩
theorem dc_X12_first_36 : Dc miX12_first 36 (.ifCond .ge 27) 3 39 := ⟨by decide +kernel, rfl⟩
theorem dc_X12_first_39 : Dc miX12_first 39 (.aload_n 0) 1 40 := ⟨by decide +kernel, rfl⟩
theorem dc_X12_first_40 : Dc miX12_first 40 (.iload_n 1) 1 41 := ⟨by decide +kernel, rfl⟩
theorem dc_X12_first_41 : Dc miX12_first 41 (.invokevirtual 406) 3 44 := ⟨by decide +kernel, rfl⟩
theorem dc_X12_first_44 : Dc miX12_first 44 (.aload_n 0) 1 45 := ⟨by decide +kernel, rfl⟩
theorem dc_X12_first_45 : Dc miX12_first 45 (.invokevirtual 367) 3 48 := ⟨by decide +kernel, rfl⟩
theorem dc_X12_first_48 : Dc miX12_first 48 (.ifCond .eq 7) 3 51 := ⟨by decide +kernel, rfl⟩
theorem dc_X12_first_51 : Dc miX12_first 51 (.iload_n 3) 1 52 := ⟨by decide +kernel, rfl⟩
theorem dc_X12_first_52 : Dc miX12_first 52 (.goto 4) 3 55 := ⟨by decide +kernel, rfl⟩
theorem dc_X12_first_55 : Dc miX12_first 55 (.iconst (-1)) 1 56 := ⟨by decide +kernel, rfl⟩
theorem dc_X12_first_56 : Dc miX12_first 56 (.istore_n 2) 1 57 := ⟨by decide +kernel, rfl⟩
theorem dc_X12_first_57 : Dc miX12_first 57 (.iinc 3 1) 3 60 := ⟨by decide +kernel, rfl⟩
theorem dc_X12_first_60 : Dc miX12_first 60 (.goto (-32)) 3 63 := ⟨by decide +kernel, rfl⟩
theorem dc_X12_first_63 : Dc miX12_first 63 (.aload_n 0) 1 64 := ⟨by decide +kernel, rfl⟩
theorem dc_X12_first_64 : Dc miX12_first 64 (.invokevirtual 409) 3 67 := ⟨by decide +kernel, rfl⟩
theorem dc_X12_first_67 : Dc miX12_first 67 (.iload_n 2) 1 68 := ⟨by decide +kernel, rfl⟩
theorem dc_X12_first_68 : Dc miX12_first 68 (.ireturn) 1 69 := ⟨by decide +kernel, rfl⟩
def fX12_first_b63 (N : Nat) (G : pG) (a0 : Nat) (x2 : Int32) (σ : pS) : Option (Int32 × pS) := (fX12_bringsBack N G a0 σ).bind (fun q1 => some (x2, q1))
set_option maxRecDepth 100000 in
set_option maxHeartbeats 4000000 in
theorem tX12_first_b63 {N : Nat} {G : pG} {SK : Nat → Nat} {a0 : Nat} {x2 : Int32} {σ : pS} {r : Int32 × pS} (hW : WT G) (i0 : Is G a0 11) (h : fX12_first_b63 N G a0 x2 σ = some r) : Ev miX12_first (8, 0, 0) G (Zp G (some (.int r.1)) r.2) SK (0, 0) 63 [some (.ref a0), none, some (.int x2), none] [] σ := by
  unfold fX12_first_b63 at h
  refine ev_aload_n dc_X12_first_63 rfl ?_
  obtain ⟨q1, hq1, h⟩ := Option.bind_eq_some_iff.mp h
  refine ev_callV (av := []) (st := []) (st1 := []) dc_X12_first_64 (tX12_bringsBack hW i0 hq1) mw_1994 cy_X12_bringsBack i0 (by decide) rfl rfl rfl rfl (Nat.le_of_ble_eq_true rfl) (Nat.le_of_ble_eq_true rfl) ⟨Nat.le_refl _, Nat.le_refl _⟩ ?_
  refine ev_iload_n dc_X12_first_67 rfl ?_
  cases h
  exact ev_iret dc_X12_first_68 rfl rfl rfl
def fX12_first_b28 (N : Nat) (G : pG) (a0 : Nat) (a1 : Int32) : (Int32 × Int32 × pS) → Option (Int32 × pS) := lp (fun (k28 : Int32 × Int32 × pS → Option (Int32 × pS)) (b : Int32 × Int32 × pS) => if (400 : Int32) < b.2.1 then (fX12_first_b63 N G a0 b.1 b.2.2) else (if 0 ≤ b.1 then (fX12_first_b63 N G a0 b.1 b.2.2) else ((fX12_calmNight N G a0 a1 b.2.2).bind (fun q2 => (fX12_isGone N G a0 q2).bind (fun q3 => if q3 = 0 then (k28 ((-1 : Int32), b.2.1 + (1 : Int32), q2)) else (k28 (b.2.1, b.2.1 + (1 : Int32), q2))))))) N
set_option maxRecDepth 100000 in
set_option maxHeartbeats 4000000 in
theorem tX12_first_b28 {N : Nat} {G : pG} {SK : Nat → Nat} {a0 : Nat} {a1 : Int32} {b : Int32 × Int32 × pS} {r : Int32 × pS} (hW : WT G) (i0 : Is G a0 11) (h : fX12_first_b28 N G a0 a1 b = some r) : Ev miX12_first (8, 0, 0) G (Zp G (some (.int r.1)) r.2) SK (0, 0) 28 [some (.ref a0), some (.int a1), some (.int b.1), some (.int b.2.1)] [] b.2.2 := by
  unfold fX12_first_b28 at h
  refine lp_ind (P := fun b r9 => r9 = r → Ev miX12_first (8, 0, 0) G (Zp G (some (.int r.1)) r.2) SK (0, 0) 28 [some (.ref a0), some (.int a1), some (.int b.1), some (.int b.2.1)] [] b.2.2) (fun k28 b r9 ih h9 e9 => ?_) N b r h rfl
  clear h
  subst e9
  have h := h9
  clear h9
  have hk28 : ∀ b : Int32 × Int32 × pS, k28 b = some r9 → Ev miX12_first (8, 0, 0) G (Zp G (some (.int r9.1)) r9.2) SK (0, 0) 28 [some (.ref a0), some (.int a1), some (.int b.1), some (.int b.2.1)] [] b.2.2 := fun b hb => ih b r9 hb rfl
  clear ih
  obtain ⟨x2, x3, σ⟩ := b
  dsimp only at h ⊢
  refine ev_iload_n dc_X12_first_28 rfl ?_
  refine ev_sipush (v := 400) dc_X12_first_29 (by decide) ?_
  refine ev_icmp_gt (tgt := 63) dc_X12_first_32 (by decide) h (fun h => ?_) (fun h => ?_)
  · exact ev_sub (tX12_first_b63 hW i0 h) (And.intro rfl (And.intro rfl trivial))
  · refine ev_iload_n dc_X12_first_35 rfl ?_
    refine ev_if_ge (tgt := 63) dc_X12_first_36 (by decide) h (fun h => ?_) (fun h => ?_)
    · exact ev_sub (tX12_first_b63 hW i0 h) (And.intro rfl (And.intro rfl trivial))
    · refine ev_aload_n dc_X12_first_39 rfl ?_
      refine ev_iload_n dc_X12_first_40 rfl ?_
      obtain ⟨q2, hq2, h⟩ := Option.bind_eq_some_iff.mp h
      refine ev_callV (av := [.int a1]) (st := []) (st1 := []) dc_X12_first_41 (tX12_calmNight hW i0 hq2) mw_1990 cy_X12_calmNight i0 (by decide) rfl rfl rfl rfl (Nat.le_of_ble_eq_true rfl) (Nat.le_of_ble_eq_true rfl) ⟨Nat.le_refl _, Nat.le_refl _⟩ ?_
      refine ev_aload_n dc_X12_first_44 rfl ?_
      obtain ⟨q3, hq3, h⟩ := Option.bind_eq_some_iff.mp h
      refine ev_callV (av := []) (st := []) (st1 := [.int q3]) dc_X12_first_45 (tX12_isGone hW i0 hq3) mw_1902 cy_X12_isGone i0 (by decide) rfl rfl rfl rfl (Nat.le_of_ble_eq_true rfl) (Nat.le_of_ble_eq_true rfl) ⟨Nat.le_refl _, Nat.le_refl _⟩ ?_
      refine ev_if_eq (tgt := 55) dc_X12_first_48 (by decide) h (fun h => ?_) (fun h => ?_)
      · refine ev_iconst (v := (-1)) dc_X12_first_55 (by decide) ?_
        refine ev_istore_n (lv' := [some (.ref a0), some (.int a1), some (.int (-1 : Int32)), some (.int x3)]) dc_X12_first_56 rfl (by decide) rfl ?_
        refine ev_iinc (v := 1) (lv' := [some (.ref a0), some (.int a1), some (.int (-1 : Int32)), some (.int (x3 + (1 : Int32)))]) dc_X12_first_57 rfl (by decide) rfl (by decide) rfl ?_
        refine ev_goto (tgt := 28) dc_X12_first_60 (by decide) ?_
        exact ev_sub (hk28 ((-1 : Int32), x3 + (1 : Int32), q2) h) (And.intro rfl (And.intro rfl (And.intro rfl (And.intro rfl trivial))))
      · refine ev_iload_n dc_X12_first_51 rfl ?_
        refine ev_goto (tgt := 56) dc_X12_first_52 (by decide) ?_
        refine ev_istore_n (lv' := [some (.ref a0), some (.int a1), some (.int x3), some (.int x3)]) dc_X12_first_56 rfl (by decide) rfl ?_
        refine ev_iinc (v := 1) (lv' := [some (.ref a0), some (.int a1), some (.int x3), some (.int (x3 + (1 : Int32)))]) dc_X12_first_57 rfl (by decide) rfl (by decide) rfl ?_
        refine ev_goto (tgt := 28) dc_X12_first_60 (by decide) ?_
        exact ev_sub (hk28 (x3, x3 + (1 : Int32), q2) h) (And.intro rfl (And.intro rfl (And.intro rfl (And.intro rfl trivial))))
def fX12_first (N : Nat) (G : pG) (a0 : Nat) (a1 : Int32) (σ : pS) : Option (Int32 × pS) := (fX12_noDeedTold N G a0 a1 (putF σ a0 0 (0 : Int32))).bind (fun q4 => (fX12_throwsIf N G a0 q4 (1 : Int32) (putF σ a0 0 (0 : Int32))).bind (fun q5 => if q5.1 = 0 then ((fX12_keepsAll N G a0 q5.2).bind (fun q6 => fX12_first_b28 N G a0 a1 ((-1 : Int32), (1 : Int32), q6))) else (some ((0 : Int32), q5.2))))
set_option maxRecDepth 100000 in
set_option maxHeartbeats 4000000 in
theorem tX12_first {N : Nat} {G : pG} {SK : Nat → Nat} {a0 : Nat} {a1 : Int32} {σ : pS} {r : Int32 × pS} (hW : WT G) (i0 : Is G a0 11) (h : fX12_first N G a0 a1 σ = some r) : Dn miX12_first yX12_first 8 G SK [.ref a0, .int a1] σ (some (.int r.1)) r.2 := by
  unfold fX12_first at h
  refine dn_of (lv := [some (.ref a0), some (.int a1), none, none]) (by decide) rfl rfl (Nat.le_of_ble_eq_true rfl) rfl ?_
  refine ev_aload_n dc_X12_first_0 rfl ?_
  refine ev_iconst (v := 0) dc_X12_first_1 (by decide) ?_
  refine ev_putI dc_X12_first_2 fi_X12_3 rfl i0 ?_
  refine ev_aload_n dc_X12_first_5 rfl ?_
  refine ev_aload_n dc_X12_first_6 rfl ?_
  refine ev_iload_n dc_X12_first_7 rfl ?_
  obtain ⟨q4, hq4, h⟩ := Option.bind_eq_some_iff.mp h
  refine ev_callV (av := [.int a1]) (st := [.ref a0]) (st1 := [.int q4, .ref a0]) dc_X12_first_8 (tX12_noDeedTold hW i0 hq4) mw_1982 cy_X12_noDeedTold i0 (by decide) rfl rfl rfl rfl (Nat.le_of_ble_eq_true rfl) (Nat.le_of_ble_eq_true rfl) ⟨Nat.le_refl _, Nat.le_refl _⟩ ?_
  refine ev_iconst (v := 1) dc_X12_first_11 (by decide) ?_
  obtain ⟨q5, hq5, h⟩ := Option.bind_eq_some_iff.mp h
  refine ev_callV (av := [.int q4, .int (1 : Int32)]) (st := []) (st1 := [.int q5.1]) dc_X12_first_12 (tX12_throwsIf hW i0 hq5) mw_1784 cy_X12_throwsIf i0 (by decide) rfl rfl rfl rfl (Nat.le_of_ble_eq_true rfl) (Nat.le_of_ble_eq_true rfl) ⟨Nat.le_refl _, Nat.le_refl _⟩ ?_
  refine ev_if_eq (tgt := 20) dc_X12_first_15 (by decide) h (fun h => ?_) (fun h => ?_)
  · refine ev_aload_n dc_X12_first_20 rfl ?_
    obtain ⟨q6, hq6, h⟩ := Option.bind_eq_some_iff.mp h
    refine ev_callV (av := []) (st := []) (st1 := []) dc_X12_first_21 (tX12_keepsAll hW i0 hq6) mw_1986 cy_X12_keepsAll i0 (by decide) rfl rfl rfl rfl (Nat.le_of_ble_eq_true rfl) (Nat.le_of_ble_eq_true rfl) ⟨Nat.le_refl _, Nat.le_refl _⟩ ?_
    refine ev_iconst (v := (-1)) dc_X12_first_24 (by decide) ?_
    refine ev_istore_n (lv' := [some (.ref a0), some (.int a1), some (.int (-1 : Int32)), none]) dc_X12_first_25 rfl (by decide) rfl ?_
    refine ev_iconst (v := 1) dc_X12_first_26 (by decide) ?_
    refine ev_istore_n (lv' := [some (.ref a0), some (.int a1), some (.int (-1 : Int32)), some (.int (1 : Int32))]) dc_X12_first_27 rfl (by decide) rfl ?_
    exact ev_sub (tX12_first_b28 (b := ((-1 : Int32), (1 : Int32), q6)) hW i0 h) (And.intro rfl (And.intro rfl (And.intro rfl (And.intro rfl trivial))))
  · refine ev_iconst (v := 0) dc_X12_first_18 (by decide) ?_
    cases h
    exact ev_iret dc_X12_first_19 rfl rfl rfl
theorem dc_X12_fits_0 : Dc miX12_fits 0 (.aload_n 0) 1 1 := ⟨by decide +kernel, rfl⟩
theorem dc_X12_fits_1 : Dc miX12_fits 1 (.iconst 0) 1 2 := ⟨by decide +kernel, rfl⟩
theorem dc_X12_fits_2 : Dc miX12_fits 2 (.putfield 3) 3 5 := ⟨by decide +kernel, rfl⟩
theorem dc_X12_fits_5 : Dc miX12_fits 5 (.aload_n 0) 1 6 := ⟨by decide +kernel, rfl⟩
theorem dc_X12_fits_6 : Dc miX12_fits 6 (.invokevirtual 349) 3 9 := ⟨by decide +kernel, rfl⟩
theorem dc_X12_fits_9 : Dc miX12_fits 9 (.iconst 0) 1 10 := ⟨by decide +kernel, rfl⟩
theorem dc_X12_fits_10 : Dc miX12_fits 10 (.istore_n 2) 1 11 := ⟨by decide +kernel, rfl⟩
theorem dc_X12_fits_11 : Dc miX12_fits 11 (.iconst 0) 1 12 := ⟨by decide +kernel, rfl⟩
theorem dc_X12_fits_12 : Dc miX12_fits 12 (.istore_n 3) 1 13 := ⟨by decide +kernel, rfl⟩
theorem dc_X12_fits_13 : Dc miX12_fits 13 (.iload_n 3) 1 14 := ⟨by decide +kernel, rfl⟩
theorem dc_X12_fits_14 : Dc miX12_fits 14 (.aload_n 0) 1 15 := ⟨by decide +kernel, rfl⟩
theorem dc_X12_fits_15 : Dc miX12_fits 15 (.invokevirtual 74) 3 18 := ⟨by decide +kernel, rfl⟩
theorem dc_X12_fits_18 : Dc miX12_fits 18 (.if_icmp .ge 54) 3 21 := ⟨by decide +kernel, rfl⟩
theorem dc_X12_fits_21 : Dc miX12_fits 21 (.iconst 0) 1 22 := ⟨by decide +kernel, rfl⟩
theorem dc_X12_fits_22 : Dc miX12_fits 22 (.istore 4) 2 24 := ⟨by decide +kernel, rfl⟩
theorem dc_X12_fits_24 : Dc miX12_fits 24 (.iload 4) 2 26 := ⟨by decide +kernel, rfl⟩
theorem dc_X12_fits_26 : Dc miX12_fits 26 (.aload_n 0) 1 27 := ⟨by decide +kernel, rfl⟩
theorem dc_X12_fits_27 : Dc miX12_fits 27 (.invokevirtual 77) 3 30 := ⟨by decide +kernel, rfl⟩
theorem dc_X12_fits_30 : Dc miX12_fits 30 (.if_icmp .ge 36) 3 33 := ⟨by decide +kernel, rfl⟩
theorem dc_X12_fits_33 : Dc miX12_fits 33 (.iload_n 2) 1 34 := ⟨by decide +kernel, rfl⟩
theorem dc_X12_fits_34 : Dc miX12_fits 34 (.aload_n 0) 1 35 := ⟨by decide +kernel, rfl⟩
theorem dc_X12_fits_35 : Dc miX12_fits 35 (.iload_n 3) 1 36 := ⟨by decide +kernel, rfl⟩
theorem dc_X12_fits_36 : Dc miX12_fits 36 (.iload 4) 2 38 := ⟨by decide +kernel, rfl⟩
theorem dc_X12_fits_38 : Dc miX12_fits 38 (.invokevirtual 355) 3 41 := ⟨by decide +kernel, rfl⟩
theorem dc_X12_fits_41 : Dc miX12_fits 41 (.aload_n 0) 1 42 := ⟨by decide +kernel, rfl⟩
theorem dc_X12_fits_42 : Dc miX12_fits 42 (.getfield 13) 3 45 := ⟨by decide +kernel, rfl⟩
theorem dc_X12_fits_45 : Dc miX12_fits 45 (.bipush 7) 2 47 := ⟨by decide +kernel, rfl⟩
theorem dc_X12_fits_47 : Dc miX12_fits 47 (.iaload) 1 48 := ⟨by decide +kernel, rfl⟩
theorem dc_X12_fits_48 : Dc miX12_fits 48 (.isub) 1 49 := ⟨by decide +kernel, rfl⟩
theorem dc_X12_fits_49 : Dc miX12_fits 49 (.iload_n 1) 1 50 := ⟨by decide +kernel, rfl⟩
theorem dc_X12_fits_50 : Dc miX12_fits 50 (.if_icmp .ne 7) 3 53 := ⟨by decide +kernel, rfl⟩
theorem dc_X12_fits_53 : Dc miX12_fits 53 (.iconst 1) 1 54 := ⟨by decide +kernel, rfl⟩
theorem dc_X12_fits_54 : Dc miX12_fits 54 (.goto 4) 3 57 := ⟨by decide +kernel, rfl⟩
theorem dc_X12_fits_57 : Dc miX12_fits 57 (.iconst 0) 1 58 := ⟨by decide +kernel, rfl⟩
theorem dc_X12_fits_58 : Dc miX12_fits 58 (.iadd) 1 59 := ⟨by decide +kernel, rfl⟩
theorem dc_X12_fits_59 : Dc miX12_fits 59 (.istore_n 2) 1 60 := ⟨by decide +kernel, rfl⟩
theorem dc_X12_fits_60 : Dc miX12_fits 60 (.iinc 4 1) 3 63 := ⟨by decide +kernel, rfl⟩
theorem dc_X12_fits_63 : Dc miX12_fits 63 (.goto (-39)) 3 66 := ⟨by decide +kernel, rfl⟩
theorem dc_X12_fits_66 : Dc miX12_fits 66 (.iinc 3 1) 3 69 := ⟨by decide +kernel, rfl⟩
theorem dc_X12_fits_69 : Dc miX12_fits 69 (.goto (-56)) 3 72 := ⟨by decide +kernel, rfl⟩
theorem dc_X12_fits_72 : Dc miX12_fits 72 (.iload_n 2) 1 73 := ⟨by decide +kernel, rfl⟩
theorem dc_X12_fits_73 : Dc miX12_fits 73 (.ireturn) 1 74 := ⟨by decide +kernel, rfl⟩
def fX12_fits_b24 (N : Nat) (G : pG) (k13 : Int32 × Int32 × pS → Option (Int32 × pS)) (a0 : Nat) (a1 : Int32) (x3 : Int32) : (Int32 × Int32 × pS) → Option (Int32 × pS) := lp (fun (k24 : Int32 × Int32 × pS → Option (Int32 × pS)) (b : Int32 × Int32 × pS) => (fX12_words N G a0 b.2.2).bind (fun q1 => if q1 ≤ b.2.1 then (k13 (b.1, x3 + (1 : Int32), b.2.2)) else ((fX12_behindWord N G a0 x3 b.2.1 b.2.2).bind (fun q2 => ck (inB (7 : Int32) (pN G (pR G a0 1))) (if (q2.1 - (gA q2.2 (pR G a0 1) (7 : Int32))) = a1 then (k24 (b.1 + (1 : Int32), b.2.1 + (1 : Int32), q2.2)) else (k24 (b.1 + (0 : Int32), b.2.1 + (1 : Int32), q2.2))))))) N
set_option maxRecDepth 100000 in
set_option maxHeartbeats 4000000 in
theorem tX12_fits_b24 {N : Nat} {G : pG} {SK : Nat → Nat} {k13 : Int32 × Int32 × pS → Option (Int32 × pS)} {a0 : Nat} {a1 : Int32} {x3 : Int32} {b : Int32 × Int32 × pS} {r : Int32 × pS} (hW : WT G) (i0 : Is G a0 11) (hk13 : ∀ b : Int32 × Int32 × pS, k13 b = some r → Ev miX12_fits (6, 0, 0) G (Zp G (some (.int r.1)) r.2) SK (0, 0) 13 [some (.ref a0), some (.int a1), some (.int b.1), some (.int b.2.1), none] [] b.2.2) (h : fX12_fits_b24 N G k13 a0 a1 x3 b = some r) : Ev miX12_fits (6, 0, 0) G (Zp G (some (.int r.1)) r.2) SK (0, 0) 24 [some (.ref a0), some (.int a1), some (.int b.1), some (.int x3), some (.int b.2.1)] [] b.2.2 := by
  unfold fX12_fits_b24 at h
  refine lp_ind (P := fun b r9 => r9 = r → Ev miX12_fits (6, 0, 0) G (Zp G (some (.int r.1)) r.2) SK (0, 0) 24 [some (.ref a0), some (.int a1), some (.int b.1), some (.int x3), some (.int b.2.1)] [] b.2.2) (fun k24 b r9 ih h9 e9 => ?_) N b r h rfl
  clear h
  subst e9
  have h := h9
  clear h9
  have hk24 : ∀ b : Int32 × Int32 × pS, k24 b = some r9 → Ev miX12_fits (6, 0, 0) G (Zp G (some (.int r9.1)) r9.2) SK (0, 0) 24 [some (.ref a0), some (.int a1), some (.int b.1), some (.int x3), some (.int b.2.1)] [] b.2.2 := fun b hb => ih b r9 hb rfl
  clear ih
  obtain ⟨x2, x4, σ⟩ := b
  dsimp only at h ⊢
  refine ev_iload dc_X12_fits_24 rfl ?_
  refine ev_aload_n dc_X12_fits_26 rfl ?_
  obtain ⟨q1, hq1, h⟩ := Option.bind_eq_some_iff.mp h
  refine ev_callV (av := []) (st := [.int x4]) (st1 := [.int q1, .int x4]) dc_X12_fits_27 (tX12_words hW i0 hq1) mw_1676 cy_X12_words i0 (by decide) rfl rfl rfl rfl (Nat.le_of_ble_eq_true rfl) (Nat.le_of_ble_eq_true rfl) ⟨Nat.le_refl _, Nat.le_refl _⟩ ?_
  refine ev_icmp_ge (tgt := 66) dc_X12_fits_30 (by decide) h (fun h => ?_) (fun h => ?_)
  · refine ev_iinc (v := 1) (lv' := [some (.ref a0), some (.int a1), some (.int x2), some (.int (x3 + (1 : Int32))), some (.int x4)]) dc_X12_fits_66 rfl (by decide) rfl (by decide) rfl ?_
    refine ev_goto (tgt := 13) dc_X12_fits_69 (by decide) ?_
    exact ev_sub (hk13 (x2, x3 + (1 : Int32), σ) h) (And.intro rfl (And.intro rfl (And.intro rfl (And.intro rfl trivial))))
  · refine ev_iload_n dc_X12_fits_33 rfl ?_
    refine ev_aload_n dc_X12_fits_34 rfl ?_
    refine ev_iload_n dc_X12_fits_35 rfl ?_
    refine ev_iload dc_X12_fits_36 rfl ?_
    obtain ⟨q2, hq2, h⟩ := Option.bind_eq_some_iff.mp h
    refine ev_callV (av := [.int x3, .int x4]) (st := [.int x2]) (st1 := [.int q2.1, .int x2]) dc_X12_fits_38 (tX12_behindWord hW i0 hq2) mw_1857 cy_X12_behindWord i0 (by decide) rfl rfl rfl rfl (Nat.le_of_ble_eq_true rfl) (Nat.le_of_ble_eq_true rfl) ⟨Nat.le_refl _, Nat.le_refl _⟩ ?_
    refine ev_aload_n dc_X12_fits_41 rfl ?_
    refine ev_getR dc_X12_fits_42 fi_X12_13 rfl i0 ?_
    refine ev_bipush (v := 7) dc_X12_fits_45 (by decide) ?_
    refine ev_iald dc_X12_fits_47 (wt hW i0 1 rfl rfl) h (fun h => ?_)
    refine ev_isub dc_X12_fits_48 ?_
    refine ev_iload_n dc_X12_fits_49 rfl ?_
    refine ev_icmp_ne (tgt := 57) dc_X12_fits_50 (by decide) h (fun h => ?_) (fun h => ?_)
    · refine ev_iconst (v := 1) dc_X12_fits_53 (by decide) ?_
      refine ev_goto (tgt := 58) dc_X12_fits_54 (by decide) ?_
      refine ev_iadd dc_X12_fits_58 ?_
      refine ev_istore_n (lv' := [some (.ref a0), some (.int a1), some (.int (x2 + (1 : Int32))), some (.int x3), some (.int x4)]) dc_X12_fits_59 rfl (by decide) rfl ?_
      refine ev_iinc (v := 1) (lv' := [some (.ref a0), some (.int a1), some (.int (x2 + (1 : Int32))), some (.int x3), some (.int (x4 + (1 : Int32)))]) dc_X12_fits_60 rfl (by decide) rfl (by decide) rfl ?_
      refine ev_goto (tgt := 24) dc_X12_fits_63 (by decide) ?_
      exact ev_sub (hk24 (x2 + (1 : Int32), x4 + (1 : Int32), q2.2) h) (And.intro rfl (And.intro rfl (And.intro rfl (And.intro rfl (And.intro rfl trivial)))))
    · refine ev_iconst (v := 0) dc_X12_fits_57 (by decide) ?_
      refine ev_iadd dc_X12_fits_58 ?_
      refine ev_istore_n (lv' := [some (.ref a0), some (.int a1), some (.int (x2 + (0 : Int32))), some (.int x3), some (.int x4)]) dc_X12_fits_59 rfl (by decide) rfl ?_
      refine ev_iinc (v := 1) (lv' := [some (.ref a0), some (.int a1), some (.int (x2 + (0 : Int32))), some (.int x3), some (.int (x4 + (1 : Int32)))]) dc_X12_fits_60 rfl (by decide) rfl (by decide) rfl ?_
      refine ev_goto (tgt := 24) dc_X12_fits_63 (by decide) ?_
      exact ev_sub (hk24 (x2 + (0 : Int32), x4 + (1 : Int32), q2.2) h) (And.intro rfl (And.intro rfl (And.intro rfl (And.intro rfl (And.intro rfl trivial)))))
def fX12_fits_b13 (N : Nat) (G : pG) (a0 : Nat) (a1 : Int32) : (Int32 × Int32 × pS) → Option (Int32 × pS) := lp (fun (k13 : Int32 × Int32 × pS → Option (Int32 × pS)) (b : Int32 × Int32 × pS) => (fX12_courtiers N G a0 b.2.2).bind (fun q3 => if q3 ≤ b.2.1 then (some (b.1, b.2.2)) else (fX12_fits_b24 N G k13 a0 a1 b.2.1 (b.1, (0 : Int32), b.2.2)))) N
set_option maxRecDepth 100000 in
set_option maxHeartbeats 4000000 in
theorem tX12_fits_b13 {N : Nat} {G : pG} {SK : Nat → Nat} {a0 : Nat} {a1 : Int32} {b : Int32 × Int32 × pS} {r : Int32 × pS} (hW : WT G) (i0 : Is G a0 11) (h : fX12_fits_b13 N G a0 a1 b = some r) : Ev miX12_fits (6, 0, 0) G (Zp G (some (.int r.1)) r.2) SK (0, 0) 13 [some (.ref a0), some (.int a1), some (.int b.1), some (.int b.2.1), none] [] b.2.2 := by
  unfold fX12_fits_b13 at h
  refine lp_ind (P := fun b r9 => r9 = r → Ev miX12_fits (6, 0, 0) G (Zp G (some (.int r.1)) r.2) SK (0, 0) 13 [some (.ref a0), some (.int a1), some (.int b.1), some (.int b.2.1), none] [] b.2.2) (fun k13 b r9 ih h9 e9 => ?_) N b r h rfl
  clear h
  subst e9
  have h := h9
  clear h9
  have hk13 : ∀ b : Int32 × Int32 × pS, k13 b = some r9 → Ev miX12_fits (6, 0, 0) G (Zp G (some (.int r9.1)) r9.2) SK (0, 0) 13 [some (.ref a0), some (.int a1), some (.int b.1), some (.int b.2.1), none] [] b.2.2 := fun b hb => ih b r9 hb rfl
  clear ih
  obtain ⟨x2, x3, σ⟩ := b
  dsimp only at h ⊢
  refine ev_iload_n dc_X12_fits_13 rfl ?_
  refine ev_aload_n dc_X12_fits_14 rfl ?_
  obtain ⟨q3, hq3, h⟩ := Option.bind_eq_some_iff.mp h
  refine ev_callV (av := []) (st := [.int x3]) (st1 := [.int q3, .int x3]) dc_X12_fits_15 (tX12_courtiers hW i0 hq3) mw_1705 cy_X12_courtiers i0 (by decide) rfl rfl rfl rfl (Nat.le_of_ble_eq_true rfl) (Nat.le_of_ble_eq_true rfl) ⟨Nat.le_refl _, Nat.le_refl _⟩ ?_
  refine ev_icmp_ge (tgt := 72) dc_X12_fits_18 (by decide) h (fun h => ?_) (fun h => ?_)
  · refine ev_iload_n dc_X12_fits_72 rfl ?_
    cases h
    exact ev_iret dc_X12_fits_73 rfl rfl rfl
  · refine ev_iconst (v := 0) dc_X12_fits_21 (by decide) ?_
    refine ev_istore (lv' := [some (.ref a0), some (.int a1), some (.int x2), some (.int x3), some (.int (0 : Int32))]) dc_X12_fits_22 rfl (by decide) rfl ?_
    exact ev_sub (tX12_fits_b24 (b := (x2, (0 : Int32), σ)) hW i0 hk13 h) (And.intro rfl (And.intro rfl (And.intro rfl (And.intro rfl (And.intro rfl trivial)))))
def fX12_fits (N : Nat) (G : pG) (a0 : Nat) (a1 : Int32) (σ : pS) : Option (Int32 × pS) := (fX12_looksNow N G a0 (putF σ a0 0 (0 : Int32))).bind (fun q4 => fX12_fits_b13 N G a0 a1 ((0 : Int32), (0 : Int32), q4))
set_option maxRecDepth 100000 in
set_option maxHeartbeats 4000000 in
theorem tX12_fits {N : Nat} {G : pG} {SK : Nat → Nat} {a0 : Nat} {a1 : Int32} {σ : pS} {r : Int32 × pS} (hW : WT G) (i0 : Is G a0 11) (h : fX12_fits N G a0 a1 σ = some r) : Dn miX12_fits yX12_fits 6 G SK [.ref a0, .int a1] σ (some (.int r.1)) r.2 := by
  unfold fX12_fits at h
  refine dn_of (lv := [some (.ref a0), some (.int a1), none, none, none]) (by decide) rfl rfl (Nat.le_of_ble_eq_true rfl) rfl ?_
  refine ev_aload_n dc_X12_fits_0 rfl ?_
  refine ev_iconst (v := 0) dc_X12_fits_1 (by decide) ?_
  refine ev_putI dc_X12_fits_2 fi_X12_3 rfl i0 ?_
  refine ev_aload_n dc_X12_fits_5 rfl ?_
  obtain ⟨q4, hq4, h⟩ := Option.bind_eq_some_iff.mp h
  refine ev_callV (av := []) (st := []) (st1 := []) dc_X12_fits_6 (tX12_looksNow hW i0 hq4) mw_1804 cy_X12_looksNow i0 (by decide) rfl rfl rfl rfl (Nat.le_of_ble_eq_true rfl) (Nat.le_of_ble_eq_true rfl) ⟨Nat.le_refl _, Nat.le_refl _⟩ ?_
  refine ev_iconst (v := 0) dc_X12_fits_9 (by decide) ?_
  refine ev_istore_n (lv' := [some (.ref a0), some (.int a1), some (.int (0 : Int32)), none, none]) dc_X12_fits_10 rfl (by decide) rfl ?_
  refine ev_iconst (v := 0) dc_X12_fits_11 (by decide) ?_
  refine ev_istore_n (lv' := [some (.ref a0), some (.int a1), some (.int (0 : Int32)), some (.int (0 : Int32)), none]) dc_X12_fits_12 rfl (by decide) rfl ?_
  exact ev_sub (tX12_fits_b13 (b := ((0 : Int32), (0 : Int32), q4)) hW i0 h) (And.intro rfl (And.intro rfl (And.intro rfl (And.intro rfl trivial))))
theorem dc_X12_oneNight_0 : Dc miX12_oneNight 0 (.iconst 0) 1 1 := ⟨by decide +kernel, rfl⟩
theorem dc_X12_oneNight_1 : Dc miX12_oneNight 1 (.istore_n 1) 1 2 := ⟨by decide +kernel, rfl⟩
theorem dc_X12_oneNight_2 : Dc miX12_oneNight 2 (.iload_n 1) 1 3 := ⟨by decide +kernel, rfl⟩
theorem dc_X12_oneNight_3 : Dc miX12_oneNight 3 (.aload_n 0) 1 4 := ⟨by decide +kernel, rfl⟩
theorem dc_X12_oneNight_4 : Dc miX12_oneNight 4 (.invokevirtual 74) 3 7 := ⟨by decide +kernel, rfl⟩
theorem dc_X12_oneNight_7 : Dc miX12_oneNight 7 (.if_icmp .ge 51) 3 10 := ⟨by decide +kernel, rfl⟩
theorem dc_X12_oneNight_10 : Dc miX12_oneNight 10 (.aload_n 0) 1 11 := ⟨by decide +kernel, rfl⟩
theorem dc_X12_oneNight_11 : Dc miX12_oneNight 11 (.invokevirtual 367) 3 14 := ⟨by decide +kernel, rfl⟩
theorem dc_X12_oneNight_14 : Dc miX12_oneNight 14 (.ifCond .ne 44) 3 17 := ⟨by decide +kernel, rfl⟩
theorem dc_X12_oneNight_17 : Dc miX12_oneNight 17 (.aload_n 0) 1 18 := ⟨by decide +kernel, rfl⟩
theorem dc_X12_oneNight_18 : Dc miX12_oneNight 18 (.iload_n 1) 1 19 := ⟨by decide +kernel, rfl⟩
theorem dc_X12_oneNight_19 : Dc miX12_oneNight 19 (.invokevirtual 370) 3 22 := ⟨by decide +kernel, rfl⟩
theorem dc_X12_oneNight_22 : Dc miX12_oneNight 22 (.ifCond .eq 30) 3 25 := ⟨by decide +kernel, rfl⟩
theorem dc_X12_oneNight_25 : Dc miX12_oneNight 25 (.aload_n 0) 1 26 := ⟨by decide +kernel, rfl⟩
theorem dc_X12_oneNight_26 : Dc miX12_oneNight 26 (.bipush 100) 2 28 := ⟨by decide +kernel, rfl⟩
theorem dc_X12_oneNight_28 : Dc miX12_oneNight 28 (.invokevirtual 388) 3 31 := ⟨by decide +kernel, rfl⟩
theorem dc_X12_oneNight_31 : Dc miX12_oneNight 31 (.aload_n 0) 1 32 := ⟨by decide +kernel, rfl⟩
theorem dc_X12_oneNight_32 : Dc miX12_oneNight 32 (.getfield 13) 3 35 := ⟨by decide +kernel, rfl⟩
theorem dc_X12_oneNight_35 : Dc miX12_oneNight 35 (.bipush 14) 2 37 := ⟨by decide +kernel, rfl⟩
theorem dc_X12_oneNight_37 : Dc miX12_oneNight 37 (.iaload) 1 38 := ⟨by decide +kernel, rfl⟩
theorem dc_X12_oneNight_38 : Dc miX12_oneNight 38 (.if_icmp .ge 14) 3 41 := ⟨by decide +kernel, rfl⟩
theorem dc_X12_oneNight_41 : Dc miX12_oneNight 41 (.aload_n 0) 1 42 := ⟨by decide +kernel, rfl⟩
theorem dc_X12_oneNight_42 : Dc miX12_oneNight 42 (.iload_n 1) 1 43 := ⟨by decide +kernel, rfl⟩
theorem dc_X12_oneNight_43 : Dc miX12_oneNight 43 (.aload_n 0) 1 44 := ⟨by decide +kernel, rfl⟩
theorem dc_X12_oneNight_44 : Dc miX12_oneNight 44 (.iload_n 1) 1 45 := ⟨by decide +kernel, rfl⟩
theorem dc_X12_oneNight_45 : Dc miX12_oneNight 45 (.iconst 1) 1 46 := ⟨by decide +kernel, rfl⟩
theorem dc_X12_oneNight_46 : Dc miX12_oneNight 46 (.invokevirtual 62) 3 49 := ⟨by decide +kernel, rfl⟩
theorem dc_X12_oneNight_49 : Dc miX12_oneNight 49 (.invokevirtual 376) 3 52 := ⟨by decide +kernel, rfl⟩
theorem dc_X12_oneNight_52 : Dc miX12_oneNight 52 (.iinc 1 1) 3 55 := ⟨by decide +kernel, rfl⟩
theorem dc_X12_oneNight_55 : Dc miX12_oneNight 55 (.goto (-53)) 3 58 := ⟨by decide +kernel, rfl⟩
theorem dc_X12_oneNight_58 : Dc miX12_oneNight 58 (.aload_n 0) 1 59 := ⟨by decide +kernel, rfl⟩
theorem dc_X12_oneNight_59 : Dc miX12_oneNight 59 (.invokevirtual 367) 3 62 := ⟨by decide +kernel, rfl⟩
theorem dc_X12_oneNight_62 : Dc miX12_oneNight 62 (.ifCond .ne 22) 3 65 := ⟨by decide +kernel, rfl⟩
theorem dc_X12_oneNight_65 : Dc miX12_oneNight 65 (.aload_n 0) 1 66 := ⟨by decide +kernel, rfl⟩
theorem dc_X12_oneNight_66 : Dc miX12_oneNight 66 (.invokevirtual 80) 3 69 := ⟨by decide +kernel, rfl⟩
theorem dc_X12_oneNight_69 : Dc miX12_oneNight 69 (.ifCond .le 15) 3 72 := ⟨by decide +kernel, rfl⟩
theorem dc_X12_oneNight_72 : Dc miX12_oneNight 72 (.aload_n 0) 1 73 := ⟨by decide +kernel, rfl⟩
theorem dc_X12_oneNight_73 : Dc miX12_oneNight 73 (.aload_n 0) 1 74 := ⟨by decide +kernel, rfl⟩
theorem dc_X12_oneNight_74 : Dc miX12_oneNight 74 (.aload_n 0) 1 75 := ⟨by decide +kernel, rfl⟩
theorem dc_X12_oneNight_75 : Dc miX12_oneNight 75 (.invokevirtual 80) 3 78 := ⟨by decide +kernel, rfl⟩
theorem dc_X12_oneNight_78 : Dc miX12_oneNight 78 (.invokevirtual 388) 3 81 := ⟨by decide +kernel, rfl⟩
theorem dc_X12_oneNight_81 : Dc miX12_oneNight 81 (.invokevirtual 379) 3 84 := ⟨by decide +kernel, rfl⟩
theorem dc_X12_oneNight_84 : Dc miX12_oneNight 84 (.aload_n 0) 1 85 := ⟨by decide +kernel, rfl⟩
theorem dc_X12_oneNight_85 : Dc miX12_oneNight 85 (.getfield 13) 3 88 := ⟨by decide +kernel, rfl⟩
theorem dc_X12_oneNight_88 : Dc miX12_oneNight 88 (.bipush 9) 2 90 := ⟨by decide +kernel, rfl⟩
theorem dc_X12_oneNight_90 : Dc miX12_oneNight 90 (.dup2) 1 91 := ⟨by decide +kernel, rfl⟩
theorem dc_X12_oneNight_91 : Dc miX12_oneNight 91 (.iaload) 1 92 := ⟨by decide +kernel, rfl⟩
theorem dc_X12_oneNight_92 : Dc miX12_oneNight 92 (.iconst 1) 1 93 := ⟨by decide +kernel, rfl⟩
theorem dc_X12_oneNight_93 : Dc miX12_oneNight 93 (.iadd) 1 94 := ⟨by decide +kernel, rfl⟩
theorem dc_X12_oneNight_94 : Dc miX12_oneNight 94 (.iastore) 1 95 := ⟨by decide +kernel, rfl⟩
theorem dc_X12_oneNight_95 : Dc miX12_oneNight 95 (.return_) 1 96 := ⟨by decide +kernel, rfl⟩
def fX12_oneNight_b84 (N : Nat) (G : pG) (a0 : Nat) (σ : pS) : Option (pS) := ck (inB (9 : Int32) (pN G (pR G a0 1))) (ck (inB (9 : Int32) (pN G (pR G a0 1))) (some (sA σ (pR G a0 1) (9 : Int32) ((gA σ (pR G a0 1) (9 : Int32)) + (1 : Int32)))))
set_option maxRecDepth 100000 in
set_option maxHeartbeats 4000000 in
theorem tX12_oneNight_b84 {N : Nat} {G : pG} {SK : Nat → Nat} {a0 : Nat} {σ : pS} {r : pS} (hW : WT G) (i0 : Is G a0 11) (h : fX12_oneNight_b84 N G a0 σ = some r) : Ev miX12_oneNight (7, 0, 0) G (Zp G none r) SK (0, 0) 84 [some (.ref a0), none] [] σ := by
  unfold fX12_oneNight_b84 at h
  refine ev_aload_n dc_X12_oneNight_84 rfl ?_
  refine ev_getR dc_X12_oneNight_85 fi_X12_13 rfl i0 ?_
  refine ev_bipush (v := 9) dc_X12_oneNight_88 (by decide) ?_
  refine ev_dup2 dc_X12_oneNight_90 rfl rfl ?_
  refine ev_iald dc_X12_oneNight_91 (wt hW i0 1 rfl rfl) h (fun h => ?_)
  refine ev_iconst (v := 1) dc_X12_oneNight_92 (by decide) ?_
  refine ev_iadd dc_X12_oneNight_93 ?_
  refine ev_iast dc_X12_oneNight_94 (wt hW i0 1 rfl rfl) h (fun h => ?_)
  cases h
  exact ev_vret dc_X12_oneNight_95 rfl rfl rfl
def fX12_oneNight_b58 (N : Nat) (G : pG) (a0 : Nat) (σ : pS) : Option (pS) := (fX12_isGone N G a0 σ).bind (fun q1 => if q1 = 0 then ((fX12_deeds N G a0 σ).bind (fun q2 => if q2 ≤ 0 then (fX12_oneNight_b84 N G a0 σ) else ((fX12_deeds N G a0 σ).bind (fun q3 => (fX12_drawn N G a0 q3 σ).bind (fun q4 => (fX12_isDone N G a0 q4.1 q4.2).bind (fun q5 => fX12_oneNight_b84 N G a0 q5)))))) else (fX12_oneNight_b84 N G a0 σ))
set_option maxRecDepth 100000 in
set_option maxHeartbeats 4000000 in
theorem tX12_oneNight_b58 {N : Nat} {G : pG} {SK : Nat → Nat} {a0 : Nat} {σ : pS} {r : pS} (hW : WT G) (i0 : Is G a0 11) (h : fX12_oneNight_b58 N G a0 σ = some r) : Ev miX12_oneNight (7, 0, 0) G (Zp G none r) SK (0, 0) 58 [some (.ref a0), none] [] σ := by
  unfold fX12_oneNight_b58 at h
  refine ev_aload_n dc_X12_oneNight_58 rfl ?_
  obtain ⟨q1, hq1, h⟩ := Option.bind_eq_some_iff.mp h
  refine ev_callV (av := []) (st := []) (st1 := [.int q1]) dc_X12_oneNight_59 (tX12_isGone hW i0 hq1) mw_1902 cy_X12_isGone i0 (by decide) rfl rfl rfl rfl (Nat.le_of_ble_eq_true rfl) (Nat.le_of_ble_eq_true rfl) ⟨Nat.le_refl _, Nat.le_refl _⟩ ?_
  refine ev_if_ne (tgt := 84) dc_X12_oneNight_62 (by decide) h (fun h => ?_) (fun h => ?_)
  · refine ev_aload_n dc_X12_oneNight_65 rfl ?_
    obtain ⟨q2, hq2, h⟩ := Option.bind_eq_some_iff.mp h
    refine ev_callV (av := []) (st := []) (st1 := [.int q2]) dc_X12_oneNight_66 (tX12_deeds hW i0 hq2) mw_1695 cy_X12_deeds i0 (by decide) rfl rfl rfl rfl (Nat.le_of_ble_eq_true rfl) (Nat.le_of_ble_eq_true rfl) ⟨Nat.le_refl _, Nat.le_refl _⟩ ?_
    refine ev_if_le (tgt := 84) dc_X12_oneNight_69 (by decide) h (fun h => ?_) (fun h => ?_)
    · exact ev_sub (tX12_oneNight_b84 hW i0 h) (And.intro rfl trivial)
    · refine ev_aload_n dc_X12_oneNight_72 rfl ?_
      refine ev_aload_n dc_X12_oneNight_73 rfl ?_
      refine ev_aload_n dc_X12_oneNight_74 rfl ?_
      obtain ⟨q3, hq3, h⟩ := Option.bind_eq_some_iff.mp h
      refine ev_callV (av := []) (st := [.ref a0, .ref a0]) (st1 := [.int q3, .ref a0, .ref a0]) dc_X12_oneNight_75 (tX12_deeds hW i0 hq3) mw_1695 cy_X12_deeds i0 (by decide) rfl rfl rfl rfl (Nat.le_of_ble_eq_true rfl) (Nat.le_of_ble_eq_true rfl) ⟨Nat.le_refl _, Nat.le_refl _⟩ ?_
      obtain ⟨q4, hq4, h⟩ := Option.bind_eq_some_iff.mp h
      refine ev_callV (av := [.int q3]) (st := [.ref a0]) (st1 := [.int q4.1, .ref a0]) dc_X12_oneNight_78 (tX12_drawn hW i0 hq4) mw_1973 cy_X12_drawn i0 (by decide) rfl rfl rfl rfl (Nat.le_of_ble_eq_true rfl) (Nat.le_of_ble_eq_true rfl) ⟨Nat.le_refl _, Nat.le_refl _⟩ ?_
      obtain ⟨q5, hq5, h⟩ := Option.bind_eq_some_iff.mp h
      refine ev_callV (av := [.int q4.1]) (st := []) (st1 := []) dc_X12_oneNight_81 (tX12_isDone hW i0 hq5) mw_1926 cy_X12_isDone i0 (by decide) rfl rfl rfl rfl (Nat.le_of_ble_eq_true rfl) (Nat.le_of_ble_eq_true rfl) ⟨Nat.le_refl _, Nat.le_refl _⟩ ?_
      exact ev_sub (tX12_oneNight_b84 hW i0 h) (And.intro rfl trivial)
  · exact ev_sub (tX12_oneNight_b84 hW i0 h) (And.intro rfl trivial)
def fX12_oneNight_b2 (N : Nat) (G : pG) (a0 : Nat) : (Int32 × pS) → Option (pS) := lp (fun (k2 : Int32 × pS → Option (pS)) (b : Int32 × pS) => (fX12_courtiers N G a0 b.2).bind (fun q6 => if q6 ≤ b.1 then (fX12_oneNight_b58 N G a0 b.2) else ((fX12_isGone N G a0 b.2).bind (fun q7 => if q7 = 0 then ((fX12_isNear N G a0 b.1 b.2).bind (fun q8 => if q8 = 0 then (k2 (b.1 + (1 : Int32), b.2)) else ((fX12_drawn N G a0 (100 : Int32) b.2).bind (fun q9 => ck (inB (14 : Int32) (pN G (pR G a0 1))) (if (gA q9.2 (pR G a0 1) (14 : Int32)) ≤ q9.1 then (k2 (b.1 + (1 : Int32), q9.2)) else ((fX12_ofWho N G a0 b.1 (1 : Int32) q9.2).bind (fun q10 => (fX12_says N G a0 b.1 q10 q9.2).bind (fun q11 => k2 (b.1 + (1 : Int32), q11))))))))) else (fX12_oneNight_b58 N G a0 b.2))))) N
set_option maxRecDepth 100000 in
set_option maxHeartbeats 4000000 in
theorem tX12_oneNight_b2 {N : Nat} {G : pG} {SK : Nat → Nat} {a0 : Nat} {b : Int32 × pS} {r : pS} (hW : WT G) (i0 : Is G a0 11) (h : fX12_oneNight_b2 N G a0 b = some r) : Ev miX12_oneNight (7, 0, 0) G (Zp G none r) SK (0, 0) 2 [some (.ref a0), some (.int b.1)] [] b.2 := by
  unfold fX12_oneNight_b2 at h
  refine lp_ind (P := fun b r9 => r9 = r → Ev miX12_oneNight (7, 0, 0) G (Zp G none r) SK (0, 0) 2 [some (.ref a0), some (.int b.1)] [] b.2) (fun k2 b r9 ih h9 e9 => ?_) N b r h rfl
  clear h
  subst e9
  have h := h9
  clear h9
  have hk2 : ∀ b : Int32 × pS, k2 b = some r9 → Ev miX12_oneNight (7, 0, 0) G (Zp G none r9) SK (0, 0) 2 [some (.ref a0), some (.int b.1)] [] b.2 := fun b hb => ih b r9 hb rfl
  clear ih
  obtain ⟨x1, σ⟩ := b
  dsimp only at h ⊢
  refine ev_iload_n dc_X12_oneNight_2 rfl ?_
  refine ev_aload_n dc_X12_oneNight_3 rfl ?_
  obtain ⟨q6, hq6, h⟩ := Option.bind_eq_some_iff.mp h
  refine ev_callV (av := []) (st := [.int x1]) (st1 := [.int q6, .int x1]) dc_X12_oneNight_4 (tX12_courtiers hW i0 hq6) mw_1705 cy_X12_courtiers i0 (by decide) rfl rfl rfl rfl (Nat.le_of_ble_eq_true rfl) (Nat.le_of_ble_eq_true rfl) ⟨Nat.le_refl _, Nat.le_refl _⟩ ?_
  refine ev_icmp_ge (tgt := 58) dc_X12_oneNight_7 (by decide) h (fun h => ?_) (fun h => ?_)
  · exact ev_sub (tX12_oneNight_b58 hW i0 h) (And.intro rfl trivial)
  · refine ev_aload_n dc_X12_oneNight_10 rfl ?_
    obtain ⟨q7, hq7, h⟩ := Option.bind_eq_some_iff.mp h
    refine ev_callV (av := []) (st := []) (st1 := [.int q7]) dc_X12_oneNight_11 (tX12_isGone hW i0 hq7) mw_1902 cy_X12_isGone i0 (by decide) rfl rfl rfl rfl (Nat.le_of_ble_eq_true rfl) (Nat.le_of_ble_eq_true rfl) ⟨Nat.le_refl _, Nat.le_refl _⟩ ?_
    refine ev_if_ne (tgt := 58) dc_X12_oneNight_14 (by decide) h (fun h => ?_) (fun h => ?_)
    · refine ev_aload_n dc_X12_oneNight_17 rfl ?_
      refine ev_iload_n dc_X12_oneNight_18 rfl ?_
      obtain ⟨q8, hq8, h⟩ := Option.bind_eq_some_iff.mp h
      refine ev_callV (av := [.int x1]) (st := []) (st1 := [.int q8]) dc_X12_oneNight_19 (tX12_isNear hW i0 hq8) mw_1906 cy_X12_isNear i0 (by decide) rfl rfl rfl rfl (Nat.le_of_ble_eq_true rfl) (Nat.le_of_ble_eq_true rfl) ⟨Nat.le_refl _, Nat.le_refl _⟩ ?_
      refine ev_if_eq (tgt := 52) dc_X12_oneNight_22 (by decide) h (fun h => ?_) (fun h => ?_)
      · refine ev_iinc (v := 1) (lv' := [some (.ref a0), some (.int (x1 + (1 : Int32)))]) dc_X12_oneNight_52 rfl (by decide) rfl (by decide) rfl ?_
        refine ev_goto (tgt := 2) dc_X12_oneNight_55 (by decide) ?_
        exact ev_sub (hk2 (x1 + (1 : Int32), σ) h) (And.intro rfl (And.intro rfl trivial))
      · refine ev_aload_n dc_X12_oneNight_25 rfl ?_
        refine ev_bipush (v := 100) dc_X12_oneNight_26 (by decide) ?_
        obtain ⟨q9, hq9, h⟩ := Option.bind_eq_some_iff.mp h
        refine ev_callV (av := [.int (100 : Int32)]) (st := []) (st1 := [.int q9.1]) dc_X12_oneNight_28 (tX12_drawn hW i0 hq9) mw_1973 cy_X12_drawn i0 (by decide) rfl rfl rfl rfl (Nat.le_of_ble_eq_true rfl) (Nat.le_of_ble_eq_true rfl) ⟨Nat.le_refl _, Nat.le_refl _⟩ ?_
        refine ev_aload_n dc_X12_oneNight_31 rfl ?_
        refine ev_getR dc_X12_oneNight_32 fi_X12_13 rfl i0 ?_
        refine ev_bipush (v := 14) dc_X12_oneNight_35 (by decide) ?_
        refine ev_iald dc_X12_oneNight_37 (wt hW i0 1 rfl rfl) h (fun h => ?_)
        refine ev_icmp_ge (tgt := 52) dc_X12_oneNight_38 (by decide) h (fun h => ?_) (fun h => ?_)
        · refine ev_iinc (v := 1) (lv' := [some (.ref a0), some (.int (x1 + (1 : Int32)))]) dc_X12_oneNight_52 rfl (by decide) rfl (by decide) rfl ?_
          refine ev_goto (tgt := 2) dc_X12_oneNight_55 (by decide) ?_
          exact ev_sub (hk2 (x1 + (1 : Int32), q9.2) h) (And.intro rfl (And.intro rfl trivial))
        · refine ev_aload_n dc_X12_oneNight_41 rfl ?_
          refine ev_iload_n dc_X12_oneNight_42 rfl ?_
          refine ev_aload_n dc_X12_oneNight_43 rfl ?_
          refine ev_iload_n dc_X12_oneNight_44 rfl ?_
          refine ev_iconst (v := 1) dc_X12_oneNight_45 (by decide) ?_
          obtain ⟨q10, hq10, h⟩ := Option.bind_eq_some_iff.mp h
          refine ev_callV (av := [.int x1, .int (1 : Int32)]) (st := [.int x1, .ref a0]) (st1 := [.int q10, .int x1, .ref a0]) dc_X12_oneNight_46 (tX12_ofWho hW i0 hq10) mw_1886 cy_X12_ofWho i0 (by decide) rfl rfl rfl rfl (Nat.le_of_ble_eq_true rfl) (Nat.le_of_ble_eq_true rfl) ⟨Nat.le_refl _, Nat.le_refl _⟩ ?_
          obtain ⟨q11, hq11, h⟩ := Option.bind_eq_some_iff.mp h
          refine ev_callV (av := [.int x1, .int q10]) (st := []) (st1 := []) dc_X12_oneNight_49 (tX12_says hW i0 hq11) mw_1914 cy_X12_says i0 (by decide) rfl rfl rfl rfl (Nat.le_of_ble_eq_true rfl) (Nat.le_of_ble_eq_true rfl) ⟨Nat.le_refl _, Nat.le_refl _⟩ ?_
          refine ev_iinc (v := 1) (lv' := [some (.ref a0), some (.int (x1 + (1 : Int32)))]) dc_X12_oneNight_52 rfl (by decide) rfl (by decide) rfl ?_
          refine ev_goto (tgt := 2) dc_X12_oneNight_55 (by decide) ?_
          exact ev_sub (hk2 (x1 + (1 : Int32), q11) h) (And.intro rfl (And.intro rfl trivial))
    · exact ev_sub (tX12_oneNight_b58 hW i0 h) (And.intro rfl trivial)
def fX12_oneNight (N : Nat) (G : pG) (a0 : Nat) (σ : pS) : Option (pS) := fX12_oneNight_b2 N G a0 ((0 : Int32), σ)
set_option maxRecDepth 100000 in
set_option maxHeartbeats 4000000 in
theorem tX12_oneNight {N : Nat} {G : pG} {SK : Nat → Nat} {a0 : Nat} {σ : pS} {r : pS} (hW : WT G) (i0 : Is G a0 11) (h : fX12_oneNight N G a0 σ = some r) : Dn miX12_oneNight yX12_oneNight 7 G SK [.ref a0] σ none r := by
  unfold fX12_oneNight at h
  refine dn_of (lv := [some (.ref a0), none]) (by decide) rfl rfl (Nat.le_of_ble_eq_true rfl) rfl ?_
  refine ev_iconst (v := 0) dc_X12_oneNight_0 (by decide) ?_
  refine ev_istore_n (lv' := [some (.ref a0), some (.int (0 : Int32))]) dc_X12_oneNight_1 rfl (by decide) rfl ?_
  exact ev_sub (tX12_oneNight_b2 (b := ((0 : Int32), σ)) hW i0 h) (And.intro rfl (And.intro rfl trivial))
theorem dc_X12_goesBy_0 : Dc miX12_goesBy 0 (.iconst 0) 1 1 := ⟨by decide +kernel, rfl⟩
theorem dc_X12_goesBy_1 : Dc miX12_goesBy 1 (.istore_n 2) 1 2 := ⟨by decide +kernel, rfl⟩
theorem dc_X12_goesBy_2 : Dc miX12_goesBy 2 (.iload_n 2) 1 3 := ⟨by decide +kernel, rfl⟩
theorem dc_X12_goesBy_3 : Dc miX12_goesBy 3 (.iload_n 1) 1 4 := ⟨by decide +kernel, rfl⟩
theorem dc_X12_goesBy_4 : Dc miX12_goesBy 4 (.if_icmp .ge 20) 3 7 := ⟨by decide +kernel, rfl⟩
theorem dc_X12_goesBy_7 : Dc miX12_goesBy 7 (.aload_n 0) 1 8 := ⟨by decide +kernel, rfl⟩
theorem dc_X12_goesBy_8 : Dc miX12_goesBy 8 (.invokevirtual 391) 3 11 := ⟨by decide +kernel, rfl⟩
theorem dc_X12_goesBy_11 : Dc miX12_goesBy 11 (.ifCond .ne 13) 3 14 := ⟨by decide +kernel, rfl⟩
theorem dc_X12_goesBy_14 : Dc miX12_goesBy 14 (.aload_n 0) 1 15 := ⟨by decide +kernel, rfl⟩
theorem dc_X12_goesBy_15 : Dc miX12_goesBy 15 (.invokevirtual 394) 3 18 := ⟨by decide +kernel, rfl⟩
theorem dc_X12_goesBy_18 : Dc miX12_goesBy 18 (.iinc 2 1) 3 21 := ⟨by decide +kernel, rfl⟩
theorem dc_X12_goesBy_21 : Dc miX12_goesBy 21 (.goto (-19)) 3 24 := ⟨by decide +kernel, rfl⟩
theorem dc_X12_goesBy_24 : Dc miX12_goesBy 24 (.iload_n 2) 1 25 := ⟨by decide +kernel, rfl⟩
theorem dc_X12_goesBy_25 : Dc miX12_goesBy 25 (.ireturn) 1 26 := ⟨by decide +kernel, rfl⟩
def fX12_goesBy_b2 (N : Nat) (G : pG) (a0 : Nat) (a1 : Int32) : (Int32 × pS) → Option (Int32 × pS) := lp (fun (k2 : Int32 × pS → Option (Int32 × pS)) (b : Int32 × pS) => if a1 ≤ b.1 then (some (b.1, b.2)) else ((fX12_isOver N G a0 b.2).bind (fun q1 => if q1 = 0 then ((fX12_oneNight N G a0 b.2).bind (fun q2 => k2 (b.1 + (1 : Int32), q2))) else (some (b.1, b.2))))) N
set_option maxRecDepth 100000 in
set_option maxHeartbeats 4000000 in
theorem tX12_goesBy_b2 {N : Nat} {G : pG} {SK : Nat → Nat} {a0 : Nat} {a1 : Int32} {b : Int32 × pS} {r : Int32 × pS} (hW : WT G) (i0 : Is G a0 11) (h : fX12_goesBy_b2 N G a0 a1 b = some r) : Ev miX12_goesBy (8, 0, 0) G (Zp G (some (.int r.1)) r.2) SK (0, 0) 2 [some (.ref a0), some (.int a1), some (.int b.1)] [] b.2 := by
  unfold fX12_goesBy_b2 at h
  refine lp_ind (P := fun b r9 => r9 = r → Ev miX12_goesBy (8, 0, 0) G (Zp G (some (.int r.1)) r.2) SK (0, 0) 2 [some (.ref a0), some (.int a1), some (.int b.1)] [] b.2) (fun k2 b r9 ih h9 e9 => ?_) N b r h rfl
  clear h
  subst e9
  have h := h9
  clear h9
  have hk2 : ∀ b : Int32 × pS, k2 b = some r9 → Ev miX12_goesBy (8, 0, 0) G (Zp G (some (.int r9.1)) r9.2) SK (0, 0) 2 [some (.ref a0), some (.int a1), some (.int b.1)] [] b.2 := fun b hb => ih b r9 hb rfl
  clear ih
  obtain ⟨x2, σ⟩ := b
  dsimp only at h ⊢
  refine ev_iload_n dc_X12_goesBy_2 rfl ?_
  refine ev_iload_n dc_X12_goesBy_3 rfl ?_
  refine ev_icmp_ge (tgt := 24) dc_X12_goesBy_4 (by decide) h (fun h => ?_) (fun h => ?_)
  · refine ev_iload_n dc_X12_goesBy_24 rfl ?_
    cases h
    exact ev_iret dc_X12_goesBy_25 rfl rfl rfl
  · refine ev_aload_n dc_X12_goesBy_7 rfl ?_
    obtain ⟨q1, hq1, h⟩ := Option.bind_eq_some_iff.mp h
    refine ev_callV (av := []) (st := []) (st1 := [.int q1]) dc_X12_goesBy_8 (tX12_isOver hW i0 hq1) mw_1965 cy_X12_isOver i0 (by decide) rfl rfl rfl rfl (Nat.le_of_ble_eq_true rfl) (Nat.le_of_ble_eq_true rfl) ⟨Nat.le_refl _, Nat.le_refl _⟩ ?_
    refine ev_if_ne (tgt := 24) dc_X12_goesBy_11 (by decide) h (fun h => ?_) (fun h => ?_)
    · refine ev_aload_n dc_X12_goesBy_14 rfl ?_
      obtain ⟨q2, hq2, h⟩ := Option.bind_eq_some_iff.mp h
      refine ev_callV (av := []) (st := []) (st1 := []) dc_X12_goesBy_15 (tX12_oneNight hW i0 hq2) mw_1969 cy_X12_oneNight i0 (by decide) rfl rfl rfl rfl (Nat.le_of_ble_eq_true rfl) (Nat.le_of_ble_eq_true rfl) ⟨Nat.le_refl _, Nat.le_refl _⟩ ?_
      refine ev_iinc (v := 1) (lv' := [some (.ref a0), some (.int a1), some (.int (x2 + (1 : Int32)))]) dc_X12_goesBy_18 rfl (by decide) rfl (by decide) rfl ?_
      refine ev_goto (tgt := 2) dc_X12_goesBy_21 (by decide) ?_
      exact ev_sub (hk2 (x2 + (1 : Int32), q2) h) (And.intro rfl (And.intro rfl (And.intro rfl trivial)))
    · refine ev_iload_n dc_X12_goesBy_24 rfl ?_
      cases h
      exact ev_iret dc_X12_goesBy_25 rfl rfl rfl
def fX12_goesBy (N : Nat) (G : pG) (a0 : Nat) (a1 : Int32) (σ : pS) : Option (Int32 × pS) := fX12_goesBy_b2 N G a0 a1 ((0 : Int32), σ)
set_option maxRecDepth 100000 in
set_option maxHeartbeats 4000000 in
theorem tX12_goesBy {N : Nat} {G : pG} {SK : Nat → Nat} {a0 : Nat} {a1 : Int32} {σ : pS} {r : Int32 × pS} (hW : WT G) (i0 : Is G a0 11) (h : fX12_goesBy N G a0 a1 σ = some r) : Dn miX12_goesBy yX12_goesBy 8 G SK [.ref a0, .int a1] σ (some (.int r.1)) r.2 := by
  unfold fX12_goesBy at h
  refine dn_of (lv := [some (.ref a0), some (.int a1), none]) (by decide) rfl rfl (Nat.le_of_ble_eq_true rfl) rfl ?_
  refine ev_iconst (v := 0) dc_X12_goesBy_0 (by decide) ?_
  refine ev_istore_n (lv' := [some (.ref a0), some (.int a1), some (.int (0 : Int32))]) dc_X12_goesBy_1 rfl (by decide) rfl ?_
  exact ev_sub (tX12_goesBy_b2 (b := ((0 : Int32), σ)) hW i0 h) (And.intro rfl (And.intro rfl (And.intro rfl trivial)))
theorem dc_X12_noWord_0 : Dc miX12_noWord 0 (.iload_n 1) 1 1 := ⟨by decide +kernel, rfl⟩
theorem dc_X12_noWord_1 : Dc miX12_noWord 1 (.iconst 0) 1 2 := ⟨by decide +kernel, rfl⟩
theorem dc_X12_noWord_2 : Dc miX12_noWord 2 (.aload_n 0) 1 3 := ⟨by decide +kernel, rfl⟩
theorem dc_X12_noWord_3 : Dc miX12_noWord 3 (.invokevirtual 77) 3 6 := ⟨by decide +kernel, rfl⟩
theorem dc_X12_noWord_6 : Dc miX12_noWord 6 (.iconst 1) 1 7 := ⟨by decide +kernel, rfl⟩
theorem dc_X12_noWord_7 : Dc miX12_noWord 7 (.isub) 1 8 := ⟨by decide +kernel, rfl⟩
theorem dc_X12_noWord_8 : Dc miX12_noWord 8 (.invokestatic 70) 3 11 := ⟨by decide +kernel, rfl⟩
theorem dc_X12_noWord_11 : Dc miX12_noWord 11 (.ifCond .ne 7) 3 14 := ⟨by decide +kernel, rfl⟩
theorem dc_X12_noWord_14 : Dc miX12_noWord 14 (.iconst 1) 1 15 := ⟨by decide +kernel, rfl⟩
theorem dc_X12_noWord_15 : Dc miX12_noWord 15 (.goto 4) 3 18 := ⟨by decide +kernel, rfl⟩
theorem dc_X12_noWord_18 : Dc miX12_noWord 18 (.iconst 0) 1 19 := ⟨by decide +kernel, rfl⟩
theorem dc_X12_noWord_19 : Dc miX12_noWord 19 (.ireturn) 1 20 := ⟨by decide +kernel, rfl⟩
def fX12_noWord (N : Nat) (G : pG) (a0 : Nat) (a1 : Int32) (σ : pS) : Option (Int32) := (fX12_words N G a0 σ).bind (fun q1 => (fX12_in N G a1 (0 : Int32) (q1 - (1 : Int32)) σ).bind (fun q2 => if q2 = 0 then (some (1 : Int32)) else (some (0 : Int32))))
set_option maxRecDepth 100000 in
set_option maxHeartbeats 4000000 in
theorem tX12_noWord {N : Nat} {G : pG} {SK : Nat → Nat} {a0 : Nat} {a1 : Int32} {σ : pS} {r : Int32} (hW : WT G) (i0 : Is G a0 11) (h : fX12_noWord N G a0 a1 σ = some r) : Dn miX12_noWord yX12_noWord 2 G SK [.ref a0, .int a1] σ (some (.int r)) σ := by
  unfold fX12_noWord at h
  refine dn_of (lv := [some (.ref a0), some (.int a1)]) (by decide) rfl rfl (Nat.le_of_ble_eq_true rfl) rfl ?_
  refine ev_iload_n dc_X12_noWord_0 rfl ?_
  refine ev_iconst (v := 0) dc_X12_noWord_1 (by decide) ?_
  refine ev_aload_n dc_X12_noWord_2 rfl ?_
  obtain ⟨q1, hq1, h⟩ := Option.bind_eq_some_iff.mp h
  refine ev_callV (av := []) (st := [.int (0 : Int32), .int a1]) (st1 := [.int q1, .int (0 : Int32), .int a1]) dc_X12_noWord_3 (tX12_words hW i0 hq1) mw_1676 cy_X12_words i0 (by decide) rfl rfl rfl rfl (Nat.le_of_ble_eq_true rfl) (Nat.le_of_ble_eq_true rfl) ⟨Nat.le_refl _, Nat.le_refl _⟩ ?_
  refine ev_iconst (v := 1) dc_X12_noWord_6 (by decide) ?_
  refine ev_isub dc_X12_noWord_7 ?_
  obtain ⟨q2, hq2, h⟩ := Option.bind_eq_some_iff.mp h
  refine ev_callS (av := [.int a1, .int (0 : Int32), .int (q1 - (1 : Int32))]) (st := []) (st1 := [.int q2]) dc_X12_noWord_8 (tX12_in hW hq2) mw_1656 cs_X12_in rfl rfl rfl (Nat.le_of_ble_eq_true rfl) (Nat.le_of_ble_eq_true rfl) ⟨Nat.le_refl _, Nat.le_refl _⟩ ?_
  refine ev_if_ne (tgt := 18) dc_X12_noWord_11 (by decide) h (fun h => ?_) (fun h => ?_)
  · refine ev_iconst (v := 1) dc_X12_noWord_14 (by decide) ?_
    refine ev_goto (tgt := 19) dc_X12_noWord_15 (by decide) ?_
    cases h
    exact ev_zretc dc_X12_noWord_19 rfl rfl rfl rfl
  · refine ev_iconst (v := 0) dc_X12_noWord_18 (by decide) ?_
    cases h
    exact ev_zretc dc_X12_noWord_19 rfl rfl rfl rfl
