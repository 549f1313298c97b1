theorem dc_X12_loudest_0 : Dc miX12_loudest 0 (.aload_n 0) 1 1 := ⟨by decide +kernel, rfl⟩
theorem dc_X12_loudest_1 : Dc miX12_loudest 1 (.iconst 0) 1 2 := ⟨by decide +kernel, rfl⟩
theorem dc_X12_loudest_2 : Dc miX12_loudest 2 (.putfield 3) 3 5 := ⟨by decide +kernel, rfl⟩
theorem dc_X12_loudest_5 : Dc miX12_loudest 5 (.iconst (-1)) 1 6 := ⟨by decide +kernel, rfl⟩
theorem dc_X12_loudest_6 : Dc miX12_loudest 6 (.istore_n 1) 1 7 := ⟨by decide +kernel, rfl⟩
theorem dc_X12_loudest_7 : Dc miX12_loudest 7 (.iconst 0) 1 8 := ⟨by decide +kernel, rfl⟩
theorem dc_X12_loudest_8 : Dc miX12_loudest 8 (.istore_n 2) 1 9 := ⟨by decide +kernel, rfl⟩
theorem dc_X12_loudest_9 : Dc miX12_loudest 9 (.iload_n 2) 1 10 := ⟨by decide +kernel, rfl⟩
theorem dc_X12_loudest_10 : Dc miX12_loudest 10 (.aload_n 0) 1 11 := ⟨by decide +kernel, rfl⟩
theorem dc_X12_loudest_11 : Dc miX12_loudest 11 (.invokevirtual 74) 3 14 := ⟨by decide +kernel, rfl⟩
theorem dc_X12_loudest_14 : Dc miX12_loudest 14 (.if_icmp .ge 38) 3 17 := ⟨by decide +kernel, rfl⟩
theorem dc_X12_loudest_17 : Dc miX12_loudest 17 (.aload_n 0) 1 18 := ⟨by decide +kernel, rfl⟩
theorem dc_X12_loudest_18 : Dc miX12_loudest 18 (.getfield 13) 3 21 := ⟨by decide +kernel, rfl⟩
theorem dc_X12_loudest_21 : Dc miX12_loudest 21 (.bipush 15) 2 23 := ⟨by decide +kernel, rfl⟩
theorem dc_X12_loudest_23 : Dc miX12_loudest 23 (.iaload) 1 24 := ⟨by decide +kernel, rfl⟩
theorem dc_X12_loudest_24 : Dc miX12_loudest 24 (.ifCond .le 28) 3 27 := ⟨by decide +kernel, rfl⟩
theorem dc_X12_loudest_27 : Dc miX12_loudest 27 (.iload_n 1) 1 28 := ⟨by decide +kernel, rfl⟩
theorem dc_X12_loudest_28 : Dc miX12_loudest 28 (.ifCond .lt 16) 3 31 := ⟨by decide +kernel, rfl⟩
theorem dc_X12_loudest_31 : Dc miX12_loudest 31 (.aload_n 0) 1 32 := ⟨by decide +kernel, rfl⟩
theorem dc_X12_loudest_32 : Dc miX12_loudest 32 (.iload_n 2) 1 33 := ⟨by decide +kernel, rfl⟩
theorem dc_X12_loudest_33 : Dc miX12_loudest 33 (.invokevirtual 471) 3 36 := ⟨by decide +kernel, rfl⟩
theorem dc_X12_loudest_36 : Dc miX12_loudest 36 (.aload_n 0) 1 37 := ⟨by decide +kernel, rfl⟩
theorem dc_X12_loudest_37 : Dc miX12_loudest 37 (.iload_n 1) 1 38 := ⟨by decide +kernel, rfl⟩
theorem dc_X12_loudest_38 : Dc miX12_loudest 38 (.invokevirtual 471) 3 41 := ⟨by decide +kernel, rfl⟩
theorem dc_X12_loudest_41 : Dc miX12_loudest 41 (.if_icmp .le 5) 3 44 := ⟨by decide +kernel, rfl⟩
theorem dc_X12_loudest_44 : Dc miX12_loudest 44 (.iload_n 2) 1 45 := ⟨by decide +kernel, rfl⟩
theorem dc_X12_loudest_45 : Dc miX12_loudest 45 (.istore_n 1) 1 46 := ⟨by decide +kernel, rfl⟩
theorem dc_X12_loudest_46 : Dc miX12_loudest 46 (.iinc 2 1) 3 49 := ⟨by decide +kernel, rfl⟩
theorem dc_X12_loudest_49 : Dc miX12_loudest 49 (.goto (-40)) 3 52 := ⟨by decide +kernel, rfl⟩
theorem dc_X12_loudest_52 : Dc miX12_loudest 52 (.iload_n 1) 1 53 := ⟨by decide +kernel, rfl⟩
theorem dc_X12_loudest_53 : Dc miX12_loudest 53 (.ireturn) 1 54 := ⟨by decide +kernel, rfl⟩
def fX12_loudest_b9 (N : Nat) (G : pG) (a0 : Nat) : (Int32 × Int32 × pS) → Option (Int32 × pS) := lp (fun (k9 : Int32 × Int32 × pS → Option (Int32 × pS)) (b : Int32 × Int32 × pS) => (fX12_courtiers N G a0 b.2.2).bind (fun q1 => if q1 ≤ b.2.1 then (some (b.1, b.2.2)) else (ck (inB (15 : Int32) (pN G (pR G a0 1))) (if (gA b.2.2 (pR G a0 1) (15 : Int32)) ≤ 0 then (some (b.1, b.2.2)) else (if b.1 < 0 then (k9 (b.2.1, b.2.1 + (1 : Int32), b.2.2)) else ((fX12_recordsOf N G a0 b.2.1 b.2.2).bind (fun q2 => (fX12_recordsOf N G a0 b.1 b.2.2).bind (fun q3 => if q2 ≤ q3 then (k9 (b.1, b.2.1 + (1 : Int32), b.2.2)) else (k9 (b.2.1, b.2.1 + (1 : Int32), b.2.2)))))))))) N
set_option maxRecDepth 100000 in
set_option maxHeartbeats 4000000 in
theorem tX12_loudest_b9 {N : Nat} {G : pG} {SK : Nat → Nat} {a0 : Nat} {b : Int32 × Int32 × pS} {r : Int32 × pS} (hW : WT G) (i0 : Is G a0 11) (h : fX12_loudest_b9 N G a0 b = some r) : Ev miX12_loudest (3, 0, 0) G (Zp G (some (.int r.1)) r.2) SK (0, 0) 9 [some (.ref a0), some (.int b.1), some (.int b.2.1)] [] b.2.2 := by
  unfold fX12_loudest_b9 at h
  refine lp_ind (P := fun b r9 => r9 = r → Ev miX12_loudest (3, 0, 0) G (Zp G (some (.int r.1)) r.2) SK (0, 0) 9 [some (.ref a0), some (.int b.1), some (.int b.2.1)] [] b.2.2) (fun k9 b r9 ih h9 e9 => ?_) N b r h rfl
  clear h
  subst e9
  have h := h9
  clear h9
  have hk9 : ∀ b : Int32 × Int32 × pS, k9 b = some r9 → Ev miX12_loudest (3, 0, 0) G (Zp G (some (.int r9.1)) r9.2) SK (0, 0) 9 [some (.ref a0), some (.int b.1), some (.int b.2.1)] [] b.2.2 := fun b hb => ih b r9 hb rfl
  clear ih
  obtain ⟨x1, x2, σ⟩ := b
  dsimp only at h ⊢
  refine ev_iload_n dc_X12_loudest_9 rfl ?_
  refine ev_aload_n dc_X12_loudest_10 rfl ?_
  obtain ⟨q1, hq1, h⟩ := Option.bind_eq_some_iff.mp h
  refine ev_callV (av := []) (st := [.int x2]) (st1 := [.int q1, .int x2]) dc_X12_loudest_11 (tX12_courtiers hW i0 hq1) mw_1705 cy_X12_courtiers i0 (by decide) rfl rfl rfl rfl (Nat.le_of_ble_eq_true rfl) (Nat.le_of_ble_eq_true rfl) ⟨Nat.le_refl _, Nat.le_refl _⟩ ?_
  refine ev_icmp_ge (tgt := 52) dc_X12_loudest_14 (by decide) h (fun h => ?_) (fun h => ?_)
  · refine ev_iload_n dc_X12_loudest_52 rfl ?_
    cases h
    exact ev_iret dc_X12_loudest_53 rfl rfl rfl
  · refine ev_aload_n dc_X12_loudest_17 rfl ?_
    refine ev_getR dc_X12_loudest_18 fi_X12_13 rfl i0 ?_
    refine ev_bipush (v := 15) dc_X12_loudest_21 (by decide) ?_
    refine ev_iald dc_X12_loudest_23 (wt hW i0 1 rfl rfl) h (fun h => ?_)
    refine ev_if_le (tgt := 52) dc_X12_loudest_24 (by decide) h (fun h => ?_) (fun h => ?_)
    · refine ev_iload_n dc_X12_loudest_52 rfl ?_
      cases h
      exact ev_iret dc_X12_loudest_53 rfl rfl rfl
    · refine ev_iload_n dc_X12_loudest_27 rfl ?_
      refine ev_if_lt (tgt := 44) dc_X12_loudest_28 (by decide) h (fun h => ?_) (fun h => ?_)
      · refine ev_iload_n dc_X12_loudest_44 rfl ?_
        refine ev_istore_n (lv' := [some (.ref a0), some (.int x2), some (.int x2)]) dc_X12_loudest_45 rfl (by decide) rfl ?_
        refine ev_iinc (v := 1) (lv' := [some (.ref a0), some (.int x2), some (.int (x2 + (1 : Int32)))]) dc_X12_loudest_46 rfl (by decide) rfl (by decide) rfl ?_
        refine ev_goto (tgt := 9) dc_X12_loudest_49 (by decide) ?_
        exact ev_sub (hk9 (x2, x2 + (1 : Int32), σ) h) (And.intro rfl (And.intro rfl (And.intro rfl trivial)))
      · refine ev_aload_n dc_X12_loudest_31 rfl ?_
        refine ev_iload_n dc_X12_loudest_32 rfl ?_
        obtain ⟨q2, hq2, h⟩ := Option.bind_eq_some_iff.mp h
        refine ev_callV (av := [.int x2]) (st := []) (st1 := [.int q2]) dc_X12_loudest_33 (tX12_recordsOf hW i0 hq2) mw_2170 cy_X12_recordsOf i0 (by decide) rfl rfl rfl rfl (Nat.le_of_ble_eq_true rfl) (Nat.le_of_ble_eq_true rfl) ⟨Nat.le_refl _, Nat.le_refl _⟩ ?_
        refine ev_aload_n dc_X12_loudest_36 rfl ?_
        refine ev_iload_n dc_X12_loudest_37 rfl ?_
        obtain ⟨q3, hq3, h⟩ := Option.bind_eq_some_iff.mp h
        refine ev_callV (av := [.int x1]) (st := [.int q2]) (st1 := [.int q3, .int q2]) dc_X12_loudest_38 (tX12_recordsOf hW i0 hq3) mw_2170 cy_X12_recordsOf i0 (by decide) rfl rfl rfl rfl (Nat.le_of_ble_eq_true rfl) (Nat.le_of_ble_eq_true rfl) ⟨Nat.le_refl _, Nat.le_refl _⟩ ?_
        refine ev_icmp_le (tgt := 46) dc_X12_loudest_41 (by decide) h (fun h => ?_) (fun h => ?_)
        · refine ev_iinc (v := 1) (lv' := [some (.ref a0), some (.int x1), some (.int (x2 + (1 : Int32)))]) dc_X12_loudest_46 rfl (by decide) rfl (by decide) rfl ?_
          refine ev_goto (tgt := 9) dc_X12_loudest_49 (by decide) ?_
          exact ev_sub (hk9 (x1, x2 + (1 : Int32), σ) h) (And.intro rfl (And.intro rfl (And.intro rfl trivial)))
        · refine ev_iload_n dc_X12_loudest_44 rfl ?_
          refine ev_istore_n (lv' := [some (.ref a0), some (.int x2), some (.int x2)]) dc_X12_loudest_45 rfl (by decide) rfl ?_
          refine ev_iinc (v := 1) (lv' := [some (.ref a0), some (.int x2), some (.int (x2 + (1 : Int32)))]) dc_X12_loudest_46 rfl (by decide) rfl (by decide) rfl ?_
          refine ev_goto (tgt := 9) dc_X12_loudest_49 (by decide) ?_
          exact ev_sub (hk9 (x2, x2 + (1 : Int32), σ) h) (And.intro rfl (And.intro rfl (And.intro rfl trivial)))
def fX12_loudest (N : Nat) (G : pG) (a0 : Nat) (σ : pS) : Option (Int32 × pS) := fX12_loudest_b9 N G a0 ((-1 : Int32), (0 : Int32), putF σ a0 0 (0 : Int32))
set_option maxRecDepth 100000 in
set_option maxHeartbeats 4000000 in
theorem tX12_loudest {N : Nat} {G : pG} {SK : Nat → Nat} {a0 : Nat} {σ : pS} {r : Int32 × pS} (hW : WT G) (i0 : Is G a0 11) (h : fX12_loudest N G a0 σ = some r) : Dn miX12_loudest yX12_loudest 3 G SK [.ref a0] σ (some (.int r.1)) r.2 := by
  unfold fX12_loudest at h
  refine dn_of (lv := [some (.ref a0), none, none]) (by decide) rfl rfl (Nat.le_of_ble_eq_true rfl) rfl ?_
  refine ev_aload_n dc_X12_loudest_0 rfl ?_
  refine ev_iconst (v := 0) dc_X12_loudest_1 (by decide) ?_
  refine ev_putI dc_X12_loudest_2 fi_X12_3 rfl i0 ?_
  refine ev_iconst (v := (-1)) dc_X12_loudest_5 (by decide) ?_
  refine ev_istore_n (lv' := [some (.ref a0), some (.int (-1 : Int32)), none]) dc_X12_loudest_6 rfl (by decide) rfl ?_
  refine ev_iconst (v := 0) dc_X12_loudest_7 (by decide) ?_
  refine ev_istore_n (lv' := [some (.ref a0), some (.int (-1 : Int32)), some (.int (0 : Int32))]) dc_X12_loudest_8 rfl (by decide) rfl ?_
  exact ev_sub (tX12_loudest_b9 (b := ((-1 : Int32), (0 : Int32), putF σ a0 0 (0 : Int32))) hW i0 h) (And.intro rfl (And.intro rfl (And.intro rfl trivial)))
theorem dc_X12_name_0 : Dc miX12_name 0 (.aload_n 0) 1 1 := ⟨by decide +kernel, rfl⟩
theorem dc_X12_name_1 : Dc miX12_name 1 (.iconst 0) 1 2 := ⟨by decide +kernel, rfl⟩
theorem dc_X12_name_2 : Dc miX12_name 2 (.putfield 3) 3 5 := ⟨by decide +kernel, rfl⟩
theorem dc_X12_name_5 : Dc miX12_name 5 (.aload_n 0) 1 6 := ⟨by decide +kernel, rfl⟩
theorem dc_X12_name_6 : Dc miX12_name 6 (.aload_n 0) 1 7 := ⟨by decide +kernel, rfl⟩
theorem dc_X12_name_7 : Dc miX12_name 7 (.iload_n 1) 1 8 := ⟨by decide +kernel, rfl⟩
theorem dc_X12_name_8 : Dc miX12_name 8 (.invokevirtual 382) 3 11 := ⟨by decide +kernel, rfl⟩
theorem dc_X12_name_11 : Dc miX12_name 11 (.iconst 1) 1 12 := ⟨by decide +kernel, rfl⟩
theorem dc_X12_name_12 : Dc miX12_name 12 (.invokevirtual 274) 3 15 := ⟨by decide +kernel, rfl⟩
theorem dc_X12_name_15 : Dc miX12_name 15 (.ifCond .ne 25) 3 18 := ⟨by decide +kernel, rfl⟩
theorem dc_X12_name_18 : Dc miX12_name 18 (.aload_n 0) 1 19 := ⟨by decide +kernel, rfl⟩
theorem dc_X12_name_19 : Dc miX12_name 19 (.iload_n 2) 1 20 := ⟨by decide +kernel, rfl⟩
theorem dc_X12_name_20 : Dc miX12_name 20 (.iconst 0) 1 21 := ⟨by decide +kernel, rfl⟩
theorem dc_X12_name_21 : Dc miX12_name 21 (.iconst 3) 1 22 := ⟨by decide +kernel, rfl⟩
theorem dc_X12_name_22 : Dc miX12_name 22 (.invokestatic 70) 3 25 := ⟨by decide +kernel, rfl⟩
theorem dc_X12_name_25 : Dc miX12_name 25 (.ifCond .ne 7) 3 28 := ⟨by decide +kernel, rfl⟩
theorem dc_X12_name_28 : Dc miX12_name 28 (.iconst 1) 1 29 := ⟨by decide +kernel, rfl⟩
theorem dc_X12_name_29 : Dc miX12_name 29 (.goto 4) 3 32 := ⟨by decide +kernel, rfl⟩
theorem dc_X12_name_32 : Dc miX12_name 32 (.iconst 0) 1 33 := ⟨by decide +kernel, rfl⟩
theorem dc_X12_name_33 : Dc miX12_name 33 (.iconst 2) 1 34 := ⟨by decide +kernel, rfl⟩
theorem dc_X12_name_34 : Dc miX12_name 34 (.invokevirtual 274) 3 37 := ⟨by decide +kernel, rfl⟩
theorem dc_X12_name_37 : Dc miX12_name 37 (.ifCond .eq 5) 3 40 := ⟨by decide +kernel, rfl⟩
theorem dc_X12_name_40 : Dc miX12_name 40 (.iconst 0) 1 41 := ⟨by decide +kernel, rfl⟩
theorem dc_X12_name_41 : Dc miX12_name 41 (.ireturn) 1 42 := ⟨by decide +kernel, rfl⟩
theorem dc_X12_name_42 : Dc miX12_name 42 (.iload_n 2) 1 43 := ⟨by decide +kernel, rfl⟩
theorem dc_X12_name_43 : Dc miX12_name 43 (.iconst 2) 1 44 := ⟨by decide +kernel, rfl⟩
theorem dc_X12_name_44 : Dc miX12_name 44 (.if_icmp .ge 12) 3 47 := ⟨by decide +kernel, rfl⟩
theorem dc_X12_name_47 : Dc miX12_name 47 (.aload_n 0) 1 48 := ⟨by decide +kernel, rfl⟩
theorem dc_X12_name_48 : Dc miX12_name 48 (.iload_n 1) 1 49 := ⟨by decide +kernel, rfl⟩
theorem dc_X12_name_49 : Dc miX12_name 49 (.iload_n 2) 1 50 := ⟨by decide +kernel, rfl⟩
theorem dc_X12_name_50 : Dc miX12_name 50 (.invokevirtual 277) 3 53 := ⟨by decide +kernel, rfl⟩
theorem dc_X12_name_53 : Dc miX12_name 53 (.goto 29) 3 56 := ⟨by decide +kernel, rfl⟩
theorem dc_X12_name_56 : Dc miX12_name 56 (.iload_n 2) 1 57 := ⟨by decide +kernel, rfl⟩
theorem dc_X12_name_57 : Dc miX12_name 57 (.iconst 2) 1 58 := ⟨by decide +kernel, rfl⟩
theorem dc_X12_name_58 : Dc miX12_name 58 (.if_icmp .ne 17) 3 61 := ⟨by decide +kernel, rfl⟩
theorem dc_X12_name_61 : Dc miX12_name 61 (.aload_n 0) 1 62 := ⟨by decide +kernel, rfl⟩
theorem dc_X12_name_62 : Dc miX12_name 62 (.getfield 13) 3 65 := ⟨by decide +kernel, rfl⟩
theorem dc_X12_name_65 : Dc miX12_name 65 (.bipush 12) 2 67 := ⟨by decide +kernel, rfl⟩
theorem dc_X12_name_67 : Dc miX12_name 67 (.iaload) 1 68 := ⟨by decide +kernel, rfl⟩
theorem dc_X12_name_68 : Dc miX12_name 68 (.iload_n 1) 1 69 := ⟨by decide +kernel, rfl⟩
theorem dc_X12_name_69 : Dc miX12_name 69 (.ishr) 1 70 := ⟨by decide +kernel, rfl⟩
theorem dc_X12_name_70 : Dc miX12_name 70 (.iconst 1) 1 71 := ⟨by decide +kernel, rfl⟩
theorem dc_X12_name_71 : Dc miX12_name 71 (.iand) 1 72 := ⟨by decide +kernel, rfl⟩
theorem dc_X12_name_72 : Dc miX12_name 72 (.goto 10) 3 75 := ⟨by decide +kernel, rfl⟩
theorem dc_X12_name_75 : Dc miX12_name 75 (.aload_n 0) 1 76 := ⟨by decide +kernel, rfl⟩
theorem dc_X12_name_76 : Dc miX12_name 76 (.iconst 1) 1 77 := ⟨by decide +kernel, rfl⟩
theorem dc_X12_name_77 : Dc miX12_name 77 (.iload_n 1) 1 78 := ⟨by decide +kernel, rfl⟩
theorem dc_X12_name_78 : Dc miX12_name 78 (.ishl) 1 79 := ⟨by decide +kernel, rfl⟩
theorem dc_X12_name_79 : Dc miX12_name 79 (.invokevirtual 453) 3 82 := ⟨by decide +kernel, rfl⟩
theorem dc_X12_name_82 : Dc miX12_name 82 (.ireturn) 1 83 := ⟨by decide +kernel, rfl⟩
def fX12_name_b33 (N : Nat) (G : pG) (a0 : Nat) (a1 : Int32) (a2 : Int32) (y1 : Int32) (σ : pS) : Option (Int32 × pS) := (fX12_throwsIf N G a0 y1 (2 : Int32) σ).bind (fun q1 => if q1.1 = 0 then (if (2 : Int32) ≤ a2 then (if a2 = (2 : Int32) then (ck (inB (12 : Int32) (pN G (pR G a0 1))) (some (((gA q1.2 (pR G a0 1) (12 : Int32)) >>> (a1 &&& 31)) &&& (1 : Int32), q1.2))) else ((fX12_beliefOf N G a0 ((1 : Int32) <<< (a1 &&& 31)) q1.2).bind (fun q2 => some (q2, q1.2)))) else ((fX12_ofName N G a0 a1 a2 q1.2).bind (fun q3 => some (q3, q1.2)))) else (some ((0 : Int32), q1.2)))
set_option maxRecDepth 100000 in
set_option maxHeartbeats 4000000 in
theorem tX12_name_b33 {N : Nat} {G : pG} {SK : Nat → Nat} {a0 : Nat} {a1 : Int32} {a2 : Int32} {y1 : Int32} {σ : pS} {r : Int32 × pS} (hW : WT G) (i0 : Is G a0 11) (h : fX12_name_b33 N G a0 a1 a2 y1 σ = some r) : Ev miX12_name (4, 0, 0) G (Zp G (some (.int r.1)) r.2) SK (0, 0) 33 [some (.ref a0), some (.int a1), some (.int a2)] [.int y1, .ref a0] σ := by
  unfold fX12_name_b33 at h
  refine ev_iconst (v := 2) dc_X12_name_33 (by decide) ?_
  obtain ⟨q1, hq1, h⟩ := Option.bind_eq_some_iff.mp h
  refine ev_callV (av := [.int y1, .int (2 : Int32)]) (st := []) (st1 := [.int q1.1]) dc_X12_name_34 (tX12_throwsIf hW i0 hq1) mw_1784 cy_X12_throwsIf i0 (by decide) rfl rfl rfl rfl (Nat.le_of_ble_eq_true rfl) (Nat.le_of_ble_eq_true rfl) ⟨Nat.le_refl _, Nat.le_refl _⟩ ?_
  refine ev_if_eq (tgt := 42) dc_X12_name_37 (by decide) h (fun h => ?_) (fun h => ?_)
  · refine ev_iload_n dc_X12_name_42 rfl ?_
    refine ev_iconst (v := 2) dc_X12_name_43 (by decide) ?_
    refine ev_icmp_ge (tgt := 56) dc_X12_name_44 (by decide) h (fun h => ?_) (fun h => ?_)
    · refine ev_iload_n dc_X12_name_56 rfl ?_
      refine ev_iconst (v := 2) dc_X12_name_57 (by decide) ?_
      refine ev_icmp_ne (tgt := 75) dc_X12_name_58 (by decide) h (fun h => ?_) (fun h => ?_)
      · refine ev_aload_n dc_X12_name_61 rfl ?_
        refine ev_getR dc_X12_name_62 fi_X12_13 rfl i0 ?_
        refine ev_bipush (v := 12) dc_X12_name_65 (by decide) ?_
        refine ev_iald dc_X12_name_67 (wt hW i0 1 rfl rfl) h (fun h => ?_)
        refine ev_iload_n dc_X12_name_68 rfl ?_
        refine ev_ishr dc_X12_name_69 ?_
        refine ev_iconst (v := 1) dc_X12_name_70 (by decide) ?_
        refine ev_iand dc_X12_name_71 ?_
        refine ev_goto (tgt := 82) dc_X12_name_72 (by decide) ?_
        cases h
        exact ev_iret dc_X12_name_82 rfl rfl rfl
      · refine ev_aload_n dc_X12_name_75 rfl ?_
        refine ev_iconst (v := 1) dc_X12_name_76 (by decide) ?_
        refine ev_iload_n dc_X12_name_77 rfl ?_
        refine ev_ishl dc_X12_name_78 ?_
        obtain ⟨q2, hq2, h⟩ := Option.bind_eq_some_iff.mp h
        refine ev_callV (av := [.int ((1 : Int32) <<< (a1 &&& 31))]) (st := []) (st1 := [.int q2]) dc_X12_name_79 (tX12_beliefOf hW i0 hq2) mw_2078 cy_X12_beliefOf i0 (by decide) rfl rfl rfl rfl (Nat.le_of_ble_eq_true rfl) (Nat.le_of_ble_eq_true rfl) ⟨Nat.le_refl _, Nat.le_refl _⟩ ?_
        cases h
        exact ev_iret dc_X12_name_82 rfl rfl rfl
    · refine ev_aload_n dc_X12_name_47 rfl ?_
      refine ev_iload_n dc_X12_name_48 rfl ?_
      refine ev_iload_n dc_X12_name_49 rfl ?_
      obtain ⟨q3, hq3, h⟩ := Option.bind_eq_some_iff.mp h
      refine ev_callV (av := [.int a1, .int a2]) (st := []) (st1 := [.int q3]) dc_X12_name_50 (tX12_ofName hW i0 hq3) mw_1828 cy_X12_ofName i0 (by decide) rfl rfl rfl rfl (Nat.le_of_ble_eq_true rfl) (Nat.le_of_ble_eq_true rfl) ⟨Nat.le_refl _, Nat.le_refl _⟩ ?_
      refine ev_goto (tgt := 82) dc_X12_name_53 (by decide) ?_
      cases h
      exact ev_iret dc_X12_name_82 rfl rfl rfl
  · refine ev_iconst (v := 0) dc_X12_name_40 (by decide) ?_
    cases h
    exact ev_iret dc_X12_name_41 rfl rfl rfl
def fX12_name (N : Nat) (G : pG) (a0 : Nat) (a1 : Int32) (a2 : Int32) (σ : pS) : Option (Int32 × pS) := (fX12_noName N G a0 a1 (putF σ a0 0 (0 : Int32))).bind (fun q4 => (fX12_throwsIf N G a0 q4 (1 : Int32) (putF σ a0 0 (0 : Int32))).bind (fun q5 => if q5.1 = 0 then ((fX12_in N G a2 (0 : Int32) (3 : Int32) q5.2).bind (fun q6 => if q6 = 0 then (fX12_name_b33 N G a0 a1 a2 (1 : Int32) q5.2) else (fX12_name_b33 N G a0 a1 a2 (0 : Int32) q5.2))) else (some ((0 : Int32), q5.2))))
set_option maxRecDepth 100000 in
set_option maxHeartbeats 4000000 in
theorem tX12_name {N : Nat} {G : pG} {SK : Nat → Nat} {a0 : Nat} {a1 : Int32} {a2 : Int32} {σ : pS} {r : Int32 × pS} (hW : WT G) (i0 : Is G a0 11) (h : fX12_name N G a0 a1 a2 σ = some r) : Dn miX12_name yX12_name 4 G SK [.ref a0, .int a1, .int a2] σ (some (.int r.1)) r.2 := by
  unfold fX12_name at h
  refine dn_of (lv := [some (.ref a0), some (.int a1), some (.int a2)]) (by decide) rfl rfl (Nat.le_of_ble_eq_true rfl) rfl ?_
  refine ev_aload_n dc_X12_name_0 rfl ?_
  refine ev_iconst (v := 0) dc_X12_name_1 (by decide) ?_
  refine ev_putI dc_X12_name_2 fi_X12_3 rfl i0 ?_
  refine ev_aload_n dc_X12_name_5 rfl ?_
  refine ev_aload_n dc_X12_name_6 rfl ?_
  refine ev_iload_n dc_X12_name_7 rfl ?_
  obtain ⟨q4, hq4, h⟩ := Option.bind_eq_some_iff.mp h
  refine ev_callV (av := [.int a1]) (st := [.ref a0]) (st1 := [.int q4, .ref a0]) dc_X12_name_8 (tX12_noName hW i0 hq4) mw_1946 cy_X12_noName i0 (by decide) rfl rfl rfl rfl (Nat.le_of_ble_eq_true rfl) (Nat.le_of_ble_eq_true rfl) ⟨Nat.le_refl _, Nat.le_refl _⟩ ?_
  refine ev_iconst (v := 1) dc_X12_name_11 (by decide) ?_
  obtain ⟨q5, hq5, h⟩ := Option.bind_eq_some_iff.mp h
  refine ev_callV (av := [.int q4, .int (1 : Int32)]) (st := []) (st1 := [.int q5.1]) dc_X12_name_12 (tX12_throwsIf hW i0 hq5) mw_1784 cy_X12_throwsIf i0 (by decide) rfl rfl rfl rfl (Nat.le_of_ble_eq_true rfl) (Nat.le_of_ble_eq_true rfl) ⟨Nat.le_refl _, Nat.le_refl _⟩ ?_
  refine ev_if_ne (tgt := 40) dc_X12_name_15 (by decide) h (fun h => ?_) (fun h => ?_)
  · refine ev_aload_n dc_X12_name_18 rfl ?_
    refine ev_iload_n dc_X12_name_19 rfl ?_
    refine ev_iconst (v := 0) dc_X12_name_20 (by decide) ?_
    refine ev_iconst (v := 3) dc_X12_name_21 (by decide) ?_
    obtain ⟨q6, hq6, h⟩ := Option.bind_eq_some_iff.mp h
    refine ev_callS (av := [.int a2, .int (0 : Int32), .int (3 : Int32)]) (st := [.ref a0]) (st1 := [.int q6, .ref a0]) dc_X12_name_22 (tX12_in hW hq6) mw_1656 cs_X12_in rfl rfl rfl (Nat.le_of_ble_eq_true rfl) (Nat.le_of_ble_eq_true rfl) ⟨Nat.le_refl _, Nat.le_refl _⟩ ?_
    refine ev_if_ne (tgt := 32) dc_X12_name_25 (by decide) h (fun h => ?_) (fun h => ?_)
    · refine ev_iconst (v := 1) dc_X12_name_28 (by decide) ?_
      refine ev_goto (tgt := 33) dc_X12_name_29 (by decide) ?_
      exact ev_sub (tX12_name_b33 hW i0 h) (And.intro rfl (And.intro rfl (And.intro rfl trivial)))
    · refine ev_iconst (v := 0) dc_X12_name_32 (by decide) ?_
      exact ev_sub (tX12_name_b33 hW i0 h) (And.intro rfl (And.intro rfl (And.intro rfl trivial)))
  · refine ev_iconst (v := 0) dc_X12_name_40 (by decide) ?_
    cases h
    exact ev_iret dc_X12_name_41 rfl rfl rfl
theorem dc_X12_nights_0 : Dc miX12_nights 0 (.aload_n 0) 1 1 := ⟨by decide +kernel, rfl⟩
theorem dc_X12_nights_1 : Dc miX12_nights 1 (.iconst 0) 1 2 := ⟨by decide +kernel, rfl⟩
theorem dc_X12_nights_2 : Dc miX12_nights 2 (.putfield 3) 3 5 := ⟨by decide +kernel, rfl⟩
theorem dc_X12_nights_5 : Dc miX12_nights 5 (.aload_n 0) 1 6 := ⟨by decide +kernel, rfl⟩
theorem dc_X12_nights_6 : Dc miX12_nights 6 (.iload_n 1) 1 7 := ⟨by decide +kernel, rfl⟩
theorem dc_X12_nights_7 : Dc miX12_nights 7 (.iconst 1) 1 8 := ⟨by decide +kernel, rfl⟩
theorem dc_X12_nights_8 : Dc miX12_nights 8 (.bipush 60) 2 10 := ⟨by decide +kernel, rfl⟩
theorem dc_X12_nights_10 : Dc miX12_nights 10 (.invokestatic 70) 3 13 := ⟨by decide +kernel, rfl⟩
theorem dc_X12_nights_13 : Dc miX12_nights 13 (.ifCond .ne 7) 3 16 := ⟨by decide +kernel, rfl⟩
theorem dc_X12_nights_16 : Dc miX12_nights 16 (.iconst 1) 1 17 := ⟨by decide +kernel, rfl⟩
theorem dc_X12_nights_17 : Dc miX12_nights 17 (.goto 4) 3 20 := ⟨by decide +kernel, rfl⟩
theorem dc_X12_nights_20 : Dc miX12_nights 20 (.iconst 0) 1 21 := ⟨by decide +kernel, rfl⟩
theorem dc_X12_nights_21 : Dc miX12_nights 21 (.iconst 1) 1 22 := ⟨by decide +kernel, rfl⟩
theorem dc_X12_nights_22 : Dc miX12_nights 22 (.invokevirtual 274) 3 25 := ⟨by decide +kernel, rfl⟩
theorem dc_X12_nights_25 : Dc miX12_nights 25 (.ifCond .eq 5) 3 28 := ⟨by decide +kernel, rfl⟩
theorem dc_X12_nights_28 : Dc miX12_nights 28 (.iconst 0) 1 29 := ⟨by decide +kernel, rfl⟩
theorem dc_X12_nights_29 : Dc miX12_nights 29 (.ireturn) 1 30 := ⟨by decide +kernel, rfl⟩
theorem dc_X12_nights_30 : Dc miX12_nights 30 (.aload_n 0) 1 31 := ⟨by decide +kernel, rfl⟩
theorem dc_X12_nights_31 : Dc miX12_nights 31 (.invokevirtual 373) 3 34 := ⟨by decide +kernel, rfl⟩
theorem dc_X12_nights_34 : Dc miX12_nights 34 (.aload_n 0) 1 35 := ⟨by decide +kernel, rfl⟩
theorem dc_X12_nights_35 : Dc miX12_nights 35 (.iload_n 1) 1 36 := ⟨by decide +kernel, rfl⟩
theorem dc_X12_nights_36 : Dc miX12_nights 36 (.invokevirtual 397) 3 39 := ⟨by decide +kernel, rfl⟩
theorem dc_X12_nights_39 : Dc miX12_nights 39 (.ireturn) 1 40 := ⟨by decide +kernel, rfl⟩
def fX12_nights_b21 (N : Nat) (G : pG) (a0 : Nat) (a1 : Int32) (y1 : Int32) (σ : pS) : Option (Int32 × pS) := (fX12_throwsIf N G a0 y1 (1 : Int32) σ).bind (fun q1 => if q1.1 = 0 then ((fX12_remembers N G a0 q1.2).bind (fun q2 => (fX12_goesBy N G a0 a1 q2).bind (fun q3 => some (q3.1, q3.2)))) else (some ((0 : Int32), q1.2)))
set_option maxRecDepth 100000 in
set_option maxHeartbeats 4000000 in
theorem tX12_nights_b21 {N : Nat} {G : pG} {SK : Nat → Nat} {a0 : Nat} {a1 : Int32} {y1 : Int32} {σ : pS} {r : Int32 × pS} (hW : WT G) (i0 : Is G a0 11) (h : fX12_nights_b21 N G a0 a1 y1 σ = some r) : Ev miX12_nights (9, 0, 0) G (Zp G (some (.int r.1)) r.2) SK (0, 0) 21 [some (.ref a0), some (.int a1)] [.int y1, .ref a0] σ := by
  unfold fX12_nights_b21 at h
  refine ev_iconst (v := 1) dc_X12_nights_21 (by decide) ?_
  obtain ⟨q1, hq1, h⟩ := Option.bind_eq_some_iff.mp h
  refine ev_callV (av := [.int y1, .int (1 : Int32)]) (st := []) (st1 := [.int q1.1]) dc_X12_nights_22 (tX12_throwsIf hW i0 hq1) mw_1784 cy_X12_throwsIf i0 (by decide) rfl rfl rfl rfl (Nat.le_of_ble_eq_true rfl) (Nat.le_of_ble_eq_true rfl) ⟨Nat.le_refl _, Nat.le_refl _⟩ ?_
  refine ev_if_eq (tgt := 30) dc_X12_nights_25 (by decide) h (fun h => ?_) (fun h => ?_)
  · refine ev_aload_n dc_X12_nights_30 rfl ?_
    obtain ⟨q2, hq2, h⟩ := Option.bind_eq_some_iff.mp h
    refine ev_callV (av := []) (st := []) (st1 := []) dc_X12_nights_31 (tX12_remembers hW i0 hq2) mw_1910 cy_X12_remembers i0 (by decide) rfl rfl rfl rfl (Nat.le_of_ble_eq_true rfl) (Nat.le_of_ble_eq_true rfl) ⟨Nat.le_refl _, Nat.le_refl _⟩ ?_
    refine ev_aload_n dc_X12_nights_34 rfl ?_
    refine ev_iload_n dc_X12_nights_35 rfl ?_
    obtain ⟨q3, hq3, h⟩ := Option.bind_eq_some_iff.mp h
    refine ev_callV (av := [.int a1]) (st := []) (st1 := [.int q3.1]) dc_X12_nights_36 (tX12_goesBy hW i0 hq3) mw_1961 cy_X12_goesBy i0 (by decide) rfl rfl rfl rfl (Nat.le_of_ble_eq_true rfl) (Nat.le_of_ble_eq_true rfl) ⟨Nat.le_refl _, Nat.le_refl _⟩ ?_
    cases h
    exact ev_iret dc_X12_nights_39 rfl rfl rfl
  · refine ev_iconst (v := 0) dc_X12_nights_28 (by decide) ?_
    cases h
    exact ev_iret dc_X12_nights_29 rfl rfl rfl
def fX12_nights (N : Nat) (G : pG) (a0 : Nat) (a1 : Int32) (σ : pS) : Option (Int32 × pS) := (fX12_in N G a1 (1 : Int32) (60 : Int32) (putF σ a0 0 (0 : Int32))).bind (fun q4 => if q4 = 0 then (fX12_nights_b21 N G a0 a1 (1 : Int32) (putF σ a0 0 (0 : Int32))) else (fX12_nights_b21 N G a0 a1 (0 : Int32) (putF σ a0 0 (0 : Int32))))
set_option maxRecDepth 100000 in
set_option maxHeartbeats 4000000 in
theorem tX12_nights {N : Nat} {G : pG} {SK : Nat → Nat} {a0 : Nat} {a1 : Int32} {σ : pS} {r : Int32 × pS} (hW : WT G) (i0 : Is G a0 11) (h : fX12_nights N G a0 a1 σ = some r) : Dn miX12_nights yX12_nights 9 G SK [.ref a0, .int a1] σ (some (.int r.1)) r.2 := by
  unfold fX12_nights at h
  refine dn_of (lv := [some (.ref a0), some (.int a1)]) (by decide) rfl rfl (Nat.le_of_ble_eq_true rfl) rfl ?_
  refine ev_aload_n dc_X12_nights_0 rfl ?_
  refine ev_iconst (v := 0) dc_X12_nights_1 (by decide) ?_
  refine ev_putI dc_X12_nights_2 fi_X12_3 rfl i0 ?_
  refine ev_aload_n dc_X12_nights_5 rfl ?_
  refine ev_iload_n dc_X12_nights_6 rfl ?_
  refine ev_iconst (v := 1) dc_X12_nights_7 (by decide) ?_
  refine ev_bipush (v := 60) dc_X12_nights_8 (by decide) ?_
  obtain ⟨q4, hq4, h⟩ := Option.bind_eq_some_iff.mp h
  refine ev_callS (av := [.int a1, .int (1 : Int32), .int (60 : Int32)]) (st := [.ref a0]) (st1 := [.int q4, .ref a0]) dc_X12_nights_10 (tX12_in hW hq4) mw_1656 cs_X12_in rfl rfl rfl (Nat.le_of_ble_eq_true rfl) (Nat.le_of_ble_eq_true rfl) ⟨Nat.le_refl _, Nat.le_refl _⟩ ?_
  refine ev_if_ne (tgt := 20) dc_X12_nights_13 (by decide) h (fun h => ?_) (fun h => ?_)
  · refine ev_iconst (v := 1) dc_X12_nights_16 (by decide) ?_
    refine ev_goto (tgt := 21) dc_X12_nights_17 (by decide) ?_
    exact ev_sub (tX12_nights_b21 hW i0 h) (And.intro rfl (And.intro rfl trivial))
  · refine ev_iconst (v := 0) dc_X12_nights_20 (by decide) ?_
    exact ev_sub (tX12_nights_b21 hW i0 h) (And.intro rfl (And.intro rfl trivial))
theorem dc_X12_noSiege_0 : Dc miX12_noSiege 0 (.iload_n 0) 1 1 := ⟨by decide +kernel, rfl⟩
theorem dc_X12_noSiege_1 : Dc miX12_noSiege 1 (.iconst 1) 1 2 := ⟨by decide +kernel, rfl⟩
theorem dc_X12_noSiege_2 : Dc miX12_noSiege 2 (.bipush 12) 2 4 := ⟨by decide +kernel, rfl⟩
theorem dc_X12_noSiege_4 : Dc miX12_noSiege 4 (.invokestatic 70) 3 7 := ⟨by decide +kernel, rfl⟩
theorem dc_X12_noSiege_7 : Dc miX12_noSiege 7 (.ifCond .ne 7) 3 10 := ⟨by decide +kernel, rfl⟩
theorem dc_X12_noSiege_10 : Dc miX12_noSiege 10 (.iconst 1) 1 11 := ⟨by decide +kernel, rfl⟩
theorem dc_X12_noSiege_11 : Dc miX12_noSiege 11 (.goto 4) 3 14 := ⟨by decide +kernel, rfl⟩
theorem dc_X12_noSiege_14 : Dc miX12_noSiege 14 (.iconst 0) 1 15 := ⟨by decide +kernel, rfl⟩
theorem dc_X12_noSiege_15 : Dc miX12_noSiege 15 (.ireturn) 1 16 := ⟨by decide +kernel, rfl⟩
def fX12_noSiege (N : Nat) (G : pG) (a0 : Int32) (σ : pS) : Option (Int32) := (fX12_in N G a0 (1 : Int32) (12 : Int32) σ).bind (fun q1 => if q1 = 0 then (some (1 : Int32)) else (some (0 : Int32)))
set_option maxRecDepth 100000 in
set_option maxHeartbeats 4000000 in
theorem tX12_noSiege {N : Nat} {G : pG} {SK : Nat → Nat} {a0 : Int32} {σ : pS} {r : Int32} (hW : WT G) (h : fX12_noSiege N G a0 σ = some r) : Dn miX12_noSiege yX12_noSiege 2 G SK [.int a0] σ (some (.int r)) σ := by
  unfold fX12_noSiege at h
  refine dn_of (lv := [some (.int a0)]) (by decide) rfl rfl (Nat.le_of_ble_eq_true rfl) rfl ?_
  refine ev_iload_n dc_X12_noSiege_0 rfl ?_
  refine ev_iconst (v := 1) dc_X12_noSiege_1 (by decide) ?_
  refine ev_bipush (v := 12) dc_X12_noSiege_2 (by decide) ?_
  obtain ⟨q1, hq1, h⟩ := Option.bind_eq_some_iff.mp h
  refine ev_callS (av := [.int a0, .int (1 : Int32), .int (12 : Int32)]) (st := []) (st1 := [.int q1]) dc_X12_noSiege_4 (tX12_in hW hq1) mw_1656 cs_X12_in rfl rfl rfl (Nat.le_of_ble_eq_true rfl) (Nat.le_of_ble_eq_true rfl) ⟨Nat.le_refl _, Nat.le_refl _⟩ ?_
  refine ev_if_ne (tgt := 14) dc_X12_noSiege_7 (by decide) h (fun h => ?_) (fun h => ?_)
  · refine ev_iconst (v := 1) dc_X12_noSiege_10 (by decide) ?_
    refine ev_goto (tgt := 15) dc_X12_noSiege_11 (by decide) ?_
    cases h
    exact ev_zretc dc_X12_noSiege_15 rfl rfl rfl rfl
  · refine ev_iconst (v := 0) dc_X12_noSiege_14 (by decide) ?_
    cases h
    exact ev_zretc dc_X12_noSiege_15 rfl rfl rfl rfl
theorem dc_X12_siegeOf_0 : Dc miX12_siegeOf 0 (.aload_n 0) 1 1 := ⟨by decide +kernel, rfl⟩
theorem dc_X12_siegeOf_1 : Dc miX12_siegeOf 1 (.invokevirtual 367) 3 4 := ⟨by decide +kernel, rfl⟩
theorem dc_X12_siegeOf_4 : Dc miX12_siegeOf 4 (.ifCond .eq 7) 3 7 := ⟨by decide +kernel, rfl⟩
theorem dc_X12_siegeOf_7 : Dc miX12_siegeOf 7 (.ldc_w 418) 3 10 := ⟨by decide +kernel, rfl⟩
theorem dc_X12_siegeOf_10 : Dc miX12_siegeOf 10 (.ireturn) 1 11 := ⟨by decide +kernel, rfl⟩
theorem dc_X12_siegeOf_11 : Dc miX12_siegeOf 11 (.aload_n 0) 1 12 := ⟨by decide +kernel, rfl⟩
theorem dc_X12_siegeOf_12 : Dc miX12_siegeOf 12 (.iconst 0) 1 13 := ⟨by decide +kernel, rfl⟩
theorem dc_X12_siegeOf_13 : Dc miX12_siegeOf 13 (.iload_n 1) 1 14 := ⟨by decide +kernel, rfl⟩
theorem dc_X12_siegeOf_14 : Dc miX12_siegeOf 14 (.invokevirtual 432) 3 17 := ⟨by decide +kernel, rfl⟩
theorem dc_X12_siegeOf_17 : Dc miX12_siegeOf 17 (.aload_n 0) 1 18 := ⟨by decide +kernel, rfl⟩
theorem dc_X12_siegeOf_18 : Dc miX12_siegeOf 18 (.iconst 0) 1 19 := ⟨by decide +kernel, rfl⟩
theorem dc_X12_siegeOf_19 : Dc miX12_siegeOf 19 (.aload_n 0) 1 20 := ⟨by decide +kernel, rfl⟩
theorem dc_X12_siegeOf_20 : Dc miX12_siegeOf 20 (.getfield 13) 3 23 := ⟨by decide +kernel, rfl⟩
theorem dc_X12_siegeOf_23 : Dc miX12_siegeOf 23 (.bipush 7) 2 25 := ⟨by decide +kernel, rfl⟩
theorem dc_X12_siegeOf_25 : Dc miX12_siegeOf 25 (.iaload) 1 26 := ⟨by decide +kernel, rfl⟩
theorem dc_X12_siegeOf_26 : Dc miX12_siegeOf 26 (.invokevirtual 415) 3 29 := ⟨by decide +kernel, rfl⟩
theorem dc_X12_siegeOf_29 : Dc miX12_siegeOf 29 (.ireturn) 1 30 := ⟨by decide +kernel, rfl⟩
def fX12_siegeOf (N : Nat) (G : pG) (a0 : Nat) (a1 : Int32) (σ : pS) : Option (Int32 × pS) := (fX12_isGone N G a0 σ).bind (fun q1 => if q1 = 0 then ((fX12_laysTill N G a0 (0 : Int32) a1 σ).bind (fun q2 => ck (inB (7 : Int32) (pN G (pR G a0 1))) ((fX12_tillOf N G a0 (0 : Int32) (gA q2 (pR G a0 1) (7 : Int32)) q2).bind (fun q3 => some (q3, q2))))) else (some ((1000000 : Int32), σ)))
set_option maxRecDepth 100000 in
set_option maxHeartbeats 4000000 in
theorem tX12_siegeOf {N : Nat} {G : pG} {SK : Nat → Nat} {a0 : Nat} {a1 : Int32} {σ : pS} {r : Int32 × pS} (hW : WT G) (i0 : Is G a0 11) (h : fX12_siegeOf N G a0 a1 σ = some r) : Dn miX12_siegeOf yX12_siegeOf 10 G SK [.ref a0, .int a1] σ (some (.int r.1)) r.2 := by
  unfold fX12_siegeOf at h
  refine dn_of (lv := [some (.ref a0), some (.int a1)]) (by decide) rfl rfl (Nat.le_of_ble_eq_true rfl) rfl ?_
  refine ev_aload_n dc_X12_siegeOf_0 rfl ?_
  obtain ⟨q1, hq1, h⟩ := Option.bind_eq_some_iff.mp h
  refine ev_callV (av := []) (st := []) (st1 := [.int q1]) dc_X12_siegeOf_1 (tX12_isGone hW i0 hq1) mw_1902 cy_X12_isGone i0 (by decide) rfl rfl rfl rfl (Nat.le_of_ble_eq_true rfl) (Nat.le_of_ble_eq_true rfl) ⟨Nat.le_refl _, Nat.le_refl _⟩ ?_
  refine ev_if_eq (tgt := 11) dc_X12_siegeOf_4 (by decide) h (fun h => ?_) (fun h => ?_)
  · refine ev_aload_n dc_X12_siegeOf_11 rfl ?_
    refine ev_iconst (v := 0) dc_X12_siegeOf_12 (by decide) ?_
    refine ev_iload_n dc_X12_siegeOf_13 rfl ?_
    obtain ⟨q2, hq2, h⟩ := Option.bind_eq_some_iff.mp h
    refine ev_callV (av := [.int (0 : Int32), .int a1]) (st := []) (st1 := []) dc_X12_siegeOf_14 (tX12_laysTill hW i0 hq2) mw_2026 cy_X12_laysTill i0 (by decide) rfl rfl rfl rfl (Nat.le_of_ble_eq_true rfl) (Nat.le_of_ble_eq_true rfl) ⟨Nat.le_refl _, Nat.le_refl _⟩ ?_
    refine ev_aload_n dc_X12_siegeOf_17 rfl ?_
    refine ev_iconst (v := 0) dc_X12_siegeOf_18 (by decide) ?_
    refine ev_aload_n dc_X12_siegeOf_19 rfl ?_
    refine ev_getR dc_X12_siegeOf_20 fi_X12_13 rfl i0 ?_
    refine ev_bipush (v := 7) dc_X12_siegeOf_23 (by decide) ?_
    refine ev_iald dc_X12_siegeOf_25 (wt hW i0 1 rfl rfl) h (fun h => ?_)
    obtain ⟨q3, hq3, h⟩ := Option.bind_eq_some_iff.mp h
    refine ev_callV (av := [.int (0 : Int32), .int (gA q2 (pR G a0 1) (7 : Int32))]) (st := []) (st1 := [.int q3]) dc_X12_siegeOf_26 (tX12_tillOf hW i0 hq3) mw_2038 cy_X12_tillOf i0 (by decide) rfl rfl rfl rfl (Nat.le_of_ble_eq_true rfl) (Nat.le_of_ble_eq_true rfl) ⟨Nat.le_refl _, Nat.le_refl _⟩ ?_
    cases h
    exact ev_iret dc_X12_siegeOf_29 rfl rfl rfl
  · refine ev_ldcw (v := 1000000) dc_X12_siegeOf_7 mw_2025 ?_
    cases h
    exact ev_iret dc_X12_siegeOf_10 rfl rfl rfl
theorem dc_X12_plan_0 : Dc miX12_plan 0 (.aload_n 0) 1 1 := ⟨by decide +kernel, rfl⟩
theorem dc_X12_plan_1 : Dc miX12_plan 1 (.iconst 0) 1 2 := ⟨by decide +kernel, rfl⟩
theorem dc_X12_plan_2 : Dc miX12_plan 2 (.putfield 3) 3 5 := ⟨by decide +kernel, rfl⟩
theorem dc_X12_plan_5 : Dc miX12_plan 5 (.aload_n 0) 1 6 := ⟨by decide +kernel, rfl⟩
theorem dc_X12_plan_6 : Dc miX12_plan 6 (.iload_n 1) 1 7 := ⟨by decide +kernel, rfl⟩
theorem dc_X12_plan_7 : Dc miX12_plan 7 (.invokestatic 435) 3 10 := ⟨by decide +kernel, rfl⟩
theorem dc_X12_plan_10 : Dc miX12_plan 10 (.iconst 1) 1 11 := ⟨by decide +kernel, rfl⟩
theorem dc_X12_plan_11 : Dc miX12_plan 11 (.invokevirtual 274) 3 14 := ⟨by decide +kernel, rfl⟩
theorem dc_X12_plan_14 : Dc miX12_plan 14 (.ifCond .eq 5) 3 17 := ⟨by decide +kernel, rfl⟩
theorem dc_X12_plan_17 : Dc miX12_plan 17 (.iconst 0) 1 18 := ⟨by decide +kernel, rfl⟩
theorem dc_X12_plan_18 : Dc miX12_plan 18 (.ireturn) 1 19 := ⟨by decide +kernel, rfl⟩
theorem dc_X12_plan_19 : Dc miX12_plan 19 (.aload_n 0) 1 20 := ⟨by decide +kernel, rfl⟩
theorem dc_X12_plan_20 : Dc miX12_plan 20 (.iload_n 1) 1 21 := ⟨by decide +kernel, rfl⟩
theorem dc_X12_plan_21 : Dc miX12_plan 21 (.invokevirtual 438) 3 24 := ⟨by decide +kernel, rfl⟩
theorem dc_X12_plan_24 : Dc miX12_plan 24 (.istore_n 2) 1 25 := ⟨by decide +kernel, rfl⟩
theorem dc_X12_plan_25 : Dc miX12_plan 25 (.iload_n 2) 1 26 := ⟨by decide +kernel, rfl⟩
theorem dc_X12_plan_26 : Dc miX12_plan 26 (.ldc_w 418) 3 29 := ⟨by decide +kernel, rfl⟩
theorem dc_X12_plan_29 : Dc miX12_plan 29 (.if_icmp .ge 19) 3 32 := ⟨by decide +kernel, rfl⟩
theorem dc_X12_plan_32 : Dc miX12_plan 32 (.aload_n 0) 1 33 := ⟨by decide +kernel, rfl⟩
theorem dc_X12_plan_33 : Dc miX12_plan 33 (.iconst 0) 1 34 := ⟨by decide +kernel, rfl⟩
theorem dc_X12_plan_34 : Dc miX12_plan 34 (.aload_n 0) 1 35 := ⟨by decide +kernel, rfl⟩
theorem dc_X12_plan_35 : Dc miX12_plan 35 (.getfield 13) 3 38 := ⟨by decide +kernel, rfl⟩
theorem dc_X12_plan_38 : Dc miX12_plan 38 (.bipush 7) 2 40 := ⟨by decide +kernel, rfl⟩
theorem dc_X12_plan_40 : Dc miX12_plan 40 (.iaload) 1 41 := ⟨by decide +kernel, rfl⟩
theorem dc_X12_plan_41 : Dc miX12_plan 41 (.invokevirtual 419) 3 44 := ⟨by decide +kernel, rfl⟩
theorem dc_X12_plan_44 : Dc miX12_plan 44 (.iload_n 2) 1 45 := ⟨by decide +kernel, rfl⟩
theorem dc_X12_plan_45 : Dc miX12_plan 45 (.if_icmp .ne 5) 3 48 := ⟨by decide +kernel, rfl⟩
theorem dc_X12_plan_48 : Dc miX12_plan 48 (.iconst (-1)) 1 49 := ⟨by decide +kernel, rfl⟩
theorem dc_X12_plan_49 : Dc miX12_plan 49 (.ireturn) 1 50 := ⟨by decide +kernel, rfl⟩
theorem dc_X12_plan_50 : Dc miX12_plan 50 (.iconst 0) 1 51 := ⟨by decide +kernel, rfl⟩
theorem dc_X12_plan_51 : Dc miX12_plan 51 (.istore_n 3) 1 52 := ⟨by decide +kernel, rfl⟩
theorem dc_X12_plan_52 : Dc miX12_plan 52 (.iload_n 3) 1 53 := ⟨by decide +kernel, rfl⟩
theorem dc_X12_plan_53 : Dc miX12_plan 53 (.aload_n 0) 1 54 := ⟨by decide +kernel, rfl⟩
theorem dc_X12_plan_54 : Dc miX12_plan 54 (.invokevirtual 77) 3 57 := ⟨by decide +kernel, rfl⟩
theorem dc_X12_plan_57 : Dc miX12_plan 57 (.if_icmp .ge 63) 3 60 := ⟨by decide +kernel, rfl⟩
theorem dc_X12_plan_60 : Dc miX12_plan 60 (.iconst 0) 1 61 := ⟨by decide +kernel, rfl⟩
theorem dc_X12_plan_61 : Dc miX12_plan 61 (.istore 4) 2 63 := ⟨by decide +kernel, rfl⟩
theorem dc_X12_plan_63 : Dc miX12_plan 63 (.iload 4) 2 65 := ⟨by decide +kernel, rfl⟩
theorem dc_X12_plan_65 : Dc miX12_plan 65 (.aload_n 0) 1 66 := ⟨by decide +kernel, rfl⟩
theorem dc_X12_plan_66 : Dc miX12_plan 66 (.invokevirtual 74) 3 69 := ⟨by decide +kernel, rfl⟩
theorem dc_X12_plan_69 : Dc miX12_plan 69 (.if_icmp .ge 45) 3 72 := ⟨by decide +kernel, rfl⟩
theorem dc_X12_plan_72 : Dc miX12_plan 72 (.aload_n 0) 1 73 := ⟨by decide +kernel, rfl⟩
theorem dc_X12_plan_73 : Dc miX12_plan 73 (.iload 4) 2 75 := ⟨by decide +kernel, rfl⟩
theorem dc_X12_plan_75 : Dc miX12_plan 75 (.invokevirtual 422) 3 78 := ⟨by decide +kernel, rfl⟩
theorem dc_X12_plan_78 : Dc miX12_plan 78 (.ifCond .eq 30) 3 81 := ⟨by decide +kernel, rfl⟩
theorem dc_X12_plan_81 : Dc miX12_plan 81 (.aload_n 0) 1 82 := ⟨by decide +kernel, rfl⟩
theorem dc_X12_plan_82 : Dc miX12_plan 82 (.iconst 0) 1 83 := ⟨by decide +kernel, rfl⟩
theorem dc_X12_plan_83 : Dc miX12_plan 83 (.aload_n 0) 1 84 := ⟨by decide +kernel, rfl⟩
theorem dc_X12_plan_84 : Dc miX12_plan 84 (.getfield 13) 3 87 := ⟨by decide +kernel, rfl⟩
theorem dc_X12_plan_87 : Dc miX12_plan 87 (.bipush 7) 2 89 := ⟨by decide +kernel, rfl⟩
theorem dc_X12_plan_89 : Dc miX12_plan 89 (.iaload) 1 90 := ⟨by decide +kernel, rfl⟩
theorem dc_X12_plan_90 : Dc miX12_plan 90 (.iload 4) 2 92 := ⟨by decide +kernel, rfl⟩
theorem dc_X12_plan_92 : Dc miX12_plan 92 (.iload_n 3) 1 93 := ⟨by decide +kernel, rfl⟩
theorem dc_X12_plan_93 : Dc miX12_plan 93 (.invokevirtual 425) 3 96 := ⟨by decide +kernel, rfl⟩
theorem dc_X12_plan_96 : Dc miX12_plan 96 (.iload_n 2) 1 97 := ⟨by decide +kernel, rfl⟩
theorem dc_X12_plan_97 : Dc miX12_plan 97 (.if_icmp .ne 11) 3 100 := ⟨by decide +kernel, rfl⟩
theorem dc_X12_plan_100 : Dc miX12_plan 100 (.bipush 10) 2 102 := ⟨by decide +kernel, rfl⟩
theorem dc_X12_plan_102 : Dc miX12_plan 102 (.iload_n 3) 1 103 := ⟨by decide +kernel, rfl⟩
theorem dc_X12_plan_103 : Dc miX12_plan 103 (.imul) 1 104 := ⟨by decide +kernel, rfl⟩
theorem dc_X12_plan_104 : Dc miX12_plan 104 (.iload 4) 2 106 := ⟨by decide +kernel, rfl⟩
theorem dc_X12_plan_106 : Dc miX12_plan 106 (.iadd) 1 107 := ⟨by decide +kernel, rfl⟩
theorem dc_X12_plan_107 : Dc miX12_plan 107 (.ireturn) 1 108 := ⟨by decide +kernel, rfl⟩
theorem dc_X12_plan_108 : Dc miX12_plan 108 (.iinc 4 1) 3 111 := ⟨by decide +kernel, rfl⟩
theorem dc_X12_plan_111 : Dc miX12_plan 111 (.goto (-48)) 3 114 := ⟨by decide +kernel, rfl⟩
theorem dc_X12_plan_114 : Dc miX12_plan 114 (.iinc 3 1) 3 117 := ⟨by decide +kernel, rfl⟩
theorem dc_X12_plan_117 : Dc miX12_plan 117 (.goto (-65)) 3 120 := ⟨by decide +kernel, rfl⟩
theorem dc_X12_plan_120 : Dc miX12_plan 120 (.iconst (-1)) 1 121 := ⟨by decide +kernel, rfl⟩
theorem dc_X12_plan_121 : Dc miX12_plan 121 (.ireturn) 1 122 := ⟨by decide +kernel, rfl⟩
def fX12_plan_b63 (N : Nat) (G : pG) (k52 : Int32 × pS → Option (Int32 × pS)) (a0 : Nat) (x2 : Int32) (x3 : Int32) : (Int32 × pS) → Option (Int32 × pS) := lp (fun (k63 : Int32 × pS → Option (Int32 × pS)) (b : Int32 × pS) => (fX12_courtiers N G a0 b.2).bind (fun q1 => if q1 ≤ b.1 then (k52 (x3 + (1 : Int32), b.2)) else ((fX12_isEnemy N G a0 b.1 b.2).bind (fun q2 => if q2 = 0 then (k63 (b.1 + (1 : Int32), b.2)) else (ck (inB (7 : Int32) (pN G (pR G a0 1))) ((fX12_tillBy N G a0 (0 : Int32) (gA b.2 (pR G a0 1) (7 : Int32)) b.1 x3 b.2).bind (fun q3 => if q3.1 = x2 then (some (((10 : Int32) * x3) + b.1, q3.2)) else (k63 (b.1 + (1 : Int32), q3.2))))))))) N
set_option maxRecDepth 100000 in
set_option maxHeartbeats 4000000 in
theorem tX12_plan_b63 {N : Nat} {G : pG} {SK : Nat → Nat} {k52 : Int32 × pS → Option (Int32 × pS)} {a0 : Nat} {x2 : Int32} {x3 : Int32} {b : Int32 × pS} {r : Int32 × pS} (hW : WT G) (i0 : Is G a0 11) (hk52 : ∀ b : Int32 × pS, k52 b = some r → Ev miX12_plan (11, 0, 0) G (Zp G (some (.int r.1)) r.2) SK (0, 0) 52 [some (.ref a0), none, some (.int x2), some (.int b.1), none] [] b.2) (h : fX12_plan_b63 N G k52 a0 x2 x3 b = some r) : Ev miX12_plan (11, 0, 0) G (Zp G (some (.int r.1)) r.2) SK (0, 0) 63 [some (.ref a0), none, some (.int x2), some (.int x3), some (.int b.1)] [] b.2 := by
  unfold fX12_plan_b63 at h
  refine lp_ind (P := fun b r9 => r9 = r → Ev miX12_plan (11, 0, 0) G (Zp G (some (.int r.1)) r.2) SK (0, 0) 63 [some (.ref a0), none, some (.int x2), some (.int x3), some (.int b.1)] [] b.2) (fun k63 b r9 ih h9 e9 => ?_) N b r h rfl
  clear h
  subst e9
  have h := h9
  clear h9
  have hk63 : ∀ b : Int32 × pS, k63 b = some r9 → Ev miX12_plan (11, 0, 0) G (Zp G (some (.int r9.1)) r9.2) SK (0, 0) 63 [some (.ref a0), none, some (.int x2), some (.int x3), some (.int b.1)] [] b.2 := fun b hb => ih b r9 hb rfl
  clear ih
  obtain ⟨x4, σ⟩ := b
  dsimp only at h ⊢
  refine ev_iload dc_X12_plan_63 rfl ?_
  refine ev_aload_n dc_X12_plan_65 rfl ?_
  obtain ⟨q1, hq1, h⟩ := Option.bind_eq_some_iff.mp h
  refine ev_callV (av := []) (st := [.int x4]) (st1 := [.int q1, .int x4]) dc_X12_plan_66 (tX12_courtiers hW i0 hq1) mw_1705 cy_X12_courtiers i0 (by decide) rfl rfl rfl rfl (Nat.le_of_ble_eq_true rfl) (Nat.le_of_ble_eq_true rfl) ⟨Nat.le_refl _, Nat.le_refl _⟩ ?_
  refine ev_icmp_ge (tgt := 114) dc_X12_plan_69 (by decide) h (fun h => ?_) (fun h => ?_)
  · refine ev_iinc (v := 1) (lv' := [some (.ref a0), none, some (.int x2), some (.int (x3 + (1 : Int32))), some (.int x4)]) dc_X12_plan_114 rfl (by decide) rfl (by decide) rfl ?_
    refine ev_goto (tgt := 52) dc_X12_plan_117 (by decide) ?_
    exact ev_sub (hk52 (x3 + (1 : Int32), σ) h) (And.intro rfl (And.intro rfl (And.intro rfl trivial)))
  · refine ev_aload_n dc_X12_plan_72 rfl ?_
    refine ev_iload dc_X12_plan_73 rfl ?_
    obtain ⟨q2, hq2, h⟩ := Option.bind_eq_some_iff.mp h
    refine ev_callV (av := [.int x4]) (st := []) (st1 := [.int q2]) dc_X12_plan_75 (tX12_isEnemy hW i0 hq2) mw_2042 cy_X12_isEnemy i0 (by decide) rfl rfl rfl rfl (Nat.le_of_ble_eq_true rfl) (Nat.le_of_ble_eq_true rfl) ⟨Nat.le_refl _, Nat.le_refl _⟩ ?_
    refine ev_if_eq (tgt := 108) dc_X12_plan_78 (by decide) h (fun h => ?_) (fun h => ?_)
    · refine ev_iinc (v := 1) (lv' := [some (.ref a0), none, some (.int x2), some (.int x3), some (.int (x4 + (1 : Int32)))]) dc_X12_plan_108 rfl (by decide) rfl (by decide) rfl ?_
      refine ev_goto (tgt := 63) dc_X12_plan_111 (by decide) ?_
      exact ev_sub (hk63 (x4 + (1 : Int32), σ) h) (And.intro rfl (And.intro rfl (And.intro rfl (And.intro rfl trivial))))
    · refine ev_aload_n dc_X12_plan_81 rfl ?_
      refine ev_iconst (v := 0) dc_X12_plan_82 (by decide) ?_
      refine ev_aload_n dc_X12_plan_83 rfl ?_
      refine ev_getR dc_X12_plan_84 fi_X12_13 rfl i0 ?_
      refine ev_bipush (v := 7) dc_X12_plan_87 (by decide) ?_
      refine ev_iald dc_X12_plan_89 (wt hW i0 1 rfl rfl) h (fun h => ?_)
      refine ev_iload dc_X12_plan_90 rfl ?_
      refine ev_iload_n dc_X12_plan_92 rfl ?_
      obtain ⟨q3, hq3, h⟩ := Option.bind_eq_some_iff.mp h
      refine ev_callV (av := [.int (0 : Int32), .int (gA σ (pR G a0 1) (7 : Int32)), .int x4, .int x3]) (st := []) (st1 := [.int q3.1]) dc_X12_plan_93 (tX12_tillBy hW i0 hq3) mw_2046 cy_X12_tillBy i0 (by decide) rfl rfl rfl rfl (Nat.le_of_ble_eq_true rfl) (Nat.le_of_ble_eq_true rfl) ⟨Nat.le_refl _, Nat.le_refl _⟩ ?_
      refine ev_iload_n dc_X12_plan_96 rfl ?_
      refine ev_icmp_ne (tgt := 108) dc_X12_plan_97 (by decide) h (fun h => ?_) (fun h => ?_)
      · refine ev_bipush (v := 10) dc_X12_plan_100 (by decide) ?_
        refine ev_iload_n dc_X12_plan_102 rfl ?_
        refine ev_imul dc_X12_plan_103 ?_
        refine ev_iload dc_X12_plan_104 rfl ?_
        refine ev_iadd dc_X12_plan_106 ?_
        cases h
        exact ev_iret dc_X12_plan_107 rfl rfl rfl
      · refine ev_iinc (v := 1) (lv' := [some (.ref a0), none, some (.int x2), some (.int x3), some (.int (x4 + (1 : Int32)))]) dc_X12_plan_108 rfl (by decide) rfl (by decide) rfl ?_
        refine ev_goto (tgt := 63) dc_X12_plan_111 (by decide) ?_
        exact ev_sub (hk63 (x4 + (1 : Int32), q3.2) h) (And.intro rfl (And.intro rfl (And.intro rfl (And.intro rfl trivial))))
def fX12_plan_b52 (N : Nat) (G : pG) (a0 : Nat) (x2 : Int32) : (Int32 × pS) → Option (Int32 × pS) := lp (fun (k52 : Int32 × pS → Option (Int32 × pS)) (b : Int32 × pS) => (fX12_words N G a0 b.2).bind (fun q4 => if q4 ≤ b.1 then (some ((-1 : Int32), b.2)) else (fX12_plan_b63 N G k52 a0 x2 b.1 ((0 : Int32), b.2)))) N
set_option maxRecDepth 100000 in
set_option maxHeartbeats 4000000 in
theorem tX12_plan_b52 {N : Nat} {G : pG} {SK : Nat → Nat} {a0 : Nat} {x2 : Int32} {b : Int32 × pS} {r : Int32 × pS} (hW : WT G) (i0 : Is G a0 11) (h : fX12_plan_b52 N G a0 x2 b = some r) : Ev miX12_plan (11, 0, 0) G (Zp G (some (.int r.1)) r.2) SK (0, 0) 52 [some (.ref a0), none, some (.int x2), some (.int b.1), none] [] b.2 := by
  unfold fX12_plan_b52 at h
  refine lp_ind (P := fun b r9 => r9 = r → Ev miX12_plan (11, 0, 0) G (Zp G (some (.int r.1)) r.2) SK (0, 0) 52 [some (.ref a0), none, some (.int x2), some (.int b.1), none] [] b.2) (fun k52 b r9 ih h9 e9 => ?_) N b r h rfl
  clear h
  subst e9
  have h := h9
  clear h9
  have hk52 : ∀ b : Int32 × pS, k52 b = some r9 → Ev miX12_plan (11, 0, 0) G (Zp G (some (.int r9.1)) r9.2) SK (0, 0) 52 [some (.ref a0), none, some (.int x2), some (.int b.1), none] [] b.2 := fun b hb => ih b r9 hb rfl
  clear ih
  obtain ⟨x3, σ⟩ := b
  dsimp only at h ⊢
  refine ev_iload_n dc_X12_plan_52 rfl ?_
  refine ev_aload_n dc_X12_plan_53 rfl ?_
  obtain ⟨q4, hq4, h⟩ := Option.bind_eq_some_iff.mp h
  refine ev_callV (av := []) (st := [.int x3]) (st1 := [.int q4, .int x3]) dc_X12_plan_54 (tX12_words hW i0 hq4) mw_1676 cy_X12_words i0 (by decide) rfl rfl rfl rfl (Nat.le_of_ble_eq_true rfl) (Nat.le_of_ble_eq_true rfl) ⟨Nat.le_refl _, Nat.le_refl _⟩ ?_
  refine ev_icmp_ge (tgt := 120) dc_X12_plan_57 (by decide) h (fun h => ?_) (fun h => ?_)
  · refine ev_iconst (v := (-1)) dc_X12_plan_120 (by decide) ?_
    cases h
    exact ev_iret dc_X12_plan_121 rfl rfl rfl
  · refine ev_iconst (v := 0) dc_X12_plan_60 (by decide) ?_
    refine ev_istore (lv' := [some (.ref a0), none, some (.int x2), some (.int x3), some (.int (0 : Int32))]) dc_X12_plan_61 rfl (by decide) rfl ?_
    exact ev_sub (tX12_plan_b63 (b := ((0 : Int32), σ)) hW i0 hk52 h) (And.intro rfl (And.intro rfl (And.intro rfl (And.intro rfl trivial))))
def fX12_plan (N : Nat) (G : pG) (a0 : Nat) (a1 : Int32) (σ : pS) : Option (Int32 × pS) := (fX12_noSiege N G a1 (putF σ a0 0 (0 : Int32))).bind (fun q5 => (fX12_throwsIf N G a0 q5 (1 : Int32) (putF σ a0 0 (0 : Int32))).bind (fun q6 => if q6.1 = 0 then ((fX12_siegeOf N G a0 a1 q6.2).bind (fun q7 => if (1000000 : Int32) ≤ q7.1 then (some ((-1 : Int32), q7.2)) else (ck (inB (7 : Int32) (pN G (pR G a0 1))) ((fX12_behindDeeds N G a0 (0 : Int32) (gA q7.2 (pR G a0 1) (7 : Int32)) q7.2).bind (fun q8 => if q8.1 = q7.1 then (some ((-1 : Int32), q8.2)) else (fX12_plan_b52 N G a0 q7.1 ((0 : Int32), q8.2))))))) else (some ((0 : Int32), q6.2))))
set_option maxRecDepth 100000 in
set_option maxHeartbeats 4000000 in
theorem tX12_plan {N : Nat} {G : pG} {SK : Nat → Nat} {a0 : Nat} {a1 : Int32} {σ : pS} {r : Int32 × pS} (hW : WT G) (i0 : Is G a0 11) (h : fX12_plan N G a0 a1 σ = some r) : Dn miX12_plan yX12_plan 11 G SK [.ref a0, .int a1] σ (some (.int r.1)) r.2 := by
  unfold fX12_plan at h
  refine dn_of (lv := [some (.ref a0), some (.int a1), none, none, none]) (by decide) rfl rfl (Nat.le_of_ble_eq_true rfl) rfl ?_
  refine ev_aload_n dc_X12_plan_0 rfl ?_
  refine ev_iconst (v := 0) dc_X12_plan_1 (by decide) ?_
  refine ev_putI dc_X12_plan_2 fi_X12_3 rfl i0 ?_
  refine ev_aload_n dc_X12_plan_5 rfl ?_
  refine ev_iload_n dc_X12_plan_6 rfl ?_
  obtain ⟨q5, hq5, h⟩ := Option.bind_eq_some_iff.mp h
  refine ev_callS (av := [.int a1]) (st := [.ref a0]) (st1 := [.int q5, .ref a0]) dc_X12_plan_7 (tX12_noSiege hW hq5) mw_2018 cs_X12_noSiege rfl rfl rfl (Nat.le_of_ble_eq_true rfl) (Nat.le_of_ble_eq_true rfl) ⟨Nat.le_refl _, Nat.le_refl _⟩ ?_
  refine ev_iconst (v := 1) dc_X12_plan_10 (by decide) ?_
  obtain ⟨q6, hq6, h⟩ := Option.bind_eq_some_iff.mp h
  refine ev_callV (av := [.int q5, .int (1 : Int32)]) (st := []) (st1 := [.int q6.1]) dc_X12_plan_11 (tX12_throwsIf hW i0 hq6) mw_1784 cy_X12_throwsIf i0 (by decide) rfl rfl rfl rfl (Nat.le_of_ble_eq_true rfl) (Nat.le_of_ble_eq_true rfl) ⟨Nat.le_refl _, Nat.le_refl _⟩ ?_
  refine ev_if_eq (tgt := 19) dc_X12_plan_14 (by decide) h (fun h => ?_) (fun h => ?_)
  · refine ev_aload_n dc_X12_plan_19 rfl ?_
    refine ev_iload_n dc_X12_plan_20 rfl ?_
    obtain ⟨q7, hq7, h⟩ := Option.bind_eq_some_iff.mp h
    refine ev_callV (av := [.int a1]) (st := []) (st1 := [.int q7.1]) dc_X12_plan_21 (tX12_siegeOf hW i0 hq7) mw_2021 cy_X12_siegeOf i0 (by decide) rfl rfl rfl rfl (Nat.le_of_ble_eq_true rfl) (Nat.le_of_ble_eq_true rfl) ⟨Nat.le_refl _, Nat.le_refl _⟩ ?_
    refine ev_istore_n (lv' := [some (.ref a0), some (.int a1), some (.int q7.1), none, none]) dc_X12_plan_24 rfl (by decide) rfl ?_
    refine ev_iload_n dc_X12_plan_25 rfl ?_
    refine ev_ldcw (v := 1000000) dc_X12_plan_26 mw_2025 ?_
    refine ev_icmp_ge (tgt := 48) dc_X12_plan_29 (by decide) h (fun h => ?_) (fun h => ?_)
    · refine ev_iconst (v := (-1)) dc_X12_plan_48 (by decide) ?_
      cases h
      exact ev_iret dc_X12_plan_49 rfl rfl rfl
    · refine ev_aload_n dc_X12_plan_32 rfl ?_
      refine ev_iconst (v := 0) dc_X12_plan_33 (by decide) ?_
      refine ev_aload_n dc_X12_plan_34 rfl ?_
      refine ev_getR dc_X12_plan_35 fi_X12_13 rfl i0 ?_
      refine ev_bipush (v := 7) dc_X12_plan_38 (by decide) ?_
      refine ev_iald dc_X12_plan_40 (wt hW i0 1 rfl rfl) h (fun h => ?_)
      obtain ⟨q8, hq8, h⟩ := Option.bind_eq_some_iff.mp h
      refine ev_callV (av := [.int (0 : Int32), .int (gA q7.2 (pR G a0 1) (7 : Int32))]) (st := []) (st1 := [.int q8.1]) dc_X12_plan_41 (tX12_behindDeeds hW i0 hq8) mw_2034 cy_X12_behindDeeds i0 (by decide) rfl rfl rfl rfl (Nat.le_of_ble_eq_true rfl) (Nat.le_of_ble_eq_true rfl) ⟨Nat.le_refl _, Nat.le_refl _⟩ ?_
      refine ev_iload_n dc_X12_plan_44 rfl ?_
      refine ev_icmp_ne (tgt := 50) dc_X12_plan_45 (by decide) h (fun h => ?_) (fun h => ?_)
      · refine ev_iconst (v := (-1)) dc_X12_plan_48 (by decide) ?_
        cases h
        exact ev_iret dc_X12_plan_49 rfl rfl rfl
      · refine ev_iconst (v := 0) dc_X12_plan_50 (by decide) ?_
        refine ev_istore_n (lv' := [some (.ref a0), some (.int a1), some (.int q7.1), some (.int (0 : Int32)), none]) dc_X12_plan_51 rfl (by decide) rfl ?_
        exact ev_sub (tX12_plan_b52 (b := ((0 : Int32), q8.2)) hW i0 h) (And.intro rfl (And.intro rfl (And.intro rfl trivial)))
  · refine ev_iconst (v := 0) dc_X12_plan_17 (by decide) ?_
    cases h
    exact ev_iret dc_X12_plan_18 rfl rfl rfl
theorem dc_X12_say_0 : Dc miX12_say 0 (.aload_n 0) 1 1 := ⟨by decide +kernel, rfl⟩
theorem dc_X12_say_1 : Dc miX12_say 1 (.iconst 0) 1 2 := ⟨by decide +kernel, rfl⟩
theorem dc_X12_say_2 : Dc miX12_say 2 (.putfield 3) 3 5 := ⟨by decide +kernel, rfl⟩
theorem dc_X12_say_5 : Dc miX12_say 5 (.aload_n 0) 1 6 := ⟨by decide +kernel, rfl⟩
theorem dc_X12_say_6 : Dc miX12_say 6 (.aload_n 0) 1 7 := ⟨by decide +kernel, rfl⟩
theorem dc_X12_say_7 : Dc miX12_say 7 (.iload_n 1) 1 8 := ⟨by decide +kernel, rfl⟩
theorem dc_X12_say_8 : Dc miX12_say 8 (.invokevirtual 343) 3 11 := ⟨by decide +kernel, rfl⟩
theorem dc_X12_say_11 : Dc miX12_say 11 (.ifCond .ne 11) 3 14 := ⟨by decide +kernel, rfl⟩
theorem dc_X12_say_14 : Dc miX12_say 14 (.aload_n 0) 1 15 := ⟨by decide +kernel, rfl⟩
theorem dc_X12_say_15 : Dc miX12_say 15 (.iload_n 2) 1 16 := ⟨by decide +kernel, rfl⟩
theorem dc_X12_say_16 : Dc miX12_say 16 (.invokevirtual 346) 3 19 := ⟨by decide +kernel, rfl⟩
theorem dc_X12_say_19 : Dc miX12_say 19 (.ifCond .eq 7) 3 22 := ⟨by decide +kernel, rfl⟩
theorem dc_X12_say_22 : Dc miX12_say 22 (.iconst 1) 1 23 := ⟨by decide +kernel, rfl⟩
theorem dc_X12_say_23 : Dc miX12_say 23 (.goto 4) 3 26 := ⟨by decide +kernel, rfl⟩
theorem dc_X12_say_26 : Dc miX12_say 26 (.iconst 0) 1 27 := ⟨by decide +kernel, rfl⟩
theorem dc_X12_say_27 : Dc miX12_say 27 (.iconst 1) 1 28 := ⟨by decide +kernel, rfl⟩
theorem dc_X12_say_28 : Dc miX12_say 28 (.invokevirtual 274) 3 31 := ⟨by decide +kernel, rfl⟩
theorem dc_X12_say_31 : Dc miX12_say 31 (.ifCond .ne 31) 3 34 := ⟨by decide +kernel, rfl⟩
theorem dc_X12_say_34 : Dc miX12_say 34 (.aload_n 0) 1 35 := ⟨by decide +kernel, rfl⟩
theorem dc_X12_say_35 : Dc miX12_say 35 (.aload_n 0) 1 36 := ⟨by decide +kernel, rfl⟩
theorem dc_X12_say_36 : Dc miX12_say 36 (.invokevirtual 367) 3 39 := ⟨by decide +kernel, rfl⟩
theorem dc_X12_say_39 : Dc miX12_say 39 (.ifCond .ne 11) 3 42 := ⟨by decide +kernel, rfl⟩
theorem dc_X12_say_42 : Dc miX12_say 42 (.aload_n 0) 1 43 := ⟨by decide +kernel, rfl⟩
theorem dc_X12_say_43 : Dc miX12_say 43 (.iload_n 1) 1 44 := ⟨by decide +kernel, rfl⟩
theorem dc_X12_say_44 : Dc miX12_say 44 (.invokevirtual 370) 3 47 := ⟨by decide +kernel, rfl⟩
theorem dc_X12_say_47 : Dc miX12_say 47 (.ifCond .ne 7) 3 50 := ⟨by decide +kernel, rfl⟩
theorem dc_X12_say_50 : Dc miX12_say 50 (.iconst 1) 1 51 := ⟨by decide +kernel, rfl⟩
theorem dc_X12_say_51 : Dc miX12_say 51 (.goto 4) 3 54 := ⟨by decide +kernel, rfl⟩
theorem dc_X12_say_54 : Dc miX12_say 54 (.iconst 0) 1 55 := ⟨by decide +kernel, rfl⟩
theorem dc_X12_say_55 : Dc miX12_say 55 (.iconst 2) 1 56 := ⟨by decide +kernel, rfl⟩
theorem dc_X12_say_56 : Dc miX12_say 56 (.invokevirtual 274) 3 59 := ⟨by decide +kernel, rfl⟩
theorem dc_X12_say_59 : Dc miX12_say 59 (.ifCond .eq 5) 3 62 := ⟨by decide +kernel, rfl⟩
theorem dc_X12_say_62 : Dc miX12_say 62 (.iconst 0) 1 63 := ⟨by decide +kernel, rfl⟩
theorem dc_X12_say_63 : Dc miX12_say 63 (.ireturn) 1 64 := ⟨by decide +kernel, rfl⟩
theorem dc_X12_say_64 : Dc miX12_say 64 (.aload_n 0) 1 65 := ⟨by decide +kernel, rfl⟩
theorem dc_X12_say_65 : Dc miX12_say 65 (.invokevirtual 373) 3 68 := ⟨by decide +kernel, rfl⟩
theorem dc_X12_say_68 : Dc miX12_say 68 (.aload_n 0) 1 69 := ⟨by decide +kernel, rfl⟩
theorem dc_X12_say_69 : Dc miX12_say 69 (.iload_n 1) 1 70 := ⟨by decide +kernel, rfl⟩
theorem dc_X12_say_70 : Dc miX12_say 70 (.iload_n 2) 1 71 := ⟨by decide +kernel, rfl⟩
theorem dc_X12_say_71 : Dc miX12_say 71 (.invokevirtual 376) 3 74 := ⟨by decide +kernel, rfl⟩
theorem dc_X12_say_74 : Dc miX12_say 74 (.aload_n 0) 1 75 := ⟨by decide +kernel, rfl⟩
theorem dc_X12_say_75 : Dc miX12_say 75 (.getfield 13) 3 78 := ⟨by decide +kernel, rfl⟩
theorem dc_X12_say_78 : Dc miX12_say 78 (.bipush 7) 2 80 := ⟨by decide +kernel, rfl⟩
theorem dc_X12_say_80 : Dc miX12_say 80 (.iaload) 1 81 := ⟨by decide +kernel, rfl⟩
theorem dc_X12_say_81 : Dc miX12_say 81 (.ireturn) 1 82 := ⟨by decide +kernel, rfl⟩
def fX12_say_b55 (N : Nat) (G : pG) (a0 : Nat) (a1 : Int32) (a2 : Int32) (y1 : Int32) (σ : pS) : Option (Int32 × pS) := (fX12_throwsIf N G a0 y1 (2 : Int32) σ).bind (fun q1 => if q1.1 = 0 then ((fX12_remembers N G a0 q1.2).bind (fun q2 => (fX12_says N G a0 a1 a2 q2).bind (fun q3 => ck (inB (7 : Int32) (pN G (pR G a0 1))) (some (gA q3 (pR G a0 1) (7 : Int32), q3))))) else (some ((0 : Int32), q1.2)))
set_option maxRecDepth 100000 in
set_option maxHeartbeats 4000000 in
theorem tX12_say_b55 {N : Nat} {G : pG} {SK : Nat → Nat} {a0 : Nat} {a1 : Int32} {a2 : Int32} {y1 : Int32} {σ : pS} {r : Int32 × pS} (hW : WT G) (i0 : Is G a0 11) (h : fX12_say_b55 N G a0 a1 a2 y1 σ = some r) : Ev miX12_say (7, 0, 0) G (Zp G (some (.int r.1)) r.2) SK (0, 0) 55 [some (.ref a0), some (.int a1), some (.int a2)] [.int y1, .ref a0] σ := by
  unfold fX12_say_b55 at h
  refine ev_iconst (v := 2) dc_X12_say_55 (by decide) ?_
  obtain ⟨q1, hq1, h⟩ := Option.bind_eq_some_iff.mp h
  refine ev_callV (av := [.int y1, .int (2 : Int32)]) (st := []) (st1 := [.int q1.1]) dc_X12_say_56 (tX12_throwsIf hW i0 hq1) mw_1784 cy_X12_throwsIf i0 (by decide) rfl rfl rfl rfl (Nat.le_of_ble_eq_true rfl) (Nat.le_of_ble_eq_true rfl) ⟨Nat.le_refl _, Nat.le_refl _⟩ ?_
  refine ev_if_eq (tgt := 64) dc_X12_say_59 (by decide) h (fun h => ?_) (fun h => ?_)
  · refine ev_aload_n dc_X12_say_64 rfl ?_
    obtain ⟨q2, hq2, h⟩ := Option.bind_eq_some_iff.mp h
    refine ev_callV (av := []) (st := []) (st1 := []) dc_X12_say_65 (tX12_remembers hW i0 hq2) mw_1910 cy_X12_remembers i0 (by decide) rfl rfl rfl rfl (Nat.le_of_ble_eq_true rfl) (Nat.le_of_ble_eq_true rfl) ⟨Nat.le_refl _, Nat.le_refl _⟩ ?_
    refine ev_aload_n dc_X12_say_68 rfl ?_
    refine ev_iload_n dc_X12_say_69 rfl ?_
    refine ev_iload_n dc_X12_say_70 rfl ?_
    obtain ⟨q3, hq3, h⟩ := Option.bind_eq_some_iff.mp h
    refine ev_callV (av := [.int a1, .int a2]) (st := []) (st1 := []) dc_X12_say_71 (tX12_says hW i0 hq3) mw_1914 cy_X12_says i0 (by decide) rfl rfl rfl rfl (Nat.le_of_ble_eq_true rfl) (Nat.le_of_ble_eq_true rfl) ⟨Nat.le_refl _, Nat.le_refl _⟩ ?_
    refine ev_aload_n dc_X12_say_74 rfl ?_
    refine ev_getR dc_X12_say_75 fi_X12_13 rfl i0 ?_
    refine ev_bipush (v := 7) dc_X12_say_78 (by decide) ?_
    refine ev_iald dc_X12_say_80 (wt hW i0 1 rfl rfl) h (fun h => ?_)
    cases h
    exact ev_iret dc_X12_say_81 rfl rfl rfl
  · refine ev_iconst (v := 0) dc_X12_say_62 (by decide) ?_
    cases h
    exact ev_iret dc_X12_say_63 rfl rfl rfl
def fX12_say_b50 (N : Nat) (G : pG) (a0 : Nat) (a1 : Int32) (a2 : Int32) (σ : pS) : Option (Int32 × pS) := fX12_say_b55 N G a0 a1 a2 (1 : Int32) σ
set_option maxRecDepth 100000 in
set_option maxHeartbeats 4000000 in
theorem tX12_say_b50 {N : Nat} {G : pG} {SK : Nat → Nat} {a0 : Nat} {a1 : Int32} {a2 : Int32} {σ : pS} {r : Int32 × pS} (hW : WT G) (i0 : Is G a0 11) (h : fX12_say_b50 N G a0 a1 a2 σ = some r) : Ev miX12_say (7, 0, 0) G (Zp G (some (.int r.1)) r.2) SK (0, 0) 50 [some (.ref a0), some (.int a1), some (.int a2)] [.ref a0] σ := by
  unfold fX12_say_b50 at h
  refine ev_iconst (v := 1) dc_X12_say_50 (by decide) ?_
  refine ev_goto (tgt := 55) dc_X12_say_51 (by decide) ?_
  exact ev_sub (tX12_say_b55 hW i0 h) (And.intro rfl (And.intro rfl (And.intro rfl trivial)))
def fX12_say_b27 (N : Nat) (G : pG) (a0 : Nat) (a1 : Int32) (a2 : Int32) (y1 : Int32) (σ : pS) : Option (Int32 × pS) := (fX12_throwsIf N G a0 y1 (1 : Int32) σ).bind (fun q4 => if q4.1 = 0 then ((fX12_isGone N G a0 q4.2).bind (fun q5 => if q5 = 0 then ((fX12_isNear N G a0 a1 q4.2).bind (fun q6 => if q6 = 0 then (fX12_say_b50 N G a0 a1 a2 q4.2) else (fX12_say_b55 N G a0 a1 a2 (0 : Int32) q4.2))) else (fX12_say_b50 N G a0 a1 a2 q4.2))) else (some ((0 : Int32), q4.2)))
set_option maxRecDepth 100000 in
set_option maxHeartbeats 4000000 in
theorem tX12_say_b27 {N : Nat} {G : pG} {SK : Nat → Nat} {a0 : Nat} {a1 : Int32} {a2 : Int32} {y1 : Int32} {σ : pS} {r : Int32 × pS} (hW : WT G) (i0 : Is G a0 11) (h : fX12_say_b27 N G a0 a1 a2 y1 σ = some r) : Ev miX12_say (7, 0, 0) G (Zp G (some (.int r.1)) r.2) SK (0, 0) 27 [some (.ref a0), some (.int a1), some (.int a2)] [.int y1, .ref a0] σ := by
  unfold fX12_say_b27 at h
  refine ev_iconst (v := 1) dc_X12_say_27 (by decide) ?_
  obtain ⟨q4, hq4, h⟩ := Option.bind_eq_some_iff.mp h
  refine ev_callV (av := [.int y1, .int (1 : Int32)]) (st := []) (st1 := [.int q4.1]) dc_X12_say_28 (tX12_throwsIf hW i0 hq4) mw_1784 cy_X12_throwsIf i0 (by decide) rfl rfl rfl rfl (Nat.le_of_ble_eq_true rfl) (Nat.le_of_ble_eq_true rfl) ⟨Nat.le_refl _, Nat.le_refl _⟩ ?_
  refine ev_if_ne (tgt := 62) dc_X12_say_31 (by decide) h (fun h => ?_) (fun h => ?_)
  · refine ev_aload_n dc_X12_say_34 rfl ?_
    refine ev_aload_n dc_X12_say_35 rfl ?_
    obtain ⟨q5, hq5, h⟩ := Option.bind_eq_some_iff.mp h
    refine ev_callV (av := []) (st := [.ref a0]) (st1 := [.int q5, .ref a0]) dc_X12_say_36 (tX12_isGone hW i0 hq5) mw_1902 cy_X12_isGone i0 (by decide) rfl rfl rfl rfl (Nat.le_of_ble_eq_true rfl) (Nat.le_of_ble_eq_true rfl) ⟨Nat.le_refl _, Nat.le_refl _⟩ ?_
    refine ev_if_ne (tgt := 50) dc_X12_say_39 (by decide) h (fun h => ?_) (fun h => ?_)
    · refine ev_aload_n dc_X12_say_42 rfl ?_
      refine ev_iload_n dc_X12_say_43 rfl ?_
      obtain ⟨q6, hq6, h⟩ := Option.bind_eq_some_iff.mp h
      refine ev_callV (av := [.int a1]) (st := [.ref a0]) (st1 := [.int q6, .ref a0]) dc_X12_say_44 (tX12_isNear hW i0 hq6) mw_1906 cy_X12_isNear i0 (by decide) rfl rfl rfl rfl (Nat.le_of_ble_eq_true rfl) (Nat.le_of_ble_eq_true rfl) ⟨Nat.le_refl _, Nat.le_refl _⟩ ?_
      refine ev_if_ne (tgt := 54) dc_X12_say_47 (by decide) h (fun h => ?_) (fun h => ?_)
      · exact ev_sub (tX12_say_b50 hW i0 h) (And.intro rfl (And.intro rfl (And.intro rfl trivial)))
      · refine ev_iconst (v := 0) dc_X12_say_54 (by decide) ?_
        exact ev_sub (tX12_say_b55 hW i0 h) (And.intro rfl (And.intro rfl (And.intro rfl trivial)))
    · exact ev_sub (tX12_say_b50 hW i0 h) (And.intro rfl (And.intro rfl (And.intro rfl trivial)))
  · refine ev_iconst (v := 0) dc_X12_say_62 (by decide) ?_
    cases h
    exact ev_iret dc_X12_say_63 rfl rfl rfl
def fX12_say_b22 (N : Nat) (G : pG) (a0 : Nat) (a1 : Int32) (a2 : Int32) (σ : pS) : Option (Int32 × pS) := fX12_say_b27 N G a0 a1 a2 (1 : Int32) σ
set_option maxRecDepth 100000 in
set_option maxHeartbeats 4000000 in
theorem tX12_say_b22 {N : Nat} {G : pG} {SK : Nat → Nat} {a0 : Nat} {a1 : Int32} {a2 : Int32} {σ : pS} {r : Int32 × pS} (hW : WT G) (i0 : Is G a0 11) (h : fX12_say_b22 N G a0 a1 a2 σ = some r) : Ev miX12_say (7, 0, 0) G (Zp G (some (.int r.1)) r.2) SK (0, 0) 22 [some (.ref a0), some (.int a1), some (.int a2)] [.ref a0] σ := by
  unfold fX12_say_b22 at h
  refine ev_iconst (v := 1) dc_X12_say_22 (by decide) ?_
  refine ev_goto (tgt := 27) dc_X12_say_23 (by decide) ?_
  exact ev_sub (tX12_say_b27 hW i0 h) (And.intro rfl (And.intro rfl (And.intro rfl trivial)))
def fX12_say (N : Nat) (G : pG) (a0 : Nat) (a1 : Int32) (a2 : Int32) (σ : pS) : Option (Int32 × pS) := (fX12_noWho N G a0 a1 (putF σ a0 0 (0 : Int32))).bind (fun q7 => if q7 = 0 then ((fX12_noWord N G a0 a2 (putF σ a0 0 (0 : Int32))).bind (fun q8 => if q8 = 0 then (fX12_say_b27 N G a0 a1 a2 (0 : Int32) (putF σ a0 0 (0 : Int32))) else (fX12_say_b22 N G a0 a1 a2 (putF σ a0 0 (0 : Int32))))) else (fX12_say_b22 N G a0 a1 a2 (putF σ a0 0 (0 : Int32))))
set_option maxRecDepth 100000 in
set_option maxHeartbeats 4000000 in
theorem tX12_say {N : Nat} {G : pG} {SK : Nat → Nat} {a0 : Nat} {a1 : Int32} {a2 : Int32} {σ : pS} {r : Int32 × pS} (hW : WT G) (i0 : Is G a0 11) (h : fX12_say N G a0 a1 a2 σ = some r) : Dn miX12_say yX12_say 7 G SK [.ref a0, .int a1, .int a2] σ (some (.int r.1)) r.2 := by
  unfold fX12_say at h
  refine dn_of (lv := [some (.ref a0), some (.int a1), some (.int a2)]) (by decide) rfl rfl (Nat.le_of_ble_eq_true rfl) rfl ?_
  refine ev_aload_n dc_X12_say_0 rfl ?_
  refine ev_iconst (v := 0) dc_X12_say_1 (by decide) ?_
  refine ev_putI dc_X12_say_2 fi_X12_3 rfl i0 ?_
  refine ev_aload_n dc_X12_say_5 rfl ?_
  refine ev_aload_n dc_X12_say_6 rfl ?_
  refine ev_iload_n dc_X12_say_7 rfl ?_
  obtain ⟨q7, hq7, h⟩ := Option.bind_eq_some_iff.mp h
  refine ev_callV (av := [.int a1]) (st := [.ref a0]) (st1 := [.int q7, .ref a0]) dc_X12_say_8 (tX12_noWho hW i0 hq7) mw_1796 cy_X12_noWho i0 (by decide) rfl rfl rfl rfl (Nat.le_of_ble_eq_true rfl) (Nat.le_of_ble_eq_true rfl) ⟨Nat.le_refl _, Nat.le_refl _⟩ ?_
  refine ev_if_ne (tgt := 22) dc_X12_say_11 (by decide) h (fun h => ?_) (fun h => ?_)
  · refine ev_aload_n dc_X12_say_14 rfl ?_
    refine ev_iload_n dc_X12_say_15 rfl ?_
    obtain ⟨q8, hq8, h⟩ := Option.bind_eq_some_iff.mp h
    refine ev_callV (av := [.int a2]) (st := [.ref a0]) (st1 := [.int q8, .ref a0]) dc_X12_say_16 (tX12_noWord hW i0 hq8) mw_1800 cy_X12_noWord i0 (by decide) rfl rfl rfl rfl (Nat.le_of_ble_eq_true rfl) (Nat.le_of_ble_eq_true rfl) ⟨Nat.le_refl _, Nat.le_refl _⟩ ?_
    refine ev_if_eq (tgt := 26) dc_X12_say_19 (by decide) h (fun h => ?_) (fun h => ?_)
    · refine ev_iconst (v := 0) dc_X12_say_26 (by decide) ?_
      exact ev_sub (tX12_say_b27 hW i0 h) (And.intro rfl (And.intro rfl (And.intro rfl trivial)))
    · exact ev_sub (tX12_say_b22 hW i0 h) (And.intro rfl (And.intro rfl (And.intro rfl trivial)))
  · exact ev_sub (tX12_say_b22 hW i0 h) (And.intro rfl (And.intro rfl (And.intro rfl trivial)))
theorem dc_X12_seals_0 : Dc miX12_seals 0 (.aload_n 0) 1 1 := ⟨by decide +kernel, rfl⟩
theorem dc_X12_seals_1 : Dc miX12_seals 1 (.iconst 0) 1 2 := ⟨by decide +kernel, rfl⟩
theorem dc_X12_seals_2 : Dc miX12_seals 2 (.putfield 3) 3 5 := ⟨by decide +kernel, rfl⟩
theorem dc_X12_seals_5 : Dc miX12_seals 5 (.aload_n 0) 1 6 := ⟨by decide +kernel, rfl⟩
theorem dc_X12_seals_6 : Dc miX12_seals 6 (.iload_n 1) 1 7 := ⟨by decide +kernel, rfl⟩
theorem dc_X12_seals_7 : Dc miX12_seals 7 (.invokevirtual 462) 3 10 := ⟨by decide +kernel, rfl⟩
theorem dc_X12_seals_10 : Dc miX12_seals 10 (.ireturn) 1 11 := ⟨by decide +kernel, rfl⟩
def fX12_seals (N : Nat) (G : pG) (a0 : Nat) (a1 : Int32) (σ : pS) : Option (Int32 × pS) := (fX12_doneBy N G a0 a1 (putF σ a0 0 (0 : Int32))).bind (fun q1 => some (q1, putF σ a0 0 (0 : Int32)))
set_option maxRecDepth 100000 in
set_option maxHeartbeats 4000000 in
theorem tX12_seals {N : Nat} {G : pG} {SK : Nat → Nat} {a0 : Nat} {a1 : Int32} {σ : pS} {r : Int32 × pS} (hW : WT G) (i0 : Is G a0 11) (h : fX12_seals N G a0 a1 σ = some r) : Dn miX12_seals yX12_seals 3 G SK [.ref a0, .int a1] σ (some (.int r.1)) r.2 := by
  unfold fX12_seals at h
  refine dn_of (lv := [some (.ref a0), some (.int a1)]) (by decide) rfl rfl (Nat.le_of_ble_eq_true rfl) rfl ?_
  refine ev_aload_n dc_X12_seals_0 rfl ?_
  refine ev_iconst (v := 0) dc_X12_seals_1 (by decide) ?_
  refine ev_putI dc_X12_seals_2 fi_X12_3 rfl i0 ?_
  refine ev_aload_n dc_X12_seals_5 rfl ?_
  refine ev_iload_n dc_X12_seals_6 rfl ?_
  obtain ⟨q1, hq1, h⟩ := Option.bind_eq_some_iff.mp h
  refine ev_callV (av := [.int a1]) (st := []) (st1 := [.int q1]) dc_X12_seals_7 (tX12_doneBy hW i0 hq1) mw_2138 cy_X12_doneBy i0 (by decide) rfl rfl rfl rfl (Nat.le_of_ble_eq_true rfl) (Nat.le_of_ble_eq_true rfl) ⟨Nat.le_refl _, Nat.le_refl _⟩ ?_
  cases h
  exact ev_iret dc_X12_seals_10 rfl rfl rfl
theorem dc_X12_seed_0 : Dc miX12_seed 0 (.aload_n 0) 1 1 := ⟨by decide +kernel, rfl⟩
theorem dc_X12_seed_1 : Dc miX12_seed 1 (.iconst 0) 1 2 := ⟨by decide +kernel, rfl⟩
theorem dc_X12_seed_2 : Dc miX12_seed 2 (.putfield 3) 3 5 := ⟨by decide +kernel, rfl⟩
theorem dc_X12_seed_5 : Dc miX12_seed 5 (.aload_n 0) 1 6 := ⟨by decide +kernel, rfl⟩
theorem dc_X12_seed_6 : Dc miX12_seed 6 (.getfield 13) 3 9 := ⟨by decide +kernel, rfl⟩
theorem dc_X12_seed_9 : Dc miX12_seed 9 (.bipush 16) 2 11 := ⟨by decide +kernel, rfl⟩
theorem dc_X12_seed_11 : Dc miX12_seed 11 (.iaload) 1 12 := ⟨by decide +kernel, rfl⟩
theorem dc_X12_seed_12 : Dc miX12_seed 12 (.istore_n 2) 1 13 := ⟨by decide +kernel, rfl⟩
theorem dc_X12_seed_13 : Dc miX12_seed 13 (.aload_n 0) 1 14 := ⟨by decide +kernel, rfl⟩
theorem dc_X12_seed_14 : Dc miX12_seed 14 (.getfield 13) 3 17 := ⟨by decide +kernel, rfl⟩
theorem dc_X12_seed_17 : Dc miX12_seed 17 (.bipush 16) 2 19 := ⟨by decide +kernel, rfl⟩
theorem dc_X12_seed_19 : Dc miX12_seed 19 (.iload_n 1) 1 20 := ⟨by decide +kernel, rfl⟩
theorem dc_X12_seed_20 : Dc miX12_seed 20 (.iastore) 1 21 := ⟨by decide +kernel, rfl⟩
theorem dc_X12_seed_21 : Dc miX12_seed 21 (.iload_n 2) 1 22 := ⟨by decide +kernel, rfl⟩
theorem dc_X12_seed_22 : Dc miX12_seed 22 (.ireturn) 1 23 := ⟨by decide +kernel, rfl⟩
def fX12_seed (N : Nat) (G : pG) (a0 : Nat) (a1 : Int32) (σ : pS) : Option (Int32 × pS) := ck (inB (16 : Int32) (pN G (pR G a0 1))) (ck (inB (16 : Int32) (pN G (pR G a0 1))) (some (gA (putF σ a0 0 (0 : Int32)) (pR G a0 1) (16 : Int32), sA (putF σ a0 0 (0 : Int32)) (pR G a0 1) (16 : Int32) a1)))
set_option maxRecDepth 100000 in
set_option maxHeartbeats 4000000 in
theorem tX12_seed {N : Nat} {G : pG} {SK : Nat → Nat} {a0 : Nat} {a1 : Int32} {σ : pS} {r : Int32 × pS} (hW : WT G) (i0 : Is G a0 11) (h : fX12_seed N G a0 a1 σ = some r) : Dn miX12_seed yX12_seed 1 G SK [.ref a0, .int a1] σ (some (.int r.1)) r.2 := by
  unfold fX12_seed at h
  refine dn_of (lv := [some (.ref a0), some (.int a1), none]) (by decide) rfl rfl (Nat.le_of_ble_eq_true rfl) rfl ?_
  refine ev_aload_n dc_X12_seed_0 rfl ?_
  refine ev_iconst (v := 0) dc_X12_seed_1 (by decide) ?_
  refine ev_putI dc_X12_seed_2 fi_X12_3 rfl i0 ?_
  refine ev_aload_n dc_X12_seed_5 rfl ?_
  refine ev_getR dc_X12_seed_6 fi_X12_13 rfl i0 ?_
  refine ev_bipush (v := 16) dc_X12_seed_9 (by decide) ?_
  refine ev_iald dc_X12_seed_11 (wt hW i0 1 rfl rfl) h (fun h => ?_)
  refine ev_istore_n (lv' := [some (.ref a0), some (.int a1), some (.int (gA (putF σ a0 0 (0 : Int32)) (pR G a0 1) (16 : Int32)))]) dc_X12_seed_12 rfl (by decide) rfl ?_
  refine ev_aload_n dc_X12_seed_13 rfl ?_
  refine ev_getR dc_X12_seed_14 fi_X12_13 rfl i0 ?_
  refine ev_bipush (v := 16) dc_X12_seed_17 (by decide) ?_
  refine ev_iload_n dc_X12_seed_19 rfl ?_
  refine ev_iast dc_X12_seed_20 (wt hW i0 1 rfl rfl) h (fun h => ?_)
  refine ev_iload_n dc_X12_seed_21 rfl ?_
  cases h
  exact ev_iret dc_X12_seed_22 rfl rfl rfl
theorem dc_X12_shared_0 : Dc miX12_shared 0 (.aload_n 0) 1 1 := ⟨by decide +kernel, rfl⟩
theorem dc_X12_shared_1 : Dc miX12_shared 1 (.iconst 0) 1 2 := ⟨by decide +kernel, rfl⟩
theorem dc_X12_shared_2 : Dc miX12_shared 2 (.putfield 3) 3 5 := ⟨by decide +kernel, rfl⟩
theorem dc_X12_shared_5 : Dc miX12_shared 5 (.iconst 0) 1 6 := ⟨by decide +kernel, rfl⟩
theorem dc_X12_shared_6 : Dc miX12_shared 6 (.istore_n 1) 1 7 := ⟨by decide +kernel, rfl⟩
theorem dc_X12_shared_7 : Dc miX12_shared 7 (.iconst 0) 1 8 := ⟨by decide +kernel, rfl⟩
theorem dc_X12_shared_8 : Dc miX12_shared 8 (.istore_n 2) 1 9 := ⟨by decide +kernel, rfl⟩
theorem dc_X12_shared_9 : Dc miX12_shared 9 (.iload_n 2) 1 10 := ⟨by decide +kernel, rfl⟩
theorem dc_X12_shared_10 : Dc miX12_shared 10 (.bipush 6) 2 12 := ⟨by decide +kernel, rfl⟩
theorem dc_X12_shared_12 : Dc miX12_shared 12 (.if_icmp .ge 44) 3 15 := ⟨by decide +kernel, rfl⟩
theorem dc_X12_shared_15 : Dc miX12_shared 15 (.iload_n 1) 1 16 := ⟨by decide +kernel, rfl⟩
theorem dc_X12_shared_16 : Dc miX12_shared 16 (.aload_n 0) 1 17 := ⟨by decide +kernel, rfl⟩
theorem dc_X12_shared_17 : Dc miX12_shared 17 (.invokevirtual 307) 3 20 := ⟨by decide +kernel, rfl⟩
theorem dc_X12_shared_20 : Dc miX12_shared 20 (.ifCond .le 27) 3 23 := ⟨by decide +kernel, rfl⟩
theorem dc_X12_shared_23 : Dc miX12_shared 23 (.aload_n 0) 1 24 := ⟨by decide +kernel, rfl⟩
theorem dc_X12_shared_24 : Dc miX12_shared 24 (.getfield 13) 3 27 := ⟨by decide +kernel, rfl⟩
theorem dc_X12_shared_27 : Dc miX12_shared 27 (.bipush 12) 2 29 := ⟨by decide +kernel, rfl⟩
theorem dc_X12_shared_29 : Dc miX12_shared 29 (.iaload) 1 30 := ⟨by decide +kernel, rfl⟩
theorem dc_X12_shared_30 : Dc miX12_shared 30 (.aload_n 0) 1 31 := ⟨by decide +kernel, rfl⟩
theorem dc_X12_shared_31 : Dc miX12_shared 31 (.iload_n 2) 1 32 := ⟨by decide +kernel, rfl⟩
theorem dc_X12_shared_32 : Dc miX12_shared 32 (.invokevirtual 456) 3 35 := ⟨by decide +kernel, rfl⟩
theorem dc_X12_shared_35 : Dc miX12_shared 35 (.iconst (-1)) 1 36 := ⟨by decide +kernel, rfl⟩
theorem dc_X12_shared_36 : Dc miX12_shared 36 (.ixor) 1 37 := ⟨by decide +kernel, rfl⟩
theorem dc_X12_shared_37 : Dc miX12_shared 37 (.iand) 1 38 := ⟨by decide +kernel, rfl⟩
theorem dc_X12_shared_38 : Dc miX12_shared 38 (.ifCond .ne 9) 3 41 := ⟨by decide +kernel, rfl⟩
theorem dc_X12_shared_41 : Dc miX12_shared 41 (.iconst 1) 1 42 := ⟨by decide +kernel, rfl⟩
theorem dc_X12_shared_42 : Dc miX12_shared 42 (.iload_n 2) 1 43 := ⟨by decide +kernel, rfl⟩
theorem dc_X12_shared_43 : Dc miX12_shared 43 (.ishl) 1 44 := ⟨by decide +kernel, rfl⟩
theorem dc_X12_shared_44 : Dc miX12_shared 44 (.goto 4) 3 47 := ⟨by decide +kernel, rfl⟩
theorem dc_X12_shared_47 : Dc miX12_shared 47 (.iconst 0) 1 48 := ⟨by decide +kernel, rfl⟩
theorem dc_X12_shared_48 : Dc miX12_shared 48 (.ior) 1 49 := ⟨by decide +kernel, rfl⟩
theorem dc_X12_shared_49 : Dc miX12_shared 49 (.istore_n 1) 1 50 := ⟨by decide +kernel, rfl⟩
theorem dc_X12_shared_50 : Dc miX12_shared 50 (.iinc 2 1) 3 53 := ⟨by decide +kernel, rfl⟩
theorem dc_X12_shared_53 : Dc miX12_shared 53 (.goto (-44)) 3 56 := ⟨by decide +kernel, rfl⟩
theorem dc_X12_shared_56 : Dc miX12_shared 56 (.iload_n 1) 1 57 := ⟨by decide +kernel, rfl⟩
theorem dc_X12_shared_57 : Dc miX12_shared 57 (.ireturn) 1 58 := ⟨by decide +kernel, rfl⟩
def fX12_shared_b47 (N : Nat) (G : pG) (k9 : Int32 × Int32 × pS → Option (Int32 × pS)) (a0 : Nat) (x2 : Int32) (y0 : Int32) (σ : pS) : Option (Int32 × pS) := k9 (y0 ||| (0 : Int32), x2 + (1 : Int32), σ)
set_option maxRecDepth 100000 in
set_option maxHeartbeats 4000000 in
theorem tX12_shared_b47 {N : Nat} {G : pG} {SK : Nat → Nat} {k9 : Int32 × Int32 × pS → Option (Int32 × pS)} {a0 : Nat} {x2 : Int32} {y0 : Int32} {σ : pS} {r : Int32 × pS} (hW : WT G) (i0 : Is G a0 11) (hk9 : ∀ b : Int32 × Int32 × pS, k9 b = some r → Ev miX12_shared (3, 0, 0) G (Zp G (some (.int r.1)) r.2) SK (0, 0) 9 [some (.ref a0), some (.int b.1), some (.int b.2.1)] [] b.2.2) (h : fX12_shared_b47 N G k9 a0 x2 y0 σ = some r) : Ev miX12_shared (3, 0, 0) G (Zp G (some (.int r.1)) r.2) SK (0, 0) 47 [some (.ref a0), none, some (.int x2)] [.int y0] σ := by
  unfold fX12_shared_b47 at h
  refine ev_iconst (v := 0) dc_X12_shared_47 (by decide) ?_
  refine ev_ior dc_X12_shared_48 ?_
  refine ev_istore_n (lv' := [some (.ref a0), some (.int (y0 ||| (0 : Int32))), some (.int x2)]) dc_X12_shared_49 rfl (by decide) rfl ?_
  refine ev_iinc (v := 1) (lv' := [some (.ref a0), some (.int (y0 ||| (0 : Int32))), some (.int (x2 + (1 : Int32)))]) dc_X12_shared_50 rfl (by decide) rfl (by decide) rfl ?_
  refine ev_goto (tgt := 9) dc_X12_shared_53 (by decide) ?_
  exact ev_sub (hk9 (y0 ||| (0 : Int32), x2 + (1 : Int32), σ) h) (And.intro rfl (And.intro rfl (And.intro rfl trivial)))
def fX12_shared_b9 (N : Nat) (G : pG) (a0 : Nat) : (Int32 × Int32 × pS) → Option (Int32 × pS) := lp (fun (k9 : Int32 × Int32 × pS → Option (Int32 × pS)) (b : Int32 × Int32 × pS) => if (6 : Int32) ≤ b.2.1 then (some (b.1, b.2.2)) else ((fX12_howMany N G a0 b.2.2).bind (fun q1 => if q1 ≤ 0 then (fX12_shared_b47 N G k9 a0 b.2.1 b.1 b.2.2) else (ck (inB (12 : Int32) (pN G (pR G a0 1))) ((fX12_whoHave N G a0 b.2.1 b.2.2).bind (fun q2 => if ((gA b.2.2 (pR G a0 1) (12 : Int32)) &&& (q2 ^^^ (-1 : Int32))) = 0 then (k9 (b.1 ||| ((1 : Int32) <<< (b.2.1 &&& 31)), b.2.1 + (1 : Int32), b.2.2)) else (fX12_shared_b47 N G k9 a0 b.2.1 b.1 b.2.2))))))) N
set_option maxRecDepth 100000 in
set_option maxHeartbeats 4000000 in
theorem tX12_shared_b9 {N : Nat} {G : pG} {SK : Nat → Nat} {a0 : Nat} {b : Int32 × Int32 × pS} {r : Int32 × pS} (hW : WT G) (i0 : Is G a0 11) (h : fX12_shared_b9 N G a0 b = some r) : Ev miX12_shared (3, 0, 0) G (Zp G (some (.int r.1)) r.2) SK (0, 0) 9 [some (.ref a0), some (.int b.1), some (.int b.2.1)] [] b.2.2 := by
  unfold fX12_shared_b9 at h
  refine lp_ind (P := fun b r9 => r9 = r → Ev miX12_shared (3, 0, 0) G (Zp G (some (.int r.1)) r.2) SK (0, 0) 9 [some (.ref a0), some (.int b.1), some (.int b.2.1)] [] b.2.2) (fun k9 b r9 ih h9 e9 => ?_) N b r h rfl
  clear h
  subst e9
  have h := h9
  clear h9
  have hk9 : ∀ b : Int32 × Int32 × pS, k9 b = some r9 → Ev miX12_shared (3, 0, 0) G (Zp G (some (.int r9.1)) r9.2) SK (0, 0) 9 [some (.ref a0), some (.int b.1), some (.int b.2.1)] [] b.2.2 := fun b hb => ih b r9 hb rfl
  clear ih
  obtain ⟨x1, x2, σ⟩ := b
  dsimp only at h ⊢
  refine ev_iload_n dc_X12_shared_9 rfl ?_
  refine ev_bipush (v := 6) dc_X12_shared_10 (by decide) ?_
  refine ev_icmp_ge (tgt := 56) dc_X12_shared_12 (by decide) h (fun h => ?_) (fun h => ?_)
  · refine ev_iload_n dc_X12_shared_56 rfl ?_
    cases h
    exact ev_iret dc_X12_shared_57 rfl rfl rfl
  · refine ev_iload_n dc_X12_shared_15 rfl ?_
    refine ev_aload_n dc_X12_shared_16 rfl ?_
    obtain ⟨q1, hq1, h⟩ := Option.bind_eq_some_iff.mp h
    refine ev_callV (av := []) (st := [.int x1]) (st1 := [.int q1, .int x1]) dc_X12_shared_17 (tX12_howMany hW i0 hq1) mw_1808 cy_X12_howMany i0 (by decide) rfl rfl rfl rfl (Nat.le_of_ble_eq_true rfl) (Nat.le_of_ble_eq_true rfl) ⟨Nat.le_refl _, Nat.le_refl _⟩ ?_
    refine ev_if_le (tgt := 47) dc_X12_shared_20 (by decide) h (fun h => ?_) (fun h => ?_)
    · exact ev_sub (tX12_shared_b47 hW i0 hk9 h) (And.intro rfl (And.intro rfl trivial))
    · refine ev_aload_n dc_X12_shared_23 rfl ?_
      refine ev_getR dc_X12_shared_24 fi_X12_13 rfl i0 ?_
      refine ev_bipush (v := 12) dc_X12_shared_27 (by decide) ?_
      refine ev_iald dc_X12_shared_29 (wt hW i0 1 rfl rfl) h (fun h => ?_)
      refine ev_aload_n dc_X12_shared_30 rfl ?_
      refine ev_iload_n dc_X12_shared_31 rfl ?_
      obtain ⟨q2, hq2, h⟩ := Option.bind_eq_some_iff.mp h
      refine ev_callV (av := [.int x2]) (st := [.int (gA σ (pR G a0 1) (12 : Int32)), .int x1]) (st1 := [.int q2, .int (gA σ (pR G a0 1) (12 : Int32)), .int x1]) dc_X12_shared_32 (tX12_whoHave hW i0 hq2) mw_2090 cy_X12_whoHave i0 (by decide) rfl rfl rfl rfl (Nat.le_of_ble_eq_true rfl) (Nat.le_of_ble_eq_true rfl) ⟨Nat.le_refl _, Nat.le_refl _⟩ ?_
      refine ev_iconst (v := (-1)) dc_X12_shared_35 (by decide) ?_
      refine ev_ixor dc_X12_shared_36 ?_
      refine ev_iand dc_X12_shared_37 ?_
      refine ev_if_ne (tgt := 47) dc_X12_shared_38 (by decide) h (fun h => ?_) (fun h => ?_)
      · refine ev_iconst (v := 1) dc_X12_shared_41 (by decide) ?_
        refine ev_iload_n dc_X12_shared_42 rfl ?_
        refine ev_ishl dc_X12_shared_43 ?_
        refine ev_goto (tgt := 48) dc_X12_shared_44 (by decide) ?_
        refine ev_ior dc_X12_shared_48 ?_
        refine ev_istore_n (lv' := [some (.ref a0), some (.int (x1 ||| ((1 : Int32) <<< (x2 &&& 31)))), some (.int x2)]) dc_X12_shared_49 rfl (by decide) rfl ?_
        refine ev_iinc (v := 1) (lv' := [some (.ref a0), some (.int (x1 ||| ((1 : Int32) <<< (x2 &&& 31)))), some (.int (x2 + (1 : Int32)))]) dc_X12_shared_50 rfl (by decide) rfl (by decide) rfl ?_
        refine ev_goto (tgt := 9) dc_X12_shared_53 (by decide) ?_
        exact ev_sub (hk9 (x1 ||| ((1 : Int32) <<< (x2 &&& 31)), x2 + (1 : Int32), σ) h) (And.intro rfl (And.intro rfl (And.intro rfl trivial)))
      · exact ev_sub (tX12_shared_b47 hW i0 hk9 h) (And.intro rfl (And.intro rfl trivial))
def fX12_shared (N : Nat) (G : pG) (a0 : Nat) (σ : pS) : Option (Int32 × pS) := fX12_shared_b9 N G a0 ((0 : Int32), (0 : Int32), putF σ a0 0 (0 : Int32))
set_option maxRecDepth 100000 in
set_option maxHeartbeats 4000000 in
theorem tX12_shared {N : Nat} {G : pG} {SK : Nat → Nat} {a0 : Nat} {σ : pS} {r : Int32 × pS} (hW : WT G) (i0 : Is G a0 11) (h : fX12_shared N G a0 σ = some r) : Dn miX12_shared yX12_shared 3 G SK [.ref a0] σ (some (.int r.1)) r.2 := by
  unfold fX12_shared at h
  refine dn_of (lv := [some (.ref a0), none, none]) (by decide) rfl rfl (Nat.le_of_ble_eq_true rfl) rfl ?_
  refine ev_aload_n dc_X12_shared_0 rfl ?_
  refine ev_iconst (v := 0) dc_X12_shared_1 (by decide) ?_
  refine ev_putI dc_X12_shared_2 fi_X12_3 rfl i0 ?_
  refine ev_iconst (v := 0) dc_X12_shared_5 (by decide) ?_
  refine ev_istore_n (lv' := [some (.ref a0), some (.int (0 : Int32)), none]) dc_X12_shared_6 rfl (by decide) rfl ?_
  refine ev_iconst (v := 0) dc_X12_shared_7 (by decide) ?_
  refine ev_istore_n (lv' := [some (.ref a0), some (.int (0 : Int32)), some (.int (0 : Int32))]) dc_X12_shared_8 rfl (by decide) rfl ?_
  exact ev_sub (tX12_shared_b9 (b := ((0 : Int32), (0 : Int32), putF σ a0 0 (0 : Int32))) hW i0 h) (And.intro rfl (And.intro rfl (And.intro rfl trivial)))
theorem dc_X12_sharpest_0 : Dc miX12_sharpest 0 (.aload_n 0) 1 1 := ⟨by decide +kernel, rfl⟩
theorem dc_X12_sharpest_1 : Dc miX12_sharpest 1 (.iconst 0) 1 2 := ⟨by decide +kernel, rfl⟩
theorem dc_X12_sharpest_2 : Dc miX12_sharpest 2 (.putfield 3) 3 5 := ⟨by decide +kernel, rfl⟩
theorem dc_X12_sharpest_5 : Dc miX12_sharpest 5 (.aload_n 0) 1 6 := ⟨by decide +kernel, rfl⟩
theorem dc_X12_sharpest_6 : Dc miX12_sharpest 6 (.aload_n 0) 1 7 := ⟨by decide +kernel, rfl⟩
theorem dc_X12_sharpest_7 : Dc miX12_sharpest 7 (.iload_n 1) 1 8 := ⟨by decide +kernel, rfl⟩
theorem dc_X12_sharpest_8 : Dc miX12_sharpest 8 (.invokevirtual 343) 3 11 := ⟨by decide +kernel, rfl⟩
theorem dc_X12_sharpest_11 : Dc miX12_sharpest 11 (.iconst 1) 1 12 := ⟨by decide +kernel, rfl⟩
theorem dc_X12_sharpest_12 : Dc miX12_sharpest 12 (.invokevirtual 274) 3 15 := ⟨by decide +kernel, rfl⟩
theorem dc_X12_sharpest_15 : Dc miX12_sharpest 15 (.ifCond .eq 5) 3 18 := ⟨by decide +kernel, rfl⟩
theorem dc_X12_sharpest_18 : Dc miX12_sharpest 18 (.iconst 0) 1 19 := ⟨by decide +kernel, rfl⟩
theorem dc_X12_sharpest_19 : Dc miX12_sharpest 19 (.ireturn) 1 20 := ⟨by decide +kernel, rfl⟩
theorem dc_X12_sharpest_20 : Dc miX12_sharpest 20 (.aload_n 0) 1 21 := ⟨by decide +kernel, rfl⟩
theorem dc_X12_sharpest_21 : Dc miX12_sharpest 21 (.invokevirtual 349) 3 24 := ⟨by decide +kernel, rfl⟩
theorem dc_X12_sharpest_24 : Dc miX12_sharpest 24 (.iconst (-1)) 1 25 := ⟨by decide +kernel, rfl⟩
theorem dc_X12_sharpest_25 : Dc miX12_sharpest 25 (.istore_n 2) 1 26 := ⟨by decide +kernel, rfl⟩
theorem dc_X12_sharpest_26 : Dc miX12_sharpest 26 (.iconst (-1)) 1 27 := ⟨by decide +kernel, rfl⟩
theorem dc_X12_sharpest_27 : Dc miX12_sharpest 27 (.istore_n 3) 1 28 := ⟨by decide +kernel, rfl⟩
theorem dc_X12_sharpest_28 : Dc miX12_sharpest 28 (.iconst 0) 1 29 := ⟨by decide +kernel, rfl⟩
theorem dc_X12_sharpest_29 : Dc miX12_sharpest 29 (.istore 4) 2 31 := ⟨by decide +kernel, rfl⟩
theorem dc_X12_sharpest_31 : Dc miX12_sharpest 31 (.iload 4) 2 33 := ⟨by decide +kernel, rfl⟩
theorem dc_X12_sharpest_33 : Dc miX12_sharpest 33 (.aload_n 0) 1 34 := ⟨by decide +kernel, rfl⟩
theorem dc_X12_sharpest_34 : Dc miX12_sharpest 34 (.invokevirtual 77) 3 37 := ⟨by decide +kernel, rfl⟩
theorem dc_X12_sharpest_37 : Dc miX12_sharpest 37 (.if_icmp .ge 38) 3 40 := ⟨by decide +kernel, rfl⟩
theorem dc_X12_sharpest_40 : Dc miX12_sharpest 40 (.aload_n 0) 1 41 := ⟨by decide +kernel, rfl⟩
theorem dc_X12_sharpest_41 : Dc miX12_sharpest 41 (.iload_n 1) 1 42 := ⟨by decide +kernel, rfl⟩
theorem dc_X12_sharpest_42 : Dc miX12_sharpest 42 (.iload 4) 2 44 := ⟨by decide +kernel, rfl⟩
theorem dc_X12_sharpest_44 : Dc miX12_sharpest 44 (.invokevirtual 331) 3 47 := ⟨by decide +kernel, rfl⟩
theorem dc_X12_sharpest_47 : Dc miX12_sharpest 47 (.istore 5) 2 49 := ⟨by decide +kernel, rfl⟩
theorem dc_X12_sharpest_49 : Dc miX12_sharpest 49 (.iload 5) 2 51 := ⟨by decide +kernel, rfl⟩
theorem dc_X12_sharpest_51 : Dc miX12_sharpest 51 (.iload_n 3) 1 52 := ⟨by decide +kernel, rfl⟩
theorem dc_X12_sharpest_52 : Dc miX12_sharpest 52 (.if_icmp .le 8) 3 55 := ⟨by decide +kernel, rfl⟩
theorem dc_X12_sharpest_55 : Dc miX12_sharpest 55 (.iload 4) 2 57 := ⟨by decide +kernel, rfl⟩
theorem dc_X12_sharpest_57 : Dc miX12_sharpest 57 (.goto 4) 3 60 := ⟨by decide +kernel, rfl⟩
theorem dc_X12_sharpest_60 : Dc miX12_sharpest 60 (.iload_n 2) 1 61 := ⟨by decide +kernel, rfl⟩
theorem dc_X12_sharpest_61 : Dc miX12_sharpest 61 (.istore_n 2) 1 62 := ⟨by decide +kernel, rfl⟩
theorem dc_X12_sharpest_62 : Dc miX12_sharpest 62 (.iload_n 3) 1 63 := ⟨by decide +kernel, rfl⟩
theorem dc_X12_sharpest_63 : Dc miX12_sharpest 63 (.iload 5) 2 65 := ⟨by decide +kernel, rfl⟩
theorem dc_X12_sharpest_65 : Dc miX12_sharpest 65 (.invokestatic 323) 3 68 := ⟨by decide +kernel, rfl⟩
theorem dc_X12_sharpest_68 : Dc miX12_sharpest 68 (.istore_n 3) 1 69 := ⟨by decide +kernel, rfl⟩
theorem dc_X12_sharpest_69 : Dc miX12_sharpest 69 (.iinc 4 1) 3 72 := ⟨by decide +kernel, rfl⟩
theorem dc_X12_sharpest_72 : Dc miX12_sharpest 72 (.goto (-41)) 3 75 := ⟨by decide +kernel, rfl⟩
theorem dc_X12_sharpest_75 : Dc miX12_sharpest 75 (.iload_n 2) 1 76 := ⟨by decide +kernel, rfl⟩
theorem dc_X12_sharpest_76 : Dc miX12_sharpest 76 (.ireturn) 1 77 := ⟨by decide +kernel, rfl⟩
def fX12_sharpest_b61 (N : Nat) (G : pG) (k31 : Int32 × Int32 × Int32 × pS → Option (Int32 × pS)) (a0 : Nat) (a1 : Int32) (x3 : Int32) (x4 : Int32) (x5 : Int32) (y0 : Int32) (σ : pS) : Option (Int32 × pS) := k31 (y0, jmax x3 x5, x4 + (1 : Int32), σ)
set_option maxRecDepth 100000 in
set_option maxHeartbeats 4000000 in
theorem tX12_sharpest_b61 {N : Nat} {G : pG} {SK : Nat → Nat} {k31 : Int32 × Int32 × Int32 × pS → Option (Int32 × pS)} {a0 : Nat} {a1 : Int32} {x3 : Int32} {x4 : Int32} {x5 : Int32} {y0 : Int32} {σ : pS} {r : Int32 × pS} (hW : WT G) (i0 : Is G a0 11) (hk31 : ∀ b : Int32 × Int32 × Int32 × pS, k31 b = some r → Ev miX12_sharpest (5, 0, 0) G (Zp G (some (.int r.1)) r.2) SK (0, 0) 31 [some (.ref a0), some (.int a1), some (.int b.1), some (.int b.2.1), some (.int b.2.2.1), none] [] b.2.2.2) (h : fX12_sharpest_b61 N G k31 a0 a1 x3 x4 x5 y0 σ = some r) : Ev miX12_sharpest (5, 0, 0) G (Zp G (some (.int r.1)) r.2) SK (0, 0) 61 [some (.ref a0), some (.int a1), none, some (.int x3), some (.int x4), some (.int x5)] [.int y0] σ := by
  unfold fX12_sharpest_b61 at h
  refine ev_istore_n (lv' := [some (.ref a0), some (.int a1), some (.int y0), some (.int x3), some (.int x4), some (.int x5)]) dc_X12_sharpest_61 rfl (by decide) rfl ?_
  refine ev_iload_n dc_X12_sharpest_62 rfl ?_
  refine ev_iload dc_X12_sharpest_63 rfl ?_
  refine ev_max dc_X12_sharpest_65 mw_1844 (Nat.le_of_ble_eq_true rfl) (Nat.le_of_ble_eq_true rfl) ⟨Nat.le_refl _, Nat.le_refl _⟩ ?_
  refine ev_istore_n (lv' := [some (.ref a0), some (.int a1), some (.int y0), some (.int (jmax x3 x5)), some (.int x4), some (.int x5)]) dc_X12_sharpest_68 rfl (by decide) rfl ?_
  refine ev_iinc (v := 1) (lv' := [some (.ref a0), some (.int a1), some (.int y0), some (.int (jmax x3 x5)), some (.int (x4 + (1 : Int32))), some (.int x5)]) dc_X12_sharpest_69 rfl (by decide) rfl (by decide) rfl ?_
  refine ev_goto (tgt := 31) dc_X12_sharpest_72 (by decide) ?_
  exact ev_sub (hk31 (y0, jmax x3 x5, x4 + (1 : Int32), σ) h) (And.intro rfl (And.intro rfl (And.intro rfl (And.intro rfl (And.intro rfl trivial)))))
def fX12_sharpest_b31 (N : Nat) (G : pG) (a0 : Nat) (a1 : Int32) : (Int32 × Int32 × Int32 × pS) → Option (Int32 × pS) := lp (fun (k31 : Int32 × Int32 × Int32 × pS → Option (Int32 × pS)) (b : Int32 × Int32 × Int32 × pS) => (fX12_words N G a0 b.2.2.2).bind (fun q1 => if q1 ≤ b.2.2.1 then (some (b.1, b.2.2.2)) else ((fX12_stingsBy N G a0 a1 b.2.2.1 b.2.2.2).bind (fun q2 => if q2.1 ≤ b.2.1 then (fX12_sharpest_b61 N G k31 a0 a1 b.2.1 b.2.2.1 q2.1 b.1 q2.2) else (fX12_sharpest_b61 N G k31 a0 a1 b.2.1 b.2.2.1 q2.1 b.2.2.1 q2.2))))) N
set_option maxRecDepth 100000 in
set_option maxHeartbeats 4000000 in
theorem tX12_sharpest_b31 {N : Nat} {G : pG} {SK : Nat → Nat} {a0 : Nat} {a1 : Int32} {b : Int32 × Int32 × Int32 × pS} {r : Int32 × pS} (hW : WT G) (i0 : Is G a0 11) (h : fX12_sharpest_b31 N G a0 a1 b = some r) : Ev miX12_sharpest (5, 0, 0) G (Zp G (some (.int r.1)) r.2) SK (0, 0) 31 [some (.ref a0), some (.int a1), some (.int b.1), some (.int b.2.1), some (.int b.2.2.1), none] [] b.2.2.2 := by
  unfold fX12_sharpest_b31 at h
  refine lp_ind (P := fun b r9 => r9 = r → Ev miX12_sharpest (5, 0, 0) G (Zp G (some (.int r.1)) r.2) SK (0, 0) 31 [some (.ref a0), some (.int a1), some (.int b.1), some (.int b.2.1), some (.int b.2.2.1), none] [] b.2.2.2) (fun k31 b r9 ih h9 e9 => ?_) N b r h rfl
  clear h
  subst e9
  have h := h9
  clear h9
  have hk31 : ∀ b : Int32 × Int32 × Int32 × pS, k31 b = some r9 → Ev miX12_sharpest (5, 0, 0) G (Zp G (some (.int r9.1)) r9.2) SK (0, 0) 31 [some (.ref a0), some (.int a1), some (.int b.1), some (.int b.2.1), some (.int b.2.2.1), none] [] b.2.2.2 := fun b hb => ih b r9 hb rfl
  clear ih
  obtain ⟨x2, x3, x4, σ⟩ := b
  dsimp only at h ⊢
  refine ev_iload dc_X12_sharpest_31 rfl ?_
  refine ev_aload_n dc_X12_sharpest_33 rfl ?_
  obtain ⟨q1, hq1, h⟩ := Option.bind_eq_some_iff.mp h
  refine ev_callV (av := []) (st := [.int x4]) (st1 := [.int q1, .int x4]) dc_X12_sharpest_34 (tX12_words hW i0 hq1) mw_1676 cy_X12_words i0 (by decide) rfl rfl rfl rfl (Nat.le_of_ble_eq_true rfl) (Nat.le_of_ble_eq_true rfl) ⟨Nat.le_refl _, Nat.le_refl _⟩ ?_
  refine ev_icmp_ge (tgt := 75) dc_X12_sharpest_37 (by decide) h (fun h => ?_) (fun h => ?_)
  · refine ev_iload_n dc_X12_sharpest_75 rfl ?_
    cases h
    exact ev_iret dc_X12_sharpest_76 rfl rfl rfl
  · refine ev_aload_n dc_X12_sharpest_40 rfl ?_
    refine ev_iload_n dc_X12_sharpest_41 rfl ?_
    refine ev_iload dc_X12_sharpest_42 rfl ?_
    obtain ⟨q2, hq2, h⟩ := Option.bind_eq_some_iff.mp h
    refine ev_callV (av := [.int a1, .int x4]) (st := []) (st1 := [.int q2.1]) dc_X12_sharpest_44 (tX12_stingsBy hW i0 hq2) mw_1816 cy_X12_stingsBy i0 (by decide) rfl rfl rfl rfl (Nat.le_of_ble_eq_true rfl) (Nat.le_of_ble_eq_true rfl) ⟨Nat.le_refl _, Nat.le_refl _⟩ ?_
    refine ev_istore (lv' := [some (.ref a0), some (.int a1), some (.int x2), some (.int x3), some (.int x4), some (.int q2.1)]) dc_X12_sharpest_47 rfl (by decide) rfl ?_
    refine ev_iload dc_X12_sharpest_49 rfl ?_
    refine ev_iload_n dc_X12_sharpest_51 rfl ?_
    refine ev_icmp_le (tgt := 60) dc_X12_sharpest_52 (by decide) h (fun h => ?_) (fun h => ?_)
    · refine ev_iload_n dc_X12_sharpest_60 rfl ?_
      exact ev_sub (tX12_sharpest_b61 hW i0 hk31 h) (And.intro rfl (And.intro rfl (And.intro rfl (And.intro rfl (And.intro rfl trivial)))))
    · refine ev_iload dc_X12_sharpest_55 rfl ?_
      refine ev_goto (tgt := 61) dc_X12_sharpest_57 (by decide) ?_
      exact ev_sub (tX12_sharpest_b61 hW i0 hk31 h) (And.intro rfl (And.intro rfl (And.intro rfl (And.intro rfl (And.intro rfl trivial)))))
def fX12_sharpest (N : Nat) (G : pG) (a0 : Nat) (a1 : Int32) (σ : pS) : Option (Int32 × pS) := (fX12_noWho N G a0 a1 (putF σ a0 0 (0 : Int32))).bind (fun q3 => (fX12_throwsIf N G a0 q3 (1 : Int32) (putF σ a0 0 (0 : Int32))).bind (fun q4 => if q4.1 = 0 then ((fX12_looksNow N G a0 q4.2).bind (fun q5 => fX12_sharpest_b31 N G a0 a1 ((-1 : Int32), (-1 : Int32), (0 : Int32), q5))) else (some ((0 : Int32), q4.2))))
set_option maxRecDepth 100000 in
set_option maxHeartbeats 4000000 in
theorem tX12_sharpest {N : Nat} {G : pG} {SK : Nat → Nat} {a0 : Nat} {a1 : Int32} {σ : pS} {r : Int32 × pS} (hW : WT G) (i0 : Is G a0 11) (h : fX12_sharpest N G a0 a1 σ = some r) : Dn miX12_sharpest yX12_sharpest 5 G SK [.ref a0, .int a1] σ (some (.int r.1)) r.2 := by
  unfold fX12_sharpest at h
  refine dn_of (lv := [some (.ref a0), some (.int a1), none, none, none, none]) (by decide) rfl rfl (Nat.le_of_ble_eq_true rfl) rfl ?_
  refine ev_aload_n dc_X12_sharpest_0 rfl ?_
  refine ev_iconst (v := 0) dc_X12_sharpest_1 (by decide) ?_
  refine ev_putI dc_X12_sharpest_2 fi_X12_3 rfl i0 ?_
  refine ev_aload_n dc_X12_sharpest_5 rfl ?_
  refine ev_aload_n dc_X12_sharpest_6 rfl ?_
  refine ev_iload_n dc_X12_sharpest_7 rfl ?_
  obtain ⟨q3, hq3, h⟩ := Option.bind_eq_some_iff.mp h
  refine ev_callV (av := [.int a1]) (st := [.ref a0]) (st1 := [.int q3, .ref a0]) dc_X12_sharpest_8 (tX12_noWho hW i0 hq3) mw_1796 cy_X12_noWho i0 (by decide) rfl rfl rfl rfl (Nat.le_of_ble_eq_true rfl) (Nat.le_of_ble_eq_true rfl) ⟨Nat.le_refl _, Nat.le_refl _⟩ ?_
  refine ev_iconst (v := 1) dc_X12_sharpest_11 (by decide) ?_
  obtain ⟨q4, hq4, h⟩ := Option.bind_eq_some_iff.mp h
  refine ev_callV (av := [.int q3, .int (1 : Int32)]) (st := []) (st1 := [.int q4.1]) dc_X12_sharpest_12 (tX12_throwsIf hW i0 hq4) mw_1784 cy_X12_throwsIf i0 (by decide) rfl rfl rfl rfl (Nat.le_of_ble_eq_true rfl) (Nat.le_of_ble_eq_true rfl) ⟨Nat.le_refl _, Nat.le_refl _⟩ ?_
  refine ev_if_eq (tgt := 20) dc_X12_sharpest_15 (by decide) h (fun h => ?_) (fun h => ?_)
  · refine ev_aload_n dc_X12_sharpest_20 rfl ?_
    obtain ⟨q5, hq5, h⟩ := Option.bind_eq_some_iff.mp h
    refine ev_callV (av := []) (st := []) (st1 := []) dc_X12_sharpest_21 (tX12_looksNow hW i0 hq5) mw_1804 cy_X12_looksNow i0 (by decide) rfl rfl rfl rfl (Nat.le_of_ble_eq_true rfl) (Nat.le_of_ble_eq_true rfl) ⟨Nat.le_refl _, Nat.le_refl _⟩ ?_
    refine ev_iconst (v := (-1)) dc_X12_sharpest_24 (by decide) ?_
    refine ev_istore_n (lv' := [some (.ref a0), some (.int a1), some (.int (-1 : Int32)), none, none, none]) dc_X12_sharpest_25 rfl (by decide) rfl ?_
    refine ev_iconst (v := (-1)) dc_X12_sharpest_26 (by decide) ?_
    refine ev_istore_n (lv' := [some (.ref a0), some (.int a1), some (.int (-1 : Int32)), some (.int (-1 : Int32)), none, none]) dc_X12_sharpest_27 rfl (by decide) rfl ?_
    refine ev_iconst (v := 0) dc_X12_sharpest_28 (by decide) ?_
    refine ev_istore (lv' := [some (.ref a0), some (.int a1), some (.int (-1 : Int32)), some (.int (-1 : Int32)), some (.int (0 : Int32)), none]) dc_X12_sharpest_29 rfl (by decide) rfl ?_
    exact ev_sub (tX12_sharpest_b31 (b := ((-1 : Int32), (-1 : Int32), (0 : Int32), q5)) hW i0 h) (And.intro rfl (And.intro rfl (And.intro rfl (And.intro rfl (And.intro rfl trivial)))))
  · refine ev_iconst (v := 0) dc_X12_sharpest_18 (by decide) ?_
    cases h
    exact ev_iret dc_X12_sharpest_19 rfl rfl rfl
theorem dc_X12_siege_0 : Dc miX12_siege 0 (.aload_n 0) 1 1 := ⟨by decide +kernel, rfl⟩
theorem dc_X12_siege_1 : Dc miX12_siege 1 (.iconst 0) 1 2 := ⟨by decide +kernel, rfl⟩
theorem dc_X12_siege_2 : Dc miX12_siege 2 (.putfield 3) 3 5 := ⟨by decide +kernel, rfl⟩
theorem dc_X12_siege_5 : Dc miX12_siege 5 (.aload_n 0) 1 6 := ⟨by decide +kernel, rfl⟩
theorem dc_X12_siege_6 : Dc miX12_siege 6 (.iload_n 1) 1 7 := ⟨by decide +kernel, rfl⟩
theorem dc_X12_siege_7 : Dc miX12_siege 7 (.invokestatic 435) 3 10 := ⟨by decide +kernel, rfl⟩
theorem dc_X12_siege_10 : Dc miX12_siege 10 (.iconst 1) 1 11 := ⟨by decide +kernel, rfl⟩
theorem dc_X12_siege_11 : Dc miX12_siege 11 (.invokevirtual 274) 3 14 := ⟨by decide +kernel, rfl⟩
theorem dc_X12_siege_14 : Dc miX12_siege 14 (.ifCond .eq 5) 3 17 := ⟨by decide +kernel, rfl⟩
theorem dc_X12_siege_17 : Dc miX12_siege 17 (.iconst 0) 1 18 := ⟨by decide +kernel, rfl⟩
theorem dc_X12_siege_18 : Dc miX12_siege 18 (.ireturn) 1 19 := ⟨by decide +kernel, rfl⟩
theorem dc_X12_siege_19 : Dc miX12_siege 19 (.aload_n 0) 1 20 := ⟨by decide +kernel, rfl⟩
theorem dc_X12_siege_20 : Dc miX12_siege 20 (.iload_n 1) 1 21 := ⟨by decide +kernel, rfl⟩
theorem dc_X12_siege_21 : Dc miX12_siege 21 (.invokevirtual 438) 3 24 := ⟨by decide +kernel, rfl⟩
theorem dc_X12_siege_24 : Dc miX12_siege 24 (.istore_n 2) 1 25 := ⟨by decide +kernel, rfl⟩
theorem dc_X12_siege_25 : Dc miX12_siege 25 (.iload_n 2) 1 26 := ⟨by decide +kernel, rfl⟩
theorem dc_X12_siege_26 : Dc miX12_siege 26 (.ldc_w 418) 3 29 := ⟨by decide +kernel, rfl⟩
theorem dc_X12_siege_29 : Dc miX12_siege 29 (.if_icmp .lt 7) 3 32 := ⟨by decide +kernel, rfl⟩
theorem dc_X12_siege_32 : Dc miX12_siege 32 (.iconst (-1)) 1 33 := ⟨by decide +kernel, rfl⟩
theorem dc_X12_siege_33 : Dc miX12_siege 33 (.goto 4) 3 36 := ⟨by decide +kernel, rfl⟩
theorem dc_X12_siege_36 : Dc miX12_siege 36 (.iload_n 2) 1 37 := ⟨by decide +kernel, rfl⟩
theorem dc_X12_siege_37 : Dc miX12_siege 37 (.ireturn) 1 38 := ⟨by decide +kernel, rfl⟩
def fX12_siege (N : Nat) (G : pG) (a0 : Nat) (a1 : Int32) (σ : pS) : Option (Int32 × pS) := (fX12_noSiege N G a1 (putF σ a0 0 (0 : Int32))).bind (fun q1 => (fX12_throwsIf N G a0 q1 (1 : Int32) (putF σ a0 0 (0 : Int32))).bind (fun q2 => if q2.1 = 0 then ((fX12_siegeOf N G a0 a1 q2.2).bind (fun q3 => if q3.1 < (1000000 : Int32) then (some (q3.1, q3.2)) else (some ((-1 : Int32), q3.2)))) else (some ((0 : Int32), q2.2))))
set_option maxRecDepth 100000 in
set_option maxHeartbeats 4000000 in
theorem tX12_siege {N : Nat} {G : pG} {SK : Nat → Nat} {a0 : Nat} {a1 : Int32} {σ : pS} {r : Int32 × pS} (hW : WT G) (i0 : Is G a0 11) (h : fX12_siege N G a0 a1 σ = some r) : Dn miX12_siege yX12_siege 11 G SK [.ref a0, .int a1] σ (some (.int r.1)) r.2 := by
  unfold fX12_siege at h
  refine dn_of (lv := [some (.ref a0), some (.int a1), none]) (by decide) rfl rfl (Nat.le_of_ble_eq_true rfl) rfl ?_
  refine ev_aload_n dc_X12_siege_0 rfl ?_
  refine ev_iconst (v := 0) dc_X12_siege_1 (by decide) ?_
  refine ev_putI dc_X12_siege_2 fi_X12_3 rfl i0 ?_
  refine ev_aload_n dc_X12_siege_5 rfl ?_
  refine ev_iload_n dc_X12_siege_6 rfl ?_
  obtain ⟨q1, hq1, h⟩ := Option.bind_eq_some_iff.mp h
  refine ev_callS (av := [.int a1]) (st := [.ref a0]) (st1 := [.int q1, .ref a0]) dc_X12_siege_7 (tX12_noSiege hW hq1) mw_2018 cs_X12_noSiege rfl rfl rfl (Nat.le_of_ble_eq_true rfl) (Nat.le_of_ble_eq_true rfl) ⟨Nat.le_refl _, Nat.le_refl _⟩ ?_
  refine ev_iconst (v := 1) dc_X12_siege_10 (by decide) ?_
  obtain ⟨q2, hq2, h⟩ := Option.bind_eq_some_iff.mp h
  refine ev_callV (av := [.int q1, .int (1 : Int32)]) (st := []) (st1 := [.int q2.1]) dc_X12_siege_11 (tX12_throwsIf hW i0 hq2) mw_1784 cy_X12_throwsIf i0 (by decide) rfl rfl rfl rfl (Nat.le_of_ble_eq_true rfl) (Nat.le_of_ble_eq_true rfl) ⟨Nat.le_refl _, Nat.le_refl _⟩ ?_
  refine ev_if_eq (tgt := 19) dc_X12_siege_14 (by decide) h (fun h => ?_) (fun h => ?_)
  · refine ev_aload_n dc_X12_siege_19 rfl ?_
    refine ev_iload_n dc_X12_siege_20 rfl ?_
    obtain ⟨q3, hq3, h⟩ := Option.bind_eq_some_iff.mp h
    refine ev_callV (av := [.int a1]) (st := []) (st1 := [.int q3.1]) dc_X12_siege_21 (tX12_siegeOf hW i0 hq3) mw_2021 cy_X12_siegeOf i0 (by decide) rfl rfl rfl rfl (Nat.le_of_ble_eq_true rfl) (Nat.le_of_ble_eq_true rfl) ⟨Nat.le_refl _, Nat.le_refl _⟩ ?_
    refine ev_istore_n (lv' := [some (.ref a0), some (.int a1), some (.int q3.1)]) dc_X12_siege_24 rfl (by decide) rfl ?_
    refine ev_iload_n dc_X12_siege_25 rfl ?_
    refine ev_ldcw (v := 1000000) dc_X12_siege_26 mw_2025 ?_
    refine ev_icmp_lt (tgt := 36) dc_X12_siege_29 (by decide) h (fun h => ?_) (fun h => ?_)
    · refine ev_iload_n dc_X12_siege_36 rfl ?_
      cases h
      exact ev_iret dc_X12_siege_37 rfl rfl rfl
    · refine ev_iconst (v := (-1)) dc_X12_siege_32 (by decide) ?_
      refine ev_goto (tgt := 37) dc_X12_siege_33 (by decide) ?_
      cases h
      exact ev_iret dc_X12_siege_37 rfl rfl rfl
  · refine ev_iconst (v := 0) dc_X12_siege_17 (by decide) ?_
    cases h
    exact ev_iret dc_X12_siege_18 rfl rfl rfl
theorem dc_X12_silence_0 : Dc miX12_silence 0 (.aload_n 0) 1 1 := ⟨by decide +kernel, rfl⟩
theorem dc_X12_silence_1 : Dc miX12_silence 1 (.iconst 0) 1 2 := ⟨by decide +kernel, rfl⟩
theorem dc_X12_silence_2 : Dc miX12_silence 2 (.putfield 3) 3 5 := ⟨by decide +kernel, rfl⟩
theorem dc_X12_silence_5 : Dc miX12_silence 5 (.aload_n 0) 1 6 := ⟨by decide +kernel, rfl⟩
theorem dc_X12_silence_6 : Dc miX12_silence 6 (.iload_n 1) 1 7 := ⟨by decide +kernel, rfl⟩
theorem dc_X12_silence_7 : Dc miX12_silence 7 (.iconst 1) 1 8 := ⟨by decide +kernel, rfl⟩
theorem dc_X12_silence_8 : Dc miX12_silence 8 (.bipush 60) 2 10 := ⟨by decide +kernel, rfl⟩
theorem dc_X12_silence_10 : Dc miX12_silence 10 (.invokestatic 70) 3 13 := ⟨by decide +kernel, rfl⟩
theorem dc_X12_silence_13 : Dc miX12_silence 13 (.ifCond .ne 7) 3 16 := ⟨by decide +kernel, rfl⟩
theorem dc_X12_silence_16 : Dc miX12_silence 16 (.iconst 1) 1 17 := ⟨by decide +kernel, rfl⟩
theorem dc_X12_silence_17 : Dc miX12_silence 17 (.goto 4) 3 20 := ⟨by decide +kernel, rfl⟩
theorem dc_X12_silence_20 : Dc miX12_silence 20 (.iconst 0) 1 21 := ⟨by decide +kernel, rfl⟩
theorem dc_X12_silence_21 : Dc miX12_silence 21 (.iconst 1) 1 22 := ⟨by decide +kernel, rfl⟩
theorem dc_X12_silence_22 : Dc miX12_silence 22 (.invokevirtual 274) 3 25 := ⟨by decide +kernel, rfl⟩
theorem dc_X12_silence_25 : Dc miX12_silence 25 (.ifCond .eq 5) 3 28 := ⟨by decide +kernel, rfl⟩
theorem dc_X12_silence_28 : Dc miX12_silence 28 (.iconst 0) 1 29 := ⟨by decide +kernel, rfl⟩
theorem dc_X12_silence_29 : Dc miX12_silence 29 (.ireturn) 1 30 := ⟨by decide +kernel, rfl⟩
theorem dc_X12_silence_30 : Dc miX12_silence 30 (.aload_n 0) 1 31 := ⟨by decide +kernel, rfl⟩
theorem dc_X12_silence_31 : Dc miX12_silence 31 (.invokevirtual 367) 3 34 := ⟨by decide +kernel, rfl⟩
theorem dc_X12_silence_34 : Dc miX12_silence 34 (.ifCond .eq 5) 3 37 := ⟨by decide +kernel, rfl⟩
theorem dc_X12_silence_37 : Dc miX12_silence 37 (.iconst (-1)) 1 38 := ⟨by decide +kernel, rfl⟩
theorem dc_X12_silence_38 : Dc miX12_silence 38 (.ireturn) 1 39 := ⟨by decide +kernel, rfl⟩
theorem dc_X12_silence_39 : Dc miX12_silence 39 (.aload_n 0) 1 40 := ⟨by decide +kernel, rfl⟩
theorem dc_X12_silence_40 : Dc miX12_silence 40 (.invokevirtual 412) 3 43 := ⟨by decide +kernel, rfl⟩
theorem dc_X12_silence_43 : Dc miX12_silence 43 (.istore_n 2) 1 44 := ⟨by decide +kernel, rfl⟩
theorem dc_X12_silence_44 : Dc miX12_silence 44 (.iconst (-1)) 1 45 := ⟨by decide +kernel, rfl⟩
theorem dc_X12_silence_45 : Dc miX12_silence 45 (.istore_n 3) 1 46 := ⟨by decide +kernel, rfl⟩
theorem dc_X12_silence_46 : Dc miX12_silence 46 (.aload_n 0) 1 47 := ⟨by decide +kernel, rfl⟩
theorem dc_X12_silence_47 : Dc miX12_silence 47 (.invokevirtual 403) 3 50 := ⟨by decide +kernel, rfl⟩
theorem dc_X12_silence_50 : Dc miX12_silence 50 (.iload_n 2) 1 51 := ⟨by decide +kernel, rfl⟩
theorem dc_X12_silence_51 : Dc miX12_silence 51 (.istore 4) 2 53 := ⟨by decide +kernel, rfl⟩
theorem dc_X12_silence_53 : Dc miX12_silence 53 (.iload 4) 2 55 := ⟨by decide +kernel, rfl⟩
theorem dc_X12_silence_55 : Dc miX12_silence 55 (.ifCond .lt 118) 3 58 := ⟨by decide +kernel, rfl⟩
theorem dc_X12_silence_58 : Dc miX12_silence 58 (.iload 4) 2 60 := ⟨by decide +kernel, rfl⟩
theorem dc_X12_silence_60 : Dc miX12_silence 60 (.iload_n 2) 1 61 := ⟨by decide +kernel, rfl⟩
theorem dc_X12_silence_61 : Dc miX12_silence 61 (.iconst (-1)) 1 62 := ⟨by decide +kernel, rfl⟩
theorem dc_X12_silence_62 : Dc miX12_silence 62 (.ixor) 1 63 := ⟨by decide +kernel, rfl⟩
theorem dc_X12_silence_63 : Dc miX12_silence 63 (.iand) 1 64 := ⟨by decide +kernel, rfl⟩
theorem dc_X12_silence_64 : Dc miX12_silence 64 (.ifCond .ne 103) 3 67 := ⟨by decide +kernel, rfl⟩
theorem dc_X12_silence_67 : Dc miX12_silence 67 (.iload_n 3) 1 68 := ⟨by decide +kernel, rfl⟩
theorem dc_X12_silence_68 : Dc miX12_silence 68 (.ifCond .lt 18) 3 71 := ⟨by decide +kernel, rfl⟩
theorem dc_X12_silence_71 : Dc miX12_silence 71 (.iload 4) 2 73 := ⟨by decide +kernel, rfl⟩
theorem dc_X12_silence_73 : Dc miX12_silence 73 (.invokestatic 139) 3 76 := ⟨by decide +kernel, rfl⟩
theorem dc_X12_silence_76 : Dc miX12_silence 76 (.iload_n 3) 1 77 := ⟨by decide +kernel, rfl⟩
theorem dc_X12_silence_77 : Dc miX12_silence 77 (.invokestatic 139) 3 80 := ⟨by decide +kernel, rfl⟩
theorem dc_X12_silence_80 : Dc miX12_silence 80 (.if_icmp .le 6) 3 83 := ⟨by decide +kernel, rfl⟩
theorem dc_X12_silence_83 : Dc miX12_silence 83 (.goto 84) 3 86 := ⟨by decide +kernel, rfl⟩
theorem dc_X12_silence_86 : Dc miX12_silence 86 (.iconst 0) 1 87 := ⟨by decide +kernel, rfl⟩
theorem dc_X12_silence_87 : Dc miX12_silence 87 (.istore 5) 2 89 := ⟨by decide +kernel, rfl⟩
theorem dc_X12_silence_89 : Dc miX12_silence 89 (.iload 5) 2 91 := ⟨by decide +kernel, rfl⟩
theorem dc_X12_silence_91 : Dc miX12_silence 91 (.aload_n 0) 1 92 := ⟨by decide +kernel, rfl⟩
theorem dc_X12_silence_92 : Dc miX12_silence 92 (.invokevirtual 74) 3 95 := ⟨by decide +kernel, rfl⟩
theorem dc_X12_silence_95 : Dc miX12_silence 95 (.if_icmp .ge 34) 3 98 := ⟨by decide +kernel, rfl⟩
theorem dc_X12_silence_98 : Dc miX12_silence 98 (.iload 4) 2 100 := ⟨by decide +kernel, rfl⟩
theorem dc_X12_silence_100 : Dc miX12_silence 100 (.iload 5) 2 102 := ⟨by decide +kernel, rfl⟩
theorem dc_X12_silence_102 : Dc miX12_silence 102 (.invokestatic 122) 3 105 := ⟨by decide +kernel, rfl⟩
theorem dc_X12_silence_105 : Dc miX12_silence 105 (.ifCond .eq 18) 3 108 := ⟨by decide +kernel, rfl⟩
theorem dc_X12_silence_108 : Dc miX12_silence 108 (.aload_n 0) 1 109 := ⟨by decide +kernel, rfl⟩
theorem dc_X12_silence_109 : Dc miX12_silence 109 (.getfield 13) 3 112 := ⟨by decide +kernel, rfl⟩
theorem dc_X12_silence_112 : Dc miX12_silence 112 (.bipush 37) 2 114 := ⟨by decide +kernel, rfl⟩
theorem dc_X12_silence_114 : Dc miX12_silence 114 (.iconst 3) 1 115 := ⟨by decide +kernel, rfl⟩
theorem dc_X12_silence_115 : Dc miX12_silence 115 (.iload 5) 2 117 := ⟨by decide +kernel, rfl⟩
theorem dc_X12_silence_117 : Dc miX12_silence 117 (.imul) 1 118 := ⟨by decide +kernel, rfl⟩
theorem dc_X12_silence_118 : Dc miX12_silence 118 (.iadd) 1 119 := ⟨by decide +kernel, rfl⟩
theorem dc_X12_silence_119 : Dc miX12_silence 119 (.iconst 2) 1 120 := ⟨by decide +kernel, rfl⟩
theorem dc_X12_silence_120 : Dc miX12_silence 120 (.iadd) 1 121 := ⟨by decide +kernel, rfl⟩
theorem dc_X12_silence_121 : Dc miX12_silence 121 (.iconst 0) 1 122 := ⟨by decide +kernel, rfl⟩
theorem dc_X12_silence_122 : Dc miX12_silence 122 (.iastore) 1 123 := ⟨by decide +kernel, rfl⟩
theorem dc_X12_silence_123 : Dc miX12_silence 123 (.iinc 5 1) 3 126 := ⟨by decide +kernel, rfl⟩
theorem dc_X12_silence_126 : Dc miX12_silence 126 (.goto (-37)) 3 129 := ⟨by decide +kernel, rfl⟩
theorem dc_X12_silence_129 : Dc miX12_silence 129 (.iconst 0) 1 130 := ⟨by decide +kernel, rfl⟩
theorem dc_X12_silence_130 : Dc miX12_silence 130 (.istore 5) 2 132 := ⟨by decide +kernel, rfl⟩
theorem dc_X12_silence_132 : Dc miX12_silence 132 (.iload 5) 2 134 := ⟨by decide +kernel, rfl⟩
theorem dc_X12_silence_134 : Dc miX12_silence 134 (.iload_n 1) 1 135 := ⟨by decide +kernel, rfl⟩
theorem dc_X12_silence_135 : Dc miX12_silence 135 (.if_icmp .ge 14) 3 138 := ⟨by decide +kernel, rfl⟩
theorem dc_X12_silence_138 : Dc miX12_silence 138 (.aload_n 0) 1 139 := ⟨by decide +kernel, rfl⟩
theorem dc_X12_silence_139 : Dc miX12_silence 139 (.iconst (-1)) 1 140 := ⟨by decide +kernel, rfl⟩
theorem dc_X12_silence_140 : Dc miX12_silence 140 (.invokevirtual 406) 3 143 := ⟨by decide +kernel, rfl⟩
theorem dc_X12_silence_143 : Dc miX12_silence 143 (.iinc 5 1) 3 146 := ⟨by decide +kernel, rfl⟩
theorem dc_X12_silence_146 : Dc miX12_silence 146 (.goto (-14)) 3 149 := ⟨by decide +kernel, rfl⟩
theorem dc_X12_silence_149 : Dc miX12_silence 149 (.aload_n 0) 1 150 := ⟨by decide +kernel, rfl⟩
theorem dc_X12_silence_150 : Dc miX12_silence 150 (.invokevirtual 367) 3 153 := ⟨by decide +kernel, rfl⟩
theorem dc_X12_silence_153 : Dc miX12_silence 153 (.ifCond .eq 7) 3 156 := ⟨by decide +kernel, rfl⟩
theorem dc_X12_silence_156 : Dc miX12_silence 156 (.iload_n 3) 1 157 := ⟨by decide +kernel, rfl⟩
theorem dc_X12_silence_157 : Dc miX12_silence 157 (.goto 5) 3 160 := ⟨by decide +kernel, rfl⟩
theorem dc_X12_silence_160 : Dc miX12_silence 160 (.iload 4) 2 162 := ⟨by decide +kernel, rfl⟩
theorem dc_X12_silence_162 : Dc miX12_silence 162 (.istore_n 3) 1 163 := ⟨by decide +kernel, rfl⟩
theorem dc_X12_silence_163 : Dc miX12_silence 163 (.aload_n 0) 1 164 := ⟨by decide +kernel, rfl⟩
theorem dc_X12_silence_164 : Dc miX12_silence 164 (.invokevirtual 409) 3 167 := ⟨by decide +kernel, rfl⟩
theorem dc_X12_silence_167 : Dc miX12_silence 167 (.iinc 4 (-1)) 3 170 := ⟨by decide +kernel, rfl⟩
theorem dc_X12_silence_170 : Dc miX12_silence 170 (.goto (-117)) 3 173 := ⟨by decide +kernel, rfl⟩
theorem dc_X12_silence_173 : Dc miX12_silence 173 (.iload_n 3) 1 174 := ⟨by decide +kernel, rfl⟩
theorem dc_X12_silence_174 : Dc miX12_silence 174 (.ireturn) 1 175 := ⟨by decide +kernel, rfl⟩
def fX12_silence_b162 (N : Nat) (G : pG) (k53 : Int32 × Int32 × pS → Option (Int32 × pS)) (a0 : Nat) (a1 : Int32) (x2 : Int32) (x4 : Int32) (y0 : Int32) (σ : pS) : Option (Int32 × pS) := (fX12_bringsBack N G a0 σ).bind (fun q1 => k53 (y0, x4 + (-1 : Int32), q1))
set_option maxRecDepth 100000 in
set_option maxHeartbeats 4000000 in
theorem tX12_silence_b162 {N : Nat} {G : pG} {SK : Nat → Nat} {k53 : Int32 × Int32 × pS → Option (Int32 × pS)} {a0 : Nat} {a1 : Int32} {x2 : Int32} {x4 : Int32} {y0 : Int32} {σ : pS} {r : Int32 × pS} (hW : WT G) (i0 : Is G a0 11) (hk53 : ∀ b : Int32 × Int32 × pS, k53 b = some r → Ev miX12_silence (8, 0, 0) G (Zp G (some (.int r.1)) r.2) SK (0, 0) 53 [some (.ref a0), some (.int a1), some (.int x2), some (.int b.1), some (.int b.2.1), none] [] b.2.2) (h : fX12_silence_b162 N G k53 a0 a1 x2 x4 y0 σ = some r) : Ev miX12_silence (8, 0, 0) G (Zp G (some (.int r.1)) r.2) SK (0, 0) 162 [some (.ref a0), some (.int a1), some (.int x2), none, some (.int x4), none] [.int y0] σ := by
  unfold fX12_silence_b162 at h
  refine ev_istore_n (lv' := [some (.ref a0), some (.int a1), some (.int x2), some (.int y0), some (.int x4), none]) dc_X12_silence_162 rfl (by decide) rfl ?_
  refine ev_aload_n dc_X12_silence_163 rfl ?_
  obtain ⟨q1, hq1, h⟩ := Option.bind_eq_some_iff.mp h
  refine ev_callV (av := []) (st := []) (st1 := []) dc_X12_silence_164 (tX12_bringsBack hW i0 hq1) mw_1994 cy_X12_bringsBack i0 (by decide) rfl rfl rfl rfl (Nat.le_of_ble_eq_true rfl) (Nat.le_of_ble_eq_true rfl) ⟨Nat.le_refl _, Nat.le_refl _⟩ ?_
  refine ev_iinc (v := (-1)) (lv' := [some (.ref a0), some (.int a1), some (.int x2), some (.int y0), some (.int (x4 + (-1 : Int32))), none]) dc_X12_silence_167 rfl (by decide) rfl (by decide) rfl ?_
  refine ev_goto (tgt := 53) dc_X12_silence_170 (by decide) ?_
  exact ev_sub (hk53 (y0, x4 + (-1 : Int32), q1) h) (And.intro rfl (And.intro rfl (And.intro rfl (And.intro rfl (And.intro rfl trivial)))))
def fX12_silence_b132 (N : Nat) (G : pG) (k53 : Int32 × Int32 × pS → Option (Int32 × pS)) (a0 : Nat) (a1 : Int32) (x2 : Int32) (x3 : Int32) (x4 : Int32) : (Int32 × pS) → Option (Int32 × pS) := lp (fun (k132 : Int32 × pS → Option (Int32 × pS)) (b : Int32 × pS) => if a1 ≤ b.1 then ((fX12_isGone N G a0 b.2).bind (fun q2 => if q2 = 0 then (fX12_silence_b162 N G k53 a0 a1 x2 x4 x4 b.2) else (fX12_silence_b162 N G k53 a0 a1 x2 x4 x3 b.2))) else ((fX12_calmNight N G a0 (-1 : Int32) b.2).bind (fun q3 => k132 (b.1 + (1 : Int32), q3)))) N
set_option maxRecDepth 100000 in
set_option maxHeartbeats 4000000 in
theorem tX12_silence_b132 {N : Nat} {G : pG} {SK : Nat → Nat} {k53 : Int32 × Int32 × pS → Option (Int32 × pS)} {a0 : Nat} {a1 : Int32} {x2 : Int32} {x3 : Int32} {x4 : Int32} {b : Int32 × pS} {r : Int32 × pS} (hW : WT G) (i0 : Is G a0 11) (hk53 : ∀ b : Int32 × Int32 × pS, k53 b = some r → Ev miX12_silence (8, 0, 0) G (Zp G (some (.int r.1)) r.2) SK (0, 0) 53 [some (.ref a0), some (.int a1), some (.int x2), some (.int b.1), some (.int b.2.1), none] [] b.2.2) (h : fX12_silence_b132 N G k53 a0 a1 x2 x3 x4 b = some r) : Ev miX12_silence (8, 0, 0) G (Zp G (some (.int r.1)) r.2) SK (0, 0) 132 [some (.ref a0), some (.int a1), some (.int x2), some (.int x3), some (.int x4), some (.int b.1)] [] b.2 := by
  unfold fX12_silence_b132 at h
  refine lp_ind (P := fun b r9 => r9 = r → Ev miX12_silence (8, 0, 0) G (Zp G (some (.int r.1)) r.2) SK (0, 0) 132 [some (.ref a0), some (.int a1), some (.int x2), some (.int x3), some (.int x4), some (.int b.1)] [] b.2) (fun k132 b r9 ih h9 e9 => ?_) N b r h rfl
  clear h
  subst e9
  have h := h9
  clear h9
  have hk132 : ∀ b : Int32 × pS, k132 b = some r9 → Ev miX12_silence (8, 0, 0) G (Zp G (some (.int r9.1)) r9.2) SK (0, 0) 132 [some (.ref a0), some (.int a1), some (.int x2), some (.int x3), some (.int x4), some (.int b.1)] [] b.2 := fun b hb => ih b r9 hb rfl
  clear ih
  obtain ⟨x5, σ⟩ := b
  dsimp only at h ⊢
  refine ev_iload dc_X12_silence_132 rfl ?_
  refine ev_iload_n dc_X12_silence_134 rfl ?_
  refine ev_icmp_ge (tgt := 149) dc_X12_silence_135 (by decide) h (fun h => ?_) (fun h => ?_)
  · refine ev_aload_n dc_X12_silence_149 rfl ?_
    obtain ⟨q2, hq2, h⟩ := Option.bind_eq_some_iff.mp h
    refine ev_callV (av := []) (st := []) (st1 := [.int q2]) dc_X12_silence_150 (tX12_isGone hW i0 hq2) mw_1902 cy_X12_isGone i0 (by decide) rfl rfl rfl rfl (Nat.le_of_ble_eq_true rfl) (Nat.le_of_ble_eq_true rfl) ⟨Nat.le_refl _, Nat.le_refl _⟩ ?_
    refine ev_if_eq (tgt := 160) dc_X12_silence_153 (by decide) h (fun h => ?_) (fun h => ?_)
    · refine ev_iload dc_X12_silence_160 rfl ?_
      exact ev_sub (tX12_silence_b162 hW i0 hk53 h) (And.intro rfl (And.intro rfl (And.intro rfl (And.intro rfl trivial))))
    · refine ev_iload_n dc_X12_silence_156 rfl ?_
      refine ev_goto (tgt := 162) dc_X12_silence_157 (by decide) ?_
      exact ev_sub (tX12_silence_b162 hW i0 hk53 h) (And.intro rfl (And.intro rfl (And.intro rfl (And.intro rfl trivial))))
  · refine ev_aload_n dc_X12_silence_138 rfl ?_
    refine ev_iconst (v := (-1)) dc_X12_silence_139 (by decide) ?_
    obtain ⟨q3, hq3, h⟩ := Option.bind_eq_some_iff.mp h
    refine ev_callV (av := [.int (-1 : Int32)]) (st := []) (st1 := []) dc_X12_silence_140 (tX12_calmNight hW i0 hq3) mw_1990 cy_X12_calmNight i0 (by decide) rfl rfl rfl rfl (Nat.le_of_ble_eq_true rfl) (Nat.le_of_ble_eq_true rfl) ⟨Nat.le_refl _, Nat.le_refl _⟩ ?_
    refine ev_iinc (v := 1) (lv' := [some (.ref a0), some (.int a1), some (.int x2), some (.int x3), some (.int x4), some (.int (x5 + (1 : Int32)))]) dc_X12_silence_143 rfl (by decide) rfl (by decide) rfl ?_
    refine ev_goto (tgt := 132) dc_X12_silence_146 (by decide) ?_
    exact ev_sub (hk132 (x5 + (1 : Int32), q3) h) (And.intro rfl (And.intro rfl (And.intro rfl (And.intro rfl (And.intro rfl (And.intro rfl trivial))))))
def fX12_silence_b89 (N : Nat) (G : pG) (k53 : Int32 × Int32 × pS → Option (Int32 × pS)) (a0 : Nat) (a1 : Int32) (x2 : Int32) (x3 : Int32) (x4 : Int32) : (Int32 × pS) → Option (Int32 × pS) := lp (fun (k89 : Int32 × pS → Option (Int32 × pS)) (b : Int32 × pS) => (fX12_courtiers N G a0 b.2).bind (fun q4 => if q4 ≤ b.1 then (fX12_silence_b132 N G k53 a0 a1 x2 x3 x4 ((0 : Int32), b.2)) else ((fX12_has N G x4 b.1 b.2).bind (fun q5 => if q5 = 0 then (k89 (b.1 + (1 : Int32), b.2)) else (ck (inB (((37 : Int32) + ((3 : Int32) * b.1)) + (2 : Int32)) (pN G (pR G a0 1))) (k89 (b.1 + (1 : Int32), sA b.2 (pR G a0 1) (((37 : Int32) + ((3 : Int32) * b.1)) + (2 : Int32)) (0 : Int32)))))))) N
set_option maxRecDepth 100000 in
set_option maxHeartbeats 4000000 in
theorem tX12_silence_b89 {N : Nat} {G : pG} {SK : Nat → Nat} {k53 : Int32 × Int32 × pS → Option (Int32 × pS)} {a0 : Nat} {a1 : Int32} {x2 : Int32} {x3 : Int32} {x4 : Int32} {b : Int32 × pS} {r : Int32 × pS} (hW : WT G) (i0 : Is G a0 11) (hk53 : ∀ b : Int32 × Int32 × pS, k53 b = some r → Ev miX12_silence (8, 0, 0) G (Zp G (some (.int r.1)) r.2) SK (0, 0) 53 [some (.ref a0), some (.int a1), some (.int x2), some (.int b.1), some (.int b.2.1), none] [] b.2.2) (h : fX12_silence_b89 N G k53 a0 a1 x2 x3 x4 b = some r) : Ev miX12_silence (8, 0, 0) G (Zp G (some (.int r.1)) r.2) SK (0, 0) 89 [some (.ref a0), some (.int a1), some (.int x2), some (.int x3), some (.int x4), some (.int b.1)] [] b.2 := by
  unfold fX12_silence_b89 at h
  refine lp_ind (P := fun b r9 => r9 = r → Ev miX12_silence (8, 0, 0) G (Zp G (some (.int r.1)) r.2) SK (0, 0) 89 [some (.ref a0), some (.int a1), some (.int x2), some (.int x3), some (.int x4), some (.int b.1)] [] b.2) (fun k89 b r9 ih h9 e9 => ?_) N b r h rfl
  clear h
  subst e9
  have h := h9
  clear h9
  have hk89 : ∀ b : Int32 × pS, k89 b = some r9 → Ev miX12_silence (8, 0, 0) G (Zp G (some (.int r9.1)) r9.2) SK (0, 0) 89 [some (.ref a0), some (.int a1), some (.int x2), some (.int x3), some (.int x4), some (.int b.1)] [] b.2 := fun b hb => ih b r9 hb rfl
  clear ih
  obtain ⟨x5, σ⟩ := b
  dsimp only at h ⊢
  refine ev_iload dc_X12_silence_89 rfl ?_
  refine ev_aload_n dc_X12_silence_91 rfl ?_
  obtain ⟨q4, hq4, h⟩ := Option.bind_eq_some_iff.mp h
  refine ev_callV (av := []) (st := [.int x5]) (st1 := [.int q4, .int x5]) dc_X12_silence_92 (tX12_courtiers hW i0 hq4) mw_1705 cy_X12_courtiers i0 (by decide) rfl rfl rfl rfl (Nat.le_of_ble_eq_true rfl) (Nat.le_of_ble_eq_true rfl) ⟨Nat.le_refl _, Nat.le_refl _⟩ ?_
  refine ev_icmp_ge (tgt := 129) dc_X12_silence_95 (by decide) h (fun h => ?_) (fun h => ?_)
  · refine ev_iconst (v := 0) dc_X12_silence_129 (by decide) ?_
    refine ev_istore (lv' := [some (.ref a0), some (.int a1), some (.int x2), some (.int x3), some (.int x4), some (.int (0 : Int32))]) dc_X12_silence_130 rfl (by decide) rfl ?_
    exact ev_sub (tX12_silence_b132 (b := ((0 : Int32), σ)) hW i0 hk53 h) (And.intro rfl (And.intro rfl (And.intro rfl (And.intro rfl (And.intro rfl (And.intro rfl trivial))))))
  · refine ev_iload dc_X12_silence_98 rfl ?_
    refine ev_iload dc_X12_silence_100 rfl ?_
    obtain ⟨q5, hq5, h⟩ := Option.bind_eq_some_iff.mp h
    refine ev_callS (av := [.int x4, .int x5]) (st := []) (st1 := [.int q5]) dc_X12_silence_102 (tX12_has hW hq5) mw_1659 cs_X12_has rfl rfl rfl (Nat.le_of_ble_eq_true rfl) (Nat.le_of_ble_eq_true rfl) ⟨Nat.le_refl _, Nat.le_refl _⟩ ?_
    refine ev_if_eq (tgt := 123) dc_X12_silence_105 (by decide) h (fun h => ?_) (fun h => ?_)
    · refine ev_iinc (v := 1) (lv' := [some (.ref a0), some (.int a1), some (.int x2), some (.int x3), some (.int x4), some (.int (x5 + (1 : Int32)))]) dc_X12_silence_123 rfl (by decide) rfl (by decide) rfl ?_
      refine ev_goto (tgt := 89) dc_X12_silence_126 (by decide) ?_
      exact ev_sub (hk89 (x5 + (1 : Int32), σ) h) (And.intro rfl (And.intro rfl (And.intro rfl (And.intro rfl (And.intro rfl (And.intro rfl trivial))))))
    · refine ev_aload_n dc_X12_silence_108 rfl ?_
      refine ev_getR dc_X12_silence_109 fi_X12_13 rfl i0 ?_
      refine ev_bipush (v := 37) dc_X12_silence_112 (by decide) ?_
      refine ev_iconst (v := 3) dc_X12_silence_114 (by decide) ?_
      refine ev_iload dc_X12_silence_115 rfl ?_
      refine ev_imul dc_X12_silence_117 ?_
      refine ev_iadd dc_X12_silence_118 ?_
      refine ev_iconst (v := 2) dc_X12_silence_119 (by decide) ?_
      refine ev_iadd dc_X12_silence_120 ?_
      refine ev_iconst (v := 0) dc_X12_silence_121 (by decide) ?_
      refine ev_iast dc_X12_silence_122 (wt hW i0 1 rfl rfl) h (fun h => ?_)
      refine ev_iinc (v := 1) (lv' := [some (.ref a0), some (.int a1), some (.int x2), some (.int x3), some (.int x4), some (.int (x5 + (1 : Int32)))]) dc_X12_silence_123 rfl (by decide) rfl (by decide) rfl ?_
      refine ev_goto (tgt := 89) dc_X12_silence_126 (by decide) ?_
      exact ev_sub (hk89 (x5 + (1 : Int32), sA σ (pR G a0 1) (((37 : Int32) + ((3 : Int32) * x5)) + (2 : Int32)) (0 : Int32)) h) (And.intro rfl (And.intro rfl (And.intro rfl (And.intro rfl (And.intro rfl (And.intro rfl trivial))))))
def fX12_silence_b86 (N : Nat) (G : pG) (k53 : Int32 × Int32 × pS → Option (Int32 × pS)) (a0 : Nat) (a1 : Int32) (x2 : Int32) (x3 : Int32) (x4 : Int32) (σ : pS) : Option (Int32 × pS) := fX12_silence_b89 N G k53 a0 a1 x2 x3 x4 ((0 : Int32), σ)
set_option maxRecDepth 100000 in
set_option maxHeartbeats 4000000 in
theorem tX12_silence_b86 {N : Nat} {G : pG} {SK : Nat → Nat} {k53 : Int32 × Int32 × pS → Option (Int32 × pS)} {a0 : Nat} {a1 : Int32} {x2 : Int32} {x3 : Int32} {x4 : Int32} {σ : pS} {r : Int32 × pS} (hW : WT G) (i0 : Is G a0 11) (hk53 : ∀ b : Int32 × Int32 × pS, k53 b = some r → Ev miX12_silence (8, 0, 0) G (Zp G (some (.int r.1)) r.2) SK (0, 0) 53 [some (.ref a0), some (.int a1), some (.int x2), some (.int b.1), some (.int b.2.1), none] [] b.2.2) (h : fX12_silence_b86 N G k53 a0 a1 x2 x3 x4 σ = some r) : Ev miX12_silence (8, 0, 0) G (Zp G (some (.int r.1)) r.2) SK (0, 0) 86 [some (.ref a0), some (.int a1), some (.int x2), some (.int x3), some (.int x4), none] [] σ := by
  unfold fX12_silence_b86 at h
  refine ev_iconst (v := 0) dc_X12_silence_86 (by decide) ?_
  refine ev_istore (lv' := [some (.ref a0), some (.int a1), some (.int x2), some (.int x3), some (.int x4), some (.int (0 : Int32))]) dc_X12_silence_87 rfl (by decide) rfl ?_
  exact ev_sub (tX12_silence_b89 (b := ((0 : Int32), σ)) hW i0 hk53 h) (And.intro rfl (And.intro rfl (And.intro rfl (And.intro rfl (And.intro rfl (And.intro rfl trivial))))))
def fX12_silence_b53 (N : Nat) (G : pG) (a0 : Nat) (a1 : Int32) (x2 : Int32) : (Int32 × Int32 × pS) → Option (Int32 × pS) := lp (fun (k53 : Int32 × Int32 × pS → Option (Int32 × pS)) (b : Int32 × Int32 × pS) => if b.2.1 < 0 then (some (b.1, b.2.2)) else (if (b.2.1 &&& (x2 ^^^ (-1 : Int32))) = 0 then (if b.1 < 0 then (fX12_silence_b86 N G k53 a0 a1 x2 b.1 b.2.1 b.2.2) else ((fJ6_bitCount_0f7a4 N G b.2.1 b.2.2).bind (fun q6 => (fJ6_bitCount_0f7a4 N G b.1 b.2.2).bind (fun q7 => if q6 ≤ q7 then (fX12_silence_b86 N G k53 a0 a1 x2 b.1 b.2.1 b.2.2) else (k53 (b.1, b.2.1 + (-1 : Int32), b.2.2)))))) else (k53 (b.1, b.2.1 + (-1 : Int32), b.2.2)))) N
set_option maxRecDepth 100000 in
set_option maxHeartbeats 4000000 in
theorem tX12_silence_b53 {N : Nat} {G : pG} {SK : Nat → Nat} {a0 : Nat} {a1 : Int32} {x2 : Int32} {b : Int32 × Int32 × pS} {r : Int32 × pS} (hW : WT G) (i0 : Is G a0 11) (h : fX12_silence_b53 N G a0 a1 x2 b = some r) : Ev miX12_silence (8, 0, 0) G (Zp G (some (.int r.1)) r.2) SK (0, 0) 53 [some (.ref a0), some (.int a1), some (.int x2), some (.int b.1), some (.int b.2.1), none] [] b.2.2 := by
  unfold fX12_silence_b53 at h
  refine lp_ind (P := fun b r9 => r9 = r → Ev miX12_silence (8, 0, 0) G (Zp G (some (.int r.1)) r.2) SK (0, 0) 53 [some (.ref a0), some (.int a1), some (.int x2), some (.int b.1), some (.int b.2.1), none] [] b.2.2) (fun k53 b r9 ih h9 e9 => ?_) N b r h rfl
  clear h
  subst e9
  have h := h9
  clear h9
  have hk53 : ∀ b : Int32 × Int32 × pS, k53 b = some r9 → Ev miX12_silence (8, 0, 0) G (Zp G (some (.int r9.1)) r9.2) SK (0, 0) 53 [some (.ref a0), some (.int a1), some (.int x2), some (.int b.1), some (.int b.2.1), none] [] b.2.2 := fun b hb => ih b r9 hb rfl
  clear ih
  obtain ⟨x3, x4, σ⟩ := b
  dsimp only at h ⊢
  refine ev_iload dc_X12_silence_53 rfl ?_
  refine ev_if_lt (tgt := 173) dc_X12_silence_55 (by decide) h (fun h => ?_) (fun h => ?_)
  · refine ev_iload_n dc_X12_silence_173 rfl ?_
    cases h
    exact ev_iret dc_X12_silence_174 rfl rfl rfl
  · refine ev_iload dc_X12_silence_58 rfl ?_
    refine ev_iload_n dc_X12_silence_60 rfl ?_
    refine ev_iconst (v := (-1)) dc_X12_silence_61 (by decide) ?_
    refine ev_ixor dc_X12_silence_62 ?_
    refine ev_iand dc_X12_silence_63 ?_
    refine ev_if_ne (tgt := 167) dc_X12_silence_64 (by decide) h (fun h => ?_) (fun h => ?_)
    · refine ev_iload_n dc_X12_silence_67 rfl ?_
      refine ev_if_lt (tgt := 86) dc_X12_silence_68 (by decide) h (fun h => ?_) (fun h => ?_)
      · exact ev_sub (tX12_silence_b86 hW i0 hk53 h) (And.intro rfl (And.intro rfl (And.intro rfl (And.intro rfl (And.intro rfl trivial)))))
      · refine ev_iload dc_X12_silence_71 rfl ?_
        obtain ⟨q6, hq6, h⟩ := Option.bind_eq_some_iff.mp h
        refine ev_callS (av := [.int x4]) (st := []) (st1 := [.int q6]) dc_X12_silence_73 (tJ6_bitCount_0f7a4 hW hq6) mw_1685 cs_J6_bitCount_0f7a4 rfl rfl rfl (Nat.le_of_ble_eq_true rfl) (Nat.le_of_ble_eq_true rfl) ⟨Nat.le_refl _, Nat.le_refl _⟩ ?_
        refine ev_iload_n dc_X12_silence_76 rfl ?_
        obtain ⟨q7, hq7, h⟩ := Option.bind_eq_some_iff.mp h
        refine ev_callS (av := [.int x3]) (st := [.int q6]) (st1 := [.int q7, .int q6]) dc_X12_silence_77 (tJ6_bitCount_0f7a4 hW hq7) mw_1685 cs_J6_bitCount_0f7a4 rfl rfl rfl (Nat.le_of_ble_eq_true rfl) (Nat.le_of_ble_eq_true rfl) ⟨Nat.le_refl _, Nat.le_refl _⟩ ?_
        refine ev_icmp_le (tgt := 86) dc_X12_silence_80 (by decide) h (fun h => ?_) (fun h => ?_)
        · exact ev_sub (tX12_silence_b86 hW i0 hk53 h) (And.intro rfl (And.intro rfl (And.intro rfl (And.intro rfl (And.intro rfl trivial)))))
        · refine ev_goto (tgt := 167) dc_X12_silence_83 (by decide) ?_
          refine ev_iinc (v := (-1)) (lv' := [some (.ref a0), some (.int a1), some (.int x2), some (.int x3), some (.int (x4 + (-1 : Int32))), none]) dc_X12_silence_167 rfl (by decide) rfl (by decide) rfl ?_
          refine ev_goto (tgt := 53) dc_X12_silence_170 (by decide) ?_
          exact ev_sub (hk53 (x3, x4 + (-1 : Int32), σ) h) (And.intro rfl (And.intro rfl (And.intro rfl (And.intro rfl (And.intro rfl trivial)))))
    · refine ev_iinc (v := (-1)) (lv' := [some (.ref a0), some (.int a1), some (.int x2), some (.int x3), some (.int (x4 + (-1 : Int32))), none]) dc_X12_silence_167 rfl (by decide) rfl (by decide) rfl ?_
      refine ev_goto (tgt := 53) dc_X12_silence_170 (by decide) ?_
      exact ev_sub (hk53 (x3, x4 + (-1 : Int32), σ) h) (And.intro rfl (And.intro rfl (And.intro rfl (And.intro rfl (And.intro rfl trivial)))))
def fX12_silence_b21 (N : Nat) (G : pG) (a0 : Nat) (a1 : Int32) (y1 : Int32) (σ : pS) : Option (Int32 × pS) := (fX12_throwsIf N G a0 y1 (1 : Int32) σ).bind (fun q8 => if q8.1 = 0 then ((fX12_isGone N G a0 q8.2).bind (fun q9 => if q9 = 0 then ((fX12_nearOnes N G a0 q8.2).bind (fun q10 => (fX12_keepsAll N G a0 q8.2).bind (fun q11 => fX12_silence_b53 N G a0 a1 q10 ((-1 : Int32), q10, q11)))) else (some ((-1 : Int32), q8.2)))) else (some ((0 : Int32), q8.2)))
set_option maxRecDepth 100000 in
set_option maxHeartbeats 4000000 in
theorem tX12_silence_b21 {N : Nat} {G : pG} {SK : Nat → Nat} {a0 : Nat} {a1 : Int32} {y1 : Int32} {σ : pS} {r : Int32 × pS} (hW : WT G) (i0 : Is G a0 11) (h : fX12_silence_b21 N G a0 a1 y1 σ = some r) : Ev miX12_silence (8, 0, 0) G (Zp G (some (.int r.1)) r.2) SK (0, 0) 21 [some (.ref a0), some (.int a1), none, none, none, none] [.int y1, .ref a0] σ := by
  unfold fX12_silence_b21 at h
  refine ev_iconst (v := 1) dc_X12_silence_21 (by decide) ?_
  obtain ⟨q8, hq8, h⟩ := Option.bind_eq_some_iff.mp h
  refine ev_callV (av := [.int y1, .int (1 : Int32)]) (st := []) (st1 := [.int q8.1]) dc_X12_silence_22 (tX12_throwsIf hW i0 hq8) mw_1784 cy_X12_throwsIf i0 (by decide) rfl rfl rfl rfl (Nat.le_of_ble_eq_true rfl) (Nat.le_of_ble_eq_true rfl) ⟨Nat.le_refl _, Nat.le_refl _⟩ ?_
  refine ev_if_eq (tgt := 30) dc_X12_silence_25 (by decide) h (fun h => ?_) (fun h => ?_)
  · refine ev_aload_n dc_X12_silence_30 rfl ?_
    obtain ⟨q9, hq9, h⟩ := Option.bind_eq_some_iff.mp h
    refine ev_callV (av := []) (st := []) (st1 := [.int q9]) dc_X12_silence_31 (tX12_isGone hW i0 hq9) mw_1902 cy_X12_isGone i0 (by decide) rfl rfl rfl rfl (Nat.le_of_ble_eq_true rfl) (Nat.le_of_ble_eq_true rfl) ⟨Nat.le_refl _, Nat.le_refl _⟩ ?_
    refine ev_if_eq (tgt := 39) dc_X12_silence_34 (by decide) h (fun h => ?_) (fun h => ?_)
    · refine ev_aload_n dc_X12_silence_39 rfl ?_
      obtain ⟨q10, hq10, h⟩ := Option.bind_eq_some_iff.mp h
      refine ev_callV (av := []) (st := []) (st1 := [.int q10]) dc_X12_silence_40 (tX12_nearOnes hW i0 hq10) mw_2010 cy_X12_nearOnes i0 (by decide) rfl rfl rfl rfl (Nat.le_of_ble_eq_true rfl) (Nat.le_of_ble_eq_true rfl) ⟨Nat.le_refl _, Nat.le_refl _⟩ ?_
      refine ev_istore_n (lv' := [some (.ref a0), some (.int a1), some (.int q10), none, none, none]) dc_X12_silence_43 rfl (by decide) rfl ?_
      refine ev_iconst (v := (-1)) dc_X12_silence_44 (by decide) ?_
      refine ev_istore_n (lv' := [some (.ref a0), some (.int a1), some (.int q10), some (.int (-1 : Int32)), none, none]) dc_X12_silence_45 rfl (by decide) rfl ?_
      refine ev_aload_n dc_X12_silence_46 rfl ?_
      obtain ⟨q11, hq11, h⟩ := Option.bind_eq_some_iff.mp h
      refine ev_callV (av := []) (st := []) (st1 := []) dc_X12_silence_47 (tX12_keepsAll hW i0 hq11) mw_1986 cy_X12_keepsAll i0 (by decide) rfl rfl rfl rfl (Nat.le_of_ble_eq_true rfl) (Nat.le_of_ble_eq_true rfl) ⟨Nat.le_refl _, Nat.le_refl _⟩ ?_
      refine ev_iload_n dc_X12_silence_50 rfl ?_
      refine ev_istore (lv' := [some (.ref a0), some (.int a1), some (.int q10), some (.int (-1 : Int32)), some (.int q10), none]) dc_X12_silence_51 rfl (by decide) rfl ?_
      exact ev_sub (tX12_silence_b53 (b := ((-1 : Int32), q10, q11)) hW i0 h) (And.intro rfl (And.intro rfl (And.intro rfl (And.intro rfl (And.intro rfl trivial)))))
    · refine ev_iconst (v := (-1)) dc_X12_silence_37 (by decide) ?_
      cases h
      exact ev_iret dc_X12_silence_38 rfl rfl rfl
  · refine ev_iconst (v := 0) dc_X12_silence_28 (by decide) ?_
    cases h
    exact ev_iret dc_X12_silence_29 rfl rfl rfl
def fX12_silence (N : Nat) (G : pG) (a0 : Nat) (a1 : Int32) (σ : pS) : Option (Int32 × pS) := (fX12_in N G a1 (1 : Int32) (60 : Int32) (putF σ a0 0 (0 : Int32))).bind (fun q12 => if q12 = 0 then (fX12_silence_b21 N G a0 a1 (1 : Int32) (putF σ a0 0 (0 : Int32))) else (fX12_silence_b21 N G a0 a1 (0 : Int32) (putF σ a0 0 (0 : Int32))))
set_option maxRecDepth 100000 in
set_option maxHeartbeats 4000000 in
theorem tX12_silence {N : Nat} {G : pG} {SK : Nat → Nat} {a0 : Nat} {a1 : Int32} {σ : pS} {r : Int32 × pS} (hW : WT G) (i0 : Is G a0 11) (h : fX12_silence N G a0 a1 σ = some r) : Dn miX12_silence yX12_silence 8 G SK [.ref a0, .int a1] σ (some (.int r.1)) r.2 := by
  unfold fX12_silence at h
  refine dn_of (lv := [some (.ref a0), some (.int a1), none, none, none, none]) (by decide) rfl rfl (Nat.le_of_ble_eq_true rfl) rfl ?_
  refine ev_aload_n dc_X12_silence_0 rfl ?_
  refine ev_iconst (v := 0) dc_X12_silence_1 (by decide) ?_
  refine ev_putI dc_X12_silence_2 fi_X12_3 rfl i0 ?_
  refine ev_aload_n dc_X12_silence_5 rfl ?_
  refine ev_iload_n dc_X12_silence_6 rfl ?_
  refine ev_iconst (v := 1) dc_X12_silence_7 (by decide) ?_
  refine ev_bipush (v := 60) dc_X12_silence_8 (by decide) ?_
  obtain ⟨q12, hq12, h⟩ := Option.bind_eq_some_iff.mp h
  refine ev_callS (av := [.int a1, .int (1 : Int32), .int (60 : Int32)]) (st := [.ref a0]) (st1 := [.int q12, .ref a0]) dc_X12_silence_10 (tX12_in hW hq12) mw_1656 cs_X12_in rfl rfl rfl (Nat.le_of_ble_eq_true rfl) (Nat.le_of_ble_eq_true rfl) ⟨Nat.le_refl _, Nat.le_refl _⟩ ?_
  refine ev_if_ne (tgt := 20) dc_X12_silence_13 (by decide) h (fun h => ?_) (fun h => ?_)
  · refine ev_iconst (v := 1) dc_X12_silence_16 (by decide) ?_
    refine ev_goto (tgt := 21) dc_X12_silence_17 (by decide) ?_
    exact ev_sub (tX12_silence_b21 hW i0 h) (And.intro rfl (And.intro rfl trivial))
  · refine ev_iconst (v := 0) dc_X12_silence_20 (by decide) ?_
    exact ev_sub (tX12_silence_b21 hW i0 h) (And.intro rfl (And.intro rfl trivial))
theorem dc_X12_similar_0 : Dc miX12_similar 0 (.aload_n 0) 1 1 := ⟨by decide +kernel, rfl⟩
theorem dc_X12_similar_1 : Dc miX12_similar 1 (.iconst 0) 1 2 := ⟨by decide +kernel, rfl⟩
theorem dc_X12_similar_2 : Dc miX12_similar 2 (.putfield 3) 3 5 := ⟨by decide +kernel, rfl⟩
theorem dc_X12_similar_5 : Dc miX12_similar 5 (.aload_n 0) 1 6 := ⟨by decide +kernel, rfl⟩
theorem dc_X12_similar_6 : Dc miX12_similar 6 (.aload_n 0) 1 7 := ⟨by decide +kernel, rfl⟩
theorem dc_X12_similar_7 : Dc miX12_similar 7 (.iload_n 1) 1 8 := ⟨by decide +kernel, rfl⟩
theorem dc_X12_similar_8 : Dc miX12_similar 8 (.invokevirtual 382) 3 11 := ⟨by decide +kernel, rfl⟩
theorem dc_X12_similar_11 : Dc miX12_similar 11 (.iconst 1) 1 12 := ⟨by decide +kernel, rfl⟩
theorem dc_X12_similar_12 : Dc miX12_similar 12 (.invokevirtual 274) 3 15 := ⟨by decide +kernel, rfl⟩
theorem dc_X12_similar_15 : Dc miX12_similar 15 (.ifCond .ne 26) 3 18 := ⟨by decide +kernel, rfl⟩
theorem dc_X12_similar_18 : Dc miX12_similar 18 (.aload_n 0) 1 19 := ⟨by decide +kernel, rfl⟩
theorem dc_X12_similar_19 : Dc miX12_similar 19 (.iload_n 2) 1 20 := ⟨by decide +kernel, rfl⟩
theorem dc_X12_similar_20 : Dc miX12_similar 20 (.iconst 0) 1 21 := ⟨by decide +kernel, rfl⟩
theorem dc_X12_similar_21 : Dc miX12_similar 21 (.bipush 6) 2 23 := ⟨by decide +kernel, rfl⟩
theorem dc_X12_similar_23 : Dc miX12_similar 23 (.invokestatic 70) 3 26 := ⟨by decide +kernel, rfl⟩
theorem dc_X12_similar_26 : Dc miX12_similar 26 (.ifCond .ne 7) 3 29 := ⟨by decide +kernel, rfl⟩
theorem dc_X12_similar_29 : Dc miX12_similar 29 (.iconst 1) 1 30 := ⟨by decide +kernel, rfl⟩
theorem dc_X12_similar_30 : Dc miX12_similar 30 (.goto 4) 3 33 := ⟨by decide +kernel, rfl⟩
theorem dc_X12_similar_33 : Dc miX12_similar 33 (.iconst 0) 1 34 := ⟨by decide +kernel, rfl⟩
theorem dc_X12_similar_34 : Dc miX12_similar 34 (.iconst 2) 1 35 := ⟨by decide +kernel, rfl⟩
theorem dc_X12_similar_35 : Dc miX12_similar 35 (.invokevirtual 274) 3 38 := ⟨by decide +kernel, rfl⟩
theorem dc_X12_similar_38 : Dc miX12_similar 38 (.ifCond .eq 5) 3 41 := ⟨by decide +kernel, rfl⟩
theorem dc_X12_similar_41 : Dc miX12_similar 41 (.iconst 0) 1 42 := ⟨by decide +kernel, rfl⟩
theorem dc_X12_similar_42 : Dc miX12_similar 42 (.ireturn) 1 43 := ⟨by decide +kernel, rfl⟩
theorem dc_X12_similar_43 : Dc miX12_similar 43 (.iconst 0) 1 44 := ⟨by decide +kernel, rfl⟩
theorem dc_X12_similar_44 : Dc miX12_similar 44 (.istore_n 3) 1 45 := ⟨by decide +kernel, rfl⟩
theorem dc_X12_similar_45 : Dc miX12_similar 45 (.iconst 0) 1 46 := ⟨by decide +kernel, rfl⟩
theorem dc_X12_similar_46 : Dc miX12_similar 46 (.istore 4) 2 48 := ⟨by decide +kernel, rfl⟩
theorem dc_X12_similar_48 : Dc miX12_similar 48 (.iload 4) 2 50 := ⟨by decide +kernel, rfl⟩
theorem dc_X12_similar_50 : Dc miX12_similar 50 (.aload_n 0) 1 51 := ⟨by decide +kernel, rfl⟩
theorem dc_X12_similar_51 : Dc miX12_similar 51 (.invokevirtual 66) 3 54 := ⟨by decide +kernel, rfl⟩
theorem dc_X12_similar_54 : Dc miX12_similar 54 (.if_icmp .ge 47) 3 57 := ⟨by decide +kernel, rfl⟩
theorem dc_X12_similar_57 : Dc miX12_similar 57 (.iload_n 3) 1 58 := ⟨by decide +kernel, rfl⟩
theorem dc_X12_similar_58 : Dc miX12_similar 58 (.iload 4) 2 60 := ⟨by decide +kernel, rfl⟩
theorem dc_X12_similar_60 : Dc miX12_similar 60 (.iload_n 1) 1 61 := ⟨by decide +kernel, rfl⟩
theorem dc_X12_similar_61 : Dc miX12_similar 61 (.if_icmp .eq 31) 3 64 := ⟨by decide +kernel, rfl⟩
theorem dc_X12_similar_64 : Dc miX12_similar 64 (.aload_n 0) 1 65 := ⟨by decide +kernel, rfl⟩
theorem dc_X12_similar_65 : Dc miX12_similar 65 (.iload 4) 2 67 := ⟨by decide +kernel, rfl⟩
theorem dc_X12_similar_67 : Dc miX12_similar 67 (.iconst 0) 1 68 := ⟨by decide +kernel, rfl⟩
theorem dc_X12_similar_68 : Dc miX12_similar 68 (.invokevirtual 277) 3 71 := ⟨by decide +kernel, rfl⟩
theorem dc_X12_similar_71 : Dc miX12_similar 71 (.aload_n 0) 1 72 := ⟨by decide +kernel, rfl⟩
theorem dc_X12_similar_72 : Dc miX12_similar 72 (.iload_n 1) 1 73 := ⟨by decide +kernel, rfl⟩
theorem dc_X12_similar_73 : Dc miX12_similar 73 (.iconst 0) 1 74 := ⟨by decide +kernel, rfl⟩
theorem dc_X12_similar_74 : Dc miX12_similar 74 (.invokevirtual 277) 3 77 := ⟨by decide +kernel, rfl⟩
theorem dc_X12_similar_77 : Dc miX12_similar 77 (.ixor) 1 78 := ⟨by decide +kernel, rfl⟩
theorem dc_X12_similar_78 : Dc miX12_similar 78 (.invokestatic 139) 3 81 := ⟨by decide +kernel, rfl⟩
theorem dc_X12_similar_81 : Dc miX12_similar 81 (.iload_n 2) 1 82 := ⟨by decide +kernel, rfl⟩
theorem dc_X12_similar_82 : Dc miX12_similar 82 (.if_icmp .gt 10) 3 85 := ⟨by decide +kernel, rfl⟩
theorem dc_X12_similar_85 : Dc miX12_similar 85 (.iconst 1) 1 86 := ⟨by decide +kernel, rfl⟩
theorem dc_X12_similar_86 : Dc miX12_similar 86 (.iload 4) 2 88 := ⟨by decide +kernel, rfl⟩
theorem dc_X12_similar_88 : Dc miX12_similar 88 (.ishl) 1 89 := ⟨by decide +kernel, rfl⟩
theorem dc_X12_similar_89 : Dc miX12_similar 89 (.goto 4) 3 92 := ⟨by decide +kernel, rfl⟩
theorem dc_X12_similar_92 : Dc miX12_similar 92 (.iconst 0) 1 93 := ⟨by decide +kernel, rfl⟩
theorem dc_X12_similar_93 : Dc miX12_similar 93 (.ior) 1 94 := ⟨by decide +kernel, rfl⟩
theorem dc_X12_similar_94 : Dc miX12_similar 94 (.istore_n 3) 1 95 := ⟨by decide +kernel, rfl⟩
theorem dc_X12_similar_95 : Dc miX12_similar 95 (.iinc 4 1) 3 98 := ⟨by decide +kernel, rfl⟩
theorem dc_X12_similar_98 : Dc miX12_similar 98 (.goto (-50)) 3 101 := ⟨by decide +kernel, rfl⟩
theorem dc_X12_similar_101 : Dc miX12_similar 101 (.iload_n 3) 1 102 := ⟨by decide +kernel, rfl⟩
theorem dc_X12_similar_102 : Dc miX12_similar 102 (.ireturn) 1 103 := ⟨by decide +kernel, rfl⟩
def fX12_similar_b92 (N : Nat) (G : pG) (k48 : Int32 × Int32 × pS → Option (Int32 × pS)) (a0 : Nat) (a1 : Int32) (a2 : Int32) (x4 : Int32) (y0 : Int32) (σ : pS) : Option (Int32 × pS) := k48 (y0 ||| (0 : Int32), x4 + (1 : Int32), σ)
set_option maxRecDepth 100000 in
set_option maxHeartbeats 4000000 in
theorem tX12_similar_b92 {N : Nat} {G : pG} {SK : Nat → Nat} {k48 : Int32 × Int32 × pS → Option (Int32 × pS)} {a0 : Nat} {a1 : Int32} {a2 : Int32} {x4 : Int32} {y0 : Int32} {σ : pS} {r : Int32 × pS} (hW : WT G) (i0 : Is G a0 11) (hk48 : ∀ b : Int32 × Int32 × pS, k48 b = some r → Ev miX12_similar (3, 0, 0) G (Zp G (some (.int r.1)) r.2) SK (0, 0) 48 [some (.ref a0), some (.int a1), some (.int a2), some (.int b.1), some (.int b.2.1)] [] b.2.2) (h : fX12_similar_b92 N G k48 a0 a1 a2 x4 y0 σ = some r) : Ev miX12_similar (3, 0, 0) G (Zp G (some (.int r.1)) r.2) SK (0, 0) 92 [some (.ref a0), some (.int a1), some (.int a2), none, some (.int x4)] [.int y0] σ := by
  unfold fX12_similar_b92 at h
  refine ev_iconst (v := 0) dc_X12_similar_92 (by decide) ?_
  refine ev_ior dc_X12_similar_93 ?_
  refine ev_istore_n (lv' := [some (.ref a0), some (.int a1), some (.int a2), some (.int (y0 ||| (0 : Int32))), some (.int x4)]) dc_X12_similar_94 rfl (by decide) rfl ?_
  refine ev_iinc (v := 1) (lv' := [some (.ref a0), some (.int a1), some (.int a2), some (.int (y0 ||| (0 : Int32))), some (.int (x4 + (1 : Int32)))]) dc_X12_similar_95 rfl (by decide) rfl (by decide) rfl ?_
  refine ev_goto (tgt := 48) dc_X12_similar_98 (by decide) ?_
  exact ev_sub (hk48 (y0 ||| (0 : Int32), x4 + (1 : Int32), σ) h) (And.intro rfl (And.intro rfl (And.intro rfl (And.intro rfl (And.intro rfl trivial)))))
def fX12_similar_b48 (N : Nat) (G : pG) (a0 : Nat) (a1 : Int32) (a2 : Int32) : (Int32 × Int32 × pS) → Option (Int32 × pS) := lp (fun (k48 : Int32 × Int32 × pS → Option (Int32 × pS)) (b : Int32 × Int32 × pS) => (fX12_names N G a0 b.2.2).bind (fun q1 => if q1 ≤ b.2.1 then (some (b.1, b.2.2)) else (if b.2.1 = a1 then (fX12_similar_b92 N G k48 a0 a1 a2 b.2.1 b.1 b.2.2) else ((fX12_ofName N G a0 b.2.1 (0 : Int32) b.2.2).bind (fun q2 => (fX12_ofName N G a0 a1 (0 : Int32) b.2.2).bind (fun q3 => (fJ6_bitCount_0f7a4 N G (q2 ^^^ q3) b.2.2).bind (fun q4 => if a2 < q4 then (fX12_similar_b92 N G k48 a0 a1 a2 b.2.1 b.1 b.2.2) else (k48 (b.1 ||| ((1 : Int32) <<< (b.2.1 &&& 31)), b.2.1 + (1 : Int32), b.2.2))))))))) N
set_option maxRecDepth 100000 in
set_option maxHeartbeats 4000000 in
theorem tX12_similar_b48 {N : Nat} {G : pG} {SK : Nat → Nat} {a0 : Nat} {a1 : Int32} {a2 : Int32} {b : Int32 × Int32 × pS} {r : Int32 × pS} (hW : WT G) (i0 : Is G a0 11) (h : fX12_similar_b48 N G a0 a1 a2 b = some r) : Ev miX12_similar (3, 0, 0) G (Zp G (some (.int r.1)) r.2) SK (0, 0) 48 [some (.ref a0), some (.int a1), some (.int a2), some (.int b.1), some (.int b.2.1)] [] b.2.2 := by
  unfold fX12_similar_b48 at h
  refine lp_ind (P := fun b r9 => r9 = r → Ev miX12_similar (3, 0, 0) G (Zp G (some (.int r.1)) r.2) SK (0, 0) 48 [some (.ref a0), some (.int a1), some (.int a2), some (.int b.1), some (.int b.2.1)] [] b.2.2) (fun k48 b r9 ih h9 e9 => ?_) N b r h rfl
  clear h
  subst e9
  have h := h9
  clear h9
  have hk48 : ∀ b : Int32 × Int32 × pS, k48 b = some r9 → Ev miX12_similar (3, 0, 0) G (Zp G (some (.int r9.1)) r9.2) SK (0, 0) 48 [some (.ref a0), some (.int a1), some (.int a2), some (.int b.1), some (.int b.2.1)] [] b.2.2 := fun b hb => ih b r9 hb rfl
  clear ih
  obtain ⟨x3, x4, σ⟩ := b
  dsimp only at h ⊢
  refine ev_iload dc_X12_similar_48 rfl ?_
  refine ev_aload_n dc_X12_similar_50 rfl ?_
  obtain ⟨q1, hq1, h⟩ := Option.bind_eq_some_iff.mp h
  refine ev_callV (av := []) (st := [.int x4]) (st1 := [.int q1, .int x4]) dc_X12_similar_51 (tX12_names hW i0 hq1) mw_1648 cy_X12_names i0 (by decide) rfl rfl rfl rfl (Nat.le_of_ble_eq_true rfl) (Nat.le_of_ble_eq_true rfl) ⟨Nat.le_refl _, Nat.le_refl _⟩ ?_
  refine ev_icmp_ge (tgt := 101) dc_X12_similar_54 (by decide) h (fun h => ?_) (fun h => ?_)
  · refine ev_iload_n dc_X12_similar_101 rfl ?_
    cases h
    exact ev_iret dc_X12_similar_102 rfl rfl rfl
  · refine ev_iload_n dc_X12_similar_57 rfl ?_
    refine ev_iload dc_X12_similar_58 rfl ?_
    refine ev_iload_n dc_X12_similar_60 rfl ?_
    refine ev_icmp_eq (tgt := 92) dc_X12_similar_61 (by decide) h (fun h => ?_) (fun h => ?_)
    · exact ev_sub (tX12_similar_b92 hW i0 hk48 h) (And.intro rfl (And.intro rfl (And.intro rfl (And.intro rfl trivial))))
    · refine ev_aload_n dc_X12_similar_64 rfl ?_
      refine ev_iload dc_X12_similar_65 rfl ?_
      refine ev_iconst (v := 0) dc_X12_similar_67 (by decide) ?_
      obtain ⟨q2, hq2, h⟩ := Option.bind_eq_some_iff.mp h
      refine ev_callV (av := [.int x4, .int (0 : Int32)]) (st := [.int x3]) (st1 := [.int q2, .int x3]) dc_X12_similar_68 (tX12_ofName hW i0 hq2) mw_1828 cy_X12_ofName i0 (by decide) rfl rfl rfl rfl (Nat.le_of_ble_eq_true rfl) (Nat.le_of_ble_eq_true rfl) ⟨Nat.le_refl _, Nat.le_refl _⟩ ?_
      refine ev_aload_n dc_X12_similar_71 rfl ?_
      refine ev_iload_n dc_X12_similar_72 rfl ?_
      refine ev_iconst (v := 0) dc_X12_similar_73 (by decide) ?_
      obtain ⟨q3, hq3, h⟩ := Option.bind_eq_some_iff.mp h
      refine ev_callV (av := [.int a1, .int (0 : Int32)]) (st := [.int q2, .int x3]) (st1 := [.int q3, .int q2, .int x3]) dc_X12_similar_74 (tX12_ofName hW i0 hq3) mw_1828 cy_X12_ofName i0 (by decide) rfl rfl rfl rfl (Nat.le_of_ble_eq_true rfl) (Nat.le_of_ble_eq_true rfl) ⟨Nat.le_refl _, Nat.le_refl _⟩ ?_
      refine ev_ixor dc_X12_similar_77 ?_
      obtain ⟨q4, hq4, h⟩ := Option.bind_eq_some_iff.mp h
      refine ev_callS (av := [.int (q2 ^^^ q3)]) (st := [.int x3]) (st1 := [.int q4, .int x3]) dc_X12_similar_78 (tJ6_bitCount_0f7a4 hW hq4) mw_1685 cs_J6_bitCount_0f7a4 rfl rfl rfl (Nat.le_of_ble_eq_true rfl) (Nat.le_of_ble_eq_true rfl) ⟨Nat.le_refl _, Nat.le_refl _⟩ ?_
      refine ev_iload_n dc_X12_similar_81 rfl ?_
      refine ev_icmp_gt (tgt := 92) dc_X12_similar_82 (by decide) h (fun h => ?_) (fun h => ?_)
      · exact ev_sub (tX12_similar_b92 hW i0 hk48 h) (And.intro rfl (And.intro rfl (And.intro rfl (And.intro rfl trivial))))
      · refine ev_iconst (v := 1) dc_X12_similar_85 (by decide) ?_
        refine ev_iload dc_X12_similar_86 rfl ?_
        refine ev_ishl dc_X12_similar_88 ?_
        refine ev_goto (tgt := 93) dc_X12_similar_89 (by decide) ?_
        refine ev_ior dc_X12_similar_93 ?_
        refine ev_istore_n (lv' := [some (.ref a0), some (.int a1), some (.int a2), some (.int (x3 ||| ((1 : Int32) <<< (x4 &&& 31)))), some (.int x4)]) dc_X12_similar_94 rfl (by decide) rfl ?_
        refine ev_iinc (v := 1) (lv' := [some (.ref a0), some (.int a1), some (.int a2), some (.int (x3 ||| ((1 : Int32) <<< (x4 &&& 31)))), some (.int (x4 + (1 : Int32)))]) dc_X12_similar_95 rfl (by decide) rfl (by decide) rfl ?_
        refine ev_goto (tgt := 48) dc_X12_similar_98 (by decide) ?_
        exact ev_sub (hk48 (x3 ||| ((1 : Int32) <<< (x4 &&& 31)), x4 + (1 : Int32), σ) h) (And.intro rfl (And.intro rfl (And.intro rfl (And.intro rfl (And.intro rfl trivial)))))
def fX12_similar_b34 (N : Nat) (G : pG) (a0 : Nat) (a1 : Int32) (a2 : Int32) (y1 : Int32) (σ : pS) : Option (Int32 × pS) := (fX12_throwsIf N G a0 y1 (2 : Int32) σ).bind (fun q5 => if q5.1 = 0 then (fX12_similar_b48 N G a0 a1 a2 ((0 : Int32), (0 : Int32), q5.2)) else (some ((0 : Int32), q5.2)))
set_option maxRecDepth 100000 in
set_option maxHeartbeats 4000000 in
theorem tX12_similar_b34 {N : Nat} {G : pG} {SK : Nat → Nat} {a0 : Nat} {a1 : Int32} {a2 : Int32} {y1 : Int32} {σ : pS} {r : Int32 × pS} (hW : WT G) (i0 : Is G a0 11) (h : fX12_similar_b34 N G a0 a1 a2 y1 σ = some r) : Ev miX12_similar (3, 0, 0) G (Zp G (some (.int r.1)) r.2) SK (0, 0) 34 [some (.ref a0), some (.int a1), some (.int a2), none, none] [.int y1, .ref a0] σ := by
  unfold fX12_similar_b34 at h
  refine ev_iconst (v := 2) dc_X12_similar_34 (by decide) ?_
  obtain ⟨q5, hq5, h⟩ := Option.bind_eq_some_iff.mp h
  refine ev_callV (av := [.int y1, .int (2 : Int32)]) (st := []) (st1 := [.int q5.1]) dc_X12_similar_35 (tX12_throwsIf hW i0 hq5) mw_1784 cy_X12_throwsIf i0 (by decide) rfl rfl rfl rfl (Nat.le_of_ble_eq_true rfl) (Nat.le_of_ble_eq_true rfl) ⟨Nat.le_refl _, Nat.le_refl _⟩ ?_
  refine ev_if_eq (tgt := 43) dc_X12_similar_38 (by decide) h (fun h => ?_) (fun h => ?_)
  · refine ev_iconst (v := 0) dc_X12_similar_43 (by decide) ?_
    refine ev_istore_n (lv' := [some (.ref a0), some (.int a1), some (.int a2), some (.int (0 : Int32)), none]) dc_X12_similar_44 rfl (by decide) rfl ?_
    refine ev_iconst (v := 0) dc_X12_similar_45 (by decide) ?_
    refine ev_istore (lv' := [some (.ref a0), some (.int a1), some (.int a2), some (.int (0 : Int32)), some (.int (0 : Int32))]) dc_X12_similar_46 rfl (by decide) rfl ?_
    exact ev_sub (tX12_similar_b48 (b := ((0 : Int32), (0 : Int32), q5.2)) hW i0 h) (And.intro rfl (And.intro rfl (And.intro rfl (And.intro rfl (And.intro rfl trivial)))))
  · refine ev_iconst (v := 0) dc_X12_similar_41 (by decide) ?_
    cases h
    exact ev_iret dc_X12_similar_42 rfl rfl rfl
def fX12_similar (N : Nat) (G : pG) (a0 : Nat) (a1 : Int32) (a2 : Int32) (σ : pS) : Option (Int32 × pS) := (fX12_noName N G a0 a1 (putF σ a0 0 (0 : Int32))).bind (fun q6 => (fX12_throwsIf N G a0 q6 (1 : Int32) (putF σ a0 0 (0 : Int32))).bind (fun q7 => if q7.1 = 0 then ((fX12_in N G a2 (0 : Int32) (6 : Int32) q7.2).bind (fun q8 => if q8 = 0 then (fX12_similar_b34 N G a0 a1 a2 (1 : Int32) q7.2) else (fX12_similar_b34 N G a0 a1 a2 (0 : Int32) q7.2))) else (some ((0 : Int32), q7.2))))
set_option maxRecDepth 100000 in
set_option maxHeartbeats 4000000 in
theorem tX12_similar {N : Nat} {G : pG} {SK : Nat → Nat} {a0 : Nat} {a1 : Int32} {a2 : Int32} {σ : pS} {r : Int32 × pS} (hW : WT G) (i0 : Is G a0 11) (h : fX12_similar N G a0 a1 a2 σ = some r) : Dn miX12_similar yX12_similar 3 G SK [.ref a0, .int a1, .int a2] σ (some (.int r.1)) r.2 := by
  unfold fX12_similar at h
  refine dn_of (lv := [some (.ref a0), some (.int a1), some (.int a2), none, none]) (by decide) rfl rfl (Nat.le_of_ble_eq_true rfl) rfl ?_
  refine ev_aload_n dc_X12_similar_0 rfl ?_
  refine ev_iconst (v := 0) dc_X12_similar_1 (by decide) ?_
  refine ev_putI dc_X12_similar_2 fi_X12_3 rfl i0 ?_
  refine ev_aload_n dc_X12_similar_5 rfl ?_
  refine ev_aload_n dc_X12_similar_6 rfl ?_
  refine ev_iload_n dc_X12_similar_7 rfl ?_
  obtain ⟨q6, hq6, h⟩ := Option.bind_eq_some_iff.mp h
  refine ev_callV (av := [.int a1]) (st := [.ref a0]) (st1 := [.int q6, .ref a0]) dc_X12_similar_8 (tX12_noName hW i0 hq6) mw_1946 cy_X12_noName i0 (by decide) rfl rfl rfl rfl (Nat.le_of_ble_eq_true rfl) (Nat.le_of_ble_eq_true rfl) ⟨Nat.le_refl _, Nat.le_refl _⟩ ?_
  refine ev_iconst (v := 1) dc_X12_similar_11 (by decide) ?_
  obtain ⟨q7, hq7, h⟩ := Option.bind_eq_some_iff.mp h
  refine ev_callV (av := [.int q6, .int (1 : Int32)]) (st := []) (st1 := [.int q7.1]) dc_X12_similar_12 (tX12_throwsIf hW i0 hq7) mw_1784 cy_X12_throwsIf i0 (by decide) rfl rfl rfl rfl (Nat.le_of_ble_eq_true rfl) (Nat.le_of_ble_eq_true rfl) ⟨Nat.le_refl _, Nat.le_refl _⟩ ?_
  refine ev_if_ne (tgt := 41) dc_X12_similar_15 (by decide) h (fun h => ?_) (fun h => ?_)
  · refine ev_aload_n dc_X12_similar_18 rfl ?_
    refine ev_iload_n dc_X12_similar_19 rfl ?_
    refine ev_iconst (v := 0) dc_X12_similar_20 (by decide) ?_
    refine ev_bipush (v := 6) dc_X12_similar_21 (by decide) ?_
    obtain ⟨q8, hq8, h⟩ := Option.bind_eq_some_iff.mp h
    refine ev_callS (av := [.int a2, .int (0 : Int32), .int (6 : Int32)]) (st := [.ref a0]) (st1 := [.int q8, .ref a0]) dc_X12_similar_23 (tX12_in hW hq8) mw_1656 cs_X12_in rfl rfl rfl (Nat.le_of_ble_eq_true rfl) (Nat.le_of_ble_eq_true rfl) ⟨Nat.le_refl _, Nat.le_refl _⟩ ?_
    refine ev_if_ne (tgt := 33) dc_X12_similar_26 (by decide) h (fun h => ?_) (fun h => ?_)
    · refine ev_iconst (v := 1) dc_X12_similar_29 (by decide) ?_
      refine ev_goto (tgt := 34) dc_X12_similar_30 (by decide) ?_
      exact ev_sub (tX12_similar_b34 hW i0 h) (And.intro rfl (And.intro rfl (And.intro rfl trivial)))
    · refine ev_iconst (v := 0) dc_X12_similar_33 (by decide) ?_
      exact ev_sub (tX12_similar_b34 hW i0 h) (And.intro rfl (And.intro rfl (And.intro rfl trivial)))
  · refine ev_iconst (v := 0) dc_X12_similar_41 (by decide) ?_
    cases h
    exact ev_iret dc_X12_similar_42 rfl rfl rfl
