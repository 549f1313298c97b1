theorem dc_X12_best_0 : Dc miX12_best 0 (.aload_n 0) 1 1 := ⟨by decide +kernel, rfl⟩
theorem dc_X12_best_1 : Dc miX12_best 1 (.iconst 0) 1 2 := ⟨by decide +kernel, rfl⟩
theorem dc_X12_best_2 : Dc miX12_best 2 (.putfield 3) 3 5 := ⟨by decide +kernel, rfl⟩
theorem dc_X12_best_5 : Dc miX12_best 5 (.iconst (-1)) 1 6 := ⟨by decide +kernel, rfl⟩
theorem dc_X12_best_6 : Dc miX12_best 6 (.istore_n 1) 1 7 := ⟨by decide +kernel, rfl⟩
theorem dc_X12_best_7 : Dc miX12_best 7 (.ldc_w 418) 3 10 := ⟨by decide +kernel, rfl⟩
theorem dc_X12_best_10 : Dc miX12_best 10 (.istore_n 2) 1 11 := ⟨by decide +kernel, rfl⟩
theorem dc_X12_best_11 : Dc miX12_best 11 (.iconst 0) 1 12 := ⟨by decide +kernel, rfl⟩
theorem dc_X12_best_12 : Dc miX12_best 12 (.istore_n 3) 1 13 := ⟨by decide +kernel, rfl⟩
theorem dc_X12_best_13 : Dc miX12_best 13 (.iload_n 3) 1 14 := ⟨by decide +kernel, rfl⟩
theorem dc_X12_best_14 : Dc miX12_best 14 (.bipush 6) 2 16 := ⟨by decide +kernel, rfl⟩
theorem dc_X12_best_16 : Dc miX12_best 16 (.if_icmp .ge 63) 3 19 := ⟨by decide +kernel, rfl⟩
theorem dc_X12_best_19 : Dc miX12_best 19 (.aload_n 0) 1 20 := ⟨by decide +kernel, rfl⟩
theorem dc_X12_best_20 : Dc miX12_best 20 (.invokevirtual 307) 3 23 := ⟨by decide +kernel, rfl⟩
theorem dc_X12_best_23 : Dc miX12_best 23 (.iconst 1) 1 24 := ⟨by decide +kernel, rfl⟩
theorem dc_X12_best_24 : Dc miX12_best 24 (.if_icmp .le 55) 3 27 := ⟨by decide +kernel, rfl⟩
theorem dc_X12_best_27 : Dc miX12_best 27 (.aload_n 0) 1 28 := ⟨by decide +kernel, rfl⟩
theorem dc_X12_best_28 : Dc miX12_best 28 (.getfield 13) 3 31 := ⟨by decide +kernel, rfl⟩
theorem dc_X12_best_31 : Dc miX12_best 31 (.bipush 12) 2 33 := ⟨by decide +kernel, rfl⟩
theorem dc_X12_best_33 : Dc miX12_best 33 (.iaload) 1 34 := ⟨by decide +kernel, rfl⟩
theorem dc_X12_best_34 : Dc miX12_best 34 (.aload_n 0) 1 35 := ⟨by decide +kernel, rfl⟩
theorem dc_X12_best_35 : Dc miX12_best 35 (.iload_n 3) 1 36 := ⟨by decide +kernel, rfl⟩
theorem dc_X12_best_36 : Dc miX12_best 36 (.invokevirtual 456) 3 39 := ⟨by decide +kernel, rfl⟩
theorem dc_X12_best_39 : Dc miX12_best 39 (.iand) 1 40 := ⟨by decide +kernel, rfl⟩
theorem dc_X12_best_40 : Dc miX12_best 40 (.invokestatic 139) 3 43 := ⟨by decide +kernel, rfl⟩
theorem dc_X12_best_43 : Dc miX12_best 43 (.istore 4) 2 45 := ⟨by decide +kernel, rfl⟩
theorem dc_X12_best_45 : Dc miX12_best 45 (.iload 4) 2 47 := ⟨by decide +kernel, rfl⟩
theorem dc_X12_best_47 : Dc miX12_best 47 (.aload_n 0) 1 48 := ⟨by decide +kernel, rfl⟩
theorem dc_X12_best_48 : Dc miX12_best 48 (.invokevirtual 307) 3 51 := ⟨by decide +kernel, rfl⟩
theorem dc_X12_best_51 : Dc miX12_best 51 (.iload 4) 2 53 := ⟨by decide +kernel, rfl⟩
theorem dc_X12_best_53 : Dc miX12_best 53 (.isub) 1 54 := ⟨by decide +kernel, rfl⟩
theorem dc_X12_best_54 : Dc miX12_best 54 (.invokestatic 323) 3 57 := ⟨by decide +kernel, rfl⟩
theorem dc_X12_best_57 : Dc miX12_best 57 (.istore 5) 2 59 := ⟨by decide +kernel, rfl⟩
theorem dc_X12_best_59 : Dc miX12_best 59 (.iload 5) 2 61 := ⟨by decide +kernel, rfl⟩
theorem dc_X12_best_61 : Dc miX12_best 61 (.iload_n 2) 1 62 := ⟨by decide +kernel, rfl⟩
theorem dc_X12_best_62 : Dc miX12_best 62 (.if_icmp .lt 6) 3 65 := ⟨by decide +kernel, rfl⟩
theorem dc_X12_best_65 : Dc miX12_best 65 (.goto 8) 3 68 := ⟨by decide +kernel, rfl⟩
theorem dc_X12_best_68 : Dc miX12_best 68 (.iload_n 3) 1 69 := ⟨by decide +kernel, rfl⟩
theorem dc_X12_best_69 : Dc miX12_best 69 (.istore_n 1) 1 70 := ⟨by decide +kernel, rfl⟩
theorem dc_X12_best_70 : Dc miX12_best 70 (.iload 5) 2 72 := ⟨by decide +kernel, rfl⟩
theorem dc_X12_best_72 : Dc miX12_best 72 (.istore_n 2) 1 73 := ⟨by decide +kernel, rfl⟩
theorem dc_X12_best_73 : Dc miX12_best 73 (.iinc 3 1) 3 76 := ⟨by decide +kernel, rfl⟩
theorem dc_X12_best_76 : Dc miX12_best 76 (.goto (-63)) 3 79 := ⟨by decide +kernel, rfl⟩
theorem dc_X12_best_79 : Dc miX12_best 79 (.iload_n 1) 1 80 := ⟨by decide +kernel, rfl⟩
theorem dc_X12_best_80 : Dc miX12_best 80 (.ireturn) 1 81 := ⟨by decide +kernel, rfl⟩
def fX12_best_b13 (N : Nat) (G : pG) (a0 : Nat) : (Int32 × Int32 × Int32 × pS) → Option (Int32 × pS) := lp (fun (k13 : Int32 × Int32 × Int32 × pS → Option (Int32 × pS)) (b : Int32 × Int32 × Int32 × pS) => if (6 : Int32) ≤ b.2.2.1 then (some (b.1, b.2.2.2)) else ((fX12_howMany N G a0 b.2.2.2).bind (fun q1 => if q1 ≤ (1 : Int32) then (some (b.1, b.2.2.2)) else (ck (inB (12 : Int32) (pN G (pR G a0 1))) ((fX12_whoHave N G a0 b.2.2.1 b.2.2.2).bind (fun q2 => (fJ6_bitCount_0f7a4 N G ((gA b.2.2.2 (pR G a0 1) (12 : Int32)) &&& q2) b.2.2.2).bind (fun q3 => (fX12_howMany N G a0 b.2.2.2).bind (fun q4 => if (jmax q3 (q4 - q3)) < b.2.1 then (k13 (b.2.2.1, jmax q3 (q4 - q3), b.2.2.1 + (1 : Int32), b.2.2.2)) else (k13 (b.1, b.2.1, b.2.2.1 + (1 : Int32), b.2.2.2)))))))))) N
set_option maxRecDepth 100000 in
set_option maxHeartbeats 4000000 in
theorem tX12_best_b13 {N : Nat} {G : pG} {SK : Nat → Nat} {a0 : Nat} {b : Int32 × Int32 × Int32 × pS} {r : Int32 × pS} (hW : WT G) (i0 : Is G a0 11) (h : fX12_best_b13 N G a0 b = some r) : Ev miX12_best (3, 0, 0) G (Zp G (some (.int r.1)) r.2) SK (0, 0) 13 [some (.ref a0), some (.int b.1), some (.int b.2.1), some (.int b.2.2.1), none, none] [] b.2.2.2 := by
  unfold fX12_best_b13 at h
  refine lp_ind (P := fun b r9 => r9 = r → Ev miX12_best (3, 0, 0) G (Zp G (some (.int r.1)) r.2) SK (0, 0) 13 [some (.ref a0), some (.int b.1), some (.int b.2.1), some (.int b.2.2.1), none, none] [] b.2.2.2) (fun k13 b r9 ih h9 e9 => ?_) N b r h rfl
  clear h
  subst e9
  have h := h9
  clear h9
  have hk13 : ∀ b : Int32 × Int32 × Int32 × pS, k13 b = some r9 → Ev miX12_best (3, 0, 0) G (Zp G (some (.int r9.1)) r9.2) SK (0, 0) 13 [some (.ref a0), some (.int b.1), some (.int b.2.1), some (.int b.2.2.1), none, none] [] b.2.2.2 := fun b hb => ih b r9 hb rfl
  clear ih
  obtain ⟨x1, x2, x3, σ⟩ := b
  dsimp only at h ⊢
  refine ev_iload_n dc_X12_best_13 rfl ?_
  refine ev_bipush (v := 6) dc_X12_best_14 (by decide) ?_
  refine ev_icmp_ge (tgt := 79) dc_X12_best_16 (by decide) h (fun h => ?_) (fun h => ?_)
  · refine ev_iload_n dc_X12_best_79 rfl ?_
    cases h
    exact ev_iret dc_X12_best_80 rfl rfl rfl
  · refine ev_aload_n dc_X12_best_19 rfl ?_
    obtain ⟨q1, hq1, h⟩ := Option.bind_eq_some_iff.mp h
    refine ev_callV (av := []) (st := []) (st1 := [.int q1]) dc_X12_best_20 (tX12_howMany hW i0 hq1) mw_1808 cy_X12_howMany i0 (by decide) rfl rfl rfl rfl (Nat.le_of_ble_eq_true rfl) (Nat.le_of_ble_eq_true rfl) ⟨Nat.le_refl _, Nat.le_refl _⟩ ?_
    refine ev_iconst (v := 1) dc_X12_best_23 (by decide) ?_
    refine ev_icmp_le (tgt := 79) dc_X12_best_24 (by decide) h (fun h => ?_) (fun h => ?_)
    · refine ev_iload_n dc_X12_best_79 rfl ?_
      cases h
      exact ev_iret dc_X12_best_80 rfl rfl rfl
    · refine ev_aload_n dc_X12_best_27 rfl ?_
      refine ev_getR dc_X12_best_28 fi_X12_13 rfl i0 ?_
      refine ev_bipush (v := 12) dc_X12_best_31 (by decide) ?_
      refine ev_iald dc_X12_best_33 (wt hW i0 1 rfl rfl) h (fun h => ?_)
      refine ev_aload_n dc_X12_best_34 rfl ?_
      refine ev_iload_n dc_X12_best_35 rfl ?_
      obtain ⟨q2, hq2, h⟩ := Option.bind_eq_some_iff.mp h
      refine ev_callV (av := [.int x3]) (st := [.int (gA σ (pR G a0 1) (12 : Int32))]) (st1 := [.int q2, .int (gA σ (pR G a0 1) (12 : Int32))]) dc_X12_best_36 (tX12_whoHave hW i0 hq2) mw_2090 cy_X12_whoHave i0 (by decide) rfl rfl rfl rfl (Nat.le_of_ble_eq_true rfl) (Nat.le_of_ble_eq_true rfl) ⟨Nat.le_refl _, Nat.le_refl _⟩ ?_
      refine ev_iand dc_X12_best_39 ?_
      obtain ⟨q3, hq3, h⟩ := Option.bind_eq_some_iff.mp h
      refine ev_callS (av := [.int ((gA σ (pR G a0 1) (12 : Int32)) &&& q2)]) (st := []) (st1 := [.int q3]) dc_X12_best_40 (tJ6_bitCount_0f7a4 hW hq3) mw_1685 cs_J6_bitCount_0f7a4 rfl rfl rfl (Nat.le_of_ble_eq_true rfl) (Nat.le_of_ble_eq_true rfl) ⟨Nat.le_refl _, Nat.le_refl _⟩ ?_
      refine ev_istore (lv' := [some (.ref a0), some (.int x1), some (.int x2), some (.int x3), some (.int q3), none]) dc_X12_best_43 rfl (by decide) rfl ?_
      refine ev_iload dc_X12_best_45 rfl ?_
      refine ev_aload_n dc_X12_best_47 rfl ?_
      obtain ⟨q4, hq4, h⟩ := Option.bind_eq_some_iff.mp h
      refine ev_callV (av := []) (st := [.int q3]) (st1 := [.int q4, .int q3]) dc_X12_best_48 (tX12_howMany hW i0 hq4) mw_1808 cy_X12_howMany i0 (by decide) rfl rfl rfl rfl (Nat.le_of_ble_eq_true rfl) (Nat.le_of_ble_eq_true rfl) ⟨Nat.le_refl _, Nat.le_refl _⟩ ?_
      refine ev_iload dc_X12_best_51 rfl ?_
      refine ev_isub dc_X12_best_53 ?_
      refine ev_max dc_X12_best_54 mw_1844 (Nat.le_of_ble_eq_true rfl) (Nat.le_of_ble_eq_true rfl) ⟨Nat.le_refl _, Nat.le_refl _⟩ ?_
      refine ev_istore (lv' := [some (.ref a0), some (.int x1), some (.int x2), some (.int x3), some (.int q3), some (.int (jmax q3 (q4 - q3)))]) dc_X12_best_57 rfl (by decide) rfl ?_
      refine ev_iload dc_X12_best_59 rfl ?_
      refine ev_iload_n dc_X12_best_61 rfl ?_
      refine ev_icmp_lt (tgt := 68) dc_X12_best_62 (by decide) h (fun h => ?_) (fun h => ?_)
      · refine ev_iload_n dc_X12_best_68 rfl ?_
        refine ev_istore_n (lv' := [some (.ref a0), some (.int x3), some (.int x2), some (.int x3), some (.int q3), some (.int (jmax q3 (q4 - q3)))]) dc_X12_best_69 rfl (by decide) rfl ?_
        refine ev_iload dc_X12_best_70 rfl ?_
        refine ev_istore_n (lv' := [some (.ref a0), some (.int x3), some (.int (jmax q3 (q4 - q3))), some (.int x3), some (.int q3), some (.int (jmax q3 (q4 - q3)))]) dc_X12_best_72 rfl (by decide) rfl ?_
        refine ev_iinc (v := 1) (lv' := [some (.ref a0), some (.int x3), some (.int (jmax q3 (q4 - q3))), some (.int (x3 + (1 : Int32))), some (.int q3), some (.int (jmax q3 (q4 - q3)))]) dc_X12_best_73 rfl (by decide) rfl (by decide) rfl ?_
        refine ev_goto (tgt := 13) dc_X12_best_76 (by decide) ?_
        exact ev_sub (hk13 (x3, jmax q3 (q4 - q3), x3 + (1 : Int32), σ) h) (And.intro rfl (And.intro rfl (And.intro rfl (And.intro rfl trivial))))
      · refine ev_goto (tgt := 73) dc_X12_best_65 (by decide) ?_
        refine ev_iinc (v := 1) (lv' := [some (.ref a0), some (.int x1), some (.int x2), some (.int (x3 + (1 : Int32))), some (.int q3), some (.int (jmax q3 (q4 - q3)))]) dc_X12_best_73 rfl (by decide) rfl (by decide) rfl ?_
        refine ev_goto (tgt := 13) dc_X12_best_76 (by decide) ?_
        exact ev_sub (hk13 (x1, x2, x3 + (1 : Int32), σ) h) (And.intro rfl (And.intro rfl (And.intro rfl (And.intro rfl trivial))))
def fX12_best (N : Nat) (G : pG) (a0 : Nat) (σ : pS) : Option (Int32 × pS) := fX12_best_b13 N G a0 ((-1 : Int32), (1000000 : Int32), (0 : Int32), putF σ a0 0 (0 : Int32))
set_option maxRecDepth 100000 in
set_option maxHeartbeats 4000000 in
theorem tX12_best {N : Nat} {G : pG} {SK : Nat → Nat} {a0 : Nat} {σ : pS} {r : Int32 × pS} (hW : WT G) (i0 : Is G a0 11) (h : fX12_best N G a0 σ = some r) : Dn miX12_best yX12_best 3 G SK [.ref a0] σ (some (.int r.1)) r.2 := by
  unfold fX12_best at h
  refine dn_of (lv := [some (.ref a0), none, none, none, none, none]) (by decide) rfl rfl (Nat.le_of_ble_eq_true rfl) rfl ?_
  refine ev_aload_n dc_X12_best_0 rfl ?_
  refine ev_iconst (v := 0) dc_X12_best_1 (by decide) ?_
  refine ev_putI dc_X12_best_2 fi_X12_3 rfl i0 ?_
  refine ev_iconst (v := (-1)) dc_X12_best_5 (by decide) ?_
  refine ev_istore_n (lv' := [some (.ref a0), some (.int (-1 : Int32)), none, none, none, none]) dc_X12_best_6 rfl (by decide) rfl ?_
  refine ev_ldcw (v := 1000000) dc_X12_best_7 mw_2025 ?_
  refine ev_istore_n (lv' := [some (.ref a0), some (.int (-1 : Int32)), some (.int (1000000 : Int32)), none, none, none]) dc_X12_best_10 rfl (by decide) rfl ?_
  refine ev_iconst (v := 0) dc_X12_best_11 (by decide) ?_
  refine ev_istore_n (lv' := [some (.ref a0), some (.int (-1 : Int32)), some (.int (1000000 : Int32)), some (.int (0 : Int32)), none, none]) dc_X12_best_12 rfl (by decide) rfl ?_
  exact ev_sub (tX12_best_b13 (b := ((-1 : Int32), (1000000 : Int32), (0 : Int32), putF σ a0 0 (0 : Int32))) hW i0 h) (And.intro rfl (And.intro rfl (And.intro rfl (And.intro rfl trivial))))
theorem dc_X12_bestDeed_0 : Dc miX12_bestDeed 0 (.iconst (-1)) 1 1 := ⟨by decide +kernel, rfl⟩
theorem dc_X12_bestDeed_1 : Dc miX12_bestDeed 1 (.istore_n 3) 1 2 := ⟨by decide +kernel, rfl⟩
theorem dc_X12_bestDeed_2 : Dc miX12_bestDeed 2 (.aload_n 0) 1 3 := ⟨by decide +kernel, rfl⟩
theorem dc_X12_bestDeed_3 : Dc miX12_bestDeed 3 (.iload_n 1) 1 4 := ⟨by decide +kernel, rfl⟩
theorem dc_X12_bestDeed_4 : Dc miX12_bestDeed 4 (.iconst 1) 1 5 := ⟨by decide +kernel, rfl⟩
theorem dc_X12_bestDeed_5 : Dc miX12_bestDeed 5 (.iadd) 1 6 := ⟨by decide +kernel, rfl⟩
theorem dc_X12_bestDeed_6 : Dc miX12_bestDeed 6 (.iload_n 2) 1 7 := ⟨by decide +kernel, rfl⟩
theorem dc_X12_bestDeed_7 : Dc miX12_bestDeed 7 (.invokevirtual 415) 3 10 := ⟨by decide +kernel, rfl⟩
theorem dc_X12_bestDeed_10 : Dc miX12_bestDeed 10 (.istore 4) 2 12 := ⟨by decide +kernel, rfl⟩
theorem dc_X12_bestDeed_12 : Dc miX12_bestDeed 12 (.iconst 0) 1 13 := ⟨by decide +kernel, rfl⟩
theorem dc_X12_bestDeed_13 : Dc miX12_bestDeed 13 (.istore 5) 2 15 := ⟨by decide +kernel, rfl⟩
theorem dc_X12_bestDeed_15 : Dc miX12_bestDeed 15 (.iload 5) 2 17 := ⟨by decide +kernel, rfl⟩
theorem dc_X12_bestDeed_17 : Dc miX12_bestDeed 17 (.aload_n 0) 1 18 := ⟨by decide +kernel, rfl⟩
theorem dc_X12_bestDeed_18 : Dc miX12_bestDeed 18 (.invokevirtual 80) 3 21 := ⟨by decide +kernel, rfl⟩
theorem dc_X12_bestDeed_21 : Dc miX12_bestDeed 21 (.if_icmp .ge 65) 3 24 := ⟨by decide +kernel, rfl⟩
theorem dc_X12_bestDeed_24 : Dc miX12_bestDeed 24 (.aload_n 0) 1 25 := ⟨by decide +kernel, rfl⟩
theorem dc_X12_bestDeed_25 : Dc miX12_bestDeed 25 (.iload_n 2) 1 26 := ⟨by decide +kernel, rfl⟩
theorem dc_X12_bestDeed_26 : Dc miX12_bestDeed 26 (.aload_n 0) 1 27 := ⟨by decide +kernel, rfl⟩
theorem dc_X12_bestDeed_27 : Dc miX12_bestDeed 27 (.getfield 13) 3 30 := ⟨by decide +kernel, rfl⟩
theorem dc_X12_bestDeed_30 : Dc miX12_bestDeed 30 (.bipush 9) 2 32 := ⟨by decide +kernel, rfl⟩
theorem dc_X12_bestDeed_32 : Dc miX12_bestDeed 32 (.iaload) 1 33 := ⟨by decide +kernel, rfl⟩
theorem dc_X12_bestDeed_33 : Dc miX12_bestDeed 33 (.iload_n 1) 1 34 := ⟨by decide +kernel, rfl⟩
theorem dc_X12_bestDeed_34 : Dc miX12_bestDeed 34 (.iadd) 1 35 := ⟨by decide +kernel, rfl⟩
theorem dc_X12_bestDeed_35 : Dc miX12_bestDeed 35 (.aload_n 0) 1 36 := ⟨by decide +kernel, rfl⟩
theorem dc_X12_bestDeed_36 : Dc miX12_bestDeed 36 (.invokevirtual 307) 3 39 := ⟨by decide +kernel, rfl⟩
theorem dc_X12_bestDeed_39 : Dc miX12_bestDeed 39 (.invokevirtual 310) 3 42 := ⟨by decide +kernel, rfl⟩
theorem dc_X12_bestDeed_42 : Dc miX12_bestDeed 42 (.aload_n 0) 1 43 := ⟨by decide +kernel, rfl⟩
theorem dc_X12_bestDeed_43 : Dc miX12_bestDeed 43 (.iload_n 1) 1 44 := ⟨by decide +kernel, rfl⟩
theorem dc_X12_bestDeed_44 : Dc miX12_bestDeed 44 (.iconst 1) 1 45 := ⟨by decide +kernel, rfl⟩
theorem dc_X12_bestDeed_45 : Dc miX12_bestDeed 45 (.iadd) 1 46 := ⟨by decide +kernel, rfl⟩
theorem dc_X12_bestDeed_46 : Dc miX12_bestDeed 46 (.aload_n 0) 1 47 := ⟨by decide +kernel, rfl⟩
theorem dc_X12_bestDeed_47 : Dc miX12_bestDeed 47 (.iload 5) 2 49 := ⟨by decide +kernel, rfl⟩
theorem dc_X12_bestDeed_49 : Dc miX12_bestDeed 49 (.invokevirtual 364) 3 52 := ⟨by decide +kernel, rfl⟩
theorem dc_X12_bestDeed_52 : Dc miX12_bestDeed 52 (.invokevirtual 415) 3 55 := ⟨by decide +kernel, rfl⟩
theorem dc_X12_bestDeed_55 : Dc miX12_bestDeed 55 (.istore 6) 2 57 := ⟨by decide +kernel, rfl⟩
theorem dc_X12_bestDeed_57 : Dc miX12_bestDeed 57 (.iload 6) 2 59 := ⟨by decide +kernel, rfl⟩
theorem dc_X12_bestDeed_59 : Dc miX12_bestDeed 59 (.iload 4) 2 61 := ⟨by decide +kernel, rfl⟩
theorem dc_X12_bestDeed_61 : Dc miX12_bestDeed 61 (.if_icmp .le 8) 3 64 := ⟨by decide +kernel, rfl⟩
theorem dc_X12_bestDeed_64 : Dc miX12_bestDeed 64 (.iload 5) 2 66 := ⟨by decide +kernel, rfl⟩
theorem dc_X12_bestDeed_66 : Dc miX12_bestDeed 66 (.goto 4) 3 69 := ⟨by decide +kernel, rfl⟩
theorem dc_X12_bestDeed_69 : Dc miX12_bestDeed 69 (.iload_n 3) 1 70 := ⟨by decide +kernel, rfl⟩
theorem dc_X12_bestDeed_70 : Dc miX12_bestDeed 70 (.istore_n 3) 1 71 := ⟨by decide +kernel, rfl⟩
theorem dc_X12_bestDeed_71 : Dc miX12_bestDeed 71 (.iload 4) 2 73 := ⟨by decide +kernel, rfl⟩
theorem dc_X12_bestDeed_73 : Dc miX12_bestDeed 73 (.iload 6) 2 75 := ⟨by decide +kernel, rfl⟩
theorem dc_X12_bestDeed_75 : Dc miX12_bestDeed 75 (.invokestatic 323) 3 78 := ⟨by decide +kernel, rfl⟩
theorem dc_X12_bestDeed_78 : Dc miX12_bestDeed 78 (.istore 4) 2 80 := ⟨by decide +kernel, rfl⟩
theorem dc_X12_bestDeed_80 : Dc miX12_bestDeed 80 (.iinc 5 1) 3 83 := ⟨by decide +kernel, rfl⟩
theorem dc_X12_bestDeed_83 : Dc miX12_bestDeed 83 (.goto (-68)) 3 86 := ⟨by decide +kernel, rfl⟩
theorem dc_X12_bestDeed_86 : Dc miX12_bestDeed 86 (.iload_n 3) 1 87 := ⟨by decide +kernel, rfl⟩
theorem dc_X12_bestDeed_87 : Dc miX12_bestDeed 87 (.ireturn) 1 88 := ⟨by decide +kernel, rfl⟩
def fX12_bestDeed_b70 (N : Nat) (G : pG) (k15 : Int32 × Int32 × Int32 × pS → Option (Int32 × pS)) (a0 : Nat) (a1 : Int32) (a2 : Int32) (x4 : Int32) (x5 : Int32) (x6 : Int32) (y0 : Int32) (σ : pS) : Option (Int32 × pS) := k15 (y0, jmax x4 x6, x5 + (1 : Int32), σ)
set_option maxRecDepth 100000 in
set_option maxHeartbeats 4000000 in
theorem tX12_bestDeed_b70 {N : Nat} {G : pG} {SK : Nat → Nat} {k15 : Int32 × Int32 × Int32 × pS → Option (Int32 × pS)} {a0 : Nat} {a1 : Int32} {a2 : Int32} {x4 : Int32} {x5 : Int32} {x6 : Int32} {y0 : Int32} {σ : pS} {r : Int32 × pS} (hW : WT G) (i0 : Is G a0 11) (hk15 : ∀ b : Int32 × Int32 × Int32 × pS, k15 b = some r → Ev miX12_bestDeed (6, 0, 0) G (Zp G (some (.int r.1)) r.2) SK (0, 0) 15 [some (.ref a0), some (.int a1), some (.int a2), some (.int b.1), some (.int b.2.1), some (.int b.2.2.1), none] [] b.2.2.2) (h : fX12_bestDeed_b70 N G k15 a0 a1 a2 x4 x5 x6 y0 σ = some r) : Ev miX12_bestDeed (6, 0, 0) G (Zp G (some (.int r.1)) r.2) SK (0, 0) 70 [some (.ref a0), some (.int a1), some (.int a2), none, some (.int x4), some (.int x5), some (.int x6)] [.int y0] σ := by
  unfold fX12_bestDeed_b70 at h
  refine ev_istore_n (lv' := [some (.ref a0), some (.int a1), some (.int a2), some (.int y0), some (.int x4), some (.int x5), some (.int x6)]) dc_X12_bestDeed_70 rfl (by decide) rfl ?_
  refine ev_iload dc_X12_bestDeed_71 rfl ?_
  refine ev_iload dc_X12_bestDeed_73 rfl ?_
  refine ev_max dc_X12_bestDeed_75 mw_1844 (Nat.le_of_ble_eq_true rfl) (Nat.le_of_ble_eq_true rfl) ⟨Nat.le_refl _, Nat.le_refl _⟩ ?_
  refine ev_istore (lv' := [some (.ref a0), some (.int a1), some (.int a2), some (.int y0), some (.int (jmax x4 x6)), some (.int x5), some (.int x6)]) dc_X12_bestDeed_78 rfl (by decide) rfl ?_
  refine ev_iinc (v := 1) (lv' := [some (.ref a0), some (.int a1), some (.int a2), some (.int y0), some (.int (jmax x4 x6)), some (.int (x5 + (1 : Int32))), some (.int x6)]) dc_X12_bestDeed_80 rfl (by decide) rfl (by decide) rfl ?_
  refine ev_goto (tgt := 15) dc_X12_bestDeed_83 (by decide) ?_
  exact ev_sub (hk15 (y0, jmax x4 x6, x5 + (1 : Int32), σ) h) (And.intro rfl (And.intro rfl (And.intro rfl (And.intro rfl (And.intro rfl (And.intro rfl trivial))))))
def fX12_bestDeed_b15 (N : Nat) (G : pG) (a0 : Nat) (a1 : Int32) (a2 : Int32) : (Int32 × Int32 × Int32 × pS) → Option (Int32 × pS) := lp (fun (k15 : Int32 × Int32 × Int32 × pS → Option (Int32 × pS)) (b : Int32 × Int32 × Int32 × pS) => (fX12_deeds N G a0 b.2.2.2).bind (fun q1 => if q1 ≤ b.2.2.1 then (some (b.1, b.2.2.2)) else (ck (inB (9 : Int32) (pN G (pR G a0 1))) ((fX12_howMany N G a0 b.2.2.2).bind (fun q2 => (fX12_looks N G a0 a2 ((gA b.2.2.2 (pR G a0 1) (9 : Int32)) + a1) q2 b.2.2.2).bind (fun q3 => (fX12_behindDeed N G a0 b.2.2.1 q3).bind (fun q4 => (fX12_tillOf N G a0 (a1 + (1 : Int32)) q4.1 q4.2).bind (fun q5 => if q5 ≤ b.2.1 then (fX12_bestDeed_b70 N G k15 a0 a1 a2 b.2.1 b.2.2.1 q5 b.1 q4.2) else (fX12_bestDeed_b70 N G k15 a0 a1 a2 b.2.1 b.2.2.1 q5 b.2.2.1 q4.2))))))))) N
set_option maxRecDepth 100000 in
set_option maxHeartbeats 4000000 in
theorem tX12_bestDeed_b15 {N : Nat} {G : pG} {SK : Nat → Nat} {a0 : Nat} {a1 : Int32} {a2 : Int32} {b : Int32 × Int32 × Int32 × pS} {r : Int32 × pS} (hW : WT G) (i0 : Is G a0 11) (h : fX12_bestDeed_b15 N G a0 a1 a2 b = some r) : Ev miX12_bestDeed (6, 0, 0) G (Zp G (some (.int r.1)) r.2) SK (0, 0) 15 [some (.ref a0), some (.int a1), some (.int a2), some (.int b.1), some (.int b.2.1), some (.int b.2.2.1), none] [] b.2.2.2 := by
  unfold fX12_bestDeed_b15 at h
  refine lp_ind (P := fun b r9 => r9 = r → Ev miX12_bestDeed (6, 0, 0) G (Zp G (some (.int r.1)) r.2) SK (0, 0) 15 [some (.ref a0), some (.int a1), some (.int a2), some (.int b.1), some (.int b.2.1), some (.int b.2.2.1), none] [] b.2.2.2) (fun k15 b r9 ih h9 e9 => ?_) N b r h rfl
  clear h
  subst e9
  have h := h9
  clear h9
  have hk15 : ∀ b : Int32 × Int32 × Int32 × pS, k15 b = some r9 → Ev miX12_bestDeed (6, 0, 0) G (Zp G (some (.int r9.1)) r9.2) SK (0, 0) 15 [some (.ref a0), some (.int a1), some (.int a2), some (.int b.1), some (.int b.2.1), some (.int b.2.2.1), none] [] b.2.2.2 := fun b hb => ih b r9 hb rfl
  clear ih
  obtain ⟨x3, x4, x5, σ⟩ := b
  dsimp only at h ⊢
  refine ev_iload dc_X12_bestDeed_15 rfl ?_
  refine ev_aload_n dc_X12_bestDeed_17 rfl ?_
  obtain ⟨q1, hq1, h⟩ := Option.bind_eq_some_iff.mp h
  refine ev_callV (av := []) (st := [.int x5]) (st1 := [.int q1, .int x5]) dc_X12_bestDeed_18 (tX12_deeds hW i0 hq1) mw_1695 cy_X12_deeds i0 (by decide) rfl rfl rfl rfl (Nat.le_of_ble_eq_true rfl) (Nat.le_of_ble_eq_true rfl) ⟨Nat.le_refl _, Nat.le_refl _⟩ ?_
  refine ev_icmp_ge (tgt := 86) dc_X12_bestDeed_21 (by decide) h (fun h => ?_) (fun h => ?_)
  · refine ev_iload_n dc_X12_bestDeed_86 rfl ?_
    cases h
    exact ev_iret dc_X12_bestDeed_87 rfl rfl rfl
  · refine ev_aload_n dc_X12_bestDeed_24 rfl ?_
    refine ev_iload_n dc_X12_bestDeed_25 rfl ?_
    refine ev_aload_n dc_X12_bestDeed_26 rfl ?_
    refine ev_getR dc_X12_bestDeed_27 fi_X12_13 rfl i0 ?_
    refine ev_bipush (v := 9) dc_X12_bestDeed_30 (by decide) ?_
    refine ev_iald dc_X12_bestDeed_32 (wt hW i0 1 rfl rfl) h (fun h => ?_)
    refine ev_iload_n dc_X12_bestDeed_33 rfl ?_
    refine ev_iadd dc_X12_bestDeed_34 ?_
    refine ev_aload_n dc_X12_bestDeed_35 rfl ?_
    obtain ⟨q2, hq2, h⟩ := Option.bind_eq_some_iff.mp h
    refine ev_callV (av := []) (st := [.int ((gA σ (pR G a0 1) (9 : Int32)) + a1), .int a2, .ref a0]) (st1 := [.int q2, .int ((gA σ (pR G a0 1) (9 : Int32)) + a1), .int a2, .ref a0]) dc_X12_bestDeed_36 (tX12_howMany hW i0 hq2) mw_1808 cy_X12_howMany i0 (by decide) rfl rfl rfl rfl (Nat.le_of_ble_eq_true rfl) (Nat.le_of_ble_eq_true rfl) ⟨Nat.le_refl _, Nat.le_refl _⟩ ?_
    obtain ⟨q3, hq3, h⟩ := Option.bind_eq_some_iff.mp h
    refine ev_callV (av := [.int a2, .int ((gA σ (pR G a0 1) (9 : Int32)) + a1), .int q2]) (st := []) (st1 := []) dc_X12_bestDeed_39 (tX12_looks hW i0 hq3) mw_1812 cy_X12_looks i0 (by decide) rfl rfl rfl rfl (Nat.le_of_ble_eq_true rfl) (Nat.le_of_ble_eq_true rfl) ⟨Nat.le_refl _, Nat.le_refl _⟩ ?_
    refine ev_aload_n dc_X12_bestDeed_42 rfl ?_
    refine ev_iload_n dc_X12_bestDeed_43 rfl ?_
    refine ev_iconst (v := 1) dc_X12_bestDeed_44 (by decide) ?_
    refine ev_iadd dc_X12_bestDeed_45 ?_
    refine ev_aload_n dc_X12_bestDeed_46 rfl ?_
    refine ev_iload dc_X12_bestDeed_47 rfl ?_
    obtain ⟨q4, hq4, h⟩ := Option.bind_eq_some_iff.mp h
    refine ev_callV (av := [.int x5]) (st := [.int (a1 + (1 : Int32)), .ref a0]) (st1 := [.int q4.1, .int (a1 + (1 : Int32)), .ref a0]) dc_X12_bestDeed_49 (tX12_behindDeed hW i0 hq4) mw_1930 cy_X12_behindDeed i0 (by decide) rfl rfl rfl rfl (Nat.le_of_ble_eq_true rfl) (Nat.le_of_ble_eq_true rfl) ⟨Nat.le_refl _, Nat.le_refl _⟩ ?_
    obtain ⟨q5, hq5, h⟩ := Option.bind_eq_some_iff.mp h
    refine ev_callV (av := [.int (a1 + (1 : Int32)), .int q4.1]) (st := []) (st1 := [.int q5]) dc_X12_bestDeed_52 (tX12_tillOf hW i0 hq5) mw_2038 cy_X12_tillOf i0 (by decide) rfl rfl rfl rfl (Nat.le_of_ble_eq_true rfl) (Nat.le_of_ble_eq_true rfl) ⟨Nat.le_refl _, Nat.le_refl _⟩ ?_
    refine ev_istore (lv' := [some (.ref a0), some (.int a1), some (.int a2), some (.int x3), some (.int x4), some (.int x5), some (.int q5)]) dc_X12_bestDeed_55 rfl (by decide) rfl ?_
    refine ev_iload dc_X12_bestDeed_57 rfl ?_
    refine ev_iload dc_X12_bestDeed_59 rfl ?_
    refine ev_icmp_le (tgt := 69) dc_X12_bestDeed_61 (by decide) h (fun h => ?_) (fun h => ?_)
    · refine ev_iload_n dc_X12_bestDeed_69 rfl ?_
      exact ev_sub (tX12_bestDeed_b70 hW i0 hk15 h) (And.intro rfl (And.intro rfl (And.intro rfl (And.intro rfl (And.intro rfl (And.intro rfl trivial))))))
    · refine ev_iload dc_X12_bestDeed_64 rfl ?_
      refine ev_goto (tgt := 70) dc_X12_bestDeed_66 (by decide) ?_
      exact ev_sub (tX12_bestDeed_b70 hW i0 hk15 h) (And.intro rfl (And.intro rfl (And.intro rfl (And.intro rfl (And.intro rfl (And.intro rfl trivial))))))
def fX12_bestDeed (N : Nat) (G : pG) (a0 : Nat) (a1 : Int32) (a2 : Int32) (σ : pS) : Option (Int32 × pS) := (fX12_tillOf N G a0 (a1 + (1 : Int32)) a2 σ).bind (fun q6 => fX12_bestDeed_b15 N G a0 a1 a2 ((-1 : Int32), q6, (0 : Int32), σ))
set_option maxRecDepth 100000 in
set_option maxHeartbeats 4000000 in
theorem tX12_bestDeed {N : Nat} {G : pG} {SK : Nat → Nat} {a0 : Nat} {a1 : Int32} {a2 : Int32} {σ : pS} {r : Int32 × pS} (hW : WT G) (i0 : Is G a0 11) (h : fX12_bestDeed N G a0 a1 a2 σ = some r) : Dn miX12_bestDeed yX12_bestDeed 6 G SK [.ref a0, .int a1, .int a2] σ (some (.int r.1)) r.2 := by
  unfold fX12_bestDeed at h
  refine dn_of (lv := [some (.ref a0), some (.int a1), some (.int a2), none, none, none, none]) (by decide) rfl rfl (Nat.le_of_ble_eq_true rfl) rfl ?_
  refine ev_iconst (v := (-1)) dc_X12_bestDeed_0 (by decide) ?_
  refine ev_istore_n (lv' := [some (.ref a0), some (.int a1), some (.int a2), some (.int (-1 : Int32)), none, none, none]) dc_X12_bestDeed_1 rfl (by decide) rfl ?_
  refine ev_aload_n dc_X12_bestDeed_2 rfl ?_
  refine ev_iload_n dc_X12_bestDeed_3 rfl ?_
  refine ev_iconst (v := 1) dc_X12_bestDeed_4 (by decide) ?_
  refine ev_iadd dc_X12_bestDeed_5 ?_
  refine ev_iload_n dc_X12_bestDeed_6 rfl ?_
  obtain ⟨q6, hq6, h⟩ := Option.bind_eq_some_iff.mp h
  refine ev_callV (av := [.int (a1 + (1 : Int32)), .int a2]) (st := []) (st1 := [.int q6]) dc_X12_bestDeed_7 (tX12_tillOf hW i0 hq6) mw_2038 cy_X12_tillOf i0 (by decide) rfl rfl rfl rfl (Nat.le_of_ble_eq_true rfl) (Nat.le_of_ble_eq_true rfl) ⟨Nat.le_refl _, Nat.le_refl _⟩ ?_
  refine ev_istore (lv' := [some (.ref a0), some (.int a1), some (.int a2), some (.int (-1 : Int32)), some (.int q6), none, none]) dc_X12_bestDeed_10 rfl (by decide) rfl ?_
  refine ev_iconst (v := 0) dc_X12_bestDeed_12 (by decide) ?_
  refine ev_istore (lv' := [some (.ref a0), some (.int a1), some (.int a2), some (.int (-1 : Int32)), some (.int q6), some (.int (0 : Int32)), none]) dc_X12_bestDeed_13 rfl (by decide) rfl ?_
  exact ev_sub (tX12_bestDeed_b15 (b := ((-1 : Int32), q6, (0 : Int32), σ)) hW i0 h) (And.intro rfl (And.intro rfl (And.intro rfl (And.intro rfl (And.intro rfl (And.intro rfl trivial))))))
theorem dc_X12_cheapest_0 : Dc miX12_cheapest 0 (.aload_n 0) 1 1 := ⟨by decide +kernel, rfl⟩
theorem dc_X12_cheapest_1 : Dc miX12_cheapest 1 (.iconst 0) 1 2 := ⟨by decide +kernel, rfl⟩
theorem dc_X12_cheapest_2 : Dc miX12_cheapest 2 (.putfield 3) 3 5 := ⟨by decide +kernel, rfl⟩
theorem dc_X12_cheapest_5 : Dc miX12_cheapest 5 (.aload_n 0) 1 6 := ⟨by decide +kernel, rfl⟩
theorem dc_X12_cheapest_6 : Dc miX12_cheapest 6 (.iload_n 1) 1 7 := ⟨by decide +kernel, rfl⟩
theorem dc_X12_cheapest_7 : Dc miX12_cheapest 7 (.iconst 0) 1 8 := ⟨by decide +kernel, rfl⟩
theorem dc_X12_cheapest_8 : Dc miX12_cheapest 8 (.bipush 99) 2 10 := ⟨by decide +kernel, rfl⟩
theorem dc_X12_cheapest_10 : Dc miX12_cheapest 10 (.invokestatic 70) 3 13 := ⟨by decide +kernel, rfl⟩
theorem dc_X12_cheapest_13 : Dc miX12_cheapest 13 (.ifCond .ne 7) 3 16 := ⟨by decide +kernel, rfl⟩
theorem dc_X12_cheapest_16 : Dc miX12_cheapest 16 (.iconst 1) 1 17 := ⟨by decide +kernel, rfl⟩
theorem dc_X12_cheapest_17 : Dc miX12_cheapest 17 (.goto 4) 3 20 := ⟨by decide +kernel, rfl⟩
theorem dc_X12_cheapest_20 : Dc miX12_cheapest 20 (.iconst 0) 1 21 := ⟨by decide +kernel, rfl⟩
theorem dc_X12_cheapest_21 : Dc miX12_cheapest 21 (.iconst 1) 1 22 := ⟨by decide +kernel, rfl⟩
theorem dc_X12_cheapest_22 : Dc miX12_cheapest 22 (.invokevirtual 274) 3 25 := ⟨by decide +kernel, rfl⟩
theorem dc_X12_cheapest_25 : Dc miX12_cheapest 25 (.ifCond .eq 5) 3 28 := ⟨by decide +kernel, rfl⟩
theorem dc_X12_cheapest_28 : Dc miX12_cheapest 28 (.iconst 0) 1 29 := ⟨by decide +kernel, rfl⟩
theorem dc_X12_cheapest_29 : Dc miX12_cheapest 29 (.ireturn) 1 30 := ⟨by decide +kernel, rfl⟩
theorem dc_X12_cheapest_30 : Dc miX12_cheapest 30 (.iconst (-1)) 1 31 := ⟨by decide +kernel, rfl⟩
theorem dc_X12_cheapest_31 : Dc miX12_cheapest 31 (.istore_n 3) 1 32 := ⟨by decide +kernel, rfl⟩
theorem dc_X12_cheapest_32 : Dc miX12_cheapest 32 (.ldc_w 418) 3 35 := ⟨by decide +kernel, rfl⟩
theorem dc_X12_cheapest_35 : Dc miX12_cheapest 35 (.istore 4) 2 37 := ⟨by decide +kernel, rfl⟩
theorem dc_X12_cheapest_37 : Dc miX12_cheapest 37 (.iconst 0) 1 38 := ⟨by decide +kernel, rfl⟩
theorem dc_X12_cheapest_38 : Dc miX12_cheapest 38 (.istore 5) 2 40 := ⟨by decide +kernel, rfl⟩
theorem dc_X12_cheapest_40 : Dc miX12_cheapest 40 (.iload 5) 2 42 := ⟨by decide +kernel, rfl⟩
theorem dc_X12_cheapest_42 : Dc miX12_cheapest 42 (.iconst 1) 1 43 := ⟨by decide +kernel, rfl⟩
theorem dc_X12_cheapest_43 : Dc miX12_cheapest 43 (.aload_n 0) 1 44 := ⟨by decide +kernel, rfl⟩
theorem dc_X12_cheapest_44 : Dc miX12_cheapest 44 (.invokevirtual 80) 3 47 := ⟨by decide +kernel, rfl⟩
theorem dc_X12_cheapest_47 : Dc miX12_cheapest 47 (.ishl) 1 48 := ⟨by decide +kernel, rfl⟩
theorem dc_X12_cheapest_48 : Dc miX12_cheapest 48 (.if_icmp .ge 112) 3 51 := ⟨by decide +kernel, rfl⟩
theorem dc_X12_cheapest_51 : Dc miX12_cheapest 51 (.aload_n 0) 1 52 := ⟨by decide +kernel, rfl⟩
theorem dc_X12_cheapest_52 : Dc miX12_cheapest 52 (.getfield 13) 3 55 := ⟨by decide +kernel, rfl⟩
theorem dc_X12_cheapest_55 : Dc miX12_cheapest 55 (.bipush 7) 2 57 := ⟨by decide +kernel, rfl⟩
theorem dc_X12_cheapest_57 : Dc miX12_cheapest 57 (.iaload) 1 58 := ⟨by decide +kernel, rfl⟩
theorem dc_X12_cheapest_58 : Dc miX12_cheapest 58 (.istore 6) 2 60 := ⟨by decide +kernel, rfl⟩
theorem dc_X12_cheapest_60 : Dc miX12_cheapest 60 (.iconst 0) 1 61 := ⟨by decide +kernel, rfl⟩
theorem dc_X12_cheapest_61 : Dc miX12_cheapest 61 (.istore 7) 2 63 := ⟨by decide +kernel, rfl⟩
theorem dc_X12_cheapest_63 : Dc miX12_cheapest 63 (.iconst 0) 1 64 := ⟨by decide +kernel, rfl⟩
theorem dc_X12_cheapest_64 : Dc miX12_cheapest 64 (.istore 8) 2 66 := ⟨by decide +kernel, rfl⟩
theorem dc_X12_cheapest_66 : Dc miX12_cheapest 66 (.iload 8) 2 68 := ⟨by decide +kernel, rfl⟩
theorem dc_X12_cheapest_68 : Dc miX12_cheapest 68 (.aload_n 0) 1 69 := ⟨by decide +kernel, rfl⟩
theorem dc_X12_cheapest_69 : Dc miX12_cheapest 69 (.invokevirtual 80) 3 72 := ⟨by decide +kernel, rfl⟩
theorem dc_X12_cheapest_72 : Dc miX12_cheapest 72 (.if_icmp .ge 59) 3 75 := ⟨by decide +kernel, rfl⟩
theorem dc_X12_cheapest_75 : Dc miX12_cheapest 75 (.iload 5) 2 77 := ⟨by decide +kernel, rfl⟩
theorem dc_X12_cheapest_77 : Dc miX12_cheapest 77 (.iload 8) 2 79 := ⟨by decide +kernel, rfl⟩
theorem dc_X12_cheapest_79 : Dc miX12_cheapest 79 (.invokestatic 122) 3 82 := ⟨by decide +kernel, rfl⟩
theorem dc_X12_cheapest_82 : Dc miX12_cheapest 82 (.ifCond .ne 6) 3 85 := ⟨by decide +kernel, rfl⟩
theorem dc_X12_cheapest_85 : Dc miX12_cheapest 85 (.goto 40) 3 88 := ⟨by decide +kernel, rfl⟩
theorem dc_X12_cheapest_88 : Dc miX12_cheapest 88 (.aload_n 0) 1 89 := ⟨by decide +kernel, rfl⟩
theorem dc_X12_cheapest_89 : Dc miX12_cheapest 89 (.iload 6) 2 91 := ⟨by decide +kernel, rfl⟩
theorem dc_X12_cheapest_91 : Dc miX12_cheapest 91 (.aload_n 0) 1 92 := ⟨by decide +kernel, rfl⟩
theorem dc_X12_cheapest_92 : Dc miX12_cheapest 92 (.getfield 13) 3 95 := ⟨by decide +kernel, rfl⟩
theorem dc_X12_cheapest_95 : Dc miX12_cheapest 95 (.bipush 9) 2 97 := ⟨by decide +kernel, rfl⟩
theorem dc_X12_cheapest_97 : Dc miX12_cheapest 97 (.iaload) 1 98 := ⟨by decide +kernel, rfl⟩
theorem dc_X12_cheapest_98 : Dc miX12_cheapest 98 (.aload_n 0) 1 99 := ⟨by decide +kernel, rfl⟩
theorem dc_X12_cheapest_99 : Dc miX12_cheapest 99 (.invokevirtual 307) 3 102 := ⟨by decide +kernel, rfl⟩
theorem dc_X12_cheapest_102 : Dc miX12_cheapest 102 (.invokevirtual 310) 3 105 := ⟨by decide +kernel, rfl⟩
theorem dc_X12_cheapest_105 : Dc miX12_cheapest 105 (.aload_n 0) 1 106 := ⟨by decide +kernel, rfl⟩
theorem dc_X12_cheapest_106 : Dc miX12_cheapest 106 (.iload 8) 2 108 := ⟨by decide +kernel, rfl⟩
theorem dc_X12_cheapest_108 : Dc miX12_cheapest 108 (.invokevirtual 364) 3 111 := ⟨by decide +kernel, rfl⟩
theorem dc_X12_cheapest_111 : Dc miX12_cheapest 111 (.istore 6) 2 113 := ⟨by decide +kernel, rfl⟩
theorem dc_X12_cheapest_113 : Dc miX12_cheapest 113 (.iload 7) 2 115 := ⟨by decide +kernel, rfl⟩
theorem dc_X12_cheapest_115 : Dc miX12_cheapest 115 (.aload_n 0) 1 116 := ⟨by decide +kernel, rfl⟩
theorem dc_X12_cheapest_116 : Dc miX12_cheapest 116 (.iload 8) 2 118 := ⟨by decide +kernel, rfl⟩
theorem dc_X12_cheapest_118 : Dc miX12_cheapest 118 (.iconst 1) 1 119 := ⟨by decide +kernel, rfl⟩
theorem dc_X12_cheapest_119 : Dc miX12_cheapest 119 (.invokevirtual 328) 3 122 := ⟨by decide +kernel, rfl⟩
theorem dc_X12_cheapest_122 : Dc miX12_cheapest 122 (.iadd) 1 123 := ⟨by decide +kernel, rfl⟩
theorem dc_X12_cheapest_123 : Dc miX12_cheapest 123 (.istore 7) 2 125 := ⟨by decide +kernel, rfl⟩
theorem dc_X12_cheapest_125 : Dc miX12_cheapest 125 (.iinc 8 1) 3 128 := ⟨by decide +kernel, rfl⟩
theorem dc_X12_cheapest_128 : Dc miX12_cheapest 128 (.goto (-62)) 3 131 := ⟨by decide +kernel, rfl⟩
theorem dc_X12_cheapest_131 : Dc miX12_cheapest 131 (.iload 6) 2 133 := ⟨by decide +kernel, rfl⟩
theorem dc_X12_cheapest_133 : Dc miX12_cheapest 133 (.iload_n 1) 1 134 := ⟨by decide +kernel, rfl⟩
theorem dc_X12_cheapest_134 : Dc miX12_cheapest 134 (.if_icmp .gt 20) 3 137 := ⟨by decide +kernel, rfl⟩
theorem dc_X12_cheapest_137 : Dc miX12_cheapest 137 (.iload 7) 2 139 := ⟨by decide +kernel, rfl⟩
theorem dc_X12_cheapest_139 : Dc miX12_cheapest 139 (.iload 4) 2 141 := ⟨by decide +kernel, rfl⟩
theorem dc_X12_cheapest_141 : Dc miX12_cheapest 141 (.if_icmp .lt 6) 3 144 := ⟨by decide +kernel, rfl⟩
theorem dc_X12_cheapest_144 : Dc miX12_cheapest 144 (.goto 10) 3 147 := ⟨by decide +kernel, rfl⟩
theorem dc_X12_cheapest_147 : Dc miX12_cheapest 147 (.iload 5) 2 149 := ⟨by decide +kernel, rfl⟩
theorem dc_X12_cheapest_149 : Dc miX12_cheapest 149 (.istore_n 3) 1 150 := ⟨by decide +kernel, rfl⟩
theorem dc_X12_cheapest_150 : Dc miX12_cheapest 150 (.iload 7) 2 152 := ⟨by decide +kernel, rfl⟩
theorem dc_X12_cheapest_152 : Dc miX12_cheapest 152 (.istore 4) 2 154 := ⟨by decide +kernel, rfl⟩
theorem dc_X12_cheapest_154 : Dc miX12_cheapest 154 (.iinc 5 1) 3 157 := ⟨by decide +kernel, rfl⟩
theorem dc_X12_cheapest_157 : Dc miX12_cheapest 157 (.goto (-117)) 3 160 := ⟨by decide +kernel, rfl⟩
theorem dc_X12_cheapest_160 : Dc miX12_cheapest 160 (.iload_n 3) 1 161 := ⟨by decide +kernel, rfl⟩
theorem dc_X12_cheapest_161 : Dc miX12_cheapest 161 (.ifCond .lt 7) 3 164 := ⟨by decide +kernel, rfl⟩
theorem dc_X12_cheapest_164 : Dc miX12_cheapest 164 (.iload_n 2) 1 165 := ⟨by decide +kernel, rfl⟩
theorem dc_X12_cheapest_165 : Dc miX12_cheapest 165 (.ifCond .ne 7) 3 168 := ⟨by decide +kernel, rfl⟩
theorem dc_X12_cheapest_168 : Dc miX12_cheapest 168 (.iload_n 3) 1 169 := ⟨by decide +kernel, rfl⟩
theorem dc_X12_cheapest_169 : Dc miX12_cheapest 169 (.goto 5) 3 172 := ⟨by decide +kernel, rfl⟩
theorem dc_X12_cheapest_172 : Dc miX12_cheapest 172 (.iload 4) 2 174 := ⟨by decide +kernel, rfl⟩
theorem dc_X12_cheapest_174 : Dc miX12_cheapest 174 (.ireturn) 1 175 := ⟨by decide +kernel, rfl⟩
def fX12_cheapest_b66 (N : Nat) (G : pG) (k40 : Int32 × Int32 × Int32 × pS → Option (Int32 × pS)) (a0 : Nat) (a1 : Int32) (a2 : Int32) (x3 : Int32) (x4 : Int32) (x5 : Int32) : (Int32 × Int32 × Int32 × pS) → Option (Int32 × pS) := lp (fun (k66 : Int32 × Int32 × Int32 × pS → Option (Int32 × pS)) (b : Int32 × Int32 × Int32 × pS) => (fX12_deeds N G a0 b.2.2.2).bind (fun q1 => if q1 ≤ b.2.2.1 then (if a1 < b.1 then (k40 (x3, x4, x5 + (1 : Int32), b.2.2.2)) else (if b.2.1 < x4 then (k40 (x5, b.2.1, x5 + (1 : Int32), b.2.2.2)) else (k40 (x3, x4, x5 + (1 : Int32), b.2.2.2)))) else ((fX12_has N G x5 b.2.2.1 b.2.2.2).bind (fun q2 => if q2 = 0 then (k66 (b.1, b.2.1, b.2.2.1 + (1 : Int32), b.2.2.2)) else (ck (inB (9 : Int32) (pN G (pR G a0 1))) ((fX12_howMany N G a0 b.2.2.2).bind (fun q3 => (fX12_looks N G a0 b.1 (gA b.2.2.2 (pR G a0 1) (9 : Int32)) q3 b.2.2.2).bind (fun q4 => (fX12_behindDeed N G a0 b.2.2.1 q4).bind (fun q5 => (fX12_ofDeed N G a0 b.2.2.1 (1 : Int32) q5.2).bind (fun q6 => k66 (q5.1, b.2.1 + q6, b.2.2.1 + (1 : Int32), q5.2))))))))))) N
set_option maxRecDepth 100000 in
set_option maxHeartbeats 4000000 in
theorem tX12_cheapest_b66 {N : Nat} {G : pG} {SK : Nat → Nat} {k40 : Int32 × Int32 × Int32 × pS → Option (Int32 × pS)} {a0 : Nat} {a1 : Int32} {a2 : Int32} {x3 : Int32} {x4 : Int32} {x5 : Int32} {b : Int32 × Int32 × Int32 × pS} {r : Int32 × pS} (hW : WT G) (i0 : Is G a0 11) (hk40 : ∀ b : Int32 × Int32 × Int32 × pS, k40 b = some r → Ev miX12_cheapest (6, 0, 0) G (Zp G (some (.int r.1)) r.2) SK (0, 0) 40 [some (.ref a0), some (.int a1), some (.int a2), some (.int b.1), some (.int b.2.1), some (.int b.2.2.1), none, none, none] [] b.2.2.2) (h : fX12_cheapest_b66 N G k40 a0 a1 a2 x3 x4 x5 b = some r) : Ev miX12_cheapest (6, 0, 0) G (Zp G (some (.int r.1)) r.2) SK (0, 0) 66 [some (.ref a0), some (.int a1), some (.int a2), some (.int x3), some (.int x4), some (.int x5), some (.int b.1), some (.int b.2.1), some (.int b.2.2.1)] [] b.2.2.2 := by
  unfold fX12_cheapest_b66 at h
  refine lp_ind (P := fun b r9 => r9 = r → Ev miX12_cheapest (6, 0, 0) G (Zp G (some (.int r.1)) r.2) SK (0, 0) 66 [some (.ref a0), some (.int a1), some (.int a2), some (.int x3), some (.int x4), some (.int x5), some (.int b.1), some (.int b.2.1), some (.int b.2.2.1)] [] b.2.2.2) (fun k66 b r9 ih h9 e9 => ?_) N b r h rfl
  clear h
  subst e9
  have h := h9
  clear h9
  have hk66 : ∀ b : Int32 × Int32 × Int32 × pS, k66 b = some r9 → Ev miX12_cheapest (6, 0, 0) G (Zp G (some (.int r9.1)) r9.2) SK (0, 0) 66 [some (.ref a0), some (.int a1), some (.int a2), some (.int x3), some (.int x4), some (.int x5), some (.int b.1), some (.int b.2.1), some (.int b.2.2.1)] [] b.2.2.2 := fun b hb => ih b r9 hb rfl
  clear ih
  obtain ⟨x6, x7, x8, σ⟩ := b
  dsimp only at h ⊢
  refine ev_iload dc_X12_cheapest_66 rfl ?_
  refine ev_aload_n dc_X12_cheapest_68 rfl ?_
  obtain ⟨q1, hq1, h⟩ := Option.bind_eq_some_iff.mp h
  refine ev_callV (av := []) (st := [.int x8]) (st1 := [.int q1, .int x8]) dc_X12_cheapest_69 (tX12_deeds hW i0 hq1) mw_1695 cy_X12_deeds i0 (by decide) rfl rfl rfl rfl (Nat.le_of_ble_eq_true rfl) (Nat.le_of_ble_eq_true rfl) ⟨Nat.le_refl _, Nat.le_refl _⟩ ?_
  refine ev_icmp_ge (tgt := 131) dc_X12_cheapest_72 (by decide) h (fun h => ?_) (fun h => ?_)
  · refine ev_iload dc_X12_cheapest_131 rfl ?_
    refine ev_iload_n dc_X12_cheapest_133 rfl ?_
    refine ev_icmp_gt (tgt := 154) dc_X12_cheapest_134 (by decide) h (fun h => ?_) (fun h => ?_)
    · refine ev_iinc (v := 1) (lv' := [some (.ref a0), some (.int a1), some (.int a2), some (.int x3), some (.int x4), some (.int (x5 + (1 : Int32))), some (.int x6), some (.int x7), some (.int x8)]) dc_X12_cheapest_154 rfl (by decide) rfl (by decide) rfl ?_
      refine ev_goto (tgt := 40) dc_X12_cheapest_157 (by decide) ?_
      exact ev_sub (hk40 (x3, x4, x5 + (1 : Int32), σ) h) (And.intro rfl (And.intro rfl (And.intro rfl (And.intro rfl (And.intro rfl (And.intro rfl trivial))))))
    · refine ev_iload dc_X12_cheapest_137 rfl ?_
      refine ev_iload dc_X12_cheapest_139 rfl ?_
      refine ev_icmp_lt (tgt := 147) dc_X12_cheapest_141 (by decide) h (fun h => ?_) (fun h => ?_)
      · refine ev_iload dc_X12_cheapest_147 rfl ?_
        refine ev_istore_n (lv' := [some (.ref a0), some (.int a1), some (.int a2), some (.int x5), some (.int x4), some (.int x5), some (.int x6), some (.int x7), some (.int x8)]) dc_X12_cheapest_149 rfl (by decide) rfl ?_
        refine ev_iload dc_X12_cheapest_150 rfl ?_
        refine ev_istore (lv' := [some (.ref a0), some (.int a1), some (.int a2), some (.int x5), some (.int x7), some (.int x5), some (.int x6), some (.int x7), some (.int x8)]) dc_X12_cheapest_152 rfl (by decide) rfl ?_
        refine ev_iinc (v := 1) (lv' := [some (.ref a0), some (.int a1), some (.int a2), some (.int x5), some (.int x7), some (.int (x5 + (1 : Int32))), some (.int x6), some (.int x7), some (.int x8)]) dc_X12_cheapest_154 rfl (by decide) rfl (by decide) rfl ?_
        refine ev_goto (tgt := 40) dc_X12_cheapest_157 (by decide) ?_
        exact ev_sub (hk40 (x5, x7, x5 + (1 : Int32), σ) h) (And.intro rfl (And.intro rfl (And.intro rfl (And.intro rfl (And.intro rfl (And.intro rfl trivial))))))
      · refine ev_goto (tgt := 154) dc_X12_cheapest_144 (by decide) ?_
        refine ev_iinc (v := 1) (lv' := [some (.ref a0), some (.int a1), some (.int a2), some (.int x3), some (.int x4), some (.int (x5 + (1 : Int32))), some (.int x6), some (.int x7), some (.int x8)]) dc_X12_cheapest_154 rfl (by decide) rfl (by decide) rfl ?_
        refine ev_goto (tgt := 40) dc_X12_cheapest_157 (by decide) ?_
        exact ev_sub (hk40 (x3, x4, x5 + (1 : Int32), σ) h) (And.intro rfl (And.intro rfl (And.intro rfl (And.intro rfl (And.intro rfl (And.intro rfl trivial))))))
  · refine ev_iload dc_X12_cheapest_75 rfl ?_
    refine ev_iload dc_X12_cheapest_77 rfl ?_
    obtain ⟨q2, hq2, h⟩ := Option.bind_eq_some_iff.mp h
    refine ev_callS (av := [.int x5, .int x8]) (st := []) (st1 := [.int q2]) dc_X12_cheapest_79 (tX12_has hW hq2) mw_1659 cs_X12_has rfl rfl rfl (Nat.le_of_ble_eq_true rfl) (Nat.le_of_ble_eq_true rfl) ⟨Nat.le_refl _, Nat.le_refl _⟩ ?_
    refine ev_if_ne (tgt := 88) dc_X12_cheapest_82 (by decide) h (fun h => ?_) (fun h => ?_)
    · refine ev_goto (tgt := 125) dc_X12_cheapest_85 (by decide) ?_
      refine ev_iinc (v := 1) (lv' := [some (.ref a0), some (.int a1), some (.int a2), some (.int x3), some (.int x4), some (.int x5), some (.int x6), some (.int x7), some (.int (x8 + (1 : Int32)))]) dc_X12_cheapest_125 rfl (by decide) rfl (by decide) rfl ?_
      refine ev_goto (tgt := 66) dc_X12_cheapest_128 (by decide) ?_
      exact ev_sub (hk66 (x6, x7, x8 + (1 : Int32), σ) h) (And.intro rfl (And.intro rfl (And.intro rfl (And.intro rfl (And.intro rfl (And.intro rfl (And.intro rfl (And.intro rfl (And.intro rfl trivial)))))))))
    · refine ev_aload_n dc_X12_cheapest_88 rfl ?_
      refine ev_iload dc_X12_cheapest_89 rfl ?_
      refine ev_aload_n dc_X12_cheapest_91 rfl ?_
      refine ev_getR dc_X12_cheapest_92 fi_X12_13 rfl i0 ?_
      refine ev_bipush (v := 9) dc_X12_cheapest_95 (by decide) ?_
      refine ev_iald dc_X12_cheapest_97 (wt hW i0 1 rfl rfl) h (fun h => ?_)
      refine ev_aload_n dc_X12_cheapest_98 rfl ?_
      obtain ⟨q3, hq3, h⟩ := Option.bind_eq_some_iff.mp h
      refine ev_callV (av := []) (st := [.int (gA σ (pR G a0 1) (9 : Int32)), .int x6, .ref a0]) (st1 := [.int q3, .int (gA σ (pR G a0 1) (9 : Int32)), .int x6, .ref a0]) dc_X12_cheapest_99 (tX12_howMany hW i0 hq3) mw_1808 cy_X12_howMany i0 (by decide) rfl rfl rfl rfl (Nat.le_of_ble_eq_true rfl) (Nat.le_of_ble_eq_true rfl) ⟨Nat.le_refl _, Nat.le_refl _⟩ ?_
      obtain ⟨q4, hq4, h⟩ := Option.bind_eq_some_iff.mp h
      refine ev_callV (av := [.int x6, .int (gA σ (pR G a0 1) (9 : Int32)), .int q3]) (st := []) (st1 := []) dc_X12_cheapest_102 (tX12_looks hW i0 hq4) mw_1812 cy_X12_looks i0 (by decide) rfl rfl rfl rfl (Nat.le_of_ble_eq_true rfl) (Nat.le_of_ble_eq_true rfl) ⟨Nat.le_refl _, Nat.le_refl _⟩ ?_
      refine ev_aload_n dc_X12_cheapest_105 rfl ?_
      refine ev_iload dc_X12_cheapest_106 rfl ?_
      obtain ⟨q5, hq5, h⟩ := Option.bind_eq_some_iff.mp h
      refine ev_callV (av := [.int x8]) (st := []) (st1 := [.int q5.1]) dc_X12_cheapest_108 (tX12_behindDeed hW i0 hq5) mw_1930 cy_X12_behindDeed i0 (by decide) rfl rfl rfl rfl (Nat.le_of_ble_eq_true rfl) (Nat.le_of_ble_eq_true rfl) ⟨Nat.le_refl _, Nat.le_refl _⟩ ?_
      refine ev_istore (lv' := [some (.ref a0), some (.int a1), some (.int a2), some (.int x3), some (.int x4), some (.int x5), some (.int q5.1), some (.int x7), some (.int x8)]) dc_X12_cheapest_111 rfl (by decide) rfl ?_
      refine ev_iload dc_X12_cheapest_113 rfl ?_
      refine ev_aload_n dc_X12_cheapest_115 rfl ?_
      refine ev_iload dc_X12_cheapest_116 rfl ?_
      refine ev_iconst (v := 1) dc_X12_cheapest_118 (by decide) ?_
      obtain ⟨q6, hq6, h⟩ := Option.bind_eq_some_iff.mp h
      refine ev_callV (av := [.int x8, .int (1 : Int32)]) (st := [.int x7]) (st1 := [.int q6, .int x7]) dc_X12_cheapest_119 (tX12_ofDeed hW i0 hq6) mw_1874 cy_X12_ofDeed i0 (by decide) rfl rfl rfl rfl (Nat.le_of_ble_eq_true rfl) (Nat.le_of_ble_eq_true rfl) ⟨Nat.le_refl _, Nat.le_refl _⟩ ?_
      refine ev_iadd dc_X12_cheapest_122 ?_
      refine ev_istore (lv' := [some (.ref a0), some (.int a1), some (.int a2), some (.int x3), some (.int x4), some (.int x5), some (.int q5.1), some (.int (x7 + q6)), some (.int x8)]) dc_X12_cheapest_123 rfl (by decide) rfl ?_
      refine ev_iinc (v := 1) (lv' := [some (.ref a0), some (.int a1), some (.int a2), some (.int x3), some (.int x4), some (.int x5), some (.int q5.1), some (.int (x7 + q6)), some (.int (x8 + (1 : Int32)))]) dc_X12_cheapest_125 rfl (by decide) rfl (by decide) rfl ?_
      refine ev_goto (tgt := 66) dc_X12_cheapest_128 (by decide) ?_
      exact ev_sub (hk66 (q5.1, x7 + q6, x8 + (1 : Int32), q5.2) h) (And.intro rfl (And.intro rfl (And.intro rfl (And.intro rfl (And.intro rfl (And.intro rfl (And.intro rfl (And.intro rfl (And.intro rfl trivial)))))))))
def fX12_cheapest_b168 (N : Nat) (G : pG) (x3 : Int32) (σ : pS) : Option (Int32 × pS) := some (x3, σ)
set_option maxRecDepth 100000 in
set_option maxHeartbeats 4000000 in
theorem tX12_cheapest_b168 {N : Nat} {G : pG} {SK : Nat → Nat} {x3 : Int32} {σ : pS} {r : Int32 × pS} (hW : WT G) (h : fX12_cheapest_b168 N G x3 σ = some r) : Ev miX12_cheapest (6, 0, 0) G (Zp G (some (.int r.1)) r.2) SK (0, 0) 168 [none, none, none, some (.int x3), none, none, none, none, none] [] σ := by
  unfold fX12_cheapest_b168 at h
  refine ev_iload_n dc_X12_cheapest_168 rfl ?_
  refine ev_goto (tgt := 174) dc_X12_cheapest_169 (by decide) ?_
  cases h
  exact ev_iret dc_X12_cheapest_174 rfl rfl rfl
def fX12_cheapest_b40 (N : Nat) (G : pG) (a0 : Nat) (a1 : Int32) (a2 : Int32) : (Int32 × Int32 × Int32 × pS) → Option (Int32 × pS) := lp (fun (k40 : Int32 × Int32 × Int32 × pS → Option (Int32 × pS)) (b : Int32 × Int32 × Int32 × pS) => (fX12_deeds N G a0 b.2.2.2).bind (fun q7 => if ((1 : Int32) <<< (q7 &&& 31)) ≤ b.2.2.1 then (if b.1 < 0 then (fX12_cheapest_b168 N G b.1 b.2.2.2) else (if a2 = 0 then (fX12_cheapest_b168 N G b.1 b.2.2.2) else (some (b.2.1, b.2.2.2)))) else (ck (inB (7 : Int32) (pN G (pR G a0 1))) (fX12_cheapest_b66 N G k40 a0 a1 a2 b.1 b.2.1 b.2.2.1 (gA b.2.2.2 (pR G a0 1) (7 : Int32), (0 : Int32), (0 : Int32), b.2.2.2))))) N
set_option maxRecDepth 100000 in
set_option maxHeartbeats 4000000 in
theorem tX12_cheapest_b40 {N : Nat} {G : pG} {SK : Nat → Nat} {a0 : Nat} {a1 : Int32} {a2 : Int32} {b : Int32 × Int32 × Int32 × pS} {r : Int32 × pS} (hW : WT G) (i0 : Is G a0 11) (h : fX12_cheapest_b40 N G a0 a1 a2 b = some r) : Ev miX12_cheapest (6, 0, 0) G (Zp G (some (.int r.1)) r.2) SK (0, 0) 40 [some (.ref a0), some (.int a1), some (.int a2), some (.int b.1), some (.int b.2.1), some (.int b.2.2.1), none, none, none] [] b.2.2.2 := by
  unfold fX12_cheapest_b40 at h
  refine lp_ind (P := fun b r9 => r9 = r → Ev miX12_cheapest (6, 0, 0) G (Zp G (some (.int r.1)) r.2) SK (0, 0) 40 [some (.ref a0), some (.int a1), some (.int a2), some (.int b.1), some (.int b.2.1), some (.int b.2.2.1), none, none, none] [] b.2.2.2) (fun k40 b r9 ih h9 e9 => ?_) N b r h rfl
  clear h
  subst e9
  have h := h9
  clear h9
  have hk40 : ∀ b : Int32 × Int32 × Int32 × pS, k40 b = some r9 → Ev miX12_cheapest (6, 0, 0) G (Zp G (some (.int r9.1)) r9.2) SK (0, 0) 40 [some (.ref a0), some (.int a1), some (.int a2), some (.int b.1), some (.int b.2.1), some (.int b.2.2.1), none, none, none] [] b.2.2.2 := fun b hb => ih b r9 hb rfl
  clear ih
  obtain ⟨x3, x4, x5, σ⟩ := b
  dsimp only at h ⊢
  refine ev_iload dc_X12_cheapest_40 rfl ?_
  refine ev_iconst (v := 1) dc_X12_cheapest_42 (by decide) ?_
  refine ev_aload_n dc_X12_cheapest_43 rfl ?_
  obtain ⟨q7, hq7, h⟩ := Option.bind_eq_some_iff.mp h
  refine ev_callV (av := []) (st := [.int (1 : Int32), .int x5]) (st1 := [.int q7, .int (1 : Int32), .int x5]) dc_X12_cheapest_44 (tX12_deeds hW i0 hq7) mw_1695 cy_X12_deeds i0 (by decide) rfl rfl rfl rfl (Nat.le_of_ble_eq_true rfl) (Nat.le_of_ble_eq_true rfl) ⟨Nat.le_refl _, Nat.le_refl _⟩ ?_
  refine ev_ishl dc_X12_cheapest_47 ?_
  refine ev_icmp_ge (tgt := 160) dc_X12_cheapest_48 (by decide) h (fun h => ?_) (fun h => ?_)
  · refine ev_iload_n dc_X12_cheapest_160 rfl ?_
    refine ev_if_lt (tgt := 168) dc_X12_cheapest_161 (by decide) h (fun h => ?_) (fun h => ?_)
    · exact ev_sub (tX12_cheapest_b168 hW h) (And.intro rfl trivial)
    · refine ev_iload_n dc_X12_cheapest_164 rfl ?_
      refine ev_if_ne (tgt := 172) dc_X12_cheapest_165 (by decide) h (fun h => ?_) (fun h => ?_)
      · exact ev_sub (tX12_cheapest_b168 hW h) (And.intro rfl trivial)
      · refine ev_iload dc_X12_cheapest_172 rfl ?_
        cases h
        exact ev_iret dc_X12_cheapest_174 rfl rfl rfl
  · refine ev_aload_n dc_X12_cheapest_51 rfl ?_
    refine ev_getR dc_X12_cheapest_52 fi_X12_13 rfl i0 ?_
    refine ev_bipush (v := 7) dc_X12_cheapest_55 (by decide) ?_
    refine ev_iald dc_X12_cheapest_57 (wt hW i0 1 rfl rfl) h (fun h => ?_)
    refine ev_istore (lv' := [some (.ref a0), some (.int a1), some (.int a2), some (.int x3), some (.int x4), some (.int x5), some (.int (gA σ (pR G a0 1) (7 : Int32))), none, none]) dc_X12_cheapest_58 rfl (by decide) rfl ?_
    refine ev_iconst (v := 0) dc_X12_cheapest_60 (by decide) ?_
    refine ev_istore (lv' := [some (.ref a0), some (.int a1), some (.int a2), some (.int x3), some (.int x4), some (.int x5), some (.int (gA σ (pR G a0 1) (7 : Int32))), some (.int (0 : Int32)), none]) dc_X12_cheapest_61 rfl (by decide) rfl ?_
    refine ev_iconst (v := 0) dc_X12_cheapest_63 (by decide) ?_
    refine ev_istore (lv' := [some (.ref a0), some (.int a1), some (.int a2), some (.int x3), some (.int x4), some (.int x5), some (.int (gA σ (pR G a0 1) (7 : Int32))), some (.int (0 : Int32)), some (.int (0 : Int32))]) dc_X12_cheapest_64 rfl (by decide) rfl ?_
    exact ev_sub (tX12_cheapest_b66 (b := (gA σ (pR G a0 1) (7 : Int32), (0 : Int32), (0 : Int32), σ)) hW i0 hk40 h) (And.intro rfl (And.intro rfl (And.intro rfl (And.intro rfl (And.intro rfl (And.intro rfl (And.intro rfl (And.intro rfl (And.intro rfl trivial)))))))))
def fX12_cheapest_b21 (N : Nat) (G : pG) (a0 : Nat) (a1 : Int32) (a2 : Int32) (y1 : Int32) (σ : pS) : Option (Int32 × pS) := (fX12_throwsIf N G a0 y1 (1 : Int32) σ).bind (fun q8 => if q8.1 = 0 then (fX12_cheapest_b40 N G a0 a1 a2 ((-1 : Int32), (1000000 : Int32), (0 : Int32), q8.2)) else (some ((0 : Int32), q8.2)))
set_option maxRecDepth 100000 in
set_option maxHeartbeats 4000000 in
theorem tX12_cheapest_b21 {N : Nat} {G : pG} {SK : Nat → Nat} {a0 : Nat} {a1 : Int32} {a2 : Int32} {y1 : Int32} {σ : pS} {r : Int32 × pS} (hW : WT G) (i0 : Is G a0 11) (h : fX12_cheapest_b21 N G a0 a1 a2 y1 σ = some r) : Ev miX12_cheapest (6, 0, 0) G (Zp G (some (.int r.1)) r.2) SK (0, 0) 21 [some (.ref a0), some (.int a1), some (.int a2), none, none, none, none, none, none] [.int y1, .ref a0] σ := by
  unfold fX12_cheapest_b21 at h
  refine ev_iconst (v := 1) dc_X12_cheapest_21 (by decide) ?_
  obtain ⟨q8, hq8, h⟩ := Option.bind_eq_some_iff.mp h
  refine ev_callV (av := [.int y1, .int (1 : Int32)]) (st := []) (st1 := [.int q8.1]) dc_X12_cheapest_22 (tX12_throwsIf hW i0 hq8) mw_1784 cy_X12_throwsIf i0 (by decide) rfl rfl rfl rfl (Nat.le_of_ble_eq_true rfl) (Nat.le_of_ble_eq_true rfl) ⟨Nat.le_refl _, Nat.le_refl _⟩ ?_
  refine ev_if_eq (tgt := 30) dc_X12_cheapest_25 (by decide) h (fun h => ?_) (fun h => ?_)
  · refine ev_iconst (v := (-1)) dc_X12_cheapest_30 (by decide) ?_
    refine ev_istore_n (lv' := [some (.ref a0), some (.int a1), some (.int a2), some (.int (-1 : Int32)), none, none, none, none, none]) dc_X12_cheapest_31 rfl (by decide) rfl ?_
    refine ev_ldcw (v := 1000000) dc_X12_cheapest_32 mw_2025 ?_
    refine ev_istore (lv' := [some (.ref a0), some (.int a1), some (.int a2), some (.int (-1 : Int32)), some (.int (1000000 : Int32)), none, none, none, none]) dc_X12_cheapest_35 rfl (by decide) rfl ?_
    refine ev_iconst (v := 0) dc_X12_cheapest_37 (by decide) ?_
    refine ev_istore (lv' := [some (.ref a0), some (.int a1), some (.int a2), some (.int (-1 : Int32)), some (.int (1000000 : Int32)), some (.int (0 : Int32)), none, none, none]) dc_X12_cheapest_38 rfl (by decide) rfl ?_
    exact ev_sub (tX12_cheapest_b40 (b := ((-1 : Int32), (1000000 : Int32), (0 : Int32), q8.2)) hW i0 h) (And.intro rfl (And.intro rfl (And.intro rfl (And.intro rfl (And.intro rfl (And.intro rfl trivial))))))
  · refine ev_iconst (v := 0) dc_X12_cheapest_28 (by decide) ?_
    cases h
    exact ev_iret dc_X12_cheapest_29 rfl rfl rfl
def fX12_cheapest (N : Nat) (G : pG) (a0 : Nat) (a1 : Int32) (a2 : Int32) (σ : pS) : Option (Int32 × pS) := (fX12_in N G a1 (0 : Int32) (99 : Int32) (putF σ a0 0 (0 : Int32))).bind (fun q9 => if q9 = 0 then (fX12_cheapest_b21 N G a0 a1 a2 (1 : Int32) (putF σ a0 0 (0 : Int32))) else (fX12_cheapest_b21 N G a0 a1 a2 (0 : Int32) (putF σ a0 0 (0 : Int32))))
set_option maxRecDepth 100000 in
set_option maxHeartbeats 4000000 in
theorem tX12_cheapest {N : Nat} {G : pG} {SK : Nat → Nat} {a0 : Nat} {a1 : Int32} {a2 : Int32} {σ : pS} {r : Int32 × pS} (hW : WT G) (i0 : Is G a0 11) (h : fX12_cheapest N G a0 a1 a2 σ = some r) : Dn miX12_cheapest yX12_cheapest 6 G SK [.ref a0, .int a1, .int a2] σ (some (.int r.1)) r.2 := by
  unfold fX12_cheapest at h
  refine dn_of (lv := [some (.ref a0), some (.int a1), some (.int a2), none, none, none, none, none, none]) (by decide) rfl rfl (Nat.le_of_ble_eq_true rfl) rfl ?_
  refine ev_aload_n dc_X12_cheapest_0 rfl ?_
  refine ev_iconst (v := 0) dc_X12_cheapest_1 (by decide) ?_
  refine ev_putI dc_X12_cheapest_2 fi_X12_3 rfl i0 ?_
  refine ev_aload_n dc_X12_cheapest_5 rfl ?_
  refine ev_iload_n dc_X12_cheapest_6 rfl ?_
  refine ev_iconst (v := 0) dc_X12_cheapest_7 (by decide) ?_
  refine ev_bipush (v := 99) dc_X12_cheapest_8 (by decide) ?_
  obtain ⟨q9, hq9, h⟩ := Option.bind_eq_some_iff.mp h
  refine ev_callS (av := [.int a1, .int (0 : Int32), .int (99 : Int32)]) (st := [.ref a0]) (st1 := [.int q9, .ref a0]) dc_X12_cheapest_10 (tX12_in hW hq9) mw_1656 cs_X12_in rfl rfl rfl (Nat.le_of_ble_eq_true rfl) (Nat.le_of_ble_eq_true rfl) ⟨Nat.le_refl _, Nat.le_refl _⟩ ?_
  refine ev_if_ne (tgt := 20) dc_X12_cheapest_13 (by decide) h (fun h => ?_) (fun h => ?_)
  · refine ev_iconst (v := 1) dc_X12_cheapest_16 (by decide) ?_
    refine ev_goto (tgt := 21) dc_X12_cheapest_17 (by decide) ?_
    exact ev_sub (tX12_cheapest_b21 hW i0 h) (And.intro rfl (And.intro rfl (And.intro rfl trivial)))
  · refine ev_iconst (v := 0) dc_X12_cheapest_20 (by decide) ?_
    exact ev_sub (tX12_cheapest_b21 hW i0 h) (And.intro rfl (And.intro rfl (And.intro rfl trivial)))
theorem dc_X12_nearOnes_0 : Dc miX12_nearOnes 0 (.iconst 0) 1 1 := ⟨by decide +kernel, rfl⟩
theorem dc_X12_nearOnes_1 : Dc miX12_nearOnes 1 (.istore_n 1) 1 2 := ⟨by decide +kernel, rfl⟩
theorem dc_X12_nearOnes_2 : Dc miX12_nearOnes 2 (.iconst 0) 1 3 := ⟨by decide +kernel, rfl⟩
theorem dc_X12_nearOnes_3 : Dc miX12_nearOnes 3 (.istore_n 2) 1 4 := ⟨by decide +kernel, rfl⟩
theorem dc_X12_nearOnes_4 : Dc miX12_nearOnes 4 (.iload_n 2) 1 5 := ⟨by decide +kernel, rfl⟩
theorem dc_X12_nearOnes_5 : Dc miX12_nearOnes 5 (.aload_n 0) 1 6 := ⟨by decide +kernel, rfl⟩
theorem dc_X12_nearOnes_6 : Dc miX12_nearOnes 6 (.invokevirtual 74) 3 9 := ⟨by decide +kernel, rfl⟩
theorem dc_X12_nearOnes_9 : Dc miX12_nearOnes 9 (.if_icmp .ge 27) 3 12 := ⟨by decide +kernel, rfl⟩
theorem dc_X12_nearOnes_12 : Dc miX12_nearOnes 12 (.iload_n 1) 1 13 := ⟨by decide +kernel, rfl⟩
theorem dc_X12_nearOnes_13 : Dc miX12_nearOnes 13 (.aload_n 0) 1 14 := ⟨by decide +kernel, rfl⟩
theorem dc_X12_nearOnes_14 : Dc miX12_nearOnes 14 (.iload_n 2) 1 15 := ⟨by decide +kernel, rfl⟩
theorem dc_X12_nearOnes_15 : Dc miX12_nearOnes 15 (.invokevirtual 370) 3 18 := ⟨by decide +kernel, rfl⟩
theorem dc_X12_nearOnes_18 : Dc miX12_nearOnes 18 (.ifCond .eq 9) 3 21 := ⟨by decide +kernel, rfl⟩
theorem dc_X12_nearOnes_21 : Dc miX12_nearOnes 21 (.iconst 1) 1 22 := ⟨by decide +kernel, rfl⟩
theorem dc_X12_nearOnes_22 : Dc miX12_nearOnes 22 (.iload_n 2) 1 23 := ⟨by decide +kernel, rfl⟩
theorem dc_X12_nearOnes_23 : Dc miX12_nearOnes 23 (.ishl) 1 24 := ⟨by decide +kernel, rfl⟩
theorem dc_X12_nearOnes_24 : Dc miX12_nearOnes 24 (.goto 4) 3 27 := ⟨by decide +kernel, rfl⟩
theorem dc_X12_nearOnes_27 : Dc miX12_nearOnes 27 (.iconst 0) 1 28 := ⟨by decide +kernel, rfl⟩
theorem dc_X12_nearOnes_28 : Dc miX12_nearOnes 28 (.ior) 1 29 := ⟨by decide +kernel, rfl⟩
theorem dc_X12_nearOnes_29 : Dc miX12_nearOnes 29 (.istore_n 1) 1 30 := ⟨by decide +kernel, rfl⟩
theorem dc_X12_nearOnes_30 : Dc miX12_nearOnes 30 (.iinc 2 1) 3 33 := ⟨by decide +kernel, rfl⟩
theorem dc_X12_nearOnes_33 : Dc miX12_nearOnes 33 (.goto (-29)) 3 36 := ⟨by decide +kernel, rfl⟩
theorem dc_X12_nearOnes_36 : Dc miX12_nearOnes 36 (.iload_n 1) 1 37 := ⟨by decide +kernel, rfl⟩
theorem dc_X12_nearOnes_37 : Dc miX12_nearOnes 37 (.ireturn) 1 38 := ⟨by decide +kernel, rfl⟩
def fX12_nearOnes_b4 (N : Nat) (G : pG) (a0 : Nat) (σ : pS) : (Int32 × Int32) → Option (Int32) := lp (fun (k4 : Int32 × Int32 → Option (Int32)) (b : Int32 × Int32) => (fX12_courtiers N G a0 σ).bind (fun q1 => if q1 ≤ b.2 then (some b.1) else ((fX12_isNear N G a0 b.2 σ).bind (fun q2 => if q2 = 0 then (k4 (b.1 ||| (0 : Int32), b.2 + (1 : Int32))) else (k4 (b.1 ||| ((1 : Int32) <<< (b.2 &&& 31)), b.2 + (1 : Int32))))))) N
set_option maxRecDepth 100000 in
set_option maxHeartbeats 4000000 in
theorem tX12_nearOnes_b4 {N : Nat} {G : pG} {SK : Nat → Nat} {a0 : Nat} {σ : pS} {b : Int32 × Int32} {r : Int32} (hW : WT G) (i0 : Is G a0 11) (h : fX12_nearOnes_b4 N G a0 σ b = some r) : Ev miX12_nearOnes (3, 0, 0) G (Zp G (some (.int r)) σ) SK (0, 0) 4 [some (.ref a0), some (.int b.1), some (.int b.2)] [] σ := by
  unfold fX12_nearOnes_b4 at h
  refine lp_ind (P := fun b r9 => r9 = r → Ev miX12_nearOnes (3, 0, 0) G (Zp G (some (.int r)) σ) SK (0, 0) 4 [some (.ref a0), some (.int b.1), some (.int b.2)] [] σ) (fun k4 b r9 ih h9 e9 => ?_) N b r h rfl
  clear h
  subst e9
  have h := h9
  clear h9
  have hk4 : ∀ b : Int32 × Int32, k4 b = some r9 → Ev miX12_nearOnes (3, 0, 0) G (Zp G (some (.int r9)) σ) SK (0, 0) 4 [some (.ref a0), some (.int b.1), some (.int b.2)] [] σ := fun b hb => ih b r9 hb rfl
  clear ih
  obtain ⟨x1, x2⟩ := b
  dsimp only at h ⊢
  refine ev_iload_n dc_X12_nearOnes_4 rfl ?_
  refine ev_aload_n dc_X12_nearOnes_5 rfl ?_
  obtain ⟨q1, hq1, h⟩ := Option.bind_eq_some_iff.mp h
  refine ev_callV (av := []) (st := [.int x2]) (st1 := [.int q1, .int x2]) dc_X12_nearOnes_6 (tX12_courtiers hW i0 hq1) mw_1705 cy_X12_courtiers i0 (by decide) rfl rfl rfl rfl (Nat.le_of_ble_eq_true rfl) (Nat.le_of_ble_eq_true rfl) ⟨Nat.le_refl _, Nat.le_refl _⟩ ?_
  refine ev_icmp_ge (tgt := 36) dc_X12_nearOnes_9 (by decide) h (fun h => ?_) (fun h => ?_)
  · refine ev_iload_n dc_X12_nearOnes_36 rfl ?_
    cases h
    exact ev_iret dc_X12_nearOnes_37 rfl rfl rfl
  · refine ev_iload_n dc_X12_nearOnes_12 rfl ?_
    refine ev_aload_n dc_X12_nearOnes_13 rfl ?_
    refine ev_iload_n dc_X12_nearOnes_14 rfl ?_
    obtain ⟨q2, hq2, h⟩ := Option.bind_eq_some_iff.mp h
    refine ev_callV (av := [.int x2]) (st := [.int x1]) (st1 := [.int q2, .int x1]) dc_X12_nearOnes_15 (tX12_isNear hW i0 hq2) mw_1906 cy_X12_isNear i0 (by decide) rfl rfl rfl rfl (Nat.le_of_ble_eq_true rfl) (Nat.le_of_ble_eq_true rfl) ⟨Nat.le_refl _, Nat.le_refl _⟩ ?_
    refine ev_if_eq (tgt := 27) dc_X12_nearOnes_18 (by decide) h (fun h => ?_) (fun h => ?_)
    · refine ev_iconst (v := 0) dc_X12_nearOnes_27 (by decide) ?_
      refine ev_ior dc_X12_nearOnes_28 ?_
      refine ev_istore_n (lv' := [some (.ref a0), some (.int (x1 ||| (0 : Int32))), some (.int x2)]) dc_X12_nearOnes_29 rfl (by decide) rfl ?_
      refine ev_iinc (v := 1) (lv' := [some (.ref a0), some (.int (x1 ||| (0 : Int32))), some (.int (x2 + (1 : Int32)))]) dc_X12_nearOnes_30 rfl (by decide) rfl (by decide) rfl ?_
      refine ev_goto (tgt := 4) dc_X12_nearOnes_33 (by decide) ?_
      exact ev_sub (hk4 (x1 ||| (0 : Int32), x2 + (1 : Int32)) h) (And.intro rfl (And.intro rfl (And.intro rfl trivial)))
    · refine ev_iconst (v := 1) dc_X12_nearOnes_21 (by decide) ?_
      refine ev_iload_n dc_X12_nearOnes_22 rfl ?_
      refine ev_ishl dc_X12_nearOnes_23 ?_
      refine ev_goto (tgt := 28) dc_X12_nearOnes_24 (by decide) ?_
      refine ev_ior dc_X12_nearOnes_28 ?_
      refine ev_istore_n (lv' := [some (.ref a0), some (.int (x1 ||| ((1 : Int32) <<< (x2 &&& 31)))), some (.int x2)]) dc_X12_nearOnes_29 rfl (by decide) rfl ?_
      refine ev_iinc (v := 1) (lv' := [some (.ref a0), some (.int (x1 ||| ((1 : Int32) <<< (x2 &&& 31)))), some (.int (x2 + (1 : Int32)))]) dc_X12_nearOnes_30 rfl (by decide) rfl (by decide) rfl ?_
      refine ev_goto (tgt := 4) dc_X12_nearOnes_33 (by decide) ?_
      exact ev_sub (hk4 (x1 ||| ((1 : Int32) <<< (x2 &&& 31)), x2 + (1 : Int32)) h) (And.intro rfl (And.intro rfl (And.intro rfl trivial)))
def fX12_nearOnes (N : Nat) (G : pG) (a0 : Nat) (σ : pS) : Option (Int32) := fX12_nearOnes_b4 N G a0 σ ((0 : Int32), (0 : Int32))
set_option maxRecDepth 100000 in
set_option maxHeartbeats 4000000 in
theorem tX12_nearOnes {N : Nat} {G : pG} {SK : Nat → Nat} {a0 : Nat} {σ : pS} {r : Int32} (hW : WT G) (i0 : Is G a0 11) (h : fX12_nearOnes N G a0 σ = some r) : Dn miX12_nearOnes yX12_nearOnes 3 G SK [.ref a0] σ (some (.int r)) σ := by
  unfold fX12_nearOnes at h
  refine dn_of (lv := [some (.ref a0), none, none]) (by decide) rfl rfl (Nat.le_of_ble_eq_true rfl) rfl ?_
  refine ev_iconst (v := 0) dc_X12_nearOnes_0 (by decide) ?_
  refine ev_istore_n (lv' := [some (.ref a0), some (.int (0 : Int32)), none]) dc_X12_nearOnes_1 rfl (by decide) rfl ?_
  refine ev_iconst (v := 0) dc_X12_nearOnes_2 (by decide) ?_
  refine ev_istore_n (lv' := [some (.ref a0), some (.int (0 : Int32)), some (.int (0 : Int32))]) dc_X12_nearOnes_3 rfl (by decide) rfl ?_
  exact ev_sub (tX12_nearOnes_b4 (b := ((0 : Int32), (0 : Int32))) hW i0 h) (And.intro rfl (And.intro rfl (And.intro rfl trivial)))
theorem dc_X12_count_0 : Dc miX12_count 0 (.aload_n 0) 1 1 := ⟨by decide +kernel, rfl⟩
theorem dc_X12_count_1 : Dc miX12_count 1 (.iconst 0) 1 2 := ⟨by decide +kernel, rfl⟩
theorem dc_X12_count_2 : Dc miX12_count 2 (.putfield 3) 3 5 := ⟨by decide +kernel, rfl⟩
theorem dc_X12_count_5 : Dc miX12_count 5 (.iload_n 1) 1 6 := ⟨by decide +kernel, rfl⟩
theorem dc_X12_count_6 : Dc miX12_count 6 (.tableswitch 147 6 18 #[66, 147, 147, 147, 147, 90, 147, 147, 147, 109, 114, 134, 142]) 66 72 := ⟨by decide +kernel, rfl⟩
theorem dc_X12_count_72 : Dc miX12_count 72 (.aload_n 0) 1 73 := ⟨by decide +kernel, rfl⟩
theorem dc_X12_count_73 : Dc miX12_count 73 (.getfield 13) 3 76 := ⟨by decide +kernel, rfl⟩
theorem dc_X12_count_76 : Dc miX12_count 76 (.bipush 6) 2 78 := ⟨by decide +kernel, rfl⟩
theorem dc_X12_count_78 : Dc miX12_count 78 (.iaload) 1 79 := ⟨by decide +kernel, rfl⟩
theorem dc_X12_count_79 : Dc miX12_count 79 (.iconst 1) 1 80 := ⟨by decide +kernel, rfl⟩
theorem dc_X12_count_80 : Dc miX12_count 80 (.if_icmp .ne 14) 3 83 := ⟨by decide +kernel, rfl⟩
theorem dc_X12_count_83 : Dc miX12_count 83 (.aload_n 0) 1 84 := ⟨by decide +kernel, rfl⟩
theorem dc_X12_count_84 : Dc miX12_count 84 (.getfield 13) 3 87 := ⟨by decide +kernel, rfl⟩
theorem dc_X12_count_87 : Dc miX12_count 87 (.sipush 383) 3 90 := ⟨by decide +kernel, rfl⟩
theorem dc_X12_count_90 : Dc miX12_count 90 (.iaload) 1 91 := ⟨by decide +kernel, rfl⟩
theorem dc_X12_count_91 : Dc miX12_count 91 (.goto 4) 3 94 := ⟨by decide +kernel, rfl⟩
theorem dc_X12_count_94 : Dc miX12_count 94 (.iconst (-1)) 1 95 := ⟨by decide +kernel, rfl⟩
theorem dc_X12_count_95 : Dc miX12_count 95 (.ireturn) 1 96 := ⟨by decide +kernel, rfl⟩
theorem dc_X12_count_96 : Dc miX12_count 96 (.aload_n 0) 1 97 := ⟨by decide +kernel, rfl⟩
theorem dc_X12_count_97 : Dc miX12_count 97 (.invokevirtual 66) 3 100 := ⟨by decide +kernel, rfl⟩
theorem dc_X12_count_100 : Dc miX12_count 100 (.ifCond .ne 7) 3 103 := ⟨by decide +kernel, rfl⟩
theorem dc_X12_count_103 : Dc miX12_count 103 (.iconst (-1)) 1 104 := ⟨by decide +kernel, rfl⟩
theorem dc_X12_count_104 : Dc miX12_count 104 (.goto 10) 3 107 := ⟨by decide +kernel, rfl⟩
theorem dc_X12_count_107 : Dc miX12_count 107 (.aload_n 0) 1 108 := ⟨by decide +kernel, rfl⟩
theorem dc_X12_count_108 : Dc miX12_count 108 (.getfield 13) 3 111 := ⟨by decide +kernel, rfl⟩
theorem dc_X12_count_111 : Dc miX12_count 111 (.bipush 11) 2 113 := ⟨by decide +kernel, rfl⟩
theorem dc_X12_count_113 : Dc miX12_count 113 (.iaload) 1 114 := ⟨by decide +kernel, rfl⟩
theorem dc_X12_count_114 : Dc miX12_count 114 (.ireturn) 1 115 := ⟨by decide +kernel, rfl⟩
theorem dc_X12_count_115 : Dc miX12_count 115 (.aload_n 0) 1 116 := ⟨by decide +kernel, rfl⟩
theorem dc_X12_count_116 : Dc miX12_count 116 (.invokevirtual 412) 3 119 := ⟨by decide +kernel, rfl⟩
theorem dc_X12_count_119 : Dc miX12_count 119 (.ireturn) 1 120 := ⟨by decide +kernel, rfl⟩
theorem dc_X12_count_120 : Dc miX12_count 120 (.iconst 0) 1 121 := ⟨by decide +kernel, rfl⟩
theorem dc_X12_count_121 : Dc miX12_count 121 (.aload_n 0) 1 122 := ⟨by decide +kernel, rfl⟩
theorem dc_X12_count_122 : Dc miX12_count 122 (.getfield 13) 3 125 := ⟨by decide +kernel, rfl⟩
theorem dc_X12_count_125 : Dc miX12_count 125 (.bipush 10) 2 127 := ⟨by decide +kernel, rfl⟩
theorem dc_X12_count_127 : Dc miX12_count 127 (.iaload) 1 128 := ⟨by decide +kernel, rfl⟩
theorem dc_X12_count_128 : Dc miX12_count 128 (.aload_n 0) 1 129 := ⟨by decide +kernel, rfl⟩
theorem dc_X12_count_129 : Dc miX12_count 129 (.getfield 13) 3 132 := ⟨by decide +kernel, rfl⟩
theorem dc_X12_count_132 : Dc miX12_count 132 (.bipush 9) 2 134 := ⟨by decide +kernel, rfl⟩
theorem dc_X12_count_134 : Dc miX12_count 134 (.iaload) 1 135 := ⟨by decide +kernel, rfl⟩
theorem dc_X12_count_135 : Dc miX12_count 135 (.isub) 1 136 := ⟨by decide +kernel, rfl⟩
theorem dc_X12_count_136 : Dc miX12_count 136 (.invokestatic 323) 3 139 := ⟨by decide +kernel, rfl⟩
theorem dc_X12_count_139 : Dc miX12_count 139 (.ireturn) 1 140 := ⟨by decide +kernel, rfl⟩
theorem dc_X12_count_140 : Dc miX12_count 140 (.aload_n 0) 1 141 := ⟨by decide +kernel, rfl⟩
theorem dc_X12_count_141 : Dc miX12_count 141 (.getfield 13) 3 144 := ⟨by decide +kernel, rfl⟩
theorem dc_X12_count_144 : Dc miX12_count 144 (.bipush 15) 2 146 := ⟨by decide +kernel, rfl⟩
theorem dc_X12_count_146 : Dc miX12_count 146 (.iaload) 1 147 := ⟨by decide +kernel, rfl⟩
theorem dc_X12_count_147 : Dc miX12_count 147 (.ireturn) 1 148 := ⟨by decide +kernel, rfl⟩
theorem dc_X12_count_148 : Dc miX12_count 148 (.aload_n 0) 1 149 := ⟨by decide +kernel, rfl⟩
theorem dc_X12_count_149 : Dc miX12_count 149 (.getfield 59) 3 152 := ⟨by decide +kernel, rfl⟩
theorem dc_X12_count_152 : Dc miX12_count 152 (.ireturn) 1 153 := ⟨by decide +kernel, rfl⟩
theorem dc_X12_count_153 : Dc miX12_count 153 (.iload_n 1) 1 154 := ⟨by decide +kernel, rfl⟩
theorem dc_X12_count_154 : Dc miX12_count 154 (.iconst 0) 1 155 := ⟨by decide +kernel, rfl⟩
theorem dc_X12_count_155 : Dc miX12_count 155 (.bipush 14) 2 157 := ⟨by decide +kernel, rfl⟩
theorem dc_X12_count_157 : Dc miX12_count 157 (.invokestatic 70) 3 160 := ⟨by decide +kernel, rfl⟩
theorem dc_X12_count_160 : Dc miX12_count 160 (.ifCond .eq 12) 3 163 := ⟨by decide +kernel, rfl⟩
theorem dc_X12_count_163 : Dc miX12_count 163 (.aload_n 0) 1 164 := ⟨by decide +kernel, rfl⟩
theorem dc_X12_count_164 : Dc miX12_count 164 (.getfield 13) 3 167 := ⟨by decide +kernel, rfl⟩
theorem dc_X12_count_167 : Dc miX12_count 167 (.iload_n 1) 1 168 := ⟨by decide +kernel, rfl⟩
theorem dc_X12_count_168 : Dc miX12_count 168 (.iaload) 1 169 := ⟨by decide +kernel, rfl⟩
theorem dc_X12_count_169 : Dc miX12_count 169 (.goto 4) 3 172 := ⟨by decide +kernel, rfl⟩
theorem dc_X12_count_172 : Dc miX12_count 172 (.iconst (-1)) 1 173 := ⟨by decide +kernel, rfl⟩
theorem dc_X12_count_173 : Dc miX12_count 173 (.ireturn) 1 174 := ⟨by decide +kernel, rfl⟩
def fX12_count (N : Nat) (G : pG) (a0 : Nat) (a1 : Int32) (σ : pS) : Option (Int32 × pS) := if a1 = 6 then (ck (inB (6 : Int32) (pN G (pR G a0 1))) (if (gA (putF σ a0 0 (0 : Int32)) (pR G a0 1) (6 : Int32)) = (1 : Int32) then (ck (inB (383 : Int32) (pN G (pR G a0 1))) (some (gA (putF σ a0 0 (0 : Int32)) (pR G a0 1) (383 : Int32), putF σ a0 0 (0 : Int32)))) else (some ((-1 : Int32), putF σ a0 0 (0 : Int32))))) else (if a1 = 7 then ((fX12_in N G a1 (0 : Int32) (14 : Int32) (putF σ a0 0 (0 : Int32))).bind (fun q2 => if q2 = 0 then (some ((-1 : Int32), putF σ a0 0 (0 : Int32))) else (ck (inB a1 (pN G (pR G a0 1))) (some (gA (putF σ a0 0 (0 : Int32)) (pR G a0 1) a1, putF σ a0 0 (0 : Int32)))))) else (if a1 = 8 then ((fX12_in N G a1 (0 : Int32) (14 : Int32) (putF σ a0 0 (0 : Int32))).bind (fun q3 => if q3 = 0 then (some ((-1 : Int32), putF σ a0 0 (0 : Int32))) else (ck (inB a1 (pN G (pR G a0 1))) (some (gA (putF σ a0 0 (0 : Int32)) (pR G a0 1) a1, putF σ a0 0 (0 : Int32)))))) else (if a1 = 9 then ((fX12_in N G a1 (0 : Int32) (14 : Int32) (putF σ a0 0 (0 : Int32))).bind (fun q4 => if q4 = 0 then (some ((-1 : Int32), putF σ a0 0 (0 : Int32))) else (ck (inB a1 (pN G (pR G a0 1))) (some (gA (putF σ a0 0 (0 : Int32)) (pR G a0 1) a1, putF σ a0 0 (0 : Int32)))))) else (if a1 = 10 then ((fX12_in N G a1 (0 : Int32) (14 : Int32) (putF σ a0 0 (0 : Int32))).bind (fun q5 => if q5 = 0 then (some ((-1 : Int32), putF σ a0 0 (0 : Int32))) else (ck (inB a1 (pN G (pR G a0 1))) (some (gA (putF σ a0 0 (0 : Int32)) (pR G a0 1) a1, putF σ a0 0 (0 : Int32)))))) else (if a1 = 11 then ((fX12_names N G a0 (putF σ a0 0 (0 : Int32))).bind (fun q6 => if q6 = 0 then (some ((-1 : Int32), putF σ a0 0 (0 : Int32))) else (ck (inB (11 : Int32) (pN G (pR G a0 1))) (some (gA (putF σ a0 0 (0 : Int32)) (pR G a0 1) (11 : Int32), putF σ a0 0 (0 : Int32)))))) else (if a1 = 12 then ((fX12_in N G a1 (0 : Int32) (14 : Int32) (putF σ a0 0 (0 : Int32))).bind (fun q7 => if q7 = 0 then (some ((-1 : Int32), putF σ a0 0 (0 : Int32))) else (ck (inB a1 (pN G (pR G a0 1))) (some (gA (putF σ a0 0 (0 : Int32)) (pR G a0 1) a1, putF σ a0 0 (0 : Int32)))))) else (if a1 = 13 then ((fX12_in N G a1 (0 : Int32) (14 : Int32) (putF σ a0 0 (0 : Int32))).bind (fun q8 => if q8 = 0 then (some ((-1 : Int32), putF σ a0 0 (0 : Int32))) else (ck (inB a1 (pN G (pR G a0 1))) (some (gA (putF σ a0 0 (0 : Int32)) (pR G a0 1) a1, putF σ a0 0 (0 : Int32)))))) else (if a1 = 14 then ((fX12_in N G a1 (0 : Int32) (14 : Int32) (putF σ a0 0 (0 : Int32))).bind (fun q9 => if q9 = 0 then (some ((-1 : Int32), putF σ a0 0 (0 : Int32))) else (ck (inB a1 (pN G (pR G a0 1))) (some (gA (putF σ a0 0 (0 : Int32)) (pR G a0 1) a1, putF σ a0 0 (0 : Int32)))))) else (if a1 = 15 then ((fX12_nearOnes N G a0 (putF σ a0 0 (0 : Int32))).bind (fun q10 => some (q10, putF σ a0 0 (0 : Int32)))) else (if a1 = 16 then (ck (inB (10 : Int32) (pN G (pR G a0 1))) (ck (inB (9 : Int32) (pN G (pR G a0 1))) (some (jmax (0 : Int32) ((gA (putF σ a0 0 (0 : Int32)) (pR G a0 1) (10 : Int32)) - (gA (putF σ a0 0 (0 : Int32)) (pR G a0 1) (9 : Int32))), putF σ a0 0 (0 : Int32))))) else (if a1 = 17 then (ck (inB (15 : Int32) (pN G (pR G a0 1))) (some (gA (putF σ a0 0 (0 : Int32)) (pR G a0 1) (15 : Int32), putF σ a0 0 (0 : Int32)))) else (if a1 = 18 then (some ((putF σ a0 0 (0 : Int32)).1 a0 7, putF σ a0 0 (0 : Int32))) else ((fX12_in N G a1 (0 : Int32) (14 : Int32) (putF σ a0 0 (0 : Int32))).bind (fun q1 => if q1 = 0 then (some ((-1 : Int32), putF σ a0 0 (0 : Int32))) else (ck (inB a1 (pN G (pR G a0 1))) (some (gA (putF σ a0 0 (0 : Int32)) (pR G a0 1) a1, putF σ a0 0 (0 : Int32))))))))))))))))))
set_option maxRecDepth 100000 in
set_option maxHeartbeats 4000000 in
theorem tX12_count {N : Nat} {G : pG} {SK : Nat → Nat} {a0 : Nat} {a1 : Int32} {σ : pS} {r : Int32 × pS} (hW : WT G) (i0 : Is G a0 11) (h : fX12_count N G a0 a1 σ = some r) : Dn miX12_count yX12_count 4 G SK [.ref a0, .int a1] σ (some (.int r.1)) r.2 := by
  unfold fX12_count at h
  refine dn_of (lv := [some (.ref a0), some (.int a1)]) (by decide) rfl rfl (Nat.le_of_ble_eq_true rfl) rfl ?_
  refine ev_aload_n dc_X12_count_0 rfl ?_
  refine ev_iconst (v := 0) dc_X12_count_1 (by decide) ?_
  refine ev_putI dc_X12_count_2 fi_X12_3 rfl i0 ?_
  refine ev_iload_n dc_X12_count_5 rfl ?_
  by_cases z6 : a1 = 6
  · rw [if_pos z6] at h
    refine ev_tabIn (tgt := 72) 6 z6 dc_X12_count_6 (by decide) (by decide) rfl (by decide) ?_
    refine ev_aload_n dc_X12_count_72 rfl ?_
    refine ev_getR dc_X12_count_73 fi_X12_13 rfl i0 ?_
    refine ev_bipush (v := 6) dc_X12_count_76 (by decide) ?_
    refine ev_iald dc_X12_count_78 (wt hW i0 1 rfl rfl) h (fun h => ?_)
    refine ev_iconst (v := 1) dc_X12_count_79 (by decide) ?_
    refine ev_icmp_ne (tgt := 94) dc_X12_count_80 (by decide) h (fun h => ?_) (fun h => ?_)
    · refine ev_aload_n dc_X12_count_83 rfl ?_
      refine ev_getR dc_X12_count_84 fi_X12_13 rfl i0 ?_
      refine ev_sipush (v := 383) dc_X12_count_87 (by decide) ?_
      refine ev_iald dc_X12_count_90 (wt hW i0 1 rfl rfl) h (fun h => ?_)
      refine ev_goto (tgt := 95) dc_X12_count_91 (by decide) ?_
      cases h
      exact ev_iret dc_X12_count_95 rfl rfl rfl
    · refine ev_iconst (v := (-1)) dc_X12_count_94 (by decide) ?_
      cases h
      exact ev_iret dc_X12_count_95 rfl rfl rfl
  rw [if_neg z6] at h
  by_cases z7 : a1 = 7
  · rw [if_pos z7] at h
    refine ev_tabIn (tgt := 153) 7 z7 dc_X12_count_6 (by decide) (by decide) rfl (by decide) ?_
    refine ev_iload_n dc_X12_count_153 rfl ?_
    refine ev_iconst (v := 0) dc_X12_count_154 (by decide) ?_
    refine ev_bipush (v := 14) dc_X12_count_155 (by decide) ?_
    obtain ⟨q2, hq2, h⟩ := Option.bind_eq_some_iff.mp h
    refine ev_callS (av := [.int a1, .int (0 : Int32), .int (14 : Int32)]) (st := []) (st1 := [.int q2]) dc_X12_count_157 (tX12_in hW hq2) mw_1656 cs_X12_in rfl rfl rfl (Nat.le_of_ble_eq_true rfl) (Nat.le_of_ble_eq_true rfl) ⟨Nat.le_refl _, Nat.le_refl _⟩ ?_
    refine ev_if_eq (tgt := 172) dc_X12_count_160 (by decide) h (fun h => ?_) (fun h => ?_)
    · refine ev_iconst (v := (-1)) dc_X12_count_172 (by decide) ?_
      cases h
      exact ev_iret dc_X12_count_173 rfl rfl rfl
    · refine ev_aload_n dc_X12_count_163 rfl ?_
      refine ev_getR dc_X12_count_164 fi_X12_13 rfl i0 ?_
      refine ev_iload_n dc_X12_count_167 rfl ?_
      refine ev_iald dc_X12_count_168 (wt hW i0 1 rfl rfl) h (fun h => ?_)
      refine ev_goto (tgt := 173) dc_X12_count_169 (by decide) ?_
      cases h
      exact ev_iret dc_X12_count_173 rfl rfl rfl
  rw [if_neg z7] at h
  by_cases z8 : a1 = 8
  · rw [if_pos z8] at h
    refine ev_tabIn (tgt := 153) 8 z8 dc_X12_count_6 (by decide) (by decide) rfl (by decide) ?_
    refine ev_iload_n dc_X12_count_153 rfl ?_
    refine ev_iconst (v := 0) dc_X12_count_154 (by decide) ?_
    refine ev_bipush (v := 14) dc_X12_count_155 (by decide) ?_
    obtain ⟨q3, hq3, h⟩ := Option.bind_eq_some_iff.mp h
    refine ev_callS (av := [.int a1, .int (0 : Int32), .int (14 : Int32)]) (st := []) (st1 := [.int q3]) dc_X12_count_157 (tX12_in hW hq3) mw_1656 cs_X12_in rfl rfl rfl (Nat.le_of_ble_eq_true rfl) (Nat.le_of_ble_eq_true rfl) ⟨Nat.le_refl _, Nat.le_refl _⟩ ?_
    refine ev_if_eq (tgt := 172) dc_X12_count_160 (by decide) h (fun h => ?_) (fun h => ?_)
    · refine ev_iconst (v := (-1)) dc_X12_count_172 (by decide) ?_
      cases h
      exact ev_iret dc_X12_count_173 rfl rfl rfl
    · refine ev_aload_n dc_X12_count_163 rfl ?_
      refine ev_getR dc_X12_count_164 fi_X12_13 rfl i0 ?_
      refine ev_iload_n dc_X12_count_167 rfl ?_
      refine ev_iald dc_X12_count_168 (wt hW i0 1 rfl rfl) h (fun h => ?_)
      refine ev_goto (tgt := 173) dc_X12_count_169 (by decide) ?_
      cases h
      exact ev_iret dc_X12_count_173 rfl rfl rfl
  rw [if_neg z8] at h
  by_cases z9 : a1 = 9
  · rw [if_pos z9] at h
    refine ev_tabIn (tgt := 153) 9 z9 dc_X12_count_6 (by decide) (by decide) rfl (by decide) ?_
    refine ev_iload_n dc_X12_count_153 rfl ?_
    refine ev_iconst (v := 0) dc_X12_count_154 (by decide) ?_
    refine ev_bipush (v := 14) dc_X12_count_155 (by decide) ?_
    obtain ⟨q4, hq4, h⟩ := Option.bind_eq_some_iff.mp h
    refine ev_callS (av := [.int a1, .int (0 : Int32), .int (14 : Int32)]) (st := []) (st1 := [.int q4]) dc_X12_count_157 (tX12_in hW hq4) mw_1656 cs_X12_in rfl rfl rfl (Nat.le_of_ble_eq_true rfl) (Nat.le_of_ble_eq_true rfl) ⟨Nat.le_refl _, Nat.le_refl _⟩ ?_
    refine ev_if_eq (tgt := 172) dc_X12_count_160 (by decide) h (fun h => ?_) (fun h => ?_)
    · refine ev_iconst (v := (-1)) dc_X12_count_172 (by decide) ?_
      cases h
      exact ev_iret dc_X12_count_173 rfl rfl rfl
    · refine ev_aload_n dc_X12_count_163 rfl ?_
      refine ev_getR dc_X12_count_164 fi_X12_13 rfl i0 ?_
      refine ev_iload_n dc_X12_count_167 rfl ?_
      refine ev_iald dc_X12_count_168 (wt hW i0 1 rfl rfl) h (fun h => ?_)
      refine ev_goto (tgt := 173) dc_X12_count_169 (by decide) ?_
      cases h
      exact ev_iret dc_X12_count_173 rfl rfl rfl
  rw [if_neg z9] at h
  by_cases z10 : a1 = 10
  · rw [if_pos z10] at h
    refine ev_tabIn (tgt := 153) 10 z10 dc_X12_count_6 (by decide) (by decide) rfl (by decide) ?_
    refine ev_iload_n dc_X12_count_153 rfl ?_
    refine ev_iconst (v := 0) dc_X12_count_154 (by decide) ?_
    refine ev_bipush (v := 14) dc_X12_count_155 (by decide) ?_
    obtain ⟨q5, hq5, h⟩ := Option.bind_eq_some_iff.mp h
    refine ev_callS (av := [.int a1, .int (0 : Int32), .int (14 : Int32)]) (st := []) (st1 := [.int q5]) dc_X12_count_157 (tX12_in hW hq5) mw_1656 cs_X12_in rfl rfl rfl (Nat.le_of_ble_eq_true rfl) (Nat.le_of_ble_eq_true rfl) ⟨Nat.le_refl _, Nat.le_refl _⟩ ?_
    refine ev_if_eq (tgt := 172) dc_X12_count_160 (by decide) h (fun h => ?_) (fun h => ?_)
    · refine ev_iconst (v := (-1)) dc_X12_count_172 (by decide) ?_
      cases h
      exact ev_iret dc_X12_count_173 rfl rfl rfl
    · refine ev_aload_n dc_X12_count_163 rfl ?_
      refine ev_getR dc_X12_count_164 fi_X12_13 rfl i0 ?_
      refine ev_iload_n dc_X12_count_167 rfl ?_
      refine ev_iald dc_X12_count_168 (wt hW i0 1 rfl rfl) h (fun h => ?_)
      refine ev_goto (tgt := 173) dc_X12_count_169 (by decide) ?_
      cases h
      exact ev_iret dc_X12_count_173 rfl rfl rfl
  rw [if_neg z10] at h
  by_cases z11 : a1 = 11
  · rw [if_pos z11] at h
    refine ev_tabIn (tgt := 96) 11 z11 dc_X12_count_6 (by decide) (by decide) rfl (by decide) ?_
    refine ev_aload_n dc_X12_count_96 rfl ?_
    obtain ⟨q6, hq6, h⟩ := Option.bind_eq_some_iff.mp h
    refine ev_callV (av := []) (st := []) (st1 := [.int q6]) dc_X12_count_97 (tX12_names hW i0 hq6) mw_1648 cy_X12_names i0 (by decide) rfl rfl rfl rfl (Nat.le_of_ble_eq_true rfl) (Nat.le_of_ble_eq_true rfl) ⟨Nat.le_refl _, Nat.le_refl _⟩ ?_
    refine ev_if_ne (tgt := 107) dc_X12_count_100 (by decide) h (fun h => ?_) (fun h => ?_)
    · refine ev_iconst (v := (-1)) dc_X12_count_103 (by decide) ?_
      refine ev_goto (tgt := 114) dc_X12_count_104 (by decide) ?_
      cases h
      exact ev_iret dc_X12_count_114 rfl rfl rfl
    · refine ev_aload_n dc_X12_count_107 rfl ?_
      refine ev_getR dc_X12_count_108 fi_X12_13 rfl i0 ?_
      refine ev_bipush (v := 11) dc_X12_count_111 (by decide) ?_
      refine ev_iald dc_X12_count_113 (wt hW i0 1 rfl rfl) h (fun h => ?_)
      cases h
      exact ev_iret dc_X12_count_114 rfl rfl rfl
  rw [if_neg z11] at h
  by_cases z12 : a1 = 12
  · rw [if_pos z12] at h
    refine ev_tabIn (tgt := 153) 12 z12 dc_X12_count_6 (by decide) (by decide) rfl (by decide) ?_
    refine ev_iload_n dc_X12_count_153 rfl ?_
    refine ev_iconst (v := 0) dc_X12_count_154 (by decide) ?_
    refine ev_bipush (v := 14) dc_X12_count_155 (by decide) ?_
    obtain ⟨q7, hq7, h⟩ := Option.bind_eq_some_iff.mp h
    refine ev_callS (av := [.int a1, .int (0 : Int32), .int (14 : Int32)]) (st := []) (st1 := [.int q7]) dc_X12_count_157 (tX12_in hW hq7) mw_1656 cs_X12_in rfl rfl rfl (Nat.le_of_ble_eq_true rfl) (Nat.le_of_ble_eq_true rfl) ⟨Nat.le_refl _, Nat.le_refl _⟩ ?_
    refine ev_if_eq (tgt := 172) dc_X12_count_160 (by decide) h (fun h => ?_) (fun h => ?_)
    · refine ev_iconst (v := (-1)) dc_X12_count_172 (by decide) ?_
      cases h
      exact ev_iret dc_X12_count_173 rfl rfl rfl
    · refine ev_aload_n dc_X12_count_163 rfl ?_
      refine ev_getR dc_X12_count_164 fi_X12_13 rfl i0 ?_
      refine ev_iload_n dc_X12_count_167 rfl ?_
      refine ev_iald dc_X12_count_168 (wt hW i0 1 rfl rfl) h (fun h => ?_)
      refine ev_goto (tgt := 173) dc_X12_count_169 (by decide) ?_
      cases h
      exact ev_iret dc_X12_count_173 rfl rfl rfl
  rw [if_neg z12] at h
  by_cases z13 : a1 = 13
  · rw [if_pos z13] at h
    refine ev_tabIn (tgt := 153) 13 z13 dc_X12_count_6 (by decide) (by decide) rfl (by decide) ?_
    refine ev_iload_n dc_X12_count_153 rfl ?_
    refine ev_iconst (v := 0) dc_X12_count_154 (by decide) ?_
    refine ev_bipush (v := 14) dc_X12_count_155 (by decide) ?_
    obtain ⟨q8, hq8, h⟩ := Option.bind_eq_some_iff.mp h
    refine ev_callS (av := [.int a1, .int (0 : Int32), .int (14 : Int32)]) (st := []) (st1 := [.int q8]) dc_X12_count_157 (tX12_in hW hq8) mw_1656 cs_X12_in rfl rfl rfl (Nat.le_of_ble_eq_true rfl) (Nat.le_of_ble_eq_true rfl) ⟨Nat.le_refl _, Nat.le_refl _⟩ ?_
    refine ev_if_eq (tgt := 172) dc_X12_count_160 (by decide) h (fun h => ?_) (fun h => ?_)
    · refine ev_iconst (v := (-1)) dc_X12_count_172 (by decide) ?_
      cases h
      exact ev_iret dc_X12_count_173 rfl rfl rfl
    · refine ev_aload_n dc_X12_count_163 rfl ?_
      refine ev_getR dc_X12_count_164 fi_X12_13 rfl i0 ?_
      refine ev_iload_n dc_X12_count_167 rfl ?_
      refine ev_iald dc_X12_count_168 (wt hW i0 1 rfl rfl) h (fun h => ?_)
      refine ev_goto (tgt := 173) dc_X12_count_169 (by decide) ?_
      cases h
      exact ev_iret dc_X12_count_173 rfl rfl rfl
  rw [if_neg z13] at h
  by_cases z14 : a1 = 14
  · rw [if_pos z14] at h
    refine ev_tabIn (tgt := 153) 14 z14 dc_X12_count_6 (by decide) (by decide) rfl (by decide) ?_
    refine ev_iload_n dc_X12_count_153 rfl ?_
    refine ev_iconst (v := 0) dc_X12_count_154 (by decide) ?_
    refine ev_bipush (v := 14) dc_X12_count_155 (by decide) ?_
    obtain ⟨q9, hq9, h⟩ := Option.bind_eq_some_iff.mp h
    refine ev_callS (av := [.int a1, .int (0 : Int32), .int (14 : Int32)]) (st := []) (st1 := [.int q9]) dc_X12_count_157 (tX12_in hW hq9) mw_1656 cs_X12_in rfl rfl rfl (Nat.le_of_ble_eq_true rfl) (Nat.le_of_ble_eq_true rfl) ⟨Nat.le_refl _, Nat.le_refl _⟩ ?_
    refine ev_if_eq (tgt := 172) dc_X12_count_160 (by decide) h (fun h => ?_) (fun h => ?_)
    · refine ev_iconst (v := (-1)) dc_X12_count_172 (by decide) ?_
      cases h
      exact ev_iret dc_X12_count_173 rfl rfl rfl
    · refine ev_aload_n dc_X12_count_163 rfl ?_
      refine ev_getR dc_X12_count_164 fi_X12_13 rfl i0 ?_
      refine ev_iload_n dc_X12_count_167 rfl ?_
      refine ev_iald dc_X12_count_168 (wt hW i0 1 rfl rfl) h (fun h => ?_)
      refine ev_goto (tgt := 173) dc_X12_count_169 (by decide) ?_
      cases h
      exact ev_iret dc_X12_count_173 rfl rfl rfl
  rw [if_neg z14] at h
  by_cases z15 : a1 = 15
  · rw [if_pos z15] at h
    refine ev_tabIn (tgt := 115) 15 z15 dc_X12_count_6 (by decide) (by decide) rfl (by decide) ?_
    refine ev_aload_n dc_X12_count_115 rfl ?_
    obtain ⟨q10, hq10, h⟩ := Option.bind_eq_some_iff.mp h
    refine ev_callV (av := []) (st := []) (st1 := [.int q10]) dc_X12_count_116 (tX12_nearOnes hW i0 hq10) mw_2010 cy_X12_nearOnes i0 (by decide) rfl rfl rfl rfl (Nat.le_of_ble_eq_true rfl) (Nat.le_of_ble_eq_true rfl) ⟨Nat.le_refl _, Nat.le_refl _⟩ ?_
    cases h
    exact ev_iret dc_X12_count_119 rfl rfl rfl
  rw [if_neg z15] at h
  by_cases z16 : a1 = 16
  · rw [if_pos z16] at h
    refine ev_tabIn (tgt := 120) 16 z16 dc_X12_count_6 (by decide) (by decide) rfl (by decide) ?_
    refine ev_iconst (v := 0) dc_X12_count_120 (by decide) ?_
    refine ev_aload_n dc_X12_count_121 rfl ?_
    refine ev_getR dc_X12_count_122 fi_X12_13 rfl i0 ?_
    refine ev_bipush (v := 10) dc_X12_count_125 (by decide) ?_
    refine ev_iald dc_X12_count_127 (wt hW i0 1 rfl rfl) h (fun h => ?_)
    refine ev_aload_n dc_X12_count_128 rfl ?_
    refine ev_getR dc_X12_count_129 fi_X12_13 rfl i0 ?_
    refine ev_bipush (v := 9) dc_X12_count_132 (by decide) ?_
    refine ev_iald dc_X12_count_134 (wt hW i0 1 rfl rfl) h (fun h => ?_)
    refine ev_isub dc_X12_count_135 ?_
    refine ev_max dc_X12_count_136 mw_1844 (Nat.le_of_ble_eq_true rfl) (Nat.le_of_ble_eq_true rfl) ⟨Nat.le_refl _, Nat.le_refl _⟩ ?_
    cases h
    exact ev_iret dc_X12_count_139 rfl rfl rfl
  rw [if_neg z16] at h
  by_cases z17 : a1 = 17
  · rw [if_pos z17] at h
    refine ev_tabIn (tgt := 140) 17 z17 dc_X12_count_6 (by decide) (by decide) rfl (by decide) ?_
    refine ev_aload_n dc_X12_count_140 rfl ?_
    refine ev_getR dc_X12_count_141 fi_X12_13 rfl i0 ?_
    refine ev_bipush (v := 15) dc_X12_count_144 (by decide) ?_
    refine ev_iald dc_X12_count_146 (wt hW i0 1 rfl rfl) h (fun h => ?_)
    cases h
    exact ev_iret dc_X12_count_147 rfl rfl rfl
  rw [if_neg z17] at h
  by_cases z18 : a1 = 18
  · rw [if_pos z18] at h
    refine ev_tabIn (tgt := 148) 18 z18 dc_X12_count_6 (by decide) (by decide) rfl (by decide) ?_
    refine ev_aload_n dc_X12_count_148 rfl ?_
    refine ev_getI dc_X12_count_149 fi_X12_59 rfl i0 ?_
    cases h
    exact ev_iret dc_X12_count_152 rfl rfl rfl
  rw [if_neg z18] at h
  refine ev_tabOut (tgt := 153) dc_X12_count_6 ?_ (by decide) ?_
  · exact sw_out (lo := 6) (vs := [6, 7, 8, 9, 10, 11, 12, 13, 14, 15, 16, 17, 18]) (by decide) (by decide) (And.intro z6 (And.intro z7 (And.intro z8 (And.intro z9 (And.intro z10 (And.intro z11 (And.intro z12 (And.intro z13 (And.intro z14 (And.intro z15 (And.intro z16 (And.intro z17 (And.intro z18 trivial)))))))))))))
  refine ev_iload_n dc_X12_count_153 rfl ?_
  refine ev_iconst (v := 0) dc_X12_count_154 (by decide) ?_
  refine ev_bipush (v := 14) dc_X12_count_155 (by decide) ?_
  obtain ⟨q1, hq1, h⟩ := Option.bind_eq_some_iff.mp h
  refine ev_callS (av := [.int a1, .int (0 : Int32), .int (14 : Int32)]) (st := []) (st1 := [.int q1]) dc_X12_count_157 (tX12_in hW hq1) mw_1656 cs_X12_in rfl rfl rfl (Nat.le_of_ble_eq_true rfl) (Nat.le_of_ble_eq_true rfl) ⟨Nat.le_refl _, Nat.le_refl _⟩ ?_
  refine ev_if_eq (tgt := 172) dc_X12_count_160 (by decide) h (fun h => ?_) (fun h => ?_)
  · refine ev_iconst (v := (-1)) dc_X12_count_172 (by decide) ?_
    cases h
    exact ev_iret dc_X12_count_173 rfl rfl rfl
  · refine ev_aload_n dc_X12_count_163 rfl ?_
    refine ev_getR dc_X12_count_164 fi_X12_13 rfl i0 ?_
    refine ev_iload_n dc_X12_count_167 rfl ?_
    refine ev_iald dc_X12_count_168 (wt hW i0 1 rfl rfl) h (fun h => ?_)
    refine ev_goto (tgt := 173) dc_X12_count_169 (by decide) ?_
    cases h
    exact ev_iret dc_X12_count_173 rfl rfl rfl
theorem dc_X12_noWho_0 : Dc miX12_noWho 0 (.iload_n 1) 1 1 := ⟨by decide +kernel, rfl⟩
theorem dc_X12_noWho_1 : Dc miX12_noWho 1 (.iconst 0) 1 2 := ⟨by decide +kernel, rfl⟩
theorem dc_X12_noWho_2 : Dc miX12_noWho 2 (.aload_n 0) 1 3 := ⟨by decide +kernel, rfl⟩
theorem dc_X12_noWho_3 : Dc miX12_noWho 3 (.invokevirtual 74) 3 6 := ⟨by decide +kernel, rfl⟩
theorem dc_X12_noWho_6 : Dc miX12_noWho 6 (.iconst 1) 1 7 := ⟨by decide +kernel, rfl⟩
theorem dc_X12_noWho_7 : Dc miX12_noWho 7 (.isub) 1 8 := ⟨by decide +kernel, rfl⟩
theorem dc_X12_noWho_8 : Dc miX12_noWho 8 (.invokestatic 70) 3 11 := ⟨by decide +kernel, rfl⟩
theorem dc_X12_noWho_11 : Dc miX12_noWho 11 (.ifCond .ne 7) 3 14 := ⟨by decide +kernel, rfl⟩
theorem dc_X12_noWho_14 : Dc miX12_noWho 14 (.iconst 1) 1 15 := ⟨by decide +kernel, rfl⟩
theorem dc_X12_noWho_15 : Dc miX12_noWho 15 (.goto 4) 3 18 := ⟨by decide +kernel, rfl⟩
theorem dc_X12_noWho_18 : Dc miX12_noWho 18 (.iconst 0) 1 19 := ⟨by decide +kernel, rfl⟩
theorem dc_X12_noWho_19 : Dc miX12_noWho 19 (.ireturn) 1 20 := ⟨by decide +kernel, rfl⟩
def fX12_noWho (N : Nat) (G : pG) (a0 : Nat) (a1 : Int32) (σ : pS) : Option (Int32) := (fX12_courtiers N G a0 σ).bind (fun q1 => (fX12_in N G a1 (0 : Int32) (q1 - (1 : Int32)) σ).bind (fun q2 => if q2 = 0 then (some (1 : Int32)) else (some (0 : Int32))))
set_option maxRecDepth 100000 in
set_option maxHeartbeats 4000000 in
theorem tX12_noWho {N : Nat} {G : pG} {SK : Nat → Nat} {a0 : Nat} {a1 : Int32} {σ : pS} {r : Int32} (hW : WT G) (i0 : Is G a0 11) (h : fX12_noWho N G a0 a1 σ = some r) : Dn miX12_noWho yX12_noWho 2 G SK [.ref a0, .int a1] σ (some (.int r)) σ := by
  unfold fX12_noWho at h
  refine dn_of (lv := [some (.ref a0), some (.int a1)]) (by decide) rfl rfl (Nat.le_of_ble_eq_true rfl) rfl ?_
  refine ev_iload_n dc_X12_noWho_0 rfl ?_
  refine ev_iconst (v := 0) dc_X12_noWho_1 (by decide) ?_
  refine ev_aload_n dc_X12_noWho_2 rfl ?_
  obtain ⟨q1, hq1, h⟩ := Option.bind_eq_some_iff.mp h
  refine ev_callV (av := []) (st := [.int (0 : Int32), .int a1]) (st1 := [.int q1, .int (0 : Int32), .int a1]) dc_X12_noWho_3 (tX12_courtiers hW i0 hq1) mw_1705 cy_X12_courtiers i0 (by decide) rfl rfl rfl rfl (Nat.le_of_ble_eq_true rfl) (Nat.le_of_ble_eq_true rfl) ⟨Nat.le_refl _, Nat.le_refl _⟩ ?_
  refine ev_iconst (v := 1) dc_X12_noWho_6 (by decide) ?_
  refine ev_isub dc_X12_noWho_7 ?_
  obtain ⟨q2, hq2, h⟩ := Option.bind_eq_some_iff.mp h
  refine ev_callS (av := [.int a1, .int (0 : Int32), .int (q1 - (1 : Int32))]) (st := []) (st1 := [.int q2]) dc_X12_noWho_8 (tX12_in hW hq2) mw_1656 cs_X12_in rfl rfl rfl (Nat.le_of_ble_eq_true rfl) (Nat.le_of_ble_eq_true rfl) ⟨Nat.le_refl _, Nat.le_refl _⟩ ?_
  refine ev_if_ne (tgt := 18) dc_X12_noWho_11 (by decide) h (fun h => ?_) (fun h => ?_)
  · refine ev_iconst (v := 1) dc_X12_noWho_14 (by decide) ?_
    refine ev_goto (tgt := 19) dc_X12_noWho_15 (by decide) ?_
    cases h
    exact ev_zretc dc_X12_noWho_19 rfl rfl rfl rfl
  · refine ev_iconst (v := 0) dc_X12_noWho_18 (by decide) ?_
    cases h
    exact ev_zretc dc_X12_noWho_19 rfl rfl rfl rfl
theorem dc_X12_court_0 : Dc miX12_court 0 (.aload_n 0) 1 1 := ⟨by decide +kernel, rfl⟩
theorem dc_X12_court_1 : Dc miX12_court 1 (.iconst 0) 1 2 := ⟨by decide +kernel, rfl⟩
theorem dc_X12_court_2 : Dc miX12_court 2 (.putfield 3) 3 5 := ⟨by decide +kernel, rfl⟩
theorem dc_X12_court_5 : Dc miX12_court 5 (.aload_n 0) 1 6 := ⟨by decide +kernel, rfl⟩
theorem dc_X12_court_6 : Dc miX12_court 6 (.aload_n 0) 1 7 := ⟨by decide +kernel, rfl⟩
theorem dc_X12_court_7 : Dc miX12_court 7 (.iload_n 1) 1 8 := ⟨by decide +kernel, rfl⟩
theorem dc_X12_court_8 : Dc miX12_court 8 (.invokevirtual 343) 3 11 := ⟨by decide +kernel, rfl⟩
theorem dc_X12_court_11 : Dc miX12_court 11 (.iconst 1) 1 12 := ⟨by decide +kernel, rfl⟩
theorem dc_X12_court_12 : Dc miX12_court 12 (.invokevirtual 274) 3 15 := ⟨by decide +kernel, rfl⟩
theorem dc_X12_court_15 : Dc miX12_court 15 (.ifCond .ne 25) 3 18 := ⟨by decide +kernel, rfl⟩
theorem dc_X12_court_18 : Dc miX12_court 18 (.aload_n 0) 1 19 := ⟨by decide +kernel, rfl⟩
theorem dc_X12_court_19 : Dc miX12_court 19 (.iload_n 2) 1 20 := ⟨by decide +kernel, rfl⟩
theorem dc_X12_court_20 : Dc miX12_court 20 (.iconst 0) 1 21 := ⟨by decide +kernel, rfl⟩
theorem dc_X12_court_21 : Dc miX12_court 21 (.iconst 2) 1 22 := ⟨by decide +kernel, rfl⟩
theorem dc_X12_court_22 : Dc miX12_court 22 (.invokestatic 70) 3 25 := ⟨by decide +kernel, rfl⟩
theorem dc_X12_court_25 : Dc miX12_court 25 (.ifCond .ne 7) 3 28 := ⟨by decide +kernel, rfl⟩
theorem dc_X12_court_28 : Dc miX12_court 28 (.iconst 1) 1 29 := ⟨by decide +kernel, rfl⟩
theorem dc_X12_court_29 : Dc miX12_court 29 (.goto 4) 3 32 := ⟨by decide +kernel, rfl⟩
theorem dc_X12_court_32 : Dc miX12_court 32 (.iconst 0) 1 33 := ⟨by decide +kernel, rfl⟩
theorem dc_X12_court_33 : Dc miX12_court 33 (.iconst 2) 1 34 := ⟨by decide +kernel, rfl⟩
theorem dc_X12_court_34 : Dc miX12_court 34 (.invokevirtual 274) 3 37 := ⟨by decide +kernel, rfl⟩
theorem dc_X12_court_37 : Dc miX12_court 37 (.ifCond .eq 5) 3 40 := ⟨by decide +kernel, rfl⟩
theorem dc_X12_court_40 : Dc miX12_court 40 (.iconst 0) 1 41 := ⟨by decide +kernel, rfl⟩
theorem dc_X12_court_41 : Dc miX12_court 41 (.ireturn) 1 42 := ⟨by decide +kernel, rfl⟩
theorem dc_X12_court_42 : Dc miX12_court 42 (.aload_n 0) 1 43 := ⟨by decide +kernel, rfl⟩
theorem dc_X12_court_43 : Dc miX12_court 43 (.iload_n 1) 1 44 := ⟨by decide +kernel, rfl⟩
theorem dc_X12_court_44 : Dc miX12_court 44 (.iload_n 2) 1 45 := ⟨by decide +kernel, rfl⟩
theorem dc_X12_court_45 : Dc miX12_court 45 (.invokevirtual 62) 3 48 := ⟨by decide +kernel, rfl⟩
theorem dc_X12_court_48 : Dc miX12_court 48 (.ireturn) 1 49 := ⟨by decide +kernel, rfl⟩
def fX12_court_b33 (N : Nat) (G : pG) (a0 : Nat) (a1 : Int32) (a2 : Int32) (y1 : Int32) (σ : pS) : Option (Int32 × pS) := (fX12_throwsIf N G a0 y1 (2 : Int32) σ).bind (fun q1 => if q1.1 = 0 then ((fX12_ofWho N G a0 a1 a2 q1.2).bind (fun q2 => some (q2, q1.2))) else (some ((0 : Int32), q1.2)))
set_option maxRecDepth 100000 in
set_option maxHeartbeats 4000000 in
theorem tX12_court_b33 {N : Nat} {G : pG} {SK : Nat → Nat} {a0 : Nat} {a1 : Int32} {a2 : Int32} {y1 : Int32} {σ : pS} {r : Int32 × pS} (hW : WT G) (i0 : Is G a0 11) (h : fX12_court_b33 N G a0 a1 a2 y1 σ = some r) : Ev miX12_court (3, 0, 0) G (Zp G (some (.int r.1)) r.2) SK (0, 0) 33 [some (.ref a0), some (.int a1), some (.int a2)] [.int y1, .ref a0] σ := by
  unfold fX12_court_b33 at h
  refine ev_iconst (v := 2) dc_X12_court_33 (by decide) ?_
  obtain ⟨q1, hq1, h⟩ := Option.bind_eq_some_iff.mp h
  refine ev_callV (av := [.int y1, .int (2 : Int32)]) (st := []) (st1 := [.int q1.1]) dc_X12_court_34 (tX12_throwsIf hW i0 hq1) mw_1784 cy_X12_throwsIf i0 (by decide) rfl rfl rfl rfl (Nat.le_of_ble_eq_true rfl) (Nat.le_of_ble_eq_true rfl) ⟨Nat.le_refl _, Nat.le_refl _⟩ ?_
  refine ev_if_eq (tgt := 42) dc_X12_court_37 (by decide) h (fun h => ?_) (fun h => ?_)
  · refine ev_aload_n dc_X12_court_42 rfl ?_
    refine ev_iload_n dc_X12_court_43 rfl ?_
    refine ev_iload_n dc_X12_court_44 rfl ?_
    obtain ⟨q2, hq2, h⟩ := Option.bind_eq_some_iff.mp h
    refine ev_callV (av := [.int a1, .int a2]) (st := []) (st1 := [.int q2]) dc_X12_court_45 (tX12_ofWho hW i0 hq2) mw_1886 cy_X12_ofWho i0 (by decide) rfl rfl rfl rfl (Nat.le_of_ble_eq_true rfl) (Nat.le_of_ble_eq_true rfl) ⟨Nat.le_refl _, Nat.le_refl _⟩ ?_
    cases h
    exact ev_iret dc_X12_court_48 rfl rfl rfl
  · refine ev_iconst (v := 0) dc_X12_court_40 (by decide) ?_
    cases h
    exact ev_iret dc_X12_court_41 rfl rfl rfl
def fX12_court (N : Nat) (G : pG) (a0 : Nat) (a1 : Int32) (a2 : Int32) (σ : pS) : Option (Int32 × pS) := (fX12_noWho N G a0 a1 (putF σ a0 0 (0 : Int32))).bind (fun q3 => (fX12_throwsIf N G a0 q3 (1 : Int32) (putF σ a0 0 (0 : Int32))).bind (fun q4 => if q4.1 = 0 then ((fX12_in N G a2 (0 : Int32) (2 : Int32) q4.2).bind (fun q5 => if q5 = 0 then (fX12_court_b33 N G a0 a1 a2 (1 : Int32) q4.2) else (fX12_court_b33 N G a0 a1 a2 (0 : Int32) q4.2))) else (some ((0 : Int32), q4.2))))
set_option maxRecDepth 100000 in
set_option maxHeartbeats 4000000 in
theorem tX12_court {N : Nat} {G : pG} {SK : Nat → Nat} {a0 : Nat} {a1 : Int32} {a2 : Int32} {σ : pS} {r : Int32 × pS} (hW : WT G) (i0 : Is G a0 11) (h : fX12_court N G a0 a1 a2 σ = some r) : Dn miX12_court yX12_court 3 G SK [.ref a0, .int a1, .int a2] σ (some (.int r.1)) r.2 := by
  unfold fX12_court at h
  refine dn_of (lv := [some (.ref a0), some (.int a1), some (.int a2)]) (by decide) rfl rfl (Nat.le_of_ble_eq_true rfl) rfl ?_
  refine ev_aload_n dc_X12_court_0 rfl ?_
  refine ev_iconst (v := 0) dc_X12_court_1 (by decide) ?_
  refine ev_putI dc_X12_court_2 fi_X12_3 rfl i0 ?_
  refine ev_aload_n dc_X12_court_5 rfl ?_
  refine ev_aload_n dc_X12_court_6 rfl ?_
  refine ev_iload_n dc_X12_court_7 rfl ?_
  obtain ⟨q3, hq3, h⟩ := Option.bind_eq_some_iff.mp h
  refine ev_callV (av := [.int a1]) (st := [.ref a0]) (st1 := [.int q3, .ref a0]) dc_X12_court_8 (tX12_noWho hW i0 hq3) mw_1796 cy_X12_noWho i0 (by decide) rfl rfl rfl rfl (Nat.le_of_ble_eq_true rfl) (Nat.le_of_ble_eq_true rfl) ⟨Nat.le_refl _, Nat.le_refl _⟩ ?_
  refine ev_iconst (v := 1) dc_X12_court_11 (by decide) ?_
  obtain ⟨q4, hq4, h⟩ := Option.bind_eq_some_iff.mp h
  refine ev_callV (av := [.int q3, .int (1 : Int32)]) (st := []) (st1 := [.int q4.1]) dc_X12_court_12 (tX12_throwsIf hW i0 hq4) mw_1784 cy_X12_throwsIf i0 (by decide) rfl rfl rfl rfl (Nat.le_of_ble_eq_true rfl) (Nat.le_of_ble_eq_true rfl) ⟨Nat.le_refl _, Nat.le_refl _⟩ ?_
  refine ev_if_ne (tgt := 40) dc_X12_court_15 (by decide) h (fun h => ?_) (fun h => ?_)
  · refine ev_aload_n dc_X12_court_18 rfl ?_
    refine ev_iload_n dc_X12_court_19 rfl ?_
    refine ev_iconst (v := 0) dc_X12_court_20 (by decide) ?_
    refine ev_iconst (v := 2) dc_X12_court_21 (by decide) ?_
    obtain ⟨q5, hq5, h⟩ := Option.bind_eq_some_iff.mp h
    refine ev_callS (av := [.int a2, .int (0 : Int32), .int (2 : Int32)]) (st := [.ref a0]) (st1 := [.int q5, .ref a0]) dc_X12_court_22 (tX12_in hW hq5) mw_1656 cs_X12_in rfl rfl rfl (Nat.le_of_ble_eq_true rfl) (Nat.le_of_ble_eq_true rfl) ⟨Nat.le_refl _, Nat.le_refl _⟩ ?_
    refine ev_if_ne (tgt := 32) dc_X12_court_25 (by decide) h (fun h => ?_) (fun h => ?_)
    · refine ev_iconst (v := 1) dc_X12_court_28 (by decide) ?_
      refine ev_goto (tgt := 33) dc_X12_court_29 (by decide) ?_
      exact ev_sub (tX12_court_b33 hW i0 h) (And.intro rfl (And.intro rfl (And.intro rfl trivial)))
    · refine ev_iconst (v := 0) dc_X12_court_32 (by decide) ?_
      exact ev_sub (tX12_court_b33 hW i0 h) (And.intro rfl (And.intro rfl (And.intro rfl trivial)))
  · refine ev_iconst (v := 0) dc_X12_court_40 (by decide) ?_
    cases h
    exact ev_iret dc_X12_court_41 rfl rfl rfl
theorem dc_X12_cover_0 : Dc miX12_cover 0 (.aload_n 0) 1 1 := ⟨by decide +kernel, rfl⟩
theorem dc_X12_cover_1 : Dc miX12_cover 1 (.iconst 0) 1 2 := ⟨by decide +kernel, rfl⟩
theorem dc_X12_cover_2 : Dc miX12_cover 2 (.putfield 3) 3 5 := ⟨by decide +kernel, rfl⟩
theorem dc_X12_cover_5 : Dc miX12_cover 5 (.bipush 63) 2 7 := ⟨by decide +kernel, rfl⟩
theorem dc_X12_cover_7 : Dc miX12_cover 7 (.istore_n 1) 1 8 := ⟨by decide +kernel, rfl⟩
theorem dc_X12_cover_8 : Dc miX12_cover 8 (.iload_n 1) 1 9 := ⟨by decide +kernel, rfl⟩
theorem dc_X12_cover_9 : Dc miX12_cover 9 (.istore_n 2) 1 10 := ⟨by decide +kernel, rfl⟩
theorem dc_X12_cover_10 : Dc miX12_cover 10 (.iload_n 2) 1 11 := ⟨by decide +kernel, rfl⟩
theorem dc_X12_cover_11 : Dc miX12_cover 11 (.ifCond .lt 38) 3 14 := ⟨by decide +kernel, rfl⟩
theorem dc_X12_cover_14 : Dc miX12_cover 14 (.iload_n 2) 1 15 := ⟨by decide +kernel, rfl⟩
theorem dc_X12_cover_15 : Dc miX12_cover 15 (.invokestatic 139) 3 18 := ⟨by decide +kernel, rfl⟩
theorem dc_X12_cover_18 : Dc miX12_cover 18 (.iload_n 1) 1 19 := ⟨by decide +kernel, rfl⟩
theorem dc_X12_cover_19 : Dc miX12_cover 19 (.invokestatic 139) 3 22 := ⟨by decide +kernel, rfl⟩
theorem dc_X12_cover_22 : Dc miX12_cover 22 (.if_icmp .gt 19) 3 25 := ⟨by decide +kernel, rfl⟩
theorem dc_X12_cover_25 : Dc miX12_cover 25 (.aload_n 0) 1 26 := ⟨by decide +kernel, rfl⟩
theorem dc_X12_cover_26 : Dc miX12_cover 26 (.iload_n 2) 1 27 := ⟨by decide +kernel, rfl⟩
theorem dc_X12_cover_27 : Dc miX12_cover 27 (.invokevirtual 462) 3 30 := ⟨by decide +kernel, rfl⟩
theorem dc_X12_cover_30 : Dc miX12_cover 30 (.aload_n 0) 1 31 := ⟨by decide +kernel, rfl⟩
theorem dc_X12_cover_31 : Dc miX12_cover 31 (.invokevirtual 465) 3 34 := ⟨by decide +kernel, rfl⟩
theorem dc_X12_cover_34 : Dc miX12_cover 34 (.if_icmp .ne 7) 3 37 := ⟨by decide +kernel, rfl⟩
theorem dc_X12_cover_37 : Dc miX12_cover 37 (.iload_n 2) 1 38 := ⟨by decide +kernel, rfl⟩
theorem dc_X12_cover_38 : Dc miX12_cover 38 (.goto 4) 3 41 := ⟨by decide +kernel, rfl⟩
theorem dc_X12_cover_41 : Dc miX12_cover 41 (.iload_n 1) 1 42 := ⟨by decide +kernel, rfl⟩
theorem dc_X12_cover_42 : Dc miX12_cover 42 (.istore_n 1) 1 43 := ⟨by decide +kernel, rfl⟩
theorem dc_X12_cover_43 : Dc miX12_cover 43 (.iinc 2 (-1)) 3 46 := ⟨by decide +kernel, rfl⟩
theorem dc_X12_cover_46 : Dc miX12_cover 46 (.goto (-36)) 3 49 := ⟨by decide +kernel, rfl⟩
theorem dc_X12_cover_49 : Dc miX12_cover 49 (.iload_n 1) 1 50 := ⟨by decide +kernel, rfl⟩
theorem dc_X12_cover_50 : Dc miX12_cover 50 (.ireturn) 1 51 := ⟨by decide +kernel, rfl⟩
def fX12_cover_b10 (N : Nat) (G : pG) (a0 : Nat) : (Int32 × Int32 × pS) → Option (Int32 × pS) := lp (fun (k10 : Int32 × Int32 × pS → Option (Int32 × pS)) (b : Int32 × Int32 × pS) => if b.2.1 < 0 then (some (b.1, b.2.2)) else ((fJ6_bitCount_0f7a4 N G b.2.1 b.2.2).bind (fun q1 => (fJ6_bitCount_0f7a4 N G b.1 b.2.2).bind (fun q2 => if q2 < q1 then (k10 (b.1, b.2.1 + (-1 : Int32), b.2.2)) else ((fX12_doneBy N G a0 b.2.1 b.2.2).bind (fun q3 => (fX12_allDuties N G a0 b.2.2).bind (fun q4 => if q3 = q4 then (k10 (b.2.1, b.2.1 + (-1 : Int32), b.2.2)) else (k10 (b.1, b.2.1 + (-1 : Int32), b.2.2))))))))) N
set_option maxRecDepth 100000 in
set_option maxHeartbeats 4000000 in
theorem tX12_cover_b10 {N : Nat} {G : pG} {SK : Nat → Nat} {a0 : Nat} {b : Int32 × Int32 × pS} {r : Int32 × pS} (hW : WT G) (i0 : Is G a0 11) (h : fX12_cover_b10 N G a0 b = some r) : Ev miX12_cover (3, 0, 0) G (Zp G (some (.int r.1)) r.2) SK (0, 0) 10 [some (.ref a0), some (.int b.1), some (.int b.2.1)] [] b.2.2 := by
  unfold fX12_cover_b10 at h
  refine lp_ind (P := fun b r9 => r9 = r → Ev miX12_cover (3, 0, 0) G (Zp G (some (.int r.1)) r.2) SK (0, 0) 10 [some (.ref a0), some (.int b.1), some (.int b.2.1)] [] b.2.2) (fun k10 b r9 ih h9 e9 => ?_) N b r h rfl
  clear h
  subst e9
  have h := h9
  clear h9
  have hk10 : ∀ b : Int32 × Int32 × pS, k10 b = some r9 → Ev miX12_cover (3, 0, 0) G (Zp G (some (.int r9.1)) r9.2) SK (0, 0) 10 [some (.ref a0), some (.int b.1), some (.int b.2.1)] [] b.2.2 := fun b hb => ih b r9 hb rfl
  clear ih
  obtain ⟨x1, x2, σ⟩ := b
  dsimp only at h ⊢
  refine ev_iload_n dc_X12_cover_10 rfl ?_
  refine ev_if_lt (tgt := 49) dc_X12_cover_11 (by decide) h (fun h => ?_) (fun h => ?_)
  · refine ev_iload_n dc_X12_cover_49 rfl ?_
    cases h
    exact ev_iret dc_X12_cover_50 rfl rfl rfl
  · refine ev_iload_n dc_X12_cover_14 rfl ?_
    obtain ⟨q1, hq1, h⟩ := Option.bind_eq_some_iff.mp h
    refine ev_callS (av := [.int x2]) (st := []) (st1 := [.int q1]) dc_X12_cover_15 (tJ6_bitCount_0f7a4 hW hq1) mw_1685 cs_J6_bitCount_0f7a4 rfl rfl rfl (Nat.le_of_ble_eq_true rfl) (Nat.le_of_ble_eq_true rfl) ⟨Nat.le_refl _, Nat.le_refl _⟩ ?_
    refine ev_iload_n dc_X12_cover_18 rfl ?_
    obtain ⟨q2, hq2, h⟩ := Option.bind_eq_some_iff.mp h
    refine ev_callS (av := [.int x1]) (st := [.int q1]) (st1 := [.int q2, .int q1]) dc_X12_cover_19 (tJ6_bitCount_0f7a4 hW hq2) mw_1685 cs_J6_bitCount_0f7a4 rfl rfl rfl (Nat.le_of_ble_eq_true rfl) (Nat.le_of_ble_eq_true rfl) ⟨Nat.le_refl _, Nat.le_refl _⟩ ?_
    refine ev_icmp_gt (tgt := 41) dc_X12_cover_22 (by decide) h (fun h => ?_) (fun h => ?_)
    · refine ev_iload_n dc_X12_cover_41 rfl ?_
      refine ev_istore_n (lv' := [some (.ref a0), some (.int x1), some (.int x2)]) dc_X12_cover_42 rfl (by decide) rfl ?_
      refine ev_iinc (v := (-1)) (lv' := [some (.ref a0), some (.int x1), some (.int (x2 + (-1 : Int32)))]) dc_X12_cover_43 rfl (by decide) rfl (by decide) rfl ?_
      refine ev_goto (tgt := 10) dc_X12_cover_46 (by decide) ?_
      exact ev_sub (hk10 (x1, x2 + (-1 : Int32), σ) h) (And.intro rfl (And.intro rfl (And.intro rfl trivial)))
    · refine ev_aload_n dc_X12_cover_25 rfl ?_
      refine ev_iload_n dc_X12_cover_26 rfl ?_
      obtain ⟨q3, hq3, h⟩ := Option.bind_eq_some_iff.mp h
      refine ev_callV (av := [.int x2]) (st := []) (st1 := [.int q3]) dc_X12_cover_27 (tX12_doneBy hW i0 hq3) mw_2138 cy_X12_doneBy i0 (by decide) rfl rfl rfl rfl (Nat.le_of_ble_eq_true rfl) (Nat.le_of_ble_eq_true rfl) ⟨Nat.le_refl _, Nat.le_refl _⟩ ?_
      refine ev_aload_n dc_X12_cover_30 rfl ?_
      obtain ⟨q4, hq4, h⟩ := Option.bind_eq_some_iff.mp h
      refine ev_callV (av := []) (st := [.int q3]) (st1 := [.int q4, .int q3]) dc_X12_cover_31 (tX12_allDuties hW i0 hq4) mw_2146 cy_X12_allDuties i0 (by decide) rfl rfl rfl rfl (Nat.le_of_ble_eq_true rfl) (Nat.le_of_ble_eq_true rfl) ⟨Nat.le_refl _, Nat.le_refl _⟩ ?_
      refine ev_icmp_ne (tgt := 41) dc_X12_cover_34 (by decide) h (fun h => ?_) (fun h => ?_)
      · refine ev_iload_n dc_X12_cover_37 rfl ?_
        refine ev_goto (tgt := 42) dc_X12_cover_38 (by decide) ?_
        refine ev_istore_n (lv' := [some (.ref a0), some (.int x2), some (.int x2)]) dc_X12_cover_42 rfl (by decide) rfl ?_
        refine ev_iinc (v := (-1)) (lv' := [some (.ref a0), some (.int x2), some (.int (x2 + (-1 : Int32)))]) dc_X12_cover_43 rfl (by decide) rfl (by decide) rfl ?_
        refine ev_goto (tgt := 10) dc_X12_cover_46 (by decide) ?_
        exact ev_sub (hk10 (x2, x2 + (-1 : Int32), σ) h) (And.intro rfl (And.intro rfl (And.intro rfl trivial)))
      · refine ev_iload_n dc_X12_cover_41 rfl ?_
        refine ev_istore_n (lv' := [some (.ref a0), some (.int x1), some (.int x2)]) dc_X12_cover_42 rfl (by decide) rfl ?_
        refine ev_iinc (v := (-1)) (lv' := [some (.ref a0), some (.int x1), some (.int (x2 + (-1 : Int32)))]) dc_X12_cover_43 rfl (by decide) rfl (by decide) rfl ?_
        refine ev_goto (tgt := 10) dc_X12_cover_46 (by decide) ?_
        exact ev_sub (hk10 (x1, x2 + (-1 : Int32), σ) h) (And.intro rfl (And.intro rfl (And.intro rfl trivial)))
def fX12_cover (N : Nat) (G : pG) (a0 : Nat) (σ : pS) : Option (Int32 × pS) := fX12_cover_b10 N G a0 ((63 : Int32), (63 : Int32), putF σ a0 0 (0 : Int32))
set_option maxRecDepth 100000 in
set_option maxHeartbeats 4000000 in
theorem tX12_cover {N : Nat} {G : pG} {SK : Nat → Nat} {a0 : Nat} {σ : pS} {r : Int32 × pS} (hW : WT G) (i0 : Is G a0 11) (h : fX12_cover N G a0 σ = some r) : Dn miX12_cover yX12_cover 3 G SK [.ref a0] σ (some (.int r.1)) r.2 := by
  unfold fX12_cover at h
  refine dn_of (lv := [some (.ref a0), none, none]) (by decide) rfl rfl (Nat.le_of_ble_eq_true rfl) rfl ?_
  refine ev_aload_n dc_X12_cover_0 rfl ?_
  refine ev_iconst (v := 0) dc_X12_cover_1 (by decide) ?_
  refine ev_putI dc_X12_cover_2 fi_X12_3 rfl i0 ?_
  refine ev_bipush (v := 63) dc_X12_cover_5 (by decide) ?_
  refine ev_istore_n (lv' := [some (.ref a0), some (.int (63 : Int32)), none]) dc_X12_cover_7 rfl (by decide) rfl ?_
  refine ev_iload_n dc_X12_cover_8 rfl ?_
  refine ev_istore_n (lv' := [some (.ref a0), some (.int (63 : Int32)), some (.int (63 : Int32))]) dc_X12_cover_9 rfl (by decide) rfl ?_
  exact ev_sub (tX12_cover_b10 (b := ((63 : Int32), (63 : Int32), putF σ a0 0 (0 : Int32))) hW i0 h) (And.intro rfl (And.intro rfl (And.intro rfl trivial)))
theorem dc_X12_remembers_0 : Dc miX12_remembers 0 (.aload_n 0) 1 1 := ⟨by decide +kernel, rfl⟩
theorem dc_X12_remembers_1 : Dc miX12_remembers 1 (.getfield 59) 3 4 := ⟨by decide +kernel, rfl⟩
theorem dc_X12_remembers_4 : Dc miX12_remembers 4 (.bipush 12) 2 6 := ⟨by decide +kernel, rfl⟩
theorem dc_X12_remembers_6 : Dc miX12_remembers 6 (.if_icmp .ne 37) 3 9 := ⟨by decide +kernel, rfl⟩
theorem dc_X12_remembers_9 : Dc miX12_remembers 9 (.iconst 0) 1 10 := ⟨by decide +kernel, rfl⟩
theorem dc_X12_remembers_10 : Dc miX12_remembers 10 (.istore_n 1) 1 11 := ⟨by decide +kernel, rfl⟩
theorem dc_X12_remembers_11 : Dc miX12_remembers 11 (.iload_n 1) 1 12 := ⟨by decide +kernel, rfl⟩
theorem dc_X12_remembers_12 : Dc miX12_remembers 12 (.sipush 4213) 3 15 := ⟨by decide +kernel, rfl⟩
theorem dc_X12_remembers_15 : Dc miX12_remembers 15 (.if_icmp .ge 25) 3 18 := ⟨by decide +kernel, rfl⟩
theorem dc_X12_remembers_18 : Dc miX12_remembers 18 (.aload_n 0) 1 19 := ⟨by decide +kernel, rfl⟩
theorem dc_X12_remembers_19 : Dc miX12_remembers 19 (.getfield 26) 3 22 := ⟨by decide +kernel, rfl⟩
theorem dc_X12_remembers_22 : Dc miX12_remembers 22 (.iload_n 1) 1 23 := ⟨by decide +kernel, rfl⟩
theorem dc_X12_remembers_23 : Dc miX12_remembers 23 (.aload_n 0) 1 24 := ⟨by decide +kernel, rfl⟩
theorem dc_X12_remembers_24 : Dc miX12_remembers 24 (.getfield 26) 3 27 := ⟨by decide +kernel, rfl⟩
theorem dc_X12_remembers_27 : Dc miX12_remembers 27 (.iload_n 1) 1 28 := ⟨by decide +kernel, rfl⟩
theorem dc_X12_remembers_28 : Dc miX12_remembers 28 (.sipush 383) 3 31 := ⟨by decide +kernel, rfl⟩
theorem dc_X12_remembers_31 : Dc miX12_remembers 31 (.iadd) 1 32 := ⟨by decide +kernel, rfl⟩
theorem dc_X12_remembers_32 : Dc miX12_remembers 32 (.iaload) 1 33 := ⟨by decide +kernel, rfl⟩
theorem dc_X12_remembers_33 : Dc miX12_remembers 33 (.iastore) 1 34 := ⟨by decide +kernel, rfl⟩
theorem dc_X12_remembers_34 : Dc miX12_remembers 34 (.iinc 1 1) 3 37 := ⟨by decide +kernel, rfl⟩
theorem dc_X12_remembers_37 : Dc miX12_remembers 37 (.goto (-26)) 3 40 := ⟨by decide +kernel, rfl⟩
theorem dc_X12_remembers_40 : Dc miX12_remembers 40 (.goto 13) 3 43 := ⟨by decide +kernel, rfl⟩
theorem dc_X12_remembers_43 : Dc miX12_remembers 43 (.aload_n 0) 1 44 := ⟨by decide +kernel, rfl⟩
theorem dc_X12_remembers_44 : Dc miX12_remembers 44 (.dup) 1 45 := ⟨by decide +kernel, rfl⟩
theorem dc_X12_remembers_45 : Dc miX12_remembers 45 (.getfield 59) 3 48 := ⟨by decide +kernel, rfl⟩
theorem dc_X12_remembers_48 : Dc miX12_remembers 48 (.iconst 1) 1 49 := ⟨by decide +kernel, rfl⟩
theorem dc_X12_remembers_49 : Dc miX12_remembers 49 (.iadd) 1 50 := ⟨by decide +kernel, rfl⟩
theorem dc_X12_remembers_50 : Dc miX12_remembers 50 (.putfield 59) 3 53 := ⟨by decide +kernel, rfl⟩
theorem dc_X12_remembers_53 : Dc miX12_remembers 53 (.iconst 0) 1 54 := ⟨by decide +kernel, rfl⟩
theorem dc_X12_remembers_54 : Dc miX12_remembers 54 (.istore_n 1) 1 55 := ⟨by decide +kernel, rfl⟩
theorem dc_X12_remembers_55 : Dc miX12_remembers 55 (.iload_n 1) 1 56 := ⟨by decide +kernel, rfl⟩
theorem dc_X12_remembers_56 : Dc miX12_remembers 56 (.sipush 383) 3 59 := ⟨by decide +kernel, rfl⟩
theorem dc_X12_remembers_59 : Dc miX12_remembers 59 (.if_icmp .ge 32) 3 62 := ⟨by decide +kernel, rfl⟩
theorem dc_X12_remembers_62 : Dc miX12_remembers 62 (.aload_n 0) 1 63 := ⟨by decide +kernel, rfl⟩
theorem dc_X12_remembers_63 : Dc miX12_remembers 63 (.getfield 26) 3 66 := ⟨by decide +kernel, rfl⟩
theorem dc_X12_remembers_66 : Dc miX12_remembers 66 (.sipush 383) 3 69 := ⟨by decide +kernel, rfl⟩
theorem dc_X12_remembers_69 : Dc miX12_remembers 69 (.aload_n 0) 1 70 := ⟨by decide +kernel, rfl⟩
theorem dc_X12_remembers_70 : Dc miX12_remembers 70 (.getfield 59) 3 73 := ⟨by decide +kernel, rfl⟩
theorem dc_X12_remembers_73 : Dc miX12_remembers 73 (.iconst 1) 1 74 := ⟨by decide +kernel, rfl⟩
theorem dc_X12_remembers_74 : Dc miX12_remembers 74 (.isub) 1 75 := ⟨by decide +kernel, rfl⟩
theorem dc_X12_remembers_75 : Dc miX12_remembers 75 (.imul) 1 76 := ⟨by decide +kernel, rfl⟩
theorem dc_X12_remembers_76 : Dc miX12_remembers 76 (.iload_n 1) 1 77 := ⟨by decide +kernel, rfl⟩
theorem dc_X12_remembers_77 : Dc miX12_remembers 77 (.iadd) 1 78 := ⟨by decide +kernel, rfl⟩
theorem dc_X12_remembers_78 : Dc miX12_remembers 78 (.aload_n 0) 1 79 := ⟨by decide +kernel, rfl⟩
theorem dc_X12_remembers_79 : Dc miX12_remembers 79 (.getfield 13) 3 82 := ⟨by decide +kernel, rfl⟩
theorem dc_X12_remembers_82 : Dc miX12_remembers 82 (.iload_n 1) 1 83 := ⟨by decide +kernel, rfl⟩
theorem dc_X12_remembers_83 : Dc miX12_remembers 83 (.iaload) 1 84 := ⟨by decide +kernel, rfl⟩
theorem dc_X12_remembers_84 : Dc miX12_remembers 84 (.iastore) 1 85 := ⟨by decide +kernel, rfl⟩
theorem dc_X12_remembers_85 : Dc miX12_remembers 85 (.iinc 1 1) 3 88 := ⟨by decide +kernel, rfl⟩
theorem dc_X12_remembers_88 : Dc miX12_remembers 88 (.goto (-33)) 3 91 := ⟨by decide +kernel, rfl⟩
theorem dc_X12_remembers_91 : Dc miX12_remembers 91 (.return_) 1 92 := ⟨by decide +kernel, rfl⟩
def fX12_remembers_b55 (N : Nat) (G : pG) (a0 : Nat) : (Int32 × pS) → Option (pS) := lp (fun (k55 : Int32 × pS → Option (pS)) (b : Int32 × pS) => if (383 : Int32) ≤ b.1 then (some b.2) else (ck (inB b.1 (pN G (pR G a0 1))) (ck (inB (((383 : Int32) * ((b.2.1 a0 7) - (1 : Int32))) + b.1) (pN G (pR G a0 5))) (k55 (b.1 + (1 : Int32), sA b.2 (pR G a0 5) (((383 : Int32) * ((b.2.1 a0 7) - (1 : Int32))) + b.1) (gA b.2 (pR G a0 1) b.1)))))) N
set_option maxRecDepth 100000 in
set_option maxHeartbeats 4000000 in
theorem tX12_remembers_b55 {N : Nat} {G : pG} {SK : Nat → Nat} {a0 : Nat} {b : Int32 × pS} {r : pS} (hW : WT G) (i0 : Is G a0 11) (h : fX12_remembers_b55 N G a0 b = some r) : Ev miX12_remembers (1, 0, 0) G (Zp G none r) SK (0, 0) 55 [some (.ref a0), some (.int b.1)] [] b.2 := by
  unfold fX12_remembers_b55 at h
  refine lp_ind (P := fun b r9 => r9 = r → Ev miX12_remembers (1, 0, 0) G (Zp G none r) SK (0, 0) 55 [some (.ref a0), some (.int b.1)] [] b.2) (fun k55 b r9 ih h9 e9 => ?_) N b r h rfl
  clear h
  subst e9
  have h := h9
  clear h9
  have hk55 : ∀ b : Int32 × pS, k55 b = some r9 → Ev miX12_remembers (1, 0, 0) G (Zp G none r9) SK (0, 0) 55 [some (.ref a0), some (.int b.1)] [] b.2 := fun b hb => ih b r9 hb rfl
  clear ih
  obtain ⟨x1, σ⟩ := b
  dsimp only at h ⊢
  refine ev_iload_n dc_X12_remembers_55 rfl ?_
  refine ev_sipush (v := 383) dc_X12_remembers_56 (by decide) ?_
  refine ev_icmp_ge (tgt := 91) dc_X12_remembers_59 (by decide) h (fun h => ?_) (fun h => ?_)
  · cases h
    exact ev_vret dc_X12_remembers_91 rfl rfl rfl
  · refine ev_aload_n dc_X12_remembers_62 rfl ?_
    refine ev_getR dc_X12_remembers_63 fi_X12_26 rfl i0 ?_
    refine ev_sipush (v := 383) dc_X12_remembers_66 (by decide) ?_
    refine ev_aload_n dc_X12_remembers_69 rfl ?_
    refine ev_getI dc_X12_remembers_70 fi_X12_59 rfl i0 ?_
    refine ev_iconst (v := 1) dc_X12_remembers_73 (by decide) ?_
    refine ev_isub dc_X12_remembers_74 ?_
    refine ev_imul dc_X12_remembers_75 ?_
    refine ev_iload_n dc_X12_remembers_76 rfl ?_
    refine ev_iadd dc_X12_remembers_77 ?_
    refine ev_aload_n dc_X12_remembers_78 rfl ?_
    refine ev_getR dc_X12_remembers_79 fi_X12_13 rfl i0 ?_
    refine ev_iload_n dc_X12_remembers_82 rfl ?_
    refine ev_iald dc_X12_remembers_83 (wt hW i0 1 rfl rfl) h (fun h => ?_)
    refine ev_iast dc_X12_remembers_84 (wt hW i0 5 rfl rfl) h (fun h => ?_)
    refine ev_iinc (v := 1) (lv' := [some (.ref a0), some (.int (x1 + (1 : Int32)))]) dc_X12_remembers_85 rfl (by decide) rfl (by decide) rfl ?_
    refine ev_goto (tgt := 55) dc_X12_remembers_88 (by decide) ?_
    exact ev_sub (hk55 (x1 + (1 : Int32), sA σ (pR G a0 5) (((383 : Int32) * ((σ.1 a0 7) - (1 : Int32))) + x1) (gA σ (pR G a0 1) x1)) h) (And.intro rfl (And.intro rfl trivial))
def fX12_remembers_b53 (N : Nat) (G : pG) (a0 : Nat) (σ : pS) : Option (pS) := fX12_remembers_b55 N G a0 ((0 : Int32), σ)
set_option maxRecDepth 100000 in
set_option maxHeartbeats 4000000 in
theorem tX12_remembers_b53 {N : Nat} {G : pG} {SK : Nat → Nat} {a0 : Nat} {σ : pS} {r : pS} (hW : WT G) (i0 : Is G a0 11) (h : fX12_remembers_b53 N G a0 σ = some r) : Ev miX12_remembers (1, 0, 0) G (Zp G none r) SK (0, 0) 53 [some (.ref a0), none] [] σ := by
  unfold fX12_remembers_b53 at h
  refine ev_iconst (v := 0) dc_X12_remembers_53 (by decide) ?_
  refine ev_istore_n (lv' := [some (.ref a0), some (.int (0 : Int32))]) dc_X12_remembers_54 rfl (by decide) rfl ?_
  exact ev_sub (tX12_remembers_b55 (b := ((0 : Int32), σ)) hW i0 h) (And.intro rfl (And.intro rfl trivial))
def fX12_remembers_b11 (N : Nat) (G : pG) (a0 : Nat) : (Int32 × pS) → Option (pS) := lp (fun (k11 : Int32 × pS → Option (pS)) (b : Int32 × pS) => if (4213 : Int32) ≤ b.1 then (fX12_remembers_b53 N G a0 b.2) else (ck (inB (b.1 + (383 : Int32)) (pN G (pR G a0 5))) (ck (inB b.1 (pN G (pR G a0 5))) (k11 (b.1 + (1 : Int32), sA b.2 (pR G a0 5) b.1 (gA b.2 (pR G a0 5) (b.1 + (383 : Int32)))))))) N
set_option maxRecDepth 100000 in
set_option maxHeartbeats 4000000 in
theorem tX12_remembers_b11 {N : Nat} {G : pG} {SK : Nat → Nat} {a0 : Nat} {b : Int32 × pS} {r : pS} (hW : WT G) (i0 : Is G a0 11) (h : fX12_remembers_b11 N G a0 b = some r) : Ev miX12_remembers (1, 0, 0) G (Zp G none r) SK (0, 0) 11 [some (.ref a0), some (.int b.1)] [] b.2 := by
  unfold fX12_remembers_b11 at h
  refine lp_ind (P := fun b r9 => r9 = r → Ev miX12_remembers (1, 0, 0) G (Zp G none r) SK (0, 0) 11 [some (.ref a0), some (.int b.1)] [] b.2) (fun k11 b r9 ih h9 e9 => ?_) N b r h rfl
  clear h
  subst e9
  have h := h9
  clear h9
  have hk11 : ∀ b : Int32 × pS, k11 b = some r9 → Ev miX12_remembers (1, 0, 0) G (Zp G none r9) SK (0, 0) 11 [some (.ref a0), some (.int b.1)] [] b.2 := fun b hb => ih b r9 hb rfl
  clear ih
  obtain ⟨x1, σ⟩ := b
  dsimp only at h ⊢
  refine ev_iload_n dc_X12_remembers_11 rfl ?_
  refine ev_sipush (v := 4213) dc_X12_remembers_12 (by decide) ?_
  refine ev_icmp_ge (tgt := 40) dc_X12_remembers_15 (by decide) h (fun h => ?_) (fun h => ?_)
  · refine ev_goto (tgt := 53) dc_X12_remembers_40 (by decide) ?_
    exact ev_sub (tX12_remembers_b53 hW i0 h) (And.intro rfl trivial)
  · refine ev_aload_n dc_X12_remembers_18 rfl ?_
    refine ev_getR dc_X12_remembers_19 fi_X12_26 rfl i0 ?_
    refine ev_iload_n dc_X12_remembers_22 rfl ?_
    refine ev_aload_n dc_X12_remembers_23 rfl ?_
    refine ev_getR dc_X12_remembers_24 fi_X12_26 rfl i0 ?_
    refine ev_iload_n dc_X12_remembers_27 rfl ?_
    refine ev_sipush (v := 383) dc_X12_remembers_28 (by decide) ?_
    refine ev_iadd dc_X12_remembers_31 ?_
    refine ev_iald dc_X12_remembers_32 (wt hW i0 5 rfl rfl) h (fun h => ?_)
    refine ev_iast dc_X12_remembers_33 (wt hW i0 5 rfl rfl) h (fun h => ?_)
    refine ev_iinc (v := 1) (lv' := [some (.ref a0), some (.int (x1 + (1 : Int32)))]) dc_X12_remembers_34 rfl (by decide) rfl (by decide) rfl ?_
    refine ev_goto (tgt := 11) dc_X12_remembers_37 (by decide) ?_
    exact ev_sub (hk11 (x1 + (1 : Int32), sA σ (pR G a0 5) x1 (gA σ (pR G a0 5) (x1 + (383 : Int32)))) h) (And.intro rfl (And.intro rfl trivial))
def fX12_remembers (N : Nat) (G : pG) (a0 : Nat) (σ : pS) : Option (pS) := if (σ.1 a0 7) = (12 : Int32) then (fX12_remembers_b11 N G a0 ((0 : Int32), σ)) else (fX12_remembers_b53 N G a0 (putF σ a0 7 ((σ.1 a0 7) + (1 : Int32))))
set_option maxRecDepth 100000 in
set_option maxHeartbeats 4000000 in
theorem tX12_remembers {N : Nat} {G : pG} {SK : Nat → Nat} {a0 : Nat} {σ : pS} {r : pS} (hW : WT G) (i0 : Is G a0 11) (h : fX12_remembers N G a0 σ = some r) : Dn miX12_remembers yX12_remembers 1 G SK [.ref a0] σ none r := by
  unfold fX12_remembers at h
  refine dn_of (lv := [some (.ref a0), none]) (by decide) rfl rfl (Nat.le_of_ble_eq_true rfl) rfl ?_
  refine ev_aload_n dc_X12_remembers_0 rfl ?_
  refine ev_getI dc_X12_remembers_1 fi_X12_59 rfl i0 ?_
  refine ev_bipush (v := 12) dc_X12_remembers_4 (by decide) ?_
  refine ev_icmp_ne (tgt := 43) dc_X12_remembers_6 (by decide) h (fun h => ?_) (fun h => ?_)
  · refine ev_iconst (v := 0) dc_X12_remembers_9 (by decide) ?_
    refine ev_istore_n (lv' := [some (.ref a0), some (.int (0 : Int32))]) dc_X12_remembers_10 rfl (by decide) rfl ?_
    exact ev_sub (tX12_remembers_b11 (b := ((0 : Int32), σ)) hW i0 h) (And.intro rfl (And.intro rfl trivial))
  · refine ev_aload_n dc_X12_remembers_43 rfl ?_
    refine ev_dup dc_X12_remembers_44 rfl ?_
    refine ev_getI dc_X12_remembers_45 fi_X12_59 rfl i0 ?_
    refine ev_iconst (v := 1) dc_X12_remembers_48 (by decide) ?_
    refine ev_iadd dc_X12_remembers_49 ?_
    refine ev_putI dc_X12_remembers_50 fi_X12_59 rfl i0 ?_
    exact ev_sub (tX12_remembers_b53 hW i0 h) (And.intro rfl trivial)
theorem dc_X12_crumb_0 : Dc miX12_crumb 0 (.aload_n 0) 1 1 := ⟨by decide +kernel, rfl⟩
theorem dc_X12_crumb_1 : Dc miX12_crumb 1 (.iconst 0) 1 2 := ⟨by decide +kernel, rfl⟩
theorem dc_X12_crumb_2 : Dc miX12_crumb 2 (.putfield 3) 3 5 := ⟨by decide +kernel, rfl⟩
theorem dc_X12_crumb_5 : Dc miX12_crumb 5 (.aload_n 0) 1 6 := ⟨by decide +kernel, rfl⟩
theorem dc_X12_crumb_6 : Dc miX12_crumb 6 (.iload_n 1) 1 7 := ⟨by decide +kernel, rfl⟩
theorem dc_X12_crumb_7 : Dc miX12_crumb 7 (.invokestatic 385) 3 10 := ⟨by decide +kernel, rfl⟩
theorem dc_X12_crumb_10 : Dc miX12_crumb 10 (.iconst 1) 1 11 := ⟨by decide +kernel, rfl⟩
theorem dc_X12_crumb_11 : Dc miX12_crumb 11 (.invokevirtual 274) 3 14 := ⟨by decide +kernel, rfl⟩
theorem dc_X12_crumb_14 : Dc miX12_crumb 14 (.ifCond .ne 30) 3 17 := ⟨by decide +kernel, rfl⟩
theorem dc_X12_crumb_17 : Dc miX12_crumb 17 (.aload_n 0) 1 18 := ⟨by decide +kernel, rfl⟩
theorem dc_X12_crumb_18 : Dc miX12_crumb 18 (.aload_n 0) 1 19 := ⟨by decide +kernel, rfl⟩
theorem dc_X12_crumb_19 : Dc miX12_crumb 19 (.invokevirtual 367) 3 22 := ⟨by decide +kernel, rfl⟩
theorem dc_X12_crumb_22 : Dc miX12_crumb 22 (.ifCond .ne 10) 3 25 := ⟨by decide +kernel, rfl⟩
theorem dc_X12_crumb_25 : Dc miX12_crumb 25 (.aload_n 0) 1 26 := ⟨by decide +kernel, rfl⟩
theorem dc_X12_crumb_26 : Dc miX12_crumb 26 (.invokevirtual 66) 3 29 := ⟨by decide +kernel, rfl⟩
theorem dc_X12_crumb_29 : Dc miX12_crumb 29 (.ifCond .ne 7) 3 32 := ⟨by decide +kernel, rfl⟩
theorem dc_X12_crumb_32 : Dc miX12_crumb 32 (.iconst 1) 1 33 := ⟨by decide +kernel, rfl⟩
theorem dc_X12_crumb_33 : Dc miX12_crumb 33 (.goto 4) 3 36 := ⟨by decide +kernel, rfl⟩
theorem dc_X12_crumb_36 : Dc miX12_crumb 36 (.iconst 0) 1 37 := ⟨by decide +kernel, rfl⟩
theorem dc_X12_crumb_37 : Dc miX12_crumb 37 (.iconst 2) 1 38 := ⟨by decide +kernel, rfl⟩
theorem dc_X12_crumb_38 : Dc miX12_crumb 38 (.invokevirtual 274) 3 41 := ⟨by decide +kernel, rfl⟩
theorem dc_X12_crumb_41 : Dc miX12_crumb 41 (.ifCond .eq 5) 3 44 := ⟨by decide +kernel, rfl⟩
theorem dc_X12_crumb_44 : Dc miX12_crumb 44 (.iconst 0) 1 45 := ⟨by decide +kernel, rfl⟩
theorem dc_X12_crumb_45 : Dc miX12_crumb 45 (.ireturn) 1 46 := ⟨by decide +kernel, rfl⟩
theorem dc_X12_crumb_46 : Dc miX12_crumb 46 (.aload_n 0) 1 47 := ⟨by decide +kernel, rfl⟩
theorem dc_X12_crumb_47 : Dc miX12_crumb 47 (.invokevirtual 373) 3 50 := ⟨by decide +kernel, rfl⟩
theorem dc_X12_crumb_50 : Dc miX12_crumb 50 (.aload_n 0) 1 51 := ⟨by decide +kernel, rfl⟩
theorem dc_X12_crumb_51 : Dc miX12_crumb 51 (.getfield 13) 3 54 := ⟨by decide +kernel, rfl⟩
theorem dc_X12_crumb_54 : Dc miX12_crumb 54 (.bipush 12) 2 56 := ⟨by decide +kernel, rfl⟩
theorem dc_X12_crumb_56 : Dc miX12_crumb 56 (.aload_n 0) 1 57 := ⟨by decide +kernel, rfl⟩
theorem dc_X12_crumb_57 : Dc miX12_crumb 57 (.aload_n 0) 1 58 := ⟨by decide +kernel, rfl⟩
theorem dc_X12_crumb_58 : Dc miX12_crumb 58 (.getfield 13) 3 61 := ⟨by decide +kernel, rfl⟩
theorem dc_X12_crumb_61 : Dc miX12_crumb 61 (.bipush 12) 2 63 := ⟨by decide +kernel, rfl⟩
theorem dc_X12_crumb_63 : Dc miX12_crumb 63 (.iaload) 1 64 := ⟨by decide +kernel, rfl⟩
theorem dc_X12_crumb_64 : Dc miX12_crumb 64 (.iload_n 1) 1 65 := ⟨by decide +kernel, rfl⟩
theorem dc_X12_crumb_65 : Dc miX12_crumb 65 (.invokevirtual 340) 3 68 := ⟨by decide +kernel, rfl⟩
theorem dc_X12_crumb_68 : Dc miX12_crumb 68 (.iastore) 1 69 := ⟨by decide +kernel, rfl⟩
theorem dc_X12_crumb_69 : Dc miX12_crumb 69 (.aload_n 0) 1 70 := ⟨by decide +kernel, rfl⟩
theorem dc_X12_crumb_70 : Dc miX12_crumb 70 (.invokevirtual 307) 3 73 := ⟨by decide +kernel, rfl⟩
theorem dc_X12_crumb_73 : Dc miX12_crumb 73 (.ireturn) 1 74 := ⟨by decide +kernel, rfl⟩
def fX12_crumb_b37 (N : Nat) (G : pG) (a0 : Nat) (a1 : Int32) (y1 : Int32) (σ : pS) : Option (Int32 × pS) := (fX12_throwsIf N G a0 y1 (2 : Int32) σ).bind (fun q1 => if q1.1 = 0 then ((fX12_remembers N G a0 q1.2).bind (fun q2 => ck (inB (12 : Int32) (pN G (pR G a0 1))) ((fX12_staysOf N G a0 (gA q2 (pR G a0 1) (12 : Int32)) a1 q2).bind (fun q3 => ck (inB (12 : Int32) (pN G (pR G a0 1))) ((fX12_howMany N G a0 (sA q2 (pR G a0 1) (12 : Int32) q3)).bind (fun q4 => some (q4, sA q2 (pR G a0 1) (12 : Int32) q3))))))) else (some ((0 : Int32), q1.2)))
set_option maxRecDepth 100000 in
set_option maxHeartbeats 4000000 in
theorem tX12_crumb_b37 {N : Nat} {G : pG} {SK : Nat → Nat} {a0 : Nat} {a1 : Int32} {y1 : Int32} {σ : pS} {r : Int32 × pS} (hW : WT G) (i0 : Is G a0 11) (h : fX12_crumb_b37 N G a0 a1 y1 σ = some r) : Ev miX12_crumb (4, 0, 0) G (Zp G (some (.int r.1)) r.2) SK (0, 0) 37 [some (.ref a0), some (.int a1)] [.int y1, .ref a0] σ := by
  unfold fX12_crumb_b37 at h
  refine ev_iconst (v := 2) dc_X12_crumb_37 (by decide) ?_
  obtain ⟨q1, hq1, h⟩ := Option.bind_eq_some_iff.mp h
  refine ev_callV (av := [.int y1, .int (2 : Int32)]) (st := []) (st1 := [.int q1.1]) dc_X12_crumb_38 (tX12_throwsIf hW i0 hq1) mw_1784 cy_X12_throwsIf i0 (by decide) rfl rfl rfl rfl (Nat.le_of_ble_eq_true rfl) (Nat.le_of_ble_eq_true rfl) ⟨Nat.le_refl _, Nat.le_refl _⟩ ?_
  refine ev_if_eq (tgt := 46) dc_X12_crumb_41 (by decide) h (fun h => ?_) (fun h => ?_)
  · refine ev_aload_n dc_X12_crumb_46 rfl ?_
    obtain ⟨q2, hq2, h⟩ := Option.bind_eq_some_iff.mp h
    refine ev_callV (av := []) (st := []) (st1 := []) dc_X12_crumb_47 (tX12_remembers hW i0 hq2) mw_1910 cy_X12_remembers i0 (by decide) rfl rfl rfl rfl (Nat.le_of_ble_eq_true rfl) (Nat.le_of_ble_eq_true rfl) ⟨Nat.le_refl _, Nat.le_refl _⟩ ?_
    refine ev_aload_n dc_X12_crumb_50 rfl ?_
    refine ev_getR dc_X12_crumb_51 fi_X12_13 rfl i0 ?_
    refine ev_bipush (v := 12) dc_X12_crumb_54 (by decide) ?_
    refine ev_aload_n dc_X12_crumb_56 rfl ?_
    refine ev_aload_n dc_X12_crumb_57 rfl ?_
    refine ev_getR dc_X12_crumb_58 fi_X12_13 rfl i0 ?_
    refine ev_bipush (v := 12) dc_X12_crumb_61 (by decide) ?_
    refine ev_iald dc_X12_crumb_63 (wt hW i0 1 rfl rfl) h (fun h => ?_)
    refine ev_iload_n dc_X12_crumb_64 rfl ?_
    obtain ⟨q3, hq3, h⟩ := Option.bind_eq_some_iff.mp h
    refine ev_callV (av := [.int (gA q2 (pR G a0 1) (12 : Int32)), .int a1]) (st := [.int (12 : Int32), .ref (pR G a0 1)]) (st1 := [.int q3, .int (12 : Int32), .ref (pR G a0 1)]) dc_X12_crumb_65 (tX12_staysOf hW i0 hq3) mw_1853 cy_X12_staysOf i0 (by decide) rfl rfl rfl rfl (Nat.le_of_ble_eq_true rfl) (Nat.le_of_ble_eq_true rfl) ⟨Nat.le_refl _, Nat.le_refl _⟩ ?_
    refine ev_iast dc_X12_crumb_68 (wt hW i0 1 rfl rfl) h (fun h => ?_)
    refine ev_aload_n dc_X12_crumb_69 rfl ?_
    obtain ⟨q4, hq4, h⟩ := Option.bind_eq_some_iff.mp h
    refine ev_callV (av := []) (st := []) (st1 := [.int q4]) dc_X12_crumb_70 (tX12_howMany hW i0 hq4) mw_1808 cy_X12_howMany i0 (by decide) rfl rfl rfl rfl (Nat.le_of_ble_eq_true rfl) (Nat.le_of_ble_eq_true rfl) ⟨Nat.le_refl _, Nat.le_refl _⟩ ?_
    cases h
    exact ev_iret dc_X12_crumb_73 rfl rfl rfl
  · refine ev_iconst (v := 0) dc_X12_crumb_44 (by decide) ?_
    cases h
    exact ev_iret dc_X12_crumb_45 rfl rfl rfl
def fX12_crumb_b32 (N : Nat) (G : pG) (a0 : Nat) (a1 : Int32) (σ : pS) : Option (Int32 × pS) := fX12_crumb_b37 N G a0 a1 (1 : Int32) σ
set_option maxRecDepth 100000 in
set_option maxHeartbeats 4000000 in
theorem tX12_crumb_b32 {N : Nat} {G : pG} {SK : Nat → Nat} {a0 : Nat} {a1 : Int32} {σ : pS} {r : Int32 × pS} (hW : WT G) (i0 : Is G a0 11) (h : fX12_crumb_b32 N G a0 a1 σ = some r) : Ev miX12_crumb (4, 0, 0) G (Zp G (some (.int r.1)) r.2) SK (0, 0) 32 [some (.ref a0), some (.int a1)] [.ref a0] σ := by
  unfold fX12_crumb_b32 at h
  refine ev_iconst (v := 1) dc_X12_crumb_32 (by decide) ?_
  refine ev_goto (tgt := 37) dc_X12_crumb_33 (by decide) ?_
  exact ev_sub (tX12_crumb_b37 hW i0 h) (And.intro rfl (And.intro rfl trivial))
def fX12_crumb (N : Nat) (G : pG) (a0 : Nat) (a1 : Int32) (σ : pS) : Option (Int32 × pS) := (fX12_noTrait N G a1 (putF σ a0 0 (0 : Int32))).bind (fun q5 => (fX12_throwsIf N G a0 q5 (1 : Int32) (putF σ a0 0 (0 : Int32))).bind (fun q6 => if q6.1 = 0 then ((fX12_isGone N G a0 q6.2).bind (fun q7 => if q7 = 0 then ((fX12_names N G a0 q6.2).bind (fun q8 => if q8 = 0 then (fX12_crumb_b32 N G a0 a1 q6.2) else (fX12_crumb_b37 N G a0 a1 (0 : Int32) q6.2))) else (fX12_crumb_b32 N G a0 a1 q6.2))) else (some ((0 : Int32), q6.2))))
set_option maxRecDepth 100000 in
set_option maxHeartbeats 4000000 in
theorem tX12_crumb {N : Nat} {G : pG} {SK : Nat → Nat} {a0 : Nat} {a1 : Int32} {σ : pS} {r : Int32 × pS} (hW : WT G) (i0 : Is G a0 11) (h : fX12_crumb N G a0 a1 σ = some r) : Dn miX12_crumb yX12_crumb 4 G SK [.ref a0, .int a1] σ (some (.int r.1)) r.2 := by
  unfold fX12_crumb at h
  refine dn_of (lv := [some (.ref a0), some (.int a1)]) (by decide) rfl rfl (Nat.le_of_ble_eq_true rfl) rfl ?_
  refine ev_aload_n dc_X12_crumb_0 rfl ?_
  refine ev_iconst (v := 0) dc_X12_crumb_1 (by decide) ?_
  refine ev_putI dc_X12_crumb_2 fi_X12_3 rfl i0 ?_
  refine ev_aload_n dc_X12_crumb_5 rfl ?_
  refine ev_iload_n dc_X12_crumb_6 rfl ?_
  obtain ⟨q5, hq5, h⟩ := Option.bind_eq_some_iff.mp h
  refine ev_callS (av := [.int a1]) (st := [.ref a0]) (st1 := [.int q5, .ref a0]) dc_X12_crumb_7 (tX12_noTrait hW hq5) mw_1954 cs_X12_noTrait rfl rfl rfl (Nat.le_of_ble_eq_true rfl) (Nat.le_of_ble_eq_true rfl) ⟨Nat.le_refl _, Nat.le_refl _⟩ ?_
  refine ev_iconst (v := 1) dc_X12_crumb_10 (by decide) ?_
  obtain ⟨q6, hq6, h⟩ := Option.bind_eq_some_iff.mp h
  refine ev_callV (av := [.int q5, .int (1 : Int32)]) (st := []) (st1 := [.int q6.1]) dc_X12_crumb_11 (tX12_throwsIf hW i0 hq6) mw_1784 cy_X12_throwsIf i0 (by decide) rfl rfl rfl rfl (Nat.le_of_ble_eq_true rfl) (Nat.le_of_ble_eq_true rfl) ⟨Nat.le_refl _, Nat.le_refl _⟩ ?_
  refine ev_if_ne (tgt := 44) dc_X12_crumb_14 (by decide) h (fun h => ?_) (fun h => ?_)
  · refine ev_aload_n dc_X12_crumb_17 rfl ?_
    refine ev_aload_n dc_X12_crumb_18 rfl ?_
    obtain ⟨q7, hq7, h⟩ := Option.bind_eq_some_iff.mp h
    refine ev_callV (av := []) (st := [.ref a0]) (st1 := [.int q7, .ref a0]) dc_X12_crumb_19 (tX12_isGone hW i0 hq7) mw_1902 cy_X12_isGone i0 (by decide) rfl rfl rfl rfl (Nat.le_of_ble_eq_true rfl) (Nat.le_of_ble_eq_true rfl) ⟨Nat.le_refl _, Nat.le_refl _⟩ ?_
    refine ev_if_ne (tgt := 32) dc_X12_crumb_22 (by decide) h (fun h => ?_) (fun h => ?_)
    · refine ev_aload_n dc_X12_crumb_25 rfl ?_
      obtain ⟨q8, hq8, h⟩ := Option.bind_eq_some_iff.mp h
      refine ev_callV (av := []) (st := [.ref a0]) (st1 := [.int q8, .ref a0]) dc_X12_crumb_26 (tX12_names hW i0 hq8) mw_1648 cy_X12_names i0 (by decide) rfl rfl rfl rfl (Nat.le_of_ble_eq_true rfl) (Nat.le_of_ble_eq_true rfl) ⟨Nat.le_refl _, Nat.le_refl _⟩ ?_
      refine ev_if_ne (tgt := 36) dc_X12_crumb_29 (by decide) h (fun h => ?_) (fun h => ?_)
      · exact ev_sub (tX12_crumb_b32 hW i0 h) (And.intro rfl (And.intro rfl trivial))
      · refine ev_iconst (v := 0) dc_X12_crumb_36 (by decide) ?_
        exact ev_sub (tX12_crumb_b37 hW i0 h) (And.intro rfl (And.intro rfl trivial))
    · exact ev_sub (tX12_crumb_b32 hW i0 h) (And.intro rfl (And.intro rfl trivial))
  · refine ev_iconst (v := 0) dc_X12_crumb_44 (by decide) ?_
    cases h
    exact ev_iret dc_X12_crumb_45 rfl rfl rfl
theorem dc_X12_crumbsOf_0 : Dc miX12_crumbsOf 0 (.iload_n 1) 1 1 := ⟨by decide +kernel, rfl⟩
theorem dc_X12_crumbsOf_1 : Dc miX12_crumbsOf 1 (.invokestatic 139) 3 4 := ⟨by decide +kernel, rfl⟩
theorem dc_X12_crumbsOf_4 : Dc miX12_crumbsOf 4 (.iconst 2) 1 5 := ⟨by decide +kernel, rfl⟩
theorem dc_X12_crumbsOf_5 : Dc miX12_crumbsOf 5 (.if_icmp .ge 5) 3 8 := ⟨by decide +kernel, rfl⟩
theorem dc_X12_crumbsOf_8 : Dc miX12_crumbsOf 8 (.iconst 0) 1 9 := ⟨by decide +kernel, rfl⟩
theorem dc_X12_crumbsOf_9 : Dc miX12_crumbsOf 9 (.ireturn) 1 10 := ⟨by decide +kernel, rfl⟩
theorem dc_X12_crumbsOf_10 : Dc miX12_crumbsOf 10 (.ldc_w 418) 3 13 := ⟨by decide +kernel, rfl⟩
theorem dc_X12_crumbsOf_13 : Dc miX12_crumbsOf 13 (.istore_n 2) 1 14 := ⟨by decide +kernel, rfl⟩
theorem dc_X12_crumbsOf_14 : Dc miX12_crumbsOf 14 (.iconst 0) 1 15 := ⟨by decide +kernel, rfl⟩
theorem dc_X12_crumbsOf_15 : Dc miX12_crumbsOf 15 (.istore_n 3) 1 16 := ⟨by decide +kernel, rfl⟩
theorem dc_X12_crumbsOf_16 : Dc miX12_crumbsOf 16 (.iload_n 3) 1 17 := ⟨by decide +kernel, rfl⟩
theorem dc_X12_crumbsOf_17 : Dc miX12_crumbsOf 17 (.bipush 6) 2 19 := ⟨by decide +kernel, rfl⟩
theorem dc_X12_crumbsOf_19 : Dc miX12_crumbsOf 19 (.if_icmp .ge 60) 3 22 := ⟨by decide +kernel, rfl⟩
theorem dc_X12_crumbsOf_22 : Dc miX12_crumbsOf 22 (.iload_n 1) 1 23 := ⟨by decide +kernel, rfl⟩
theorem dc_X12_crumbsOf_23 : Dc miX12_crumbsOf 23 (.aload_n 0) 1 24 := ⟨by decide +kernel, rfl⟩
theorem dc_X12_crumbsOf_24 : Dc miX12_crumbsOf 24 (.iload_n 3) 1 25 := ⟨by decide +kernel, rfl⟩
theorem dc_X12_crumbsOf_25 : Dc miX12_crumbsOf 25 (.invokevirtual 456) 3 28 := ⟨by decide +kernel, rfl⟩
theorem dc_X12_crumbsOf_28 : Dc miX12_crumbsOf 28 (.iand) 1 29 := ⟨by decide +kernel, rfl⟩
theorem dc_X12_crumbsOf_29 : Dc miX12_crumbsOf 29 (.istore 4) 2 31 := ⟨by decide +kernel, rfl⟩
theorem dc_X12_crumbsOf_31 : Dc miX12_crumbsOf 31 (.iload_n 1) 1 32 := ⟨by decide +kernel, rfl⟩
theorem dc_X12_crumbsOf_32 : Dc miX12_crumbsOf 32 (.iload 4) 2 34 := ⟨by decide +kernel, rfl⟩
theorem dc_X12_crumbsOf_34 : Dc miX12_crumbsOf 34 (.iconst (-1)) 1 35 := ⟨by decide +kernel, rfl⟩
theorem dc_X12_crumbsOf_35 : Dc miX12_crumbsOf 35 (.ixor) 1 36 := ⟨by decide +kernel, rfl⟩
theorem dc_X12_crumbsOf_36 : Dc miX12_crumbsOf 36 (.iand) 1 37 := ⟨by decide +kernel, rfl⟩
theorem dc_X12_crumbsOf_37 : Dc miX12_crumbsOf 37 (.istore 5) 2 39 := ⟨by decide +kernel, rfl⟩
theorem dc_X12_crumbsOf_39 : Dc miX12_crumbsOf 39 (.iload 4) 2 41 := ⟨by decide +kernel, rfl⟩
theorem dc_X12_crumbsOf_41 : Dc miX12_crumbsOf 41 (.ifCond .eq 32) 3 44 := ⟨by decide +kernel, rfl⟩
theorem dc_X12_crumbsOf_44 : Dc miX12_crumbsOf 44 (.iload 5) 2 46 := ⟨by decide +kernel, rfl⟩
theorem dc_X12_crumbsOf_46 : Dc miX12_crumbsOf 46 (.ifCond .eq 27) 3 49 := ⟨by decide +kernel, rfl⟩
theorem dc_X12_crumbsOf_49 : Dc miX12_crumbsOf 49 (.iload_n 2) 1 50 := ⟨by decide +kernel, rfl⟩
theorem dc_X12_crumbsOf_50 : Dc miX12_crumbsOf 50 (.iconst 1) 1 51 := ⟨by decide +kernel, rfl⟩
theorem dc_X12_crumbsOf_51 : Dc miX12_crumbsOf 51 (.aload_n 0) 1 52 := ⟨by decide +kernel, rfl⟩
theorem dc_X12_crumbsOf_52 : Dc miX12_crumbsOf 52 (.getfield 52) 3 55 := ⟨by decide +kernel, rfl⟩
theorem dc_X12_crumbsOf_55 : Dc miX12_crumbsOf 55 (.iload 4) 2 57 := ⟨by decide +kernel, rfl⟩
theorem dc_X12_crumbsOf_57 : Dc miX12_crumbsOf 57 (.iaload) 1 58 := ⟨by decide +kernel, rfl⟩
theorem dc_X12_crumbsOf_58 : Dc miX12_crumbsOf 58 (.aload_n 0) 1 59 := ⟨by decide +kernel, rfl⟩
theorem dc_X12_crumbsOf_59 : Dc miX12_crumbsOf 59 (.getfield 52) 3 62 := ⟨by decide +kernel, rfl⟩
theorem dc_X12_crumbsOf_62 : Dc miX12_crumbsOf 62 (.iload 5) 2 64 := ⟨by decide +kernel, rfl⟩
theorem dc_X12_crumbsOf_64 : Dc miX12_crumbsOf 64 (.iaload) 1 65 := ⟨by decide +kernel, rfl⟩
theorem dc_X12_crumbsOf_65 : Dc miX12_crumbsOf 65 (.invokestatic 323) 3 68 := ⟨by decide +kernel, rfl⟩
theorem dc_X12_crumbsOf_68 : Dc miX12_crumbsOf 68 (.iadd) 1 69 := ⟨by decide +kernel, rfl⟩
theorem dc_X12_crumbsOf_69 : Dc miX12_crumbsOf 69 (.invokestatic 334) 3 72 := ⟨by decide +kernel, rfl⟩
theorem dc_X12_crumbsOf_72 : Dc miX12_crumbsOf 72 (.istore_n 2) 1 73 := ⟨by decide +kernel, rfl⟩
theorem dc_X12_crumbsOf_73 : Dc miX12_crumbsOf 73 (.iinc 3 1) 3 76 := ⟨by decide +kernel, rfl⟩
theorem dc_X12_crumbsOf_76 : Dc miX12_crumbsOf 76 (.goto (-60)) 3 79 := ⟨by decide +kernel, rfl⟩
theorem dc_X12_crumbsOf_79 : Dc miX12_crumbsOf 79 (.iload_n 2) 1 80 := ⟨by decide +kernel, rfl⟩
theorem dc_X12_crumbsOf_80 : Dc miX12_crumbsOf 80 (.ireturn) 1 81 := ⟨by decide +kernel, rfl⟩
def fX12_crumbsOf_b16 (N : Nat) (G : pG) (a0 : Nat) (a1 : Int32) (σ : pS) : (Int32 × Int32) → Option (Int32) := lp (fun (k16 : Int32 × Int32 → Option (Int32)) (b : Int32 × Int32) => if (6 : Int32) ≤ b.2 then (some b.1) else ((fX12_whoHave N G a0 b.2 σ).bind (fun q1 => if (a1 &&& q1) = 0 then (k16 (b.1, b.2 + (1 : Int32))) else (if (a1 &&& ((a1 &&& q1) ^^^ (-1 : Int32))) = 0 then (k16 (b.1, b.2 + (1 : Int32))) else (ck (inB (a1 &&& q1) (pN G (pR G a0 28))) (ck (inB (a1 &&& ((a1 &&& q1) ^^^ (-1 : Int32))) (pN G (pR G a0 28))) (k16 (jmin b.1 ((1 : Int32) + (jmax (gA σ (pR G a0 28) (a1 &&& q1)) (gA σ (pR G a0 28) (a1 &&& ((a1 &&& q1) ^^^ (-1 : Int32)))))), b.2 + (1 : Int32))))))))) N
set_option maxRecDepth 100000 in
set_option maxHeartbeats 4000000 in
theorem tX12_crumbsOf_b16 {N : Nat} {G : pG} {SK : Nat → Nat} {a0 : Nat} {a1 : Int32} {σ : pS} {b : Int32 × Int32} {r : Int32} (hW : WT G) (i0 : Is G a0 11) (h : fX12_crumbsOf_b16 N G a0 a1 σ b = some r) : Ev miX12_crumbsOf (3, 0, 0) G (Zp G (some (.int r)) σ) SK (0, 0) 16 [some (.ref a0), some (.int a1), some (.int b.1), some (.int b.2), none, none] [] σ := by
  unfold fX12_crumbsOf_b16 at h
  refine lp_ind (P := fun b r9 => r9 = r → Ev miX12_crumbsOf (3, 0, 0) G (Zp G (some (.int r)) σ) SK (0, 0) 16 [some (.ref a0), some (.int a1), some (.int b.1), some (.int b.2), none, none] [] σ) (fun k16 b r9 ih h9 e9 => ?_) N b r h rfl
  clear h
  subst e9
  have h := h9
  clear h9
  have hk16 : ∀ b : Int32 × Int32, k16 b = some r9 → Ev miX12_crumbsOf (3, 0, 0) G (Zp G (some (.int r9)) σ) SK (0, 0) 16 [some (.ref a0), some (.int a1), some (.int b.1), some (.int b.2), none, none] [] σ := fun b hb => ih b r9 hb rfl
  clear ih
  obtain ⟨x2, x3⟩ := b
  dsimp only at h ⊢
  refine ev_iload_n dc_X12_crumbsOf_16 rfl ?_
  refine ev_bipush (v := 6) dc_X12_crumbsOf_17 (by decide) ?_
  refine ev_icmp_ge (tgt := 79) dc_X12_crumbsOf_19 (by decide) h (fun h => ?_) (fun h => ?_)
  · refine ev_iload_n dc_X12_crumbsOf_79 rfl ?_
    cases h
    exact ev_iret dc_X12_crumbsOf_80 rfl rfl rfl
  · refine ev_iload_n dc_X12_crumbsOf_22 rfl ?_
    refine ev_aload_n dc_X12_crumbsOf_23 rfl ?_
    refine ev_iload_n dc_X12_crumbsOf_24 rfl ?_
    obtain ⟨q1, hq1, h⟩ := Option.bind_eq_some_iff.mp h
    refine ev_callV (av := [.int x3]) (st := [.int a1]) (st1 := [.int q1, .int a1]) dc_X12_crumbsOf_25 (tX12_whoHave hW i0 hq1) mw_2090 cy_X12_whoHave i0 (by decide) rfl rfl rfl rfl (Nat.le_of_ble_eq_true rfl) (Nat.le_of_ble_eq_true rfl) ⟨Nat.le_refl _, Nat.le_refl _⟩ ?_
    refine ev_iand dc_X12_crumbsOf_28 ?_
    refine ev_istore (lv' := [some (.ref a0), some (.int a1), some (.int x2), some (.int x3), some (.int (a1 &&& q1)), none]) dc_X12_crumbsOf_29 rfl (by decide) rfl ?_
    refine ev_iload_n dc_X12_crumbsOf_31 rfl ?_
    refine ev_iload dc_X12_crumbsOf_32 rfl ?_
    refine ev_iconst (v := (-1)) dc_X12_crumbsOf_34 (by decide) ?_
    refine ev_ixor dc_X12_crumbsOf_35 ?_
    refine ev_iand dc_X12_crumbsOf_36 ?_
    refine ev_istore (lv' := [some (.ref a0), some (.int a1), some (.int x2), some (.int x3), some (.int (a1 &&& q1)), some (.int (a1 &&& ((a1 &&& q1) ^^^ (-1 : Int32))))]) dc_X12_crumbsOf_37 rfl (by decide) rfl ?_
    refine ev_iload dc_X12_crumbsOf_39 rfl ?_
    refine ev_if_eq (tgt := 73) dc_X12_crumbsOf_41 (by decide) h (fun h => ?_) (fun h => ?_)
    · refine ev_iinc (v := 1) (lv' := [some (.ref a0), some (.int a1), some (.int x2), some (.int (x3 + (1 : Int32))), some (.int (a1 &&& q1)), some (.int (a1 &&& ((a1 &&& q1) ^^^ (-1 : Int32))))]) dc_X12_crumbsOf_73 rfl (by decide) rfl (by decide) rfl ?_
      refine ev_goto (tgt := 16) dc_X12_crumbsOf_76 (by decide) ?_
      exact ev_sub (hk16 (x2, x3 + (1 : Int32)) h) (And.intro rfl (And.intro rfl (And.intro rfl (And.intro rfl trivial))))
    · refine ev_iload dc_X12_crumbsOf_44 rfl ?_
      refine ev_if_eq (tgt := 73) dc_X12_crumbsOf_46 (by decide) h (fun h => ?_) (fun h => ?_)
      · refine ev_iinc (v := 1) (lv' := [some (.ref a0), some (.int a1), some (.int x2), some (.int (x3 + (1 : Int32))), some (.int (a1 &&& q1)), some (.int (a1 &&& ((a1 &&& q1) ^^^ (-1 : Int32))))]) dc_X12_crumbsOf_73 rfl (by decide) rfl (by decide) rfl ?_
        refine ev_goto (tgt := 16) dc_X12_crumbsOf_76 (by decide) ?_
        exact ev_sub (hk16 (x2, x3 + (1 : Int32)) h) (And.intro rfl (And.intro rfl (And.intro rfl (And.intro rfl trivial))))
      · refine ev_iload_n dc_X12_crumbsOf_49 rfl ?_
        refine ev_iconst (v := 1) dc_X12_crumbsOf_50 (by decide) ?_
        refine ev_aload_n dc_X12_crumbsOf_51 rfl ?_
        refine ev_getR dc_X12_crumbsOf_52 fi_X12_52 rfl i0 ?_
        refine ev_iload dc_X12_crumbsOf_55 rfl ?_
        refine ev_iald dc_X12_crumbsOf_57 (wt hW i0 28 rfl rfl) h (fun h => ?_)
        refine ev_aload_n dc_X12_crumbsOf_58 rfl ?_
        refine ev_getR dc_X12_crumbsOf_59 fi_X12_52 rfl i0 ?_
        refine ev_iload dc_X12_crumbsOf_62 rfl ?_
        refine ev_iald dc_X12_crumbsOf_64 (wt hW i0 28 rfl rfl) h (fun h => ?_)
        refine ev_max dc_X12_crumbsOf_65 mw_1844 (Nat.le_of_ble_eq_true rfl) (Nat.le_of_ble_eq_true rfl) ⟨Nat.le_refl _, Nat.le_refl _⟩ ?_
        refine ev_iadd dc_X12_crumbsOf_68 ?_
        refine ev_min dc_X12_crumbsOf_69 mw_1861 (Nat.le_of_ble_eq_true rfl) (Nat.le_of_ble_eq_true rfl) ⟨Nat.le_refl _, Nat.le_refl _⟩ ?_
        refine ev_istore_n (lv' := [some (.ref a0), some (.int a1), some (.int (jmin x2 ((1 : Int32) + (jmax (gA σ (pR G a0 28) (a1 &&& q1)) (gA σ (pR G a0 28) (a1 &&& ((a1 &&& q1) ^^^ (-1 : Int32)))))))), some (.int x3), some (.int (a1 &&& q1)), some (.int (a1 &&& ((a1 &&& q1) ^^^ (-1 : Int32))))]) dc_X12_crumbsOf_72 rfl (by decide) rfl ?_
        refine ev_iinc (v := 1) (lv' := [some (.ref a0), some (.int a1), some (.int (jmin x2 ((1 : Int32) + (jmax (gA σ (pR G a0 28) (a1 &&& q1)) (gA σ (pR G a0 28) (a1 &&& ((a1 &&& q1) ^^^ (-1 : Int32)))))))), some (.int (x3 + (1 : Int32))), some (.int (a1 &&& q1)), some (.int (a1 &&& ((a1 &&& q1) ^^^ (-1 : Int32))))]) dc_X12_crumbsOf_73 rfl (by decide) rfl (by decide) rfl ?_
        refine ev_goto (tgt := 16) dc_X12_crumbsOf_76 (by decide) ?_
        exact ev_sub (hk16 (jmin x2 ((1 : Int32) + (jmax (gA σ (pR G a0 28) (a1 &&& q1)) (gA σ (pR G a0 28) (a1 &&& ((a1 &&& q1) ^^^ (-1 : Int32)))))), x3 + (1 : Int32)) h) (And.intro rfl (And.intro rfl (And.intro rfl (And.intro rfl trivial))))
def fX12_crumbsOf (N : Nat) (G : pG) (a0 : Nat) (a1 : Int32) (σ : pS) : Option (Int32) := (fJ6_bitCount_0f7a4 N G a1 σ).bind (fun q2 => if (2 : Int32) ≤ q2 then (fX12_crumbsOf_b16 N G a0 a1 σ ((1000000 : Int32), (0 : Int32))) else (some (0 : Int32)))
set_option maxRecDepth 100000 in
set_option maxHeartbeats 4000000 in
theorem tX12_crumbsOf {N : Nat} {G : pG} {SK : Nat → Nat} {a0 : Nat} {a1 : Int32} {σ : pS} {r : Int32} (hW : WT G) (i0 : Is G a0 11) (h : fX12_crumbsOf N G a0 a1 σ = some r) : Dn miX12_crumbsOf yX12_crumbsOf 3 G SK [.ref a0, .int a1] σ (some (.int r)) σ := by
  unfold fX12_crumbsOf at h
  refine dn_of (lv := [some (.ref a0), some (.int a1), none, none, none, none]) (by decide) rfl rfl (Nat.le_of_ble_eq_true rfl) rfl ?_
  refine ev_iload_n dc_X12_crumbsOf_0 rfl ?_
  obtain ⟨q2, hq2, h⟩ := Option.bind_eq_some_iff.mp h
  refine ev_callS (av := [.int a1]) (st := []) (st1 := [.int q2]) dc_X12_crumbsOf_1 (tJ6_bitCount_0f7a4 hW hq2) mw_1685 cs_J6_bitCount_0f7a4 rfl rfl rfl (Nat.le_of_ble_eq_true rfl) (Nat.le_of_ble_eq_true rfl) ⟨Nat.le_refl _, Nat.le_refl _⟩ ?_
  refine ev_iconst (v := 2) dc_X12_crumbsOf_4 (by decide) ?_
  refine ev_icmp_ge (tgt := 10) dc_X12_crumbsOf_5 (by decide) h (fun h => ?_) (fun h => ?_)
  · refine ev_ldcw (v := 1000000) dc_X12_crumbsOf_10 mw_2025 ?_
    refine ev_istore_n (lv' := [some (.ref a0), some (.int a1), some (.int (1000000 : Int32)), none, none, none]) dc_X12_crumbsOf_13 rfl (by decide) rfl ?_
    refine ev_iconst (v := 0) dc_X12_crumbsOf_14 (by decide) ?_
    refine ev_istore_n (lv' := [some (.ref a0), some (.int a1), some (.int (1000000 : Int32)), some (.int (0 : Int32)), none, none]) dc_X12_crumbsOf_15 rfl (by decide) rfl ?_
    exact ev_sub (tX12_crumbsOf_b16 (b := ((1000000 : Int32), (0 : Int32))) hW i0 h) (And.intro rfl (And.intro rfl (And.intro rfl (And.intro rfl trivial))))
  · refine ev_iconst (v := 0) dc_X12_crumbsOf_8 (by decide) ?_
    cases h
    exact ev_iret dc_X12_crumbsOf_9 rfl rfl rfl
