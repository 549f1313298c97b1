theorem dc_J6_bitCount_0f7a4_0 : Dc miJ6_bitCount_0f7a4 0 (.iload_n 0) 1 1 := ⟨by decide +kernel, rfl⟩
theorem dc_J6_bitCount_0f7a4_1 : Dc miJ6_bitCount_0f7a4 1 (.iload_n 0) 1 2 := ⟨by decide +kernel, rfl⟩
theorem dc_J6_bitCount_0f7a4_2 : Dc miJ6_bitCount_0f7a4 2 (.iconst 1) 1 3 := ⟨by decide +kernel, rfl⟩
theorem dc_J6_bitCount_0f7a4_3 : Dc miJ6_bitCount_0f7a4 3 (.iushr) 1 4 := ⟨by decide +kernel, rfl⟩
theorem dc_J6_bitCount_0f7a4_4 : Dc miJ6_bitCount_0f7a4 4 (.ldc_w 265) 3 7 := ⟨by decide +kernel, rfl⟩
theorem dc_J6_bitCount_0f7a4_7 : Dc miJ6_bitCount_0f7a4 7 (.iand) 1 8 := ⟨by decide +kernel, rfl⟩
theorem dc_J6_bitCount_0f7a4_8 : Dc miJ6_bitCount_0f7a4 8 (.isub) 1 9 := ⟨by decide +kernel, rfl⟩
theorem dc_J6_bitCount_0f7a4_9 : Dc miJ6_bitCount_0f7a4 9 (.istore_n 0) 1 10 := ⟨by decide +kernel, rfl⟩
theorem dc_J6_bitCount_0f7a4_10 : Dc miJ6_bitCount_0f7a4 10 (.iload_n 0) 1 11 := ⟨by decide +kernel, rfl⟩
theorem dc_J6_bitCount_0f7a4_11 : Dc miJ6_bitCount_0f7a4 11 (.ldc_w 266) 3 14 := ⟨by decide +kernel, rfl⟩
theorem dc_J6_bitCount_0f7a4_14 : Dc miJ6_bitCount_0f7a4 14 (.iand) 1 15 := ⟨by decide +kernel, rfl⟩
theorem dc_J6_bitCount_0f7a4_15 : Dc miJ6_bitCount_0f7a4 15 (.iload_n 0) 1 16 := ⟨by decide +kernel, rfl⟩
theorem dc_J6_bitCount_0f7a4_16 : Dc miJ6_bitCount_0f7a4 16 (.iconst 2) 1 17 := ⟨by decide +kernel, rfl⟩
theorem dc_J6_bitCount_0f7a4_17 : Dc miJ6_bitCount_0f7a4 17 (.iushr) 1 18 := ⟨by decide +kernel, rfl⟩
theorem dc_J6_bitCount_0f7a4_18 : Dc miJ6_bitCount_0f7a4 18 (.ldc_w 266) 3 21 := ⟨by decide +kernel, rfl⟩
theorem dc_J6_bitCount_0f7a4_21 : Dc miJ6_bitCount_0f7a4 21 (.iand) 1 22 := ⟨by decide +kernel, rfl⟩
theorem dc_J6_bitCount_0f7a4_22 : Dc miJ6_bitCount_0f7a4 22 (.iadd) 1 23 := ⟨by decide +kernel, rfl⟩
theorem dc_J6_bitCount_0f7a4_23 : Dc miJ6_bitCount_0f7a4 23 (.istore_n 0) 1 24 := ⟨by decide +kernel, rfl⟩
theorem dc_J6_bitCount_0f7a4_24 : Dc miJ6_bitCount_0f7a4 24 (.iload_n 0) 1 25 := ⟨by decide +kernel, rfl⟩
theorem dc_J6_bitCount_0f7a4_25 : Dc miJ6_bitCount_0f7a4 25 (.iload_n 0) 1 26 := ⟨by decide +kernel, rfl⟩
theorem dc_J6_bitCount_0f7a4_26 : Dc miJ6_bitCount_0f7a4 26 (.iconst 4) 1 27 := ⟨by decide +kernel, rfl⟩
theorem dc_J6_bitCount_0f7a4_27 : Dc miJ6_bitCount_0f7a4 27 (.iushr) 1 28 := ⟨by decide +kernel, rfl⟩
theorem dc_J6_bitCount_0f7a4_28 : Dc miJ6_bitCount_0f7a4 28 (.iadd) 1 29 := ⟨by decide +kernel, rfl⟩
theorem dc_J6_bitCount_0f7a4_29 : Dc miJ6_bitCount_0f7a4 29 (.ldc_w 267) 3 32 := ⟨by decide +kernel, rfl⟩
theorem dc_J6_bitCount_0f7a4_32 : Dc miJ6_bitCount_0f7a4 32 (.iand) 1 33 := ⟨by decide +kernel, rfl⟩
theorem dc_J6_bitCount_0f7a4_33 : Dc miJ6_bitCount_0f7a4 33 (.istore_n 0) 1 34 := ⟨by decide +kernel, rfl⟩
theorem dc_J6_bitCount_0f7a4_34 : Dc miJ6_bitCount_0f7a4 34 (.iload_n 0) 1 35 := ⟨by decide +kernel, rfl⟩
theorem dc_J6_bitCount_0f7a4_35 : Dc miJ6_bitCount_0f7a4 35 (.iload_n 0) 1 36 := ⟨by decide +kernel, rfl⟩
theorem dc_J6_bitCount_0f7a4_36 : Dc miJ6_bitCount_0f7a4 36 (.bipush 8) 2 38 := ⟨by decide +kernel, rfl⟩
theorem dc_J6_bitCount_0f7a4_38 : Dc miJ6_bitCount_0f7a4 38 (.iushr) 1 39 := ⟨by decide +kernel, rfl⟩
theorem dc_J6_bitCount_0f7a4_39 : Dc miJ6_bitCount_0f7a4 39 (.iadd) 1 40 := ⟨by decide +kernel, rfl⟩
theorem dc_J6_bitCount_0f7a4_40 : Dc miJ6_bitCount_0f7a4 40 (.istore_n 0) 1 41 := ⟨by decide +kernel, rfl⟩
theorem dc_J6_bitCount_0f7a4_41 : Dc miJ6_bitCount_0f7a4 41 (.iload_n 0) 1 42 := ⟨by decide +kernel, rfl⟩
theorem dc_J6_bitCount_0f7a4_42 : Dc miJ6_bitCount_0f7a4 42 (.iload_n 0) 1 43 := ⟨by decide +kernel, rfl⟩
theorem dc_J6_bitCount_0f7a4_43 : Dc miJ6_bitCount_0f7a4 43 (.bipush 16) 2 45 := ⟨by decide +kernel, rfl⟩
theorem dc_J6_bitCount_0f7a4_45 : Dc miJ6_bitCount_0f7a4 45 (.iushr) 1 46 := ⟨by decide +kernel, rfl⟩
theorem dc_J6_bitCount_0f7a4_46 : Dc miJ6_bitCount_0f7a4 46 (.iadd) 1 47 := ⟨by decide +kernel, rfl⟩
theorem dc_J6_bitCount_0f7a4_47 : Dc miJ6_bitCount_0f7a4 47 (.istore_n 0) 1 48 := ⟨by decide +kernel, rfl⟩
theorem dc_J6_bitCount_0f7a4_48 : Dc miJ6_bitCount_0f7a4 48 (.iload_n 0) 1 49 := ⟨by decide +kernel, rfl⟩
theorem dc_J6_bitCount_0f7a4_49 : Dc miJ6_bitCount_0f7a4 49 (.bipush 63) 2 51 := ⟨by decide +kernel, rfl⟩
theorem dc_J6_bitCount_0f7a4_51 : Dc miJ6_bitCount_0f7a4 51 (.iand) 1 52 := ⟨by decide +kernel, rfl⟩
theorem dc_J6_bitCount_0f7a4_52 : Dc miJ6_bitCount_0f7a4 52 (.ireturn) 1 53 := ⟨by decide +kernel, rfl⟩
def fJ6_bitCount_0f7a4 (N : Nat) (G : pG) (a0 : Int32) (σ : pS) : Option (Int32) := some ((((((((a0 - ((jushr a0 (1 : Int32)) &&& (1431655765 : Int32))) &&& (858993459 : Int32)) + ((jushr (a0 - ((jushr a0 (1 : Int32)) &&& (1431655765 : Int32))) (2 : Int32)) &&& (858993459 : Int32))) + (jushr (((a0 - ((jushr a0 (1 : Int32)) &&& (1431655765 : Int32))) &&& (858993459 : Int32)) + ((jushr (a0 - ((jushr a0 (1 : Int32)) &&& (1431655765 : Int32))) (2 : Int32)) &&& (858993459 : Int32))) (4 : Int32))) &&& (252645135 : Int32)) + (jushr (((((a0 - ((jushr a0 (1 : Int32)) &&& (1431655765 : Int32))) &&& (858993459 : Int32)) + ((jushr (a0 - ((jushr a0 (1 : Int32)) &&& (1431655765 : Int32))) (2 : Int32)) &&& (858993459 : Int32))) + (jushr (((a0 - ((jushr a0 (1 : Int32)) &&& (1431655765 : Int32))) &&& (858993459 : Int32)) + ((jushr (a0 - ((jushr a0 (1 : Int32)) &&& (1431655765 : Int32))) (2 : Int32)) &&& (858993459 : Int32))) (4 : Int32))) &&& (252645135 : Int32)) (8 : Int32))) + (jushr ((((((a0 - ((jushr a0 (1 : Int32)) &&& (1431655765 : Int32))) &&& (858993459 : Int32)) + ((jushr (a0 - ((jushr a0 (1 : Int32)) &&& (1431655765 : Int32))) (2 : Int32)) &&& (858993459 : Int32))) + (jushr (((a0 - ((jushr a0 (1 : Int32)) &&& (1431655765 : Int32))) &&& (858993459 : Int32)) + ((jushr (a0 - ((jushr a0 (1 : Int32)) &&& (1431655765 : Int32))) (2 : Int32)) &&& (858993459 : Int32))) (4 : Int32))) &&& (252645135 : Int32)) + (jushr (((((a0 - ((jushr a0 (1 : Int32)) &&& (1431655765 : Int32))) &&& (858993459 : Int32)) + ((jushr (a0 - ((jushr a0 (1 : Int32)) &&& (1431655765 : Int32))) (2 : Int32)) &&& (858993459 : Int32))) + (jushr (((a0 - ((jushr a0 (1 : Int32)) &&& (1431655765 : Int32))) &&& (858993459 : Int32)) + ((jushr (a0 - ((jushr a0 (1 : Int32)) &&& (1431655765 : Int32))) (2 : Int32)) &&& (858993459 : Int32))) (4 : Int32))) &&& (252645135 : Int32)) (8 : Int32))) (16 : Int32))) &&& (63 : Int32))
set_option maxRecDepth 100000 in
set_option maxHeartbeats 4000000 in
theorem tJ6_bitCount_0f7a4 {N : Nat} {G : pG} {SK : Nat → Nat} {a0 : Int32} {σ : pS} {r : Int32} (hW : WT G) (h : fJ6_bitCount_0f7a4 N G a0 σ = some r) : Dn miJ6_bitCount_0f7a4 yJ6_bitCount_0f7a4 1 G SK [.int a0] σ (some (.int r)) σ := by
  unfold fJ6_bitCount_0f7a4 at h
  refine dn_of (lv := [some (.int a0)]) (by decide) rfl rfl (Nat.le_of_ble_eq_true rfl) rfl ?_
  refine ev_iload_n dc_J6_bitCount_0f7a4_0 rfl ?_
  refine ev_iload_n dc_J6_bitCount_0f7a4_1 rfl ?_
  refine ev_iconst (v := 1) dc_J6_bitCount_0f7a4_2 (by decide) ?_
  refine ev_iushr dc_J6_bitCount_0f7a4_3 ?_
  refine ev_ldcw (v := 1431655765) dc_J6_bitCount_0f7a4_4 mw_488 ?_
  refine ev_iand dc_J6_bitCount_0f7a4_7 ?_
  refine ev_isub dc_J6_bitCount_0f7a4_8 ?_
  refine ev_istore_n (lv' := [some (.int (a0 - ((jushr a0 (1 : Int32)) &&& (1431655765 : Int32))))]) dc_J6_bitCount_0f7a4_9 rfl (by decide) rfl ?_
  refine ev_iload_n dc_J6_bitCount_0f7a4_10 rfl ?_
  refine ev_ldcw (v := 858993459) dc_J6_bitCount_0f7a4_11 mw_489 ?_
  refine ev_iand dc_J6_bitCount_0f7a4_14 ?_
  refine ev_iload_n dc_J6_bitCount_0f7a4_15 rfl ?_
  refine ev_iconst (v := 2) dc_J6_bitCount_0f7a4_16 (by decide) ?_
  refine ev_iushr dc_J6_bitCount_0f7a4_17 ?_
  refine ev_ldcw (v := 858993459) dc_J6_bitCount_0f7a4_18 mw_489 ?_
  refine ev_iand dc_J6_bitCount_0f7a4_21 ?_
  refine ev_iadd dc_J6_bitCount_0f7a4_22 ?_
  refine ev_istore_n (lv' := [some (.int (((a0 - ((jushr a0 (1 : Int32)) &&& (1431655765 : Int32))) &&& (858993459 : Int32)) + ((jushr (a0 - ((jushr a0 (1 : Int32)) &&& (1431655765 : Int32))) (2 : Int32)) &&& (858993459 : Int32))))]) dc_J6_bitCount_0f7a4_23 rfl (by decide) rfl ?_
  refine ev_iload_n dc_J6_bitCount_0f7a4_24 rfl ?_
  refine ev_iload_n dc_J6_bitCount_0f7a4_25 rfl ?_
  refine ev_iconst (v := 4) dc_J6_bitCount_0f7a4_26 (by decide) ?_
  refine ev_iushr dc_J6_bitCount_0f7a4_27 ?_
  refine ev_iadd dc_J6_bitCount_0f7a4_28 ?_
  refine ev_ldcw (v := 252645135) dc_J6_bitCount_0f7a4_29 mw_490 ?_
  refine ev_iand dc_J6_bitCount_0f7a4_32 ?_
  refine ev_istore_n (lv' := [some (.int (((((a0 - ((jushr a0 (1 : Int32)) &&& (1431655765 : Int32))) &&& (858993459 : Int32)) + ((jushr (a0 - ((jushr a0 (1 : Int32)) &&& (1431655765 : Int32))) (2 : Int32)) &&& (858993459 : Int32))) + (jushr (((a0 - ((jushr a0 (1 : Int32)) &&& (1431655765 : Int32))) &&& (858993459 : Int32)) + ((jushr (a0 - ((jushr a0 (1 : Int32)) &&& (1431655765 : Int32))) (2 : Int32)) &&& (858993459 : Int32))) (4 : Int32))) &&& (252645135 : Int32)))]) dc_J6_bitCount_0f7a4_33 rfl (by decide) rfl ?_
  refine ev_iload_n dc_J6_bitCount_0f7a4_34 rfl ?_
  refine ev_iload_n dc_J6_bitCount_0f7a4_35 rfl ?_
  refine ev_bipush (v := 8) dc_J6_bitCount_0f7a4_36 (by decide) ?_
  refine ev_iushr dc_J6_bitCount_0f7a4_38 ?_
  refine ev_iadd dc_J6_bitCount_0f7a4_39 ?_
  refine ev_istore_n (lv' := [some (.int ((((((a0 - ((jushr a0 (1 : Int32)) &&& (1431655765 : Int32))) &&& (858993459 : Int32)) + ((jushr (a0 - ((jushr a0 (1 : Int32)) &&& (1431655765 : Int32))) (2 : Int32)) &&& (858993459 : Int32))) + (jushr (((a0 - ((jushr a0 (1 : Int32)) &&& (1431655765 : Int32))) &&& (858993459 : Int32)) + ((jushr (a0 - ((jushr a0 (1 : Int32)) &&& (1431655765 : Int32))) (2 : Int32)) &&& (858993459 : Int32))) (4 : Int32))) &&& (252645135 : Int32)) + (jushr (((((a0 - ((jushr a0 (1 : Int32)) &&& (1431655765 : Int32))) &&& (858993459 : Int32)) + ((jushr (a0 - ((jushr a0 (1 : Int32)) &&& (1431655765 : Int32))) (2 : Int32)) &&& (858993459 : Int32))) + (jushr (((a0 - ((jushr a0 (1 : Int32)) &&& (1431655765 : Int32))) &&& (858993459 : Int32)) + ((jushr (a0 - ((jushr a0 (1 : Int32)) &&& (1431655765 : Int32))) (2 : Int32)) &&& (858993459 : Int32))) (4 : Int32))) &&& (252645135 : Int32)) (8 : Int32))))]) dc_J6_bitCount_0f7a4_40 rfl (by decide) rfl ?_
  refine ev_iload_n dc_J6_bitCount_0f7a4_41 rfl ?_
  refine ev_iload_n dc_J6_bitCount_0f7a4_42 rfl ?_
  refine ev_bipush (v := 16) dc_J6_bitCount_0f7a4_43 (by decide) ?_
  refine ev_iushr dc_J6_bitCount_0f7a4_45 ?_
  refine ev_iadd dc_J6_bitCount_0f7a4_46 ?_
  refine ev_istore_n (lv' := [some (.int (((((((a0 - ((jushr a0 (1 : Int32)) &&& (1431655765 : Int32))) &&& (858993459 : Int32)) + ((jushr (a0 - ((jushr a0 (1 : Int32)) &&& (1431655765 : Int32))) (2 : Int32)) &&& (858993459 : Int32))) + (jushr (((a0 - ((jushr a0 (1 : Int32)) &&& (1431655765 : Int32))) &&& (858993459 : Int32)) + ((jushr (a0 - ((jushr a0 (1 : Int32)) &&& (1431655765 : Int32))) (2 : Int32)) &&& (858993459 : Int32))) (4 : Int32))) &&& (252645135 : Int32)) + (jushr (((((a0 - ((jushr a0 (1 : Int32)) &&& (1431655765 : Int32))) &&& (858993459 : Int32)) + ((jushr (a0 - ((jushr a0 (1 : Int32)) &&& (1431655765 : Int32))) (2 : Int32)) &&& (858993459 : Int32))) + (jushr (((a0 - ((jushr a0 (1 : Int32)) &&& (1431655765 : Int32))) &&& (858993459 : Int32)) + ((jushr (a0 - ((jushr a0 (1 : Int32)) &&& (1431655765 : Int32))) (2 : Int32)) &&& (858993459 : Int32))) (4 : Int32))) &&& (252645135 : Int32)) (8 : Int32))) + (jushr ((((((a0 - ((jushr a0 (1 : Int32)) &&& (1431655765 : Int32))) &&& (858993459 : Int32)) + ((jushr (a0 - ((jushr a0 (1 : Int32)) &&& (1431655765 : Int32))) (2 : Int32)) &&& (858993459 : Int32))) + (jushr (((a0 - ((jushr a0 (1 : Int32)) &&& (1431655765 : Int32))) &&& (858993459 : Int32)) + ((jushr (a0 - ((jushr a0 (1 : Int32)) &&& (1431655765 : Int32))) (2 : Int32)) &&& (858993459 : Int32))) (4 : Int32))) &&& (252645135 : Int32)) + (jushr (((((a0 - ((jushr a0 (1 : Int32)) &&& (1431655765 : Int32))) &&& (858993459 : Int32)) + ((jushr (a0 - ((jushr a0 (1 : Int32)) &&& (1431655765 : Int32))) (2 : Int32)) &&& (858993459 : Int32))) + (jushr (((a0 - ((jushr a0 (1 : Int32)) &&& (1431655765 : Int32))) &&& (858993459 : Int32)) + ((jushr (a0 - ((jushr a0 (1 : Int32)) &&& (1431655765 : Int32))) (2 : Int32)) &&& (858993459 : Int32))) (4 : Int32))) &&& (252645135 : Int32)) (8 : Int32))) (16 : Int32))))]) dc_J6_bitCount_0f7a4_47 rfl (by decide) rfl ?_
  refine ev_iload_n dc_J6_bitCount_0f7a4_48 rfl ?_
  refine ev_bipush (v := 63) dc_J6_bitCount_0f7a4_49 (by decide) ?_
  refine ev_iand dc_J6_bitCount_0f7a4_51 ?_
  cases h
  exact ev_iret dc_J6_bitCount_0f7a4_52 rfl rfl rfl
theorem dc_J6_numberOfTrailingZeros_0f7a4_0 : Dc miJ6_numberOfTrailingZeros_0f7a4 0 (.iload_n 0) 1 1 := ⟨by decide +kernel, rfl⟩
theorem dc_J6_numberOfTrailingZeros_0f7a4_1 : Dc miJ6_numberOfTrailingZeros_0f7a4 1 (.iconst (-1)) 1 2 := ⟨by decide +kernel, rfl⟩
theorem dc_J6_numberOfTrailingZeros_0f7a4_2 : Dc miJ6_numberOfTrailingZeros_0f7a4 2 (.ixor) 1 3 := ⟨by decide +kernel, rfl⟩
theorem dc_J6_numberOfTrailingZeros_0f7a4_3 : Dc miJ6_numberOfTrailingZeros_0f7a4 3 (.iload_n 0) 1 4 := ⟨by decide +kernel, rfl⟩
theorem dc_J6_numberOfTrailingZeros_0f7a4_4 : Dc miJ6_numberOfTrailingZeros_0f7a4 4 (.iconst 1) 1 5 := ⟨by decide +kernel, rfl⟩
theorem dc_J6_numberOfTrailingZeros_0f7a4_5 : Dc miJ6_numberOfTrailingZeros_0f7a4 5 (.isub) 1 6 := ⟨by decide +kernel, rfl⟩
theorem dc_J6_numberOfTrailingZeros_0f7a4_6 : Dc miJ6_numberOfTrailingZeros_0f7a4 6 (.iand) 1 7 := ⟨by decide +kernel, rfl⟩
theorem dc_J6_numberOfTrailingZeros_0f7a4_7 : Dc miJ6_numberOfTrailingZeros_0f7a4 7 (.istore_n 0) 1 8 := ⟨by decide +kernel, rfl⟩
theorem dc_J6_numberOfTrailingZeros_0f7a4_8 : Dc miJ6_numberOfTrailingZeros_0f7a4 8 (.iload_n 0) 1 9 := ⟨by decide +kernel, rfl⟩
theorem dc_J6_numberOfTrailingZeros_0f7a4_9 : Dc miJ6_numberOfTrailingZeros_0f7a4 9 (.ifCond .gt 8) 3 12 := ⟨by decide +kernel, rfl⟩
theorem dc_J6_numberOfTrailingZeros_0f7a4_12 : Dc miJ6_numberOfTrailingZeros_0f7a4 12 (.iload_n 0) 1 13 := ⟨by decide +kernel, rfl⟩
theorem dc_J6_numberOfTrailingZeros_0f7a4_13 : Dc miJ6_numberOfTrailingZeros_0f7a4 13 (.bipush 32) 2 15 := ⟨by decide +kernel, rfl⟩
theorem dc_J6_numberOfTrailingZeros_0f7a4_15 : Dc miJ6_numberOfTrailingZeros_0f7a4 15 (.iand) 1 16 := ⟨by decide +kernel, rfl⟩
theorem dc_J6_numberOfTrailingZeros_0f7a4_16 : Dc miJ6_numberOfTrailingZeros_0f7a4 16 (.ireturn) 1 17 := ⟨by decide +kernel, rfl⟩
theorem dc_J6_numberOfTrailingZeros_0f7a4_17 : Dc miJ6_numberOfTrailingZeros_0f7a4 17 (.iconst 1) 1 18 := ⟨by decide +kernel, rfl⟩
theorem dc_J6_numberOfTrailingZeros_0f7a4_18 : Dc miJ6_numberOfTrailingZeros_0f7a4 18 (.istore_n 1) 1 19 := ⟨by decide +kernel, rfl⟩
theorem dc_J6_numberOfTrailingZeros_0f7a4_19 : Dc miJ6_numberOfTrailingZeros_0f7a4 19 (.iload_n 0) 1 20 := ⟨by decide +kernel, rfl⟩
theorem dc_J6_numberOfTrailingZeros_0f7a4_20 : Dc miJ6_numberOfTrailingZeros_0f7a4 20 (.ldc_w 264) 3 23 := ⟨by decide +kernel, rfl⟩
theorem dc_J6_numberOfTrailingZeros_0f7a4_23 : Dc miJ6_numberOfTrailingZeros_0f7a4 23 (.if_icmp .le 11) 3 26 := ⟨by decide +kernel, rfl⟩
theorem dc_J6_numberOfTrailingZeros_0f7a4_26 : Dc miJ6_numberOfTrailingZeros_0f7a4 26 (.iinc 1 16) 3 29 := ⟨by decide +kernel, rfl⟩
theorem dc_J6_numberOfTrailingZeros_0f7a4_29 : Dc miJ6_numberOfTrailingZeros_0f7a4 29 (.iload_n 0) 1 30 := ⟨by decide +kernel, rfl⟩
theorem dc_J6_numberOfTrailingZeros_0f7a4_30 : Dc miJ6_numberOfTrailingZeros_0f7a4 30 (.bipush 16) 2 32 := ⟨by decide +kernel, rfl⟩
theorem dc_J6_numberOfTrailingZeros_0f7a4_32 : Dc miJ6_numberOfTrailingZeros_0f7a4 32 (.iushr) 1 33 := ⟨by decide +kernel, rfl⟩
theorem dc_J6_numberOfTrailingZeros_0f7a4_33 : Dc miJ6_numberOfTrailingZeros_0f7a4 33 (.istore_n 0) 1 34 := ⟨by decide +kernel, rfl⟩
theorem dc_J6_numberOfTrailingZeros_0f7a4_34 : Dc miJ6_numberOfTrailingZeros_0f7a4 34 (.iload_n 0) 1 35 := ⟨by decide +kernel, rfl⟩
theorem dc_J6_numberOfTrailingZeros_0f7a4_35 : Dc miJ6_numberOfTrailingZeros_0f7a4 35 (.sipush 256) 3 38 := ⟨by decide +kernel, rfl⟩
theorem dc_J6_numberOfTrailingZeros_0f7a4_38 : Dc miJ6_numberOfTrailingZeros_0f7a4 38 (.if_icmp .le 11) 3 41 := ⟨by decide +kernel, rfl⟩
theorem dc_J6_numberOfTrailingZeros_0f7a4_41 : Dc miJ6_numberOfTrailingZeros_0f7a4 41 (.iinc 1 8) 3 44 := ⟨by decide +kernel, rfl⟩
theorem dc_J6_numberOfTrailingZeros_0f7a4_44 : Dc miJ6_numberOfTrailingZeros_0f7a4 44 (.iload_n 0) 1 45 := ⟨by decide +kernel, rfl⟩
theorem dc_J6_numberOfTrailingZeros_0f7a4_45 : Dc miJ6_numberOfTrailingZeros_0f7a4 45 (.bipush 8) 2 47 := ⟨by decide +kernel, rfl⟩
theorem dc_J6_numberOfTrailingZeros_0f7a4_47 : Dc miJ6_numberOfTrailingZeros_0f7a4 47 (.iushr) 1 48 := ⟨by decide +kernel, rfl⟩
theorem dc_J6_numberOfTrailingZeros_0f7a4_48 : Dc miJ6_numberOfTrailingZeros_0f7a4 48 (.istore_n 0) 1 49 := ⟨by decide +kernel, rfl⟩
theorem dc_J6_numberOfTrailingZeros_0f7a4_49 : Dc miJ6_numberOfTrailingZeros_0f7a4 49 (.iload_n 0) 1 50 := ⟨by decide +kernel, rfl⟩
theorem dc_J6_numberOfTrailingZeros_0f7a4_50 : Dc miJ6_numberOfTrailingZeros_0f7a4 50 (.bipush 16) 2 52 := ⟨by decide +kernel, rfl⟩
theorem dc_J6_numberOfTrailingZeros_0f7a4_52 : Dc miJ6_numberOfTrailingZeros_0f7a4 52 (.if_icmp .le 10) 3 55 := ⟨by decide +kernel, rfl⟩
theorem dc_J6_numberOfTrailingZeros_0f7a4_55 : Dc miJ6_numberOfTrailingZeros_0f7a4 55 (.iinc 1 4) 3 58 := ⟨by decide +kernel, rfl⟩
theorem dc_J6_numberOfTrailingZeros_0f7a4_58 : Dc miJ6_numberOfTrailingZeros_0f7a4 58 (.iload_n 0) 1 59 := ⟨by decide +kernel, rfl⟩
theorem dc_J6_numberOfTrailingZeros_0f7a4_59 : Dc miJ6_numberOfTrailingZeros_0f7a4 59 (.iconst 4) 1 60 := ⟨by decide +kernel, rfl⟩
theorem dc_J6_numberOfTrailingZeros_0f7a4_60 : Dc miJ6_numberOfTrailingZeros_0f7a4 60 (.iushr) 1 61 := ⟨by decide +kernel, rfl⟩
theorem dc_J6_numberOfTrailingZeros_0f7a4_61 : Dc miJ6_numberOfTrailingZeros_0f7a4 61 (.istore_n 0) 1 62 := ⟨by decide +kernel, rfl⟩
theorem dc_J6_numberOfTrailingZeros_0f7a4_62 : Dc miJ6_numberOfTrailingZeros_0f7a4 62 (.iload_n 0) 1 63 := ⟨by decide +kernel, rfl⟩
theorem dc_J6_numberOfTrailingZeros_0f7a4_63 : Dc miJ6_numberOfTrailingZeros_0f7a4 63 (.iconst 4) 1 64 := ⟨by decide +kernel, rfl⟩
theorem dc_J6_numberOfTrailingZeros_0f7a4_64 : Dc miJ6_numberOfTrailingZeros_0f7a4 64 (.if_icmp .le 10) 3 67 := ⟨by decide +kernel, rfl⟩
theorem dc_J6_numberOfTrailingZeros_0f7a4_67 : Dc miJ6_numberOfTrailingZeros_0f7a4 67 (.iinc 1 2) 3 70 := ⟨by decide +kernel, rfl⟩
theorem dc_J6_numberOfTrailingZeros_0f7a4_70 : Dc miJ6_numberOfTrailingZeros_0f7a4 70 (.iload_n 0) 1 71 := ⟨by decide +kernel, rfl⟩
theorem dc_J6_numberOfTrailingZeros_0f7a4_71 : Dc miJ6_numberOfTrailingZeros_0f7a4 71 (.iconst 2) 1 72 := ⟨by decide +kernel, rfl⟩
theorem dc_J6_numberOfTrailingZeros_0f7a4_72 : Dc miJ6_numberOfTrailingZeros_0f7a4 72 (.iushr) 1 73 := ⟨by decide +kernel, rfl⟩
theorem dc_J6_numberOfTrailingZeros_0f7a4_73 : Dc miJ6_numberOfTrailingZeros_0f7a4 73 (.istore_n 0) 1 74 := ⟨by decide +kernel, rfl⟩
theorem dc_J6_numberOfTrailingZeros_0f7a4_74 : Dc miJ6_numberOfTrailingZeros_0f7a4 74 (.iload_n 1) 1 75 := ⟨by decide +kernel, rfl⟩
theorem dc_J6_numberOfTrailingZeros_0f7a4_75 : Dc miJ6_numberOfTrailingZeros_0f7a4 75 (.iload_n 0) 1 76 := ⟨by decide +kernel, rfl⟩
theorem dc_J6_numberOfTrailingZeros_0f7a4_76 : Dc miJ6_numberOfTrailingZeros_0f7a4 76 (.iconst 1) 1 77 := ⟨by decide +kernel, rfl⟩
theorem dc_J6_numberOfTrailingZeros_0f7a4_77 : Dc miJ6_numberOfTrailingZeros_0f7a4 77 (.iushr) 1 78 := ⟨by decide +kernel, rfl⟩
theorem dc_J6_numberOfTrailingZeros_0f7a4_78 : Dc miJ6_numberOfTrailingZeros_0f7a4 78 (.iadd) 1 79 := ⟨by decide +kernel, rfl⟩
theorem dc_J6_numberOfTrailingZeros_0f7a4_79 : Dc miJ6_numberOfTrailingZeros_0f7a4 79 (.ireturn) 1 80 := ⟨by decide +kernel, rfl⟩
def fJ6_numberOfTrailingZeros_0f7a4_b74 (N : Nat) (G : pG) (x0 : Int32) (x1 : Int32) (σ : pS) : Option (Int32) := some (x1 + (jushr x0 (1 : Int32)))
set_option maxRecDepth 100000 in
set_option maxHeartbeats 4000000 in
theorem tJ6_numberOfTrailingZeros_0f7a4_b74 {N : Nat} {G : pG} {SK : Nat → Nat} {x0 : Int32} {x1 : Int32} {σ : pS} {r : Int32} (hW : WT G) (h : fJ6_numberOfTrailingZeros_0f7a4_b74 N G x0 x1 σ = some r) : Ev miJ6_numberOfTrailingZeros_0f7a4 (1, 0, 0) G (Zp G (some (.int r)) σ) SK (0, 0) 74 [some (.int x0), some (.int x1)] [] σ := by
  unfold fJ6_numberOfTrailingZeros_0f7a4_b74 at h
  refine ev_iload_n dc_J6_numberOfTrailingZeros_0f7a4_74 rfl ?_
  refine ev_iload_n dc_J6_numberOfTrailingZeros_0f7a4_75 rfl ?_
  refine ev_iconst (v := 1) dc_J6_numberOfTrailingZeros_0f7a4_76 (by decide) ?_
  refine ev_iushr dc_J6_numberOfTrailingZeros_0f7a4_77 ?_
  refine ev_iadd dc_J6_numberOfTrailingZeros_0f7a4_78 ?_
  cases h
  exact ev_iret dc_J6_numberOfTrailingZeros_0f7a4_79 rfl rfl rfl
def fJ6_numberOfTrailingZeros_0f7a4_b62 (N : Nat) (G : pG) (x0 : Int32) (x1 : Int32) (σ : pS) : Option (Int32) := if x0 ≤ (4 : Int32) then (fJ6_numberOfTrailingZeros_0f7a4_b74 N G x0 x1 σ) else (fJ6_numberOfTrailingZeros_0f7a4_b74 N G (jushr x0 (2 : Int32)) (x1 + (2 : Int32)) σ)
set_option maxRecDepth 100000 in
set_option maxHeartbeats 4000000 in
theorem tJ6_numberOfTrailingZeros_0f7a4_b62 {N : Nat} {G : pG} {SK : Nat → Nat} {x0 : Int32} {x1 : Int32} {σ : pS} {r : Int32} (hW : WT G) (h : fJ6_numberOfTrailingZeros_0f7a4_b62 N G x0 x1 σ = some r) : Ev miJ6_numberOfTrailingZeros_0f7a4 (1, 0, 0) G (Zp G (some (.int r)) σ) SK (0, 0) 62 [some (.int x0), some (.int x1)] [] σ := by
  unfold fJ6_numberOfTrailingZeros_0f7a4_b62 at h
  refine ev_iload_n dc_J6_numberOfTrailingZeros_0f7a4_62 rfl ?_
  refine ev_iconst (v := 4) dc_J6_numberOfTrailingZeros_0f7a4_63 (by decide) ?_
  refine ev_icmp_le (tgt := 74) dc_J6_numberOfTrailingZeros_0f7a4_64 (by decide) h (fun h => ?_) (fun h => ?_)
  · exact ev_sub (tJ6_numberOfTrailingZeros_0f7a4_b74 hW h) (And.intro rfl (And.intro rfl trivial))
  · refine ev_iinc (v := 2) (lv' := [some (.int x0), some (.int (x1 + (2 : Int32)))]) dc_J6_numberOfTrailingZeros_0f7a4_67 rfl (by decide) rfl (by decide) rfl ?_
    refine ev_iload_n dc_J6_numberOfTrailingZeros_0f7a4_70 rfl ?_
    refine ev_iconst (v := 2) dc_J6_numberOfTrailingZeros_0f7a4_71 (by decide) ?_
    refine ev_iushr dc_J6_numberOfTrailingZeros_0f7a4_72 ?_
    refine ev_istore_n (lv' := [some (.int (jushr x0 (2 : Int32))), some (.int (x1 + (2 : Int32)))]) dc_J6_numberOfTrailingZeros_0f7a4_73 rfl (by decide) rfl ?_
    exact ev_sub (tJ6_numberOfTrailingZeros_0f7a4_b74 hW h) (And.intro rfl (And.intro rfl trivial))
def fJ6_numberOfTrailingZeros_0f7a4_b49 (N : Nat) (G : pG) (x0 : Int32) (x1 : Int32) (σ : pS) : Option (Int32) := if x0 ≤ (16 : Int32) then (fJ6_numberOfTrailingZeros_0f7a4_b62 N G x0 x1 σ) else (fJ6_numberOfTrailingZeros_0f7a4_b62 N G (jushr x0 (4 : Int32)) (x1 + (4 : Int32)) σ)
set_option maxRecDepth 100000 in
set_option maxHeartbeats 4000000 in
theorem tJ6_numberOfTrailingZeros_0f7a4_b49 {N : Nat} {G : pG} {SK : Nat → Nat} {x0 : Int32} {x1 : Int32} {σ : pS} {r : Int32} (hW : WT G) (h : fJ6_numberOfTrailingZeros_0f7a4_b49 N G x0 x1 σ = some r) : Ev miJ6_numberOfTrailingZeros_0f7a4 (1, 0, 0) G (Zp G (some (.int r)) σ) SK (0, 0) 49 [some (.int x0), some (.int x1)] [] σ := by
  unfold fJ6_numberOfTrailingZeros_0f7a4_b49 at h
  refine ev_iload_n dc_J6_numberOfTrailingZeros_0f7a4_49 rfl ?_
  refine ev_bipush (v := 16) dc_J6_numberOfTrailingZeros_0f7a4_50 (by decide) ?_
  refine ev_icmp_le (tgt := 62) dc_J6_numberOfTrailingZeros_0f7a4_52 (by decide) h (fun h => ?_) (fun h => ?_)
  · exact ev_sub (tJ6_numberOfTrailingZeros_0f7a4_b62 hW h) (And.intro rfl (And.intro rfl trivial))
  · refine ev_iinc (v := 4) (lv' := [some (.int x0), some (.int (x1 + (4 : Int32)))]) dc_J6_numberOfTrailingZeros_0f7a4_55 rfl (by decide) rfl (by decide) rfl ?_
    refine ev_iload_n dc_J6_numberOfTrailingZeros_0f7a4_58 rfl ?_
    refine ev_iconst (v := 4) dc_J6_numberOfTrailingZeros_0f7a4_59 (by decide) ?_
    refine ev_iushr dc_J6_numberOfTrailingZeros_0f7a4_60 ?_
    refine ev_istore_n (lv' := [some (.int (jushr x0 (4 : Int32))), some (.int (x1 + (4 : Int32)))]) dc_J6_numberOfTrailingZeros_0f7a4_61 rfl (by decide) rfl ?_
    exact ev_sub (tJ6_numberOfTrailingZeros_0f7a4_b62 hW h) (And.intro rfl (And.intro rfl trivial))
def fJ6_numberOfTrailingZeros_0f7a4_b34 (N : Nat) (G : pG) (x0 : Int32) (x1 : Int32) (σ : pS) : Option (Int32) := if x0 ≤ (256 : Int32) then (fJ6_numberOfTrailingZeros_0f7a4_b49 N G x0 x1 σ) else (fJ6_numberOfTrailingZeros_0f7a4_b49 N G (jushr x0 (8 : Int32)) (x1 + (8 : Int32)) σ)
set_option maxRecDepth 100000 in
set_option maxHeartbeats 4000000 in
theorem tJ6_numberOfTrailingZeros_0f7a4_b34 {N : Nat} {G : pG} {SK : Nat → Nat} {x0 : Int32} {x1 : Int32} {σ : pS} {r : Int32} (hW : WT G) (h : fJ6_numberOfTrailingZeros_0f7a4_b34 N G x0 x1 σ = some r) : Ev miJ6_numberOfTrailingZeros_0f7a4 (1, 0, 0) G (Zp G (some (.int r)) σ) SK (0, 0) 34 [some (.int x0), some (.int x1)] [] σ := by
  unfold fJ6_numberOfTrailingZeros_0f7a4_b34 at h
  refine ev_iload_n dc_J6_numberOfTrailingZeros_0f7a4_34 rfl ?_
  refine ev_sipush (v := 256) dc_J6_numberOfTrailingZeros_0f7a4_35 (by decide) ?_
  refine ev_icmp_le (tgt := 49) dc_J6_numberOfTrailingZeros_0f7a4_38 (by decide) h (fun h => ?_) (fun h => ?_)
  · exact ev_sub (tJ6_numberOfTrailingZeros_0f7a4_b49 hW h) (And.intro rfl (And.intro rfl trivial))
  · refine ev_iinc (v := 8) (lv' := [some (.int x0), some (.int (x1 + (8 : Int32)))]) dc_J6_numberOfTrailingZeros_0f7a4_41 rfl (by decide) rfl (by decide) rfl ?_
    refine ev_iload_n dc_J6_numberOfTrailingZeros_0f7a4_44 rfl ?_
    refine ev_bipush (v := 8) dc_J6_numberOfTrailingZeros_0f7a4_45 (by decide) ?_
    refine ev_iushr dc_J6_numberOfTrailingZeros_0f7a4_47 ?_
    refine ev_istore_n (lv' := [some (.int (jushr x0 (8 : Int32))), some (.int (x1 + (8 : Int32)))]) dc_J6_numberOfTrailingZeros_0f7a4_48 rfl (by decide) rfl ?_
    exact ev_sub (tJ6_numberOfTrailingZeros_0f7a4_b49 hW h) (And.intro rfl (And.intro rfl trivial))
def fJ6_numberOfTrailingZeros_0f7a4 (N : Nat) (G : pG) (a0 : Int32) (σ : pS) : Option (Int32) := if 0 < ((a0 ^^^ (-1 : Int32)) &&& (a0 - (1 : Int32))) then (if ((a0 ^^^ (-1 : Int32)) &&& (a0 - (1 : Int32))) ≤ (65536 : Int32) then (fJ6_numberOfTrailingZeros_0f7a4_b34 N G ((a0 ^^^ (-1 : Int32)) &&& (a0 - (1 : Int32))) (1 : Int32) σ) else (fJ6_numberOfTrailingZeros_0f7a4_b34 N G (jushr ((a0 ^^^ (-1 : Int32)) &&& (a0 - (1 : Int32))) (16 : Int32)) ((1 : Int32) + (16 : Int32)) σ)) else (some (((a0 ^^^ (-1 : Int32)) &&& (a0 - (1 : Int32))) &&& (32 : Int32)))
set_option maxRecDepth 100000 in
set_option maxHeartbeats 4000000 in
theorem tJ6_numberOfTrailingZeros_0f7a4 {N : Nat} {G : pG} {SK : Nat → Nat} {a0 : Int32} {σ : pS} {r : Int32} (hW : WT G) (h : fJ6_numberOfTrailingZeros_0f7a4 N G a0 σ = some r) : Dn miJ6_numberOfTrailingZeros_0f7a4 yJ6_numberOfTrailingZeros_0f7a4 1 G SK [.int a0] σ (some (.int r)) σ := by
  unfold fJ6_numberOfTrailingZeros_0f7a4 at h
  refine dn_of (lv := [some (.int a0), none]) (by decide) rfl rfl (Nat.le_of_ble_eq_true rfl) rfl ?_
  refine ev_iload_n dc_J6_numberOfTrailingZeros_0f7a4_0 rfl ?_
  refine ev_iconst (v := (-1)) dc_J6_numberOfTrailingZeros_0f7a4_1 (by decide) ?_
  refine ev_ixor dc_J6_numberOfTrailingZeros_0f7a4_2 ?_
  refine ev_iload_n dc_J6_numberOfTrailingZeros_0f7a4_3 rfl ?_
  refine ev_iconst (v := 1) dc_J6_numberOfTrailingZeros_0f7a4_4 (by decide) ?_
  refine ev_isub dc_J6_numberOfTrailingZeros_0f7a4_5 ?_
  refine ev_iand dc_J6_numberOfTrailingZeros_0f7a4_6 ?_
  refine ev_istore_n (lv' := [some (.int ((a0 ^^^ (-1 : Int32)) &&& (a0 - (1 : Int32)))), none]) dc_J6_numberOfTrailingZeros_0f7a4_7 rfl (by decide) rfl ?_
  refine ev_iload_n dc_J6_numberOfTrailingZeros_0f7a4_8 rfl ?_
  refine ev_if_gt (tgt := 17) dc_J6_numberOfTrailingZeros_0f7a4_9 (by decide) h (fun h => ?_) (fun h => ?_)
  · refine ev_iconst (v := 1) dc_J6_numberOfTrailingZeros_0f7a4_17 (by decide) ?_
    refine ev_istore_n (lv' := [some (.int ((a0 ^^^ (-1 : Int32)) &&& (a0 - (1 : Int32)))), some (.int (1 : Int32))]) dc_J6_numberOfTrailingZeros_0f7a4_18 rfl (by decide) rfl ?_
    refine ev_iload_n dc_J6_numberOfTrailingZeros_0f7a4_19 rfl ?_
    refine ev_ldcw (v := 65536) dc_J6_numberOfTrailingZeros_0f7a4_20 mw_1689 ?_
    refine ev_icmp_le (tgt := 34) dc_J6_numberOfTrailingZeros_0f7a4_23 (by decide) h (fun h => ?_) (fun h => ?_)
    · exact ev_sub (tJ6_numberOfTrailingZeros_0f7a4_b34 hW h) (And.intro rfl (And.intro rfl trivial))
    · refine ev_iinc (v := 16) (lv' := [some (.int ((a0 ^^^ (-1 : Int32)) &&& (a0 - (1 : Int32)))), some (.int ((1 : Int32) + (16 : Int32)))]) dc_J6_numberOfTrailingZeros_0f7a4_26 rfl (by decide) rfl (by decide) rfl ?_
      refine ev_iload_n dc_J6_numberOfTrailingZeros_0f7a4_29 rfl ?_
      refine ev_bipush (v := 16) dc_J6_numberOfTrailingZeros_0f7a4_30 (by decide) ?_
      refine ev_iushr dc_J6_numberOfTrailingZeros_0f7a4_32 ?_
      refine ev_istore_n (lv' := [some (.int (jushr ((a0 ^^^ (-1 : Int32)) &&& (a0 - (1 : Int32))) (16 : Int32))), some (.int ((1 : Int32) + (16 : Int32)))]) dc_J6_numberOfTrailingZeros_0f7a4_33 rfl (by decide) rfl ?_
      exact ev_sub (tJ6_numberOfTrailingZeros_0f7a4_b34 hW h) (And.intro rfl (And.intro rfl trivial))
  · refine ev_iload_n dc_J6_numberOfTrailingZeros_0f7a4_12 rfl ?_
    refine ev_bipush (v := 32) dc_J6_numberOfTrailingZeros_0f7a4_13 (by decide) ?_
    refine ev_iand dc_J6_numberOfTrailingZeros_0f7a4_15 ?_
    cases h
    exact ev_iret dc_J6_numberOfTrailingZeros_0f7a4_16 rfl rfl rfl
theorem dc_X2_add_0 : Dc miX2_add 0 (.aload_n 0) 1 1 := ⟨by decide +kernel, rfl⟩
theorem dc_X2_add_1 : Dc miX2_add 1 (.aload_n 0) 1 2 := ⟨by decide +kernel, rfl⟩
theorem dc_X2_add_2 : Dc miX2_add 2 (.getfield 15) 3 5 := ⟨by decide +kernel, rfl⟩
theorem dc_X2_add_5 : Dc miX2_add 5 (.iconst 1) 1 6 := ⟨by decide +kernel, rfl⟩
theorem dc_X2_add_6 : Dc miX2_add 6 (.iadd) 1 7 := ⟨by decide +kernel, rfl⟩
theorem dc_X2_add_7 : Dc miX2_add 7 (.bipush 60) 2 9 := ⟨by decide +kernel, rfl⟩
theorem dc_X2_add_9 : Dc miX2_add 9 (.if_icmp .ge 12) 3 12 := ⟨by decide +kernel, rfl⟩
theorem dc_X2_add_12 : Dc miX2_add 12 (.aload_n 0) 1 13 := ⟨by decide +kernel, rfl⟩
theorem dc_X2_add_13 : Dc miX2_add 13 (.getfield 15) 3 16 := ⟨by decide +kernel, rfl⟩
theorem dc_X2_add_16 : Dc miX2_add 16 (.iconst 1) 1 17 := ⟨by decide +kernel, rfl⟩
theorem dc_X2_add_17 : Dc miX2_add 17 (.iadd) 1 18 := ⟨by decide +kernel, rfl⟩
theorem dc_X2_add_18 : Dc miX2_add 18 (.goto 4) 3 21 := ⟨by decide +kernel, rfl⟩
theorem dc_X2_add_21 : Dc miX2_add 21 (.iconst 0) 1 22 := ⟨by decide +kernel, rfl⟩
theorem dc_X2_add_22 : Dc miX2_add 22 (.putfield 15) 3 25 := ⟨by decide +kernel, rfl⟩
theorem dc_X2_add_25 : Dc miX2_add 25 (.aload_n 0) 1 26 := ⟨by decide +kernel, rfl⟩
theorem dc_X2_add_26 : Dc miX2_add 26 (.aload_n 0) 1 27 := ⟨by decide +kernel, rfl⟩
theorem dc_X2_add_27 : Dc miX2_add 27 (.getfield 9) 3 30 := ⟨by decide +kernel, rfl⟩
theorem dc_X2_add_30 : Dc miX2_add 30 (.bipush 60) 2 32 := ⟨by decide +kernel, rfl⟩
theorem dc_X2_add_32 : Dc miX2_add 32 (.if_icmp .ge 12) 3 35 := ⟨by decide +kernel, rfl⟩
theorem dc_X2_add_35 : Dc miX2_add 35 (.aload_n 0) 1 36 := ⟨by decide +kernel, rfl⟩
theorem dc_X2_add_36 : Dc miX2_add 36 (.getfield 9) 3 39 := ⟨by decide +kernel, rfl⟩
theorem dc_X2_add_39 : Dc miX2_add 39 (.iconst 1) 1 40 := ⟨by decide +kernel, rfl⟩
theorem dc_X2_add_40 : Dc miX2_add 40 (.iadd) 1 41 := ⟨by decide +kernel, rfl⟩
theorem dc_X2_add_41 : Dc miX2_add 41 (.goto 5) 3 44 := ⟨by decide +kernel, rfl⟩
theorem dc_X2_add_44 : Dc miX2_add 44 (.bipush 60) 2 46 := ⟨by decide +kernel, rfl⟩
theorem dc_X2_add_46 : Dc miX2_add 46 (.putfield 9) 3 49 := ⟨by decide +kernel, rfl⟩
theorem dc_X2_add_49 : Dc miX2_add 49 (.aload_n 0) 1 50 := ⟨by decide +kernel, rfl⟩
theorem dc_X2_add_50 : Dc miX2_add 50 (.getfield 15) 3 53 := ⟨by decide +kernel, rfl⟩
theorem dc_X2_add_53 : Dc miX2_add 53 (.ifCond .lt 53) 3 56 := ⟨by decide +kernel, rfl⟩
theorem dc_X2_add_56 : Dc miX2_add 56 (.aload_n 0) 1 57 := ⟨by decide +kernel, rfl⟩
theorem dc_X2_add_57 : Dc miX2_add 57 (.getfield 15) 3 60 := ⟨by decide +kernel, rfl⟩
theorem dc_X2_add_60 : Dc miX2_add 60 (.bipush 60) 2 62 := ⟨by decide +kernel, rfl⟩
theorem dc_X2_add_62 : Dc miX2_add 62 (.if_icmp .ge 44) 3 65 := ⟨by decide +kernel, rfl⟩
theorem dc_X2_add_65 : Dc miX2_add 65 (.aload_n 0) 1 66 := ⟨by decide +kernel, rfl⟩
theorem dc_X2_add_66 : Dc miX2_add 66 (.getfield 18) 3 69 := ⟨by decide +kernel, rfl⟩
theorem dc_X2_add_69 : Dc miX2_add 69 (.aload_n 0) 1 70 := ⟨by decide +kernel, rfl⟩
theorem dc_X2_add_70 : Dc miX2_add 70 (.getfield 15) 3 73 := ⟨by decide +kernel, rfl⟩
theorem dc_X2_add_73 : Dc miX2_add 73 (.aload_n 1) 1 74 := ⟨by decide +kernel, rfl⟩
theorem dc_X2_add_74 : Dc miX2_add 74 (.getfield 28) 3 77 := ⟨by decide +kernel, rfl⟩
theorem dc_X2_add_77 : Dc miX2_add 77 (.bipush 17) 2 79 := ⟨by decide +kernel, rfl⟩
theorem dc_X2_add_79 : Dc miX2_add 79 (.ishl) 1 80 := ⟨by decide +kernel, rfl⟩
theorem dc_X2_add_80 : Dc miX2_add 80 (.iload_n 2) 1 81 := ⟨by decide +kernel, rfl⟩
theorem dc_X2_add_81 : Dc miX2_add 81 (.bipush 14) 2 83 := ⟨by decide +kernel, rfl⟩
theorem dc_X2_add_83 : Dc miX2_add 83 (.ishl) 1 84 := ⟨by decide +kernel, rfl⟩
theorem dc_X2_add_84 : Dc miX2_add 84 (.ior) 1 85 := ⟨by decide +kernel, rfl⟩
theorem dc_X2_add_85 : Dc miX2_add 85 (.iload_n 3) 1 86 := ⟨by decide +kernel, rfl⟩
theorem dc_X2_add_86 : Dc miX2_add 86 (.bipush 11) 2 88 := ⟨by decide +kernel, rfl⟩
theorem dc_X2_add_88 : Dc miX2_add 88 (.ishl) 1 89 := ⟨by decide +kernel, rfl⟩
theorem dc_X2_add_89 : Dc miX2_add 89 (.ior) 1 90 := ⟨by decide +kernel, rfl⟩
theorem dc_X2_add_90 : Dc miX2_add 90 (.aload_n 1) 1 91 := ⟨by decide +kernel, rfl⟩
theorem dc_X2_add_91 : Dc miX2_add 91 (.getfield 33) 3 94 := ⟨by decide +kernel, rfl⟩
theorem dc_X2_add_94 : Dc miX2_add 94 (.iconst 4) 1 95 := ⟨by decide +kernel, rfl⟩
theorem dc_X2_add_95 : Dc miX2_add 95 (.ishl) 1 96 := ⟨by decide +kernel, rfl⟩
theorem dc_X2_add_96 : Dc miX2_add 96 (.ior) 1 97 := ⟨by decide +kernel, rfl⟩
theorem dc_X2_add_97 : Dc miX2_add 97 (.aload_n 1) 1 98 := ⟨by decide +kernel, rfl⟩
theorem dc_X2_add_98 : Dc miX2_add 98 (.getfield 36) 3 101 := ⟨by decide +kernel, rfl⟩
theorem dc_X2_add_101 : Dc miX2_add 101 (.invokestatic 39) 3 104 := ⟨by decide +kernel, rfl⟩
theorem dc_X2_add_104 : Dc miX2_add 104 (.ior) 1 105 := ⟨by decide +kernel, rfl⟩
theorem dc_X2_add_105 : Dc miX2_add 105 (.iastore) 1 106 := ⟨by decide +kernel, rfl⟩
theorem dc_X2_add_106 : Dc miX2_add 106 (.return_) 1 107 := ⟨by decide +kernel, rfl⟩
def fX2_add_b46 (N : Nat) (G : pG) (a0 : Nat) (a1 : Nat) (a2 : Int32) (a3 : Int32) (y1 : Int32) (σ : pS) : Option (pS) := if ((putF σ a0 0 y1).1 a0 1) < 0 then (some (putF σ a0 0 y1)) else (if (60 : Int32) ≤ ((putF σ a0 0 y1).1 a0 1) then (some (putF σ a0 0 y1)) else ((fJ6_bitCount_0f7a4 N G ((putF σ a0 0 y1).1 a1 3) (putF σ a0 0 y1)).bind (fun q1 => ck (inB ((putF σ a0 0 y1).1 a0 1) (pN G (pR G a0 2))) (some (sA (putF σ a0 0 y1) (pR G a0 2) ((putF σ a0 0 y1).1 a0 1) (((((((putF σ a0 0 y1).1 a1 1) <<< ((17 : Int32) &&& 31)) ||| (a2 <<< ((14 : Int32) &&& 31))) ||| (a3 <<< ((11 : Int32) &&& 31))) ||| (((putF σ a0 0 y1).1 a1 0) <<< ((4 : Int32) &&& 31))) ||| q1))))))
set_option maxRecDepth 100000 in
set_option maxHeartbeats 4000000 in
theorem tX2_add_b46 {N : Nat} {G : pG} {SK : Nat → Nat} {a0 : Nat} {a1 : Nat} {a2 : Int32} {a3 : Int32} {y1 : Int32} {σ : pS} {r : pS} (hW : WT G) (i0 : Is G a0 2) (i1 : Is G a1 3) (h : fX2_add_b46 N G a0 a1 a2 a3 y1 σ = some r) : Ev miX2_add (2, 0, 0) G (Zp G none r) SK (0, 0) 46 [some (.ref a0), some (.ref a1), some (.int a2), some (.int a3)] [.int y1, .ref a0] σ := by
  unfold fX2_add_b46 at h
  refine ev_putI dc_X2_add_46 fi_X2_9 rfl i0 ?_
  refine ev_aload_n dc_X2_add_49 rfl ?_
  refine ev_getI dc_X2_add_50 fi_X2_15 rfl i0 ?_
  refine ev_if_lt (tgt := 106) dc_X2_add_53 (by decide) h (fun h => ?_) (fun h => ?_)
  · cases h
    exact ev_vret dc_X2_add_106 rfl rfl rfl
  · refine ev_aload_n dc_X2_add_56 rfl ?_
    refine ev_getI dc_X2_add_57 fi_X2_15 rfl i0 ?_
    refine ev_bipush (v := 60) dc_X2_add_60 (by decide) ?_
    refine ev_icmp_ge (tgt := 106) dc_X2_add_62 (by decide) h (fun h => ?_) (fun h => ?_)
    · cases h
      exact ev_vret dc_X2_add_106 rfl rfl rfl
    · refine ev_aload_n dc_X2_add_65 rfl ?_
      refine ev_getR dc_X2_add_66 fi_X2_18 rfl i0 ?_
      refine ev_aload_n dc_X2_add_69 rfl ?_
      refine ev_getI dc_X2_add_70 fi_X2_15 rfl i0 ?_
      refine ev_aload_n dc_X2_add_73 rfl ?_
      refine ev_getI dc_X2_add_74 fi_X2_28 rfl i1 ?_
      refine ev_bipush (v := 17) dc_X2_add_77 (by decide) ?_
      refine ev_ishl dc_X2_add_79 ?_
      refine ev_iload_n dc_X2_add_80 rfl ?_
      refine ev_bipush (v := 14) dc_X2_add_81 (by decide) ?_
      refine ev_ishl dc_X2_add_83 ?_
      refine ev_ior dc_X2_add_84 ?_
      refine ev_iload_n dc_X2_add_85 rfl ?_
      refine ev_bipush (v := 11) dc_X2_add_86 (by decide) ?_
      refine ev_ishl dc_X2_add_88 ?_
      refine ev_ior dc_X2_add_89 ?_
      refine ev_aload_n dc_X2_add_90 rfl ?_
      refine ev_getI dc_X2_add_91 fi_X2_33 rfl i1 ?_
      refine ev_iconst (v := 4) dc_X2_add_94 (by decide) ?_
      refine ev_ishl dc_X2_add_95 ?_
      refine ev_ior dc_X2_add_96 ?_
      refine ev_aload_n dc_X2_add_97 rfl ?_
      refine ev_getI dc_X2_add_98 fi_X2_36 rfl i1 ?_
      obtain ⟨q1, hq1, h⟩ := Option.bind_eq_some_iff.mp h
      refine ev_callS (av := [.int ((putF σ a0 0 y1).1 a1 3)]) (st := [.int ((((((putF σ a0 0 y1).1 a1 1) <<< ((17 : Int32) &&& 31)) ||| (a2 <<< ((14 : Int32) &&& 31))) ||| (a3 <<< ((11 : Int32) &&& 31))) ||| (((putF σ a0 0 y1).1 a1 0) <<< ((4 : Int32) &&& 31))), .int ((putF σ a0 0 y1).1 a0 1), .ref (pR G a0 2)]) (st1 := [.int q1, .int ((((((putF σ a0 0 y1).1 a1 1) <<< ((17 : Int32) &&& 31)) ||| (a2 <<< ((14 : Int32) &&& 31))) ||| (a3 <<< ((11 : Int32) &&& 31))) ||| (((putF σ a0 0 y1).1 a1 0) <<< ((4 : Int32) &&& 31))), .int ((putF σ a0 0 y1).1 a0 1), .ref (pR G a0 2)]) dc_X2_add_101 (tJ6_bitCount_0f7a4 hW hq1) mw_1171 cs_J6_bitCount_0f7a4 rfl rfl rfl (Nat.le_of_ble_eq_true rfl) (Nat.le_of_ble_eq_true rfl) ⟨Nat.le_refl _, Nat.le_refl _⟩ ?_
      refine ev_ior dc_X2_add_104 ?_
      refine ev_iast dc_X2_add_105 (wt hW i0 2 rfl rfl) h (fun h => ?_)
      cases h
      exact ev_vret dc_X2_add_106 rfl rfl rfl
def fX2_add_b22 (N : Nat) (G : pG) (a0 : Nat) (a1 : Nat) (a2 : Int32) (a3 : Int32) (y1 : Int32) (σ : pS) : Option (pS) := if (60 : Int32) ≤ ((putF σ a0 1 y1).1 a0 0) then (fX2_add_b46 N G a0 a1 a2 a3 (60 : Int32) (putF σ a0 1 y1)) else (fX2_add_b46 N G a0 a1 a2 a3 (((putF σ a0 1 y1).1 a0 0) + (1 : Int32)) (putF σ a0 1 y1))
set_option maxRecDepth 100000 in
set_option maxHeartbeats 4000000 in
theorem tX2_add_b22 {N : Nat} {G : pG} {SK : Nat → Nat} {a0 : Nat} {a1 : Nat} {a2 : Int32} {a3 : Int32} {y1 : Int32} {σ : pS} {r : pS} (hW : WT G) (i0 : Is G a0 2) (i1 : Is G a1 3) (h : fX2_add_b22 N G a0 a1 a2 a3 y1 σ = some r) : Ev miX2_add (2, 0, 0) G (Zp G none r) SK (0, 0) 22 [some (.ref a0), some (.ref a1), some (.int a2), some (.int a3)] [.int y1, .ref a0] σ := by
  unfold fX2_add_b22 at h
  refine ev_putI dc_X2_add_22 fi_X2_15 rfl i0 ?_
  refine ev_aload_n dc_X2_add_25 rfl ?_
  refine ev_aload_n dc_X2_add_26 rfl ?_
  refine ev_getI dc_X2_add_27 fi_X2_9 rfl i0 ?_
  refine ev_bipush (v := 60) dc_X2_add_30 (by decide) ?_
  refine ev_icmp_ge (tgt := 44) dc_X2_add_32 (by decide) h (fun h => ?_) (fun h => ?_)
  · refine ev_bipush (v := 60) dc_X2_add_44 (by decide) ?_
    exact ev_sub (tX2_add_b46 hW i0 i1 h) (And.intro rfl (And.intro rfl (And.intro rfl (And.intro rfl trivial))))
  · refine ev_aload_n dc_X2_add_35 rfl ?_
    refine ev_getI dc_X2_add_36 fi_X2_9 rfl i0 ?_
    refine ev_iconst (v := 1) dc_X2_add_39 (by decide) ?_
    refine ev_iadd dc_X2_add_40 ?_
    refine ev_goto (tgt := 46) dc_X2_add_41 (by decide) ?_
    exact ev_sub (tX2_add_b46 hW i0 i1 h) (And.intro rfl (And.intro rfl (And.intro rfl (And.intro rfl trivial))))
def fX2_add (N : Nat) (G : pG) (a0 : Nat) (a1 : Nat) (a2 : Int32) (a3 : Int32) (σ : pS) : Option (pS) := if (60 : Int32) ≤ ((σ.1 a0 1) + (1 : Int32)) then (fX2_add_b22 N G a0 a1 a2 a3 (0 : Int32) σ) else (fX2_add_b22 N G a0 a1 a2 a3 ((σ.1 a0 1) + (1 : Int32)) σ)
set_option maxRecDepth 100000 in
set_option maxHeartbeats 4000000 in
theorem tX2_add {N : Nat} {G : pG} {SK : Nat → Nat} {a0 : Nat} {a1 : Nat} {a2 : Int32} {a3 : Int32} {σ : pS} {r : pS} (hW : WT G) (i0 : Is G a0 2) (i1 : Is G a1 3) (h : fX2_add N G a0 a1 a2 a3 σ = some r) : Dn miX2_add yX2_add 2 G SK [.ref a0, .ref a1, .int a2, .int a3] σ none r := by
  unfold fX2_add at h
  refine dn_of (lv := [some (.ref a0), some (.ref a1), some (.int a2), some (.int a3)]) (by decide) rfl rfl (Nat.le_of_ble_eq_true rfl) rfl ?_
  refine ev_aload_n dc_X2_add_0 rfl ?_
  refine ev_aload_n dc_X2_add_1 rfl ?_
  refine ev_getI dc_X2_add_2 fi_X2_15 rfl i0 ?_
  refine ev_iconst (v := 1) dc_X2_add_5 (by decide) ?_
  refine ev_iadd dc_X2_add_6 ?_
  refine ev_bipush (v := 60) dc_X2_add_7 (by decide) ?_
  refine ev_icmp_ge (tgt := 21) dc_X2_add_9 (by decide) h (fun h => ?_) (fun h => ?_)
  · refine ev_iconst (v := 0) dc_X2_add_21 (by decide) ?_
    exact ev_sub (tX2_add_b22 hW i0 i1 h) (And.intro rfl (And.intro rfl (And.intro rfl (And.intro rfl trivial))))
  · refine ev_aload_n dc_X2_add_12 rfl ?_
    refine ev_getI dc_X2_add_13 fi_X2_15 rfl i0 ?_
    refine ev_iconst (v := 1) dc_X2_add_16 (by decide) ?_
    refine ev_iadd dc_X2_add_17 ?_
    refine ev_goto (tgt := 22) dc_X2_add_18 (by decide) ?_
    exact ev_sub (tX2_add_b22 hW i0 i1 h) (And.intro rfl (And.intro rfl (And.intro rfl (And.intro rfl trivial))))
theorem dc_X2_copyFrom_0 : Dc miX2_copyFrom 0 (.aload_n 0) 1 1 := ⟨by decide +kernel, rfl⟩
theorem dc_X2_copyFrom_1 : Dc miX2_copyFrom 1 (.aload_n 1) 1 2 := ⟨by decide +kernel, rfl⟩
theorem dc_X2_copyFrom_2 : Dc miX2_copyFrom 2 (.getfield 9) 3 5 := ⟨by decide +kernel, rfl⟩
theorem dc_X2_copyFrom_5 : Dc miX2_copyFrom 5 (.putfield 9) 3 8 := ⟨by decide +kernel, rfl⟩
theorem dc_X2_copyFrom_8 : Dc miX2_copyFrom 8 (.aload_n 0) 1 9 := ⟨by decide +kernel, rfl⟩
theorem dc_X2_copyFrom_9 : Dc miX2_copyFrom 9 (.aload_n 1) 1 10 := ⟨by decide +kernel, rfl⟩
theorem dc_X2_copyFrom_10 : Dc miX2_copyFrom 10 (.getfield 15) 3 13 := ⟨by decide +kernel, rfl⟩
theorem dc_X2_copyFrom_13 : Dc miX2_copyFrom 13 (.putfield 15) 3 16 := ⟨by decide +kernel, rfl⟩
theorem dc_X2_copyFrom_16 : Dc miX2_copyFrom 16 (.aload_n 1) 1 17 := ⟨by decide +kernel, rfl⟩
theorem dc_X2_copyFrom_17 : Dc miX2_copyFrom 17 (.getfield 18) 3 20 := ⟨by decide +kernel, rfl⟩
theorem dc_X2_copyFrom_20 : Dc miX2_copyFrom 20 (.iconst 0) 1 21 := ⟨by decide +kernel, rfl⟩
theorem dc_X2_copyFrom_21 : Dc miX2_copyFrom 21 (.aload_n 0) 1 22 := ⟨by decide +kernel, rfl⟩
theorem dc_X2_copyFrom_22 : Dc miX2_copyFrom 22 (.getfield 18) 3 25 := ⟨by decide +kernel, rfl⟩
theorem dc_X2_copyFrom_25 : Dc miX2_copyFrom 25 (.iconst 0) 1 26 := ⟨by decide +kernel, rfl⟩
theorem dc_X2_copyFrom_26 : Dc miX2_copyFrom 26 (.bipush 60) 2 28 := ⟨by decide +kernel, rfl⟩
theorem dc_X2_copyFrom_28 : Dc miX2_copyFrom 28 (.invokestatic 22) 3 31 := ⟨by decide +kernel, rfl⟩
theorem dc_X2_copyFrom_31 : Dc miX2_copyFrom 31 (.return_) 1 32 := ⟨by decide +kernel, rfl⟩
def fX2_copyFrom (N : Nat) (G : pG) (a0 : Nat) (a1 : Nat) (σ : pS) : Option (pS) := ck (cpB (0 : Int32) (0 : Int32) (60 : Int32) (pN G (pR G a1 2)) (pN G (pR G a0 2))) (some (cpA (putF (putF σ a0 0 (σ.1 a1 0)) a0 1 ((putF σ a0 0 (σ.1 a1 0)).1 a1 1)) (pR G a1 2) (0 : Int32) (pR G a0 2) (0 : Int32) (60 : Int32)))
set_option maxRecDepth 100000 in
set_option maxHeartbeats 4000000 in
theorem tX2_copyFrom {N : Nat} {G : pG} {SK : Nat → Nat} {a0 : Nat} {a1 : Nat} {σ : pS} {r : pS} (hW : WT G) (i0 : Is G a0 2) (i1 : Is G a1 2) (h : fX2_copyFrom N G a0 a1 σ = some r) : Dn miX2_copyFrom yX2_copyFrom 1 G SK [.ref a0, .ref a1] σ none r := by
  unfold fX2_copyFrom at h
  refine dn_of (lv := [some (.ref a0), some (.ref a1)]) (by decide) rfl rfl (Nat.le_of_ble_eq_true rfl) rfl ?_
  refine ev_aload_n dc_X2_copyFrom_0 rfl ?_
  refine ev_aload_n dc_X2_copyFrom_1 rfl ?_
  refine ev_getI dc_X2_copyFrom_2 fi_X2_9 rfl i1 ?_
  refine ev_putI dc_X2_copyFrom_5 fi_X2_9 rfl i0 ?_
  refine ev_aload_n dc_X2_copyFrom_8 rfl ?_
  refine ev_aload_n dc_X2_copyFrom_9 rfl ?_
  refine ev_getI dc_X2_copyFrom_10 fi_X2_15 rfl i1 ?_
  refine ev_putI dc_X2_copyFrom_13 fi_X2_15 rfl i0 ?_
  refine ev_aload_n dc_X2_copyFrom_16 rfl ?_
  refine ev_getR dc_X2_copyFrom_17 fi_X2_18 rfl i1 ?_
  refine ev_iconst (v := 0) dc_X2_copyFrom_20 (by decide) ?_
  refine ev_aload_n dc_X2_copyFrom_21 rfl ?_
  refine ev_getR dc_X2_copyFrom_22 fi_X2_18 rfl i0 ?_
  refine ev_iconst (v := 0) dc_X2_copyFrom_25 (by decide) ?_
  refine ev_bipush (v := 60) dc_X2_copyFrom_26 (by decide) ?_
  refine ev_cpI dc_X2_copyFrom_28 mw_641 (wt hW i1 2 rfl rfl) (wt hW i0 2 rfl rfl) (Nat.le_of_ble_eq_true rfl) (Nat.le_of_ble_eq_true rfl) h (fun h => ?_)
  cases h
  exact ev_vret dc_X2_copyFrom_31 rfl rfl rfl
theorem dc_X11_at_0 : Dc miX11_at 0 (.iload_n 1) 1 1 := ⟨by decide +kernel, rfl⟩
theorem dc_X11_at_1 : Dc miX11_at 1 (.ifCond .lt 15) 3 4 := ⟨by decide +kernel, rfl⟩
theorem dc_X11_at_4 : Dc miX11_at 4 (.iload_n 1) 1 5 := ⟨by decide +kernel, rfl⟩
theorem dc_X11_at_5 : Dc miX11_at 5 (.aload_n 0) 1 6 := ⟨by decide +kernel, rfl⟩
theorem dc_X11_at_6 : Dc miX11_at 6 (.arraylength) 1 7 := ⟨by decide +kernel, rfl⟩
theorem dc_X11_at_7 : Dc miX11_at 7 (.if_icmp .ge 9) 3 10 := ⟨by decide +kernel, rfl⟩
theorem dc_X11_at_10 : Dc miX11_at 10 (.aload_n 0) 1 11 := ⟨by decide +kernel, rfl⟩
theorem dc_X11_at_11 : Dc miX11_at 11 (.iload_n 1) 1 12 := ⟨by decide +kernel, rfl⟩
theorem dc_X11_at_12 : Dc miX11_at 12 (.iaload) 1 13 := ⟨by decide +kernel, rfl⟩
theorem dc_X11_at_13 : Dc miX11_at 13 (.goto 4) 3 16 := ⟨by decide +kernel, rfl⟩
theorem dc_X11_at_16 : Dc miX11_at 16 (.iconst (-1)) 1 17 := ⟨by decide +kernel, rfl⟩
theorem dc_X11_at_17 : Dc miX11_at 17 (.ireturn) 1 18 := ⟨by decide +kernel, rfl⟩
def fX11_at (N : Nat) (G : pG) (a0 : Nat) (a1 : Int32) (σ : pS) : Option (Int32) := if a1 < 0 then (some (-1 : Int32)) else (if (Int32.ofNat (pN G a0)) ≤ a1 then (some (-1 : Int32)) else (ck (inB a1 (pN G a0)) (some (gA σ a0 a1))))
set_option maxRecDepth 100000 in
set_option maxHeartbeats 4000000 in
theorem tX11_at {N : Nat} {G : pG} {SK : Nat → Nat} {a0 : Nat} {a1 : Int32} {σ : pS} {r : Int32} (hW : WT G) (i0 : Is G a0 13) (h : fX11_at N G a0 a1 σ = some r) : Dn miX11_at yX11_at 1 G SK [.ref a0, .int a1] σ (some (.int r)) σ := by
  unfold fX11_at at h
  refine dn_of (lv := [some (.ref a0), some (.int a1)]) (by decide) rfl rfl (Nat.le_of_ble_eq_true rfl) rfl ?_
  refine ev_iload_n dc_X11_at_0 rfl ?_
  refine ev_if_lt (tgt := 16) dc_X11_at_1 (by decide) h (fun h => ?_) (fun h => ?_)
  · refine ev_iconst (v := (-1)) dc_X11_at_16 (by decide) ?_
    cases h
    exact ev_iret dc_X11_at_17 rfl rfl rfl
  · refine ev_iload_n dc_X11_at_4 rfl ?_
    refine ev_aload_n dc_X11_at_5 rfl ?_
    refine ev_alen dc_X11_at_6 i0 (by decide) rfl ?_
    refine ev_icmp_ge (tgt := 16) dc_X11_at_7 (by decide) h (fun h => ?_) (fun h => ?_)
    · refine ev_iconst (v := (-1)) dc_X11_at_16 (by decide) ?_
      cases h
      exact ev_iret dc_X11_at_17 rfl rfl rfl
    · refine ev_aload_n dc_X11_at_10 rfl ?_
      refine ev_iload_n dc_X11_at_11 rfl ?_
      refine ev_iald dc_X11_at_12 i0 h (fun h => ?_)
      refine ev_goto (tgt := 17) dc_X11_at_13 (by decide) ?_
      cases h
      exact ev_iret dc_X11_at_17 rfl rfl rfl
theorem dc_X2_part_0 : Dc miX2_part 0 (.iload_n 1) 1 1 := ⟨by decide +kernel, rfl⟩
theorem dc_X2_part_1 : Dc miX2_part 1 (.ifCond .lt 11) 3 4 := ⟨by decide +kernel, rfl⟩
theorem dc_X2_part_4 : Dc miX2_part 4 (.iload_n 1) 1 5 := ⟨by decide +kernel, rfl⟩
theorem dc_X2_part_5 : Dc miX2_part 5 (.aload_n 0) 1 6 := ⟨by decide +kernel, rfl⟩
theorem dc_X2_part_6 : Dc miX2_part 6 (.getfield 9) 3 9 := ⟨by decide +kernel, rfl⟩
theorem dc_X2_part_9 : Dc miX2_part 9 (.if_icmp .lt 5) 3 12 := ⟨by decide +kernel, rfl⟩
theorem dc_X2_part_12 : Dc miX2_part 12 (.iconst (-1)) 1 13 := ⟨by decide +kernel, rfl⟩
theorem dc_X2_part_13 : Dc miX2_part 13 (.ireturn) 1 14 := ⟨by decide +kernel, rfl⟩
theorem dc_X2_part_14 : Dc miX2_part 14 (.aload_n 0) 1 15 := ⟨by decide +kernel, rfl⟩
theorem dc_X2_part_15 : Dc miX2_part 15 (.getfield 18) 3 18 := ⟨by decide +kernel, rfl⟩
theorem dc_X2_part_18 : Dc miX2_part 18 (.aload_n 0) 1 19 := ⟨by decide +kernel, rfl⟩
theorem dc_X2_part_19 : Dc miX2_part 19 (.getfield 15) 3 22 := ⟨by decide +kernel, rfl⟩
theorem dc_X2_part_22 : Dc miX2_part 22 (.iload_n 1) 1 23 := ⟨by decide +kernel, rfl⟩
theorem dc_X2_part_23 : Dc miX2_part 23 (.if_icmp .lt 12) 3 26 := ⟨by decide +kernel, rfl⟩
theorem dc_X2_part_26 : Dc miX2_part 26 (.aload_n 0) 1 27 := ⟨by decide +kernel, rfl⟩
theorem dc_X2_part_27 : Dc miX2_part 27 (.getfield 15) 3 30 := ⟨by decide +kernel, rfl⟩
theorem dc_X2_part_30 : Dc miX2_part 30 (.iload_n 1) 1 31 := ⟨by decide +kernel, rfl⟩
theorem dc_X2_part_31 : Dc miX2_part 31 (.isub) 1 32 := ⟨by decide +kernel, rfl⟩
theorem dc_X2_part_32 : Dc miX2_part 32 (.goto 12) 3 35 := ⟨by decide +kernel, rfl⟩
theorem dc_X2_part_35 : Dc miX2_part 35 (.aload_n 0) 1 36 := ⟨by decide +kernel, rfl⟩
theorem dc_X2_part_36 : Dc miX2_part 36 (.getfield 15) 3 39 := ⟨by decide +kernel, rfl⟩
theorem dc_X2_part_39 : Dc miX2_part 39 (.iload_n 1) 1 40 := ⟨by decide +kernel, rfl⟩
theorem dc_X2_part_40 : Dc miX2_part 40 (.isub) 1 41 := ⟨by decide +kernel, rfl⟩
theorem dc_X2_part_41 : Dc miX2_part 41 (.bipush 60) 2 43 := ⟨by decide +kernel, rfl⟩
theorem dc_X2_part_43 : Dc miX2_part 43 (.iadd) 1 44 := ⟨by decide +kernel, rfl⟩
theorem dc_X2_part_44 : Dc miX2_part 44 (.invokestatic 45) 3 47 := ⟨by decide +kernel, rfl⟩
theorem dc_X2_part_47 : Dc miX2_part 47 (.istore_n 3) 1 48 := ⟨by decide +kernel, rfl⟩
theorem dc_X2_part_48 : Dc miX2_part 48 (.iload_n 2) 1 49 := ⟨by decide +kernel, rfl⟩
theorem dc_X2_part_49 : Dc miX2_part 49 (.tableswitch 59 0 3 #[31, 36, 44, 52]) 31 80 := ⟨by decide +kernel, rfl⟩
theorem dc_X2_part_80 : Dc miX2_part 80 (.iload_n 3) 1 81 := ⟨by decide +kernel, rfl⟩
theorem dc_X2_part_81 : Dc miX2_part 81 (.bipush 17) 2 83 := ⟨by decide +kernel, rfl⟩
theorem dc_X2_part_83 : Dc miX2_part 83 (.ishr) 1 84 := ⟨by decide +kernel, rfl⟩
theorem dc_X2_part_84 : Dc miX2_part 84 (.ireturn) 1 85 := ⟨by decide +kernel, rfl⟩
theorem dc_X2_part_85 : Dc miX2_part 85 (.iload_n 3) 1 86 := ⟨by decide +kernel, rfl⟩
theorem dc_X2_part_86 : Dc miX2_part 86 (.bipush 14) 2 88 := ⟨by decide +kernel, rfl⟩
theorem dc_X2_part_88 : Dc miX2_part 88 (.ishr) 1 89 := ⟨by decide +kernel, rfl⟩
theorem dc_X2_part_89 : Dc miX2_part 89 (.bipush 7) 2 91 := ⟨by decide +kernel, rfl⟩
theorem dc_X2_part_91 : Dc miX2_part 91 (.iand) 1 92 := ⟨by decide +kernel, rfl⟩
theorem dc_X2_part_92 : Dc miX2_part 92 (.ireturn) 1 93 := ⟨by decide +kernel, rfl⟩
theorem dc_X2_part_93 : Dc miX2_part 93 (.iload_n 3) 1 94 := ⟨by decide +kernel, rfl⟩
theorem dc_X2_part_94 : Dc miX2_part 94 (.bipush 11) 2 96 := ⟨by decide +kernel, rfl⟩
theorem dc_X2_part_96 : Dc miX2_part 96 (.ishr) 1 97 := ⟨by decide +kernel, rfl⟩
theorem dc_X2_part_97 : Dc miX2_part 97 (.bipush 7) 2 99 := ⟨by decide +kernel, rfl⟩
theorem dc_X2_part_99 : Dc miX2_part 99 (.iand) 1 100 := ⟨by decide +kernel, rfl⟩
theorem dc_X2_part_100 : Dc miX2_part 100 (.ireturn) 1 101 := ⟨by decide +kernel, rfl⟩
theorem dc_X2_part_101 : Dc miX2_part 101 (.iload_n 3) 1 102 := ⟨by decide +kernel, rfl⟩
theorem dc_X2_part_102 : Dc miX2_part 102 (.iconst 4) 1 103 := ⟨by decide +kernel, rfl⟩
theorem dc_X2_part_103 : Dc miX2_part 103 (.ishr) 1 104 := ⟨by decide +kernel, rfl⟩
theorem dc_X2_part_104 : Dc miX2_part 104 (.bipush 127) 2 106 := ⟨by decide +kernel, rfl⟩
theorem dc_X2_part_106 : Dc miX2_part 106 (.iand) 1 107 := ⟨by decide +kernel, rfl⟩
theorem dc_X2_part_107 : Dc miX2_part 107 (.ireturn) 1 108 := ⟨by decide +kernel, rfl⟩
theorem dc_X2_part_108 : Dc miX2_part 108 (.iload_n 3) 1 109 := ⟨by decide +kernel, rfl⟩
theorem dc_X2_part_109 : Dc miX2_part 109 (.bipush 15) 2 111 := ⟨by decide +kernel, rfl⟩
theorem dc_X2_part_111 : Dc miX2_part 111 (.iand) 1 112 := ⟨by decide +kernel, rfl⟩
theorem dc_X2_part_112 : Dc miX2_part 112 (.ireturn) 1 113 := ⟨by decide +kernel, rfl⟩
def fX2_part_b44 (N : Nat) (G : pG) (a2 : Int32) (y0 : Nat) (y1 : Int32) (σ : pS) : Option (Int32) := (fX11_at N G y0 y1 σ).bind (fun q1 => if a2 = 0 then (some (q1 >>> ((17 : Int32) &&& 31))) else (if a2 = 1 then (some ((q1 >>> ((14 : Int32) &&& 31)) &&& (7 : Int32))) else (if a2 = 2 then (some ((q1 >>> ((11 : Int32) &&& 31)) &&& (7 : Int32))) else (if a2 = 3 then (some ((q1 >>> ((4 : Int32) &&& 31)) &&& (127 : Int32))) else (some (q1 &&& (15 : Int32)))))))
set_option maxRecDepth 100000 in
set_option maxHeartbeats 4000000 in
theorem tX2_part_b44 {N : Nat} {G : pG} {SK : Nat → Nat} {a2 : Int32} {y0 : Nat} {y1 : Int32} {σ : pS} {r : Int32} (hW : WT G) (w0 : Is G y0 13) (h : fX2_part_b44 N G a2 y0 y1 σ = some r) : Ev miX2_part (2, 0, 0) G (Zp G (some (.int r)) σ) SK (0, 0) 44 [none, none, some (.int a2), none] [.int y1, .ref y0] σ := by
  unfold fX2_part_b44 at h
  obtain ⟨q1, hq1, h⟩ := Option.bind_eq_some_iff.mp h
  refine ev_callN (av := [.ref y0, .int y1]) (st := []) (st1 := [.int q1]) (host := "UnaskedName") dc_X2_part_44 (tX11_at hW w0 hq1) (List.mem_of_getElem? (i := 17) rfl) cs_X11_at rfl rfl rfl (Nat.le_of_ble_eq_true rfl) (Nat.le_of_ble_eq_true rfl) ⟨Nat.le_refl _, Nat.le_refl _⟩ ?_
  refine ev_istore_n (lv' := [none, none, some (.int a2), some (.int q1)]) dc_X2_part_47 rfl (by decide) rfl ?_
  refine ev_iload_n dc_X2_part_48 rfl ?_
  by_cases z0 : a2 = 0
  · rw [if_pos z0] at h
    refine ev_tabIn (tgt := 80) 0 z0 dc_X2_part_49 (by decide) (by decide) rfl (by decide) ?_
    refine ev_iload_n dc_X2_part_80 rfl ?_
    refine ev_bipush (v := 17) dc_X2_part_81 (by decide) ?_
    refine ev_ishr dc_X2_part_83 ?_
    cases h
    exact ev_iret dc_X2_part_84 rfl rfl rfl
  rw [if_neg z0] at h
  by_cases z1 : a2 = 1
  · rw [if_pos z1] at h
    refine ev_tabIn (tgt := 85) 1 z1 dc_X2_part_49 (by decide) (by decide) rfl (by decide) ?_
    refine ev_iload_n dc_X2_part_85 rfl ?_
    refine ev_bipush (v := 14) dc_X2_part_86 (by decide) ?_
    refine ev_ishr dc_X2_part_88 ?_
    refine ev_bipush (v := 7) dc_X2_part_89 (by decide) ?_
    refine ev_iand dc_X2_part_91 ?_
    cases h
    exact ev_iret dc_X2_part_92 rfl rfl rfl
  rw [if_neg z1] at h
  by_cases z2 : a2 = 2
  · rw [if_pos z2] at h
    refine ev_tabIn (tgt := 93) 2 z2 dc_X2_part_49 (by decide) (by decide) rfl (by decide) ?_
    refine ev_iload_n dc_X2_part_93 rfl ?_
    refine ev_bipush (v := 11) dc_X2_part_94 (by decide) ?_
    refine ev_ishr dc_X2_part_96 ?_
    refine ev_bipush (v := 7) dc_X2_part_97 (by decide) ?_
    refine ev_iand dc_X2_part_99 ?_
    cases h
    exact ev_iret dc_X2_part_100 rfl rfl rfl
  rw [if_neg z2] at h
  by_cases z3 : a2 = 3
  · rw [if_pos z3] at h
    refine ev_tabIn (tgt := 101) 3 z3 dc_X2_part_49 (by decide) (by decide) rfl (by decide) ?_
    refine ev_iload_n dc_X2_part_101 rfl ?_
    refine ev_iconst (v := 4) dc_X2_part_102 (by decide) ?_
    refine ev_ishr dc_X2_part_103 ?_
    refine ev_bipush (v := 127) dc_X2_part_104 (by decide) ?_
    refine ev_iand dc_X2_part_106 ?_
    cases h
    exact ev_iret dc_X2_part_107 rfl rfl rfl
  rw [if_neg z3] at h
  refine ev_tabOut (tgt := 108) dc_X2_part_49 ?_ (by decide) ?_
  · exact sw_out (lo := 0) (vs := [0, 1, 2, 3]) (by decide) (by decide) (And.intro z0 (And.intro z1 (And.intro z2 (And.intro z3 trivial))))
  refine ev_iload_n dc_X2_part_108 rfl ?_
  refine ev_bipush (v := 15) dc_X2_part_109 (by decide) ?_
  refine ev_iand dc_X2_part_111 ?_
  cases h
  exact ev_iret dc_X2_part_112 rfl rfl rfl
def fX2_part (N : Nat) (G : pG) (a0 : Nat) (a1 : Int32) (a2 : Int32) (σ : pS) : Option (Int32) := if a1 < 0 then (some (-1 : Int32)) else (if a1 < (σ.1 a0 0) then (if (σ.1 a0 1) < a1 then (fX2_part_b44 N G a2 (pR G a0 2) (((σ.1 a0 1) - a1) + (60 : Int32)) σ) else (fX2_part_b44 N G a2 (pR G a0 2) ((σ.1 a0 1) - a1) σ)) else (some (-1 : Int32)))
set_option maxRecDepth 100000 in
set_option maxHeartbeats 4000000 in
theorem tX2_part {N : Nat} {G : pG} {SK : Nat → Nat} {a0 : Nat} {a1 : Int32} {a2 : Int32} {σ : pS} {r : Int32} (hW : WT G) (i0 : Is G a0 2) (h : fX2_part N G a0 a1 a2 σ = some r) : Dn miX2_part yX2_part 2 G SK [.ref a0, .int a1, .int a2] σ (some (.int r)) σ := by
  unfold fX2_part at h
  refine dn_of (lv := [some (.ref a0), some (.int a1), some (.int a2), none]) (by decide) rfl rfl (Nat.le_of_ble_eq_true rfl) rfl ?_
  refine ev_iload_n dc_X2_part_0 rfl ?_
  refine ev_if_lt (tgt := 12) dc_X2_part_1 (by decide) h (fun h => ?_) (fun h => ?_)
  · refine ev_iconst (v := (-1)) dc_X2_part_12 (by decide) ?_
    cases h
    exact ev_iret dc_X2_part_13 rfl rfl rfl
  · refine ev_iload_n dc_X2_part_4 rfl ?_
    refine ev_aload_n dc_X2_part_5 rfl ?_
    refine ev_getI dc_X2_part_6 fi_X2_9 rfl i0 ?_
    refine ev_icmp_lt (tgt := 14) dc_X2_part_9 (by decide) h (fun h => ?_) (fun h => ?_)
    · refine ev_aload_n dc_X2_part_14 rfl ?_
      refine ev_getR dc_X2_part_15 fi_X2_18 rfl i0 ?_
      refine ev_aload_n dc_X2_part_18 rfl ?_
      refine ev_getI dc_X2_part_19 fi_X2_15 rfl i0 ?_
      refine ev_iload_n dc_X2_part_22 rfl ?_
      refine ev_icmp_lt (tgt := 35) dc_X2_part_23 (by decide) h (fun h => ?_) (fun h => ?_)
      · refine ev_aload_n dc_X2_part_35 rfl ?_
        refine ev_getI dc_X2_part_36 fi_X2_15 rfl i0 ?_
        refine ev_iload_n dc_X2_part_39 rfl ?_
        refine ev_isub dc_X2_part_40 ?_
        refine ev_bipush (v := 60) dc_X2_part_41 (by decide) ?_
        refine ev_iadd dc_X2_part_43 ?_
        exact ev_sub (tX2_part_b44 hW (wt hW i0 2 rfl rfl) h) (And.intro rfl trivial)
      · refine ev_aload_n dc_X2_part_26 rfl ?_
        refine ev_getI dc_X2_part_27 fi_X2_15 rfl i0 ?_
        refine ev_iload_n dc_X2_part_30 rfl ?_
        refine ev_isub dc_X2_part_31 ?_
        refine ev_goto (tgt := 44) dc_X2_part_32 (by decide) ?_
        exact ev_sub (tX2_part_b44 hW (wt hW i0 2 rfl rfl) h) (And.intro rfl trivial)
    · refine ev_iconst (v := (-1)) dc_X2_part_12 (by decide) ?_
      cases h
      exact ev_iret dc_X2_part_13 rfl rfl rfl
theorem dc_X2_recordsOf_0 : Dc miX2_recordsOf 0 (.iconst 0) 1 1 := ⟨by decide +kernel, rfl⟩
theorem dc_X2_recordsOf_1 : Dc miX2_recordsOf 1 (.istore_n 2) 1 2 := ⟨by decide +kernel, rfl⟩
theorem dc_X2_recordsOf_2 : Dc miX2_recordsOf 2 (.iconst (-1)) 1 3 := ⟨by decide +kernel, rfl⟩
theorem dc_X2_recordsOf_3 : Dc miX2_recordsOf 3 (.istore_n 3) 1 4 := ⟨by decide +kernel, rfl⟩
theorem dc_X2_recordsOf_4 : Dc miX2_recordsOf 4 (.aload_n 0) 1 5 := ⟨by decide +kernel, rfl⟩
theorem dc_X2_recordsOf_5 : Dc miX2_recordsOf 5 (.getfield 9) 3 8 := ⟨by decide +kernel, rfl⟩
theorem dc_X2_recordsOf_8 : Dc miX2_recordsOf 8 (.iconst 1) 1 9 := ⟨by decide +kernel, rfl⟩
theorem dc_X2_recordsOf_9 : Dc miX2_recordsOf 9 (.isub) 1 10 := ⟨by decide +kernel, rfl⟩
theorem dc_X2_recordsOf_10 : Dc miX2_recordsOf 10 (.istore 4) 2 12 := ⟨by decide +kernel, rfl⟩
theorem dc_X2_recordsOf_12 : Dc miX2_recordsOf 12 (.iload 4) 2 14 := ⟨by decide +kernel, rfl⟩
theorem dc_X2_recordsOf_14 : Dc miX2_recordsOf 14 (.ifCond .lt 47) 3 17 := ⟨by decide +kernel, rfl⟩
theorem dc_X2_recordsOf_17 : Dc miX2_recordsOf 17 (.aload_n 0) 1 18 := ⟨by decide +kernel, rfl⟩
theorem dc_X2_recordsOf_18 : Dc miX2_recordsOf 18 (.iload 4) 2 20 := ⟨by decide +kernel, rfl⟩
theorem dc_X2_recordsOf_20 : Dc miX2_recordsOf 20 (.iconst 3) 1 21 := ⟨by decide +kernel, rfl⟩
theorem dc_X2_recordsOf_21 : Dc miX2_recordsOf 21 (.invokevirtual 49) 3 24 := ⟨by decide +kernel, rfl⟩
theorem dc_X2_recordsOf_24 : Dc miX2_recordsOf 24 (.iload_n 3) 1 25 := ⟨by decide +kernel, rfl⟩
theorem dc_X2_recordsOf_25 : Dc miX2_recordsOf 25 (.if_icmp .le 30) 3 28 := ⟨by decide +kernel, rfl⟩
theorem dc_X2_recordsOf_28 : Dc miX2_recordsOf 28 (.aload_n 0) 1 29 := ⟨by decide +kernel, rfl⟩
theorem dc_X2_recordsOf_29 : Dc miX2_recordsOf 29 (.iload 4) 2 31 := ⟨by decide +kernel, rfl⟩
theorem dc_X2_recordsOf_31 : Dc miX2_recordsOf 31 (.iconst 3) 1 32 := ⟨by decide +kernel, rfl⟩
theorem dc_X2_recordsOf_32 : Dc miX2_recordsOf 32 (.invokevirtual 49) 3 35 := ⟨by decide +kernel, rfl⟩
theorem dc_X2_recordsOf_35 : Dc miX2_recordsOf 35 (.istore_n 3) 1 36 := ⟨by decide +kernel, rfl⟩
theorem dc_X2_recordsOf_36 : Dc miX2_recordsOf 36 (.iload_n 2) 1 37 := ⟨by decide +kernel, rfl⟩
theorem dc_X2_recordsOf_37 : Dc miX2_recordsOf 37 (.aload_n 0) 1 38 := ⟨by decide +kernel, rfl⟩
theorem dc_X2_recordsOf_38 : Dc miX2_recordsOf 38 (.iload 4) 2 40 := ⟨by decide +kernel, rfl⟩
theorem dc_X2_recordsOf_40 : Dc miX2_recordsOf 40 (.iconst 1) 1 41 := ⟨by decide +kernel, rfl⟩
theorem dc_X2_recordsOf_41 : Dc miX2_recordsOf 41 (.invokevirtual 49) 3 44 := ⟨by decide +kernel, rfl⟩
theorem dc_X2_recordsOf_44 : Dc miX2_recordsOf 44 (.iload_n 1) 1 45 := ⟨by decide +kernel, rfl⟩
theorem dc_X2_recordsOf_45 : Dc miX2_recordsOf 45 (.if_icmp .ne 7) 3 48 := ⟨by decide +kernel, rfl⟩
theorem dc_X2_recordsOf_48 : Dc miX2_recordsOf 48 (.iconst 1) 1 49 := ⟨by decide +kernel, rfl⟩
theorem dc_X2_recordsOf_49 : Dc miX2_recordsOf 49 (.goto 4) 3 52 := ⟨by decide +kernel, rfl⟩
theorem dc_X2_recordsOf_52 : Dc miX2_recordsOf 52 (.iconst 0) 1 53 := ⟨by decide +kernel, rfl⟩
theorem dc_X2_recordsOf_53 : Dc miX2_recordsOf 53 (.iadd) 1 54 := ⟨by decide +kernel, rfl⟩
theorem dc_X2_recordsOf_54 : Dc miX2_recordsOf 54 (.istore_n 2) 1 55 := ⟨by decide +kernel, rfl⟩
theorem dc_X2_recordsOf_55 : Dc miX2_recordsOf 55 (.iinc 4 (-1)) 3 58 := ⟨by decide +kernel, rfl⟩
theorem dc_X2_recordsOf_58 : Dc miX2_recordsOf 58 (.goto (-46)) 3 61 := ⟨by decide +kernel, rfl⟩
theorem dc_X2_recordsOf_61 : Dc miX2_recordsOf 61 (.iload_n 2) 1 62 := ⟨by decide +kernel, rfl⟩
theorem dc_X2_recordsOf_62 : Dc miX2_recordsOf 62 (.ireturn) 1 63 := ⟨by decide +kernel, rfl⟩
def fX2_recordsOf_b12 (N : Nat) (G : pG) (a0 : Nat) (a1 : Int32) (σ : pS) : (Int32 × Int32 × Int32) → Option (Int32) := lp (fun (k12 : Int32 × Int32 × Int32 → Option (Int32)) (b : Int32 × Int32 × Int32) => if b.2.2 < 0 then (some b.1) else ((fX2_part N G a0 b.2.2 (3 : Int32) σ).bind (fun q1 => if q1 ≤ b.2.1 then (k12 (b.1, b.2.1, b.2.2 + (-1 : Int32))) else ((fX2_part N G a0 b.2.2 (3 : Int32) σ).bind (fun q2 => (fX2_part N G a0 b.2.2 (1 : Int32) σ).bind (fun q3 => if q3 = a1 then (k12 (b.1 + (1 : Int32), q2, b.2.2 + (-1 : Int32))) else (k12 (b.1 + (0 : Int32), q2, b.2.2 + (-1 : Int32))))))))) N
set_option maxRecDepth 100000 in
set_option maxHeartbeats 4000000 in
theorem tX2_recordsOf_b12 {N : Nat} {G : pG} {SK : Nat → Nat} {a0 : Nat} {a1 : Int32} {σ : pS} {b : Int32 × Int32 × Int32} {r : Int32} (hW : WT G) (i0 : Is G a0 2) (h : fX2_recordsOf_b12 N G a0 a1 σ b = some r) : Ev miX2_recordsOf (3, 0, 0) G (Zp G (some (.int r)) σ) SK (0, 0) 12 [some (.ref a0), some (.int a1), some (.int b.1), some (.int b.2.1), some (.int b.2.2)] [] σ := by
  unfold fX2_recordsOf_b12 at h
  refine lp_ind (P := fun b r9 => r9 = r → Ev miX2_recordsOf (3, 0, 0) G (Zp G (some (.int r)) σ) SK (0, 0) 12 [some (.ref a0), some (.int a1), some (.int b.1), some (.int b.2.1), some (.int b.2.2)] [] σ) (fun k12 b r9 ih h9 e9 => ?_) N b r h rfl
  clear h
  subst e9
  have h := h9
  clear h9
  have hk12 : ∀ b : Int32 × Int32 × Int32, k12 b = some r9 → Ev miX2_recordsOf (3, 0, 0) G (Zp G (some (.int r9)) σ) SK (0, 0) 12 [some (.ref a0), some (.int a1), some (.int b.1), some (.int b.2.1), some (.int b.2.2)] [] σ := fun b hb => ih b r9 hb rfl
  clear ih
  obtain ⟨x2, x3, x4⟩ := b
  dsimp only at h ⊢
  refine ev_iload dc_X2_recordsOf_12 rfl ?_
  refine ev_if_lt (tgt := 61) dc_X2_recordsOf_14 (by decide) h (fun h => ?_) (fun h => ?_)
  · refine ev_iload_n dc_X2_recordsOf_61 rfl ?_
    cases h
    exact ev_iret dc_X2_recordsOf_62 rfl rfl rfl
  · refine ev_aload_n dc_X2_recordsOf_17 rfl ?_
    refine ev_iload dc_X2_recordsOf_18 rfl ?_
    refine ev_iconst (v := 3) dc_X2_recordsOf_20 (by decide) ?_
    obtain ⟨q1, hq1, h⟩ := Option.bind_eq_some_iff.mp h
    refine ev_callV (av := [.int x4, .int (3 : Int32)]) (st := []) (st1 := [.int q1]) dc_X2_recordsOf_21 (tX2_part hW i0 hq1) mw_597 cy_X2_part i0 (by decide) rfl rfl rfl rfl (Nat.le_of_ble_eq_true rfl) (Nat.le_of_ble_eq_true rfl) ⟨Nat.le_refl _, Nat.le_refl _⟩ ?_
    refine ev_iload_n dc_X2_recordsOf_24 rfl ?_
    refine ev_icmp_le (tgt := 55) dc_X2_recordsOf_25 (by decide) h (fun h => ?_) (fun h => ?_)
    · refine ev_iinc (v := (-1)) (lv' := [some (.ref a0), some (.int a1), some (.int x2), some (.int x3), some (.int (x4 + (-1 : Int32)))]) dc_X2_recordsOf_55 rfl (by decide) rfl (by decide) rfl ?_
      refine ev_goto (tgt := 12) dc_X2_recordsOf_58 (by decide) ?_
      exact ev_sub (hk12 (x2, x3, x4 + (-1 : Int32)) h) (And.intro rfl (And.intro rfl (And.intro rfl (And.intro rfl (And.intro rfl trivial)))))
    · refine ev_aload_n dc_X2_recordsOf_28 rfl ?_
      refine ev_iload dc_X2_recordsOf_29 rfl ?_
      refine ev_iconst (v := 3) dc_X2_recordsOf_31 (by decide) ?_
      obtain ⟨q2, hq2, h⟩ := Option.bind_eq_some_iff.mp h
      refine ev_callV (av := [.int x4, .int (3 : Int32)]) (st := []) (st1 := [.int q2]) dc_X2_recordsOf_32 (tX2_part hW i0 hq2) mw_597 cy_X2_part i0 (by decide) rfl rfl rfl rfl (Nat.le_of_ble_eq_true rfl) (Nat.le_of_ble_eq_true rfl) ⟨Nat.le_refl _, Nat.le_refl _⟩ ?_
      refine ev_istore_n (lv' := [some (.ref a0), some (.int a1), some (.int x2), some (.int q2), some (.int x4)]) dc_X2_recordsOf_35 rfl (by decide) rfl ?_
      refine ev_iload_n dc_X2_recordsOf_36 rfl ?_
      refine ev_aload_n dc_X2_recordsOf_37 rfl ?_
      refine ev_iload dc_X2_recordsOf_38 rfl ?_
      refine ev_iconst (v := 1) dc_X2_recordsOf_40 (by decide) ?_
      obtain ⟨q3, hq3, h⟩ := Option.bind_eq_some_iff.mp h
      refine ev_callV (av := [.int x4, .int (1 : Int32)]) (st := [.int x2]) (st1 := [.int q3, .int x2]) dc_X2_recordsOf_41 (tX2_part hW i0 hq3) mw_597 cy_X2_part i0 (by decide) rfl rfl rfl rfl (Nat.le_of_ble_eq_true rfl) (Nat.le_of_ble_eq_true rfl) ⟨Nat.le_refl _, Nat.le_refl _⟩ ?_
      refine ev_iload_n dc_X2_recordsOf_44 rfl ?_
      refine ev_icmp_ne (tgt := 52) dc_X2_recordsOf_45 (by decide) h (fun h => ?_) (fun h => ?_)
      · refine ev_iconst (v := 1) dc_X2_recordsOf_48 (by decide) ?_
        refine ev_goto (tgt := 53) dc_X2_recordsOf_49 (by decide) ?_
        refine ev_iadd dc_X2_recordsOf_53 ?_
        refine ev_istore_n (lv' := [some (.ref a0), some (.int a1), some (.int (x2 + (1 : Int32))), some (.int q2), some (.int x4)]) dc_X2_recordsOf_54 rfl (by decide) rfl ?_
        refine ev_iinc (v := (-1)) (lv' := [some (.ref a0), some (.int a1), some (.int (x2 + (1 : Int32))), some (.int q2), some (.int (x4 + (-1 : Int32)))]) dc_X2_recordsOf_55 rfl (by decide) rfl (by decide) rfl ?_
        refine ev_goto (tgt := 12) dc_X2_recordsOf_58 (by decide) ?_
        exact ev_sub (hk12 (x2 + (1 : Int32), q2, x4 + (-1 : Int32)) h) (And.intro rfl (And.intro rfl (And.intro rfl (And.intro rfl (And.intro rfl trivial)))))
      · refine ev_iconst (v := 0) dc_X2_recordsOf_52 (by decide) ?_
        refine ev_iadd dc_X2_recordsOf_53 ?_
        refine ev_istore_n (lv' := [some (.ref a0), some (.int a1), some (.int (x2 + (0 : Int32))), some (.int q2), some (.int x4)]) dc_X2_recordsOf_54 rfl (by decide) rfl ?_
        refine ev_iinc (v := (-1)) (lv' := [some (.ref a0), some (.int a1), some (.int (x2 + (0 : Int32))), some (.int q2), some (.int (x4 + (-1 : Int32)))]) dc_X2_recordsOf_55 rfl (by decide) rfl (by decide) rfl ?_
        refine ev_goto (tgt := 12) dc_X2_recordsOf_58 (by decide) ?_
        exact ev_sub (hk12 (x2 + (0 : Int32), q2, x4 + (-1 : Int32)) h) (And.intro rfl (And.intro rfl (And.intro rfl (And.intro rfl (And.intro rfl trivial)))))
def fX2_recordsOf (N : Nat) (G : pG) (a0 : Nat) (a1 : Int32) (σ : pS) : Option (Int32) := fX2_recordsOf_b12 N G a0 a1 σ ((0 : Int32), (-1 : Int32), (σ.1 a0 0) - (1 : Int32))
set_option maxRecDepth 100000 in
set_option maxHeartbeats 4000000 in
theorem tX2_recordsOf {N : Nat} {G : pG} {SK : Nat → Nat} {a0 : Nat} {a1 : Int32} {σ : pS} {r : Int32} (hW : WT G) (i0 : Is G a0 2) (h : fX2_recordsOf N G a0 a1 σ = some r) : Dn miX2_recordsOf yX2_recordsOf 3 G SK [.ref a0, .int a1] σ (some (.int r)) σ := by
  unfold fX2_recordsOf at h
  refine dn_of (lv := [some (.ref a0), some (.int a1), none, none, none]) (by decide) rfl rfl (Nat.le_of_ble_eq_true rfl) rfl ?_
  refine ev_iconst (v := 0) dc_X2_recordsOf_0 (by decide) ?_
  refine ev_istore_n (lv' := [some (.ref a0), some (.int a1), some (.int (0 : Int32)), none, none]) dc_X2_recordsOf_1 rfl (by decide) rfl ?_
  refine ev_iconst (v := (-1)) dc_X2_recordsOf_2 (by decide) ?_
  refine ev_istore_n (lv' := [some (.ref a0), some (.int a1), some (.int (0 : Int32)), some (.int (-1 : Int32)), none]) dc_X2_recordsOf_3 rfl (by decide) rfl ?_
  refine ev_aload_n dc_X2_recordsOf_4 rfl ?_
  refine ev_getI dc_X2_recordsOf_5 fi_X2_9 rfl i0 ?_
  refine ev_iconst (v := 1) dc_X2_recordsOf_8 (by decide) ?_
  refine ev_isub dc_X2_recordsOf_9 ?_
  refine ev_istore (lv' := [some (.ref a0), some (.int a1), some (.int (0 : Int32)), some (.int (-1 : Int32)), some (.int ((σ.1 a0 0) - (1 : Int32)))]) dc_X2_recordsOf_10 rfl (by decide) rfl ?_
  exact ev_sub (tX2_recordsOf_b12 (b := ((0 : Int32), (-1 : Int32), (σ.1 a0 0) - (1 : Int32))) hW i0 h) (And.intro rfl (And.intro rfl (And.intro rfl (And.intro rfl (And.intro rfl trivial)))))
theorem dc_X2_rowsOf_0 : Dc miX2_rowsOf 0 (.iconst 0) 1 1 := ⟨by decide +kernel, rfl⟩
theorem dc_X2_rowsOf_1 : Dc miX2_rowsOf 1 (.istore_n 3) 1 2 := ⟨by decide +kernel, rfl⟩
theorem dc_X2_rowsOf_2 : Dc miX2_rowsOf 2 (.iconst 0) 1 3 := ⟨by decide +kernel, rfl⟩
theorem dc_X2_rowsOf_3 : Dc miX2_rowsOf 3 (.istore 4) 2 5 := ⟨by decide +kernel, rfl⟩
theorem dc_X2_rowsOf_5 : Dc miX2_rowsOf 5 (.iload 4) 2 7 := ⟨by decide +kernel, rfl⟩
theorem dc_X2_rowsOf_7 : Dc miX2_rowsOf 7 (.aload_n 0) 1 8 := ⟨by decide +kernel, rfl⟩
theorem dc_X2_rowsOf_8 : Dc miX2_rowsOf 8 (.getfield 9) 3 11 := ⟨by decide +kernel, rfl⟩
theorem dc_X2_rowsOf_11 : Dc miX2_rowsOf 11 (.if_icmp .ge 56) 3 14 := ⟨by decide +kernel, rfl⟩
theorem dc_X2_rowsOf_14 : Dc miX2_rowsOf 14 (.aload_n 0) 1 15 := ⟨by decide +kernel, rfl⟩
theorem dc_X2_rowsOf_15 : Dc miX2_rowsOf 15 (.iload 4) 2 17 := ⟨by decide +kernel, rfl⟩
theorem dc_X2_rowsOf_17 : Dc miX2_rowsOf 17 (.iconst 1) 1 18 := ⟨by decide +kernel, rfl⟩
theorem dc_X2_rowsOf_18 : Dc miX2_rowsOf 18 (.invokevirtual 49) 3 21 := ⟨by decide +kernel, rfl⟩
theorem dc_X2_rowsOf_21 : Dc miX2_rowsOf 21 (.iload_n 1) 1 22 := ⟨by decide +kernel, rfl⟩
theorem dc_X2_rowsOf_22 : Dc miX2_rowsOf 22 (.if_icmp .ne 23) 3 25 := ⟨by decide +kernel, rfl⟩
theorem dc_X2_rowsOf_25 : Dc miX2_rowsOf 25 (.iload_n 2) 1 26 := ⟨by decide +kernel, rfl⟩
theorem dc_X2_rowsOf_26 : Dc miX2_rowsOf 26 (.iconst (-1)) 1 27 := ⟨by decide +kernel, rfl⟩
theorem dc_X2_rowsOf_27 : Dc miX2_rowsOf 27 (.if_icmp .eq 14) 3 30 := ⟨by decide +kernel, rfl⟩
theorem dc_X2_rowsOf_30 : Dc miX2_rowsOf 30 (.aload_n 0) 1 31 := ⟨by decide +kernel, rfl⟩
theorem dc_X2_rowsOf_31 : Dc miX2_rowsOf 31 (.iload 4) 2 33 := ⟨by decide +kernel, rfl⟩
theorem dc_X2_rowsOf_33 : Dc miX2_rowsOf 33 (.iconst 2) 1 34 := ⟨by decide +kernel, rfl⟩
theorem dc_X2_rowsOf_34 : Dc miX2_rowsOf 34 (.invokevirtual 49) 3 37 := ⟨by decide +kernel, rfl⟩
theorem dc_X2_rowsOf_37 : Dc miX2_rowsOf 37 (.iload_n 2) 1 38 := ⟨by decide +kernel, rfl⟩
theorem dc_X2_rowsOf_38 : Dc miX2_rowsOf 38 (.if_icmp .ne 7) 3 41 := ⟨by decide +kernel, rfl⟩
theorem dc_X2_rowsOf_41 : Dc miX2_rowsOf 41 (.iconst 1) 1 42 := ⟨by decide +kernel, rfl⟩
theorem dc_X2_rowsOf_42 : Dc miX2_rowsOf 42 (.goto 4) 3 45 := ⟨by decide +kernel, rfl⟩
theorem dc_X2_rowsOf_45 : Dc miX2_rowsOf 45 (.iconst 0) 1 46 := ⟨by decide +kernel, rfl⟩
theorem dc_X2_rowsOf_46 : Dc miX2_rowsOf 46 (.istore 5) 2 48 := ⟨by decide +kernel, rfl⟩
theorem dc_X2_rowsOf_48 : Dc miX2_rowsOf 48 (.iload_n 3) 1 49 := ⟨by decide +kernel, rfl⟩
theorem dc_X2_rowsOf_49 : Dc miX2_rowsOf 49 (.iload 5) 2 51 := ⟨by decide +kernel, rfl⟩
theorem dc_X2_rowsOf_51 : Dc miX2_rowsOf 51 (.ifCond .eq 7) 3 54 := ⟨by decide +kernel, rfl⟩
theorem dc_X2_rowsOf_54 : Dc miX2_rowsOf 54 (.iconst 1) 1 55 := ⟨by decide +kernel, rfl⟩
theorem dc_X2_rowsOf_55 : Dc miX2_rowsOf 55 (.goto 4) 3 58 := ⟨by decide +kernel, rfl⟩
theorem dc_X2_rowsOf_58 : Dc miX2_rowsOf 58 (.iconst 0) 1 59 := ⟨by decide +kernel, rfl⟩
theorem dc_X2_rowsOf_59 : Dc miX2_rowsOf 59 (.iadd) 1 60 := ⟨by decide +kernel, rfl⟩
theorem dc_X2_rowsOf_60 : Dc miX2_rowsOf 60 (.istore_n 3) 1 61 := ⟨by decide +kernel, rfl⟩
theorem dc_X2_rowsOf_61 : Dc miX2_rowsOf 61 (.iinc 4 1) 3 64 := ⟨by decide +kernel, rfl⟩
theorem dc_X2_rowsOf_64 : Dc miX2_rowsOf 64 (.goto (-59)) 3 67 := ⟨by decide +kernel, rfl⟩
theorem dc_X2_rowsOf_67 : Dc miX2_rowsOf 67 (.iload_n 3) 1 68 := ⟨by decide +kernel, rfl⟩
theorem dc_X2_rowsOf_68 : Dc miX2_rowsOf 68 (.ireturn) 1 69 := ⟨by decide +kernel, rfl⟩
def fX2_rowsOf_b46 (N : Nat) (G : pG) (k5 : Int32 × Int32 → Option (Int32)) (a0 : Nat) (a1 : Int32) (a2 : Int32) (x3 : Int32) (x4 : Int32) (y0 : Int32) (σ : pS) : Option (Int32) := if y0 = 0 then (k5 (x3 + (0 : Int32), x4 + (1 : Int32))) else (k5 (x3 + (1 : Int32), x4 + (1 : Int32)))
set_option maxRecDepth 100000 in
set_option maxHeartbeats 4000000 in
theorem tX2_rowsOf_b46 {N : Nat} {G : pG} {SK : Nat → Nat} {k5 : Int32 × Int32 → Option (Int32)} {a0 : Nat} {a1 : Int32} {a2 : Int32} {x3 : Int32} {x4 : Int32} {y0 : Int32} {σ : pS} {r : Int32} (hW : WT G) (i0 : Is G a0 2) (hk5 : ∀ b : Int32 × Int32, k5 b = some r → Ev miX2_rowsOf (3, 0, 0) G (Zp G (some (.int r)) σ) SK (0, 0) 5 [some (.ref a0), some (.int a1), some (.int a2), some (.int b.1), some (.int b.2), none] [] σ) (h : fX2_rowsOf_b46 N G k5 a0 a1 a2 x3 x4 y0 σ = some r) : Ev miX2_rowsOf (3, 0, 0) G (Zp G (some (.int r)) σ) SK (0, 0) 46 [some (.ref a0), some (.int a1), some (.int a2), some (.int x3), some (.int x4), none] [.int y0] σ := by
  unfold fX2_rowsOf_b46 at h
  refine ev_istore (lv' := [some (.ref a0), some (.int a1), some (.int a2), some (.int x3), some (.int x4), some (.int y0)]) dc_X2_rowsOf_46 rfl (by decide) rfl ?_
  refine ev_iload_n dc_X2_rowsOf_48 rfl ?_
  refine ev_iload dc_X2_rowsOf_49 rfl ?_
  refine ev_if_eq (tgt := 58) dc_X2_rowsOf_51 (by decide) h (fun h => ?_) (fun h => ?_)
  · refine ev_iconst (v := 0) dc_X2_rowsOf_58 (by decide) ?_
    refine ev_iadd dc_X2_rowsOf_59 ?_
    refine ev_istore_n (lv' := [some (.ref a0), some (.int a1), some (.int a2), some (.int (x3 + (0 : Int32))), some (.int x4), some (.int y0)]) dc_X2_rowsOf_60 rfl (by decide) rfl ?_
    refine ev_iinc (v := 1) (lv' := [some (.ref a0), some (.int a1), some (.int a2), some (.int (x3 + (0 : Int32))), some (.int (x4 + (1 : Int32))), some (.int y0)]) dc_X2_rowsOf_61 rfl (by decide) rfl (by decide) rfl ?_
    refine ev_goto (tgt := 5) dc_X2_rowsOf_64 (by decide) ?_
    exact ev_sub (hk5 (x3 + (0 : Int32), x4 + (1 : Int32)) h) (And.intro rfl (And.intro rfl (And.intro rfl (And.intro rfl (And.intro rfl trivial)))))
  · refine ev_iconst (v := 1) dc_X2_rowsOf_54 (by decide) ?_
    refine ev_goto (tgt := 59) dc_X2_rowsOf_55 (by decide) ?_
    refine ev_iadd dc_X2_rowsOf_59 ?_
    refine ev_istore_n (lv' := [some (.ref a0), some (.int a1), some (.int a2), some (.int (x3 + (1 : Int32))), some (.int x4), some (.int y0)]) dc_X2_rowsOf_60 rfl (by decide) rfl ?_
    refine ev_iinc (v := 1) (lv' := [some (.ref a0), some (.int a1), some (.int a2), some (.int (x3 + (1 : Int32))), some (.int (x4 + (1 : Int32))), some (.int y0)]) dc_X2_rowsOf_61 rfl (by decide) rfl (by decide) rfl ?_
    refine ev_goto (tgt := 5) dc_X2_rowsOf_64 (by decide) ?_
    exact ev_sub (hk5 (x3 + (1 : Int32), x4 + (1 : Int32)) h) (And.intro rfl (And.intro rfl (And.intro rfl (And.intro rfl (And.intro rfl trivial)))))
def fX2_rowsOf_b41 (N : Nat) (G : pG) (k5 : Int32 × Int32 → Option (Int32)) (a0 : Nat) (a1 : Int32) (a2 : Int32) (x3 : Int32) (x4 : Int32) (σ : pS) : Option (Int32) := fX2_rowsOf_b46 N G k5 a0 a1 a2 x3 x4 (1 : Int32) σ
set_option maxRecDepth 100000 in
set_option maxHeartbeats 4000000 in
theorem tX2_rowsOf_b41 {N : Nat} {G : pG} {SK : Nat → Nat} {k5 : Int32 × Int32 → Option (Int32)} {a0 : Nat} {a1 : Int32} {a2 : Int32} {x3 : Int32} {x4 : Int32} {σ : pS} {r : Int32} (hW : WT G) (i0 : Is G a0 2) (hk5 : ∀ b : Int32 × Int32, k5 b = some r → Ev miX2_rowsOf (3, 0, 0) G (Zp G (some (.int r)) σ) SK (0, 0) 5 [some (.ref a0), some (.int a1), some (.int a2), some (.int b.1), some (.int b.2), none] [] σ) (h : fX2_rowsOf_b41 N G k5 a0 a1 a2 x3 x4 σ = some r) : Ev miX2_rowsOf (3, 0, 0) G (Zp G (some (.int r)) σ) SK (0, 0) 41 [some (.ref a0), some (.int a1), some (.int a2), some (.int x3), some (.int x4), none] [] σ := by
  unfold fX2_rowsOf_b41 at h
  refine ev_iconst (v := 1) dc_X2_rowsOf_41 (by decide) ?_
  refine ev_goto (tgt := 46) dc_X2_rowsOf_42 (by decide) ?_
  exact ev_sub (tX2_rowsOf_b46 hW i0 hk5 h) (And.intro rfl (And.intro rfl (And.intro rfl (And.intro rfl (And.intro rfl trivial)))))
def fX2_rowsOf_b45 (N : Nat) (G : pG) (k5 : Int32 × Int32 → Option (Int32)) (a0 : Nat) (a1 : Int32) (a2 : Int32) (x3 : Int32) (x4 : Int32) (σ : pS) : Option (Int32) := fX2_rowsOf_b46 N G k5 a0 a1 a2 x3 x4 (0 : Int32) σ
set_option maxRecDepth 100000 in
set_option maxHeartbeats 4000000 in
theorem tX2_rowsOf_b45 {N : Nat} {G : pG} {SK : Nat → Nat} {k5 : Int32 × Int32 → Option (Int32)} {a0 : Nat} {a1 : Int32} {a2 : Int32} {x3 : Int32} {x4 : Int32} {σ : pS} {r : Int32} (hW : WT G) (i0 : Is G a0 2) (hk5 : ∀ b : Int32 × Int32, k5 b = some r → Ev miX2_rowsOf (3, 0, 0) G (Zp G (some (.int r)) σ) SK (0, 0) 5 [some (.ref a0), some (.int a1), some (.int a2), some (.int b.1), some (.int b.2), none] [] σ) (h : fX2_rowsOf_b45 N G k5 a0 a1 a2 x3 x4 σ = some r) : Ev miX2_rowsOf (3, 0, 0) G (Zp G (some (.int r)) σ) SK (0, 0) 45 [some (.ref a0), some (.int a1), some (.int a2), some (.int x3), some (.int x4), none] [] σ := by
  unfold fX2_rowsOf_b45 at h
  refine ev_iconst (v := 0) dc_X2_rowsOf_45 (by decide) ?_
  exact ev_sub (tX2_rowsOf_b46 hW i0 hk5 h) (And.intro rfl (And.intro rfl (And.intro rfl (And.intro rfl (And.intro rfl trivial)))))
def fX2_rowsOf_b5 (N : Nat) (G : pG) (a0 : Nat) (a1 : Int32) (a2 : Int32) (σ : pS) : (Int32 × Int32) → Option (Int32) := lp (fun (k5 : Int32 × Int32 → Option (Int32)) (b : Int32 × Int32) => if (σ.1 a0 0) ≤ b.2 then (some b.1) else ((fX2_part N G a0 b.2 (1 : Int32) σ).bind (fun q1 => if q1 = a1 then (if a2 = (-1 : Int32) then (fX2_rowsOf_b41 N G k5 a0 a1 a2 b.1 b.2 σ) else ((fX2_part N G a0 b.2 (2 : Int32) σ).bind (fun q2 => if q2 = a2 then (fX2_rowsOf_b41 N G k5 a0 a1 a2 b.1 b.2 σ) else (fX2_rowsOf_b45 N G k5 a0 a1 a2 b.1 b.2 σ)))) else (fX2_rowsOf_b45 N G k5 a0 a1 a2 b.1 b.2 σ)))) N
set_option maxRecDepth 100000 in
set_option maxHeartbeats 4000000 in
theorem tX2_rowsOf_b5 {N : Nat} {G : pG} {SK : Nat → Nat} {a0 : Nat} {a1 : Int32} {a2 : Int32} {σ : pS} {b : Int32 × Int32} {r : Int32} (hW : WT G) (i0 : Is G a0 2) (h : fX2_rowsOf_b5 N G a0 a1 a2 σ b = some r) : Ev miX2_rowsOf (3, 0, 0) G (Zp G (some (.int r)) σ) SK (0, 0) 5 [some (.ref a0), some (.int a1), some (.int a2), some (.int b.1), some (.int b.2), none] [] σ := by
  unfold fX2_rowsOf_b5 at h
  refine lp_ind (P := fun b r9 => r9 = r → Ev miX2_rowsOf (3, 0, 0) G (Zp G (some (.int r)) σ) SK (0, 0) 5 [some (.ref a0), some (.int a1), some (.int a2), some (.int b.1), some (.int b.2), none] [] σ) (fun k5 b r9 ih h9 e9 => ?_) N b r h rfl
  clear h
  subst e9
  have h := h9
  clear h9
  have hk5 : ∀ b : Int32 × Int32, k5 b = some r9 → Ev miX2_rowsOf (3, 0, 0) G (Zp G (some (.int r9)) σ) SK (0, 0) 5 [some (.ref a0), some (.int a1), some (.int a2), some (.int b.1), some (.int b.2), none] [] σ := fun b hb => ih b r9 hb rfl
  clear ih
  obtain ⟨x3, x4⟩ := b
  dsimp only at h ⊢
  refine ev_iload dc_X2_rowsOf_5 rfl ?_
  refine ev_aload_n dc_X2_rowsOf_7 rfl ?_
  refine ev_getI dc_X2_rowsOf_8 fi_X2_9 rfl i0 ?_
  refine ev_icmp_ge (tgt := 67) dc_X2_rowsOf_11 (by decide) h (fun h => ?_) (fun h => ?_)
  · refine ev_iload_n dc_X2_rowsOf_67 rfl ?_
    cases h
    exact ev_iret dc_X2_rowsOf_68 rfl rfl rfl
  · refine ev_aload_n dc_X2_rowsOf_14 rfl ?_
    refine ev_iload dc_X2_rowsOf_15 rfl ?_
    refine ev_iconst (v := 1) dc_X2_rowsOf_17 (by decide) ?_
    obtain ⟨q1, hq1, h⟩ := Option.bind_eq_some_iff.mp h
    refine ev_callV (av := [.int x4, .int (1 : Int32)]) (st := []) (st1 := [.int q1]) dc_X2_rowsOf_18 (tX2_part hW i0 hq1) mw_597 cy_X2_part i0 (by decide) rfl rfl rfl rfl (Nat.le_of_ble_eq_true rfl) (Nat.le_of_ble_eq_true rfl) ⟨Nat.le_refl _, Nat.le_refl _⟩ ?_
    refine ev_iload_n dc_X2_rowsOf_21 rfl ?_
    refine ev_icmp_ne (tgt := 45) dc_X2_rowsOf_22 (by decide) h (fun h => ?_) (fun h => ?_)
    · refine ev_iload_n dc_X2_rowsOf_25 rfl ?_
      refine ev_iconst (v := (-1)) dc_X2_rowsOf_26 (by decide) ?_
      refine ev_icmp_eq (tgt := 41) dc_X2_rowsOf_27 (by decide) h (fun h => ?_) (fun h => ?_)
      · exact ev_sub (tX2_rowsOf_b41 hW i0 hk5 h) (And.intro rfl (And.intro rfl (And.intro rfl (And.intro rfl (And.intro rfl trivial)))))
      · refine ev_aload_n dc_X2_rowsOf_30 rfl ?_
        refine ev_iload dc_X2_rowsOf_31 rfl ?_
        refine ev_iconst (v := 2) dc_X2_rowsOf_33 (by decide) ?_
        obtain ⟨q2, hq2, h⟩ := Option.bind_eq_some_iff.mp h
        refine ev_callV (av := [.int x4, .int (2 : Int32)]) (st := []) (st1 := [.int q2]) dc_X2_rowsOf_34 (tX2_part hW i0 hq2) mw_597 cy_X2_part i0 (by decide) rfl rfl rfl rfl (Nat.le_of_ble_eq_true rfl) (Nat.le_of_ble_eq_true rfl) ⟨Nat.le_refl _, Nat.le_refl _⟩ ?_
        refine ev_iload_n dc_X2_rowsOf_37 rfl ?_
        refine ev_icmp_ne (tgt := 45) dc_X2_rowsOf_38 (by decide) h (fun h => ?_) (fun h => ?_)
        · exact ev_sub (tX2_rowsOf_b41 hW i0 hk5 h) (And.intro rfl (And.intro rfl (And.intro rfl (And.intro rfl (And.intro rfl trivial)))))
        · exact ev_sub (tX2_rowsOf_b45 hW i0 hk5 h) (And.intro rfl (And.intro rfl (And.intro rfl (And.intro rfl (And.intro rfl trivial)))))
    · exact ev_sub (tX2_rowsOf_b45 hW i0 hk5 h) (And.intro rfl (And.intro rfl (And.intro rfl (And.intro rfl (And.intro rfl trivial)))))
def fX2_rowsOf (N : Nat) (G : pG) (a0 : Nat) (a1 : Int32) (a2 : Int32) (σ : pS) : Option (Int32) := fX2_rowsOf_b5 N G a0 a1 a2 σ ((0 : Int32), (0 : Int32))
set_option maxRecDepth 100000 in
set_option maxHeartbeats 4000000 in
theorem tX2_rowsOf {N : Nat} {G : pG} {SK : Nat → Nat} {a0 : Nat} {a1 : Int32} {a2 : Int32} {σ : pS} {r : Int32} (hW : WT G) (i0 : Is G a0 2) (h : fX2_rowsOf N G a0 a1 a2 σ = some r) : Dn miX2_rowsOf yX2_rowsOf 3 G SK [.ref a0, .int a1, .int a2] σ (some (.int r)) σ := by
  unfold fX2_rowsOf at h
  refine dn_of (lv := [some (.ref a0), some (.int a1), some (.int a2), none, none, none]) (by decide) rfl rfl (Nat.le_of_ble_eq_true rfl) rfl ?_
  refine ev_iconst (v := 0) dc_X2_rowsOf_0 (by decide) ?_
  refine ev_istore_n (lv' := [some (.ref a0), some (.int a1), some (.int a2), some (.int (0 : Int32)), none, none]) dc_X2_rowsOf_1 rfl (by decide) rfl ?_
  refine ev_iconst (v := 0) dc_X2_rowsOf_2 (by decide) ?_
  refine ev_istore (lv' := [some (.ref a0), some (.int a1), some (.int a2), some (.int (0 : Int32)), some (.int (0 : Int32)), none]) dc_X2_rowsOf_3 rfl (by decide) rfl ?_
  exact ev_sub (tX2_rowsOf_b5 (b := ((0 : Int32), (0 : Int32))) hW i0 h) (And.intro rfl (And.intro rfl (And.intro rfl (And.intro rfl (And.intro rfl trivial)))))
theorem dc_X2_streakAbove_0 : Dc miX2_streakAbove 0 (.iconst (-1)) 1 1 := ⟨by decide +kernel, rfl⟩
theorem dc_X2_streakAbove_1 : Dc miX2_streakAbove 1 (.istore_n 2) 1 2 := ⟨by decide +kernel, rfl⟩
theorem dc_X2_streakAbove_2 : Dc miX2_streakAbove 2 (.iconst 0) 1 3 := ⟨by decide +kernel, rfl⟩
theorem dc_X2_streakAbove_3 : Dc miX2_streakAbove 3 (.istore_n 3) 1 4 := ⟨by decide +kernel, rfl⟩
theorem dc_X2_streakAbove_4 : Dc miX2_streakAbove 4 (.iload_n 3) 1 5 := ⟨by decide +kernel, rfl⟩
theorem dc_X2_streakAbove_5 : Dc miX2_streakAbove 5 (.aload_n 0) 1 6 := ⟨by decide +kernel, rfl⟩
theorem dc_X2_streakAbove_6 : Dc miX2_streakAbove 6 (.getfield 9) 3 9 := ⟨by decide +kernel, rfl⟩
theorem dc_X2_streakAbove_9 : Dc miX2_streakAbove 9 (.if_icmp .ge 21) 3 12 := ⟨by decide +kernel, rfl⟩
theorem dc_X2_streakAbove_12 : Dc miX2_streakAbove 12 (.aload_n 0) 1 13 := ⟨by decide +kernel, rfl⟩
theorem dc_X2_streakAbove_13 : Dc miX2_streakAbove 13 (.iload_n 3) 1 14 := ⟨by decide +kernel, rfl⟩
theorem dc_X2_streakAbove_14 : Dc miX2_streakAbove 14 (.iconst 3) 1 15 := ⟨by decide +kernel, rfl⟩
theorem dc_X2_streakAbove_15 : Dc miX2_streakAbove 15 (.invokevirtual 49) 3 18 := ⟨by decide +kernel, rfl⟩
theorem dc_X2_streakAbove_18 : Dc miX2_streakAbove 18 (.iload_n 1) 1 19 := ⟨by decide +kernel, rfl⟩
theorem dc_X2_streakAbove_19 : Dc miX2_streakAbove 19 (.if_icmp .le 11) 3 22 := ⟨by decide +kernel, rfl⟩
theorem dc_X2_streakAbove_22 : Dc miX2_streakAbove 22 (.iload_n 3) 1 23 := ⟨by decide +kernel, rfl⟩
theorem dc_X2_streakAbove_23 : Dc miX2_streakAbove 23 (.istore_n 2) 1 24 := ⟨by decide +kernel, rfl⟩
theorem dc_X2_streakAbove_24 : Dc miX2_streakAbove 24 (.iinc 3 1) 3 27 := ⟨by decide +kernel, rfl⟩
theorem dc_X2_streakAbove_27 : Dc miX2_streakAbove 27 (.goto (-23)) 3 30 := ⟨by decide +kernel, rfl⟩
theorem dc_X2_streakAbove_30 : Dc miX2_streakAbove 30 (.iload_n 2) 1 31 := ⟨by decide +kernel, rfl⟩
theorem dc_X2_streakAbove_31 : Dc miX2_streakAbove 31 (.ireturn) 1 32 := ⟨by decide +kernel, rfl⟩
def fX2_streakAbove_b4 (N : Nat) (G : pG) (a0 : Nat) (a1 : Int32) (σ : pS) : (Int32 × Int32) → Option (Int32) := lp (fun (k4 : Int32 × Int32 → Option (Int32)) (b : Int32 × Int32) => if (σ.1 a0 0) ≤ b.2 then (some b.1) else ((fX2_part N G a0 b.2 (3 : Int32) σ).bind (fun q1 => if q1 ≤ a1 then (some b.1) else (k4 (b.2, b.2 + (1 : Int32)))))) N
set_option maxRecDepth 100000 in
set_option maxHeartbeats 4000000 in
theorem tX2_streakAbove_b4 {N : Nat} {G : pG} {SK : Nat → Nat} {a0 : Nat} {a1 : Int32} {σ : pS} {b : Int32 × Int32} {r : Int32} (hW : WT G) (i0 : Is G a0 2) (h : fX2_streakAbove_b4 N G a0 a1 σ b = some r) : Ev miX2_streakAbove (3, 0, 0) G (Zp G (some (.int r)) σ) SK (0, 0) 4 [some (.ref a0), some (.int a1), some (.int b.1), some (.int b.2)] [] σ := by
  unfold fX2_streakAbove_b4 at h
  refine lp_ind (P := fun b r9 => r9 = r → Ev miX2_streakAbove (3, 0, 0) G (Zp G (some (.int r)) σ) SK (0, 0) 4 [some (.ref a0), some (.int a1), some (.int b.1), some (.int b.2)] [] σ) (fun k4 b r9 ih h9 e9 => ?_) N b r h rfl
  clear h
  subst e9
  have h := h9
  clear h9
  have hk4 : ∀ b : Int32 × Int32, k4 b = some r9 → Ev miX2_streakAbove (3, 0, 0) G (Zp G (some (.int r9)) σ) SK (0, 0) 4 [some (.ref a0), some (.int a1), some (.int b.1), some (.int b.2)] [] σ := fun b hb => ih b r9 hb rfl
  clear ih
  obtain ⟨x2, x3⟩ := b
  dsimp only at h ⊢
  refine ev_iload_n dc_X2_streakAbove_4 rfl ?_
  refine ev_aload_n dc_X2_streakAbove_5 rfl ?_
  refine ev_getI dc_X2_streakAbove_6 fi_X2_9 rfl i0 ?_
  refine ev_icmp_ge (tgt := 30) dc_X2_streakAbove_9 (by decide) h (fun h => ?_) (fun h => ?_)
  · refine ev_iload_n dc_X2_streakAbove_30 rfl ?_
    cases h
    exact ev_iret dc_X2_streakAbove_31 rfl rfl rfl
  · refine ev_aload_n dc_X2_streakAbove_12 rfl ?_
    refine ev_iload_n dc_X2_streakAbove_13 rfl ?_
    refine ev_iconst (v := 3) dc_X2_streakAbove_14 (by decide) ?_
    obtain ⟨q1, hq1, h⟩ := Option.bind_eq_some_iff.mp h
    refine ev_callV (av := [.int x3, .int (3 : Int32)]) (st := []) (st1 := [.int q1]) dc_X2_streakAbove_15 (tX2_part hW i0 hq1) mw_597 cy_X2_part i0 (by decide) rfl rfl rfl rfl (Nat.le_of_ble_eq_true rfl) (Nat.le_of_ble_eq_true rfl) ⟨Nat.le_refl _, Nat.le_refl _⟩ ?_
    refine ev_iload_n dc_X2_streakAbove_18 rfl ?_
    refine ev_icmp_le (tgt := 30) dc_X2_streakAbove_19 (by decide) h (fun h => ?_) (fun h => ?_)
    · refine ev_iload_n dc_X2_streakAbove_30 rfl ?_
      cases h
      exact ev_iret dc_X2_streakAbove_31 rfl rfl rfl
    · refine ev_iload_n dc_X2_streakAbove_22 rfl ?_
      refine ev_istore_n (lv' := [some (.ref a0), some (.int a1), some (.int x3), some (.int x3)]) dc_X2_streakAbove_23 rfl (by decide) rfl ?_
      refine ev_iinc (v := 1) (lv' := [some (.ref a0), some (.int a1), some (.int x3), some (.int (x3 + (1 : Int32)))]) dc_X2_streakAbove_24 rfl (by decide) rfl (by decide) rfl ?_
      refine ev_goto (tgt := 4) dc_X2_streakAbove_27 (by decide) ?_
      exact ev_sub (hk4 (x3, x3 + (1 : Int32)) h) (And.intro rfl (And.intro rfl (And.intro rfl (And.intro rfl trivial))))
def fX2_streakAbove (N : Nat) (G : pG) (a0 : Nat) (a1 : Int32) (σ : pS) : Option (Int32) := fX2_streakAbove_b4 N G a0 a1 σ ((-1 : Int32), (0 : Int32))
set_option maxRecDepth 100000 in
set_option maxHeartbeats 4000000 in
theorem tX2_streakAbove {N : Nat} {G : pG} {SK : Nat → Nat} {a0 : Nat} {a1 : Int32} {σ : pS} {r : Int32} (hW : WT G) (i0 : Is G a0 2) (h : fX2_streakAbove N G a0 a1 σ = some r) : Dn miX2_streakAbove yX2_streakAbove 3 G SK [.ref a0, .int a1] σ (some (.int r)) σ := by
  unfold fX2_streakAbove at h
  refine dn_of (lv := [some (.ref a0), some (.int a1), none, none]) (by decide) rfl rfl (Nat.le_of_ble_eq_true rfl) rfl ?_
  refine ev_iconst (v := (-1)) dc_X2_streakAbove_0 (by decide) ?_
  refine ev_istore_n (lv' := [some (.ref a0), some (.int a1), some (.int (-1 : Int32)), none]) dc_X2_streakAbove_1 rfl (by decide) rfl ?_
  refine ev_iconst (v := 0) dc_X2_streakAbove_2 (by decide) ?_
  refine ev_istore_n (lv' := [some (.ref a0), some (.int a1), some (.int (-1 : Int32)), some (.int (0 : Int32))]) dc_X2_streakAbove_3 rfl (by decide) rfl ?_
  exact ev_sub (tX2_streakAbove_b4 (b := ((-1 : Int32), (0 : Int32))) hW i0 h) (And.intro rfl (And.intro rfl (And.intro rfl (And.intro rfl trivial))))
theorem dc_X3_copyThoughtFrom_0 : Dc miX3_copyThoughtFrom 0 (.aload_n 0) 1 1 := ⟨by decide +kernel, rfl⟩
theorem dc_X3_copyThoughtFrom_1 : Dc miX3_copyThoughtFrom 1 (.aload_n 1) 1 2 := ⟨by decide +kernel, rfl⟩
theorem dc_X3_copyThoughtFrom_2 : Dc miX3_copyThoughtFrom 2 (.getfield 9) 3 5 := ⟨by decide +kernel, rfl⟩
theorem dc_X3_copyThoughtFrom_5 : Dc miX3_copyThoughtFrom 5 (.putfield 9) 3 8 := ⟨by decide +kernel, rfl⟩
theorem dc_X3_copyThoughtFrom_8 : Dc miX3_copyThoughtFrom 8 (.aload_n 0) 1 9 := ⟨by decide +kernel, rfl⟩
theorem dc_X3_copyThoughtFrom_9 : Dc miX3_copyThoughtFrom 9 (.aload_n 1) 1 10 := ⟨by decide +kernel, rfl⟩
theorem dc_X3_copyThoughtFrom_10 : Dc miX3_copyThoughtFrom 10 (.getfield 15) 3 13 := ⟨by decide +kernel, rfl⟩
theorem dc_X3_copyThoughtFrom_13 : Dc miX3_copyThoughtFrom 13 (.putfield 15) 3 16 := ⟨by decide +kernel, rfl⟩
theorem dc_X3_copyThoughtFrom_16 : Dc miX3_copyThoughtFrom 16 (.aload_n 0) 1 17 := ⟨by decide +kernel, rfl⟩
theorem dc_X3_copyThoughtFrom_17 : Dc miX3_copyThoughtFrom 17 (.aload_n 1) 1 18 := ⟨by decide +kernel, rfl⟩
theorem dc_X3_copyThoughtFrom_18 : Dc miX3_copyThoughtFrom 18 (.getfield 18) 3 21 := ⟨by decide +kernel, rfl⟩
theorem dc_X3_copyThoughtFrom_21 : Dc miX3_copyThoughtFrom 21 (.putfield 18) 3 24 := ⟨by decide +kernel, rfl⟩
theorem dc_X3_copyThoughtFrom_24 : Dc miX3_copyThoughtFrom 24 (.aload_n 0) 1 25 := ⟨by decide +kernel, rfl⟩
theorem dc_X3_copyThoughtFrom_25 : Dc miX3_copyThoughtFrom 25 (.aload_n 1) 1 26 := ⟨by decide +kernel, rfl⟩
theorem dc_X3_copyThoughtFrom_26 : Dc miX3_copyThoughtFrom 26 (.getfield 21) 3 29 := ⟨by decide +kernel, rfl⟩
theorem dc_X3_copyThoughtFrom_29 : Dc miX3_copyThoughtFrom 29 (.putfield 21) 3 32 := ⟨by decide +kernel, rfl⟩
theorem dc_X3_copyThoughtFrom_32 : Dc miX3_copyThoughtFrom 32 (.aload_n 0) 1 33 := ⟨by decide +kernel, rfl⟩
theorem dc_X3_copyThoughtFrom_33 : Dc miX3_copyThoughtFrom 33 (.aload_n 1) 1 34 := ⟨by decide +kernel, rfl⟩
theorem dc_X3_copyThoughtFrom_34 : Dc miX3_copyThoughtFrom 34 (.getfield 24) 3 37 := ⟨by decide +kernel, rfl⟩
theorem dc_X3_copyThoughtFrom_37 : Dc miX3_copyThoughtFrom 37 (.putfield 24) 3 40 := ⟨by decide +kernel, rfl⟩
theorem dc_X3_copyThoughtFrom_40 : Dc miX3_copyThoughtFrom 40 (.aload_n 0) 1 41 := ⟨by decide +kernel, rfl⟩
theorem dc_X3_copyThoughtFrom_41 : Dc miX3_copyThoughtFrom 41 (.aload_n 1) 1 42 := ⟨by decide +kernel, rfl⟩
theorem dc_X3_copyThoughtFrom_42 : Dc miX3_copyThoughtFrom 42 (.getfield 27) 3 45 := ⟨by decide +kernel, rfl⟩
theorem dc_X3_copyThoughtFrom_45 : Dc miX3_copyThoughtFrom 45 (.putfield 27) 3 48 := ⟨by decide +kernel, rfl⟩
theorem dc_X3_copyThoughtFrom_48 : Dc miX3_copyThoughtFrom 48 (.aload_n 0) 1 49 := ⟨by decide +kernel, rfl⟩
theorem dc_X3_copyThoughtFrom_49 : Dc miX3_copyThoughtFrom 49 (.aload_n 1) 1 50 := ⟨by decide +kernel, rfl⟩
theorem dc_X3_copyThoughtFrom_50 : Dc miX3_copyThoughtFrom 50 (.getfield 30) 3 53 := ⟨by decide +kernel, rfl⟩
theorem dc_X3_copyThoughtFrom_53 : Dc miX3_copyThoughtFrom 53 (.putfield 30) 3 56 := ⟨by decide +kernel, rfl⟩
theorem dc_X3_copyThoughtFrom_56 : Dc miX3_copyThoughtFrom 56 (.aload_n 1) 1 57 := ⟨by decide +kernel, rfl⟩
theorem dc_X3_copyThoughtFrom_57 : Dc miX3_copyThoughtFrom 57 (.getfield 34) 3 60 := ⟨by decide +kernel, rfl⟩
theorem dc_X3_copyThoughtFrom_60 : Dc miX3_copyThoughtFrom 60 (.iconst 0) 1 61 := ⟨by decide +kernel, rfl⟩
theorem dc_X3_copyThoughtFrom_61 : Dc miX3_copyThoughtFrom 61 (.aload_n 0) 1 62 := ⟨by decide +kernel, rfl⟩
theorem dc_X3_copyThoughtFrom_62 : Dc miX3_copyThoughtFrom 62 (.getfield 34) 3 65 := ⟨by decide +kernel, rfl⟩
theorem dc_X3_copyThoughtFrom_65 : Dc miX3_copyThoughtFrom 65 (.iconst 0) 1 66 := ⟨by decide +kernel, rfl⟩
theorem dc_X3_copyThoughtFrom_66 : Dc miX3_copyThoughtFrom 66 (.bipush 6) 2 68 := ⟨by decide +kernel, rfl⟩
theorem dc_X3_copyThoughtFrom_68 : Dc miX3_copyThoughtFrom 68 (.invokestatic 53) 3 71 := ⟨by decide +kernel, rfl⟩
theorem dc_X3_copyThoughtFrom_71 : Dc miX3_copyThoughtFrom 71 (.return_) 1 72 := ⟨by decide +kernel, rfl⟩
def fX3_copyThoughtFrom (N : Nat) (G : pG) (a0 : Nat) (a1 : Nat) (σ : pS) : Option (pS) := ck (isZ ((putF (putF (putF (putF (putF (putF σ a0 0 (σ.1 a1 0)) a0 1 ((putF σ a0 0 (σ.1 a1 0)).1 a1 1)) a0 2 ((putF (putF σ a0 0 (σ.1 a1 0)) a0 1 ((putF σ a0 0 (σ.1 a1 0)).1 a1 1)).1 a1 2)) a0 3 ((putF (putF (putF σ a0 0 (σ.1 a1 0)) a0 1 ((putF σ a0 0 (σ.1 a1 0)).1 a1 1)) a0 2 ((putF (putF σ a0 0 (σ.1 a1 0)) a0 1 ((putF σ a0 0 (σ.1 a1 0)).1 a1 1)).1 a1 2)).1 a1 3)) a0 4 ((putF (putF (putF (putF σ a0 0 (σ.1 a1 0)) a0 1 ((putF σ a0 0 (σ.1 a1 0)).1 a1 1)) a0 2 ((putF (putF σ a0 0 (σ.1 a1 0)) a0 1 ((putF σ a0 0 (σ.1 a1 0)).1 a1 1)).1 a1 2)) a0 3 ((putF (putF (putF σ a0 0 (σ.1 a1 0)) a0 1 ((putF σ a0 0 (σ.1 a1 0)).1 a1 1)) a0 2 ((putF (putF σ a0 0 (σ.1 a1 0)) a0 1 ((putF σ a0 0 (σ.1 a1 0)).1 a1 1)).1 a1 2)).1 a1 3)).1 a1 4)) a0 5 ((putF (putF (putF (putF (putF σ a0 0 (σ.1 a1 0)) a0 1 ((putF σ a0 0 (σ.1 a1 0)).1 a1 1)) a0 2 ((putF (putF σ a0 0 (σ.1 a1 0)) a0 1 ((putF σ a0 0 (σ.1 a1 0)).1 a1 1)).1 a1 2)) a0 3 ((putF (putF (putF σ a0 0 (σ.1 a1 0)) a0 1 ((putF σ a0 0 (σ.1 a1 0)).1 a1 1)) a0 2 ((putF (putF σ a0 0 (σ.1 a1 0)) a0 1 ((putF σ a0 0 (σ.1 a1 0)).1 a1 1)).1 a1 2)).1 a1 3)) a0 4 ((putF (putF (putF (putF σ a0 0 (σ.1 a1 0)) a0 1 ((putF σ a0 0 (σ.1 a1 0)).1 a1 1)) a0 2 ((putF (putF σ a0 0 (σ.1 a1 0)) a0 1 ((putF σ a0 0 (σ.1 a1 0)).1 a1 1)).1 a1 2)) a0 3 ((putF (putF (putF σ a0 0 (σ.1 a1 0)) a0 1 ((putF σ a0 0 (σ.1 a1 0)).1 a1 1)) a0 2 ((putF (putF σ a0 0 (σ.1 a1 0)) a0 1 ((putF σ a0 0 (σ.1 a1 0)).1 a1 1)).1 a1 2)).1 a1 3)).1 a1 4)).1 a1 5)).1 a1 6)) (ck (cpB (0 : Int32) (0 : Int32) (6 : Int32) (pN G (pR G a1 7)) (pN G (pR G a0 7))) (some (cpA (putF (putF (putF (putF (putF (putF (putF σ a0 0 (σ.1 a1 0)) a0 1 ((putF σ a0 0 (σ.1 a1 0)).1 a1 1)) a0 2 ((putF (putF σ a0 0 (σ.1 a1 0)) a0 1 ((putF σ a0 0 (σ.1 a1 0)).1 a1 1)).1 a1 2)) a0 3 ((putF (putF (putF σ a0 0 (σ.1 a1 0)) a0 1 ((putF σ a0 0 (σ.1 a1 0)).1 a1 1)) a0 2 ((putF (putF σ a0 0 (σ.1 a1 0)) a0 1 ((putF σ a0 0 (σ.1 a1 0)).1 a1 1)).1 a1 2)).1 a1 3)) a0 4 ((putF (putF (putF (putF σ a0 0 (σ.1 a1 0)) a0 1 ((putF σ a0 0 (σ.1 a1 0)).1 a1 1)) a0 2 ((putF (putF σ a0 0 (σ.1 a1 0)) a0 1 ((putF σ a0 0 (σ.1 a1 0)).1 a1 1)).1 a1 2)) a0 3 ((putF (putF (putF σ a0 0 (σ.1 a1 0)) a0 1 ((putF σ a0 0 (σ.1 a1 0)).1 a1 1)) a0 2 ((putF (putF σ a0 0 (σ.1 a1 0)) a0 1 ((putF σ a0 0 (σ.1 a1 0)).1 a1 1)).1 a1 2)).1 a1 3)).1 a1 4)) a0 5 ((putF (putF (putF (putF (putF σ a0 0 (σ.1 a1 0)) a0 1 ((putF σ a0 0 (σ.1 a1 0)).1 a1 1)) a0 2 ((putF (putF σ a0 0 (σ.1 a1 0)) a0 1 ((putF σ a0 0 (σ.1 a1 0)).1 a1 1)).1 a1 2)) a0 3 ((putF (putF (putF σ a0 0 (σ.1 a1 0)) a0 1 ((putF σ a0 0 (σ.1 a1 0)).1 a1 1)) a0 2 ((putF (putF σ a0 0 (σ.1 a1 0)) a0 1 ((putF σ a0 0 (σ.1 a1 0)).1 a1 1)).1 a1 2)).1 a1 3)) a0 4 ((putF (putF (putF (putF σ a0 0 (σ.1 a1 0)) a0 1 ((putF σ a0 0 (σ.1 a1 0)).1 a1 1)) a0 2 ((putF (putF σ a0 0 (σ.1 a1 0)) a0 1 ((putF σ a0 0 (σ.1 a1 0)).1 a1 1)).1 a1 2)) a0 3 ((putF (putF (putF σ a0 0 (σ.1 a1 0)) a0 1 ((putF σ a0 0 (σ.1 a1 0)).1 a1 1)) a0 2 ((putF (putF σ a0 0 (σ.1 a1 0)) a0 1 ((putF σ a0 0 (σ.1 a1 0)).1 a1 1)).1 a1 2)).1 a1 3)).1 a1 4)).1 a1 5)) a0 6 ((putF (putF (putF (putF (putF (putF σ a0 0 (σ.1 a1 0)) a0 1 ((putF σ a0 0 (σ.1 a1 0)).1 a1 1)) a0 2 ((putF (putF σ a0 0 (σ.1 a1 0)) a0 1 ((putF σ a0 0 (σ.1 a1 0)).1 a1 1)).1 a1 2)) a0 3 ((putF (putF (putF σ a0 0 (σ.1 a1 0)) a0 1 ((putF σ a0 0 (σ.1 a1 0)).1 a1 1)) a0 2 ((putF (putF σ a0 0 (σ.1 a1 0)) a0 1 ((putF σ a0 0 (σ.1 a1 0)).1 a1 1)).1 a1 2)).1 a1 3)) a0 4 ((putF (putF (putF (putF σ a0 0 (σ.1 a1 0)) a0 1 ((putF σ a0 0 (σ.1 a1 0)).1 a1 1)) a0 2 ((putF (putF σ a0 0 (σ.1 a1 0)) a0 1 ((putF σ a0 0 (σ.1 a1 0)).1 a1 1)).1 a1 2)) a0 3 ((putF (putF (putF σ a0 0 (σ.1 a1 0)) a0 1 ((putF σ a0 0 (σ.1 a1 0)).1 a1 1)) a0 2 ((putF (putF σ a0 0 (σ.1 a1 0)) a0 1 ((putF σ a0 0 (σ.1 a1 0)).1 a1 1)).1 a1 2)).1 a1 3)).1 a1 4)) a0 5 ((putF (putF (putF (putF (putF σ a0 0 (σ.1 a1 0)) a0 1 ((putF σ a0 0 (σ.1 a1 0)).1 a1 1)) a0 2 ((putF (putF σ a0 0 (σ.1 a1 0)) a0 1 ((putF σ a0 0 (σ.1 a1 0)).1 a1 1)).1 a1 2)) a0 3 ((putF (putF (putF σ a0 0 (σ.1 a1 0)) a0 1 ((putF σ a0 0 (σ.1 a1 0)).1 a1 1)) a0 2 ((putF (putF σ a0 0 (σ.1 a1 0)) a0 1 ((putF σ a0 0 (σ.1 a1 0)).1 a1 1)).1 a1 2)).1 a1 3)) a0 4 ((putF (putF (putF (putF σ a0 0 (σ.1 a1 0)) a0 1 ((putF σ a0 0 (σ.1 a1 0)).1 a1 1)) a0 2 ((putF (putF σ a0 0 (σ.1 a1 0)) a0 1 ((putF σ a0 0 (σ.1 a1 0)).1 a1 1)).1 a1 2)) a0 3 ((putF (putF (putF σ a0 0 (σ.1 a1 0)) a0 1 ((putF σ a0 0 (σ.1 a1 0)).1 a1 1)) a0 2 ((putF (putF σ a0 0 (σ.1 a1 0)) a0 1 ((putF σ a0 0 (σ.1 a1 0)).1 a1 1)).1 a1 2)).1 a1 3)).1 a1 4)).1 a1 5)).1 a1 6)) (pR G a1 7) (0 : Int32) (pR G a0 7) (0 : Int32) (6 : Int32))))
set_option maxRecDepth 100000 in
set_option maxHeartbeats 4000000 in
theorem tX3_copyThoughtFrom {N : Nat} {G : pG} {SK : Nat → Nat} {a0 : Nat} {a1 : Nat} {σ : pS} {r : pS} (hW : WT G) (i0 : Is G a0 3) (i1 : Is G a1 3) (h : fX3_copyThoughtFrom N G a0 a1 σ = some r) : Dn miX3_copyThoughtFrom yX3_copyThoughtFrom 1 G SK [.ref a0, .ref a1] σ none r := by
  unfold fX3_copyThoughtFrom at h
  refine dn_of (lv := [some (.ref a0), some (.ref a1)]) (by decide) rfl rfl (Nat.le_of_ble_eq_true rfl) rfl ?_
  refine ev_aload_n dc_X3_copyThoughtFrom_0 rfl ?_
  refine ev_aload_n dc_X3_copyThoughtFrom_1 rfl ?_
  refine ev_getI dc_X3_copyThoughtFrom_2 fi_X3_9 rfl i1 ?_
  refine ev_putI dc_X3_copyThoughtFrom_5 fi_X3_9 rfl i0 ?_
  refine ev_aload_n dc_X3_copyThoughtFrom_8 rfl ?_
  refine ev_aload_n dc_X3_copyThoughtFrom_9 rfl ?_
  refine ev_getI dc_X3_copyThoughtFrom_10 fi_X3_15 rfl i1 ?_
  refine ev_putI dc_X3_copyThoughtFrom_13 fi_X3_15 rfl i0 ?_
  refine ev_aload_n dc_X3_copyThoughtFrom_16 rfl ?_
  refine ev_aload_n dc_X3_copyThoughtFrom_17 rfl ?_
  refine ev_getI dc_X3_copyThoughtFrom_18 fi_X3_18 rfl i1 ?_
  refine ev_putI dc_X3_copyThoughtFrom_21 fi_X3_18 rfl i0 ?_
  refine ev_aload_n dc_X3_copyThoughtFrom_24 rfl ?_
  refine ev_aload_n dc_X3_copyThoughtFrom_25 rfl ?_
  refine ev_getI dc_X3_copyThoughtFrom_26 fi_X3_21 rfl i1 ?_
  refine ev_putI dc_X3_copyThoughtFrom_29 fi_X3_21 rfl i0 ?_
  refine ev_aload_n dc_X3_copyThoughtFrom_32 rfl ?_
  refine ev_aload_n dc_X3_copyThoughtFrom_33 rfl ?_
  refine ev_getI dc_X3_copyThoughtFrom_34 fi_X3_24 rfl i1 ?_
  refine ev_putI dc_X3_copyThoughtFrom_37 fi_X3_24 rfl i0 ?_
  refine ev_aload_n dc_X3_copyThoughtFrom_40 rfl ?_
  refine ev_aload_n dc_X3_copyThoughtFrom_41 rfl ?_
  refine ev_getI dc_X3_copyThoughtFrom_42 fi_X3_27 rfl i1 ?_
  refine ev_putI dc_X3_copyThoughtFrom_45 fi_X3_27 rfl i0 ?_
  refine ev_aload_n dc_X3_copyThoughtFrom_48 rfl ?_
  refine ev_aload_n dc_X3_copyThoughtFrom_49 rfl ?_
  refine ev_getI dc_X3_copyThoughtFrom_50 fi_X3_30 rfl i1 ?_
  refine ev_putZ dc_X3_copyThoughtFrom_53 fi_X3_30 rfl i0 h (fun h => ?_)
  refine ev_aload_n dc_X3_copyThoughtFrom_56 rfl ?_
  refine ev_getR dc_X3_copyThoughtFrom_57 fi_X3_34 rfl i1 ?_
  refine ev_iconst (v := 0) dc_X3_copyThoughtFrom_60 (by decide) ?_
  refine ev_aload_n dc_X3_copyThoughtFrom_61 rfl ?_
  refine ev_getR dc_X3_copyThoughtFrom_62 fi_X3_34 rfl i0 ?_
  refine ev_iconst (v := 0) dc_X3_copyThoughtFrom_65 (by decide) ?_
  refine ev_bipush (v := 6) dc_X3_copyThoughtFrom_66 (by decide) ?_
  refine ev_cpI dc_X3_copyThoughtFrom_68 mw_634 (wt hW i1 7 rfl rfl) (wt hW i0 7 rfl rfl) (Nat.le_of_ble_eq_true rfl) (Nat.le_of_ble_eq_true rfl) h (fun h => ?_)
  cases h
  exact ev_vret dc_X3_copyThoughtFrom_71 rfl rfl rfl
theorem dc_X3_copyFrom_0 : Dc miX3_copyFrom 0 (.aload_n 0) 1 1 := ⟨by decide +kernel, rfl⟩
theorem dc_X3_copyFrom_1 : Dc miX3_copyFrom 1 (.aload_n 1) 1 2 := ⟨by decide +kernel, rfl⟩
theorem dc_X3_copyFrom_2 : Dc miX3_copyFrom 2 (.invokevirtual 45) 3 5 := ⟨by decide +kernel, rfl⟩
theorem dc_X3_copyFrom_5 : Dc miX3_copyFrom 5 (.aload_n 0) 1 6 := ⟨by decide +kernel, rfl⟩
theorem dc_X3_copyFrom_6 : Dc miX3_copyFrom 6 (.getfield 41) 3 9 := ⟨by decide +kernel, rfl⟩
theorem dc_X3_copyFrom_9 : Dc miX3_copyFrom 9 (.aload_n 1) 1 10 := ⟨by decide +kernel, rfl⟩
theorem dc_X3_copyFrom_10 : Dc miX3_copyFrom 10 (.getfield 41) 3 13 := ⟨by decide +kernel, rfl⟩
theorem dc_X3_copyFrom_13 : Dc miX3_copyFrom 13 (.invokevirtual 49) 3 16 := ⟨by decide +kernel, rfl⟩
theorem dc_X3_copyFrom_16 : Dc miX3_copyFrom 16 (.return_) 1 17 := ⟨by decide +kernel, rfl⟩
def fX3_copyFrom (N : Nat) (G : pG) (a0 : Nat) (a1 : Nat) (σ : pS) : Option (pS) := (fX3_copyThoughtFrom N G a0 a1 σ).bind (fun q1 => (fX2_copyFrom N G (pR G a0 8) (pR G a1 8) q1).bind (fun q2 => some q2))
set_option maxRecDepth 100000 in
set_option maxHeartbeats 4000000 in
theorem tX3_copyFrom {N : Nat} {G : pG} {SK : Nat → Nat} {a0 : Nat} {a1 : Nat} {σ : pS} {r : pS} (hW : WT G) (i0 : Is G a0 3) (i1 : Is G a1 3) (h : fX3_copyFrom N G a0 a1 σ = some r) : Dn miX3_copyFrom yX3_copyFrom 2 G SK [.ref a0, .ref a1] σ none r := by
  unfold fX3_copyFrom at h
  refine dn_of (lv := [some (.ref a0), some (.ref a1)]) (by decide) rfl rfl (Nat.le_of_ble_eq_true rfl) rfl ?_
  refine ev_aload_n dc_X3_copyFrom_0 rfl ?_
  refine ev_aload_n dc_X3_copyFrom_1 rfl ?_
  obtain ⟨q1, hq1, h⟩ := Option.bind_eq_some_iff.mp h
  refine ev_callV (av := [.ref a1]) (st := []) (st1 := []) dc_X3_copyFrom_2 (tX3_copyThoughtFrom hW i0 i1 hq1) mw_630 cy_X3_copyThoughtFrom i0 (by decide) rfl rfl rfl rfl (Nat.le_of_ble_eq_true rfl) (Nat.le_of_ble_eq_true rfl) ⟨Nat.le_refl _, Nat.le_refl _⟩ ?_
  refine ev_aload_n dc_X3_copyFrom_5 rfl ?_
  refine ev_getR dc_X3_copyFrom_6 fi_X3_41 rfl i0 ?_
  refine ev_aload_n dc_X3_copyFrom_9 rfl ?_
  refine ev_getR dc_X3_copyFrom_10 fi_X3_41 rfl i1 ?_
  obtain ⟨q2, hq2, h⟩ := Option.bind_eq_some_iff.mp h
  refine ev_callV (av := [.ref (pR G a1 8)]) (st := []) (st1 := []) dc_X3_copyFrom_13 (tX2_copyFrom hW (wt hW i0 8 rfl rfl) (wt hW i1 8 rfl rfl) hq2) mw_637 cy_X2_copyFrom (wt hW i0 8 rfl rfl) (by decide) rfl rfl rfl rfl (Nat.le_of_ble_eq_true rfl) (Nat.le_of_ble_eq_true rfl) ⟨Nat.le_refl _, Nat.le_refl _⟩ ?_
  cases h
  exact ev_vret dc_X3_copyFrom_16 rfl rfl rfl
theorem dc_X3_draw_0 : Dc miX3_draw 0 (.aload_n 0) 1 1 := ⟨by decide +kernel, rfl⟩
theorem dc_X3_draw_1 : Dc miX3_draw 1 (.ldc 63) 2 3 := ⟨by decide +kernel, rfl⟩
theorem dc_X3_draw_3 : Dc miX3_draw 3 (.aload_n 0) 1 4 := ⟨by decide +kernel, rfl⟩
theorem dc_X3_draw_4 : Dc miX3_draw 4 (.getfield 27) 3 7 := ⟨by decide +kernel, rfl⟩
theorem dc_X3_draw_7 : Dc miX3_draw 7 (.imul) 1 8 := ⟨by decide +kernel, rfl⟩
theorem dc_X3_draw_8 : Dc miX3_draw 8 (.sipush 12345) 3 11 := ⟨by decide +kernel, rfl⟩
theorem dc_X3_draw_11 : Dc miX3_draw 11 (.iadd) 1 12 := ⟨by decide +kernel, rfl⟩
theorem dc_X3_draw_12 : Dc miX3_draw 12 (.putfield 27) 3 15 := ⟨by decide +kernel, rfl⟩
theorem dc_X3_draw_15 : Dc miX3_draw 15 (.aload_n 0) 1 16 := ⟨by decide +kernel, rfl⟩
theorem dc_X3_draw_16 : Dc miX3_draw 16 (.getfield 27) 3 19 := ⟨by decide +kernel, rfl⟩
theorem dc_X3_draw_19 : Dc miX3_draw 19 (.bipush 16) 2 21 := ⟨by decide +kernel, rfl⟩
theorem dc_X3_draw_21 : Dc miX3_draw 21 (.iushr) 1 22 := ⟨by decide +kernel, rfl⟩
theorem dc_X3_draw_22 : Dc miX3_draw 22 (.sipush 32767) 3 25 := ⟨by decide +kernel, rfl⟩
theorem dc_X3_draw_25 : Dc miX3_draw 25 (.iand) 1 26 := ⟨by decide +kernel, rfl⟩
theorem dc_X3_draw_26 : Dc miX3_draw 26 (.ireturn) 1 27 := ⟨by decide +kernel, rfl⟩
def fX3_draw (N : Nat) (G : pG) (a0 : Nat) (σ : pS) : Option (Int32 × pS) := some ((jushr ((putF σ a0 5 (((1103515245 : Int32) * (σ.1 a0 5)) + (12345 : Int32))).1 a0 5) (16 : Int32)) &&& (32767 : Int32), putF σ a0 5 (((1103515245 : Int32) * (σ.1 a0 5)) + (12345 : Int32)))
set_option maxRecDepth 100000 in
set_option maxHeartbeats 4000000 in
theorem tX3_draw {N : Nat} {G : pG} {SK : Nat → Nat} {a0 : Nat} {σ : pS} {r : Int32 × pS} (hW : WT G) (i0 : Is G a0 3) (h : fX3_draw N G a0 σ = some r) : Dn miX3_draw yX3_draw 1 G SK [.ref a0] σ (some (.int r.1)) r.2 := by
  unfold fX3_draw at h
  refine dn_of (lv := [some (.ref a0)]) (by decide) rfl rfl (Nat.le_of_ble_eq_true rfl) rfl ?_
  refine ev_aload_n dc_X3_draw_0 rfl ?_
  refine ev_ldc (v := 1103515245) dc_X3_draw_1 mw_1245 ?_
  refine ev_aload_n dc_X3_draw_3 rfl ?_
  refine ev_getI dc_X3_draw_4 fi_X3_27 rfl i0 ?_
  refine ev_imul dc_X3_draw_7 ?_
  refine ev_sipush (v := 12345) dc_X3_draw_8 (by decide) ?_
  refine ev_iadd dc_X3_draw_11 ?_
  refine ev_putI dc_X3_draw_12 fi_X3_27 rfl i0 ?_
  refine ev_aload_n dc_X3_draw_15 rfl ?_
  refine ev_getI dc_X3_draw_16 fi_X3_27 rfl i0 ?_
  refine ev_bipush (v := 16) dc_X3_draw_19 (by decide) ?_
  refine ev_iushr dc_X3_draw_21 ?_
  refine ev_sipush (v := 32767) dc_X3_draw_22 (by decide) ?_
  refine ev_iand dc_X3_draw_25 ?_
  cases h
  exact ev_iret dc_X3_draw_26 rfl rfl rfl
theorem dc_X3_setHabit_0 : Dc miX3_setHabit 0 (.iload_n 1) 1 1 := ⟨by decide +kernel, rfl⟩
theorem dc_X3_setHabit_1 : Dc miX3_setHabit 1 (.ifCond .lt 16) 3 4 := ⟨by decide +kernel, rfl⟩
theorem dc_X3_setHabit_4 : Dc miX3_setHabit 4 (.iload_n 1) 1 5 := ⟨by decide +kernel, rfl⟩
theorem dc_X3_setHabit_5 : Dc miX3_setHabit 5 (.bipush 6) 2 7 := ⟨by decide +kernel, rfl⟩
theorem dc_X3_setHabit_7 : Dc miX3_setHabit 7 (.if_icmp .ge 10) 3 10 := ⟨by decide +kernel, rfl⟩
theorem dc_X3_setHabit_10 : Dc miX3_setHabit 10 (.aload_n 0) 1 11 := ⟨by decide +kernel, rfl⟩
theorem dc_X3_setHabit_11 : Dc miX3_setHabit 11 (.getfield 34) 3 14 := ⟨by decide +kernel, rfl⟩
theorem dc_X3_setHabit_14 : Dc miX3_setHabit 14 (.iload_n 1) 1 15 := ⟨by decide +kernel, rfl⟩
theorem dc_X3_setHabit_15 : Dc miX3_setHabit 15 (.iload_n 2) 1 16 := ⟨by decide +kernel, rfl⟩
theorem dc_X3_setHabit_16 : Dc miX3_setHabit 16 (.iastore) 1 17 := ⟨by decide +kernel, rfl⟩
theorem dc_X3_setHabit_17 : Dc miX3_setHabit 17 (.return_) 1 18 := ⟨by decide +kernel, rfl⟩
def fX3_setHabit (N : Nat) (G : pG) (a0 : Nat) (a1 : Int32) (a2 : Int32) (σ : pS) : Option (pS) := if a1 < 0 then (some σ) else (if (6 : Int32) ≤ a1 then (some σ) else (ck (inB a1 (pN G (pR G a0 7))) (some (sA σ (pR G a0 7) a1 a2))))
set_option maxRecDepth 100000 in
set_option maxHeartbeats 4000000 in
theorem tX3_setHabit {N : Nat} {G : pG} {SK : Nat → Nat} {a0 : Nat} {a1 : Int32} {a2 : Int32} {σ : pS} {r : pS} (hW : WT G) (i0 : Is G a0 3) (h : fX3_setHabit N G a0 a1 a2 σ = some r) : Dn miX3_setHabit yX3_setHabit 1 G SK [.ref a0, .int a1, .int a2] σ none r := by
  unfold fX3_setHabit at h
  refine dn_of (lv := [some (.ref a0), some (.int a1), some (.int a2)]) (by decide) rfl rfl (Nat.le_of_ble_eq_true rfl) rfl ?_
  refine ev_iload_n dc_X3_setHabit_0 rfl ?_
  refine ev_if_lt (tgt := 17) dc_X3_setHabit_1 (by decide) h (fun h => ?_) (fun h => ?_)
  · cases h
    exact ev_vret dc_X3_setHabit_17 rfl rfl rfl
  · refine ev_iload_n dc_X3_setHabit_4 rfl ?_
    refine ev_bipush (v := 6) dc_X3_setHabit_5 (by decide) ?_
    refine ev_icmp_ge (tgt := 17) dc_X3_setHabit_7 (by decide) h (fun h => ?_) (fun h => ?_)
    · cases h
      exact ev_vret dc_X3_setHabit_17 rfl rfl rfl
    · refine ev_aload_n dc_X3_setHabit_10 rfl ?_
      refine ev_getR dc_X3_setHabit_11 fi_X3_34 rfl i0 ?_
      refine ev_iload_n dc_X3_setHabit_14 rfl ?_
      refine ev_iload_n dc_X3_setHabit_15 rfl ?_
      refine ev_iast dc_X3_setHabit_16 (wt hW i0 7 rfl rfl) h (fun h => ?_)
      cases h
      exact ev_vret dc_X3_setHabit_17 rfl rfl rfl
theorem dc_X11_has_0 : Dc miX11_has 0 (.iload_n 0) 1 1 := ⟨by decide +kernel, rfl⟩
theorem dc_X11_has_1 : Dc miX11_has 1 (.iload_n 1) 1 2 := ⟨by decide +kernel, rfl⟩
theorem dc_X11_has_2 : Dc miX11_has 2 (.ishr) 1 3 := ⟨by decide +kernel, rfl⟩
theorem dc_X11_has_3 : Dc miX11_has 3 (.iconst 1) 1 4 := ⟨by decide +kernel, rfl⟩
theorem dc_X11_has_4 : Dc miX11_has 4 (.iand) 1 5 := ⟨by decide +kernel, rfl⟩
theorem dc_X11_has_5 : Dc miX11_has 5 (.iconst 1) 1 6 := ⟨by decide +kernel, rfl⟩
theorem dc_X11_has_6 : Dc miX11_has 6 (.if_icmp .ne 7) 3 9 := ⟨by decide +kernel, rfl⟩
theorem dc_X11_has_9 : Dc miX11_has 9 (.iconst 1) 1 10 := ⟨by decide +kernel, rfl⟩
theorem dc_X11_has_10 : Dc miX11_has 10 (.goto 4) 3 13 := ⟨by decide +kernel, rfl⟩
theorem dc_X11_has_13 : Dc miX11_has 13 (.iconst 0) 1 14 := ⟨by decide +kernel, rfl⟩
theorem dc_X11_has_14 : Dc miX11_has 14 (.ireturn) 1 15 := ⟨by decide +kernel, rfl⟩
def fX11_has (N : Nat) (G : pG) (a0 : Int32) (a1 : Int32) (σ : pS) : Option (Int32) := if ((a0 >>> (a1 &&& 31)) &&& (1 : Int32)) = (1 : Int32) then (some (1 : Int32)) else (some (0 : Int32))
set_option maxRecDepth 100000 in
set_option maxHeartbeats 4000000 in
theorem tX11_has {N : Nat} {G : pG} {SK : Nat → Nat} {a0 : Int32} {a1 : Int32} {σ : pS} {r : Int32} (hW : WT G) (h : fX11_has N G a0 a1 σ = some r) : Dn miX11_has yX11_has 1 G SK [.int a0, .int a1] σ (some (.int r)) σ := by
  unfold fX11_has at h
  refine dn_of (lv := [some (.int a0), some (.int a1)]) (by decide) rfl rfl (Nat.le_of_ble_eq_true rfl) rfl ?_
  refine ev_iload_n dc_X11_has_0 rfl ?_
  refine ev_iload_n dc_X11_has_1 rfl ?_
  refine ev_ishr dc_X11_has_2 ?_
  refine ev_iconst (v := 1) dc_X11_has_3 (by decide) ?_
  refine ev_iand dc_X11_has_4 ?_
  refine ev_iconst (v := 1) dc_X11_has_5 (by decide) ?_
  refine ev_icmp_ne (tgt := 13) dc_X11_has_6 (by decide) h (fun h => ?_) (fun h => ?_)
  · refine ev_iconst (v := 1) dc_X11_has_9 (by decide) ?_
    refine ev_goto (tgt := 14) dc_X11_has_10 (by decide) ?_
    cases h
    exact ev_zretc dc_X11_has_14 rfl rfl rfl rfl
  · refine ev_iconst (v := 0) dc_X11_has_13 (by decide) ?_
    cases h
    exact ev_zretc dc_X11_has_14 rfl rfl rfl rfl
theorem dc_X3_tellBearer_0 : Dc miX3_tellBearer 0 (.aload_n 0) 1 1 := ⟨by decide +kernel, rfl⟩
theorem dc_X3_tellBearer_1 : Dc miX3_tellBearer 1 (.iload_n 1) 1 2 := ⟨by decide +kernel, rfl⟩
theorem dc_X3_tellBearer_2 : Dc miX3_tellBearer 2 (.putfield 18) 3 5 := ⟨by decide +kernel, rfl⟩
theorem dc_X3_tellBearer_5 : Dc miX3_tellBearer 5 (.aload_n 0) 1 6 := ⟨by decide +kernel, rfl⟩
theorem dc_X3_tellBearer_6 : Dc miX3_tellBearer 6 (.getfield 21) 3 9 := ⟨by decide +kernel, rfl⟩
theorem dc_X3_tellBearer_9 : Dc miX3_tellBearer 9 (.iload_n 1) 1 10 := ⟨by decide +kernel, rfl⟩
theorem dc_X3_tellBearer_10 : Dc miX3_tellBearer 10 (.invokestatic 59) 3 13 := ⟨by decide +kernel, rfl⟩
theorem dc_X3_tellBearer_13 : Dc miX3_tellBearer 13 (.ifCond .ne 12) 3 16 := ⟨by decide +kernel, rfl⟩
theorem dc_X3_tellBearer_16 : Dc miX3_tellBearer 16 (.aload_n 0) 1 17 := ⟨by decide +kernel, rfl⟩
theorem dc_X3_tellBearer_17 : Dc miX3_tellBearer 17 (.iconst 1) 1 18 := ⟨by decide +kernel, rfl⟩
theorem dc_X3_tellBearer_18 : Dc miX3_tellBearer 18 (.iload_n 2) 1 19 := ⟨by decide +kernel, rfl⟩
theorem dc_X3_tellBearer_19 : Dc miX3_tellBearer 19 (.ishl) 1 20 := ⟨by decide +kernel, rfl⟩
theorem dc_X3_tellBearer_20 : Dc miX3_tellBearer 20 (.iconst 1) 1 21 := ⟨by decide +kernel, rfl⟩
theorem dc_X3_tellBearer_21 : Dc miX3_tellBearer 21 (.isub) 1 22 := ⟨by decide +kernel, rfl⟩
theorem dc_X3_tellBearer_22 : Dc miX3_tellBearer 22 (.putfield 21) 3 25 := ⟨by decide +kernel, rfl⟩
theorem dc_X3_tellBearer_25 : Dc miX3_tellBearer 25 (.return_) 1 26 := ⟨by decide +kernel, rfl⟩
def fX3_tellBearer (N : Nat) (G : pG) (a0 : Nat) (a1 : Int32) (a2 : Int32) (σ : pS) : Option (pS) := (fX11_has N G ((putF σ a0 2 a1).1 a0 3) a1 (putF σ a0 2 a1)).bind (fun q1 => if q1 = 0 then (some (putF (putF σ a0 2 a1) a0 3 (((1 : Int32) <<< (a2 &&& 31)) - (1 : Int32)))) else (some (putF σ a0 2 a1)))
set_option maxRecDepth 100000 in
set_option maxHeartbeats 4000000 in
theorem tX3_tellBearer {N : Nat} {G : pG} {SK : Nat → Nat} {a0 : Nat} {a1 : Int32} {a2 : Int32} {σ : pS} {r : pS} (hW : WT G) (i0 : Is G a0 3) (h : fX3_tellBearer N G a0 a1 a2 σ = some r) : Dn miX3_tellBearer yX3_tellBearer 2 G SK [.ref a0, .int a1, .int a2] σ none r := by
  unfold fX3_tellBearer at h
  refine dn_of (lv := [some (.ref a0), some (.int a1), some (.int a2)]) (by decide) rfl rfl (Nat.le_of_ble_eq_true rfl) rfl ?_
  refine ev_aload_n dc_X3_tellBearer_0 rfl ?_
  refine ev_iload_n dc_X3_tellBearer_1 rfl ?_
  refine ev_putI dc_X3_tellBearer_2 fi_X3_18 rfl i0 ?_
  refine ev_aload_n dc_X3_tellBearer_5 rfl ?_
  refine ev_getI dc_X3_tellBearer_6 fi_X3_21 rfl i0 ?_
  refine ev_iload_n dc_X3_tellBearer_9 rfl ?_
  obtain ⟨q1, hq1, h⟩ := Option.bind_eq_some_iff.mp h
  refine ev_callN (av := [.int ((putF σ a0 2 a1).1 a0 3), .int a1]) (st := []) (st1 := [.int q1]) (host := "UnaskedName") dc_X3_tellBearer_10 (tX11_has hW hq1) (List.mem_of_getElem? (i := 19) rfl) cs_X11_has rfl rfl rfl (Nat.le_of_ble_eq_true rfl) (Nat.le_of_ble_eq_true rfl) ⟨Nat.le_refl _, Nat.le_refl _⟩ ?_
  refine ev_if_ne (tgt := 25) dc_X3_tellBearer_13 (by decide) h (fun h => ?_) (fun h => ?_)
  · refine ev_aload_n dc_X3_tellBearer_16 rfl ?_
    refine ev_iconst (v := 1) dc_X3_tellBearer_17 (by decide) ?_
    refine ev_iload_n dc_X3_tellBearer_18 rfl ?_
    refine ev_ishl dc_X3_tellBearer_19 ?_
    refine ev_iconst (v := 1) dc_X3_tellBearer_20 (by decide) ?_
    refine ev_isub dc_X3_tellBearer_21 ?_
    refine ev_putI dc_X3_tellBearer_22 fi_X3_21 rfl i0 ?_
    cases h
    exact ev_vret dc_X3_tellBearer_25 rfl rfl rfl
  · cases h
    exact ev_vret dc_X3_tellBearer_25 rfl rfl rfl
theorem dc_X4_forget_0 : Dc miX4_forget 0 (.aload_n 0) 1 1 := ⟨by decide +kernel, rfl⟩
theorem dc_X4_forget_1 : Dc miX4_forget 1 (.iconst 0) 1 2 := ⟨by decide +kernel, rfl⟩
theorem dc_X4_forget_2 : Dc miX4_forget 2 (.putfield 7) 3 5 := ⟨by decide +kernel, rfl⟩
theorem dc_X4_forget_5 : Dc miX4_forget 5 (.return_) 1 6 := ⟨by decide +kernel, rfl⟩
def fX4_forget (N : Nat) (G : pG) (a0 : Nat) (σ : pS) : Option (pS) := some (putF σ a0 0 (0 : Int32))
set_option maxRecDepth 100000 in
set_option maxHeartbeats 4000000 in
theorem tX4_forget {N : Nat} {G : pG} {SK : Nat → Nat} {a0 : Nat} {σ : pS} {r : pS} (hW : WT G) (i0 : Is G a0 4) (h : fX4_forget N G a0 σ = some r) : Dn miX4_forget yX4_forget 1 G SK [.ref a0] σ none r := by
  unfold fX4_forget at h
  refine dn_of (lv := [some (.ref a0)]) (by decide) rfl rfl (Nat.le_of_ble_eq_true rfl) rfl ?_
  refine ev_aload_n dc_X4_forget_0 rfl ?_
  refine ev_iconst (v := 0) dc_X4_forget_1 (by decide) ?_
  refine ev_putI dc_X4_forget_2 fi_X4_7 rfl i0 ?_
  cases h
  exact ev_vret dc_X4_forget_5 rfl rfl rfl
theorem dc_X4_newestRow_0 : Dc miX4_newestRow 0 (.aload_n 0) 1 1 := ⟨by decide +kernel, rfl⟩
theorem dc_X4_newestRow_1 : Dc miX4_newestRow 1 (.getfield 13) 3 4 := ⟨by decide +kernel, rfl⟩
theorem dc_X4_newestRow_4 : Dc miX4_newestRow 4 (.ifCond .lt 24) 3 7 := ⟨by decide +kernel, rfl⟩
theorem dc_X4_newestRow_7 : Dc miX4_newestRow 7 (.aload_n 0) 1 8 := ⟨by decide +kernel, rfl⟩
theorem dc_X4_newestRow_8 : Dc miX4_newestRow 8 (.getfield 13) 3 11 := ⟨by decide +kernel, rfl⟩
theorem dc_X4_newestRow_11 : Dc miX4_newestRow 11 (.bipush 12) 2 13 := ⟨by decide +kernel, rfl⟩
theorem dc_X4_newestRow_13 : Dc miX4_newestRow 13 (.if_icmp .ge 15) 3 16 := ⟨by decide +kernel, rfl⟩
theorem dc_X4_newestRow_16 : Dc miX4_newestRow 16 (.aload_n 0) 1 17 := ⟨by decide +kernel, rfl⟩
theorem dc_X4_newestRow_17 : Dc miX4_newestRow 17 (.getfield 18) 3 20 := ⟨by decide +kernel, rfl⟩
theorem dc_X4_newestRow_20 : Dc miX4_newestRow 20 (.aload_n 0) 1 21 := ⟨by decide +kernel, rfl⟩
theorem dc_X4_newestRow_21 : Dc miX4_newestRow 21 (.getfield 13) 3 24 := ⟨by decide +kernel, rfl⟩
theorem dc_X4_newestRow_24 : Dc miX4_newestRow 24 (.aaload) 1 25 := ⟨by decide +kernel, rfl⟩
theorem dc_X4_newestRow_25 : Dc miX4_newestRow 25 (.goto 4) 3 28 := ⟨by decide +kernel, rfl⟩
theorem dc_X4_newestRow_28 : Dc miX4_newestRow 28 (.aconst_null) 1 29 := ⟨by decide +kernel, rfl⟩
theorem dc_X4_newestRow_29 : Dc miX4_newestRow 29 (.areturn) 1 30 := ⟨by decide +kernel, rfl⟩
def fX4_newestRow (N : Nat) (G : pG) (a0 : Nat) (σ : pS) : Option (Option Nat) := if (σ.1 a0 1) < 0 then (some (none)) else (if (12 : Int32) ≤ (σ.1 a0 1) then (some (none)) else (ck (inB (σ.1 a0 1) (pN G (pR G a0 2))) (some (some (pQ G (pR G a0 2) (σ.1 a0 1).toNatClampNeg)))))
set_option maxRecDepth 100000 in
set_option maxHeartbeats 4000000 in
theorem tX4_newestRow {N : Nat} {G : pG} {SK : Nat → Nat} {a0 : Nat} {σ : pS} {r : Option Nat} (hW : WT G) (i0 : Is G a0 4) (h : fX4_newestRow N G a0 σ = some r) : Dn miX4_newestRow yX4_newestRow 1 G SK [.ref a0] σ (some (va_rf r)) σ := by
  unfold fX4_newestRow at h
  refine dn_of (lv := [some (.ref a0)]) (by decide) rfl rfl (Nat.le_of_ble_eq_true rfl) rfl ?_
  refine ev_aload_n dc_X4_newestRow_0 rfl ?_
  refine ev_getI dc_X4_newestRow_1 fi_X4_13 rfl i0 ?_
  refine ev_if_lt (tgt := 28) dc_X4_newestRow_4 (by decide) h (fun h => ?_) (fun h => ?_)
  · refine ev_null dc_X4_newestRow_28 ?_
    cases h
    exact ev_aret (a := none) dc_X4_newestRow_29 rfl rfl rfl
  · refine ev_aload_n dc_X4_newestRow_7 rfl ?_
    refine ev_getI dc_X4_newestRow_8 fi_X4_13 rfl i0 ?_
    refine ev_bipush (v := 12) dc_X4_newestRow_11 (by decide) ?_
    refine ev_icmp_ge (tgt := 28) dc_X4_newestRow_13 (by decide) h (fun h => ?_) (fun h => ?_)
    · refine ev_null dc_X4_newestRow_28 ?_
      cases h
      exact ev_aret (a := none) dc_X4_newestRow_29 rfl rfl rfl
    · refine ev_aload_n dc_X4_newestRow_16 rfl ?_
      refine ev_getR dc_X4_newestRow_17 fi_X4_18 rfl i0 ?_
      refine ev_aload_n dc_X4_newestRow_20 rfl ?_
      refine ev_getI dc_X4_newestRow_21 fi_X4_13 rfl i0 ?_
      have hb1 := (ck_s h).1
      refine ev_aald dc_X4_newestRow_24 (wt hW i0 2 rfl rfl) h (fun h => ?_)
      refine ev_goto (tgt := 29) dc_X4_newestRow_25 (by decide) ?_
      cases h
      exact ev_aret (a := some (pQ G (pR G a0 2) (σ.1 a0 1).toNatClampNeg)) dc_X4_newestRow_29 rfl rfl rfl
theorem nrIs {N : Nat} {G : pG} {a0 z : Nat} {σ : pS} (hW : WT G) (i0 : Is G a0 4) (h : fX4_newestRow N G a0 σ = some (some z)) : Is G z 3 := by
  unfold fX4_newestRow at h
  split at h
  · cases h
  · split at h
    · cases h
    · obtain ⟨hb, h⟩ := ck_s h
      cases h
      exact wq hW (wt hW i0 2 rfl rfl) hb
theorem dc_X4_recall_0 : Dc miX4_recall 0 (.aload_n 0) 1 1 := ⟨by decide +kernel, rfl⟩
theorem dc_X4_recall_1 : Dc miX4_recall 1 (.invokevirtual 23) 3 4 := ⟨by decide +kernel, rfl⟩
theorem dc_X4_recall_4 : Dc miX4_recall 4 (.astore_n 2) 1 5 := ⟨by decide +kernel, rfl⟩
theorem dc_X4_recall_5 : Dc miX4_recall 5 (.aload_n 0) 1 6 := ⟨by decide +kernel, rfl⟩
theorem dc_X4_recall_6 : Dc miX4_recall 6 (.getfield 7) 3 9 := ⟨by decide +kernel, rfl⟩
theorem dc_X4_recall_9 : Dc miX4_recall 9 (.ifCond .eq 7) 3 12 := ⟨by decide +kernel, rfl⟩
theorem dc_X4_recall_12 : Dc miX4_recall 12 (.aload_n 2) 1 13 := ⟨by decide +kernel, rfl⟩
theorem dc_X4_recall_13 : Dc miX4_recall 13 (.ifnonnull 5) 3 16 := ⟨by decide +kernel, rfl⟩
theorem dc_X4_recall_16 : Dc miX4_recall 16 (.iconst 0) 1 17 := ⟨by decide +kernel, rfl⟩
theorem dc_X4_recall_17 : Dc miX4_recall 17 (.ireturn) 1 18 := ⟨by decide +kernel, rfl⟩
theorem dc_X4_recall_18 : Dc miX4_recall 18 (.aload_n 1) 1 19 := ⟨by decide +kernel, rfl⟩
theorem dc_X4_recall_19 : Dc miX4_recall 19 (.aload_n 2) 1 20 := ⟨by decide +kernel, rfl⟩
theorem dc_X4_recall_20 : Dc miX4_recall 20 (.invokevirtual 27) 3 23 := ⟨by decide +kernel, rfl⟩
theorem dc_X4_recall_23 : Dc miX4_recall 23 (.aload_n 0) 1 24 := ⟨by decide +kernel, rfl⟩
theorem dc_X4_recall_24 : Dc miX4_recall 24 (.aload_n 0) 1 25 := ⟨by decide +kernel, rfl⟩
theorem dc_X4_recall_25 : Dc miX4_recall 25 (.getfield 13) 3 28 := ⟨by decide +kernel, rfl⟩
theorem dc_X4_recall_28 : Dc miX4_recall 28 (.ifCond .le 12) 3 31 := ⟨by decide +kernel, rfl⟩
theorem dc_X4_recall_31 : Dc miX4_recall 31 (.aload_n 0) 1 32 := ⟨by decide +kernel, rfl⟩
theorem dc_X4_recall_32 : Dc miX4_recall 32 (.getfield 13) 3 35 := ⟨by decide +kernel, rfl⟩
theorem dc_X4_recall_35 : Dc miX4_recall 35 (.iconst 1) 1 36 := ⟨by decide +kernel, rfl⟩
theorem dc_X4_recall_36 : Dc miX4_recall 36 (.isub) 1 37 := ⟨by decide +kernel, rfl⟩
theorem dc_X4_recall_37 : Dc miX4_recall 37 (.goto 5) 3 40 := ⟨by decide +kernel, rfl⟩
theorem dc_X4_recall_40 : Dc miX4_recall 40 (.bipush 11) 2 42 := ⟨by decide +kernel, rfl⟩
theorem dc_X4_recall_42 : Dc miX4_recall 42 (.putfield 13) 3 45 := ⟨by decide +kernel, rfl⟩
theorem dc_X4_recall_45 : Dc miX4_recall 45 (.aload_n 0) 1 46 := ⟨by decide +kernel, rfl⟩
theorem dc_X4_recall_46 : Dc miX4_recall 46 (.dup) 1 47 := ⟨by decide +kernel, rfl⟩
theorem dc_X4_recall_47 : Dc miX4_recall 47 (.getfield 7) 3 50 := ⟨by decide +kernel, rfl⟩
theorem dc_X4_recall_50 : Dc miX4_recall 50 (.iconst 1) 1 51 := ⟨by decide +kernel, rfl⟩
theorem dc_X4_recall_51 : Dc miX4_recall 51 (.isub) 1 52 := ⟨by decide +kernel, rfl⟩
theorem dc_X4_recall_52 : Dc miX4_recall 52 (.putfield 7) 3 55 := ⟨by decide +kernel, rfl⟩
theorem dc_X4_recall_55 : Dc miX4_recall 55 (.iconst 1) 1 56 := ⟨by decide +kernel, rfl⟩
theorem dc_X4_recall_56 : Dc miX4_recall 56 (.ireturn) 1 57 := ⟨by decide +kernel, rfl⟩
def fX4_recall_b42 (N : Nat) (G : pG) (a0 : Nat) (y1 : Int32) (σ : pS) : Option (Int32 × pS) := some ((1 : Int32), putF (putF σ a0 1 y1) a0 0 (((putF σ a0 1 y1).1 a0 0) - (1 : Int32)))
set_option maxRecDepth 100000 in
set_option maxHeartbeats 4000000 in
theorem tX4_recall_b42 {N : Nat} {G : pG} {SK : Nat → Nat} {a0 : Nat} {y1 : Int32} {σ : pS} {r : Int32 × pS} (hW : WT G) (i0 : Is G a0 4) (h : fX4_recall_b42 N G a0 y1 σ = some r) : Ev miX4_recall (3, 0, 0) G (Zp G (some (.int r.1)) r.2) SK (0, 0) 42 [some (.ref a0), none, none] [.int y1, .ref a0] σ := by
  unfold fX4_recall_b42 at h
  refine ev_putI dc_X4_recall_42 fi_X4_13 rfl i0 ?_
  refine ev_aload_n dc_X4_recall_45 rfl ?_
  refine ev_dup dc_X4_recall_46 rfl ?_
  refine ev_getI dc_X4_recall_47 fi_X4_7 rfl i0 ?_
  refine ev_iconst (v := 1) dc_X4_recall_50 (by decide) ?_
  refine ev_isub dc_X4_recall_51 ?_
  refine ev_putI dc_X4_recall_52 fi_X4_7 rfl i0 ?_
  refine ev_iconst (v := 1) dc_X4_recall_55 (by decide) ?_
  cases h
  exact ev_zretc dc_X4_recall_56 rfl rfl rfl rfl
def fX4_recall (N : Nat) (G : pG) (a0 : Nat) (a1 : Nat) (σ : pS) : Option (Int32 × pS) := (fX4_newestRow N G a0 σ).bind (fun q1 => q1.elim (if (σ.1 a0 0) = 0 then (some ((0 : Int32), σ)) else (some ((0 : Int32), σ))) (fun zs2 => if (σ.1 a0 0) = 0 then (some ((0 : Int32), σ)) else ((fX3_copyFrom N G a1 zs2 σ).bind (fun q3 => if (q3.1 a0 1) ≤ 0 then (fX4_recall_b42 N G a0 (11 : Int32) q3) else (fX4_recall_b42 N G a0 ((q3.1 a0 1) - (1 : Int32)) q3)))))
set_option maxRecDepth 100000 in
set_option maxHeartbeats 4000000 in
theorem tX4_recall {N : Nat} {G : pG} {SK : Nat → Nat} {a0 : Nat} {a1 : Nat} {σ : pS} {r : Int32 × pS} (hW : WT G) (i0 : Is G a0 4) (i1 : Is G a1 3) (h : fX4_recall N G a0 a1 σ = some r) : Dn miX4_recall yX4_recall 3 G SK [.ref a0, .ref a1] σ (some (.int r.1)) r.2 := by
  unfold fX4_recall at h
  refine dn_of (lv := [some (.ref a0), some (.ref a1), none]) (by decide) rfl rfl (Nat.le_of_ble_eq_true rfl) rfl ?_
  refine ev_aload_n dc_X4_recall_0 rfl ?_
  obtain ⟨q1, hq1, h⟩ := Option.bind_eq_some_iff.mp h
  refine ev_callV (av := []) (st := []) (st1 := [va_rf q1]) dc_X4_recall_1 (tX4_newestRow hW i0 hq1) mw_622 cy_X4_newestRow i0 (by decide) rfl rfl rfl rfl (Nat.le_of_ble_eq_true rfl) (Nat.le_of_ble_eq_true rfl) ⟨Nat.le_refl _, Nat.le_refl _⟩ ?_
  rcases q1 with _ | zs2
  · dsimp only [Option.elim] at h
    refine ev_astore_nN (lv' := [some (.ref a0), some (.ref a1), some (.null)]) dc_X4_recall_4 rfl (by decide) rfl ?_
    refine ev_aload_n dc_X4_recall_5 rfl ?_
    refine ev_getI dc_X4_recall_6 fi_X4_7 rfl i0 ?_
    refine ev_if_eq (tgt := 16) dc_X4_recall_9 (by decide) h (fun h => ?_) (fun h => ?_)
    · refine ev_iconst (v := 0) dc_X4_recall_16 (by decide) ?_
      cases h
      exact ev_zretc dc_X4_recall_17 rfl rfl rfl rfl
    · refine ev_aload_nN dc_X4_recall_12 rfl ?_
      refine ev_ifnonnullN dc_X4_recall_13 ?_
      refine ev_iconst (v := 0) dc_X4_recall_16 (by decide) ?_
      cases h
      exact ev_zretc dc_X4_recall_17 rfl rfl rfl rfl
  · dsimp only [Option.elim] at h
    have izs2 := nrIs hW i0 hq1
    refine ev_astore_n (lv' := [some (.ref a0), some (.ref a1), some (.ref zs2)]) dc_X4_recall_4 rfl (by decide) rfl ?_
    refine ev_aload_n dc_X4_recall_5 rfl ?_
    refine ev_getI dc_X4_recall_6 fi_X4_7 rfl i0 ?_
    refine ev_if_eq (tgt := 16) dc_X4_recall_9 (by decide) h (fun h => ?_) (fun h => ?_)
    · refine ev_iconst (v := 0) dc_X4_recall_16 (by decide) ?_
      cases h
      exact ev_zretc dc_X4_recall_17 rfl rfl rfl rfl
    · refine ev_aload_n dc_X4_recall_12 rfl ?_
      refine ev_ifnonnull (tgt := 18) dc_X4_recall_13 (by decide) ?_
      refine ev_aload_n dc_X4_recall_18 rfl ?_
      refine ev_aload_n dc_X4_recall_19 rfl ?_
      obtain ⟨q3, hq3, h⟩ := Option.bind_eq_some_iff.mp h
      refine ev_callV (av := [.ref zs2]) (st := []) (st1 := []) dc_X4_recall_20 (tX3_copyFrom hW i1 izs2 hq3) mw_626 cy_X3_copyFrom i1 (by decide) rfl rfl rfl rfl (Nat.le_of_ble_eq_true rfl) (Nat.le_of_ble_eq_true rfl) ⟨Nat.le_refl _, Nat.le_refl _⟩ ?_
      refine ev_aload_n dc_X4_recall_23 rfl ?_
      refine ev_aload_n dc_X4_recall_24 rfl ?_
      refine ev_getI dc_X4_recall_25 fi_X4_13 rfl i0 ?_
      refine ev_if_le (tgt := 40) dc_X4_recall_28 (by decide) h (fun h => ?_) (fun h => ?_)
      · refine ev_bipush (v := 11) dc_X4_recall_40 (by decide) ?_
        exact ev_sub (tX4_recall_b42 hW i0 h) (And.intro rfl trivial)
      · refine ev_aload_n dc_X4_recall_31 rfl ?_
        refine ev_getI dc_X4_recall_32 fi_X4_13 rfl i0 ?_
        refine ev_iconst (v := 1) dc_X4_recall_35 (by decide) ?_
        refine ev_isub dc_X4_recall_36 ?_
        refine ev_goto (tgt := 42) dc_X4_recall_37 (by decide) ?_
        exact ev_sub (tX4_recall_b42 hW i0 h) (And.intro rfl trivial)
theorem dc_X4_remember_0 : Dc miX4_remember 0 (.aload_n 0) 1 1 := ⟨by decide +kernel, rfl⟩
theorem dc_X4_remember_1 : Dc miX4_remember 1 (.aload_n 0) 1 2 := ⟨by decide +kernel, rfl⟩
theorem dc_X4_remember_2 : Dc miX4_remember 2 (.getfield 13) 3 5 := ⟨by decide +kernel, rfl⟩
theorem dc_X4_remember_5 : Dc miX4_remember 5 (.iconst 1) 1 6 := ⟨by decide +kernel, rfl⟩
theorem dc_X4_remember_6 : Dc miX4_remember 6 (.iadd) 1 7 := ⟨by decide +kernel, rfl⟩
theorem dc_X4_remember_7 : Dc miX4_remember 7 (.bipush 12) 2 9 := ⟨by decide +kernel, rfl⟩
theorem dc_X4_remember_9 : Dc miX4_remember 9 (.if_icmp .ge 12) 3 12 := ⟨by decide +kernel, rfl⟩
theorem dc_X4_remember_12 : Dc miX4_remember 12 (.aload_n 0) 1 13 := ⟨by decide +kernel, rfl⟩
theorem dc_X4_remember_13 : Dc miX4_remember 13 (.getfield 13) 3 16 := ⟨by decide +kernel, rfl⟩
theorem dc_X4_remember_16 : Dc miX4_remember 16 (.iconst 1) 1 17 := ⟨by decide +kernel, rfl⟩
theorem dc_X4_remember_17 : Dc miX4_remember 17 (.iadd) 1 18 := ⟨by decide +kernel, rfl⟩
theorem dc_X4_remember_18 : Dc miX4_remember 18 (.goto 4) 3 21 := ⟨by decide +kernel, rfl⟩
theorem dc_X4_remember_21 : Dc miX4_remember 21 (.iconst 0) 1 22 := ⟨by decide +kernel, rfl⟩
theorem dc_X4_remember_22 : Dc miX4_remember 22 (.putfield 13) 3 25 := ⟨by decide +kernel, rfl⟩
theorem dc_X4_remember_25 : Dc miX4_remember 25 (.aload_n 0) 1 26 := ⟨by decide +kernel, rfl⟩
theorem dc_X4_remember_26 : Dc miX4_remember 26 (.aload_n 0) 1 27 := ⟨by decide +kernel, rfl⟩
theorem dc_X4_remember_27 : Dc miX4_remember 27 (.getfield 7) 3 30 := ⟨by decide +kernel, rfl⟩
theorem dc_X4_remember_30 : Dc miX4_remember 30 (.bipush 12) 2 32 := ⟨by decide +kernel, rfl⟩
theorem dc_X4_remember_32 : Dc miX4_remember 32 (.if_icmp .ge 12) 3 35 := ⟨by decide +kernel, rfl⟩
theorem dc_X4_remember_35 : Dc miX4_remember 35 (.aload_n 0) 1 36 := ⟨by decide +kernel, rfl⟩
theorem dc_X4_remember_36 : Dc miX4_remember 36 (.getfield 7) 3 39 := ⟨by decide +kernel, rfl⟩
theorem dc_X4_remember_39 : Dc miX4_remember 39 (.iconst 1) 1 40 := ⟨by decide +kernel, rfl⟩
theorem dc_X4_remember_40 : Dc miX4_remember 40 (.iadd) 1 41 := ⟨by decide +kernel, rfl⟩
theorem dc_X4_remember_41 : Dc miX4_remember 41 (.goto 5) 3 44 := ⟨by decide +kernel, rfl⟩
theorem dc_X4_remember_44 : Dc miX4_remember 44 (.bipush 12) 2 46 := ⟨by decide +kernel, rfl⟩
theorem dc_X4_remember_46 : Dc miX4_remember 46 (.putfield 7) 3 49 := ⟨by decide +kernel, rfl⟩
theorem dc_X4_remember_49 : Dc miX4_remember 49 (.aload_n 0) 1 50 := ⟨by decide +kernel, rfl⟩
theorem dc_X4_remember_50 : Dc miX4_remember 50 (.invokevirtual 23) 3 53 := ⟨by decide +kernel, rfl⟩
theorem dc_X4_remember_53 : Dc miX4_remember 53 (.astore_n 2) 1 54 := ⟨by decide +kernel, rfl⟩
theorem dc_X4_remember_54 : Dc miX4_remember 54 (.aload_n 2) 1 55 := ⟨by decide +kernel, rfl⟩
theorem dc_X4_remember_55 : Dc miX4_remember 55 (.ifnull 8) 3 58 := ⟨by decide +kernel, rfl⟩
theorem dc_X4_remember_58 : Dc miX4_remember 58 (.aload_n 2) 1 59 := ⟨by decide +kernel, rfl⟩
theorem dc_X4_remember_59 : Dc miX4_remember 59 (.aload_n 1) 1 60 := ⟨by decide +kernel, rfl⟩
theorem dc_X4_remember_60 : Dc miX4_remember 60 (.invokevirtual 27) 3 63 := ⟨by decide +kernel, rfl⟩
theorem dc_X4_remember_63 : Dc miX4_remember 63 (.return_) 1 64 := ⟨by decide +kernel, rfl⟩
def fX4_remember_b46 (N : Nat) (G : pG) (a0 : Nat) (a1 : Nat) (y1 : Int32) (σ : pS) : Option (pS) := (fX4_newestRow N G a0 (putF σ a0 0 y1)).bind (fun q1 => q1.elim (some (putF σ a0 0 y1)) (fun zs2 => (fX3_copyFrom N G zs2 a1 (putF σ a0 0 y1)).bind (fun q3 => some q3)))
set_option maxRecDepth 100000 in
set_option maxHeartbeats 4000000 in
theorem tX4_remember_b46 {N : Nat} {G : pG} {SK : Nat → Nat} {a0 : Nat} {a1 : Nat} {y1 : Int32} {σ : pS} {r : pS} (hW : WT G) (i0 : Is G a0 4) (i1 : Is G a1 3) (h : fX4_remember_b46 N G a0 a1 y1 σ = some r) : Ev miX4_remember (3, 0, 0) G (Zp G none r) SK (0, 0) 46 [some (.ref a0), some (.ref a1), none] [.int y1, .ref a0] σ := by
  unfold fX4_remember_b46 at h
  refine ev_putI dc_X4_remember_46 fi_X4_7 rfl i0 ?_
  refine ev_aload_n dc_X4_remember_49 rfl ?_
  obtain ⟨q1, hq1, h⟩ := Option.bind_eq_some_iff.mp h
  refine ev_callV (av := []) (st := []) (st1 := [va_rf q1]) dc_X4_remember_50 (tX4_newestRow hW i0 hq1) mw_622 cy_X4_newestRow i0 (by decide) rfl rfl rfl rfl (Nat.le_of_ble_eq_true rfl) (Nat.le_of_ble_eq_true rfl) ⟨Nat.le_refl _, Nat.le_refl _⟩ ?_
  rcases q1 with _ | zs2
  · dsimp only [Option.elim] at h
    refine ev_astore_nN (lv' := [some (.ref a0), some (.ref a1), some (.null)]) dc_X4_remember_53 rfl (by decide) rfl ?_
    refine ev_aload_nN dc_X4_remember_54 rfl ?_
    refine ev_ifnullN (tgt := 63) dc_X4_remember_55 (by decide) ?_
    cases h
    exact ev_vret dc_X4_remember_63 rfl rfl rfl
  · dsimp only [Option.elim] at h
    have izs2 := nrIs hW i0 hq1
    refine ev_astore_n (lv' := [some (.ref a0), some (.ref a1), some (.ref zs2)]) dc_X4_remember_53 rfl (by decide) rfl ?_
    refine ev_aload_n dc_X4_remember_54 rfl ?_
    refine ev_ifnull dc_X4_remember_55 ?_
    refine ev_aload_n dc_X4_remember_58 rfl ?_
    refine ev_aload_n dc_X4_remember_59 rfl ?_
    obtain ⟨q3, hq3, h⟩ := Option.bind_eq_some_iff.mp h
    refine ev_callV (av := [.ref a1]) (st := []) (st1 := []) dc_X4_remember_60 (tX3_copyFrom hW izs2 i1 hq3) mw_626 cy_X3_copyFrom izs2 (by decide) rfl rfl rfl rfl (Nat.le_of_ble_eq_true rfl) (Nat.le_of_ble_eq_true rfl) ⟨Nat.le_refl _, Nat.le_refl _⟩ ?_
    cases h
    exact ev_vret dc_X4_remember_63 rfl rfl rfl
def fX4_remember_b22 (N : Nat) (G : pG) (a0 : Nat) (a1 : Nat) (y1 : Int32) (σ : pS) : Option (pS) := if (12 : Int32) ≤ ((putF σ a0 1 y1).1 a0 0) then (fX4_remember_b46 N G a0 a1 (12 : Int32) (putF σ a0 1 y1)) else (fX4_remember_b46 N G a0 a1 (((putF σ a0 1 y1).1 a0 0) + (1 : Int32)) (putF σ a0 1 y1))
set_option maxRecDepth 100000 in
set_option maxHeartbeats 4000000 in
theorem tX4_remember_b22 {N : Nat} {G : pG} {SK : Nat → Nat} {a0 : Nat} {a1 : Nat} {y1 : Int32} {σ : pS} {r : pS} (hW : WT G) (i0 : Is G a0 4) (i1 : Is G a1 3) (h : fX4_remember_b22 N G a0 a1 y1 σ = some r) : Ev miX4_remember (3, 0, 0) G (Zp G none r) SK (0, 0) 22 [some (.ref a0), some (.ref a1), none] [.int y1, .ref a0] σ := by
  unfold fX4_remember_b22 at h
  refine ev_putI dc_X4_remember_22 fi_X4_13 rfl i0 ?_
  refine ev_aload_n dc_X4_remember_25 rfl ?_
  refine ev_aload_n dc_X4_remember_26 rfl ?_
  refine ev_getI dc_X4_remember_27 fi_X4_7 rfl i0 ?_
  refine ev_bipush (v := 12) dc_X4_remember_30 (by decide) ?_
  refine ev_icmp_ge (tgt := 44) dc_X4_remember_32 (by decide) h (fun h => ?_) (fun h => ?_)
  · refine ev_bipush (v := 12) dc_X4_remember_44 (by decide) ?_
    exact ev_sub (tX4_remember_b46 hW i0 i1 h) (And.intro rfl (And.intro rfl trivial))
  · refine ev_aload_n dc_X4_remember_35 rfl ?_
    refine ev_getI dc_X4_remember_36 fi_X4_7 rfl i0 ?_
    refine ev_iconst (v := 1) dc_X4_remember_39 (by decide) ?_
    refine ev_iadd dc_X4_remember_40 ?_
    refine ev_goto (tgt := 46) dc_X4_remember_41 (by decide) ?_
    exact ev_sub (tX4_remember_b46 hW i0 i1 h) (And.intro rfl (And.intro rfl trivial))
def fX4_remember (N : Nat) (G : pG) (a0 : Nat) (a1 : Nat) (σ : pS) : Option (pS) := if (12 : Int32) ≤ ((σ.1 a0 1) + (1 : Int32)) then (fX4_remember_b22 N G a0 a1 (0 : Int32) σ) else (fX4_remember_b22 N G a0 a1 ((σ.1 a0 1) + (1 : Int32)) σ)
set_option maxRecDepth 100000 in
set_option maxHeartbeats 4000000 in
theorem tX4_remember {N : Nat} {G : pG} {SK : Nat → Nat} {a0 : Nat} {a1 : Nat} {σ : pS} {r : pS} (hW : WT G) (i0 : Is G a0 4) (i1 : Is G a1 3) (h : fX4_remember N G a0 a1 σ = some r) : Dn miX4_remember yX4_remember 3 G SK [.ref a0, .ref a1] σ none r := by
  unfold fX4_remember at h
  refine dn_of (lv := [some (.ref a0), some (.ref a1), none]) (by decide) rfl rfl (Nat.le_of_ble_eq_true rfl) rfl ?_
  refine ev_aload_n dc_X4_remember_0 rfl ?_
  refine ev_aload_n dc_X4_remember_1 rfl ?_
  refine ev_getI dc_X4_remember_2 fi_X4_13 rfl i0 ?_
  refine ev_iconst (v := 1) dc_X4_remember_5 (by decide) ?_
  refine ev_iadd dc_X4_remember_6 ?_
  refine ev_bipush (v := 12) dc_X4_remember_7 (by decide) ?_
  refine ev_icmp_ge (tgt := 21) dc_X4_remember_9 (by decide) h (fun h => ?_) (fun h => ?_)
  · refine ev_iconst (v := 0) dc_X4_remember_21 (by decide) ?_
    exact ev_sub (tX4_remember_b22 hW i0 i1 h) (And.intro rfl (And.intro rfl trivial))
  · refine ev_aload_n dc_X4_remember_12 rfl ?_
    refine ev_getI dc_X4_remember_13 fi_X4_13 rfl i0 ?_
    refine ev_iconst (v := 1) dc_X4_remember_16 (by decide) ?_
    refine ev_iadd dc_X4_remember_17 ?_
    refine ev_goto (tgt := 22) dc_X4_remember_18 (by decide) ?_
    exact ev_sub (tX4_remember_b22 hW i0 i1 h) (And.intro rfl (And.intro rfl trivial))
theorem dc_X8_addDeed_0 : Dc miX8_addDeed 0 (.aload_n 0) 1 1 := ⟨by decide +kernel, rfl⟩
theorem dc_X8_addDeed_1 : Dc miX8_addDeed 1 (.getfield 21) 3 4 := ⟨by decide +kernel, rfl⟩
theorem dc_X8_addDeed_4 : Dc miX8_addDeed 4 (.ifCond .lt 41) 3 7 := ⟨by decide +kernel, rfl⟩
theorem dc_X8_addDeed_7 : Dc miX8_addDeed 7 (.aload_n 0) 1 8 := ⟨by decide +kernel, rfl⟩
theorem dc_X8_addDeed_8 : Dc miX8_addDeed 8 (.getfield 21) 3 11 := ⟨by decide +kernel, rfl⟩
theorem dc_X8_addDeed_11 : Dc miX8_addDeed 11 (.iconst 4) 1 12 := ⟨by decide +kernel, rfl⟩
theorem dc_X8_addDeed_12 : Dc miX8_addDeed 12 (.if_icmp .ge 33) 3 15 := ⟨by decide +kernel, rfl⟩
theorem dc_X8_addDeed_15 : Dc miX8_addDeed 15 (.aload_n 0) 1 16 := ⟨by decide +kernel, rfl⟩
theorem dc_X8_addDeed_16 : Dc miX8_addDeed 16 (.getfield 55) 3 19 := ⟨by decide +kernel, rfl⟩
theorem dc_X8_addDeed_19 : Dc miX8_addDeed 19 (.aload_n 0) 1 20 := ⟨by decide +kernel, rfl⟩
theorem dc_X8_addDeed_20 : Dc miX8_addDeed 20 (.getfield 21) 3 23 := ⟨by decide +kernel, rfl⟩
theorem dc_X8_addDeed_23 : Dc miX8_addDeed 23 (.iload_n 1) 1 24 := ⟨by decide +kernel, rfl⟩
theorem dc_X8_addDeed_24 : Dc miX8_addDeed 24 (.iastore) 1 25 := ⟨by decide +kernel, rfl⟩
theorem dc_X8_addDeed_25 : Dc miX8_addDeed 25 (.aload_n 0) 1 26 := ⟨by decide +kernel, rfl⟩
theorem dc_X8_addDeed_26 : Dc miX8_addDeed 26 (.getfield 58) 3 29 := ⟨by decide +kernel, rfl⟩
theorem dc_X8_addDeed_29 : Dc miX8_addDeed 29 (.aload_n 0) 1 30 := ⟨by decide +kernel, rfl⟩
theorem dc_X8_addDeed_30 : Dc miX8_addDeed 30 (.getfield 21) 3 33 := ⟨by decide +kernel, rfl⟩
theorem dc_X8_addDeed_33 : Dc miX8_addDeed 33 (.iload_n 2) 1 34 := ⟨by decide +kernel, rfl⟩
theorem dc_X8_addDeed_34 : Dc miX8_addDeed 34 (.iastore) 1 35 := ⟨by decide +kernel, rfl⟩
theorem dc_X8_addDeed_35 : Dc miX8_addDeed 35 (.aload_n 0) 1 36 := ⟨by decide +kernel, rfl⟩
theorem dc_X8_addDeed_36 : Dc miX8_addDeed 36 (.dup) 1 37 := ⟨by decide +kernel, rfl⟩
theorem dc_X8_addDeed_37 : Dc miX8_addDeed 37 (.getfield 21) 3 40 := ⟨by decide +kernel, rfl⟩
theorem dc_X8_addDeed_40 : Dc miX8_addDeed 40 (.iconst 1) 1 41 := ⟨by decide +kernel, rfl⟩
theorem dc_X8_addDeed_41 : Dc miX8_addDeed 41 (.iadd) 1 42 := ⟨by decide +kernel, rfl⟩
theorem dc_X8_addDeed_42 : Dc miX8_addDeed 42 (.putfield 21) 3 45 := ⟨by decide +kernel, rfl⟩
theorem dc_X8_addDeed_45 : Dc miX8_addDeed 45 (.return_) 1 46 := ⟨by decide +kernel, rfl⟩
def fX8_addDeed (N : Nat) (G : pG) (a0 : Nat) (a1 : Int32) (a2 : Int32) (σ : pS) : Option (pS) := if (σ.1 a0 3) < 0 then (some σ) else (if (4 : Int32) ≤ (σ.1 a0 3) then (some σ) else (ck (inB (σ.1 a0 3) (pN G (pR G a0 14))) (ck (inB ((sA σ (pR G a0 14) (σ.1 a0 3) a1).1 a0 3) (pN G (pR G a0 15))) (some (putF (sA (sA σ (pR G a0 14) (σ.1 a0 3) a1) (pR G a0 15) ((sA σ (pR G a0 14) (σ.1 a0 3) a1).1 a0 3) a2) a0 3 (((sA (sA σ (pR G a0 14) (σ.1 a0 3) a1) (pR G a0 15) ((sA σ (pR G a0 14) (σ.1 a0 3) a1).1 a0 3) a2).1 a0 3) + (1 : Int32)))))))
set_option maxRecDepth 100000 in
set_option maxHeartbeats 4000000 in
theorem tX8_addDeed {N : Nat} {G : pG} {SK : Nat → Nat} {a0 : Nat} {a1 : Int32} {a2 : Int32} {σ : pS} {r : pS} (hW : WT G) (i0 : Is G a0 7) (h : fX8_addDeed N G a0 a1 a2 σ = some r) : Dn miX8_addDeed yX8_addDeed 1 G SK [.ref a0, .int a1, .int a2] σ none r := by
  unfold fX8_addDeed at h
  refine dn_of (lv := [some (.ref a0), some (.int a1), some (.int a2)]) (by decide) rfl rfl (Nat.le_of_ble_eq_true rfl) rfl ?_
  refine ev_aload_n dc_X8_addDeed_0 rfl ?_
  refine ev_getI dc_X8_addDeed_1 fi_X8_21 rfl i0 ?_
  refine ev_if_lt (tgt := 45) dc_X8_addDeed_4 (by decide) h (fun h => ?_) (fun h => ?_)
  · cases h
    exact ev_vret dc_X8_addDeed_45 rfl rfl rfl
  · refine ev_aload_n dc_X8_addDeed_7 rfl ?_
    refine ev_getI dc_X8_addDeed_8 fi_X8_21 rfl i0 ?_
    refine ev_iconst (v := 4) dc_X8_addDeed_11 (by decide) ?_
    refine ev_icmp_ge (tgt := 45) dc_X8_addDeed_12 (by decide) h (fun h => ?_) (fun h => ?_)
    · cases h
      exact ev_vret dc_X8_addDeed_45 rfl rfl rfl
    · refine ev_aload_n dc_X8_addDeed_15 rfl ?_
      refine ev_getR dc_X8_addDeed_16 fi_X8_55 rfl i0 ?_
      refine ev_aload_n dc_X8_addDeed_19 rfl ?_
      refine ev_getI dc_X8_addDeed_20 fi_X8_21 rfl i0 ?_
      refine ev_iload_n dc_X8_addDeed_23 rfl ?_
      refine ev_iast dc_X8_addDeed_24 (wt hW i0 14 rfl rfl) h (fun h => ?_)
      refine ev_aload_n dc_X8_addDeed_25 rfl ?_
      refine ev_getR dc_X8_addDeed_26 fi_X8_58 rfl i0 ?_
      refine ev_aload_n dc_X8_addDeed_29 rfl ?_
      refine ev_getI dc_X8_addDeed_30 fi_X8_21 rfl i0 ?_
      refine ev_iload_n dc_X8_addDeed_33 rfl ?_
      refine ev_iast dc_X8_addDeed_34 (wt hW i0 15 rfl rfl) h (fun h => ?_)
      refine ev_aload_n dc_X8_addDeed_35 rfl ?_
      refine ev_dup dc_X8_addDeed_36 rfl ?_
      refine ev_getI dc_X8_addDeed_37 fi_X8_21 rfl i0 ?_
      refine ev_iconst (v := 1) dc_X8_addDeed_40 (by decide) ?_
      refine ev_iadd dc_X8_addDeed_41 ?_
      refine ev_putI dc_X8_addDeed_42 fi_X8_21 rfl i0 ?_
      cases h
      exact ev_vret dc_X8_addDeed_45 rfl rfl rfl
