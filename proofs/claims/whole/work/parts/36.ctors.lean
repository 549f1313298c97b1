abbrev miX2_init : MI := (RX2, cX2_init, 1, none, [])
theorem ci_X2_init : CI miX2_init yX2_init 2 := ⟨rfl, mw_220, mw_7, mw_221, rfl, ⟨by decide, by decide, by decide⟩, by decide, mw_218, TX2, tyX2, rfl, inX2, tyX2_ok, by decide +kernel⟩
theorem dc_X2_init_0 : Dc miX2_init 0 (.aload_n 0) 1 1 := ⟨by decide +kernel, rfl⟩
theorem dc_X2_init_1 : Dc miX2_init 1 (.invokespecial 3) 3 4 := ⟨by decide +kernel, rfl⟩
theorem dc_X2_init_4 : Dc miX2_init 4 (.aload_n 0) 1 5 := ⟨by decide +kernel, rfl⟩
theorem dc_X2_init_5 : Dc miX2_init 5 (.iconst 0) 1 6 := ⟨by decide +kernel, rfl⟩
theorem dc_X2_init_6 : Dc miX2_init 6 (.putfield 9) 3 9 := ⟨by decide +kernel, rfl⟩
theorem dc_X2_init_9 : Dc miX2_init 9 (.aload_n 0) 1 10 := ⟨by decide +kernel, rfl⟩
theorem dc_X2_init_10 : Dc miX2_init 10 (.iconst 0) 1 11 := ⟨by decide +kernel, rfl⟩
theorem dc_X2_init_11 : Dc miX2_init 11 (.putfield 15) 3 14 := ⟨by decide +kernel, rfl⟩
theorem dc_X2_init_14 : Dc miX2_init 14 (.aload_n 0) 1 15 := ⟨by decide +kernel, rfl⟩
theorem dc_X2_init_15 : Dc miX2_init 15 (.bipush 60) 2 17 := ⟨by decide +kernel, rfl⟩
theorem dc_X2_init_17 : Dc miX2_init 17 (.newarray .int) 2 19 := ⟨by decide +kernel, rfl⟩
theorem dc_X2_init_19 : Dc miX2_init 19 (.putfield 18) 3 22 := ⟨by decide +kernel, rfl⟩
theorem dc_X2_init_22 : Dc miX2_init 22 (.return_) 1 23 := ⟨by decide +kernel, rfl⟩
def wX2 (a sz : Nat) : wF := fun cy => (a, .inr (2, [.int 0, .int 0, .ref (sz)])) :: (([(sz, .inl (cy 1, 60, .inl (fun _ => 0)))]))
set_option maxRecDepth 100000 in
set_option maxHeartbeats 4000000 in
theorem kX2 : Kn miX2_init yX2_init 2 1 60 2 wX2 := by
  refine kn_of (lv := fun a => [some (.ref a)]) (by decide) rfl rfl rfl (by decide) (fun _ => rfl) (fun SK a sz => ?_)
  refine k_aload_n dc_X2_init_0 rfl ?_
  refine k_obj dc_X2_init_1 mw_222 (Nat.le_of_ble_eq_true rfl) (Nat.le_of_ble_eq_true rfl) ?_
  refine k_aload_n dc_X2_init_4 rfl ?_
  refine k_iconst (v := 0) dc_X2_init_5 (by decide) ?_
  refine k_put (fs' := [.int 0, .int 0, .null]) dc_X2_init_6 fi_X2_9 rfl rfl (Nat.le_of_ble_eq_true rfl) rfl ?_
  refine k_aload_n dc_X2_init_9 rfl ?_
  refine k_iconst (v := 0) dc_X2_init_10 (by decide) ?_
  refine k_put (fs' := [.int 0, .int 0, .null]) dc_X2_init_11 fi_X2_15 rfl rfl (Nat.le_of_ble_eq_true rfl) rfl ?_
  refine k_aload_n dc_X2_init_14 rfl ?_
  refine k_bipush (v := 60) dc_X2_init_15 (by decide) ?_
  refine k_newa (ty := .int) (j := 1) (N := 60) dc_X2_init_17 mw_177 rfl (fun _ => rfl) rfl (fun _ _ h => h) (by decide) (by decide) (by decide) ⟨Nat.le_of_ble_eq_true rfl, Nat.le_of_ble_eq_true rfl⟩ ?_
  refine k_putF (fs' := [.int 0, .int 0, .ref (sz)]) dc_X2_init_19 fi_X2_18 (fun C9 T9 n9 h9 => by cases h9; rfl) rfl rfl (Nat.le_of_ble_eq_true rfl) rfl ?_
  exact k_vret dc_X2_init_22 rfl (fun _ => rfl) rfl ⟨Nat.le_of_ble_eq_true rfl, Nat.le_of_ble_eq_true rfl⟩
abbrev miX3_init : MI := (RX3, cX3_init, 1, none, [])
theorem ci_X3_init : CI miX3_init yX3_init 3 := ⟨rfl, mw_214, mw_6, mw_215, rfl, ⟨by decide, by decide, by decide⟩, by decide, mw_212, TX3, tyX3, rfl, inX3, tyX3_ok, by decide +kernel⟩
theorem dc_X3_init_0 : Dc miX3_init 0 (.aload_n 0) 1 1 := ⟨by decide +kernel, rfl⟩
theorem dc_X3_init_1 : Dc miX3_init 1 (.invokespecial 3) 3 4 := ⟨by decide +kernel, rfl⟩
theorem dc_X3_init_4 : Dc miX3_init 4 (.aload_n 0) 1 5 := ⟨by decide +kernel, rfl⟩
theorem dc_X3_init_5 : Dc miX3_init 5 (.iconst 0) 1 6 := ⟨by decide +kernel, rfl⟩
theorem dc_X3_init_6 : Dc miX3_init 6 (.putfield 9) 3 9 := ⟨by decide +kernel, rfl⟩
theorem dc_X3_init_9 : Dc miX3_init 9 (.aload_n 0) 1 10 := ⟨by decide +kernel, rfl⟩
theorem dc_X3_init_10 : Dc miX3_init 10 (.iconst 0) 1 11 := ⟨by decide +kernel, rfl⟩
theorem dc_X3_init_11 : Dc miX3_init 11 (.putfield 15) 3 14 := ⟨by decide +kernel, rfl⟩
theorem dc_X3_init_14 : Dc miX3_init 14 (.aload_n 0) 1 15 := ⟨by decide +kernel, rfl⟩
theorem dc_X3_init_15 : Dc miX3_init 15 (.iconst (-1)) 1 16 := ⟨by decide +kernel, rfl⟩
theorem dc_X3_init_16 : Dc miX3_init 16 (.putfield 18) 3 19 := ⟨by decide +kernel, rfl⟩
theorem dc_X3_init_19 : Dc miX3_init 19 (.aload_n 0) 1 20 := ⟨by decide +kernel, rfl⟩
theorem dc_X3_init_20 : Dc miX3_init 20 (.iconst 0) 1 21 := ⟨by decide +kernel, rfl⟩
theorem dc_X3_init_21 : Dc miX3_init 21 (.putfield 21) 3 24 := ⟨by decide +kernel, rfl⟩
theorem dc_X3_init_24 : Dc miX3_init 24 (.aload_n 0) 1 25 := ⟨by decide +kernel, rfl⟩
theorem dc_X3_init_25 : Dc miX3_init 25 (.iconst 0) 1 26 := ⟨by decide +kernel, rfl⟩
theorem dc_X3_init_26 : Dc miX3_init 26 (.putfield 24) 3 29 := ⟨by decide +kernel, rfl⟩
theorem dc_X3_init_29 : Dc miX3_init 29 (.aload_n 0) 1 30 := ⟨by decide +kernel, rfl⟩
theorem dc_X3_init_30 : Dc miX3_init 30 (.iconst 1) 1 31 := ⟨by decide +kernel, rfl⟩
theorem dc_X3_init_31 : Dc miX3_init 31 (.putfield 27) 3 34 := ⟨by decide +kernel, rfl⟩
theorem dc_X3_init_34 : Dc miX3_init 34 (.aload_n 0) 1 35 := ⟨by decide +kernel, rfl⟩
theorem dc_X3_init_35 : Dc miX3_init 35 (.iconst 0) 1 36 := ⟨by decide +kernel, rfl⟩
theorem dc_X3_init_36 : Dc miX3_init 36 (.putfield 30) 3 39 := ⟨by decide +kernel, rfl⟩
theorem dc_X3_init_39 : Dc miX3_init 39 (.aload_n 0) 1 40 := ⟨by decide +kernel, rfl⟩
theorem dc_X3_init_40 : Dc miX3_init 40 (.bipush 6) 2 42 := ⟨by decide +kernel, rfl⟩
theorem dc_X3_init_42 : Dc miX3_init 42 (.newarray .int) 2 44 := ⟨by decide +kernel, rfl⟩
theorem dc_X3_init_44 : Dc miX3_init 44 (.putfield 34) 3 47 := ⟨by decide +kernel, rfl⟩
theorem dc_X3_init_47 : Dc miX3_init 47 (.aload_n 0) 1 48 := ⟨by decide +kernel, rfl⟩
theorem dc_X3_init_48 : Dc miX3_init 48 (.new 38) 3 51 := ⟨by decide +kernel, rfl⟩
theorem dc_X3_init_51 : Dc miX3_init 51 (.dup) 1 52 := ⟨by decide +kernel, rfl⟩
theorem dc_X3_init_52 : Dc miX3_init 52 (.invokespecial 40) 3 55 := ⟨by decide +kernel, rfl⟩
theorem dc_X3_init_55 : Dc miX3_init 55 (.putfield 41) 3 58 := ⟨by decide +kernel, rfl⟩
theorem dc_X3_init_58 : Dc miX3_init 58 (.return_) 1 59 := ⟨by decide +kernel, rfl⟩
def wX3 (a sz : Nat) : wF := fun cy => (a, .inr (3, [.int 0, .int 0, .int (-1), .int 0, .int 0, .int 1, .int 0, .ref (sz), .ref (sz + 1)])) :: (([(sz, .inl (cy 1, 6, .inl (fun _ => 0)))]) ++ (wX2 (sz + 1) (sz + 2) cy))
set_option maxRecDepth 100000 in
set_option maxHeartbeats 4000000 in
theorem kX3 : Kn miX3_init yX3_init 4 3 69 3 wX3 := by
  refine kn_of (lv := fun a => [some (.ref a)]) (by decide) rfl rfl rfl (by decide) (fun _ => rfl) (fun SK a sz => ?_)
  refine k_aload_n dc_X3_init_0 rfl ?_
  refine k_obj dc_X3_init_1 mw_216 (Nat.le_of_ble_eq_true rfl) (Nat.le_of_ble_eq_true rfl) ?_
  refine k_aload_n dc_X3_init_4 rfl ?_
  refine k_iconst (v := 0) dc_X3_init_5 (by decide) ?_
  refine k_put (fs' := [.int 0, .int 0, .int 0, .int 0, .int 0, .int 0, .int 0, .null, .null]) dc_X3_init_6 fi_X3_9 rfl rfl (Nat.le_of_ble_eq_true rfl) rfl ?_
  refine k_aload_n dc_X3_init_9 rfl ?_
  refine k_iconst (v := 0) dc_X3_init_10 (by decide) ?_
  refine k_put (fs' := [.int 0, .int 0, .int 0, .int 0, .int 0, .int 0, .int 0, .null, .null]) dc_X3_init_11 fi_X3_15 rfl rfl (Nat.le_of_ble_eq_true rfl) rfl ?_
  refine k_aload_n dc_X3_init_14 rfl ?_
  refine k_iconst (v := (-1)) dc_X3_init_15 (by decide) ?_
  refine k_put (fs' := [.int 0, .int 0, .int (-1), .int 0, .int 0, .int 0, .int 0, .null, .null]) dc_X3_init_16 fi_X3_18 rfl rfl (Nat.le_of_ble_eq_true rfl) rfl ?_
  refine k_aload_n dc_X3_init_19 rfl ?_
  refine k_iconst (v := 0) dc_X3_init_20 (by decide) ?_
  refine k_put (fs' := [.int 0, .int 0, .int (-1), .int 0, .int 0, .int 0, .int 0, .null, .null]) dc_X3_init_21 fi_X3_21 rfl rfl (Nat.le_of_ble_eq_true rfl) rfl ?_
  refine k_aload_n dc_X3_init_24 rfl ?_
  refine k_iconst (v := 0) dc_X3_init_25 (by decide) ?_
  refine k_put (fs' := [.int 0, .int 0, .int (-1), .int 0, .int 0, .int 0, .int 0, .null, .null]) dc_X3_init_26 fi_X3_24 rfl rfl (Nat.le_of_ble_eq_true rfl) rfl ?_
  refine k_aload_n dc_X3_init_29 rfl ?_
  refine k_iconst (v := 1) dc_X3_init_30 (by decide) ?_
  refine k_put (fs' := [.int 0, .int 0, .int (-1), .int 0, .int 0, .int 1, .int 0, .null, .null]) dc_X3_init_31 fi_X3_27 rfl rfl (Nat.le_of_ble_eq_true rfl) rfl ?_
  refine k_aload_n dc_X3_init_34 rfl ?_
  refine k_iconst (v := 0) dc_X3_init_35 (by decide) ?_
  refine k_put (fs' := [.int 0, .int 0, .int (-1), .int 0, .int 0, .int 1, .int 0, .null, .null]) dc_X3_init_36 fi_X3_30 rfl rfl (Nat.le_of_ble_eq_true rfl) rfl ?_
  refine k_aload_n dc_X3_init_39 rfl ?_
  refine k_bipush (v := 6) dc_X3_init_40 (by decide) ?_
  refine k_newa (ty := .int) (j := 1) (N := 6) dc_X3_init_42 mw_177 rfl (fun _ => rfl) rfl (fun _ _ h => h) (by decide) (by decide) (by decide) ⟨Nat.le_of_ble_eq_true rfl, Nat.le_of_ble_eq_true rfl⟩ ?_
  refine k_putF (fs' := [.int 0, .int 0, .int (-1), .int 0, .int 0, .int 1, .int 0, .ref (sz), .null]) dc_X3_init_44 fi_X3_34 (fun C9 T9 n9 h9 => by cases h9; rfl) rfl rfl (Nat.le_of_ble_eq_true rfl) rfl ?_
  refine k_aload_n dc_X3_init_47 rfl ?_
  refine k_new (host := "UnaskedName") dc_X3_init_48 dc_X3_init_51 dc_X3_init_52 kX2 ci_X2_init mw_217 (Or.inl (List.mem_of_getElem? (i := 5) rfl)) (Nat.le_of_ble_eq_true rfl) (Nat.le_of_ble_eq_true rfl) ⟨Nat.le_of_ble_eq_true rfl, Nat.le_of_ble_eq_true rfl⟩ ?_
  refine k_putF (fs' := [.int 0, .int 0, .int (-1), .int 0, .int 0, .int 1, .int 0, .ref (sz), .ref (sz + 1)]) dc_X3_init_55 fi_X3_41 (fun C9 T9 n9 h9 => by cases h9; rfl) rfl rfl (Nat.le_of_ble_eq_true rfl) rfl ?_
  exact k_vret dc_X3_init_58 rfl (fun _ => rfl) rfl ⟨Nat.le_of_ble_eq_true rfl, Nat.le_of_ble_eq_true rfl⟩
abbrev miX8_init : MI := (RX8, cX8_init, 1, none, [])
theorem ci_X8_init : CI miX8_init yX8_init 7 := ⟨rfl, mw_76, mw_4, mw_77, rfl, ⟨by decide, by decide, by decide⟩, by decide, mw_74, TX8, tyX8, rfl, inX8, tyX8_ok, by decide +kernel⟩
theorem dc_X8_init_0 : Dc miX8_init 0 (.aload_n 0) 1 1 := ⟨by decide +kernel, rfl⟩
theorem dc_X8_init_1 : Dc miX8_init 1 (.invokespecial 3) 3 4 := ⟨by decide +kernel, rfl⟩
theorem dc_X8_init_4 : Dc miX8_init 4 (.aload_n 0) 1 5 := ⟨by decide +kernel, rfl⟩
theorem dc_X8_init_5 : Dc miX8_init 5 (.iconst 0) 1 6 := ⟨by decide +kernel, rfl⟩
theorem dc_X8_init_6 : Dc miX8_init 6 (.putfield 9) 3 9 := ⟨by decide +kernel, rfl⟩
theorem dc_X8_init_9 : Dc miX8_init 9 (.aload_n 0) 1 10 := ⟨by decide +kernel, rfl⟩
theorem dc_X8_init_10 : Dc miX8_init 10 (.iconst 0) 1 11 := ⟨by decide +kernel, rfl⟩
theorem dc_X8_init_11 : Dc miX8_init 11 (.putfield 15) 3 14 := ⟨by decide +kernel, rfl⟩
theorem dc_X8_init_14 : Dc miX8_init 14 (.aload_n 0) 1 15 := ⟨by decide +kernel, rfl⟩
theorem dc_X8_init_15 : Dc miX8_init 15 (.iconst 0) 1 16 := ⟨by decide +kernel, rfl⟩
theorem dc_X8_init_16 : Dc miX8_init 16 (.putfield 18) 3 19 := ⟨by decide +kernel, rfl⟩
theorem dc_X8_init_19 : Dc miX8_init 19 (.aload_n 0) 1 20 := ⟨by decide +kernel, rfl⟩
theorem dc_X8_init_20 : Dc miX8_init 20 (.iconst 0) 1 21 := ⟨by decide +kernel, rfl⟩
theorem dc_X8_init_21 : Dc miX8_init 21 (.putfield 21) 3 24 := ⟨by decide +kernel, rfl⟩
theorem dc_X8_init_24 : Dc miX8_init 24 (.aload_n 0) 1 25 := ⟨by decide +kernel, rfl⟩
theorem dc_X8_init_25 : Dc miX8_init 25 (.iconst 0) 1 26 := ⟨by decide +kernel, rfl⟩
theorem dc_X8_init_26 : Dc miX8_init 26 (.putfield 24) 3 29 := ⟨by decide +kernel, rfl⟩
theorem dc_X8_init_29 : Dc miX8_init 29 (.aload_n 0) 1 30 := ⟨by decide +kernel, rfl⟩
theorem dc_X8_init_30 : Dc miX8_init 30 (.iconst 0) 1 31 := ⟨by decide +kernel, rfl⟩
theorem dc_X8_init_31 : Dc miX8_init 31 (.putfield 27) 3 34 := ⟨by decide +kernel, rfl⟩
theorem dc_X8_init_34 : Dc miX8_init 34 (.aload_n 0) 1 35 := ⟨by decide +kernel, rfl⟩
theorem dc_X8_init_35 : Dc miX8_init 35 (.bipush 50) 2 37 := ⟨by decide +kernel, rfl⟩
theorem dc_X8_init_37 : Dc miX8_init 37 (.putfield 30) 3 40 := ⟨by decide +kernel, rfl⟩
theorem dc_X8_init_40 : Dc miX8_init 40 (.aload_n 0) 1 41 := ⟨by decide +kernel, rfl⟩
theorem dc_X8_init_41 : Dc miX8_init 41 (.sipush 365) 3 44 := ⟨by decide +kernel, rfl⟩
theorem dc_X8_init_44 : Dc miX8_init 44 (.putfield 33) 3 47 := ⟨by decide +kernel, rfl⟩
theorem dc_X8_init_47 : Dc miX8_init 47 (.aload_n 0) 1 48 := ⟨by decide +kernel, rfl⟩
theorem dc_X8_init_48 : Dc miX8_init 48 (.bipush 50) 2 50 := ⟨by decide +kernel, rfl⟩
theorem dc_X8_init_50 : Dc miX8_init 50 (.putfield 36) 3 53 := ⟨by decide +kernel, rfl⟩
theorem dc_X8_init_53 : Dc miX8_init 53 (.aload_n 0) 1 54 := ⟨by decide +kernel, rfl⟩
theorem dc_X8_init_54 : Dc miX8_init 54 (.bipush 10) 2 56 := ⟨by decide +kernel, rfl⟩
theorem dc_X8_init_56 : Dc miX8_init 56 (.newarray .int) 2 58 := ⟨by decide +kernel, rfl⟩
theorem dc_X8_init_58 : Dc miX8_init 58 (.putfield 39) 3 61 := ⟨by decide +kernel, rfl⟩
theorem dc_X8_init_61 : Dc miX8_init 61 (.aload_n 0) 1 62 := ⟨by decide +kernel, rfl⟩
theorem dc_X8_init_62 : Dc miX8_init 62 (.bipush 10) 2 64 := ⟨by decide +kernel, rfl⟩
theorem dc_X8_init_64 : Dc miX8_init 64 (.newarray .int) 2 66 := ⟨by decide +kernel, rfl⟩
theorem dc_X8_init_66 : Dc miX8_init 66 (.putfield 43) 3 69 := ⟨by decide +kernel, rfl⟩
theorem dc_X8_init_69 : Dc miX8_init 69 (.aload_n 0) 1 70 := ⟨by decide +kernel, rfl⟩
theorem dc_X8_init_70 : Dc miX8_init 70 (.bipush 6) 2 72 := ⟨by decide +kernel, rfl⟩
theorem dc_X8_init_72 : Dc miX8_init 72 (.newarray .int) 2 74 := ⟨by decide +kernel, rfl⟩
theorem dc_X8_init_74 : Dc miX8_init 74 (.putfield 46) 3 77 := ⟨by decide +kernel, rfl⟩
theorem dc_X8_init_77 : Dc miX8_init 77 (.aload_n 0) 1 78 := ⟨by decide +kernel, rfl⟩
theorem dc_X8_init_78 : Dc miX8_init 78 (.bipush 6) 2 80 := ⟨by decide +kernel, rfl⟩
theorem dc_X8_init_80 : Dc miX8_init 80 (.newarray .int) 2 82 := ⟨by decide +kernel, rfl⟩
theorem dc_X8_init_82 : Dc miX8_init 82 (.putfield 49) 3 85 := ⟨by decide +kernel, rfl⟩
theorem dc_X8_init_85 : Dc miX8_init 85 (.aload_n 0) 1 86 := ⟨by decide +kernel, rfl⟩
theorem dc_X8_init_86 : Dc miX8_init 86 (.bipush 6) 2 88 := ⟨by decide +kernel, rfl⟩
theorem dc_X8_init_88 : Dc miX8_init 88 (.newarray .int) 2 90 := ⟨by decide +kernel, rfl⟩
theorem dc_X8_init_90 : Dc miX8_init 90 (.putfield 52) 3 93 := ⟨by decide +kernel, rfl⟩
theorem dc_X8_init_93 : Dc miX8_init 93 (.aload_n 0) 1 94 := ⟨by decide +kernel, rfl⟩
theorem dc_X8_init_94 : Dc miX8_init 94 (.iconst 4) 1 95 := ⟨by decide +kernel, rfl⟩
theorem dc_X8_init_95 : Dc miX8_init 95 (.newarray .int) 2 97 := ⟨by decide +kernel, rfl⟩
theorem dc_X8_init_97 : Dc miX8_init 97 (.putfield 55) 3 100 := ⟨by decide +kernel, rfl⟩
theorem dc_X8_init_100 : Dc miX8_init 100 (.aload_n 0) 1 101 := ⟨by decide +kernel, rfl⟩
theorem dc_X8_init_101 : Dc miX8_init 101 (.iconst 4) 1 102 := ⟨by decide +kernel, rfl⟩
theorem dc_X8_init_102 : Dc miX8_init 102 (.newarray .int) 2 104 := ⟨by decide +kernel, rfl⟩
theorem dc_X8_init_104 : Dc miX8_init 104 (.putfield 58) 3 107 := ⟨by decide +kernel, rfl⟩
theorem dc_X8_init_107 : Dc miX8_init 107 (.aload_n 0) 1 108 := ⟨by decide +kernel, rfl⟩
theorem dc_X8_init_108 : Dc miX8_init 108 (.bipush 6) 2 110 := ⟨by decide +kernel, rfl⟩
theorem dc_X8_init_110 : Dc miX8_init 110 (.newarray .int) 2 112 := ⟨by decide +kernel, rfl⟩
theorem dc_X8_init_112 : Dc miX8_init 112 (.putfield 61) 3 115 := ⟨by decide +kernel, rfl⟩
theorem dc_X8_init_115 : Dc miX8_init 115 (.aload_n 0) 1 116 := ⟨by decide +kernel, rfl⟩
theorem dc_X8_init_116 : Dc miX8_init 116 (.bipush 8) 2 118 := ⟨by decide +kernel, rfl⟩
theorem dc_X8_init_118 : Dc miX8_init 118 (.newarray .int) 2 120 := ⟨by decide +kernel, rfl⟩
theorem dc_X8_init_120 : Dc miX8_init 120 (.putfield 64) 3 123 := ⟨by decide +kernel, rfl⟩
theorem dc_X8_init_123 : Dc miX8_init 123 (.return_) 1 124 := ⟨by decide +kernel, rfl⟩
def wX8 (a sz : Nat) : wF := fun cy => (a, .inr (7, [.int 0, .int 0, .int 0, .int 0, .int 0, .int 0, .int 50, .int 365, .int 50, .ref (sz), .ref (sz + 1), .ref (sz + 2), .ref (sz + 3), .ref (sz + 4), .ref (sz + 5), .ref (sz + 6), .ref (sz + 7), .ref (sz + 8)])) :: (([(sz, .inl (cy 1, 10, .inl (fun _ => 0)))]) ++ ([(sz + 1, .inl (cy 1, 10, .inl (fun _ => 0)))]) ++ ([(sz + 2, .inl (cy 1, 6, .inl (fun _ => 0)))]) ++ ([(sz + 3, .inl (cy 1, 6, .inl (fun _ => 0)))]) ++ ([(sz + 4, .inl (cy 1, 6, .inl (fun _ => 0)))]) ++ ([(sz + 5, .inl (cy 1, 4, .inl (fun _ => 0)))]) ++ ([(sz + 6, .inl (cy 1, 4, .inl (fun _ => 0)))]) ++ ([(sz + 7, .inl (cy 1, 6, .inl (fun _ => 0)))]) ++ ([(sz + 8, .inl (cy 1, 8, .inl (fun _ => 0)))]))
set_option maxRecDepth 100000 in
set_option maxHeartbeats 4000000 in
theorem kX8 : Kn miX8_init yX8_init 2 9 60 7 wX8 := by
  refine kn_of (lv := fun a => [some (.ref a)]) (by decide) rfl rfl rfl (by decide) (fun _ => rfl) (fun SK a sz => ?_)
  refine k_aload_n dc_X8_init_0 rfl ?_
  refine k_obj dc_X8_init_1 mw_78 (Nat.le_of_ble_eq_true rfl) (Nat.le_of_ble_eq_true rfl) ?_
  refine k_aload_n dc_X8_init_4 rfl ?_
  refine k_iconst (v := 0) dc_X8_init_5 (by decide) ?_
  refine k_put (fs' := [.int 0, .int 0, .int 0, .int 0, .int 0, .int 0, .int 0, .int 0, .int 0, .null, .null, .null, .null, .null, .null, .null, .null, .null]) dc_X8_init_6 fi_X8_9 rfl rfl (Nat.le_of_ble_eq_true rfl) rfl ?_
  refine k_aload_n dc_X8_init_9 rfl ?_
  refine k_iconst (v := 0) dc_X8_init_10 (by decide) ?_
  refine k_put (fs' := [.int 0, .int 0, .int 0, .int 0, .int 0, .int 0, .int 0, .int 0, .int 0, .null, .null, .null, .null, .null, .null, .null, .null, .null]) dc_X8_init_11 fi_X8_15 rfl rfl (Nat.le_of_ble_eq_true rfl) rfl ?_
  refine k_aload_n dc_X8_init_14 rfl ?_
  refine k_iconst (v := 0) dc_X8_init_15 (by decide) ?_
  refine k_put (fs' := [.int 0, .int 0, .int 0, .int 0, .int 0, .int 0, .int 0, .int 0, .int 0, .null, .null, .null, .null, .null, .null, .null, .null, .null]) dc_X8_init_16 fi_X8_18 rfl rfl (Nat.le_of_ble_eq_true rfl) rfl ?_
  refine k_aload_n dc_X8_init_19 rfl ?_
  refine k_iconst (v := 0) dc_X8_init_20 (by decide) ?_
  refine k_put (fs' := [.int 0, .int 0, .int 0, .int 0, .int 0, .int 0, .int 0, .int 0, .int 0, .null, .null, .null, .null, .null, .null, .null, .null, .null]) dc_X8_init_21 fi_X8_21 rfl rfl (Nat.le_of_ble_eq_true rfl) rfl ?_
  refine k_aload_n dc_X8_init_24 rfl ?_
  refine k_iconst (v := 0) dc_X8_init_25 (by decide) ?_
  refine k_put (fs' := [.int 0, .int 0, .int 0, .int 0, .int 0, .int 0, .int 0, .int 0, .int 0, .null, .null, .null, .null, .null, .null, .null, .null, .null]) dc_X8_init_26 fi_X8_24 rfl rfl (Nat.le_of_ble_eq_true rfl) rfl ?_
  refine k_aload_n dc_X8_init_29 rfl ?_
  refine k_iconst (v := 0) dc_X8_init_30 (by decide) ?_
  refine k_put (fs' := [.int 0, .int 0, .int 0, .int 0, .int 0, .int 0, .int 0, .int 0, .int 0, .null, .null, .null, .null, .null, .null, .null, .null, .null]) dc_X8_init_31 fi_X8_27 rfl rfl (Nat.le_of_ble_eq_true rfl) rfl ?_
  refine k_aload_n dc_X8_init_34 rfl ?_
  refine k_bipush (v := 50) dc_X8_init_35 (by decide) ?_
  refine k_put (fs' := [.int 0, .int 0, .int 0, .int 0, .int 0, .int 0, .int 50, .int 0, .int 0, .null, .null, .null, .null, .null, .null, .null, .null, .null]) dc_X8_init_37 fi_X8_30 rfl rfl (Nat.le_of_ble_eq_true rfl) rfl ?_
  refine k_aload_n dc_X8_init_40 rfl ?_
  refine k_sipush (v := 365) dc_X8_init_41 (by decide) ?_
  refine k_put (fs' := [.int 0, .int 0, .int 0, .int 0, .int 0, .int 0, .int 50, .int 365, .int 0, .null, .null, .null, .null, .null, .null, .null, .null, .null]) dc_X8_init_44 fi_X8_33 rfl rfl (Nat.le_of_ble_eq_true rfl) rfl ?_
  refine k_aload_n dc_X8_init_47 rfl ?_
  refine k_bipush (v := 50) dc_X8_init_48 (by decide) ?_
  refine k_put (fs' := [.int 0, .int 0, .int 0, .int 0, .int 0, .int 0, .int 50, .int 365, .int 50, .null, .null, .null, .null, .null, .null, .null, .null, .null]) dc_X8_init_50 fi_X8_36 rfl rfl (Nat.le_of_ble_eq_true rfl) rfl ?_
  refine k_aload_n dc_X8_init_53 rfl ?_
  refine k_bipush (v := 10) dc_X8_init_54 (by decide) ?_
  refine k_newa (ty := .int) (j := 1) (N := 10) dc_X8_init_56 mw_177 rfl (fun _ => rfl) rfl (fun _ _ h => h) (by decide) (by decide) (by decide) ⟨Nat.le_of_ble_eq_true rfl, Nat.le_of_ble_eq_true rfl⟩ ?_
  refine k_putF (fs' := [.int 0, .int 0, .int 0, .int 0, .int 0, .int 0, .int 50, .int 365, .int 50, .ref (sz), .null, .null, .null, .null, .null, .null, .null, .null]) dc_X8_init_58 fi_X8_39 (fun C9 T9 n9 h9 => by cases h9; rfl) rfl rfl (Nat.le_of_ble_eq_true rfl) rfl ?_
  refine k_aload_n dc_X8_init_61 rfl ?_
  refine k_bipush (v := 10) dc_X8_init_62 (by decide) ?_
  refine k_newa (ty := .int) (j := 1) (N := 10) dc_X8_init_64 mw_177 rfl (fun _ => rfl) rfl (fun _ _ h => h) (by decide) (by decide) (by decide) ⟨Nat.le_of_ble_eq_true rfl, Nat.le_of_ble_eq_true rfl⟩ ?_
  refine k_putF (fs' := [.int 0, .int 0, .int 0, .int 0, .int 0, .int 0, .int 50, .int 365, .int 50, .ref (sz), .ref (sz + 1), .null, .null, .null, .null, .null, .null, .null]) dc_X8_init_66 fi_X8_43 (fun C9 T9 n9 h9 => by cases h9; rfl) rfl rfl (Nat.le_of_ble_eq_true rfl) rfl ?_
  refine k_aload_n dc_X8_init_69 rfl ?_
  refine k_bipush (v := 6) dc_X8_init_70 (by decide) ?_
  refine k_newa (ty := .int) (j := 1) (N := 6) dc_X8_init_72 mw_177 rfl (fun _ => rfl) rfl (fun _ _ h => h) (by decide) (by decide) (by decide) ⟨Nat.le_of_ble_eq_true rfl, Nat.le_of_ble_eq_true rfl⟩ ?_
  refine k_putF (fs' := [.int 0, .int 0, .int 0, .int 0, .int 0, .int 0, .int 50, .int 365, .int 50, .ref (sz), .ref (sz + 1), .ref (sz + 2), .null, .null, .null, .null, .null, .null]) dc_X8_init_74 fi_X8_46 (fun C9 T9 n9 h9 => by cases h9; rfl) rfl rfl (Nat.le_of_ble_eq_true rfl) rfl ?_
  refine k_aload_n dc_X8_init_77 rfl ?_
  refine k_bipush (v := 6) dc_X8_init_78 (by decide) ?_
  refine k_newa (ty := .int) (j := 1) (N := 6) dc_X8_init_80 mw_177 rfl (fun _ => rfl) rfl (fun _ _ h => h) (by decide) (by decide) (by decide) ⟨Nat.le_of_ble_eq_true rfl, Nat.le_of_ble_eq_true rfl⟩ ?_
  refine k_putF (fs' := [.int 0, .int 0, .int 0, .int 0, .int 0, .int 0, .int 50, .int 365, .int 50, .ref (sz), .ref (sz + 1), .ref (sz + 2), .ref (sz + 3), .null, .null, .null, .null, .null]) dc_X8_init_82 fi_X8_49 (fun C9 T9 n9 h9 => by cases h9; rfl) rfl rfl (Nat.le_of_ble_eq_true rfl) rfl ?_
  refine k_aload_n dc_X8_init_85 rfl ?_
  refine k_bipush (v := 6) dc_X8_init_86 (by decide) ?_
  refine k_newa (ty := .int) (j := 1) (N := 6) dc_X8_init_88 mw_177 rfl (fun _ => rfl) rfl (fun _ _ h => h) (by decide) (by decide) (by decide) ⟨Nat.le_of_ble_eq_true rfl, Nat.le_of_ble_eq_true rfl⟩ ?_
  refine k_putF (fs' := [.int 0, .int 0, .int 0, .int 0, .int 0, .int 0, .int 50, .int 365, .int 50, .ref (sz), .ref (sz + 1), .ref (sz + 2), .ref (sz + 3), .ref (sz + 4), .null, .null, .null, .null]) dc_X8_init_90 fi_X8_52 (fun C9 T9 n9 h9 => by cases h9; rfl) rfl rfl (Nat.le_of_ble_eq_true rfl) rfl ?_
  refine k_aload_n dc_X8_init_93 rfl ?_
  refine k_iconst (v := 4) dc_X8_init_94 (by decide) ?_
  refine k_newa (ty := .int) (j := 1) (N := 4) dc_X8_init_95 mw_177 rfl (fun _ => rfl) rfl (fun _ _ h => h) (by decide) (by decide) (by decide) ⟨Nat.le_of_ble_eq_true rfl, Nat.le_of_ble_eq_true rfl⟩ ?_
  refine k_putF (fs' := [.int 0, .int 0, .int 0, .int 0, .int 0, .int 0, .int 50, .int 365, .int 50, .ref (sz), .ref (sz + 1), .ref (sz + 2), .ref (sz + 3), .ref (sz + 4), .ref (sz + 5), .null, .null, .null]) dc_X8_init_97 fi_X8_55 (fun C9 T9 n9 h9 => by cases h9; rfl) rfl rfl (Nat.le_of_ble_eq_true rfl) rfl ?_
  refine k_aload_n dc_X8_init_100 rfl ?_
  refine k_iconst (v := 4) dc_X8_init_101 (by decide) ?_
  refine k_newa (ty := .int) (j := 1) (N := 4) dc_X8_init_102 mw_177 rfl (fun _ => rfl) rfl (fun _ _ h => h) (by decide) (by decide) (by decide) ⟨Nat.le_of_ble_eq_true rfl, Nat.le_of_ble_eq_true rfl⟩ ?_
  refine k_putF (fs' := [.int 0, .int 0, .int 0, .int 0, .int 0, .int 0, .int 50, .int 365, .int 50, .ref (sz), .ref (sz + 1), .ref (sz + 2), .ref (sz + 3), .ref (sz + 4), .ref (sz + 5), .ref (sz + 6), .null, .null]) dc_X8_init_104 fi_X8_58 (fun C9 T9 n9 h9 => by cases h9; rfl) rfl rfl (Nat.le_of_ble_eq_true rfl) rfl ?_
  refine k_aload_n dc_X8_init_107 rfl ?_
  refine k_bipush (v := 6) dc_X8_init_108 (by decide) ?_
  refine k_newa (ty := .int) (j := 1) (N := 6) dc_X8_init_110 mw_177 rfl (fun _ => rfl) rfl (fun _ _ h => h) (by decide) (by decide) (by decide) ⟨Nat.le_of_ble_eq_true rfl, Nat.le_of_ble_eq_true rfl⟩ ?_
  refine k_putF (fs' := [.int 0, .int 0, .int 0, .int 0, .int 0, .int 0, .int 50, .int 365, .int 50, .ref (sz), .ref (sz + 1), .ref (sz + 2), .ref (sz + 3), .ref (sz + 4), .ref (sz + 5), .ref (sz + 6), .ref (sz + 7), .null]) dc_X8_init_112 fi_X8_61 (fun C9 T9 n9 h9 => by cases h9; rfl) rfl rfl (Nat.le_of_ble_eq_true rfl) rfl ?_
  refine k_aload_n dc_X8_init_115 rfl ?_
  refine k_bipush (v := 8) dc_X8_init_116 (by decide) ?_
  refine k_newa (ty := .int) (j := 1) (N := 8) dc_X8_init_118 mw_177 rfl (fun _ => rfl) rfl (fun _ _ h => h) (by decide) (by decide) (by decide) ⟨Nat.le_of_ble_eq_true rfl, Nat.le_of_ble_eq_true rfl⟩ ?_
  refine k_putF (fs' := [.int 0, .int 0, .int 0, .int 0, .int 0, .int 0, .int 50, .int 365, .int 50, .ref (sz), .ref (sz + 1), .ref (sz + 2), .ref (sz + 3), .ref (sz + 4), .ref (sz + 5), .ref (sz + 6), .ref (sz + 7), .ref (sz + 8)]) dc_X8_init_120 fi_X8_64 (fun C9 T9 n9 h9 => by cases h9; rfl) rfl rfl (Nat.le_of_ble_eq_true rfl) rfl ?_
  exact k_vret dc_X8_init_123 rfl (fun _ => rfl) rfl ⟨Nat.le_of_ble_eq_true rfl, Nat.le_of_ble_eq_true rfl⟩
abbrev miX0_init : MI := (RX0, cX0_init, 1, none, [])
theorem ci_X0_init : CI miX0_init yX0_init 0 := ⟨rfl, mw_181, mw_5, mw_182, rfl, ⟨by decide, by decide, by decide⟩, by decide, mw_179, TX0, tyX0, rfl, inX0, tyX0_ok, by decide +kernel⟩
theorem dc_X0_init_0 : Dc miX0_init 0 (.aload_n 0) 1 1 := ⟨by decide +kernel, rfl⟩
theorem dc_X0_init_1 : Dc miX0_init 1 (.invokespecial 5) 3 4 := ⟨by decide +kernel, rfl⟩
theorem dc_X0_init_4 : Dc miX0_init 4 (.aload_n 0) 1 5 := ⟨by decide +kernel, rfl⟩
theorem dc_X0_init_5 : Dc miX0_init 5 (.iconst (-1)) 1 6 := ⟨by decide +kernel, rfl⟩
theorem dc_X0_init_6 : Dc miX0_init 6 (.putfield 11) 3 9 := ⟨by decide +kernel, rfl⟩
theorem dc_X0_init_9 : Dc miX0_init 9 (.aload_n 0) 1 10 := ⟨by decide +kernel, rfl⟩
theorem dc_X0_init_10 : Dc miX0_init 10 (.iconst 0) 1 11 := ⟨by decide +kernel, rfl⟩
theorem dc_X0_init_11 : Dc miX0_init 11 (.putfield 17) 3 14 := ⟨by decide +kernel, rfl⟩
theorem dc_X0_init_14 : Dc miX0_init 14 (.aload_n 0) 1 15 := ⟨by decide +kernel, rfl⟩
theorem dc_X0_init_15 : Dc miX0_init 15 (.bipush 12) 2 17 := ⟨by decide +kernel, rfl⟩
theorem dc_X0_init_17 : Dc miX0_init 17 (.newarray .int) 2 19 := ⟨by decide +kernel, rfl⟩
theorem dc_X0_init_19 : Dc miX0_init 19 (.putfield 20) 3 22 := ⟨by decide +kernel, rfl⟩
theorem dc_X0_init_22 : Dc miX0_init 22 (.aload_n 0) 1 23 := ⟨by decide +kernel, rfl⟩
theorem dc_X0_init_23 : Dc miX0_init 23 (.bipush 12) 2 25 := ⟨by decide +kernel, rfl⟩
theorem dc_X0_init_25 : Dc miX0_init 25 (.newarray .int) 2 27 := ⟨by decide +kernel, rfl⟩
theorem dc_X0_init_27 : Dc miX0_init 27 (.putfield 24) 3 30 := ⟨by decide +kernel, rfl⟩
theorem dc_X0_init_30 : Dc miX0_init 30 (.aload_n 0) 1 31 := ⟨by decide +kernel, rfl⟩
theorem dc_X0_init_31 : Dc miX0_init 31 (.bipush 12) 2 33 := ⟨by decide +kernel, rfl⟩
theorem dc_X0_init_33 : Dc miX0_init 33 (.newarray .int) 2 35 := ⟨by decide +kernel, rfl⟩
theorem dc_X0_init_35 : Dc miX0_init 35 (.putfield 27) 3 38 := ⟨by decide +kernel, rfl⟩
theorem dc_X0_init_38 : Dc miX0_init 38 (.aload_n 0) 1 39 := ⟨by decide +kernel, rfl⟩
theorem dc_X0_init_39 : Dc miX0_init 39 (.sipush 400) 3 42 := ⟨by decide +kernel, rfl⟩
theorem dc_X0_init_42 : Dc miX0_init 42 (.newarray .int) 2 44 := ⟨by decide +kernel, rfl⟩
theorem dc_X0_init_44 : Dc miX0_init 44 (.putfield 30) 3 47 := ⟨by decide +kernel, rfl⟩
theorem dc_X0_init_47 : Dc miX0_init 47 (.aload_n 0) 1 48 := ⟨by decide +kernel, rfl⟩
theorem dc_X0_init_48 : Dc miX0_init 48 (.bipush 6) 2 50 := ⟨by decide +kernel, rfl⟩
theorem dc_X0_init_50 : Dc miX0_init 50 (.newarray .int) 2 52 := ⟨by decide +kernel, rfl⟩
theorem dc_X0_init_52 : Dc miX0_init 52 (.putfield 33) 3 55 := ⟨by decide +kernel, rfl⟩
theorem dc_X0_init_55 : Dc miX0_init 55 (.aload_n 0) 1 56 := ⟨by decide +kernel, rfl⟩
theorem dc_X0_init_56 : Dc miX0_init 56 (.iconst 0) 1 57 := ⟨by decide +kernel, rfl⟩
theorem dc_X0_init_57 : Dc miX0_init 57 (.putfield 36) 3 60 := ⟨by decide +kernel, rfl⟩
theorem dc_X0_init_60 : Dc miX0_init 60 (.return_) 1 61 := ⟨by decide +kernel, rfl⟩
def wX0 (a sz : Nat) : wF := fun cy => (a, .inr (0, [.int (-1), .int 0, .ref (sz), .ref (sz + 1), .ref (sz + 2), .ref (sz + 3), .ref (sz + 4), .int 0])) :: (([(sz, .inl (cy 1, 12, .inl (fun _ => 0)))]) ++ ([(sz + 1, .inl (cy 1, 12, .inl (fun _ => 0)))]) ++ ([(sz + 2, .inl (cy 1, 12, .inl (fun _ => 0)))]) ++ ([(sz + 3, .inl (cy 1, 400, .inl (fun _ => 0)))]) ++ ([(sz + 4, .inl (cy 1, 6, .inl (fun _ => 0)))]))
set_option maxRecDepth 100000 in
set_option maxHeartbeats 4000000 in
theorem kX0 : Kn miX0_init yX0_init 2 5 442 0 wX0 := by
  refine kn_of (lv := fun a => [some (.ref a)]) (by decide) rfl rfl rfl (by decide) (fun _ => rfl) (fun SK a sz => ?_)
  refine k_aload_n dc_X0_init_0 rfl ?_
  refine k_obj dc_X0_init_1 mw_183 (Nat.le_of_ble_eq_true rfl) (Nat.le_of_ble_eq_true rfl) ?_
  refine k_aload_n dc_X0_init_4 rfl ?_
  refine k_iconst (v := (-1)) dc_X0_init_5 (by decide) ?_
  refine k_put (fs' := [.int (-1), .int 0, .null, .null, .null, .null, .null, .int 0]) dc_X0_init_6 fi_X0_11 rfl rfl (Nat.le_of_ble_eq_true rfl) rfl ?_
  refine k_aload_n dc_X0_init_9 rfl ?_
  refine k_iconst (v := 0) dc_X0_init_10 (by decide) ?_
  refine k_put (fs' := [.int (-1), .int 0, .null, .null, .null, .null, .null, .int 0]) dc_X0_init_11 fi_X0_17 rfl rfl (Nat.le_of_ble_eq_true rfl) rfl ?_
  refine k_aload_n dc_X0_init_14 rfl ?_
  refine k_bipush (v := 12) dc_X0_init_15 (by decide) ?_
  refine k_newa (ty := .int) (j := 1) (N := 12) dc_X0_init_17 mw_177 rfl (fun _ => rfl) rfl (fun _ _ h => h) (by decide) (by decide) (by decide) ⟨Nat.le_of_ble_eq_true rfl, Nat.le_of_ble_eq_true rfl⟩ ?_
  refine k_putF (fs' := [.int (-1), .int 0, .ref (sz), .null, .null, .null, .null, .int 0]) dc_X0_init_19 fi_X0_20 (fun C9 T9 n9 h9 => by cases h9; rfl) rfl rfl (Nat.le_of_ble_eq_true rfl) rfl ?_
  refine k_aload_n dc_X0_init_22 rfl ?_
  refine k_bipush (v := 12) dc_X0_init_23 (by decide) ?_
  refine k_newa (ty := .int) (j := 1) (N := 12) dc_X0_init_25 mw_177 rfl (fun _ => rfl) rfl (fun _ _ h => h) (by decide) (by decide) (by decide) ⟨Nat.le_of_ble_eq_true rfl, Nat.le_of_ble_eq_true rfl⟩ ?_
  refine k_putF (fs' := [.int (-1), .int 0, .ref (sz), .ref (sz + 1), .null, .null, .null, .int 0]) dc_X0_init_27 fi_X0_24 (fun C9 T9 n9 h9 => by cases h9; rfl) rfl rfl (Nat.le_of_ble_eq_true rfl) rfl ?_
  refine k_aload_n dc_X0_init_30 rfl ?_
  refine k_bipush (v := 12) dc_X0_init_31 (by decide) ?_
  refine k_newa (ty := .int) (j := 1) (N := 12) dc_X0_init_33 mw_177 rfl (fun _ => rfl) rfl (fun _ _ h => h) (by decide) (by decide) (by decide) ⟨Nat.le_of_ble_eq_true rfl, Nat.le_of_ble_eq_true rfl⟩ ?_
  refine k_putF (fs' := [.int (-1), .int 0, .ref (sz), .ref (sz + 1), .ref (sz + 2), .null, .null, .int 0]) dc_X0_init_35 fi_X0_27 (fun C9 T9 n9 h9 => by cases h9; rfl) rfl rfl (Nat.le_of_ble_eq_true rfl) rfl ?_
  refine k_aload_n dc_X0_init_38 rfl ?_
  refine k_sipush (v := 400) dc_X0_init_39 (by decide) ?_
  refine k_newa (ty := .int) (j := 1) (N := 400) dc_X0_init_42 mw_177 rfl (fun _ => rfl) rfl (fun _ _ h => h) (by decide) (by decide) (by decide) ⟨Nat.le_of_ble_eq_true rfl, Nat.le_of_ble_eq_true rfl⟩ ?_
  refine k_putF (fs' := [.int (-1), .int 0, .ref (sz), .ref (sz + 1), .ref (sz + 2), .ref (sz + 3), .null, .int 0]) dc_X0_init_44 fi_X0_30 (fun C9 T9 n9 h9 => by cases h9; rfl) rfl rfl (Nat.le_of_ble_eq_true rfl) rfl ?_
  refine k_aload_n dc_X0_init_47 rfl ?_
  refine k_bipush (v := 6) dc_X0_init_48 (by decide) ?_
  refine k_newa (ty := .int) (j := 1) (N := 6) dc_X0_init_50 mw_177 rfl (fun _ => rfl) rfl (fun _ _ h => h) (by decide) (by decide) (by decide) ⟨Nat.le_of_ble_eq_true rfl, Nat.le_of_ble_eq_true rfl⟩ ?_
  refine k_putF (fs' := [.int (-1), .int 0, .ref (sz), .ref (sz + 1), .ref (sz + 2), .ref (sz + 3), .ref (sz + 4), .int 0]) dc_X0_init_52 fi_X0_33 (fun C9 T9 n9 h9 => by cases h9; rfl) rfl rfl (Nat.le_of_ble_eq_true rfl) rfl ?_
  refine k_aload_n dc_X0_init_55 rfl ?_
  refine k_iconst (v := 0) dc_X0_init_56 (by decide) ?_
  refine k_put (fs' := [.int (-1), .int 0, .ref (sz), .ref (sz + 1), .ref (sz + 2), .ref (sz + 3), .ref (sz + 4), .int 0]) dc_X0_init_57 fi_X0_36 rfl rfl (Nat.le_of_ble_eq_true rfl) rfl ?_
  exact k_vret dc_X0_init_60 rfl (fun _ => rfl) rfl ⟨Nat.le_of_ble_eq_true rfl, Nat.le_of_ble_eq_true rfl⟩
abbrev miX10_init : MI := (RX10, cX10_init, 1, none, [])
theorem ci_X10_init : CI miX10_init yX10_init 9 := ⟨rfl, mw_70, mw_3, mw_71, rfl, ⟨by decide, by decide, by decide⟩, by decide, mw_68, TX10, tyX10, rfl, inX10, tyX10_ok, by decide +kernel⟩
theorem dc_X10_init_0 : Dc miX10_init 0 (.aload_n 0) 1 1 := ⟨by decide +kernel, rfl⟩
theorem dc_X10_init_1 : Dc miX10_init 1 (.invokespecial 3) 3 4 := ⟨by decide +kernel, rfl⟩
theorem dc_X10_init_4 : Dc miX10_init 4 (.aload_n 0) 1 5 := ⟨by decide +kernel, rfl⟩
theorem dc_X10_init_5 : Dc miX10_init 5 (.new 9) 3 8 := ⟨by decide +kernel, rfl⟩
theorem dc_X10_init_8 : Dc miX10_init 8 (.dup) 1 9 := ⟨by decide +kernel, rfl⟩
theorem dc_X10_init_9 : Dc miX10_init 9 (.invokespecial 11) 3 12 := ⟨by decide +kernel, rfl⟩
theorem dc_X10_init_12 : Dc miX10_init 12 (.putfield 12) 3 15 := ⟨by decide +kernel, rfl⟩
theorem dc_X10_init_15 : Dc miX10_init 15 (.aload_n 0) 1 16 := ⟨by decide +kernel, rfl⟩
theorem dc_X10_init_16 : Dc miX10_init 16 (.new 18) 3 19 := ⟨by decide +kernel, rfl⟩
theorem dc_X10_init_19 : Dc miX10_init 19 (.dup) 1 20 := ⟨by decide +kernel, rfl⟩
theorem dc_X10_init_20 : Dc miX10_init 20 (.invokespecial 20) 3 23 := ⟨by decide +kernel, rfl⟩
theorem dc_X10_init_23 : Dc miX10_init 23 (.putfield 21) 3 26 := ⟨by decide +kernel, rfl⟩
theorem dc_X10_init_26 : Dc miX10_init 26 (.aload_n 0) 1 27 := ⟨by decide +kernel, rfl⟩
theorem dc_X10_init_27 : Dc miX10_init 27 (.new 25) 3 30 := ⟨by decide +kernel, rfl⟩
theorem dc_X10_init_30 : Dc miX10_init 30 (.dup) 1 31 := ⟨by decide +kernel, rfl⟩
theorem dc_X10_init_31 : Dc miX10_init 31 (.invokespecial 27) 3 34 := ⟨by decide +kernel, rfl⟩
theorem dc_X10_init_34 : Dc miX10_init 34 (.putfield 28) 3 37 := ⟨by decide +kernel, rfl⟩
theorem dc_X10_init_37 : Dc miX10_init 37 (.return_) 1 38 := ⟨by decide +kernel, rfl⟩
def wX10 (a sz : Nat) : wF := fun cy => (a, .inr (9, [.ref (sz), .ref (sz + 10), .ref (sz + 16)])) :: ((wX8 (sz) (sz + 1) cy) ++ (wX0 (sz + 10) (sz + 11) cy) ++ (wX3 (sz + 16) (sz + 17) cy))
set_option maxRecDepth 100000 in
set_option maxHeartbeats 4000000 in
theorem kX10 : Kn miX10_init yX10_init 6 20 606 9 wX10 := by
  refine kn_of (lv := fun a => [some (.ref a)]) (by decide) rfl rfl rfl (by decide) (fun _ => rfl) (fun SK a sz => ?_)
  refine k_aload_n dc_X10_init_0 rfl ?_
  refine k_obj dc_X10_init_1 mw_72 (Nat.le_of_ble_eq_true rfl) (Nat.le_of_ble_eq_true rfl) ?_
  refine k_aload_n dc_X10_init_4 rfl ?_
  refine k_new (host := "UnaskedName") dc_X10_init_5 dc_X10_init_8 dc_X10_init_9 kX8 ci_X8_init mw_73 (Or.inl (List.mem_of_getElem? (i := 2) rfl)) (Nat.le_of_ble_eq_true rfl) (Nat.le_of_ble_eq_true rfl) ⟨Nat.le_of_ble_eq_true rfl, Nat.le_of_ble_eq_true rfl⟩ ?_
  refine k_putF (fs' := [.ref (sz), .null, .null]) dc_X10_init_12 fi_X10_12 (fun C9 T9 n9 h9 => by cases h9; rfl) rfl rfl (Nat.le_of_ble_eq_true rfl) rfl ?_
  refine k_aload_n dc_X10_init_15 rfl ?_
  refine k_new (host := "UnaskedName") dc_X10_init_16 dc_X10_init_19 dc_X10_init_20 kX0 ci_X0_init mw_178 (Or.inl (List.mem_of_getElem? (i := 3) rfl)) (Nat.le_of_ble_eq_true rfl) (Nat.le_of_ble_eq_true rfl) ⟨Nat.le_of_ble_eq_true rfl, Nat.le_of_ble_eq_true rfl⟩ ?_
  refine k_putF (fs' := [.ref (sz), .ref (sz + 10), .null]) dc_X10_init_23 fi_X10_21 (fun C9 T9 n9 h9 => by cases h9; rfl) rfl rfl (Nat.le_of_ble_eq_true rfl) rfl ?_
  refine k_aload_n dc_X10_init_26 rfl ?_
  refine k_new (host := "UnaskedName") dc_X10_init_27 dc_X10_init_30 dc_X10_init_31 kX3 ci_X3_init mw_211 (Or.inl (List.mem_of_getElem? (i := 4) rfl)) (Nat.le_of_ble_eq_true rfl) (Nat.le_of_ble_eq_true rfl) ⟨Nat.le_of_ble_eq_true rfl, Nat.le_of_ble_eq_true rfl⟩ ?_
  refine k_putF (fs' := [.ref (sz), .ref (sz + 10), .ref (sz + 16)]) dc_X10_init_34 fi_X10_28 (fun C9 T9 n9 h9 => by cases h9; rfl) rfl rfl (Nat.le_of_ble_eq_true rfl) rfl ?_
  exact k_vret dc_X10_init_37 rfl (fun _ => rfl) rfl ⟨Nat.le_of_ble_eq_true rfl, Nat.le_of_ble_eq_true rfl⟩
abbrev miX9_init : MI := (RX9, cX9_init, 1, none, [])
theorem ci_X9_init : CI miX9_init yX9_init 8 := ⟨rfl, mw_40, mw_2, mw_41, rfl, ⟨by decide, by decide, by decide⟩, by decide, mw_38, TX9, tyX9, rfl, inX9, tyX9_ok, by decide +kernel⟩
theorem dc_X9_init_0 : Dc miX9_init 0 (.aload_n 0) 1 1 := ⟨by decide +kernel, rfl⟩
theorem dc_X9_init_1 : Dc miX9_init 1 (.invokespecial 3) 3 4 := ⟨by decide +kernel, rfl⟩
theorem dc_X9_init_4 : Dc miX9_init 4 (.aload_n 0) 1 5 := ⟨by decide +kernel, rfl⟩
theorem dc_X9_init_5 : Dc miX9_init 5 (.iconst 0) 1 6 := ⟨by decide +kernel, rfl⟩
theorem dc_X9_init_6 : Dc miX9_init 6 (.putfield 9) 3 9 := ⟨by decide +kernel, rfl⟩
theorem dc_X9_init_9 : Dc miX9_init 9 (.aload_n 0) 1 10 := ⟨by decide +kernel, rfl⟩
theorem dc_X9_init_10 : Dc miX9_init 10 (.iconst 0) 1 11 := ⟨by decide +kernel, rfl⟩
theorem dc_X9_init_11 : Dc miX9_init 11 (.putfield 15) 3 14 := ⟨by decide +kernel, rfl⟩
theorem dc_X9_init_14 : Dc miX9_init 14 (.aload_n 0) 1 15 := ⟨by decide +kernel, rfl⟩
theorem dc_X9_init_15 : Dc miX9_init 15 (.iconst 0) 1 16 := ⟨by decide +kernel, rfl⟩
theorem dc_X9_init_16 : Dc miX9_init 16 (.putfield 18) 3 19 := ⟨by decide +kernel, rfl⟩
theorem dc_X9_init_19 : Dc miX9_init 19 (.aload_n 0) 1 20 := ⟨by decide +kernel, rfl⟩
theorem dc_X9_init_20 : Dc miX9_init 20 (.iconst 0) 1 21 := ⟨by decide +kernel, rfl⟩
theorem dc_X9_init_21 : Dc miX9_init 21 (.putfield 21) 3 24 := ⟨by decide +kernel, rfl⟩
theorem dc_X9_init_24 : Dc miX9_init 24 (.aload_n 0) 1 25 := ⟨by decide +kernel, rfl⟩
theorem dc_X9_init_25 : Dc miX9_init 25 (.iconst 0) 1 26 := ⟨by decide +kernel, rfl⟩
theorem dc_X9_init_26 : Dc miX9_init 26 (.putfield 24) 3 29 := ⟨by decide +kernel, rfl⟩
theorem dc_X9_init_29 : Dc miX9_init 29 (.aload_n 0) 1 30 := ⟨by decide +kernel, rfl⟩
theorem dc_X9_init_30 : Dc miX9_init 30 (.sipush 400) 3 33 := ⟨by decide +kernel, rfl⟩
theorem dc_X9_init_33 : Dc miX9_init 33 (.newarray .byte) 2 35 := ⟨by decide +kernel, rfl⟩
theorem dc_X9_init_35 : Dc miX9_init 35 (.putfield 27) 3 38 := ⟨by decide +kernel, rfl⟩
theorem dc_X9_init_38 : Dc miX9_init 38 (.return_) 1 39 := ⟨by decide +kernel, rfl⟩
def wX9 (a sz : Nat) : wF := fun cy => (a, .inr (8, [.int 0, .int 0, .int 0, .int 0, .int 0, .ref (sz)])) :: (([(sz, .inl (cy 0, 400, .inl (fun _ => 0)))]))
set_option maxRecDepth 100000 in
set_option maxHeartbeats 4000000 in
theorem kX9 : Kn miX9_init yX9_init 2 1 400 8 wX9 := by
  refine kn_of (lv := fun a => [some (.ref a)]) (by decide) rfl rfl rfl (by decide) (fun _ => rfl) (fun SK a sz => ?_)
  refine k_aload_n dc_X9_init_0 rfl ?_
  refine k_obj dc_X9_init_1 mw_42 (Nat.le_of_ble_eq_true rfl) (Nat.le_of_ble_eq_true rfl) ?_
  refine k_aload_n dc_X9_init_4 rfl ?_
  refine k_iconst (v := 0) dc_X9_init_5 (by decide) ?_
  refine k_put (fs' := [.int 0, .int 0, .int 0, .int 0, .int 0, .null]) dc_X9_init_6 fi_X9_9 rfl rfl (Nat.le_of_ble_eq_true rfl) rfl ?_
  refine k_aload_n dc_X9_init_9 rfl ?_
  refine k_iconst (v := 0) dc_X9_init_10 (by decide) ?_
  refine k_put (fs' := [.int 0, .int 0, .int 0, .int 0, .int 0, .null]) dc_X9_init_11 fi_X9_15 rfl rfl (Nat.le_of_ble_eq_true rfl) rfl ?_
  refine k_aload_n dc_X9_init_14 rfl ?_
  refine k_iconst (v := 0) dc_X9_init_15 (by decide) ?_
  refine k_put (fs' := [.int 0, .int 0, .int 0, .int 0, .int 0, .null]) dc_X9_init_16 fi_X9_18 rfl rfl (Nat.le_of_ble_eq_true rfl) rfl ?_
  refine k_aload_n dc_X9_init_19 rfl ?_
  refine k_iconst (v := 0) dc_X9_init_20 (by decide) ?_
  refine k_put (fs' := [.int 0, .int 0, .int 0, .int 0, .int 0, .null]) dc_X9_init_21 fi_X9_21 rfl rfl (Nat.le_of_ble_eq_true rfl) rfl ?_
  refine k_aload_n dc_X9_init_24 rfl ?_
  refine k_iconst (v := 0) dc_X9_init_25 (by decide) ?_
  refine k_put (fs' := [.int 0, .int 0, .int 0, .int 0, .int 0, .null]) dc_X9_init_26 fi_X9_24 rfl rfl (Nat.le_of_ble_eq_true rfl) rfl ?_
  refine k_aload_n dc_X9_init_29 rfl ?_
  refine k_sipush (v := 400) dc_X9_init_30 (by decide) ?_
  refine k_newa (ty := .byte) (j := 0) (N := 400) dc_X9_init_33 mw_66 rfl (fun _ => rfl) rfl (fun _ _ h => h) (by decide) (by decide) (by decide) ⟨Nat.le_of_ble_eq_true rfl, Nat.le_of_ble_eq_true rfl⟩ ?_
  refine k_putF (fs' := [.int 0, .int 0, .int 0, .int 0, .int 0, .ref (sz)]) dc_X9_init_35 fi_X9_27 (fun C9 T9 n9 h9 => by cases h9; rfl) rfl rfl (Nat.le_of_ble_eq_true rfl) rfl ?_
  exact k_vret dc_X9_init_38 rfl (fun _ => rfl) rfl ⟨Nat.le_of_ble_eq_true rfl, Nat.le_of_ble_eq_true rfl⟩
abbrev miX4_init : MI := (RX4, cX4_init, 2, none, [])
theorem ci_X4_init : CI miX4_init yX4_init 4 := ⟨rfl, mw_317, mw_8, mw_318, rfl, ⟨by decide, by decide, by decide⟩, by decide, mw_315, TX4, tyX4, rfl, inX4, tyX4_ok, by decide +kernel⟩
theorem dc_X4_init_0 : Dc miX4_init 0 (.aload_n 0) 1 1 := ⟨by decide +kernel, rfl⟩
theorem dc_X4_init_1 : Dc miX4_init 1 (.invokespecial 1) 3 4 := ⟨by decide +kernel, rfl⟩
theorem dc_X4_init_4 : Dc miX4_init 4 (.aload_n 0) 1 5 := ⟨by decide +kernel, rfl⟩
theorem dc_X4_init_5 : Dc miX4_init 5 (.iconst 0) 1 6 := ⟨by decide +kernel, rfl⟩
theorem dc_X4_init_6 : Dc miX4_init 6 (.putfield 7) 3 9 := ⟨by decide +kernel, rfl⟩
theorem dc_X4_init_9 : Dc miX4_init 9 (.aload_n 0) 1 10 := ⟨by decide +kernel, rfl⟩
theorem dc_X4_init_10 : Dc miX4_init 10 (.iconst 0) 1 11 := ⟨by decide +kernel, rfl⟩
theorem dc_X4_init_11 : Dc miX4_init 11 (.putfield 13) 3 14 := ⟨by decide +kernel, rfl⟩
theorem dc_X4_init_14 : Dc miX4_init 14 (.aload_n 0) 1 15 := ⟨by decide +kernel, rfl⟩
theorem dc_X4_init_15 : Dc miX4_init 15 (.bipush 12) 2 17 := ⟨by decide +kernel, rfl⟩
theorem dc_X4_init_17 : Dc miX4_init 17 (.anewarray 16) 3 20 := ⟨by decide +kernel, rfl⟩
theorem dc_X4_init_20 : Dc miX4_init 20 (.putfield 18) 3 23 := ⟨by decide +kernel, rfl⟩
theorem dc_X4_init_23 : Dc miX4_init 23 (.iconst 0) 1 24 := ⟨by decide +kernel, rfl⟩
theorem dc_X4_init_24 : Dc miX4_init 24 (.istore_n 1) 1 25 := ⟨by decide +kernel, rfl⟩
theorem dc_X4_init_25 : Dc miX4_init 25 (.iload_n 1) 1 26 := ⟨by decide +kernel, rfl⟩
theorem dc_X4_init_26 : Dc miX4_init 26 (.bipush 12) 2 28 := ⟨by decide +kernel, rfl⟩
theorem dc_X4_init_28 : Dc miX4_init 28 (.if_icmp .ge 22) 3 31 := ⟨by decide +kernel, rfl⟩
theorem dc_X4_init_31 : Dc miX4_init 31 (.aload_n 0) 1 32 := ⟨by decide +kernel, rfl⟩
theorem dc_X4_init_32 : Dc miX4_init 32 (.getfield 18) 3 35 := ⟨by decide +kernel, rfl⟩
theorem dc_X4_init_35 : Dc miX4_init 35 (.iload_n 1) 1 36 := ⟨by decide +kernel, rfl⟩
theorem dc_X4_init_36 : Dc miX4_init 36 (.new 16) 3 39 := ⟨by decide +kernel, rfl⟩
theorem dc_X4_init_39 : Dc miX4_init 39 (.dup) 1 40 := ⟨by decide +kernel, rfl⟩
theorem dc_X4_init_40 : Dc miX4_init 40 (.invokespecial 22) 3 43 := ⟨by decide +kernel, rfl⟩
theorem dc_X4_init_43 : Dc miX4_init 43 (.aastore) 1 44 := ⟨by decide +kernel, rfl⟩
theorem dc_X4_init_44 : Dc miX4_init 44 (.iinc 1 1) 3 47 := ⟨by decide +kernel, rfl⟩
theorem dc_X4_init_47 : Dc miX4_init 47 (.goto (-22)) 3 50 := ⟨by decide +kernel, rfl⟩
theorem dc_X4_init_50 : Dc miX4_init 50 (.return_) 1 51 := ⟨by decide +kernel, rfl⟩
def wX4 (a sz : Nat) : wF := fun cy => (a, .inr (4, [.int 0, .int 0, .ref (sz)])) :: (([(sz, .inl (cy 4, 12, .inr (.inr (.inr (.inr (va_up (va_up (va_up (va_up (va_up (va_up (va_up (va_up (va_up (va_up (va_up (va_up (fun _ => none) (Int32.toNatClampNeg 0) (some (sz + 1))) (Int32.toNatClampNeg 1) (some (sz + 5))) (Int32.toNatClampNeg 2) (some (sz + 9))) (Int32.toNatClampNeg 3) (some (sz + 13))) (Int32.toNatClampNeg 4) (some (sz + 17))) (Int32.toNatClampNeg 5) (some (sz + 21))) (Int32.toNatClampNeg 6) (some (sz + 25))) (Int32.toNatClampNeg 7) (some (sz + 29))) (Int32.toNatClampNeg 8) (some (sz + 33))) (Int32.toNatClampNeg 9) (some (sz + 37))) (Int32.toNatClampNeg 10) (some (sz + 41))) (Int32.toNatClampNeg 11) (some (sz + 45))))))))]) ++ (wX3 (sz + 1) (sz + 2) cy) ++ (wX3 (sz + 5) (sz + 6) cy) ++ (wX3 (sz + 9) (sz + 10) cy) ++ (wX3 (sz + 13) (sz + 14) cy) ++ (wX3 (sz + 17) (sz + 18) cy) ++ (wX3 (sz + 21) (sz + 22) cy) ++ (wX3 (sz + 25) (sz + 26) cy) ++ (wX3 (sz + 29) (sz + 30) cy) ++ (wX3 (sz + 33) (sz + 34) cy) ++ (wX3 (sz + 37) (sz + 38) cy) ++ (wX3 (sz + 41) (sz + 42) cy) ++ (wX3 (sz + 45) (sz + 46) cy))
set_option maxRecDepth 100000 in
set_option maxHeartbeats 4000000 in
theorem kX4 : Kn miX4_init yX4_init 6 49 948 4 wX4 := by
  refine kn_of (lv := fun a => [some (.ref a), none]) (by decide) rfl rfl rfl (by decide) (fun _ => rfl) (fun SK a sz => ?_)
  refine k_aload_n dc_X4_init_0 rfl ?_
  refine k_obj dc_X4_init_1 mw_319 (Nat.le_of_ble_eq_true rfl) (Nat.le_of_ble_eq_true rfl) ?_
  refine k_aload_n dc_X4_init_4 rfl ?_
  refine k_iconst (v := 0) dc_X4_init_5 (by decide) ?_
  refine k_put (fs' := [.int 0, .int 0, .null]) dc_X4_init_6 fi_X4_7 rfl rfl (Nat.le_of_ble_eq_true rfl) rfl ?_
  refine k_aload_n dc_X4_init_9 rfl ?_
  refine k_iconst (v := 0) dc_X4_init_10 (by decide) ?_
  refine k_put (fs' := [.int 0, .int 0, .null]) dc_X4_init_11 fi_X4_13 rfl rfl (Nat.le_of_ble_eq_true rfl) rfl ?_
  refine k_aload_n dc_X4_init_14 rfl ?_
  refine k_bipush (v := 12) dc_X4_init_15 (by decide) ?_
  refine k_anew (N := 12) dc_X4_init_17 mw_320 (by decide) (by decide) (by decide) ⟨Nat.le_of_ble_eq_true rfl, Nat.le_of_ble_eq_true rfl⟩ ?_
  refine k_putF (fs' := [.int 0, .int 0, .ref (sz)]) dc_X4_init_20 fi_X4_18 (fun C9 T9 n9 h9 => by cases h9; rfl) rfl rfl (Nat.le_of_ble_eq_true rfl) rfl ?_
  refine k_iconst (v := 0) dc_X4_init_23 (by decide) ?_
  refine k_istore_n (lv' := [some (.ref a), some (.int 0)]) dc_X4_init_24 rfl (by decide) rfl ?_
  refine k_iload_n dc_X4_init_25 rfl ?_
  refine k_bipush (v := 12) dc_X4_init_26 (by decide) ?_
  refine k_icmp_ge (tgt := 50) dc_X4_init_28 (by decide) (fun h => absurd h (by decide)) (fun _ => ?_)
  refine k_aload_n dc_X4_init_31 rfl ?_
  refine k_getR dc_X4_init_32 fi_X4_18 rfl ?_
  refine k_iload_n dc_X4_init_35 rfl ?_
  refine k_new (host := "UnaskedName") dc_X4_init_36 dc_X4_init_39 dc_X4_init_40 kX3 ci_X3_init mw_320 (Or.inl (List.mem_of_getElem? (i := 6) rfl)) (Nat.le_of_ble_eq_true rfl) (Nat.le_of_ble_eq_true rfl) ⟨Nat.le_of_ble_eq_true rfl, Nat.le_of_ble_eq_true rfl⟩ ?_
  refine k_aast (X' := fun cy => ([(sz, .inl (cy 4, 12, .inr (.inr (.inr (.inr (va_up (fun _ => none) (Int32.toNatClampNeg 0) (some (sz + 1))))))))]) ++ (wX3 (sz + 1) (sz + 2) cy)) (j := 0) (q := 1) dc_X4_init_43 (fun _ => rfl) (fun _ => rfl) (inB_s rfl) (fun _ => rfl) ?_
  refine k_iinc (v := 1) (lv' := [some (.ref a), some (.int 1)]) dc_X4_init_44 rfl (by decide) rfl (by decide) rfl ?_
  refine k_goto (tgt := 25) dc_X4_init_47 (by decide) ?_
  refine k_iload_n dc_X4_init_25 rfl ?_
  refine k_bipush (v := 12) dc_X4_init_26 (by decide) ?_
  refine k_icmp_ge (tgt := 50) dc_X4_init_28 (by decide) (fun h => absurd h (by decide)) (fun _ => ?_)
  refine k_aload_n dc_X4_init_31 rfl ?_
  refine k_getR dc_X4_init_32 fi_X4_18 rfl ?_
  refine k_iload_n dc_X4_init_35 rfl ?_
  refine k_new (host := "UnaskedName") dc_X4_init_36 dc_X4_init_39 dc_X4_init_40 kX3 ci_X3_init mw_320 (Or.inl (List.mem_of_getElem? (i := 6) rfl)) (Nat.le_of_ble_eq_true rfl) (Nat.le_of_ble_eq_true rfl) ⟨Nat.le_of_ble_eq_true rfl, Nat.le_of_ble_eq_true rfl⟩ ?_
  refine k_aast (X' := fun cy => ([(sz, .inl (cy 4, 12, .inr (.inr (.inr (.inr (va_up (va_up (fun _ => none) (Int32.toNatClampNeg 0) (some (sz + 1))) (Int32.toNatClampNeg 1) (some (sz + 5))))))))]) ++ (wX3 (sz + 1) (sz + 2) cy) ++ (wX3 (sz + 5) (sz + 6) cy)) (j := 0) (q := 5) dc_X4_init_43 (fun _ => rfl) (fun _ => rfl) (inB_s rfl) (fun _ => rfl) ?_
  refine k_iinc (v := 1) (lv' := [some (.ref a), some (.int 2)]) dc_X4_init_44 rfl (by decide) rfl (by decide) rfl ?_
  refine k_goto (tgt := 25) dc_X4_init_47 (by decide) ?_
  refine k_iload_n dc_X4_init_25 rfl ?_
  refine k_bipush (v := 12) dc_X4_init_26 (by decide) ?_
  refine k_icmp_ge (tgt := 50) dc_X4_init_28 (by decide) (fun h => absurd h (by decide)) (fun _ => ?_)
  refine k_aload_n dc_X4_init_31 rfl ?_
  refine k_getR dc_X4_init_32 fi_X4_18 rfl ?_
  refine k_iload_n dc_X4_init_35 rfl ?_
  refine k_new (host := "UnaskedName") dc_X4_init_36 dc_X4_init_39 dc_X4_init_40 kX3 ci_X3_init mw_320 (Or.inl (List.mem_of_getElem? (i := 6) rfl)) (Nat.le_of_ble_eq_true rfl) (Nat.le_of_ble_eq_true rfl) ⟨Nat.le_of_ble_eq_true rfl, Nat.le_of_ble_eq_true rfl⟩ ?_
  refine k_aast (X' := fun cy => ([(sz, .inl (cy 4, 12, .inr (.inr (.inr (.inr (va_up (va_up (va_up (fun _ => none) (Int32.toNatClampNeg 0) (some (sz + 1))) (Int32.toNatClampNeg 1) (some (sz + 5))) (Int32.toNatClampNeg 2) (some (sz + 9))))))))]) ++ (wX3 (sz + 1) (sz + 2) cy) ++ (wX3 (sz + 5) (sz + 6) cy) ++ (wX3 (sz + 9) (sz + 10) cy)) (j := 0) (q := 9) dc_X4_init_43 (fun _ => rfl) (fun _ => rfl) (inB_s rfl) (fun _ => rfl) ?_
  refine k_iinc (v := 1) (lv' := [some (.ref a), some (.int 3)]) dc_X4_init_44 rfl (by decide) rfl (by decide) rfl ?_
  refine k_goto (tgt := 25) dc_X4_init_47 (by decide) ?_
  refine k_iload_n dc_X4_init_25 rfl ?_
  refine k_bipush (v := 12) dc_X4_init_26 (by decide) ?_
  refine k_icmp_ge (tgt := 50) dc_X4_init_28 (by decide) (fun h => absurd h (by decide)) (fun _ => ?_)
  refine k_aload_n dc_X4_init_31 rfl ?_
  refine k_getR dc_X4_init_32 fi_X4_18 rfl ?_
  refine k_iload_n dc_X4_init_35 rfl ?_
  refine k_new (host := "UnaskedName") dc_X4_init_36 dc_X4_init_39 dc_X4_init_40 kX3 ci_X3_init mw_320 (Or.inl (List.mem_of_getElem? (i := 6) rfl)) (Nat.le_of_ble_eq_true rfl) (Nat.le_of_ble_eq_true rfl) ⟨Nat.le_of_ble_eq_true rfl, Nat.le_of_ble_eq_true rfl⟩ ?_
  refine k_aast (X' := fun cy => ([(sz, .inl (cy 4, 12, .inr (.inr (.inr (.inr (va_up (va_up (va_up (va_up (fun _ => none) (Int32.toNatClampNeg 0) (some (sz + 1))) (Int32.toNatClampNeg 1) (some (sz + 5))) (Int32.toNatClampNeg 2) (some (sz + 9))) (Int32.toNatClampNeg 3) (some (sz + 13))))))))]) ++ (wX3 (sz + 1) (sz + 2) cy) ++ (wX3 (sz + 5) (sz + 6) cy) ++ (wX3 (sz + 9) (sz + 10) cy) ++ (wX3 (sz + 13) (sz + 14) cy)) (j := 0) (q := 13) dc_X4_init_43 (fun _ => rfl) (fun _ => rfl) (inB_s rfl) (fun _ => rfl) ?_
  refine k_iinc (v := 1) (lv' := [some (.ref a), some (.int 4)]) dc_X4_init_44 rfl (by decide) rfl (by decide) rfl ?_
  refine k_goto (tgt := 25) dc_X4_init_47 (by decide) ?_
  refine k_iload_n dc_X4_init_25 rfl ?_
  refine k_bipush (v := 12) dc_X4_init_26 (by decide) ?_
  refine k_icmp_ge (tgt := 50) dc_X4_init_28 (by decide) (fun h => absurd h (by decide)) (fun _ => ?_)
  refine k_aload_n dc_X4_init_31 rfl ?_
  refine k_getR dc_X4_init_32 fi_X4_18 rfl ?_
  refine k_iload_n dc_X4_init_35 rfl ?_
  refine k_new (host := "UnaskedName") dc_X4_init_36 dc_X4_init_39 dc_X4_init_40 kX3 ci_X3_init mw_320 (Or.inl (List.mem_of_getElem? (i := 6) rfl)) (Nat.le_of_ble_eq_true rfl) (Nat.le_of_ble_eq_true rfl) ⟨Nat.le_of_ble_eq_true rfl, Nat.le_of_ble_eq_true rfl⟩ ?_
  refine k_aast (X' := fun cy => ([(sz, .inl (cy 4, 12, .inr (.inr (.inr (.inr (va_up (va_up (va_up (va_up (va_up (fun _ => none) (Int32.toNatClampNeg 0) (some (sz + 1))) (Int32.toNatClampNeg 1) (some (sz + 5))) (Int32.toNatClampNeg 2) (some (sz + 9))) (Int32.toNatClampNeg 3) (some (sz + 13))) (Int32.toNatClampNeg 4) (some (sz + 17))))))))]) ++ (wX3 (sz + 1) (sz + 2) cy) ++ (wX3 (sz + 5) (sz + 6) cy) ++ (wX3 (sz + 9) (sz + 10) cy) ++ (wX3 (sz + 13) (sz + 14) cy) ++ (wX3 (sz + 17) (sz + 18) cy)) (j := 0) (q := 17) dc_X4_init_43 (fun _ => rfl) (fun _ => rfl) (inB_s rfl) (fun _ => rfl) ?_
  refine k_iinc (v := 1) (lv' := [some (.ref a), some (.int 5)]) dc_X4_init_44 rfl (by decide) rfl (by decide) rfl ?_
  refine k_goto (tgt := 25) dc_X4_init_47 (by decide) ?_
  refine k_iload_n dc_X4_init_25 rfl ?_
  refine k_bipush (v := 12) dc_X4_init_26 (by decide) ?_
  refine k_icmp_ge (tgt := 50) dc_X4_init_28 (by decide) (fun h => absurd h (by decide)) (fun _ => ?_)
  refine k_aload_n dc_X4_init_31 rfl ?_
  refine k_getR dc_X4_init_32 fi_X4_18 rfl ?_
  refine k_iload_n dc_X4_init_35 rfl ?_
  refine k_new (host := "UnaskedName") dc_X4_init_36 dc_X4_init_39 dc_X4_init_40 kX3 ci_X3_init mw_320 (Or.inl (List.mem_of_getElem? (i := 6) rfl)) (Nat.le_of_ble_eq_true rfl) (Nat.le_of_ble_eq_true rfl) ⟨Nat.le_of_ble_eq_true rfl, Nat.le_of_ble_eq_true rfl⟩ ?_
  refine k_aast (X' := fun cy => ([(sz, .inl (cy 4, 12, .inr (.inr (.inr (.inr (va_up (va_up (va_up (va_up (va_up (va_up (fun _ => none) (Int32.toNatClampNeg 0) (some (sz + 1))) (Int32.toNatClampNeg 1) (some (sz + 5))) (Int32.toNatClampNeg 2) (some (sz + 9))) (Int32.toNatClampNeg 3) (some (sz + 13))) (Int32.toNatClampNeg 4) (some (sz + 17))) (Int32.toNatClampNeg 5) (some (sz + 21))))))))]) ++ (wX3 (sz + 1) (sz + 2) cy) ++ (wX3 (sz + 5) (sz + 6) cy) ++ (wX3 (sz + 9) (sz + 10) cy) ++ (wX3 (sz + 13) (sz + 14) cy) ++ (wX3 (sz + 17) (sz + 18) cy) ++ (wX3 (sz + 21) (sz + 22) cy)) (j := 0) (q := 21) dc_X4_init_43 (fun _ => rfl) (fun _ => rfl) (inB_s rfl) (fun _ => rfl) ?_
  refine k_iinc (v := 1) (lv' := [some (.ref a), some (.int 6)]) dc_X4_init_44 rfl (by decide) rfl (by decide) rfl ?_
  refine k_goto (tgt := 25) dc_X4_init_47 (by decide) ?_
  refine k_iload_n dc_X4_init_25 rfl ?_
  refine k_bipush (v := 12) dc_X4_init_26 (by decide) ?_
  refine k_icmp_ge (tgt := 50) dc_X4_init_28 (by decide) (fun h => absurd h (by decide)) (fun _ => ?_)
  refine k_aload_n dc_X4_init_31 rfl ?_
  refine k_getR dc_X4_init_32 fi_X4_18 rfl ?_
  refine k_iload_n dc_X4_init_35 rfl ?_
  refine k_new (host := "UnaskedName") dc_X4_init_36 dc_X4_init_39 dc_X4_init_40 kX3 ci_X3_init mw_320 (Or.inl (List.mem_of_getElem? (i := 6) rfl)) (Nat.le_of_ble_eq_true rfl) (Nat.le_of_ble_eq_true rfl) ⟨Nat.le_of_ble_eq_true rfl, Nat.le_of_ble_eq_true rfl⟩ ?_
  refine k_aast (X' := fun cy => ([(sz, .inl (cy 4, 12, .inr (.inr (.inr (.inr (va_up (va_up (va_up (va_up (va_up (va_up (va_up (fun _ => none) (Int32.toNatClampNeg 0) (some (sz + 1))) (Int32.toNatClampNeg 1) (some (sz + 5))) (Int32.toNatClampNeg 2) (some (sz + 9))) (Int32.toNatClampNeg 3) (some (sz + 13))) (Int32.toNatClampNeg 4) (some (sz + 17))) (Int32.toNatClampNeg 5) (some (sz + 21))) (Int32.toNatClampNeg 6) (some (sz + 25))))))))]) ++ (wX3 (sz + 1) (sz + 2) cy) ++ (wX3 (sz + 5) (sz + 6) cy) ++ (wX3 (sz + 9) (sz + 10) cy) ++ (wX3 (sz + 13) (sz + 14) cy) ++ (wX3 (sz + 17) (sz + 18) cy) ++ (wX3 (sz + 21) (sz + 22) cy) ++ (wX3 (sz + 25) (sz + 26) cy)) (j := 0) (q := 25) dc_X4_init_43 (fun _ => rfl) (fun _ => rfl) (inB_s rfl) (fun _ => rfl) ?_
  refine k_iinc (v := 1) (lv' := [some (.ref a), some (.int 7)]) dc_X4_init_44 rfl (by decide) rfl (by decide) rfl ?_
  refine k_goto (tgt := 25) dc_X4_init_47 (by decide) ?_
  refine k_iload_n dc_X4_init_25 rfl ?_
  refine k_bipush (v := 12) dc_X4_init_26 (by decide) ?_
  refine k_icmp_ge (tgt := 50) dc_X4_init_28 (by decide) (fun h => absurd h (by decide)) (fun _ => ?_)
  refine k_aload_n dc_X4_init_31 rfl ?_
  refine k_getR dc_X4_init_32 fi_X4_18 rfl ?_
  refine k_iload_n dc_X4_init_35 rfl ?_
  refine k_new (host := "UnaskedName") dc_X4_init_36 dc_X4_init_39 dc_X4_init_40 kX3 ci_X3_init mw_320 (Or.inl (List.mem_of_getElem? (i := 6) rfl)) (Nat.le_of_ble_eq_true rfl) (Nat.le_of_ble_eq_true rfl) ⟨Nat.le_of_ble_eq_true rfl, Nat.le_of_ble_eq_true rfl⟩ ?_
  refine k_aast (X' := fun cy => ([(sz, .inl (cy 4, 12, .inr (.inr (.inr (.inr (va_up (va_up (va_up (va_up (va_up (va_up (va_up (va_up (fun _ => none) (Int32.toNatClampNeg 0) (some (sz + 1))) (Int32.toNatClampNeg 1) (some (sz + 5))) (Int32.toNatClampNeg 2) (some (sz + 9))) (Int32.toNatClampNeg 3) (some (sz + 13))) (Int32.toNatClampNeg 4) (some (sz + 17))) (Int32.toNatClampNeg 5) (some (sz + 21))) (Int32.toNatClampNeg 6) (some (sz + 25))) (Int32.toNatClampNeg 7) (some (sz + 29))))))))]) ++ (wX3 (sz + 1) (sz + 2) cy) ++ (wX3 (sz + 5) (sz + 6) cy) ++ (wX3 (sz + 9) (sz + 10) cy) ++ (wX3 (sz + 13) (sz + 14) cy) ++ (wX3 (sz + 17) (sz + 18) cy) ++ (wX3 (sz + 21) (sz + 22) cy) ++ (wX3 (sz + 25) (sz + 26) cy) ++ (wX3 (sz + 29) (sz + 30) cy)) (j := 0) (q := 29) dc_X4_init_43 (fun _ => rfl) (fun _ => rfl) (inB_s rfl) (fun _ => rfl) ?_
  refine k_iinc (v := 1) (lv' := [some (.ref a), some (.int 8)]) dc_X4_init_44 rfl (by decide) rfl (by decide) rfl ?_
  refine k_goto (tgt := 25) dc_X4_init_47 (by decide) ?_
  refine k_iload_n dc_X4_init_25 rfl ?_
  refine k_bipush (v := 12) dc_X4_init_26 (by decide) ?_
  refine k_icmp_ge (tgt := 50) dc_X4_init_28 (by decide) (fun h => absurd h (by decide)) (fun _ => ?_)
  refine k_aload_n dc_X4_init_31 rfl ?_
  refine k_getR dc_X4_init_32 fi_X4_18 rfl ?_
  refine k_iload_n dc_X4_init_35 rfl ?_
  refine k_new (host := "UnaskedName") dc_X4_init_36 dc_X4_init_39 dc_X4_init_40 kX3 ci_X3_init mw_320 (Or.inl (List.mem_of_getElem? (i := 6) rfl)) (Nat.le_of_ble_eq_true rfl) (Nat.le_of_ble_eq_true rfl) ⟨Nat.le_of_ble_eq_true rfl, Nat.le_of_ble_eq_true rfl⟩ ?_
  refine k_aast (X' := fun cy => ([(sz, .inl (cy 4, 12, .inr (.inr (.inr (.inr (va_up (va_up (va_up (va_up (va_up (va_up (va_up (va_up (va_up (fun _ => none) (Int32.toNatClampNeg 0) (some (sz + 1))) (Int32.toNatClampNeg 1) (some (sz + 5))) (Int32.toNatClampNeg 2) (some (sz + 9))) (Int32.toNatClampNeg 3) (some (sz + 13))) (Int32.toNatClampNeg 4) (some (sz + 17))) (Int32.toNatClampNeg 5) (some (sz + 21))) (Int32.toNatClampNeg 6) (some (sz + 25))) (Int32.toNatClampNeg 7) (some (sz + 29))) (Int32.toNatClampNeg 8) (some (sz + 33))))))))]) ++ (wX3 (sz + 1) (sz + 2) cy) ++ (wX3 (sz + 5) (sz + 6) cy) ++ (wX3 (sz + 9) (sz + 10) cy) ++ (wX3 (sz + 13) (sz + 14) cy) ++ (wX3 (sz + 17) (sz + 18) cy) ++ (wX3 (sz + 21) (sz + 22) cy) ++ (wX3 (sz + 25) (sz + 26) cy) ++ (wX3 (sz + 29) (sz + 30) cy) ++ (wX3 (sz + 33) (sz + 34) cy)) (j := 0) (q := 33) dc_X4_init_43 (fun _ => rfl) (fun _ => rfl) (inB_s rfl) (fun _ => rfl) ?_
  refine k_iinc (v := 1) (lv' := [some (.ref a), some (.int 9)]) dc_X4_init_44 rfl (by decide) rfl (by decide) rfl ?_
  refine k_goto (tgt := 25) dc_X4_init_47 (by decide) ?_
  refine k_iload_n dc_X4_init_25 rfl ?_
  refine k_bipush (v := 12) dc_X4_init_26 (by decide) ?_
  refine k_icmp_ge (tgt := 50) dc_X4_init_28 (by decide) (fun h => absurd h (by decide)) (fun _ => ?_)
  refine k_aload_n dc_X4_init_31 rfl ?_
  refine k_getR dc_X4_init_32 fi_X4_18 rfl ?_
  refine k_iload_n dc_X4_init_35 rfl ?_
  refine k_new (host := "UnaskedName") dc_X4_init_36 dc_X4_init_39 dc_X4_init_40 kX3 ci_X3_init mw_320 (Or.inl (List.mem_of_getElem? (i := 6) rfl)) (Nat.le_of_ble_eq_true rfl) (Nat.le_of_ble_eq_true rfl) ⟨Nat.le_of_ble_eq_true rfl, Nat.le_of_ble_eq_true rfl⟩ ?_
  refine k_aast (X' := fun cy => ([(sz, .inl (cy 4, 12, .inr (.inr (.inr (.inr (va_up (va_up (va_up (va_up (va_up (va_up (va_up (va_up (va_up (va_up (fun _ => none) (Int32.toNatClampNeg 0) (some (sz + 1))) (Int32.toNatClampNeg 1) (some (sz + 5))) (Int32.toNatClampNeg 2) (some (sz + 9))) (Int32.toNatClampNeg 3) (some (sz + 13))) (Int32.toNatClampNeg 4) (some (sz + 17))) (Int32.toNatClampNeg 5) (some (sz + 21))) (Int32.toNatClampNeg 6) (some (sz + 25))) (Int32.toNatClampNeg 7) (some (sz + 29))) (Int32.toNatClampNeg 8) (some (sz + 33))) (Int32.toNatClampNeg 9) (some (sz + 37))))))))]) ++ (wX3 (sz + 1) (sz + 2) cy) ++ (wX3 (sz + 5) (sz + 6) cy) ++ (wX3 (sz + 9) (sz + 10) cy) ++ (wX3 (sz + 13) (sz + 14) cy) ++ (wX3 (sz + 17) (sz + 18) cy) ++ (wX3 (sz + 21) (sz + 22) cy) ++ (wX3 (sz + 25) (sz + 26) cy) ++ (wX3 (sz + 29) (sz + 30) cy) ++ (wX3 (sz + 33) (sz + 34) cy) ++ (wX3 (sz + 37) (sz + 38) cy)) (j := 0) (q := 37) dc_X4_init_43 (fun _ => rfl) (fun _ => rfl) (inB_s rfl) (fun _ => rfl) ?_
  refine k_iinc (v := 1) (lv' := [some (.ref a), some (.int 10)]) dc_X4_init_44 rfl (by decide) rfl (by decide) rfl ?_
  refine k_goto (tgt := 25) dc_X4_init_47 (by decide) ?_
  refine k_iload_n dc_X4_init_25 rfl ?_
  refine k_bipush (v := 12) dc_X4_init_26 (by decide) ?_
  refine k_icmp_ge (tgt := 50) dc_X4_init_28 (by decide) (fun h => absurd h (by decide)) (fun _ => ?_)
  refine k_aload_n dc_X4_init_31 rfl ?_
  refine k_getR dc_X4_init_32 fi_X4_18 rfl ?_
  refine k_iload_n dc_X4_init_35 rfl ?_
  refine k_new (host := "UnaskedName") dc_X4_init_36 dc_X4_init_39 dc_X4_init_40 kX3 ci_X3_init mw_320 (Or.inl (List.mem_of_getElem? (i := 6) rfl)) (Nat.le_of_ble_eq_true rfl) (Nat.le_of_ble_eq_true rfl) ⟨Nat.le_of_ble_eq_true rfl, Nat.le_of_ble_eq_true rfl⟩ ?_
  refine k_aast (X' := fun cy => ([(sz, .inl (cy 4, 12, .inr (.inr (.inr (.inr (va_up (va_up (va_up (va_up (va_up (va_up (va_up (va_up (va_up (va_up (va_up (fun _ => none) (Int32.toNatClampNeg 0) (some (sz + 1))) (Int32.toNatClampNeg 1) (some (sz + 5))) (Int32.toNatClampNeg 2) (some (sz + 9))) (Int32.toNatClampNeg 3) (some (sz + 13))) (Int32.toNatClampNeg 4) (some (sz + 17))) (Int32.toNatClampNeg 5) (some (sz + 21))) (Int32.toNatClampNeg 6) (some (sz + 25))) (Int32.toNatClampNeg 7) (some (sz + 29))) (Int32.toNatClampNeg 8) (some (sz + 33))) (Int32.toNatClampNeg 9) (some (sz + 37))) (Int32.toNatClampNeg 10) (some (sz + 41))))))))]) ++ (wX3 (sz + 1) (sz + 2) cy) ++ (wX3 (sz + 5) (sz + 6) cy) ++ (wX3 (sz + 9) (sz + 10) cy) ++ (wX3 (sz + 13) (sz + 14) cy) ++ (wX3 (sz + 17) (sz + 18) cy) ++ (wX3 (sz + 21) (sz + 22) cy) ++ (wX3 (sz + 25) (sz + 26) cy) ++ (wX3 (sz + 29) (sz + 30) cy) ++ (wX3 (sz + 33) (sz + 34) cy) ++ (wX3 (sz + 37) (sz + 38) cy) ++ (wX3 (sz + 41) (sz + 42) cy)) (j := 0) (q := 41) dc_X4_init_43 (fun _ => rfl) (fun _ => rfl) (inB_s rfl) (fun _ => rfl) ?_
  refine k_iinc (v := 1) (lv' := [some (.ref a), some (.int 11)]) dc_X4_init_44 rfl (by decide) rfl (by decide) rfl ?_
  refine k_goto (tgt := 25) dc_X4_init_47 (by decide) ?_
  refine k_iload_n dc_X4_init_25 rfl ?_
  refine k_bipush (v := 12) dc_X4_init_26 (by decide) ?_
  refine k_icmp_ge (tgt := 50) dc_X4_init_28 (by decide) (fun h => absurd h (by decide)) (fun _ => ?_)
  refine k_aload_n dc_X4_init_31 rfl ?_
  refine k_getR dc_X4_init_32 fi_X4_18 rfl ?_
  refine k_iload_n dc_X4_init_35 rfl ?_
  refine k_new (host := "UnaskedName") dc_X4_init_36 dc_X4_init_39 dc_X4_init_40 kX3 ci_X3_init mw_320 (Or.inl (List.mem_of_getElem? (i := 6) rfl)) (Nat.le_of_ble_eq_true rfl) (Nat.le_of_ble_eq_true rfl) ⟨Nat.le_of_ble_eq_true rfl, Nat.le_of_ble_eq_true rfl⟩ ?_
  refine k_aast (X' := fun cy => ([(sz, .inl (cy 4, 12, .inr (.inr (.inr (.inr (va_up (va_up (va_up (va_up (va_up (va_up (va_up (va_up (va_up (va_up (va_up (va_up (fun _ => none) (Int32.toNatClampNeg 0) (some (sz + 1))) (Int32.toNatClampNeg 1) (some (sz + 5))) (Int32.toNatClampNeg 2) (some (sz + 9))) (Int32.toNatClampNeg 3) (some (sz + 13))) (Int32.toNatClampNeg 4) (some (sz + 17))) (Int32.toNatClampNeg 5) (some (sz + 21))) (Int32.toNatClampNeg 6) (some (sz + 25))) (Int32.toNatClampNeg 7) (some (sz + 29))) (Int32.toNatClampNeg 8) (some (sz + 33))) (Int32.toNatClampNeg 9) (some (sz + 37))) (Int32.toNatClampNeg 10) (some (sz + 41))) (Int32.toNatClampNeg 11) (some (sz + 45))))))))]) ++ (wX3 (sz + 1) (sz + 2) cy) ++ (wX3 (sz + 5) (sz + 6) cy) ++ (wX3 (sz + 9) (sz + 10) cy) ++ (wX3 (sz + 13) (sz + 14) cy) ++ (wX3 (sz + 17) (sz + 18) cy) ++ (wX3 (sz + 21) (sz + 22) cy) ++ (wX3 (sz + 25) (sz + 26) cy) ++ (wX3 (sz + 29) (sz + 30) cy) ++ (wX3 (sz + 33) (sz + 34) cy) ++ (wX3 (sz + 37) (sz + 38) cy) ++ (wX3 (sz + 41) (sz + 42) cy) ++ (wX3 (sz + 45) (sz + 46) cy)) (j := 0) (q := 45) dc_X4_init_43 (fun _ => rfl) (fun _ => rfl) (inB_s rfl) (fun _ => rfl) ?_
  refine k_iinc (v := 1) (lv' := [some (.ref a), some (.int 12)]) dc_X4_init_44 rfl (by decide) rfl (by decide) rfl ?_
  refine k_goto (tgt := 25) dc_X4_init_47 (by decide) ?_
  refine k_iload_n dc_X4_init_25 rfl ?_
  refine k_bipush (v := 12) dc_X4_init_26 (by decide) ?_
  refine k_icmp_ge (tgt := 50) dc_X4_init_28 (by decide) (fun _ => ?_) (fun h => absurd (by decide) h)
  exact k_vret dc_X4_init_50 rfl (fun _ => rfl) rfl ⟨Nat.le_of_ble_eq_true rfl, Nat.le_of_ble_eq_true rfl⟩
abbrev miX6_init : MI := (RX6, cX6_init, 1, none, [])
theorem ci_X6_init : CI miX6_init yX6_init 6 := ⟨rfl, mw_339, mw_9, mw_340, rfl, ⟨by decide, by decide, by decide⟩, by decide, mw_337, TX6, tyX6, rfl, inX6, tyX6_ok, by decide +kernel⟩
theorem dc_X6_init_0 : Dc miX6_init 0 (.aload_n 0) 1 1 := ⟨by decide +kernel, rfl⟩
theorem dc_X6_init_1 : Dc miX6_init 1 (.invokespecial 3) 3 4 := ⟨by decide +kernel, rfl⟩
theorem dc_X6_init_4 : Dc miX6_init 4 (.aload_n 0) 1 5 := ⟨by decide +kernel, rfl⟩
theorem dc_X6_init_5 : Dc miX6_init 5 (.new 9) 3 8 := ⟨by decide +kernel, rfl⟩
theorem dc_X6_init_8 : Dc miX6_init 8 (.dup) 1 9 := ⟨by decide +kernel, rfl⟩
theorem dc_X6_init_9 : Dc miX6_init 9 (.invokespecial 11) 3 12 := ⟨by decide +kernel, rfl⟩
theorem dc_X6_init_12 : Dc miX6_init 12 (.putfield 12) 3 15 := ⟨by decide +kernel, rfl⟩
theorem dc_X6_init_15 : Dc miX6_init 15 (.aload_n 0) 1 16 := ⟨by decide +kernel, rfl⟩
theorem dc_X6_init_16 : Dc miX6_init 16 (.sipush 1200) 3 19 := ⟨by decide +kernel, rfl⟩
theorem dc_X6_init_19 : Dc miX6_init 19 (.newarray .int) 2 21 := ⟨by decide +kernel, rfl⟩
theorem dc_X6_init_21 : Dc miX6_init 21 (.putfield 18) 3 24 := ⟨by decide +kernel, rfl⟩
theorem dc_X6_init_24 : Dc miX6_init 24 (.aload_n 0) 1 25 := ⟨by decide +kernel, rfl⟩
theorem dc_X6_init_25 : Dc miX6_init 25 (.sipush 1200) 3 28 := ⟨by decide +kernel, rfl⟩
theorem dc_X6_init_28 : Dc miX6_init 28 (.newarray .int) 2 30 := ⟨by decide +kernel, rfl⟩
theorem dc_X6_init_30 : Dc miX6_init 30 (.putfield 22) 3 33 := ⟨by decide +kernel, rfl⟩
theorem dc_X6_init_33 : Dc miX6_init 33 (.aload_n 0) 1 34 := ⟨by decide +kernel, rfl⟩
theorem dc_X6_init_34 : Dc miX6_init 34 (.iconst 0) 1 35 := ⟨by decide +kernel, rfl⟩
theorem dc_X6_init_35 : Dc miX6_init 35 (.putfield 25) 3 38 := ⟨by decide +kernel, rfl⟩
theorem dc_X6_init_38 : Dc miX6_init 38 (.aload_n 0) 1 39 := ⟨by decide +kernel, rfl⟩
theorem dc_X6_init_39 : Dc miX6_init 39 (.iconst 0) 1 40 := ⟨by decide +kernel, rfl⟩
theorem dc_X6_init_40 : Dc miX6_init 40 (.putfield 29) 3 43 := ⟨by decide +kernel, rfl⟩
theorem dc_X6_init_43 : Dc miX6_init 43 (.return_) 1 44 := ⟨by decide +kernel, rfl⟩
def wX6 (a sz : Nat) : wF := fun cy => (a, .inr (6, [.ref (sz), .ref (sz + 4), .ref (sz + 5), .int 0, .int 0])) :: ((wX3 (sz) (sz + 1) cy) ++ ([(sz + 4, .inl (cy 1, 1200, .inl (fun _ => 0)))]) ++ ([(sz + 5, .inl (cy 1, 1200, .inl (fun _ => 0)))]))
set_option maxRecDepth 100000 in
set_option maxHeartbeats 4000000 in
theorem kX6 : Kn miX6_init yX6_init 6 6 2478 6 wX6 := by
  refine kn_of (lv := fun a => [some (.ref a)]) (by decide) rfl rfl rfl (by decide) (fun _ => rfl) (fun SK a sz => ?_)
  refine k_aload_n dc_X6_init_0 rfl ?_
  refine k_obj dc_X6_init_1 mw_341 (Nat.le_of_ble_eq_true rfl) (Nat.le_of_ble_eq_true rfl) ?_
  refine k_aload_n dc_X6_init_4 rfl ?_
  refine k_new (host := "UnaskedName") dc_X6_init_5 dc_X6_init_8 dc_X6_init_9 kX3 ci_X3_init mw_342 (Or.inl (List.mem_of_getElem? (i := 9) rfl)) (Nat.le_of_ble_eq_true rfl) (Nat.le_of_ble_eq_true rfl) ⟨Nat.le_of_ble_eq_true rfl, Nat.le_of_ble_eq_true rfl⟩ ?_
  refine k_putF (fs' := [.ref (sz), .null, .null, .int 0, .int 0]) dc_X6_init_12 fi_X6_12 (fun C9 T9 n9 h9 => by cases h9; rfl) rfl rfl (Nat.le_of_ble_eq_true rfl) rfl ?_
  refine k_aload_n dc_X6_init_15 rfl ?_
  refine k_sipush (v := 1200) dc_X6_init_16 (by decide) ?_
  refine k_newa (ty := .int) (j := 1) (N := 1200) dc_X6_init_19 mw_177 rfl (fun _ => rfl) rfl (fun _ _ h => h) (by decide) (by decide) (by decide) ⟨Nat.le_of_ble_eq_true rfl, Nat.le_of_ble_eq_true rfl⟩ ?_
  refine k_putF (fs' := [.ref (sz), .ref (sz + 4), .null, .int 0, .int 0]) dc_X6_init_21 fi_X6_18 (fun C9 T9 n9 h9 => by cases h9; rfl) rfl rfl (Nat.le_of_ble_eq_true rfl) rfl ?_
  refine k_aload_n dc_X6_init_24 rfl ?_
  refine k_sipush (v := 1200) dc_X6_init_25 (by decide) ?_
  refine k_newa (ty := .int) (j := 1) (N := 1200) dc_X6_init_28 mw_177 rfl (fun _ => rfl) rfl (fun _ _ h => h) (by decide) (by decide) (by decide) ⟨Nat.le_of_ble_eq_true rfl, Nat.le_of_ble_eq_true rfl⟩ ?_
  refine k_putF (fs' := [.ref (sz), .ref (sz + 4), .ref (sz + 5), .int 0, .int 0]) dc_X6_init_30 fi_X6_22 (fun C9 T9 n9 h9 => by cases h9; rfl) rfl rfl (Nat.le_of_ble_eq_true rfl) rfl ?_
  refine k_aload_n dc_X6_init_33 rfl ?_
  refine k_iconst (v := 0) dc_X6_init_34 (by decide) ?_
  refine k_put (fs' := [.ref (sz), .ref (sz + 4), .ref (sz + 5), .int 0, .int 0]) dc_X6_init_35 fi_X6_25 rfl rfl (Nat.le_of_ble_eq_true rfl) rfl ?_
  refine k_aload_n dc_X6_init_38 rfl ?_
  refine k_iconst (v := 0) dc_X6_init_39 (by decide) ?_
  refine k_put (fs' := [.ref (sz), .ref (sz + 4), .ref (sz + 5), .int 0, .int 0]) dc_X6_init_40 fi_X6_29 rfl rfl (Nat.le_of_ble_eq_true rfl) rfl ?_
  exact k_vret dc_X6_init_43 rfl (fun _ => rfl) rfl ⟨Nat.le_of_ble_eq_true rfl, Nat.le_of_ble_eq_true rfl⟩
abbrev miX5_init : MI := (RX5, cX5_init, 1, none, [])
theorem ci_X5_init : CI miX5_init yX5_init 5 := ⟨rfl, mw_363, mw_10, mw_364, rfl, ⟨by decide, by decide, by decide⟩, by decide, mw_361, TX5, tyX5, rfl, inX5, tyX5_ok, by decide +kernel⟩
theorem dc_X5_init_0 : Dc miX5_init 0 (.aload_n 0) 1 1 := ⟨by decide +kernel, rfl⟩
theorem dc_X5_init_1 : Dc miX5_init 1 (.invokespecial 3) 3 4 := ⟨by decide +kernel, rfl⟩
theorem dc_X5_init_4 : Dc miX5_init 4 (.aload_n 0) 1 5 := ⟨by decide +kernel, rfl⟩
theorem dc_X5_init_5 : Dc miX5_init 5 (.new 9) 3 8 := ⟨by decide +kernel, rfl⟩
theorem dc_X5_init_8 : Dc miX5_init 8 (.dup) 1 9 := ⟨by decide +kernel, rfl⟩
theorem dc_X5_init_9 : Dc miX5_init 9 (.invokespecial 11) 3 12 := ⟨by decide +kernel, rfl⟩
theorem dc_X5_init_12 : Dc miX5_init 12 (.putfield 12) 3 15 := ⟨by decide +kernel, rfl⟩
theorem dc_X5_init_15 : Dc miX5_init 15 (.aload_n 0) 1 16 := ⟨by decide +kernel, rfl⟩
theorem dc_X5_init_16 : Dc miX5_init 16 (.bipush 100) 2 18 := ⟨by decide +kernel, rfl⟩
theorem dc_X5_init_18 : Dc miX5_init 18 (.newarray .long) 2 20 := ⟨by decide +kernel, rfl⟩
theorem dc_X5_init_20 : Dc miX5_init 20 (.putfield 18) 3 23 := ⟨by decide +kernel, rfl⟩
theorem dc_X5_init_23 : Dc miX5_init 23 (.aload_n 0) 1 24 := ⟨by decide +kernel, rfl⟩
theorem dc_X5_init_24 : Dc miX5_init 24 (.bipush 100) 2 26 := ⟨by decide +kernel, rfl⟩
theorem dc_X5_init_26 : Dc miX5_init 26 (.newarray .long) 2 28 := ⟨by decide +kernel, rfl⟩
theorem dc_X5_init_28 : Dc miX5_init 28 (.putfield 22) 3 31 := ⟨by decide +kernel, rfl⟩
theorem dc_X5_init_31 : Dc miX5_init 31 (.aload_n 0) 1 32 := ⟨by decide +kernel, rfl⟩
theorem dc_X5_init_32 : Dc miX5_init 32 (.bipush 100) 2 34 := ⟨by decide +kernel, rfl⟩
theorem dc_X5_init_34 : Dc miX5_init 34 (.newarray .long) 2 36 := ⟨by decide +kernel, rfl⟩
theorem dc_X5_init_36 : Dc miX5_init 36 (.putfield 25) 3 39 := ⟨by decide +kernel, rfl⟩
theorem dc_X5_init_39 : Dc miX5_init 39 (.return_) 1 40 := ⟨by decide +kernel, rfl⟩
def wX5 (a sz : Nat) : wF := fun cy => (a, .inr (5, [.ref (sz), .ref (sz + 4), .ref (sz + 5), .ref (sz + 6)])) :: ((wX3 (sz) (sz + 1) cy) ++ ([(sz + 4, .inl (cy 2, 100, .inr (.inl (fun _ => 0))))]) ++ ([(sz + 5, .inl (cy 2, 100, .inr (.inl (fun _ => 0))))]) ++ ([(sz + 6, .inl (cy 2, 100, .inr (.inl (fun _ => 0))))]))
set_option maxRecDepth 100000 in
set_option maxHeartbeats 4000000 in
theorem kX5 : Kn miX5_init yX5_init 6 7 378 5 wX5 := by
  refine kn_of (lv := fun a => [some (.ref a)]) (by decide) rfl rfl rfl (by decide) (fun _ => rfl) (fun SK a sz => ?_)
  refine k_aload_n dc_X5_init_0 rfl ?_
  refine k_obj dc_X5_init_1 mw_365 (Nat.le_of_ble_eq_true rfl) (Nat.le_of_ble_eq_true rfl) ?_
  refine k_aload_n dc_X5_init_4 rfl ?_
  refine k_new (host := "UnaskedName") dc_X5_init_5 dc_X5_init_8 dc_X5_init_9 kX3 ci_X3_init mw_366 (Or.inl (List.mem_of_getElem? (i := 11) rfl)) (Nat.le_of_ble_eq_true rfl) (Nat.le_of_ble_eq_true rfl) ⟨Nat.le_of_ble_eq_true rfl, Nat.le_of_ble_eq_true rfl⟩ ?_
  refine k_putF (fs' := [.ref (sz), .null, .null, .null]) dc_X5_init_12 fi_X5_12 (fun C9 T9 n9 h9 => by cases h9; rfl) rfl rfl (Nat.le_of_ble_eq_true rfl) rfl ?_
  refine k_aload_n dc_X5_init_15 rfl ?_
  refine k_bipush (v := 100) dc_X5_init_16 (by decide) ?_
  refine k_newl (N := 100) dc_X5_init_18 mw_381 (by decide) (by decide) (by decide) ⟨Nat.le_of_ble_eq_true rfl, Nat.le_of_ble_eq_true rfl⟩ ?_
  refine k_putF (fs' := [.ref (sz), .ref (sz + 4), .null, .null]) dc_X5_init_20 fi_X5_18 (fun C9 T9 n9 h9 => by cases h9; rfl) rfl rfl (Nat.le_of_ble_eq_true rfl) rfl ?_
  refine k_aload_n dc_X5_init_23 rfl ?_
  refine k_bipush (v := 100) dc_X5_init_24 (by decide) ?_
  refine k_newl (N := 100) dc_X5_init_26 mw_381 (by decide) (by decide) (by decide) ⟨Nat.le_of_ble_eq_true rfl, Nat.le_of_ble_eq_true rfl⟩ ?_
  refine k_putF (fs' := [.ref (sz), .ref (sz + 4), .ref (sz + 5), .null]) dc_X5_init_28 fi_X5_22 (fun C9 T9 n9 h9 => by cases h9; rfl) rfl rfl (Nat.le_of_ble_eq_true rfl) rfl ?_
  refine k_aload_n dc_X5_init_31 rfl ?_
  refine k_bipush (v := 100) dc_X5_init_32 (by decide) ?_
  refine k_newl (N := 100) dc_X5_init_34 mw_381 (by decide) (by decide) (by decide) ⟨Nat.le_of_ble_eq_true rfl, Nat.le_of_ble_eq_true rfl⟩ ?_
  refine k_putF (fs' := [.ref (sz), .ref (sz + 4), .ref (sz + 5), .ref (sz + 6)]) dc_X5_init_36 fi_X5_25 (fun C9 T9 n9 h9 => by cases h9; rfl) rfl rfl (Nat.le_of_ble_eq_true rfl) rfl ?_
  exact k_vret dc_X5_init_39 rfl (fun _ => rfl) rfl ⟨Nat.le_of_ble_eq_true rfl, Nat.le_of_ble_eq_true rfl⟩
abbrev miX1_init : MI := (RX1, cX1_init, 1, none, [])
theorem ci_X1_init : CI miX1_init yX1_init 1 := ⟨rfl, mw_385, mw_11, mw_386, rfl, ⟨by decide, by decide, by decide⟩, by decide, mw_383, TX1, tyX1, rfl, inX1, tyX1_ok, by decide +kernel⟩
theorem dc_X1_init_0 : Dc miX1_init 0 (.aload_n 0) 1 1 := ⟨by decide +kernel, rfl⟩
theorem dc_X1_init_1 : Dc miX1_init 1 (.invokespecial 5) 3 4 := ⟨by decide +kernel, rfl⟩
theorem dc_X1_init_4 : Dc miX1_init 4 (.aload_n 0) 1 5 := ⟨by decide +kernel, rfl⟩
theorem dc_X1_init_5 : Dc miX1_init 5 (.iconst 0) 1 6 := ⟨by decide +kernel, rfl⟩
theorem dc_X1_init_6 : Dc miX1_init 6 (.putfield 11) 3 9 := ⟨by decide +kernel, rfl⟩
theorem dc_X1_init_9 : Dc miX1_init 9 (.aload_n 0) 1 10 := ⟨by decide +kernel, rfl⟩
theorem dc_X1_init_10 : Dc miX1_init 10 (.iconst 0) 1 11 := ⟨by decide +kernel, rfl⟩
theorem dc_X1_init_11 : Dc miX1_init 11 (.putfield 17) 3 14 := ⟨by decide +kernel, rfl⟩
theorem dc_X1_init_14 : Dc miX1_init 14 (.aload_n 0) 1 15 := ⟨by decide +kernel, rfl⟩
theorem dc_X1_init_15 : Dc miX1_init 15 (.iconst 1) 1 16 := ⟨by decide +kernel, rfl⟩
theorem dc_X1_init_16 : Dc miX1_init 16 (.putfield 20) 3 19 := ⟨by decide +kernel, rfl⟩
theorem dc_X1_init_19 : Dc miX1_init 19 (.aload_n 0) 1 20 := ⟨by decide +kernel, rfl⟩
theorem dc_X1_init_20 : Dc miX1_init 20 (.iconst 0) 1 21 := ⟨by decide +kernel, rfl⟩
theorem dc_X1_init_21 : Dc miX1_init 21 (.putfield 23) 3 24 := ⟨by decide +kernel, rfl⟩
theorem dc_X1_init_24 : Dc miX1_init 24 (.aload_n 0) 1 25 := ⟨by decide +kernel, rfl⟩
theorem dc_X1_init_25 : Dc miX1_init 25 (.sipush 1007) 3 28 := ⟨by decide +kernel, rfl⟩
theorem dc_X1_init_28 : Dc miX1_init 28 (.putfield 26) 3 31 := ⟨by decide +kernel, rfl⟩
theorem dc_X1_init_31 : Dc miX1_init 31 (.aload_n 0) 1 32 := ⟨by decide +kernel, rfl⟩
theorem dc_X1_init_32 : Dc miX1_init 32 (.iconst 0) 1 33 := ⟨by decide +kernel, rfl⟩
theorem dc_X1_init_33 : Dc miX1_init 33 (.putfield 29) 3 36 := ⟨by decide +kernel, rfl⟩
theorem dc_X1_init_36 : Dc miX1_init 36 (.aload_n 0) 1 37 := ⟨by decide +kernel, rfl⟩
theorem dc_X1_init_37 : Dc miX1_init 37 (.iconst 0) 1 38 := ⟨by decide +kernel, rfl⟩
theorem dc_X1_init_38 : Dc miX1_init 38 (.putfield 32) 3 41 := ⟨by decide +kernel, rfl⟩
theorem dc_X1_init_41 : Dc miX1_init 41 (.aload_n 0) 1 42 := ⟨by decide +kernel, rfl⟩
theorem dc_X1_init_42 : Dc miX1_init 42 (.bipush 20) 2 44 := ⟨by decide +kernel, rfl⟩
theorem dc_X1_init_44 : Dc miX1_init 44 (.newarray .int) 2 46 := ⟨by decide +kernel, rfl⟩
theorem dc_X1_init_46 : Dc miX1_init 46 (.putfield 35) 3 49 := ⟨by decide +kernel, rfl⟩
theorem dc_X1_init_49 : Dc miX1_init 49 (.return_) 1 50 := ⟨by decide +kernel, rfl⟩
def wX1 (a sz : Nat) : wF := fun cy => (a, .inr (1, [.int 0, .int 0, .int 1, .int 0, .int 1007, .int 0, .int 0, .ref (sz)])) :: (([(sz, .inl (cy 1, 20, .inl (fun _ => 0)))]))
set_option maxRecDepth 100000 in
set_option maxHeartbeats 4000000 in
theorem kX1 : Kn miX1_init yX1_init 2 1 20 1 wX1 := by
  refine kn_of (lv := fun a => [some (.ref a)]) (by decide) rfl rfl rfl (by decide) (fun _ => rfl) (fun SK a sz => ?_)
  refine k_aload_n dc_X1_init_0 rfl ?_
  refine k_obj dc_X1_init_1 mw_387 (Nat.le_of_ble_eq_true rfl) (Nat.le_of_ble_eq_true rfl) ?_
  refine k_aload_n dc_X1_init_4 rfl ?_
  refine k_iconst (v := 0) dc_X1_init_5 (by decide) ?_
  refine k_put (fs' := [.int 0, .int 0, .int 0, .int 0, .int 0, .int 0, .int 0, .null]) dc_X1_init_6 fi_X1_11 rfl rfl (Nat.le_of_ble_eq_true rfl) rfl ?_
  refine k_aload_n dc_X1_init_9 rfl ?_
  refine k_iconst (v := 0) dc_X1_init_10 (by decide) ?_
  refine k_put (fs' := [.int 0, .int 0, .int 0, .int 0, .int 0, .int 0, .int 0, .null]) dc_X1_init_11 fi_X1_17 rfl rfl (Nat.le_of_ble_eq_true rfl) rfl ?_
  refine k_aload_n dc_X1_init_14 rfl ?_
  refine k_iconst (v := 1) dc_X1_init_15 (by decide) ?_
  refine k_put (fs' := [.int 0, .int 0, .int 1, .int 0, .int 0, .int 0, .int 0, .null]) dc_X1_init_16 fi_X1_20 rfl rfl (Nat.le_of_ble_eq_true rfl) rfl ?_
  refine k_aload_n dc_X1_init_19 rfl ?_
  refine k_iconst (v := 0) dc_X1_init_20 (by decide) ?_
  refine k_put (fs' := [.int 0, .int 0, .int 1, .int 0, .int 0, .int 0, .int 0, .null]) dc_X1_init_21 fi_X1_23 rfl rfl (Nat.le_of_ble_eq_true rfl) rfl ?_
  refine k_aload_n dc_X1_init_24 rfl ?_
  refine k_sipush (v := 1007) dc_X1_init_25 (by decide) ?_
  refine k_put (fs' := [.int 0, .int 0, .int 1, .int 0, .int 1007, .int 0, .int 0, .null]) dc_X1_init_28 fi_X1_26 rfl rfl (Nat.le_of_ble_eq_true rfl) rfl ?_
  refine k_aload_n dc_X1_init_31 rfl ?_
  refine k_iconst (v := 0) dc_X1_init_32 (by decide) ?_
  refine k_put (fs' := [.int 0, .int 0, .int 1, .int 0, .int 1007, .int 0, .int 0, .null]) dc_X1_init_33 fi_X1_29 rfl rfl (Nat.le_of_ble_eq_true rfl) rfl ?_
  refine k_aload_n dc_X1_init_36 rfl ?_
  refine k_iconst (v := 0) dc_X1_init_37 (by decide) ?_
  refine k_put (fs' := [.int 0, .int 0, .int 1, .int 0, .int 1007, .int 0, .int 0, .null]) dc_X1_init_38 fi_X1_32 rfl rfl (Nat.le_of_ble_eq_true rfl) rfl ?_
  refine k_aload_n dc_X1_init_41 rfl ?_
  refine k_bipush (v := 20) dc_X1_init_42 (by decide) ?_
  refine k_newa (ty := .int) (j := 1) (N := 20) dc_X1_init_44 mw_177 rfl (fun _ => rfl) rfl (fun _ _ h => h) (by decide) (by decide) (by decide) ⟨Nat.le_of_ble_eq_true rfl, Nat.le_of_ble_eq_true rfl⟩ ?_
  refine k_putF (fs' := [.int 0, .int 0, .int 1, .int 0, .int 1007, .int 0, .int 0, .ref (sz)]) dc_X1_init_46 fi_X1_35 (fun C9 T9 n9 h9 => by cases h9; rfl) rfl rfl (Nat.le_of_ble_eq_true rfl) rfl ?_
  exact k_vret dc_X1_init_49 rfl (fun _ => rfl) rfl ⟨Nat.le_of_ble_eq_true rfl, Nat.le_of_ble_eq_true rfl⟩
abbrev miX11_init : MI := (RX11, cX11_init, 1, none, [])
theorem ci_X11_init : CI miX11_init yX11_init 10 := ⟨rfl, mw_32, mw_1, mw_33, rfl, ⟨by decide, by decide, by decide⟩, by decide, mw_30, TX11, tyX11, rfl, inX11, tyX11_ok, by decide +kernel⟩
theorem dc_X11_init_0 : Dc miX11_init 0 (.aload_n 0) 1 1 := ⟨by decide +kernel, rfl⟩
theorem dc_X11_init_1 : Dc miX11_init 1 (.invokespecial 1) 3 4 := ⟨by decide +kernel, rfl⟩
theorem dc_X11_init_4 : Dc miX11_init 4 (.aload_n 0) 1 5 := ⟨by decide +kernel, rfl⟩
theorem dc_X11_init_5 : Dc miX11_init 5 (.new 7) 3 8 := ⟨by decide +kernel, rfl⟩
theorem dc_X11_init_8 : Dc miX11_init 8 (.dup) 1 9 := ⟨by decide +kernel, rfl⟩
theorem dc_X11_init_9 : Dc miX11_init 9 (.invokespecial 9) 3 12 := ⟨by decide +kernel, rfl⟩
theorem dc_X11_init_12 : Dc miX11_init 12 (.putfield 10) 3 15 := ⟨by decide +kernel, rfl⟩
theorem dc_X11_init_15 : Dc miX11_init 15 (.aload_n 0) 1 16 := ⟨by decide +kernel, rfl⟩
theorem dc_X11_init_16 : Dc miX11_init 16 (.new 16) 3 19 := ⟨by decide +kernel, rfl⟩
theorem dc_X11_init_19 : Dc miX11_init 19 (.dup) 1 20 := ⟨by decide +kernel, rfl⟩
theorem dc_X11_init_20 : Dc miX11_init 20 (.invokespecial 18) 3 23 := ⟨by decide +kernel, rfl⟩
theorem dc_X11_init_23 : Dc miX11_init 23 (.putfield 19) 3 26 := ⟨by decide +kernel, rfl⟩
theorem dc_X11_init_26 : Dc miX11_init 26 (.aload_n 0) 1 27 := ⟨by decide +kernel, rfl⟩
theorem dc_X11_init_27 : Dc miX11_init 27 (.new 16) 3 30 := ⟨by decide +kernel, rfl⟩
theorem dc_X11_init_30 : Dc miX11_init 30 (.dup) 1 31 := ⟨by decide +kernel, rfl⟩
theorem dc_X11_init_31 : Dc miX11_init 31 (.invokespecial 18) 3 34 := ⟨by decide +kernel, rfl⟩
theorem dc_X11_init_34 : Dc miX11_init 34 (.putfield 23) 3 37 := ⟨by decide +kernel, rfl⟩
theorem dc_X11_init_37 : Dc miX11_init 37 (.aload_n 0) 1 38 := ⟨by decide +kernel, rfl⟩
theorem dc_X11_init_38 : Dc miX11_init 38 (.new 16) 3 41 := ⟨by decide +kernel, rfl⟩
theorem dc_X11_init_41 : Dc miX11_init 41 (.dup) 1 42 := ⟨by decide +kernel, rfl⟩
theorem dc_X11_init_42 : Dc miX11_init 42 (.invokespecial 18) 3 45 := ⟨by decide +kernel, rfl⟩
theorem dc_X11_init_45 : Dc miX11_init 45 (.putfield 26) 3 48 := ⟨by decide +kernel, rfl⟩
theorem dc_X11_init_48 : Dc miX11_init 48 (.aload_n 0) 1 49 := ⟨by decide +kernel, rfl⟩
theorem dc_X11_init_49 : Dc miX11_init 49 (.new 29) 3 52 := ⟨by decide +kernel, rfl⟩
theorem dc_X11_init_52 : Dc miX11_init 52 (.dup) 1 53 := ⟨by decide +kernel, rfl⟩
theorem dc_X11_init_53 : Dc miX11_init 53 (.invokespecial 31) 3 56 := ⟨by decide +kernel, rfl⟩
theorem dc_X11_init_56 : Dc miX11_init 56 (.putfield 32) 3 59 := ⟨by decide +kernel, rfl⟩
theorem dc_X11_init_59 : Dc miX11_init 59 (.aload_n 0) 1 60 := ⟨by decide +kernel, rfl⟩
theorem dc_X11_init_60 : Dc miX11_init 60 (.new 36) 3 63 := ⟨by decide +kernel, rfl⟩
theorem dc_X11_init_63 : Dc miX11_init 63 (.dup) 1 64 := ⟨by decide +kernel, rfl⟩
theorem dc_X11_init_64 : Dc miX11_init 64 (.invokespecial 38) 3 67 := ⟨by decide +kernel, rfl⟩
theorem dc_X11_init_67 : Dc miX11_init 67 (.putfield 39) 3 70 := ⟨by decide +kernel, rfl⟩
theorem dc_X11_init_70 : Dc miX11_init 70 (.aload_n 0) 1 71 := ⟨by decide +kernel, rfl⟩
theorem dc_X11_init_71 : Dc miX11_init 71 (.new 43) 3 74 := ⟨by decide +kernel, rfl⟩
theorem dc_X11_init_74 : Dc miX11_init 74 (.dup) 1 75 := ⟨by decide +kernel, rfl⟩
theorem dc_X11_init_75 : Dc miX11_init 75 (.invokespecial 45) 3 78 := ⟨by decide +kernel, rfl⟩
theorem dc_X11_init_78 : Dc miX11_init 78 (.putfield 46) 3 81 := ⟨by decide +kernel, rfl⟩
theorem dc_X11_init_81 : Dc miX11_init 81 (.aload_n 0) 1 82 := ⟨by decide +kernel, rfl⟩
theorem dc_X11_init_82 : Dc miX11_init 82 (.new 50) 3 85 := ⟨by decide +kernel, rfl⟩
theorem dc_X11_init_85 : Dc miX11_init 85 (.dup) 1 86 := ⟨by decide +kernel, rfl⟩
theorem dc_X11_init_86 : Dc miX11_init 86 (.invokespecial 52) 3 89 := ⟨by decide +kernel, rfl⟩
theorem dc_X11_init_89 : Dc miX11_init 89 (.putfield 53) 3 92 := ⟨by decide +kernel, rfl⟩
theorem dc_X11_init_92 : Dc miX11_init 92 (.aload_n 0) 1 93 := ⟨by decide +kernel, rfl⟩
theorem dc_X11_init_93 : Dc miX11_init 93 (.new 57) 3 96 := ⟨by decide +kernel, rfl⟩
theorem dc_X11_init_96 : Dc miX11_init 96 (.dup) 1 97 := ⟨by decide +kernel, rfl⟩
theorem dc_X11_init_97 : Dc miX11_init 97 (.invokespecial 59) 3 100 := ⟨by decide +kernel, rfl⟩
theorem dc_X11_init_100 : Dc miX11_init 100 (.putfield 60) 3 103 := ⟨by decide +kernel, rfl⟩
theorem dc_X11_init_103 : Dc miX11_init 103 (.aload_n 0) 1 104 := ⟨by decide +kernel, rfl⟩
theorem dc_X11_init_104 : Dc miX11_init 104 (.iconst (-1)) 1 105 := ⟨by decide +kernel, rfl⟩
theorem dc_X11_init_105 : Dc miX11_init 105 (.putfield 64) 3 108 := ⟨by decide +kernel, rfl⟩
theorem dc_X11_init_108 : Dc miX11_init 108 (.aload_n 0) 1 109 := ⟨by decide +kernel, rfl⟩
theorem dc_X11_init_109 : Dc miX11_init 109 (.iconst 0) 1 110 := ⟨by decide +kernel, rfl⟩
theorem dc_X11_init_110 : Dc miX11_init 110 (.putfield 68) 3 113 := ⟨by decide +kernel, rfl⟩
theorem dc_X11_init_113 : Dc miX11_init 113 (.return_) 1 114 := ⟨by decide +kernel, rfl⟩
def wX11 (a sz : Nat) : wF := fun cy => (a, .inr (10, [.ref (sz), .ref (sz + 2), .ref (sz + 23), .ref (sz + 44), .ref (sz + 65), .ref (sz + 115), .ref (sz + 119), .ref (sz + 126), .ref (sz + 134), .int (-1), .int 0])) :: ((wX9 (sz) (sz + 1) cy) ++ (wX10 (sz + 2) (sz + 3) cy) ++ (wX10 (sz + 23) (sz + 24) cy) ++ (wX10 (sz + 44) (sz + 45) cy) ++ (wX4 (sz + 65) (sz + 66) cy) ++ (wX3 (sz + 115) (sz + 116) cy) ++ (wX6 (sz + 119) (sz + 120) cy) ++ (wX5 (sz + 126) (sz + 127) cy) ++ (wX1 (sz + 134) (sz + 135) cy))
set_option maxRecDepth 100000 in
set_option maxHeartbeats 4000000 in
theorem kX11 : Kn miX11_init yX11_init 8 136 6155 10 wX11 := by
  refine kn_of (lv := fun a => [some (.ref a)]) (by decide) rfl rfl rfl (by decide) (fun _ => rfl) (fun SK a sz => ?_)
  refine k_aload_n dc_X11_init_0 rfl ?_
  refine k_obj dc_X11_init_1 mw_34 (Nat.le_of_ble_eq_true rfl) (Nat.le_of_ble_eq_true rfl) ?_
  refine k_aload_n dc_X11_init_4 rfl ?_
  refine k_new (host := "UnaskedName") dc_X11_init_5 dc_X11_init_8 dc_X11_init_9 kX9 ci_X9_init mw_37 (Or.inl (List.mem_of_getElem? (i := 0) rfl)) (Nat.le_of_ble_eq_true rfl) (Nat.le_of_ble_eq_true rfl) ⟨Nat.le_of_ble_eq_true rfl, Nat.le_of_ble_eq_true rfl⟩ ?_
  refine k_putF (fs' := [.ref (sz), .null, .null, .null, .null, .null, .null, .null, .null, .int 0, .int 0]) dc_X11_init_12 fi_X11_10 (fun C9 T9 n9 h9 => by cases h9; rfl) rfl rfl (Nat.le_of_ble_eq_true rfl) rfl ?_
  refine k_aload_n dc_X11_init_15 rfl ?_
  refine k_new (host := "UnaskedName") dc_X11_init_16 dc_X11_init_19 dc_X11_init_20 kX10 ci_X10_init mw_67 (Or.inl (List.mem_of_getElem? (i := 1) rfl)) (Nat.le_of_ble_eq_true rfl) (Nat.le_of_ble_eq_true rfl) ⟨Nat.le_of_ble_eq_true rfl, Nat.le_of_ble_eq_true rfl⟩ ?_
  refine k_putF (fs' := [.ref (sz), .ref (sz + 2), .null, .null, .null, .null, .null, .null, .null, .int 0, .int 0]) dc_X11_init_23 fi_X11_19 (fun C9 T9 n9 h9 => by cases h9; rfl) rfl rfl (Nat.le_of_ble_eq_true rfl) rfl ?_
  refine k_aload_n dc_X11_init_26 rfl ?_
  refine k_new (host := "UnaskedName") dc_X11_init_27 dc_X11_init_30 dc_X11_init_31 kX10 ci_X10_init mw_67 (Or.inl (List.mem_of_getElem? (i := 1) rfl)) (Nat.le_of_ble_eq_true rfl) (Nat.le_of_ble_eq_true rfl) ⟨Nat.le_of_ble_eq_true rfl, Nat.le_of_ble_eq_true rfl⟩ ?_
  refine k_putF (fs' := [.ref (sz), .ref (sz + 2), .ref (sz + 23), .null, .null, .null, .null, .null, .null, .int 0, .int 0]) dc_X11_init_34 fi_X11_23 (fun C9 T9 n9 h9 => by cases h9; rfl) rfl rfl (Nat.le_of_ble_eq_true rfl) rfl ?_
  refine k_aload_n dc_X11_init_37 rfl ?_
  refine k_new (host := "UnaskedName") dc_X11_init_38 dc_X11_init_41 dc_X11_init_42 kX10 ci_X10_init mw_67 (Or.inl (List.mem_of_getElem? (i := 1) rfl)) (Nat.le_of_ble_eq_true rfl) (Nat.le_of_ble_eq_true rfl) ⟨Nat.le_of_ble_eq_true rfl, Nat.le_of_ble_eq_true rfl⟩ ?_
  refine k_putF (fs' := [.ref (sz), .ref (sz + 2), .ref (sz + 23), .ref (sz + 44), .null, .null, .null, .null, .null, .int 0, .int 0]) dc_X11_init_45 fi_X11_26 (fun C9 T9 n9 h9 => by cases h9; rfl) rfl rfl (Nat.le_of_ble_eq_true rfl) rfl ?_
  refine k_aload_n dc_X11_init_48 rfl ?_
  refine k_new (host := "") dc_X11_init_49 dc_X11_init_52 dc_X11_init_53 kX4 ci_X4_init mw_314 (Or.inr mw_316) (Nat.le_of_ble_eq_true rfl) (Nat.le_of_ble_eq_true rfl) ⟨Nat.le_of_ble_eq_true rfl, Nat.le_of_ble_eq_true rfl⟩ ?_
  refine k_putF (fs' := [.ref (sz), .ref (sz + 2), .ref (sz + 23), .ref (sz + 44), .ref (sz + 65), .null, .null, .null, .null, .int 0, .int 0]) dc_X11_init_56 fi_X11_32 (fun C9 T9 n9 h9 => by cases h9; rfl) rfl rfl (Nat.le_of_ble_eq_true rfl) rfl ?_
  refine k_aload_n dc_X11_init_59 rfl ?_
  refine k_new (host := "UnaskedName") dc_X11_init_60 dc_X11_init_63 dc_X11_init_64 kX3 ci_X3_init mw_334 (Or.inl (List.mem_of_getElem? (i := 7) rfl)) (Nat.le_of_ble_eq_true rfl) (Nat.le_of_ble_eq_true rfl) ⟨Nat.le_of_ble_eq_true rfl, Nat.le_of_ble_eq_true rfl⟩ ?_
  refine k_putF (fs' := [.ref (sz), .ref (sz + 2), .ref (sz + 23), .ref (sz + 44), .ref (sz + 65), .ref (sz + 115), .null, .null, .null, .int 0, .int 0]) dc_X11_init_67 fi_X11_39 (fun C9 T9 n9 h9 => by cases h9; rfl) rfl rfl (Nat.le_of_ble_eq_true rfl) rfl ?_
  refine k_aload_n dc_X11_init_70 rfl ?_
  refine k_new (host := "UnaskedName") dc_X11_init_71 dc_X11_init_74 dc_X11_init_75 kX6 ci_X6_init mw_336 (Or.inl (List.mem_of_getElem? (i := 8) rfl)) (Nat.le_of_ble_eq_true rfl) (Nat.le_of_ble_eq_true rfl) ⟨Nat.le_of_ble_eq_true rfl, Nat.le_of_ble_eq_true rfl⟩ ?_
  refine k_putF (fs' := [.ref (sz), .ref (sz + 2), .ref (sz + 23), .ref (sz + 44), .ref (sz + 65), .ref (sz + 115), .ref (sz + 119), .null, .null, .int 0, .int 0]) dc_X11_init_78 fi_X11_46 (fun C9 T9 n9 h9 => by cases h9; rfl) rfl rfl (Nat.le_of_ble_eq_true rfl) rfl ?_
  refine k_aload_n dc_X11_init_81 rfl ?_
  refine k_new (host := "UnaskedName") dc_X11_init_82 dc_X11_init_85 dc_X11_init_86 kX5 ci_X5_init mw_360 (Or.inl (List.mem_of_getElem? (i := 10) rfl)) (Nat.le_of_ble_eq_true rfl) (Nat.le_of_ble_eq_true rfl) ⟨Nat.le_of_ble_eq_true rfl, Nat.le_of_ble_eq_true rfl⟩ ?_
  refine k_putF (fs' := [.ref (sz), .ref (sz + 2), .ref (sz + 23), .ref (sz + 44), .ref (sz + 65), .ref (sz + 115), .ref (sz + 119), .ref (sz + 126), .null, .int 0, .int 0]) dc_X11_init_89 fi_X11_53 (fun C9 T9 n9 h9 => by cases h9; rfl) rfl rfl (Nat.le_of_ble_eq_true rfl) rfl ?_
  refine k_aload_n dc_X11_init_92 rfl ?_
  refine k_new (host := "UnaskedName") dc_X11_init_93 dc_X11_init_96 dc_X11_init_97 kX1 ci_X1_init mw_382 (Or.inl (List.mem_of_getElem? (i := 12) rfl)) (Nat.le_of_ble_eq_true rfl) (Nat.le_of_ble_eq_true rfl) ⟨Nat.le_of_ble_eq_true rfl, Nat.le_of_ble_eq_true rfl⟩ ?_
  refine k_putF (fs' := [.ref (sz), .ref (sz + 2), .ref (sz + 23), .ref (sz + 44), .ref (sz + 65), .ref (sz + 115), .ref (sz + 119), .ref (sz + 126), .ref (sz + 134), .int 0, .int 0]) dc_X11_init_100 fi_X11_60 (fun C9 T9 n9 h9 => by cases h9; rfl) rfl rfl (Nat.le_of_ble_eq_true rfl) rfl ?_
  refine k_aload_n dc_X11_init_103 rfl ?_
  refine k_iconst (v := (-1)) dc_X11_init_104 (by decide) ?_
  refine k_put (fs' := [.ref (sz), .ref (sz + 2), .ref (sz + 23), .ref (sz + 44), .ref (sz + 65), .ref (sz + 115), .ref (sz + 119), .ref (sz + 126), .ref (sz + 134), .int (-1), .int 0]) dc_X11_init_105 fi_X11_64 rfl rfl (Nat.le_of_ble_eq_true rfl) rfl ?_
  refine k_aload_n dc_X11_init_108 rfl ?_
  refine k_iconst (v := 0) dc_X11_init_109 (by decide) ?_
  refine k_put (fs' := [.ref (sz), .ref (sz + 2), .ref (sz + 23), .ref (sz + 44), .ref (sz + 65), .ref (sz + 115), .ref (sz + 119), .ref (sz + 126), .ref (sz + 134), .int (-1), .int 0]) dc_X11_init_110 fi_X11_68 rfl rfl (Nat.le_of_ble_eq_true rfl) rfl ?_
  exact k_vret dc_X11_init_113 rfl (fun _ => rfl) rfl ⟨Nat.le_of_ble_eq_true rfl, Nat.le_of_ble_eq_true rfl⟩
abbrev miX12_init : MI := (RX12, cX12_init, 1, none, [])
theorem ci_X12_init : CI miX12_init yX12_init 11 := ⟨rfl, mw_1489, mw_12, mw_1490, rfl, ⟨by decide, by decide, by decide⟩, by decide, mw_1487, TX12, tyX12, rfl, inX12, tyX12_ok, by decide +kernel⟩
theorem dc_X12_init_0 : Dc miX12_init 0 (.aload_n 0) 1 1 := ⟨by decide +kernel, rfl⟩
theorem dc_X12_init_1 : Dc miX12_init 1 (.invokespecial 7) 3 4 := ⟨by decide +kernel, rfl⟩
theorem dc_X12_init_4 : Dc miX12_init 4 (.aload_n 0) 1 5 := ⟨by decide +kernel, rfl⟩
theorem dc_X12_init_5 : Dc miX12_init 5 (.sipush 2081) 3 8 := ⟨by decide +kernel, rfl⟩
theorem dc_X12_init_8 : Dc miX12_init 8 (.newarray .int) 2 10 := ⟨by decide +kernel, rfl⟩
theorem dc_X12_init_10 : Dc miX12_init 10 (.putfield 13) 3 13 := ⟨by decide +kernel, rfl⟩
theorem dc_X12_init_13 : Dc miX12_init 13 (.aload_n 0) 1 14 := ⟨by decide +kernel, rfl⟩
theorem dc_X12_init_14 : Dc miX12_init 14 (.sipush 1232) 3 17 := ⟨by decide +kernel, rfl⟩
theorem dc_X12_init_17 : Dc miX12_init 17 (.newarray .int) 2 19 := ⟨by decide +kernel, rfl⟩
theorem dc_X12_init_19 : Dc miX12_init 19 (.putfield 17) 3 22 := ⟨by decide +kernel, rfl⟩
theorem dc_X12_init_22 : Dc miX12_init 22 (.aload_n 0) 1 23 := ⟨by decide +kernel, rfl⟩
theorem dc_X12_init_23 : Dc miX12_init 23 (.sipush 1232) 3 26 := ⟨by decide +kernel, rfl⟩
theorem dc_X12_init_26 : Dc miX12_init 26 (.newarray .int) 2 28 := ⟨by decide +kernel, rfl⟩
theorem dc_X12_init_28 : Dc miX12_init 28 (.putfield 20) 3 31 := ⟨by decide +kernel, rfl⟩
theorem dc_X12_init_31 : Dc miX12_init 31 (.aload_n 0) 1 32 := ⟨by decide +kernel, rfl⟩
theorem dc_X12_init_32 : Dc miX12_init 32 (.sipush 383) 3 35 := ⟨by decide +kernel, rfl⟩
theorem dc_X12_init_35 : Dc miX12_init 35 (.newarray .int) 2 37 := ⟨by decide +kernel, rfl⟩
theorem dc_X12_init_37 : Dc miX12_init 37 (.putfield 23) 3 40 := ⟨by decide +kernel, rfl⟩
theorem dc_X12_init_40 : Dc miX12_init 40 (.aload_n 0) 1 41 := ⟨by decide +kernel, rfl⟩
theorem dc_X12_init_41 : Dc miX12_init 41 (.sipush 4596) 3 44 := ⟨by decide +kernel, rfl⟩
theorem dc_X12_init_44 : Dc miX12_init 44 (.newarray .int) 2 46 := ⟨by decide +kernel, rfl⟩
theorem dc_X12_init_46 : Dc miX12_init 46 (.putfield 26) 3 49 := ⟨by decide +kernel, rfl⟩
theorem dc_X12_init_49 : Dc miX12_init 49 (.aload_n 0) 1 50 := ⟨by decide +kernel, rfl⟩
theorem dc_X12_init_50 : Dc miX12_init 50 (.sipush 400) 3 53 := ⟨by decide +kernel, rfl⟩
theorem dc_X12_init_53 : Dc miX12_init 53 (.newarray .byte) 2 55 := ⟨by decide +kernel, rfl⟩
theorem dc_X12_init_55 : Dc miX12_init 55 (.putfield 29) 3 58 := ⟨by decide +kernel, rfl⟩
theorem dc_X12_init_58 : Dc miX12_init 58 (.aload_n 0) 1 59 := ⟨by decide +kernel, rfl⟩
theorem dc_X12_init_59 : Dc miX12_init 59 (.iconst (-1)) 1 60 := ⟨by decide +kernel, rfl⟩
theorem dc_X12_init_60 : Dc miX12_init 60 (.putfield 33) 3 63 := ⟨by decide +kernel, rfl⟩
theorem dc_X12_init_63 : Dc miX12_init 63 (.aload_n 0) 1 64 := ⟨by decide +kernel, rfl⟩
theorem dc_X12_init_64 : Dc miX12_init 64 (.iconst 5) 1 65 := ⟨by decide +kernel, rfl⟩
theorem dc_X12_init_65 : Dc miX12_init 65 (.newarray .int) 2 67 := ⟨by decide +kernel, rfl⟩
theorem dc_X12_init_67 : Dc miX12_init 67 (.putfield 36) 3 70 := ⟨by decide +kernel, rfl⟩
theorem dc_X12_init_70 : Dc miX12_init 70 (.aload_n 0) 1 71 := ⟨by decide +kernel, rfl⟩
theorem dc_X12_init_71 : Dc miX12_init 71 (.sipush 400) 3 74 := ⟨by decide +kernel, rfl⟩
theorem dc_X12_init_74 : Dc miX12_init 74 (.newarray .int) 2 76 := ⟨by decide +kernel, rfl⟩
theorem dc_X12_init_76 : Dc miX12_init 76 (.putfield 39) 3 79 := ⟨by decide +kernel, rfl⟩
theorem dc_X12_init_79 : Dc miX12_init 79 (.aload_n 0) 1 80 := ⟨by decide +kernel, rfl⟩
theorem dc_X12_init_80 : Dc miX12_init 80 (.sipush 1300) 3 83 := ⟨by decide +kernel, rfl⟩
theorem dc_X12_init_83 : Dc miX12_init 83 (.newarray .int) 2 85 := ⟨by decide +kernel, rfl⟩
theorem dc_X12_init_85 : Dc miX12_init 85 (.putfield 42) 3 88 := ⟨by decide +kernel, rfl⟩
theorem dc_X12_init_88 : Dc miX12_init 88 (.aload_n 0) 1 89 := ⟨by decide +kernel, rfl⟩
theorem dc_X12_init_89 : Dc miX12_init 89 (.sipush 6400) 3 92 := ⟨by decide +kernel, rfl⟩
theorem dc_X12_init_92 : Dc miX12_init 92 (.newarray .boolean) 2 94 := ⟨by decide +kernel, rfl⟩
theorem dc_X12_init_94 : Dc miX12_init 94 (.putfield 45) 3 97 := ⟨by decide +kernel, rfl⟩
theorem dc_X12_init_97 : Dc miX12_init 97 (.aload_n 0) 1 98 := ⟨by decide +kernel, rfl⟩
theorem dc_X12_init_98 : Dc miX12_init 98 (.sipush 6400) 3 101 := ⟨by decide +kernel, rfl⟩
theorem dc_X12_init_101 : Dc miX12_init 101 (.newarray .boolean) 2 103 := ⟨by decide +kernel, rfl⟩
theorem dc_X12_init_103 : Dc miX12_init 103 (.putfield 49) 3 106 := ⟨by decide +kernel, rfl⟩
theorem dc_X12_init_106 : Dc miX12_init 106 (.aload_n 0) 1 107 := ⟨by decide +kernel, rfl⟩
theorem dc_X12_init_107 : Dc miX12_init 107 (.sipush 1024) 3 110 := ⟨by decide +kernel, rfl⟩
theorem dc_X12_init_110 : Dc miX12_init 110 (.newarray .int) 2 112 := ⟨by decide +kernel, rfl⟩
theorem dc_X12_init_112 : Dc miX12_init 112 (.putfield 52) 3 115 := ⟨by decide +kernel, rfl⟩
theorem dc_X12_init_115 : Dc miX12_init 115 (.aload_n 0) 1 116 := ⟨by decide +kernel, rfl⟩
theorem dc_X12_init_116 : Dc miX12_init 116 (.getfield 13) 3 119 := ⟨by decide +kernel, rfl⟩
theorem dc_X12_init_119 : Dc miX12_init 119 (.bipush 8) 2 121 := ⟨by decide +kernel, rfl⟩
theorem dc_X12_init_121 : Dc miX12_init 121 (.bipush 50) 2 123 := ⟨by decide +kernel, rfl⟩
theorem dc_X12_init_123 : Dc miX12_init 123 (.iastore) 1 124 := ⟨by decide +kernel, rfl⟩
theorem dc_X12_init_124 : Dc miX12_init 124 (.aload_n 0) 1 125 := ⟨by decide +kernel, rfl⟩
theorem dc_X12_init_125 : Dc miX12_init 125 (.getfield 13) 3 128 := ⟨by decide +kernel, rfl⟩
theorem dc_X12_init_128 : Dc miX12_init 128 (.bipush 10) 2 130 := ⟨by decide +kernel, rfl⟩
theorem dc_X12_init_130 : Dc miX12_init 130 (.sipush 365) 3 133 := ⟨by decide +kernel, rfl⟩
theorem dc_X12_init_133 : Dc miX12_init 133 (.iastore) 1 134 := ⟨by decide +kernel, rfl⟩
theorem dc_X12_init_134 : Dc miX12_init 134 (.aload_n 0) 1 135 := ⟨by decide +kernel, rfl⟩
theorem dc_X12_init_135 : Dc miX12_init 135 (.getfield 13) 3 138 := ⟨by decide +kernel, rfl⟩
theorem dc_X12_init_138 : Dc miX12_init 138 (.bipush 14) 2 140 := ⟨by decide +kernel, rfl⟩
theorem dc_X12_init_140 : Dc miX12_init 140 (.bipush 50) 2 142 := ⟨by decide +kernel, rfl⟩
theorem dc_X12_init_142 : Dc miX12_init 142 (.iastore) 1 143 := ⟨by decide +kernel, rfl⟩
theorem dc_X12_init_143 : Dc miX12_init 143 (.aload_n 0) 1 144 := ⟨by decide +kernel, rfl⟩
theorem dc_X12_init_144 : Dc miX12_init 144 (.getfield 13) 3 147 := ⟨by decide +kernel, rfl⟩
theorem dc_X12_init_147 : Dc miX12_init 147 (.bipush 16) 2 149 := ⟨by decide +kernel, rfl⟩
theorem dc_X12_init_149 : Dc miX12_init 149 (.iconst 1) 1 150 := ⟨by decide +kernel, rfl⟩
theorem dc_X12_init_150 : Dc miX12_init 150 (.iastore) 1 151 := ⟨by decide +kernel, rfl⟩
theorem dc_X12_init_151 : Dc miX12_init 151 (.return_) 1 152 := ⟨by decide +kernel, rfl⟩
def wX12 (a sz : Nat) : wF := fun cy => (a, .inr (11, [.int 0, .ref (sz), .ref (sz + 1), .ref (sz + 2), .ref (sz + 3), .ref (sz + 4), .int 0, .int 0, .ref (sz + 5), .int 0, .int 0, .int 0, .int 0, .int 0, .int (-1), .ref (sz + 6), .int 0, .ref (sz + 7), .int 0, .int 0, .int 0, .int 0, .int 0, .int 0, .int 0, .ref (sz + 8), .ref (sz + 9), .ref (sz + 10), .ref (sz + 11)])) :: (([(sz, .inl (cy 1, 2081, .inl (upd (upd (upd (upd (fun _ => 0) (Int32.toNatClampNeg 8) 50) (Int32.toNatClampNeg 10) 365) (Int32.toNatClampNeg 14) 50) (Int32.toNatClampNeg 16) 1)))]) ++ ([(sz + 1, .inl (cy 1, 1232, .inl (fun _ => 0)))]) ++ ([(sz + 2, .inl (cy 1, 1232, .inl (fun _ => 0)))]) ++ ([(sz + 3, .inl (cy 1, 383, .inl (fun _ => 0)))]) ++ ([(sz + 4, .inl (cy 1, 4596, .inl (fun _ => 0)))]) ++ ([(sz + 5, .inl (cy 0, 400, .inl (fun _ => 0)))]) ++ ([(sz + 6, .inl (cy 1, 5, .inl (fun _ => 0)))]) ++ ([(sz + 7, .inl (cy 1, 400, .inl (fun _ => 0)))]) ++ ([(sz + 8, .inl (cy 1, 1300, .inl (fun _ => 0)))]) ++ ([(sz + 9, .inl (cy 3, 6400, .inl (fun _ => 0)))]) ++ ([(sz + 10, .inl (cy 3, 6400, .inl (fun _ => 0)))]) ++ ([(sz + 11, .inl (cy 1, 1024, .inl (fun _ => 0)))]))
set_option maxRecDepth 100000 in
set_option maxHeartbeats 4000000 in
theorem kX12 : Kn miX12_init yX12_init 2 12 25453 11 wX12 := by
  refine kn_of (lv := fun a => [some (.ref a)]) (by decide) rfl rfl rfl (by decide) (fun _ => rfl) (fun SK a sz => ?_)
  refine k_aload_n dc_X12_init_0 rfl ?_
  refine k_obj dc_X12_init_1 mw_1491 (Nat.le_of_ble_eq_true rfl) (Nat.le_of_ble_eq_true rfl) ?_
  refine k_aload_n dc_X12_init_4 rfl ?_
  refine k_sipush (v := 2081) dc_X12_init_5 (by decide) ?_
  refine k_newa (ty := .int) (j := 1) (N := 2081) dc_X12_init_8 mw_177 rfl (fun _ => rfl) rfl (fun _ _ h => h) (by decide) (by decide) (by decide) ⟨Nat.le_of_ble_eq_true rfl, Nat.le_of_ble_eq_true rfl⟩ ?_
  refine k_putF (fs' := [.int 0, .ref (sz), .null, .null, .null, .null, .int 0, .int 0, .null, .int 0, .int 0, .int 0, .int 0, .int 0, .int 0, .null, .int 0, .null, .int 0, .int 0, .int 0, .int 0, .int 0, .int 0, .int 0, .null, .null, .null, .null]) dc_X12_init_10 fi_X12_13 (fun C9 T9 n9 h9 => by cases h9; rfl) rfl rfl (Nat.le_of_ble_eq_true rfl) rfl ?_
  refine k_aload_n dc_X12_init_13 rfl ?_
  refine k_sipush (v := 1232) dc_X12_init_14 (by decide) ?_
  refine k_newa (ty := .int) (j := 1) (N := 1232) dc_X12_init_17 mw_177 rfl (fun _ => rfl) rfl (fun _ _ h => h) (by decide) (by decide) (by decide) ⟨Nat.le_of_ble_eq_true rfl, Nat.le_of_ble_eq_true rfl⟩ ?_
  refine k_putF (fs' := [.int 0, .ref (sz), .ref (sz + 1), .null, .null, .null, .int 0, .int 0, .null, .int 0, .int 0, .int 0, .int 0, .int 0, .int 0, .null, .int 0, .null, .int 0, .int 0, .int 0, .int 0, .int 0, .int 0, .int 0, .null, .null, .null, .null]) dc_X12_init_19 fi_X12_17 (fun C9 T9 n9 h9 => by cases h9; rfl) rfl rfl (Nat.le_of_ble_eq_true rfl) rfl ?_
  refine k_aload_n dc_X12_init_22 rfl ?_
  refine k_sipush (v := 1232) dc_X12_init_23 (by decide) ?_
  refine k_newa (ty := .int) (j := 1) (N := 1232) dc_X12_init_26 mw_177 rfl (fun _ => rfl) rfl (fun _ _ h => h) (by decide) (by decide) (by decide) ⟨Nat.le_of_ble_eq_true rfl, Nat.le_of_ble_eq_true rfl⟩ ?_
  refine k_putF (fs' := [.int 0, .ref (sz), .ref (sz + 1), .ref (sz + 2), .null, .null, .int 0, .int 0, .null, .int 0, .int 0, .int 0, .int 0, .int 0, .int 0, .null, .int 0, .null, .int 0, .int 0, .int 0, .int 0, .int 0, .int 0, .int 0, .null, .null, .null, .null]) dc_X12_init_28 fi_X12_20 (fun C9 T9 n9 h9 => by cases h9; rfl) rfl rfl (Nat.le_of_ble_eq_true rfl) rfl ?_
  refine k_aload_n dc_X12_init_31 rfl ?_
  refine k_sipush (v := 383) dc_X12_init_32 (by decide) ?_
  refine k_newa (ty := .int) (j := 1) (N := 383) dc_X12_init_35 mw_177 rfl (fun _ => rfl) rfl (fun _ _ h => h) (by decide) (by decide) (by decide) ⟨Nat.le_of_ble_eq_true rfl, Nat.le_of_ble_eq_true rfl⟩ ?_
  refine k_putF (fs' := [.int 0, .ref (sz), .ref (sz + 1), .ref (sz + 2), .ref (sz + 3), .null, .int 0, .int 0, .null, .int 0, .int 0, .int 0, .int 0, .int 0, .int 0, .null, .int 0, .null, .int 0, .int 0, .int 0, .int 0, .int 0, .int 0, .int 0, .null, .null, .null, .null]) dc_X12_init_37 fi_X12_23 (fun C9 T9 n9 h9 => by cases h9; rfl) rfl rfl (Nat.le_of_ble_eq_true rfl) rfl ?_
  refine k_aload_n dc_X12_init_40 rfl ?_
  refine k_sipush (v := 4596) dc_X12_init_41 (by decide) ?_
  refine k_newa (ty := .int) (j := 1) (N := 4596) dc_X12_init_44 mw_177 rfl (fun _ => rfl) rfl (fun _ _ h => h) (by decide) (by decide) (by decide) ⟨Nat.le_of_ble_eq_true rfl, Nat.le_of_ble_eq_true rfl⟩ ?_
  refine k_putF (fs' := [.int 0, .ref (sz), .ref (sz + 1), .ref (sz + 2), .ref (sz + 3), .ref (sz + 4), .int 0, .int 0, .null, .int 0, .int 0, .int 0, .int 0, .int 0, .int 0, .null, .int 0, .null, .int 0, .int 0, .int 0, .int 0, .int 0, .int 0, .int 0, .null, .null, .null, .null]) dc_X12_init_46 fi_X12_26 (fun C9 T9 n9 h9 => by cases h9; rfl) rfl rfl (Nat.le_of_ble_eq_true rfl) rfl ?_
  refine k_aload_n dc_X12_init_49 rfl ?_
  refine k_sipush (v := 400) dc_X12_init_50 (by decide) ?_
  refine k_newa (ty := .byte) (j := 0) (N := 400) dc_X12_init_53 mw_66 rfl (fun _ => rfl) rfl (fun _ _ h => h) (by decide) (by decide) (by decide) ⟨Nat.le_of_ble_eq_true rfl, Nat.le_of_ble_eq_true rfl⟩ ?_
  refine k_putF (fs' := [.int 0, .ref (sz), .ref (sz + 1), .ref (sz + 2), .ref (sz + 3), .ref (sz + 4), .int 0, .int 0, .ref (sz + 5), .int 0, .int 0, .int 0, .int 0, .int 0, .int 0, .null, .int 0, .null, .int 0, .int 0, .int 0, .int 0, .int 0, .int 0, .int 0, .null, .null, .null, .null]) dc_X12_init_55 fi_X12_29 (fun C9 T9 n9 h9 => by cases h9; rfl) rfl rfl (Nat.le_of_ble_eq_true rfl) rfl ?_
  refine k_aload_n dc_X12_init_58 rfl ?_
  refine k_iconst (v := (-1)) dc_X12_init_59 (by decide) ?_
  refine k_put (fs' := [.int 0, .ref (sz), .ref (sz + 1), .ref (sz + 2), .ref (sz + 3), .ref (sz + 4), .int 0, .int 0, .ref (sz + 5), .int 0, .int 0, .int 0, .int 0, .int 0, .int (-1), .null, .int 0, .null, .int 0, .int 0, .int 0, .int 0, .int 0, .int 0, .int 0, .null, .null, .null, .null]) dc_X12_init_60 fi_X12_33 rfl rfl (Nat.le_of_ble_eq_true rfl) rfl ?_
  refine k_aload_n dc_X12_init_63 rfl ?_
  refine k_iconst (v := 5) dc_X12_init_64 (by decide) ?_
  refine k_newa (ty := .int) (j := 1) (N := 5) dc_X12_init_65 mw_177 rfl (fun _ => rfl) rfl (fun _ _ h => h) (by decide) (by decide) (by decide) ⟨Nat.le_of_ble_eq_true rfl, Nat.le_of_ble_eq_true rfl⟩ ?_
  refine k_putF (fs' := [.int 0, .ref (sz), .ref (sz + 1), .ref (sz + 2), .ref (sz + 3), .ref (sz + 4), .int 0, .int 0, .ref (sz + 5), .int 0, .int 0, .int 0, .int 0, .int 0, .int (-1), .ref (sz + 6), .int 0, .null, .int 0, .int 0, .int 0, .int 0, .int 0, .int 0, .int 0, .null, .null, .null, .null]) dc_X12_init_67 fi_X12_36 (fun C9 T9 n9 h9 => by cases h9; rfl) rfl rfl (Nat.le_of_ble_eq_true rfl) rfl ?_
  refine k_aload_n dc_X12_init_70 rfl ?_
  refine k_sipush (v := 400) dc_X12_init_71 (by decide) ?_
  refine k_newa (ty := .int) (j := 1) (N := 400) dc_X12_init_74 mw_177 rfl (fun _ => rfl) rfl (fun _ _ h => h) (by decide) (by decide) (by decide) ⟨Nat.le_of_ble_eq_true rfl, Nat.le_of_ble_eq_true rfl⟩ ?_
  refine k_putF (fs' := [.int 0, .ref (sz), .ref (sz + 1), .ref (sz + 2), .ref (sz + 3), .ref (sz + 4), .int 0, .int 0, .ref (sz + 5), .int 0, .int 0, .int 0, .int 0, .int 0, .int (-1), .ref (sz + 6), .int 0, .ref (sz + 7), .int 0, .int 0, .int 0, .int 0, .int 0, .int 0, .int 0, .null, .null, .null, .null]) dc_X12_init_76 fi_X12_39 (fun C9 T9 n9 h9 => by cases h9; rfl) rfl rfl (Nat.le_of_ble_eq_true rfl) rfl ?_
  refine k_aload_n dc_X12_init_79 rfl ?_
  refine k_sipush (v := 1300) dc_X12_init_80 (by decide) ?_
  refine k_newa (ty := .int) (j := 1) (N := 1300) dc_X12_init_83 mw_177 rfl (fun _ => rfl) rfl (fun _ _ h => h) (by decide) (by decide) (by decide) ⟨Nat.le_of_ble_eq_true rfl, Nat.le_of_ble_eq_true rfl⟩ ?_
  refine k_putF (fs' := [.int 0, .ref (sz), .ref (sz + 1), .ref (sz + 2), .ref (sz + 3), .ref (sz + 4), .int 0, .int 0, .ref (sz + 5), .int 0, .int 0, .int 0, .int 0, .int 0, .int (-1), .ref (sz + 6), .int 0, .ref (sz + 7), .int 0, .int 0, .int 0, .int 0, .int 0, .int 0, .int 0, .ref (sz + 8), .null, .null, .null]) dc_X12_init_85 fi_X12_42 (fun C9 T9 n9 h9 => by cases h9; rfl) rfl rfl (Nat.le_of_ble_eq_true rfl) rfl ?_
  refine k_aload_n dc_X12_init_88 rfl ?_
  refine k_sipush (v := 6400) dc_X12_init_89 (by decide) ?_
  refine k_newa (ty := .boolean) (j := 3) (N := 6400) dc_X12_init_92 mw_1580 rfl (fun _ => rfl) rfl (fun _ _ h => h) (by decide) (by decide) (by decide) ⟨Nat.le_of_ble_eq_true rfl, Nat.le_of_ble_eq_true rfl⟩ ?_
  refine k_putF (fs' := [.int 0, .ref (sz), .ref (sz + 1), .ref (sz + 2), .ref (sz + 3), .ref (sz + 4), .int 0, .int 0, .ref (sz + 5), .int 0, .int 0, .int 0, .int 0, .int 0, .int (-1), .ref (sz + 6), .int 0, .ref (sz + 7), .int 0, .int 0, .int 0, .int 0, .int 0, .int 0, .int 0, .ref (sz + 8), .ref (sz + 9), .null, .null]) dc_X12_init_94 fi_X12_45 (fun C9 T9 n9 h9 => by cases h9; rfl) rfl rfl (Nat.le_of_ble_eq_true rfl) rfl ?_
  refine k_aload_n dc_X12_init_97 rfl ?_
  refine k_sipush (v := 6400) dc_X12_init_98 (by decide) ?_
  refine k_newa (ty := .boolean) (j := 3) (N := 6400) dc_X12_init_101 mw_1580 rfl (fun _ => rfl) rfl (fun _ _ h => h) (by decide) (by decide) (by decide) ⟨Nat.le_of_ble_eq_true rfl, Nat.le_of_ble_eq_true rfl⟩ ?_
  refine k_putF (fs' := [.int 0, .ref (sz), .ref (sz + 1), .ref (sz + 2), .ref (sz + 3), .ref (sz + 4), .int 0, .int 0, .ref (sz + 5), .int 0, .int 0, .int 0, .int 0, .int 0, .int (-1), .ref (sz + 6), .int 0, .ref (sz + 7), .int 0, .int 0, .int 0, .int 0, .int 0, .int 0, .int 0, .ref (sz + 8), .ref (sz + 9), .ref (sz + 10), .null]) dc_X12_init_103 fi_X12_49 (fun C9 T9 n9 h9 => by cases h9; rfl) rfl rfl (Nat.le_of_ble_eq_true rfl) rfl ?_
  refine k_aload_n dc_X12_init_106 rfl ?_
  refine k_sipush (v := 1024) dc_X12_init_107 (by decide) ?_
  refine k_newa (ty := .int) (j := 1) (N := 1024) dc_X12_init_110 mw_177 rfl (fun _ => rfl) rfl (fun _ _ h => h) (by decide) (by decide) (by decide) ⟨Nat.le_of_ble_eq_true rfl, Nat.le_of_ble_eq_true rfl⟩ ?_
  refine k_putF (fs' := [.int 0, .ref (sz), .ref (sz + 1), .ref (sz + 2), .ref (sz + 3), .ref (sz + 4), .int 0, .int 0, .ref (sz + 5), .int 0, .int 0, .int 0, .int 0, .int 0, .int (-1), .ref (sz + 6), .int 0, .ref (sz + 7), .int 0, .int 0, .int 0, .int 0, .int 0, .int 0, .int 0, .ref (sz + 8), .ref (sz + 9), .ref (sz + 10), .ref (sz + 11)]) dc_X12_init_112 fi_X12_52 (fun C9 T9 n9 h9 => by cases h9; rfl) rfl rfl (Nat.le_of_ble_eq_true rfl) rfl ?_
  refine k_aload_n dc_X12_init_115 rfl ?_
  refine k_getR dc_X12_init_116 fi_X12_13 rfl ?_
  refine k_bipush (v := 8) dc_X12_init_119 (by decide) ?_
  refine k_bipush (v := 50) dc_X12_init_121 (by decide) ?_
  refine k_iast (X' := fun cy => ([(sz, .inl (cy 1, 2081, .inl (upd (fun _ => 0) (Int32.toNatClampNeg 8) 50)))]) ++ ([(sz + 1, .inl (cy 1, 1232, .inl (fun _ => 0)))]) ++ ([(sz + 2, .inl (cy 1, 1232, .inl (fun _ => 0)))]) ++ ([(sz + 3, .inl (cy 1, 383, .inl (fun _ => 0)))]) ++ ([(sz + 4, .inl (cy 1, 4596, .inl (fun _ => 0)))]) ++ ([(sz + 5, .inl (cy 0, 400, .inl (fun _ => 0)))]) ++ ([(sz + 6, .inl (cy 1, 5, .inl (fun _ => 0)))]) ++ ([(sz + 7, .inl (cy 1, 400, .inl (fun _ => 0)))]) ++ ([(sz + 8, .inl (cy 1, 1300, .inl (fun _ => 0)))]) ++ ([(sz + 9, .inl (cy 3, 6400, .inl (fun _ => 0)))]) ++ ([(sz + 10, .inl (cy 3, 6400, .inl (fun _ => 0)))]) ++ ([(sz + 11, .inl (cy 1, 1024, .inl (fun _ => 0)))])) (j := 0) dc_X12_init_123 (fun _ => rfl) (inB_s rfl) (fun _ => rfl) ?_
  refine k_aload_n dc_X12_init_124 rfl ?_
  refine k_getR dc_X12_init_125 fi_X12_13 rfl ?_
  refine k_bipush (v := 10) dc_X12_init_128 (by decide) ?_
  refine k_sipush (v := 365) dc_X12_init_130 (by decide) ?_
  refine k_iast (X' := fun cy => ([(sz, .inl (cy 1, 2081, .inl (upd (upd (fun _ => 0) (Int32.toNatClampNeg 8) 50) (Int32.toNatClampNeg 10) 365)))]) ++ ([(sz + 1, .inl (cy 1, 1232, .inl (fun _ => 0)))]) ++ ([(sz + 2, .inl (cy 1, 1232, .inl (fun _ => 0)))]) ++ ([(sz + 3, .inl (cy 1, 383, .inl (fun _ => 0)))]) ++ ([(sz + 4, .inl (cy 1, 4596, .inl (fun _ => 0)))]) ++ ([(sz + 5, .inl (cy 0, 400, .inl (fun _ => 0)))]) ++ ([(sz + 6, .inl (cy 1, 5, .inl (fun _ => 0)))]) ++ ([(sz + 7, .inl (cy 1, 400, .inl (fun _ => 0)))]) ++ ([(sz + 8, .inl (cy 1, 1300, .inl (fun _ => 0)))]) ++ ([(sz + 9, .inl (cy 3, 6400, .inl (fun _ => 0)))]) ++ ([(sz + 10, .inl (cy 3, 6400, .inl (fun _ => 0)))]) ++ ([(sz + 11, .inl (cy 1, 1024, .inl (fun _ => 0)))])) (j := 0) dc_X12_init_133 (fun _ => rfl) (inB_s rfl) (fun _ => rfl) ?_
  refine k_aload_n dc_X12_init_134 rfl ?_
  refine k_getR dc_X12_init_135 fi_X12_13 rfl ?_
  refine k_bipush (v := 14) dc_X12_init_138 (by decide) ?_
  refine k_bipush (v := 50) dc_X12_init_140 (by decide) ?_
  refine k_iast (X' := fun cy => ([(sz, .inl (cy 1, 2081, .inl (upd (upd (upd (fun _ => 0) (Int32.toNatClampNeg 8) 50) (Int32.toNatClampNeg 10) 365) (Int32.toNatClampNeg 14) 50)))]) ++ ([(sz + 1, .inl (cy 1, 1232, .inl (fun _ => 0)))]) ++ ([(sz + 2, .inl (cy 1, 1232, .inl (fun _ => 0)))]) ++ ([(sz + 3, .inl (cy 1, 383, .inl (fun _ => 0)))]) ++ ([(sz + 4, .inl (cy 1, 4596, .inl (fun _ => 0)))]) ++ ([(sz + 5, .inl (cy 0, 400, .inl (fun _ => 0)))]) ++ ([(sz + 6, .inl (cy 1, 5, .inl (fun _ => 0)))]) ++ ([(sz + 7, .inl (cy 1, 400, .inl (fun _ => 0)))]) ++ ([(sz + 8, .inl (cy 1, 1300, .inl (fun _ => 0)))]) ++ ([(sz + 9, .inl (cy 3, 6400, .inl (fun _ => 0)))]) ++ ([(sz + 10, .inl (cy 3, 6400, .inl (fun _ => 0)))]) ++ ([(sz + 11, .inl (cy 1, 1024, .inl (fun _ => 0)))])) (j := 0) dc_X12_init_142 (fun _ => rfl) (inB_s rfl) (fun _ => rfl) ?_
  refine k_aload_n dc_X12_init_143 rfl ?_
  refine k_getR dc_X12_init_144 fi_X12_13 rfl ?_
  refine k_bipush (v := 16) dc_X12_init_147 (by decide) ?_
  refine k_iconst (v := 1) dc_X12_init_149 (by decide) ?_
  refine k_iast (X' := fun cy => ([(sz, .inl (cy 1, 2081, .inl (upd (upd (upd (upd (fun _ => 0) (Int32.toNatClampNeg 8) 50) (Int32.toNatClampNeg 10) 365) (Int32.toNatClampNeg 14) 50) (Int32.toNatClampNeg 16) 1)))]) ++ ([(sz + 1, .inl (cy 1, 1232, .inl (fun _ => 0)))]) ++ ([(sz + 2, .inl (cy 1, 1232, .inl (fun _ => 0)))]) ++ ([(sz + 3, .inl (cy 1, 383, .inl (fun _ => 0)))]) ++ ([(sz + 4, .inl (cy 1, 4596, .inl (fun _ => 0)))]) ++ ([(sz + 5, .inl (cy 0, 400, .inl (fun _ => 0)))]) ++ ([(sz + 6, .inl (cy 1, 5, .inl (fun _ => 0)))]) ++ ([(sz + 7, .inl (cy 1, 400, .inl (fun _ => 0)))]) ++ ([(sz + 8, .inl (cy 1, 1300, .inl (fun _ => 0)))]) ++ ([(sz + 9, .inl (cy 3, 6400, .inl (fun _ => 0)))]) ++ ([(sz + 10, .inl (cy 3, 6400, .inl (fun _ => 0)))]) ++ ([(sz + 11, .inl (cy 1, 1024, .inl (fun _ => 0)))])) (j := 0) dc_X12_init_150 (fun _ => rfl) (inB_s rfl) (fun _ => rfl) ?_
  exact k_vret dc_X12_init_151 rfl (fun _ => rfl) rfl ⟨Nat.le_of_ble_eq_true rfl, Nat.le_of_ble_eq_true rfl⟩
