theorem dc_X8_addDuty_0 : Dc miX8_addDuty 0 (.aload_n 0) 1 1 := ⟨by decide +kernel, rfl⟩
theorem dc_X8_addDuty_1 : Dc miX8_addDuty 1 (.getfield 27) 3 4 := ⟨by decide +kernel, rfl⟩
theorem dc_X8_addDuty_4 : Dc miX8_addDuty 4 (.ifCond .lt 32) 3 7 := ⟨by decide +kernel, rfl⟩
theorem dc_X8_addDuty_7 : Dc miX8_addDuty 7 (.aload_n 0) 1 8 := ⟨by decide +kernel, rfl⟩
theorem dc_X8_addDuty_8 : Dc miX8_addDuty 8 (.getfield 27) 3 11 := ⟨by decide +kernel, rfl⟩
theorem dc_X8_addDuty_11 : Dc miX8_addDuty 11 (.bipush 8) 2 13 := ⟨by decide +kernel, rfl⟩
theorem dc_X8_addDuty_13 : Dc miX8_addDuty 13 (.if_icmp .ge 23) 3 16 := ⟨by decide +kernel, rfl⟩
theorem dc_X8_addDuty_16 : Dc miX8_addDuty 16 (.aload_n 0) 1 17 := ⟨by decide +kernel, rfl⟩
theorem dc_X8_addDuty_17 : Dc miX8_addDuty 17 (.getfield 64) 3 20 := ⟨by decide +kernel, rfl⟩
theorem dc_X8_addDuty_20 : Dc miX8_addDuty 20 (.aload_n 0) 1 21 := ⟨by decide +kernel, rfl⟩
theorem dc_X8_addDuty_21 : Dc miX8_addDuty 21 (.getfield 27) 3 24 := ⟨by decide +kernel, rfl⟩
theorem dc_X8_addDuty_24 : Dc miX8_addDuty 24 (.iload_n 1) 1 25 := ⟨by decide +kernel, rfl⟩
theorem dc_X8_addDuty_25 : Dc miX8_addDuty 25 (.iastore) 1 26 := ⟨by decide +kernel, rfl⟩
theorem dc_X8_addDuty_26 : Dc miX8_addDuty 26 (.aload_n 0) 1 27 := ⟨by decide +kernel, rfl⟩
theorem dc_X8_addDuty_27 : Dc miX8_addDuty 27 (.dup) 1 28 := ⟨by decide +kernel, rfl⟩
theorem dc_X8_addDuty_28 : Dc miX8_addDuty 28 (.getfield 27) 3 31 := ⟨by decide +kernel, rfl⟩
theorem dc_X8_addDuty_31 : Dc miX8_addDuty 31 (.iconst 1) 1 32 := ⟨by decide +kernel, rfl⟩
theorem dc_X8_addDuty_32 : Dc miX8_addDuty 32 (.iadd) 1 33 := ⟨by decide +kernel, rfl⟩
theorem dc_X8_addDuty_33 : Dc miX8_addDuty 33 (.putfield 27) 3 36 := ⟨by decide +kernel, rfl⟩
theorem dc_X8_addDuty_36 : Dc miX8_addDuty 36 (.return_) 1 37 := ⟨by decide +kernel, rfl⟩
def fX8_addDuty (N : Nat) (G : pG) (a0 : Nat) (a1 : Int32) (σ : pS) : Option (pS) := if (σ.1 a0 5) < 0 then (some σ) else (if (8 : Int32) ≤ (σ.1 a0 5) then (some σ) else (ck (inB (σ.1 a0 5) (pN G (pR G a0 17))) (some (putF (sA σ (pR G a0 17) (σ.1 a0 5) a1) a0 5 (((sA σ (pR G a0 17) (σ.1 a0 5) a1).1 a0 5) + (1 : Int32))))))
set_option maxRecDepth 100000 in
set_option maxHeartbeats 4000000 in
theorem tX8_addDuty {N : Nat} {G : pG} {SK : Nat → Nat} {a0 : Nat} {a1 : Int32} {σ : pS} {r : pS} (hW : WT G) (i0 : Is G a0 7) (h : fX8_addDuty N G a0 a1 σ = some r) : Dn miX8_addDuty yX8_addDuty 1 G SK [.ref a0, .int a1] σ none r := by
  unfold fX8_addDuty at h
  refine dn_of (lv := [some (.ref a0), some (.int a1)]) (by decide) rfl rfl (Nat.le_of_ble_eq_true rfl) rfl ?_
  refine ev_aload_n dc_X8_addDuty_0 rfl ?_
  refine ev_getI dc_X8_addDuty_1 fi_X8_27 rfl i0 ?_
  refine ev_if_lt (tgt := 36) dc_X8_addDuty_4 (by decide) h (fun h => ?_) (fun h => ?_)
  · cases h
    exact ev_vret dc_X8_addDuty_36 rfl rfl rfl
  · refine ev_aload_n dc_X8_addDuty_7 rfl ?_
    refine ev_getI dc_X8_addDuty_8 fi_X8_27 rfl i0 ?_
    refine ev_bipush (v := 8) dc_X8_addDuty_11 (by decide) ?_
    refine ev_icmp_ge (tgt := 36) dc_X8_addDuty_13 (by decide) h (fun h => ?_) (fun h => ?_)
    · cases h
      exact ev_vret dc_X8_addDuty_36 rfl rfl rfl
    · refine ev_aload_n dc_X8_addDuty_16 rfl ?_
      refine ev_getR dc_X8_addDuty_17 fi_X8_64 rfl i0 ?_
      refine ev_aload_n dc_X8_addDuty_20 rfl ?_
      refine ev_getI dc_X8_addDuty_21 fi_X8_27 rfl i0 ?_
      refine ev_iload_n dc_X8_addDuty_24 rfl ?_
      refine ev_iast dc_X8_addDuty_25 (wt hW i0 17 rfl rfl) h (fun h => ?_)
      refine ev_aload_n dc_X8_addDuty_26 rfl ?_
      refine ev_dup dc_X8_addDuty_27 rfl ?_
      refine ev_getI dc_X8_addDuty_28 fi_X8_27 rfl i0 ?_
      refine ev_iconst (v := 1) dc_X8_addDuty_31 (by decide) ?_
      refine ev_iadd dc_X8_addDuty_32 ?_
      refine ev_putI dc_X8_addDuty_33 fi_X8_27 rfl i0 ?_
      cases h
      exact ev_vret dc_X8_addDuty_36 rfl rfl rfl
theorem dc_X8_addMember_0 : Dc miX8_addMember 0 (.aload_n 0) 1 1 := ⟨by decide +kernel, rfl⟩
theorem dc_X8_addMember_1 : Dc miX8_addMember 1 (.getfield 24) 3 4 := ⟨by decide +kernel, rfl⟩
theorem dc_X8_addMember_4 : Dc miX8_addMember 4 (.ifCond .lt 32) 3 7 := ⟨by decide +kernel, rfl⟩
theorem dc_X8_addMember_7 : Dc miX8_addMember 7 (.aload_n 0) 1 8 := ⟨by decide +kernel, rfl⟩
theorem dc_X8_addMember_8 : Dc miX8_addMember 8 (.getfield 24) 3 11 := ⟨by decide +kernel, rfl⟩
theorem dc_X8_addMember_11 : Dc miX8_addMember 11 (.bipush 6) 2 13 := ⟨by decide +kernel, rfl⟩
theorem dc_X8_addMember_13 : Dc miX8_addMember 13 (.if_icmp .ge 23) 3 16 := ⟨by decide +kernel, rfl⟩
theorem dc_X8_addMember_16 : Dc miX8_addMember 16 (.aload_n 0) 1 17 := ⟨by decide +kernel, rfl⟩
theorem dc_X8_addMember_17 : Dc miX8_addMember 17 (.getfield 61) 3 20 := ⟨by decide +kernel, rfl⟩
theorem dc_X8_addMember_20 : Dc miX8_addMember 20 (.aload_n 0) 1 21 := ⟨by decide +kernel, rfl⟩
theorem dc_X8_addMember_21 : Dc miX8_addMember 21 (.getfield 24) 3 24 := ⟨by decide +kernel, rfl⟩
theorem dc_X8_addMember_24 : Dc miX8_addMember 24 (.iload_n 1) 1 25 := ⟨by decide +kernel, rfl⟩
theorem dc_X8_addMember_25 : Dc miX8_addMember 25 (.iastore) 1 26 := ⟨by decide +kernel, rfl⟩
theorem dc_X8_addMember_26 : Dc miX8_addMember 26 (.aload_n 0) 1 27 := ⟨by decide +kernel, rfl⟩
theorem dc_X8_addMember_27 : Dc miX8_addMember 27 (.dup) 1 28 := ⟨by decide +kernel, rfl⟩
theorem dc_X8_addMember_28 : Dc miX8_addMember 28 (.getfield 24) 3 31 := ⟨by decide +kernel, rfl⟩
theorem dc_X8_addMember_31 : Dc miX8_addMember 31 (.iconst 1) 1 32 := ⟨by decide +kernel, rfl⟩
theorem dc_X8_addMember_32 : Dc miX8_addMember 32 (.iadd) 1 33 := ⟨by decide +kernel, rfl⟩
theorem dc_X8_addMember_33 : Dc miX8_addMember 33 (.putfield 24) 3 36 := ⟨by decide +kernel, rfl⟩
theorem dc_X8_addMember_36 : Dc miX8_addMember 36 (.return_) 1 37 := ⟨by decide +kernel, rfl⟩
def fX8_addMember (N : Nat) (G : pG) (a0 : Nat) (a1 : Int32) (σ : pS) : Option (pS) := if (σ.1 a0 4) < 0 then (some σ) else (if (6 : Int32) ≤ (σ.1 a0 4) then (some σ) else (ck (inB (σ.1 a0 4) (pN G (pR G a0 16))) (some (putF (sA σ (pR G a0 16) (σ.1 a0 4) a1) a0 4 (((sA σ (pR G a0 16) (σ.1 a0 4) a1).1 a0 4) + (1 : Int32))))))
set_option maxRecDepth 100000 in
set_option maxHeartbeats 4000000 in
theorem tX8_addMember {N : Nat} {G : pG} {SK : Nat → Nat} {a0 : Nat} {a1 : Int32} {σ : pS} {r : pS} (hW : WT G) (i0 : Is G a0 7) (h : fX8_addMember N G a0 a1 σ = some r) : Dn miX8_addMember yX8_addMember 1 G SK [.ref a0, .int a1] σ none r := by
  unfold fX8_addMember at h
  refine dn_of (lv := [some (.ref a0), some (.int a1)]) (by decide) rfl rfl (Nat.le_of_ble_eq_true rfl) rfl ?_
  refine ev_aload_n dc_X8_addMember_0 rfl ?_
  refine ev_getI dc_X8_addMember_1 fi_X8_24 rfl i0 ?_
  refine ev_if_lt (tgt := 36) dc_X8_addMember_4 (by decide) h (fun h => ?_) (fun h => ?_)
  · cases h
    exact ev_vret dc_X8_addMember_36 rfl rfl rfl
  · refine ev_aload_n dc_X8_addMember_7 rfl ?_
    refine ev_getI dc_X8_addMember_8 fi_X8_24 rfl i0 ?_
    refine ev_bipush (v := 6) dc_X8_addMember_11 (by decide) ?_
    refine ev_icmp_ge (tgt := 36) dc_X8_addMember_13 (by decide) h (fun h => ?_) (fun h => ?_)
    · cases h
      exact ev_vret dc_X8_addMember_36 rfl rfl rfl
    · refine ev_aload_n dc_X8_addMember_16 rfl ?_
      refine ev_getR dc_X8_addMember_17 fi_X8_61 rfl i0 ?_
      refine ev_aload_n dc_X8_addMember_20 rfl ?_
      refine ev_getI dc_X8_addMember_21 fi_X8_24 rfl i0 ?_
      refine ev_iload_n dc_X8_addMember_24 rfl ?_
      refine ev_iast dc_X8_addMember_25 (wt hW i0 16 rfl rfl) h (fun h => ?_)
      refine ev_aload_n dc_X8_addMember_26 rfl ?_
      refine ev_dup dc_X8_addMember_27 rfl ?_
      refine ev_getI dc_X8_addMember_28 fi_X8_24 rfl i0 ?_
      refine ev_iconst (v := 1) dc_X8_addMember_31 (by decide) ?_
      refine ev_iadd dc_X8_addMember_32 ?_
      refine ev_putI dc_X8_addMember_33 fi_X8_24 rfl i0 ?_
      cases h
      exact ev_vret dc_X8_addMember_36 rfl rfl rfl
theorem dc_X8_addName_0 : Dc miX8_addName 0 (.aload_n 0) 1 1 := ⟨by decide +kernel, rfl⟩
theorem dc_X8_addName_1 : Dc miX8_addName 1 (.getfield 15) 3 4 := ⟨by decide +kernel, rfl⟩
theorem dc_X8_addName_4 : Dc miX8_addName 4 (.ifCond .lt 75) 3 7 := ⟨by decide +kernel, rfl⟩
theorem dc_X8_addName_7 : Dc miX8_addName 7 (.aload_n 0) 1 8 := ⟨by decide +kernel, rfl⟩
theorem dc_X8_addName_8 : Dc miX8_addName 8 (.getfield 15) 3 11 := ⟨by decide +kernel, rfl⟩
theorem dc_X8_addName_11 : Dc miX8_addName 11 (.bipush 10) 2 13 := ⟨by decide +kernel, rfl⟩
theorem dc_X8_addName_13 : Dc miX8_addName 13 (.if_icmp .ge 66) 3 16 := ⟨by decide +kernel, rfl⟩
theorem dc_X8_addName_16 : Dc miX8_addName 16 (.aload_n 0) 1 17 := ⟨by decide +kernel, rfl⟩
theorem dc_X8_addName_17 : Dc miX8_addName 17 (.getfield 39) 3 20 := ⟨by decide +kernel, rfl⟩
theorem dc_X8_addName_20 : Dc miX8_addName 20 (.aload_n 0) 1 21 := ⟨by decide +kernel, rfl⟩
theorem dc_X8_addName_21 : Dc miX8_addName 21 (.getfield 15) 3 24 := ⟨by decide +kernel, rfl⟩
theorem dc_X8_addName_24 : Dc miX8_addName 24 (.iload_n 1) 1 25 := ⟨by decide +kernel, rfl⟩
theorem dc_X8_addName_25 : Dc miX8_addName 25 (.iastore) 1 26 := ⟨by decide +kernel, rfl⟩
theorem dc_X8_addName_26 : Dc miX8_addName 26 (.aload_n 0) 1 27 := ⟨by decide +kernel, rfl⟩
theorem dc_X8_addName_27 : Dc miX8_addName 27 (.getfield 43) 3 30 := ⟨by decide +kernel, rfl⟩
theorem dc_X8_addName_30 : Dc miX8_addName 30 (.aload_n 0) 1 31 := ⟨by decide +kernel, rfl⟩
theorem dc_X8_addName_31 : Dc miX8_addName 31 (.getfield 15) 3 34 := ⟨by decide +kernel, rfl⟩
theorem dc_X8_addName_34 : Dc miX8_addName 34 (.iload_n 2) 1 35 := ⟨by decide +kernel, rfl⟩
theorem dc_X8_addName_35 : Dc miX8_addName 35 (.iastore) 1 36 := ⟨by decide +kernel, rfl⟩
theorem dc_X8_addName_36 : Dc miX8_addName 36 (.iconst 0) 1 37 := ⟨by decide +kernel, rfl⟩
theorem dc_X8_addName_37 : Dc miX8_addName 37 (.istore_n 3) 1 38 := ⟨by decide +kernel, rfl⟩
theorem dc_X8_addName_38 : Dc miX8_addName 38 (.iload_n 3) 1 39 := ⟨by decide +kernel, rfl⟩
theorem dc_X8_addName_39 : Dc miX8_addName 39 (.bipush 6) 2 41 := ⟨by decide +kernel, rfl⟩
theorem dc_X8_addName_41 : Dc miX8_addName 41 (.if_icmp .ge 28) 3 44 := ⟨by decide +kernel, rfl⟩
theorem dc_X8_addName_44 : Dc miX8_addName 44 (.aload_n 0) 1 45 := ⟨by decide +kernel, rfl⟩
theorem dc_X8_addName_45 : Dc miX8_addName 45 (.getfield 46) 3 48 := ⟨by decide +kernel, rfl⟩
theorem dc_X8_addName_48 : Dc miX8_addName 48 (.iload_n 3) 1 49 := ⟨by decide +kernel, rfl⟩
theorem dc_X8_addName_49 : Dc miX8_addName 49 (.dup2) 1 50 := ⟨by decide +kernel, rfl⟩
theorem dc_X8_addName_50 : Dc miX8_addName 50 (.iaload) 1 51 := ⟨by decide +kernel, rfl⟩
theorem dc_X8_addName_51 : Dc miX8_addName 51 (.iload_n 1) 1 52 := ⟨by decide +kernel, rfl⟩
theorem dc_X8_addName_52 : Dc miX8_addName 52 (.iload_n 3) 1 53 := ⟨by decide +kernel, rfl⟩
theorem dc_X8_addName_53 : Dc miX8_addName 53 (.ishr) 1 54 := ⟨by decide +kernel, rfl⟩
theorem dc_X8_addName_54 : Dc miX8_addName 54 (.iconst 1) 1 55 := ⟨by decide +kernel, rfl⟩
theorem dc_X8_addName_55 : Dc miX8_addName 55 (.iand) 1 56 := ⟨by decide +kernel, rfl⟩
theorem dc_X8_addName_56 : Dc miX8_addName 56 (.aload_n 0) 1 57 := ⟨by decide +kernel, rfl⟩
theorem dc_X8_addName_57 : Dc miX8_addName 57 (.getfield 15) 3 60 := ⟨by decide +kernel, rfl⟩
theorem dc_X8_addName_60 : Dc miX8_addName 60 (.ishl) 1 61 := ⟨by decide +kernel, rfl⟩
theorem dc_X8_addName_61 : Dc miX8_addName 61 (.ior) 1 62 := ⟨by decide +kernel, rfl⟩
theorem dc_X8_addName_62 : Dc miX8_addName 62 (.iastore) 1 63 := ⟨by decide +kernel, rfl⟩
theorem dc_X8_addName_63 : Dc miX8_addName 63 (.iinc 3 1) 3 66 := ⟨by decide +kernel, rfl⟩
theorem dc_X8_addName_66 : Dc miX8_addName 66 (.goto (-28)) 3 69 := ⟨by decide +kernel, rfl⟩
theorem dc_X8_addName_69 : Dc miX8_addName 69 (.aload_n 0) 1 70 := ⟨by decide +kernel, rfl⟩
theorem dc_X8_addName_70 : Dc miX8_addName 70 (.dup) 1 71 := ⟨by decide +kernel, rfl⟩
theorem dc_X8_addName_71 : Dc miX8_addName 71 (.getfield 15) 3 74 := ⟨by decide +kernel, rfl⟩
theorem dc_X8_addName_74 : Dc miX8_addName 74 (.iconst 1) 1 75 := ⟨by decide +kernel, rfl⟩
theorem dc_X8_addName_75 : Dc miX8_addName 75 (.iadd) 1 76 := ⟨by decide +kernel, rfl⟩
theorem dc_X8_addName_76 : Dc miX8_addName 76 (.putfield 15) 3 79 := ⟨by decide +kernel, rfl⟩
theorem dc_X8_addName_79 : Dc miX8_addName 79 (.return_) 1 80 := ⟨by decide +kernel, rfl⟩
def fX8_addName_b38 (N : Nat) (G : pG) (a0 : Nat) (a1 : Int32) : (Int32 × pS) → Option (pS) := lp (fun (k38 : Int32 × pS → Option (pS)) (b : Int32 × pS) => if (6 : Int32) ≤ b.1 then (some (putF b.2 a0 1 ((b.2.1 a0 1) + (1 : Int32)))) else (ck (inB b.1 (pN G (pR G a0 11))) (ck (inB b.1 (pN G (pR G a0 11))) (k38 (b.1 + (1 : Int32), sA b.2 (pR G a0 11) b.1 ((gA b.2 (pR G a0 11) b.1) ||| (((a1 >>> (b.1 &&& 31)) &&& (1 : Int32)) <<< ((b.2.1 a0 1) &&& 31)))))))) N
set_option maxRecDepth 100000 in
set_option maxHeartbeats 4000000 in
theorem tX8_addName_b38 {N : Nat} {G : pG} {SK : Nat → Nat} {a0 : Nat} {a1 : Int32} {b : Int32 × pS} {r : pS} (hW : WT G) (i0 : Is G a0 7) (h : fX8_addName_b38 N G a0 a1 b = some r) : Ev miX8_addName (1, 0, 0) G (Zp G none r) SK (0, 0) 38 [some (.ref a0), some (.int a1), none, some (.int b.1)] [] b.2 := by
  unfold fX8_addName_b38 at h
  refine lp_ind (P := fun b r9 => r9 = r → Ev miX8_addName (1, 0, 0) G (Zp G none r) SK (0, 0) 38 [some (.ref a0), some (.int a1), none, some (.int b.1)] [] b.2) (fun k38 b r9 ih h9 e9 => ?_) N b r h rfl
  clear h
  subst e9
  have h := h9
  clear h9
  have hk38 : ∀ b : Int32 × pS, k38 b = some r9 → Ev miX8_addName (1, 0, 0) G (Zp G none r9) SK (0, 0) 38 [some (.ref a0), some (.int a1), none, some (.int b.1)] [] b.2 := fun b hb => ih b r9 hb rfl
  clear ih
  obtain ⟨x3, σ⟩ := b
  dsimp only at h ⊢
  refine ev_iload_n dc_X8_addName_38 rfl ?_
  refine ev_bipush (v := 6) dc_X8_addName_39 (by decide) ?_
  refine ev_icmp_ge (tgt := 69) dc_X8_addName_41 (by decide) h (fun h => ?_) (fun h => ?_)
  · refine ev_aload_n dc_X8_addName_69 rfl ?_
    refine ev_dup dc_X8_addName_70 rfl ?_
    refine ev_getI dc_X8_addName_71 fi_X8_15 rfl i0 ?_
    refine ev_iconst (v := 1) dc_X8_addName_74 (by decide) ?_
    refine ev_iadd dc_X8_addName_75 ?_
    refine ev_putI dc_X8_addName_76 fi_X8_15 rfl i0 ?_
    cases h
    exact ev_vret dc_X8_addName_79 rfl rfl rfl
  · refine ev_aload_n dc_X8_addName_44 rfl ?_
    refine ev_getR dc_X8_addName_45 fi_X8_46 rfl i0 ?_
    refine ev_iload_n dc_X8_addName_48 rfl ?_
    refine ev_dup2 dc_X8_addName_49 rfl rfl ?_
    refine ev_iald dc_X8_addName_50 (wt hW i0 11 rfl rfl) h (fun h => ?_)
    refine ev_iload_n dc_X8_addName_51 rfl ?_
    refine ev_iload_n dc_X8_addName_52 rfl ?_
    refine ev_ishr dc_X8_addName_53 ?_
    refine ev_iconst (v := 1) dc_X8_addName_54 (by decide) ?_
    refine ev_iand dc_X8_addName_55 ?_
    refine ev_aload_n dc_X8_addName_56 rfl ?_
    refine ev_getI dc_X8_addName_57 fi_X8_15 rfl i0 ?_
    refine ev_ishl dc_X8_addName_60 ?_
    refine ev_ior dc_X8_addName_61 ?_
    refine ev_iast dc_X8_addName_62 (wt hW i0 11 rfl rfl) h (fun h => ?_)
    refine ev_iinc (v := 1) (lv' := [some (.ref a0), some (.int a1), none, some (.int (x3 + (1 : Int32)))]) dc_X8_addName_63 rfl (by decide) rfl (by decide) rfl ?_
    refine ev_goto (tgt := 38) dc_X8_addName_66 (by decide) ?_
    exact ev_sub (hk38 (x3 + (1 : Int32), sA σ (pR G a0 11) x3 ((gA σ (pR G a0 11) x3) ||| (((a1 >>> (x3 &&& 31)) &&& (1 : Int32)) <<< ((σ.1 a0 1) &&& 31)))) h) (And.intro rfl (And.intro rfl (And.intro rfl trivial)))
def fX8_addName (N : Nat) (G : pG) (a0 : Nat) (a1 : Int32) (a2 : Int32) (σ : pS) : Option (pS) := if (σ.1 a0 1) < 0 then (some σ) else (if (10 : Int32) ≤ (σ.1 a0 1) then (some σ) else (ck (inB (σ.1 a0 1) (pN G (pR G a0 9))) (ck (inB ((sA σ (pR G a0 9) (σ.1 a0 1) a1).1 a0 1) (pN G (pR G a0 10))) (fX8_addName_b38 N G a0 a1 ((0 : Int32), sA (sA σ (pR G a0 9) (σ.1 a0 1) a1) (pR G a0 10) ((sA σ (pR G a0 9) (σ.1 a0 1) a1).1 a0 1) a2)))))
set_option maxRecDepth 100000 in
set_option maxHeartbeats 4000000 in
theorem tX8_addName {N : Nat} {G : pG} {SK : Nat → Nat} {a0 : Nat} {a1 : Int32} {a2 : Int32} {σ : pS} {r : pS} (hW : WT G) (i0 : Is G a0 7) (h : fX8_addName N G a0 a1 a2 σ = some r) : Dn miX8_addName yX8_addName 1 G SK [.ref a0, .int a1, .int a2] σ none r := by
  unfold fX8_addName at h
  refine dn_of (lv := [some (.ref a0), some (.int a1), some (.int a2), none]) (by decide) rfl rfl (Nat.le_of_ble_eq_true rfl) rfl ?_
  refine ev_aload_n dc_X8_addName_0 rfl ?_
  refine ev_getI dc_X8_addName_1 fi_X8_15 rfl i0 ?_
  refine ev_if_lt (tgt := 79) dc_X8_addName_4 (by decide) h (fun h => ?_) (fun h => ?_)
  · cases h
    exact ev_vret dc_X8_addName_79 rfl rfl rfl
  · refine ev_aload_n dc_X8_addName_7 rfl ?_
    refine ev_getI dc_X8_addName_8 fi_X8_15 rfl i0 ?_
    refine ev_bipush (v := 10) dc_X8_addName_11 (by decide) ?_
    refine ev_icmp_ge (tgt := 79) dc_X8_addName_13 (by decide) h (fun h => ?_) (fun h => ?_)
    · cases h
      exact ev_vret dc_X8_addName_79 rfl rfl rfl
    · refine ev_aload_n dc_X8_addName_16 rfl ?_
      refine ev_getR dc_X8_addName_17 fi_X8_39 rfl i0 ?_
      refine ev_aload_n dc_X8_addName_20 rfl ?_
      refine ev_getI dc_X8_addName_21 fi_X8_15 rfl i0 ?_
      refine ev_iload_n dc_X8_addName_24 rfl ?_
      refine ev_iast dc_X8_addName_25 (wt hW i0 9 rfl rfl) h (fun h => ?_)
      refine ev_aload_n dc_X8_addName_26 rfl ?_
      refine ev_getR dc_X8_addName_27 fi_X8_43 rfl i0 ?_
      refine ev_aload_n dc_X8_addName_30 rfl ?_
      refine ev_getI dc_X8_addName_31 fi_X8_15 rfl i0 ?_
      refine ev_iload_n dc_X8_addName_34 rfl ?_
      refine ev_iast dc_X8_addName_35 (wt hW i0 10 rfl rfl) h (fun h => ?_)
      refine ev_iconst (v := 0) dc_X8_addName_36 (by decide) ?_
      refine ev_istore_n (lv' := [some (.ref a0), some (.int a1), some (.int a2), some (.int (0 : Int32))]) dc_X8_addName_37 rfl (by decide) rfl ?_
      exact ev_sub (tX8_addName_b38 (b := ((0 : Int32), sA (sA σ (pR G a0 9) (σ.1 a0 1) a1) (pR G a0 10) ((sA σ (pR G a0 9) (σ.1 a0 1) a1).1 a0 1) a2)) hW i0 h) (And.intro rfl (And.intro rfl (And.intro rfl trivial)))
theorem dc_X8_addWord_0 : Dc miX8_addWord 0 (.aload_n 0) 1 1 := ⟨by decide +kernel, rfl⟩
theorem dc_X8_addWord_1 : Dc miX8_addWord 1 (.getfield 18) 3 4 := ⟨by decide +kernel, rfl⟩
theorem dc_X8_addWord_4 : Dc miX8_addWord 4 (.ifCond .lt 42) 3 7 := ⟨by decide +kernel, rfl⟩
theorem dc_X8_addWord_7 : Dc miX8_addWord 7 (.aload_n 0) 1 8 := ⟨by decide +kernel, rfl⟩
theorem dc_X8_addWord_8 : Dc miX8_addWord 8 (.getfield 18) 3 11 := ⟨by decide +kernel, rfl⟩
theorem dc_X8_addWord_11 : Dc miX8_addWord 11 (.bipush 6) 2 13 := ⟨by decide +kernel, rfl⟩
theorem dc_X8_addWord_13 : Dc miX8_addWord 13 (.if_icmp .ge 33) 3 16 := ⟨by decide +kernel, rfl⟩
theorem dc_X8_addWord_16 : Dc miX8_addWord 16 (.aload_n 0) 1 17 := ⟨by decide +kernel, rfl⟩
theorem dc_X8_addWord_17 : Dc miX8_addWord 17 (.getfield 49) 3 20 := ⟨by decide +kernel, rfl⟩
theorem dc_X8_addWord_20 : Dc miX8_addWord 20 (.aload_n 0) 1 21 := ⟨by decide +kernel, rfl⟩
theorem dc_X8_addWord_21 : Dc miX8_addWord 21 (.getfield 18) 3 24 := ⟨by decide +kernel, rfl⟩
theorem dc_X8_addWord_24 : Dc miX8_addWord 24 (.iload_n 1) 1 25 := ⟨by decide +kernel, rfl⟩
theorem dc_X8_addWord_25 : Dc miX8_addWord 25 (.iastore) 1 26 := ⟨by decide +kernel, rfl⟩
theorem dc_X8_addWord_26 : Dc miX8_addWord 26 (.aload_n 0) 1 27 := ⟨by decide +kernel, rfl⟩
theorem dc_X8_addWord_27 : Dc miX8_addWord 27 (.getfield 52) 3 30 := ⟨by decide +kernel, rfl⟩
theorem dc_X8_addWord_30 : Dc miX8_addWord 30 (.aload_n 0) 1 31 := ⟨by decide +kernel, rfl⟩
theorem dc_X8_addWord_31 : Dc miX8_addWord 31 (.getfield 18) 3 34 := ⟨by decide +kernel, rfl⟩
theorem dc_X8_addWord_34 : Dc miX8_addWord 34 (.iload_n 2) 1 35 := ⟨by decide +kernel, rfl⟩
theorem dc_X8_addWord_35 : Dc miX8_addWord 35 (.iastore) 1 36 := ⟨by decide +kernel, rfl⟩
theorem dc_X8_addWord_36 : Dc miX8_addWord 36 (.aload_n 0) 1 37 := ⟨by decide +kernel, rfl⟩
theorem dc_X8_addWord_37 : Dc miX8_addWord 37 (.dup) 1 38 := ⟨by decide +kernel, rfl⟩
theorem dc_X8_addWord_38 : Dc miX8_addWord 38 (.getfield 18) 3 41 := ⟨by decide +kernel, rfl⟩
theorem dc_X8_addWord_41 : Dc miX8_addWord 41 (.iconst 1) 1 42 := ⟨by decide +kernel, rfl⟩
theorem dc_X8_addWord_42 : Dc miX8_addWord 42 (.iadd) 1 43 := ⟨by decide +kernel, rfl⟩
theorem dc_X8_addWord_43 : Dc miX8_addWord 43 (.putfield 18) 3 46 := ⟨by decide +kernel, rfl⟩
theorem dc_X8_addWord_46 : Dc miX8_addWord 46 (.return_) 1 47 := ⟨by decide +kernel, rfl⟩
def fX8_addWord (N : Nat) (G : pG) (a0 : Nat) (a1 : Int32) (a2 : Int32) (σ : pS) : Option (pS) := if (σ.1 a0 2) < 0 then (some σ) else (if (6 : Int32) ≤ (σ.1 a0 2) then (some σ) else (ck (inB (σ.1 a0 2) (pN G (pR G a0 12))) (ck (inB ((sA σ (pR G a0 12) (σ.1 a0 2) a1).1 a0 2) (pN G (pR G a0 13))) (some (putF (sA (sA σ (pR G a0 12) (σ.1 a0 2) a1) (pR G a0 13) ((sA σ (pR G a0 12) (σ.1 a0 2) a1).1 a0 2) a2) a0 2 (((sA (sA σ (pR G a0 12) (σ.1 a0 2) a1) (pR G a0 13) ((sA σ (pR G a0 12) (σ.1 a0 2) a1).1 a0 2) a2).1 a0 2) + (1 : Int32)))))))
set_option maxRecDepth 100000 in
set_option maxHeartbeats 4000000 in
theorem tX8_addWord {N : Nat} {G : pG} {SK : Nat → Nat} {a0 : Nat} {a1 : Int32} {a2 : Int32} {σ : pS} {r : pS} (hW : WT G) (i0 : Is G a0 7) (h : fX8_addWord N G a0 a1 a2 σ = some r) : Dn miX8_addWord yX8_addWord 1 G SK [.ref a0, .int a1, .int a2] σ none r := by
  unfold fX8_addWord at h
  refine dn_of (lv := [some (.ref a0), some (.int a1), some (.int a2)]) (by decide) rfl rfl (Nat.le_of_ble_eq_true rfl) rfl ?_
  refine ev_aload_n dc_X8_addWord_0 rfl ?_
  refine ev_getI dc_X8_addWord_1 fi_X8_18 rfl i0 ?_
  refine ev_if_lt (tgt := 46) dc_X8_addWord_4 (by decide) h (fun h => ?_) (fun h => ?_)
  · cases h
    exact ev_vret dc_X8_addWord_46 rfl rfl rfl
  · refine ev_aload_n dc_X8_addWord_7 rfl ?_
    refine ev_getI dc_X8_addWord_8 fi_X8_18 rfl i0 ?_
    refine ev_bipush (v := 6) dc_X8_addWord_11 (by decide) ?_
    refine ev_icmp_ge (tgt := 46) dc_X8_addWord_13 (by decide) h (fun h => ?_) (fun h => ?_)
    · cases h
      exact ev_vret dc_X8_addWord_46 rfl rfl rfl
    · refine ev_aload_n dc_X8_addWord_16 rfl ?_
      refine ev_getR dc_X8_addWord_17 fi_X8_49 rfl i0 ?_
      refine ev_aload_n dc_X8_addWord_20 rfl ?_
      refine ev_getI dc_X8_addWord_21 fi_X8_18 rfl i0 ?_
      refine ev_iload_n dc_X8_addWord_24 rfl ?_
      refine ev_iast dc_X8_addWord_25 (wt hW i0 12 rfl rfl) h (fun h => ?_)
      refine ev_aload_n dc_X8_addWord_26 rfl ?_
      refine ev_getR dc_X8_addWord_27 fi_X8_52 rfl i0 ?_
      refine ev_aload_n dc_X8_addWord_30 rfl ?_
      refine ev_getI dc_X8_addWord_31 fi_X8_18 rfl i0 ?_
      refine ev_iload_n dc_X8_addWord_34 rfl ?_
      refine ev_iast dc_X8_addWord_35 (wt hW i0 13 rfl rfl) h (fun h => ?_)
      refine ev_aload_n dc_X8_addWord_36 rfl ?_
      refine ev_dup dc_X8_addWord_37 rfl ?_
      refine ev_getI dc_X8_addWord_38 fi_X8_18 rfl i0 ?_
      refine ev_iconst (v := 1) dc_X8_addWord_41 (by decide) ?_
      refine ev_iadd dc_X8_addWord_42 ?_
      refine ev_putI dc_X8_addWord_43 fi_X8_18 rfl i0 ?_
      cases h
      exact ev_vret dc_X8_addWord_46 rfl rfl rfl
theorem dc_X8_copyFrom_0 : Dc miX8_copyFrom 0 (.aload_n 0) 1 1 := ⟨by decide +kernel, rfl⟩
theorem dc_X8_copyFrom_1 : Dc miX8_copyFrom 1 (.aload_n 1) 1 2 := ⟨by decide +kernel, rfl⟩
theorem dc_X8_copyFrom_2 : Dc miX8_copyFrom 2 (.getfield 9) 3 5 := ⟨by decide +kernel, rfl⟩
theorem dc_X8_copyFrom_5 : Dc miX8_copyFrom 5 (.putfield 9) 3 8 := ⟨by decide +kernel, rfl⟩
theorem dc_X8_copyFrom_8 : Dc miX8_copyFrom 8 (.aload_n 0) 1 9 := ⟨by decide +kernel, rfl⟩
theorem dc_X8_copyFrom_9 : Dc miX8_copyFrom 9 (.aload_n 1) 1 10 := ⟨by decide +kernel, rfl⟩
theorem dc_X8_copyFrom_10 : Dc miX8_copyFrom 10 (.getfield 15) 3 13 := ⟨by decide +kernel, rfl⟩
theorem dc_X8_copyFrom_13 : Dc miX8_copyFrom 13 (.putfield 15) 3 16 := ⟨by decide +kernel, rfl⟩
theorem dc_X8_copyFrom_16 : Dc miX8_copyFrom 16 (.aload_n 0) 1 17 := ⟨by decide +kernel, rfl⟩
theorem dc_X8_copyFrom_17 : Dc miX8_copyFrom 17 (.aload_n 1) 1 18 := ⟨by decide +kernel, rfl⟩
theorem dc_X8_copyFrom_18 : Dc miX8_copyFrom 18 (.getfield 18) 3 21 := ⟨by decide +kernel, rfl⟩
theorem dc_X8_copyFrom_21 : Dc miX8_copyFrom 21 (.putfield 18) 3 24 := ⟨by decide +kernel, rfl⟩
theorem dc_X8_copyFrom_24 : Dc miX8_copyFrom 24 (.aload_n 0) 1 25 := ⟨by decide +kernel, rfl⟩
theorem dc_X8_copyFrom_25 : Dc miX8_copyFrom 25 (.aload_n 1) 1 26 := ⟨by decide +kernel, rfl⟩
theorem dc_X8_copyFrom_26 : Dc miX8_copyFrom 26 (.getfield 21) 3 29 := ⟨by decide +kernel, rfl⟩
theorem dc_X8_copyFrom_29 : Dc miX8_copyFrom 29 (.putfield 21) 3 32 := ⟨by decide +kernel, rfl⟩
theorem dc_X8_copyFrom_32 : Dc miX8_copyFrom 32 (.aload_n 0) 1 33 := ⟨by decide +kernel, rfl⟩
theorem dc_X8_copyFrom_33 : Dc miX8_copyFrom 33 (.aload_n 1) 1 34 := ⟨by decide +kernel, rfl⟩
theorem dc_X8_copyFrom_34 : Dc miX8_copyFrom 34 (.getfield 24) 3 37 := ⟨by decide +kernel, rfl⟩
theorem dc_X8_copyFrom_37 : Dc miX8_copyFrom 37 (.putfield 24) 3 40 := ⟨by decide +kernel, rfl⟩
theorem dc_X8_copyFrom_40 : Dc miX8_copyFrom 40 (.aload_n 0) 1 41 := ⟨by decide +kernel, rfl⟩
theorem dc_X8_copyFrom_41 : Dc miX8_copyFrom 41 (.aload_n 1) 1 42 := ⟨by decide +kernel, rfl⟩
theorem dc_X8_copyFrom_42 : Dc miX8_copyFrom 42 (.getfield 27) 3 45 := ⟨by decide +kernel, rfl⟩
theorem dc_X8_copyFrom_45 : Dc miX8_copyFrom 45 (.putfield 27) 3 48 := ⟨by decide +kernel, rfl⟩
theorem dc_X8_copyFrom_48 : Dc miX8_copyFrom 48 (.aload_n 0) 1 49 := ⟨by decide +kernel, rfl⟩
theorem dc_X8_copyFrom_49 : Dc miX8_copyFrom 49 (.aload_n 1) 1 50 := ⟨by decide +kernel, rfl⟩
theorem dc_X8_copyFrom_50 : Dc miX8_copyFrom 50 (.getfield 30) 3 53 := ⟨by decide +kernel, rfl⟩
theorem dc_X8_copyFrom_53 : Dc miX8_copyFrom 53 (.putfield 30) 3 56 := ⟨by decide +kernel, rfl⟩
theorem dc_X8_copyFrom_56 : Dc miX8_copyFrom 56 (.aload_n 0) 1 57 := ⟨by decide +kernel, rfl⟩
theorem dc_X8_copyFrom_57 : Dc miX8_copyFrom 57 (.aload_n 1) 1 58 := ⟨by decide +kernel, rfl⟩
theorem dc_X8_copyFrom_58 : Dc miX8_copyFrom 58 (.getfield 33) 3 61 := ⟨by decide +kernel, rfl⟩
theorem dc_X8_copyFrom_61 : Dc miX8_copyFrom 61 (.putfield 33) 3 64 := ⟨by decide +kernel, rfl⟩
theorem dc_X8_copyFrom_64 : Dc miX8_copyFrom 64 (.aload_n 0) 1 65 := ⟨by decide +kernel, rfl⟩
theorem dc_X8_copyFrom_65 : Dc miX8_copyFrom 65 (.aload_n 1) 1 66 := ⟨by decide +kernel, rfl⟩
theorem dc_X8_copyFrom_66 : Dc miX8_copyFrom 66 (.getfield 36) 3 69 := ⟨by decide +kernel, rfl⟩
theorem dc_X8_copyFrom_69 : Dc miX8_copyFrom 69 (.putfield 36) 3 72 := ⟨by decide +kernel, rfl⟩
theorem dc_X8_copyFrom_72 : Dc miX8_copyFrom 72 (.aload_n 1) 1 73 := ⟨by decide +kernel, rfl⟩
theorem dc_X8_copyFrom_73 : Dc miX8_copyFrom 73 (.getfield 39) 3 76 := ⟨by decide +kernel, rfl⟩
theorem dc_X8_copyFrom_76 : Dc miX8_copyFrom 76 (.iconst 0) 1 77 := ⟨by decide +kernel, rfl⟩
theorem dc_X8_copyFrom_77 : Dc miX8_copyFrom 77 (.aload_n 0) 1 78 := ⟨by decide +kernel, rfl⟩
theorem dc_X8_copyFrom_78 : Dc miX8_copyFrom 78 (.getfield 39) 3 81 := ⟨by decide +kernel, rfl⟩
theorem dc_X8_copyFrom_81 : Dc miX8_copyFrom 81 (.iconst 0) 1 82 := ⟨by decide +kernel, rfl⟩
theorem dc_X8_copyFrom_82 : Dc miX8_copyFrom 82 (.bipush 10) 2 84 := ⟨by decide +kernel, rfl⟩
theorem dc_X8_copyFrom_84 : Dc miX8_copyFrom 84 (.invokestatic 67) 3 87 := ⟨by decide +kernel, rfl⟩
theorem dc_X8_copyFrom_87 : Dc miX8_copyFrom 87 (.aload_n 1) 1 88 := ⟨by decide +kernel, rfl⟩
theorem dc_X8_copyFrom_88 : Dc miX8_copyFrom 88 (.getfield 43) 3 91 := ⟨by decide +kernel, rfl⟩
theorem dc_X8_copyFrom_91 : Dc miX8_copyFrom 91 (.iconst 0) 1 92 := ⟨by decide +kernel, rfl⟩
theorem dc_X8_copyFrom_92 : Dc miX8_copyFrom 92 (.aload_n 0) 1 93 := ⟨by decide +kernel, rfl⟩
theorem dc_X8_copyFrom_93 : Dc miX8_copyFrom 93 (.getfield 43) 3 96 := ⟨by decide +kernel, rfl⟩
theorem dc_X8_copyFrom_96 : Dc miX8_copyFrom 96 (.iconst 0) 1 97 := ⟨by decide +kernel, rfl⟩
theorem dc_X8_copyFrom_97 : Dc miX8_copyFrom 97 (.bipush 10) 2 99 := ⟨by decide +kernel, rfl⟩
theorem dc_X8_copyFrom_99 : Dc miX8_copyFrom 99 (.invokestatic 67) 3 102 := ⟨by decide +kernel, rfl⟩
theorem dc_X8_copyFrom_102 : Dc miX8_copyFrom 102 (.aload_n 1) 1 103 := ⟨by decide +kernel, rfl⟩
theorem dc_X8_copyFrom_103 : Dc miX8_copyFrom 103 (.getfield 46) 3 106 := ⟨by decide +kernel, rfl⟩
theorem dc_X8_copyFrom_106 : Dc miX8_copyFrom 106 (.iconst 0) 1 107 := ⟨by decide +kernel, rfl⟩
theorem dc_X8_copyFrom_107 : Dc miX8_copyFrom 107 (.aload_n 0) 1 108 := ⟨by decide +kernel, rfl⟩
theorem dc_X8_copyFrom_108 : Dc miX8_copyFrom 108 (.getfield 46) 3 111 := ⟨by decide +kernel, rfl⟩
theorem dc_X8_copyFrom_111 : Dc miX8_copyFrom 111 (.iconst 0) 1 112 := ⟨by decide +kernel, rfl⟩
theorem dc_X8_copyFrom_112 : Dc miX8_copyFrom 112 (.bipush 6) 2 114 := ⟨by decide +kernel, rfl⟩
theorem dc_X8_copyFrom_114 : Dc miX8_copyFrom 114 (.invokestatic 67) 3 117 := ⟨by decide +kernel, rfl⟩
theorem dc_X8_copyFrom_117 : Dc miX8_copyFrom 117 (.aload_n 1) 1 118 := ⟨by decide +kernel, rfl⟩
theorem dc_X8_copyFrom_118 : Dc miX8_copyFrom 118 (.getfield 49) 3 121 := ⟨by decide +kernel, rfl⟩
theorem dc_X8_copyFrom_121 : Dc miX8_copyFrom 121 (.iconst 0) 1 122 := ⟨by decide +kernel, rfl⟩
theorem dc_X8_copyFrom_122 : Dc miX8_copyFrom 122 (.aload_n 0) 1 123 := ⟨by decide +kernel, rfl⟩
theorem dc_X8_copyFrom_123 : Dc miX8_copyFrom 123 (.getfield 49) 3 126 := ⟨by decide +kernel, rfl⟩
theorem dc_X8_copyFrom_126 : Dc miX8_copyFrom 126 (.iconst 0) 1 127 := ⟨by decide +kernel, rfl⟩
theorem dc_X8_copyFrom_127 : Dc miX8_copyFrom 127 (.bipush 6) 2 129 := ⟨by decide +kernel, rfl⟩
theorem dc_X8_copyFrom_129 : Dc miX8_copyFrom 129 (.invokestatic 67) 3 132 := ⟨by decide +kernel, rfl⟩
theorem dc_X8_copyFrom_132 : Dc miX8_copyFrom 132 (.aload_n 1) 1 133 := ⟨by decide +kernel, rfl⟩
theorem dc_X8_copyFrom_133 : Dc miX8_copyFrom 133 (.getfield 52) 3 136 := ⟨by decide +kernel, rfl⟩
theorem dc_X8_copyFrom_136 : Dc miX8_copyFrom 136 (.iconst 0) 1 137 := ⟨by decide +kernel, rfl⟩
theorem dc_X8_copyFrom_137 : Dc miX8_copyFrom 137 (.aload_n 0) 1 138 := ⟨by decide +kernel, rfl⟩
theorem dc_X8_copyFrom_138 : Dc miX8_copyFrom 138 (.getfield 52) 3 141 := ⟨by decide +kernel, rfl⟩
theorem dc_X8_copyFrom_141 : Dc miX8_copyFrom 141 (.iconst 0) 1 142 := ⟨by decide +kernel, rfl⟩
theorem dc_X8_copyFrom_142 : Dc miX8_copyFrom 142 (.bipush 6) 2 144 := ⟨by decide +kernel, rfl⟩
theorem dc_X8_copyFrom_144 : Dc miX8_copyFrom 144 (.invokestatic 67) 3 147 := ⟨by decide +kernel, rfl⟩
theorem dc_X8_copyFrom_147 : Dc miX8_copyFrom 147 (.aload_n 1) 1 148 := ⟨by decide +kernel, rfl⟩
theorem dc_X8_copyFrom_148 : Dc miX8_copyFrom 148 (.getfield 55) 3 151 := ⟨by decide +kernel, rfl⟩
theorem dc_X8_copyFrom_151 : Dc miX8_copyFrom 151 (.iconst 0) 1 152 := ⟨by decide +kernel, rfl⟩
theorem dc_X8_copyFrom_152 : Dc miX8_copyFrom 152 (.aload_n 0) 1 153 := ⟨by decide +kernel, rfl⟩
theorem dc_X8_copyFrom_153 : Dc miX8_copyFrom 153 (.getfield 55) 3 156 := ⟨by decide +kernel, rfl⟩
theorem dc_X8_copyFrom_156 : Dc miX8_copyFrom 156 (.iconst 0) 1 157 := ⟨by decide +kernel, rfl⟩
theorem dc_X8_copyFrom_157 : Dc miX8_copyFrom 157 (.iconst 4) 1 158 := ⟨by decide +kernel, rfl⟩
theorem dc_X8_copyFrom_158 : Dc miX8_copyFrom 158 (.invokestatic 67) 3 161 := ⟨by decide +kernel, rfl⟩
theorem dc_X8_copyFrom_161 : Dc miX8_copyFrom 161 (.aload_n 1) 1 162 := ⟨by decide +kernel, rfl⟩
theorem dc_X8_copyFrom_162 : Dc miX8_copyFrom 162 (.getfield 58) 3 165 := ⟨by decide +kernel, rfl⟩
theorem dc_X8_copyFrom_165 : Dc miX8_copyFrom 165 (.iconst 0) 1 166 := ⟨by decide +kernel, rfl⟩
theorem dc_X8_copyFrom_166 : Dc miX8_copyFrom 166 (.aload_n 0) 1 167 := ⟨by decide +kernel, rfl⟩
theorem dc_X8_copyFrom_167 : Dc miX8_copyFrom 167 (.getfield 58) 3 170 := ⟨by decide +kernel, rfl⟩
theorem dc_X8_copyFrom_170 : Dc miX8_copyFrom 170 (.iconst 0) 1 171 := ⟨by decide +kernel, rfl⟩
theorem dc_X8_copyFrom_171 : Dc miX8_copyFrom 171 (.iconst 4) 1 172 := ⟨by decide +kernel, rfl⟩
theorem dc_X8_copyFrom_172 : Dc miX8_copyFrom 172 (.invokestatic 67) 3 175 := ⟨by decide +kernel, rfl⟩
theorem dc_X8_copyFrom_175 : Dc miX8_copyFrom 175 (.aload_n 1) 1 176 := ⟨by decide +kernel, rfl⟩
theorem dc_X8_copyFrom_176 : Dc miX8_copyFrom 176 (.getfield 61) 3 179 := ⟨by decide +kernel, rfl⟩
theorem dc_X8_copyFrom_179 : Dc miX8_copyFrom 179 (.iconst 0) 1 180 := ⟨by decide +kernel, rfl⟩
theorem dc_X8_copyFrom_180 : Dc miX8_copyFrom 180 (.aload_n 0) 1 181 := ⟨by decide +kernel, rfl⟩
theorem dc_X8_copyFrom_181 : Dc miX8_copyFrom 181 (.getfield 61) 3 184 := ⟨by decide +kernel, rfl⟩
theorem dc_X8_copyFrom_184 : Dc miX8_copyFrom 184 (.iconst 0) 1 185 := ⟨by decide +kernel, rfl⟩
theorem dc_X8_copyFrom_185 : Dc miX8_copyFrom 185 (.bipush 6) 2 187 := ⟨by decide +kernel, rfl⟩
theorem dc_X8_copyFrom_187 : Dc miX8_copyFrom 187 (.invokestatic 67) 3 190 := ⟨by decide +kernel, rfl⟩
theorem dc_X8_copyFrom_190 : Dc miX8_copyFrom 190 (.aload_n 1) 1 191 := ⟨by decide +kernel, rfl⟩
theorem dc_X8_copyFrom_191 : Dc miX8_copyFrom 191 (.getfield 64) 3 194 := ⟨by decide +kernel, rfl⟩
theorem dc_X8_copyFrom_194 : Dc miX8_copyFrom 194 (.iconst 0) 1 195 := ⟨by decide +kernel, rfl⟩
theorem dc_X8_copyFrom_195 : Dc miX8_copyFrom 195 (.aload_n 0) 1 196 := ⟨by decide +kernel, rfl⟩
theorem dc_X8_copyFrom_196 : Dc miX8_copyFrom 196 (.getfield 64) 3 199 := ⟨by decide +kernel, rfl⟩
theorem dc_X8_copyFrom_199 : Dc miX8_copyFrom 199 (.iconst 0) 1 200 := ⟨by decide +kernel, rfl⟩
theorem dc_X8_copyFrom_200 : Dc miX8_copyFrom 200 (.bipush 8) 2 202 := ⟨by decide +kernel, rfl⟩
theorem dc_X8_copyFrom_202 : Dc miX8_copyFrom 202 (.invokestatic 67) 3 205 := ⟨by decide +kernel, rfl⟩
theorem dc_X8_copyFrom_205 : Dc miX8_copyFrom 205 (.return_) 1 206 := ⟨by decide +kernel, rfl⟩
def fX8_copyFrom (N : Nat) (G : pG) (a0 : Nat) (a1 : Nat) (σ : pS) : Option (pS) := ck (cpB (0 : Int32) (0 : Int32) (10 : Int32) (pN G (pR G a1 9)) (pN G (pR G a0 9))) (ck (cpB (0 : Int32) (0 : Int32) (10 : Int32) (pN G (pR G a1 10)) (pN G (pR G a0 10))) (ck (cpB (0 : Int32) (0 : Int32) (6 : Int32) (pN G (pR G a1 11)) (pN G (pR G a0 11))) (ck (cpB (0 : Int32) (0 : Int32) (6 : Int32) (pN G (pR G a1 12)) (pN G (pR G a0 12))) (ck (cpB (0 : Int32) (0 : Int32) (6 : Int32) (pN G (pR G a1 13)) (pN G (pR G a0 13))) (ck (cpB (0 : Int32) (0 : Int32) (4 : Int32) (pN G (pR G a1 14)) (pN G (pR G a0 14))) (ck (cpB (0 : Int32) (0 : Int32) (4 : Int32) (pN G (pR G a1 15)) (pN G (pR G a0 15))) (ck (cpB (0 : Int32) (0 : Int32) (6 : Int32) (pN G (pR G a1 16)) (pN G (pR G a0 16))) (ck (cpB (0 : Int32) (0 : Int32) (8 : Int32) (pN G (pR G a1 17)) (pN G (pR G a0 17))) (some (cpA (cpA (cpA (cpA (cpA (cpA (cpA (cpA (cpA (putF (putF (putF (putF (putF (putF (putF (putF (putF σ a0 0 (σ.1 a1 0)) a0 1 ((putF σ a0 0 (σ.1 a1 0)).1 a1 1)) a0 2 ((putF (putF σ a0 0 (σ.1 a1 0)) a0 1 ((putF σ a0 0 (σ.1 a1 0)).1 a1 1)).1 a1 2)) a0 3 ((putF (putF (putF σ a0 0 (σ.1 a1 0)) a0 1 ((putF σ a0 0 (σ.1 a1 0)).1 a1 1)) a0 2 ((putF (putF σ a0 0 (σ.1 a1 0)) a0 1 ((putF σ a0 0 (σ.1 a1 0)).1 a1 1)).1 a1 2)).1 a1 3)) a0 4 ((putF (putF (putF (putF σ a0 0 (σ.1 a1 0)) a0 1 ((putF σ a0 0 (σ.1 a1 0)).1 a1 1)) a0 2 ((putF (putF σ a0 0 (σ.1 a1 0)) a0 1 ((putF σ a0 0 (σ.1 a1 0)).1 a1 1)).1 a1 2)) a0 3 ((putF (putF (putF σ a0 0 (σ.1 a1 0)) a0 1 ((putF σ a0 0 (σ.1 a1 0)).1 a1 1)) a0 2 ((putF (putF σ a0 0 (σ.1 a1 0)) a0 1 ((putF σ a0 0 (σ.1 a1 0)).1 a1 1)).1 a1 2)).1 a1 3)).1 a1 4)) a0 5 ((putF (putF (putF (putF (putF σ a0 0 (σ.1 a1 0)) a0 1 ((putF σ a0 0 (σ.1 a1 0)).1 a1 1)) a0 2 ((putF (putF σ a0 0 (σ.1 a1 0)) a0 1 ((putF σ a0 0 (σ.1 a1 0)).1 a1 1)).1 a1 2)) a0 3 ((putF (putF (putF σ a0 0 (σ.1 a1 0)) a0 1 ((putF σ a0 0 (σ.1 a1 0)).1 a1 1)) a0 2 ((putF (putF σ a0 0 (σ.1 a1 0)) a0 1 ((putF σ a0 0 (σ.1 a1 0)).1 a1 1)).1 a1 2)).1 a1 3)) a0 4 ((putF (putF (putF (putF σ a0 0 (σ.1 a1 0)) a0 1 ((putF σ a0 0 (σ.1 a1 0)).1 a1 1)) a0 2 ((putF (putF σ a0 0 (σ.1 a1 0)) a0 1 ((putF σ a0 0 (σ.1 a1 0)).1 a1 1)).1 a1 2)) a0 3 ((putF (putF (putF σ a0 0 (σ.1 a1 0)) a0 1 ((putF σ a0 0 (σ.1 a1 0)).1 a1 1)) a0 2 ((putF (putF σ a0 0 (σ.1 a1 0)) a0 1 ((putF σ a0 0 (σ.1 a1 0)).1 a1 1)).1 a1 2)).1 a1 3)).1 a1 4)).1 a1 5)) a0 6 ((putF (putF (putF (putF (putF (putF σ a0 0 (σ.1 a1 0)) a0 1 ((putF σ a0 0 (σ.1 a1 0)).1 a1 1)) a0 2 ((putF (putF σ a0 0 (σ.1 a1 0)) a0 1 ((putF σ a0 0 (σ.1 a1 0)).1 a1 1)).1 a1 2)) a0 3 ((putF (putF (putF σ a0 0 (σ.1 a1 0)) a0 1 ((putF σ a0 0 (σ.1 a1 0)).1 a1 1)) a0 2 ((putF (putF σ a0 0 (σ.1 a1 0)) a0 1 ((putF σ a0 0 (σ.1 a1 0)).1 a1 1)).1 a1 2)).1 a1 3)) a0 4 ((putF (putF (putF (putF σ a0 0 (σ.1 a1 0)) a0 1 ((putF σ a0 0 (σ.1 a1 0)).1 a1 1)) a0 2 ((putF (putF σ a0 0 (σ.1 a1 0)) a0 1 ((putF σ a0 0 (σ.1 a1 0)).1 a1 1)).1 a1 2)) a0 3 ((putF (putF (putF σ a0 0 (σ.1 a1 0)) a0 1 ((putF σ a0 0 (σ.1 a1 0)).1 a1 1)) a0 2 ((putF (putF σ a0 0 (σ.1 a1 0)) a0 1 ((putF σ a0 0 (σ.1 a1 0)).1 a1 1)).1 a1 2)).1 a1 3)).1 a1 4)) a0 5 ((putF (putF (putF (putF (putF σ a0 0 (σ.1 a1 0)) a0 1 ((putF σ a0 0 (σ.1 a1 0)).1 a1 1)) a0 2 ((putF (putF σ a0 0 (σ.1 a1 0)) a0 1 ((putF σ a0 0 (σ.1 a1 0)).1 a1 1)).1 a1 2)) a0 3 ((putF (putF (putF σ a0 0 (σ.1 a1 0)) a0 1 ((putF σ a0 0 (σ.1 a1 0)).1 a1 1)) a0 2 ((putF (putF σ a0 0 (σ.1 a1 0)) a0 1 ((putF σ a0 0 (σ.1 a1 0)).1 a1 1)).1 a1 2)).1 a1 3)) a0 4 ((putF (putF (putF (putF σ a0 0 (σ.1 a1 0)) a0 1 ((putF σ a0 0 (σ.1 a1 0)).1 a1 1)) a0 2 ((putF (putF σ a0 0 (σ.1 a1 0)) a0 1 ((putF σ a0 0 (σ.1 a1 0)).1 a1 1)).1 a1 2)) a0 3 ((putF (putF (putF σ a0 0 (σ.1 a1 0)) a0 1 ((putF σ a0 0 (σ.1 a1 0)).1 a1 1)) a0 2 ((putF (putF σ a0 0 (σ.1 a1 0)) a0 1 ((putF σ a0 0 (σ.1 a1 0)).1 a1 1)).1 a1 2)).1 a1 3)).1 a1 4)).1 a1 5)).1 a1 6)) a0 7 ((putF (putF (putF (putF (putF (putF (putF σ a0 0 (σ.1 a1 0)) a0 1 ((putF σ a0 0 (σ.1 a1 0)).1 a1 1)) a0 2 ((putF (putF σ a0 0 (σ.1 a1 0)) a0 1 ((putF σ a0 0 (σ.1 a1 0)).1 a1 1)).1 a1 2)) a0 3 ((putF (putF (putF σ a0 0 (σ.1 a1 0)) a0 1 ((putF σ a0 0 (σ.1 a1 0)).1 a1 1)) a0 2 ((putF (putF σ a0 0 (σ.1 a1 0)) a0 1 ((putF σ a0 0 (σ.1 a1 0)).1 a1 1)).1 a1 2)).1 a1 3)) a0 4 ((putF (putF (putF (putF σ a0 0 (σ.1 a1 0)) a0 1 ((putF σ a0 0 (σ.1 a1 0)).1 a1 1)) a0 2 ((putF (putF σ a0 0 (σ.1 a1 0)) a0 1 ((putF σ a0 0 (σ.1 a1 0)).1 a1 1)).1 a1 2)) a0 3 ((putF (putF (putF σ a0 0 (σ.1 a1 0)) a0 1 ((putF σ a0 0 (σ.1 a1 0)).1 a1 1)) a0 2 ((putF (putF σ a0 0 (σ.1 a1 0)) a0 1 ((putF σ a0 0 (σ.1 a1 0)).1 a1 1)).1 a1 2)).1 a1 3)).1 a1 4)) a0 5 ((putF (putF (putF (putF (putF σ a0 0 (σ.1 a1 0)) a0 1 ((putF σ a0 0 (σ.1 a1 0)).1 a1 1)) a0 2 ((putF (putF σ a0 0 (σ.1 a1 0)) a0 1 ((putF σ a0 0 (σ.1 a1 0)).1 a1 1)).1 a1 2)) a0 3 ((putF (putF (putF σ a0 0 (σ.1 a1 0)) a0 1 ((putF σ a0 0 (σ.1 a1 0)).1 a1 1)) a0 2 ((putF (putF σ a0 0 (σ.1 a1 0)) a0 1 ((putF σ a0 0 (σ.1 a1 0)).1 a1 1)).1 a1 2)).1 a1 3)) a0 4 ((putF (putF (putF (putF σ a0 0 (σ.1 a1 0)) a0 1 ((putF σ a0 0 (σ.1 a1 0)).1 a1 1)) a0 2 ((putF (putF σ a0 0 (σ.1 a1 0)) a0 1 ((putF σ a0 0 (σ.1 a1 0)).1 a1 1)).1 a1 2)) a0 3 ((putF (putF (putF σ a0 0 (σ.1 a1 0)) a0 1 ((putF σ a0 0 (σ.1 a1 0)).1 a1 1)) a0 2 ((putF (putF σ a0 0 (σ.1 a1 0)) a0 1 ((putF σ a0 0 (σ.1 a1 0)).1 a1 1)).1 a1 2)).1 a1 3)).1 a1 4)).1 a1 5)) a0 6 ((putF (putF (putF (putF (putF (putF σ a0 0 (σ.1 a1 0)) a0 1 ((putF σ a0 0 (σ.1 a1 0)).1 a1 1)) a0 2 ((putF (putF σ a0 0 (σ.1 a1 0)) a0 1 ((putF σ a0 0 (σ.1 a1 0)).1 a1 1)).1 a1 2)) a0 3 ((putF (putF (putF σ a0 0 (σ.1 a1 0)) a0 1 ((putF σ a0 0 (σ.1 a1 0)).1 a1 1)) a0 2 ((putF (putF σ a0 0 (σ.1 a1 0)) a0 1 ((putF σ a0 0 (σ.1 a1 0)).1 a1 1)).1 a1 2)).1 a1 3)) a0 4 ((putF (putF (putF (putF σ a0 0 (σ.1 a1 0)) a0 1 ((putF σ a0 0 (σ.1 a1 0)).1 a1 1)) a0 2 ((putF (putF σ a0 0 (σ.1 a1 0)) a0 1 ((putF σ a0 0 (σ.1 a1 0)).1 a1 1)).1 a1 2)) a0 3 ((putF (putF (putF σ a0 0 (σ.1 a1 0)) a0 1 ((putF σ a0 0 (σ.1 a1 0)).1 a1 1)) a0 2 ((putF (putF σ a0 0 (σ.1 a1 0)) a0 1 ((putF σ a0 0 (σ.1 a1 0)).1 a1 1)).1 a1 2)).1 a1 3)).1 a1 4)) a0 5 ((putF (putF (putF (putF (putF σ a0 0 (σ.1 a1 0)) a0 1 ((putF σ a0 0 (σ.1 a1 0)).1 a1 1)) a0 2 ((putF (putF σ a0 0 (σ.1 a1 0)) a0 1 ((putF σ a0 0 (σ.1 a1 0)).1 a1 1)).1 a1 2)) a0 3 ((putF (putF (putF σ a0 0 (σ.1 a1 0)) a0 1 ((putF σ a0 0 (σ.1 a1 0)).1 a1 1)) a0 2 ((putF (putF σ a0 0 (σ.1 a1 0)) a0 1 ((putF σ a0 0 (σ.1 a1 0)).1 a1 1)).1 a1 2)).1 a1 3)) a0 4 ((putF (putF (putF (putF σ a0 0 (σ.1 a1 0)) a0 1 ((putF σ a0 0 (σ.1 a1 0)).1 a1 1)) a0 2 ((putF (putF σ a0 0 (σ.1 a1 0)) a0 1 ((putF σ a0 0 (σ.1 a1 0)).1 a1 1)).1 a1 2)) a0 3 ((putF (putF (putF σ a0 0 (σ.1 a1 0)) a0 1 ((putF σ a0 0 (σ.1 a1 0)).1 a1 1)) a0 2 ((putF (putF σ a0 0 (σ.1 a1 0)) a0 1 ((putF σ a0 0 (σ.1 a1 0)).1 a1 1)).1 a1 2)).1 a1 3)).1 a1 4)).1 a1 5)).1 a1 6)).1 a1 7)) a0 8 ((putF (putF (putF (putF (putF (putF (putF (putF σ a0 0 (σ.1 a1 0)) a0 1 ((putF σ a0 0 (σ.1 a1 0)).1 a1 1)) a0 2 ((putF (putF σ a0 0 (σ.1 a1 0)) a0 1 ((putF σ a0 0 (σ.1 a1 0)).1 a1 1)).1 a1 2)) a0 3 ((putF (putF (putF σ a0 0 (σ.1 a1 0)) a0 1 ((putF σ a0 0 (σ.1 a1 0)).1 a1 1)) a0 2 ((putF (putF σ a0 0 (σ.1 a1 0)) a0 1 ((putF σ a0 0 (σ.1 a1 0)).1 a1 1)).1 a1 2)).1 a1 3)) a0 4 ((putF (putF (putF (putF σ a0 0 (σ.1 a1 0)) a0 1 ((putF σ a0 0 (σ.1 a1 0)).1 a1 1)) a0 2 ((putF (putF σ a0 0 (σ.1 a1 0)) a0 1 ((putF σ a0 0 (σ.1 a1 0)).1 a1 1)).1 a1 2)) a0 3 ((putF (putF (putF σ a0 0 (σ.1 a1 0)) a0 1 ((putF σ a0 0 (σ.1 a1 0)).1 a1 1)) a0 2 ((putF (putF σ a0 0 (σ.1 a1 0)) a0 1 ((putF σ a0 0 (σ.1 a1 0)).1 a1 1)).1 a1 2)).1 a1 3)).1 a1 4)) a0 5 ((putF (putF (putF (putF (putF σ a0 0 (σ.1 a1 0)) a0 1 ((putF σ a0 0 (σ.1 a1 0)).1 a1 1)) a0 2 ((putF (putF σ a0 0 (σ.1 a1 0)) a0 1 ((putF σ a0 0 (σ.1 a1 0)).1 a1 1)).1 a1 2)) a0 3 ((putF (putF (putF σ a0 0 (σ.1 a1 0)) a0 1 ((putF σ a0 0 (σ.1 a1 0)).1 a1 1)) a0 2 ((putF (putF σ a0 0 (σ.1 a1 0)) a0 1 ((putF σ a0 0 (σ.1 a1 0)).1 a1 1)).1 a1 2)).1 a1 3)) a0 4 ((putF (putF (putF (putF σ a0 0 (σ.1 a1 0)) a0 1 ((putF σ a0 0 (σ.1 a1 0)).1 a1 1)) a0 2 ((putF (putF σ a0 0 (σ.1 a1 0)) a0 1 ((putF σ a0 0 (σ.1 a1 0)).1 a1 1)).1 a1 2)) a0 3 ((putF (putF (putF σ a0 0 (σ.1 a1 0)) a0 1 ((putF σ a0 0 (σ.1 a1 0)).1 a1 1)) a0 2 ((putF (putF σ a0 0 (σ.1 a1 0)) a0 1 ((putF σ a0 0 (σ.1 a1 0)).1 a1 1)).1 a1 2)).1 a1 3)).1 a1 4)).1 a1 5)) a0 6 ((putF (putF (putF (putF (putF (putF σ a0 0 (σ.1 a1 0)) a0 1 ((putF σ a0 0 (σ.1 a1 0)).1 a1 1)) a0 2 ((putF (putF σ a0 0 (σ.1 a1 0)) a0 1 ((putF σ a0 0 (σ.1 a1 0)).1 a1 1)).1 a1 2)) a0 3 ((putF (putF (putF σ a0 0 (σ.1 a1 0)) a0 1 ((putF σ a0 0 (σ.1 a1 0)).1 a1 1)) a0 2 ((putF (putF σ a0 0 (σ.1 a1 0)) a0 1 ((putF σ a0 0 (σ.1 a1 0)).1 a1 1)).1 a1 2)).1 a1 3)) a0 4 ((putF (putF (putF (putF σ a0 0 (σ.1 a1 0)) a0 1 ((putF σ a0 0 (σ.1 a1 0)).1 a1 1)) a0 2 ((putF (putF σ a0 0 (σ.1 a1 0)) a0 1 ((putF σ a0 0 (σ.1 a1 0)).1 a1 1)).1 a1 2)) a0 3 ((putF (putF (putF σ a0 0 (σ.1 a1 0)) a0 1 ((putF σ a0 0 (σ.1 a1 0)).1 a1 1)) a0 2 ((putF (putF σ a0 0 (σ.1 a1 0)) a0 1 ((putF σ a0 0 (σ.1 a1 0)).1 a1 1)).1 a1 2)).1 a1 3)).1 a1 4)) a0 5 ((putF (putF (putF (putF (putF σ a0 0 (σ.1 a1 0)) a0 1 ((putF σ a0 0 (σ.1 a1 0)).1 a1 1)) a0 2 ((putF (putF σ a0 0 (σ.1 a1 0)) a0 1 ((putF σ a0 0 (σ.1 a1 0)).1 a1 1)).1 a1 2)) a0 3 ((putF (putF (putF σ a0 0 (σ.1 a1 0)) a0 1 ((putF σ a0 0 (σ.1 a1 0)).1 a1 1)) a0 2 ((putF (putF σ a0 0 (σ.1 a1 0)) a0 1 ((putF σ a0 0 (σ.1 a1 0)).1 a1 1)).1 a1 2)).1 a1 3)) a0 4 ((putF (putF (putF (putF σ a0 0 (σ.1 a1 0)) a0 1 ((putF σ a0 0 (σ.1 a1 0)).1 a1 1)) a0 2 ((putF (putF σ a0 0 (σ.1 a1 0)) a0 1 ((putF σ a0 0 (σ.1 a1 0)).1 a1 1)).1 a1 2)) a0 3 ((putF (putF (putF σ a0 0 (σ.1 a1 0)) a0 1 ((putF σ a0 0 (σ.1 a1 0)).1 a1 1)) a0 2 ((putF (putF σ a0 0 (σ.1 a1 0)) a0 1 ((putF σ a0 0 (σ.1 a1 0)).1 a1 1)).1 a1 2)).1 a1 3)).1 a1 4)).1 a1 5)).1 a1 6)) a0 7 ((putF (putF (putF (putF (putF (putF (putF σ a0 0 (σ.1 a1 0)) a0 1 ((putF σ a0 0 (σ.1 a1 0)).1 a1 1)) a0 2 ((putF (putF σ a0 0 (σ.1 a1 0)) a0 1 ((putF σ a0 0 (σ.1 a1 0)).1 a1 1)).1 a1 2)) a0 3 ((putF (putF (putF σ a0 0 (σ.1 a1 0)) a0 1 ((putF σ a0 0 (σ.1 a1 0)).1 a1 1)) a0 2 ((putF (putF σ a0 0 (σ.1 a1 0)) a0 1 ((putF σ a0 0 (σ.1 a1 0)).1 a1 1)).1 a1 2)).1 a1 3)) a0 4 ((putF (putF (putF (putF σ a0 0 (σ.1 a1 0)) a0 1 ((putF σ a0 0 (σ.1 a1 0)).1 a1 1)) a0 2 ((putF (putF σ a0 0 (σ.1 a1 0)) a0 1 ((putF σ a0 0 (σ.1 a1 0)).1 a1 1)).1 a1 2)) a0 3 ((putF (putF (putF σ a0 0 (σ.1 a1 0)) a0 1 ((putF σ a0 0 (σ.1 a1 0)).1 a1 1)) a0 2 ((putF (putF σ a0 0 (σ.1 a1 0)) a0 1 ((putF σ a0 0 (σ.1 a1 0)).1 a1 1)).1 a1 2)).1 a1 3)).1 a1 4)) a0 5 ((putF (putF (putF (putF (putF σ a0 0 (σ.1 a1 0)) a0 1 ((putF σ a0 0 (σ.1 a1 0)).1 a1 1)) a0 2 ((putF (putF σ a0 0 (σ.1 a1 0)) a0 1 ((putF σ a0 0 (σ.1 a1 0)).1 a1 1)).1 a1 2)) a0 3 ((putF (putF (putF σ a0 0 (σ.1 a1 0)) a0 1 ((putF σ a0 0 (σ.1 a1 0)).1 a1 1)) a0 2 ((putF (putF σ a0 0 (σ.1 a1 0)) a0 1 ((putF σ a0 0 (σ.1 a1 0)).1 a1 1)).1 a1 2)).1 a1 3)) a0 4 ((putF (putF (putF (putF σ a0 0 (σ.1 a1 0)) a0 1 ((putF σ a0 0 (σ.1 a1 0)).1 a1 1)) a0 2 ((putF (putF σ a0 0 (σ.1 a1 0)) a0 1 ((putF σ a0 0 (σ.1 a1 0)).1 a1 1)).1 a1 2)) a0 3 ((putF (putF (putF σ a0 0 (σ.1 a1 0)) a0 1 ((putF σ a0 0 (σ.1 a1 0)).1 a1 1)) a0 2 ((putF (putF σ a0 0 (σ.1 a1 0)) a0 1 ((putF σ a0 0 (σ.1 a1 0)).1 a1 1)).1 a1 2)).1 a1 3)).1 a1 4)).1 a1 5)) a0 6 ((putF (putF (putF (putF (putF (putF σ a0 0 (σ.1 a1 0)) a0 1 ((putF σ a0 0 (σ.1 a1 0)).1 a1 1)) a0 2 ((putF (putF σ a0 0 (σ.1 a1 0)) a0 1 ((putF σ a0 0 (σ.1 a1 0)).1 a1 1)).1 a1 2)) a0 3 ((putF (putF (putF σ a0 0 (σ.1 a1 0)) a0 1 ((putF σ a0 0 (σ.1 a1 0)).1 a1 1)) a0 2 ((putF (putF σ a0 0 (σ.1 a1 0)) a0 1 ((putF σ a0 0 (σ.1 a1 0)).1 a1 1)).1 a1 2)).1 a1 3)) a0 4 ((putF (putF (putF (putF σ a0 0 (σ.1 a1 0)) a0 1 ((putF σ a0 0 (σ.1 a1 0)).1 a1 1)) a0 2 ((putF (putF σ a0 0 (σ.1 a1 0)) a0 1 ((putF σ a0 0 (σ.1 a1 0)).1 a1 1)).1 a1 2)) a0 3 ((putF (putF (putF σ a0 0 (σ.1 a1 0)) a0 1 ((putF σ a0 0 (σ.1 a1 0)).1 a1 1)) a0 2 ((putF (putF σ a0 0 (σ.1 a1 0)) a0 1 ((putF σ a0 0 (σ.1 a1 0)).1 a1 1)).1 a1 2)).1 a1 3)).1 a1 4)) a0 5 ((putF (putF (putF (putF (putF σ a0 0 (σ.1 a1 0)) a0 1 ((putF σ a0 0 (σ.1 a1 0)).1 a1 1)) a0 2 ((putF (putF σ a0 0 (σ.1 a1 0)) a0 1 ((putF σ a0 0 (σ.1 a1 0)).1 a1 1)).1 a1 2)) a0 3 ((putF (putF (putF σ a0 0 (σ.1 a1 0)) a0 1 ((putF σ a0 0 (σ.1 a1 0)).1 a1 1)) a0 2 ((putF (putF σ a0 0 (σ.1 a1 0)) a0 1 ((putF σ a0 0 (σ.1 a1 0)).1 a1 1)).1 a1 2)).1 a1 3)) a0 4 ((putF (putF (putF (putF σ a0 0 (σ.1 a1 0)) a0 1 ((putF σ a0 0 (σ.1 a1 0)).1 a1 1)) a0 2 ((putF (putF σ a0 0 (σ.1 a1 0)) a0 1 ((putF σ a0 0 (σ.1 a1 0)).1 a1 1)).1 a1 2)) a0 3 ((putF (putF (putF σ a0 0 (σ.1 a1 0)) a0 1 ((putF σ a0 0 (σ.1 a1 0)).1 a1 1)) a0 2 ((putF (putF σ a0 0 (σ.1 a1 0)) a0 1 ((putF σ a0 0 (σ.1 a1 0)).1 a1 1)).1 a1 2)).1 a1 3)).1 a1 4)).1 a1 5)).1 a1 6)).1 a1 7)).1 a1 8)) (pR G a1 9) (0 : Int32) (pR G a0 9) (0 : Int32) (10 : Int32)) (pR G a1 10) (0 : Int32) (pR G a0 10) (0 : Int32) (10 : Int32)) (pR G a1 11) (0 : Int32) (pR G a0 11) (0 : Int32) (6 : Int32)) (pR G a1 12) (0 : Int32) (pR G a0 12) (0 : Int32) (6 : Int32)) (pR G a1 13) (0 : Int32) (pR G a0 13) (0 : Int32) (6 : Int32)) (pR G a1 14) (0 : Int32) (pR G a0 14) (0 : Int32) (4 : Int32)) (pR G a1 15) (0 : Int32) (pR G a0 15) (0 : Int32) (4 : Int32)) (pR G a1 16) (0 : Int32) (pR G a0 16) (0 : Int32) (6 : Int32)) (pR G a1 17) (0 : Int32) (pR G a0 17) (0 : Int32) (8 : Int32)))))))))))
set_option maxRecDepth 100000 in
set_option maxHeartbeats 4000000 in
theorem tX8_copyFrom {N : Nat} {G : pG} {SK : Nat → Nat} {a0 : Nat} {a1 : Nat} {σ : pS} {r : pS} (hW : WT G) (i0 : Is G a0 7) (i1 : Is G a1 7) (h : fX8_copyFrom N G a0 a1 σ = some r) : Dn miX8_copyFrom yX8_copyFrom 1 G SK [.ref a0, .ref a1] σ none r := by
  unfold fX8_copyFrom at h
  refine dn_of (lv := [some (.ref a0), some (.ref a1)]) (by decide) rfl rfl (Nat.le_of_ble_eq_true rfl) rfl ?_
  refine ev_aload_n dc_X8_copyFrom_0 rfl ?_
  refine ev_aload_n dc_X8_copyFrom_1 rfl ?_
  refine ev_getI dc_X8_copyFrom_2 fi_X8_9 rfl i1 ?_
  refine ev_putI dc_X8_copyFrom_5 fi_X8_9 rfl i0 ?_
  refine ev_aload_n dc_X8_copyFrom_8 rfl ?_
  refine ev_aload_n dc_X8_copyFrom_9 rfl ?_
  refine ev_getI dc_X8_copyFrom_10 fi_X8_15 rfl i1 ?_
  refine ev_putI dc_X8_copyFrom_13 fi_X8_15 rfl i0 ?_
  refine ev_aload_n dc_X8_copyFrom_16 rfl ?_
  refine ev_aload_n dc_X8_copyFrom_17 rfl ?_
  refine ev_getI dc_X8_copyFrom_18 fi_X8_18 rfl i1 ?_
  refine ev_putI dc_X8_copyFrom_21 fi_X8_18 rfl i0 ?_
  refine ev_aload_n dc_X8_copyFrom_24 rfl ?_
  refine ev_aload_n dc_X8_copyFrom_25 rfl ?_
  refine ev_getI dc_X8_copyFrom_26 fi_X8_21 rfl i1 ?_
  refine ev_putI dc_X8_copyFrom_29 fi_X8_21 rfl i0 ?_
  refine ev_aload_n dc_X8_copyFrom_32 rfl ?_
  refine ev_aload_n dc_X8_copyFrom_33 rfl ?_
  refine ev_getI dc_X8_copyFrom_34 fi_X8_24 rfl i1 ?_
  refine ev_putI dc_X8_copyFrom_37 fi_X8_24 rfl i0 ?_
  refine ev_aload_n dc_X8_copyFrom_40 rfl ?_
  refine ev_aload_n dc_X8_copyFrom_41 rfl ?_
  refine ev_getI dc_X8_copyFrom_42 fi_X8_27 rfl i1 ?_
  refine ev_putI dc_X8_copyFrom_45 fi_X8_27 rfl i0 ?_
  refine ev_aload_n dc_X8_copyFrom_48 rfl ?_
  refine ev_aload_n dc_X8_copyFrom_49 rfl ?_
  refine ev_getI dc_X8_copyFrom_50 fi_X8_30 rfl i1 ?_
  refine ev_putI dc_X8_copyFrom_53 fi_X8_30 rfl i0 ?_
  refine ev_aload_n dc_X8_copyFrom_56 rfl ?_
  refine ev_aload_n dc_X8_copyFrom_57 rfl ?_
  refine ev_getI dc_X8_copyFrom_58 fi_X8_33 rfl i1 ?_
  refine ev_putI dc_X8_copyFrom_61 fi_X8_33 rfl i0 ?_
  refine ev_aload_n dc_X8_copyFrom_64 rfl ?_
  refine ev_aload_n dc_X8_copyFrom_65 rfl ?_
  refine ev_getI dc_X8_copyFrom_66 fi_X8_36 rfl i1 ?_
  refine ev_putI dc_X8_copyFrom_69 fi_X8_36 rfl i0 ?_
  refine ev_aload_n dc_X8_copyFrom_72 rfl ?_
  refine ev_getR dc_X8_copyFrom_73 fi_X8_39 rfl i1 ?_
  refine ev_iconst (v := 0) dc_X8_copyFrom_76 (by decide) ?_
  refine ev_aload_n dc_X8_copyFrom_77 rfl ?_
  refine ev_getR dc_X8_copyFrom_78 fi_X8_39 rfl i0 ?_
  refine ev_iconst (v := 0) dc_X8_copyFrom_81 (by decide) ?_
  refine ev_bipush (v := 10) dc_X8_copyFrom_82 (by decide) ?_
  refine ev_cpI dc_X8_copyFrom_84 mw_654 (wt hW i1 9 rfl rfl) (wt hW i0 9 rfl rfl) (Nat.le_of_ble_eq_true rfl) (Nat.le_of_ble_eq_true rfl) h (fun h => ?_)
  refine ev_aload_n dc_X8_copyFrom_87 rfl ?_
  refine ev_getR dc_X8_copyFrom_88 fi_X8_43 rfl i1 ?_
  refine ev_iconst (v := 0) dc_X8_copyFrom_91 (by decide) ?_
  refine ev_aload_n dc_X8_copyFrom_92 rfl ?_
  refine ev_getR dc_X8_copyFrom_93 fi_X8_43 rfl i0 ?_
  refine ev_iconst (v := 0) dc_X8_copyFrom_96 (by decide) ?_
  refine ev_bipush (v := 10) dc_X8_copyFrom_97 (by decide) ?_
  refine ev_cpI dc_X8_copyFrom_99 mw_654 (wt hW i1 10 rfl rfl) (wt hW i0 10 rfl rfl) (Nat.le_of_ble_eq_true rfl) (Nat.le_of_ble_eq_true rfl) h (fun h => ?_)
  refine ev_aload_n dc_X8_copyFrom_102 rfl ?_
  refine ev_getR dc_X8_copyFrom_103 fi_X8_46 rfl i1 ?_
  refine ev_iconst (v := 0) dc_X8_copyFrom_106 (by decide) ?_
  refine ev_aload_n dc_X8_copyFrom_107 rfl ?_
  refine ev_getR dc_X8_copyFrom_108 fi_X8_46 rfl i0 ?_
  refine ev_iconst (v := 0) dc_X8_copyFrom_111 (by decide) ?_
  refine ev_bipush (v := 6) dc_X8_copyFrom_112 (by decide) ?_
  refine ev_cpI dc_X8_copyFrom_114 mw_654 (wt hW i1 11 rfl rfl) (wt hW i0 11 rfl rfl) (Nat.le_of_ble_eq_true rfl) (Nat.le_of_ble_eq_true rfl) h (fun h => ?_)
  refine ev_aload_n dc_X8_copyFrom_117 rfl ?_
  refine ev_getR dc_X8_copyFrom_118 fi_X8_49 rfl i1 ?_
  refine ev_iconst (v := 0) dc_X8_copyFrom_121 (by decide) ?_
  refine ev_aload_n dc_X8_copyFrom_122 rfl ?_
  refine ev_getR dc_X8_copyFrom_123 fi_X8_49 rfl i0 ?_
  refine ev_iconst (v := 0) dc_X8_copyFrom_126 (by decide) ?_
  refine ev_bipush (v := 6) dc_X8_copyFrom_127 (by decide) ?_
  refine ev_cpI dc_X8_copyFrom_129 mw_654 (wt hW i1 12 rfl rfl) (wt hW i0 12 rfl rfl) (Nat.le_of_ble_eq_true rfl) (Nat.le_of_ble_eq_true rfl) h (fun h => ?_)
  refine ev_aload_n dc_X8_copyFrom_132 rfl ?_
  refine ev_getR dc_X8_copyFrom_133 fi_X8_52 rfl i1 ?_
  refine ev_iconst (v := 0) dc_X8_copyFrom_136 (by decide) ?_
  refine ev_aload_n dc_X8_copyFrom_137 rfl ?_
  refine ev_getR dc_X8_copyFrom_138 fi_X8_52 rfl i0 ?_
  refine ev_iconst (v := 0) dc_X8_copyFrom_141 (by decide) ?_
  refine ev_bipush (v := 6) dc_X8_copyFrom_142 (by decide) ?_
  refine ev_cpI dc_X8_copyFrom_144 mw_654 (wt hW i1 13 rfl rfl) (wt hW i0 13 rfl rfl) (Nat.le_of_ble_eq_true rfl) (Nat.le_of_ble_eq_true rfl) h (fun h => ?_)
  refine ev_aload_n dc_X8_copyFrom_147 rfl ?_
  refine ev_getR dc_X8_copyFrom_148 fi_X8_55 rfl i1 ?_
  refine ev_iconst (v := 0) dc_X8_copyFrom_151 (by decide) ?_
  refine ev_aload_n dc_X8_copyFrom_152 rfl ?_
  refine ev_getR dc_X8_copyFrom_153 fi_X8_55 rfl i0 ?_
  refine ev_iconst (v := 0) dc_X8_copyFrom_156 (by decide) ?_
  refine ev_iconst (v := 4) dc_X8_copyFrom_157 (by decide) ?_
  refine ev_cpI dc_X8_copyFrom_158 mw_654 (wt hW i1 14 rfl rfl) (wt hW i0 14 rfl rfl) (Nat.le_of_ble_eq_true rfl) (Nat.le_of_ble_eq_true rfl) h (fun h => ?_)
  refine ev_aload_n dc_X8_copyFrom_161 rfl ?_
  refine ev_getR dc_X8_copyFrom_162 fi_X8_58 rfl i1 ?_
  refine ev_iconst (v := 0) dc_X8_copyFrom_165 (by decide) ?_
  refine ev_aload_n dc_X8_copyFrom_166 rfl ?_
  refine ev_getR dc_X8_copyFrom_167 fi_X8_58 rfl i0 ?_
  refine ev_iconst (v := 0) dc_X8_copyFrom_170 (by decide) ?_
  refine ev_iconst (v := 4) dc_X8_copyFrom_171 (by decide) ?_
  refine ev_cpI dc_X8_copyFrom_172 mw_654 (wt hW i1 15 rfl rfl) (wt hW i0 15 rfl rfl) (Nat.le_of_ble_eq_true rfl) (Nat.le_of_ble_eq_true rfl) h (fun h => ?_)
  refine ev_aload_n dc_X8_copyFrom_175 rfl ?_
  refine ev_getR dc_X8_copyFrom_176 fi_X8_61 rfl i1 ?_
  refine ev_iconst (v := 0) dc_X8_copyFrom_179 (by decide) ?_
  refine ev_aload_n dc_X8_copyFrom_180 rfl ?_
  refine ev_getR dc_X8_copyFrom_181 fi_X8_61 rfl i0 ?_
  refine ev_iconst (v := 0) dc_X8_copyFrom_184 (by decide) ?_
  refine ev_bipush (v := 6) dc_X8_copyFrom_185 (by decide) ?_
  refine ev_cpI dc_X8_copyFrom_187 mw_654 (wt hW i1 16 rfl rfl) (wt hW i0 16 rfl rfl) (Nat.le_of_ble_eq_true rfl) (Nat.le_of_ble_eq_true rfl) h (fun h => ?_)
  refine ev_aload_n dc_X8_copyFrom_190 rfl ?_
  refine ev_getR dc_X8_copyFrom_191 fi_X8_64 rfl i1 ?_
  refine ev_iconst (v := 0) dc_X8_copyFrom_194 (by decide) ?_
  refine ev_aload_n dc_X8_copyFrom_195 rfl ?_
  refine ev_getR dc_X8_copyFrom_196 fi_X8_64 rfl i0 ?_
  refine ev_iconst (v := 0) dc_X8_copyFrom_199 (by decide) ?_
  refine ev_bipush (v := 8) dc_X8_copyFrom_200 (by decide) ?_
  refine ev_cpI dc_X8_copyFrom_202 mw_654 (wt hW i1 17 rfl rfl) (wt hW i0 17 rfl rfl) (Nat.le_of_ble_eq_true rfl) (Nat.le_of_ble_eq_true rfl) h (fun h => ?_)
  cases h
  exact ev_vret dc_X8_copyFrom_205 rfl rfl rfl
theorem dc_X8_costsOf_0 : Dc miX8_costsOf 0 (.iconst 0) 1 1 := ⟨by decide +kernel, rfl⟩
theorem dc_X8_costsOf_1 : Dc miX8_costsOf 1 (.istore_n 2) 1 2 := ⟨by decide +kernel, rfl⟩
theorem dc_X8_costsOf_2 : Dc miX8_costsOf 2 (.iconst 0) 1 3 := ⟨by decide +kernel, rfl⟩
theorem dc_X8_costsOf_3 : Dc miX8_costsOf 3 (.istore_n 3) 1 4 := ⟨by decide +kernel, rfl⟩
theorem dc_X8_costsOf_4 : Dc miX8_costsOf 4 (.iload_n 3) 1 5 := ⟨by decide +kernel, rfl⟩
theorem dc_X8_costsOf_5 : Dc miX8_costsOf 5 (.aload_n 0) 1 6 := ⟨by decide +kernel, rfl⟩
theorem dc_X8_costsOf_6 : Dc miX8_costsOf 6 (.getfield 21) 3 9 := ⟨by decide +kernel, rfl⟩
theorem dc_X8_costsOf_9 : Dc miX8_costsOf 9 (.if_icmp .ge 32) 3 12 := ⟨by decide +kernel, rfl⟩
theorem dc_X8_costsOf_12 : Dc miX8_costsOf 12 (.iload_n 2) 1 13 := ⟨by decide +kernel, rfl⟩
theorem dc_X8_costsOf_13 : Dc miX8_costsOf 13 (.iload_n 1) 1 14 := ⟨by decide +kernel, rfl⟩
theorem dc_X8_costsOf_14 : Dc miX8_costsOf 14 (.iload_n 3) 1 15 := ⟨by decide +kernel, rfl⟩
theorem dc_X8_costsOf_15 : Dc miX8_costsOf 15 (.invokestatic 77) 3 18 := ⟨by decide +kernel, rfl⟩
theorem dc_X8_costsOf_18 : Dc miX8_costsOf 18 (.ifCond .eq 14) 3 21 := ⟨by decide +kernel, rfl⟩
theorem dc_X8_costsOf_21 : Dc miX8_costsOf 21 (.aload_n 0) 1 22 := ⟨by decide +kernel, rfl⟩
theorem dc_X8_costsOf_22 : Dc miX8_costsOf 22 (.getfield 58) 3 25 := ⟨by decide +kernel, rfl⟩
theorem dc_X8_costsOf_25 : Dc miX8_costsOf 25 (.iload_n 3) 1 26 := ⟨by decide +kernel, rfl⟩
theorem dc_X8_costsOf_26 : Dc miX8_costsOf 26 (.invokestatic 73) 3 29 := ⟨by decide +kernel, rfl⟩
theorem dc_X8_costsOf_29 : Dc miX8_costsOf 29 (.goto 4) 3 32 := ⟨by decide +kernel, rfl⟩
theorem dc_X8_costsOf_32 : Dc miX8_costsOf 32 (.iconst 0) 1 33 := ⟨by decide +kernel, rfl⟩
theorem dc_X8_costsOf_33 : Dc miX8_costsOf 33 (.iadd) 1 34 := ⟨by decide +kernel, rfl⟩
theorem dc_X8_costsOf_34 : Dc miX8_costsOf 34 (.istore_n 2) 1 35 := ⟨by decide +kernel, rfl⟩
theorem dc_X8_costsOf_35 : Dc miX8_costsOf 35 (.iinc 3 1) 3 38 := ⟨by decide +kernel, rfl⟩
theorem dc_X8_costsOf_38 : Dc miX8_costsOf 38 (.goto (-34)) 3 41 := ⟨by decide +kernel, rfl⟩
theorem dc_X8_costsOf_41 : Dc miX8_costsOf 41 (.iload_n 2) 1 42 := ⟨by decide +kernel, rfl⟩
theorem dc_X8_costsOf_42 : Dc miX8_costsOf 42 (.ireturn) 1 43 := ⟨by decide +kernel, rfl⟩
def fX8_costsOf_b4 (N : Nat) (G : pG) (a0 : Nat) (a1 : Int32) (σ : pS) : (Int32 × Int32) → Option (Int32) := lp (fun (k4 : Int32 × Int32 → Option (Int32)) (b : Int32 × Int32) => if (σ.1 a0 3) ≤ b.2 then (some b.1) else ((fX11_has N G a1 b.2 σ).bind (fun q1 => if q1 = 0 then (k4 (b.1 + (0 : Int32), b.2 + (1 : Int32))) else ((fX11_at N G (pR G a0 15) b.2 σ).bind (fun q2 => k4 (b.1 + q2, b.2 + (1 : Int32))))))) N
set_option maxRecDepth 100000 in
set_option maxHeartbeats 4000000 in
theorem tX8_costsOf_b4 {N : Nat} {G : pG} {SK : Nat → Nat} {a0 : Nat} {a1 : Int32} {σ : pS} {b : Int32 × Int32} {r : Int32} (hW : WT G) (i0 : Is G a0 7) (h : fX8_costsOf_b4 N G a0 a1 σ b = some r) : Ev miX8_costsOf (2, 0, 0) G (Zp G (some (.int r)) σ) SK (0, 0) 4 [some (.ref a0), some (.int a1), some (.int b.1), some (.int b.2)] [] σ := by
  unfold fX8_costsOf_b4 at h
  refine lp_ind (P := fun b r9 => r9 = r → Ev miX8_costsOf (2, 0, 0) G (Zp G (some (.int r)) σ) SK (0, 0) 4 [some (.ref a0), some (.int a1), some (.int b.1), some (.int b.2)] [] σ) (fun k4 b r9 ih h9 e9 => ?_) N b r h rfl
  clear h
  subst e9
  have h := h9
  clear h9
  have hk4 : ∀ b : Int32 × Int32, k4 b = some r9 → Ev miX8_costsOf (2, 0, 0) G (Zp G (some (.int r9)) σ) SK (0, 0) 4 [some (.ref a0), some (.int a1), some (.int b.1), some (.int b.2)] [] σ := fun b hb => ih b r9 hb rfl
  clear ih
  obtain ⟨x2, x3⟩ := b
  dsimp only at h ⊢
  refine ev_iload_n dc_X8_costsOf_4 rfl ?_
  refine ev_aload_n dc_X8_costsOf_5 rfl ?_
  refine ev_getI dc_X8_costsOf_6 fi_X8_21 rfl i0 ?_
  refine ev_icmp_ge (tgt := 41) dc_X8_costsOf_9 (by decide) h (fun h => ?_) (fun h => ?_)
  · refine ev_iload_n dc_X8_costsOf_41 rfl ?_
    cases h
    exact ev_iret dc_X8_costsOf_42 rfl rfl rfl
  · refine ev_iload_n dc_X8_costsOf_12 rfl ?_
    refine ev_iload_n dc_X8_costsOf_13 rfl ?_
    refine ev_iload_n dc_X8_costsOf_14 rfl ?_
    obtain ⟨q1, hq1, h⟩ := Option.bind_eq_some_iff.mp h
    refine ev_callN (av := [.int a1, .int x3]) (st := [.int x2]) (st1 := [.int q1, .int x2]) (host := "UnaskedName") dc_X8_costsOf_15 (tX11_has hW hq1) (List.mem_of_getElem? (i := 16) rfl) cs_X11_has rfl rfl rfl (Nat.le_of_ble_eq_true rfl) (Nat.le_of_ble_eq_true rfl) ⟨Nat.le_refl _, Nat.le_refl _⟩ ?_
    refine ev_if_eq (tgt := 32) dc_X8_costsOf_18 (by decide) h (fun h => ?_) (fun h => ?_)
    · refine ev_iconst (v := 0) dc_X8_costsOf_32 (by decide) ?_
      refine ev_iadd dc_X8_costsOf_33 ?_
      refine ev_istore_n (lv' := [some (.ref a0), some (.int a1), some (.int (x2 + (0 : Int32))), some (.int x3)]) dc_X8_costsOf_34 rfl (by decide) rfl ?_
      refine ev_iinc (v := 1) (lv' := [some (.ref a0), some (.int a1), some (.int (x2 + (0 : Int32))), some (.int (x3 + (1 : Int32)))]) dc_X8_costsOf_35 rfl (by decide) rfl (by decide) rfl ?_
      refine ev_goto (tgt := 4) dc_X8_costsOf_38 (by decide) ?_
      exact ev_sub (hk4 (x2 + (0 : Int32), x3 + (1 : Int32)) h) (And.intro rfl (And.intro rfl (And.intro rfl (And.intro rfl trivial))))
    · refine ev_aload_n dc_X8_costsOf_21 rfl ?_
      refine ev_getR dc_X8_costsOf_22 fi_X8_58 rfl i0 ?_
      refine ev_iload_n dc_X8_costsOf_25 rfl ?_
      obtain ⟨q2, hq2, h⟩ := Option.bind_eq_some_iff.mp h
      refine ev_callN (av := [.ref (pR G a0 15), .int x3]) (st := [.int x2]) (st1 := [.int q2, .int x2]) (host := "UnaskedName") dc_X8_costsOf_26 (tX11_at hW (wt hW i0 15 rfl rfl) hq2) (List.mem_of_getElem? (i := 15) rfl) cs_X11_at rfl rfl rfl (Nat.le_of_ble_eq_true rfl) (Nat.le_of_ble_eq_true rfl) ⟨Nat.le_refl _, Nat.le_refl _⟩ ?_
      refine ev_goto (tgt := 33) dc_X8_costsOf_29 (by decide) ?_
      refine ev_iadd dc_X8_costsOf_33 ?_
      refine ev_istore_n (lv' := [some (.ref a0), some (.int a1), some (.int (x2 + q2)), some (.int x3)]) dc_X8_costsOf_34 rfl (by decide) rfl ?_
      refine ev_iinc (v := 1) (lv' := [some (.ref a0), some (.int a1), some (.int (x2 + q2)), some (.int (x3 + (1 : Int32)))]) dc_X8_costsOf_35 rfl (by decide) rfl (by decide) rfl ?_
      refine ev_goto (tgt := 4) dc_X8_costsOf_38 (by decide) ?_
      exact ev_sub (hk4 (x2 + q2, x3 + (1 : Int32)) h) (And.intro rfl (And.intro rfl (And.intro rfl (And.intro rfl trivial))))
def fX8_costsOf (N : Nat) (G : pG) (a0 : Nat) (a1 : Int32) (σ : pS) : Option (Int32) := fX8_costsOf_b4 N G a0 a1 σ ((0 : Int32), (0 : Int32))
set_option maxRecDepth 100000 in
set_option maxHeartbeats 4000000 in
theorem tX8_costsOf {N : Nat} {G : pG} {SK : Nat → Nat} {a0 : Nat} {a1 : Int32} {σ : pS} {r : Int32} (hW : WT G) (i0 : Is G a0 7) (h : fX8_costsOf N G a0 a1 σ = some r) : Dn miX8_costsOf yX8_costsOf 2 G SK [.ref a0, .int a1] σ (some (.int r)) σ := by
  unfold fX8_costsOf at h
  refine dn_of (lv := [some (.ref a0), some (.int a1), none, none]) (by decide) rfl rfl (Nat.le_of_ble_eq_true rfl) rfl ?_
  refine ev_iconst (v := 0) dc_X8_costsOf_0 (by decide) ?_
  refine ev_istore_n (lv' := [some (.ref a0), some (.int a1), some (.int (0 : Int32)), none]) dc_X8_costsOf_1 rfl (by decide) rfl ?_
  refine ev_iconst (v := 0) dc_X8_costsOf_2 (by decide) ?_
  refine ev_istore_n (lv' := [some (.ref a0), some (.int a1), some (.int (0 : Int32)), some (.int (0 : Int32))]) dc_X8_costsOf_3 rfl (by decide) rfl ?_
  exact ev_sub (tX8_costsOf_b4 (b := ((0 : Int32), (0 : Int32))) hW i0 h) (And.intro rfl (And.intro rfl (And.intro rfl (And.intro rfl trivial))))
theorem dc_X8_creditOf_0 : Dc miX8_creditOf 0 (.iconst 0) 1 1 := ⟨by decide +kernel, rfl⟩
theorem dc_X8_creditOf_1 : Dc miX8_creditOf 1 (.istore_n 2) 1 2 := ⟨by decide +kernel, rfl⟩
theorem dc_X8_creditOf_2 : Dc miX8_creditOf 2 (.iconst 0) 1 3 := ⟨by decide +kernel, rfl⟩
theorem dc_X8_creditOf_3 : Dc miX8_creditOf 3 (.istore_n 3) 1 4 := ⟨by decide +kernel, rfl⟩
theorem dc_X8_creditOf_4 : Dc miX8_creditOf 4 (.iload_n 3) 1 5 := ⟨by decide +kernel, rfl⟩
theorem dc_X8_creditOf_5 : Dc miX8_creditOf 5 (.aload_n 0) 1 6 := ⟨by decide +kernel, rfl⟩
theorem dc_X8_creditOf_6 : Dc miX8_creditOf 6 (.getfield 15) 3 9 := ⟨by decide +kernel, rfl⟩
theorem dc_X8_creditOf_9 : Dc miX8_creditOf 9 (.if_icmp .ge 32) 3 12 := ⟨by decide +kernel, rfl⟩
theorem dc_X8_creditOf_12 : Dc miX8_creditOf 12 (.iload_n 2) 1 13 := ⟨by decide +kernel, rfl⟩
theorem dc_X8_creditOf_13 : Dc miX8_creditOf 13 (.iload_n 1) 1 14 := ⟨by decide +kernel, rfl⟩
theorem dc_X8_creditOf_14 : Dc miX8_creditOf 14 (.iload_n 3) 1 15 := ⟨by decide +kernel, rfl⟩
theorem dc_X8_creditOf_15 : Dc miX8_creditOf 15 (.invokestatic 77) 3 18 := ⟨by decide +kernel, rfl⟩
theorem dc_X8_creditOf_18 : Dc miX8_creditOf 18 (.ifCond .eq 14) 3 21 := ⟨by decide +kernel, rfl⟩
theorem dc_X8_creditOf_21 : Dc miX8_creditOf 21 (.aload_n 0) 1 22 := ⟨by decide +kernel, rfl⟩
theorem dc_X8_creditOf_22 : Dc miX8_creditOf 22 (.getfield 43) 3 25 := ⟨by decide +kernel, rfl⟩
theorem dc_X8_creditOf_25 : Dc miX8_creditOf 25 (.iload_n 3) 1 26 := ⟨by decide +kernel, rfl⟩
theorem dc_X8_creditOf_26 : Dc miX8_creditOf 26 (.invokestatic 73) 3 29 := ⟨by decide +kernel, rfl⟩
theorem dc_X8_creditOf_29 : Dc miX8_creditOf 29 (.goto 4) 3 32 := ⟨by decide +kernel, rfl⟩
theorem dc_X8_creditOf_32 : Dc miX8_creditOf 32 (.iconst 0) 1 33 := ⟨by decide +kernel, rfl⟩
theorem dc_X8_creditOf_33 : Dc miX8_creditOf 33 (.iadd) 1 34 := ⟨by decide +kernel, rfl⟩
theorem dc_X8_creditOf_34 : Dc miX8_creditOf 34 (.istore_n 2) 1 35 := ⟨by decide +kernel, rfl⟩
theorem dc_X8_creditOf_35 : Dc miX8_creditOf 35 (.iinc 3 1) 3 38 := ⟨by decide +kernel, rfl⟩
theorem dc_X8_creditOf_38 : Dc miX8_creditOf 38 (.goto (-34)) 3 41 := ⟨by decide +kernel, rfl⟩
theorem dc_X8_creditOf_41 : Dc miX8_creditOf 41 (.iload_n 2) 1 42 := ⟨by decide +kernel, rfl⟩
theorem dc_X8_creditOf_42 : Dc miX8_creditOf 42 (.ireturn) 1 43 := ⟨by decide +kernel, rfl⟩
def fX8_creditOf_b4 (N : Nat) (G : pG) (a0 : Nat) (a1 : Int32) (σ : pS) : (Int32 × Int32) → Option (Int32) := lp (fun (k4 : Int32 × Int32 → Option (Int32)) (b : Int32 × Int32) => if (σ.1 a0 1) ≤ b.2 then (some b.1) else ((fX11_has N G a1 b.2 σ).bind (fun q1 => if q1 = 0 then (k4 (b.1 + (0 : Int32), b.2 + (1 : Int32))) else ((fX11_at N G (pR G a0 10) b.2 σ).bind (fun q2 => k4 (b.1 + q2, b.2 + (1 : Int32))))))) N
set_option maxRecDepth 100000 in
set_option maxHeartbeats 4000000 in
theorem tX8_creditOf_b4 {N : Nat} {G : pG} {SK : Nat → Nat} {a0 : Nat} {a1 : Int32} {σ : pS} {b : Int32 × Int32} {r : Int32} (hW : WT G) (i0 : Is G a0 7) (h : fX8_creditOf_b4 N G a0 a1 σ b = some r) : Ev miX8_creditOf (2, 0, 0) G (Zp G (some (.int r)) σ) SK (0, 0) 4 [some (.ref a0), some (.int a1), some (.int b.1), some (.int b.2)] [] σ := by
  unfold fX8_creditOf_b4 at h
  refine lp_ind (P := fun b r9 => r9 = r → Ev miX8_creditOf (2, 0, 0) G (Zp G (some (.int r)) σ) SK (0, 0) 4 [some (.ref a0), some (.int a1), some (.int b.1), some (.int b.2)] [] σ) (fun k4 b r9 ih h9 e9 => ?_) N b r h rfl
  clear h
  subst e9
  have h := h9
  clear h9
  have hk4 : ∀ b : Int32 × Int32, k4 b = some r9 → Ev miX8_creditOf (2, 0, 0) G (Zp G (some (.int r9)) σ) SK (0, 0) 4 [some (.ref a0), some (.int a1), some (.int b.1), some (.int b.2)] [] σ := fun b hb => ih b r9 hb rfl
  clear ih
  obtain ⟨x2, x3⟩ := b
  dsimp only at h ⊢
  refine ev_iload_n dc_X8_creditOf_4 rfl ?_
  refine ev_aload_n dc_X8_creditOf_5 rfl ?_
  refine ev_getI dc_X8_creditOf_6 fi_X8_15 rfl i0 ?_
  refine ev_icmp_ge (tgt := 41) dc_X8_creditOf_9 (by decide) h (fun h => ?_) (fun h => ?_)
  · refine ev_iload_n dc_X8_creditOf_41 rfl ?_
    cases h
    exact ev_iret dc_X8_creditOf_42 rfl rfl rfl
  · refine ev_iload_n dc_X8_creditOf_12 rfl ?_
    refine ev_iload_n dc_X8_creditOf_13 rfl ?_
    refine ev_iload_n dc_X8_creditOf_14 rfl ?_
    obtain ⟨q1, hq1, h⟩ := Option.bind_eq_some_iff.mp h
    refine ev_callN (av := [.int a1, .int x3]) (st := [.int x2]) (st1 := [.int q1, .int x2]) (host := "UnaskedName") dc_X8_creditOf_15 (tX11_has hW hq1) (List.mem_of_getElem? (i := 16) rfl) cs_X11_has rfl rfl rfl (Nat.le_of_ble_eq_true rfl) (Nat.le_of_ble_eq_true rfl) ⟨Nat.le_refl _, Nat.le_refl _⟩ ?_
    refine ev_if_eq (tgt := 32) dc_X8_creditOf_18 (by decide) h (fun h => ?_) (fun h => ?_)
    · refine ev_iconst (v := 0) dc_X8_creditOf_32 (by decide) ?_
      refine ev_iadd dc_X8_creditOf_33 ?_
      refine ev_istore_n (lv' := [some (.ref a0), some (.int a1), some (.int (x2 + (0 : Int32))), some (.int x3)]) dc_X8_creditOf_34 rfl (by decide) rfl ?_
      refine ev_iinc (v := 1) (lv' := [some (.ref a0), some (.int a1), some (.int (x2 + (0 : Int32))), some (.int (x3 + (1 : Int32)))]) dc_X8_creditOf_35 rfl (by decide) rfl (by decide) rfl ?_
      refine ev_goto (tgt := 4) dc_X8_creditOf_38 (by decide) ?_
      exact ev_sub (hk4 (x2 + (0 : Int32), x3 + (1 : Int32)) h) (And.intro rfl (And.intro rfl (And.intro rfl (And.intro rfl trivial))))
    · refine ev_aload_n dc_X8_creditOf_21 rfl ?_
      refine ev_getR dc_X8_creditOf_22 fi_X8_43 rfl i0 ?_
      refine ev_iload_n dc_X8_creditOf_25 rfl ?_
      obtain ⟨q2, hq2, h⟩ := Option.bind_eq_some_iff.mp h
      refine ev_callN (av := [.ref (pR G a0 10), .int x3]) (st := [.int x2]) (st1 := [.int q2, .int x2]) (host := "UnaskedName") dc_X8_creditOf_26 (tX11_at hW (wt hW i0 10 rfl rfl) hq2) (List.mem_of_getElem? (i := 15) rfl) cs_X11_at rfl rfl rfl (Nat.le_of_ble_eq_true rfl) (Nat.le_of_ble_eq_true rfl) ⟨Nat.le_refl _, Nat.le_refl _⟩ ?_
      refine ev_goto (tgt := 33) dc_X8_creditOf_29 (by decide) ?_
      refine ev_iadd dc_X8_creditOf_33 ?_
      refine ev_istore_n (lv' := [some (.ref a0), some (.int a1), some (.int (x2 + q2)), some (.int x3)]) dc_X8_creditOf_34 rfl (by decide) rfl ?_
      refine ev_iinc (v := 1) (lv' := [some (.ref a0), some (.int a1), some (.int (x2 + q2)), some (.int (x3 + (1 : Int32)))]) dc_X8_creditOf_35 rfl (by decide) rfl (by decide) rfl ?_
      refine ev_goto (tgt := 4) dc_X8_creditOf_38 (by decide) ?_
      exact ev_sub (hk4 (x2 + q2, x3 + (1 : Int32)) h) (And.intro rfl (And.intro rfl (And.intro rfl (And.intro rfl trivial))))
def fX8_creditOf (N : Nat) (G : pG) (a0 : Nat) (a1 : Int32) (σ : pS) : Option (Int32) := fX8_creditOf_b4 N G a0 a1 σ ((0 : Int32), (0 : Int32))
set_option maxRecDepth 100000 in
set_option maxHeartbeats 4000000 in
theorem tX8_creditOf {N : Nat} {G : pG} {SK : Nat → Nat} {a0 : Nat} {a1 : Int32} {σ : pS} {r : Int32} (hW : WT G) (i0 : Is G a0 7) (h : fX8_creditOf N G a0 a1 σ = some r) : Dn miX8_creditOf yX8_creditOf 2 G SK [.ref a0, .int a1] σ (some (.int r)) σ := by
  unfold fX8_creditOf at h
  refine dn_of (lv := [some (.ref a0), some (.int a1), none, none]) (by decide) rfl rfl (Nat.le_of_ble_eq_true rfl) rfl ?_
  refine ev_iconst (v := 0) dc_X8_creditOf_0 (by decide) ?_
  refine ev_istore_n (lv' := [some (.ref a0), some (.int a1), some (.int (0 : Int32)), none]) dc_X8_creditOf_1 rfl (by decide) rfl ?_
  refine ev_iconst (v := 0) dc_X8_creditOf_2 (by decide) ?_
  refine ev_istore_n (lv' := [some (.ref a0), some (.int a1), some (.int (0 : Int32)), some (.int (0 : Int32))]) dc_X8_creditOf_3 rfl (by decide) rfl ?_
  exact ev_sub (tX8_creditOf_b4 (b := ((0 : Int32), (0 : Int32))) hW i0 h) (And.intro rfl (And.intro rfl (And.intro rfl (And.intro rfl trivial))))
theorem dc_X8_crumbsFrom_0 : Dc miX8_crumbsFrom 0 (.iload_n 1) 1 1 := ⟨by decide +kernel, rfl⟩
theorem dc_X8_crumbsFrom_1 : Dc miX8_crumbsFrom 1 (.invokestatic 81) 3 4 := ⟨by decide +kernel, rfl⟩
theorem dc_X8_crumbsFrom_4 : Dc miX8_crumbsFrom 4 (.iconst 2) 1 5 := ⟨by decide +kernel, rfl⟩
theorem dc_X8_crumbsFrom_5 : Dc miX8_crumbsFrom 5 (.if_icmp .ge 5) 3 8 := ⟨by decide +kernel, rfl⟩
theorem dc_X8_crumbsFrom_8 : Dc miX8_crumbsFrom 8 (.iconst 0) 1 9 := ⟨by decide +kernel, rfl⟩
theorem dc_X8_crumbsFrom_9 : Dc miX8_crumbsFrom 9 (.ireturn) 1 10 := ⟨by decide +kernel, rfl⟩
theorem dc_X8_crumbsFrom_10 : Dc miX8_crumbsFrom 10 (.iload_n 2) 1 11 := ⟨by decide +kernel, rfl⟩
theorem dc_X8_crumbsFrom_11 : Dc miX8_crumbsFrom 11 (.bipush 6) 2 13 := ⟨by decide +kernel, rfl⟩
theorem dc_X8_crumbsFrom_13 : Dc miX8_crumbsFrom 13 (.if_icmp .lt 7) 3 16 := ⟨by decide +kernel, rfl⟩
theorem dc_X8_crumbsFrom_16 : Dc miX8_crumbsFrom 16 (.sipush 1000) 3 19 := ⟨by decide +kernel, rfl⟩
theorem dc_X8_crumbsFrom_19 : Dc miX8_crumbsFrom 19 (.ireturn) 1 20 := ⟨by decide +kernel, rfl⟩
theorem dc_X8_crumbsFrom_20 : Dc miX8_crumbsFrom 20 (.sipush 1000) 3 23 := ⟨by decide +kernel, rfl⟩
theorem dc_X8_crumbsFrom_23 : Dc miX8_crumbsFrom 23 (.istore_n 3) 1 24 := ⟨by decide +kernel, rfl⟩
theorem dc_X8_crumbsFrom_24 : Dc miX8_crumbsFrom 24 (.iconst 0) 1 25 := ⟨by decide +kernel, rfl⟩
theorem dc_X8_crumbsFrom_25 : Dc miX8_crumbsFrom 25 (.istore 4) 2 27 := ⟨by decide +kernel, rfl⟩
theorem dc_X8_crumbsFrom_27 : Dc miX8_crumbsFrom 27 (.iload 4) 2 29 := ⟨by decide +kernel, rfl⟩
theorem dc_X8_crumbsFrom_29 : Dc miX8_crumbsFrom 29 (.bipush 6) 2 31 := ⟨by decide +kernel, rfl⟩
theorem dc_X8_crumbsFrom_31 : Dc miX8_crumbsFrom 31 (.if_icmp .ge 69) 3 34 := ⟨by decide +kernel, rfl⟩
theorem dc_X8_crumbsFrom_34 : Dc miX8_crumbsFrom 34 (.iload_n 1) 1 35 := ⟨by decide +kernel, rfl⟩
theorem dc_X8_crumbsFrom_35 : Dc miX8_crumbsFrom 35 (.aload_n 0) 1 36 := ⟨by decide +kernel, rfl⟩
theorem dc_X8_crumbsFrom_36 : Dc miX8_crumbsFrom 36 (.getfield 46) 3 39 := ⟨by decide +kernel, rfl⟩
theorem dc_X8_crumbsFrom_39 : Dc miX8_crumbsFrom 39 (.iload 4) 2 41 := ⟨by decide +kernel, rfl⟩
theorem dc_X8_crumbsFrom_41 : Dc miX8_crumbsFrom 41 (.invokestatic 73) 3 44 := ⟨by decide +kernel, rfl⟩
theorem dc_X8_crumbsFrom_44 : Dc miX8_crumbsFrom 44 (.iand) 1 45 := ⟨by decide +kernel, rfl⟩
theorem dc_X8_crumbsFrom_45 : Dc miX8_crumbsFrom 45 (.istore 5) 2 47 := ⟨by decide +kernel, rfl⟩
theorem dc_X8_crumbsFrom_47 : Dc miX8_crumbsFrom 47 (.iload 5) 2 49 := ⟨by decide +kernel, rfl⟩
theorem dc_X8_crumbsFrom_49 : Dc miX8_crumbsFrom 49 (.ifCond .eq 45) 3 52 := ⟨by decide +kernel, rfl⟩
theorem dc_X8_crumbsFrom_52 : Dc miX8_crumbsFrom 52 (.iload 5) 2 54 := ⟨by decide +kernel, rfl⟩
theorem dc_X8_crumbsFrom_54 : Dc miX8_crumbsFrom 54 (.iload_n 1) 1 55 := ⟨by decide +kernel, rfl⟩
theorem dc_X8_crumbsFrom_55 : Dc miX8_crumbsFrom 55 (.if_icmp .eq 39) 3 58 := ⟨by decide +kernel, rfl⟩
theorem dc_X8_crumbsFrom_58 : Dc miX8_crumbsFrom 58 (.aload_n 0) 1 59 := ⟨by decide +kernel, rfl⟩
theorem dc_X8_crumbsFrom_59 : Dc miX8_crumbsFrom 59 (.iload 5) 2 61 := ⟨by decide +kernel, rfl⟩
theorem dc_X8_crumbsFrom_61 : Dc miX8_crumbsFrom 61 (.iload_n 2) 1 62 := ⟨by decide +kernel, rfl⟩
theorem dc_X8_crumbsFrom_62 : Dc miX8_crumbsFrom 62 (.iconst 1) 1 63 := ⟨by decide +kernel, rfl⟩
theorem dc_X8_crumbsFrom_63 : Dc miX8_crumbsFrom 63 (.iadd) 1 64 := ⟨by decide +kernel, rfl⟩
theorem dc_X8_crumbsFrom_64 : Dc miX8_crumbsFrom 64 (.invokevirtual 100) 3 67 := ⟨by decide +kernel, rfl⟩
theorem dc_X8_crumbsFrom_67 : Dc miX8_crumbsFrom 67 (.aload_n 0) 1 68 := ⟨by decide +kernel, rfl⟩
theorem dc_X8_crumbsFrom_68 : Dc miX8_crumbsFrom 68 (.iload_n 1) 1 69 := ⟨by decide +kernel, rfl⟩
theorem dc_X8_crumbsFrom_69 : Dc miX8_crumbsFrom 69 (.iload 5) 2 71 := ⟨by decide +kernel, rfl⟩
theorem dc_X8_crumbsFrom_71 : Dc miX8_crumbsFrom 71 (.iconst (-1)) 1 72 := ⟨by decide +kernel, rfl⟩
theorem dc_X8_crumbsFrom_72 : Dc miX8_crumbsFrom 72 (.ixor) 1 73 := ⟨by decide +kernel, rfl⟩
theorem dc_X8_crumbsFrom_73 : Dc miX8_crumbsFrom 73 (.iand) 1 74 := ⟨by decide +kernel, rfl⟩
theorem dc_X8_crumbsFrom_74 : Dc miX8_crumbsFrom 74 (.iload_n 2) 1 75 := ⟨by decide +kernel, rfl⟩
theorem dc_X8_crumbsFrom_75 : Dc miX8_crumbsFrom 75 (.iconst 1) 1 76 := ⟨by decide +kernel, rfl⟩
theorem dc_X8_crumbsFrom_76 : Dc miX8_crumbsFrom 76 (.iadd) 1 77 := ⟨by decide +kernel, rfl⟩
theorem dc_X8_crumbsFrom_77 : Dc miX8_crumbsFrom 77 (.invokevirtual 100) 3 80 := ⟨by decide +kernel, rfl⟩
theorem dc_X8_crumbsFrom_80 : Dc miX8_crumbsFrom 80 (.invokestatic 87) 3 83 := ⟨by decide +kernel, rfl⟩
theorem dc_X8_crumbsFrom_83 : Dc miX8_crumbsFrom 83 (.istore 6) 2 85 := ⟨by decide +kernel, rfl⟩
theorem dc_X8_crumbsFrom_85 : Dc miX8_crumbsFrom 85 (.iload_n 3) 1 86 := ⟨by decide +kernel, rfl⟩
theorem dc_X8_crumbsFrom_86 : Dc miX8_crumbsFrom 86 (.iconst 1) 1 87 := ⟨by decide +kernel, rfl⟩
theorem dc_X8_crumbsFrom_87 : Dc miX8_crumbsFrom 87 (.iload 6) 2 89 := ⟨by decide +kernel, rfl⟩
theorem dc_X8_crumbsFrom_89 : Dc miX8_crumbsFrom 89 (.iadd) 1 90 := ⟨by decide +kernel, rfl⟩
theorem dc_X8_crumbsFrom_90 : Dc miX8_crumbsFrom 90 (.invokestatic 103) 3 93 := ⟨by decide +kernel, rfl⟩
theorem dc_X8_crumbsFrom_93 : Dc miX8_crumbsFrom 93 (.istore_n 3) 1 94 := ⟨by decide +kernel, rfl⟩
theorem dc_X8_crumbsFrom_94 : Dc miX8_crumbsFrom 94 (.iinc 4 1) 3 97 := ⟨by decide +kernel, rfl⟩
theorem dc_X8_crumbsFrom_97 : Dc miX8_crumbsFrom 97 (.goto (-70)) 3 100 := ⟨by decide +kernel, rfl⟩
theorem dc_X8_crumbsFrom_100 : Dc miX8_crumbsFrom 100 (.iload_n 3) 1 101 := ⟨by decide +kernel, rfl⟩
theorem dc_X8_crumbsFrom_101 : Dc miX8_crumbsFrom 101 (.ireturn) 1 102 := ⟨by decide +kernel, rfl⟩
def fX8_crumbsFrom_b27 (N : Nat) (G : pG) (rc : Nat × Int32 × Int32 × pS → Option (Int32)) (a0 : Nat) (a1 : Int32) (a2 : Int32) (σ : pS) : (Int32 × Int32) → Option (Int32) := lp (fun (k27 : Int32 × Int32 → Option (Int32)) (b : Int32 × Int32) => if (6 : Int32) ≤ b.2 then (some b.1) else ((fX11_at N G (pR G a0 11) b.2 σ).bind (fun q1 => if (a1 &&& q1) = 0 then (k27 (b.1, b.2 + (1 : Int32))) else (if (a1 &&& q1) = a1 then (k27 (b.1, b.2 + (1 : Int32))) else ((rc (a0, a1 &&& q1, a2 + (1 : Int32), σ)).bind (fun q2 => (rc (a0, a1 &&& ((a1 &&& q1) ^^^ (-1 : Int32)), a2 + (1 : Int32), σ)).bind (fun q3 => k27 (jmin b.1 ((1 : Int32) + (jmax q2 q3)), b.2 + (1 : Int32))))))))) N
set_option maxRecDepth 100000 in
set_option maxHeartbeats 4000000 in
theorem tX8_crumbsFrom_b27 {N : Nat} {G : pG} {SK : Nat → Nat} {rc : Nat × Int32 × Int32 × pS → Option (Int32)} {d0 : Nat} {a0 : Nat} {a1 : Int32} {a2 : Int32} {σ : pS} {b : Int32 × Int32} {r : Int32} (hW : WT G) (hrc : ∀ (b : Nat × Int32 × Int32 × pS), Is G b.1 7 → ∀ (r : Int32), rc b = some r → Dn miX8_crumbsFrom yX8_crumbsFrom d0 G SK [.ref b.1, .int b.2.1, .int b.2.2.1] b.2.2.2 (some (.int r)) b.2.2.2) (i0 : Is G a0 7) (h : fX8_crumbsFrom_b27 N G rc a0 a1 a2 σ b = some r) : Ev miX8_crumbsFrom (d0 + 2, 0, 0) G (Zp G (some (.int r)) σ) SK (0, 0) 27 [some (.ref a0), some (.int a1), some (.int a2), some (.int b.1), some (.int b.2), none, none] [] σ := by
  unfold fX8_crumbsFrom_b27 at h
  refine lp_ind (P := fun b r9 => r9 = r → Ev miX8_crumbsFrom (d0 + 2, 0, 0) G (Zp G (some (.int r)) σ) SK (0, 0) 27 [some (.ref a0), some (.int a1), some (.int a2), some (.int b.1), some (.int b.2), none, none] [] σ) (fun k27 b r9 ih h9 e9 => ?_) N b r h rfl
  clear h
  subst e9
  have h := h9
  clear h9
  have hk27 : ∀ b : Int32 × Int32, k27 b = some r9 → Ev miX8_crumbsFrom (d0 + 2, 0, 0) G (Zp G (some (.int r9)) σ) SK (0, 0) 27 [some (.ref a0), some (.int a1), some (.int a2), some (.int b.1), some (.int b.2), none, none] [] σ := fun b hb => ih b r9 hb rfl
  clear ih
  obtain ⟨x3, x4⟩ := b
  dsimp only at h ⊢
  refine ev_iload dc_X8_crumbsFrom_27 rfl ?_
  refine ev_bipush (v := 6) dc_X8_crumbsFrom_29 (by decide) ?_
  refine ev_icmp_ge (tgt := 100) dc_X8_crumbsFrom_31 (by decide) h (fun h => ?_) (fun h => ?_)
  · refine ev_iload_n dc_X8_crumbsFrom_100 rfl ?_
    cases h
    exact ev_iret dc_X8_crumbsFrom_101 rfl rfl rfl
  · refine ev_iload_n dc_X8_crumbsFrom_34 rfl ?_
    refine ev_aload_n dc_X8_crumbsFrom_35 rfl ?_
    refine ev_getR dc_X8_crumbsFrom_36 fi_X8_46 rfl i0 ?_
    refine ev_iload dc_X8_crumbsFrom_39 rfl ?_
    obtain ⟨q1, hq1, h⟩ := Option.bind_eq_some_iff.mp h
    refine ev_callN (av := [.ref (pR G a0 11), .int x4]) (st := [.int a1]) (st1 := [.int q1, .int a1]) (host := "UnaskedName") dc_X8_crumbsFrom_41 (tX11_at hW (wt hW i0 11 rfl rfl) hq1) (List.mem_of_getElem? (i := 15) rfl) cs_X11_at rfl rfl rfl (Nat.le_of_ble_eq_true rfl) (show _ ≤ d0 + 2 from by omega) ⟨Nat.le_refl _, Nat.le_refl _⟩ ?_
    refine ev_iand dc_X8_crumbsFrom_44 ?_
    refine ev_istore (lv' := [some (.ref a0), some (.int a1), some (.int a2), some (.int x3), some (.int x4), some (.int (a1 &&& q1)), none]) dc_X8_crumbsFrom_45 rfl (by decide) rfl ?_
    refine ev_iload dc_X8_crumbsFrom_47 rfl ?_
    refine ev_if_eq (tgt := 94) dc_X8_crumbsFrom_49 (by decide) h (fun h => ?_) (fun h => ?_)
    · refine ev_iinc (v := 1) (lv' := [some (.ref a0), some (.int a1), some (.int a2), some (.int x3), some (.int (x4 + (1 : Int32))), some (.int (a1 &&& q1)), none]) dc_X8_crumbsFrom_94 rfl (by decide) rfl (by decide) rfl ?_
      refine ev_goto (tgt := 27) dc_X8_crumbsFrom_97 (by decide) ?_
      exact ev_sub (hk27 (x3, x4 + (1 : Int32)) h) (And.intro rfl (And.intro rfl (And.intro rfl (And.intro rfl (And.intro rfl trivial)))))
    · refine ev_iload dc_X8_crumbsFrom_52 rfl ?_
      refine ev_iload_n dc_X8_crumbsFrom_54 rfl ?_
      refine ev_icmp_eq (tgt := 94) dc_X8_crumbsFrom_55 (by decide) h (fun h => ?_) (fun h => ?_)
      · refine ev_iinc (v := 1) (lv' := [some (.ref a0), some (.int a1), some (.int a2), some (.int x3), some (.int (x4 + (1 : Int32))), some (.int (a1 &&& q1)), none]) dc_X8_crumbsFrom_94 rfl (by decide) rfl (by decide) rfl ?_
        refine ev_goto (tgt := 27) dc_X8_crumbsFrom_97 (by decide) ?_
        exact ev_sub (hk27 (x3, x4 + (1 : Int32)) h) (And.intro rfl (And.intro rfl (And.intro rfl (And.intro rfl (And.intro rfl trivial)))))
      · refine ev_aload_n dc_X8_crumbsFrom_58 rfl ?_
        refine ev_iload dc_X8_crumbsFrom_59 rfl ?_
        refine ev_iload_n dc_X8_crumbsFrom_61 rfl ?_
        refine ev_iconst (v := 1) dc_X8_crumbsFrom_62 (by decide) ?_
        refine ev_iadd dc_X8_crumbsFrom_63 ?_
        obtain ⟨q2, hq2, h⟩ := Option.bind_eq_some_iff.mp h
        refine ev_callV (av := [.int (a1 &&& q1), .int (a2 + (1 : Int32))]) (st := []) (st1 := [.int q2]) dc_X8_crumbsFrom_64 (hrc _ i0 _ hq2) mw_541 cy_X8_crumbsFrom i0 (by decide) rfl rfl rfl rfl (Nat.le_of_ble_eq_true rfl) (show _ ≤ d0 + 2 from by omega) ⟨Nat.le_refl _, Nat.le_refl _⟩ ?_
        refine ev_aload_n dc_X8_crumbsFrom_67 rfl ?_
        refine ev_iload_n dc_X8_crumbsFrom_68 rfl ?_
        refine ev_iload dc_X8_crumbsFrom_69 rfl ?_
        refine ev_iconst (v := (-1)) dc_X8_crumbsFrom_71 (by decide) ?_
        refine ev_ixor dc_X8_crumbsFrom_72 ?_
        refine ev_iand dc_X8_crumbsFrom_73 ?_
        refine ev_iload_n dc_X8_crumbsFrom_74 rfl ?_
        refine ev_iconst (v := 1) dc_X8_crumbsFrom_75 (by decide) ?_
        refine ev_iadd dc_X8_crumbsFrom_76 ?_
        obtain ⟨q3, hq3, h⟩ := Option.bind_eq_some_iff.mp h
        refine ev_callV (av := [.int (a1 &&& ((a1 &&& q1) ^^^ (-1 : Int32))), .int (a2 + (1 : Int32))]) (st := [.int q2]) (st1 := [.int q3, .int q2]) dc_X8_crumbsFrom_77 (hrc _ i0 _ hq3) mw_541 cy_X8_crumbsFrom i0 (by decide) rfl rfl rfl rfl (Nat.le_of_ble_eq_true rfl) (show _ ≤ d0 + 2 from by omega) ⟨Nat.le_refl _, Nat.le_refl _⟩ ?_
        refine ev_max dc_X8_crumbsFrom_80 mw_515 (Nat.le_of_ble_eq_true rfl) (show _ ≤ d0 + 2 from by omega) ⟨Nat.le_refl _, Nat.le_refl _⟩ ?_
        refine ev_istore (lv' := [some (.ref a0), some (.int a1), some (.int a2), some (.int x3), some (.int x4), some (.int (a1 &&& q1)), some (.int (jmax q2 q3))]) dc_X8_crumbsFrom_83 rfl (by decide) rfl ?_
        refine ev_iload_n dc_X8_crumbsFrom_85 rfl ?_
        refine ev_iconst (v := 1) dc_X8_crumbsFrom_86 (by decide) ?_
        refine ev_iload dc_X8_crumbsFrom_87 rfl ?_
        refine ev_iadd dc_X8_crumbsFrom_89 ?_
        refine ev_min dc_X8_crumbsFrom_90 mw_545 (Nat.le_of_ble_eq_true rfl) (show _ ≤ d0 + 2 from by omega) ⟨Nat.le_refl _, Nat.le_refl _⟩ ?_
        refine ev_istore_n (lv' := [some (.ref a0), some (.int a1), some (.int a2), some (.int (jmin x3 ((1 : Int32) + (jmax q2 q3)))), some (.int x4), some (.int (a1 &&& q1)), some (.int (jmax q2 q3))]) dc_X8_crumbsFrom_93 rfl (by decide) rfl ?_
        refine ev_iinc (v := 1) (lv' := [some (.ref a0), some (.int a1), some (.int a2), some (.int (jmin x3 ((1 : Int32) + (jmax q2 q3)))), some (.int (x4 + (1 : Int32))), some (.int (a1 &&& q1)), some (.int (jmax q2 q3))]) dc_X8_crumbsFrom_94 rfl (by decide) rfl (by decide) rfl ?_
        refine ev_goto (tgt := 27) dc_X8_crumbsFrom_97 (by decide) ?_
        exact ev_sub (hk27 (jmin x3 ((1 : Int32) + (jmax q2 q3)), x4 + (1 : Int32)) h) (And.intro rfl (And.intro rfl (And.intro rfl (And.intro rfl (And.intro rfl trivial)))))
def fX8_crumbsFrom_u (N : Nat) (G : pG) (rc : Nat × Int32 × Int32 × pS → Option (Int32)) (a0 : Nat) (a1 : Int32) (a2 : Int32) (σ : pS) : Option (Int32) := (fJ6_bitCount_0f7a4 N G a1 σ).bind (fun q4 => if (2 : Int32) ≤ q4 then (if a2 < (6 : Int32) then (fX8_crumbsFrom_b27 N G rc a0 a1 a2 σ ((1000 : Int32), (0 : Int32))) else (some (1000 : Int32))) else (some (0 : Int32)))
set_option maxRecDepth 100000 in
set_option maxHeartbeats 4000000 in
theorem tX8_crumbsFrom_u {N : Nat} {G : pG} {SK : Nat → Nat} {rc : Nat × Int32 × Int32 × pS → Option (Int32)} {d0 : Nat} {a0 : Nat} {a1 : Int32} {a2 : Int32} {σ : pS} {r : Int32} (hW : WT G) (hrc : ∀ (b : Nat × Int32 × Int32 × pS), Is G b.1 7 → ∀ (r : Int32), rc b = some r → Dn miX8_crumbsFrom yX8_crumbsFrom d0 G SK [.ref b.1, .int b.2.1, .int b.2.2.1] b.2.2.2 (some (.int r)) b.2.2.2) (i0 : Is G a0 7) (h : fX8_crumbsFrom_u N G rc a0 a1 a2 σ = some r) : Dn miX8_crumbsFrom yX8_crumbsFrom (d0 + 2) G SK [.ref a0, .int a1, .int a2] σ (some (.int r)) σ := by
  unfold fX8_crumbsFrom_u at h
  refine dn_of (lv := [some (.ref a0), some (.int a1), some (.int a2), none, none, none, none]) (by decide) rfl rfl (Nat.le_of_ble_eq_true rfl) rfl ?_
  refine ev_iload_n dc_X8_crumbsFrom_0 rfl ?_
  obtain ⟨q4, hq4, h⟩ := Option.bind_eq_some_iff.mp h
  refine ev_callS (av := [.int a1]) (st := []) (st1 := [.int q4]) dc_X8_crumbsFrom_1 (tJ6_bitCount_0f7a4 hW hq4) mw_513 cs_J6_bitCount_0f7a4 rfl rfl rfl (Nat.le_of_ble_eq_true rfl) (show _ ≤ d0 + 2 from by omega) ⟨Nat.le_refl _, Nat.le_refl _⟩ ?_
  refine ev_iconst (v := 2) dc_X8_crumbsFrom_4 (by decide) ?_
  refine ev_icmp_ge (tgt := 10) dc_X8_crumbsFrom_5 (by decide) h (fun h => ?_) (fun h => ?_)
  · refine ev_iload_n dc_X8_crumbsFrom_10 rfl ?_
    refine ev_bipush (v := 6) dc_X8_crumbsFrom_11 (by decide) ?_
    refine ev_icmp_lt (tgt := 20) dc_X8_crumbsFrom_13 (by decide) h (fun h => ?_) (fun h => ?_)
    · refine ev_sipush (v := 1000) dc_X8_crumbsFrom_20 (by decide) ?_
      refine ev_istore_n (lv' := [some (.ref a0), some (.int a1), some (.int a2), some (.int (1000 : Int32)), none, none, none]) dc_X8_crumbsFrom_23 rfl (by decide) rfl ?_
      refine ev_iconst (v := 0) dc_X8_crumbsFrom_24 (by decide) ?_
      refine ev_istore (lv' := [some (.ref a0), some (.int a1), some (.int a2), some (.int (1000 : Int32)), some (.int (0 : Int32)), none, none]) dc_X8_crumbsFrom_25 rfl (by decide) rfl ?_
      exact ev_sub (tX8_crumbsFrom_b27 (b := ((1000 : Int32), (0 : Int32))) hW hrc i0 h) (And.intro rfl (And.intro rfl (And.intro rfl (And.intro rfl (And.intro rfl trivial)))))
    · refine ev_sipush (v := 1000) dc_X8_crumbsFrom_16 (by decide) ?_
      cases h
      exact ev_iret dc_X8_crumbsFrom_19 rfl rfl rfl
  · refine ev_iconst (v := 0) dc_X8_crumbsFrom_8 (by decide) ?_
    cases h
    exact ev_iret dc_X8_crumbsFrom_9 rfl rfl rfl
def fX8_crumbsFrom_r (N : Nat) (G : pG) : (Nat × Int32 × Int32 × pS) → Option (Int32) := lp (fun (rc : Nat × Int32 × Int32 × pS → Option (Int32)) (b : Nat × Int32 × Int32 × pS) => fX8_crumbsFrom_u N G rc b.1 b.2.1 b.2.2.1 b.2.2.2) 15
theorem tX8_crumbsFrom_n {N : Nat} {G : pG} {SK : Nat → Nat} (hW : WT G) : ∀ (n : Nat) (b : Nat × Int32 × Int32 × pS) (r : Int32), lp (fun (rc : Nat × Int32 × Int32 × pS → Option (Int32)) (b : Nat × Int32 × Int32 × pS) => fX8_crumbsFrom_u N G rc b.1 b.2.1 b.2.2.1 b.2.2.2) n b = some r → Is G b.1 7 → Dn miX8_crumbsFrom yX8_crumbsFrom (2 * n) G SK [.ref b.1, .int b.2.1, .int b.2.2.1] b.2.2.2 (some (.int r)) b.2.2.2 := by
  refine lp_ind2 (P := fun (n : Nat) (b : Nat × Int32 × Int32 × pS) (r : Int32) => Is G b.1 7 → Dn miX8_crumbsFrom yX8_crumbsFrom (2 * n) G SK [.ref b.1, .int b.2.1, .int b.2.2.1] b.2.2.2 (some (.int r)) b.2.2.2) (fun n rc b r ih h => ?_)
  intro i0
  exact tX8_crumbsFrom_u (d0 := 2 * n) hW (fun b i0 r h => ih b r h i0) i0 h
theorem tX8_crumbsFrom_r {N : Nat} {G : pG} {SK : Nat → Nat} (hW : WT G) : ∀ (b : Nat × Int32 × Int32 × pS), Is G b.1 7 → ∀ (r : Int32), fX8_crumbsFrom_r N G b = some r → Dn miX8_crumbsFrom yX8_crumbsFrom 30 G SK [.ref b.1, .int b.2.1, .int b.2.2.1] b.2.2.2 (some (.int r)) b.2.2.2 := fun b i0 r h => tX8_crumbsFrom_n hW 15 b r h i0
def fX8_crumbsFrom (N : Nat) (G : pG) (a0 : Nat) (a1 : Int32) (a2 : Int32) (σ : pS) : Option (Int32) := fX8_crumbsFrom_r N G (a0, a1, a2, σ)
theorem tX8_crumbsFrom {N : Nat} {G : pG} {SK : Nat → Nat} {a0 : Nat} {a1 : Int32} {a2 : Int32} {σ : pS} {r : Int32} (hW : WT G) (i0 : Is G a0 7) (h : fX8_crumbsFrom N G a0 a1 a2 σ = some r) : Dn miX8_crumbsFrom yX8_crumbsFrom 30 G SK [.ref a0, .int a1, .int a2] σ (some (.int r)) σ := tX8_crumbsFrom_r hW _ i0 r h
theorem dc_X8_crumbsFor_0 : Dc miX8_crumbsFor 0 (.aload_n 0) 1 1 := ⟨by decide +kernel, rfl⟩
theorem dc_X8_crumbsFor_1 : Dc miX8_crumbsFor 1 (.iload_n 1) 1 2 := ⟨by decide +kernel, rfl⟩
theorem dc_X8_crumbsFor_2 : Dc miX8_crumbsFor 2 (.iconst 0) 1 3 := ⟨by decide +kernel, rfl⟩
theorem dc_X8_crumbsFor_3 : Dc miX8_crumbsFor 3 (.invokevirtual 100) 3 6 := ⟨by decide +kernel, rfl⟩
theorem dc_X8_crumbsFor_6 : Dc miX8_crumbsFor 6 (.ireturn) 1 7 := ⟨by decide +kernel, rfl⟩
def fX8_crumbsFor (N : Nat) (G : pG) (a0 : Nat) (a1 : Int32) (σ : pS) : Option (Int32) := (fX8_crumbsFrom N G a0 a1 (0 : Int32) σ).bind (fun q1 => some q1)
set_option maxRecDepth 100000 in
set_option maxHeartbeats 4000000 in
theorem tX8_crumbsFor {N : Nat} {G : pG} {SK : Nat → Nat} {a0 : Nat} {a1 : Int32} {σ : pS} {r : Int32} (hW : WT G) (i0 : Is G a0 7) (h : fX8_crumbsFor N G a0 a1 σ = some r) : Dn miX8_crumbsFor yX8_crumbsFor 31 G SK [.ref a0, .int a1] σ (some (.int r)) σ := by
  unfold fX8_crumbsFor at h
  refine dn_of (lv := [some (.ref a0), some (.int a1)]) (by decide) rfl rfl (Nat.le_of_ble_eq_true rfl) rfl ?_
  refine ev_aload_n dc_X8_crumbsFor_0 rfl ?_
  refine ev_iload_n dc_X8_crumbsFor_1 rfl ?_
  refine ev_iconst (v := 0) dc_X8_crumbsFor_2 (by decide) ?_
  obtain ⟨q1, hq1, h⟩ := Option.bind_eq_some_iff.mp h
  refine ev_callV (av := [.int a1, .int (0 : Int32)]) (st := []) (st1 := [.int q1]) dc_X8_crumbsFor_3 (tX8_crumbsFrom hW i0 hq1) mw_541 cy_X8_crumbsFrom i0 (by decide) rfl rfl rfl rfl (Nat.le_of_ble_eq_true rfl) (Nat.le_of_ble_eq_true rfl) ⟨Nat.le_refl _, Nat.le_refl _⟩ ?_
  cases h
  exact ev_iret dc_X8_crumbsFor_6 rfl rfl rfl
theorem dc_X8_difference_0 : Dc miX8_difference 0 (.aload_n 0) 1 1 := ⟨by decide +kernel, rfl⟩
theorem dc_X8_difference_1 : Dc miX8_difference 1 (.getfield 39) 3 4 := ⟨by decide +kernel, rfl⟩
theorem dc_X8_difference_4 : Dc miX8_difference 4 (.iload_n 1) 1 5 := ⟨by decide +kernel, rfl⟩
theorem dc_X8_difference_5 : Dc miX8_difference 5 (.invokestatic 73) 3 8 := ⟨by decide +kernel, rfl⟩
theorem dc_X8_difference_8 : Dc miX8_difference 8 (.aload_n 0) 1 9 := ⟨by decide +kernel, rfl⟩
theorem dc_X8_difference_9 : Dc miX8_difference 9 (.getfield 39) 3 12 := ⟨by decide +kernel, rfl⟩
theorem dc_X8_difference_12 : Dc miX8_difference 12 (.iload_n 2) 1 13 := ⟨by decide +kernel, rfl⟩
theorem dc_X8_difference_13 : Dc miX8_difference 13 (.invokestatic 73) 3 16 := ⟨by decide +kernel, rfl⟩
theorem dc_X8_difference_16 : Dc miX8_difference 16 (.ixor) 1 17 := ⟨by decide +kernel, rfl⟩
theorem dc_X8_difference_17 : Dc miX8_difference 17 (.invokestatic 81) 3 20 := ⟨by decide +kernel, rfl⟩
theorem dc_X8_difference_20 : Dc miX8_difference 20 (.ireturn) 1 21 := ⟨by decide +kernel, rfl⟩
def fX8_difference (N : Nat) (G : pG) (a0 : Nat) (a1 : Int32) (a2 : Int32) (σ : pS) : Option (Int32) := (fX11_at N G (pR G a0 9) a1 σ).bind (fun q1 => (fX11_at N G (pR G a0 9) a2 σ).bind (fun q2 => (fJ6_bitCount_0f7a4 N G (q1 ^^^ q2) σ).bind (fun q3 => some q3)))
set_option maxRecDepth 100000 in
set_option maxHeartbeats 4000000 in
theorem tX8_difference {N : Nat} {G : pG} {SK : Nat → Nat} {a0 : Nat} {a1 : Int32} {a2 : Int32} {σ : pS} {r : Int32} (hW : WT G) (i0 : Is G a0 7) (h : fX8_difference N G a0 a1 a2 σ = some r) : Dn miX8_difference yX8_difference 2 G SK [.ref a0, .int a1, .int a2] σ (some (.int r)) σ := by
  unfold fX8_difference at h
  refine dn_of (lv := [some (.ref a0), some (.int a1), some (.int a2)]) (by decide) rfl rfl (Nat.le_of_ble_eq_true rfl) rfl ?_
  refine ev_aload_n dc_X8_difference_0 rfl ?_
  refine ev_getR dc_X8_difference_1 fi_X8_39 rfl i0 ?_
  refine ev_iload_n dc_X8_difference_4 rfl ?_
  obtain ⟨q1, hq1, h⟩ := Option.bind_eq_some_iff.mp h
  refine ev_callN (av := [.ref (pR G a0 9), .int a1]) (st := []) (st1 := [.int q1]) (host := "UnaskedName") dc_X8_difference_5 (tX11_at hW (wt hW i0 9 rfl rfl) hq1) (List.mem_of_getElem? (i := 15) rfl) cs_X11_at rfl rfl rfl (Nat.le_of_ble_eq_true rfl) (Nat.le_of_ble_eq_true rfl) ⟨Nat.le_refl _, Nat.le_refl _⟩ ?_
  refine ev_aload_n dc_X8_difference_8 rfl ?_
  refine ev_getR dc_X8_difference_9 fi_X8_39 rfl i0 ?_
  refine ev_iload_n dc_X8_difference_12 rfl ?_
  obtain ⟨q2, hq2, h⟩ := Option.bind_eq_some_iff.mp h
  refine ev_callN (av := [.ref (pR G a0 9), .int a2]) (st := [.int q1]) (st1 := [.int q2, .int q1]) (host := "UnaskedName") dc_X8_difference_13 (tX11_at hW (wt hW i0 9 rfl rfl) hq2) (List.mem_of_getElem? (i := 15) rfl) cs_X11_at rfl rfl rfl (Nat.le_of_ble_eq_true rfl) (Nat.le_of_ble_eq_true rfl) ⟨Nat.le_refl _, Nat.le_refl _⟩ ?_
  refine ev_ixor dc_X8_difference_16 ?_
  obtain ⟨q3, hq3, h⟩ := Option.bind_eq_some_iff.mp h
  refine ev_callS (av := [.int (q1 ^^^ q2)]) (st := []) (st1 := [.int q3]) dc_X8_difference_17 (tJ6_bitCount_0f7a4 hW hq3) mw_513 cs_J6_bitCount_0f7a4 rfl rfl rfl (Nat.le_of_ble_eq_true rfl) (Nat.le_of_ble_eq_true rfl) ⟨Nat.le_refl _, Nat.le_refl _⟩ ?_
  cases h
  exact ev_iret dc_X8_difference_20 rfl rfl rfl
theorem dc_X8_dutiesDone_0 : Dc miX8_dutiesDone 0 (.iconst 0) 1 1 := ⟨by decide +kernel, rfl⟩
theorem dc_X8_dutiesDone_1 : Dc miX8_dutiesDone 1 (.istore_n 2) 1 2 := ⟨by decide +kernel, rfl⟩
theorem dc_X8_dutiesDone_2 : Dc miX8_dutiesDone 2 (.iconst 0) 1 3 := ⟨by decide +kernel, rfl⟩
theorem dc_X8_dutiesDone_3 : Dc miX8_dutiesDone 3 (.istore_n 3) 1 4 := ⟨by decide +kernel, rfl⟩
theorem dc_X8_dutiesDone_4 : Dc miX8_dutiesDone 4 (.iload_n 3) 1 5 := ⟨by decide +kernel, rfl⟩
theorem dc_X8_dutiesDone_5 : Dc miX8_dutiesDone 5 (.aload_n 0) 1 6 := ⟨by decide +kernel, rfl⟩
theorem dc_X8_dutiesDone_6 : Dc miX8_dutiesDone 6 (.getfield 27) 3 9 := ⟨by decide +kernel, rfl⟩
theorem dc_X8_dutiesDone_9 : Dc miX8_dutiesDone 9 (.if_icmp .ge 28) 3 12 := ⟨by decide +kernel, rfl⟩
theorem dc_X8_dutiesDone_12 : Dc miX8_dutiesDone 12 (.aload_n 0) 1 13 := ⟨by decide +kernel, rfl⟩
theorem dc_X8_dutiesDone_13 : Dc miX8_dutiesDone 13 (.getfield 64) 3 16 := ⟨by decide +kernel, rfl⟩
theorem dc_X8_dutiesDone_16 : Dc miX8_dutiesDone 16 (.iload_n 3) 1 17 := ⟨by decide +kernel, rfl⟩
theorem dc_X8_dutiesDone_17 : Dc miX8_dutiesDone 17 (.invokestatic 73) 3 20 := ⟨by decide +kernel, rfl⟩
theorem dc_X8_dutiesDone_20 : Dc miX8_dutiesDone 20 (.iload_n 1) 1 21 := ⟨by decide +kernel, rfl⟩
theorem dc_X8_dutiesDone_21 : Dc miX8_dutiesDone 21 (.iand) 1 22 := ⟨by decide +kernel, rfl⟩
theorem dc_X8_dutiesDone_22 : Dc miX8_dutiesDone 22 (.ifCond .eq 9) 3 25 := ⟨by decide +kernel, rfl⟩
theorem dc_X8_dutiesDone_25 : Dc miX8_dutiesDone 25 (.iload_n 2) 1 26 := ⟨by decide +kernel, rfl⟩
theorem dc_X8_dutiesDone_26 : Dc miX8_dutiesDone 26 (.iconst 1) 1 27 := ⟨by decide +kernel, rfl⟩
theorem dc_X8_dutiesDone_27 : Dc miX8_dutiesDone 27 (.iload_n 3) 1 28 := ⟨by decide +kernel, rfl⟩
theorem dc_X8_dutiesDone_28 : Dc miX8_dutiesDone 28 (.ishl) 1 29 := ⟨by decide +kernel, rfl⟩
theorem dc_X8_dutiesDone_29 : Dc miX8_dutiesDone 29 (.ior) 1 30 := ⟨by decide +kernel, rfl⟩
theorem dc_X8_dutiesDone_30 : Dc miX8_dutiesDone 30 (.istore_n 2) 1 31 := ⟨by decide +kernel, rfl⟩
theorem dc_X8_dutiesDone_31 : Dc miX8_dutiesDone 31 (.iinc 3 1) 3 34 := ⟨by decide +kernel, rfl⟩
theorem dc_X8_dutiesDone_34 : Dc miX8_dutiesDone 34 (.goto (-30)) 3 37 := ⟨by decide +kernel, rfl⟩
theorem dc_X8_dutiesDone_37 : Dc miX8_dutiesDone 37 (.iload_n 2) 1 38 := ⟨by decide +kernel, rfl⟩
theorem dc_X8_dutiesDone_38 : Dc miX8_dutiesDone 38 (.ireturn) 1 39 := ⟨by decide +kernel, rfl⟩
def fX8_dutiesDone_b4 (N : Nat) (G : pG) (a0 : Nat) (a1 : Int32) (σ : pS) : (Int32 × Int32) → Option (Int32) := lp (fun (k4 : Int32 × Int32 → Option (Int32)) (b : Int32 × Int32) => if (σ.1 a0 5) ≤ b.2 then (some b.1) else ((fX11_at N G (pR G a0 17) b.2 σ).bind (fun q1 => if (q1 &&& a1) = 0 then (k4 (b.1, b.2 + (1 : Int32))) else (k4 (b.1 ||| ((1 : Int32) <<< (b.2 &&& 31)), b.2 + (1 : Int32)))))) N
set_option maxRecDepth 100000 in
set_option maxHeartbeats 4000000 in
theorem tX8_dutiesDone_b4 {N : Nat} {G : pG} {SK : Nat → Nat} {a0 : Nat} {a1 : Int32} {σ : pS} {b : Int32 × Int32} {r : Int32} (hW : WT G) (i0 : Is G a0 7) (h : fX8_dutiesDone_b4 N G a0 a1 σ b = some r) : Ev miX8_dutiesDone (2, 0, 0) G (Zp G (some (.int r)) σ) SK (0, 0) 4 [some (.ref a0), some (.int a1), some (.int b.1), some (.int b.2)] [] σ := by
  unfold fX8_dutiesDone_b4 at h
  refine lp_ind (P := fun b r9 => r9 = r → Ev miX8_dutiesDone (2, 0, 0) G (Zp G (some (.int r)) σ) SK (0, 0) 4 [some (.ref a0), some (.int a1), some (.int b.1), some (.int b.2)] [] σ) (fun k4 b r9 ih h9 e9 => ?_) N b r h rfl
  clear h
  subst e9
  have h := h9
  clear h9
  have hk4 : ∀ b : Int32 × Int32, k4 b = some r9 → Ev miX8_dutiesDone (2, 0, 0) G (Zp G (some (.int r9)) σ) SK (0, 0) 4 [some (.ref a0), some (.int a1), some (.int b.1), some (.int b.2)] [] σ := fun b hb => ih b r9 hb rfl
  clear ih
  obtain ⟨x2, x3⟩ := b
  dsimp only at h ⊢
  refine ev_iload_n dc_X8_dutiesDone_4 rfl ?_
  refine ev_aload_n dc_X8_dutiesDone_5 rfl ?_
  refine ev_getI dc_X8_dutiesDone_6 fi_X8_27 rfl i0 ?_
  refine ev_icmp_ge (tgt := 37) dc_X8_dutiesDone_9 (by decide) h (fun h => ?_) (fun h => ?_)
  · refine ev_iload_n dc_X8_dutiesDone_37 rfl ?_
    cases h
    exact ev_iret dc_X8_dutiesDone_38 rfl rfl rfl
  · refine ev_aload_n dc_X8_dutiesDone_12 rfl ?_
    refine ev_getR dc_X8_dutiesDone_13 fi_X8_64 rfl i0 ?_
    refine ev_iload_n dc_X8_dutiesDone_16 rfl ?_
    obtain ⟨q1, hq1, h⟩ := Option.bind_eq_some_iff.mp h
    refine ev_callN (av := [.ref (pR G a0 17), .int x3]) (st := []) (st1 := [.int q1]) (host := "UnaskedName") dc_X8_dutiesDone_17 (tX11_at hW (wt hW i0 17 rfl rfl) hq1) (List.mem_of_getElem? (i := 15) rfl) cs_X11_at rfl rfl rfl (Nat.le_of_ble_eq_true rfl) (Nat.le_of_ble_eq_true rfl) ⟨Nat.le_refl _, Nat.le_refl _⟩ ?_
    refine ev_iload_n dc_X8_dutiesDone_20 rfl ?_
    refine ev_iand dc_X8_dutiesDone_21 ?_
    refine ev_if_eq (tgt := 31) dc_X8_dutiesDone_22 (by decide) h (fun h => ?_) (fun h => ?_)
    · refine ev_iinc (v := 1) (lv' := [some (.ref a0), some (.int a1), some (.int x2), some (.int (x3 + (1 : Int32)))]) dc_X8_dutiesDone_31 rfl (by decide) rfl (by decide) rfl ?_
      refine ev_goto (tgt := 4) dc_X8_dutiesDone_34 (by decide) ?_
      exact ev_sub (hk4 (x2, x3 + (1 : Int32)) h) (And.intro rfl (And.intro rfl (And.intro rfl (And.intro rfl trivial))))
    · refine ev_iload_n dc_X8_dutiesDone_25 rfl ?_
      refine ev_iconst (v := 1) dc_X8_dutiesDone_26 (by decide) ?_
      refine ev_iload_n dc_X8_dutiesDone_27 rfl ?_
      refine ev_ishl dc_X8_dutiesDone_28 ?_
      refine ev_ior dc_X8_dutiesDone_29 ?_
      refine ev_istore_n (lv' := [some (.ref a0), some (.int a1), some (.int (x2 ||| ((1 : Int32) <<< (x3 &&& 31)))), some (.int x3)]) dc_X8_dutiesDone_30 rfl (by decide) rfl ?_
      refine ev_iinc (v := 1) (lv' := [some (.ref a0), some (.int a1), some (.int (x2 ||| ((1 : Int32) <<< (x3 &&& 31)))), some (.int (x3 + (1 : Int32)))]) dc_X8_dutiesDone_31 rfl (by decide) rfl (by decide) rfl ?_
      refine ev_goto (tgt := 4) dc_X8_dutiesDone_34 (by decide) ?_
      exact ev_sub (hk4 (x2 ||| ((1 : Int32) <<< (x3 &&& 31)), x3 + (1 : Int32)) h) (And.intro rfl (And.intro rfl (And.intro rfl (And.intro rfl trivial))))
def fX8_dutiesDone (N : Nat) (G : pG) (a0 : Nat) (a1 : Int32) (σ : pS) : Option (Int32) := fX8_dutiesDone_b4 N G a0 a1 σ ((0 : Int32), (0 : Int32))
set_option maxRecDepth 100000 in
set_option maxHeartbeats 4000000 in
theorem tX8_dutiesDone {N : Nat} {G : pG} {SK : Nat → Nat} {a0 : Nat} {a1 : Int32} {σ : pS} {r : Int32} (hW : WT G) (i0 : Is G a0 7) (h : fX8_dutiesDone N G a0 a1 σ = some r) : Dn miX8_dutiesDone yX8_dutiesDone 2 G SK [.ref a0, .int a1] σ (some (.int r)) σ := by
  unfold fX8_dutiesDone at h
  refine dn_of (lv := [some (.ref a0), some (.int a1), none, none]) (by decide) rfl rfl (Nat.le_of_ble_eq_true rfl) rfl ?_
  refine ev_iconst (v := 0) dc_X8_dutiesDone_0 (by decide) ?_
  refine ev_istore_n (lv' := [some (.ref a0), some (.int a1), some (.int (0 : Int32)), none]) dc_X8_dutiesDone_1 rfl (by decide) rfl ?_
  refine ev_iconst (v := 0) dc_X8_dutiesDone_2 (by decide) ?_
  refine ev_istore_n (lv' := [some (.ref a0), some (.int a1), some (.int (0 : Int32)), some (.int (0 : Int32))]) dc_X8_dutiesDone_3 rfl (by decide) rfl ?_
  exact ev_sub (tX8_dutiesDone_b4 (b := ((0 : Int32), (0 : Int32))) hW i0 h) (And.intro rfl (And.intro rfl (And.intro rfl (And.intro rfl trivial))))
theorem dc_X8_narrowed_0 : Dc miX8_narrowed 0 (.iload_n 2) 1 1 := ⟨by decide +kernel, rfl⟩
theorem dc_X8_narrowed_1 : Dc miX8_narrowed 1 (.ifCond .lt 7) 3 4 := ⟨by decide +kernel, rfl⟩
theorem dc_X8_narrowed_4 : Dc miX8_narrowed 4 (.iload_n 3) 1 5 := ⟨by decide +kernel, rfl⟩
theorem dc_X8_narrowed_5 : Dc miX8_narrowed 5 (.ifCond .ge 5) 3 8 := ⟨by decide +kernel, rfl⟩
theorem dc_X8_narrowed_8 : Dc miX8_narrowed 8 (.iload_n 1) 1 9 := ⟨by decide +kernel, rfl⟩
theorem dc_X8_narrowed_9 : Dc miX8_narrowed 9 (.ireturn) 1 10 := ⟨by decide +kernel, rfl⟩
theorem dc_X8_narrowed_10 : Dc miX8_narrowed 10 (.aload_n 0) 1 11 := ⟨by decide +kernel, rfl⟩
theorem dc_X8_narrowed_11 : Dc miX8_narrowed 11 (.getfield 46) 3 14 := ⟨by decide +kernel, rfl⟩
theorem dc_X8_narrowed_14 : Dc miX8_narrowed 14 (.iload_n 3) 1 15 := ⟨by decide +kernel, rfl⟩
theorem dc_X8_narrowed_15 : Dc miX8_narrowed 15 (.invokestatic 73) 3 18 := ⟨by decide +kernel, rfl⟩
theorem dc_X8_narrowed_18 : Dc miX8_narrowed 18 (.istore 4) 2 20 := ⟨by decide +kernel, rfl⟩
theorem dc_X8_narrowed_20 : Dc miX8_narrowed 20 (.iload 4) 2 22 := ⟨by decide +kernel, rfl⟩
theorem dc_X8_narrowed_22 : Dc miX8_narrowed 22 (.iload_n 2) 1 23 := ⟨by decide +kernel, rfl⟩
theorem dc_X8_narrowed_23 : Dc miX8_narrowed 23 (.invokestatic 77) 3 26 := ⟨by decide +kernel, rfl⟩
theorem dc_X8_narrowed_26 : Dc miX8_narrowed 26 (.ifCond .eq 10) 3 29 := ⟨by decide +kernel, rfl⟩
theorem dc_X8_narrowed_29 : Dc miX8_narrowed 29 (.iload_n 1) 1 30 := ⟨by decide +kernel, rfl⟩
theorem dc_X8_narrowed_30 : Dc miX8_narrowed 30 (.iload 4) 2 32 := ⟨by decide +kernel, rfl⟩
theorem dc_X8_narrowed_32 : Dc miX8_narrowed 32 (.iand) 1 33 := ⟨by decide +kernel, rfl⟩
theorem dc_X8_narrowed_33 : Dc miX8_narrowed 33 (.goto 9) 3 36 := ⟨by decide +kernel, rfl⟩
theorem dc_X8_narrowed_36 : Dc miX8_narrowed 36 (.iload_n 1) 1 37 := ⟨by decide +kernel, rfl⟩
theorem dc_X8_narrowed_37 : Dc miX8_narrowed 37 (.iload 4) 2 39 := ⟨by decide +kernel, rfl⟩
theorem dc_X8_narrowed_39 : Dc miX8_narrowed 39 (.iconst (-1)) 1 40 := ⟨by decide +kernel, rfl⟩
theorem dc_X8_narrowed_40 : Dc miX8_narrowed 40 (.ixor) 1 41 := ⟨by decide +kernel, rfl⟩
theorem dc_X8_narrowed_41 : Dc miX8_narrowed 41 (.iand) 1 42 := ⟨by decide +kernel, rfl⟩
theorem dc_X8_narrowed_42 : Dc miX8_narrowed 42 (.ireturn) 1 43 := ⟨by decide +kernel, rfl⟩
def fX8_narrowed (N : Nat) (G : pG) (a0 : Nat) (a1 : Int32) (a2 : Int32) (a3 : Int32) (σ : pS) : Option (Int32) := if a2 < 0 then (some a1) else (if 0 ≤ a3 then ((fX11_at N G (pR G a0 11) a3 σ).bind (fun q1 => (fX11_has N G q1 a2 σ).bind (fun q2 => if q2 = 0 then (some (a1 &&& (q1 ^^^ (-1 : Int32)))) else (some (a1 &&& q1))))) else (some a1))
set_option maxRecDepth 100000 in
set_option maxHeartbeats 4000000 in
theorem tX8_narrowed {N : Nat} {G : pG} {SK : Nat → Nat} {a0 : Nat} {a1 : Int32} {a2 : Int32} {a3 : Int32} {σ : pS} {r : Int32} (hW : WT G) (i0 : Is G a0 7) (h : fX8_narrowed N G a0 a1 a2 a3 σ = some r) : Dn miX8_narrowed yX8_narrowed 2 G SK [.ref a0, .int a1, .int a2, .int a3] σ (some (.int r)) σ := by
  unfold fX8_narrowed at h
  refine dn_of (lv := [some (.ref a0), some (.int a1), some (.int a2), some (.int a3), none]) (by decide) rfl rfl (Nat.le_of_ble_eq_true rfl) rfl ?_
  refine ev_iload_n dc_X8_narrowed_0 rfl ?_
  refine ev_if_lt (tgt := 8) dc_X8_narrowed_1 (by decide) h (fun h => ?_) (fun h => ?_)
  · refine ev_iload_n dc_X8_narrowed_8 rfl ?_
    cases h
    exact ev_iret dc_X8_narrowed_9 rfl rfl rfl
  · refine ev_iload_n dc_X8_narrowed_4 rfl ?_
    refine ev_if_ge (tgt := 10) dc_X8_narrowed_5 (by decide) h (fun h => ?_) (fun h => ?_)
    · refine ev_aload_n dc_X8_narrowed_10 rfl ?_
      refine ev_getR dc_X8_narrowed_11 fi_X8_46 rfl i0 ?_
      refine ev_iload_n dc_X8_narrowed_14 rfl ?_
      obtain ⟨q1, hq1, h⟩ := Option.bind_eq_some_iff.mp h
      refine ev_callN (av := [.ref (pR G a0 11), .int a3]) (st := []) (st1 := [.int q1]) (host := "UnaskedName") dc_X8_narrowed_15 (tX11_at hW (wt hW i0 11 rfl rfl) hq1) (List.mem_of_getElem? (i := 15) rfl) cs_X11_at rfl rfl rfl (Nat.le_of_ble_eq_true rfl) (Nat.le_of_ble_eq_true rfl) ⟨Nat.le_refl _, Nat.le_refl _⟩ ?_
      refine ev_istore (lv' := [some (.ref a0), some (.int a1), some (.int a2), some (.int a3), some (.int q1)]) dc_X8_narrowed_18 rfl (by decide) rfl ?_
      refine ev_iload dc_X8_narrowed_20 rfl ?_
      refine ev_iload_n dc_X8_narrowed_22 rfl ?_
      obtain ⟨q2, hq2, h⟩ := Option.bind_eq_some_iff.mp h
      refine ev_callN (av := [.int q1, .int a2]) (st := []) (st1 := [.int q2]) (host := "UnaskedName") dc_X8_narrowed_23 (tX11_has hW hq2) (List.mem_of_getElem? (i := 16) rfl) cs_X11_has rfl rfl rfl (Nat.le_of_ble_eq_true rfl) (Nat.le_of_ble_eq_true rfl) ⟨Nat.le_refl _, Nat.le_refl _⟩ ?_
      refine ev_if_eq (tgt := 36) dc_X8_narrowed_26 (by decide) h (fun h => ?_) (fun h => ?_)
      · refine ev_iload_n dc_X8_narrowed_36 rfl ?_
        refine ev_iload dc_X8_narrowed_37 rfl ?_
        refine ev_iconst (v := (-1)) dc_X8_narrowed_39 (by decide) ?_
        refine ev_ixor dc_X8_narrowed_40 ?_
        refine ev_iand dc_X8_narrowed_41 ?_
        cases h
        exact ev_iret dc_X8_narrowed_42 rfl rfl rfl
      · refine ev_iload_n dc_X8_narrowed_29 rfl ?_
        refine ev_iload dc_X8_narrowed_30 rfl ?_
        refine ev_iand dc_X8_narrowed_32 ?_
        refine ev_goto (tgt := 42) dc_X8_narrowed_33 (by decide) ?_
        cases h
        exact ev_iret dc_X8_narrowed_42 rfl rfl rfl
    · refine ev_iload_n dc_X8_narrowed_8 rfl ?_
      cases h
      exact ev_iret dc_X8_narrowed_9 rfl rfl rfl
theorem dc_X8_narrowedByAll_0 : Dc miX8_narrowedByAll 0 (.iload_n 1) 1 1 := ⟨by decide +kernel, rfl⟩
theorem dc_X8_narrowedByAll_1 : Dc miX8_narrowedByAll 1 (.istore 4) 2 3 := ⟨by decide +kernel, rfl⟩
theorem dc_X8_narrowedByAll_3 : Dc miX8_narrowedByAll 3 (.iconst 0) 1 4 := ⟨by decide +kernel, rfl⟩
theorem dc_X8_narrowedByAll_4 : Dc miX8_narrowedByAll 4 (.istore 5) 2 6 := ⟨by decide +kernel, rfl⟩
theorem dc_X8_narrowedByAll_6 : Dc miX8_narrowedByAll 6 (.iload 5) 2 8 := ⟨by decide +kernel, rfl⟩
theorem dc_X8_narrowedByAll_8 : Dc miX8_narrowedByAll 8 (.bipush 6) 2 10 := ⟨by decide +kernel, rfl⟩
theorem dc_X8_narrowedByAll_10 : Dc miX8_narrowedByAll 10 (.if_icmp .ge 29) 3 13 := ⟨by decide +kernel, rfl⟩
theorem dc_X8_narrowedByAll_13 : Dc miX8_narrowedByAll 13 (.iload_n 3) 1 14 := ⟨by decide +kernel, rfl⟩
theorem dc_X8_narrowedByAll_14 : Dc miX8_narrowedByAll 14 (.iload 5) 2 16 := ⟨by decide +kernel, rfl⟩
theorem dc_X8_narrowedByAll_16 : Dc miX8_narrowedByAll 16 (.invokestatic 77) 3 19 := ⟨by decide +kernel, rfl⟩
theorem dc_X8_narrowedByAll_19 : Dc miX8_narrowedByAll 19 (.ifCond .eq 14) 3 22 := ⟨by decide +kernel, rfl⟩
theorem dc_X8_narrowedByAll_22 : Dc miX8_narrowedByAll 22 (.aload_n 0) 1 23 := ⟨by decide +kernel, rfl⟩
theorem dc_X8_narrowedByAll_23 : Dc miX8_narrowedByAll 23 (.iload 4) 2 25 := ⟨by decide +kernel, rfl⟩
theorem dc_X8_narrowedByAll_25 : Dc miX8_narrowedByAll 25 (.iload_n 2) 1 26 := ⟨by decide +kernel, rfl⟩
theorem dc_X8_narrowedByAll_26 : Dc miX8_narrowedByAll 26 (.iload 5) 2 28 := ⟨by decide +kernel, rfl⟩
theorem dc_X8_narrowedByAll_28 : Dc miX8_narrowedByAll 28 (.invokevirtual 97) 3 31 := ⟨by decide +kernel, rfl⟩
theorem dc_X8_narrowedByAll_31 : Dc miX8_narrowedByAll 31 (.istore 4) 2 33 := ⟨by decide +kernel, rfl⟩
theorem dc_X8_narrowedByAll_33 : Dc miX8_narrowedByAll 33 (.iinc 5 1) 3 36 := ⟨by decide +kernel, rfl⟩
theorem dc_X8_narrowedByAll_36 : Dc miX8_narrowedByAll 36 (.goto (-30)) 3 39 := ⟨by decide +kernel, rfl⟩
theorem dc_X8_narrowedByAll_39 : Dc miX8_narrowedByAll 39 (.iload 4) 2 41 := ⟨by decide +kernel, rfl⟩
theorem dc_X8_narrowedByAll_41 : Dc miX8_narrowedByAll 41 (.ireturn) 1 42 := ⟨by decide +kernel, rfl⟩
def fX8_narrowedByAll_b6 (N : Nat) (G : pG) (a0 : Nat) (a2 : Int32) (a3 : Int32) (σ : pS) : (Int32 × Int32) → Option (Int32) := lp (fun (k6 : Int32 × Int32 → Option (Int32)) (b : Int32 × Int32) => if (6 : Int32) ≤ b.2 then (some b.1) else ((fX11_has N G a3 b.2 σ).bind (fun q1 => if q1 = 0 then (k6 (b.1, b.2 + (1 : Int32))) else ((fX8_narrowed N G a0 b.1 a2 b.2 σ).bind (fun q2 => k6 (q2, b.2 + (1 : Int32))))))) N
set_option maxRecDepth 100000 in
set_option maxHeartbeats 4000000 in
theorem tX8_narrowedByAll_b6 {N : Nat} {G : pG} {SK : Nat → Nat} {a0 : Nat} {a2 : Int32} {a3 : Int32} {σ : pS} {b : Int32 × Int32} {r : Int32} (hW : WT G) (i0 : Is G a0 7) (h : fX8_narrowedByAll_b6 N G a0 a2 a3 σ b = some r) : Ev miX8_narrowedByAll (3, 0, 0) G (Zp G (some (.int r)) σ) SK (0, 0) 6 [some (.ref a0), none, some (.int a2), some (.int a3), some (.int b.1), some (.int b.2)] [] σ := by
  unfold fX8_narrowedByAll_b6 at h
  refine lp_ind (P := fun b r9 => r9 = r → Ev miX8_narrowedByAll (3, 0, 0) G (Zp G (some (.int r)) σ) SK (0, 0) 6 [some (.ref a0), none, some (.int a2), some (.int a3), some (.int b.1), some (.int b.2)] [] σ) (fun k6 b r9 ih h9 e9 => ?_) N b r h rfl
  clear h
  subst e9
  have h := h9
  clear h9
  have hk6 : ∀ b : Int32 × Int32, k6 b = some r9 → Ev miX8_narrowedByAll (3, 0, 0) G (Zp G (some (.int r9)) σ) SK (0, 0) 6 [some (.ref a0), none, some (.int a2), some (.int a3), some (.int b.1), some (.int b.2)] [] σ := fun b hb => ih b r9 hb rfl
  clear ih
  obtain ⟨x4, x5⟩ := b
  dsimp only at h ⊢
  refine ev_iload dc_X8_narrowedByAll_6 rfl ?_
  refine ev_bipush (v := 6) dc_X8_narrowedByAll_8 (by decide) ?_
  refine ev_icmp_ge (tgt := 39) dc_X8_narrowedByAll_10 (by decide) h (fun h => ?_) (fun h => ?_)
  · refine ev_iload dc_X8_narrowedByAll_39 rfl ?_
    cases h
    exact ev_iret dc_X8_narrowedByAll_41 rfl rfl rfl
  · refine ev_iload_n dc_X8_narrowedByAll_13 rfl ?_
    refine ev_iload dc_X8_narrowedByAll_14 rfl ?_
    obtain ⟨q1, hq1, h⟩ := Option.bind_eq_some_iff.mp h
    refine ev_callN (av := [.int a3, .int x5]) (st := []) (st1 := [.int q1]) (host := "UnaskedName") dc_X8_narrowedByAll_16 (tX11_has hW hq1) (List.mem_of_getElem? (i := 16) rfl) cs_X11_has rfl rfl rfl (Nat.le_of_ble_eq_true rfl) (Nat.le_of_ble_eq_true rfl) ⟨Nat.le_refl _, Nat.le_refl _⟩ ?_
    refine ev_if_eq (tgt := 33) dc_X8_narrowedByAll_19 (by decide) h (fun h => ?_) (fun h => ?_)
    · refine ev_iinc (v := 1) (lv' := [some (.ref a0), none, some (.int a2), some (.int a3), some (.int x4), some (.int (x5 + (1 : Int32)))]) dc_X8_narrowedByAll_33 rfl (by decide) rfl (by decide) rfl ?_
      refine ev_goto (tgt := 6) dc_X8_narrowedByAll_36 (by decide) ?_
      exact ev_sub (hk6 (x4, x5 + (1 : Int32)) h) (And.intro rfl (And.intro rfl (And.intro rfl (And.intro rfl (And.intro rfl trivial)))))
    · refine ev_aload_n dc_X8_narrowedByAll_22 rfl ?_
      refine ev_iload dc_X8_narrowedByAll_23 rfl ?_
      refine ev_iload_n dc_X8_narrowedByAll_25 rfl ?_
      refine ev_iload dc_X8_narrowedByAll_26 rfl ?_
      obtain ⟨q2, hq2, h⟩ := Option.bind_eq_some_iff.mp h
      refine ev_callV (av := [.int x4, .int a2, .int x5]) (st := []) (st1 := [.int q2]) dc_X8_narrowedByAll_28 (tX8_narrowed hW i0 hq2) mw_529 cy_X8_narrowed i0 (by decide) rfl rfl rfl rfl (Nat.le_of_ble_eq_true rfl) (Nat.le_of_ble_eq_true rfl) ⟨Nat.le_refl _, Nat.le_refl _⟩ ?_
      refine ev_istore (lv' := [some (.ref a0), none, some (.int a2), some (.int a3), some (.int q2), some (.int x5)]) dc_X8_narrowedByAll_31 rfl (by decide) rfl ?_
      refine ev_iinc (v := 1) (lv' := [some (.ref a0), none, some (.int a2), some (.int a3), some (.int q2), some (.int (x5 + (1 : Int32)))]) dc_X8_narrowedByAll_33 rfl (by decide) rfl (by decide) rfl ?_
      refine ev_goto (tgt := 6) dc_X8_narrowedByAll_36 (by decide) ?_
      exact ev_sub (hk6 (q2, x5 + (1 : Int32)) h) (And.intro rfl (And.intro rfl (And.intro rfl (And.intro rfl (And.intro rfl trivial)))))
def fX8_narrowedByAll (N : Nat) (G : pG) (a0 : Nat) (a1 : Int32) (a2 : Int32) (a3 : Int32) (σ : pS) : Option (Int32) := fX8_narrowedByAll_b6 N G a0 a2 a3 σ (a1, (0 : Int32))
set_option maxRecDepth 100000 in
set_option maxHeartbeats 4000000 in
theorem tX8_narrowedByAll {N : Nat} {G : pG} {SK : Nat → Nat} {a0 : Nat} {a1 : Int32} {a2 : Int32} {a3 : Int32} {σ : pS} {r : Int32} (hW : WT G) (i0 : Is G a0 7) (h : fX8_narrowedByAll N G a0 a1 a2 a3 σ = some r) : Dn miX8_narrowedByAll yX8_narrowedByAll 3 G SK [.ref a0, .int a1, .int a2, .int a3] σ (some (.int r)) σ := by
  unfold fX8_narrowedByAll at h
  refine dn_of (lv := [some (.ref a0), some (.int a1), some (.int a2), some (.int a3), none, none]) (by decide) rfl rfl (Nat.le_of_ble_eq_true rfl) rfl ?_
  refine ev_iload_n dc_X8_narrowedByAll_0 rfl ?_
  refine ev_istore (lv' := [some (.ref a0), some (.int a1), some (.int a2), some (.int a3), some (.int a1), none]) dc_X8_narrowedByAll_1 rfl (by decide) rfl ?_
  refine ev_iconst (v := 0) dc_X8_narrowedByAll_3 (by decide) ?_
  refine ev_istore (lv' := [some (.ref a0), some (.int a1), some (.int a2), some (.int a3), some (.int a1), some (.int (0 : Int32))]) dc_X8_narrowedByAll_4 rfl (by decide) rfl ?_
  exact ev_sub (tX8_narrowedByAll_b6 (b := (a1, (0 : Int32))) hW i0 h) (And.intro rfl (And.intro rfl (And.intro rfl (And.intro rfl (And.intro rfl trivial)))))
theorem dc_X8_partingTrait_0 : Dc miX8_partingTrait 0 (.iload_n 1) 1 1 := ⟨by decide +kernel, rfl⟩
theorem dc_X8_partingTrait_1 : Dc miX8_partingTrait 1 (.invokestatic 81) 3 4 := ⟨by decide +kernel, rfl⟩
theorem dc_X8_partingTrait_4 : Dc miX8_partingTrait 4 (.iconst 2) 1 5 := ⟨by decide +kernel, rfl⟩
theorem dc_X8_partingTrait_5 : Dc miX8_partingTrait 5 (.if_icmp .ge 5) 3 8 := ⟨by decide +kernel, rfl⟩
theorem dc_X8_partingTrait_8 : Dc miX8_partingTrait 8 (.iconst (-1)) 1 9 := ⟨by decide +kernel, rfl⟩
theorem dc_X8_partingTrait_9 : Dc miX8_partingTrait 9 (.ireturn) 1 10 := ⟨by decide +kernel, rfl⟩
theorem dc_X8_partingTrait_10 : Dc miX8_partingTrait 10 (.iconst (-1)) 1 11 := ⟨by decide +kernel, rfl⟩
theorem dc_X8_partingTrait_11 : Dc miX8_partingTrait 11 (.istore_n 2) 1 12 := ⟨by decide +kernel, rfl⟩
theorem dc_X8_partingTrait_12 : Dc miX8_partingTrait 12 (.sipush 1000) 3 15 := ⟨by decide +kernel, rfl⟩
theorem dc_X8_partingTrait_15 : Dc miX8_partingTrait 15 (.istore_n 3) 1 16 := ⟨by decide +kernel, rfl⟩
theorem dc_X8_partingTrait_16 : Dc miX8_partingTrait 16 (.iconst 0) 1 17 := ⟨by decide +kernel, rfl⟩
theorem dc_X8_partingTrait_17 : Dc miX8_partingTrait 17 (.istore 4) 2 19 := ⟨by decide +kernel, rfl⟩
theorem dc_X8_partingTrait_19 : Dc miX8_partingTrait 19 (.iload 4) 2 21 := ⟨by decide +kernel, rfl⟩
theorem dc_X8_partingTrait_21 : Dc miX8_partingTrait 21 (.bipush 6) 2 23 := ⟨by decide +kernel, rfl⟩
theorem dc_X8_partingTrait_23 : Dc miX8_partingTrait 23 (.if_icmp .ge 51) 3 26 := ⟨by decide +kernel, rfl⟩
theorem dc_X8_partingTrait_26 : Dc miX8_partingTrait 26 (.iload_n 1) 1 27 := ⟨by decide +kernel, rfl⟩
theorem dc_X8_partingTrait_27 : Dc miX8_partingTrait 27 (.aload_n 0) 1 28 := ⟨by decide +kernel, rfl⟩
theorem dc_X8_partingTrait_28 : Dc miX8_partingTrait 28 (.getfield 46) 3 31 := ⟨by decide +kernel, rfl⟩
theorem dc_X8_partingTrait_31 : Dc miX8_partingTrait 31 (.iload 4) 2 33 := ⟨by decide +kernel, rfl⟩
theorem dc_X8_partingTrait_33 : Dc miX8_partingTrait 33 (.invokestatic 73) 3 36 := ⟨by decide +kernel, rfl⟩
theorem dc_X8_partingTrait_36 : Dc miX8_partingTrait 36 (.iand) 1 37 := ⟨by decide +kernel, rfl⟩
theorem dc_X8_partingTrait_37 : Dc miX8_partingTrait 37 (.invokestatic 81) 3 40 := ⟨by decide +kernel, rfl⟩
theorem dc_X8_partingTrait_40 : Dc miX8_partingTrait 40 (.istore 5) 2 42 := ⟨by decide +kernel, rfl⟩
theorem dc_X8_partingTrait_42 : Dc miX8_partingTrait 42 (.iload 5) 2 44 := ⟨by decide +kernel, rfl⟩
theorem dc_X8_partingTrait_44 : Dc miX8_partingTrait 44 (.iload_n 1) 1 45 := ⟨by decide +kernel, rfl⟩
theorem dc_X8_partingTrait_45 : Dc miX8_partingTrait 45 (.invokestatic 81) 3 48 := ⟨by decide +kernel, rfl⟩
theorem dc_X8_partingTrait_48 : Dc miX8_partingTrait 48 (.iload 5) 2 50 := ⟨by decide +kernel, rfl⟩
theorem dc_X8_partingTrait_50 : Dc miX8_partingTrait 50 (.isub) 1 51 := ⟨by decide +kernel, rfl⟩
theorem dc_X8_partingTrait_51 : Dc miX8_partingTrait 51 (.invokestatic 87) 3 54 := ⟨by decide +kernel, rfl⟩
theorem dc_X8_partingTrait_54 : Dc miX8_partingTrait 54 (.istore 6) 2 56 := ⟨by decide +kernel, rfl⟩
theorem dc_X8_partingTrait_56 : Dc miX8_partingTrait 56 (.iload 6) 2 58 := ⟨by decide +kernel, rfl⟩
theorem dc_X8_partingTrait_58 : Dc miX8_partingTrait 58 (.iload_n 3) 1 59 := ⟨by decide +kernel, rfl⟩
theorem dc_X8_partingTrait_59 : Dc miX8_partingTrait 59 (.if_icmp .ge 9) 3 62 := ⟨by decide +kernel, rfl⟩
theorem dc_X8_partingTrait_62 : Dc miX8_partingTrait 62 (.iload 4) 2 64 := ⟨by decide +kernel, rfl⟩
theorem dc_X8_partingTrait_64 : Dc miX8_partingTrait 64 (.istore_n 2) 1 65 := ⟨by decide +kernel, rfl⟩
theorem dc_X8_partingTrait_65 : Dc miX8_partingTrait 65 (.iload 6) 2 67 := ⟨by decide +kernel, rfl⟩
theorem dc_X8_partingTrait_67 : Dc miX8_partingTrait 67 (.istore_n 3) 1 68 := ⟨by decide +kernel, rfl⟩
theorem dc_X8_partingTrait_68 : Dc miX8_partingTrait 68 (.iinc 4 1) 3 71 := ⟨by decide +kernel, rfl⟩
theorem dc_X8_partingTrait_71 : Dc miX8_partingTrait 71 (.goto (-52)) 3 74 := ⟨by decide +kernel, rfl⟩
theorem dc_X8_partingTrait_74 : Dc miX8_partingTrait 74 (.iload_n 2) 1 75 := ⟨by decide +kernel, rfl⟩
theorem dc_X8_partingTrait_75 : Dc miX8_partingTrait 75 (.ireturn) 1 76 := ⟨by decide +kernel, rfl⟩
def fX8_partingTrait_b19 (N : Nat) (G : pG) (a0 : Nat) (a1 : Int32) (σ : pS) : (Int32 × Int32 × Int32) → Option (Int32) := lp (fun (k19 : Int32 × Int32 × Int32 → Option (Int32)) (b : Int32 × Int32 × Int32) => if (6 : Int32) ≤ b.2.2 then (some b.1) else ((fX11_at N G (pR G a0 11) b.2.2 σ).bind (fun q1 => (fJ6_bitCount_0f7a4 N G (a1 &&& q1) σ).bind (fun q2 => (fJ6_bitCount_0f7a4 N G a1 σ).bind (fun q3 => if b.2.1 ≤ (jmax q2 (q3 - q2)) then (k19 (b.1, b.2.1, b.2.2 + (1 : Int32))) else (k19 (b.2.2, jmax q2 (q3 - q2), b.2.2 + (1 : Int32)))))))) N
set_option maxRecDepth 100000 in
set_option maxHeartbeats 4000000 in
theorem tX8_partingTrait_b19 {N : Nat} {G : pG} {SK : Nat → Nat} {a0 : Nat} {a1 : Int32} {σ : pS} {b : Int32 × Int32 × Int32} {r : Int32} (hW : WT G) (i0 : Is G a0 7) (h : fX8_partingTrait_b19 N G a0 a1 σ b = some r) : Ev miX8_partingTrait (2, 0, 0) G (Zp G (some (.int r)) σ) SK (0, 0) 19 [some (.ref a0), some (.int a1), some (.int b.1), some (.int b.2.1), some (.int b.2.2), none, none] [] σ := by
  unfold fX8_partingTrait_b19 at h
  refine lp_ind (P := fun b r9 => r9 = r → Ev miX8_partingTrait (2, 0, 0) G (Zp G (some (.int r)) σ) SK (0, 0) 19 [some (.ref a0), some (.int a1), some (.int b.1), some (.int b.2.1), some (.int b.2.2), none, none] [] σ) (fun k19 b r9 ih h9 e9 => ?_) N b r h rfl
  clear h
  subst e9
  have h := h9
  clear h9
  have hk19 : ∀ b : Int32 × Int32 × Int32, k19 b = some r9 → Ev miX8_partingTrait (2, 0, 0) G (Zp G (some (.int r9)) σ) SK (0, 0) 19 [some (.ref a0), some (.int a1), some (.int b.1), some (.int b.2.1), some (.int b.2.2), none, none] [] σ := fun b hb => ih b r9 hb rfl
  clear ih
  obtain ⟨x2, x3, x4⟩ := b
  dsimp only at h ⊢
  refine ev_iload dc_X8_partingTrait_19 rfl ?_
  refine ev_bipush (v := 6) dc_X8_partingTrait_21 (by decide) ?_
  refine ev_icmp_ge (tgt := 74) dc_X8_partingTrait_23 (by decide) h (fun h => ?_) (fun h => ?_)
  · refine ev_iload_n dc_X8_partingTrait_74 rfl ?_
    cases h
    exact ev_iret dc_X8_partingTrait_75 rfl rfl rfl
  · refine ev_iload_n dc_X8_partingTrait_26 rfl ?_
    refine ev_aload_n dc_X8_partingTrait_27 rfl ?_
    refine ev_getR dc_X8_partingTrait_28 fi_X8_46 rfl i0 ?_
    refine ev_iload dc_X8_partingTrait_31 rfl ?_
    obtain ⟨q1, hq1, h⟩ := Option.bind_eq_some_iff.mp h
    refine ev_callN (av := [.ref (pR G a0 11), .int x4]) (st := [.int a1]) (st1 := [.int q1, .int a1]) (host := "UnaskedName") dc_X8_partingTrait_33 (tX11_at hW (wt hW i0 11 rfl rfl) hq1) (List.mem_of_getElem? (i := 15) rfl) cs_X11_at rfl rfl rfl (Nat.le_of_ble_eq_true rfl) (Nat.le_of_ble_eq_true rfl) ⟨Nat.le_refl _, Nat.le_refl _⟩ ?_
    refine ev_iand dc_X8_partingTrait_36 ?_
    obtain ⟨q2, hq2, h⟩ := Option.bind_eq_some_iff.mp h
    refine ev_callS (av := [.int (a1 &&& q1)]) (st := []) (st1 := [.int q2]) dc_X8_partingTrait_37 (tJ6_bitCount_0f7a4 hW hq2) mw_513 cs_J6_bitCount_0f7a4 rfl rfl rfl (Nat.le_of_ble_eq_true rfl) (Nat.le_of_ble_eq_true rfl) ⟨Nat.le_refl _, Nat.le_refl _⟩ ?_
    refine ev_istore (lv' := [some (.ref a0), some (.int a1), some (.int x2), some (.int x3), some (.int x4), some (.int q2), none]) dc_X8_partingTrait_40 rfl (by decide) rfl ?_
    refine ev_iload dc_X8_partingTrait_42 rfl ?_
    refine ev_iload_n dc_X8_partingTrait_44 rfl ?_
    obtain ⟨q3, hq3, h⟩ := Option.bind_eq_some_iff.mp h
    refine ev_callS (av := [.int a1]) (st := [.int q2]) (st1 := [.int q3, .int q2]) dc_X8_partingTrait_45 (tJ6_bitCount_0f7a4 hW hq3) mw_513 cs_J6_bitCount_0f7a4 rfl rfl rfl (Nat.le_of_ble_eq_true rfl) (Nat.le_of_ble_eq_true rfl) ⟨Nat.le_refl _, Nat.le_refl _⟩ ?_
    refine ev_iload dc_X8_partingTrait_48 rfl ?_
    refine ev_isub dc_X8_partingTrait_50 ?_
    refine ev_max dc_X8_partingTrait_51 mw_515 (Nat.le_of_ble_eq_true rfl) (Nat.le_of_ble_eq_true rfl) ⟨Nat.le_refl _, Nat.le_refl _⟩ ?_
    refine ev_istore (lv' := [some (.ref a0), some (.int a1), some (.int x2), some (.int x3), some (.int x4), some (.int q2), some (.int (jmax q2 (q3 - q2)))]) dc_X8_partingTrait_54 rfl (by decide) rfl ?_
    refine ev_iload dc_X8_partingTrait_56 rfl ?_
    refine ev_iload_n dc_X8_partingTrait_58 rfl ?_
    refine ev_icmp_ge (tgt := 68) dc_X8_partingTrait_59 (by decide) h (fun h => ?_) (fun h => ?_)
    · refine ev_iinc (v := 1) (lv' := [some (.ref a0), some (.int a1), some (.int x2), some (.int x3), some (.int (x4 + (1 : Int32))), some (.int q2), some (.int (jmax q2 (q3 - q2)))]) dc_X8_partingTrait_68 rfl (by decide) rfl (by decide) rfl ?_
      refine ev_goto (tgt := 19) dc_X8_partingTrait_71 (by decide) ?_
      exact ev_sub (hk19 (x2, x3, x4 + (1 : Int32)) h) (And.intro rfl (And.intro rfl (And.intro rfl (And.intro rfl (And.intro rfl trivial)))))
    · refine ev_iload dc_X8_partingTrait_62 rfl ?_
      refine ev_istore_n (lv' := [some (.ref a0), some (.int a1), some (.int x4), some (.int x3), some (.int x4), some (.int q2), some (.int (jmax q2 (q3 - q2)))]) dc_X8_partingTrait_64 rfl (by decide) rfl ?_
      refine ev_iload dc_X8_partingTrait_65 rfl ?_
      refine ev_istore_n (lv' := [some (.ref a0), some (.int a1), some (.int x4), some (.int (jmax q2 (q3 - q2))), some (.int x4), some (.int q2), some (.int (jmax q2 (q3 - q2)))]) dc_X8_partingTrait_67 rfl (by decide) rfl ?_
      refine ev_iinc (v := 1) (lv' := [some (.ref a0), some (.int a1), some (.int x4), some (.int (jmax q2 (q3 - q2))), some (.int (x4 + (1 : Int32))), some (.int q2), some (.int (jmax q2 (q3 - q2)))]) dc_X8_partingTrait_68 rfl (by decide) rfl (by decide) rfl ?_
      refine ev_goto (tgt := 19) dc_X8_partingTrait_71 (by decide) ?_
      exact ev_sub (hk19 (x4, jmax q2 (q3 - q2), x4 + (1 : Int32)) h) (And.intro rfl (And.intro rfl (And.intro rfl (And.intro rfl (And.intro rfl trivial)))))
def fX8_partingTrait (N : Nat) (G : pG) (a0 : Nat) (a1 : Int32) (σ : pS) : Option (Int32) := (fJ6_bitCount_0f7a4 N G a1 σ).bind (fun q4 => if (2 : Int32) ≤ q4 then (fX8_partingTrait_b19 N G a0 a1 σ ((-1 : Int32), (1000 : Int32), (0 : Int32))) else (some (-1 : Int32)))
set_option maxRecDepth 100000 in
set_option maxHeartbeats 4000000 in
theorem tX8_partingTrait {N : Nat} {G : pG} {SK : Nat → Nat} {a0 : Nat} {a1 : Int32} {σ : pS} {r : Int32} (hW : WT G) (i0 : Is G a0 7) (h : fX8_partingTrait N G a0 a1 σ = some r) : Dn miX8_partingTrait yX8_partingTrait 2 G SK [.ref a0, .int a1] σ (some (.int r)) σ := by
  unfold fX8_partingTrait at h
  refine dn_of (lv := [some (.ref a0), some (.int a1), none, none, none, none, none]) (by decide) rfl rfl (Nat.le_of_ble_eq_true rfl) rfl ?_
  refine ev_iload_n dc_X8_partingTrait_0 rfl ?_
  obtain ⟨q4, hq4, h⟩ := Option.bind_eq_some_iff.mp h
  refine ev_callS (av := [.int a1]) (st := []) (st1 := [.int q4]) dc_X8_partingTrait_1 (tJ6_bitCount_0f7a4 hW hq4) mw_513 cs_J6_bitCount_0f7a4 rfl rfl rfl (Nat.le_of_ble_eq_true rfl) (Nat.le_of_ble_eq_true rfl) ⟨Nat.le_refl _, Nat.le_refl _⟩ ?_
  refine ev_iconst (v := 2) dc_X8_partingTrait_4 (by decide) ?_
  refine ev_icmp_ge (tgt := 10) dc_X8_partingTrait_5 (by decide) h (fun h => ?_) (fun h => ?_)
  · refine ev_iconst (v := (-1)) dc_X8_partingTrait_10 (by decide) ?_
    refine ev_istore_n (lv' := [some (.ref a0), some (.int a1), some (.int (-1 : Int32)), none, none, none, none]) dc_X8_partingTrait_11 rfl (by decide) rfl ?_
    refine ev_sipush (v := 1000) dc_X8_partingTrait_12 (by decide) ?_
    refine ev_istore_n (lv' := [some (.ref a0), some (.int a1), some (.int (-1 : Int32)), some (.int (1000 : Int32)), none, none, none]) dc_X8_partingTrait_15 rfl (by decide) rfl ?_
    refine ev_iconst (v := 0) dc_X8_partingTrait_16 (by decide) ?_
    refine ev_istore (lv' := [some (.ref a0), some (.int a1), some (.int (-1 : Int32)), some (.int (1000 : Int32)), some (.int (0 : Int32)), none, none]) dc_X8_partingTrait_17 rfl (by decide) rfl ?_
    exact ev_sub (tX8_partingTrait_b19 (b := ((-1 : Int32), (1000 : Int32), (0 : Int32))) hW i0 h) (And.intro rfl (And.intro rfl (And.intro rfl (And.intro rfl (And.intro rfl trivial)))))
  · refine ev_iconst (v := (-1)) dc_X8_partingTrait_8 (by decide) ?_
    cases h
    exact ev_iret dc_X8_partingTrait_9 rfl rfl rfl
theorem dc_X8_tellingTraits_0 : Dc miX8_tellingTraits 0 (.iload_n 2) 1 1 := ⟨by decide +kernel, rfl⟩
theorem dc_X8_tellingTraits_1 : Dc miX8_tellingTraits 1 (.ifCond .ge 5) 3 4 := ⟨by decide +kernel, rfl⟩
theorem dc_X8_tellingTraits_4 : Dc miX8_tellingTraits 4 (.iconst (-1)) 1 5 := ⟨by decide +kernel, rfl⟩
theorem dc_X8_tellingTraits_5 : Dc miX8_tellingTraits 5 (.ireturn) 1 6 := ⟨by decide +kernel, rfl⟩
theorem dc_X8_tellingTraits_6 : Dc miX8_tellingTraits 6 (.iconst (-1)) 1 7 := ⟨by decide +kernel, rfl⟩
theorem dc_X8_tellingTraits_7 : Dc miX8_tellingTraits 7 (.istore_n 3) 1 8 := ⟨by decide +kernel, rfl⟩
theorem dc_X8_tellingTraits_8 : Dc miX8_tellingTraits 8 (.sipush 1000) 3 11 := ⟨by decide +kernel, rfl⟩
theorem dc_X8_tellingTraits_11 : Dc miX8_tellingTraits 11 (.istore 4) 2 13 := ⟨by decide +kernel, rfl⟩
theorem dc_X8_tellingTraits_13 : Dc miX8_tellingTraits 13 (.iconst 0) 1 14 := ⟨by decide +kernel, rfl⟩
theorem dc_X8_tellingTraits_14 : Dc miX8_tellingTraits 14 (.istore 5) 2 16 := ⟨by decide +kernel, rfl⟩
theorem dc_X8_tellingTraits_16 : Dc miX8_tellingTraits 16 (.iload 5) 2 18 := ⟨by decide +kernel, rfl⟩
theorem dc_X8_tellingTraits_18 : Dc miX8_tellingTraits 18 (.bipush 64) 2 20 := ⟨by decide +kernel, rfl⟩
theorem dc_X8_tellingTraits_20 : Dc miX8_tellingTraits 20 (.if_icmp .ge 43) 3 23 := ⟨by decide +kernel, rfl⟩
theorem dc_X8_tellingTraits_23 : Dc miX8_tellingTraits 23 (.iload 5) 2 25 := ⟨by decide +kernel, rfl⟩
theorem dc_X8_tellingTraits_25 : Dc miX8_tellingTraits 25 (.invokestatic 81) 3 28 := ⟨by decide +kernel, rfl⟩
theorem dc_X8_tellingTraits_28 : Dc miX8_tellingTraits 28 (.iload 4) 2 30 := ⟨by decide +kernel, rfl⟩
theorem dc_X8_tellingTraits_30 : Dc miX8_tellingTraits 30 (.if_icmp .ge 27) 3 33 := ⟨by decide +kernel, rfl⟩
theorem dc_X8_tellingTraits_33 : Dc miX8_tellingTraits 33 (.aload_n 0) 1 34 := ⟨by decide +kernel, rfl⟩
theorem dc_X8_tellingTraits_34 : Dc miX8_tellingTraits 34 (.iload_n 1) 1 35 := ⟨by decide +kernel, rfl⟩
theorem dc_X8_tellingTraits_35 : Dc miX8_tellingTraits 35 (.iload_n 2) 1 36 := ⟨by decide +kernel, rfl⟩
theorem dc_X8_tellingTraits_36 : Dc miX8_tellingTraits 36 (.iload 5) 2 38 := ⟨by decide +kernel, rfl⟩
theorem dc_X8_tellingTraits_38 : Dc miX8_tellingTraits 38 (.invokevirtual 93) 3 41 := ⟨by decide +kernel, rfl⟩
theorem dc_X8_tellingTraits_41 : Dc miX8_tellingTraits 41 (.iconst 1) 1 42 := ⟨by decide +kernel, rfl⟩
theorem dc_X8_tellingTraits_42 : Dc miX8_tellingTraits 42 (.iload_n 2) 1 43 := ⟨by decide +kernel, rfl⟩
theorem dc_X8_tellingTraits_43 : Dc miX8_tellingTraits 43 (.ishl) 1 44 := ⟨by decide +kernel, rfl⟩
theorem dc_X8_tellingTraits_44 : Dc miX8_tellingTraits 44 (.if_icmp .ne 13) 3 47 := ⟨by decide +kernel, rfl⟩
theorem dc_X8_tellingTraits_47 : Dc miX8_tellingTraits 47 (.iload 5) 2 49 := ⟨by decide +kernel, rfl⟩
theorem dc_X8_tellingTraits_49 : Dc miX8_tellingTraits 49 (.istore_n 3) 1 50 := ⟨by decide +kernel, rfl⟩
theorem dc_X8_tellingTraits_50 : Dc miX8_tellingTraits 50 (.iload 5) 2 52 := ⟨by decide +kernel, rfl⟩
theorem dc_X8_tellingTraits_52 : Dc miX8_tellingTraits 52 (.invokestatic 81) 3 55 := ⟨by decide +kernel, rfl⟩
theorem dc_X8_tellingTraits_55 : Dc miX8_tellingTraits 55 (.istore 4) 2 57 := ⟨by decide +kernel, rfl⟩
theorem dc_X8_tellingTraits_57 : Dc miX8_tellingTraits 57 (.iinc 5 1) 3 60 := ⟨by decide +kernel, rfl⟩
theorem dc_X8_tellingTraits_60 : Dc miX8_tellingTraits 60 (.goto (-44)) 3 63 := ⟨by decide +kernel, rfl⟩
theorem dc_X8_tellingTraits_63 : Dc miX8_tellingTraits 63 (.iload_n 3) 1 64 := ⟨by decide +kernel, rfl⟩
theorem dc_X8_tellingTraits_64 : Dc miX8_tellingTraits 64 (.ireturn) 1 65 := ⟨by decide +kernel, rfl⟩
def fX8_tellingTraits_b16 (N : Nat) (G : pG) (a0 : Nat) (a1 : Int32) (a2 : Int32) (σ : pS) : (Int32 × Int32 × Int32) → Option (Int32) := lp (fun (k16 : Int32 × Int32 × Int32 → Option (Int32)) (b : Int32 × Int32 × Int32) => if (64 : Int32) ≤ b.2.2 then (some b.1) else ((fJ6_bitCount_0f7a4 N G b.2.2 σ).bind (fun q1 => if b.2.1 ≤ q1 then (k16 (b.1, b.2.1, b.2.2 + (1 : Int32))) else ((fX8_narrowedByAll N G a0 a1 a2 b.2.2 σ).bind (fun q2 => if q2 = ((1 : Int32) <<< (a2 &&& 31)) then ((fJ6_bitCount_0f7a4 N G b.2.2 σ).bind (fun q3 => k16 (b.2.2, q3, b.2.2 + (1 : Int32)))) else (k16 (b.1, b.2.1, b.2.2 + (1 : Int32)))))))) N
set_option maxRecDepth 100000 in
set_option maxHeartbeats 4000000 in
theorem tX8_tellingTraits_b16 {N : Nat} {G : pG} {SK : Nat → Nat} {a0 : Nat} {a1 : Int32} {a2 : Int32} {σ : pS} {b : Int32 × Int32 × Int32} {r : Int32} (hW : WT G) (i0 : Is G a0 7) (h : fX8_tellingTraits_b16 N G a0 a1 a2 σ b = some r) : Ev miX8_tellingTraits (4, 0, 0) G (Zp G (some (.int r)) σ) SK (0, 0) 16 [some (.ref a0), some (.int a1), some (.int a2), some (.int b.1), some (.int b.2.1), some (.int b.2.2)] [] σ := by
  unfold fX8_tellingTraits_b16 at h
  refine lp_ind (P := fun b r9 => r9 = r → Ev miX8_tellingTraits (4, 0, 0) G (Zp G (some (.int r)) σ) SK (0, 0) 16 [some (.ref a0), some (.int a1), some (.int a2), some (.int b.1), some (.int b.2.1), some (.int b.2.2)] [] σ) (fun k16 b r9 ih h9 e9 => ?_) N b r h rfl
  clear h
  subst e9
  have h := h9
  clear h9
  have hk16 : ∀ b : Int32 × Int32 × Int32, k16 b = some r9 → Ev miX8_tellingTraits (4, 0, 0) G (Zp G (some (.int r9)) σ) SK (0, 0) 16 [some (.ref a0), some (.int a1), some (.int a2), some (.int b.1), some (.int b.2.1), some (.int b.2.2)] [] σ := fun b hb => ih b r9 hb rfl
  clear ih
  obtain ⟨x3, x4, x5⟩ := b
  dsimp only at h ⊢
  refine ev_iload dc_X8_tellingTraits_16 rfl ?_
  refine ev_bipush (v := 64) dc_X8_tellingTraits_18 (by decide) ?_
  refine ev_icmp_ge (tgt := 63) dc_X8_tellingTraits_20 (by decide) h (fun h => ?_) (fun h => ?_)
  · refine ev_iload_n dc_X8_tellingTraits_63 rfl ?_
    cases h
    exact ev_iret dc_X8_tellingTraits_64 rfl rfl rfl
  · refine ev_iload dc_X8_tellingTraits_23 rfl ?_
    obtain ⟨q1, hq1, h⟩ := Option.bind_eq_some_iff.mp h
    refine ev_callS (av := [.int x5]) (st := []) (st1 := [.int q1]) dc_X8_tellingTraits_25 (tJ6_bitCount_0f7a4 hW hq1) mw_513 cs_J6_bitCount_0f7a4 rfl rfl rfl (Nat.le_of_ble_eq_true rfl) (Nat.le_of_ble_eq_true rfl) ⟨Nat.le_refl _, Nat.le_refl _⟩ ?_
    refine ev_iload dc_X8_tellingTraits_28 rfl ?_
    refine ev_icmp_ge (tgt := 57) dc_X8_tellingTraits_30 (by decide) h (fun h => ?_) (fun h => ?_)
    · refine ev_iinc (v := 1) (lv' := [some (.ref a0), some (.int a1), some (.int a2), some (.int x3), some (.int x4), some (.int (x5 + (1 : Int32)))]) dc_X8_tellingTraits_57 rfl (by decide) rfl (by decide) rfl ?_
      refine ev_goto (tgt := 16) dc_X8_tellingTraits_60 (by decide) ?_
      exact ev_sub (hk16 (x3, x4, x5 + (1 : Int32)) h) (And.intro rfl (And.intro rfl (And.intro rfl (And.intro rfl (And.intro rfl (And.intro rfl trivial))))))
    · refine ev_aload_n dc_X8_tellingTraits_33 rfl ?_
      refine ev_iload_n dc_X8_tellingTraits_34 rfl ?_
      refine ev_iload_n dc_X8_tellingTraits_35 rfl ?_
      refine ev_iload dc_X8_tellingTraits_36 rfl ?_
      obtain ⟨q2, hq2, h⟩ := Option.bind_eq_some_iff.mp h
      refine ev_callV (av := [.int a1, .int a2, .int x5]) (st := []) (st1 := [.int q2]) dc_X8_tellingTraits_38 (tX8_narrowedByAll hW i0 hq2) mw_524 cy_X8_narrowedByAll i0 (by decide) rfl rfl rfl rfl (Nat.le_of_ble_eq_true rfl) (Nat.le_of_ble_eq_true rfl) ⟨Nat.le_refl _, Nat.le_refl _⟩ ?_
      refine ev_iconst (v := 1) dc_X8_tellingTraits_41 (by decide) ?_
      refine ev_iload_n dc_X8_tellingTraits_42 rfl ?_
      refine ev_ishl dc_X8_tellingTraits_43 ?_
      refine ev_icmp_ne (tgt := 57) dc_X8_tellingTraits_44 (by decide) h (fun h => ?_) (fun h => ?_)
      · refine ev_iload dc_X8_tellingTraits_47 rfl ?_
        refine ev_istore_n (lv' := [some (.ref a0), some (.int a1), some (.int a2), some (.int x5), some (.int x4), some (.int x5)]) dc_X8_tellingTraits_49 rfl (by decide) rfl ?_
        refine ev_iload dc_X8_tellingTraits_50 rfl ?_
        obtain ⟨q3, hq3, h⟩ := Option.bind_eq_some_iff.mp h
        refine ev_callS (av := [.int x5]) (st := []) (st1 := [.int q3]) dc_X8_tellingTraits_52 (tJ6_bitCount_0f7a4 hW hq3) mw_513 cs_J6_bitCount_0f7a4 rfl rfl rfl (Nat.le_of_ble_eq_true rfl) (Nat.le_of_ble_eq_true rfl) ⟨Nat.le_refl _, Nat.le_refl _⟩ ?_
        refine ev_istore (lv' := [some (.ref a0), some (.int a1), some (.int a2), some (.int x5), some (.int q3), some (.int x5)]) dc_X8_tellingTraits_55 rfl (by decide) rfl ?_
        refine ev_iinc (v := 1) (lv' := [some (.ref a0), some (.int a1), some (.int a2), some (.int x5), some (.int q3), some (.int (x5 + (1 : Int32)))]) dc_X8_tellingTraits_57 rfl (by decide) rfl (by decide) rfl ?_
        refine ev_goto (tgt := 16) dc_X8_tellingTraits_60 (by decide) ?_
        exact ev_sub (hk16 (x5, q3, x5 + (1 : Int32)) h) (And.intro rfl (And.intro rfl (And.intro rfl (And.intro rfl (And.intro rfl (And.intro rfl trivial))))))
      · refine ev_iinc (v := 1) (lv' := [some (.ref a0), some (.int a1), some (.int a2), some (.int x3), some (.int x4), some (.int (x5 + (1 : Int32)))]) dc_X8_tellingTraits_57 rfl (by decide) rfl (by decide) rfl ?_
        refine ev_goto (tgt := 16) dc_X8_tellingTraits_60 (by decide) ?_
        exact ev_sub (hk16 (x3, x4, x5 + (1 : Int32)) h) (And.intro rfl (And.intro rfl (And.intro rfl (And.intro rfl (And.intro rfl (And.intro rfl trivial))))))
def fX8_tellingTraits (N : Nat) (G : pG) (a0 : Nat) (a1 : Int32) (a2 : Int32) (σ : pS) : Option (Int32) := if 0 ≤ a2 then (fX8_tellingTraits_b16 N G a0 a1 a2 σ ((-1 : Int32), (1000 : Int32), (0 : Int32))) else (some (-1 : Int32))
set_option maxRecDepth 100000 in
set_option maxHeartbeats 4000000 in
theorem tX8_tellingTraits {N : Nat} {G : pG} {SK : Nat → Nat} {a0 : Nat} {a1 : Int32} {a2 : Int32} {σ : pS} {r : Int32} (hW : WT G) (i0 : Is G a0 7) (h : fX8_tellingTraits N G a0 a1 a2 σ = some r) : Dn miX8_tellingTraits yX8_tellingTraits 4 G SK [.ref a0, .int a1, .int a2] σ (some (.int r)) σ := by
  unfold fX8_tellingTraits at h
  refine dn_of (lv := [some (.ref a0), some (.int a1), some (.int a2), none, none, none]) (by decide) rfl rfl (Nat.le_of_ble_eq_true rfl) rfl ?_
  refine ev_iload_n dc_X8_tellingTraits_0 rfl ?_
  refine ev_if_ge (tgt := 6) dc_X8_tellingTraits_1 (by decide) h (fun h => ?_) (fun h => ?_)
  · refine ev_iconst (v := (-1)) dc_X8_tellingTraits_6 (by decide) ?_
    refine ev_istore_n (lv' := [some (.ref a0), some (.int a1), some (.int a2), some (.int (-1 : Int32)), none, none]) dc_X8_tellingTraits_7 rfl (by decide) rfl ?_
    refine ev_sipush (v := 1000) dc_X8_tellingTraits_8 (by decide) ?_
    refine ev_istore (lv' := [some (.ref a0), some (.int a1), some (.int a2), some (.int (-1 : Int32)), some (.int (1000 : Int32)), none]) dc_X8_tellingTraits_11 rfl (by decide) rfl ?_
    refine ev_iconst (v := 0) dc_X8_tellingTraits_13 (by decide) ?_
    refine ev_istore (lv' := [some (.ref a0), some (.int a1), some (.int a2), some (.int (-1 : Int32)), some (.int (1000 : Int32)), some (.int (0 : Int32))]) dc_X8_tellingTraits_14 rfl (by decide) rfl ?_
    exact ev_sub (tX8_tellingTraits_b16 (b := ((-1 : Int32), (1000 : Int32), (0 : Int32))) hW i0 h) (And.intro rfl (And.intro rfl (And.intro rfl (And.intro rfl (And.intro rfl (And.intro rfl trivial))))))
  · refine ev_iconst (v := (-1)) dc_X8_tellingTraits_4 (by decide) ?_
    cases h
    exact ev_iret dc_X8_tellingTraits_5 rfl rfl rfl
theorem dc_X9_byteAt_0 : Dc miX9_byteAt 0 (.iload_n 1) 1 1 := ⟨by decide +kernel, rfl⟩
theorem dc_X9_byteAt_1 : Dc miX9_byteAt 1 (.ifCond .lt 31) 3 4 := ⟨by decide +kernel, rfl⟩
theorem dc_X9_byteAt_4 : Dc miX9_byteAt 4 (.iload_n 1) 1 5 := ⟨by decide +kernel, rfl⟩
theorem dc_X9_byteAt_5 : Dc miX9_byteAt 5 (.aload_n 0) 1 6 := ⟨by decide +kernel, rfl⟩
theorem dc_X9_byteAt_6 : Dc miX9_byteAt 6 (.getfield 9) 3 9 := ⟨by decide +kernel, rfl⟩
theorem dc_X9_byteAt_9 : Dc miX9_byteAt 9 (.if_icmp .ge 23) 3 12 := ⟨by decide +kernel, rfl⟩
theorem dc_X9_byteAt_12 : Dc miX9_byteAt 12 (.iload_n 1) 1 13 := ⟨by decide +kernel, rfl⟩
theorem dc_X9_byteAt_13 : Dc miX9_byteAt 13 (.sipush 400) 3 16 := ⟨by decide +kernel, rfl⟩
theorem dc_X9_byteAt_16 : Dc miX9_byteAt 16 (.if_icmp .ge 16) 3 19 := ⟨by decide +kernel, rfl⟩
theorem dc_X9_byteAt_19 : Dc miX9_byteAt 19 (.aload_n 0) 1 20 := ⟨by decide +kernel, rfl⟩
theorem dc_X9_byteAt_20 : Dc miX9_byteAt 20 (.getfield 27) 3 23 := ⟨by decide +kernel, rfl⟩
theorem dc_X9_byteAt_23 : Dc miX9_byteAt 23 (.iload_n 1) 1 24 := ⟨by decide +kernel, rfl⟩
theorem dc_X9_byteAt_24 : Dc miX9_byteAt 24 (.baload) 1 25 := ⟨by decide +kernel, rfl⟩
theorem dc_X9_byteAt_25 : Dc miX9_byteAt 25 (.sipush 255) 3 28 := ⟨by decide +kernel, rfl⟩
theorem dc_X9_byteAt_28 : Dc miX9_byteAt 28 (.iand) 1 29 := ⟨by decide +kernel, rfl⟩
theorem dc_X9_byteAt_29 : Dc miX9_byteAt 29 (.goto 4) 3 32 := ⟨by decide +kernel, rfl⟩
theorem dc_X9_byteAt_32 : Dc miX9_byteAt 32 (.iconst (-1)) 1 33 := ⟨by decide +kernel, rfl⟩
theorem dc_X9_byteAt_33 : Dc miX9_byteAt 33 (.ireturn) 1 34 := ⟨by decide +kernel, rfl⟩
def fX9_byteAt (N : Nat) (G : pG) (a0 : Nat) (a1 : Int32) (σ : pS) : Option (Int32) := if a1 < 0 then (some (-1 : Int32)) else (if (σ.1 a0 0) ≤ a1 then (some (-1 : Int32)) else (if (400 : Int32) ≤ a1 then (some (-1 : Int32)) else (ck (inB a1 (pN G (pR G a0 5))) (some ((gA σ (pR G a0 5) a1) &&& (255 : Int32))))))
set_option maxRecDepth 100000 in
set_option maxHeartbeats 4000000 in
theorem tX9_byteAt {N : Nat} {G : pG} {SK : Nat → Nat} {a0 : Nat} {a1 : Int32} {σ : pS} {r : Int32} (hW : WT G) (i0 : Is G a0 8) (h : fX9_byteAt N G a0 a1 σ = some r) : Dn miX9_byteAt yX9_byteAt 1 G SK [.ref a0, .int a1] σ (some (.int r)) σ := by
  unfold fX9_byteAt at h
  refine dn_of (lv := [some (.ref a0), some (.int a1)]) (by decide) rfl rfl (Nat.le_of_ble_eq_true rfl) rfl ?_
  refine ev_iload_n dc_X9_byteAt_0 rfl ?_
  refine ev_if_lt (tgt := 32) dc_X9_byteAt_1 (by decide) h (fun h => ?_) (fun h => ?_)
  · refine ev_iconst (v := (-1)) dc_X9_byteAt_32 (by decide) ?_
    cases h
    exact ev_iret dc_X9_byteAt_33 rfl rfl rfl
  · refine ev_iload_n dc_X9_byteAt_4 rfl ?_
    refine ev_aload_n dc_X9_byteAt_5 rfl ?_
    refine ev_getI dc_X9_byteAt_6 fi_X9_9 rfl i0 ?_
    refine ev_icmp_ge (tgt := 32) dc_X9_byteAt_9 (by decide) h (fun h => ?_) (fun h => ?_)
    · refine ev_iconst (v := (-1)) dc_X9_byteAt_32 (by decide) ?_
      cases h
      exact ev_iret dc_X9_byteAt_33 rfl rfl rfl
    · refine ev_iload_n dc_X9_byteAt_12 rfl ?_
      refine ev_sipush (v := 400) dc_X9_byteAt_13 (by decide) ?_
      refine ev_icmp_ge (tgt := 32) dc_X9_byteAt_16 (by decide) h (fun h => ?_) (fun h => ?_)
      · refine ev_iconst (v := (-1)) dc_X9_byteAt_32 (by decide) ?_
        cases h
        exact ev_iret dc_X9_byteAt_33 rfl rfl rfl
      · refine ev_aload_n dc_X9_byteAt_19 rfl ?_
        refine ev_getR dc_X9_byteAt_20 fi_X9_27 rfl i0 ?_
        refine ev_iload_n dc_X9_byteAt_23 rfl ?_
        refine ev_bald dc_X9_byteAt_24 (wt hW i0 5 rfl rfl) h (fun h => ?_)
        refine ev_sipush (v := 255) dc_X9_byteAt_25 (by decide) ?_
        refine ev_iand dc_X9_byteAt_28 ?_
        refine ev_goto (tgt := 33) dc_X9_byteAt_29 (by decide) ?_
        cases h
        exact ev_iret dc_X9_byteAt_33 rfl rfl rfl
theorem dc_X9_kindOf_0 : Dc miX9_kindOf 0 (.iload_n 0) 1 1 := ⟨by decide +kernel, rfl⟩
theorem dc_X9_kindOf_1 : Dc miX9_kindOf 1 (.iconst (-1)) 1 2 := ⟨by decide +kernel, rfl⟩
theorem dc_X9_kindOf_2 : Dc miX9_kindOf 2 (.if_icmp .ne 5) 3 5 := ⟨by decide +kernel, rfl⟩
theorem dc_X9_kindOf_5 : Dc miX9_kindOf 5 (.iconst 0) 1 6 := ⟨by decide +kernel, rfl⟩
theorem dc_X9_kindOf_6 : Dc miX9_kindOf 6 (.ireturn) 1 7 := ⟨by decide +kernel, rfl⟩
theorem dc_X9_kindOf_7 : Dc miX9_kindOf 7 (.iload_n 0) 1 8 := ⟨by decide +kernel, rfl⟩
theorem dc_X9_kindOf_8 : Dc miX9_kindOf 8 (.bipush 97) 2 10 := ⟨by decide +kernel, rfl⟩
theorem dc_X9_kindOf_10 : Dc miX9_kindOf 10 (.if_icmp .lt 11) 3 13 := ⟨by decide +kernel, rfl⟩
theorem dc_X9_kindOf_13 : Dc miX9_kindOf 13 (.iload_n 0) 1 14 := ⟨by decide +kernel, rfl⟩
theorem dc_X9_kindOf_14 : Dc miX9_kindOf 14 (.bipush 122) 2 16 := ⟨by decide +kernel, rfl⟩
theorem dc_X9_kindOf_16 : Dc miX9_kindOf 16 (.if_icmp .gt 5) 3 19 := ⟨by decide +kernel, rfl⟩
theorem dc_X9_kindOf_19 : Dc miX9_kindOf 19 (.iconst 1) 1 20 := ⟨by decide +kernel, rfl⟩
theorem dc_X9_kindOf_20 : Dc miX9_kindOf 20 (.ireturn) 1 21 := ⟨by decide +kernel, rfl⟩
theorem dc_X9_kindOf_21 : Dc miX9_kindOf 21 (.iload_n 0) 1 22 := ⟨by decide +kernel, rfl⟩
theorem dc_X9_kindOf_22 : Dc miX9_kindOf 22 (.bipush 48) 2 24 := ⟨by decide +kernel, rfl⟩
theorem dc_X9_kindOf_24 : Dc miX9_kindOf 24 (.if_icmp .lt 13) 3 27 := ⟨by decide +kernel, rfl⟩
theorem dc_X9_kindOf_27 : Dc miX9_kindOf 27 (.iload_n 0) 1 28 := ⟨by decide +kernel, rfl⟩
theorem dc_X9_kindOf_28 : Dc miX9_kindOf 28 (.bipush 57) 2 30 := ⟨by decide +kernel, rfl⟩
theorem dc_X9_kindOf_30 : Dc miX9_kindOf 30 (.if_icmp .gt 7) 3 33 := ⟨by decide +kernel, rfl⟩
theorem dc_X9_kindOf_33 : Dc miX9_kindOf 33 (.iconst 2) 1 34 := ⟨by decide +kernel, rfl⟩
theorem dc_X9_kindOf_34 : Dc miX9_kindOf 34 (.goto 4) 3 37 := ⟨by decide +kernel, rfl⟩
theorem dc_X9_kindOf_37 : Dc miX9_kindOf 37 (.iconst 3) 1 38 := ⟨by decide +kernel, rfl⟩
theorem dc_X9_kindOf_38 : Dc miX9_kindOf 38 (.ireturn) 1 39 := ⟨by decide +kernel, rfl⟩
def fX9_kindOf_b21 (N : Nat) (G : pG) (a0 : Int32) (σ : pS) : Option (Int32) := if a0 < (48 : Int32) then (some (3 : Int32)) else (if (57 : Int32) < a0 then (some (3 : Int32)) else (some (2 : Int32)))
set_option maxRecDepth 100000 in
set_option maxHeartbeats 4000000 in
theorem tX9_kindOf_b21 {N : Nat} {G : pG} {SK : Nat → Nat} {a0 : Int32} {σ : pS} {r : Int32} (hW : WT G) (h : fX9_kindOf_b21 N G a0 σ = some r) : Ev miX9_kindOf (1, 0, 0) G (Zp G (some (.int r)) σ) SK (0, 0) 21 [some (.int a0)] [] σ := by
  unfold fX9_kindOf_b21 at h
  refine ev_iload_n dc_X9_kindOf_21 rfl ?_
  refine ev_bipush (v := 48) dc_X9_kindOf_22 (by decide) ?_
  refine ev_icmp_lt (tgt := 37) dc_X9_kindOf_24 (by decide) h (fun h => ?_) (fun h => ?_)
  · refine ev_iconst (v := 3) dc_X9_kindOf_37 (by decide) ?_
    cases h
    exact ev_iret dc_X9_kindOf_38 rfl rfl rfl
  · refine ev_iload_n dc_X9_kindOf_27 rfl ?_
    refine ev_bipush (v := 57) dc_X9_kindOf_28 (by decide) ?_
    refine ev_icmp_gt (tgt := 37) dc_X9_kindOf_30 (by decide) h (fun h => ?_) (fun h => ?_)
    · refine ev_iconst (v := 3) dc_X9_kindOf_37 (by decide) ?_
      cases h
      exact ev_iret dc_X9_kindOf_38 rfl rfl rfl
    · refine ev_iconst (v := 2) dc_X9_kindOf_33 (by decide) ?_
      refine ev_goto (tgt := 38) dc_X9_kindOf_34 (by decide) ?_
      cases h
      exact ev_iret dc_X9_kindOf_38 rfl rfl rfl
def fX9_kindOf (N : Nat) (G : pG) (a0 : Int32) (σ : pS) : Option (Int32) := if a0 = (-1 : Int32) then (some (0 : Int32)) else (if a0 < (97 : Int32) then (fX9_kindOf_b21 N G a0 σ) else (if (122 : Int32) < a0 then (fX9_kindOf_b21 N G a0 σ) else (some (1 : Int32))))
set_option maxRecDepth 100000 in
set_option maxHeartbeats 4000000 in
theorem tX9_kindOf {N : Nat} {G : pG} {SK : Nat → Nat} {a0 : Int32} {σ : pS} {r : Int32} (hW : WT G) (h : fX9_kindOf N G a0 σ = some r) : Dn miX9_kindOf yX9_kindOf 1 G SK [.int a0] σ (some (.int r)) σ := by
  unfold fX9_kindOf at h
  refine dn_of (lv := [some (.int a0)]) (by decide) rfl rfl (Nat.le_of_ble_eq_true rfl) rfl ?_
  refine ev_iload_n dc_X9_kindOf_0 rfl ?_
  refine ev_iconst (v := (-1)) dc_X9_kindOf_1 (by decide) ?_
  refine ev_icmp_ne (tgt := 7) dc_X9_kindOf_2 (by decide) h (fun h => ?_) (fun h => ?_)
  · refine ev_iconst (v := 0) dc_X9_kindOf_5 (by decide) ?_
    cases h
    exact ev_iret dc_X9_kindOf_6 rfl rfl rfl
  · refine ev_iload_n dc_X9_kindOf_7 rfl ?_
    refine ev_bipush (v := 97) dc_X9_kindOf_8 (by decide) ?_
    refine ev_icmp_lt (tgt := 21) dc_X9_kindOf_10 (by decide) h (fun h => ?_) (fun h => ?_)
    · exact ev_sub (tX9_kindOf_b21 hW h) (And.intro rfl trivial)
    · refine ev_iload_n dc_X9_kindOf_13 rfl ?_
      refine ev_bipush (v := 122) dc_X9_kindOf_14 (by decide) ?_
      refine ev_icmp_gt (tgt := 21) dc_X9_kindOf_16 (by decide) h (fun h => ?_) (fun h => ?_)
      · exact ev_sub (tX9_kindOf_b21 hW h) (And.intro rfl trivial)
      · refine ev_iconst (v := 1) dc_X9_kindOf_19 (by decide) ?_
        cases h
        exact ev_iret dc_X9_kindOf_20 rfl rfl rfl
