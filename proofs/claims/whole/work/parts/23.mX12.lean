theorem dc_X12_habit_0 : Dc miX12_habit 0 (.aload_n 0) 1 1 := ⟨by decide +kernel, rfl⟩
theorem dc_X12_habit_1 : Dc miX12_habit 1 (.iconst 0) 1 2 := ⟨by decide +kernel, rfl⟩
theorem dc_X12_habit_2 : Dc miX12_habit 2 (.putfield 3) 3 5 := ⟨by decide +kernel, rfl⟩
theorem dc_X12_habit_5 : Dc miX12_habit 5 (.aload_n 0) 1 6 := ⟨by decide +kernel, rfl⟩
theorem dc_X12_habit_6 : Dc miX12_habit 6 (.aload_n 0) 1 7 := ⟨by decide +kernel, rfl⟩
theorem dc_X12_habit_7 : Dc miX12_habit 7 (.iload_n 1) 1 8 := ⟨by decide +kernel, rfl⟩
theorem dc_X12_habit_8 : Dc miX12_habit 8 (.invokevirtual 343) 3 11 := ⟨by decide +kernel, rfl⟩
theorem dc_X12_habit_11 : Dc miX12_habit 11 (.ifCond .ne 11) 3 14 := ⟨by decide +kernel, rfl⟩
theorem dc_X12_habit_14 : Dc miX12_habit 14 (.aload_n 0) 1 15 := ⟨by decide +kernel, rfl⟩
theorem dc_X12_habit_15 : Dc miX12_habit 15 (.iload_n 2) 1 16 := ⟨by decide +kernel, rfl⟩
theorem dc_X12_habit_16 : Dc miX12_habit 16 (.invokevirtual 346) 3 19 := ⟨by decide +kernel, rfl⟩
theorem dc_X12_habit_19 : Dc miX12_habit 19 (.ifCond .eq 7) 3 22 := ⟨by decide +kernel, rfl⟩
theorem dc_X12_habit_22 : Dc miX12_habit 22 (.iconst 1) 1 23 := ⟨by decide +kernel, rfl⟩
theorem dc_X12_habit_23 : Dc miX12_habit 23 (.goto 4) 3 26 := ⟨by decide +kernel, rfl⟩
theorem dc_X12_habit_26 : Dc miX12_habit 26 (.iconst 0) 1 27 := ⟨by decide +kernel, rfl⟩
theorem dc_X12_habit_27 : Dc miX12_habit 27 (.iconst 1) 1 28 := ⟨by decide +kernel, rfl⟩
theorem dc_X12_habit_28 : Dc miX12_habit 28 (.invokevirtual 274) 3 31 := ⟨by decide +kernel, rfl⟩
theorem dc_X12_habit_31 : Dc miX12_habit 31 (.ifCond .eq 5) 3 34 := ⟨by decide +kernel, rfl⟩
theorem dc_X12_habit_34 : Dc miX12_habit 34 (.iconst 0) 1 35 := ⟨by decide +kernel, rfl⟩
theorem dc_X12_habit_35 : Dc miX12_habit 35 (.ireturn) 1 36 := ⟨by decide +kernel, rfl⟩
theorem dc_X12_habit_36 : Dc miX12_habit 36 (.aload_n 0) 1 37 := ⟨by decide +kernel, rfl⟩
theorem dc_X12_habit_37 : Dc miX12_habit 37 (.invokevirtual 373) 3 40 := ⟨by decide +kernel, rfl⟩
theorem dc_X12_habit_40 : Dc miX12_habit 40 (.aload_n 0) 1 41 := ⟨by decide +kernel, rfl⟩
theorem dc_X12_habit_41 : Dc miX12_habit 41 (.iload_n 1) 1 42 := ⟨by decide +kernel, rfl⟩
theorem dc_X12_habit_42 : Dc miX12_habit 42 (.iconst 1) 1 43 := ⟨by decide +kernel, rfl⟩
theorem dc_X12_habit_43 : Dc miX12_habit 43 (.invokevirtual 62) 3 46 := ⟨by decide +kernel, rfl⟩
theorem dc_X12_habit_46 : Dc miX12_habit 46 (.istore_n 3) 1 47 := ⟨by decide +kernel, rfl⟩
theorem dc_X12_habit_47 : Dc miX12_habit 47 (.aload_n 0) 1 48 := ⟨by decide +kernel, rfl⟩
theorem dc_X12_habit_48 : Dc miX12_habit 48 (.getfield 13) 3 51 := ⟨by decide +kernel, rfl⟩
theorem dc_X12_habit_51 : Dc miX12_habit 51 (.bipush 37) 2 53 := ⟨by decide +kernel, rfl⟩
theorem dc_X12_habit_53 : Dc miX12_habit 53 (.iconst 3) 1 54 := ⟨by decide +kernel, rfl⟩
theorem dc_X12_habit_54 : Dc miX12_habit 54 (.iload_n 1) 1 55 := ⟨by decide +kernel, rfl⟩
theorem dc_X12_habit_55 : Dc miX12_habit 55 (.imul) 1 56 := ⟨by decide +kernel, rfl⟩
theorem dc_X12_habit_56 : Dc miX12_habit 56 (.iadd) 1 57 := ⟨by decide +kernel, rfl⟩
theorem dc_X12_habit_57 : Dc miX12_habit 57 (.iconst 1) 1 58 := ⟨by decide +kernel, rfl⟩
theorem dc_X12_habit_58 : Dc miX12_habit 58 (.iadd) 1 59 := ⟨by decide +kernel, rfl⟩
theorem dc_X12_habit_59 : Dc miX12_habit 59 (.iload_n 2) 1 60 := ⟨by decide +kernel, rfl⟩
theorem dc_X12_habit_60 : Dc miX12_habit 60 (.iastore) 1 61 := ⟨by decide +kernel, rfl⟩
theorem dc_X12_habit_61 : Dc miX12_habit 61 (.iload_n 3) 1 62 := ⟨by decide +kernel, rfl⟩
theorem dc_X12_habit_62 : Dc miX12_habit 62 (.ireturn) 1 63 := ⟨by decide +kernel, rfl⟩
def fX12_habit_b27 (N : Nat) (G : pG) (a0 : Nat) (a1 : Int32) (a2 : Int32) (y1 : Int32) (σ : pS) : Option (Int32 × pS) := (fX12_throwsIf N G a0 y1 (1 : Int32) σ).bind (fun q1 => if q1.1 = 0 then ((fX12_remembers N G a0 q1.2).bind (fun q2 => (fX12_ofWho N G a0 a1 (1 : Int32) q2).bind (fun q3 => ck (inB (((37 : Int32) + ((3 : Int32) * a1)) + (1 : Int32)) (pN G (pR G a0 1))) (some (q3, sA q2 (pR G a0 1) (((37 : Int32) + ((3 : Int32) * a1)) + (1 : Int32)) a2))))) else (some ((0 : Int32), q1.2)))
set_option maxRecDepth 100000 in
set_option maxHeartbeats 4000000 in
theorem tX12_habit_b27 {N : Nat} {G : pG} {SK : Nat → Nat} {a0 : Nat} {a1 : Int32} {a2 : Int32} {y1 : Int32} {σ : pS} {r : Int32 × pS} (hW : WT G) (i0 : Is G a0 11) (h : fX12_habit_b27 N G a0 a1 a2 y1 σ = some r) : Ev miX12_habit (3, 0, 0) G (Zp G (some (.int r.1)) r.2) SK (0, 0) 27 [some (.ref a0), some (.int a1), some (.int a2), none] [.int y1, .ref a0] σ := by
  unfold fX12_habit_b27 at h
  refine ev_iconst (v := 1) dc_X12_habit_27 (by decide) ?_
  obtain ⟨q1, hq1, h⟩ := Option.bind_eq_some_iff.mp h
  refine ev_callV (av := [.int y1, .int (1 : Int32)]) (st := []) (st1 := [.int q1.1]) dc_X12_habit_28 (tX12_throwsIf hW i0 hq1) mw_1784 cy_X12_throwsIf i0 (by decide) rfl rfl rfl rfl (Nat.le_of_ble_eq_true rfl) (Nat.le_of_ble_eq_true rfl) ⟨Nat.le_refl _, Nat.le_refl _⟩ ?_
  refine ev_if_eq (tgt := 36) dc_X12_habit_31 (by decide) h (fun h => ?_) (fun h => ?_)
  · refine ev_aload_n dc_X12_habit_36 rfl ?_
    obtain ⟨q2, hq2, h⟩ := Option.bind_eq_some_iff.mp h
    refine ev_callV (av := []) (st := []) (st1 := []) dc_X12_habit_37 (tX12_remembers hW i0 hq2) mw_1910 cy_X12_remembers i0 (by decide) rfl rfl rfl rfl (Nat.le_of_ble_eq_true rfl) (Nat.le_of_ble_eq_true rfl) ⟨Nat.le_refl _, Nat.le_refl _⟩ ?_
    refine ev_aload_n dc_X12_habit_40 rfl ?_
    refine ev_iload_n dc_X12_habit_41 rfl ?_
    refine ev_iconst (v := 1) dc_X12_habit_42 (by decide) ?_
    obtain ⟨q3, hq3, h⟩ := Option.bind_eq_some_iff.mp h
    refine ev_callV (av := [.int a1, .int (1 : Int32)]) (st := []) (st1 := [.int q3]) dc_X12_habit_43 (tX12_ofWho hW i0 hq3) mw_1886 cy_X12_ofWho i0 (by decide) rfl rfl rfl rfl (Nat.le_of_ble_eq_true rfl) (Nat.le_of_ble_eq_true rfl) ⟨Nat.le_refl _, Nat.le_refl _⟩ ?_
    refine ev_istore_n (lv' := [some (.ref a0), some (.int a1), some (.int a2), some (.int q3)]) dc_X12_habit_46 rfl (by decide) rfl ?_
    refine ev_aload_n dc_X12_habit_47 rfl ?_
    refine ev_getR dc_X12_habit_48 fi_X12_13 rfl i0 ?_
    refine ev_bipush (v := 37) dc_X12_habit_51 (by decide) ?_
    refine ev_iconst (v := 3) dc_X12_habit_53 (by decide) ?_
    refine ev_iload_n dc_X12_habit_54 rfl ?_
    refine ev_imul dc_X12_habit_55 ?_
    refine ev_iadd dc_X12_habit_56 ?_
    refine ev_iconst (v := 1) dc_X12_habit_57 (by decide) ?_
    refine ev_iadd dc_X12_habit_58 ?_
    refine ev_iload_n dc_X12_habit_59 rfl ?_
    refine ev_iast dc_X12_habit_60 (wt hW i0 1 rfl rfl) h (fun h => ?_)
    refine ev_iload_n dc_X12_habit_61 rfl ?_
    cases h
    exact ev_iret dc_X12_habit_62 rfl rfl rfl
  · refine ev_iconst (v := 0) dc_X12_habit_34 (by decide) ?_
    cases h
    exact ev_iret dc_X12_habit_35 rfl rfl rfl
def fX12_habit_b22 (N : Nat) (G : pG) (a0 : Nat) (a1 : Int32) (a2 : Int32) (σ : pS) : Option (Int32 × pS) := fX12_habit_b27 N G a0 a1 a2 (1 : Int32) σ
set_option maxRecDepth 100000 in
set_option maxHeartbeats 4000000 in
theorem tX12_habit_b22 {N : Nat} {G : pG} {SK : Nat → Nat} {a0 : Nat} {a1 : Int32} {a2 : Int32} {σ : pS} {r : Int32 × pS} (hW : WT G) (i0 : Is G a0 11) (h : fX12_habit_b22 N G a0 a1 a2 σ = some r) : Ev miX12_habit (3, 0, 0) G (Zp G (some (.int r.1)) r.2) SK (0, 0) 22 [some (.ref a0), some (.int a1), some (.int a2), none] [.ref a0] σ := by
  unfold fX12_habit_b22 at h
  refine ev_iconst (v := 1) dc_X12_habit_22 (by decide) ?_
  refine ev_goto (tgt := 27) dc_X12_habit_23 (by decide) ?_
  exact ev_sub (tX12_habit_b27 hW i0 h) (And.intro rfl (And.intro rfl (And.intro rfl trivial)))
def fX12_habit (N : Nat) (G : pG) (a0 : Nat) (a1 : Int32) (a2 : Int32) (σ : pS) : Option (Int32 × pS) := (fX12_noWho N G a0 a1 (putF σ a0 0 (0 : Int32))).bind (fun q4 => if q4 = 0 then ((fX12_noWord N G a0 a2 (putF σ a0 0 (0 : Int32))).bind (fun q5 => if q5 = 0 then (fX12_habit_b27 N G a0 a1 a2 (0 : Int32) (putF σ a0 0 (0 : Int32))) else (fX12_habit_b22 N G a0 a1 a2 (putF σ a0 0 (0 : Int32))))) else (fX12_habit_b22 N G a0 a1 a2 (putF σ a0 0 (0 : Int32))))
set_option maxRecDepth 100000 in
set_option maxHeartbeats 4000000 in
theorem tX12_habit {N : Nat} {G : pG} {SK : Nat → Nat} {a0 : Nat} {a1 : Int32} {a2 : Int32} {σ : pS} {r : Int32 × pS} (hW : WT G) (i0 : Is G a0 11) (h : fX12_habit N G a0 a1 a2 σ = some r) : Dn miX12_habit yX12_habit 3 G SK [.ref a0, .int a1, .int a2] σ (some (.int r.1)) r.2 := by
  unfold fX12_habit at h
  refine dn_of (lv := [some (.ref a0), some (.int a1), some (.int a2), none]) (by decide) rfl rfl (Nat.le_of_ble_eq_true rfl) rfl ?_
  refine ev_aload_n dc_X12_habit_0 rfl ?_
  refine ev_iconst (v := 0) dc_X12_habit_1 (by decide) ?_
  refine ev_putI dc_X12_habit_2 fi_X12_3 rfl i0 ?_
  refine ev_aload_n dc_X12_habit_5 rfl ?_
  refine ev_aload_n dc_X12_habit_6 rfl ?_
  refine ev_iload_n dc_X12_habit_7 rfl ?_
  obtain ⟨q4, hq4, h⟩ := Option.bind_eq_some_iff.mp h
  refine ev_callV (av := [.int a1]) (st := [.ref a0]) (st1 := [.int q4, .ref a0]) dc_X12_habit_8 (tX12_noWho hW i0 hq4) mw_1796 cy_X12_noWho i0 (by decide) rfl rfl rfl rfl (Nat.le_of_ble_eq_true rfl) (Nat.le_of_ble_eq_true rfl) ⟨Nat.le_refl _, Nat.le_refl _⟩ ?_
  refine ev_if_ne (tgt := 22) dc_X12_habit_11 (by decide) h (fun h => ?_) (fun h => ?_)
  · refine ev_aload_n dc_X12_habit_14 rfl ?_
    refine ev_iload_n dc_X12_habit_15 rfl ?_
    obtain ⟨q5, hq5, h⟩ := Option.bind_eq_some_iff.mp h
    refine ev_callV (av := [.int a2]) (st := [.ref a0]) (st1 := [.int q5, .ref a0]) dc_X12_habit_16 (tX12_noWord hW i0 hq5) mw_1800 cy_X12_noWord i0 (by decide) rfl rfl rfl rfl (Nat.le_of_ble_eq_true rfl) (Nat.le_of_ble_eq_true rfl) ⟨Nat.le_refl _, Nat.le_refl _⟩ ?_
    refine ev_if_eq (tgt := 26) dc_X12_habit_19 (by decide) h (fun h => ?_) (fun h => ?_)
    · refine ev_iconst (v := 0) dc_X12_habit_26 (by decide) ?_
      exact ev_sub (tX12_habit_b27 hW i0 h) (And.intro rfl (And.intro rfl (And.intro rfl trivial)))
    · exact ev_sub (tX12_habit_b22 hW i0 h) (And.intro rfl (And.intro rfl (And.intro rfl trivial)))
  · exact ev_sub (tX12_habit_b22 hW i0 h) (And.intro rfl (And.intro rfl (And.intro rfl trivial)))
theorem dc_X12_hides_0 : Dc miX12_hides 0 (.aload_n 0) 1 1 := ⟨by decide +kernel, rfl⟩
theorem dc_X12_hides_1 : Dc miX12_hides 1 (.iconst 0) 1 2 := ⟨by decide +kernel, rfl⟩
theorem dc_X12_hides_2 : Dc miX12_hides 2 (.putfield 3) 3 5 := ⟨by decide +kernel, rfl⟩
theorem dc_X12_hides_5 : Dc miX12_hides 5 (.iconst 0) 1 6 := ⟨by decide +kernel, rfl⟩
theorem dc_X12_hides_6 : Dc miX12_hides 6 (.istore_n 1) 1 7 := ⟨by decide +kernel, rfl⟩
theorem dc_X12_hides_7 : Dc miX12_hides 7 (.iconst 0) 1 8 := ⟨by decide +kernel, rfl⟩
theorem dc_X12_hides_8 : Dc miX12_hides 8 (.istore_n 2) 1 9 := ⟨by decide +kernel, rfl⟩
theorem dc_X12_hides_9 : Dc miX12_hides 9 (.iload_n 2) 1 10 := ⟨by decide +kernel, rfl⟩
theorem dc_X12_hides_10 : Dc miX12_hides 10 (.bipush 6) 2 12 := ⟨by decide +kernel, rfl⟩
theorem dc_X12_hides_12 : Dc miX12_hides 12 (.if_icmp .ge 41) 3 15 := ⟨by decide +kernel, rfl⟩
theorem dc_X12_hides_15 : Dc miX12_hides 15 (.iload_n 1) 1 16 := ⟨by decide +kernel, rfl⟩
theorem dc_X12_hides_16 : Dc miX12_hides 16 (.aload_n 0) 1 17 := ⟨by decide +kernel, rfl⟩
theorem dc_X12_hides_17 : Dc miX12_hides 17 (.aload_n 0) 1 18 := ⟨by decide +kernel, rfl⟩
theorem dc_X12_hides_18 : Dc miX12_hides 18 (.getfield 13) 3 21 := ⟨by decide +kernel, rfl⟩
theorem dc_X12_hides_21 : Dc miX12_hides 21 (.bipush 12) 2 23 := ⟨by decide +kernel, rfl⟩
theorem dc_X12_hides_23 : Dc miX12_hides 23 (.iaload) 1 24 := ⟨by decide +kernel, rfl⟩
theorem dc_X12_hides_24 : Dc miX12_hides 24 (.iload_n 2) 1 25 := ⟨by decide +kernel, rfl⟩
theorem dc_X12_hides_25 : Dc miX12_hides 25 (.invokevirtual 340) 3 28 := ⟨by decide +kernel, rfl⟩
theorem dc_X12_hides_28 : Dc miX12_hides 28 (.invokestatic 139) 3 31 := ⟨by decide +kernel, rfl⟩
theorem dc_X12_hides_31 : Dc miX12_hides 31 (.aload_n 0) 1 32 := ⟨by decide +kernel, rfl⟩
theorem dc_X12_hides_32 : Dc miX12_hides 32 (.invokevirtual 307) 3 35 := ⟨by decide +kernel, rfl⟩
theorem dc_X12_hides_35 : Dc miX12_hides 35 (.if_icmp .ge 9) 3 38 := ⟨by decide +kernel, rfl⟩
theorem dc_X12_hides_38 : Dc miX12_hides 38 (.iconst 1) 1 39 := ⟨by decide +kernel, rfl⟩
theorem dc_X12_hides_39 : Dc miX12_hides 39 (.iload_n 2) 1 40 := ⟨by decide +kernel, rfl⟩
theorem dc_X12_hides_40 : Dc miX12_hides 40 (.ishl) 1 41 := ⟨by decide +kernel, rfl⟩
theorem dc_X12_hides_41 : Dc miX12_hides 41 (.goto 4) 3 44 := ⟨by decide +kernel, rfl⟩
theorem dc_X12_hides_44 : Dc miX12_hides 44 (.iconst 0) 1 45 := ⟨by decide +kernel, rfl⟩
theorem dc_X12_hides_45 : Dc miX12_hides 45 (.ior) 1 46 := ⟨by decide +kernel, rfl⟩
theorem dc_X12_hides_46 : Dc miX12_hides 46 (.istore_n 1) 1 47 := ⟨by decide +kernel, rfl⟩
theorem dc_X12_hides_47 : Dc miX12_hides 47 (.iinc 2 1) 3 50 := ⟨by decide +kernel, rfl⟩
theorem dc_X12_hides_50 : Dc miX12_hides 50 (.goto (-41)) 3 53 := ⟨by decide +kernel, rfl⟩
theorem dc_X12_hides_53 : Dc miX12_hides 53 (.iload_n 1) 1 54 := ⟨by decide +kernel, rfl⟩
theorem dc_X12_hides_54 : Dc miX12_hides 54 (.ireturn) 1 55 := ⟨by decide +kernel, rfl⟩
def fX12_hides_b9 (N : Nat) (G : pG) (a0 : Nat) : (Int32 × Int32 × pS) → Option (Int32 × pS) := lp (fun (k9 : Int32 × Int32 × pS → Option (Int32 × pS)) (b : Int32 × Int32 × pS) => if (6 : Int32) ≤ b.2.1 then (some (b.1, b.2.2)) else (ck (inB (12 : Int32) (pN G (pR G a0 1))) ((fX12_staysOf N G a0 (gA b.2.2 (pR G a0 1) (12 : Int32)) b.2.1 b.2.2).bind (fun q1 => (fJ6_bitCount_0f7a4 N G q1 b.2.2).bind (fun q2 => (fX12_howMany N G a0 b.2.2).bind (fun q3 => if q3 ≤ q2 then (k9 (b.1 ||| (0 : Int32), b.2.1 + (1 : Int32), b.2.2)) else (k9 (b.1 ||| ((1 : Int32) <<< (b.2.1 &&& 31)), b.2.1 + (1 : Int32), b.2.2)))))))) N
set_option maxRecDepth 100000 in
set_option maxHeartbeats 4000000 in
theorem tX12_hides_b9 {N : Nat} {G : pG} {SK : Nat → Nat} {a0 : Nat} {b : Int32 × Int32 × pS} {r : Int32 × pS} (hW : WT G) (i0 : Is G a0 11) (h : fX12_hides_b9 N G a0 b = some r) : Ev miX12_hides (4, 0, 0) G (Zp G (some (.int r.1)) r.2) SK (0, 0) 9 [some (.ref a0), some (.int b.1), some (.int b.2.1)] [] b.2.2 := by
  unfold fX12_hides_b9 at h
  refine lp_ind (P := fun b r9 => r9 = r → Ev miX12_hides (4, 0, 0) G (Zp G (some (.int r.1)) r.2) SK (0, 0) 9 [some (.ref a0), some (.int b.1), some (.int b.2.1)] [] b.2.2) (fun k9 b r9 ih h9 e9 => ?_) N b r h rfl
  clear h
  subst e9
  have h := h9
  clear h9
  have hk9 : ∀ b : Int32 × Int32 × pS, k9 b = some r9 → Ev miX12_hides (4, 0, 0) G (Zp G (some (.int r9.1)) r9.2) SK (0, 0) 9 [some (.ref a0), some (.int b.1), some (.int b.2.1)] [] b.2.2 := fun b hb => ih b r9 hb rfl
  clear ih
  obtain ⟨x1, x2, σ⟩ := b
  dsimp only at h ⊢
  refine ev_iload_n dc_X12_hides_9 rfl ?_
  refine ev_bipush (v := 6) dc_X12_hides_10 (by decide) ?_
  refine ev_icmp_ge (tgt := 53) dc_X12_hides_12 (by decide) h (fun h => ?_) (fun h => ?_)
  · refine ev_iload_n dc_X12_hides_53 rfl ?_
    cases h
    exact ev_iret dc_X12_hides_54 rfl rfl rfl
  · refine ev_iload_n dc_X12_hides_15 rfl ?_
    refine ev_aload_n dc_X12_hides_16 rfl ?_
    refine ev_aload_n dc_X12_hides_17 rfl ?_
    refine ev_getR dc_X12_hides_18 fi_X12_13 rfl i0 ?_
    refine ev_bipush (v := 12) dc_X12_hides_21 (by decide) ?_
    refine ev_iald dc_X12_hides_23 (wt hW i0 1 rfl rfl) h (fun h => ?_)
    refine ev_iload_n dc_X12_hides_24 rfl ?_
    obtain ⟨q1, hq1, h⟩ := Option.bind_eq_some_iff.mp h
    refine ev_callV (av := [.int (gA σ (pR G a0 1) (12 : Int32)), .int x2]) (st := [.int x1]) (st1 := [.int q1, .int x1]) dc_X12_hides_25 (tX12_staysOf hW i0 hq1) mw_1853 cy_X12_staysOf i0 (by decide) rfl rfl rfl rfl (Nat.le_of_ble_eq_true rfl) (Nat.le_of_ble_eq_true rfl) ⟨Nat.le_refl _, Nat.le_refl _⟩ ?_
    obtain ⟨q2, hq2, h⟩ := Option.bind_eq_some_iff.mp h
    refine ev_callS (av := [.int q1]) (st := [.int x1]) (st1 := [.int q2, .int x1]) dc_X12_hides_28 (tJ6_bitCount_0f7a4 hW hq2) mw_1685 cs_J6_bitCount_0f7a4 rfl rfl rfl (Nat.le_of_ble_eq_true rfl) (Nat.le_of_ble_eq_true rfl) ⟨Nat.le_refl _, Nat.le_refl _⟩ ?_
    refine ev_aload_n dc_X12_hides_31 rfl ?_
    obtain ⟨q3, hq3, h⟩ := Option.bind_eq_some_iff.mp h
    refine ev_callV (av := []) (st := [.int q2, .int x1]) (st1 := [.int q3, .int q2, .int x1]) dc_X12_hides_32 (tX12_howMany hW i0 hq3) mw_1808 cy_X12_howMany i0 (by decide) rfl rfl rfl rfl (Nat.le_of_ble_eq_true rfl) (Nat.le_of_ble_eq_true rfl) ⟨Nat.le_refl _, Nat.le_refl _⟩ ?_
    refine ev_icmp_ge (tgt := 44) dc_X12_hides_35 (by decide) h (fun h => ?_) (fun h => ?_)
    · refine ev_iconst (v := 0) dc_X12_hides_44 (by decide) ?_
      refine ev_ior dc_X12_hides_45 ?_
      refine ev_istore_n (lv' := [some (.ref a0), some (.int (x1 ||| (0 : Int32))), some (.int x2)]) dc_X12_hides_46 rfl (by decide) rfl ?_
      refine ev_iinc (v := 1) (lv' := [some (.ref a0), some (.int (x1 ||| (0 : Int32))), some (.int (x2 + (1 : Int32)))]) dc_X12_hides_47 rfl (by decide) rfl (by decide) rfl ?_
      refine ev_goto (tgt := 9) dc_X12_hides_50 (by decide) ?_
      exact ev_sub (hk9 (x1 ||| (0 : Int32), x2 + (1 : Int32), σ) h) (And.intro rfl (And.intro rfl (And.intro rfl trivial)))
    · refine ev_iconst (v := 1) dc_X12_hides_38 (by decide) ?_
      refine ev_iload_n dc_X12_hides_39 rfl ?_
      refine ev_ishl dc_X12_hides_40 ?_
      refine ev_goto (tgt := 45) dc_X12_hides_41 (by decide) ?_
      refine ev_ior dc_X12_hides_45 ?_
      refine ev_istore_n (lv' := [some (.ref a0), some (.int (x1 ||| ((1 : Int32) <<< (x2 &&& 31)))), some (.int x2)]) dc_X12_hides_46 rfl (by decide) rfl ?_
      refine ev_iinc (v := 1) (lv' := [some (.ref a0), some (.int (x1 ||| ((1 : Int32) <<< (x2 &&& 31)))), some (.int (x2 + (1 : Int32)))]) dc_X12_hides_47 rfl (by decide) rfl (by decide) rfl ?_
      refine ev_goto (tgt := 9) dc_X12_hides_50 (by decide) ?_
      exact ev_sub (hk9 (x1 ||| ((1 : Int32) <<< (x2 &&& 31)), x2 + (1 : Int32), σ) h) (And.intro rfl (And.intro rfl (And.intro rfl trivial)))
def fX12_hides (N : Nat) (G : pG) (a0 : Nat) (σ : pS) : Option (Int32 × pS) := fX12_hides_b9 N G a0 ((0 : Int32), (0 : Int32), putF σ a0 0 (0 : Int32))
set_option maxRecDepth 100000 in
set_option maxHeartbeats 4000000 in
theorem tX12_hides {N : Nat} {G : pG} {SK : Nat → Nat} {a0 : Nat} {σ : pS} {r : Int32 × pS} (hW : WT G) (i0 : Is G a0 11) (h : fX12_hides N G a0 σ = some r) : Dn miX12_hides yX12_hides 4 G SK [.ref a0] σ (some (.int r.1)) r.2 := by
  unfold fX12_hides at h
  refine dn_of (lv := [some (.ref a0), none, none]) (by decide) rfl rfl (Nat.le_of_ble_eq_true rfl) rfl ?_
  refine ev_aload_n dc_X12_hides_0 rfl ?_
  refine ev_iconst (v := 0) dc_X12_hides_1 (by decide) ?_
  refine ev_putI dc_X12_hides_2 fi_X12_3 rfl i0 ?_
  refine ev_iconst (v := 0) dc_X12_hides_5 (by decide) ?_
  refine ev_istore_n (lv' := [some (.ref a0), some (.int (0 : Int32)), none]) dc_X12_hides_6 rfl (by decide) rfl ?_
  refine ev_iconst (v := 0) dc_X12_hides_7 (by decide) ?_
  refine ev_istore_n (lv' := [some (.ref a0), some (.int (0 : Int32)), some (.int (0 : Int32))]) dc_X12_hides_8 rfl (by decide) rfl ?_
  exact ev_sub (tX12_hides_b9 (b := ((0 : Int32), (0 : Int32), putF σ a0 0 (0 : Int32))) hW i0 h) (And.intro rfl (And.intro rfl (And.intro rfl trivial)))
theorem dc_X12_isNow_0 : Dc miX12_isNow 0 (.aload_n 0) 1 1 := ⟨by decide +kernel, rfl⟩
theorem dc_X12_isNow_1 : Dc miX12_isNow 1 (.getfield 13) 3 4 := ⟨by decide +kernel, rfl⟩
theorem dc_X12_isNow_4 : Dc miX12_isNow 4 (.bipush 11) 2 6 := ⟨by decide +kernel, rfl⟩
theorem dc_X12_isNow_6 : Dc miX12_isNow 6 (.iload_n 1) 1 7 := ⟨by decide +kernel, rfl⟩
theorem dc_X12_isNow_7 : Dc miX12_isNow 7 (.iastore) 1 8 := ⟨by decide +kernel, rfl⟩
theorem dc_X12_isNow_8 : Dc miX12_isNow 8 (.aload_n 0) 1 9 := ⟨by decide +kernel, rfl⟩
theorem dc_X12_isNow_9 : Dc miX12_isNow 9 (.getfield 13) 3 12 := ⟨by decide +kernel, rfl⟩
theorem dc_X12_isNow_12 : Dc miX12_isNow 12 (.bipush 12) 2 14 := ⟨by decide +kernel, rfl⟩
theorem dc_X12_isNow_14 : Dc miX12_isNow 14 (.iaload) 1 15 := ⟨by decide +kernel, rfl⟩
theorem dc_X12_isNow_15 : Dc miX12_isNow 15 (.iload_n 1) 1 16 := ⟨by decide +kernel, rfl⟩
theorem dc_X12_isNow_16 : Dc miX12_isNow 16 (.invokestatic 122) 3 19 := ⟨by decide +kernel, rfl⟩
theorem dc_X12_isNow_19 : Dc miX12_isNow 19 (.ifCond .ne 18) 3 22 := ⟨by decide +kernel, rfl⟩
theorem dc_X12_isNow_22 : Dc miX12_isNow 22 (.aload_n 0) 1 23 := ⟨by decide +kernel, rfl⟩
theorem dc_X12_isNow_23 : Dc miX12_isNow 23 (.getfield 13) 3 26 := ⟨by decide +kernel, rfl⟩
theorem dc_X12_isNow_26 : Dc miX12_isNow 26 (.bipush 12) 2 28 := ⟨by decide +kernel, rfl⟩
theorem dc_X12_isNow_28 : Dc miX12_isNow 28 (.iconst 1) 1 29 := ⟨by decide +kernel, rfl⟩
theorem dc_X12_isNow_29 : Dc miX12_isNow 29 (.aload_n 0) 1 30 := ⟨by decide +kernel, rfl⟩
theorem dc_X12_isNow_30 : Dc miX12_isNow 30 (.invokevirtual 66) 3 33 := ⟨by decide +kernel, rfl⟩
theorem dc_X12_isNow_33 : Dc miX12_isNow 33 (.ishl) 1 34 := ⟨by decide +kernel, rfl⟩
theorem dc_X12_isNow_34 : Dc miX12_isNow 34 (.iconst 1) 1 35 := ⟨by decide +kernel, rfl⟩
theorem dc_X12_isNow_35 : Dc miX12_isNow 35 (.isub) 1 36 := ⟨by decide +kernel, rfl⟩
theorem dc_X12_isNow_36 : Dc miX12_isNow 36 (.iastore) 1 37 := ⟨by decide +kernel, rfl⟩
theorem dc_X12_isNow_37 : Dc miX12_isNow 37 (.return_) 1 38 := ⟨by decide +kernel, rfl⟩
def fX12_isNow (N : Nat) (G : pG) (a0 : Nat) (a1 : Int32) (σ : pS) : Option (pS) := ck (inB (11 : Int32) (pN G (pR G a0 1))) (ck (inB (12 : Int32) (pN G (pR G a0 1))) ((fX12_has N G (gA (sA σ (pR G a0 1) (11 : Int32) a1) (pR G a0 1) (12 : Int32)) a1 (sA σ (pR G a0 1) (11 : Int32) a1)).bind (fun q1 => if q1 = 0 then ((fX12_names N G a0 (sA σ (pR G a0 1) (11 : Int32) a1)).bind (fun q2 => ck (inB (12 : Int32) (pN G (pR G a0 1))) (some (sA (sA σ (pR G a0 1) (11 : Int32) a1) (pR G a0 1) (12 : Int32) (((1 : Int32) <<< (q2 &&& 31)) - (1 : Int32)))))) else (some (sA σ (pR G a0 1) (11 : Int32) a1)))))
set_option maxRecDepth 100000 in
set_option maxHeartbeats 4000000 in
theorem tX12_isNow {N : Nat} {G : pG} {SK : Nat → Nat} {a0 : Nat} {a1 : Int32} {σ : pS} {r : pS} (hW : WT G) (i0 : Is G a0 11) (h : fX12_isNow N G a0 a1 σ = some r) : Dn miX12_isNow yX12_isNow 2 G SK [.ref a0, .int a1] σ none r := by
  unfold fX12_isNow at h
  refine dn_of (lv := [some (.ref a0), some (.int a1)]) (by decide) rfl rfl (Nat.le_of_ble_eq_true rfl) rfl ?_
  refine ev_aload_n dc_X12_isNow_0 rfl ?_
  refine ev_getR dc_X12_isNow_1 fi_X12_13 rfl i0 ?_
  refine ev_bipush (v := 11) dc_X12_isNow_4 (by decide) ?_
  refine ev_iload_n dc_X12_isNow_6 rfl ?_
  refine ev_iast dc_X12_isNow_7 (wt hW i0 1 rfl rfl) h (fun h => ?_)
  refine ev_aload_n dc_X12_isNow_8 rfl ?_
  refine ev_getR dc_X12_isNow_9 fi_X12_13 rfl i0 ?_
  refine ev_bipush (v := 12) dc_X12_isNow_12 (by decide) ?_
  refine ev_iald dc_X12_isNow_14 (wt hW i0 1 rfl rfl) h (fun h => ?_)
  refine ev_iload_n dc_X12_isNow_15 rfl ?_
  obtain ⟨q1, hq1, h⟩ := Option.bind_eq_some_iff.mp h
  refine ev_callS (av := [.int (gA (sA σ (pR G a0 1) (11 : Int32) a1) (pR G a0 1) (12 : Int32)), .int a1]) (st := []) (st1 := [.int q1]) dc_X12_isNow_16 (tX12_has hW hq1) mw_1659 cs_X12_has rfl rfl rfl (Nat.le_of_ble_eq_true rfl) (Nat.le_of_ble_eq_true rfl) ⟨Nat.le_refl _, Nat.le_refl _⟩ ?_
  refine ev_if_ne (tgt := 37) dc_X12_isNow_19 (by decide) h (fun h => ?_) (fun h => ?_)
  · refine ev_aload_n dc_X12_isNow_22 rfl ?_
    refine ev_getR dc_X12_isNow_23 fi_X12_13 rfl i0 ?_
    refine ev_bipush (v := 12) dc_X12_isNow_26 (by decide) ?_
    refine ev_iconst (v := 1) dc_X12_isNow_28 (by decide) ?_
    refine ev_aload_n dc_X12_isNow_29 rfl ?_
    obtain ⟨q2, hq2, h⟩ := Option.bind_eq_some_iff.mp h
    refine ev_callV (av := []) (st := [.int (1 : Int32), .int (12 : Int32), .ref (pR G a0 1)]) (st1 := [.int q2, .int (1 : Int32), .int (12 : Int32), .ref (pR G a0 1)]) dc_X12_isNow_30 (tX12_names hW i0 hq2) mw_1648 cy_X12_names i0 (by decide) rfl rfl rfl rfl (Nat.le_of_ble_eq_true rfl) (Nat.le_of_ble_eq_true rfl) ⟨Nat.le_refl _, Nat.le_refl _⟩ ?_
    refine ev_ishl dc_X12_isNow_33 ?_
    refine ev_iconst (v := 1) dc_X12_isNow_34 (by decide) ?_
    refine ev_isub dc_X12_isNow_35 ?_
    refine ev_iast dc_X12_isNow_36 (wt hW i0 1 rfl rfl) h (fun h => ?_)
    cases h
    exact ev_vret dc_X12_isNow_37 rfl rfl rfl
  · cases h
    exact ev_vret dc_X12_isNow_37 rfl rfl rfl
theorem dc_X12_noName_0 : Dc miX12_noName 0 (.iload_n 1) 1 1 := ⟨by decide +kernel, rfl⟩
theorem dc_X12_noName_1 : Dc miX12_noName 1 (.iconst 0) 1 2 := ⟨by decide +kernel, rfl⟩
theorem dc_X12_noName_2 : Dc miX12_noName 2 (.aload_n 0) 1 3 := ⟨by decide +kernel, rfl⟩
theorem dc_X12_noName_3 : Dc miX12_noName 3 (.invokevirtual 66) 3 6 := ⟨by decide +kernel, rfl⟩
theorem dc_X12_noName_6 : Dc miX12_noName 6 (.iconst 1) 1 7 := ⟨by decide +kernel, rfl⟩
theorem dc_X12_noName_7 : Dc miX12_noName 7 (.isub) 1 8 := ⟨by decide +kernel, rfl⟩
theorem dc_X12_noName_8 : Dc miX12_noName 8 (.invokestatic 70) 3 11 := ⟨by decide +kernel, rfl⟩
theorem dc_X12_noName_11 : Dc miX12_noName 11 (.ifCond .ne 7) 3 14 := ⟨by decide +kernel, rfl⟩
theorem dc_X12_noName_14 : Dc miX12_noName 14 (.iconst 1) 1 15 := ⟨by decide +kernel, rfl⟩
theorem dc_X12_noName_15 : Dc miX12_noName 15 (.goto 4) 3 18 := ⟨by decide +kernel, rfl⟩
theorem dc_X12_noName_18 : Dc miX12_noName 18 (.iconst 0) 1 19 := ⟨by decide +kernel, rfl⟩
theorem dc_X12_noName_19 : Dc miX12_noName 19 (.ireturn) 1 20 := ⟨by decide +kernel, rfl⟩
def fX12_noName (N : Nat) (G : pG) (a0 : Nat) (a1 : Int32) (σ : pS) : Option (Int32) := (fX12_names N G a0 σ).bind (fun q1 => (fX12_in N G a1 (0 : Int32) (q1 - (1 : Int32)) σ).bind (fun q2 => if q2 = 0 then (some (1 : Int32)) else (some (0 : Int32))))
set_option maxRecDepth 100000 in
set_option maxHeartbeats 4000000 in
theorem tX12_noName {N : Nat} {G : pG} {SK : Nat → Nat} {a0 : Nat} {a1 : Int32} {σ : pS} {r : Int32} (hW : WT G) (i0 : Is G a0 11) (h : fX12_noName N G a0 a1 σ = some r) : Dn miX12_noName yX12_noName 2 G SK [.ref a0, .int a1] σ (some (.int r)) σ := by
  unfold fX12_noName at h
  refine dn_of (lv := [some (.ref a0), some (.int a1)]) (by decide) rfl rfl (Nat.le_of_ble_eq_true rfl) rfl ?_
  refine ev_iload_n dc_X12_noName_0 rfl ?_
  refine ev_iconst (v := 0) dc_X12_noName_1 (by decide) ?_
  refine ev_aload_n dc_X12_noName_2 rfl ?_
  obtain ⟨q1, hq1, h⟩ := Option.bind_eq_some_iff.mp h
  refine ev_callV (av := []) (st := [.int (0 : Int32), .int a1]) (st1 := [.int q1, .int (0 : Int32), .int a1]) dc_X12_noName_3 (tX12_names hW i0 hq1) mw_1648 cy_X12_names i0 (by decide) rfl rfl rfl rfl (Nat.le_of_ble_eq_true rfl) (Nat.le_of_ble_eq_true rfl) ⟨Nat.le_refl _, Nat.le_refl _⟩ ?_
  refine ev_iconst (v := 1) dc_X12_noName_6 (by decide) ?_
  refine ev_isub dc_X12_noName_7 ?_
  obtain ⟨q2, hq2, h⟩ := Option.bind_eq_some_iff.mp h
  refine ev_callS (av := [.int a1, .int (0 : Int32), .int (q1 - (1 : Int32))]) (st := []) (st1 := [.int q2]) dc_X12_noName_8 (tX12_in hW hq2) mw_1656 cs_X12_in rfl rfl rfl (Nat.le_of_ble_eq_true rfl) (Nat.le_of_ble_eq_true rfl) ⟨Nat.le_refl _, Nat.le_refl _⟩ ?_
  refine ev_if_ne (tgt := 18) dc_X12_noName_11 (by decide) h (fun h => ?_) (fun h => ?_)
  · refine ev_iconst (v := 1) dc_X12_noName_14 (by decide) ?_
    refine ev_goto (tgt := 19) dc_X12_noName_15 (by decide) ?_
    cases h
    exact ev_zretc dc_X12_noName_19 rfl rfl rfl rfl
  · refine ev_iconst (v := 0) dc_X12_noName_18 (by decide) ?_
    cases h
    exact ev_zretc dc_X12_noName_19 rfl rfl rfl rfl
theorem dc_X12_his_0 : Dc miX12_his 0 (.aload_n 0) 1 1 := ⟨by decide +kernel, rfl⟩
theorem dc_X12_his_1 : Dc miX12_his 1 (.iconst 0) 1 2 := ⟨by decide +kernel, rfl⟩
theorem dc_X12_his_2 : Dc miX12_his 2 (.putfield 3) 3 5 := ⟨by decide +kernel, rfl⟩
theorem dc_X12_his_5 : Dc miX12_his 5 (.aload_n 0) 1 6 := ⟨by decide +kernel, rfl⟩
theorem dc_X12_his_6 : Dc miX12_his 6 (.aload_n 0) 1 7 := ⟨by decide +kernel, rfl⟩
theorem dc_X12_his_7 : Dc miX12_his 7 (.iload_n 1) 1 8 := ⟨by decide +kernel, rfl⟩
theorem dc_X12_his_8 : Dc miX12_his 8 (.invokevirtual 382) 3 11 := ⟨by decide +kernel, rfl⟩
theorem dc_X12_his_11 : Dc miX12_his 11 (.iconst 1) 1 12 := ⟨by decide +kernel, rfl⟩
theorem dc_X12_his_12 : Dc miX12_his 12 (.invokevirtual 274) 3 15 := ⟨by decide +kernel, rfl⟩
theorem dc_X12_his_15 : Dc miX12_his 15 (.ifCond .eq 5) 3 18 := ⟨by decide +kernel, rfl⟩
theorem dc_X12_his_18 : Dc miX12_his 18 (.iconst 0) 1 19 := ⟨by decide +kernel, rfl⟩
theorem dc_X12_his_19 : Dc miX12_his 19 (.ireturn) 1 20 := ⟨by decide +kernel, rfl⟩
theorem dc_X12_his_20 : Dc miX12_his 20 (.aload_n 0) 1 21 := ⟨by decide +kernel, rfl⟩
theorem dc_X12_his_21 : Dc miX12_his 21 (.invokevirtual 373) 3 24 := ⟨by decide +kernel, rfl⟩
theorem dc_X12_his_24 : Dc miX12_his 24 (.aload_n 0) 1 25 := ⟨by decide +kernel, rfl⟩
theorem dc_X12_his_25 : Dc miX12_his 25 (.getfield 13) 3 28 := ⟨by decide +kernel, rfl⟩
theorem dc_X12_his_28 : Dc miX12_his 28 (.bipush 11) 2 30 := ⟨by decide +kernel, rfl⟩
theorem dc_X12_his_30 : Dc miX12_his 30 (.iaload) 1 31 := ⟨by decide +kernel, rfl⟩
theorem dc_X12_his_31 : Dc miX12_his 31 (.istore_n 2) 1 32 := ⟨by decide +kernel, rfl⟩
theorem dc_X12_his_32 : Dc miX12_his 32 (.aload_n 0) 1 33 := ⟨by decide +kernel, rfl⟩
theorem dc_X12_his_33 : Dc miX12_his 33 (.iload_n 1) 1 34 := ⟨by decide +kernel, rfl⟩
theorem dc_X12_his_34 : Dc miX12_his 34 (.invokevirtual 153) 3 37 := ⟨by decide +kernel, rfl⟩
theorem dc_X12_his_37 : Dc miX12_his 37 (.iload_n 2) 1 38 := ⟨by decide +kernel, rfl⟩
theorem dc_X12_his_38 : Dc miX12_his 38 (.ireturn) 1 39 := ⟨by decide +kernel, rfl⟩
def fX12_his (N : Nat) (G : pG) (a0 : Nat) (a1 : Int32) (σ : pS) : Option (Int32 × pS) := (fX12_noName N G a0 a1 (putF σ a0 0 (0 : Int32))).bind (fun q1 => (fX12_throwsIf N G a0 q1 (1 : Int32) (putF σ a0 0 (0 : Int32))).bind (fun q2 => if q2.1 = 0 then ((fX12_remembers N G a0 q2.2).bind (fun q3 => ck (inB (11 : Int32) (pN G (pR G a0 1))) ((fX12_isNow N G a0 a1 q3).bind (fun q4 => some (gA q3 (pR G a0 1) (11 : Int32), q4))))) else (some ((0 : Int32), q2.2))))
set_option maxRecDepth 100000 in
set_option maxHeartbeats 4000000 in
theorem tX12_his {N : Nat} {G : pG} {SK : Nat → Nat} {a0 : Nat} {a1 : Int32} {σ : pS} {r : Int32 × pS} (hW : WT G) (i0 : Is G a0 11) (h : fX12_his N G a0 a1 σ = some r) : Dn miX12_his yX12_his 3 G SK [.ref a0, .int a1] σ (some (.int r.1)) r.2 := by
  unfold fX12_his at h
  refine dn_of (lv := [some (.ref a0), some (.int a1), none]) (by decide) rfl rfl (Nat.le_of_ble_eq_true rfl) rfl ?_
  refine ev_aload_n dc_X12_his_0 rfl ?_
  refine ev_iconst (v := 0) dc_X12_his_1 (by decide) ?_
  refine ev_putI dc_X12_his_2 fi_X12_3 rfl i0 ?_
  refine ev_aload_n dc_X12_his_5 rfl ?_
  refine ev_aload_n dc_X12_his_6 rfl ?_
  refine ev_iload_n dc_X12_his_7 rfl ?_
  obtain ⟨q1, hq1, h⟩ := Option.bind_eq_some_iff.mp h
  refine ev_callV (av := [.int a1]) (st := [.ref a0]) (st1 := [.int q1, .ref a0]) dc_X12_his_8 (tX12_noName hW i0 hq1) mw_1946 cy_X12_noName i0 (by decide) rfl rfl rfl rfl (Nat.le_of_ble_eq_true rfl) (Nat.le_of_ble_eq_true rfl) ⟨Nat.le_refl _, Nat.le_refl _⟩ ?_
  refine ev_iconst (v := 1) dc_X12_his_11 (by decide) ?_
  obtain ⟨q2, hq2, h⟩ := Option.bind_eq_some_iff.mp h
  refine ev_callV (av := [.int q1, .int (1 : Int32)]) (st := []) (st1 := [.int q2.1]) dc_X12_his_12 (tX12_throwsIf hW i0 hq2) mw_1784 cy_X12_throwsIf i0 (by decide) rfl rfl rfl rfl (Nat.le_of_ble_eq_true rfl) (Nat.le_of_ble_eq_true rfl) ⟨Nat.le_refl _, Nat.le_refl _⟩ ?_
  refine ev_if_eq (tgt := 20) dc_X12_his_15 (by decide) h (fun h => ?_) (fun h => ?_)
  · refine ev_aload_n dc_X12_his_20 rfl ?_
    obtain ⟨q3, hq3, h⟩ := Option.bind_eq_some_iff.mp h
    refine ev_callV (av := []) (st := []) (st1 := []) dc_X12_his_21 (tX12_remembers hW i0 hq3) mw_1910 cy_X12_remembers i0 (by decide) rfl rfl rfl rfl (Nat.le_of_ble_eq_true rfl) (Nat.le_of_ble_eq_true rfl) ⟨Nat.le_refl _, Nat.le_refl _⟩ ?_
    refine ev_aload_n dc_X12_his_24 rfl ?_
    refine ev_getR dc_X12_his_25 fi_X12_13 rfl i0 ?_
    refine ev_bipush (v := 11) dc_X12_his_28 (by decide) ?_
    refine ev_iald dc_X12_his_30 (wt hW i0 1 rfl rfl) h (fun h => ?_)
    refine ev_istore_n (lv' := [some (.ref a0), some (.int a1), some (.int (gA q3 (pR G a0 1) (11 : Int32)))]) dc_X12_his_31 rfl (by decide) rfl ?_
    refine ev_aload_n dc_X12_his_32 rfl ?_
    refine ev_iload_n dc_X12_his_33 rfl ?_
    obtain ⟨q4, hq4, h⟩ := Option.bind_eq_some_iff.mp h
    refine ev_callV (av := [.int a1]) (st := []) (st1 := []) dc_X12_his_34 (tX12_isNow hW i0 hq4) mw_1730 cy_X12_isNow i0 (by decide) rfl rfl rfl rfl (Nat.le_of_ble_eq_true rfl) (Nat.le_of_ble_eq_true rfl) ⟨Nat.le_refl _, Nat.le_refl _⟩ ?_
    refine ev_iload_n dc_X12_his_37 rfl ?_
    cases h
    exact ev_iret dc_X12_his_38 rfl rfl rfl
  · refine ev_iconst (v := 0) dc_X12_his_18 (by decide) ?_
    cases h
    exact ev_iret dc_X12_his_19 rfl rfl rfl
theorem dc_X12_image_0 : Dc miX12_image 0 (.aload_n 0) 1 1 := ⟨by decide +kernel, rfl⟩
theorem dc_X12_image_1 : Dc miX12_image 1 (.iconst 0) 1 2 := ⟨by decide +kernel, rfl⟩
theorem dc_X12_image_2 : Dc miX12_image 2 (.putfield 3) 3 5 := ⟨by decide +kernel, rfl⟩
theorem dc_X12_image_5 : Dc miX12_image 5 (.iconst 0) 1 6 := ⟨by decide +kernel, rfl⟩
theorem dc_X12_image_6 : Dc miX12_image 6 (.istore_n 1) 1 7 := ⟨by decide +kernel, rfl⟩
theorem dc_X12_image_7 : Dc miX12_image 7 (.iload_n 1) 1 8 := ⟨by decide +kernel, rfl⟩
theorem dc_X12_image_8 : Dc miX12_image 8 (.sipush 1232) 3 11 := ⟨by decide +kernel, rfl⟩
theorem dc_X12_image_11 : Dc miX12_image 11 (.if_icmp .ge 21) 3 14 := ⟨by decide +kernel, rfl⟩
theorem dc_X12_image_14 : Dc miX12_image 14 (.aload_n 0) 1 15 := ⟨by decide +kernel, rfl⟩
theorem dc_X12_image_15 : Dc miX12_image 15 (.getfield 17) 3 18 := ⟨by decide +kernel, rfl⟩
theorem dc_X12_image_18 : Dc miX12_image 18 (.iload_n 1) 1 19 := ⟨by decide +kernel, rfl⟩
theorem dc_X12_image_19 : Dc miX12_image 19 (.aload_n 0) 1 20 := ⟨by decide +kernel, rfl⟩
theorem dc_X12_image_20 : Dc miX12_image 20 (.getfield 13) 3 23 := ⟨by decide +kernel, rfl⟩
theorem dc_X12_image_23 : Dc miX12_image 23 (.iload_n 1) 1 24 := ⟨by decide +kernel, rfl⟩
theorem dc_X12_image_24 : Dc miX12_image 24 (.iaload) 1 25 := ⟨by decide +kernel, rfl⟩
theorem dc_X12_image_25 : Dc miX12_image 25 (.iastore) 1 26 := ⟨by decide +kernel, rfl⟩
theorem dc_X12_image_26 : Dc miX12_image 26 (.iinc 1 1) 3 29 := ⟨by decide +kernel, rfl⟩
theorem dc_X12_image_29 : Dc miX12_image 29 (.goto (-22)) 3 32 := ⟨by decide +kernel, rfl⟩
theorem dc_X12_image_32 : Dc miX12_image 32 (.aload_n 0) 1 33 := ⟨by decide +kernel, rfl⟩
theorem dc_X12_image_33 : Dc miX12_image 33 (.iconst 1) 1 34 := ⟨by decide +kernel, rfl⟩
theorem dc_X12_image_34 : Dc miX12_image 34 (.putfield 55) 3 37 := ⟨by decide +kernel, rfl⟩
theorem dc_X12_image_37 : Dc miX12_image 37 (.return_) 1 38 := ⟨by decide +kernel, rfl⟩
def fX12_image_b7 (N : Nat) (G : pG) (a0 : Nat) : (Int32 × pS) → Option (pS) := lp (fun (k7 : Int32 × pS → Option (pS)) (b : Int32 × pS) => if (1232 : Int32) ≤ b.1 then (some (putF b.2 a0 6 (1 : Int32))) else (ck (inB b.1 (pN G (pR G a0 1))) (ck (inB b.1 (pN G (pR G a0 2))) (k7 (b.1 + (1 : Int32), sA b.2 (pR G a0 2) b.1 (gA b.2 (pR G a0 1) b.1)))))) N
set_option maxRecDepth 100000 in
set_option maxHeartbeats 4000000 in
theorem tX12_image_b7 {N : Nat} {G : pG} {SK : Nat → Nat} {a0 : Nat} {b : Int32 × pS} {r : pS} (hW : WT G) (i0 : Is G a0 11) (h : fX12_image_b7 N G a0 b = some r) : Ev miX12_image (1, 0, 0) G (Zp G none r) SK (0, 0) 7 [some (.ref a0), some (.int b.1)] [] b.2 := by
  unfold fX12_image_b7 at h
  refine lp_ind (P := fun b r9 => r9 = r → Ev miX12_image (1, 0, 0) G (Zp G none r) SK (0, 0) 7 [some (.ref a0), some (.int b.1)] [] b.2) (fun k7 b r9 ih h9 e9 => ?_) N b r h rfl
  clear h
  subst e9
  have h := h9
  clear h9
  have hk7 : ∀ b : Int32 × pS, k7 b = some r9 → Ev miX12_image (1, 0, 0) G (Zp G none r9) SK (0, 0) 7 [some (.ref a0), some (.int b.1)] [] b.2 := fun b hb => ih b r9 hb rfl
  clear ih
  obtain ⟨x1, σ⟩ := b
  dsimp only at h ⊢
  refine ev_iload_n dc_X12_image_7 rfl ?_
  refine ev_sipush (v := 1232) dc_X12_image_8 (by decide) ?_
  refine ev_icmp_ge (tgt := 32) dc_X12_image_11 (by decide) h (fun h => ?_) (fun h => ?_)
  · refine ev_aload_n dc_X12_image_32 rfl ?_
    refine ev_iconst (v := 1) dc_X12_image_33 (by decide) ?_
    refine ev_putW dc_X12_image_34 fi_X12_55 rfl rfl rfl i0 ?_
    cases h
    exact ev_vret dc_X12_image_37 rfl rfl rfl
  · refine ev_aload_n dc_X12_image_14 rfl ?_
    refine ev_getR dc_X12_image_15 fi_X12_17 rfl i0 ?_
    refine ev_iload_n dc_X12_image_18 rfl ?_
    refine ev_aload_n dc_X12_image_19 rfl ?_
    refine ev_getR dc_X12_image_20 fi_X12_13 rfl i0 ?_
    refine ev_iload_n dc_X12_image_23 rfl ?_
    refine ev_iald dc_X12_image_24 (wt hW i0 1 rfl rfl) h (fun h => ?_)
    refine ev_iast dc_X12_image_25 (wt hW i0 2 rfl rfl) h (fun h => ?_)
    refine ev_iinc (v := 1) (lv' := [some (.ref a0), some (.int (x1 + (1 : Int32)))]) dc_X12_image_26 rfl (by decide) rfl (by decide) rfl ?_
    refine ev_goto (tgt := 7) dc_X12_image_29 (by decide) ?_
    exact ev_sub (hk7 (x1 + (1 : Int32), sA σ (pR G a0 2) x1 (gA σ (pR G a0 1) x1)) h) (And.intro rfl (And.intro rfl trivial))
def fX12_image (N : Nat) (G : pG) (a0 : Nat) (σ : pS) : Option (pS) := fX12_image_b7 N G a0 ((0 : Int32), putF σ a0 0 (0 : Int32))
set_option maxRecDepth 100000 in
set_option maxHeartbeats 4000000 in
theorem tX12_image {N : Nat} {G : pG} {SK : Nat → Nat} {a0 : Nat} {σ : pS} {r : pS} (hW : WT G) (i0 : Is G a0 11) (h : fX12_image N G a0 σ = some r) : Dn miX12_image yX12_image 1 G SK [.ref a0] σ none r := by
  unfold fX12_image at h
  refine dn_of (lv := [some (.ref a0), none]) (by decide) rfl rfl (Nat.le_of_ble_eq_true rfl) rfl ?_
  refine ev_aload_n dc_X12_image_0 rfl ?_
  refine ev_iconst (v := 0) dc_X12_image_1 (by decide) ?_
  refine ev_putI dc_X12_image_2 fi_X12_3 rfl i0 ?_
  refine ev_iconst (v := 0) dc_X12_image_5 (by decide) ?_
  refine ev_istore_n (lv' := [some (.ref a0), some (.int (0 : Int32))]) dc_X12_image_6 rfl (by decide) rfl ?_
  exact ev_sub (tX12_image_b7 (b := ((0 : Int32), putF σ a0 0 (0 : Int32))) hW i0 h) (And.intro rfl (And.intro rfl trivial))
theorem dc_X12_isEnemy_0 : Dc miX12_isEnemy 0 (.aload_n 0) 1 1 := ⟨by decide +kernel, rfl⟩
theorem dc_X12_isEnemy_1 : Dc miX12_isEnemy 1 (.iload_n 1) 1 2 := ⟨by decide +kernel, rfl⟩
theorem dc_X12_isEnemy_2 : Dc miX12_isEnemy 2 (.iconst 0) 1 3 := ⟨by decide +kernel, rfl⟩
theorem dc_X12_isEnemy_3 : Dc miX12_isEnemy 3 (.invokevirtual 62) 3 6 := ⟨by decide +kernel, rfl⟩
theorem dc_X12_isEnemy_6 : Dc miX12_isEnemy 6 (.iconst 1) 1 7 := ⟨by decide +kernel, rfl⟩
theorem dc_X12_isEnemy_7 : Dc miX12_isEnemy 7 (.if_icmp .ne 15) 3 10 := ⟨by decide +kernel, rfl⟩
theorem dc_X12_isEnemy_10 : Dc miX12_isEnemy 10 (.aload_n 0) 1 11 := ⟨by decide +kernel, rfl⟩
theorem dc_X12_isEnemy_11 : Dc miX12_isEnemy 11 (.iload_n 1) 1 12 := ⟨by decide +kernel, rfl⟩
theorem dc_X12_isEnemy_12 : Dc miX12_isEnemy 12 (.invokevirtual 370) 3 15 := ⟨by decide +kernel, rfl⟩
theorem dc_X12_isEnemy_15 : Dc miX12_isEnemy 15 (.ifCond .eq 7) 3 18 := ⟨by decide +kernel, rfl⟩
theorem dc_X12_isEnemy_18 : Dc miX12_isEnemy 18 (.iconst 1) 1 19 := ⟨by decide +kernel, rfl⟩
theorem dc_X12_isEnemy_19 : Dc miX12_isEnemy 19 (.goto 4) 3 22 := ⟨by decide +kernel, rfl⟩
theorem dc_X12_isEnemy_22 : Dc miX12_isEnemy 22 (.iconst 0) 1 23 := ⟨by decide +kernel, rfl⟩
theorem dc_X12_isEnemy_23 : Dc miX12_isEnemy 23 (.ireturn) 1 24 := ⟨by decide +kernel, rfl⟩
def fX12_isEnemy (N : Nat) (G : pG) (a0 : Nat) (a1 : Int32) (σ : pS) : Option (Int32) := (fX12_ofWho N G a0 a1 (0 : Int32) σ).bind (fun q1 => if q1 = (1 : Int32) then ((fX12_isNear N G a0 a1 σ).bind (fun q2 => if q2 = 0 then (some (0 : Int32)) else (some (1 : Int32)))) else (some (0 : Int32)))
set_option maxRecDepth 100000 in
set_option maxHeartbeats 4000000 in
theorem tX12_isEnemy {N : Nat} {G : pG} {SK : Nat → Nat} {a0 : Nat} {a1 : Int32} {σ : pS} {r : Int32} (hW : WT G) (i0 : Is G a0 11) (h : fX12_isEnemy N G a0 a1 σ = some r) : Dn miX12_isEnemy yX12_isEnemy 3 G SK [.ref a0, .int a1] σ (some (.int r)) σ := by
  unfold fX12_isEnemy at h
  refine dn_of (lv := [some (.ref a0), some (.int a1)]) (by decide) rfl rfl (Nat.le_of_ble_eq_true rfl) rfl ?_
  refine ev_aload_n dc_X12_isEnemy_0 rfl ?_
  refine ev_iload_n dc_X12_isEnemy_1 rfl ?_
  refine ev_iconst (v := 0) dc_X12_isEnemy_2 (by decide) ?_
  obtain ⟨q1, hq1, h⟩ := Option.bind_eq_some_iff.mp h
  refine ev_callV (av := [.int a1, .int (0 : Int32)]) (st := []) (st1 := [.int q1]) dc_X12_isEnemy_3 (tX12_ofWho hW i0 hq1) mw_1886 cy_X12_ofWho i0 (by decide) rfl rfl rfl rfl (Nat.le_of_ble_eq_true rfl) (Nat.le_of_ble_eq_true rfl) ⟨Nat.le_refl _, Nat.le_refl _⟩ ?_
  refine ev_iconst (v := 1) dc_X12_isEnemy_6 (by decide) ?_
  refine ev_icmp_ne (tgt := 22) dc_X12_isEnemy_7 (by decide) h (fun h => ?_) (fun h => ?_)
  · refine ev_aload_n dc_X12_isEnemy_10 rfl ?_
    refine ev_iload_n dc_X12_isEnemy_11 rfl ?_
    obtain ⟨q2, hq2, h⟩ := Option.bind_eq_some_iff.mp h
    refine ev_callV (av := [.int a1]) (st := []) (st1 := [.int q2]) dc_X12_isEnemy_12 (tX12_isNear hW i0 hq2) mw_1906 cy_X12_isNear i0 (by decide) rfl rfl rfl rfl (Nat.le_of_ble_eq_true rfl) (Nat.le_of_ble_eq_true rfl) ⟨Nat.le_refl _, Nat.le_refl _⟩ ?_
    refine ev_if_eq (tgt := 22) dc_X12_isEnemy_15 (by decide) h (fun h => ?_) (fun h => ?_)
    · refine ev_iconst (v := 0) dc_X12_isEnemy_22 (by decide) ?_
      cases h
      exact ev_zretc dc_X12_isEnemy_23 rfl rfl rfl rfl
    · refine ev_iconst (v := 1) dc_X12_isEnemy_18 (by decide) ?_
      refine ev_goto (tgt := 23) dc_X12_isEnemy_19 (by decide) ?_
      cases h
      exact ev_zretc dc_X12_isEnemy_23 rfl rfl rfl rfl
  · refine ev_iconst (v := 0) dc_X12_isEnemy_22 (by decide) ?_
    cases h
    exact ev_zretc dc_X12_isEnemy_23 rfl rfl rfl rfl
theorem dc_X12_keep_0 : Dc miX12_keep 0 (.aload_n 0) 1 1 := ⟨by decide +kernel, rfl⟩
theorem dc_X12_keep_1 : Dc miX12_keep 1 (.iconst 0) 1 2 := ⟨by decide +kernel, rfl⟩
theorem dc_X12_keep_2 : Dc miX12_keep 2 (.putfield 3) 3 5 := ⟨by decide +kernel, rfl⟩
theorem dc_X12_keep_5 : Dc miX12_keep 5 (.aload_n 0) 1 6 := ⟨by decide +kernel, rfl⟩
theorem dc_X12_keep_6 : Dc miX12_keep 6 (.aload_n 0) 1 7 := ⟨by decide +kernel, rfl⟩
theorem dc_X12_keep_7 : Dc miX12_keep 7 (.iload_n 1) 1 8 := ⟨by decide +kernel, rfl⟩
theorem dc_X12_keep_8 : Dc miX12_keep 8 (.invokevirtual 343) 3 11 := ⟨by decide +kernel, rfl⟩
theorem dc_X12_keep_11 : Dc miX12_keep 11 (.iconst 1) 1 12 := ⟨by decide +kernel, rfl⟩
theorem dc_X12_keep_12 : Dc miX12_keep 12 (.invokevirtual 274) 3 15 := ⟨by decide +kernel, rfl⟩
theorem dc_X12_keep_15 : Dc miX12_keep 15 (.ifCond .eq 5) 3 18 := ⟨by decide +kernel, rfl⟩
theorem dc_X12_keep_18 : Dc miX12_keep 18 (.iconst 0) 1 19 := ⟨by decide +kernel, rfl⟩
theorem dc_X12_keep_19 : Dc miX12_keep 19 (.ireturn) 1 20 := ⟨by decide +kernel, rfl⟩
theorem dc_X12_keep_20 : Dc miX12_keep 20 (.aload_n 0) 1 21 := ⟨by decide +kernel, rfl⟩
theorem dc_X12_keep_21 : Dc miX12_keep 21 (.invokevirtual 373) 3 24 := ⟨by decide +kernel, rfl⟩
theorem dc_X12_keep_24 : Dc miX12_keep 24 (.aload_n 0) 1 25 := ⟨by decide +kernel, rfl⟩
theorem dc_X12_keep_25 : Dc miX12_keep 25 (.iload_n 1) 1 26 := ⟨by decide +kernel, rfl⟩
theorem dc_X12_keep_26 : Dc miX12_keep 26 (.invokevirtual 370) 3 29 := ⟨by decide +kernel, rfl⟩
theorem dc_X12_keep_29 : Dc miX12_keep 29 (.istore_n 3) 1 30 := ⟨by decide +kernel, rfl⟩
theorem dc_X12_keep_30 : Dc miX12_keep 30 (.aload_n 0) 1 31 := ⟨by decide +kernel, rfl⟩
theorem dc_X12_keep_31 : Dc miX12_keep 31 (.getfield 13) 3 34 := ⟨by decide +kernel, rfl⟩
theorem dc_X12_keep_34 : Dc miX12_keep 34 (.bipush 37) 2 36 := ⟨by decide +kernel, rfl⟩
theorem dc_X12_keep_36 : Dc miX12_keep 36 (.iconst 3) 1 37 := ⟨by decide +kernel, rfl⟩
theorem dc_X12_keep_37 : Dc miX12_keep 37 (.iload_n 1) 1 38 := ⟨by decide +kernel, rfl⟩
theorem dc_X12_keep_38 : Dc miX12_keep 38 (.imul) 1 39 := ⟨by decide +kernel, rfl⟩
theorem dc_X12_keep_39 : Dc miX12_keep 39 (.iadd) 1 40 := ⟨by decide +kernel, rfl⟩
theorem dc_X12_keep_40 : Dc miX12_keep 40 (.iconst 2) 1 41 := ⟨by decide +kernel, rfl⟩
theorem dc_X12_keep_41 : Dc miX12_keep 41 (.iadd) 1 42 := ⟨by decide +kernel, rfl⟩
theorem dc_X12_keep_42 : Dc miX12_keep 42 (.iload_n 2) 1 43 := ⟨by decide +kernel, rfl⟩
theorem dc_X12_keep_43 : Dc miX12_keep 43 (.ifCond .eq 7) 3 46 := ⟨by decide +kernel, rfl⟩
theorem dc_X12_keep_46 : Dc miX12_keep 46 (.iconst 1) 1 47 := ⟨by decide +kernel, rfl⟩
theorem dc_X12_keep_47 : Dc miX12_keep 47 (.goto 4) 3 50 := ⟨by decide +kernel, rfl⟩
theorem dc_X12_keep_50 : Dc miX12_keep 50 (.iconst 0) 1 51 := ⟨by decide +kernel, rfl⟩
theorem dc_X12_keep_51 : Dc miX12_keep 51 (.iastore) 1 52 := ⟨by decide +kernel, rfl⟩
theorem dc_X12_keep_52 : Dc miX12_keep 52 (.iload_n 3) 1 53 := ⟨by decide +kernel, rfl⟩
theorem dc_X12_keep_53 : Dc miX12_keep 53 (.iload_n 2) 1 54 := ⟨by decide +kernel, rfl⟩
theorem dc_X12_keep_54 : Dc miX12_keep 54 (.if_icmp .eq 7) 3 57 := ⟨by decide +kernel, rfl⟩
theorem dc_X12_keep_57 : Dc miX12_keep 57 (.iconst 1) 1 58 := ⟨by decide +kernel, rfl⟩
theorem dc_X12_keep_58 : Dc miX12_keep 58 (.goto 4) 3 61 := ⟨by decide +kernel, rfl⟩
theorem dc_X12_keep_61 : Dc miX12_keep 61 (.iconst 0) 1 62 := ⟨by decide +kernel, rfl⟩
theorem dc_X12_keep_62 : Dc miX12_keep 62 (.ireturn) 1 63 := ⟨by decide +kernel, rfl⟩
def fX12_keep_b51 (N : Nat) (G : pG) (a2 : Int32) (x3 : Int32) (y0 : Nat) (y1 : Int32) (y2 : Int32) (σ : pS) : Option (Int32 × pS) := ck (inB y1 (pN G y0)) (if x3 = a2 then (some ((0 : Int32), sA σ y0 y1 y2)) else (some ((1 : Int32), sA σ y0 y1 y2)))
set_option maxRecDepth 100000 in
set_option maxHeartbeats 4000000 in
theorem tX12_keep_b51 {N : Nat} {G : pG} {SK : Nat → Nat} {a2 : Int32} {x3 : Int32} {y0 : Nat} {y1 : Int32} {y2 : Int32} {σ : pS} {r : Int32 × pS} (hW : WT G) (w0 : Is G y0 13) (h : fX12_keep_b51 N G a2 x3 y0 y1 y2 σ = some r) : Ev miX12_keep (3, 0, 0) G (Zp G (some (.int r.1)) r.2) SK (0, 0) 51 [none, none, some (.int a2), some (.int x3)] [.int y2, .int y1, .ref y0] σ := by
  unfold fX12_keep_b51 at h
  refine ev_iast dc_X12_keep_51 w0 h (fun h => ?_)
  refine ev_iload_n dc_X12_keep_52 rfl ?_
  refine ev_iload_n dc_X12_keep_53 rfl ?_
  refine ev_icmp_eq (tgt := 61) dc_X12_keep_54 (by decide) h (fun h => ?_) (fun h => ?_)
  · refine ev_iconst (v := 0) dc_X12_keep_61 (by decide) ?_
    cases h
    exact ev_zretc dc_X12_keep_62 rfl rfl rfl rfl
  · refine ev_iconst (v := 1) dc_X12_keep_57 (by decide) ?_
    refine ev_goto (tgt := 62) dc_X12_keep_58 (by decide) ?_
    cases h
    exact ev_zretc dc_X12_keep_62 rfl rfl rfl rfl
def fX12_keep (N : Nat) (G : pG) (a0 : Nat) (a1 : Int32) (a2 : Int32) (σ : pS) : Option (Int32 × pS) := (fX12_noWho N G a0 a1 (putF σ a0 0 (0 : Int32))).bind (fun q1 => (fX12_throwsIf N G a0 q1 (1 : Int32) (putF σ a0 0 (0 : Int32))).bind (fun q2 => if q2.1 = 0 then ((fX12_remembers N G a0 q2.2).bind (fun q3 => (fX12_isNear N G a0 a1 q3).bind (fun q4 => if a2 = 0 then (fX12_keep_b51 N G a2 q4 (pR G a0 1) (((37 : Int32) + ((3 : Int32) * a1)) + (2 : Int32)) (0 : Int32) q3) else (fX12_keep_b51 N G a2 q4 (pR G a0 1) (((37 : Int32) + ((3 : Int32) * a1)) + (2 : Int32)) (1 : Int32) q3)))) else (some ((0 : Int32), q2.2))))
set_option maxRecDepth 100000 in
set_option maxHeartbeats 4000000 in
theorem tX12_keep {N : Nat} {G : pG} {SK : Nat → Nat} {a0 : Nat} {a1 : Int32} {a2 : Int32} {σ : pS} {r : Int32 × pS} (hW : WT G) (i0 : Is G a0 11) (h : fX12_keep N G a0 a1 a2 σ = some r) : Dn miX12_keep yX12_keep 3 G SK [.ref a0, .int a1, .int a2] σ (some (.int r.1)) r.2 := by
  unfold fX12_keep at h
  refine dn_of (lv := [some (.ref a0), some (.int a1), some (.int a2), none]) (by decide) rfl rfl (Nat.le_of_ble_eq_true rfl) rfl ?_
  refine ev_aload_n dc_X12_keep_0 rfl ?_
  refine ev_iconst (v := 0) dc_X12_keep_1 (by decide) ?_
  refine ev_putI dc_X12_keep_2 fi_X12_3 rfl i0 ?_
  refine ev_aload_n dc_X12_keep_5 rfl ?_
  refine ev_aload_n dc_X12_keep_6 rfl ?_
  refine ev_iload_n dc_X12_keep_7 rfl ?_
  obtain ⟨q1, hq1, h⟩ := Option.bind_eq_some_iff.mp h
  refine ev_callV (av := [.int a1]) (st := [.ref a0]) (st1 := [.int q1, .ref a0]) dc_X12_keep_8 (tX12_noWho hW i0 hq1) mw_1796 cy_X12_noWho i0 (by decide) rfl rfl rfl rfl (Nat.le_of_ble_eq_true rfl) (Nat.le_of_ble_eq_true rfl) ⟨Nat.le_refl _, Nat.le_refl _⟩ ?_
  refine ev_iconst (v := 1) dc_X12_keep_11 (by decide) ?_
  obtain ⟨q2, hq2, h⟩ := Option.bind_eq_some_iff.mp h
  refine ev_callV (av := [.int q1, .int (1 : Int32)]) (st := []) (st1 := [.int q2.1]) dc_X12_keep_12 (tX12_throwsIf hW i0 hq2) mw_1784 cy_X12_throwsIf i0 (by decide) rfl rfl rfl rfl (Nat.le_of_ble_eq_true rfl) (Nat.le_of_ble_eq_true rfl) ⟨Nat.le_refl _, Nat.le_refl _⟩ ?_
  refine ev_if_eq (tgt := 20) dc_X12_keep_15 (by decide) h (fun h => ?_) (fun h => ?_)
  · refine ev_aload_n dc_X12_keep_20 rfl ?_
    obtain ⟨q3, hq3, h⟩ := Option.bind_eq_some_iff.mp h
    refine ev_callV (av := []) (st := []) (st1 := []) dc_X12_keep_21 (tX12_remembers hW i0 hq3) mw_1910 cy_X12_remembers i0 (by decide) rfl rfl rfl rfl (Nat.le_of_ble_eq_true rfl) (Nat.le_of_ble_eq_true rfl) ⟨Nat.le_refl _, Nat.le_refl _⟩ ?_
    refine ev_aload_n dc_X12_keep_24 rfl ?_
    refine ev_iload_n dc_X12_keep_25 rfl ?_
    obtain ⟨q4, hq4, h⟩ := Option.bind_eq_some_iff.mp h
    refine ev_callV (av := [.int a1]) (st := []) (st1 := [.int q4]) dc_X12_keep_26 (tX12_isNear hW i0 hq4) mw_1906 cy_X12_isNear i0 (by decide) rfl rfl rfl rfl (Nat.le_of_ble_eq_true rfl) (Nat.le_of_ble_eq_true rfl) ⟨Nat.le_refl _, Nat.le_refl _⟩ ?_
    refine ev_istore_n (lv' := [some (.ref a0), some (.int a1), some (.int a2), some (.int q4)]) dc_X12_keep_29 rfl (by decide) rfl ?_
    refine ev_aload_n dc_X12_keep_30 rfl ?_
    refine ev_getR dc_X12_keep_31 fi_X12_13 rfl i0 ?_
    refine ev_bipush (v := 37) dc_X12_keep_34 (by decide) ?_
    refine ev_iconst (v := 3) dc_X12_keep_36 (by decide) ?_
    refine ev_iload_n dc_X12_keep_37 rfl ?_
    refine ev_imul dc_X12_keep_38 ?_
    refine ev_iadd dc_X12_keep_39 ?_
    refine ev_iconst (v := 2) dc_X12_keep_40 (by decide) ?_
    refine ev_iadd dc_X12_keep_41 ?_
    refine ev_iload_n dc_X12_keep_42 rfl ?_
    refine ev_if_eq (tgt := 50) dc_X12_keep_43 (by decide) h (fun h => ?_) (fun h => ?_)
    · refine ev_iconst (v := 0) dc_X12_keep_50 (by decide) ?_
      exact ev_sub (tX12_keep_b51 hW (wt hW i0 1 rfl rfl) h) (And.intro rfl (And.intro rfl trivial))
    · refine ev_iconst (v := 1) dc_X12_keep_46 (by decide) ?_
      refine ev_goto (tgt := 51) dc_X12_keep_47 (by decide) ?_
      exact ev_sub (tX12_keep_b51 hW (wt hW i0 1 rfl rfl) h) (And.intro rfl (And.intro rfl trivial))
  · refine ev_iconst (v := 0) dc_X12_keep_18 (by decide) ?_
    cases h
    exact ev_zretc dc_X12_keep_19 rfl rfl rfl rfl
theorem dc_X12_tillBy_0 : Dc miX12_tillBy 0 (.aload_n 0) 1 1 := ⟨by decide +kernel, rfl⟩
theorem dc_X12_tillBy_1 : Dc miX12_tillBy 1 (.iload_n 2) 1 2 := ⟨by decide +kernel, rfl⟩
theorem dc_X12_tillBy_2 : Dc miX12_tillBy 2 (.aload_n 0) 1 3 := ⟨by decide +kernel, rfl⟩
theorem dc_X12_tillBy_3 : Dc miX12_tillBy 3 (.getfield 13) 3 6 := ⟨by decide +kernel, rfl⟩
theorem dc_X12_tillBy_6 : Dc miX12_tillBy 6 (.bipush 9) 2 8 := ⟨by decide +kernel, rfl⟩
theorem dc_X12_tillBy_8 : Dc miX12_tillBy 8 (.iaload) 1 9 := ⟨by decide +kernel, rfl⟩
theorem dc_X12_tillBy_9 : Dc miX12_tillBy 9 (.iload_n 1) 1 10 := ⟨by decide +kernel, rfl⟩
theorem dc_X12_tillBy_10 : Dc miX12_tillBy 10 (.iadd) 1 11 := ⟨by decide +kernel, rfl⟩
theorem dc_X12_tillBy_11 : Dc miX12_tillBy 11 (.aload_n 0) 1 12 := ⟨by decide +kernel, rfl⟩
theorem dc_X12_tillBy_12 : Dc miX12_tillBy 12 (.invokevirtual 307) 3 15 := ⟨by decide +kernel, rfl⟩
theorem dc_X12_tillBy_15 : Dc miX12_tillBy 15 (.invokevirtual 310) 3 18 := ⟨by decide +kernel, rfl⟩
theorem dc_X12_tillBy_18 : Dc miX12_tillBy 18 (.aload_n 0) 1 19 := ⟨by decide +kernel, rfl⟩
theorem dc_X12_tillBy_19 : Dc miX12_tillBy 19 (.iload_n 3) 1 20 := ⟨by decide +kernel, rfl⟩
theorem dc_X12_tillBy_20 : Dc miX12_tillBy 20 (.iload 4) 2 22 := ⟨by decide +kernel, rfl⟩
theorem dc_X12_tillBy_22 : Dc miX12_tillBy 22 (.invokevirtual 355) 3 25 := ⟨by decide +kernel, rfl⟩
theorem dc_X12_tillBy_25 : Dc miX12_tillBy 25 (.istore 5) 2 27 := ⟨by decide +kernel, rfl⟩
theorem dc_X12_tillBy_27 : Dc miX12_tillBy 27 (.iload 5) 2 29 := ⟨by decide +kernel, rfl⟩
theorem dc_X12_tillBy_29 : Dc miX12_tillBy 29 (.aload_n 0) 1 30 := ⟨by decide +kernel, rfl⟩
theorem dc_X12_tillBy_30 : Dc miX12_tillBy 30 (.getfield 13) 3 33 := ⟨by decide +kernel, rfl⟩
theorem dc_X12_tillBy_33 : Dc miX12_tillBy 33 (.bipush 8) 2 35 := ⟨by decide +kernel, rfl⟩
theorem dc_X12_tillBy_35 : Dc miX12_tillBy 35 (.iaload) 1 36 := ⟨by decide +kernel, rfl⟩
theorem dc_X12_tillBy_36 : Dc miX12_tillBy 36 (.if_icmp .lt 7) 3 39 := ⟨by decide +kernel, rfl⟩
theorem dc_X12_tillBy_39 : Dc miX12_tillBy 39 (.iconst 1) 1 40 := ⟨by decide +kernel, rfl⟩
theorem dc_X12_tillBy_40 : Dc miX12_tillBy 40 (.goto 10) 3 43 := ⟨by decide +kernel, rfl⟩
theorem dc_X12_tillBy_43 : Dc miX12_tillBy 43 (.aload_n 0) 1 44 := ⟨by decide +kernel, rfl⟩
theorem dc_X12_tillBy_44 : Dc miX12_tillBy 44 (.iload_n 1) 1 45 := ⟨by decide +kernel, rfl⟩
theorem dc_X12_tillBy_45 : Dc miX12_tillBy 45 (.iload 5) 2 47 := ⟨by decide +kernel, rfl⟩
theorem dc_X12_tillBy_47 : Dc miX12_tillBy 47 (.invokevirtual 419) 3 50 := ⟨by decide +kernel, rfl⟩
theorem dc_X12_tillBy_50 : Dc miX12_tillBy 50 (.ireturn) 1 51 := ⟨by decide +kernel, rfl⟩
def fX12_tillBy (N : Nat) (G : pG) (a0 : Nat) (a1 : Int32) (a2 : Int32) (a3 : Int32) (a4 : Int32) (σ : pS) : Option (Int32 × pS) := ck (inB (9 : Int32) (pN G (pR G a0 1))) ((fX12_howMany N G a0 σ).bind (fun q1 => (fX12_looks N G a0 a2 ((gA σ (pR G a0 1) (9 : Int32)) + a1) q1 σ).bind (fun q2 => (fX12_behindWord N G a0 a3 a4 q2).bind (fun q3 => ck (inB (8 : Int32) (pN G (pR G a0 1))) (if q3.1 < (gA q3.2 (pR G a0 1) (8 : Int32)) then ((fX12_behindDeeds N G a0 a1 q3.1 q3.2).bind (fun q4 => some (q4.1, q4.2))) else (some ((1 : Int32), q3.2)))))))
set_option maxRecDepth 100000 in
set_option maxHeartbeats 4000000 in
theorem tX12_tillBy {N : Nat} {G : pG} {SK : Nat → Nat} {a0 : Nat} {a1 : Int32} {a2 : Int32} {a3 : Int32} {a4 : Int32} {σ : pS} {r : Int32 × pS} (hW : WT G) (i0 : Is G a0 11) (h : fX12_tillBy N G a0 a1 a2 a3 a4 σ = some r) : Dn miX12_tillBy yX12_tillBy 7 G SK [.ref a0, .int a1, .int a2, .int a3, .int a4] σ (some (.int r.1)) r.2 := by
  unfold fX12_tillBy at h
  refine dn_of (lv := [some (.ref a0), some (.int a1), some (.int a2), some (.int a3), some (.int a4), none]) (by decide) rfl rfl (Nat.le_of_ble_eq_true rfl) rfl ?_
  refine ev_aload_n dc_X12_tillBy_0 rfl ?_
  refine ev_iload_n dc_X12_tillBy_1 rfl ?_
  refine ev_aload_n dc_X12_tillBy_2 rfl ?_
  refine ev_getR dc_X12_tillBy_3 fi_X12_13 rfl i0 ?_
  refine ev_bipush (v := 9) dc_X12_tillBy_6 (by decide) ?_
  refine ev_iald dc_X12_tillBy_8 (wt hW i0 1 rfl rfl) h (fun h => ?_)
  refine ev_iload_n dc_X12_tillBy_9 rfl ?_
  refine ev_iadd dc_X12_tillBy_10 ?_
  refine ev_aload_n dc_X12_tillBy_11 rfl ?_
  obtain ⟨q1, hq1, h⟩ := Option.bind_eq_some_iff.mp h
  refine ev_callV (av := []) (st := [.int ((gA σ (pR G a0 1) (9 : Int32)) + a1), .int a2, .ref a0]) (st1 := [.int q1, .int ((gA σ (pR G a0 1) (9 : Int32)) + a1), .int a2, .ref a0]) dc_X12_tillBy_12 (tX12_howMany hW i0 hq1) mw_1808 cy_X12_howMany i0 (by decide) rfl rfl rfl rfl (Nat.le_of_ble_eq_true rfl) (Nat.le_of_ble_eq_true rfl) ⟨Nat.le_refl _, Nat.le_refl _⟩ ?_
  obtain ⟨q2, hq2, h⟩ := Option.bind_eq_some_iff.mp h
  refine ev_callV (av := [.int a2, .int ((gA σ (pR G a0 1) (9 : Int32)) + a1), .int q1]) (st := []) (st1 := []) dc_X12_tillBy_15 (tX12_looks hW i0 hq2) mw_1812 cy_X12_looks i0 (by decide) rfl rfl rfl rfl (Nat.le_of_ble_eq_true rfl) (Nat.le_of_ble_eq_true rfl) ⟨Nat.le_refl _, Nat.le_refl _⟩ ?_
  refine ev_aload_n dc_X12_tillBy_18 rfl ?_
  refine ev_iload_n dc_X12_tillBy_19 rfl ?_
  refine ev_iload dc_X12_tillBy_20 rfl ?_
  obtain ⟨q3, hq3, h⟩ := Option.bind_eq_some_iff.mp h
  refine ev_callV (av := [.int a3, .int a4]) (st := []) (st1 := [.int q3.1]) dc_X12_tillBy_22 (tX12_behindWord hW i0 hq3) mw_1857 cy_X12_behindWord i0 (by decide) rfl rfl rfl rfl (Nat.le_of_ble_eq_true rfl) (Nat.le_of_ble_eq_true rfl) ⟨Nat.le_refl _, Nat.le_refl _⟩ ?_
  refine ev_istore (lv' := [some (.ref a0), some (.int a1), some (.int a2), some (.int a3), some (.int a4), some (.int q3.1)]) dc_X12_tillBy_25 rfl (by decide) rfl ?_
  refine ev_iload dc_X12_tillBy_27 rfl ?_
  refine ev_aload_n dc_X12_tillBy_29 rfl ?_
  refine ev_getR dc_X12_tillBy_30 fi_X12_13 rfl i0 ?_
  refine ev_bipush (v := 8) dc_X12_tillBy_33 (by decide) ?_
  refine ev_iald dc_X12_tillBy_35 (wt hW i0 1 rfl rfl) h (fun h => ?_)
  refine ev_icmp_lt (tgt := 43) dc_X12_tillBy_36 (by decide) h (fun h => ?_) (fun h => ?_)
  · refine ev_aload_n dc_X12_tillBy_43 rfl ?_
    refine ev_iload_n dc_X12_tillBy_44 rfl ?_
    refine ev_iload dc_X12_tillBy_45 rfl ?_
    obtain ⟨q4, hq4, h⟩ := Option.bind_eq_some_iff.mp h
    refine ev_callV (av := [.int a1, .int q3.1]) (st := []) (st1 := [.int q4.1]) dc_X12_tillBy_47 (tX12_behindDeeds hW i0 hq4) mw_2034 cy_X12_behindDeeds i0 (by decide) rfl rfl rfl rfl (Nat.le_of_ble_eq_true rfl) (Nat.le_of_ble_eq_true rfl) ⟨Nat.le_refl _, Nat.le_refl _⟩ ?_
    cases h
    exact ev_iret dc_X12_tillBy_50 rfl rfl rfl
  · refine ev_iconst (v := 1) dc_X12_tillBy_39 (by decide) ?_
    refine ev_goto (tgt := 50) dc_X12_tillBy_40 (by decide) ?_
    cases h
    exact ev_iret dc_X12_tillBy_50 rfl rfl rfl
theorem dc_X12_leastTill_0 : Dc miX12_leastTill 0 (.aload_n 0) 1 1 := ⟨by decide +kernel, rfl⟩
theorem dc_X12_leastTill_1 : Dc miX12_leastTill 1 (.iload_n 1) 1 2 := ⟨by decide +kernel, rfl⟩
theorem dc_X12_leastTill_2 : Dc miX12_leastTill 2 (.iload_n 2) 1 3 := ⟨by decide +kernel, rfl⟩
theorem dc_X12_leastTill_3 : Dc miX12_leastTill 3 (.invokevirtual 419) 3 6 := ⟨by decide +kernel, rfl⟩
theorem dc_X12_leastTill_6 : Dc miX12_leastTill 6 (.istore_n 3) 1 7 := ⟨by decide +kernel, rfl⟩
theorem dc_X12_leastTill_7 : Dc miX12_leastTill 7 (.iconst 0) 1 8 := ⟨by decide +kernel, rfl⟩
theorem dc_X12_leastTill_8 : Dc miX12_leastTill 8 (.istore 4) 2 10 := ⟨by decide +kernel, rfl⟩
theorem dc_X12_leastTill_10 : Dc miX12_leastTill 10 (.iload 4) 2 12 := ⟨by decide +kernel, rfl⟩
theorem dc_X12_leastTill_12 : Dc miX12_leastTill 12 (.aload_n 0) 1 13 := ⟨by decide +kernel, rfl⟩
theorem dc_X12_leastTill_13 : Dc miX12_leastTill 13 (.invokevirtual 74) 3 16 := ⟨by decide +kernel, rfl⟩
theorem dc_X12_leastTill_16 : Dc miX12_leastTill 16 (.if_icmp .ge 51) 3 19 := ⟨by decide +kernel, rfl⟩
theorem dc_X12_leastTill_19 : Dc miX12_leastTill 19 (.iconst 0) 1 20 := ⟨by decide +kernel, rfl⟩
theorem dc_X12_leastTill_20 : Dc miX12_leastTill 20 (.istore 5) 2 22 := ⟨by decide +kernel, rfl⟩
theorem dc_X12_leastTill_22 : Dc miX12_leastTill 22 (.iload 5) 2 24 := ⟨by decide +kernel, rfl⟩
theorem dc_X12_leastTill_24 : Dc miX12_leastTill 24 (.aload_n 0) 1 25 := ⟨by decide +kernel, rfl⟩
theorem dc_X12_leastTill_25 : Dc miX12_leastTill 25 (.invokevirtual 77) 3 28 := ⟨by decide +kernel, rfl⟩
theorem dc_X12_leastTill_28 : Dc miX12_leastTill 28 (.if_icmp .ge 33) 3 31 := ⟨by decide +kernel, rfl⟩
theorem dc_X12_leastTill_31 : Dc miX12_leastTill 31 (.aload_n 0) 1 32 := ⟨by decide +kernel, rfl⟩
theorem dc_X12_leastTill_32 : Dc miX12_leastTill 32 (.iload 4) 2 34 := ⟨by decide +kernel, rfl⟩
theorem dc_X12_leastTill_34 : Dc miX12_leastTill 34 (.invokevirtual 422) 3 37 := ⟨by decide +kernel, rfl⟩
theorem dc_X12_leastTill_37 : Dc miX12_leastTill 37 (.ifCond .eq 18) 3 40 := ⟨by decide +kernel, rfl⟩
theorem dc_X12_leastTill_40 : Dc miX12_leastTill 40 (.iload_n 3) 1 41 := ⟨by decide +kernel, rfl⟩
theorem dc_X12_leastTill_41 : Dc miX12_leastTill 41 (.aload_n 0) 1 42 := ⟨by decide +kernel, rfl⟩
theorem dc_X12_leastTill_42 : Dc miX12_leastTill 42 (.iload_n 1) 1 43 := ⟨by decide +kernel, rfl⟩
theorem dc_X12_leastTill_43 : Dc miX12_leastTill 43 (.iload_n 2) 1 44 := ⟨by decide +kernel, rfl⟩
theorem dc_X12_leastTill_44 : Dc miX12_leastTill 44 (.iload 4) 2 46 := ⟨by decide +kernel, rfl⟩
theorem dc_X12_leastTill_46 : Dc miX12_leastTill 46 (.iload 5) 2 48 := ⟨by decide +kernel, rfl⟩
theorem dc_X12_leastTill_48 : Dc miX12_leastTill 48 (.invokevirtual 425) 3 51 := ⟨by decide +kernel, rfl⟩
theorem dc_X12_leastTill_51 : Dc miX12_leastTill 51 (.invokestatic 334) 3 54 := ⟨by decide +kernel, rfl⟩
theorem dc_X12_leastTill_54 : Dc miX12_leastTill 54 (.istore_n 3) 1 55 := ⟨by decide +kernel, rfl⟩
theorem dc_X12_leastTill_55 : Dc miX12_leastTill 55 (.iinc 5 1) 3 58 := ⟨by decide +kernel, rfl⟩
theorem dc_X12_leastTill_58 : Dc miX12_leastTill 58 (.goto (-36)) 3 61 := ⟨by decide +kernel, rfl⟩
theorem dc_X12_leastTill_61 : Dc miX12_leastTill 61 (.iinc 4 1) 3 64 := ⟨by decide +kernel, rfl⟩
theorem dc_X12_leastTill_64 : Dc miX12_leastTill 64 (.goto (-54)) 3 67 := ⟨by decide +kernel, rfl⟩
theorem dc_X12_leastTill_67 : Dc miX12_leastTill 67 (.iload_n 3) 1 68 := ⟨by decide +kernel, rfl⟩
theorem dc_X12_leastTill_68 : Dc miX12_leastTill 68 (.ireturn) 1 69 := ⟨by decide +kernel, rfl⟩
def fX12_leastTill_b22 (N : Nat) (G : pG) (k10 : Int32 × Int32 × pS → Option (Int32 × pS)) (a0 : Nat) (a1 : Int32) (a2 : Int32) (x4 : Int32) : (Int32 × Int32 × pS) → Option (Int32 × pS) := lp (fun (k22 : Int32 × Int32 × pS → Option (Int32 × pS)) (b : Int32 × Int32 × pS) => (fX12_words N G a0 b.2.2).bind (fun q1 => if q1 ≤ b.2.1 then (k10 (b.1, x4 + (1 : Int32), b.2.2)) else ((fX12_isEnemy N G a0 x4 b.2.2).bind (fun q2 => if q2 = 0 then (k22 (b.1, b.2.1 + (1 : Int32), b.2.2)) else ((fX12_tillBy N G a0 a1 a2 x4 b.2.1 b.2.2).bind (fun q3 => k22 (jmin b.1 q3.1, b.2.1 + (1 : Int32), q3.2))))))) N
set_option maxRecDepth 100000 in
set_option maxHeartbeats 4000000 in
theorem tX12_leastTill_b22 {N : Nat} {G : pG} {SK : Nat → Nat} {k10 : Int32 × Int32 × pS → Option (Int32 × pS)} {a0 : Nat} {a1 : Int32} {a2 : Int32} {x4 : Int32} {b : Int32 × Int32 × pS} {r : Int32 × pS} (hW : WT G) (i0 : Is G a0 11) (hk10 : ∀ b : Int32 × Int32 × pS, k10 b = some r → Ev miX12_leastTill (8, 0, 0) G (Zp G (some (.int r.1)) r.2) SK (0, 0) 10 [some (.ref a0), some (.int a1), some (.int a2), some (.int b.1), some (.int b.2.1), none] [] b.2.2) (h : fX12_leastTill_b22 N G k10 a0 a1 a2 x4 b = some r) : Ev miX12_leastTill (8, 0, 0) G (Zp G (some (.int r.1)) r.2) SK (0, 0) 22 [some (.ref a0), some (.int a1), some (.int a2), some (.int b.1), some (.int x4), some (.int b.2.1)] [] b.2.2 := by
  unfold fX12_leastTill_b22 at h
  refine lp_ind (P := fun b r9 => r9 = r → Ev miX12_leastTill (8, 0, 0) G (Zp G (some (.int r.1)) r.2) SK (0, 0) 22 [some (.ref a0), some (.int a1), some (.int a2), some (.int b.1), some (.int x4), some (.int b.2.1)] [] b.2.2) (fun k22 b r9 ih h9 e9 => ?_) N b r h rfl
  clear h
  subst e9
  have h := h9
  clear h9
  have hk22 : ∀ b : Int32 × Int32 × pS, k22 b = some r9 → Ev miX12_leastTill (8, 0, 0) G (Zp G (some (.int r9.1)) r9.2) SK (0, 0) 22 [some (.ref a0), some (.int a1), some (.int a2), some (.int b.1), some (.int x4), some (.int b.2.1)] [] b.2.2 := fun b hb => ih b r9 hb rfl
  clear ih
  obtain ⟨x3, x5, σ⟩ := b
  dsimp only at h ⊢
  refine ev_iload dc_X12_leastTill_22 rfl ?_
  refine ev_aload_n dc_X12_leastTill_24 rfl ?_
  obtain ⟨q1, hq1, h⟩ := Option.bind_eq_some_iff.mp h
  refine ev_callV (av := []) (st := [.int x5]) (st1 := [.int q1, .int x5]) dc_X12_leastTill_25 (tX12_words hW i0 hq1) mw_1676 cy_X12_words i0 (by decide) rfl rfl rfl rfl (Nat.le_of_ble_eq_true rfl) (Nat.le_of_ble_eq_true rfl) ⟨Nat.le_refl _, Nat.le_refl _⟩ ?_
  refine ev_icmp_ge (tgt := 61) dc_X12_leastTill_28 (by decide) h (fun h => ?_) (fun h => ?_)
  · refine ev_iinc (v := 1) (lv' := [some (.ref a0), some (.int a1), some (.int a2), some (.int x3), some (.int (x4 + (1 : Int32))), some (.int x5)]) dc_X12_leastTill_61 rfl (by decide) rfl (by decide) rfl ?_
    refine ev_goto (tgt := 10) dc_X12_leastTill_64 (by decide) ?_
    exact ev_sub (hk10 (x3, x4 + (1 : Int32), σ) h) (And.intro rfl (And.intro rfl (And.intro rfl (And.intro rfl (And.intro rfl trivial)))))
  · refine ev_aload_n dc_X12_leastTill_31 rfl ?_
    refine ev_iload dc_X12_leastTill_32 rfl ?_
    obtain ⟨q2, hq2, h⟩ := Option.bind_eq_some_iff.mp h
    refine ev_callV (av := [.int x4]) (st := []) (st1 := [.int q2]) dc_X12_leastTill_34 (tX12_isEnemy hW i0 hq2) mw_2042 cy_X12_isEnemy i0 (by decide) rfl rfl rfl rfl (Nat.le_of_ble_eq_true rfl) (Nat.le_of_ble_eq_true rfl) ⟨Nat.le_refl _, Nat.le_refl _⟩ ?_
    refine ev_if_eq (tgt := 55) dc_X12_leastTill_37 (by decide) h (fun h => ?_) (fun h => ?_)
    · refine ev_iinc (v := 1) (lv' := [some (.ref a0), some (.int a1), some (.int a2), some (.int x3), some (.int x4), some (.int (x5 + (1 : Int32)))]) dc_X12_leastTill_55 rfl (by decide) rfl (by decide) rfl ?_
      refine ev_goto (tgt := 22) dc_X12_leastTill_58 (by decide) ?_
      exact ev_sub (hk22 (x3, x5 + (1 : Int32), σ) h) (And.intro rfl (And.intro rfl (And.intro rfl (And.intro rfl (And.intro rfl (And.intro rfl trivial))))))
    · refine ev_iload_n dc_X12_leastTill_40 rfl ?_
      refine ev_aload_n dc_X12_leastTill_41 rfl ?_
      refine ev_iload_n dc_X12_leastTill_42 rfl ?_
      refine ev_iload_n dc_X12_leastTill_43 rfl ?_
      refine ev_iload dc_X12_leastTill_44 rfl ?_
      refine ev_iload dc_X12_leastTill_46 rfl ?_
      obtain ⟨q3, hq3, h⟩ := Option.bind_eq_some_iff.mp h
      refine ev_callV (av := [.int a1, .int a2, .int x4, .int x5]) (st := [.int x3]) (st1 := [.int q3.1, .int x3]) dc_X12_leastTill_48 (tX12_tillBy hW i0 hq3) mw_2046 cy_X12_tillBy i0 (by decide) rfl rfl rfl rfl (Nat.le_of_ble_eq_true rfl) (Nat.le_of_ble_eq_true rfl) ⟨Nat.le_refl _, Nat.le_refl _⟩ ?_
      refine ev_min dc_X12_leastTill_51 mw_1861 (Nat.le_of_ble_eq_true rfl) (Nat.le_of_ble_eq_true rfl) ⟨Nat.le_refl _, Nat.le_refl _⟩ ?_
      refine ev_istore_n (lv' := [some (.ref a0), some (.int a1), some (.int a2), some (.int (jmin x3 q3.1)), some (.int x4), some (.int x5)]) dc_X12_leastTill_54 rfl (by decide) rfl ?_
      refine ev_iinc (v := 1) (lv' := [some (.ref a0), some (.int a1), some (.int a2), some (.int (jmin x3 q3.1)), some (.int x4), some (.int (x5 + (1 : Int32)))]) dc_X12_leastTill_55 rfl (by decide) rfl (by decide) rfl ?_
      refine ev_goto (tgt := 22) dc_X12_leastTill_58 (by decide) ?_
      exact ev_sub (hk22 (jmin x3 q3.1, x5 + (1 : Int32), q3.2) h) (And.intro rfl (And.intro rfl (And.intro rfl (And.intro rfl (And.intro rfl (And.intro rfl trivial))))))
def fX12_leastTill_b10 (N : Nat) (G : pG) (a0 : Nat) (a1 : Int32) (a2 : Int32) : (Int32 × Int32 × pS) → Option (Int32 × pS) := lp (fun (k10 : Int32 × Int32 × pS → Option (Int32 × pS)) (b : Int32 × Int32 × pS) => (fX12_courtiers N G a0 b.2.2).bind (fun q4 => if q4 ≤ b.2.1 then (some (b.1, b.2.2)) else (fX12_leastTill_b22 N G k10 a0 a1 a2 b.2.1 (b.1, (0 : Int32), b.2.2)))) N
set_option maxRecDepth 100000 in
set_option maxHeartbeats 4000000 in
theorem tX12_leastTill_b10 {N : Nat} {G : pG} {SK : Nat → Nat} {a0 : Nat} {a1 : Int32} {a2 : Int32} {b : Int32 × Int32 × pS} {r : Int32 × pS} (hW : WT G) (i0 : Is G a0 11) (h : fX12_leastTill_b10 N G a0 a1 a2 b = some r) : Ev miX12_leastTill (8, 0, 0) G (Zp G (some (.int r.1)) r.2) SK (0, 0) 10 [some (.ref a0), some (.int a1), some (.int a2), some (.int b.1), some (.int b.2.1), none] [] b.2.2 := by
  unfold fX12_leastTill_b10 at h
  refine lp_ind (P := fun b r9 => r9 = r → Ev miX12_leastTill (8, 0, 0) G (Zp G (some (.int r.1)) r.2) SK (0, 0) 10 [some (.ref a0), some (.int a1), some (.int a2), some (.int b.1), some (.int b.2.1), none] [] b.2.2) (fun k10 b r9 ih h9 e9 => ?_) N b r h rfl
  clear h
  subst e9
  have h := h9
  clear h9
  have hk10 : ∀ b : Int32 × Int32 × pS, k10 b = some r9 → Ev miX12_leastTill (8, 0, 0) G (Zp G (some (.int r9.1)) r9.2) SK (0, 0) 10 [some (.ref a0), some (.int a1), some (.int a2), some (.int b.1), some (.int b.2.1), none] [] b.2.2 := fun b hb => ih b r9 hb rfl
  clear ih
  obtain ⟨x3, x4, σ⟩ := b
  dsimp only at h ⊢
  refine ev_iload dc_X12_leastTill_10 rfl ?_
  refine ev_aload_n dc_X12_leastTill_12 rfl ?_
  obtain ⟨q4, hq4, h⟩ := Option.bind_eq_some_iff.mp h
  refine ev_callV (av := []) (st := [.int x4]) (st1 := [.int q4, .int x4]) dc_X12_leastTill_13 (tX12_courtiers hW i0 hq4) mw_1705 cy_X12_courtiers i0 (by decide) rfl rfl rfl rfl (Nat.le_of_ble_eq_true rfl) (Nat.le_of_ble_eq_true rfl) ⟨Nat.le_refl _, Nat.le_refl _⟩ ?_
  refine ev_icmp_ge (tgt := 67) dc_X12_leastTill_16 (by decide) h (fun h => ?_) (fun h => ?_)
  · refine ev_iload_n dc_X12_leastTill_67 rfl ?_
    cases h
    exact ev_iret dc_X12_leastTill_68 rfl rfl rfl
  · refine ev_iconst (v := 0) dc_X12_leastTill_19 (by decide) ?_
    refine ev_istore (lv' := [some (.ref a0), some (.int a1), some (.int a2), some (.int x3), some (.int x4), some (.int (0 : Int32))]) dc_X12_leastTill_20 rfl (by decide) rfl ?_
    exact ev_sub (tX12_leastTill_b22 (b := (x3, (0 : Int32), σ)) hW i0 hk10 h) (And.intro rfl (And.intro rfl (And.intro rfl (And.intro rfl (And.intro rfl (And.intro rfl trivial))))))
def fX12_leastTill (N : Nat) (G : pG) (a0 : Nat) (a1 : Int32) (a2 : Int32) (σ : pS) : Option (Int32 × pS) := (fX12_behindDeeds N G a0 a1 a2 σ).bind (fun q5 => fX12_leastTill_b10 N G a0 a1 a2 (q5.1, (0 : Int32), q5.2))
set_option maxRecDepth 100000 in
set_option maxHeartbeats 4000000 in
theorem tX12_leastTill {N : Nat} {G : pG} {SK : Nat → Nat} {a0 : Nat} {a1 : Int32} {a2 : Int32} {σ : pS} {r : Int32 × pS} (hW : WT G) (i0 : Is G a0 11) (h : fX12_leastTill N G a0 a1 a2 σ = some r) : Dn miX12_leastTill yX12_leastTill 8 G SK [.ref a0, .int a1, .int a2] σ (some (.int r.1)) r.2 := by
  unfold fX12_leastTill at h
  refine dn_of (lv := [some (.ref a0), some (.int a1), some (.int a2), none, none, none]) (by decide) rfl rfl (Nat.le_of_ble_eq_true rfl) rfl ?_
  refine ev_aload_n dc_X12_leastTill_0 rfl ?_
  refine ev_iload_n dc_X12_leastTill_1 rfl ?_
  refine ev_iload_n dc_X12_leastTill_2 rfl ?_
  obtain ⟨q5, hq5, h⟩ := Option.bind_eq_some_iff.mp h
  refine ev_callV (av := [.int a1, .int a2]) (st := []) (st1 := [.int q5.1]) dc_X12_leastTill_3 (tX12_behindDeeds hW i0 hq5) mw_2034 cy_X12_behindDeeds i0 (by decide) rfl rfl rfl rfl (Nat.le_of_ble_eq_true rfl) (Nat.le_of_ble_eq_true rfl) ⟨Nat.le_refl _, Nat.le_refl _⟩ ?_
  refine ev_istore_n (lv' := [some (.ref a0), some (.int a1), some (.int a2), some (.int q5.1), none, none]) dc_X12_leastTill_6 rfl (by decide) rfl ?_
  refine ev_iconst (v := 0) dc_X12_leastTill_7 (by decide) ?_
  refine ev_istore (lv' := [some (.ref a0), some (.int a1), some (.int a2), some (.int q5.1), some (.int (0 : Int32)), none]) dc_X12_leastTill_8 rfl (by decide) rfl ?_
  exact ev_sub (tX12_leastTill_b10 (b := (q5.1, (0 : Int32), q5.2)) hW i0 h) (And.intro rfl (And.intro rfl (And.intro rfl (And.intro rfl (And.intro rfl trivial)))))
theorem dc_X12_laysTill_0 : Dc miX12_laysTill 0 (.iconst 0) 1 1 := ⟨by decide +kernel, rfl⟩
theorem dc_X12_laysTill_1 : Dc miX12_laysTill 1 (.istore_n 3) 1 2 := ⟨by decide +kernel, rfl⟩
theorem dc_X12_laysTill_2 : Dc miX12_laysTill 2 (.iload_n 3) 1 3 := ⟨by decide +kernel, rfl⟩
theorem dc_X12_laysTill_3 : Dc miX12_laysTill 3 (.bipush 100) 2 5 := ⟨by decide +kernel, rfl⟩
theorem dc_X12_laysTill_5 : Dc miX12_laysTill 5 (.if_icmp .ge 23) 3 8 := ⟨by decide +kernel, rfl⟩
theorem dc_X12_laysTill_8 : Dc miX12_laysTill 8 (.aload_n 0) 1 9 := ⟨by decide +kernel, rfl⟩
theorem dc_X12_laysTill_9 : Dc miX12_laysTill 9 (.getfield 42) 3 12 := ⟨by decide +kernel, rfl⟩
theorem dc_X12_laysTill_12 : Dc miX12_laysTill 12 (.bipush 100) 2 14 := ⟨by decide +kernel, rfl⟩
theorem dc_X12_laysTill_14 : Dc miX12_laysTill 14 (.iload_n 2) 1 15 := ⟨by decide +kernel, rfl⟩
theorem dc_X12_laysTill_15 : Dc miX12_laysTill 15 (.imul) 1 16 := ⟨by decide +kernel, rfl⟩
theorem dc_X12_laysTill_16 : Dc miX12_laysTill 16 (.iload_n 3) 1 17 := ⟨by decide +kernel, rfl⟩
theorem dc_X12_laysTill_17 : Dc miX12_laysTill 17 (.iadd) 1 18 := ⟨by decide +kernel, rfl⟩
theorem dc_X12_laysTill_18 : Dc miX12_laysTill 18 (.ldc_w 418) 3 21 := ⟨by decide +kernel, rfl⟩
theorem dc_X12_laysTill_21 : Dc miX12_laysTill 21 (.iastore) 1 22 := ⟨by decide +kernel, rfl⟩
theorem dc_X12_laysTill_22 : Dc miX12_laysTill 22 (.iinc 3 1) 3 25 := ⟨by decide +kernel, rfl⟩
theorem dc_X12_laysTill_25 : Dc miX12_laysTill 25 (.goto (-23)) 3 28 := ⟨by decide +kernel, rfl⟩
theorem dc_X12_laysTill_28 : Dc miX12_laysTill 28 (.iload_n 2) 1 29 := ⟨by decide +kernel, rfl⟩
theorem dc_X12_laysTill_29 : Dc miX12_laysTill 29 (.iconst 1) 1 30 := ⟨by decide +kernel, rfl⟩
theorem dc_X12_laysTill_30 : Dc miX12_laysTill 30 (.isub) 1 31 := ⟨by decide +kernel, rfl⟩
theorem dc_X12_laysTill_31 : Dc miX12_laysTill 31 (.istore_n 3) 1 32 := ⟨by decide +kernel, rfl⟩
theorem dc_X12_laysTill_32 : Dc miX12_laysTill 32 (.iload_n 3) 1 33 := ⟨by decide +kernel, rfl⟩
theorem dc_X12_laysTill_33 : Dc miX12_laysTill 33 (.iload_n 1) 1 34 := ⟨by decide +kernel, rfl⟩
theorem dc_X12_laysTill_34 : Dc miX12_laysTill 34 (.if_icmp .lt 44) 3 37 := ⟨by decide +kernel, rfl⟩
theorem dc_X12_laysTill_37 : Dc miX12_laysTill 37 (.iconst 0) 1 38 := ⟨by decide +kernel, rfl⟩
theorem dc_X12_laysTill_38 : Dc miX12_laysTill 38 (.istore 4) 2 40 := ⟨by decide +kernel, rfl⟩
theorem dc_X12_laysTill_40 : Dc miX12_laysTill 40 (.iload 4) 2 42 := ⟨by decide +kernel, rfl⟩
theorem dc_X12_laysTill_42 : Dc miX12_laysTill 42 (.bipush 100) 2 44 := ⟨by decide +kernel, rfl⟩
theorem dc_X12_laysTill_44 : Dc miX12_laysTill 44 (.if_icmp .ge 28) 3 47 := ⟨by decide +kernel, rfl⟩
theorem dc_X12_laysTill_47 : Dc miX12_laysTill 47 (.aload_n 0) 1 48 := ⟨by decide +kernel, rfl⟩
theorem dc_X12_laysTill_48 : Dc miX12_laysTill 48 (.getfield 42) 3 51 := ⟨by decide +kernel, rfl⟩
theorem dc_X12_laysTill_51 : Dc miX12_laysTill 51 (.bipush 100) 2 53 := ⟨by decide +kernel, rfl⟩
theorem dc_X12_laysTill_53 : Dc miX12_laysTill 53 (.iload_n 3) 1 54 := ⟨by decide +kernel, rfl⟩
theorem dc_X12_laysTill_54 : Dc miX12_laysTill 54 (.imul) 1 55 := ⟨by decide +kernel, rfl⟩
theorem dc_X12_laysTill_55 : Dc miX12_laysTill 55 (.iload 4) 2 57 := ⟨by decide +kernel, rfl⟩
theorem dc_X12_laysTill_57 : Dc miX12_laysTill 57 (.iadd) 1 58 := ⟨by decide +kernel, rfl⟩
theorem dc_X12_laysTill_58 : Dc miX12_laysTill 58 (.aload_n 0) 1 59 := ⟨by decide +kernel, rfl⟩
theorem dc_X12_laysTill_59 : Dc miX12_laysTill 59 (.iload_n 3) 1 60 := ⟨by decide +kernel, rfl⟩
theorem dc_X12_laysTill_60 : Dc miX12_laysTill 60 (.iload 4) 2 62 := ⟨by decide +kernel, rfl⟩
theorem dc_X12_laysTill_62 : Dc miX12_laysTill 62 (.invokevirtual 429) 3 65 := ⟨by decide +kernel, rfl⟩
theorem dc_X12_laysTill_65 : Dc miX12_laysTill 65 (.iastore) 1 66 := ⟨by decide +kernel, rfl⟩
theorem dc_X12_laysTill_66 : Dc miX12_laysTill 66 (.iinc 4 1) 3 69 := ⟨by decide +kernel, rfl⟩
theorem dc_X12_laysTill_69 : Dc miX12_laysTill 69 (.goto (-29)) 3 72 := ⟨by decide +kernel, rfl⟩
theorem dc_X12_laysTill_72 : Dc miX12_laysTill 72 (.iinc 3 (-1)) 3 75 := ⟨by decide +kernel, rfl⟩
theorem dc_X12_laysTill_75 : Dc miX12_laysTill 75 (.goto (-43)) 3 78 := ⟨by decide +kernel, rfl⟩
theorem dc_X12_laysTill_78 : Dc miX12_laysTill 78 (.return_) 1 79 := ⟨by decide +kernel, rfl⟩
def fX12_laysTill_b40 (N : Nat) (G : pG) (k32 : Int32 × pS → Option (pS)) (a0 : Nat) (a1 : Int32) (x3 : Int32) : (Int32 × pS) → Option (pS) := lp (fun (k40 : Int32 × pS → Option (pS)) (b : Int32 × pS) => if (100 : Int32) ≤ b.1 then (k32 (x3 + (-1 : Int32), b.2)) else ((fX12_leastTill N G a0 x3 b.1 b.2).bind (fun q1 => ck (inB (((100 : Int32) * x3) + b.1) (pN G (pR G a0 25))) (k40 (b.1 + (1 : Int32), sA q1.2 (pR G a0 25) (((100 : Int32) * x3) + b.1) q1.1))))) N
set_option maxRecDepth 100000 in
set_option maxHeartbeats 4000000 in
theorem tX12_laysTill_b40 {N : Nat} {G : pG} {SK : Nat → Nat} {k32 : Int32 × pS → Option (pS)} {a0 : Nat} {a1 : Int32} {x3 : Int32} {b : Int32 × pS} {r : pS} (hW : WT G) (i0 : Is G a0 11) (hk32 : ∀ b : Int32 × pS, k32 b = some r → Ev miX12_laysTill (9, 0, 0) G (Zp G none r) SK (0, 0) 32 [some (.ref a0), some (.int a1), none, some (.int b.1), none] [] b.2) (h : fX12_laysTill_b40 N G k32 a0 a1 x3 b = some r) : Ev miX12_laysTill (9, 0, 0) G (Zp G none r) SK (0, 0) 40 [some (.ref a0), some (.int a1), none, some (.int x3), some (.int b.1)] [] b.2 := by
  unfold fX12_laysTill_b40 at h
  refine lp_ind (P := fun b r9 => r9 = r → Ev miX12_laysTill (9, 0, 0) G (Zp G none r) SK (0, 0) 40 [some (.ref a0), some (.int a1), none, some (.int x3), some (.int b.1)] [] b.2) (fun k40 b r9 ih h9 e9 => ?_) N b r h rfl
  clear h
  subst e9
  have h := h9
  clear h9
  have hk40 : ∀ b : Int32 × pS, k40 b = some r9 → Ev miX12_laysTill (9, 0, 0) G (Zp G none r9) SK (0, 0) 40 [some (.ref a0), some (.int a1), none, some (.int x3), some (.int b.1)] [] b.2 := fun b hb => ih b r9 hb rfl
  clear ih
  obtain ⟨x4, σ⟩ := b
  dsimp only at h ⊢
  refine ev_iload dc_X12_laysTill_40 rfl ?_
  refine ev_bipush (v := 100) dc_X12_laysTill_42 (by decide) ?_
  refine ev_icmp_ge (tgt := 72) dc_X12_laysTill_44 (by decide) h (fun h => ?_) (fun h => ?_)
  · refine ev_iinc (v := (-1)) (lv' := [some (.ref a0), some (.int a1), none, some (.int (x3 + (-1 : Int32))), some (.int x4)]) dc_X12_laysTill_72 rfl (by decide) rfl (by decide) rfl ?_
    refine ev_goto (tgt := 32) dc_X12_laysTill_75 (by decide) ?_
    exact ev_sub (hk32 (x3 + (-1 : Int32), σ) h) (And.intro rfl (And.intro rfl (And.intro rfl trivial)))
  · refine ev_aload_n dc_X12_laysTill_47 rfl ?_
    refine ev_getR dc_X12_laysTill_48 fi_X12_42 rfl i0 ?_
    refine ev_bipush (v := 100) dc_X12_laysTill_51 (by decide) ?_
    refine ev_iload_n dc_X12_laysTill_53 rfl ?_
    refine ev_imul dc_X12_laysTill_54 ?_
    refine ev_iload dc_X12_laysTill_55 rfl ?_
    refine ev_iadd dc_X12_laysTill_57 ?_
    refine ev_aload_n dc_X12_laysTill_58 rfl ?_
    refine ev_iload_n dc_X12_laysTill_59 rfl ?_
    refine ev_iload dc_X12_laysTill_60 rfl ?_
    obtain ⟨q1, hq1, h⟩ := Option.bind_eq_some_iff.mp h
    refine ev_callV (av := [.int x3, .int x4]) (st := [.int (((100 : Int32) * x3) + x4), .ref (pR G a0 25)]) (st1 := [.int q1.1, .int (((100 : Int32) * x3) + x4), .ref (pR G a0 25)]) dc_X12_laysTill_62 (tX12_leastTill hW i0 hq1) mw_2030 cy_X12_leastTill i0 (by decide) rfl rfl rfl rfl (Nat.le_of_ble_eq_true rfl) (Nat.le_of_ble_eq_true rfl) ⟨Nat.le_refl _, Nat.le_refl _⟩ ?_
    refine ev_iast dc_X12_laysTill_65 (wt hW i0 25 rfl rfl) h (fun h => ?_)
    refine ev_iinc (v := 1) (lv' := [some (.ref a0), some (.int a1), none, some (.int x3), some (.int (x4 + (1 : Int32)))]) dc_X12_laysTill_66 rfl (by decide) rfl (by decide) rfl ?_
    refine ev_goto (tgt := 40) dc_X12_laysTill_69 (by decide) ?_
    exact ev_sub (hk40 (x4 + (1 : Int32), sA q1.2 (pR G a0 25) (((100 : Int32) * x3) + x4) q1.1) h) (And.intro rfl (And.intro rfl (And.intro rfl (And.intro rfl trivial))))
def fX12_laysTill_b32 (N : Nat) (G : pG) (a0 : Nat) (a1 : Int32) : (Int32 × pS) → Option (pS) := lp (fun (k32 : Int32 × pS → Option (pS)) (b : Int32 × pS) => if b.1 < a1 then (some b.2) else (fX12_laysTill_b40 N G k32 a0 a1 b.1 ((0 : Int32), b.2))) N
set_option maxRecDepth 100000 in
set_option maxHeartbeats 4000000 in
theorem tX12_laysTill_b32 {N : Nat} {G : pG} {SK : Nat → Nat} {a0 : Nat} {a1 : Int32} {b : Int32 × pS} {r : pS} (hW : WT G) (i0 : Is G a0 11) (h : fX12_laysTill_b32 N G a0 a1 b = some r) : Ev miX12_laysTill (9, 0, 0) G (Zp G none r) SK (0, 0) 32 [some (.ref a0), some (.int a1), none, some (.int b.1), none] [] b.2 := by
  unfold fX12_laysTill_b32 at h
  refine lp_ind (P := fun b r9 => r9 = r → Ev miX12_laysTill (9, 0, 0) G (Zp G none r) SK (0, 0) 32 [some (.ref a0), some (.int a1), none, some (.int b.1), none] [] b.2) (fun k32 b r9 ih h9 e9 => ?_) N b r h rfl
  clear h
  subst e9
  have h := h9
  clear h9
  have hk32 : ∀ b : Int32 × pS, k32 b = some r9 → Ev miX12_laysTill (9, 0, 0) G (Zp G none r9) SK (0, 0) 32 [some (.ref a0), some (.int a1), none, some (.int b.1), none] [] b.2 := fun b hb => ih b r9 hb rfl
  clear ih
  obtain ⟨x3, σ⟩ := b
  dsimp only at h ⊢
  refine ev_iload_n dc_X12_laysTill_32 rfl ?_
  refine ev_iload_n dc_X12_laysTill_33 rfl ?_
  refine ev_icmp_lt (tgt := 78) dc_X12_laysTill_34 (by decide) h (fun h => ?_) (fun h => ?_)
  · cases h
    exact ev_vret dc_X12_laysTill_78 rfl rfl rfl
  · refine ev_iconst (v := 0) dc_X12_laysTill_37 (by decide) ?_
    refine ev_istore (lv' := [some (.ref a0), some (.int a1), none, some (.int x3), some (.int (0 : Int32))]) dc_X12_laysTill_38 rfl (by decide) rfl ?_
    exact ev_sub (tX12_laysTill_b40 (b := ((0 : Int32), σ)) hW i0 hk32 h) (And.intro rfl (And.intro rfl (And.intro rfl (And.intro rfl trivial))))
def fX12_laysTill_b2 (N : Nat) (G : pG) (a0 : Nat) (a1 : Int32) (a2 : Int32) : (Int32 × pS) → Option (pS) := lp (fun (k2 : Int32 × pS → Option (pS)) (b : Int32 × pS) => if (100 : Int32) ≤ b.1 then (fX12_laysTill_b32 N G a0 a1 (a2 - (1 : Int32), b.2)) else (ck (inB (((100 : Int32) * a2) + b.1) (pN G (pR G a0 25))) (k2 (b.1 + (1 : Int32), sA b.2 (pR G a0 25) (((100 : Int32) * a2) + b.1) (1000000 : Int32))))) N
set_option maxRecDepth 100000 in
set_option maxHeartbeats 4000000 in
theorem tX12_laysTill_b2 {N : Nat} {G : pG} {SK : Nat → Nat} {a0 : Nat} {a1 : Int32} {a2 : Int32} {b : Int32 × pS} {r : pS} (hW : WT G) (i0 : Is G a0 11) (h : fX12_laysTill_b2 N G a0 a1 a2 b = some r) : Ev miX12_laysTill (9, 0, 0) G (Zp G none r) SK (0, 0) 2 [some (.ref a0), some (.int a1), some (.int a2), some (.int b.1), none] [] b.2 := by
  unfold fX12_laysTill_b2 at h
  refine lp_ind (P := fun b r9 => r9 = r → Ev miX12_laysTill (9, 0, 0) G (Zp G none r) SK (0, 0) 2 [some (.ref a0), some (.int a1), some (.int a2), some (.int b.1), none] [] b.2) (fun k2 b r9 ih h9 e9 => ?_) N b r h rfl
  clear h
  subst e9
  have h := h9
  clear h9
  have hk2 : ∀ b : Int32 × pS, k2 b = some r9 → Ev miX12_laysTill (9, 0, 0) G (Zp G none r9) SK (0, 0) 2 [some (.ref a0), some (.int a1), some (.int a2), some (.int b.1), none] [] b.2 := fun b hb => ih b r9 hb rfl
  clear ih
  obtain ⟨x3, σ⟩ := b
  dsimp only at h ⊢
  refine ev_iload_n dc_X12_laysTill_2 rfl ?_
  refine ev_bipush (v := 100) dc_X12_laysTill_3 (by decide) ?_
  refine ev_icmp_ge (tgt := 28) dc_X12_laysTill_5 (by decide) h (fun h => ?_) (fun h => ?_)
  · refine ev_iload_n dc_X12_laysTill_28 rfl ?_
    refine ev_iconst (v := 1) dc_X12_laysTill_29 (by decide) ?_
    refine ev_isub dc_X12_laysTill_30 ?_
    refine ev_istore_n (lv' := [some (.ref a0), some (.int a1), some (.int a2), some (.int (a2 - (1 : Int32))), none]) dc_X12_laysTill_31 rfl (by decide) rfl ?_
    exact ev_sub (tX12_laysTill_b32 (b := (a2 - (1 : Int32), σ)) hW i0 h) (And.intro rfl (And.intro rfl (And.intro rfl trivial)))
  · refine ev_aload_n dc_X12_laysTill_8 rfl ?_
    refine ev_getR dc_X12_laysTill_9 fi_X12_42 rfl i0 ?_
    refine ev_bipush (v := 100) dc_X12_laysTill_12 (by decide) ?_
    refine ev_iload_n dc_X12_laysTill_14 rfl ?_
    refine ev_imul dc_X12_laysTill_15 ?_
    refine ev_iload_n dc_X12_laysTill_16 rfl ?_
    refine ev_iadd dc_X12_laysTill_17 ?_
    refine ev_ldcw (v := 1000000) dc_X12_laysTill_18 mw_2025 ?_
    refine ev_iast dc_X12_laysTill_21 (wt hW i0 25 rfl rfl) h (fun h => ?_)
    refine ev_iinc (v := 1) (lv' := [some (.ref a0), some (.int a1), some (.int a2), some (.int (x3 + (1 : Int32))), none]) dc_X12_laysTill_22 rfl (by decide) rfl (by decide) rfl ?_
    refine ev_goto (tgt := 2) dc_X12_laysTill_25 (by decide) ?_
    exact ev_sub (hk2 (x3 + (1 : Int32), sA σ (pR G a0 25) (((100 : Int32) * a2) + x3) (1000000 : Int32)) h) (And.intro rfl (And.intro rfl (And.intro rfl (And.intro rfl trivial))))
def fX12_laysTill (N : Nat) (G : pG) (a0 : Nat) (a1 : Int32) (a2 : Int32) (σ : pS) : Option (pS) := fX12_laysTill_b2 N G a0 a1 a2 ((0 : Int32), σ)
set_option maxRecDepth 100000 in
set_option maxHeartbeats 4000000 in
theorem tX12_laysTill {N : Nat} {G : pG} {SK : Nat → Nat} {a0 : Nat} {a1 : Int32} {a2 : Int32} {σ : pS} {r : pS} (hW : WT G) (i0 : Is G a0 11) (h : fX12_laysTill N G a0 a1 a2 σ = some r) : Dn miX12_laysTill yX12_laysTill 9 G SK [.ref a0, .int a1, .int a2] σ none r := by
  unfold fX12_laysTill at h
  refine dn_of (lv := [some (.ref a0), some (.int a1), some (.int a2), none, none]) (by decide) rfl rfl (Nat.le_of_ble_eq_true rfl) rfl ?_
  refine ev_iconst (v := 0) dc_X12_laysTill_0 (by decide) ?_
  refine ev_istore_n (lv' := [some (.ref a0), some (.int a1), some (.int a2), some (.int (0 : Int32)), none]) dc_X12_laysTill_1 rfl (by decide) rfl ?_
  exact ev_sub (tX12_laysTill_b2 (b := ((0 : Int32), σ)) hW i0 h) (And.intro rfl (And.intro rfl (And.intro rfl (And.intro rfl trivial))))
theorem dc_X12_keeps_0 : Dc miX12_keeps 0 (.aload_n 0) 1 1 := ⟨by decide +kernel, rfl⟩
theorem dc_X12_keeps_1 : Dc miX12_keeps 1 (.iconst 0) 1 2 := ⟨by decide +kernel, rfl⟩
theorem dc_X12_keeps_2 : Dc miX12_keeps 2 (.putfield 3) 3 5 := ⟨by decide +kernel, rfl⟩
theorem dc_X12_keeps_5 : Dc miX12_keeps 5 (.aload_n 0) 1 6 := ⟨by decide +kernel, rfl⟩
theorem dc_X12_keeps_6 : Dc miX12_keeps 6 (.iload_n 1) 1 7 := ⟨by decide +kernel, rfl⟩
theorem dc_X12_keeps_7 : Dc miX12_keeps 7 (.iconst 0) 1 8 := ⟨by decide +kernel, rfl⟩
theorem dc_X12_keeps_8 : Dc miX12_keeps 8 (.bipush 99) 2 10 := ⟨by decide +kernel, rfl⟩
theorem dc_X12_keeps_10 : Dc miX12_keeps 10 (.invokestatic 70) 3 13 := ⟨by decide +kernel, rfl⟩
theorem dc_X12_keeps_13 : Dc miX12_keeps 13 (.ifCond .eq 13) 3 16 := ⟨by decide +kernel, rfl⟩
theorem dc_X12_keeps_16 : Dc miX12_keeps 16 (.iload_n 2) 1 17 := ⟨by decide +kernel, rfl⟩
theorem dc_X12_keeps_17 : Dc miX12_keeps 17 (.iconst 0) 1 18 := ⟨by decide +kernel, rfl⟩
theorem dc_X12_keeps_18 : Dc miX12_keeps 18 (.bipush 11) 2 20 := ⟨by decide +kernel, rfl⟩
theorem dc_X12_keeps_20 : Dc miX12_keeps 20 (.invokestatic 70) 3 23 := ⟨by decide +kernel, rfl⟩
theorem dc_X12_keeps_23 : Dc miX12_keeps 23 (.ifCond .ne 7) 3 26 := ⟨by decide +kernel, rfl⟩
theorem dc_X12_keeps_26 : Dc miX12_keeps 26 (.iconst 1) 1 27 := ⟨by decide +kernel, rfl⟩
theorem dc_X12_keeps_27 : Dc miX12_keeps 27 (.goto 4) 3 30 := ⟨by decide +kernel, rfl⟩
theorem dc_X12_keeps_30 : Dc miX12_keeps 30 (.iconst 0) 1 31 := ⟨by decide +kernel, rfl⟩
theorem dc_X12_keeps_31 : Dc miX12_keeps 31 (.iconst 1) 1 32 := ⟨by decide +kernel, rfl⟩
theorem dc_X12_keeps_32 : Dc miX12_keeps 32 (.invokevirtual 274) 3 35 := ⟨by decide +kernel, rfl⟩
theorem dc_X12_keeps_35 : Dc miX12_keeps 35 (.ifCond .eq 5) 3 38 := ⟨by decide +kernel, rfl⟩
theorem dc_X12_keeps_38 : Dc miX12_keeps 38 (.iconst 0) 1 39 := ⟨by decide +kernel, rfl⟩
theorem dc_X12_keeps_39 : Dc miX12_keeps 39 (.ireturn) 1 40 := ⟨by decide +kernel, rfl⟩
theorem dc_X12_keeps_40 : Dc miX12_keeps 40 (.aload_n 0) 1 41 := ⟨by decide +kernel, rfl⟩
theorem dc_X12_keeps_41 : Dc miX12_keeps 41 (.iconst 1) 1 42 := ⟨by decide +kernel, rfl⟩
theorem dc_X12_keeps_42 : Dc miX12_keeps 42 (.iload_n 2) 1 43 := ⟨by decide +kernel, rfl⟩
theorem dc_X12_keeps_43 : Dc miX12_keeps 43 (.iconst 1) 1 44 := ⟨by decide +kernel, rfl⟩
theorem dc_X12_keeps_44 : Dc miX12_keeps 44 (.iadd) 1 45 := ⟨by decide +kernel, rfl⟩
theorem dc_X12_keeps_45 : Dc miX12_keeps 45 (.invokevirtual 432) 3 48 := ⟨by decide +kernel, rfl⟩
theorem dc_X12_keeps_48 : Dc miX12_keeps 48 (.aload_n 0) 1 49 := ⟨by decide +kernel, rfl⟩
theorem dc_X12_keeps_49 : Dc miX12_keeps 49 (.iconst 0) 1 50 := ⟨by decide +kernel, rfl⟩
theorem dc_X12_keeps_50 : Dc miX12_keeps 50 (.iload_n 1) 1 51 := ⟨by decide +kernel, rfl⟩
theorem dc_X12_keeps_51 : Dc miX12_keeps 51 (.invokevirtual 441) 3 54 := ⟨by decide +kernel, rfl⟩
theorem dc_X12_keeps_54 : Dc miX12_keeps 54 (.ireturn) 1 55 := ⟨by decide +kernel, rfl⟩
def fX12_keeps_b31 (N : Nat) (G : pG) (a0 : Nat) (a1 : Int32) (a2 : Int32) (y1 : Int32) (σ : pS) : Option (Int32 × pS) := (fX12_throwsIf N G a0 y1 (1 : Int32) σ).bind (fun q1 => if q1.1 = 0 then ((fX12_laysTill N G a0 (1 : Int32) (a2 + (1 : Int32)) q1.2).bind (fun q2 => (fX12_bestDeed N G a0 (0 : Int32) a1 q2).bind (fun q3 => some (q3.1, q3.2)))) else (some ((0 : Int32), q1.2)))
set_option maxRecDepth 100000 in
set_option maxHeartbeats 4000000 in
theorem tX12_keeps_b31 {N : Nat} {G : pG} {SK : Nat → Nat} {a0 : Nat} {a1 : Int32} {a2 : Int32} {y1 : Int32} {σ : pS} {r : Int32 × pS} (hW : WT G) (i0 : Is G a0 11) (h : fX12_keeps_b31 N G a0 a1 a2 y1 σ = some r) : Ev miX12_keeps (10, 0, 0) G (Zp G (some (.int r.1)) r.2) SK (0, 0) 31 [some (.ref a0), some (.int a1), some (.int a2)] [.int y1, .ref a0] σ := by
  unfold fX12_keeps_b31 at h
  refine ev_iconst (v := 1) dc_X12_keeps_31 (by decide) ?_
  obtain ⟨q1, hq1, h⟩ := Option.bind_eq_some_iff.mp h
  refine ev_callV (av := [.int y1, .int (1 : Int32)]) (st := []) (st1 := [.int q1.1]) dc_X12_keeps_32 (tX12_throwsIf hW i0 hq1) mw_1784 cy_X12_throwsIf i0 (by decide) rfl rfl rfl rfl (Nat.le_of_ble_eq_true rfl) (Nat.le_of_ble_eq_true rfl) ⟨Nat.le_refl _, Nat.le_refl _⟩ ?_
  refine ev_if_eq (tgt := 40) dc_X12_keeps_35 (by decide) h (fun h => ?_) (fun h => ?_)
  · refine ev_aload_n dc_X12_keeps_40 rfl ?_
    refine ev_iconst (v := 1) dc_X12_keeps_41 (by decide) ?_
    refine ev_iload_n dc_X12_keeps_42 rfl ?_
    refine ev_iconst (v := 1) dc_X12_keeps_43 (by decide) ?_
    refine ev_iadd dc_X12_keeps_44 ?_
    obtain ⟨q2, hq2, h⟩ := Option.bind_eq_some_iff.mp h
    refine ev_callV (av := [.int (1 : Int32), .int (a2 + (1 : Int32))]) (st := []) (st1 := []) dc_X12_keeps_45 (tX12_laysTill hW i0 hq2) mw_2026 cy_X12_laysTill i0 (by decide) rfl rfl rfl rfl (Nat.le_of_ble_eq_true rfl) (Nat.le_of_ble_eq_true rfl) ⟨Nat.le_refl _, Nat.le_refl _⟩ ?_
    refine ev_aload_n dc_X12_keeps_48 rfl ?_
    refine ev_iconst (v := 0) dc_X12_keeps_49 (by decide) ?_
    refine ev_iload_n dc_X12_keeps_50 rfl ?_
    obtain ⟨q3, hq3, h⟩ := Option.bind_eq_some_iff.mp h
    refine ev_callV (av := [.int (0 : Int32), .int a1]) (st := []) (st1 := [.int q3.1]) dc_X12_keeps_51 (tX12_bestDeed hW i0 hq3) mw_2058 cy_X12_bestDeed i0 (by decide) rfl rfl rfl rfl (Nat.le_of_ble_eq_true rfl) (Nat.le_of_ble_eq_true rfl) ⟨Nat.le_refl _, Nat.le_refl _⟩ ?_
    cases h
    exact ev_iret dc_X12_keeps_54 rfl rfl rfl
  · refine ev_iconst (v := 0) dc_X12_keeps_38 (by decide) ?_
    cases h
    exact ev_iret dc_X12_keeps_39 rfl rfl rfl
def fX12_keeps_b26 (N : Nat) (G : pG) (a0 : Nat) (a1 : Int32) (a2 : Int32) (σ : pS) : Option (Int32 × pS) := fX12_keeps_b31 N G a0 a1 a2 (1 : Int32) σ
set_option maxRecDepth 100000 in
set_option maxHeartbeats 4000000 in
theorem tX12_keeps_b26 {N : Nat} {G : pG} {SK : Nat → Nat} {a0 : Nat} {a1 : Int32} {a2 : Int32} {σ : pS} {r : Int32 × pS} (hW : WT G) (i0 : Is G a0 11) (h : fX12_keeps_b26 N G a0 a1 a2 σ = some r) : Ev miX12_keeps (10, 0, 0) G (Zp G (some (.int r.1)) r.2) SK (0, 0) 26 [some (.ref a0), some (.int a1), some (.int a2)] [.ref a0] σ := by
  unfold fX12_keeps_b26 at h
  refine ev_iconst (v := 1) dc_X12_keeps_26 (by decide) ?_
  refine ev_goto (tgt := 31) dc_X12_keeps_27 (by decide) ?_
  exact ev_sub (tX12_keeps_b31 hW i0 h) (And.intro rfl (And.intro rfl (And.intro rfl trivial)))
def fX12_keeps (N : Nat) (G : pG) (a0 : Nat) (a1 : Int32) (a2 : Int32) (σ : pS) : Option (Int32 × pS) := (fX12_in N G a1 (0 : Int32) (99 : Int32) (putF σ a0 0 (0 : Int32))).bind (fun q4 => if q4 = 0 then (fX12_keeps_b26 N G a0 a1 a2 (putF σ a0 0 (0 : Int32))) else ((fX12_in N G a2 (0 : Int32) (11 : Int32) (putF σ a0 0 (0 : Int32))).bind (fun q5 => if q5 = 0 then (fX12_keeps_b26 N G a0 a1 a2 (putF σ a0 0 (0 : Int32))) else (fX12_keeps_b31 N G a0 a1 a2 (0 : Int32) (putF σ a0 0 (0 : Int32))))))
set_option maxRecDepth 100000 in
set_option maxHeartbeats 4000000 in
theorem tX12_keeps {N : Nat} {G : pG} {SK : Nat → Nat} {a0 : Nat} {a1 : Int32} {a2 : Int32} {σ : pS} {r : Int32 × pS} (hW : WT G) (i0 : Is G a0 11) (h : fX12_keeps N G a0 a1 a2 σ = some r) : Dn miX12_keeps yX12_keeps 10 G SK [.ref a0, .int a1, .int a2] σ (some (.int r.1)) r.2 := by
  unfold fX12_keeps at h
  refine dn_of (lv := [some (.ref a0), some (.int a1), some (.int a2)]) (by decide) rfl rfl (Nat.le_of_ble_eq_true rfl) rfl ?_
  refine ev_aload_n dc_X12_keeps_0 rfl ?_
  refine ev_iconst (v := 0) dc_X12_keeps_1 (by decide) ?_
  refine ev_putI dc_X12_keeps_2 fi_X12_3 rfl i0 ?_
  refine ev_aload_n dc_X12_keeps_5 rfl ?_
  refine ev_iload_n dc_X12_keeps_6 rfl ?_
  refine ev_iconst (v := 0) dc_X12_keeps_7 (by decide) ?_
  refine ev_bipush (v := 99) dc_X12_keeps_8 (by decide) ?_
  obtain ⟨q4, hq4, h⟩ := Option.bind_eq_some_iff.mp h
  refine ev_callS (av := [.int a1, .int (0 : Int32), .int (99 : Int32)]) (st := [.ref a0]) (st1 := [.int q4, .ref a0]) dc_X12_keeps_10 (tX12_in hW hq4) mw_1656 cs_X12_in rfl rfl rfl (Nat.le_of_ble_eq_true rfl) (Nat.le_of_ble_eq_true rfl) ⟨Nat.le_refl _, Nat.le_refl _⟩ ?_
  refine ev_if_eq (tgt := 26) dc_X12_keeps_13 (by decide) h (fun h => ?_) (fun h => ?_)
  · exact ev_sub (tX12_keeps_b26 hW i0 h) (And.intro rfl (And.intro rfl (And.intro rfl trivial)))
  · refine ev_iload_n dc_X12_keeps_16 rfl ?_
    refine ev_iconst (v := 0) dc_X12_keeps_17 (by decide) ?_
    refine ev_bipush (v := 11) dc_X12_keeps_18 (by decide) ?_
    obtain ⟨q5, hq5, h⟩ := Option.bind_eq_some_iff.mp h
    refine ev_callS (av := [.int a2, .int (0 : Int32), .int (11 : Int32)]) (st := [.ref a0]) (st1 := [.int q5, .ref a0]) dc_X12_keeps_20 (tX12_in hW hq5) mw_1656 cs_X12_in rfl rfl rfl (Nat.le_of_ble_eq_true rfl) (Nat.le_of_ble_eq_true rfl) ⟨Nat.le_refl _, Nat.le_refl _⟩ ?_
    refine ev_if_ne (tgt := 30) dc_X12_keeps_23 (by decide) h (fun h => ?_) (fun h => ?_)
    · exact ev_sub (tX12_keeps_b26 hW i0 h) (And.intro rfl (And.intro rfl (And.intro rfl trivial)))
    · refine ev_iconst (v := 0) dc_X12_keeps_30 (by decide) ?_
      exact ev_sub (tX12_keeps_b31 hW i0 h) (And.intro rfl (And.intro rfl (And.intro rfl trivial)))
theorem dc_X12_passes_0 : Dc miX12_passes 0 (.aload_n 0) 1 1 := ⟨by decide +kernel, rfl⟩
theorem dc_X12_passes_1 : Dc miX12_passes 1 (.invokevirtual 112) 3 4 := ⟨by decide +kernel, rfl⟩
theorem dc_X12_passes_4 : Dc miX12_passes 4 (.aload_n 0) 1 5 := ⟨by decide +kernel, rfl⟩
theorem dc_X12_passes_5 : Dc miX12_passes 5 (.aload_n 1) 1 6 := ⟨by decide +kernel, rfl⟩
theorem dc_X12_passes_6 : Dc miX12_passes 6 (.invokevirtual 115) 3 9 := ⟨by decide +kernel, rfl⟩
theorem dc_X12_passes_9 : Dc miX12_passes 9 (.ifCond .eq 5) 3 12 := ⟨by decide +kernel, rfl⟩
theorem dc_X12_passes_12 : Dc miX12_passes 12 (.iconst 1) 1 13 := ⟨by decide +kernel, rfl⟩
theorem dc_X12_passes_13 : Dc miX12_passes 13 (.ireturn) 1 14 := ⟨by decide +kernel, rfl⟩
theorem dc_X12_passes_14 : Dc miX12_passes 14 (.aload_n 0) 1 15 := ⟨by decide +kernel, rfl⟩
theorem dc_X12_passes_15 : Dc miX12_passes 15 (.aload_n 0) 1 16 := ⟨by decide +kernel, rfl⟩
theorem dc_X12_passes_16 : Dc miX12_passes 16 (.getfield 97) 3 19 := ⟨by decide +kernel, rfl⟩
theorem dc_X12_passes_19 : Dc miX12_passes 19 (.putfield 87) 3 22 := ⟨by decide +kernel, rfl⟩
theorem dc_X12_passes_22 : Dc miX12_passes 22 (.iconst 0) 1 23 := ⟨by decide +kernel, rfl⟩
theorem dc_X12_passes_23 : Dc miX12_passes 23 (.ireturn) 1 24 := ⟨by decide +kernel, rfl⟩
def fX12_passes (N : Nat) (G : pG) (a0 : Nat) (a1 : Nat) (σ : pS) : Option (Int32 × pS) := (fX12_letters N G a0 σ).bind (fun q1 => (fX12_isWord N G a0 a1 q1).bind (fun q2 => if q2 = 0 then (some ((0 : Int32), putF q1 a0 10 (q1.1 a0 12))) else (some ((1 : Int32), q1))))
set_option maxRecDepth 100000 in
set_option maxHeartbeats 4000000 in
theorem tX12_passes {N : Nat} {G : pG} {SK : Nat → Nat} {a0 : Nat} {a1 : Nat} {σ : pS} {r : Int32 × pS} (hW : WT G) (i0 : Is G a0 11) (s1 : decide (a1 < nStr) = true) (h : fX12_passes N G a0 a1 σ = some r) : Dn miX12_passes yX12_passes 10 G SK [.ref a0, .ref (SK a1)] σ (some (.int r.1)) r.2 := by
  unfold fX12_passes at h
  refine dn_of (lv := [some (.ref a0), some (.ref (SK a1))]) (by decide) rfl rfl (Nat.le_of_ble_eq_true rfl) rfl ?_
  refine ev_aload_n dc_X12_passes_0 rfl ?_
  obtain ⟨q1, hq1, h⟩ := Option.bind_eq_some_iff.mp h
  refine ev_callV (av := []) (st := []) (st1 := []) dc_X12_passes_1 (tX12_letters hW i0 hq1) mw_1629 cy_X12_letters i0 (by decide) rfl rfl rfl rfl (Nat.le_of_ble_eq_true rfl) (Nat.le_of_ble_eq_true rfl) ⟨Nat.le_refl _, Nat.le_refl _⟩ ?_
  refine ev_aload_n dc_X12_passes_4 rfl ?_
  refine ev_aload_n dc_X12_passes_5 rfl ?_
  obtain ⟨q2, hq2, h⟩ := Option.bind_eq_some_iff.mp h
  refine ev_callV (av := [.ref (SK a1)]) (st := []) (st1 := [.int q2]) dc_X12_passes_6 (tX12_isWord hW i0 s1 hq2) mw_1638 cy_X12_isWord i0 (by decide) rfl rfl rfl rfl (Nat.le_of_ble_eq_true rfl) (Nat.le_of_ble_eq_true rfl) ⟨Nat.le_refl _, Nat.le_refl _⟩ ?_
  refine ev_if_eq (tgt := 14) dc_X12_passes_9 (by decide) h (fun h => ?_) (fun h => ?_)
  · refine ev_aload_n dc_X12_passes_14 rfl ?_
    refine ev_aload_n dc_X12_passes_15 rfl ?_
    refine ev_getI dc_X12_passes_16 fi_X12_97 rfl i0 ?_
    refine ev_putI dc_X12_passes_19 fi_X12_87 rfl i0 ?_
    refine ev_iconst (v := 0) dc_X12_passes_22 (by decide) ?_
    cases h
    exact ev_zretc dc_X12_passes_23 rfl rfl rfl rfl
  · refine ev_iconst (v := 1) dc_X12_passes_12 (by decide) ?_
    cases h
    exact ev_zretc dc_X12_passes_13 rfl rfl rfl rfl
theorem dc_X12_readPart_0 : Dc miX12_readPart 0 (.aload_n 0) 1 1 := ⟨by decide +kernel, rfl⟩
theorem dc_X12_readPart_1 : Dc miX12_readPart 1 (.invokevirtual 112) 3 4 := ⟨by decide +kernel, rfl⟩
theorem dc_X12_readPart_4 : Dc miX12_readPart 4 (.aload_n 0) 1 5 := ⟨by decide +kernel, rfl⟩
theorem dc_X12_readPart_5 : Dc miX12_readPart 5 (.getfield 87) 3 8 := ⟨by decide +kernel, rfl⟩
theorem dc_X12_readPart_8 : Dc miX12_readPart 8 (.aload_n 0) 1 9 := ⟨by decide +kernel, rfl⟩
theorem dc_X12_readPart_9 : Dc miX12_readPart 9 (.getfield 97) 3 12 := ⟨by decide +kernel, rfl⟩
theorem dc_X12_readPart_12 : Dc miX12_readPart 12 (.if_icmp .ne 22) 3 15 := ⟨by decide +kernel, rfl⟩
theorem dc_X12_readPart_15 : Dc miX12_readPart 15 (.aload_n 0) 1 16 := ⟨by decide +kernel, rfl⟩
theorem dc_X12_readPart_16 : Dc miX12_readPart 16 (.iconst 0) 1 17 := ⟨by decide +kernel, rfl⟩
theorem dc_X12_readPart_17 : Dc miX12_readPart 17 (.sipush 999) 3 20 := ⟨by decide +kernel, rfl⟩
theorem dc_X12_readPart_20 : Dc miX12_readPart 20 (.invokevirtual 119) 3 23 := ⟨by decide +kernel, rfl⟩
theorem dc_X12_readPart_23 : Dc miX12_readPart 23 (.istore_n 1) 1 24 := ⟨by decide +kernel, rfl⟩
theorem dc_X12_readPart_24 : Dc miX12_readPart 24 (.aload_n 0) 1 25 := ⟨by decide +kernel, rfl⟩
theorem dc_X12_readPart_25 : Dc miX12_readPart 25 (.bipush 8) 2 27 := ⟨by decide +kernel, rfl⟩
theorem dc_X12_readPart_27 : Dc miX12_readPart 27 (.iload_n 1) 1 28 := ⟨by decide +kernel, rfl⟩
theorem dc_X12_readPart_28 : Dc miX12_readPart 28 (.invokevirtual 205) 3 31 := ⟨by decide +kernel, rfl⟩
theorem dc_X12_readPart_31 : Dc miX12_readPart 31 (.goto 89) 3 34 := ⟨by decide +kernel, rfl⟩
theorem dc_X12_readPart_34 : Dc miX12_readPart 34 (.aload_n 0) 1 35 := ⟨by decide +kernel, rfl⟩
theorem dc_X12_readPart_35 : Dc miX12_readPart 35 (.ldc 163) 2 37 := ⟨by decide +kernel, rfl⟩
theorem dc_X12_readPart_37 : Dc miX12_readPart 37 (.invokevirtual 115) 3 40 := ⟨by decide +kernel, rfl⟩
theorem dc_X12_readPart_40 : Dc miX12_readPart 40 (.ifCond .eq 7) 3 43 := ⟨by decide +kernel, rfl⟩
theorem dc_X12_readPart_43 : Dc miX12_readPart 43 (.iconst 0) 1 44 := ⟨by decide +kernel, rfl⟩
theorem dc_X12_readPart_44 : Dc miX12_readPart 44 (.goto 69) 3 47 := ⟨by decide +kernel, rfl⟩
theorem dc_X12_readPart_47 : Dc miX12_readPart 47 (.aload_n 0) 1 48 := ⟨by decide +kernel, rfl⟩
theorem dc_X12_readPart_48 : Dc miX12_readPart 48 (.ldc 168) 2 50 := ⟨by decide +kernel, rfl⟩
theorem dc_X12_readPart_50 : Dc miX12_readPart 50 (.invokevirtual 115) 3 53 := ⟨by decide +kernel, rfl⟩
theorem dc_X12_readPart_53 : Dc miX12_readPart 53 (.ifCond .eq 7) 3 56 := ⟨by decide +kernel, rfl⟩
theorem dc_X12_readPart_56 : Dc miX12_readPart 56 (.iconst 1) 1 57 := ⟨by decide +kernel, rfl⟩
theorem dc_X12_readPart_57 : Dc miX12_readPart 57 (.goto 56) 3 60 := ⟨by decide +kernel, rfl⟩
theorem dc_X12_readPart_60 : Dc miX12_readPart 60 (.aload_n 0) 1 61 := ⟨by decide +kernel, rfl⟩
theorem dc_X12_readPart_61 : Dc miX12_readPart 61 (.ldc 200) 2 63 := ⟨by decide +kernel, rfl⟩
theorem dc_X12_readPart_63 : Dc miX12_readPart 63 (.invokevirtual 115) 3 66 := ⟨by decide +kernel, rfl⟩
theorem dc_X12_readPart_66 : Dc miX12_readPart 66 (.ifCond .eq 7) 3 69 := ⟨by decide +kernel, rfl⟩
theorem dc_X12_readPart_69 : Dc miX12_readPart 69 (.iconst 2) 1 70 := ⟨by decide +kernel, rfl⟩
theorem dc_X12_readPart_70 : Dc miX12_readPart 70 (.goto 43) 3 73 := ⟨by decide +kernel, rfl⟩
theorem dc_X12_readPart_73 : Dc miX12_readPart 73 (.aload_n 0) 1 74 := ⟨by decide +kernel, rfl⟩
theorem dc_X12_readPart_74 : Dc miX12_readPart 74 (.ldc 209) 2 76 := ⟨by decide +kernel, rfl⟩
theorem dc_X12_readPart_76 : Dc miX12_readPart 76 (.invokevirtual 115) 3 79 := ⟨by decide +kernel, rfl⟩
theorem dc_X12_readPart_79 : Dc miX12_readPart 79 (.ifCond .eq 7) 3 82 := ⟨by decide +kernel, rfl⟩
theorem dc_X12_readPart_82 : Dc miX12_readPart 82 (.iconst 3) 1 83 := ⟨by decide +kernel, rfl⟩
theorem dc_X12_readPart_83 : Dc miX12_readPart 83 (.goto 30) 3 86 := ⟨by decide +kernel, rfl⟩
theorem dc_X12_readPart_86 : Dc miX12_readPart 86 (.aload_n 0) 1 87 := ⟨by decide +kernel, rfl⟩
theorem dc_X12_readPart_87 : Dc miX12_readPart 87 (.ldc 211) 2 89 := ⟨by decide +kernel, rfl⟩
theorem dc_X12_readPart_89 : Dc miX12_readPart 89 (.invokevirtual 115) 3 92 := ⟨by decide +kernel, rfl⟩
theorem dc_X12_readPart_92 : Dc miX12_readPart 92 (.ifCond .eq 7) 3 95 := ⟨by decide +kernel, rfl⟩
theorem dc_X12_readPart_95 : Dc miX12_readPart 95 (.iconst 4) 1 96 := ⟨by decide +kernel, rfl⟩
theorem dc_X12_readPart_96 : Dc miX12_readPart 96 (.goto 17) 3 99 := ⟨by decide +kernel, rfl⟩
theorem dc_X12_readPart_99 : Dc miX12_readPart 99 (.aload_n 0) 1 100 := ⟨by decide +kernel, rfl⟩
theorem dc_X12_readPart_100 : Dc miX12_readPart 100 (.ldc 213) 2 102 := ⟨by decide +kernel, rfl⟩
theorem dc_X12_readPart_102 : Dc miX12_readPart 102 (.invokevirtual 115) 3 105 := ⟨by decide +kernel, rfl⟩
theorem dc_X12_readPart_105 : Dc miX12_readPart 105 (.ifCond .eq 7) 3 108 := ⟨by decide +kernel, rfl⟩
theorem dc_X12_readPart_108 : Dc miX12_readPart 108 (.iconst 5) 1 109 := ⟨by decide +kernel, rfl⟩
theorem dc_X12_readPart_109 : Dc miX12_readPart 109 (.goto 4) 3 112 := ⟨by decide +kernel, rfl⟩
theorem dc_X12_readPart_112 : Dc miX12_readPart 112 (.iconst (-1)) 1 113 := ⟨by decide +kernel, rfl⟩
theorem dc_X12_readPart_113 : Dc miX12_readPart 113 (.istore_n 1) 1 114 := ⟨by decide +kernel, rfl⟩
theorem dc_X12_readPart_114 : Dc miX12_readPart 114 (.aload_n 0) 1 115 := ⟨by decide +kernel, rfl⟩
theorem dc_X12_readPart_115 : Dc miX12_readPart 115 (.iload_n 1) 1 116 := ⟨by decide +kernel, rfl⟩
theorem dc_X12_readPart_116 : Dc miX12_readPart 116 (.iconst 0) 1 117 := ⟨by decide +kernel, rfl⟩
theorem dc_X12_readPart_117 : Dc miX12_readPart 117 (.invokevirtual 205) 3 120 := ⟨by decide +kernel, rfl⟩
theorem dc_X12_readPart_120 : Dc miX12_readPart 120 (.iload_n 1) 1 121 := ⟨by decide +kernel, rfl⟩
theorem dc_X12_readPart_121 : Dc miX12_readPart 121 (.ifCond .lt 7) 3 124 := ⟨by decide +kernel, rfl⟩
theorem dc_X12_readPart_124 : Dc miX12_readPart 124 (.iconst 1) 1 125 := ⟨by decide +kernel, rfl⟩
theorem dc_X12_readPart_125 : Dc miX12_readPart 125 (.goto 4) 3 128 := ⟨by decide +kernel, rfl⟩
theorem dc_X12_readPart_128 : Dc miX12_readPart 128 (.iconst 0) 1 129 := ⟨by decide +kernel, rfl⟩
theorem dc_X12_readPart_129 : Dc miX12_readPart 129 (.ireturn) 1 130 := ⟨by decide +kernel, rfl⟩
def fX12_readPart_b120 (N : Nat) (G : pG) (x1 : Int32) (σ : pS) : Option (Int32 × pS) := if x1 < 0 then (some ((0 : Int32), σ)) else (some ((1 : Int32), σ))
set_option maxRecDepth 100000 in
set_option maxHeartbeats 4000000 in
theorem tX12_readPart_b120 {N : Nat} {G : pG} {SK : Nat → Nat} {x1 : Int32} {σ : pS} {r : Int32 × pS} (hW : WT G) (h : fX12_readPart_b120 N G x1 σ = some r) : Ev miX12_readPart (10, 0, 0) G (Zp G (some (.int r.1)) r.2) SK (0, 0) 120 [none, some (.int x1)] [] σ := by
  unfold fX12_readPart_b120 at h
  refine ev_iload_n dc_X12_readPart_120 rfl ?_
  refine ev_if_lt (tgt := 128) dc_X12_readPart_121 (by decide) h (fun h => ?_) (fun h => ?_)
  · refine ev_iconst (v := 0) dc_X12_readPart_128 (by decide) ?_
    cases h
    exact ev_zretc dc_X12_readPart_129 rfl rfl rfl rfl
  · refine ev_iconst (v := 1) dc_X12_readPart_124 (by decide) ?_
    refine ev_goto (tgt := 129) dc_X12_readPart_125 (by decide) ?_
    cases h
    exact ev_zretc dc_X12_readPart_129 rfl rfl rfl rfl
def fX12_readPart_b113 (N : Nat) (G : pG) (a0 : Nat) (y0 : Int32) (σ : pS) : Option (Int32 × pS) := (fX12_emits N G a0 y0 (0 : Int32) σ).bind (fun q1 => fX12_readPart_b120 N G y0 q1)
set_option maxRecDepth 100000 in
set_option maxHeartbeats 4000000 in
theorem tX12_readPart_b113 {N : Nat} {G : pG} {SK : Nat → Nat} {a0 : Nat} {y0 : Int32} {σ : pS} {r : Int32 × pS} (hW : WT G) (i0 : Is G a0 11) (h : fX12_readPart_b113 N G a0 y0 σ = some r) : Ev miX12_readPart (10, 0, 0) G (Zp G (some (.int r.1)) r.2) SK (0, 0) 113 [some (.ref a0), none] [.int y0] σ := by
  unfold fX12_readPart_b113 at h
  refine ev_istore_n (lv' := [some (.ref a0), some (.int y0)]) dc_X12_readPart_113 rfl (by decide) rfl ?_
  refine ev_aload_n dc_X12_readPart_114 rfl ?_
  refine ev_iload_n dc_X12_readPart_115 rfl ?_
  refine ev_iconst (v := 0) dc_X12_readPart_116 (by decide) ?_
  obtain ⟨q1, hq1, h⟩ := Option.bind_eq_some_iff.mp h
  refine ev_callV (av := [.int y0, .int (0 : Int32)]) (st := []) (st1 := []) dc_X12_readPart_117 (tX12_emits hW i0 hq1) mw_1761 cy_X12_emits i0 (by decide) rfl rfl rfl rfl (Nat.le_of_ble_eq_true rfl) (Nat.le_of_ble_eq_true rfl) ⟨Nat.le_refl _, Nat.le_refl _⟩ ?_
  exact ev_sub (tX12_readPart_b120 hW h) (And.intro rfl trivial)
def fX12_readPart (N : Nat) (G : pG) (a0 : Nat) (σ : pS) : Option (Int32 × pS) := (fX12_letters N G a0 σ).bind (fun q2 => if (q2.1 a0 10) = (q2.1 a0 12) then ((fX12_number N G a0 (0 : Int32) (999 : Int32) q2).bind (fun q3 => (fX12_emits N G a0 (8 : Int32) q3.1 q3.2).bind (fun q4 => fX12_readPart_b120 N G q3.1 q4))) else ((fX12_isWord N G a0 48 q2).bind (fun q5 => if q5 = 0 then ((fX12_isWord N G a0 50 q2).bind (fun q6 => if q6 = 0 then ((fX12_isWord N G a0 59 q2).bind (fun q7 => if q7 = 0 then ((fX12_isWord N G a0 67 q2).bind (fun q8 => if q8 = 0 then ((fX12_isWord N G a0 68 q2).bind (fun q9 => if q9 = 0 then ((fX12_isWord N G a0 69 q2).bind (fun q10 => if q10 = 0 then (fX12_readPart_b113 N G a0 (-1 : Int32) q2) else (fX12_readPart_b113 N G a0 (5 : Int32) q2))) else (fX12_readPart_b113 N G a0 (4 : Int32) q2))) else (fX12_readPart_b113 N G a0 (3 : Int32) q2))) else (fX12_readPart_b113 N G a0 (2 : Int32) q2))) else (fX12_readPart_b113 N G a0 (1 : Int32) q2))) else (fX12_readPart_b113 N G a0 (0 : Int32) q2))))
set_option maxRecDepth 100000 in
set_option maxHeartbeats 4000000 in
theorem tX12_readPart {N : Nat} {G : pG} {SK : Nat → Nat} {a0 : Nat} {σ : pS} {r : Int32 × pS} (hW : WT G) (i0 : Is G a0 11) (h : fX12_readPart N G a0 σ = some r) : Dn miX12_readPart yX12_readPart 10 G SK [.ref a0] σ (some (.int r.1)) r.2 := by
  unfold fX12_readPart at h
  refine dn_of (lv := [some (.ref a0), none]) (by decide) rfl rfl (Nat.le_of_ble_eq_true rfl) rfl ?_
  refine ev_aload_n dc_X12_readPart_0 rfl ?_
  obtain ⟨q2, hq2, h⟩ := Option.bind_eq_some_iff.mp h
  refine ev_callV (av := []) (st := []) (st1 := []) dc_X12_readPart_1 (tX12_letters hW i0 hq2) mw_1629 cy_X12_letters i0 (by decide) rfl rfl rfl rfl (Nat.le_of_ble_eq_true rfl) (Nat.le_of_ble_eq_true rfl) ⟨Nat.le_refl _, Nat.le_refl _⟩ ?_
  refine ev_aload_n dc_X12_readPart_4 rfl ?_
  refine ev_getI dc_X12_readPart_5 fi_X12_87 rfl i0 ?_
  refine ev_aload_n dc_X12_readPart_8 rfl ?_
  refine ev_getI dc_X12_readPart_9 fi_X12_97 rfl i0 ?_
  refine ev_icmp_ne (tgt := 34) dc_X12_readPart_12 (by decide) h (fun h => ?_) (fun h => ?_)
  · refine ev_aload_n dc_X12_readPart_15 rfl ?_
    refine ev_iconst (v := 0) dc_X12_readPart_16 (by decide) ?_
    refine ev_sipush (v := 999) dc_X12_readPart_17 (by decide) ?_
    obtain ⟨q3, hq3, h⟩ := Option.bind_eq_some_iff.mp h
    refine ev_callV (av := [.int (0 : Int32), .int (999 : Int32)]) (st := []) (st1 := [.int q3.1]) dc_X12_readPart_20 (tX12_number hW i0 hq3) mw_1667 cy_X12_number i0 (by decide) rfl rfl rfl rfl (Nat.le_of_ble_eq_true rfl) (Nat.le_of_ble_eq_true rfl) ⟨Nat.le_refl _, Nat.le_refl _⟩ ?_
    refine ev_istore_n (lv' := [some (.ref a0), some (.int q3.1)]) dc_X12_readPart_23 rfl (by decide) rfl ?_
    refine ev_aload_n dc_X12_readPart_24 rfl ?_
    refine ev_bipush (v := 8) dc_X12_readPart_25 (by decide) ?_
    refine ev_iload_n dc_X12_readPart_27 rfl ?_
    obtain ⟨q4, hq4, h⟩ := Option.bind_eq_some_iff.mp h
    refine ev_callV (av := [.int (8 : Int32), .int q3.1]) (st := []) (st1 := []) dc_X12_readPart_28 (tX12_emits hW i0 hq4) mw_1761 cy_X12_emits i0 (by decide) rfl rfl rfl rfl (Nat.le_of_ble_eq_true rfl) (Nat.le_of_ble_eq_true rfl) ⟨Nat.le_refl _, Nat.le_refl _⟩ ?_
    refine ev_goto (tgt := 120) dc_X12_readPart_31 (by decide) ?_
    exact ev_sub (tX12_readPart_b120 hW h) (And.intro rfl trivial)
  · refine ev_aload_n dc_X12_readPart_34 rfl ?_
    refine ev_ldcS (sid := 48) (tx := "word") dc_X12_readPart_35 (List.mem_of_getElem? (i := 48) rfl) ?_
    obtain ⟨q5, hq5, h⟩ := Option.bind_eq_some_iff.mp h
    refine ev_callV (av := [.ref (SK 48)]) (st := []) (st1 := [.int q5]) dc_X12_readPart_37 (tX12_isWord hW i0 rfl hq5) mw_1638 cy_X12_isWord i0 (by decide) rfl rfl rfl rfl (Nat.le_of_ble_eq_true rfl) (Nat.le_of_ble_eq_true rfl) ⟨Nat.le_refl _, Nat.le_refl _⟩ ?_
    refine ev_if_eq (tgt := 47) dc_X12_readPart_40 (by decide) h (fun h => ?_) (fun h => ?_)
    · refine ev_aload_n dc_X12_readPart_47 rfl ?_
      refine ev_ldcS (sid := 50) (tx := "deed") dc_X12_readPart_48 (List.mem_of_getElem? (i := 50) rfl) ?_
      obtain ⟨q6, hq6, h⟩ := Option.bind_eq_some_iff.mp h
      refine ev_callV (av := [.ref (SK 50)]) (st := []) (st1 := [.int q6]) dc_X12_readPart_50 (tX12_isWord hW i0 rfl hq6) mw_1638 cy_X12_isWord i0 (by decide) rfl rfl rfl rfl (Nat.le_of_ble_eq_true rfl) (Nat.le_of_ble_eq_true rfl) ⟨Nat.le_refl _, Nat.le_refl _⟩ ?_
      refine ev_if_eq (tgt := 60) dc_X12_readPart_53 (by decide) h (fun h => ?_) (fun h => ?_)
      · refine ev_aload_n dc_X12_readPart_60 rfl ?_
        refine ev_ldcS (sid := 59) (tx := "doubt") dc_X12_readPart_61 (List.mem_of_getElem? (i := 59) rfl) ?_
        obtain ⟨q7, hq7, h⟩ := Option.bind_eq_some_iff.mp h
        refine ev_callV (av := [.ref (SK 59)]) (st := []) (st1 := [.int q7]) dc_X12_readPart_63 (tX12_isWord hW i0 rfl hq7) mw_1638 cy_X12_isWord i0 (by decide) rfl rfl rfl rfl (Nat.le_of_ble_eq_true rfl) (Nat.le_of_ble_eq_true rfl) ⟨Nat.le_refl _, Nat.le_refl _⟩ ?_
        refine ev_if_eq (tgt := 73) dc_X12_readPart_66 (by decide) h (fun h => ?_) (fun h => ?_)
        · refine ev_aload_n dc_X12_readPart_73 rfl ?_
          refine ev_ldcS (sid := 67) (tx := "night") dc_X12_readPart_74 (List.mem_of_getElem? (i := 67) rfl) ?_
          obtain ⟨q8, hq8, h⟩ := Option.bind_eq_some_iff.mp h
          refine ev_callV (av := [.ref (SK 67)]) (st := []) (st1 := [.int q8]) dc_X12_readPart_76 (tX12_isWord hW i0 rfl hq8) mw_1638 cy_X12_isWord i0 (by decide) rfl rfl rfl rfl (Nat.le_of_ble_eq_true rfl) (Nat.le_of_ble_eq_true rfl) ⟨Nat.le_refl _, Nat.le_refl _⟩ ?_
          refine ev_if_eq (tgt := 86) dc_X12_readPart_79 (by decide) h (fun h => ?_) (fun h => ?_)
          · refine ev_aload_n dc_X12_readPart_86 rfl ?_
            refine ev_ldcS (sid := 68) (tx := "left") dc_X12_readPart_87 (List.mem_of_getElem? (i := 68) rfl) ?_
            obtain ⟨q9, hq9, h⟩ := Option.bind_eq_some_iff.mp h
            refine ev_callV (av := [.ref (SK 68)]) (st := []) (st1 := [.int q9]) dc_X12_readPart_89 (tX12_isWord hW i0 rfl hq9) mw_1638 cy_X12_isWord i0 (by decide) rfl rfl rfl rfl (Nat.le_of_ble_eq_true rfl) (Nat.le_of_ble_eq_true rfl) ⟨Nat.le_refl _, Nat.le_refl _⟩ ?_
            refine ev_if_eq (tgt := 99) dc_X12_readPart_92 (by decide) h (fun h => ?_) (fun h => ?_)
            · refine ev_aload_n dc_X12_readPart_99 rfl ?_
              refine ev_ldcS (sid := 69) (tx := "who") dc_X12_readPart_100 (List.mem_of_getElem? (i := 69) rfl) ?_
              obtain ⟨q10, hq10, h⟩ := Option.bind_eq_some_iff.mp h
              refine ev_callV (av := [.ref (SK 69)]) (st := []) (st1 := [.int q10]) dc_X12_readPart_102 (tX12_isWord hW i0 rfl hq10) mw_1638 cy_X12_isWord i0 (by decide) rfl rfl rfl rfl (Nat.le_of_ble_eq_true rfl) (Nat.le_of_ble_eq_true rfl) ⟨Nat.le_refl _, Nat.le_refl _⟩ ?_
              refine ev_if_eq (tgt := 112) dc_X12_readPart_105 (by decide) h (fun h => ?_) (fun h => ?_)
              · refine ev_iconst (v := (-1)) dc_X12_readPart_112 (by decide) ?_
                exact ev_sub (tX12_readPart_b113 hW i0 h) (And.intro rfl trivial)
              · refine ev_iconst (v := 5) dc_X12_readPart_108 (by decide) ?_
                refine ev_goto (tgt := 113) dc_X12_readPart_109 (by decide) ?_
                exact ev_sub (tX12_readPart_b113 hW i0 h) (And.intro rfl trivial)
            · refine ev_iconst (v := 4) dc_X12_readPart_95 (by decide) ?_
              refine ev_goto (tgt := 113) dc_X12_readPart_96 (by decide) ?_
              exact ev_sub (tX12_readPart_b113 hW i0 h) (And.intro rfl trivial)
          · refine ev_iconst (v := 3) dc_X12_readPart_82 (by decide) ?_
            refine ev_goto (tgt := 113) dc_X12_readPart_83 (by decide) ?_
            exact ev_sub (tX12_readPart_b113 hW i0 h) (And.intro rfl trivial)
        · refine ev_iconst (v := 2) dc_X12_readPart_69 (by decide) ?_
          refine ev_goto (tgt := 113) dc_X12_readPart_70 (by decide) ?_
          exact ev_sub (tX12_readPart_b113 hW i0 h) (And.intro rfl trivial)
      · refine ev_iconst (v := 1) dc_X12_readPart_56 (by decide) ?_
        refine ev_goto (tgt := 113) dc_X12_readPart_57 (by decide) ?_
        exact ev_sub (tX12_readPart_b113 hW i0 h) (And.intro rfl trivial)
    · refine ev_iconst (v := 0) dc_X12_readPart_43 (by decide) ?_
      refine ev_goto (tgt := 113) dc_X12_readPart_44 (by decide) ?_
      exact ev_sub (tX12_readPart_b113 hW i0 h) (And.intro rfl trivial)
theorem dc_X12_sign_0 : Dc miX12_sign 0 (.aload_n 0) 1 1 := ⟨by decide +kernel, rfl⟩
theorem dc_X12_sign_1 : Dc miX12_sign 1 (.invokevirtual 100) 3 4 := ⟨by decide +kernel, rfl⟩
theorem dc_X12_sign_4 : Dc miX12_sign 4 (.aload_n 0) 1 5 := ⟨by decide +kernel, rfl⟩
theorem dc_X12_sign_5 : Dc miX12_sign 5 (.iload_n 1) 1 6 := ⟨by decide +kernel, rfl⟩
theorem dc_X12_sign_6 : Dc miX12_sign 6 (.iload_n 1) 1 7 := ⟨by decide +kernel, rfl⟩
theorem dc_X12_sign_7 : Dc miX12_sign 7 (.invokevirtual 93) 3 10 := ⟨by decide +kernel, rfl⟩
theorem dc_X12_sign_10 : Dc miX12_sign 10 (.ifCond .ne 5) 3 13 := ⟨by decide +kernel, rfl⟩
theorem dc_X12_sign_13 : Dc miX12_sign 13 (.iconst 0) 1 14 := ⟨by decide +kernel, rfl⟩
theorem dc_X12_sign_14 : Dc miX12_sign 14 (.ireturn) 1 15 := ⟨by decide +kernel, rfl⟩
theorem dc_X12_sign_15 : Dc miX12_sign 15 (.aload_n 0) 1 16 := ⟨by decide +kernel, rfl⟩
theorem dc_X12_sign_16 : Dc miX12_sign 16 (.dup) 1 17 := ⟨by decide +kernel, rfl⟩
theorem dc_X12_sign_17 : Dc miX12_sign 17 (.getfield 87) 3 20 := ⟨by decide +kernel, rfl⟩
theorem dc_X12_sign_20 : Dc miX12_sign 20 (.iconst 1) 1 21 := ⟨by decide +kernel, rfl⟩
theorem dc_X12_sign_21 : Dc miX12_sign 21 (.iadd) 1 22 := ⟨by decide +kernel, rfl⟩
theorem dc_X12_sign_22 : Dc miX12_sign 22 (.putfield 87) 3 25 := ⟨by decide +kernel, rfl⟩
theorem dc_X12_sign_25 : Dc miX12_sign 25 (.iconst 1) 1 26 := ⟨by decide +kernel, rfl⟩
theorem dc_X12_sign_26 : Dc miX12_sign 26 (.ireturn) 1 27 := ⟨by decide +kernel, rfl⟩
def fX12_sign (N : Nat) (G : pG) (a0 : Nat) (a1 : Int32) (σ : pS) : Option (Int32 × pS) := (fX12_blanks N G a0 σ).bind (fun q1 => (fX12_isAt N G a0 a1 a1 q1).bind (fun q2 => if q2 = 0 then (some ((0 : Int32), q1)) else (some ((1 : Int32), putF q1 a0 10 ((q1.1 a0 10) + (1 : Int32))))))
set_option maxRecDepth 100000 in
set_option maxHeartbeats 4000000 in
theorem tX12_sign {N : Nat} {G : pG} {SK : Nat → Nat} {a0 : Nat} {a1 : Int32} {σ : pS} {r : Int32 × pS} (hW : WT G) (i0 : Is G a0 11) (h : fX12_sign N G a0 a1 σ = some r) : Dn miX12_sign yX12_sign 3 G SK [.ref a0, .int a1] σ (some (.int r.1)) r.2 := by
  unfold fX12_sign at h
  refine dn_of (lv := [some (.ref a0), some (.int a1)]) (by decide) rfl rfl (Nat.le_of_ble_eq_true rfl) rfl ?_
  refine ev_aload_n dc_X12_sign_0 rfl ?_
  obtain ⟨q1, hq1, h⟩ := Option.bind_eq_some_iff.mp h
  refine ev_callV (av := []) (st := []) (st1 := []) dc_X12_sign_1 (tX12_blanks hW i0 hq1) mw_1617 cy_X12_blanks i0 (by decide) rfl rfl rfl rfl (Nat.le_of_ble_eq_true rfl) (Nat.le_of_ble_eq_true rfl) ⟨Nat.le_refl _, Nat.le_refl _⟩ ?_
  refine ev_aload_n dc_X12_sign_4 rfl ?_
  refine ev_iload_n dc_X12_sign_5 rfl ?_
  refine ev_iload_n dc_X12_sign_6 rfl ?_
  obtain ⟨q2, hq2, h⟩ := Option.bind_eq_some_iff.mp h
  refine ev_callV (av := [.int a1, .int a1]) (st := []) (st1 := [.int q2]) dc_X12_sign_7 (tX12_isAt hW i0 hq2) mw_1621 cy_X12_isAt i0 (by decide) rfl rfl rfl rfl (Nat.le_of_ble_eq_true rfl) (Nat.le_of_ble_eq_true rfl) ⟨Nat.le_refl _, Nat.le_refl _⟩ ?_
  refine ev_if_ne (tgt := 15) dc_X12_sign_10 (by decide) h (fun h => ?_) (fun h => ?_)
  · refine ev_iconst (v := 0) dc_X12_sign_13 (by decide) ?_
    cases h
    exact ev_zretc dc_X12_sign_14 rfl rfl rfl rfl
  · refine ev_aload_n dc_X12_sign_15 rfl ?_
    refine ev_dup dc_X12_sign_16 rfl ?_
    refine ev_getI dc_X12_sign_17 fi_X12_87 rfl i0 ?_
    refine ev_iconst (v := 1) dc_X12_sign_20 (by decide) ?_
    refine ev_iadd dc_X12_sign_21 ?_
    refine ev_putI dc_X12_sign_22 fi_X12_87 rfl i0 ?_
    refine ev_iconst (v := 1) dc_X12_sign_25 (by decide) ?_
    cases h
    exact ev_zretc dc_X12_sign_26 rfl rfl rfl rfl
theorem dc_X12_readSum_0 : Dc miX12_readSum 0 (.aload_n 0) 1 1 := ⟨by decide +kernel, rfl⟩
theorem dc_X12_readSum_1 : Dc miX12_readSum 1 (.invokevirtual 215) 3 4 := ⟨by decide +kernel, rfl⟩
theorem dc_X12_readSum_4 : Dc miX12_readSum 4 (.ifCond .ne 5) 3 7 := ⟨by decide +kernel, rfl⟩
theorem dc_X12_readSum_7 : Dc miX12_readSum 7 (.iconst 0) 1 8 := ⟨by decide +kernel, rfl⟩
theorem dc_X12_readSum_8 : Dc miX12_readSum 8 (.ireturn) 1 9 := ⟨by decide +kernel, rfl⟩
theorem dc_X12_readSum_9 : Dc miX12_readSum 9 (.aload_n 0) 1 10 := ⟨by decide +kernel, rfl⟩
theorem dc_X12_readSum_10 : Dc miX12_readSum 10 (.bipush 43) 2 12 := ⟨by decide +kernel, rfl⟩
theorem dc_X12_readSum_12 : Dc miX12_readSum 12 (.invokevirtual 218) 3 15 := ⟨by decide +kernel, rfl⟩
theorem dc_X12_readSum_15 : Dc miX12_readSum 15 (.ifCond .eq 22) 3 18 := ⟨by decide +kernel, rfl⟩
theorem dc_X12_readSum_18 : Dc miX12_readSum 18 (.aload_n 0) 1 19 := ⟨by decide +kernel, rfl⟩
theorem dc_X12_readSum_19 : Dc miX12_readSum 19 (.invokevirtual 215) 3 22 := ⟨by decide +kernel, rfl⟩
theorem dc_X12_readSum_22 : Dc miX12_readSum 22 (.ifCond .ne 5) 3 25 := ⟨by decide +kernel, rfl⟩
theorem dc_X12_readSum_25 : Dc miX12_readSum 25 (.iconst 0) 1 26 := ⟨by decide +kernel, rfl⟩
theorem dc_X12_readSum_26 : Dc miX12_readSum 26 (.ireturn) 1 27 := ⟨by decide +kernel, rfl⟩
theorem dc_X12_readSum_27 : Dc miX12_readSum 27 (.aload_n 0) 1 28 := ⟨by decide +kernel, rfl⟩
theorem dc_X12_readSum_28 : Dc miX12_readSum 28 (.bipush 9) 2 30 := ⟨by decide +kernel, rfl⟩
theorem dc_X12_readSum_30 : Dc miX12_readSum 30 (.iconst 0) 1 31 := ⟨by decide +kernel, rfl⟩
theorem dc_X12_readSum_31 : Dc miX12_readSum 31 (.invokevirtual 205) 3 34 := ⟨by decide +kernel, rfl⟩
theorem dc_X12_readSum_34 : Dc miX12_readSum 34 (.goto (-25)) 3 37 := ⟨by decide +kernel, rfl⟩
theorem dc_X12_readSum_37 : Dc miX12_readSum 37 (.iconst 1) 1 38 := ⟨by decide +kernel, rfl⟩
theorem dc_X12_readSum_38 : Dc miX12_readSum 38 (.ireturn) 1 39 := ⟨by decide +kernel, rfl⟩
def fX12_readSum_b9 (N : Nat) (G : pG) (a0 : Nat) : pS → Option (Int32 × pS) := lp (fun (k9 : pS → Option (Int32 × pS)) (b : pS) => (fX12_sign N G a0 (43 : Int32) b).bind (fun q1 => if q1.1 = 0 then (some ((1 : Int32), q1.2)) else ((fX12_readPart N G a0 q1.2).bind (fun q2 => if q2.1 = 0 then (some ((0 : Int32), q2.2)) else ((fX12_emits N G a0 (9 : Int32) (0 : Int32) q2.2).bind (fun q3 => k9 q3)))))) N
set_option maxRecDepth 100000 in
set_option maxHeartbeats 4000000 in
theorem tX12_readSum_b9 {N : Nat} {G : pG} {SK : Nat → Nat} {a0 : Nat} {b : pS} {r : Int32 × pS} (hW : WT G) (i0 : Is G a0 11) (h : fX12_readSum_b9 N G a0 b = some r) : Ev miX12_readSum (11, 0, 0) G (Zp G (some (.int r.1)) r.2) SK (0, 0) 9 [some (.ref a0)] [] b := by
  unfold fX12_readSum_b9 at h
  refine lp_ind (P := fun b r9 => r9 = r → Ev miX12_readSum (11, 0, 0) G (Zp G (some (.int r.1)) r.2) SK (0, 0) 9 [some (.ref a0)] [] b) (fun k9 σ r9 ih h9 e9 => ?_) N b r h rfl
  clear h
  subst e9
  have h := h9
  clear h9
  have hk9 : ∀ b : pS, k9 b = some r9 → Ev miX12_readSum (11, 0, 0) G (Zp G (some (.int r9.1)) r9.2) SK (0, 0) 9 [some (.ref a0)] [] b := fun b hb => ih b r9 hb rfl
  clear ih
  try dsimp only at h ⊢
  refine ev_aload_n dc_X12_readSum_9 rfl ?_
  refine ev_bipush (v := 43) dc_X12_readSum_10 (by decide) ?_
  obtain ⟨q1, hq1, h⟩ := Option.bind_eq_some_iff.mp h
  refine ev_callV (av := [.int (43 : Int32)]) (st := []) (st1 := [.int q1.1]) dc_X12_readSum_12 (tX12_sign hW i0 hq1) mw_1756 cy_X12_sign i0 (by decide) rfl rfl rfl rfl (Nat.le_of_ble_eq_true rfl) (Nat.le_of_ble_eq_true rfl) ⟨Nat.le_refl _, Nat.le_refl _⟩ ?_
  refine ev_if_eq (tgt := 37) dc_X12_readSum_15 (by decide) h (fun h => ?_) (fun h => ?_)
  · refine ev_iconst (v := 1) dc_X12_readSum_37 (by decide) ?_
    cases h
    exact ev_zretc dc_X12_readSum_38 rfl rfl rfl rfl
  · refine ev_aload_n dc_X12_readSum_18 rfl ?_
    obtain ⟨q2, hq2, h⟩ := Option.bind_eq_some_iff.mp h
    refine ev_callV (av := []) (st := []) (st1 := [.int q2.1]) dc_X12_readSum_19 (tX12_readPart hW i0 hq2) mw_1775 cy_X12_readPart i0 (by decide) rfl rfl rfl rfl (Nat.le_of_ble_eq_true rfl) (Nat.le_of_ble_eq_true rfl) ⟨Nat.le_refl _, Nat.le_refl _⟩ ?_
    refine ev_if_ne (tgt := 27) dc_X12_readSum_22 (by decide) h (fun h => ?_) (fun h => ?_)
    · refine ev_iconst (v := 0) dc_X12_readSum_25 (by decide) ?_
      cases h
      exact ev_zretc dc_X12_readSum_26 rfl rfl rfl rfl
    · refine ev_aload_n dc_X12_readSum_27 rfl ?_
      refine ev_bipush (v := 9) dc_X12_readSum_28 (by decide) ?_
      refine ev_iconst (v := 0) dc_X12_readSum_30 (by decide) ?_
      obtain ⟨q3, hq3, h⟩ := Option.bind_eq_some_iff.mp h
      refine ev_callV (av := [.int (9 : Int32), .int (0 : Int32)]) (st := []) (st1 := []) dc_X12_readSum_31 (tX12_emits hW i0 hq3) mw_1761 cy_X12_emits i0 (by decide) rfl rfl rfl rfl (Nat.le_of_ble_eq_true rfl) (Nat.le_of_ble_eq_true rfl) ⟨Nat.le_refl _, Nat.le_refl _⟩ ?_
      refine ev_goto (tgt := 9) dc_X12_readSum_34 (by decide) ?_
      exact ev_sub (hk9 q3 h) (And.intro rfl trivial)
def fX12_readSum (N : Nat) (G : pG) (a0 : Nat) (σ : pS) : Option (Int32 × pS) := (fX12_readPart N G a0 σ).bind (fun q4 => if q4.1 = 0 then (some ((0 : Int32), q4.2)) else (fX12_readSum_b9 N G a0 q4.2))
set_option maxRecDepth 100000 in
set_option maxHeartbeats 4000000 in
theorem tX12_readSum {N : Nat} {G : pG} {SK : Nat → Nat} {a0 : Nat} {σ : pS} {r : Int32 × pS} (hW : WT G) (i0 : Is G a0 11) (h : fX12_readSum N G a0 σ = some r) : Dn miX12_readSum yX12_readSum 11 G SK [.ref a0] σ (some (.int r.1)) r.2 := by
  unfold fX12_readSum at h
  refine dn_of (lv := [some (.ref a0)]) (by decide) rfl rfl (Nat.le_of_ble_eq_true rfl) rfl ?_
  refine ev_aload_n dc_X12_readSum_0 rfl ?_
  obtain ⟨q4, hq4, h⟩ := Option.bind_eq_some_iff.mp h
  refine ev_callV (av := []) (st := []) (st1 := [.int q4.1]) dc_X12_readSum_1 (tX12_readPart hW i0 hq4) mw_1775 cy_X12_readPart i0 (by decide) rfl rfl rfl rfl (Nat.le_of_ble_eq_true rfl) (Nat.le_of_ble_eq_true rfl) ⟨Nat.le_refl _, Nat.le_refl _⟩ ?_
  refine ev_if_ne (tgt := 9) dc_X12_readSum_4 (by decide) h (fun h => ?_) (fun h => ?_)
  · refine ev_iconst (v := 0) dc_X12_readSum_7 (by decide) ?_
    cases h
    exact ev_zretc dc_X12_readSum_8 rfl rfl rfl rfl
  · exact ev_sub (tX12_readSum_b9 (b := q4.2) hW i0 h) (And.intro rfl trivial)
theorem dc_X12_readTag_0 : Dc miX12_readTag 0 (.aload_n 0) 1 1 := ⟨by decide +kernel, rfl⟩
theorem dc_X12_readTag_1 : Dc miX12_readTag 1 (.invokevirtual 112) 3 4 := ⟨by decide +kernel, rfl⟩
theorem dc_X12_readTag_4 : Dc miX12_readTag 4 (.aload_n 0) 1 5 := ⟨by decide +kernel, rfl⟩
theorem dc_X12_readTag_5 : Dc miX12_readTag 5 (.ldc 221) 2 7 := ⟨by decide +kernel, rfl⟩
theorem dc_X12_readTag_7 : Dc miX12_readTag 7 (.invokevirtual 115) 3 10 := ⟨by decide +kernel, rfl⟩
theorem dc_X12_readTag_10 : Dc miX12_readTag 10 (.ifCond .eq 8) 3 13 := ⟨by decide +kernel, rfl⟩
theorem dc_X12_readTag_13 : Dc miX12_readTag 13 (.bipush 6) 2 15 := ⟨by decide +kernel, rfl⟩
theorem dc_X12_readTag_15 : Dc miX12_readTag 15 (.goto 18) 3 18 := ⟨by decide +kernel, rfl⟩
theorem dc_X12_readTag_18 : Dc miX12_readTag 18 (.aload_n 0) 1 19 := ⟨by decide +kernel, rfl⟩
theorem dc_X12_readTag_19 : Dc miX12_readTag 19 (.ldc 223) 2 21 := ⟨by decide +kernel, rfl⟩
theorem dc_X12_readTag_21 : Dc miX12_readTag 21 (.invokevirtual 115) 3 24 := ⟨by decide +kernel, rfl⟩
theorem dc_X12_readTag_24 : Dc miX12_readTag 24 (.ifCond .eq 8) 3 27 := ⟨by decide +kernel, rfl⟩
theorem dc_X12_readTag_27 : Dc miX12_readTag 27 (.bipush 7) 2 29 := ⟨by decide +kernel, rfl⟩
theorem dc_X12_readTag_29 : Dc miX12_readTag 29 (.goto 4) 3 32 := ⟨by decide +kernel, rfl⟩
theorem dc_X12_readTag_32 : Dc miX12_readTag 32 (.iconst (-1)) 1 33 := ⟨by decide +kernel, rfl⟩
theorem dc_X12_readTag_33 : Dc miX12_readTag 33 (.istore_n 1) 1 34 := ⟨by decide +kernel, rfl⟩
theorem dc_X12_readTag_34 : Dc miX12_readTag 34 (.iload_n 1) 1 35 := ⟨by decide +kernel, rfl⟩
theorem dc_X12_readTag_35 : Dc miX12_readTag 35 (.ifCond .lt 12) 3 38 := ⟨by decide +kernel, rfl⟩
theorem dc_X12_readTag_38 : Dc miX12_readTag 38 (.aload_n 0) 1 39 := ⟨by decide +kernel, rfl⟩
theorem dc_X12_readTag_39 : Dc miX12_readTag 39 (.iload_n 1) 1 40 := ⟨by decide +kernel, rfl⟩
theorem dc_X12_readTag_40 : Dc miX12_readTag 40 (.iconst 0) 1 41 := ⟨by decide +kernel, rfl⟩
theorem dc_X12_readTag_41 : Dc miX12_readTag 41 (.invokevirtual 205) 3 44 := ⟨by decide +kernel, rfl⟩
theorem dc_X12_readTag_44 : Dc miX12_readTag 44 (.goto 11) 3 47 := ⟨by decide +kernel, rfl⟩
theorem dc_X12_readTag_47 : Dc miX12_readTag 47 (.aload_n 0) 1 48 := ⟨by decide +kernel, rfl⟩
theorem dc_X12_readTag_48 : Dc miX12_readTag 48 (.aload_n 0) 1 49 := ⟨by decide +kernel, rfl⟩
theorem dc_X12_readTag_49 : Dc miX12_readTag 49 (.getfield 97) 3 52 := ⟨by decide +kernel, rfl⟩
theorem dc_X12_readTag_52 : Dc miX12_readTag 52 (.putfield 87) 3 55 := ⟨by decide +kernel, rfl⟩
theorem dc_X12_readTag_55 : Dc miX12_readTag 55 (.iload_n 1) 1 56 := ⟨by decide +kernel, rfl⟩
theorem dc_X12_readTag_56 : Dc miX12_readTag 56 (.ifCond .lt 7) 3 59 := ⟨by decide +kernel, rfl⟩
theorem dc_X12_readTag_59 : Dc miX12_readTag 59 (.iconst 1) 1 60 := ⟨by decide +kernel, rfl⟩
theorem dc_X12_readTag_60 : Dc miX12_readTag 60 (.goto 4) 3 63 := ⟨by decide +kernel, rfl⟩
theorem dc_X12_readTag_63 : Dc miX12_readTag 63 (.iconst 0) 1 64 := ⟨by decide +kernel, rfl⟩
theorem dc_X12_readTag_64 : Dc miX12_readTag 64 (.ireturn) 1 65 := ⟨by decide +kernel, rfl⟩
def fX12_readTag_b55 (N : Nat) (G : pG) (x1 : Int32) (σ : pS) : Option (Int32 × pS) := if x1 < 0 then (some ((0 : Int32), σ)) else (some ((1 : Int32), σ))
set_option maxRecDepth 100000 in
set_option maxHeartbeats 4000000 in
theorem tX12_readTag_b55 {N : Nat} {G : pG} {SK : Nat → Nat} {x1 : Int32} {σ : pS} {r : Int32 × pS} (hW : WT G) (h : fX12_readTag_b55 N G x1 σ = some r) : Ev miX12_readTag (10, 0, 0) G (Zp G (some (.int r.1)) r.2) SK (0, 0) 55 [none, some (.int x1)] [] σ := by
  unfold fX12_readTag_b55 at h
  refine ev_iload_n dc_X12_readTag_55 rfl ?_
  refine ev_if_lt (tgt := 63) dc_X12_readTag_56 (by decide) h (fun h => ?_) (fun h => ?_)
  · refine ev_iconst (v := 0) dc_X12_readTag_63 (by decide) ?_
    cases h
    exact ev_zretc dc_X12_readTag_64 rfl rfl rfl rfl
  · refine ev_iconst (v := 1) dc_X12_readTag_59 (by decide) ?_
    refine ev_goto (tgt := 64) dc_X12_readTag_60 (by decide) ?_
    cases h
    exact ev_zretc dc_X12_readTag_64 rfl rfl rfl rfl
def fX12_readTag_b33 (N : Nat) (G : pG) (a0 : Nat) (y0 : Int32) (σ : pS) : Option (Int32 × pS) := if y0 < 0 then (fX12_readTag_b55 N G y0 (putF σ a0 10 (σ.1 a0 12))) else ((fX12_emits N G a0 y0 (0 : Int32) σ).bind (fun q1 => fX12_readTag_b55 N G y0 q1))
set_option maxRecDepth 100000 in
set_option maxHeartbeats 4000000 in
theorem tX12_readTag_b33 {N : Nat} {G : pG} {SK : Nat → Nat} {a0 : Nat} {y0 : Int32} {σ : pS} {r : Int32 × pS} (hW : WT G) (i0 : Is G a0 11) (h : fX12_readTag_b33 N G a0 y0 σ = some r) : Ev miX12_readTag (10, 0, 0) G (Zp G (some (.int r.1)) r.2) SK (0, 0) 33 [some (.ref a0), none] [.int y0] σ := by
  unfold fX12_readTag_b33 at h
  refine ev_istore_n (lv' := [some (.ref a0), some (.int y0)]) dc_X12_readTag_33 rfl (by decide) rfl ?_
  refine ev_iload_n dc_X12_readTag_34 rfl ?_
  refine ev_if_lt (tgt := 47) dc_X12_readTag_35 (by decide) h (fun h => ?_) (fun h => ?_)
  · refine ev_aload_n dc_X12_readTag_47 rfl ?_
    refine ev_aload_n dc_X12_readTag_48 rfl ?_
    refine ev_getI dc_X12_readTag_49 fi_X12_97 rfl i0 ?_
    refine ev_putI dc_X12_readTag_52 fi_X12_87 rfl i0 ?_
    exact ev_sub (tX12_readTag_b55 hW h) (And.intro rfl trivial)
  · refine ev_aload_n dc_X12_readTag_38 rfl ?_
    refine ev_iload_n dc_X12_readTag_39 rfl ?_
    refine ev_iconst (v := 0) dc_X12_readTag_40 (by decide) ?_
    obtain ⟨q1, hq1, h⟩ := Option.bind_eq_some_iff.mp h
    refine ev_callV (av := [.int y0, .int (0 : Int32)]) (st := []) (st1 := []) dc_X12_readTag_41 (tX12_emits hW i0 hq1) mw_1761 cy_X12_emits i0 (by decide) rfl rfl rfl rfl (Nat.le_of_ble_eq_true rfl) (Nat.le_of_ble_eq_true rfl) ⟨Nat.le_refl _, Nat.le_refl _⟩ ?_
    refine ev_goto (tgt := 55) dc_X12_readTag_44 (by decide) ?_
    exact ev_sub (tX12_readTag_b55 hW h) (And.intro rfl trivial)
def fX12_readTag (N : Nat) (G : pG) (a0 : Nat) (σ : pS) : Option (Int32 × pS) := (fX12_letters N G a0 σ).bind (fun q2 => (fX12_isWord N G a0 65 q2).bind (fun q3 => if q3 = 0 then ((fX12_isWord N G a0 66 q2).bind (fun q4 => if q4 = 0 then (fX12_readTag_b33 N G a0 (-1 : Int32) q2) else (fX12_readTag_b33 N G a0 (7 : Int32) q2))) else (fX12_readTag_b33 N G a0 (6 : Int32) q2)))
set_option maxRecDepth 100000 in
set_option maxHeartbeats 4000000 in
theorem tX12_readTag {N : Nat} {G : pG} {SK : Nat → Nat} {a0 : Nat} {σ : pS} {r : Int32 × pS} (hW : WT G) (i0 : Is G a0 11) (h : fX12_readTag N G a0 σ = some r) : Dn miX12_readTag yX12_readTag 10 G SK [.ref a0] σ (some (.int r.1)) r.2 := by
  unfold fX12_readTag at h
  refine dn_of (lv := [some (.ref a0), none]) (by decide) rfl rfl (Nat.le_of_ble_eq_true rfl) rfl ?_
  refine ev_aload_n dc_X12_readTag_0 rfl ?_
  obtain ⟨q2, hq2, h⟩ := Option.bind_eq_some_iff.mp h
  refine ev_callV (av := []) (st := []) (st1 := []) dc_X12_readTag_1 (tX12_letters hW i0 hq2) mw_1629 cy_X12_letters i0 (by decide) rfl rfl rfl rfl (Nat.le_of_ble_eq_true rfl) (Nat.le_of_ble_eq_true rfl) ⟨Nat.le_refl _, Nat.le_refl _⟩ ?_
  refine ev_aload_n dc_X12_readTag_4 rfl ?_
  refine ev_ldcS (sid := 65) (tx := "true") dc_X12_readTag_5 (List.mem_of_getElem? (i := 65) rfl) ?_
  obtain ⟨q3, hq3, h⟩ := Option.bind_eq_some_iff.mp h
  refine ev_callV (av := [.ref (SK 65)]) (st := []) (st1 := [.int q3]) dc_X12_readTag_7 (tX12_isWord hW i0 rfl hq3) mw_1638 cy_X12_isWord i0 (by decide) rfl rfl rfl rfl (Nat.le_of_ble_eq_true rfl) (Nat.le_of_ble_eq_true rfl) ⟨Nat.le_refl _, Nat.le_refl _⟩ ?_
  refine ev_if_eq (tgt := 18) dc_X12_readTag_10 (by decide) h (fun h => ?_) (fun h => ?_)
  · refine ev_aload_n dc_X12_readTag_18 rfl ?_
    refine ev_ldcS (sid := 66) (tx := "sure") dc_X12_readTag_19 (List.mem_of_getElem? (i := 66) rfl) ?_
    obtain ⟨q4, hq4, h⟩ := Option.bind_eq_some_iff.mp h
    refine ev_callV (av := [.ref (SK 66)]) (st := []) (st1 := [.int q4]) dc_X12_readTag_21 (tX12_isWord hW i0 rfl hq4) mw_1638 cy_X12_isWord i0 (by decide) rfl rfl rfl rfl (Nat.le_of_ble_eq_true rfl) (Nat.le_of_ble_eq_true rfl) ⟨Nat.le_refl _, Nat.le_refl _⟩ ?_
    refine ev_if_eq (tgt := 32) dc_X12_readTag_24 (by decide) h (fun h => ?_) (fun h => ?_)
    · refine ev_iconst (v := (-1)) dc_X12_readTag_32 (by decide) ?_
      exact ev_sub (tX12_readTag_b33 hW i0 h) (And.intro rfl trivial)
    · refine ev_bipush (v := 7) dc_X12_readTag_27 (by decide) ?_
      refine ev_goto (tgt := 33) dc_X12_readTag_29 (by decide) ?_
      exact ev_sub (tX12_readTag_b33 hW i0 h) (And.intro rfl trivial)
  · refine ev_bipush (v := 6) dc_X12_readTag_13 (by decide) ?_
    refine ev_goto (tgt := 33) dc_X12_readTag_15 (by decide) ?_
    exact ev_sub (tX12_readTag_b33 hW i0 h) (And.intro rfl trivial)
theorem dc_X12_readAllOf_0 : Dc miX12_readAllOf 0 (.aload_n 0) 1 1 := ⟨by decide +kernel, rfl⟩
theorem dc_X12_readAllOf_1 : Dc miX12_readAllOf 1 (.invokevirtual 233) 3 4 := ⟨by decide +kernel, rfl⟩
theorem dc_X12_readAllOf_4 : Dc miX12_readAllOf 4 (.ifCond .ne 5) 3 7 := ⟨by decide +kernel, rfl⟩
theorem dc_X12_readAllOf_7 : Dc miX12_readAllOf 7 (.iconst 0) 1 8 := ⟨by decide +kernel, rfl⟩
theorem dc_X12_readAllOf_8 : Dc miX12_readAllOf 8 (.ireturn) 1 9 := ⟨by decide +kernel, rfl⟩
theorem dc_X12_readAllOf_9 : Dc miX12_readAllOf 9 (.aload_n 0) 1 10 := ⟨by decide +kernel, rfl⟩
theorem dc_X12_readAllOf_10 : Dc miX12_readAllOf 10 (.ldc 242) 2 12 := ⟨by decide +kernel, rfl⟩
theorem dc_X12_readAllOf_12 : Dc miX12_readAllOf 12 (.invokevirtual 136) 3 15 := ⟨by decide +kernel, rfl⟩
theorem dc_X12_readAllOf_15 : Dc miX12_readAllOf 15 (.ifCond .eq 22) 3 18 := ⟨by decide +kernel, rfl⟩
theorem dc_X12_readAllOf_18 : Dc miX12_readAllOf 18 (.aload_n 0) 1 19 := ⟨by decide +kernel, rfl⟩
theorem dc_X12_readAllOf_19 : Dc miX12_readAllOf 19 (.invokevirtual 233) 3 22 := ⟨by decide +kernel, rfl⟩
theorem dc_X12_readAllOf_22 : Dc miX12_readAllOf 22 (.ifCond .ne 5) 3 25 := ⟨by decide +kernel, rfl⟩
theorem dc_X12_readAllOf_25 : Dc miX12_readAllOf 25 (.iconst 0) 1 26 := ⟨by decide +kernel, rfl⟩
theorem dc_X12_readAllOf_26 : Dc miX12_readAllOf 26 (.ireturn) 1 27 := ⟨by decide +kernel, rfl⟩
theorem dc_X12_readAllOf_27 : Dc miX12_readAllOf 27 (.aload_n 0) 1 28 := ⟨by decide +kernel, rfl⟩
theorem dc_X12_readAllOf_28 : Dc miX12_readAllOf 28 (.bipush 13) 2 30 := ⟨by decide +kernel, rfl⟩
theorem dc_X12_readAllOf_30 : Dc miX12_readAllOf 30 (.iconst 0) 1 31 := ⟨by decide +kernel, rfl⟩
theorem dc_X12_readAllOf_31 : Dc miX12_readAllOf 31 (.invokevirtual 205) 3 34 := ⟨by decide +kernel, rfl⟩
theorem dc_X12_readAllOf_34 : Dc miX12_readAllOf 34 (.goto (-25)) 3 37 := ⟨by decide +kernel, rfl⟩
theorem dc_X12_readAllOf_37 : Dc miX12_readAllOf 37 (.iconst 1) 1 38 := ⟨by decide +kernel, rfl⟩
theorem dc_X12_readAllOf_38 : Dc miX12_readAllOf 38 (.ireturn) 1 39 := ⟨by decide +kernel, rfl⟩
def fX12_readAllOf_b9 (N : Nat) (G : pG) (rc : Nat × pS → Option (Int32 × pS)) (a0 : Nat) : pS → Option (Int32 × pS) := lp (fun (k9 : pS → Option (Int32 × pS)) (b : pS) => (fX12_passes N G a0 70 b).bind (fun q1 => if q1.1 = 0 then (some ((1 : Int32), q1.2)) else ((rc (a0, q1.2)).bind (fun q2 => if q2.1 = 0 then (some ((0 : Int32), q2.2)) else ((fX12_emits N G a0 (13 : Int32) (0 : Int32) q2.2).bind (fun q3 => k9 q3)))))) N
set_option maxRecDepth 100000 in
set_option maxHeartbeats 4000000 in
theorem tX12_readAllOf_b9 {N : Nat} {G : pG} {SK : Nat → Nat} {rc : Nat × pS → Option (Int32 × pS)} {d0 : Nat} {a0 : Nat} {b : pS} {r : Int32 × pS} (hW : WT G) (hrc : ∀ (b : Nat × pS), Is G b.1 11 → ∀ (r : Int32 × pS), rc b = some r → Dn miX12_readAtom yX12_readAtom d0 G SK [.ref b.1] b.2 (some (.int r.1)) r.2) (i0 : Is G a0 11) (h : fX12_readAllOf_b9 N G rc a0 b = some r) : Ev miX12_readAllOf (d0 + 11, 0, 0) G (Zp G (some (.int r.1)) r.2) SK (0, 0) 9 [some (.ref a0)] [] b := by
  unfold fX12_readAllOf_b9 at h
  refine lp_ind (P := fun b r9 => r9 = r → Ev miX12_readAllOf (d0 + 11, 0, 0) G (Zp G (some (.int r.1)) r.2) SK (0, 0) 9 [some (.ref a0)] [] b) (fun k9 σ r9 ih h9 e9 => ?_) N b r h rfl
  clear h
  subst e9
  have h := h9
  clear h9
  have hk9 : ∀ b : pS, k9 b = some r9 → Ev miX12_readAllOf (d0 + 11, 0, 0) G (Zp G (some (.int r9.1)) r9.2) SK (0, 0) 9 [some (.ref a0)] [] b := fun b hb => ih b r9 hb rfl
  clear ih
  try dsimp only at h ⊢
  refine ev_aload_n dc_X12_readAllOf_9 rfl ?_
  refine ev_ldcS (sid := 70) (tx := "and") dc_X12_readAllOf_10 (List.mem_of_getElem? (i := 70) rfl) ?_
  obtain ⟨q1, hq1, h⟩ := Option.bind_eq_some_iff.mp h
  refine ev_callV (av := [.ref (SK 70)]) (st := []) (st1 := [.int q1.1]) dc_X12_readAllOf_12 (tX12_passes hW i0 rfl hq1) mw_1681 cy_X12_passes i0 (by decide) rfl rfl rfl rfl (Nat.le_of_ble_eq_true rfl) (show _ ≤ d0 + 11 from by omega) ⟨Nat.le_refl _, Nat.le_refl _⟩ ?_
  refine ev_if_eq (tgt := 37) dc_X12_readAllOf_15 (by decide) h (fun h => ?_) (fun h => ?_)
  · refine ev_iconst (v := 1) dc_X12_readAllOf_37 (by decide) ?_
    cases h
    exact ev_zretc dc_X12_readAllOf_38 rfl rfl rfl rfl
  · refine ev_aload_n dc_X12_readAllOf_18 rfl ?_
    obtain ⟨q2, hq2, h⟩ := Option.bind_eq_some_iff.mp h
    refine ev_callV (av := []) (st := []) (st1 := [.int q2.1]) dc_X12_readAllOf_19 (hrc _ i0 _ hq2) mw_1752 cy_X12_readAtom i0 (by decide) rfl rfl rfl rfl (Nat.le_of_ble_eq_true rfl) (show _ ≤ d0 + 11 from by omega) ⟨Nat.le_refl _, Nat.le_refl _⟩ ?_
    refine ev_if_ne (tgt := 27) dc_X12_readAllOf_22 (by decide) h (fun h => ?_) (fun h => ?_)
    · refine ev_iconst (v := 0) dc_X12_readAllOf_25 (by decide) ?_
      cases h
      exact ev_zretc dc_X12_readAllOf_26 rfl rfl rfl rfl
    · refine ev_aload_n dc_X12_readAllOf_27 rfl ?_
      refine ev_bipush (v := 13) dc_X12_readAllOf_28 (by decide) ?_
      refine ev_iconst (v := 0) dc_X12_readAllOf_30 (by decide) ?_
      obtain ⟨q3, hq3, h⟩ := Option.bind_eq_some_iff.mp h
      refine ev_callV (av := [.int (13 : Int32), .int (0 : Int32)]) (st := []) (st1 := []) dc_X12_readAllOf_31 (tX12_emits hW i0 hq3) mw_1761 cy_X12_emits i0 (by decide) rfl rfl rfl rfl (Nat.le_of_ble_eq_true rfl) (show _ ≤ d0 + 11 from by omega) ⟨Nat.le_refl _, Nat.le_refl _⟩ ?_
      refine ev_goto (tgt := 9) dc_X12_readAllOf_34 (by decide) ?_
      exact ev_sub (hk9 q3 h) (And.intro rfl trivial)
def fX12_readAllOf (N : Nat) (G : pG) (rc : Nat × pS → Option (Int32 × pS)) (a0 : Nat) (σ : pS) : Option (Int32 × pS) := (rc (a0, σ)).bind (fun q4 => if q4.1 = 0 then (some ((0 : Int32), q4.2)) else (fX12_readAllOf_b9 N G rc a0 q4.2))
set_option maxRecDepth 100000 in
set_option maxHeartbeats 4000000 in
theorem tX12_readAllOf {N : Nat} {G : pG} {SK : Nat → Nat} {rc : Nat × pS → Option (Int32 × pS)} {d0 : Nat} {a0 : Nat} {σ : pS} {r : Int32 × pS} (hW : WT G) (hrc : ∀ (b : Nat × pS), Is G b.1 11 → ∀ (r : Int32 × pS), rc b = some r → Dn miX12_readAtom yX12_readAtom d0 G SK [.ref b.1] b.2 (some (.int r.1)) r.2) (i0 : Is G a0 11) (h : fX12_readAllOf N G rc a0 σ = some r) : Dn miX12_readAllOf yX12_readAllOf (d0 + 11) G SK [.ref a0] σ (some (.int r.1)) r.2 := by
  unfold fX12_readAllOf at h
  refine dn_of (lv := [some (.ref a0)]) (by decide) rfl rfl (Nat.le_of_ble_eq_true rfl) rfl ?_
  refine ev_aload_n dc_X12_readAllOf_0 rfl ?_
  obtain ⟨q4, hq4, h⟩ := Option.bind_eq_some_iff.mp h
  refine ev_callV (av := []) (st := []) (st1 := [.int q4.1]) dc_X12_readAllOf_1 (hrc _ i0 _ hq4) mw_1752 cy_X12_readAtom i0 (by decide) rfl rfl rfl rfl (Nat.le_of_ble_eq_true rfl) (show _ ≤ d0 + 11 from by omega) ⟨Nat.le_refl _, Nat.le_refl _⟩ ?_
  refine ev_if_ne (tgt := 9) dc_X12_readAllOf_4 (by decide) h (fun h => ?_) (fun h => ?_)
  · refine ev_iconst (v := 0) dc_X12_readAllOf_7 (by decide) ?_
    cases h
    exact ev_zretc dc_X12_readAllOf_8 rfl rfl rfl rfl
  · exact ev_sub (tX12_readAllOf_b9 (b := q4.2) hW hrc i0 h) (And.intro rfl trivial)
