theorem dc_X11_shared_0 : Dc miX11_shared 0 (.iconst 0) 1 1 := ⟨by decide +kernel, rfl⟩
theorem dc_X11_shared_1 : Dc miX11_shared 1 (.istore_n 1) 1 2 := ⟨by decide +kernel, rfl⟩
theorem dc_X11_shared_2 : Dc miX11_shared 2 (.iconst 0) 1 3 := ⟨by decide +kernel, rfl⟩
theorem dc_X11_shared_3 : Dc miX11_shared 3 (.istore_n 2) 1 4 := ⟨by decide +kernel, rfl⟩
theorem dc_X11_shared_4 : Dc miX11_shared 4 (.iload_n 2) 1 5 := ⟨by decide +kernel, rfl⟩
theorem dc_X11_shared_5 : Dc miX11_shared 5 (.bipush 6) 2 7 := ⟨by decide +kernel, rfl⟩
theorem dc_X11_shared_7 : Dc miX11_shared 7 (.if_icmp .ge 45) 3 10 := ⟨by decide +kernel, rfl⟩
theorem dc_X11_shared_10 : Dc miX11_shared 10 (.aload_n 0) 1 11 := ⟨by decide +kernel, rfl⟩
theorem dc_X11_shared_11 : Dc miX11_shared 11 (.getfield 19) 3 14 := ⟨by decide +kernel, rfl⟩
theorem dc_X11_shared_14 : Dc miX11_shared 14 (.getfield 155) 3 17 := ⟨by decide +kernel, rfl⟩
theorem dc_X11_shared_17 : Dc miX11_shared 17 (.getfield 158) 3 20 := ⟨by decide +kernel, rfl⟩
theorem dc_X11_shared_20 : Dc miX11_shared 20 (.aload_n 0) 1 21 := ⟨by decide +kernel, rfl⟩
theorem dc_X11_shared_21 : Dc miX11_shared 21 (.getfield 19) 3 24 := ⟨by decide +kernel, rfl⟩
theorem dc_X11_shared_24 : Dc miX11_shared 24 (.getfield 104) 3 27 := ⟨by decide +kernel, rfl⟩
theorem dc_X11_shared_27 : Dc miX11_shared 27 (.getfield 343) 3 30 := ⟨by decide +kernel, rfl⟩
theorem dc_X11_shared_30 : Dc miX11_shared 30 (.iload_n 2) 1 31 := ⟨by decide +kernel, rfl⟩
theorem dc_X11_shared_31 : Dc miX11_shared 31 (.invokestatic 148) 3 34 := ⟨by decide +kernel, rfl⟩
theorem dc_X11_shared_34 : Dc miX11_shared 34 (.iconst (-1)) 1 35 := ⟨by decide +kernel, rfl⟩
theorem dc_X11_shared_35 : Dc miX11_shared 35 (.ixor) 1 36 := ⟨by decide +kernel, rfl⟩
theorem dc_X11_shared_36 : Dc miX11_shared 36 (.iand) 1 37 := ⟨by decide +kernel, rfl⟩
theorem dc_X11_shared_37 : Dc miX11_shared 37 (.ifCond .ne 9) 3 40 := ⟨by decide +kernel, rfl⟩
theorem dc_X11_shared_40 : Dc miX11_shared 40 (.iload_n 1) 1 41 := ⟨by decide +kernel, rfl⟩
theorem dc_X11_shared_41 : Dc miX11_shared 41 (.iconst 1) 1 42 := ⟨by decide +kernel, rfl⟩
theorem dc_X11_shared_42 : Dc miX11_shared 42 (.iload_n 2) 1 43 := ⟨by decide +kernel, rfl⟩
theorem dc_X11_shared_43 : Dc miX11_shared 43 (.ishl) 1 44 := ⟨by decide +kernel, rfl⟩
theorem dc_X11_shared_44 : Dc miX11_shared 44 (.ior) 1 45 := ⟨by decide +kernel, rfl⟩
theorem dc_X11_shared_45 : Dc miX11_shared 45 (.istore_n 1) 1 46 := ⟨by decide +kernel, rfl⟩
theorem dc_X11_shared_46 : Dc miX11_shared 46 (.iinc 2 1) 3 49 := ⟨by decide +kernel, rfl⟩
theorem dc_X11_shared_49 : Dc miX11_shared 49 (.goto (-45)) 3 52 := ⟨by decide +kernel, rfl⟩
theorem dc_X11_shared_52 : Dc miX11_shared 52 (.aload_n 0) 1 53 := ⟨by decide +kernel, rfl⟩
theorem dc_X11_shared_53 : Dc miX11_shared 53 (.getfield 19) 3 56 := ⟨by decide +kernel, rfl⟩
theorem dc_X11_shared_56 : Dc miX11_shared 56 (.getfield 155) 3 59 := ⟨by decide +kernel, rfl⟩
theorem dc_X11_shared_59 : Dc miX11_shared 59 (.getfield 158) 3 62 := ⟨by decide +kernel, rfl⟩
theorem dc_X11_shared_62 : Dc miX11_shared 62 (.ifCond .ne 7) 3 65 := ⟨by decide +kernel, rfl⟩
theorem dc_X11_shared_65 : Dc miX11_shared 65 (.iconst 0) 1 66 := ⟨by decide +kernel, rfl⟩
theorem dc_X11_shared_66 : Dc miX11_shared 66 (.goto 4) 3 69 := ⟨by decide +kernel, rfl⟩
theorem dc_X11_shared_69 : Dc miX11_shared 69 (.iload_n 1) 1 70 := ⟨by decide +kernel, rfl⟩
theorem dc_X11_shared_70 : Dc miX11_shared 70 (.ireturn) 1 71 := ⟨by decide +kernel, rfl⟩
def fX11_shared_b4 (N : Nat) (G : pG) (a0 : Nat) (σ : pS) : (Int32 × Int32) → Option (Int32) := lp (fun (k4 : Int32 × Int32 → Option (Int32)) (b : Int32 × Int32) => if (6 : Int32) ≤ b.2 then (if (σ.1 (pR G (pR G a0 1) 2) 3) = 0 then (some (0 : Int32)) else (some b.1)) else ((fX11_at N G (pR G (pR G (pR G a0 1) 0) 11) b.2 σ).bind (fun q1 => if ((σ.1 (pR G (pR G a0 1) 2) 3) &&& (q1 ^^^ (-1 : Int32))) = 0 then (k4 (b.1 ||| ((1 : Int32) <<< (b.2 &&& 31)), b.2 + (1 : Int32))) else (k4 (b.1, b.2 + (1 : Int32)))))) N
set_option maxRecDepth 100000 in
set_option maxHeartbeats 4000000 in
theorem tX11_shared_b4 {N : Nat} {G : pG} {SK : Nat → Nat} {a0 : Nat} {σ : pS} {b : Int32 × Int32} {r : Int32} (hW : WT G) (i0 : Is G a0 10) (h : fX11_shared_b4 N G a0 σ b = some r) : Ev miX11_shared (2, 0, 0) G (Zp G (some (.int r)) σ) SK (0, 0) 4 [some (.ref a0), some (.int b.1), some (.int b.2)] [] σ := by
  unfold fX11_shared_b4 at h
  refine lp_ind (P := fun b r9 => r9 = r → Ev miX11_shared (2, 0, 0) G (Zp G (some (.int r)) σ) SK (0, 0) 4 [some (.ref a0), some (.int b.1), some (.int b.2)] [] σ) (fun k4 b r9 ih h9 e9 => ?_) N b r h rfl
  clear h
  subst e9
  have h := h9
  clear h9
  have hk4 : ∀ b : Int32 × Int32, k4 b = some r9 → Ev miX11_shared (2, 0, 0) G (Zp G (some (.int r9)) σ) SK (0, 0) 4 [some (.ref a0), some (.int b.1), some (.int b.2)] [] σ := fun b hb => ih b r9 hb rfl
  clear ih
  obtain ⟨x1, x2⟩ := b
  dsimp only at h ⊢
  refine ev_iload_n dc_X11_shared_4 rfl ?_
  refine ev_bipush (v := 6) dc_X11_shared_5 (by decide) ?_
  refine ev_icmp_ge (tgt := 52) dc_X11_shared_7 (by decide) h (fun h => ?_) (fun h => ?_)
  · refine ev_aload_n dc_X11_shared_52 rfl ?_
    refine ev_getR dc_X11_shared_53 fi_X11_19 rfl i0 ?_
    refine ev_getR dc_X11_shared_56 fi_X11_155 rfl (wt hW i0 1 rfl rfl) ?_
    refine ev_getI dc_X11_shared_59 fi_X11_158 rfl (wt hW (wt hW i0 1 rfl rfl) 2 rfl rfl) ?_
    refine ev_if_ne (tgt := 69) dc_X11_shared_62 (by decide) h (fun h => ?_) (fun h => ?_)
    · refine ev_iconst (v := 0) dc_X11_shared_65 (by decide) ?_
      refine ev_goto (tgt := 70) dc_X11_shared_66 (by decide) ?_
      cases h
      exact ev_iret dc_X11_shared_70 rfl rfl rfl
    · refine ev_iload_n dc_X11_shared_69 rfl ?_
      cases h
      exact ev_iret dc_X11_shared_70 rfl rfl rfl
  · refine ev_aload_n dc_X11_shared_10 rfl ?_
    refine ev_getR dc_X11_shared_11 fi_X11_19 rfl i0 ?_
    refine ev_getR dc_X11_shared_14 fi_X11_155 rfl (wt hW i0 1 rfl rfl) ?_
    refine ev_getI dc_X11_shared_17 fi_X11_158 rfl (wt hW (wt hW i0 1 rfl rfl) 2 rfl rfl) ?_
    refine ev_aload_n dc_X11_shared_20 rfl ?_
    refine ev_getR dc_X11_shared_21 fi_X11_19 rfl i0 ?_
    refine ev_getR dc_X11_shared_24 fi_X11_104 rfl (wt hW i0 1 rfl rfl) ?_
    refine ev_getR dc_X11_shared_27 fi_X11_343 rfl (wt hW (wt hW i0 1 rfl rfl) 0 rfl rfl) ?_
    refine ev_iload_n dc_X11_shared_30 rfl ?_
    obtain ⟨q1, hq1, h⟩ := Option.bind_eq_some_iff.mp h
    refine ev_callS (av := [.ref (pR G (pR G (pR G a0 1) 0) 11), .int x2]) (st := [.int (σ.1 (pR G (pR G a0 1) 2) 3)]) (st1 := [.int q1, .int (σ.1 (pR G (pR G a0 1) 2) 3)]) dc_X11_shared_31 (tX11_at hW (wt hW (wt hW (wt hW i0 1 rfl rfl) 0 rfl rfl) 11 rfl rfl) hq1) mw_567 cs_X11_at rfl rfl rfl (Nat.le_of_ble_eq_true rfl) (Nat.le_of_ble_eq_true rfl) ⟨Nat.le_refl _, Nat.le_refl _⟩ ?_
    refine ev_iconst (v := (-1)) dc_X11_shared_34 (by decide) ?_
    refine ev_ixor dc_X11_shared_35 ?_
    refine ev_iand dc_X11_shared_36 ?_
    refine ev_if_ne (tgt := 46) dc_X11_shared_37 (by decide) h (fun h => ?_) (fun h => ?_)
    · refine ev_iload_n dc_X11_shared_40 rfl ?_
      refine ev_iconst (v := 1) dc_X11_shared_41 (by decide) ?_
      refine ev_iload_n dc_X11_shared_42 rfl ?_
      refine ev_ishl dc_X11_shared_43 ?_
      refine ev_ior dc_X11_shared_44 ?_
      refine ev_istore_n (lv' := [some (.ref a0), some (.int (x1 ||| ((1 : Int32) <<< (x2 &&& 31)))), some (.int x2)]) dc_X11_shared_45 rfl (by decide) rfl ?_
      refine ev_iinc (v := 1) (lv' := [some (.ref a0), some (.int (x1 ||| ((1 : Int32) <<< (x2 &&& 31)))), some (.int (x2 + (1 : Int32)))]) dc_X11_shared_46 rfl (by decide) rfl (by decide) rfl ?_
      refine ev_goto (tgt := 4) dc_X11_shared_49 (by decide) ?_
      exact ev_sub (hk4 (x1 ||| ((1 : Int32) <<< (x2 &&& 31)), x2 + (1 : Int32)) h) (And.intro rfl (And.intro rfl (And.intro rfl trivial)))
    · refine ev_iinc (v := 1) (lv' := [some (.ref a0), some (.int x1), some (.int (x2 + (1 : Int32)))]) dc_X11_shared_46 rfl (by decide) rfl (by decide) rfl ?_
      refine ev_goto (tgt := 4) dc_X11_shared_49 (by decide) ?_
      exact ev_sub (hk4 (x1, x2 + (1 : Int32)) h) (And.intro rfl (And.intro rfl (And.intro rfl trivial)))
def fX11_shared (N : Nat) (G : pG) (a0 : Nat) (σ : pS) : Option (Int32) := fX11_shared_b4 N G a0 σ ((0 : Int32), (0 : Int32))
set_option maxRecDepth 100000 in
set_option maxHeartbeats 4000000 in
theorem tX11_shared {N : Nat} {G : pG} {SK : Nat → Nat} {a0 : Nat} {σ : pS} {r : Int32} (hW : WT G) (i0 : Is G a0 10) (h : fX11_shared N G a0 σ = some r) : Dn miX11_shared yX11_shared 2 G SK [.ref a0] σ (some (.int r)) σ := by
  unfold fX11_shared at h
  refine dn_of (lv := [some (.ref a0), none, none]) (by decide) rfl rfl (Nat.le_of_ble_eq_true rfl) rfl ?_
  refine ev_iconst (v := 0) dc_X11_shared_0 (by decide) ?_
  refine ev_istore_n (lv' := [some (.ref a0), some (.int (0 : Int32)), none]) dc_X11_shared_1 rfl (by decide) rfl ?_
  refine ev_iconst (v := 0) dc_X11_shared_2 (by decide) ?_
  refine ev_istore_n (lv' := [some (.ref a0), some (.int (0 : Int32)), some (.int (0 : Int32))]) dc_X11_shared_3 rfl (by decide) rfl ?_
  exact ev_sub (tX11_shared_b4 (b := ((0 : Int32), (0 : Int32))) hW i0 h) (And.intro rfl (And.intro rfl (And.intro rfl trivial)))
theorem dc_X11_staysQuiet_0 : Dc miX11_staysQuiet 0 (.aload_n 0) 1 1 := ⟨by decide +kernel, rfl⟩
theorem dc_X11_staysQuiet_1 : Dc miX11_staysQuiet 1 (.getfield 39) 3 4 := ⟨by decide +kernel, rfl⟩
theorem dc_X11_staysQuiet_4 : Dc miX11_staysQuiet 4 (.aload_n 0) 1 5 := ⟨by decide +kernel, rfl⟩
theorem dc_X11_staysQuiet_5 : Dc miX11_staysQuiet 5 (.getfield 19) 3 8 := ⟨by decide +kernel, rfl⟩
theorem dc_X11_staysQuiet_8 : Dc miX11_staysQuiet 8 (.getfield 155) 3 11 := ⟨by decide +kernel, rfl⟩
theorem dc_X11_staysQuiet_11 : Dc miX11_staysQuiet 11 (.invokevirtual 275) 3 14 := ⟨by decide +kernel, rfl⟩
theorem dc_X11_staysQuiet_14 : Dc miX11_staysQuiet 14 (.aload_n 0) 1 15 := ⟨by decide +kernel, rfl⟩
theorem dc_X11_staysQuiet_15 : Dc miX11_staysQuiet 15 (.getfield 39) 3 18 := ⟨by decide +kernel, rfl⟩
theorem dc_X11_staysQuiet_18 : Dc miX11_staysQuiet 18 (.dup) 1 19 := ⟨by decide +kernel, rfl⟩
theorem dc_X11_staysQuiet_19 : Dc miX11_staysQuiet 19 (.getfield 183) 3 22 := ⟨by decide +kernel, rfl⟩
theorem dc_X11_staysQuiet_22 : Dc miX11_staysQuiet 22 (.iload_n 1) 1 23 := ⟨by decide +kernel, rfl⟩
theorem dc_X11_staysQuiet_23 : Dc miX11_staysQuiet 23 (.iconst (-1)) 1 24 := ⟨by decide +kernel, rfl⟩
theorem dc_X11_staysQuiet_24 : Dc miX11_staysQuiet 24 (.ixor) 1 25 := ⟨by decide +kernel, rfl⟩
theorem dc_X11_staysQuiet_25 : Dc miX11_staysQuiet 25 (.iand) 1 26 := ⟨by decide +kernel, rfl⟩
theorem dc_X11_staysQuiet_26 : Dc miX11_staysQuiet 26 (.putfield 183) 3 29 := ⟨by decide +kernel, rfl⟩
theorem dc_X11_staysQuiet_29 : Dc miX11_staysQuiet 29 (.iconst 0) 1 30 := ⟨by decide +kernel, rfl⟩
theorem dc_X11_staysQuiet_30 : Dc miX11_staysQuiet 30 (.istore_n 3) 1 31 := ⟨by decide +kernel, rfl⟩
theorem dc_X11_staysQuiet_31 : Dc miX11_staysQuiet 31 (.iload_n 3) 1 32 := ⟨by decide +kernel, rfl⟩
theorem dc_X11_staysQuiet_32 : Dc miX11_staysQuiet 32 (.iload_n 2) 1 33 := ⟨by decide +kernel, rfl⟩
theorem dc_X11_staysQuiet_33 : Dc miX11_staysQuiet 33 (.if_icmp .ge 21) 3 36 := ⟨by decide +kernel, rfl⟩
theorem dc_X11_staysQuiet_36 : Dc miX11_staysQuiet 36 (.aload_n 0) 1 37 := ⟨by decide +kernel, rfl⟩
theorem dc_X11_staysQuiet_37 : Dc miX11_staysQuiet 37 (.getfield 19) 3 40 := ⟨by decide +kernel, rfl⟩
theorem dc_X11_staysQuiet_40 : Dc miX11_staysQuiet 40 (.aload_n 0) 1 41 := ⟨by decide +kernel, rfl⟩
theorem dc_X11_staysQuiet_41 : Dc miX11_staysQuiet 41 (.getfield 39) 3 44 := ⟨by decide +kernel, rfl⟩
theorem dc_X11_staysQuiet_44 : Dc miX11_staysQuiet 44 (.iconst (-1)) 1 45 := ⟨by decide +kernel, rfl⟩
theorem dc_X11_staysQuiet_45 : Dc miX11_staysQuiet 45 (.invokevirtual 281) 3 48 := ⟨by decide +kernel, rfl⟩
theorem dc_X11_staysQuiet_48 : Dc miX11_staysQuiet 48 (.iinc 3 1) 3 51 := ⟨by decide +kernel, rfl⟩
theorem dc_X11_staysQuiet_51 : Dc miX11_staysQuiet 51 (.goto (-20)) 3 54 := ⟨by decide +kernel, rfl⟩
theorem dc_X11_staysQuiet_54 : Dc miX11_staysQuiet 54 (.aload_n 0) 1 55 := ⟨by decide +kernel, rfl⟩
theorem dc_X11_staysQuiet_55 : Dc miX11_staysQuiet 55 (.getfield 39) 3 58 := ⟨by decide +kernel, rfl⟩
theorem dc_X11_staysQuiet_58 : Dc miX11_staysQuiet 58 (.getfield 216) 3 61 := ⟨by decide +kernel, rfl⟩
theorem dc_X11_staysQuiet_61 : Dc miX11_staysQuiet 61 (.ifCond .ne 7) 3 64 := ⟨by decide +kernel, rfl⟩
theorem dc_X11_staysQuiet_64 : Dc miX11_staysQuiet 64 (.iconst 1) 1 65 := ⟨by decide +kernel, rfl⟩
theorem dc_X11_staysQuiet_65 : Dc miX11_staysQuiet 65 (.goto 4) 3 68 := ⟨by decide +kernel, rfl⟩
theorem dc_X11_staysQuiet_68 : Dc miX11_staysQuiet 68 (.iconst 0) 1 69 := ⟨by decide +kernel, rfl⟩
theorem dc_X11_staysQuiet_69 : Dc miX11_staysQuiet 69 (.ireturn) 1 70 := ⟨by decide +kernel, rfl⟩
def fX11_staysQuiet_b31 (N : Nat) (G : pG) (a0 : Nat) (a2 : Int32) : (Int32 × pS) → Option (Int32 × pS) := lp (fun (k31 : Int32 × pS → Option (Int32 × pS)) (b : Int32 × pS) => if a2 ≤ b.1 then (if (b.2.1 (pR G a0 5) 6) = 0 then (some ((1 : Int32), b.2)) else (some ((0 : Int32), b.2))) else ((fX10_plainNight N G (pR G a0 1) (pR G a0 5) (-1 : Int32) b.2).bind (fun q1 => k31 (b.1 + (1 : Int32), q1)))) N
set_option maxRecDepth 100000 in
set_option maxHeartbeats 4000000 in
theorem tX11_staysQuiet_b31 {N : Nat} {G : pG} {SK : Nat → Nat} {a0 : Nat} {a2 : Int32} {b : Int32 × pS} {r : Int32 × pS} (hW : WT G) (i0 : Is G a0 10) (h : fX11_staysQuiet_b31 N G a0 a2 b = some r) : Ev miX11_staysQuiet (6, 0, 0) G (Zp G (some (.int r.1)) r.2) SK (0, 0) 31 [some (.ref a0), none, some (.int a2), some (.int b.1)] [] b.2 := by
  unfold fX11_staysQuiet_b31 at h
  refine lp_ind (P := fun b r9 => r9 = r → Ev miX11_staysQuiet (6, 0, 0) G (Zp G (some (.int r.1)) r.2) SK (0, 0) 31 [some (.ref a0), none, some (.int a2), some (.int b.1)] [] b.2) (fun k31 b r9 ih h9 e9 => ?_) N b r h rfl
  clear h
  subst e9
  have h := h9
  clear h9
  have hk31 : ∀ b : Int32 × pS, k31 b = some r9 → Ev miX11_staysQuiet (6, 0, 0) G (Zp G (some (.int r9.1)) r9.2) SK (0, 0) 31 [some (.ref a0), none, some (.int a2), some (.int b.1)] [] b.2 := fun b hb => ih b r9 hb rfl
  clear ih
  obtain ⟨x3, σ⟩ := b
  dsimp only at h ⊢
  refine ev_iload_n dc_X11_staysQuiet_31 rfl ?_
  refine ev_iload_n dc_X11_staysQuiet_32 rfl ?_
  refine ev_icmp_ge (tgt := 54) dc_X11_staysQuiet_33 (by decide) h (fun h => ?_) (fun h => ?_)
  · refine ev_aload_n dc_X11_staysQuiet_54 rfl ?_
    refine ev_getR dc_X11_staysQuiet_55 fi_X11_39 rfl i0 ?_
    refine ev_getI dc_X11_staysQuiet_58 fi_X11_216 rfl (wt hW i0 5 rfl rfl) ?_
    refine ev_if_ne (tgt := 68) dc_X11_staysQuiet_61 (by decide) h (fun h => ?_) (fun h => ?_)
    · refine ev_iconst (v := 1) dc_X11_staysQuiet_64 (by decide) ?_
      refine ev_goto (tgt := 69) dc_X11_staysQuiet_65 (by decide) ?_
      cases h
      exact ev_zretc dc_X11_staysQuiet_69 rfl rfl rfl rfl
    · refine ev_iconst (v := 0) dc_X11_staysQuiet_68 (by decide) ?_
      cases h
      exact ev_zretc dc_X11_staysQuiet_69 rfl rfl rfl rfl
  · refine ev_aload_n dc_X11_staysQuiet_36 rfl ?_
    refine ev_getR dc_X11_staysQuiet_37 fi_X11_19 rfl i0 ?_
    refine ev_aload_n dc_X11_staysQuiet_40 rfl ?_
    refine ev_getR dc_X11_staysQuiet_41 fi_X11_39 rfl i0 ?_
    refine ev_iconst (v := (-1)) dc_X11_staysQuiet_44 (by decide) ?_
    obtain ⟨q1, hq1, h⟩ := Option.bind_eq_some_iff.mp h
    refine ev_callV (av := [.ref (pR G a0 5), .int (-1 : Int32)]) (st := []) (st1 := []) dc_X11_staysQuiet_45 (tX10_plainNight hW (wt hW i0 1 rfl rfl) (wt hW i0 5 rfl rfl) hq1) mw_1267 cy_X10_plainNight (wt hW i0 1 rfl rfl) (by decide) rfl rfl rfl rfl (Nat.le_of_ble_eq_true rfl) (Nat.le_of_ble_eq_true rfl) ⟨Nat.le_refl _, Nat.le_refl _⟩ ?_
    refine ev_iinc (v := 1) (lv' := [some (.ref a0), none, some (.int a2), some (.int (x3 + (1 : Int32)))]) dc_X11_staysQuiet_48 rfl (by decide) rfl (by decide) rfl ?_
    refine ev_goto (tgt := 31) dc_X11_staysQuiet_51 (by decide) ?_
    exact ev_sub (hk31 (x3 + (1 : Int32), q1) h) (And.intro rfl (And.intro rfl (And.intro rfl trivial)))
def fX11_staysQuiet (N : Nat) (G : pG) (a0 : Nat) (a1 : Int32) (a2 : Int32) (σ : pS) : Option (Int32 × pS) := (fX3_copyThoughtFrom N G (pR G a0 5) (pR G (pR G a0 1) 2) σ).bind (fun q2 => fX11_staysQuiet_b31 N G a0 a2 ((0 : Int32), putF q2 (pR G a0 5) 4 ((q2.1 (pR G a0 5) 4) &&& (a1 ^^^ (-1 : Int32)))))
set_option maxRecDepth 100000 in
set_option maxHeartbeats 4000000 in
theorem tX11_staysQuiet {N : Nat} {G : pG} {SK : Nat → Nat} {a0 : Nat} {a1 : Int32} {a2 : Int32} {σ : pS} {r : Int32 × pS} (hW : WT G) (i0 : Is G a0 10) (h : fX11_staysQuiet N G a0 a1 a2 σ = some r) : Dn miX11_staysQuiet yX11_staysQuiet 6 G SK [.ref a0, .int a1, .int a2] σ (some (.int r.1)) r.2 := by
  unfold fX11_staysQuiet at h
  refine dn_of (lv := [some (.ref a0), some (.int a1), some (.int a2), none]) (by decide) rfl rfl (Nat.le_of_ble_eq_true rfl) rfl ?_
  refine ev_aload_n dc_X11_staysQuiet_0 rfl ?_
  refine ev_getR dc_X11_staysQuiet_1 fi_X11_39 rfl i0 ?_
  refine ev_aload_n dc_X11_staysQuiet_4 rfl ?_
  refine ev_getR dc_X11_staysQuiet_5 fi_X11_19 rfl i0 ?_
  refine ev_getR dc_X11_staysQuiet_8 fi_X11_155 rfl (wt hW i0 1 rfl rfl) ?_
  obtain ⟨q2, hq2, h⟩ := Option.bind_eq_some_iff.mp h
  refine ev_callV (av := [.ref (pR G (pR G a0 1) 2)]) (st := []) (st1 := []) dc_X11_staysQuiet_11 (tX3_copyThoughtFrom hW (wt hW i0 5 rfl rfl) (wt hW (wt hW i0 1 rfl rfl) 2 rfl rfl) hq2) mw_1255 cy_X3_copyThoughtFrom (wt hW i0 5 rfl rfl) (by decide) rfl rfl rfl rfl (Nat.le_of_ble_eq_true rfl) (Nat.le_of_ble_eq_true rfl) ⟨Nat.le_refl _, Nat.le_refl _⟩ ?_
  refine ev_aload_n dc_X11_staysQuiet_14 rfl ?_
  refine ev_getR dc_X11_staysQuiet_15 fi_X11_39 rfl i0 ?_
  refine ev_dup dc_X11_staysQuiet_18 rfl ?_
  refine ev_getI dc_X11_staysQuiet_19 fi_X11_183 rfl (wt hW i0 5 rfl rfl) ?_
  refine ev_iload_n dc_X11_staysQuiet_22 rfl ?_
  refine ev_iconst (v := (-1)) dc_X11_staysQuiet_23 (by decide) ?_
  refine ev_ixor dc_X11_staysQuiet_24 ?_
  refine ev_iand dc_X11_staysQuiet_25 ?_
  refine ev_putI dc_X11_staysQuiet_26 fi_X11_183 rfl (wt hW i0 5 rfl rfl) ?_
  refine ev_iconst (v := 0) dc_X11_staysQuiet_29 (by decide) ?_
  refine ev_istore_n (lv' := [some (.ref a0), some (.int a1), some (.int a2), some (.int (0 : Int32))]) dc_X11_staysQuiet_30 rfl (by decide) rfl ?_
  exact ev_sub (tX11_staysQuiet_b31 (b := ((0 : Int32), putF q2 (pR G a0 5) 4 ((q2.1 (pR G a0 5) 4) &&& (a1 ^^^ (-1 : Int32))))) hW i0 h) (And.intro rfl (And.intro rfl (And.intro rfl trivial)))
theorem dc_X11_tryNights_0 : Dc miX11_tryNights 0 (.aload_n 0) 1 1 := ⟨by decide +kernel, rfl⟩
theorem dc_X11_tryNights_1 : Dc miX11_tryNights 1 (.getfield 39) 3 4 := ⟨by decide +kernel, rfl⟩
theorem dc_X11_tryNights_4 : Dc miX11_tryNights 4 (.aload_n 0) 1 5 := ⟨by decide +kernel, rfl⟩
theorem dc_X11_tryNights_5 : Dc miX11_tryNights 5 (.getfield 19) 3 8 := ⟨by decide +kernel, rfl⟩
theorem dc_X11_tryNights_8 : Dc miX11_tryNights 8 (.getfield 155) 3 11 := ⟨by decide +kernel, rfl⟩
theorem dc_X11_tryNights_11 : Dc miX11_tryNights 11 (.invokevirtual 275) 3 14 := ⟨by decide +kernel, rfl⟩
theorem dc_X11_tryNights_14 : Dc miX11_tryNights 14 (.aload_n 0) 1 15 := ⟨by decide +kernel, rfl⟩
theorem dc_X11_tryNights_15 : Dc miX11_tryNights 15 (.getfield 39) 3 18 := ⟨by decide +kernel, rfl⟩
theorem dc_X11_tryNights_18 : Dc miX11_tryNights 18 (.iload_n 2) 1 19 := ⟨by decide +kernel, rfl⟩
theorem dc_X11_tryNights_19 : Dc miX11_tryNights 19 (.putfield 287) 3 22 := ⟨by decide +kernel, rfl⟩
theorem dc_X11_tryNights_22 : Dc miX11_tryNights 22 (.iconst 0) 1 23 := ⟨by decide +kernel, rfl⟩
theorem dc_X11_tryNights_23 : Dc miX11_tryNights 23 (.istore_n 3) 1 24 := ⟨by decide +kernel, rfl⟩
theorem dc_X11_tryNights_24 : Dc miX11_tryNights 24 (.iload_n 3) 1 25 := ⟨by decide +kernel, rfl⟩
theorem dc_X11_tryNights_25 : Dc miX11_tryNights 25 (.iload_n 1) 1 26 := ⟨by decide +kernel, rfl⟩
theorem dc_X11_tryNights_26 : Dc miX11_tryNights 26 (.if_icmp .ge 21) 3 29 := ⟨by decide +kernel, rfl⟩
theorem dc_X11_tryNights_29 : Dc miX11_tryNights 29 (.aload_n 0) 1 30 := ⟨by decide +kernel, rfl⟩
theorem dc_X11_tryNights_30 : Dc miX11_tryNights 30 (.getfield 19) 3 33 := ⟨by decide +kernel, rfl⟩
theorem dc_X11_tryNights_33 : Dc miX11_tryNights 33 (.aload_n 0) 1 34 := ⟨by decide +kernel, rfl⟩
theorem dc_X11_tryNights_34 : Dc miX11_tryNights 34 (.getfield 39) 3 37 := ⟨by decide +kernel, rfl⟩
theorem dc_X11_tryNights_37 : Dc miX11_tryNights 37 (.invokevirtual 271) 3 40 := ⟨by decide +kernel, rfl⟩
theorem dc_X11_tryNights_40 : Dc miX11_tryNights 40 (.pop) 1 41 := ⟨by decide +kernel, rfl⟩
theorem dc_X11_tryNights_41 : Dc miX11_tryNights 41 (.iinc 3 1) 3 44 := ⟨by decide +kernel, rfl⟩
theorem dc_X11_tryNights_44 : Dc miX11_tryNights 44 (.goto (-20)) 3 47 := ⟨by decide +kernel, rfl⟩
theorem dc_X11_tryNights_47 : Dc miX11_tryNights 47 (.return_) 1 48 := ⟨by decide +kernel, rfl⟩
def fX11_tryNights_b24 (N : Nat) (G : pG) (a0 : Nat) (a1 : Int32) : (Int32 × pS) → Option (pS) := lp (fun (k24 : Int32 × pS → Option (pS)) (b : Int32 × pS) => if a1 ≤ b.1 then (some b.2) else ((fX10_drawnNight N G (pR G a0 1) (pR G a0 5) b.2).bind (fun q1 => k24 (b.1 + (1 : Int32), q1.2)))) N
set_option maxRecDepth 100000 in
set_option maxHeartbeats 4000000 in
theorem tX11_tryNights_b24 {N : Nat} {G : pG} {SK : Nat → Nat} {a0 : Nat} {a1 : Int32} {b : Int32 × pS} {r : pS} (hW : WT G) (i0 : Is G a0 10) (h : fX11_tryNights_b24 N G a0 a1 b = some r) : Ev miX11_tryNights (6, 0, 0) G (Zp G none r) SK (0, 0) 24 [some (.ref a0), some (.int a1), none, some (.int b.1)] [] b.2 := by
  unfold fX11_tryNights_b24 at h
  refine lp_ind (P := fun b r9 => r9 = r → Ev miX11_tryNights (6, 0, 0) G (Zp G none r) SK (0, 0) 24 [some (.ref a0), some (.int a1), none, some (.int b.1)] [] b.2) (fun k24 b r9 ih h9 e9 => ?_) N b r h rfl
  clear h
  subst e9
  have h := h9
  clear h9
  have hk24 : ∀ b : Int32 × pS, k24 b = some r9 → Ev miX11_tryNights (6, 0, 0) G (Zp G none r9) SK (0, 0) 24 [some (.ref a0), some (.int a1), none, some (.int b.1)] [] b.2 := fun b hb => ih b r9 hb rfl
  clear ih
  obtain ⟨x3, σ⟩ := b
  dsimp only at h ⊢
  refine ev_iload_n dc_X11_tryNights_24 rfl ?_
  refine ev_iload_n dc_X11_tryNights_25 rfl ?_
  refine ev_icmp_ge (tgt := 47) dc_X11_tryNights_26 (by decide) h (fun h => ?_) (fun h => ?_)
  · cases h
    exact ev_vret dc_X11_tryNights_47 rfl rfl rfl
  · refine ev_aload_n dc_X11_tryNights_29 rfl ?_
    refine ev_getR dc_X11_tryNights_30 fi_X11_19 rfl i0 ?_
    refine ev_aload_n dc_X11_tryNights_33 rfl ?_
    refine ev_getR dc_X11_tryNights_34 fi_X11_39 rfl i0 ?_
    obtain ⟨q1, hq1, h⟩ := Option.bind_eq_some_iff.mp h
    refine ev_callV (av := [.ref (pR G a0 5)]) (st := []) (st1 := [.int q1.1]) dc_X11_tryNights_37 (tX10_drawnNight hW (wt hW i0 1 rfl rfl) (wt hW i0 5 rfl rfl) hq1) mw_1233 cy_X10_drawnNight (wt hW i0 1 rfl rfl) (by decide) rfl rfl rfl rfl (Nat.le_of_ble_eq_true rfl) (Nat.le_of_ble_eq_true rfl) ⟨Nat.le_refl _, Nat.le_refl _⟩ ?_
    refine ev_pop dc_X11_tryNights_40 rfl ?_
    refine ev_iinc (v := 1) (lv' := [some (.ref a0), some (.int a1), none, some (.int (x3 + (1 : Int32)))]) dc_X11_tryNights_41 rfl (by decide) rfl (by decide) rfl ?_
    refine ev_goto (tgt := 24) dc_X11_tryNights_44 (by decide) ?_
    exact ev_sub (hk24 (x3 + (1 : Int32), q1.2) h) (And.intro rfl (And.intro rfl (And.intro rfl trivial)))
def fX11_tryNights (N : Nat) (G : pG) (a0 : Nat) (a1 : Int32) (a2 : Int32) (σ : pS) : Option (pS) := (fX3_copyThoughtFrom N G (pR G a0 5) (pR G (pR G a0 1) 2) σ).bind (fun q2 => fX11_tryNights_b24 N G a0 a1 ((0 : Int32), putF q2 (pR G a0 5) 5 a2))
set_option maxRecDepth 100000 in
set_option maxHeartbeats 4000000 in
theorem tX11_tryNights {N : Nat} {G : pG} {SK : Nat → Nat} {a0 : Nat} {a1 : Int32} {a2 : Int32} {σ : pS} {r : pS} (hW : WT G) (i0 : Is G a0 10) (h : fX11_tryNights N G a0 a1 a2 σ = some r) : Dn miX11_tryNights yX11_tryNights 6 G SK [.ref a0, .int a1, .int a2] σ none r := by
  unfold fX11_tryNights at h
  refine dn_of (lv := [some (.ref a0), some (.int a1), some (.int a2), none]) (by decide) rfl rfl (Nat.le_of_ble_eq_true rfl) rfl ?_
  refine ev_aload_n dc_X11_tryNights_0 rfl ?_
  refine ev_getR dc_X11_tryNights_1 fi_X11_39 rfl i0 ?_
  refine ev_aload_n dc_X11_tryNights_4 rfl ?_
  refine ev_getR dc_X11_tryNights_5 fi_X11_19 rfl i0 ?_
  refine ev_getR dc_X11_tryNights_8 fi_X11_155 rfl (wt hW i0 1 rfl rfl) ?_
  obtain ⟨q2, hq2, h⟩ := Option.bind_eq_some_iff.mp h
  refine ev_callV (av := [.ref (pR G (pR G a0 1) 2)]) (st := []) (st1 := []) dc_X11_tryNights_11 (tX3_copyThoughtFrom hW (wt hW i0 5 rfl rfl) (wt hW (wt hW i0 1 rfl rfl) 2 rfl rfl) hq2) mw_1255 cy_X3_copyThoughtFrom (wt hW i0 5 rfl rfl) (by decide) rfl rfl rfl rfl (Nat.le_of_ble_eq_true rfl) (Nat.le_of_ble_eq_true rfl) ⟨Nat.le_refl _, Nat.le_refl _⟩ ?_
  refine ev_aload_n dc_X11_tryNights_14 rfl ?_
  refine ev_getR dc_X11_tryNights_15 fi_X11_39 rfl i0 ?_
  refine ev_iload_n dc_X11_tryNights_18 rfl ?_
  refine ev_putI dc_X11_tryNights_19 fi_X11_287 rfl (wt hW i0 5 rfl rfl) ?_
  refine ev_iconst (v := 0) dc_X11_tryNights_22 (by decide) ?_
  refine ev_istore_n (lv' := [some (.ref a0), some (.int a1), some (.int a2), some (.int (0 : Int32))]) dc_X11_tryNights_23 rfl (by decide) rfl ?_
  exact ev_sub (tX11_tryNights_b24 (b := ((0 : Int32), putF q2 (pR G a0 5) 5 a2)) hW i0 h) (And.intro rfl (And.intro rfl (And.intro rfl trivial)))
theorem dc_X11_undo_0 : Dc miX11_undo 0 (.aload_n 0) 1 1 := ⟨by decide +kernel, rfl⟩
theorem dc_X11_undo_1 : Dc miX11_undo 1 (.getfield 32) 3 4 := ⟨by decide +kernel, rfl⟩
theorem dc_X11_undo_4 : Dc miX11_undo 4 (.aload_n 0) 1 5 := ⟨by decide +kernel, rfl⟩
theorem dc_X11_undo_5 : Dc miX11_undo 5 (.getfield 19) 3 8 := ⟨by decide +kernel, rfl⟩
theorem dc_X11_undo_8 : Dc miX11_undo 8 (.getfield 155) 3 11 := ⟨by decide +kernel, rfl⟩
theorem dc_X11_undo_11 : Dc miX11_undo 11 (.invokevirtual 386) 3 14 := ⟨by decide +kernel, rfl⟩
theorem dc_X11_undo_14 : Dc miX11_undo 14 (.ireturn) 1 15 := ⟨by decide +kernel, rfl⟩
def fX11_undo (N : Nat) (G : pG) (a0 : Nat) (σ : pS) : Option (Int32 × pS) := (fX4_recall N G (pR G a0 4) (pR G (pR G a0 1) 2) σ).bind (fun q1 => ck (isZ q1.1) (some (q1.1, q1.2)))
set_option maxRecDepth 100000 in
set_option maxHeartbeats 4000000 in
theorem tX11_undo {N : Nat} {G : pG} {SK : Nat → Nat} {a0 : Nat} {σ : pS} {r : Int32 × pS} (hW : WT G) (i0 : Is G a0 10) (h : fX11_undo N G a0 σ = some r) : Dn miX11_undo yX11_undo 4 G SK [.ref a0] σ (some (.int r.1)) r.2 := by
  unfold fX11_undo at h
  refine dn_of (lv := [some (.ref a0)]) (by decide) rfl rfl (Nat.le_of_ble_eq_true rfl) rfl ?_
  refine ev_aload_n dc_X11_undo_0 rfl ?_
  refine ev_getR dc_X11_undo_1 fi_X11_32 rfl i0 ?_
  refine ev_aload_n dc_X11_undo_4 rfl ?_
  refine ev_getR dc_X11_undo_5 fi_X11_19 rfl i0 ?_
  refine ev_getR dc_X11_undo_8 fi_X11_155 rfl (wt hW i0 1 rfl rfl) ?_
  obtain ⟨q1, hq1, h⟩ := Option.bind_eq_some_iff.mp h
  refine ev_callV (av := [.ref (pR G (pR G a0 1) 2)]) (st := []) (st1 := [.int q1.1]) dc_X11_undo_11 (tX4_recall hW (wt hW i0 4 rfl rfl) (wt hW (wt hW i0 1 rfl rfl) 2 rfl rfl) hq1) mw_618 cy_X4_recall (wt hW i0 4 rfl rfl) (by decide) rfl rfl rfl rfl (Nat.le_of_ble_eq_true rfl) (Nat.le_of_ble_eq_true rfl) ⟨Nat.le_refl _, Nat.le_refl _⟩ ?_
  have h2 := (ck_s h).2
  cases h2
  exact ev_zret dc_X11_undo_14 rfl h rfl rfl
theorem dc_X11_useTapeUp_0 : Dc miX11_useTapeUp 0 (.aload_n 0) 1 1 := ⟨by decide +kernel, rfl⟩
theorem dc_X11_useTapeUp_1 : Dc miX11_useTapeUp 1 (.iload_n 1) 1 2 := ⟨by decide +kernel, rfl⟩
theorem dc_X11_useTapeUp_2 : Dc miX11_useTapeUp 2 (.ifCond .eq 7) 3 5 := ⟨by decide +kernel, rfl⟩
theorem dc_X11_useTapeUp_5 : Dc miX11_useTapeUp 5 (.iconst (-1)) 1 6 := ⟨by decide +kernel, rfl⟩
theorem dc_X11_useTapeUp_6 : Dc miX11_useTapeUp 6 (.goto 10) 3 9 := ⟨by decide +kernel, rfl⟩
theorem dc_X11_useTapeUp_9 : Dc miX11_useTapeUp 9 (.aload_n 0) 1 10 := ⟨by decide +kernel, rfl⟩
theorem dc_X11_useTapeUp_10 : Dc miX11_useTapeUp 10 (.getfield 10) 3 13 := ⟨by decide +kernel, rfl⟩
theorem dc_X11_useTapeUp_13 : Dc miX11_useTapeUp 13 (.getfield 138) 3 16 := ⟨by decide +kernel, rfl⟩
theorem dc_X11_useTapeUp_16 : Dc miX11_useTapeUp 16 (.putfield 64) 3 19 := ⟨by decide +kernel, rfl⟩
theorem dc_X11_useTapeUp_19 : Dc miX11_useTapeUp 19 (.aload_n 0) 1 20 := ⟨by decide +kernel, rfl⟩
theorem dc_X11_useTapeUp_20 : Dc miX11_useTapeUp 20 (.getfield 10) 3 23 := ⟨by decide +kernel, rfl⟩
theorem dc_X11_useTapeUp_23 : Dc miX11_useTapeUp 23 (.iconst 0) 1 24 := ⟨by decide +kernel, rfl⟩
theorem dc_X11_useTapeUp_24 : Dc miX11_useTapeUp 24 (.putfield 80) 3 27 := ⟨by decide +kernel, rfl⟩
theorem dc_X11_useTapeUp_27 : Dc miX11_useTapeUp 27 (.return_) 1 28 := ⟨by decide +kernel, rfl⟩
def fX11_useTapeUp_b16 (N : Nat) (G : pG) (a0 : Nat) (y1 : Int32) (σ : pS) : Option (pS) := some (putF (putF σ a0 9 y1) (pR G a0 0) 0 (0 : Int32))
set_option maxRecDepth 100000 in
set_option maxHeartbeats 4000000 in
theorem tX11_useTapeUp_b16 {N : Nat} {G : pG} {SK : Nat → Nat} {a0 : Nat} {y1 : Int32} {σ : pS} {r : pS} (hW : WT G) (i0 : Is G a0 10) (h : fX11_useTapeUp_b16 N G a0 y1 σ = some r) : Ev miX11_useTapeUp (1, 0, 0) G (Zp G none r) SK (0, 0) 16 [some (.ref a0), none] [.int y1, .ref a0] σ := by
  unfold fX11_useTapeUp_b16 at h
  refine ev_putI dc_X11_useTapeUp_16 fi_X11_64 rfl i0 ?_
  refine ev_aload_n dc_X11_useTapeUp_19 rfl ?_
  refine ev_getR dc_X11_useTapeUp_20 fi_X11_10 rfl i0 ?_
  refine ev_iconst (v := 0) dc_X11_useTapeUp_23 (by decide) ?_
  refine ev_putI dc_X11_useTapeUp_24 fi_X11_80 rfl (wt hW i0 0 rfl rfl) ?_
  cases h
  exact ev_vret dc_X11_useTapeUp_27 rfl rfl rfl
def fX11_useTapeUp (N : Nat) (G : pG) (a0 : Nat) (a1 : Int32) (σ : pS) : Option (pS) := if a1 = 0 then (fX11_useTapeUp_b16 N G a0 (σ.1 (pR G a0 0) 2) σ) else (fX11_useTapeUp_b16 N G a0 (-1 : Int32) σ)
set_option maxRecDepth 100000 in
set_option maxHeartbeats 4000000 in
theorem tX11_useTapeUp {N : Nat} {G : pG} {SK : Nat → Nat} {a0 : Nat} {a1 : Int32} {σ : pS} {r : pS} (hW : WT G) (i0 : Is G a0 10) (h : fX11_useTapeUp N G a0 a1 σ = some r) : Dn miX11_useTapeUp yX11_useTapeUp 1 G SK [.ref a0, .int a1] σ none r := by
  unfold fX11_useTapeUp at h
  refine dn_of (lv := [some (.ref a0), some (.int a1)]) (by decide) rfl rfl (Nat.le_of_ble_eq_true rfl) rfl ?_
  refine ev_aload_n dc_X11_useTapeUp_0 rfl ?_
  refine ev_iload_n dc_X11_useTapeUp_1 rfl ?_
  refine ev_if_eq (tgt := 9) dc_X11_useTapeUp_2 (by decide) h (fun h => ?_) (fun h => ?_)
  · refine ev_aload_n dc_X11_useTapeUp_9 rfl ?_
    refine ev_getR dc_X11_useTapeUp_10 fi_X11_10 rfl i0 ?_
    refine ev_getI dc_X11_useTapeUp_13 fi_X11_138 rfl (wt hW i0 0 rfl rfl) ?_
    exact ev_sub (tX11_useTapeUp_b16 hW i0 h) (And.intro rfl trivial)
  · refine ev_iconst (v := (-1)) dc_X11_useTapeUp_5 (by decide) ?_
    refine ev_goto (tgt := 16) dc_X11_useTapeUp_6 (by decide) ?_
    exact ev_sub (tX11_useTapeUp_b16 hW i0 h) (And.intro rfl trivial)
theorem dc_X11_worst_0 : Dc miX11_worst 0 (.aload_n 0) 1 1 := ⟨by decide +kernel, rfl⟩
theorem dc_X11_worst_1 : Dc miX11_worst 1 (.getfield 19) 3 4 := ⟨by decide +kernel, rfl⟩
theorem dc_X11_worst_4 : Dc miX11_worst 4 (.getfield 104) 3 7 := ⟨by decide +kernel, rfl⟩
theorem dc_X11_worst_7 : Dc miX11_worst 7 (.aload_n 0) 1 8 := ⟨by decide +kernel, rfl⟩
theorem dc_X11_worst_8 : Dc miX11_worst 8 (.getfield 19) 3 11 := ⟨by decide +kernel, rfl⟩
theorem dc_X11_worst_11 : Dc miX11_worst 11 (.getfield 155) 3 14 := ⟨by decide +kernel, rfl⟩
theorem dc_X11_worst_14 : Dc miX11_worst 14 (.getfield 158) 3 17 := ⟨by decide +kernel, rfl⟩
theorem dc_X11_worst_17 : Dc miX11_worst 17 (.invokevirtual 337) 3 20 := ⟨by decide +kernel, rfl⟩
theorem dc_X11_worst_20 : Dc miX11_worst 20 (.invokestatic 297) 3 23 := ⟨by decide +kernel, rfl⟩
theorem dc_X11_worst_23 : Dc miX11_worst 23 (.ireturn) 1 24 := ⟨by decide +kernel, rfl⟩
def fX11_worst (N : Nat) (G : pG) (a0 : Nat) (σ : pS) : Option (Int32) := (fX8_crumbsFor N G (pR G (pR G a0 1) 0) (σ.1 (pR G (pR G a0 1) 2) 3) σ).bind (fun q1 => (fX11_orNone N G q1 σ).bind (fun q2 => some q2))
set_option maxRecDepth 100000 in
set_option maxHeartbeats 4000000 in
theorem tX11_worst {N : Nat} {G : pG} {SK : Nat → Nat} {a0 : Nat} {σ : pS} {r : Int32} (hW : WT G) (i0 : Is G a0 10) (h : fX11_worst N G a0 σ = some r) : Dn miX11_worst yX11_worst 32 G SK [.ref a0] σ (some (.int r)) σ := by
  unfold fX11_worst at h
  refine dn_of (lv := [some (.ref a0)]) (by decide) rfl rfl (Nat.le_of_ble_eq_true rfl) rfl ?_
  refine ev_aload_n dc_X11_worst_0 rfl ?_
  refine ev_getR dc_X11_worst_1 fi_X11_19 rfl i0 ?_
  refine ev_getR dc_X11_worst_4 fi_X11_104 rfl (wt hW i0 1 rfl rfl) ?_
  refine ev_aload_n dc_X11_worst_7 rfl ?_
  refine ev_getR dc_X11_worst_8 fi_X11_19 rfl i0 ?_
  refine ev_getR dc_X11_worst_11 fi_X11_155 rfl (wt hW i0 1 rfl rfl) ?_
  refine ev_getI dc_X11_worst_14 fi_X11_158 rfl (wt hW (wt hW i0 1 rfl rfl) 2 rfl rfl) ?_
  obtain ⟨q1, hq1, h⟩ := Option.bind_eq_some_iff.mp h
  refine ev_callV (av := [.int (σ.1 (pR G (pR G a0 1) 2) 3)]) (st := []) (st1 := [.int q1]) dc_X11_worst_17 (tX8_crumbsFor hW (wt hW (wt hW i0 1 rfl rfl) 0 rfl rfl) hq1) mw_537 cy_X8_crumbsFor (wt hW (wt hW i0 1 rfl rfl) 0 rfl rfl) (by decide) rfl rfl rfl rfl (Nat.le_of_ble_eq_true rfl) (Nat.le_of_ble_eq_true rfl) ⟨Nat.le_refl _, Nat.le_refl _⟩ ?_
  obtain ⟨q2, hq2, h⟩ := Option.bind_eq_some_iff.mp h
  refine ev_callS (av := [.int q1]) (st := []) (st1 := [.int q2]) dc_X11_worst_20 (tX11_orNone hW hq2) mw_546 cs_X11_orNone rfl rfl rfl (Nat.le_of_ble_eq_true rfl) (Nat.le_of_ble_eq_true rfl) ⟨Nat.le_refl _, Nat.le_refl _⟩ ?_
  cases h
  exact ev_iret dc_X11_worst_23 rfl rfl rfl
theorem dc_X12_isWord_0 : Dc miX12_isWord 0 (.aload_n 0) 1 1 := ⟨by decide +kernel, rfl⟩
theorem dc_X12_isWord_1 : Dc miX12_isWord 1 (.getfield 87) 3 4 := ⟨by decide +kernel, rfl⟩
theorem dc_X12_isWord_4 : Dc miX12_isWord 4 (.aload_n 0) 1 5 := ⟨by decide +kernel, rfl⟩
theorem dc_X12_isWord_5 : Dc miX12_isWord 5 (.getfield 97) 3 8 := ⟨by decide +kernel, rfl⟩
theorem dc_X12_isWord_8 : Dc miX12_isWord 8 (.isub) 1 9 := ⟨by decide +kernel, rfl⟩
theorem dc_X12_isWord_9 : Dc miX12_isWord 9 (.aload_n 1) 1 10 := ⟨by decide +kernel, rfl⟩
theorem dc_X12_isWord_10 : Dc miX12_isWord 10 (.invokevirtual 103) 3 13 := ⟨by decide +kernel, rfl⟩
theorem dc_X12_isWord_13 : Dc miX12_isWord 13 (.if_icmp .ne 7) 3 16 := ⟨by decide +kernel, rfl⟩
theorem dc_X12_isWord_16 : Dc miX12_isWord 16 (.iconst 1) 1 17 := ⟨by decide +kernel, rfl⟩
theorem dc_X12_isWord_17 : Dc miX12_isWord 17 (.goto 4) 3 20 := ⟨by decide +kernel, rfl⟩
theorem dc_X12_isWord_20 : Dc miX12_isWord 20 (.iconst 0) 1 21 := ⟨by decide +kernel, rfl⟩
theorem dc_X12_isWord_21 : Dc miX12_isWord 21 (.istore_n 2) 1 22 := ⟨by decide +kernel, rfl⟩
theorem dc_X12_isWord_22 : Dc miX12_isWord 22 (.iconst 0) 1 23 := ⟨by decide +kernel, rfl⟩
theorem dc_X12_isWord_23 : Dc miX12_isWord 23 (.istore_n 3) 1 24 := ⟨by decide +kernel, rfl⟩
theorem dc_X12_isWord_24 : Dc miX12_isWord 24 (.iload_n 2) 1 25 := ⟨by decide +kernel, rfl⟩
theorem dc_X12_isWord_25 : Dc miX12_isWord 25 (.ifCond .eq 42) 3 28 := ⟨by decide +kernel, rfl⟩
theorem dc_X12_isWord_28 : Dc miX12_isWord 28 (.iload_n 3) 1 29 := ⟨by decide +kernel, rfl⟩
theorem dc_X12_isWord_29 : Dc miX12_isWord 29 (.aload_n 1) 1 30 := ⟨by decide +kernel, rfl⟩
theorem dc_X12_isWord_30 : Dc miX12_isWord 30 (.invokevirtual 103) 3 33 := ⟨by decide +kernel, rfl⟩
theorem dc_X12_isWord_33 : Dc miX12_isWord 33 (.if_icmp .ge 34) 3 36 := ⟨by decide +kernel, rfl⟩
theorem dc_X12_isWord_36 : Dc miX12_isWord 36 (.aload_n 0) 1 37 := ⟨by decide +kernel, rfl⟩
theorem dc_X12_isWord_37 : Dc miX12_isWord 37 (.getfield 29) 3 40 := ⟨by decide +kernel, rfl⟩
theorem dc_X12_isWord_40 : Dc miX12_isWord 40 (.aload_n 0) 1 41 := ⟨by decide +kernel, rfl⟩
theorem dc_X12_isWord_41 : Dc miX12_isWord 41 (.getfield 97) 3 44 := ⟨by decide +kernel, rfl⟩
theorem dc_X12_isWord_44 : Dc miX12_isWord 44 (.iload_n 3) 1 45 := ⟨by decide +kernel, rfl⟩
theorem dc_X12_isWord_45 : Dc miX12_isWord 45 (.iadd) 1 46 := ⟨by decide +kernel, rfl⟩
theorem dc_X12_isWord_46 : Dc miX12_isWord 46 (.baload) 1 47 := ⟨by decide +kernel, rfl⟩
theorem dc_X12_isWord_47 : Dc miX12_isWord 47 (.aload_n 1) 1 48 := ⟨by decide +kernel, rfl⟩
theorem dc_X12_isWord_48 : Dc miX12_isWord 48 (.iload_n 3) 1 49 := ⟨by decide +kernel, rfl⟩
theorem dc_X12_isWord_49 : Dc miX12_isWord 49 (.invokevirtual 108) 3 52 := ⟨by decide +kernel, rfl⟩
theorem dc_X12_isWord_52 : Dc miX12_isWord 52 (.if_icmp .ne 7) 3 55 := ⟨by decide +kernel, rfl⟩
theorem dc_X12_isWord_55 : Dc miX12_isWord 55 (.iconst 1) 1 56 := ⟨by decide +kernel, rfl⟩
theorem dc_X12_isWord_56 : Dc miX12_isWord 56 (.goto 4) 3 59 := ⟨by decide +kernel, rfl⟩
theorem dc_X12_isWord_59 : Dc miX12_isWord 59 (.iconst 0) 1 60 := ⟨by decide +kernel, rfl⟩
theorem dc_X12_isWord_60 : Dc miX12_isWord 60 (.istore_n 2) 1 61 := ⟨by decide +kernel, rfl⟩
theorem dc_X12_isWord_61 : Dc miX12_isWord 61 (.iinc 3 1) 3 64 := ⟨by decide +kernel, rfl⟩
theorem dc_X12_isWord_64 : Dc miX12_isWord 64 (.goto (-40)) 3 67 := ⟨by decide +kernel, rfl⟩
theorem dc_X12_isWord_67 : Dc miX12_isWord 67 (.iload_n 2) 1 68 := ⟨by decide +kernel, rfl⟩
theorem dc_X12_isWord_68 : Dc miX12_isWord 68 (.ireturn) 1 69 := ⟨by decide +kernel, rfl⟩
def fX12_isWord_b24 (N : Nat) (G : pG) (a0 : Nat) (a1 : Nat) (σ : pS) : (Int32 × Int32) → Option (Int32) := lp (fun (k24 : Int32 × Int32 → Option (Int32)) (b : Int32 × Int32) => if b.1 = 0 then (ck (isZ b.1) (some b.1)) else (if (sLen a1) ≤ b.2 then (ck (isZ b.1) (some b.1)) else (ck (inB ((σ.1 a0 12) + b.2) (pN G (pR G a0 8))) (ck (inB b.2 (lenS.getD a1 0)) (if (gA σ (pR G a0 8) ((σ.1 a0 12) + b.2)) = (sChr a1 b.2) then (k24 ((1 : Int32), b.2 + (1 : Int32))) else (k24 ((0 : Int32), b.2 + (1 : Int32)))))))) N
set_option maxRecDepth 100000 in
set_option maxHeartbeats 4000000 in
theorem tX12_isWord_b24 {N : Nat} {G : pG} {SK : Nat → Nat} {a0 : Nat} {a1 : Nat} {σ : pS} {b : Int32 × Int32} {r : Int32} (hW : WT G) (i0 : Is G a0 11) (s1 : decide (a1 < nStr) = true) (h : fX12_isWord_b24 N G a0 a1 σ b = some r) : Ev miX12_isWord (9, 0, 0) G (Zp G (some (.int r)) σ) SK (0, 0) 24 [some (.ref a0), some (.ref (SK a1)), some (.int b.1), some (.int b.2)] [] σ := by
  unfold fX12_isWord_b24 at h
  refine lp_ind (P := fun b r9 => r9 = r → Ev miX12_isWord (9, 0, 0) G (Zp G (some (.int r)) σ) SK (0, 0) 24 [some (.ref a0), some (.ref (SK a1)), some (.int b.1), some (.int b.2)] [] σ) (fun k24 b r9 ih h9 e9 => ?_) N b r h rfl
  clear h
  subst e9
  have h := h9
  clear h9
  have hk24 : ∀ b : Int32 × Int32, k24 b = some r9 → Ev miX12_isWord (9, 0, 0) G (Zp G (some (.int r9)) σ) SK (0, 0) 24 [some (.ref a0), some (.ref (SK a1)), some (.int b.1), some (.int b.2)] [] σ := fun b hb => ih b r9 hb rfl
  clear ih
  obtain ⟨x2, x3⟩ := b
  dsimp only at h ⊢
  refine ev_iload_n dc_X12_isWord_24 rfl ?_
  refine ev_if_eq (tgt := 67) dc_X12_isWord_25 (by decide) h (fun h => ?_) (fun h => ?_)
  · refine ev_iload_n dc_X12_isWord_67 rfl ?_
    have h2 := (ck_s h).2
    cases h2
    exact ev_zret dc_X12_isWord_68 rfl h rfl rfl
  · refine ev_iload_n dc_X12_isWord_28 rfl ?_
    refine ev_aload_n dc_X12_isWord_29 rfl ?_
    refine ev_slen dc_X12_isWord_30 mw_1642 (Nat.le_of_ble_eq_true rfl) (Nat.le_of_ble_eq_true rfl) ⟨Nat.le_refl _, Nat.le_refl _⟩ s1 ?_
    refine ev_icmp_ge (tgt := 67) dc_X12_isWord_33 (by decide) h (fun h => ?_) (fun h => ?_)
    · refine ev_iload_n dc_X12_isWord_67 rfl ?_
      have h2 := (ck_s h).2
      cases h2
      exact ev_zret dc_X12_isWord_68 rfl h rfl rfl
    · refine ev_aload_n dc_X12_isWord_36 rfl ?_
      refine ev_getR dc_X12_isWord_37 fi_X12_29 rfl i0 ?_
      refine ev_aload_n dc_X12_isWord_40 rfl ?_
      refine ev_getI dc_X12_isWord_41 fi_X12_97 rfl i0 ?_
      refine ev_iload_n dc_X12_isWord_44 rfl ?_
      refine ev_iadd dc_X12_isWord_45 ?_
      refine ev_bald dc_X12_isWord_46 (wt hW i0 8 rfl rfl) h (fun h => ?_)
      refine ev_aload_n dc_X12_isWord_47 rfl ?_
      refine ev_iload_n dc_X12_isWord_48 rfl ?_
      refine ev_schr dc_X12_isWord_49 mw_1643 (Nat.le_of_ble_eq_true rfl) (Nat.le_of_ble_eq_true rfl) ⟨Nat.le_refl _, Nat.le_refl _⟩ s1 h (fun h => ?_)
      refine ev_icmp_ne (tgt := 59) dc_X12_isWord_52 (by decide) h (fun h => ?_) (fun h => ?_)
      · refine ev_iconst (v := 1) dc_X12_isWord_55 (by decide) ?_
        refine ev_goto (tgt := 60) dc_X12_isWord_56 (by decide) ?_
        refine ev_istore_n (lv' := [some (.ref a0), some (.ref (SK a1)), some (.int (1 : Int32)), some (.int x3)]) dc_X12_isWord_60 rfl (by decide) rfl ?_
        refine ev_iinc (v := 1) (lv' := [some (.ref a0), some (.ref (SK a1)), some (.int (1 : Int32)), some (.int (x3 + (1 : Int32)))]) dc_X12_isWord_61 rfl (by decide) rfl (by decide) rfl ?_
        refine ev_goto (tgt := 24) dc_X12_isWord_64 (by decide) ?_
        exact ev_sub (hk24 ((1 : Int32), x3 + (1 : Int32)) h) (And.intro rfl (And.intro rfl (And.intro rfl (And.intro rfl trivial))))
      · refine ev_iconst (v := 0) dc_X12_isWord_59 (by decide) ?_
        refine ev_istore_n (lv' := [some (.ref a0), some (.ref (SK a1)), some (.int (0 : Int32)), some (.int x3)]) dc_X12_isWord_60 rfl (by decide) rfl ?_
        refine ev_iinc (v := 1) (lv' := [some (.ref a0), some (.ref (SK a1)), some (.int (0 : Int32)), some (.int (x3 + (1 : Int32)))]) dc_X12_isWord_61 rfl (by decide) rfl (by decide) rfl ?_
        refine ev_goto (tgt := 24) dc_X12_isWord_64 (by decide) ?_
        exact ev_sub (hk24 ((0 : Int32), x3 + (1 : Int32)) h) (And.intro rfl (And.intro rfl (And.intro rfl (And.intro rfl trivial))))
def fX12_isWord_b21 (N : Nat) (G : pG) (a0 : Nat) (a1 : Nat) (y0 : Int32) (σ : pS) : Option (Int32) := fX12_isWord_b24 N G a0 a1 σ (y0, (0 : Int32))
set_option maxRecDepth 100000 in
set_option maxHeartbeats 4000000 in
theorem tX12_isWord_b21 {N : Nat} {G : pG} {SK : Nat → Nat} {a0 : Nat} {a1 : Nat} {y0 : Int32} {σ : pS} {r : Int32} (hW : WT G) (i0 : Is G a0 11) (s1 : decide (a1 < nStr) = true) (h : fX12_isWord_b21 N G a0 a1 y0 σ = some r) : Ev miX12_isWord (9, 0, 0) G (Zp G (some (.int r)) σ) SK (0, 0) 21 [some (.ref a0), some (.ref (SK a1)), none, none] [.int y0] σ := by
  unfold fX12_isWord_b21 at h
  refine ev_istore_n (lv' := [some (.ref a0), some (.ref (SK a1)), some (.int y0), none]) dc_X12_isWord_21 rfl (by decide) rfl ?_
  refine ev_iconst (v := 0) dc_X12_isWord_22 (by decide) ?_
  refine ev_istore_n (lv' := [some (.ref a0), some (.ref (SK a1)), some (.int y0), some (.int (0 : Int32))]) dc_X12_isWord_23 rfl (by decide) rfl ?_
  exact ev_sub (tX12_isWord_b24 (b := (y0, (0 : Int32))) hW i0 s1 h) (And.intro rfl (And.intro rfl (And.intro rfl (And.intro rfl trivial))))
def fX12_isWord (N : Nat) (G : pG) (a0 : Nat) (a1 : Nat) (σ : pS) : Option (Int32) := if ((σ.1 a0 10) - (σ.1 a0 12)) = (sLen a1) then (fX12_isWord_b21 N G a0 a1 (1 : Int32) σ) else (fX12_isWord_b21 N G a0 a1 (0 : Int32) σ)
set_option maxRecDepth 100000 in
set_option maxHeartbeats 4000000 in
theorem tX12_isWord {N : Nat} {G : pG} {SK : Nat → Nat} {a0 : Nat} {a1 : Nat} {σ : pS} {r : Int32} (hW : WT G) (i0 : Is G a0 11) (s1 : decide (a1 < nStr) = true) (h : fX12_isWord N G a0 a1 σ = some r) : Dn miX12_isWord yX12_isWord 9 G SK [.ref a0, .ref (SK a1)] σ (some (.int r)) σ := by
  unfold fX12_isWord at h
  refine dn_of (lv := [some (.ref a0), some (.ref (SK a1)), none, none]) (by decide) rfl rfl (Nat.le_of_ble_eq_true rfl) rfl ?_
  refine ev_aload_n dc_X12_isWord_0 rfl ?_
  refine ev_getI dc_X12_isWord_1 fi_X12_87 rfl i0 ?_
  refine ev_aload_n dc_X12_isWord_4 rfl ?_
  refine ev_getI dc_X12_isWord_5 fi_X12_97 rfl i0 ?_
  refine ev_isub dc_X12_isWord_8 ?_
  refine ev_aload_n dc_X12_isWord_9 rfl ?_
  refine ev_slen dc_X12_isWord_10 mw_1642 (Nat.le_of_ble_eq_true rfl) (Nat.le_of_ble_eq_true rfl) ⟨Nat.le_refl _, Nat.le_refl _⟩ s1 ?_
  refine ev_icmp_ne (tgt := 20) dc_X12_isWord_13 (by decide) h (fun h => ?_) (fun h => ?_)
  · refine ev_iconst (v := 1) dc_X12_isWord_16 (by decide) ?_
    refine ev_goto (tgt := 21) dc_X12_isWord_17 (by decide) ?_
    exact ev_sub (tX12_isWord_b21 hW i0 s1 h) (And.intro rfl (And.intro rfl trivial))
  · refine ev_iconst (v := 0) dc_X12_isWord_20 (by decide) ?_
    exact ev_sub (tX12_isWord_b21 hW i0 s1 h) (And.intro rfl (And.intro rfl trivial))
theorem dc_X12_isAt_0 : Dc miX12_isAt 0 (.aload_n 0) 1 1 := ⟨by decide +kernel, rfl⟩
theorem dc_X12_isAt_1 : Dc miX12_isAt 1 (.getfield 87) 3 4 := ⟨by decide +kernel, rfl⟩
theorem dc_X12_isAt_4 : Dc miX12_isAt 4 (.aload_n 0) 1 5 := ⟨by decide +kernel, rfl⟩
theorem dc_X12_isAt_5 : Dc miX12_isAt 5 (.getfield 90) 3 8 := ⟨by decide +kernel, rfl⟩
theorem dc_X12_isAt_8 : Dc miX12_isAt 8 (.if_icmp .ge 33) 3 11 := ⟨by decide +kernel, rfl⟩
theorem dc_X12_isAt_11 : Dc miX12_isAt 11 (.aload_n 0) 1 12 := ⟨by decide +kernel, rfl⟩
theorem dc_X12_isAt_12 : Dc miX12_isAt 12 (.getfield 29) 3 15 := ⟨by decide +kernel, rfl⟩
theorem dc_X12_isAt_15 : Dc miX12_isAt 15 (.aload_n 0) 1 16 := ⟨by decide +kernel, rfl⟩
theorem dc_X12_isAt_16 : Dc miX12_isAt 16 (.getfield 87) 3 19 := ⟨by decide +kernel, rfl⟩
theorem dc_X12_isAt_19 : Dc miX12_isAt 19 (.baload) 1 20 := ⟨by decide +kernel, rfl⟩
theorem dc_X12_isAt_20 : Dc miX12_isAt 20 (.iload_n 1) 1 21 := ⟨by decide +kernel, rfl⟩
theorem dc_X12_isAt_21 : Dc miX12_isAt 21 (.if_icmp .lt 20) 3 24 := ⟨by decide +kernel, rfl⟩
theorem dc_X12_isAt_24 : Dc miX12_isAt 24 (.aload_n 0) 1 25 := ⟨by decide +kernel, rfl⟩
theorem dc_X12_isAt_25 : Dc miX12_isAt 25 (.getfield 29) 3 28 := ⟨by decide +kernel, rfl⟩
theorem dc_X12_isAt_28 : Dc miX12_isAt 28 (.aload_n 0) 1 29 := ⟨by decide +kernel, rfl⟩
theorem dc_X12_isAt_29 : Dc miX12_isAt 29 (.getfield 87) 3 32 := ⟨by decide +kernel, rfl⟩
theorem dc_X12_isAt_32 : Dc miX12_isAt 32 (.baload) 1 33 := ⟨by decide +kernel, rfl⟩
theorem dc_X12_isAt_33 : Dc miX12_isAt 33 (.iload_n 2) 1 34 := ⟨by decide +kernel, rfl⟩
theorem dc_X12_isAt_34 : Dc miX12_isAt 34 (.if_icmp .gt 7) 3 37 := ⟨by decide +kernel, rfl⟩
theorem dc_X12_isAt_37 : Dc miX12_isAt 37 (.iconst 1) 1 38 := ⟨by decide +kernel, rfl⟩
theorem dc_X12_isAt_38 : Dc miX12_isAt 38 (.goto 4) 3 41 := ⟨by decide +kernel, rfl⟩
theorem dc_X12_isAt_41 : Dc miX12_isAt 41 (.iconst 0) 1 42 := ⟨by decide +kernel, rfl⟩
theorem dc_X12_isAt_42 : Dc miX12_isAt 42 (.ireturn) 1 43 := ⟨by decide +kernel, rfl⟩
def fX12_isAt (N : Nat) (G : pG) (a0 : Nat) (a1 : Int32) (a2 : Int32) (σ : pS) : Option (Int32) := if (σ.1 a0 11) ≤ (σ.1 a0 10) then (some (0 : Int32)) else (ck (inB (σ.1 a0 10) (pN G (pR G a0 8))) (if (gA σ (pR G a0 8) (σ.1 a0 10)) < a1 then (some (0 : Int32)) else (ck (inB (σ.1 a0 10) (pN G (pR G a0 8))) (if a2 < (gA σ (pR G a0 8) (σ.1 a0 10)) then (some (0 : Int32)) else (some (1 : Int32))))))
set_option maxRecDepth 100000 in
set_option maxHeartbeats 4000000 in
theorem tX12_isAt {N : Nat} {G : pG} {SK : Nat → Nat} {a0 : Nat} {a1 : Int32} {a2 : Int32} {σ : pS} {r : Int32} (hW : WT G) (i0 : Is G a0 11) (h : fX12_isAt N G a0 a1 a2 σ = some r) : Dn miX12_isAt yX12_isAt 1 G SK [.ref a0, .int a1, .int a2] σ (some (.int r)) σ := by
  unfold fX12_isAt at h
  refine dn_of (lv := [some (.ref a0), some (.int a1), some (.int a2)]) (by decide) rfl rfl (Nat.le_of_ble_eq_true rfl) rfl ?_
  refine ev_aload_n dc_X12_isAt_0 rfl ?_
  refine ev_getI dc_X12_isAt_1 fi_X12_87 rfl i0 ?_
  refine ev_aload_n dc_X12_isAt_4 rfl ?_
  refine ev_getI dc_X12_isAt_5 fi_X12_90 rfl i0 ?_
  refine ev_icmp_ge (tgt := 41) dc_X12_isAt_8 (by decide) h (fun h => ?_) (fun h => ?_)
  · refine ev_iconst (v := 0) dc_X12_isAt_41 (by decide) ?_
    cases h
    exact ev_zretc dc_X12_isAt_42 rfl rfl rfl rfl
  · refine ev_aload_n dc_X12_isAt_11 rfl ?_
    refine ev_getR dc_X12_isAt_12 fi_X12_29 rfl i0 ?_
    refine ev_aload_n dc_X12_isAt_15 rfl ?_
    refine ev_getI dc_X12_isAt_16 fi_X12_87 rfl i0 ?_
    refine ev_bald dc_X12_isAt_19 (wt hW i0 8 rfl rfl) h (fun h => ?_)
    refine ev_iload_n dc_X12_isAt_20 rfl ?_
    refine ev_icmp_lt (tgt := 41) dc_X12_isAt_21 (by decide) h (fun h => ?_) (fun h => ?_)
    · refine ev_iconst (v := 0) dc_X12_isAt_41 (by decide) ?_
      cases h
      exact ev_zretc dc_X12_isAt_42 rfl rfl rfl rfl
    · refine ev_aload_n dc_X12_isAt_24 rfl ?_
      refine ev_getR dc_X12_isAt_25 fi_X12_29 rfl i0 ?_
      refine ev_aload_n dc_X12_isAt_28 rfl ?_
      refine ev_getI dc_X12_isAt_29 fi_X12_87 rfl i0 ?_
      refine ev_bald dc_X12_isAt_32 (wt hW i0 8 rfl rfl) h (fun h => ?_)
      refine ev_iload_n dc_X12_isAt_33 rfl ?_
      refine ev_icmp_gt (tgt := 41) dc_X12_isAt_34 (by decide) h (fun h => ?_) (fun h => ?_)
      · refine ev_iconst (v := 0) dc_X12_isAt_41 (by decide) ?_
        cases h
        exact ev_zretc dc_X12_isAt_42 rfl rfl rfl rfl
      · refine ev_iconst (v := 1) dc_X12_isAt_37 (by decide) ?_
        refine ev_goto (tgt := 42) dc_X12_isAt_38 (by decide) ?_
        cases h
        exact ev_zretc dc_X12_isAt_42 rfl rfl rfl rfl
theorem dc_X12_blanks_0 : Dc miX12_blanks 0 (.aload_n 0) 1 1 := ⟨by decide +kernel, rfl⟩
theorem dc_X12_blanks_1 : Dc miX12_blanks 1 (.bipush 32) 2 3 := ⟨by decide +kernel, rfl⟩
theorem dc_X12_blanks_3 : Dc miX12_blanks 3 (.bipush 32) 2 5 := ⟨by decide +kernel, rfl⟩
theorem dc_X12_blanks_5 : Dc miX12_blanks 5 (.invokevirtual 93) 3 8 := ⟨by decide +kernel, rfl⟩
theorem dc_X12_blanks_8 : Dc miX12_blanks 8 (.ifCond .eq 16) 3 11 := ⟨by decide +kernel, rfl⟩
theorem dc_X12_blanks_11 : Dc miX12_blanks 11 (.aload_n 0) 1 12 := ⟨by decide +kernel, rfl⟩
theorem dc_X12_blanks_12 : Dc miX12_blanks 12 (.dup) 1 13 := ⟨by decide +kernel, rfl⟩
theorem dc_X12_blanks_13 : Dc miX12_blanks 13 (.getfield 87) 3 16 := ⟨by decide +kernel, rfl⟩
theorem dc_X12_blanks_16 : Dc miX12_blanks 16 (.iconst 1) 1 17 := ⟨by decide +kernel, rfl⟩
theorem dc_X12_blanks_17 : Dc miX12_blanks 17 (.iadd) 1 18 := ⟨by decide +kernel, rfl⟩
theorem dc_X12_blanks_18 : Dc miX12_blanks 18 (.putfield 87) 3 21 := ⟨by decide +kernel, rfl⟩
theorem dc_X12_blanks_21 : Dc miX12_blanks 21 (.goto (-21)) 3 24 := ⟨by decide +kernel, rfl⟩
theorem dc_X12_blanks_24 : Dc miX12_blanks 24 (.aload_n 0) 1 25 := ⟨by decide +kernel, rfl⟩
theorem dc_X12_blanks_25 : Dc miX12_blanks 25 (.aload_n 0) 1 26 := ⟨by decide +kernel, rfl⟩
theorem dc_X12_blanks_26 : Dc miX12_blanks 26 (.getfield 87) 3 29 := ⟨by decide +kernel, rfl⟩
theorem dc_X12_blanks_29 : Dc miX12_blanks 29 (.putfield 97) 3 32 := ⟨by decide +kernel, rfl⟩
theorem dc_X12_blanks_32 : Dc miX12_blanks 32 (.return_) 1 33 := ⟨by decide +kernel, rfl⟩
def fX12_blanks_b0 (N : Nat) (G : pG) (a0 : Nat) : pS → Option (pS) := lp (fun (k0 : pS → Option (pS)) (b : pS) => (fX12_isAt N G a0 (32 : Int32) (32 : Int32) b).bind (fun q1 => if q1 = 0 then (some (putF b a0 12 (b.1 a0 10))) else (k0 (putF b a0 10 ((b.1 a0 10) + (1 : Int32)))))) N
set_option maxRecDepth 100000 in
set_option maxHeartbeats 4000000 in
theorem tX12_blanks_b0 {N : Nat} {G : pG} {SK : Nat → Nat} {a0 : Nat} {b : pS} {r : pS} (hW : WT G) (i0 : Is G a0 11) (h : fX12_blanks_b0 N G a0 b = some r) : Ev miX12_blanks (2, 0, 0) G (Zp G none r) SK (0, 0) 0 [some (.ref a0)] [] b := by
  unfold fX12_blanks_b0 at h
  refine lp_ind (P := fun b r9 => r9 = r → Ev miX12_blanks (2, 0, 0) G (Zp G none r) SK (0, 0) 0 [some (.ref a0)] [] b) (fun k0 σ r9 ih h9 e9 => ?_) N b r h rfl
  clear h
  subst e9
  have h := h9
  clear h9
  have hk0 : ∀ b : pS, k0 b = some r9 → Ev miX12_blanks (2, 0, 0) G (Zp G none r9) SK (0, 0) 0 [some (.ref a0)] [] b := fun b hb => ih b r9 hb rfl
  clear ih
  try dsimp only at h ⊢
  refine ev_aload_n dc_X12_blanks_0 rfl ?_
  refine ev_bipush (v := 32) dc_X12_blanks_1 (by decide) ?_
  refine ev_bipush (v := 32) dc_X12_blanks_3 (by decide) ?_
  obtain ⟨q1, hq1, h⟩ := Option.bind_eq_some_iff.mp h
  refine ev_callV (av := [.int (32 : Int32), .int (32 : Int32)]) (st := []) (st1 := [.int q1]) dc_X12_blanks_5 (tX12_isAt hW i0 hq1) mw_1621 cy_X12_isAt i0 (by decide) rfl rfl rfl rfl (Nat.le_of_ble_eq_true rfl) (Nat.le_of_ble_eq_true rfl) ⟨Nat.le_refl _, Nat.le_refl _⟩ ?_
  refine ev_if_eq (tgt := 24) dc_X12_blanks_8 (by decide) h (fun h => ?_) (fun h => ?_)
  · refine ev_aload_n dc_X12_blanks_24 rfl ?_
    refine ev_aload_n dc_X12_blanks_25 rfl ?_
    refine ev_getI dc_X12_blanks_26 fi_X12_87 rfl i0 ?_
    refine ev_putI dc_X12_blanks_29 fi_X12_97 rfl i0 ?_
    cases h
    exact ev_vret dc_X12_blanks_32 rfl rfl rfl
  · refine ev_aload_n dc_X12_blanks_11 rfl ?_
    refine ev_dup dc_X12_blanks_12 rfl ?_
    refine ev_getI dc_X12_blanks_13 fi_X12_87 rfl i0 ?_
    refine ev_iconst (v := 1) dc_X12_blanks_16 (by decide) ?_
    refine ev_iadd dc_X12_blanks_17 ?_
    refine ev_putI dc_X12_blanks_18 fi_X12_87 rfl i0 ?_
    refine ev_goto (tgt := 0) dc_X12_blanks_21 (by decide) ?_
    exact ev_sub (hk0 (putF σ a0 10 ((σ.1 a0 10) + (1 : Int32))) h) (And.intro rfl trivial)
def fX12_blanks (N : Nat) (G : pG) (a0 : Nat) (σ : pS) : Option (pS) := fX12_blanks_b0 N G a0 σ
set_option maxRecDepth 100000 in
set_option maxHeartbeats 4000000 in
theorem tX12_blanks {N : Nat} {G : pG} {SK : Nat → Nat} {a0 : Nat} {σ : pS} {r : pS} (hW : WT G) (i0 : Is G a0 11) (h : fX12_blanks N G a0 σ = some r) : Dn miX12_blanks yX12_blanks 2 G SK [.ref a0] σ none r := by
  unfold fX12_blanks at h
  refine dn_of (lv := [some (.ref a0)]) (by decide) rfl rfl (Nat.le_of_ble_eq_true rfl) rfl ?_
  exact ev_sub (tX12_blanks_b0 (b := σ) hW i0 h) (And.intro rfl trivial)
theorem dc_X12_letters_0 : Dc miX12_letters 0 (.aload_n 0) 1 1 := ⟨by decide +kernel, rfl⟩
theorem dc_X12_letters_1 : Dc miX12_letters 1 (.invokevirtual 100) 3 4 := ⟨by decide +kernel, rfl⟩
theorem dc_X12_letters_4 : Dc miX12_letters 4 (.aload_n 0) 1 5 := ⟨by decide +kernel, rfl⟩
theorem dc_X12_letters_5 : Dc miX12_letters 5 (.bipush 97) 2 7 := ⟨by decide +kernel, rfl⟩
theorem dc_X12_letters_7 : Dc miX12_letters 7 (.bipush 122) 2 9 := ⟨by decide +kernel, rfl⟩
theorem dc_X12_letters_9 : Dc miX12_letters 9 (.invokevirtual 93) 3 12 := ⟨by decide +kernel, rfl⟩
theorem dc_X12_letters_12 : Dc miX12_letters 12 (.ifCond .eq 16) 3 15 := ⟨by decide +kernel, rfl⟩
theorem dc_X12_letters_15 : Dc miX12_letters 15 (.aload_n 0) 1 16 := ⟨by decide +kernel, rfl⟩
theorem dc_X12_letters_16 : Dc miX12_letters 16 (.dup) 1 17 := ⟨by decide +kernel, rfl⟩
theorem dc_X12_letters_17 : Dc miX12_letters 17 (.getfield 87) 3 20 := ⟨by decide +kernel, rfl⟩
theorem dc_X12_letters_20 : Dc miX12_letters 20 (.iconst 1) 1 21 := ⟨by decide +kernel, rfl⟩
theorem dc_X12_letters_21 : Dc miX12_letters 21 (.iadd) 1 22 := ⟨by decide +kernel, rfl⟩
theorem dc_X12_letters_22 : Dc miX12_letters 22 (.putfield 87) 3 25 := ⟨by decide +kernel, rfl⟩
theorem dc_X12_letters_25 : Dc miX12_letters 25 (.goto (-21)) 3 28 := ⟨by decide +kernel, rfl⟩
theorem dc_X12_letters_28 : Dc miX12_letters 28 (.return_) 1 29 := ⟨by decide +kernel, rfl⟩
def fX12_letters_b4 (N : Nat) (G : pG) (a0 : Nat) : pS → Option (pS) := lp (fun (k4 : pS → Option (pS)) (b : pS) => (fX12_isAt N G a0 (97 : Int32) (122 : Int32) b).bind (fun q1 => if q1 = 0 then (some b) else (k4 (putF b a0 10 ((b.1 a0 10) + (1 : Int32)))))) N
set_option maxRecDepth 100000 in
set_option maxHeartbeats 4000000 in
theorem tX12_letters_b4 {N : Nat} {G : pG} {SK : Nat → Nat} {a0 : Nat} {b : pS} {r : pS} (hW : WT G) (i0 : Is G a0 11) (h : fX12_letters_b4 N G a0 b = some r) : Ev miX12_letters (3, 0, 0) G (Zp G none r) SK (0, 0) 4 [some (.ref a0)] [] b := by
  unfold fX12_letters_b4 at h
  refine lp_ind (P := fun b r9 => r9 = r → Ev miX12_letters (3, 0, 0) G (Zp G none r) SK (0, 0) 4 [some (.ref a0)] [] b) (fun k4 σ r9 ih h9 e9 => ?_) N b r h rfl
  clear h
  subst e9
  have h := h9
  clear h9
  have hk4 : ∀ b : pS, k4 b = some r9 → Ev miX12_letters (3, 0, 0) G (Zp G none r9) SK (0, 0) 4 [some (.ref a0)] [] b := fun b hb => ih b r9 hb rfl
  clear ih
  try dsimp only at h ⊢
  refine ev_aload_n dc_X12_letters_4 rfl ?_
  refine ev_bipush (v := 97) dc_X12_letters_5 (by decide) ?_
  refine ev_bipush (v := 122) dc_X12_letters_7 (by decide) ?_
  obtain ⟨q1, hq1, h⟩ := Option.bind_eq_some_iff.mp h
  refine ev_callV (av := [.int (97 : Int32), .int (122 : Int32)]) (st := []) (st1 := [.int q1]) dc_X12_letters_9 (tX12_isAt hW i0 hq1) mw_1621 cy_X12_isAt i0 (by decide) rfl rfl rfl rfl (Nat.le_of_ble_eq_true rfl) (Nat.le_of_ble_eq_true rfl) ⟨Nat.le_refl _, Nat.le_refl _⟩ ?_
  refine ev_if_eq (tgt := 28) dc_X12_letters_12 (by decide) h (fun h => ?_) (fun h => ?_)
  · cases h
    exact ev_vret dc_X12_letters_28 rfl rfl rfl
  · refine ev_aload_n dc_X12_letters_15 rfl ?_
    refine ev_dup dc_X12_letters_16 rfl ?_
    refine ev_getI dc_X12_letters_17 fi_X12_87 rfl i0 ?_
    refine ev_iconst (v := 1) dc_X12_letters_20 (by decide) ?_
    refine ev_iadd dc_X12_letters_21 ?_
    refine ev_putI dc_X12_letters_22 fi_X12_87 rfl i0 ?_
    refine ev_goto (tgt := 4) dc_X12_letters_25 (by decide) ?_
    exact ev_sub (hk4 (putF σ a0 10 ((σ.1 a0 10) + (1 : Int32))) h) (And.intro rfl trivial)
def fX12_letters (N : Nat) (G : pG) (a0 : Nat) (σ : pS) : Option (pS) := (fX12_blanks N G a0 σ).bind (fun q2 => fX12_letters_b4 N G a0 q2)
set_option maxRecDepth 100000 in
set_option maxHeartbeats 4000000 in
theorem tX12_letters {N : Nat} {G : pG} {SK : Nat → Nat} {a0 : Nat} {σ : pS} {r : pS} (hW : WT G) (i0 : Is G a0 11) (h : fX12_letters N G a0 σ = some r) : Dn miX12_letters yX12_letters 3 G SK [.ref a0] σ none r := by
  unfold fX12_letters at h
  refine dn_of (lv := [some (.ref a0)]) (by decide) rfl rfl (Nat.le_of_ble_eq_true rfl) rfl ?_
  refine ev_aload_n dc_X12_letters_0 rfl ?_
  obtain ⟨q2, hq2, h⟩ := Option.bind_eq_some_iff.mp h
  refine ev_callV (av := []) (st := []) (st1 := []) dc_X12_letters_1 (tX12_blanks hW i0 hq2) mw_1617 cy_X12_blanks i0 (by decide) rfl rfl rfl rfl (Nat.le_of_ble_eq_true rfl) (Nat.le_of_ble_eq_true rfl) ⟨Nat.le_refl _, Nat.le_refl _⟩ ?_
  exact ev_sub (tX12_letters_b4 (b := q2) hW i0 h) (And.intro rfl trivial)
theorem dc_X12_number_0 : Dc miX12_number 0 (.aload_n 0) 1 1 := ⟨by decide +kernel, rfl⟩
theorem dc_X12_number_1 : Dc miX12_number 1 (.invokevirtual 100) 3 4 := ⟨by decide +kernel, rfl⟩
theorem dc_X12_number_4 : Dc miX12_number 4 (.iconst 0) 1 5 := ⟨by decide +kernel, rfl⟩
theorem dc_X12_number_5 : Dc miX12_number 5 (.istore_n 3) 1 6 := ⟨by decide +kernel, rfl⟩
theorem dc_X12_number_6 : Dc miX12_number 6 (.aload_n 0) 1 7 := ⟨by decide +kernel, rfl⟩
theorem dc_X12_number_7 : Dc miX12_number 7 (.bipush 48) 2 9 := ⟨by decide +kernel, rfl⟩
theorem dc_X12_number_9 : Dc miX12_number 9 (.bipush 57) 2 11 := ⟨by decide +kernel, rfl⟩
theorem dc_X12_number_11 : Dc miX12_number 11 (.invokevirtual 93) 3 14 := ⟨by decide +kernel, rfl⟩
theorem dc_X12_number_14 : Dc miX12_number 14 (.ifCond .eq 51) 3 17 := ⟨by decide +kernel, rfl⟩
theorem dc_X12_number_17 : Dc miX12_number 17 (.aload_n 0) 1 18 := ⟨by decide +kernel, rfl⟩
theorem dc_X12_number_18 : Dc miX12_number 18 (.getfield 87) 3 21 := ⟨by decide +kernel, rfl⟩
theorem dc_X12_number_21 : Dc miX12_number 21 (.aload_n 0) 1 22 := ⟨by decide +kernel, rfl⟩
theorem dc_X12_number_22 : Dc miX12_number 22 (.getfield 97) 3 25 := ⟨by decide +kernel, rfl⟩
theorem dc_X12_number_25 : Dc miX12_number 25 (.isub) 1 26 := ⟨by decide +kernel, rfl⟩
theorem dc_X12_number_26 : Dc miX12_number 26 (.iconst 3) 1 27 := ⟨by decide +kernel, rfl⟩
theorem dc_X12_number_27 : Dc miX12_number 27 (.if_icmp .ge 23) 3 30 := ⟨by decide +kernel, rfl⟩
theorem dc_X12_number_30 : Dc miX12_number 30 (.bipush 10) 2 32 := ⟨by decide +kernel, rfl⟩
theorem dc_X12_number_32 : Dc miX12_number 32 (.iload_n 3) 1 33 := ⟨by decide +kernel, rfl⟩
theorem dc_X12_number_33 : Dc miX12_number 33 (.imul) 1 34 := ⟨by decide +kernel, rfl⟩
theorem dc_X12_number_34 : Dc miX12_number 34 (.aload_n 0) 1 35 := ⟨by decide +kernel, rfl⟩
theorem dc_X12_number_35 : Dc miX12_number 35 (.getfield 29) 3 38 := ⟨by decide +kernel, rfl⟩
theorem dc_X12_number_38 : Dc miX12_number 38 (.aload_n 0) 1 39 := ⟨by decide +kernel, rfl⟩
theorem dc_X12_number_39 : Dc miX12_number 39 (.getfield 87) 3 42 := ⟨by decide +kernel, rfl⟩
theorem dc_X12_number_42 : Dc miX12_number 42 (.baload) 1 43 := ⟨by decide +kernel, rfl⟩
theorem dc_X12_number_43 : Dc miX12_number 43 (.iadd) 1 44 := ⟨by decide +kernel, rfl⟩
theorem dc_X12_number_44 : Dc miX12_number 44 (.bipush 48) 2 46 := ⟨by decide +kernel, rfl⟩
theorem dc_X12_number_46 : Dc miX12_number 46 (.isub) 1 47 := ⟨by decide +kernel, rfl⟩
theorem dc_X12_number_47 : Dc miX12_number 47 (.goto 4) 3 50 := ⟨by decide +kernel, rfl⟩
theorem dc_X12_number_50 : Dc miX12_number 50 (.iload_n 3) 1 51 := ⟨by decide +kernel, rfl⟩
theorem dc_X12_number_51 : Dc miX12_number 51 (.istore_n 3) 1 52 := ⟨by decide +kernel, rfl⟩
theorem dc_X12_number_52 : Dc miX12_number 52 (.aload_n 0) 1 53 := ⟨by decide +kernel, rfl⟩
theorem dc_X12_number_53 : Dc miX12_number 53 (.dup) 1 54 := ⟨by decide +kernel, rfl⟩
theorem dc_X12_number_54 : Dc miX12_number 54 (.getfield 87) 3 57 := ⟨by decide +kernel, rfl⟩
theorem dc_X12_number_57 : Dc miX12_number 57 (.iconst 1) 1 58 := ⟨by decide +kernel, rfl⟩
theorem dc_X12_number_58 : Dc miX12_number 58 (.iadd) 1 59 := ⟨by decide +kernel, rfl⟩
theorem dc_X12_number_59 : Dc miX12_number 59 (.putfield 87) 3 62 := ⟨by decide +kernel, rfl⟩
theorem dc_X12_number_62 : Dc miX12_number 62 (.goto (-56)) 3 65 := ⟨by decide +kernel, rfl⟩
theorem dc_X12_number_65 : Dc miX12_number 65 (.aload_n 0) 1 66 := ⟨by decide +kernel, rfl⟩
theorem dc_X12_number_66 : Dc miX12_number 66 (.getfield 87) 3 69 := ⟨by decide +kernel, rfl⟩
theorem dc_X12_number_69 : Dc miX12_number 69 (.aload_n 0) 1 70 := ⟨by decide +kernel, rfl⟩
theorem dc_X12_number_70 : Dc miX12_number 70 (.getfield 97) 3 73 := ⟨by decide +kernel, rfl⟩
theorem dc_X12_number_73 : Dc miX12_number 73 (.if_icmp .eq 26) 3 76 := ⟨by decide +kernel, rfl⟩
theorem dc_X12_number_76 : Dc miX12_number 76 (.aload_n 0) 1 77 := ⟨by decide +kernel, rfl⟩
theorem dc_X12_number_77 : Dc miX12_number 77 (.getfield 87) 3 80 := ⟨by decide +kernel, rfl⟩
theorem dc_X12_number_80 : Dc miX12_number 80 (.aload_n 0) 1 81 := ⟨by decide +kernel, rfl⟩
theorem dc_X12_number_81 : Dc miX12_number 81 (.getfield 97) 3 84 := ⟨by decide +kernel, rfl⟩
theorem dc_X12_number_84 : Dc miX12_number 84 (.isub) 1 85 := ⟨by decide +kernel, rfl⟩
theorem dc_X12_number_85 : Dc miX12_number 85 (.iconst 3) 1 86 := ⟨by decide +kernel, rfl⟩
theorem dc_X12_number_86 : Dc miX12_number 86 (.if_icmp .gt 13) 3 89 := ⟨by decide +kernel, rfl⟩
theorem dc_X12_number_89 : Dc miX12_number 89 (.iload_n 3) 1 90 := ⟨by decide +kernel, rfl⟩
theorem dc_X12_number_90 : Dc miX12_number 90 (.iload_n 1) 1 91 := ⟨by decide +kernel, rfl⟩
theorem dc_X12_number_91 : Dc miX12_number 91 (.if_icmp .lt 8) 3 94 := ⟨by decide +kernel, rfl⟩
theorem dc_X12_number_94 : Dc miX12_number 94 (.iload_n 3) 1 95 := ⟨by decide +kernel, rfl⟩
theorem dc_X12_number_95 : Dc miX12_number 95 (.iload_n 2) 1 96 := ⟨by decide +kernel, rfl⟩
theorem dc_X12_number_96 : Dc miX12_number 96 (.if_icmp .le 7) 3 99 := ⟨by decide +kernel, rfl⟩
theorem dc_X12_number_99 : Dc miX12_number 99 (.iconst (-1)) 1 100 := ⟨by decide +kernel, rfl⟩
theorem dc_X12_number_100 : Dc miX12_number 100 (.goto 4) 3 103 := ⟨by decide +kernel, rfl⟩
theorem dc_X12_number_103 : Dc miX12_number 103 (.iload_n 3) 1 104 := ⟨by decide +kernel, rfl⟩
theorem dc_X12_number_104 : Dc miX12_number 104 (.ireturn) 1 105 := ⟨by decide +kernel, rfl⟩
def fX12_number_b51 (N : Nat) (G : pG) (k6 : Int32 × pS → Option (Int32 × pS)) (a0 : Nat) (a1 : Int32) (a2 : Int32) (y0 : Int32) (σ : pS) : Option (Int32 × pS) := k6 (y0, putF σ a0 10 ((σ.1 a0 10) + (1 : Int32)))
set_option maxRecDepth 100000 in
set_option maxHeartbeats 4000000 in
theorem tX12_number_b51 {N : Nat} {G : pG} {SK : Nat → Nat} {k6 : Int32 × pS → Option (Int32 × pS)} {a0 : Nat} {a1 : Int32} {a2 : Int32} {y0 : Int32} {σ : pS} {r : Int32 × pS} (hW : WT G) (i0 : Is G a0 11) (hk6 : ∀ b : Int32 × pS, k6 b = some r → Ev miX12_number (3, 0, 0) G (Zp G (some (.int r.1)) r.2) SK (0, 0) 6 [some (.ref a0), some (.int a1), some (.int a2), some (.int b.1)] [] b.2) (h : fX12_number_b51 N G k6 a0 a1 a2 y0 σ = some r) : Ev miX12_number (3, 0, 0) G (Zp G (some (.int r.1)) r.2) SK (0, 0) 51 [some (.ref a0), some (.int a1), some (.int a2), none] [.int y0] σ := by
  unfold fX12_number_b51 at h
  refine ev_istore_n (lv' := [some (.ref a0), some (.int a1), some (.int a2), some (.int y0)]) dc_X12_number_51 rfl (by decide) rfl ?_
  refine ev_aload_n dc_X12_number_52 rfl ?_
  refine ev_dup dc_X12_number_53 rfl ?_
  refine ev_getI dc_X12_number_54 fi_X12_87 rfl i0 ?_
  refine ev_iconst (v := 1) dc_X12_number_57 (by decide) ?_
  refine ev_iadd dc_X12_number_58 ?_
  refine ev_putI dc_X12_number_59 fi_X12_87 rfl i0 ?_
  refine ev_goto (tgt := 6) dc_X12_number_62 (by decide) ?_
  exact ev_sub (hk6 (y0, putF σ a0 10 ((σ.1 a0 10) + (1 : Int32))) h) (And.intro rfl (And.intro rfl (And.intro rfl (And.intro rfl trivial))))
def fX12_number_b99 (N : Nat) (G : pG) (σ : pS) : Option (Int32 × pS) := some ((-1 : Int32), σ)
set_option maxRecDepth 100000 in
set_option maxHeartbeats 4000000 in
theorem tX12_number_b99 {N : Nat} {G : pG} {SK : Nat → Nat} {σ : pS} {r : Int32 × pS} (hW : WT G) (h : fX12_number_b99 N G σ = some r) : Ev miX12_number (3, 0, 0) G (Zp G (some (.int r.1)) r.2) SK (0, 0) 99 [none, none, none, none] [] σ := by
  unfold fX12_number_b99 at h
  refine ev_iconst (v := (-1)) dc_X12_number_99 (by decide) ?_
  refine ev_goto (tgt := 104) dc_X12_number_100 (by decide) ?_
  cases h
  exact ev_iret dc_X12_number_104 rfl rfl rfl
def fX12_number_b6 (N : Nat) (G : pG) (a0 : Nat) (a1 : Int32) (a2 : Int32) : (Int32 × pS) → Option (Int32 × pS) := lp (fun (k6 : Int32 × pS → Option (Int32 × pS)) (b : Int32 × pS) => (fX12_isAt N G a0 (48 : Int32) (57 : Int32) b.2).bind (fun q1 => if q1 = 0 then (if (b.2.1 a0 10) = (b.2.1 a0 12) then (fX12_number_b99 N G b.2) else (if (3 : Int32) < ((b.2.1 a0 10) - (b.2.1 a0 12)) then (fX12_number_b99 N G b.2) else (if b.1 < a1 then (fX12_number_b99 N G b.2) else (if b.1 ≤ a2 then (some (b.1, b.2)) else (fX12_number_b99 N G b.2))))) else (if (3 : Int32) ≤ ((b.2.1 a0 10) - (b.2.1 a0 12)) then (fX12_number_b51 N G k6 a0 a1 a2 b.1 b.2) else (ck (inB (b.2.1 a0 10) (pN G (pR G a0 8))) (fX12_number_b51 N G k6 a0 a1 a2 ((((10 : Int32) * b.1) + (gA b.2 (pR G a0 8) (b.2.1 a0 10))) - (48 : Int32)) b.2))))) N
set_option maxRecDepth 100000 in
set_option maxHeartbeats 4000000 in
theorem tX12_number_b6 {N : Nat} {G : pG} {SK : Nat → Nat} {a0 : Nat} {a1 : Int32} {a2 : Int32} {b : Int32 × pS} {r : Int32 × pS} (hW : WT G) (i0 : Is G a0 11) (h : fX12_number_b6 N G a0 a1 a2 b = some r) : Ev miX12_number (3, 0, 0) G (Zp G (some (.int r.1)) r.2) SK (0, 0) 6 [some (.ref a0), some (.int a1), some (.int a2), some (.int b.1)] [] b.2 := by
  unfold fX12_number_b6 at h
  refine lp_ind (P := fun b r9 => r9 = r → Ev miX12_number (3, 0, 0) G (Zp G (some (.int r.1)) r.2) SK (0, 0) 6 [some (.ref a0), some (.int a1), some (.int a2), some (.int b.1)] [] b.2) (fun k6 b r9 ih h9 e9 => ?_) N b r h rfl
  clear h
  subst e9
  have h := h9
  clear h9
  have hk6 : ∀ b : Int32 × pS, k6 b = some r9 → Ev miX12_number (3, 0, 0) G (Zp G (some (.int r9.1)) r9.2) SK (0, 0) 6 [some (.ref a0), some (.int a1), some (.int a2), some (.int b.1)] [] b.2 := fun b hb => ih b r9 hb rfl
  clear ih
  obtain ⟨x3, σ⟩ := b
  dsimp only at h ⊢
  refine ev_aload_n dc_X12_number_6 rfl ?_
  refine ev_bipush (v := 48) dc_X12_number_7 (by decide) ?_
  refine ev_bipush (v := 57) dc_X12_number_9 (by decide) ?_
  obtain ⟨q1, hq1, h⟩ := Option.bind_eq_some_iff.mp h
  refine ev_callV (av := [.int (48 : Int32), .int (57 : Int32)]) (st := []) (st1 := [.int q1]) dc_X12_number_11 (tX12_isAt hW i0 hq1) mw_1621 cy_X12_isAt i0 (by decide) rfl rfl rfl rfl (Nat.le_of_ble_eq_true rfl) (Nat.le_of_ble_eq_true rfl) ⟨Nat.le_refl _, Nat.le_refl _⟩ ?_
  refine ev_if_eq (tgt := 65) dc_X12_number_14 (by decide) h (fun h => ?_) (fun h => ?_)
  · refine ev_aload_n dc_X12_number_65 rfl ?_
    refine ev_getI dc_X12_number_66 fi_X12_87 rfl i0 ?_
    refine ev_aload_n dc_X12_number_69 rfl ?_
    refine ev_getI dc_X12_number_70 fi_X12_97 rfl i0 ?_
    refine ev_icmp_eq (tgt := 99) dc_X12_number_73 (by decide) h (fun h => ?_) (fun h => ?_)
    · exact ev_sub (tX12_number_b99 hW h) trivial
    · refine ev_aload_n dc_X12_number_76 rfl ?_
      refine ev_getI dc_X12_number_77 fi_X12_87 rfl i0 ?_
      refine ev_aload_n dc_X12_number_80 rfl ?_
      refine ev_getI dc_X12_number_81 fi_X12_97 rfl i0 ?_
      refine ev_isub dc_X12_number_84 ?_
      refine ev_iconst (v := 3) dc_X12_number_85 (by decide) ?_
      refine ev_icmp_gt (tgt := 99) dc_X12_number_86 (by decide) h (fun h => ?_) (fun h => ?_)
      · exact ev_sub (tX12_number_b99 hW h) trivial
      · refine ev_iload_n dc_X12_number_89 rfl ?_
        refine ev_iload_n dc_X12_number_90 rfl ?_
        refine ev_icmp_lt (tgt := 99) dc_X12_number_91 (by decide) h (fun h => ?_) (fun h => ?_)
        · exact ev_sub (tX12_number_b99 hW h) trivial
        · refine ev_iload_n dc_X12_number_94 rfl ?_
          refine ev_iload_n dc_X12_number_95 rfl ?_
          refine ev_icmp_le (tgt := 103) dc_X12_number_96 (by decide) h (fun h => ?_) (fun h => ?_)
          · refine ev_iload_n dc_X12_number_103 rfl ?_
            cases h
            exact ev_iret dc_X12_number_104 rfl rfl rfl
          · exact ev_sub (tX12_number_b99 hW h) trivial
  · refine ev_aload_n dc_X12_number_17 rfl ?_
    refine ev_getI dc_X12_number_18 fi_X12_87 rfl i0 ?_
    refine ev_aload_n dc_X12_number_21 rfl ?_
    refine ev_getI dc_X12_number_22 fi_X12_97 rfl i0 ?_
    refine ev_isub dc_X12_number_25 ?_
    refine ev_iconst (v := 3) dc_X12_number_26 (by decide) ?_
    refine ev_icmp_ge (tgt := 50) dc_X12_number_27 (by decide) h (fun h => ?_) (fun h => ?_)
    · refine ev_iload_n dc_X12_number_50 rfl ?_
      exact ev_sub (tX12_number_b51 hW i0 hk6 h) (And.intro rfl (And.intro rfl (And.intro rfl trivial)))
    · refine ev_bipush (v := 10) dc_X12_number_30 (by decide) ?_
      refine ev_iload_n dc_X12_number_32 rfl ?_
      refine ev_imul dc_X12_number_33 ?_
      refine ev_aload_n dc_X12_number_34 rfl ?_
      refine ev_getR dc_X12_number_35 fi_X12_29 rfl i0 ?_
      refine ev_aload_n dc_X12_number_38 rfl ?_
      refine ev_getI dc_X12_number_39 fi_X12_87 rfl i0 ?_
      refine ev_bald dc_X12_number_42 (wt hW i0 8 rfl rfl) h (fun h => ?_)
      refine ev_iadd dc_X12_number_43 ?_
      refine ev_bipush (v := 48) dc_X12_number_44 (by decide) ?_
      refine ev_isub dc_X12_number_46 ?_
      refine ev_goto (tgt := 51) dc_X12_number_47 (by decide) ?_
      exact ev_sub (tX12_number_b51 hW i0 hk6 h) (And.intro rfl (And.intro rfl (And.intro rfl trivial)))
def fX12_number (N : Nat) (G : pG) (a0 : Nat) (a1 : Int32) (a2 : Int32) (σ : pS) : Option (Int32 × pS) := (fX12_blanks N G a0 σ).bind (fun q2 => fX12_number_b6 N G a0 a1 a2 ((0 : Int32), q2))
set_option maxRecDepth 100000 in
set_option maxHeartbeats 4000000 in
theorem tX12_number {N : Nat} {G : pG} {SK : Nat → Nat} {a0 : Nat} {a1 : Int32} {a2 : Int32} {σ : pS} {r : Int32 × pS} (hW : WT G) (i0 : Is G a0 11) (h : fX12_number N G a0 a1 a2 σ = some r) : Dn miX12_number yX12_number 3 G SK [.ref a0, .int a1, .int a2] σ (some (.int r.1)) r.2 := by
  unfold fX12_number at h
  refine dn_of (lv := [some (.ref a0), some (.int a1), some (.int a2), none]) (by decide) rfl rfl (Nat.le_of_ble_eq_true rfl) rfl ?_
  refine ev_aload_n dc_X12_number_0 rfl ?_
  obtain ⟨q2, hq2, h⟩ := Option.bind_eq_some_iff.mp h
  refine ev_callV (av := []) (st := []) (st1 := []) dc_X12_number_1 (tX12_blanks hW i0 hq2) mw_1617 cy_X12_blanks i0 (by decide) rfl rfl rfl rfl (Nat.le_of_ble_eq_true rfl) (Nat.le_of_ble_eq_true rfl) ⟨Nat.le_refl _, Nat.le_refl _⟩ ?_
  refine ev_iconst (v := 0) dc_X12_number_4 (by decide) ?_
  refine ev_istore_n (lv' := [some (.ref a0), some (.int a1), some (.int a2), some (.int (0 : Int32))]) dc_X12_number_5 rfl (by decide) rfl ?_
  exact ev_sub (tX12_number_b6 (b := ((0 : Int32), q2)) hW i0 h) (And.intro rfl (And.intro rfl (And.intro rfl (And.intro rfl trivial))))
theorem dc_X12_after_0 : Dc miX12_after 0 (.aload_n 0) 1 1 := ⟨by decide +kernel, rfl⟩
theorem dc_X12_after_1 : Dc miX12_after 1 (.invokevirtual 112) 3 4 := ⟨by decide +kernel, rfl⟩
theorem dc_X12_after_4 : Dc miX12_after 4 (.aload_n 0) 1 5 := ⟨by decide +kernel, rfl⟩
theorem dc_X12_after_5 : Dc miX12_after 5 (.aload_n 1) 1 6 := ⟨by decide +kernel, rfl⟩
theorem dc_X12_after_6 : Dc miX12_after 6 (.invokevirtual 115) 3 9 := ⟨by decide +kernel, rfl⟩
theorem dc_X12_after_9 : Dc miX12_after 9 (.ifCond .eq 12) 3 12 := ⟨by decide +kernel, rfl⟩
theorem dc_X12_after_12 : Dc miX12_after 12 (.aload_n 0) 1 13 := ⟨by decide +kernel, rfl⟩
theorem dc_X12_after_13 : Dc miX12_after 13 (.iload_n 2) 1 14 := ⟨by decide +kernel, rfl⟩
theorem dc_X12_after_14 : Dc miX12_after 14 (.iload_n 3) 1 15 := ⟨by decide +kernel, rfl⟩
theorem dc_X12_after_15 : Dc miX12_after 15 (.invokevirtual 119) 3 18 := ⟨by decide +kernel, rfl⟩
theorem dc_X12_after_18 : Dc miX12_after 18 (.goto 4) 3 21 := ⟨by decide +kernel, rfl⟩
theorem dc_X12_after_21 : Dc miX12_after 21 (.iconst (-1)) 1 22 := ⟨by decide +kernel, rfl⟩
theorem dc_X12_after_22 : Dc miX12_after 22 (.ireturn) 1 23 := ⟨by decide +kernel, rfl⟩
def fX12_after (N : Nat) (G : pG) (a0 : Nat) (a1 : Nat) (a2 : Int32) (a3 : Int32) (σ : pS) : Option (Int32 × pS) := (fX12_letters N G a0 σ).bind (fun q1 => (fX12_isWord N G a0 a1 q1).bind (fun q2 => if q2 = 0 then (some ((-1 : Int32), q1)) else ((fX12_number N G a0 a2 a3 q1).bind (fun q3 => some (q3.1, q3.2)))))
set_option maxRecDepth 100000 in
set_option maxHeartbeats 4000000 in
theorem tX12_after {N : Nat} {G : pG} {SK : Nat → Nat} {a0 : Nat} {a1 : Nat} {a2 : Int32} {a3 : Int32} {σ : pS} {r : Int32 × pS} (hW : WT G) (i0 : Is G a0 11) (s1 : decide (a1 < nStr) = true) (h : fX12_after N G a0 a1 a2 a3 σ = some r) : Dn miX12_after yX12_after 10 G SK [.ref a0, .ref (SK a1), .int a2, .int a3] σ (some (.int r.1)) r.2 := by
  unfold fX12_after at h
  refine dn_of (lv := [some (.ref a0), some (.ref (SK a1)), some (.int a2), some (.int a3)]) (by decide) rfl rfl (Nat.le_of_ble_eq_true rfl) rfl ?_
  refine ev_aload_n dc_X12_after_0 rfl ?_
  obtain ⟨q1, hq1, h⟩ := Option.bind_eq_some_iff.mp h
  refine ev_callV (av := []) (st := []) (st1 := []) dc_X12_after_1 (tX12_letters hW i0 hq1) mw_1629 cy_X12_letters i0 (by decide) rfl rfl rfl rfl (Nat.le_of_ble_eq_true rfl) (Nat.le_of_ble_eq_true rfl) ⟨Nat.le_refl _, Nat.le_refl _⟩ ?_
  refine ev_aload_n dc_X12_after_4 rfl ?_
  refine ev_aload_n dc_X12_after_5 rfl ?_
  obtain ⟨q2, hq2, h⟩ := Option.bind_eq_some_iff.mp h
  refine ev_callV (av := [.ref (SK a1)]) (st := []) (st1 := [.int q2]) dc_X12_after_6 (tX12_isWord hW i0 s1 hq2) mw_1638 cy_X12_isWord i0 (by decide) rfl rfl rfl rfl (Nat.le_of_ble_eq_true rfl) (Nat.le_of_ble_eq_true rfl) ⟨Nat.le_refl _, Nat.le_refl _⟩ ?_
  refine ev_if_eq (tgt := 21) dc_X12_after_9 (by decide) h (fun h => ?_) (fun h => ?_)
  · refine ev_iconst (v := (-1)) dc_X12_after_21 (by decide) ?_
    cases h
    exact ev_iret dc_X12_after_22 rfl rfl rfl
  · refine ev_aload_n dc_X12_after_12 rfl ?_
    refine ev_iload_n dc_X12_after_13 rfl ?_
    refine ev_iload_n dc_X12_after_14 rfl ?_
    obtain ⟨q3, hq3, h⟩ := Option.bind_eq_some_iff.mp h
    refine ev_callV (av := [.int a2, .int a3]) (st := []) (st1 := [.int q3.1]) dc_X12_after_15 (tX12_number hW i0 hq3) mw_1667 cy_X12_number i0 (by decide) rfl rfl rfl rfl (Nat.le_of_ble_eq_true rfl) (Nat.le_of_ble_eq_true rfl) ⟨Nat.le_refl _, Nat.le_refl _⟩ ?_
    refine ev_goto (tgt := 22) dc_X12_after_18 (by decide) ?_
    cases h
    exact ev_iret dc_X12_after_22 rfl rfl rfl
theorem dc_X12_bringsBack_0 : Dc miX12_bringsBack 0 (.iconst 0) 1 1 := ⟨by decide +kernel, rfl⟩
theorem dc_X12_bringsBack_1 : Dc miX12_bringsBack 1 (.istore_n 1) 1 2 := ⟨by decide +kernel, rfl⟩
theorem dc_X12_bringsBack_2 : Dc miX12_bringsBack 2 (.iload_n 1) 1 3 := ⟨by decide +kernel, rfl⟩
theorem dc_X12_bringsBack_3 : Dc miX12_bringsBack 3 (.sipush 383) 3 6 := ⟨by decide +kernel, rfl⟩
theorem dc_X12_bringsBack_6 : Dc miX12_bringsBack 6 (.if_icmp .ge 21) 3 9 := ⟨by decide +kernel, rfl⟩
theorem dc_X12_bringsBack_9 : Dc miX12_bringsBack 9 (.aload_n 0) 1 10 := ⟨by decide +kernel, rfl⟩
theorem dc_X12_bringsBack_10 : Dc miX12_bringsBack 10 (.getfield 13) 3 13 := ⟨by decide +kernel, rfl⟩
theorem dc_X12_bringsBack_13 : Dc miX12_bringsBack 13 (.iload_n 1) 1 14 := ⟨by decide +kernel, rfl⟩
theorem dc_X12_bringsBack_14 : Dc miX12_bringsBack 14 (.aload_n 0) 1 15 := ⟨by decide +kernel, rfl⟩
theorem dc_X12_bringsBack_15 : Dc miX12_bringsBack 15 (.getfield 23) 3 18 := ⟨by decide +kernel, rfl⟩
theorem dc_X12_bringsBack_18 : Dc miX12_bringsBack 18 (.iload_n 1) 1 19 := ⟨by decide +kernel, rfl⟩
theorem dc_X12_bringsBack_19 : Dc miX12_bringsBack 19 (.iaload) 1 20 := ⟨by decide +kernel, rfl⟩
theorem dc_X12_bringsBack_20 : Dc miX12_bringsBack 20 (.iastore) 1 21 := ⟨by decide +kernel, rfl⟩
theorem dc_X12_bringsBack_21 : Dc miX12_bringsBack 21 (.iinc 1 1) 3 24 := ⟨by decide +kernel, rfl⟩
theorem dc_X12_bringsBack_24 : Dc miX12_bringsBack 24 (.goto (-22)) 3 27 := ⟨by decide +kernel, rfl⟩
theorem dc_X12_bringsBack_27 : Dc miX12_bringsBack 27 (.return_) 1 28 := ⟨by decide +kernel, rfl⟩
def fX12_bringsBack_b2 (N : Nat) (G : pG) (a0 : Nat) : (Int32 × pS) → Option (pS) := lp (fun (k2 : Int32 × pS → Option (pS)) (b : Int32 × pS) => if (383 : Int32) ≤ b.1 then (some b.2) else (ck (inB b.1 (pN G (pR G a0 4))) (ck (inB b.1 (pN G (pR G a0 1))) (k2 (b.1 + (1 : Int32), sA b.2 (pR G a0 1) b.1 (gA b.2 (pR G a0 4) b.1)))))) N
set_option maxRecDepth 100000 in
set_option maxHeartbeats 4000000 in
theorem tX12_bringsBack_b2 {N : Nat} {G : pG} {SK : Nat → Nat} {a0 : Nat} {b : Int32 × pS} {r : pS} (hW : WT G) (i0 : Is G a0 11) (h : fX12_bringsBack_b2 N G a0 b = some r) : Ev miX12_bringsBack (1, 0, 0) G (Zp G none r) SK (0, 0) 2 [some (.ref a0), some (.int b.1)] [] b.2 := by
  unfold fX12_bringsBack_b2 at h
  refine lp_ind (P := fun b r9 => r9 = r → Ev miX12_bringsBack (1, 0, 0) G (Zp G none r) SK (0, 0) 2 [some (.ref a0), some (.int b.1)] [] b.2) (fun k2 b r9 ih h9 e9 => ?_) N b r h rfl
  clear h
  subst e9
  have h := h9
  clear h9
  have hk2 : ∀ b : Int32 × pS, k2 b = some r9 → Ev miX12_bringsBack (1, 0, 0) G (Zp G none r9) SK (0, 0) 2 [some (.ref a0), some (.int b.1)] [] b.2 := fun b hb => ih b r9 hb rfl
  clear ih
  obtain ⟨x1, σ⟩ := b
  dsimp only at h ⊢
  refine ev_iload_n dc_X12_bringsBack_2 rfl ?_
  refine ev_sipush (v := 383) dc_X12_bringsBack_3 (by decide) ?_
  refine ev_icmp_ge (tgt := 27) dc_X12_bringsBack_6 (by decide) h (fun h => ?_) (fun h => ?_)
  · cases h
    exact ev_vret dc_X12_bringsBack_27 rfl rfl rfl
  · refine ev_aload_n dc_X12_bringsBack_9 rfl ?_
    refine ev_getR dc_X12_bringsBack_10 fi_X12_13 rfl i0 ?_
    refine ev_iload_n dc_X12_bringsBack_13 rfl ?_
    refine ev_aload_n dc_X12_bringsBack_14 rfl ?_
    refine ev_getR dc_X12_bringsBack_15 fi_X12_23 rfl i0 ?_
    refine ev_iload_n dc_X12_bringsBack_18 rfl ?_
    refine ev_iald dc_X12_bringsBack_19 (wt hW i0 4 rfl rfl) h (fun h => ?_)
    refine ev_iast dc_X12_bringsBack_20 (wt hW i0 1 rfl rfl) h (fun h => ?_)
    refine ev_iinc (v := 1) (lv' := [some (.ref a0), some (.int (x1 + (1 : Int32)))]) dc_X12_bringsBack_21 rfl (by decide) rfl (by decide) rfl ?_
    refine ev_goto (tgt := 2) dc_X12_bringsBack_24 (by decide) ?_
    exact ev_sub (hk2 (x1 + (1 : Int32), sA σ (pR G a0 1) x1 (gA σ (pR G a0 4) x1)) h) (And.intro rfl (And.intro rfl trivial))
def fX12_bringsBack (N : Nat) (G : pG) (a0 : Nat) (σ : pS) : Option (pS) := fX12_bringsBack_b2 N G a0 ((0 : Int32), σ)
set_option maxRecDepth 100000 in
set_option maxHeartbeats 4000000 in
theorem tX12_bringsBack {N : Nat} {G : pG} {SK : Nat → Nat} {a0 : Nat} {σ : pS} {r : pS} (hW : WT G) (i0 : Is G a0 11) (h : fX12_bringsBack N G a0 σ = some r) : Dn miX12_bringsBack yX12_bringsBack 1 G SK [.ref a0] σ none r := by
  unfold fX12_bringsBack at h
  refine dn_of (lv := [some (.ref a0), none]) (by decide) rfl rfl (Nat.le_of_ble_eq_true rfl) rfl ?_
  refine ev_iconst (v := 0) dc_X12_bringsBack_0 (by decide) ?_
  refine ev_istore_n (lv' := [some (.ref a0), some (.int (0 : Int32))]) dc_X12_bringsBack_1 rfl (by decide) rfl ?_
  exact ev_sub (tX12_bringsBack_b2 (b := ((0 : Int32), σ)) hW i0 h) (And.intro rfl (And.intro rfl trivial))
theorem dc_X12_courtiers_0 : Dc miX12_courtiers 0 (.aload_n 0) 1 1 := ⟨by decide +kernel, rfl⟩
theorem dc_X12_courtiers_1 : Dc miX12_courtiers 1 (.getfield 13) 3 4 := ⟨by decide +kernel, rfl⟩
theorem dc_X12_courtiers_4 : Dc miX12_courtiers 4 (.iconst 1) 1 5 := ⟨by decide +kernel, rfl⟩
theorem dc_X12_courtiers_5 : Dc miX12_courtiers 5 (.iaload) 1 6 := ⟨by decide +kernel, rfl⟩
theorem dc_X12_courtiers_6 : Dc miX12_courtiers 6 (.ireturn) 1 7 := ⟨by decide +kernel, rfl⟩
def fX12_courtiers (N : Nat) (G : pG) (a0 : Nat) (σ : pS) : Option (Int32) := ck (inB (1 : Int32) (pN G (pR G a0 1))) (some (gA σ (pR G a0 1) (1 : Int32)))
set_option maxRecDepth 100000 in
set_option maxHeartbeats 4000000 in
theorem tX12_courtiers {N : Nat} {G : pG} {SK : Nat → Nat} {a0 : Nat} {σ : pS} {r : Int32} (hW : WT G) (i0 : Is G a0 11) (h : fX12_courtiers N G a0 σ = some r) : Dn miX12_courtiers yX12_courtiers 1 G SK [.ref a0] σ (some (.int r)) σ := by
  unfold fX12_courtiers at h
  refine dn_of (lv := [some (.ref a0)]) (by decide) rfl rfl (Nat.le_of_ble_eq_true rfl) rfl ?_
  refine ev_aload_n dc_X12_courtiers_0 rfl ?_
  refine ev_getR dc_X12_courtiers_1 fi_X12_13 rfl i0 ?_
  refine ev_iconst (v := 1) dc_X12_courtiers_4 (by decide) ?_
  refine ev_iald dc_X12_courtiers_5 (wt hW i0 1 rfl rfl) h (fun h => ?_)
  cases h
  exact ev_iret dc_X12_courtiers_6 rfl rfl rfl
theorem dc_X12_ofDeed_0 : Dc miX12_ofDeed 0 (.aload_n 0) 1 1 := ⟨by decide +kernel, rfl⟩
theorem dc_X12_ofDeed_1 : Dc miX12_ofDeed 1 (.getfield 13) 3 4 := ⟨by decide +kernel, rfl⟩
theorem dc_X12_ofDeed_4 : Dc miX12_ofDeed 4 (.bipush 67) 2 6 := ⟨by decide +kernel, rfl⟩
theorem dc_X12_ofDeed_6 : Dc miX12_ofDeed 6 (.iconst 2) 1 7 := ⟨by decide +kernel, rfl⟩
theorem dc_X12_ofDeed_7 : Dc miX12_ofDeed 7 (.iload_n 1) 1 8 := ⟨by decide +kernel, rfl⟩
theorem dc_X12_ofDeed_8 : Dc miX12_ofDeed 8 (.imul) 1 9 := ⟨by decide +kernel, rfl⟩
theorem dc_X12_ofDeed_9 : Dc miX12_ofDeed 9 (.iadd) 1 10 := ⟨by decide +kernel, rfl⟩
theorem dc_X12_ofDeed_10 : Dc miX12_ofDeed 10 (.iload_n 2) 1 11 := ⟨by decide +kernel, rfl⟩
theorem dc_X12_ofDeed_11 : Dc miX12_ofDeed 11 (.iadd) 1 12 := ⟨by decide +kernel, rfl⟩
theorem dc_X12_ofDeed_12 : Dc miX12_ofDeed 12 (.iaload) 1 13 := ⟨by decide +kernel, rfl⟩
theorem dc_X12_ofDeed_13 : Dc miX12_ofDeed 13 (.ireturn) 1 14 := ⟨by decide +kernel, rfl⟩
def fX12_ofDeed (N : Nat) (G : pG) (a0 : Nat) (a1 : Int32) (a2 : Int32) (σ : pS) : Option (Int32) := ck (inB (((67 : Int32) + ((2 : Int32) * a1)) + a2) (pN G (pR G a0 1))) (some (gA σ (pR G a0 1) (((67 : Int32) + ((2 : Int32) * a1)) + a2)))
set_option maxRecDepth 100000 in
set_option maxHeartbeats 4000000 in
theorem tX12_ofDeed {N : Nat} {G : pG} {SK : Nat → Nat} {a0 : Nat} {a1 : Int32} {a2 : Int32} {σ : pS} {r : Int32} (hW : WT G) (i0 : Is G a0 11) (h : fX12_ofDeed N G a0 a1 a2 σ = some r) : Dn miX12_ofDeed yX12_ofDeed 1 G SK [.ref a0, .int a1, .int a2] σ (some (.int r)) σ := by
  unfold fX12_ofDeed at h
  refine dn_of (lv := [some (.ref a0), some (.int a1), some (.int a2)]) (by decide) rfl rfl (Nat.le_of_ble_eq_true rfl) rfl ?_
  refine ev_aload_n dc_X12_ofDeed_0 rfl ?_
  refine ev_getR dc_X12_ofDeed_1 fi_X12_13 rfl i0 ?_
  refine ev_bipush (v := 67) dc_X12_ofDeed_4 (by decide) ?_
  refine ev_iconst (v := 2) dc_X12_ofDeed_6 (by decide) ?_
  refine ev_iload_n dc_X12_ofDeed_7 rfl ?_
  refine ev_imul dc_X12_ofDeed_8 ?_
  refine ev_iadd dc_X12_ofDeed_9 ?_
  refine ev_iload_n dc_X12_ofDeed_10 rfl ?_
  refine ev_iadd dc_X12_ofDeed_11 ?_
  refine ev_iald dc_X12_ofDeed_12 (wt hW i0 1 rfl rfl) h (fun h => ?_)
  cases h
  exact ev_iret dc_X12_ofDeed_13 rfl rfl rfl
theorem dc_X12_factOf_0 : Dc miX12_factOf 0 (.iload_n 1) 1 1 := ⟨by decide +kernel, rfl⟩
theorem dc_X12_factOf_1 : Dc miX12_factOf 1 (.tableswitch 104 0 7 #[47, 52, 57, 62, 67, 72, 77, 90]) 47 48 := ⟨by decide +kernel, rfl⟩
theorem dc_X12_factOf_48 : Dc miX12_factOf 48 (.aload_n 0) 1 49 := ⟨by decide +kernel, rfl⟩
theorem dc_X12_factOf_49 : Dc miX12_factOf 49 (.getfield 280) 3 52 := ⟨by decide +kernel, rfl⟩
theorem dc_X12_factOf_52 : Dc miX12_factOf 52 (.ireturn) 1 53 := ⟨by decide +kernel, rfl⟩
theorem dc_X12_factOf_53 : Dc miX12_factOf 53 (.aload_n 0) 1 54 := ⟨by decide +kernel, rfl⟩
theorem dc_X12_factOf_54 : Dc miX12_factOf 54 (.getfield 283) 3 57 := ⟨by decide +kernel, rfl⟩
theorem dc_X12_factOf_57 : Dc miX12_factOf 57 (.ireturn) 1 58 := ⟨by decide +kernel, rfl⟩
theorem dc_X12_factOf_58 : Dc miX12_factOf 58 (.aload_n 0) 1 59 := ⟨by decide +kernel, rfl⟩
theorem dc_X12_factOf_59 : Dc miX12_factOf 59 (.getfield 286) 3 62 := ⟨by decide +kernel, rfl⟩
theorem dc_X12_factOf_62 : Dc miX12_factOf 62 (.ireturn) 1 63 := ⟨by decide +kernel, rfl⟩
theorem dc_X12_factOf_63 : Dc miX12_factOf 63 (.aload_n 0) 1 64 := ⟨by decide +kernel, rfl⟩
theorem dc_X12_factOf_64 : Dc miX12_factOf 64 (.getfield 289) 3 67 := ⟨by decide +kernel, rfl⟩
theorem dc_X12_factOf_67 : Dc miX12_factOf 67 (.ireturn) 1 68 := ⟨by decide +kernel, rfl⟩
theorem dc_X12_factOf_68 : Dc miX12_factOf 68 (.aload_n 0) 1 69 := ⟨by decide +kernel, rfl⟩
theorem dc_X12_factOf_69 : Dc miX12_factOf 69 (.getfield 292) 3 72 := ⟨by decide +kernel, rfl⟩
theorem dc_X12_factOf_72 : Dc miX12_factOf 72 (.ireturn) 1 73 := ⟨by decide +kernel, rfl⟩
theorem dc_X12_factOf_73 : Dc miX12_factOf 73 (.aload_n 0) 1 74 := ⟨by decide +kernel, rfl⟩
theorem dc_X12_factOf_74 : Dc miX12_factOf 74 (.getfield 295) 3 77 := ⟨by decide +kernel, rfl⟩
theorem dc_X12_factOf_77 : Dc miX12_factOf 77 (.ireturn) 1 78 := ⟨by decide +kernel, rfl⟩
theorem dc_X12_factOf_78 : Dc miX12_factOf 78 (.aload_n 0) 1 79 := ⟨by decide +kernel, rfl⟩
theorem dc_X12_factOf_79 : Dc miX12_factOf 79 (.getfield 298) 3 82 := ⟨by decide +kernel, rfl⟩
theorem dc_X12_factOf_82 : Dc miX12_factOf 82 (.ifCond .eq 7) 3 85 := ⟨by decide +kernel, rfl⟩
theorem dc_X12_factOf_85 : Dc miX12_factOf 85 (.iconst 1) 1 86 := ⟨by decide +kernel, rfl⟩
theorem dc_X12_factOf_86 : Dc miX12_factOf 86 (.goto 4) 3 89 := ⟨by decide +kernel, rfl⟩
theorem dc_X12_factOf_89 : Dc miX12_factOf 89 (.iconst 0) 1 90 := ⟨by decide +kernel, rfl⟩
theorem dc_X12_factOf_90 : Dc miX12_factOf 90 (.ireturn) 1 91 := ⟨by decide +kernel, rfl⟩
theorem dc_X12_factOf_91 : Dc miX12_factOf 91 (.aload_n 0) 1 92 := ⟨by decide +kernel, rfl⟩
theorem dc_X12_factOf_92 : Dc miX12_factOf 92 (.getfield 292) 3 95 := ⟨by decide +kernel, rfl⟩
theorem dc_X12_factOf_95 : Dc miX12_factOf 95 (.iconst 1) 1 96 := ⟨by decide +kernel, rfl⟩
theorem dc_X12_factOf_96 : Dc miX12_factOf 96 (.if_icmp .ne 7) 3 99 := ⟨by decide +kernel, rfl⟩
theorem dc_X12_factOf_99 : Dc miX12_factOf 99 (.iconst 1) 1 100 := ⟨by decide +kernel, rfl⟩
theorem dc_X12_factOf_100 : Dc miX12_factOf 100 (.goto 4) 3 103 := ⟨by decide +kernel, rfl⟩
theorem dc_X12_factOf_103 : Dc miX12_factOf 103 (.iconst 0) 1 104 := ⟨by decide +kernel, rfl⟩
theorem dc_X12_factOf_104 : Dc miX12_factOf 104 (.ireturn) 1 105 := ⟨by decide +kernel, rfl⟩
theorem dc_X12_factOf_105 : Dc miX12_factOf 105 (.iload_n 2) 1 106 := ⟨by decide +kernel, rfl⟩
theorem dc_X12_factOf_106 : Dc miX12_factOf 106 (.ireturn) 1 107 := ⟨by decide +kernel, rfl⟩
def fX12_factOf (N : Nat) (G : pG) (a0 : Nat) (a1 : Int32) (a2 : Int32) (σ : pS) : Option (Int32) := if a1 = 0 then (some (σ.1 a0 18)) else (if a1 = 1 then (some (σ.1 a0 19)) else (if a1 = 2 then (some (σ.1 a0 21)) else (if a1 = 3 then (some (σ.1 a0 22)) else (if a1 = 4 then (some (σ.1 a0 23)) else (if a1 = 5 then (some (σ.1 a0 20)) else (if a1 = 6 then (if (σ.1 a0 24) = 0 then (some (0 : Int32)) else (some (1 : Int32))) else (if a1 = 7 then (if (σ.1 a0 23) = (1 : Int32) then (some (1 : Int32)) else (some (0 : Int32))) else (some a2))))))))
set_option maxRecDepth 100000 in
set_option maxHeartbeats 4000000 in
theorem tX12_factOf {N : Nat} {G : pG} {SK : Nat → Nat} {a0 : Nat} {a1 : Int32} {a2 : Int32} {σ : pS} {r : Int32} (hW : WT G) (i0 : Is G a0 11) (h : fX12_factOf N G a0 a1 a2 σ = some r) : Dn miX12_factOf yX12_factOf 1 G SK [.ref a0, .int a1, .int a2] σ (some (.int r)) σ := by
  unfold fX12_factOf at h
  refine dn_of (lv := [some (.ref a0), some (.int a1), some (.int a2)]) (by decide) rfl rfl (Nat.le_of_ble_eq_true rfl) rfl ?_
  refine ev_iload_n dc_X12_factOf_0 rfl ?_
  by_cases z0 : a1 = 0
  · rw [if_pos z0] at h
    refine ev_tabIn (tgt := 48) 0 z0 dc_X12_factOf_1 (by decide) (by decide) rfl (by decide) ?_
    refine ev_aload_n dc_X12_factOf_48 rfl ?_
    refine ev_getI dc_X12_factOf_49 fi_X12_280 rfl i0 ?_
    cases h
    exact ev_iret dc_X12_factOf_52 rfl rfl rfl
  rw [if_neg z0] at h
  by_cases z1 : a1 = 1
  · rw [if_pos z1] at h
    refine ev_tabIn (tgt := 53) 1 z1 dc_X12_factOf_1 (by decide) (by decide) rfl (by decide) ?_
    refine ev_aload_n dc_X12_factOf_53 rfl ?_
    refine ev_getI dc_X12_factOf_54 fi_X12_283 rfl i0 ?_
    cases h
    exact ev_iret dc_X12_factOf_57 rfl rfl rfl
  rw [if_neg z1] at h
  by_cases z2 : a1 = 2
  · rw [if_pos z2] at h
    refine ev_tabIn (tgt := 58) 2 z2 dc_X12_factOf_1 (by decide) (by decide) rfl (by decide) ?_
    refine ev_aload_n dc_X12_factOf_58 rfl ?_
    refine ev_getI dc_X12_factOf_59 fi_X12_286 rfl i0 ?_
    cases h
    exact ev_iret dc_X12_factOf_62 rfl rfl rfl
  rw [if_neg z2] at h
  by_cases z3 : a1 = 3
  · rw [if_pos z3] at h
    refine ev_tabIn (tgt := 63) 3 z3 dc_X12_factOf_1 (by decide) (by decide) rfl (by decide) ?_
    refine ev_aload_n dc_X12_factOf_63 rfl ?_
    refine ev_getI dc_X12_factOf_64 fi_X12_289 rfl i0 ?_
    cases h
    exact ev_iret dc_X12_factOf_67 rfl rfl rfl
  rw [if_neg z3] at h
  by_cases z4 : a1 = 4
  · rw [if_pos z4] at h
    refine ev_tabIn (tgt := 68) 4 z4 dc_X12_factOf_1 (by decide) (by decide) rfl (by decide) ?_
    refine ev_aload_n dc_X12_factOf_68 rfl ?_
    refine ev_getI dc_X12_factOf_69 fi_X12_292 rfl i0 ?_
    cases h
    exact ev_iret dc_X12_factOf_72 rfl rfl rfl
  rw [if_neg z4] at h
  by_cases z5 : a1 = 5
  · rw [if_pos z5] at h
    refine ev_tabIn (tgt := 73) 5 z5 dc_X12_factOf_1 (by decide) (by decide) rfl (by decide) ?_
    refine ev_aload_n dc_X12_factOf_73 rfl ?_
    refine ev_getI dc_X12_factOf_74 fi_X12_295 rfl i0 ?_
    cases h
    exact ev_iret dc_X12_factOf_77 rfl rfl rfl
  rw [if_neg z5] at h
  by_cases z6 : a1 = 6
  · rw [if_pos z6] at h
    refine ev_tabIn (tgt := 78) 6 z6 dc_X12_factOf_1 (by decide) (by decide) rfl (by decide) ?_
    refine ev_aload_n dc_X12_factOf_78 rfl ?_
    refine ev_getI dc_X12_factOf_79 fi_X12_298 rfl i0 ?_
    refine ev_if_eq (tgt := 89) dc_X12_factOf_82 (by decide) h (fun h => ?_) (fun h => ?_)
    · refine ev_iconst (v := 0) dc_X12_factOf_89 (by decide) ?_
      cases h
      exact ev_iret dc_X12_factOf_90 rfl rfl rfl
    · refine ev_iconst (v := 1) dc_X12_factOf_85 (by decide) ?_
      refine ev_goto (tgt := 90) dc_X12_factOf_86 (by decide) ?_
      cases h
      exact ev_iret dc_X12_factOf_90 rfl rfl rfl
  rw [if_neg z6] at h
  by_cases z7 : a1 = 7
  · rw [if_pos z7] at h
    refine ev_tabIn (tgt := 91) 7 z7 dc_X12_factOf_1 (by decide) (by decide) rfl (by decide) ?_
    refine ev_aload_n dc_X12_factOf_91 rfl ?_
    refine ev_getI dc_X12_factOf_92 fi_X12_292 rfl i0 ?_
    refine ev_iconst (v := 1) dc_X12_factOf_95 (by decide) ?_
    refine ev_icmp_ne (tgt := 103) dc_X12_factOf_96 (by decide) h (fun h => ?_) (fun h => ?_)
    · refine ev_iconst (v := 1) dc_X12_factOf_99 (by decide) ?_
      refine ev_goto (tgt := 104) dc_X12_factOf_100 (by decide) ?_
      cases h
      exact ev_iret dc_X12_factOf_104 rfl rfl rfl
    · refine ev_iconst (v := 0) dc_X12_factOf_103 (by decide) ?_
      cases h
      exact ev_iret dc_X12_factOf_104 rfl rfl rfl
  rw [if_neg z7] at h
  refine ev_tabOut (tgt := 105) dc_X12_factOf_1 ?_ (by decide) ?_
  · exact sw_out (lo := 0) (vs := [0, 1, 2, 3, 4, 5, 6, 7]) (by decide) (by decide) (And.intro z0 (And.intro z1 (And.intro z2 (And.intro z3 (And.intro z4 (And.intro z5 (And.intro z6 (And.intro z7 trivial))))))))
  refine ev_iload_n dc_X12_factOf_105 rfl ?_
  cases h
  exact ev_iret dc_X12_factOf_106 rfl rfl rfl
theorem dc_X12_holdsLine_0 : Dc miX12_holdsLine 0 (.iconst 0) 1 1 := ⟨by decide +kernel, rfl⟩
theorem dc_X12_holdsLine_1 : Dc miX12_holdsLine 1 (.istore_n 2) 1 2 := ⟨by decide +kernel, rfl⟩
theorem dc_X12_holdsLine_2 : Dc miX12_holdsLine 2 (.sipush 384) 3 5 := ⟨by decide +kernel, rfl⟩
theorem dc_X12_holdsLine_5 : Dc miX12_holdsLine 5 (.iconst 4) 1 6 := ⟨by decide +kernel, rfl⟩
theorem dc_X12_holdsLine_6 : Dc miX12_holdsLine 6 (.iload_n 1) 1 7 := ⟨by decide +kernel, rfl⟩
theorem dc_X12_holdsLine_7 : Dc miX12_holdsLine 7 (.imul) 1 8 := ⟨by decide +kernel, rfl⟩
theorem dc_X12_holdsLine_8 : Dc miX12_holdsLine 8 (.iadd) 1 9 := ⟨by decide +kernel, rfl⟩
theorem dc_X12_holdsLine_9 : Dc miX12_holdsLine 9 (.istore_n 3) 1 10 := ⟨by decide +kernel, rfl⟩
theorem dc_X12_holdsLine_10 : Dc miX12_holdsLine 10 (.aload_n 0) 1 11 := ⟨by decide +kernel, rfl⟩
theorem dc_X12_holdsLine_11 : Dc miX12_holdsLine 11 (.getfield 13) 3 14 := ⟨by decide +kernel, rfl⟩
theorem dc_X12_holdsLine_14 : Dc miX12_holdsLine 14 (.iload_n 3) 1 15 := ⟨by decide +kernel, rfl⟩
theorem dc_X12_holdsLine_15 : Dc miX12_holdsLine 15 (.iconst 2) 1 16 := ⟨by decide +kernel, rfl⟩
theorem dc_X12_holdsLine_16 : Dc miX12_holdsLine 16 (.iadd) 1 17 := ⟨by decide +kernel, rfl⟩
theorem dc_X12_holdsLine_17 : Dc miX12_holdsLine 17 (.iaload) 1 18 := ⟨by decide +kernel, rfl⟩
theorem dc_X12_holdsLine_18 : Dc miX12_holdsLine 18 (.istore 4) 2 20 := ⟨by decide +kernel, rfl⟩
theorem dc_X12_holdsLine_20 : Dc miX12_holdsLine 20 (.iload 4) 2 22 := ⟨by decide +kernel, rfl⟩
theorem dc_X12_holdsLine_22 : Dc miX12_holdsLine 22 (.aload_n 0) 1 23 := ⟨by decide +kernel, rfl⟩
theorem dc_X12_holdsLine_23 : Dc miX12_holdsLine 23 (.getfield 13) 3 26 := ⟨by decide +kernel, rfl⟩
theorem dc_X12_holdsLine_26 : Dc miX12_holdsLine 26 (.iload_n 3) 1 27 := ⟨by decide +kernel, rfl⟩
theorem dc_X12_holdsLine_27 : Dc miX12_holdsLine 27 (.iconst 3) 1 28 := ⟨by decide +kernel, rfl⟩
theorem dc_X12_holdsLine_28 : Dc miX12_holdsLine 28 (.iadd) 1 29 := ⟨by decide +kernel, rfl⟩
theorem dc_X12_holdsLine_29 : Dc miX12_holdsLine 29 (.iaload) 1 30 := ⟨by decide +kernel, rfl⟩
theorem dc_X12_holdsLine_30 : Dc miX12_holdsLine 30 (.if_icmp .ge 229) 3 33 := ⟨by decide +kernel, rfl⟩
theorem dc_X12_holdsLine_33 : Dc miX12_holdsLine 33 (.aload_n 0) 1 34 := ⟨by decide +kernel, rfl⟩
theorem dc_X12_holdsLine_34 : Dc miX12_holdsLine 34 (.getfield 13) 3 37 := ⟨by decide +kernel, rfl⟩
theorem dc_X12_holdsLine_37 : Dc miX12_holdsLine 37 (.sipush 432) 3 40 := ⟨by decide +kernel, rfl⟩
theorem dc_X12_holdsLine_40 : Dc miX12_holdsLine 40 (.iconst 2) 1 41 := ⟨by decide +kernel, rfl⟩
theorem dc_X12_holdsLine_41 : Dc miX12_holdsLine 41 (.iload 4) 2 43 := ⟨by decide +kernel, rfl⟩
theorem dc_X12_holdsLine_43 : Dc miX12_holdsLine 43 (.imul) 1 44 := ⟨by decide +kernel, rfl⟩
theorem dc_X12_holdsLine_44 : Dc miX12_holdsLine 44 (.iadd) 1 45 := ⟨by decide +kernel, rfl⟩
theorem dc_X12_holdsLine_45 : Dc miX12_holdsLine 45 (.iaload) 1 46 := ⟨by decide +kernel, rfl⟩
theorem dc_X12_holdsLine_46 : Dc miX12_holdsLine 46 (.istore 5) 2 48 := ⟨by decide +kernel, rfl⟩
theorem dc_X12_holdsLine_48 : Dc miX12_holdsLine 48 (.iload 5) 2 50 := ⟨by decide +kernel, rfl⟩
theorem dc_X12_holdsLine_50 : Dc miX12_holdsLine 50 (.bipush 8) 2 52 := ⟨by decide +kernel, rfl⟩
theorem dc_X12_holdsLine_52 : Dc miX12_holdsLine 52 (.if_icmp .gt 36) 3 55 := ⟨by decide +kernel, rfl⟩
theorem dc_X12_holdsLine_55 : Dc miX12_holdsLine 55 (.aload_n 0) 1 56 := ⟨by decide +kernel, rfl⟩
theorem dc_X12_holdsLine_56 : Dc miX12_holdsLine 56 (.getfield 39) 3 59 := ⟨by decide +kernel, rfl⟩
theorem dc_X12_holdsLine_59 : Dc miX12_holdsLine 59 (.iload_n 2) 1 60 := ⟨by decide +kernel, rfl⟩
theorem dc_X12_holdsLine_60 : Dc miX12_holdsLine 60 (.aload_n 0) 1 61 := ⟨by decide +kernel, rfl⟩
theorem dc_X12_holdsLine_61 : Dc miX12_holdsLine 61 (.iload 5) 2 63 := ⟨by decide +kernel, rfl⟩
theorem dc_X12_holdsLine_63 : Dc miX12_holdsLine 63 (.aload_n 0) 1 64 := ⟨by decide +kernel, rfl⟩
theorem dc_X12_holdsLine_64 : Dc miX12_holdsLine 64 (.getfield 13) 3 67 := ⟨by decide +kernel, rfl⟩
theorem dc_X12_holdsLine_67 : Dc miX12_holdsLine 67 (.sipush 432) 3 70 := ⟨by decide +kernel, rfl⟩
theorem dc_X12_holdsLine_70 : Dc miX12_holdsLine 70 (.iconst 2) 1 71 := ⟨by decide +kernel, rfl⟩
theorem dc_X12_holdsLine_71 : Dc miX12_holdsLine 71 (.iload 4) 2 73 := ⟨by decide +kernel, rfl⟩
theorem dc_X12_holdsLine_73 : Dc miX12_holdsLine 73 (.imul) 1 74 := ⟨by decide +kernel, rfl⟩
theorem dc_X12_holdsLine_74 : Dc miX12_holdsLine 74 (.iadd) 1 75 := ⟨by decide +kernel, rfl⟩
theorem dc_X12_holdsLine_75 : Dc miX12_holdsLine 75 (.iconst 1) 1 76 := ⟨by decide +kernel, rfl⟩
theorem dc_X12_holdsLine_76 : Dc miX12_holdsLine 76 (.iadd) 1 77 := ⟨by decide +kernel, rfl⟩
theorem dc_X12_holdsLine_77 : Dc miX12_holdsLine 77 (.iaload) 1 78 := ⟨by decide +kernel, rfl⟩
theorem dc_X12_holdsLine_78 : Dc miX12_holdsLine 78 (.invokevirtual 301) 3 81 := ⟨by decide +kernel, rfl⟩
theorem dc_X12_holdsLine_81 : Dc miX12_holdsLine 81 (.iastore) 1 82 := ⟨by decide +kernel, rfl⟩
theorem dc_X12_holdsLine_82 : Dc miX12_holdsLine 82 (.iinc 2 1) 3 85 := ⟨by decide +kernel, rfl⟩
theorem dc_X12_holdsLine_85 : Dc miX12_holdsLine 85 (.goto 168) 3 88 := ⟨by decide +kernel, rfl⟩
theorem dc_X12_holdsLine_88 : Dc miX12_holdsLine 88 (.iload 5) 2 90 := ⟨by decide +kernel, rfl⟩
theorem dc_X12_holdsLine_90 : Dc miX12_holdsLine 90 (.bipush 12) 2 92 := ⟨by decide +kernel, rfl⟩
theorem dc_X12_holdsLine_92 : Dc miX12_holdsLine 92 (.if_icmp .ne 24) 3 95 := ⟨by decide +kernel, rfl⟩
theorem dc_X12_holdsLine_95 : Dc miX12_holdsLine 95 (.aload_n 0) 1 96 := ⟨by decide +kernel, rfl⟩
theorem dc_X12_holdsLine_96 : Dc miX12_holdsLine 96 (.getfield 39) 3 99 := ⟨by decide +kernel, rfl⟩
theorem dc_X12_holdsLine_99 : Dc miX12_holdsLine 99 (.iload_n 2) 1 100 := ⟨by decide +kernel, rfl⟩
theorem dc_X12_holdsLine_100 : Dc miX12_holdsLine 100 (.iconst 1) 1 101 := ⟨by decide +kernel, rfl⟩
theorem dc_X12_holdsLine_101 : Dc miX12_holdsLine 101 (.isub) 1 102 := ⟨by decide +kernel, rfl⟩
theorem dc_X12_holdsLine_102 : Dc miX12_holdsLine 102 (.iconst 1) 1 103 := ⟨by decide +kernel, rfl⟩
theorem dc_X12_holdsLine_103 : Dc miX12_holdsLine 103 (.aload_n 0) 1 104 := ⟨by decide +kernel, rfl⟩
theorem dc_X12_holdsLine_104 : Dc miX12_holdsLine 104 (.getfield 39) 3 107 := ⟨by decide +kernel, rfl⟩
theorem dc_X12_holdsLine_107 : Dc miX12_holdsLine 107 (.iload_n 2) 1 108 := ⟨by decide +kernel, rfl⟩
theorem dc_X12_holdsLine_108 : Dc miX12_holdsLine 108 (.iconst 1) 1 109 := ⟨by decide +kernel, rfl⟩
theorem dc_X12_holdsLine_109 : Dc miX12_holdsLine 109 (.isub) 1 110 := ⟨by decide +kernel, rfl⟩
theorem dc_X12_holdsLine_110 : Dc miX12_holdsLine 110 (.iaload) 1 111 := ⟨by decide +kernel, rfl⟩
theorem dc_X12_holdsLine_111 : Dc miX12_holdsLine 111 (.isub) 1 112 := ⟨by decide +kernel, rfl⟩
theorem dc_X12_holdsLine_112 : Dc miX12_holdsLine 112 (.iastore) 1 113 := ⟨by decide +kernel, rfl⟩
theorem dc_X12_holdsLine_113 : Dc miX12_holdsLine 113 (.goto 140) 3 116 := ⟨by decide +kernel, rfl⟩
theorem dc_X12_holdsLine_116 : Dc miX12_holdsLine 116 (.iinc 2 (-1)) 3 119 := ⟨by decide +kernel, rfl⟩
theorem dc_X12_holdsLine_119 : Dc miX12_holdsLine 119 (.aload_n 0) 1 120 := ⟨by decide +kernel, rfl⟩
theorem dc_X12_holdsLine_120 : Dc miX12_holdsLine 120 (.getfield 39) 3 123 := ⟨by decide +kernel, rfl⟩
theorem dc_X12_holdsLine_123 : Dc miX12_holdsLine 123 (.iload_n 2) 1 124 := ⟨by decide +kernel, rfl⟩
theorem dc_X12_holdsLine_124 : Dc miX12_holdsLine 124 (.iconst 1) 1 125 := ⟨by decide +kernel, rfl⟩
theorem dc_X12_holdsLine_125 : Dc miX12_holdsLine 125 (.isub) 1 126 := ⟨by decide +kernel, rfl⟩
theorem dc_X12_holdsLine_126 : Dc miX12_holdsLine 126 (.iaload) 1 127 := ⟨by decide +kernel, rfl⟩
theorem dc_X12_holdsLine_127 : Dc miX12_holdsLine 127 (.istore 6) 2 129 := ⟨by decide +kernel, rfl⟩
theorem dc_X12_holdsLine_129 : Dc miX12_holdsLine 129 (.aload_n 0) 1 130 := ⟨by decide +kernel, rfl⟩
theorem dc_X12_holdsLine_130 : Dc miX12_holdsLine 130 (.getfield 39) 3 133 := ⟨by decide +kernel, rfl⟩
theorem dc_X12_holdsLine_133 : Dc miX12_holdsLine 133 (.iload_n 2) 1 134 := ⟨by decide +kernel, rfl⟩
theorem dc_X12_holdsLine_134 : Dc miX12_holdsLine 134 (.iaload) 1 135 := ⟨by decide +kernel, rfl⟩
theorem dc_X12_holdsLine_135 : Dc miX12_holdsLine 135 (.istore 7) 2 137 := ⟨by decide +kernel, rfl⟩
theorem dc_X12_holdsLine_137 : Dc miX12_holdsLine 137 (.iload 5) 2 139 := ⟨by decide +kernel, rfl⟩
theorem dc_X12_holdsLine_139 : Dc miX12_holdsLine 139 (.bipush 10) 2 141 := ⟨by decide +kernel, rfl⟩
theorem dc_X12_holdsLine_141 : Dc miX12_holdsLine 141 (.if_icmp .ne 18) 3 144 := ⟨by decide +kernel, rfl⟩
theorem dc_X12_holdsLine_144 : Dc miX12_holdsLine 144 (.iload 6) 2 146 := ⟨by decide +kernel, rfl⟩
theorem dc_X12_holdsLine_146 : Dc miX12_holdsLine 146 (.iload 7) 2 148 := ⟨by decide +kernel, rfl⟩
theorem dc_X12_holdsLine_148 : Dc miX12_holdsLine 148 (.if_icmp .ge 7) 3 151 := ⟨by decide +kernel, rfl⟩
theorem dc_X12_holdsLine_151 : Dc miX12_holdsLine 151 (.iconst 1) 1 152 := ⟨by decide +kernel, rfl⟩
theorem dc_X12_holdsLine_152 : Dc miX12_holdsLine 152 (.goto 66) 3 155 := ⟨by decide +kernel, rfl⟩
theorem dc_X12_holdsLine_155 : Dc miX12_holdsLine 155 (.iconst 0) 1 156 := ⟨by decide +kernel, rfl⟩
theorem dc_X12_holdsLine_156 : Dc miX12_holdsLine 156 (.goto 62) 3 159 := ⟨by decide +kernel, rfl⟩
theorem dc_X12_holdsLine_159 : Dc miX12_holdsLine 159 (.iload 5) 2 161 := ⟨by decide +kernel, rfl⟩
theorem dc_X12_holdsLine_161 : Dc miX12_holdsLine 161 (.bipush 11) 2 163 := ⟨by decide +kernel, rfl⟩
theorem dc_X12_holdsLine_163 : Dc miX12_holdsLine 163 (.if_icmp .ne 18) 3 166 := ⟨by decide +kernel, rfl⟩
theorem dc_X12_holdsLine_166 : Dc miX12_holdsLine 166 (.iload 6) 2 168 := ⟨by decide +kernel, rfl⟩
theorem dc_X12_holdsLine_168 : Dc miX12_holdsLine 168 (.iload 7) 2 170 := ⟨by decide +kernel, rfl⟩
theorem dc_X12_holdsLine_170 : Dc miX12_holdsLine 170 (.if_icmp .le 7) 3 173 := ⟨by decide +kernel, rfl⟩
theorem dc_X12_holdsLine_173 : Dc miX12_holdsLine 173 (.iconst 1) 1 174 := ⟨by decide +kernel, rfl⟩
theorem dc_X12_holdsLine_174 : Dc miX12_holdsLine 174 (.goto 44) 3 177 := ⟨by decide +kernel, rfl⟩
theorem dc_X12_holdsLine_177 : Dc miX12_holdsLine 177 (.iconst 0) 1 178 := ⟨by decide +kernel, rfl⟩
theorem dc_X12_holdsLine_178 : Dc miX12_holdsLine 178 (.goto 40) 3 181 := ⟨by decide +kernel, rfl⟩
theorem dc_X12_holdsLine_181 : Dc miX12_holdsLine 181 (.iload 5) 2 183 := ⟨by decide +kernel, rfl⟩
theorem dc_X12_holdsLine_183 : Dc miX12_holdsLine 183 (.bipush 13) 2 185 := ⟨by decide +kernel, rfl⟩
theorem dc_X12_holdsLine_185 : Dc miX12_holdsLine 185 (.if_icmp .ne 20) 3 188 := ⟨by decide +kernel, rfl⟩
theorem dc_X12_holdsLine_188 : Dc miX12_holdsLine 188 (.iload 6) 2 190 := ⟨by decide +kernel, rfl⟩
theorem dc_X12_holdsLine_190 : Dc miX12_holdsLine 190 (.iload 7) 2 192 := ⟨by decide +kernel, rfl⟩
theorem dc_X12_holdsLine_192 : Dc miX12_holdsLine 192 (.iadd) 1 193 := ⟨by decide +kernel, rfl⟩
theorem dc_X12_holdsLine_193 : Dc miX12_holdsLine 193 (.iconst 2) 1 194 := ⟨by decide +kernel, rfl⟩
theorem dc_X12_holdsLine_194 : Dc miX12_holdsLine 194 (.if_icmp .ne 7) 3 197 := ⟨by decide +kernel, rfl⟩
theorem dc_X12_holdsLine_197 : Dc miX12_holdsLine 197 (.iconst 1) 1 198 := ⟨by decide +kernel, rfl⟩
theorem dc_X12_holdsLine_198 : Dc miX12_holdsLine 198 (.goto 20) 3 201 := ⟨by decide +kernel, rfl⟩
theorem dc_X12_holdsLine_201 : Dc miX12_holdsLine 201 (.iconst 0) 1 202 := ⟨by decide +kernel, rfl⟩
theorem dc_X12_holdsLine_202 : Dc miX12_holdsLine 202 (.goto 16) 3 205 := ⟨by decide +kernel, rfl⟩
theorem dc_X12_holdsLine_205 : Dc miX12_holdsLine 205 (.iload 6) 2 207 := ⟨by decide +kernel, rfl⟩
theorem dc_X12_holdsLine_207 : Dc miX12_holdsLine 207 (.iload 7) 2 209 := ⟨by decide +kernel, rfl⟩
theorem dc_X12_holdsLine_209 : Dc miX12_holdsLine 209 (.iadd) 1 210 := ⟨by decide +kernel, rfl⟩
theorem dc_X12_holdsLine_210 : Dc miX12_holdsLine 210 (.ifCond .le 7) 3 213 := ⟨by decide +kernel, rfl⟩
theorem dc_X12_holdsLine_213 : Dc miX12_holdsLine 213 (.iconst 1) 1 214 := ⟨by decide +kernel, rfl⟩
theorem dc_X12_holdsLine_214 : Dc miX12_holdsLine 214 (.goto 4) 3 217 := ⟨by decide +kernel, rfl⟩
theorem dc_X12_holdsLine_217 : Dc miX12_holdsLine 217 (.iconst 0) 1 218 := ⟨by decide +kernel, rfl⟩
theorem dc_X12_holdsLine_218 : Dc miX12_holdsLine 218 (.istore 8) 2 220 := ⟨by decide +kernel, rfl⟩
theorem dc_X12_holdsLine_220 : Dc miX12_holdsLine 220 (.aload_n 0) 1 221 := ⟨by decide +kernel, rfl⟩
theorem dc_X12_holdsLine_221 : Dc miX12_holdsLine 221 (.getfield 39) 3 224 := ⟨by decide +kernel, rfl⟩
theorem dc_X12_holdsLine_224 : Dc miX12_holdsLine 224 (.iload_n 2) 1 225 := ⟨by decide +kernel, rfl⟩
theorem dc_X12_holdsLine_225 : Dc miX12_holdsLine 225 (.iconst 1) 1 226 := ⟨by decide +kernel, rfl⟩
theorem dc_X12_holdsLine_226 : Dc miX12_holdsLine 226 (.isub) 1 227 := ⟨by decide +kernel, rfl⟩
theorem dc_X12_holdsLine_227 : Dc miX12_holdsLine 227 (.iload 5) 2 229 := ⟨by decide +kernel, rfl⟩
theorem dc_X12_holdsLine_229 : Dc miX12_holdsLine 229 (.bipush 9) 2 231 := ⟨by decide +kernel, rfl⟩
theorem dc_X12_holdsLine_231 : Dc miX12_holdsLine 231 (.if_icmp .ne 11) 3 234 := ⟨by decide +kernel, rfl⟩
theorem dc_X12_holdsLine_234 : Dc miX12_holdsLine 234 (.iload 6) 2 236 := ⟨by decide +kernel, rfl⟩
theorem dc_X12_holdsLine_236 : Dc miX12_holdsLine 236 (.iload 7) 2 238 := ⟨by decide +kernel, rfl⟩
theorem dc_X12_holdsLine_238 : Dc miX12_holdsLine 238 (.iadd) 1 239 := ⟨by decide +kernel, rfl⟩
theorem dc_X12_holdsLine_239 : Dc miX12_holdsLine 239 (.goto 13) 3 242 := ⟨by decide +kernel, rfl⟩
theorem dc_X12_holdsLine_242 : Dc miX12_holdsLine 242 (.iload 8) 2 244 := ⟨by decide +kernel, rfl⟩
theorem dc_X12_holdsLine_244 : Dc miX12_holdsLine 244 (.ifCond .eq 7) 3 247 := ⟨by decide +kernel, rfl⟩
theorem dc_X12_holdsLine_247 : Dc miX12_holdsLine 247 (.iconst 1) 1 248 := ⟨by decide +kernel, rfl⟩
theorem dc_X12_holdsLine_248 : Dc miX12_holdsLine 248 (.goto 4) 3 251 := ⟨by decide +kernel, rfl⟩
theorem dc_X12_holdsLine_251 : Dc miX12_holdsLine 251 (.iconst 0) 1 252 := ⟨by decide +kernel, rfl⟩
theorem dc_X12_holdsLine_252 : Dc miX12_holdsLine 252 (.iastore) 1 253 := ⟨by decide +kernel, rfl⟩
theorem dc_X12_holdsLine_253 : Dc miX12_holdsLine 253 (.iinc 4 1) 3 256 := ⟨by decide +kernel, rfl⟩
theorem dc_X12_holdsLine_256 : Dc miX12_holdsLine 256 (.goto (-236)) 3 259 := ⟨by decide +kernel, rfl⟩
theorem dc_X12_holdsLine_259 : Dc miX12_holdsLine 259 (.iload_n 2) 1 260 := ⟨by decide +kernel, rfl⟩
theorem dc_X12_holdsLine_260 : Dc miX12_holdsLine 260 (.ifCond .eq 13) 3 263 := ⟨by decide +kernel, rfl⟩
theorem dc_X12_holdsLine_263 : Dc miX12_holdsLine 263 (.aload_n 0) 1 264 := ⟨by decide +kernel, rfl⟩
theorem dc_X12_holdsLine_264 : Dc miX12_holdsLine 264 (.getfield 39) 3 267 := ⟨by decide +kernel, rfl⟩
theorem dc_X12_holdsLine_267 : Dc miX12_holdsLine 267 (.iconst 0) 1 268 := ⟨by decide +kernel, rfl⟩
theorem dc_X12_holdsLine_268 : Dc miX12_holdsLine 268 (.iaload) 1 269 := ⟨by decide +kernel, rfl⟩
theorem dc_X12_holdsLine_269 : Dc miX12_holdsLine 269 (.iconst 1) 1 270 := ⟨by decide +kernel, rfl⟩
theorem dc_X12_holdsLine_270 : Dc miX12_holdsLine 270 (.if_icmp .ne 7) 3 273 := ⟨by decide +kernel, rfl⟩
theorem dc_X12_holdsLine_273 : Dc miX12_holdsLine 273 (.iconst 1) 1 274 := ⟨by decide +kernel, rfl⟩
theorem dc_X12_holdsLine_274 : Dc miX12_holdsLine 274 (.goto 4) 3 277 := ⟨by decide +kernel, rfl⟩
theorem dc_X12_holdsLine_277 : Dc miX12_holdsLine 277 (.iconst 0) 1 278 := ⟨by decide +kernel, rfl⟩
theorem dc_X12_holdsLine_278 : Dc miX12_holdsLine 278 (.ireturn) 1 279 := ⟨by decide +kernel, rfl⟩
def fX12_holdsLine_b252 (N : Nat) (G : pG) (k20 : Int32 × Int32 × pS → Option (Int32 × pS)) (a0 : Nat) (x2 : Int32) (x3 : Int32) (x4 : Int32) (y0 : Nat) (y1 : Int32) (y2 : Int32) (σ : pS) : Option (Int32 × pS) := ck (inB y1 (pN G y0)) (k20 (x2, x4 + (1 : Int32), sA σ y0 y1 y2))
set_option maxRecDepth 100000 in
set_option maxHeartbeats 4000000 in
theorem tX12_holdsLine_b252 {N : Nat} {G : pG} {SK : Nat → Nat} {k20 : Int32 × Int32 × pS → Option (Int32 × pS)} {a0 : Nat} {x2 : Int32} {x3 : Int32} {x4 : Int32} {y0 : Nat} {y1 : Int32} {y2 : Int32} {σ : pS} {r : Int32 × pS} (hW : WT G) (i0 : Is G a0 11) (w0 : Is G y0 13) (hk20 : ∀ b : Int32 × Int32 × pS, k20 b = some r → Ev miX12_holdsLine (2, 0, 0) G (Zp G (some (.int r.1)) r.2) SK (0, 0) 20 [some (.ref a0), none, some (.int b.1), some (.int x3), some (.int b.2.1), none, none, none, none] [] b.2.2) (h : fX12_holdsLine_b252 N G k20 a0 x2 x3 x4 y0 y1 y2 σ = some r) : Ev miX12_holdsLine (2, 0, 0) G (Zp G (some (.int r.1)) r.2) SK (0, 0) 252 [some (.ref a0), none, some (.int x2), some (.int x3), some (.int x4), none, none, none, none] [.int y2, .int y1, .ref y0] σ := by
  unfold fX12_holdsLine_b252 at h
  refine ev_iast dc_X12_holdsLine_252 w0 h (fun h => ?_)
  refine ev_iinc (v := 1) (lv' := [some (.ref a0), none, some (.int x2), some (.int x3), some (.int (x4 + (1 : Int32))), none, none, none, none]) dc_X12_holdsLine_253 rfl (by decide) rfl (by decide) rfl ?_
  refine ev_goto (tgt := 20) dc_X12_holdsLine_256 (by decide) ?_
  exact ev_sub (hk20 (x2, x4 + (1 : Int32), sA σ y0 y1 y2) h) (And.intro rfl (And.intro rfl (And.intro rfl (And.intro rfl trivial))))
def fX12_holdsLine_b218 (N : Nat) (G : pG) (k20 : Int32 × Int32 × pS → Option (Int32 × pS)) (a0 : Nat) (x2 : Int32) (x3 : Int32) (x4 : Int32) (x5 : Int32) (x6 : Int32) (x7 : Int32) (y0 : Int32) (σ : pS) : Option (Int32 × pS) := if x5 = (9 : Int32) then (fX12_holdsLine_b252 N G k20 a0 x2 x3 x4 (pR G a0 17) (x2 - (1 : Int32)) (x6 + x7) σ) else (if y0 = 0 then (fX12_holdsLine_b252 N G k20 a0 x2 x3 x4 (pR G a0 17) (x2 - (1 : Int32)) (0 : Int32) σ) else (fX12_holdsLine_b252 N G k20 a0 x2 x3 x4 (pR G a0 17) (x2 - (1 : Int32)) (1 : Int32) σ))
set_option maxRecDepth 100000 in
set_option maxHeartbeats 4000000 in
theorem tX12_holdsLine_b218 {N : Nat} {G : pG} {SK : Nat → Nat} {k20 : Int32 × Int32 × pS → Option (Int32 × pS)} {a0 : Nat} {x2 : Int32} {x3 : Int32} {x4 : Int32} {x5 : Int32} {x6 : Int32} {x7 : Int32} {y0 : Int32} {σ : pS} {r : Int32 × pS} (hW : WT G) (i0 : Is G a0 11) (hk20 : ∀ b : Int32 × Int32 × pS, k20 b = some r → Ev miX12_holdsLine (2, 0, 0) G (Zp G (some (.int r.1)) r.2) SK (0, 0) 20 [some (.ref a0), none, some (.int b.1), some (.int x3), some (.int b.2.1), none, none, none, none] [] b.2.2) (h : fX12_holdsLine_b218 N G k20 a0 x2 x3 x4 x5 x6 x7 y0 σ = some r) : Ev miX12_holdsLine (2, 0, 0) G (Zp G (some (.int r.1)) r.2) SK (0, 0) 218 [some (.ref a0), none, some (.int x2), some (.int x3), some (.int x4), some (.int x5), some (.int x6), some (.int x7), none] [.int y0] σ := by
  unfold fX12_holdsLine_b218 at h
  refine ev_istore (lv' := [some (.ref a0), none, some (.int x2), some (.int x3), some (.int x4), some (.int x5), some (.int x6), some (.int x7), some (.int y0)]) dc_X12_holdsLine_218 rfl (by decide) rfl ?_
  refine ev_aload_n dc_X12_holdsLine_220 rfl ?_
  refine ev_getR dc_X12_holdsLine_221 fi_X12_39 rfl i0 ?_
  refine ev_iload_n dc_X12_holdsLine_224 rfl ?_
  refine ev_iconst (v := 1) dc_X12_holdsLine_225 (by decide) ?_
  refine ev_isub dc_X12_holdsLine_226 ?_
  refine ev_iload dc_X12_holdsLine_227 rfl ?_
  refine ev_bipush (v := 9) dc_X12_holdsLine_229 (by decide) ?_
  refine ev_icmp_ne (tgt := 242) dc_X12_holdsLine_231 (by decide) h (fun h => ?_) (fun h => ?_)
  · refine ev_iload dc_X12_holdsLine_234 rfl ?_
    refine ev_iload dc_X12_holdsLine_236 rfl ?_
    refine ev_iadd dc_X12_holdsLine_238 ?_
    refine ev_goto (tgt := 252) dc_X12_holdsLine_239 (by decide) ?_
    exact ev_sub (tX12_holdsLine_b252 hW i0 (wt hW i0 17 rfl rfl) hk20 h) (And.intro rfl (And.intro rfl (And.intro rfl (And.intro rfl trivial))))
  · refine ev_iload dc_X12_holdsLine_242 rfl ?_
    refine ev_if_eq (tgt := 251) dc_X12_holdsLine_244 (by decide) h (fun h => ?_) (fun h => ?_)
    · refine ev_iconst (v := 0) dc_X12_holdsLine_251 (by decide) ?_
      exact ev_sub (tX12_holdsLine_b252 hW i0 (wt hW i0 17 rfl rfl) hk20 h) (And.intro rfl (And.intro rfl (And.intro rfl (And.intro rfl trivial))))
    · refine ev_iconst (v := 1) dc_X12_holdsLine_247 (by decide) ?_
      refine ev_goto (tgt := 252) dc_X12_holdsLine_248 (by decide) ?_
      exact ev_sub (tX12_holdsLine_b252 hW i0 (wt hW i0 17 rfl rfl) hk20 h) (And.intro rfl (And.intro rfl (And.intro rfl (And.intro rfl trivial))))
def fX12_holdsLine_b273 (N : Nat) (G : pG) (σ : pS) : Option (Int32 × pS) := some ((1 : Int32), σ)
set_option maxRecDepth 100000 in
set_option maxHeartbeats 4000000 in
theorem tX12_holdsLine_b273 {N : Nat} {G : pG} {SK : Nat → Nat} {σ : pS} {r : Int32 × pS} (hW : WT G) (h : fX12_holdsLine_b273 N G σ = some r) : Ev miX12_holdsLine (2, 0, 0) G (Zp G (some (.int r.1)) r.2) SK (0, 0) 273 [none, none, none, none, none, none, none, none, none] [] σ := by
  unfold fX12_holdsLine_b273 at h
  refine ev_iconst (v := 1) dc_X12_holdsLine_273 (by decide) ?_
  refine ev_goto (tgt := 278) dc_X12_holdsLine_274 (by decide) ?_
  cases h
  exact ev_zretc dc_X12_holdsLine_278 rfl rfl rfl rfl
def fX12_holdsLine_b20 (N : Nat) (G : pG) (a0 : Nat) (x3 : Int32) : (Int32 × Int32 × pS) → Option (Int32 × pS) := lp (fun (k20 : Int32 × Int32 × pS → Option (Int32 × pS)) (b : Int32 × Int32 × pS) => ck (inB (x3 + (3 : Int32)) (pN G (pR G a0 1))) (if (gA b.2.2 (pR G a0 1) (x3 + (3 : Int32))) ≤ b.2.1 then (if b.1 = 0 then (fX12_holdsLine_b273 N G b.2.2) else (ck (inB (0 : Int32) (pN G (pR G a0 17))) (if (gA b.2.2 (pR G a0 17) (0 : Int32)) = (1 : Int32) then (fX12_holdsLine_b273 N G b.2.2) else (some ((0 : Int32), b.2.2))))) else (ck (inB ((432 : Int32) + ((2 : Int32) * b.2.1)) (pN G (pR G a0 1))) (if (8 : Int32) < (gA b.2.2 (pR G a0 1) ((432 : Int32) + ((2 : Int32) * b.2.1))) then (if (gA b.2.2 (pR G a0 1) ((432 : Int32) + ((2 : Int32) * b.2.1))) = (12 : Int32) then (ck (inB (b.1 - (1 : Int32)) (pN G (pR G a0 17))) (ck (inB (b.1 - (1 : Int32)) (pN G (pR G a0 17))) (k20 (b.1, b.2.1 + (1 : Int32), sA b.2.2 (pR G a0 17) (b.1 - (1 : Int32)) ((1 : Int32) - (gA b.2.2 (pR G a0 17) (b.1 - (1 : Int32)))))))) else (ck (inB ((b.1 + (-1 : Int32)) - (1 : Int32)) (pN G (pR G a0 17))) (ck (inB (b.1 + (-1 : Int32)) (pN G (pR G a0 17))) (if (gA b.2.2 (pR G a0 1) ((432 : Int32) + ((2 : Int32) * b.2.1))) = (10 : Int32) then (if (gA b.2.2 (pR G a0 17) (b.1 + (-1 : Int32))) ≤ (gA b.2.2 (pR G a0 17) ((b.1 + (-1 : Int32)) - (1 : Int32))) then (fX12_holdsLine_b218 N G k20 a0 (b.1 + (-1 : Int32)) x3 b.2.1 (gA b.2.2 (pR G a0 1) ((432 : Int32) + ((2 : Int32) * b.2.1))) (gA b.2.2 (pR G a0 17) ((b.1 + (-1 : Int32)) - (1 : Int32))) (gA b.2.2 (pR G a0 17) (b.1 + (-1 : Int32))) (0 : Int32) b.2.2) else (fX12_holdsLine_b218 N G k20 a0 (b.1 + (-1 : Int32)) x3 b.2.1 (gA b.2.2 (pR G a0 1) ((432 : Int32) + ((2 : Int32) * b.2.1))) (gA b.2.2 (pR G a0 17) ((b.1 + (-1 : Int32)) - (1 : Int32))) (gA b.2.2 (pR G a0 17) (b.1 + (-1 : Int32))) (1 : Int32) b.2.2)) else (if (gA b.2.2 (pR G a0 1) ((432 : Int32) + ((2 : Int32) * b.2.1))) = (11 : Int32) then (if (gA b.2.2 (pR G a0 17) ((b.1 + (-1 : Int32)) - (1 : Int32))) ≤ (gA b.2.2 (pR G a0 17) (b.1 + (-1 : Int32))) then (fX12_holdsLine_b218 N G k20 a0 (b.1 + (-1 : Int32)) x3 b.2.1 (gA b.2.2 (pR G a0 1) ((432 : Int32) + ((2 : Int32) * b.2.1))) (gA b.2.2 (pR G a0 17) ((b.1 + (-1 : Int32)) - (1 : Int32))) (gA b.2.2 (pR G a0 17) (b.1 + (-1 : Int32))) (0 : Int32) b.2.2) else (fX12_holdsLine_b218 N G k20 a0 (b.1 + (-1 : Int32)) x3 b.2.1 (gA b.2.2 (pR G a0 1) ((432 : Int32) + ((2 : Int32) * b.2.1))) (gA b.2.2 (pR G a0 17) ((b.1 + (-1 : Int32)) - (1 : Int32))) (gA b.2.2 (pR G a0 17) (b.1 + (-1 : Int32))) (1 : Int32) b.2.2)) else (if (gA b.2.2 (pR G a0 1) ((432 : Int32) + ((2 : Int32) * b.2.1))) = (13 : Int32) then (if ((gA b.2.2 (pR G a0 17) ((b.1 + (-1 : Int32)) - (1 : Int32))) + (gA b.2.2 (pR G a0 17) (b.1 + (-1 : Int32)))) = (2 : Int32) then (fX12_holdsLine_b218 N G k20 a0 (b.1 + (-1 : Int32)) x3 b.2.1 (gA b.2.2 (pR G a0 1) ((432 : Int32) + ((2 : Int32) * b.2.1))) (gA b.2.2 (pR G a0 17) ((b.1 + (-1 : Int32)) - (1 : Int32))) (gA b.2.2 (pR G a0 17) (b.1 + (-1 : Int32))) (1 : Int32) b.2.2) else (fX12_holdsLine_b218 N G k20 a0 (b.1 + (-1 : Int32)) x3 b.2.1 (gA b.2.2 (pR G a0 1) ((432 : Int32) + ((2 : Int32) * b.2.1))) (gA b.2.2 (pR G a0 17) ((b.1 + (-1 : Int32)) - (1 : Int32))) (gA b.2.2 (pR G a0 17) (b.1 + (-1 : Int32))) (0 : Int32) b.2.2)) else (if ((gA b.2.2 (pR G a0 17) ((b.1 + (-1 : Int32)) - (1 : Int32))) + (gA b.2.2 (pR G a0 17) (b.1 + (-1 : Int32)))) ≤ 0 then (fX12_holdsLine_b218 N G k20 a0 (b.1 + (-1 : Int32)) x3 b.2.1 (gA b.2.2 (pR G a0 1) ((432 : Int32) + ((2 : Int32) * b.2.1))) (gA b.2.2 (pR G a0 17) ((b.1 + (-1 : Int32)) - (1 : Int32))) (gA b.2.2 (pR G a0 17) (b.1 + (-1 : Int32))) (0 : Int32) b.2.2) else (fX12_holdsLine_b218 N G k20 a0 (b.1 + (-1 : Int32)) x3 b.2.1 (gA b.2.2 (pR G a0 1) ((432 : Int32) + ((2 : Int32) * b.2.1))) (gA b.2.2 (pR G a0 17) ((b.1 + (-1 : Int32)) - (1 : Int32))) (gA b.2.2 (pR G a0 17) (b.1 + (-1 : Int32))) (1 : Int32) b.2.2)))))))) else (ck (inB (((432 : Int32) + ((2 : Int32) * b.2.1)) + (1 : Int32)) (pN G (pR G a0 1))) ((fX12_factOf N G a0 (gA b.2.2 (pR G a0 1) ((432 : Int32) + ((2 : Int32) * b.2.1))) (gA b.2.2 (pR G a0 1) (((432 : Int32) + ((2 : Int32) * b.2.1)) + (1 : Int32))) b.2.2).bind (fun q1 => ck (inB b.1 (pN G (pR G a0 17))) (k20 (b.1 + (1 : Int32), b.2.1 + (1 : Int32), sA b.2.2 (pR G a0 17) b.1 q1))))))))) N
set_option maxRecDepth 100000 in
set_option maxHeartbeats 4000000 in
theorem tX12_holdsLine_b20 {N : Nat} {G : pG} {SK : Nat → Nat} {a0 : Nat} {x3 : Int32} {b : Int32 × Int32 × pS} {r : Int32 × pS} (hW : WT G) (i0 : Is G a0 11) (h : fX12_holdsLine_b20 N G a0 x3 b = some r) : Ev miX12_holdsLine (2, 0, 0) G (Zp G (some (.int r.1)) r.2) SK (0, 0) 20 [some (.ref a0), none, some (.int b.1), some (.int x3), some (.int b.2.1), none, none, none, none] [] b.2.2 := by
  unfold fX12_holdsLine_b20 at h
  refine lp_ind (P := fun b r9 => r9 = r → Ev miX12_holdsLine (2, 0, 0) G (Zp G (some (.int r.1)) r.2) SK (0, 0) 20 [some (.ref a0), none, some (.int b.1), some (.int x3), some (.int b.2.1), none, none, none, none] [] b.2.2) (fun k20 b r9 ih h9 e9 => ?_) N b r h rfl
  clear h
  subst e9
  have h := h9
  clear h9
  have hk20 : ∀ b : Int32 × Int32 × pS, k20 b = some r9 → Ev miX12_holdsLine (2, 0, 0) G (Zp G (some (.int r9.1)) r9.2) SK (0, 0) 20 [some (.ref a0), none, some (.int b.1), some (.int x3), some (.int b.2.1), none, none, none, none] [] b.2.2 := fun b hb => ih b r9 hb rfl
  clear ih
  obtain ⟨x2, x4, σ⟩ := b
  dsimp only at h ⊢
  refine ev_iload dc_X12_holdsLine_20 rfl ?_
  refine ev_aload_n dc_X12_holdsLine_22 rfl ?_
  refine ev_getR dc_X12_holdsLine_23 fi_X12_13 rfl i0 ?_
  refine ev_iload_n dc_X12_holdsLine_26 rfl ?_
  refine ev_iconst (v := 3) dc_X12_holdsLine_27 (by decide) ?_
  refine ev_iadd dc_X12_holdsLine_28 ?_
  refine ev_iald dc_X12_holdsLine_29 (wt hW i0 1 rfl rfl) h (fun h => ?_)
  refine ev_icmp_ge (tgt := 259) dc_X12_holdsLine_30 (by decide) h (fun h => ?_) (fun h => ?_)
  · refine ev_iload_n dc_X12_holdsLine_259 rfl ?_
    refine ev_if_eq (tgt := 273) dc_X12_holdsLine_260 (by decide) h (fun h => ?_) (fun h => ?_)
    · exact ev_sub (tX12_holdsLine_b273 hW h) trivial
    · refine ev_aload_n dc_X12_holdsLine_263 rfl ?_
      refine ev_getR dc_X12_holdsLine_264 fi_X12_39 rfl i0 ?_
      refine ev_iconst (v := 0) dc_X12_holdsLine_267 (by decide) ?_
      refine ev_iald dc_X12_holdsLine_268 (wt hW i0 17 rfl rfl) h (fun h => ?_)
      refine ev_iconst (v := 1) dc_X12_holdsLine_269 (by decide) ?_
      refine ev_icmp_ne (tgt := 277) dc_X12_holdsLine_270 (by decide) h (fun h => ?_) (fun h => ?_)
      · exact ev_sub (tX12_holdsLine_b273 hW h) trivial
      · refine ev_iconst (v := 0) dc_X12_holdsLine_277 (by decide) ?_
        cases h
        exact ev_zretc dc_X12_holdsLine_278 rfl rfl rfl rfl
  · refine ev_aload_n dc_X12_holdsLine_33 rfl ?_
    refine ev_getR dc_X12_holdsLine_34 fi_X12_13 rfl i0 ?_
    refine ev_sipush (v := 432) dc_X12_holdsLine_37 (by decide) ?_
    refine ev_iconst (v := 2) dc_X12_holdsLine_40 (by decide) ?_
    refine ev_iload dc_X12_holdsLine_41 rfl ?_
    refine ev_imul dc_X12_holdsLine_43 ?_
    refine ev_iadd dc_X12_holdsLine_44 ?_
    refine ev_iald dc_X12_holdsLine_45 (wt hW i0 1 rfl rfl) h (fun h => ?_)
    refine ev_istore (lv' := [some (.ref a0), none, some (.int x2), some (.int x3), some (.int x4), some (.int (gA σ (pR G a0 1) ((432 : Int32) + ((2 : Int32) * x4)))), none, none, none]) dc_X12_holdsLine_46 rfl (by decide) rfl ?_
    refine ev_iload dc_X12_holdsLine_48 rfl ?_
    refine ev_bipush (v := 8) dc_X12_holdsLine_50 (by decide) ?_
    refine ev_icmp_gt (tgt := 88) dc_X12_holdsLine_52 (by decide) h (fun h => ?_) (fun h => ?_)
    · refine ev_iload dc_X12_holdsLine_88 rfl ?_
      refine ev_bipush (v := 12) dc_X12_holdsLine_90 (by decide) ?_
      refine ev_icmp_ne (tgt := 116) dc_X12_holdsLine_92 (by decide) h (fun h => ?_) (fun h => ?_)
      · refine ev_aload_n dc_X12_holdsLine_95 rfl ?_
        refine ev_getR dc_X12_holdsLine_96 fi_X12_39 rfl i0 ?_
        refine ev_iload_n dc_X12_holdsLine_99 rfl ?_
        refine ev_iconst (v := 1) dc_X12_holdsLine_100 (by decide) ?_
        refine ev_isub dc_X12_holdsLine_101 ?_
        refine ev_iconst (v := 1) dc_X12_holdsLine_102 (by decide) ?_
        refine ev_aload_n dc_X12_holdsLine_103 rfl ?_
        refine ev_getR dc_X12_holdsLine_104 fi_X12_39 rfl i0 ?_
        refine ev_iload_n dc_X12_holdsLine_107 rfl ?_
        refine ev_iconst (v := 1) dc_X12_holdsLine_108 (by decide) ?_
        refine ev_isub dc_X12_holdsLine_109 ?_
        refine ev_iald dc_X12_holdsLine_110 (wt hW i0 17 rfl rfl) h (fun h => ?_)
        refine ev_isub dc_X12_holdsLine_111 ?_
        refine ev_iast dc_X12_holdsLine_112 (wt hW i0 17 rfl rfl) h (fun h => ?_)
        refine ev_goto (tgt := 253) dc_X12_holdsLine_113 (by decide) ?_
        refine ev_iinc (v := 1) (lv' := [some (.ref a0), none, some (.int x2), some (.int x3), some (.int (x4 + (1 : Int32))), some (.int (gA σ (pR G a0 1) ((432 : Int32) + ((2 : Int32) * x4)))), none, none, none]) dc_X12_holdsLine_253 rfl (by decide) rfl (by decide) rfl ?_
        refine ev_goto (tgt := 20) dc_X12_holdsLine_256 (by decide) ?_
        exact ev_sub (hk20 (x2, x4 + (1 : Int32), sA σ (pR G a0 17) (x2 - (1 : Int32)) ((1 : Int32) - (gA σ (pR G a0 17) (x2 - (1 : Int32))))) h) (And.intro rfl (And.intro rfl (And.intro rfl (And.intro rfl trivial))))
      · refine ev_iinc (v := (-1)) (lv' := [some (.ref a0), none, some (.int (x2 + (-1 : Int32))), some (.int x3), some (.int x4), some (.int (gA σ (pR G a0 1) ((432 : Int32) + ((2 : Int32) * x4)))), none, none, none]) dc_X12_holdsLine_116 rfl (by decide) rfl (by decide) rfl ?_
        refine ev_aload_n dc_X12_holdsLine_119 rfl ?_
        refine ev_getR dc_X12_holdsLine_120 fi_X12_39 rfl i0 ?_
        refine ev_iload_n dc_X12_holdsLine_123 rfl ?_
        refine ev_iconst (v := 1) dc_X12_holdsLine_124 (by decide) ?_
        refine ev_isub dc_X12_holdsLine_125 ?_
        refine ev_iald dc_X12_holdsLine_126 (wt hW i0 17 rfl rfl) h (fun h => ?_)
        refine ev_istore (lv' := [some (.ref a0), none, some (.int (x2 + (-1 : Int32))), some (.int x3), some (.int x4), some (.int (gA σ (pR G a0 1) ((432 : Int32) + ((2 : Int32) * x4)))), some (.int (gA σ (pR G a0 17) ((x2 + (-1 : Int32)) - (1 : Int32)))), none, none]) dc_X12_holdsLine_127 rfl (by decide) rfl ?_
        refine ev_aload_n dc_X12_holdsLine_129 rfl ?_
        refine ev_getR dc_X12_holdsLine_130 fi_X12_39 rfl i0 ?_
        refine ev_iload_n dc_X12_holdsLine_133 rfl ?_
        refine ev_iald dc_X12_holdsLine_134 (wt hW i0 17 rfl rfl) h (fun h => ?_)
        refine ev_istore (lv' := [some (.ref a0), none, some (.int (x2 + (-1 : Int32))), some (.int x3), some (.int x4), some (.int (gA σ (pR G a0 1) ((432 : Int32) + ((2 : Int32) * x4)))), some (.int (gA σ (pR G a0 17) ((x2 + (-1 : Int32)) - (1 : Int32)))), some (.int (gA σ (pR G a0 17) (x2 + (-1 : Int32)))), none]) dc_X12_holdsLine_135 rfl (by decide) rfl ?_
        refine ev_iload dc_X12_holdsLine_137 rfl ?_
        refine ev_bipush (v := 10) dc_X12_holdsLine_139 (by decide) ?_
        refine ev_icmp_ne (tgt := 159) dc_X12_holdsLine_141 (by decide) h (fun h => ?_) (fun h => ?_)
        · refine ev_iload dc_X12_holdsLine_144 rfl ?_
          refine ev_iload dc_X12_holdsLine_146 rfl ?_
          refine ev_icmp_ge (tgt := 155) dc_X12_holdsLine_148 (by decide) h (fun h => ?_) (fun h => ?_)
          · refine ev_iconst (v := 0) dc_X12_holdsLine_155 (by decide) ?_
            refine ev_goto (tgt := 218) dc_X12_holdsLine_156 (by decide) ?_
            exact ev_sub (tX12_holdsLine_b218 hW i0 hk20 h) (And.intro rfl (And.intro rfl (And.intro rfl (And.intro rfl (And.intro rfl (And.intro rfl (And.intro rfl trivial)))))))
          · refine ev_iconst (v := 1) dc_X12_holdsLine_151 (by decide) ?_
            refine ev_goto (tgt := 218) dc_X12_holdsLine_152 (by decide) ?_
            exact ev_sub (tX12_holdsLine_b218 hW i0 hk20 h) (And.intro rfl (And.intro rfl (And.intro rfl (And.intro rfl (And.intro rfl (And.intro rfl (And.intro rfl trivial)))))))
        · refine ev_iload dc_X12_holdsLine_159 rfl ?_
          refine ev_bipush (v := 11) dc_X12_holdsLine_161 (by decide) ?_
          refine ev_icmp_ne (tgt := 181) dc_X12_holdsLine_163 (by decide) h (fun h => ?_) (fun h => ?_)
          · refine ev_iload dc_X12_holdsLine_166 rfl ?_
            refine ev_iload dc_X12_holdsLine_168 rfl ?_
            refine ev_icmp_le (tgt := 177) dc_X12_holdsLine_170 (by decide) h (fun h => ?_) (fun h => ?_)
            · refine ev_iconst (v := 0) dc_X12_holdsLine_177 (by decide) ?_
              refine ev_goto (tgt := 218) dc_X12_holdsLine_178 (by decide) ?_
              exact ev_sub (tX12_holdsLine_b218 hW i0 hk20 h) (And.intro rfl (And.intro rfl (And.intro rfl (And.intro rfl (And.intro rfl (And.intro rfl (And.intro rfl trivial)))))))
            · refine ev_iconst (v := 1) dc_X12_holdsLine_173 (by decide) ?_
              refine ev_goto (tgt := 218) dc_X12_holdsLine_174 (by decide) ?_
              exact ev_sub (tX12_holdsLine_b218 hW i0 hk20 h) (And.intro rfl (And.intro rfl (And.intro rfl (And.intro rfl (And.intro rfl (And.intro rfl (And.intro rfl trivial)))))))
          · refine ev_iload dc_X12_holdsLine_181 rfl ?_
            refine ev_bipush (v := 13) dc_X12_holdsLine_183 (by decide) ?_
            refine ev_icmp_ne (tgt := 205) dc_X12_holdsLine_185 (by decide) h (fun h => ?_) (fun h => ?_)
            · refine ev_iload dc_X12_holdsLine_188 rfl ?_
              refine ev_iload dc_X12_holdsLine_190 rfl ?_
              refine ev_iadd dc_X12_holdsLine_192 ?_
              refine ev_iconst (v := 2) dc_X12_holdsLine_193 (by decide) ?_
              refine ev_icmp_ne (tgt := 201) dc_X12_holdsLine_194 (by decide) h (fun h => ?_) (fun h => ?_)
              · refine ev_iconst (v := 1) dc_X12_holdsLine_197 (by decide) ?_
                refine ev_goto (tgt := 218) dc_X12_holdsLine_198 (by decide) ?_
                exact ev_sub (tX12_holdsLine_b218 hW i0 hk20 h) (And.intro rfl (And.intro rfl (And.intro rfl (And.intro rfl (And.intro rfl (And.intro rfl (And.intro rfl trivial)))))))
              · refine ev_iconst (v := 0) dc_X12_holdsLine_201 (by decide) ?_
                refine ev_goto (tgt := 218) dc_X12_holdsLine_202 (by decide) ?_
                exact ev_sub (tX12_holdsLine_b218 hW i0 hk20 h) (And.intro rfl (And.intro rfl (And.intro rfl (And.intro rfl (And.intro rfl (And.intro rfl (And.intro rfl trivial)))))))
            · refine ev_iload dc_X12_holdsLine_205 rfl ?_
              refine ev_iload dc_X12_holdsLine_207 rfl ?_
              refine ev_iadd dc_X12_holdsLine_209 ?_
              refine ev_if_le (tgt := 217) dc_X12_holdsLine_210 (by decide) h (fun h => ?_) (fun h => ?_)
              · refine ev_iconst (v := 0) dc_X12_holdsLine_217 (by decide) ?_
                exact ev_sub (tX12_holdsLine_b218 hW i0 hk20 h) (And.intro rfl (And.intro rfl (And.intro rfl (And.intro rfl (And.intro rfl (And.intro rfl (And.intro rfl trivial)))))))
              · refine ev_iconst (v := 1) dc_X12_holdsLine_213 (by decide) ?_
                refine ev_goto (tgt := 218) dc_X12_holdsLine_214 (by decide) ?_
                exact ev_sub (tX12_holdsLine_b218 hW i0 hk20 h) (And.intro rfl (And.intro rfl (And.intro rfl (And.intro rfl (And.intro rfl (And.intro rfl (And.intro rfl trivial)))))))
    · refine ev_aload_n dc_X12_holdsLine_55 rfl ?_
      refine ev_getR dc_X12_holdsLine_56 fi_X12_39 rfl i0 ?_
      refine ev_iload_n dc_X12_holdsLine_59 rfl ?_
      refine ev_aload_n dc_X12_holdsLine_60 rfl ?_
      refine ev_iload dc_X12_holdsLine_61 rfl ?_
      refine ev_aload_n dc_X12_holdsLine_63 rfl ?_
      refine ev_getR dc_X12_holdsLine_64 fi_X12_13 rfl i0 ?_
      refine ev_sipush (v := 432) dc_X12_holdsLine_67 (by decide) ?_
      refine ev_iconst (v := 2) dc_X12_holdsLine_70 (by decide) ?_
      refine ev_iload dc_X12_holdsLine_71 rfl ?_
      refine ev_imul dc_X12_holdsLine_73 ?_
      refine ev_iadd dc_X12_holdsLine_74 ?_
      refine ev_iconst (v := 1) dc_X12_holdsLine_75 (by decide) ?_
      refine ev_iadd dc_X12_holdsLine_76 ?_
      refine ev_iald dc_X12_holdsLine_77 (wt hW i0 1 rfl rfl) h (fun h => ?_)
      obtain ⟨q1, hq1, h⟩ := Option.bind_eq_some_iff.mp h
      refine ev_callV (av := [.int (gA σ (pR G a0 1) ((432 : Int32) + ((2 : Int32) * x4))), .int (gA σ (pR G a0 1) (((432 : Int32) + ((2 : Int32) * x4)) + (1 : Int32)))]) (st := [.int x2, .ref (pR G a0 17)]) (st1 := [.int q1, .int x2, .ref (pR G a0 17)]) dc_X12_holdsLine_78 (tX12_factOf hW i0 hq1) mw_1840 cy_X12_factOf i0 (by decide) rfl rfl rfl rfl (Nat.le_of_ble_eq_true rfl) (Nat.le_of_ble_eq_true rfl) ⟨Nat.le_refl _, Nat.le_refl _⟩ ?_
      refine ev_iast dc_X12_holdsLine_81 (wt hW i0 17 rfl rfl) h (fun h => ?_)
      refine ev_iinc (v := 1) (lv' := [some (.ref a0), none, some (.int (x2 + (1 : Int32))), some (.int x3), some (.int x4), some (.int (gA σ (pR G a0 1) ((432 : Int32) + ((2 : Int32) * x4)))), none, none, none]) dc_X12_holdsLine_82 rfl (by decide) rfl (by decide) rfl ?_
      refine ev_goto (tgt := 253) dc_X12_holdsLine_85 (by decide) ?_
      refine ev_iinc (v := 1) (lv' := [some (.ref a0), none, some (.int (x2 + (1 : Int32))), some (.int x3), some (.int (x4 + (1 : Int32))), some (.int (gA σ (pR G a0 1) ((432 : Int32) + ((2 : Int32) * x4)))), none, none, none]) dc_X12_holdsLine_253 rfl (by decide) rfl (by decide) rfl ?_
      refine ev_goto (tgt := 20) dc_X12_holdsLine_256 (by decide) ?_
      exact ev_sub (hk20 (x2 + (1 : Int32), x4 + (1 : Int32), sA σ (pR G a0 17) x2 q1) h) (And.intro rfl (And.intro rfl (And.intro rfl (And.intro rfl trivial))))
def fX12_holdsLine (N : Nat) (G : pG) (a0 : Nat) (a1 : Int32) (σ : pS) : Option (Int32 × pS) := ck (inB (((384 : Int32) + ((4 : Int32) * a1)) + (2 : Int32)) (pN G (pR G a0 1))) (fX12_holdsLine_b20 N G a0 ((384 : Int32) + ((4 : Int32) * a1)) ((0 : Int32), gA σ (pR G a0 1) (((384 : Int32) + ((4 : Int32) * a1)) + (2 : Int32)), σ))
set_option maxRecDepth 100000 in
set_option maxHeartbeats 4000000 in
theorem tX12_holdsLine {N : Nat} {G : pG} {SK : Nat → Nat} {a0 : Nat} {a1 : Int32} {σ : pS} {r : Int32 × pS} (hW : WT G) (i0 : Is G a0 11) (h : fX12_holdsLine N G a0 a1 σ = some r) : Dn miX12_holdsLine yX12_holdsLine 2 G SK [.ref a0, .int a1] σ (some (.int r.1)) r.2 := by
  unfold fX12_holdsLine at h
  refine dn_of (lv := [some (.ref a0), some (.int a1), none, none, none, none, none, none, none]) (by decide) rfl rfl (Nat.le_of_ble_eq_true rfl) rfl ?_
  refine ev_iconst (v := 0) dc_X12_holdsLine_0 (by decide) ?_
  refine ev_istore_n (lv' := [some (.ref a0), some (.int a1), some (.int (0 : Int32)), none, none, none, none, none, none]) dc_X12_holdsLine_1 rfl (by decide) rfl ?_
  refine ev_sipush (v := 384) dc_X12_holdsLine_2 (by decide) ?_
  refine ev_iconst (v := 4) dc_X12_holdsLine_5 (by decide) ?_
  refine ev_iload_n dc_X12_holdsLine_6 rfl ?_
  refine ev_imul dc_X12_holdsLine_7 ?_
  refine ev_iadd dc_X12_holdsLine_8 ?_
  refine ev_istore_n (lv' := [some (.ref a0), some (.int a1), some (.int (0 : Int32)), some (.int ((384 : Int32) + ((4 : Int32) * a1))), none, none, none, none, none]) dc_X12_holdsLine_9 rfl (by decide) rfl ?_
  refine ev_aload_n dc_X12_holdsLine_10 rfl ?_
  refine ev_getR dc_X12_holdsLine_11 fi_X12_13 rfl i0 ?_
  refine ev_iload_n dc_X12_holdsLine_14 rfl ?_
  refine ev_iconst (v := 2) dc_X12_holdsLine_15 (by decide) ?_
  refine ev_iadd dc_X12_holdsLine_16 ?_
  refine ev_iald dc_X12_holdsLine_17 (wt hW i0 1 rfl rfl) h (fun h => ?_)
  refine ev_istore (lv' := [some (.ref a0), some (.int a1), some (.int (0 : Int32)), some (.int ((384 : Int32) + ((4 : Int32) * a1))), some (.int (gA σ (pR G a0 1) (((384 : Int32) + ((4 : Int32) * a1)) + (2 : Int32)))), none, none, none, none]) dc_X12_holdsLine_18 rfl (by decide) rfl ?_
  exact ev_sub (tX12_holdsLine_b20 (b := ((0 : Int32), gA σ (pR G a0 1) (((384 : Int32) + ((4 : Int32) * a1)) + (2 : Int32)), σ)) hW i0 h) (And.intro rfl (And.intro rfl (And.intro rfl (And.intro rfl trivial))))
