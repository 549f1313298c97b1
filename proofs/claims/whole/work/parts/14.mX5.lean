theorem dc_X5_toldWith_0 : Dc miX5_toldWith 0 (.aload_n 1) 1 1 := ⟨by decide +kernel, rfl⟩
theorem dc_X5_toldWith_1 : Dc miX5_toldWith 1 (.getfield 58) 3 4 := ⟨by decide +kernel, rfl⟩
theorem dc_X5_toldWith_4 : Dc miX5_toldWith 4 (.getfield 98) 3 7 := ⟨by decide +kernel, rfl⟩
theorem dc_X5_toldWith_7 : Dc miX5_toldWith 7 (.iload_n 3) 1 8 := ⟨by decide +kernel, rfl⟩
theorem dc_X5_toldWith_8 : Dc miX5_toldWith 8 (.invokestatic 102) 3 11 := ⟨by decide +kernel, rfl⟩
theorem dc_X5_toldWith_11 : Dc miX5_toldWith 11 (.istore 4) 2 13 := ⟨by decide +kernel, rfl⟩
theorem dc_X5_toldWith_13 : Dc miX5_toldWith 13 (.aload_n 1) 1 14 := ⟨by decide +kernel, rfl⟩
theorem dc_X5_toldWith_14 : Dc miX5_toldWith 14 (.getfield 58) 3 17 := ⟨by decide +kernel, rfl⟩
theorem dc_X5_toldWith_17 : Dc miX5_toldWith 17 (.aload_n 0) 1 18 := ⟨by decide +kernel, rfl⟩
theorem dc_X5_toldWith_18 : Dc miX5_toldWith 18 (.getfield 12) 3 21 := ⟨by decide +kernel, rfl⟩
theorem dc_X5_toldWith_21 : Dc miX5_toldWith 21 (.getfield 62) 3 24 := ⟨by decide +kernel, rfl⟩
theorem dc_X5_toldWith_24 : Dc miX5_toldWith 24 (.aload_n 0) 1 25 := ⟨by decide +kernel, rfl⟩
theorem dc_X5_toldWith_25 : Dc miX5_toldWith 25 (.getfield 12) 3 28 := ⟨by decide +kernel, rfl⟩
theorem dc_X5_toldWith_28 : Dc miX5_toldWith 28 (.getfield 65) 3 31 := ⟨by decide +kernel, rfl⟩
theorem dc_X5_toldWith_31 : Dc miX5_toldWith 31 (.iload 4) 2 33 := ⟨by decide +kernel, rfl⟩
theorem dc_X5_toldWith_33 : Dc miX5_toldWith 33 (.invokevirtual 106) 3 36 := ⟨by decide +kernel, rfl⟩
theorem dc_X5_toldWith_36 : Dc miX5_toldWith 36 (.aload_n 0) 1 37 := ⟨by decide +kernel, rfl⟩
theorem dc_X5_toldWith_37 : Dc miX5_toldWith 37 (.getfield 12) 3 40 := ⟨by decide +kernel, rfl⟩
theorem dc_X5_toldWith_40 : Dc miX5_toldWith 40 (.getfield 62) 3 43 := ⟨by decide +kernel, rfl⟩
theorem dc_X5_toldWith_43 : Dc miX5_toldWith 43 (.if_icmp .eq 7) 3 46 := ⟨by decide +kernel, rfl⟩
theorem dc_X5_toldWith_46 : Dc miX5_toldWith 46 (.iconst 1) 1 47 := ⟨by decide +kernel, rfl⟩
theorem dc_X5_toldWith_47 : Dc miX5_toldWith 47 (.goto 4) 3 50 := ⟨by decide +kernel, rfl⟩
theorem dc_X5_toldWith_50 : Dc miX5_toldWith 50 (.iconst 0) 1 51 := ⟨by decide +kernel, rfl⟩
theorem dc_X5_toldWith_51 : Dc miX5_toldWith 51 (.istore 5) 2 53 := ⟨by decide +kernel, rfl⟩
theorem dc_X5_toldWith_53 : Dc miX5_toldWith 53 (.iload 5) 2 55 := ⟨by decide +kernel, rfl⟩
theorem dc_X5_toldWith_55 : Dc miX5_toldWith 55 (.ifCond .eq 17) 3 58 := ⟨by decide +kernel, rfl⟩
theorem dc_X5_toldWith_58 : Dc miX5_toldWith 58 (.iload 4) 2 60 := ⟨by decide +kernel, rfl⟩
theorem dc_X5_toldWith_60 : Dc miX5_toldWith 60 (.ifCond .lt 12) 3 63 := ⟨by decide +kernel, rfl⟩
theorem dc_X5_toldWith_63 : Dc miX5_toldWith 63 (.iload_n 2) 1 64 := ⟨by decide +kernel, rfl⟩
theorem dc_X5_toldWith_64 : Dc miX5_toldWith 64 (.iconst 1) 1 65 := ⟨by decide +kernel, rfl⟩
theorem dc_X5_toldWith_65 : Dc miX5_toldWith 65 (.iload 4) 2 67 := ⟨by decide +kernel, rfl⟩
theorem dc_X5_toldWith_67 : Dc miX5_toldWith 67 (.ishl) 1 68 := ⟨by decide +kernel, rfl⟩
theorem dc_X5_toldWith_68 : Dc miX5_toldWith 68 (.ior) 1 69 := ⟨by decide +kernel, rfl⟩
theorem dc_X5_toldWith_69 : Dc miX5_toldWith 69 (.goto 4) 3 72 := ⟨by decide +kernel, rfl⟩
theorem dc_X5_toldWith_72 : Dc miX5_toldWith 72 (.iload_n 2) 1 73 := ⟨by decide +kernel, rfl⟩
theorem dc_X5_toldWith_73 : Dc miX5_toldWith 73 (.ireturn) 1 74 := ⟨by decide +kernel, rfl⟩
def fX5_toldWith_b51 (N : Nat) (G : pG) (a2 : Int32) (x4 : Int32) (y0 : Int32) (σ : pS) : Option (Int32) := if y0 = 0 then (some a2) else (if x4 < 0 then (some a2) else (some (a2 ||| ((1 : Int32) <<< (x4 &&& 31)))))
set_option maxRecDepth 100000 in
set_option maxHeartbeats 4000000 in
theorem tX5_toldWith_b51 {N : Nat} {G : pG} {SK : Nat → Nat} {a2 : Int32} {x4 : Int32} {y0 : Int32} {σ : pS} {r : Int32} (hW : WT G) (h : fX5_toldWith_b51 N G a2 x4 y0 σ = some r) : Ev miX5_toldWith (3, 0, 0) G (Zp G (some (.int r)) σ) SK (0, 0) 51 [none, none, some (.int a2), none, some (.int x4), none] [.int y0] σ := by
  unfold fX5_toldWith_b51 at h
  refine ev_istore (lv' := [none, none, some (.int a2), none, some (.int x4), some (.int y0)]) dc_X5_toldWith_51 rfl (by decide) rfl ?_
  refine ev_iload dc_X5_toldWith_53 rfl ?_
  refine ev_if_eq (tgt := 72) dc_X5_toldWith_55 (by decide) h (fun h => ?_) (fun h => ?_)
  · refine ev_iload_n dc_X5_toldWith_72 rfl ?_
    cases h
    exact ev_iret dc_X5_toldWith_73 rfl rfl rfl
  · refine ev_iload dc_X5_toldWith_58 rfl ?_
    refine ev_if_lt (tgt := 72) dc_X5_toldWith_60 (by decide) h (fun h => ?_) (fun h => ?_)
    · refine ev_iload_n dc_X5_toldWith_72 rfl ?_
      cases h
      exact ev_iret dc_X5_toldWith_73 rfl rfl rfl
    · refine ev_iload_n dc_X5_toldWith_63 rfl ?_
      refine ev_iconst (v := 1) dc_X5_toldWith_64 (by decide) ?_
      refine ev_iload dc_X5_toldWith_65 rfl ?_
      refine ev_ishl dc_X5_toldWith_67 ?_
      refine ev_ior dc_X5_toldWith_68 ?_
      refine ev_goto (tgt := 73) dc_X5_toldWith_69 (by decide) ?_
      cases h
      exact ev_iret dc_X5_toldWith_73 rfl rfl rfl
def fX5_toldWith (N : Nat) (G : pG) (a0 : Nat) (a1 : Nat) (a2 : Int32) (a3 : Int32) (σ : pS) : Option (Int32) := (fX11_at N G (pR G (pR G a1 0) 13) a3 σ).bind (fun q1 => (fX8_narrowed N G (pR G a1 0) (σ.1 (pR G a0 0) 3) (σ.1 (pR G a0 0) 2) q1 σ).bind (fun q2 => if q2 = (σ.1 (pR G a0 0) 3) then (fX5_toldWith_b51 N G a2 q1 (0 : Int32) σ) else (fX5_toldWith_b51 N G a2 q1 (1 : Int32) σ)))
set_option maxRecDepth 100000 in
set_option maxHeartbeats 4000000 in
theorem tX5_toldWith {N : Nat} {G : pG} {SK : Nat → Nat} {a0 : Nat} {a1 : Nat} {a2 : Int32} {a3 : Int32} {σ : pS} {r : Int32} (hW : WT G) (i0 : Is G a0 5) (i1 : Is G a1 9) (h : fX5_toldWith N G a0 a1 a2 a3 σ = some r) : Dn miX5_toldWith yX5_toldWith 3 G SK [.ref a0, .ref a1, .int a2, .int a3] σ (some (.int r)) σ := by
  unfold fX5_toldWith at h
  refine dn_of (lv := [some (.ref a0), some (.ref a1), some (.int a2), some (.int a3), none, none]) (by decide) rfl rfl (Nat.le_of_ble_eq_true rfl) rfl ?_
  refine ev_aload_n dc_X5_toldWith_0 rfl ?_
  refine ev_getR dc_X5_toldWith_1 fi_X5_58 rfl i1 ?_
  refine ev_getR dc_X5_toldWith_4 fi_X5_98 rfl (wt hW i1 0 rfl rfl) ?_
  refine ev_iload_n dc_X5_toldWith_7 rfl ?_
  obtain ⟨q1, hq1, h⟩ := Option.bind_eq_some_iff.mp h
  refine ev_callN (av := [.ref (pR G (pR G a1 0) 13), .int a3]) (st := []) (st1 := [.int q1]) (host := "UnaskedName") dc_X5_toldWith_8 (tX11_at hW (wt hW (wt hW i1 0 rfl rfl) 13 rfl rfl) hq1) (List.mem_of_getElem? (i := 22) rfl) cs_X11_at rfl rfl rfl (Nat.le_of_ble_eq_true rfl) (Nat.le_of_ble_eq_true rfl) ⟨Nat.le_refl _, Nat.le_refl _⟩ ?_
  refine ev_istore (lv' := [some (.ref a0), some (.ref a1), some (.int a2), some (.int a3), some (.int q1), none]) dc_X5_toldWith_11 rfl (by decide) rfl ?_
  refine ev_aload_n dc_X5_toldWith_13 rfl ?_
  refine ev_getR dc_X5_toldWith_14 fi_X5_58 rfl i1 ?_
  refine ev_aload_n dc_X5_toldWith_17 rfl ?_
  refine ev_getR dc_X5_toldWith_18 fi_X5_12 rfl i0 ?_
  refine ev_getI dc_X5_toldWith_21 fi_X5_62 rfl (wt hW i0 0 rfl rfl) ?_
  refine ev_aload_n dc_X5_toldWith_24 rfl ?_
  refine ev_getR dc_X5_toldWith_25 fi_X5_12 rfl i0 ?_
  refine ev_getI dc_X5_toldWith_28 fi_X5_65 rfl (wt hW i0 0 rfl rfl) ?_
  refine ev_iload dc_X5_toldWith_31 rfl ?_
  obtain ⟨q2, hq2, h⟩ := Option.bind_eq_some_iff.mp h
  refine ev_callV (av := [.int (σ.1 (pR G a0 0) 3), .int (σ.1 (pR G a0 0) 2), .int q1]) (st := []) (st1 := [.int q2]) dc_X5_toldWith_33 (tX8_narrowed hW (wt hW i1 0 rfl rfl) hq2) mw_1376 cy_X8_narrowed (wt hW i1 0 rfl rfl) (by decide) rfl rfl rfl rfl (Nat.le_of_ble_eq_true rfl) (Nat.le_of_ble_eq_true rfl) ⟨Nat.le_refl _, Nat.le_refl _⟩ ?_
  refine ev_aload_n dc_X5_toldWith_36 rfl ?_
  refine ev_getR dc_X5_toldWith_37 fi_X5_12 rfl i0 ?_
  refine ev_getI dc_X5_toldWith_40 fi_X5_62 rfl (wt hW i0 0 rfl rfl) ?_
  refine ev_icmp_eq (tgt := 50) dc_X5_toldWith_43 (by decide) h (fun h => ?_) (fun h => ?_)
  · refine ev_iconst (v := 0) dc_X5_toldWith_50 (by decide) ?_
    exact ev_sub (tX5_toldWith_b51 hW h) (And.intro rfl (And.intro rfl trivial))
  · refine ev_iconst (v := 1) dc_X5_toldWith_46 (by decide) ?_
    refine ev_goto (tgt := 51) dc_X5_toldWith_47 (by decide) ?_
    exact ev_sub (tX5_toldWith_b51 hW h) (And.intro rfl (And.intro rfl trivial))
theorem dc_X5_asksFrom_0 : Dc miX5_asksFrom 0 (.aload_n 0) 1 1 := ⟨by decide +kernel, rfl⟩
theorem dc_X5_asksFrom_1 : Dc miX5_asksFrom 1 (.getfield 12) 3 4 := ⟨by decide +kernel, rfl⟩
theorem dc_X5_asksFrom_4 : Dc miX5_asksFrom 4 (.iload_n 3) 1 5 := ⟨by decide +kernel, rfl⟩
theorem dc_X5_asksFrom_5 : Dc miX5_asksFrom 5 (.putfield 50) 3 8 := ⟨by decide +kernel, rfl⟩
theorem dc_X5_asksFrom_8 : Dc miX5_asksFrom 8 (.aload_n 0) 1 9 := ⟨by decide +kernel, rfl⟩
theorem dc_X5_asksFrom_9 : Dc miX5_asksFrom 9 (.getfield 12) 3 12 := ⟨by decide +kernel, rfl⟩
theorem dc_X5_asksFrom_12 : Dc miX5_asksFrom 12 (.aload_n 1) 1 13 := ⟨by decide +kernel, rfl⟩
theorem dc_X5_asksFrom_13 : Dc miX5_asksFrom 13 (.getfield 58) 3 16 := ⟨by decide +kernel, rfl⟩
theorem dc_X5_asksFrom_16 : Dc miX5_asksFrom 16 (.aload_n 1) 1 17 := ⟨by decide +kernel, rfl⟩
theorem dc_X5_asksFrom_17 : Dc miX5_asksFrom 17 (.getfield 28) 3 20 := ⟨by decide +kernel, rfl⟩
theorem dc_X5_asksFrom_20 : Dc miX5_asksFrom 20 (.getfield 62) 3 23 := ⟨by decide +kernel, rfl⟩
theorem dc_X5_asksFrom_23 : Dc miX5_asksFrom 23 (.aload_n 0) 1 24 := ⟨by decide +kernel, rfl⟩
theorem dc_X5_asksFrom_24 : Dc miX5_asksFrom 24 (.getfield 12) 3 27 := ⟨by decide +kernel, rfl⟩
theorem dc_X5_asksFrom_27 : Dc miX5_asksFrom 27 (.getfield 65) 3 30 := ⟨by decide +kernel, rfl⟩
theorem dc_X5_asksFrom_30 : Dc miX5_asksFrom 30 (.iload 4) 2 32 := ⟨by decide +kernel, rfl⟩
theorem dc_X5_asksFrom_32 : Dc miX5_asksFrom 32 (.invokevirtual 68) 3 35 := ⟨by decide +kernel, rfl⟩
theorem dc_X5_asksFrom_35 : Dc miX5_asksFrom 35 (.putfield 62) 3 38 := ⟨by decide +kernel, rfl⟩
theorem dc_X5_asksFrom_38 : Dc miX5_asksFrom 38 (.iconst 0) 1 39 := ⟨by decide +kernel, rfl⟩
theorem dc_X5_asksFrom_39 : Dc miX5_asksFrom 39 (.istore 5) 2 41 := ⟨by decide +kernel, rfl⟩
theorem dc_X5_asksFrom_41 : Dc miX5_asksFrom 41 (.iload 5) 2 43 := ⟨by decide +kernel, rfl⟩
theorem dc_X5_asksFrom_43 : Dc miX5_asksFrom 43 (.aload_n 1) 1 44 := ⟨by decide +kernel, rfl⟩
theorem dc_X5_asksFrom_44 : Dc miX5_asksFrom 44 (.getfield 58) 3 47 := ⟨by decide +kernel, rfl⟩
theorem dc_X5_asksFrom_47 : Dc miX5_asksFrom 47 (.getfield 74) 3 50 := ⟨by decide +kernel, rfl⟩
theorem dc_X5_asksFrom_50 : Dc miX5_asksFrom 50 (.if_icmp .ge 58) 3 53 := ⟨by decide +kernel, rfl⟩
theorem dc_X5_asksFrom_53 : Dc miX5_asksFrom 53 (.bipush 99) 2 55 := ⟨by decide +kernel, rfl⟩
theorem dc_X5_asksFrom_55 : Dc miX5_asksFrom 55 (.iload_n 3) 1 56 := ⟨by decide +kernel, rfl⟩
theorem dc_X5_asksFrom_56 : Dc miX5_asksFrom 56 (.aload_n 1) 1 57 := ⟨by decide +kernel, rfl⟩
theorem dc_X5_asksFrom_57 : Dc miX5_asksFrom 57 (.aload_n 0) 1 58 := ⟨by decide +kernel, rfl⟩
theorem dc_X5_asksFrom_58 : Dc miX5_asksFrom 58 (.getfield 12) 3 61 := ⟨by decide +kernel, rfl⟩
theorem dc_X5_asksFrom_61 : Dc miX5_asksFrom 61 (.iload_n 2) 1 62 := ⟨by decide +kernel, rfl⟩
theorem dc_X5_asksFrom_62 : Dc miX5_asksFrom 62 (.iload 5) 2 64 := ⟨by decide +kernel, rfl⟩
theorem dc_X5_asksFrom_64 : Dc miX5_asksFrom 64 (.invokevirtual 77) 3 67 := ⟨by decide +kernel, rfl⟩
theorem dc_X5_asksFrom_67 : Dc miX5_asksFrom 67 (.iadd) 1 68 := ⟨by decide +kernel, rfl⟩
theorem dc_X5_asksFrom_68 : Dc miX5_asksFrom 68 (.invokestatic 81) 3 71 := ⟨by decide +kernel, rfl⟩
theorem dc_X5_asksFrom_71 : Dc miX5_asksFrom 71 (.istore 6) 2 73 := ⟨by decide +kernel, rfl⟩
theorem dc_X5_asksFrom_73 : Dc miX5_asksFrom 73 (.iload 6) 2 75 := ⟨by decide +kernel, rfl⟩
theorem dc_X5_asksFrom_75 : Dc miX5_asksFrom 75 (.aload_n 1) 1 76 := ⟨by decide +kernel, rfl⟩
theorem dc_X5_asksFrom_76 : Dc miX5_asksFrom 76 (.getfield 58) 3 79 := ⟨by decide +kernel, rfl⟩
theorem dc_X5_asksFrom_79 : Dc miX5_asksFrom 79 (.getfield 87) 3 82 := ⟨by decide +kernel, rfl⟩
theorem dc_X5_asksFrom_82 : Dc miX5_asksFrom 82 (.if_icmp .lt 5) 3 85 := ⟨by decide +kernel, rfl⟩
theorem dc_X5_asksFrom_85 : Dc miX5_asksFrom 85 (.iconst 1) 1 86 := ⟨by decide +kernel, rfl⟩
theorem dc_X5_asksFrom_86 : Dc miX5_asksFrom 86 (.ireturn) 1 87 := ⟨by decide +kernel, rfl⟩
theorem dc_X5_asksFrom_87 : Dc miX5_asksFrom 87 (.aload_n 0) 1 88 := ⟨by decide +kernel, rfl⟩
theorem dc_X5_asksFrom_88 : Dc miX5_asksFrom 88 (.iload 6) 2 90 := ⟨by decide +kernel, rfl⟩
theorem dc_X5_asksFrom_90 : Dc miX5_asksFrom 90 (.aload_n 0) 1 91 := ⟨by decide +kernel, rfl⟩
theorem dc_X5_asksFrom_91 : Dc miX5_asksFrom 91 (.aload_n 1) 1 92 := ⟨by decide +kernel, rfl⟩
theorem dc_X5_asksFrom_92 : Dc miX5_asksFrom 92 (.iload 4) 2 94 := ⟨by decide +kernel, rfl⟩
theorem dc_X5_asksFrom_94 : Dc miX5_asksFrom 94 (.iload 5) 2 96 := ⟨by decide +kernel, rfl⟩
theorem dc_X5_asksFrom_96 : Dc miX5_asksFrom 96 (.invokevirtual 90) 3 99 := ⟨by decide +kernel, rfl⟩
theorem dc_X5_asksFrom_99 : Dc miX5_asksFrom 99 (.invokevirtual 94) 3 102 := ⟨by decide +kernel, rfl⟩
theorem dc_X5_asksFrom_102 : Dc miX5_asksFrom 102 (.iinc 5 1) 3 105 := ⟨by decide +kernel, rfl⟩
theorem dc_X5_asksFrom_105 : Dc miX5_asksFrom 105 (.goto (-64)) 3 108 := ⟨by decide +kernel, rfl⟩
theorem dc_X5_asksFrom_108 : Dc miX5_asksFrom 108 (.iconst 0) 1 109 := ⟨by decide +kernel, rfl⟩
theorem dc_X5_asksFrom_109 : Dc miX5_asksFrom 109 (.ireturn) 1 110 := ⟨by decide +kernel, rfl⟩
def fX5_asksFrom_b41 (N : Nat) (G : pG) (a0 : Nat) (a1 : Nat) (a2 : Int32) (a3 : Int32) (a4 : Int32) : (Int32 × pS) → Option (Int32 × pS) := lp (fun (k41 : Int32 × pS → Option (Int32 × pS)) (b : Int32 × pS) => if (b.2.1 (pR G a1 0) 2) ≤ b.1 then (some ((0 : Int32), b.2)) else ((fX10_stingOf N G a1 (pR G a0 0) a2 b.1 b.2).bind (fun q1 => if (jmin (99 : Int32) (a3 + q1.1)) < (q1.2.1 (pR G a1 0) 6) then ((fX5_toldWith N G a0 a1 a4 b.1 q1.2).bind (fun q2 => (fX5_reach N G a0 (jmin (99 : Int32) (a3 + q1.1)) q2 q1.2).bind (fun q3 => k41 (b.1 + (1 : Int32), q3)))) else (some ((1 : Int32), q1.2))))) N
set_option maxRecDepth 100000 in
set_option maxHeartbeats 4000000 in
theorem tX5_asksFrom_b41 {N : Nat} {G : pG} {SK : Nat → Nat} {a0 : Nat} {a1 : Nat} {a2 : Int32} {a3 : Int32} {a4 : Int32} {b : Int32 × pS} {r : Int32 × pS} (hW : WT G) (i0 : Is G a0 5) (i1 : Is G a1 9) (h : fX5_asksFrom_b41 N G a0 a1 a2 a3 a4 b = some r) : Ev miX5_asksFrom (4, 0, 0) G (Zp G (some (.int r.1)) r.2) SK (0, 0) 41 [some (.ref a0), some (.ref a1), some (.int a2), some (.int a3), some (.int a4), some (.int b.1), none] [] b.2 := by
  unfold fX5_asksFrom_b41 at h
  refine lp_ind (P := fun b r9 => r9 = r → Ev miX5_asksFrom (4, 0, 0) G (Zp G (some (.int r.1)) r.2) SK (0, 0) 41 [some (.ref a0), some (.ref a1), some (.int a2), some (.int a3), some (.int a4), some (.int b.1), none] [] b.2) (fun k41 b r9 ih h9 e9 => ?_) N b r h rfl
  clear h
  subst e9
  have h := h9
  clear h9
  have hk41 : ∀ b : Int32 × pS, k41 b = some r9 → Ev miX5_asksFrom (4, 0, 0) G (Zp G (some (.int r9.1)) r9.2) SK (0, 0) 41 [some (.ref a0), some (.ref a1), some (.int a2), some (.int a3), some (.int a4), some (.int b.1), none] [] b.2 := fun b hb => ih b r9 hb rfl
  clear ih
  obtain ⟨x5, σ⟩ := b
  dsimp only at h ⊢
  refine ev_iload dc_X5_asksFrom_41 rfl ?_
  refine ev_aload_n dc_X5_asksFrom_43 rfl ?_
  refine ev_getR dc_X5_asksFrom_44 fi_X5_58 rfl i1 ?_
  refine ev_getI dc_X5_asksFrom_47 fi_X5_74 rfl (wt hW i1 0 rfl rfl) ?_
  refine ev_icmp_ge (tgt := 108) dc_X5_asksFrom_50 (by decide) h (fun h => ?_) (fun h => ?_)
  · refine ev_iconst (v := 0) dc_X5_asksFrom_108 (by decide) ?_
    cases h
    exact ev_zretc dc_X5_asksFrom_109 rfl rfl rfl rfl
  · refine ev_bipush (v := 99) dc_X5_asksFrom_53 (by decide) ?_
    refine ev_iload_n dc_X5_asksFrom_55 rfl ?_
    refine ev_aload_n dc_X5_asksFrom_56 rfl ?_
    refine ev_aload_n dc_X5_asksFrom_57 rfl ?_
    refine ev_getR dc_X5_asksFrom_58 fi_X5_12 rfl i0 ?_
    refine ev_iload_n dc_X5_asksFrom_61 rfl ?_
    refine ev_iload dc_X5_asksFrom_62 rfl ?_
    obtain ⟨q1, hq1, h⟩ := Option.bind_eq_some_iff.mp h
    refine ev_callV (av := [.ref (pR G a0 0), .int a2, .int x5]) (st := [.int a3, .int (99 : Int32)]) (st1 := [.int q1.1, .int a3, .int (99 : Int32)]) dc_X5_asksFrom_64 (tX10_stingOf hW i1 (wt hW i0 0 rfl rfl) hq1) mw_1369 cy_X10_stingOf i1 (by decide) rfl rfl rfl rfl (Nat.le_of_ble_eq_true rfl) (Nat.le_of_ble_eq_true rfl) ⟨Nat.le_refl _, Nat.le_refl _⟩ ?_
    refine ev_iadd dc_X5_asksFrom_67 ?_
    refine ev_min dc_X5_asksFrom_68 mw_1370 (Nat.le_of_ble_eq_true rfl) (Nat.le_of_ble_eq_true rfl) ⟨Nat.le_refl _, Nat.le_refl _⟩ ?_
    refine ev_istore (lv' := [some (.ref a0), some (.ref a1), some (.int a2), some (.int a3), some (.int a4), some (.int x5), some (.int (jmin (99 : Int32) (a3 + q1.1)))]) dc_X5_asksFrom_71 rfl (by decide) rfl ?_
    refine ev_iload dc_X5_asksFrom_73 rfl ?_
    refine ev_aload_n dc_X5_asksFrom_75 rfl ?_
    refine ev_getR dc_X5_asksFrom_76 fi_X5_58 rfl i1 ?_
    refine ev_getI dc_X5_asksFrom_79 fi_X5_87 rfl (wt hW i1 0 rfl rfl) ?_
    refine ev_icmp_lt (tgt := 87) dc_X5_asksFrom_82 (by decide) h (fun h => ?_) (fun h => ?_)
    · refine ev_aload_n dc_X5_asksFrom_87 rfl ?_
      refine ev_iload dc_X5_asksFrom_88 rfl ?_
      refine ev_aload_n dc_X5_asksFrom_90 rfl ?_
      refine ev_aload_n dc_X5_asksFrom_91 rfl ?_
      refine ev_iload dc_X5_asksFrom_92 rfl ?_
      refine ev_iload dc_X5_asksFrom_94 rfl ?_
      obtain ⟨q2, hq2, h⟩ := Option.bind_eq_some_iff.mp h
      refine ev_callV (av := [.ref a1, .int a4, .int x5]) (st := [.int (jmin (99 : Int32) (a3 + q1.1)), .ref a0]) (st1 := [.int q2, .int (jmin (99 : Int32) (a3 + q1.1)), .ref a0]) dc_X5_asksFrom_96 (tX5_toldWith hW i0 i1 hq2) mw_1371 cy_X5_toldWith i0 (by decide) rfl rfl rfl rfl (Nat.le_of_ble_eq_true rfl) (Nat.le_of_ble_eq_true rfl) ⟨Nat.le_refl _, Nat.le_refl _⟩ ?_
      obtain ⟨q3, hq3, h⟩ := Option.bind_eq_some_iff.mp h
      refine ev_callV (av := [.int (jmin (99 : Int32) (a3 + q1.1)), .int q2]) (st := []) (st1 := []) dc_X5_asksFrom_99 (tX5_reach hW i0 hq3) mw_1377 cy_X5_reach i0 (by decide) rfl rfl rfl rfl (Nat.le_of_ble_eq_true rfl) (Nat.le_of_ble_eq_true rfl) ⟨Nat.le_refl _, Nat.le_refl _⟩ ?_
      refine ev_iinc (v := 1) (lv' := [some (.ref a0), some (.ref a1), some (.int a2), some (.int a3), some (.int a4), some (.int (x5 + (1 : Int32))), some (.int (jmin (99 : Int32) (a3 + q1.1)))]) dc_X5_asksFrom_102 rfl (by decide) rfl (by decide) rfl ?_
      refine ev_goto (tgt := 41) dc_X5_asksFrom_105 (by decide) ?_
      exact ev_sub (hk41 (x5 + (1 : Int32), q3) h) (And.intro rfl (And.intro rfl (And.intro rfl (And.intro rfl (And.intro rfl (And.intro rfl trivial))))))
    · refine ev_iconst (v := 1) dc_X5_asksFrom_85 (by decide) ?_
      cases h
      exact ev_zretc dc_X5_asksFrom_86 rfl rfl rfl rfl
def fX5_asksFrom (N : Nat) (G : pG) (a0 : Nat) (a1 : Nat) (a2 : Int32) (a3 : Int32) (a4 : Int32) (σ : pS) : Option (Int32 × pS) := (fX8_narrowedByAll N G (pR G a1 0) ((putF σ (pR G a0 0) 0 a3).1 (pR G a1 2) 3) ((putF σ (pR G a0 0) 0 a3).1 (pR G a0 0) 2) a4 (putF σ (pR G a0 0) 0 a3)).bind (fun q4 => fX5_asksFrom_b41 N G a0 a1 a2 a3 a4 ((0 : Int32), putF (putF σ (pR G a0 0) 0 a3) (pR G a0 0) 3 q4))
set_option maxRecDepth 100000 in
set_option maxHeartbeats 4000000 in
theorem tX5_asksFrom {N : Nat} {G : pG} {SK : Nat → Nat} {a0 : Nat} {a1 : Nat} {a2 : Int32} {a3 : Int32} {a4 : Int32} {σ : pS} {r : Int32 × pS} (hW : WT G) (i0 : Is G a0 5) (i1 : Is G a1 9) (h : fX5_asksFrom N G a0 a1 a2 a3 a4 σ = some r) : Dn miX5_asksFrom yX5_asksFrom 4 G SK [.ref a0, .ref a1, .int a2, .int a3, .int a4] σ (some (.int r.1)) r.2 := by
  unfold fX5_asksFrom at h
  refine dn_of (lv := [some (.ref a0), some (.ref a1), some (.int a2), some (.int a3), some (.int a4), none, none]) (by decide) rfl rfl (Nat.le_of_ble_eq_true rfl) rfl ?_
  refine ev_aload_n dc_X5_asksFrom_0 rfl ?_
  refine ev_getR dc_X5_asksFrom_1 fi_X5_12 rfl i0 ?_
  refine ev_iload_n dc_X5_asksFrom_4 rfl ?_
  refine ev_putI dc_X5_asksFrom_5 fi_X5_50 rfl (wt hW i0 0 rfl rfl) ?_
  refine ev_aload_n dc_X5_asksFrom_8 rfl ?_
  refine ev_getR dc_X5_asksFrom_9 fi_X5_12 rfl i0 ?_
  refine ev_aload_n dc_X5_asksFrom_12 rfl ?_
  refine ev_getR dc_X5_asksFrom_13 fi_X5_58 rfl i1 ?_
  refine ev_aload_n dc_X5_asksFrom_16 rfl ?_
  refine ev_getR dc_X5_asksFrom_17 fi_X5_28 rfl i1 ?_
  refine ev_getI dc_X5_asksFrom_20 fi_X5_62 rfl (wt hW i1 2 rfl rfl) ?_
  refine ev_aload_n dc_X5_asksFrom_23 rfl ?_
  refine ev_getR dc_X5_asksFrom_24 fi_X5_12 rfl i0 ?_
  refine ev_getI dc_X5_asksFrom_27 fi_X5_65 rfl (wt hW i0 0 rfl rfl) ?_
  refine ev_iload dc_X5_asksFrom_30 rfl ?_
  obtain ⟨q4, hq4, h⟩ := Option.bind_eq_some_iff.mp h
  refine ev_callV (av := [.int ((putF σ (pR G a0 0) 0 a3).1 (pR G a1 2) 3), .int ((putF σ (pR G a0 0) 0 a3).1 (pR G a0 0) 2), .int a4]) (st := [.ref (pR G a0 0)]) (st1 := [.int q4, .ref (pR G a0 0)]) dc_X5_asksFrom_32 (tX8_narrowedByAll hW (wt hW i1 0 rfl rfl) hq4) mw_1368 cy_X8_narrowedByAll (wt hW i1 0 rfl rfl) (by decide) rfl rfl rfl rfl (Nat.le_of_ble_eq_true rfl) (Nat.le_of_ble_eq_true rfl) ⟨Nat.le_refl _, Nat.le_refl _⟩ ?_
  refine ev_putI dc_X5_asksFrom_35 fi_X5_62 rfl (wt hW i0 0 rfl rfl) ?_
  refine ev_iconst (v := 0) dc_X5_asksFrom_38 (by decide) ?_
  refine ev_istore (lv' := [some (.ref a0), some (.ref a1), some (.int a2), some (.int a3), some (.int a4), some (.int (0 : Int32)), none]) dc_X5_asksFrom_39 rfl (by decide) rfl ?_
  exact ev_sub (tX5_asksFrom_b41 (b := ((0 : Int32), putF (putF σ (pR G a0 0) 0 a3) (pR G a0 0) 3 q4)) hW i0 i1 h) (And.intro rfl (And.intro rfl (And.intro rfl (And.intro rfl (And.intro rfl (And.intro rfl trivial))))))
theorem dc_X5_oneWordMore_0 : Dc miX5_oneWordMore 0 (.iconst 0) 1 1 := ⟨by decide +kernel, rfl⟩
theorem dc_X5_oneWordMore_1 : Dc miX5_oneWordMore 1 (.istore_n 3) 1 2 := ⟨by decide +kernel, rfl⟩
theorem dc_X5_oneWordMore_2 : Dc miX5_oneWordMore 2 (.iload_n 3) 1 3 := ⟨by decide +kernel, rfl⟩
theorem dc_X5_oneWordMore_3 : Dc miX5_oneWordMore 3 (.bipush 100) 2 5 := ⟨by decide +kernel, rfl⟩
theorem dc_X5_oneWordMore_5 : Dc miX5_oneWordMore 5 (.if_icmp .ge 16) 3 8 := ⟨by decide +kernel, rfl⟩
theorem dc_X5_oneWordMore_8 : Dc miX5_oneWordMore 8 (.aload_n 0) 1 9 := ⟨by decide +kernel, rfl⟩
theorem dc_X5_oneWordMore_9 : Dc miX5_oneWordMore 9 (.getfield 25) 3 12 := ⟨by decide +kernel, rfl⟩
theorem dc_X5_oneWordMore_12 : Dc miX5_oneWordMore 12 (.iload_n 3) 1 13 := ⟨by decide +kernel, rfl⟩
theorem dc_X5_oneWordMore_13 : Dc miX5_oneWordMore 13 (.lconst 0) 1 14 := ⟨by decide +kernel, rfl⟩
theorem dc_X5_oneWordMore_14 : Dc miX5_oneWordMore 14 (.lastore) 1 15 := ⟨by decide +kernel, rfl⟩
theorem dc_X5_oneWordMore_15 : Dc miX5_oneWordMore 15 (.iinc 3 1) 3 18 := ⟨by decide +kernel, rfl⟩
theorem dc_X5_oneWordMore_18 : Dc miX5_oneWordMore 18 (.goto (-16)) 3 21 := ⟨by decide +kernel, rfl⟩
theorem dc_X5_oneWordMore_21 : Dc miX5_oneWordMore 21 (.iconst 0) 1 22 := ⟨by decide +kernel, rfl⟩
theorem dc_X5_oneWordMore_22 : Dc miX5_oneWordMore 22 (.istore_n 3) 1 23 := ⟨by decide +kernel, rfl⟩
theorem dc_X5_oneWordMore_23 : Dc miX5_oneWordMore 23 (.iload_n 3) 1 24 := ⟨by decide +kernel, rfl⟩
theorem dc_X5_oneWordMore_24 : Dc miX5_oneWordMore 24 (.bipush 100) 2 26 := ⟨by decide +kernel, rfl⟩
theorem dc_X5_oneWordMore_26 : Dc miX5_oneWordMore 26 (.if_icmp .ge 69) 3 29 := ⟨by decide +kernel, rfl⟩
theorem dc_X5_oneWordMore_29 : Dc miX5_oneWordMore 29 (.aload_n 0) 1 30 := ⟨by decide +kernel, rfl⟩
theorem dc_X5_oneWordMore_30 : Dc miX5_oneWordMore 30 (.getfield 22) 3 33 := ⟨by decide +kernel, rfl⟩
theorem dc_X5_oneWordMore_33 : Dc miX5_oneWordMore 33 (.iload_n 3) 1 34 := ⟨by decide +kernel, rfl⟩
theorem dc_X5_oneWordMore_34 : Dc miX5_oneWordMore 34 (.laload) 1 35 := ⟨by decide +kernel, rfl⟩
theorem dc_X5_oneWordMore_35 : Dc miX5_oneWordMore 35 (.lstore 4) 2 37 := ⟨by decide +kernel, rfl⟩
theorem dc_X5_oneWordMore_37 : Dc miX5_oneWordMore 37 (.iconst 0) 1 38 := ⟨by decide +kernel, rfl⟩
theorem dc_X5_oneWordMore_38 : Dc miX5_oneWordMore 38 (.istore 6) 2 40 := ⟨by decide +kernel, rfl⟩
theorem dc_X5_oneWordMore_40 : Dc miX5_oneWordMore 40 (.iload 6) 2 42 := ⟨by decide +kernel, rfl⟩
theorem dc_X5_oneWordMore_42 : Dc miX5_oneWordMore 42 (.bipush 64) 2 44 := ⟨by decide +kernel, rfl⟩
theorem dc_X5_oneWordMore_44 : Dc miX5_oneWordMore 44 (.if_icmp .ge 45) 3 47 := ⟨by decide +kernel, rfl⟩
theorem dc_X5_oneWordMore_47 : Dc miX5_oneWordMore 47 (.lload 4) 2 49 := ⟨by decide +kernel, rfl⟩
theorem dc_X5_oneWordMore_49 : Dc miX5_oneWordMore 49 (.iload 6) 2 51 := ⟨by decide +kernel, rfl⟩
theorem dc_X5_oneWordMore_51 : Dc miX5_oneWordMore 51 (.lushr) 1 52 := ⟨by decide +kernel, rfl⟩
theorem dc_X5_oneWordMore_52 : Dc miX5_oneWordMore 52 (.lconst 0) 1 53 := ⟨by decide +kernel, rfl⟩
theorem dc_X5_oneWordMore_53 : Dc miX5_oneWordMore 53 (.lcmp) 1 54 := ⟨by decide +kernel, rfl⟩
theorem dc_X5_oneWordMore_54 : Dc miX5_oneWordMore 54 (.ifCond .eq 35) 3 57 := ⟨by decide +kernel, rfl⟩
theorem dc_X5_oneWordMore_57 : Dc miX5_oneWordMore 57 (.lload 4) 2 59 := ⟨by decide +kernel, rfl⟩
theorem dc_X5_oneWordMore_59 : Dc miX5_oneWordMore 59 (.iload 6) 2 61 := ⟨by decide +kernel, rfl⟩
theorem dc_X5_oneWordMore_61 : Dc miX5_oneWordMore 61 (.lushr) 1 62 := ⟨by decide +kernel, rfl⟩
theorem dc_X5_oneWordMore_62 : Dc miX5_oneWordMore 62 (.lconst 1) 1 63 := ⟨by decide +kernel, rfl⟩
theorem dc_X5_oneWordMore_63 : Dc miX5_oneWordMore 63 (.land) 1 64 := ⟨by decide +kernel, rfl⟩
theorem dc_X5_oneWordMore_64 : Dc miX5_oneWordMore 64 (.lconst 1) 1 65 := ⟨by decide +kernel, rfl⟩
theorem dc_X5_oneWordMore_65 : Dc miX5_oneWordMore 65 (.lcmp) 1 66 := ⟨by decide +kernel, rfl⟩
theorem dc_X5_oneWordMore_66 : Dc miX5_oneWordMore 66 (.ifCond .ne 17) 3 69 := ⟨by decide +kernel, rfl⟩
theorem dc_X5_oneWordMore_69 : Dc miX5_oneWordMore 69 (.aload_n 0) 1 70 := ⟨by decide +kernel, rfl⟩
theorem dc_X5_oneWordMore_70 : Dc miX5_oneWordMore 70 (.aload_n 1) 1 71 := ⟨by decide +kernel, rfl⟩
theorem dc_X5_oneWordMore_71 : Dc miX5_oneWordMore 71 (.iload_n 2) 1 72 := ⟨by decide +kernel, rfl⟩
theorem dc_X5_oneWordMore_72 : Dc miX5_oneWordMore 72 (.iload_n 3) 1 73 := ⟨by decide +kernel, rfl⟩
theorem dc_X5_oneWordMore_73 : Dc miX5_oneWordMore 73 (.iload 6) 2 75 := ⟨by decide +kernel, rfl⟩
theorem dc_X5_oneWordMore_75 : Dc miX5_oneWordMore 75 (.invokevirtual 54) 3 78 := ⟨by decide +kernel, rfl⟩
theorem dc_X5_oneWordMore_78 : Dc miX5_oneWordMore 78 (.ifCond .eq 5) 3 81 := ⟨by decide +kernel, rfl⟩
theorem dc_X5_oneWordMore_81 : Dc miX5_oneWordMore 81 (.iconst 1) 1 82 := ⟨by decide +kernel, rfl⟩
theorem dc_X5_oneWordMore_82 : Dc miX5_oneWordMore 82 (.ireturn) 1 83 := ⟨by decide +kernel, rfl⟩
theorem dc_X5_oneWordMore_83 : Dc miX5_oneWordMore 83 (.iinc 6 1) 3 86 := ⟨by decide +kernel, rfl⟩
theorem dc_X5_oneWordMore_86 : Dc miX5_oneWordMore 86 (.goto (-46)) 3 89 := ⟨by decide +kernel, rfl⟩
theorem dc_X5_oneWordMore_89 : Dc miX5_oneWordMore 89 (.iinc 3 1) 3 92 := ⟨by decide +kernel, rfl⟩
theorem dc_X5_oneWordMore_92 : Dc miX5_oneWordMore 92 (.goto (-69)) 3 95 := ⟨by decide +kernel, rfl⟩
theorem dc_X5_oneWordMore_95 : Dc miX5_oneWordMore 95 (.iconst 0) 1 96 := ⟨by decide +kernel, rfl⟩
theorem dc_X5_oneWordMore_96 : Dc miX5_oneWordMore 96 (.ireturn) 1 97 := ⟨by decide +kernel, rfl⟩
def fX5_oneWordMore_b40 (N : Nat) (G : pG) (k23 : Int32 × pS → Option (Int32 × pS)) (a0 : Nat) (a1 : Nat) (a2 : Int32) (x3 : Int32) (x4 : Int64) : (Int32 × pS) → Option (Int32 × pS) := lp (fun (k40 : Int32 × pS → Option (Int32 × pS)) (b : Int32 × pS) => if (64 : Int32) ≤ b.1 then (k23 (x3 + (1 : Int32), b.2)) else (if (lg_cmp (jlushr x4 b.1) (0 : Int64)) = 0 then (k23 (x3 + (1 : Int32), b.2)) else (if (lg_cmp ((jlushr x4 b.1) &&& (1 : Int64)) (1 : Int64)) = 0 then ((fX5_asksFrom N G a0 a1 a2 x3 b.1 b.2).bind (fun q1 => if q1.1 = 0 then (k40 (b.1 + (1 : Int32), q1.2)) else (some ((1 : Int32), q1.2)))) else (k40 (b.1 + (1 : Int32), b.2))))) N
set_option maxRecDepth 100000 in
set_option maxHeartbeats 4000000 in
theorem tX5_oneWordMore_b40 {N : Nat} {G : pG} {SK : Nat → Nat} {k23 : Int32 × pS → Option (Int32 × pS)} {a0 : Nat} {a1 : Nat} {a2 : Int32} {x3 : Int32} {x4 : Int64} {b : Int32 × pS} {r : Int32 × pS} (hW : WT G) (i0 : Is G a0 5) (i1 : Is G a1 9) (hk23 : ∀ b : Int32 × pS, k23 b = some r → Ev miX5_oneWordMore (5, 0, 0) G (Zp G (some (.int r.1)) r.2) SK (0, 0) 23 [some (.ref a0), some (.ref a1), some (.int a2), some (.int b.1), none, none, none] [] b.2) (h : fX5_oneWordMore_b40 N G k23 a0 a1 a2 x3 x4 b = some r) : Ev miX5_oneWordMore (5, 0, 0) G (Zp G (some (.int r.1)) r.2) SK (0, 0) 40 [some (.ref a0), some (.ref a1), some (.int a2), some (.int x3), some (.long x4), none, some (.int b.1)] [] b.2 := by
  unfold fX5_oneWordMore_b40 at h
  refine lp_ind (P := fun b r9 => r9 = r → Ev miX5_oneWordMore (5, 0, 0) G (Zp G (some (.int r.1)) r.2) SK (0, 0) 40 [some (.ref a0), some (.ref a1), some (.int a2), some (.int x3), some (.long x4), none, some (.int b.1)] [] b.2) (fun k40 b r9 ih h9 e9 => ?_) N b r h rfl
  clear h
  subst e9
  have h := h9
  clear h9
  have hk40 : ∀ b : Int32 × pS, k40 b = some r9 → Ev miX5_oneWordMore (5, 0, 0) G (Zp G (some (.int r9.1)) r9.2) SK (0, 0) 40 [some (.ref a0), some (.ref a1), some (.int a2), some (.int x3), some (.long x4), none, some (.int b.1)] [] b.2 := fun b hb => ih b r9 hb rfl
  clear ih
  obtain ⟨x6, σ⟩ := b
  dsimp only at h ⊢
  refine ev_iload dc_X5_oneWordMore_40 rfl ?_
  refine ev_bipush (v := 64) dc_X5_oneWordMore_42 (by decide) ?_
  refine ev_icmp_ge (tgt := 89) dc_X5_oneWordMore_44 (by decide) h (fun h => ?_) (fun h => ?_)
  · refine ev_iinc (v := 1) (lv' := [some (.ref a0), some (.ref a1), some (.int a2), some (.int (x3 + (1 : Int32))), some (.long x4), none, some (.int x6)]) dc_X5_oneWordMore_89 rfl (by decide) rfl (by decide) rfl ?_
    refine ev_goto (tgt := 23) dc_X5_oneWordMore_92 (by decide) ?_
    exact ev_sub (hk23 (x3 + (1 : Int32), σ) h) (And.intro rfl (And.intro rfl (And.intro rfl (And.intro rfl trivial))))
  · refine ev_lload dc_X5_oneWordMore_47 rfl ?_
    refine ev_iload dc_X5_oneWordMore_49 rfl ?_
    refine ev_lushr dc_X5_oneWordMore_51 ?_
    refine ev_lconst (v := 0) dc_X5_oneWordMore_52 (by decide) ?_
    refine ev_lcmp dc_X5_oneWordMore_53 ?_
    refine ev_if_eq (tgt := 89) dc_X5_oneWordMore_54 (by decide) h (fun h => ?_) (fun h => ?_)
    · refine ev_iinc (v := 1) (lv' := [some (.ref a0), some (.ref a1), some (.int a2), some (.int (x3 + (1 : Int32))), some (.long x4), none, some (.int x6)]) dc_X5_oneWordMore_89 rfl (by decide) rfl (by decide) rfl ?_
      refine ev_goto (tgt := 23) dc_X5_oneWordMore_92 (by decide) ?_
      exact ev_sub (hk23 (x3 + (1 : Int32), σ) h) (And.intro rfl (And.intro rfl (And.intro rfl (And.intro rfl trivial))))
    · refine ev_lload dc_X5_oneWordMore_57 rfl ?_
      refine ev_iload dc_X5_oneWordMore_59 rfl ?_
      refine ev_lushr dc_X5_oneWordMore_61 ?_
      refine ev_lconst (v := 1) dc_X5_oneWordMore_62 (by decide) ?_
      refine ev_land dc_X5_oneWordMore_63 ?_
      refine ev_lconst (v := 1) dc_X5_oneWordMore_64 (by decide) ?_
      refine ev_lcmp dc_X5_oneWordMore_65 ?_
      refine ev_if_ne (tgt := 83) dc_X5_oneWordMore_66 (by decide) h (fun h => ?_) (fun h => ?_)
      · refine ev_aload_n dc_X5_oneWordMore_69 rfl ?_
        refine ev_aload_n dc_X5_oneWordMore_70 rfl ?_
        refine ev_iload_n dc_X5_oneWordMore_71 rfl ?_
        refine ev_iload_n dc_X5_oneWordMore_72 rfl ?_
        refine ev_iload dc_X5_oneWordMore_73 rfl ?_
        obtain ⟨q1, hq1, h⟩ := Option.bind_eq_some_iff.mp h
        refine ev_callV (av := [.ref a1, .int a2, .int x3, .int x6]) (st := []) (st1 := [.int q1.1]) dc_X5_oneWordMore_75 (tX5_asksFrom hW i0 i1 hq1) mw_1364 cy_X5_asksFrom i0 (by decide) rfl rfl rfl rfl (Nat.le_of_ble_eq_true rfl) (Nat.le_of_ble_eq_true rfl) ⟨Nat.le_refl _, Nat.le_refl _⟩ ?_
        refine ev_if_eq (tgt := 83) dc_X5_oneWordMore_78 (by decide) h (fun h => ?_) (fun h => ?_)
        · refine ev_iinc (v := 1) (lv' := [some (.ref a0), some (.ref a1), some (.int a2), some (.int x3), some (.long x4), none, some (.int (x6 + (1 : Int32)))]) dc_X5_oneWordMore_83 rfl (by decide) rfl (by decide) rfl ?_
          refine ev_goto (tgt := 40) dc_X5_oneWordMore_86 (by decide) ?_
          exact ev_sub (hk40 (x6 + (1 : Int32), q1.2) h) (And.intro rfl (And.intro rfl (And.intro rfl (And.intro rfl (And.intro rfl (And.intro rfl trivial))))))
        · refine ev_iconst (v := 1) dc_X5_oneWordMore_81 (by decide) ?_
          cases h
          exact ev_zretc dc_X5_oneWordMore_82 rfl rfl rfl rfl
      · refine ev_iinc (v := 1) (lv' := [some (.ref a0), some (.ref a1), some (.int a2), some (.int x3), some (.long x4), none, some (.int (x6 + (1 : Int32)))]) dc_X5_oneWordMore_83 rfl (by decide) rfl (by decide) rfl ?_
        refine ev_goto (tgt := 40) dc_X5_oneWordMore_86 (by decide) ?_
        exact ev_sub (hk40 (x6 + (1 : Int32), σ) h) (And.intro rfl (And.intro rfl (And.intro rfl (And.intro rfl (And.intro rfl (And.intro rfl trivial))))))
def fX5_oneWordMore_b23 (N : Nat) (G : pG) (a0 : Nat) (a1 : Nat) (a2 : Int32) : (Int32 × pS) → Option (Int32 × pS) := lp (fun (k23 : Int32 × pS → Option (Int32 × pS)) (b : Int32 × pS) => if (100 : Int32) ≤ b.1 then (some ((0 : Int32), b.2)) else (ck (inB b.1 (pN G (pR G a0 2))) (fX5_oneWordMore_b40 N G k23 a0 a1 a2 b.1 (gJ b.2 (pR G a0 2) b.1) ((0 : Int32), b.2)))) N
set_option maxRecDepth 100000 in
set_option maxHeartbeats 4000000 in
theorem tX5_oneWordMore_b23 {N : Nat} {G : pG} {SK : Nat → Nat} {a0 : Nat} {a1 : Nat} {a2 : Int32} {b : Int32 × pS} {r : Int32 × pS} (hW : WT G) (i0 : Is G a0 5) (i1 : Is G a1 9) (h : fX5_oneWordMore_b23 N G a0 a1 a2 b = some r) : Ev miX5_oneWordMore (5, 0, 0) G (Zp G (some (.int r.1)) r.2) SK (0, 0) 23 [some (.ref a0), some (.ref a1), some (.int a2), some (.int b.1), none, none, none] [] b.2 := by
  unfold fX5_oneWordMore_b23 at h
  refine lp_ind (P := fun b r9 => r9 = r → Ev miX5_oneWordMore (5, 0, 0) G (Zp G (some (.int r.1)) r.2) SK (0, 0) 23 [some (.ref a0), some (.ref a1), some (.int a2), some (.int b.1), none, none, none] [] b.2) (fun k23 b r9 ih h9 e9 => ?_) N b r h rfl
  clear h
  subst e9
  have h := h9
  clear h9
  have hk23 : ∀ b : Int32 × pS, k23 b = some r9 → Ev miX5_oneWordMore (5, 0, 0) G (Zp G (some (.int r9.1)) r9.2) SK (0, 0) 23 [some (.ref a0), some (.ref a1), some (.int a2), some (.int b.1), none, none, none] [] b.2 := fun b hb => ih b r9 hb rfl
  clear ih
  obtain ⟨x3, σ⟩ := b
  dsimp only at h ⊢
  refine ev_iload_n dc_X5_oneWordMore_23 rfl ?_
  refine ev_bipush (v := 100) dc_X5_oneWordMore_24 (by decide) ?_
  refine ev_icmp_ge (tgt := 95) dc_X5_oneWordMore_26 (by decide) h (fun h => ?_) (fun h => ?_)
  · refine ev_iconst (v := 0) dc_X5_oneWordMore_95 (by decide) ?_
    cases h
    exact ev_zretc dc_X5_oneWordMore_96 rfl rfl rfl rfl
  · refine ev_aload_n dc_X5_oneWordMore_29 rfl ?_
    refine ev_getR dc_X5_oneWordMore_30 fi_X5_22 rfl i0 ?_
    refine ev_iload_n dc_X5_oneWordMore_33 rfl ?_
    refine ev_lald dc_X5_oneWordMore_34 (wt hW i0 2 rfl rfl) h (fun h => ?_)
    refine ev_lstore (lv' := [some (.ref a0), some (.ref a1), some (.int a2), some (.int x3), some (.long (gJ σ (pR G a0 2) x3)), none, none]) dc_X5_oneWordMore_35 rfl (by decide) rfl ?_
    refine ev_iconst (v := 0) dc_X5_oneWordMore_37 (by decide) ?_
    refine ev_istore (lv' := [some (.ref a0), some (.ref a1), some (.int a2), some (.int x3), some (.long (gJ σ (pR G a0 2) x3)), none, some (.int (0 : Int32))]) dc_X5_oneWordMore_38 rfl (by decide) rfl ?_
    exact ev_sub (tX5_oneWordMore_b40 (b := ((0 : Int32), σ)) hW i0 i1 hk23 h) (And.intro rfl (And.intro rfl (And.intro rfl (And.intro rfl (And.intro rfl (And.intro rfl trivial))))))
def fX5_oneWordMore_b2 (N : Nat) (G : pG) (a0 : Nat) (a1 : Nat) (a2 : Int32) : (Int32 × pS) → Option (Int32 × pS) := lp (fun (k2 : Int32 × pS → Option (Int32 × pS)) (b : Int32 × pS) => if (100 : Int32) ≤ b.1 then (fX5_oneWordMore_b23 N G a0 a1 a2 ((0 : Int32), b.2)) else (ck (inB b.1 (pN G (pR G a0 3))) (k2 (b.1 + (1 : Int32), sJ b.2 (pR G a0 3) b.1 (0 : Int64))))) N
set_option maxRecDepth 100000 in
set_option maxHeartbeats 4000000 in
theorem tX5_oneWordMore_b2 {N : Nat} {G : pG} {SK : Nat → Nat} {a0 : Nat} {a1 : Nat} {a2 : Int32} {b : Int32 × pS} {r : Int32 × pS} (hW : WT G) (i0 : Is G a0 5) (i1 : Is G a1 9) (h : fX5_oneWordMore_b2 N G a0 a1 a2 b = some r) : Ev miX5_oneWordMore (5, 0, 0) G (Zp G (some (.int r.1)) r.2) SK (0, 0) 2 [some (.ref a0), some (.ref a1), some (.int a2), some (.int b.1), none, none, none] [] b.2 := by
  unfold fX5_oneWordMore_b2 at h
  refine lp_ind (P := fun b r9 => r9 = r → Ev miX5_oneWordMore (5, 0, 0) G (Zp G (some (.int r.1)) r.2) SK (0, 0) 2 [some (.ref a0), some (.ref a1), some (.int a2), some (.int b.1), none, none, none] [] b.2) (fun k2 b r9 ih h9 e9 => ?_) N b r h rfl
  clear h
  subst e9
  have h := h9
  clear h9
  have hk2 : ∀ b : Int32 × pS, k2 b = some r9 → Ev miX5_oneWordMore (5, 0, 0) G (Zp G (some (.int r9.1)) r9.2) SK (0, 0) 2 [some (.ref a0), some (.ref a1), some (.int a2), some (.int b.1), none, none, none] [] b.2 := fun b hb => ih b r9 hb rfl
  clear ih
  obtain ⟨x3, σ⟩ := b
  dsimp only at h ⊢
  refine ev_iload_n dc_X5_oneWordMore_2 rfl ?_
  refine ev_bipush (v := 100) dc_X5_oneWordMore_3 (by decide) ?_
  refine ev_icmp_ge (tgt := 21) dc_X5_oneWordMore_5 (by decide) h (fun h => ?_) (fun h => ?_)
  · refine ev_iconst (v := 0) dc_X5_oneWordMore_21 (by decide) ?_
    refine ev_istore_n (lv' := [some (.ref a0), some (.ref a1), some (.int a2), some (.int (0 : Int32)), none, none, none]) dc_X5_oneWordMore_22 rfl (by decide) rfl ?_
    exact ev_sub (tX5_oneWordMore_b23 (b := ((0 : Int32), σ)) hW i0 i1 h) (And.intro rfl (And.intro rfl (And.intro rfl (And.intro rfl trivial))))
  · refine ev_aload_n dc_X5_oneWordMore_8 rfl ?_
    refine ev_getR dc_X5_oneWordMore_9 fi_X5_25 rfl i0 ?_
    refine ev_iload_n dc_X5_oneWordMore_12 rfl ?_
    refine ev_lconst (v := 0) dc_X5_oneWordMore_13 (by decide) ?_
    refine ev_last dc_X5_oneWordMore_14 (wt hW i0 3 rfl rfl) h (fun h => ?_)
    refine ev_iinc (v := 1) (lv' := [some (.ref a0), some (.ref a1), some (.int a2), some (.int (x3 + (1 : Int32))), none, none, none]) dc_X5_oneWordMore_15 rfl (by decide) rfl (by decide) rfl ?_
    refine ev_goto (tgt := 2) dc_X5_oneWordMore_18 (by decide) ?_
    exact ev_sub (hk2 (x3 + (1 : Int32), sJ σ (pR G a0 3) x3 (0 : Int64)) h) (And.intro rfl (And.intro rfl (And.intro rfl (And.intro rfl trivial))))
def fX5_oneWordMore (N : Nat) (G : pG) (a0 : Nat) (a1 : Nat) (a2 : Int32) (σ : pS) : Option (Int32 × pS) := fX5_oneWordMore_b2 N G a0 a1 a2 ((0 : Int32), σ)
set_option maxRecDepth 100000 in
set_option maxHeartbeats 4000000 in
theorem tX5_oneWordMore {N : Nat} {G : pG} {SK : Nat → Nat} {a0 : Nat} {a1 : Nat} {a2 : Int32} {σ : pS} {r : Int32 × pS} (hW : WT G) (i0 : Is G a0 5) (i1 : Is G a1 9) (h : fX5_oneWordMore N G a0 a1 a2 σ = some r) : Dn miX5_oneWordMore yX5_oneWordMore 5 G SK [.ref a0, .ref a1, .int a2] σ (some (.int r.1)) r.2 := by
  unfold fX5_oneWordMore at h
  refine dn_of (lv := [some (.ref a0), some (.ref a1), some (.int a2), none, none, none, none]) (by decide) rfl rfl (Nat.le_of_ble_eq_true rfl) rfl ?_
  refine ev_iconst (v := 0) dc_X5_oneWordMore_0 (by decide) ?_
  refine ev_istore_n (lv' := [some (.ref a0), some (.ref a1), some (.int a2), some (.int (0 : Int32)), none, none, none]) dc_X5_oneWordMore_1 rfl (by decide) rfl ?_
  exact ev_sub (tX5_oneWordMore_b2 (b := ((0 : Int32), σ)) hW i0 i1 h) (And.intro rfl (And.intro rfl (And.intro rfl (And.intro rfl trivial))))
theorem dc_X5_open_0 : Dc miX5_open 0 (.aload_n 0) 1 1 := ⟨by decide +kernel, rfl⟩
theorem dc_X5_open_1 : Dc miX5_open 1 (.getfield 12) 3 4 := ⟨by decide +kernel, rfl⟩
theorem dc_X5_open_4 : Dc miX5_open 4 (.aload_n 1) 1 5 := ⟨by decide +kernel, rfl⟩
theorem dc_X5_open_5 : Dc miX5_open 5 (.invokevirtual 47) 3 8 := ⟨by decide +kernel, rfl⟩
theorem dc_X5_open_8 : Dc miX5_open 8 (.iconst 0) 1 9 := ⟨by decide +kernel, rfl⟩
theorem dc_X5_open_9 : Dc miX5_open 9 (.istore_n 2) 1 10 := ⟨by decide +kernel, rfl⟩
theorem dc_X5_open_10 : Dc miX5_open 10 (.iload_n 2) 1 11 := ⟨by decide +kernel, rfl⟩
theorem dc_X5_open_11 : Dc miX5_open 11 (.bipush 100) 2 13 := ⟨by decide +kernel, rfl⟩
theorem dc_X5_open_13 : Dc miX5_open 13 (.if_icmp .ge 40) 3 16 := ⟨by decide +kernel, rfl⟩
theorem dc_X5_open_16 : Dc miX5_open 16 (.aload_n 0) 1 17 := ⟨by decide +kernel, rfl⟩
theorem dc_X5_open_17 : Dc miX5_open 17 (.getfield 22) 3 20 := ⟨by decide +kernel, rfl⟩
theorem dc_X5_open_20 : Dc miX5_open 20 (.iload_n 2) 1 21 := ⟨by decide +kernel, rfl⟩
theorem dc_X5_open_21 : Dc miX5_open 21 (.iload_n 2) 1 22 := ⟨by decide +kernel, rfl⟩
theorem dc_X5_open_22 : Dc miX5_open 22 (.aload_n 1) 1 23 := ⟨by decide +kernel, rfl⟩
theorem dc_X5_open_23 : Dc miX5_open 23 (.getfield 50) 3 26 := ⟨by decide +kernel, rfl⟩
theorem dc_X5_open_26 : Dc miX5_open 26 (.if_icmp .ne 7) 3 29 := ⟨by decide +kernel, rfl⟩
theorem dc_X5_open_29 : Dc miX5_open 29 (.lconst 1) 1 30 := ⟨by decide +kernel, rfl⟩
theorem dc_X5_open_30 : Dc miX5_open 30 (.goto 4) 3 33 := ⟨by decide +kernel, rfl⟩
theorem dc_X5_open_33 : Dc miX5_open 33 (.lconst 0) 1 34 := ⟨by decide +kernel, rfl⟩
theorem dc_X5_open_34 : Dc miX5_open 34 (.lastore) 1 35 := ⟨by decide +kernel, rfl⟩
theorem dc_X5_open_35 : Dc miX5_open 35 (.aload_n 0) 1 36 := ⟨by decide +kernel, rfl⟩
theorem dc_X5_open_36 : Dc miX5_open 36 (.getfield 18) 3 39 := ⟨by decide +kernel, rfl⟩
theorem dc_X5_open_39 : Dc miX5_open 39 (.iload_n 2) 1 40 := ⟨by decide +kernel, rfl⟩
theorem dc_X5_open_40 : Dc miX5_open 40 (.aload_n 0) 1 41 := ⟨by decide +kernel, rfl⟩
theorem dc_X5_open_41 : Dc miX5_open 41 (.getfield 22) 3 44 := ⟨by decide +kernel, rfl⟩
theorem dc_X5_open_44 : Dc miX5_open 44 (.iload_n 2) 1 45 := ⟨by decide +kernel, rfl⟩
theorem dc_X5_open_45 : Dc miX5_open 45 (.laload) 1 46 := ⟨by decide +kernel, rfl⟩
theorem dc_X5_open_46 : Dc miX5_open 46 (.lastore) 1 47 := ⟨by decide +kernel, rfl⟩
theorem dc_X5_open_47 : Dc miX5_open 47 (.iinc 2 1) 3 50 := ⟨by decide +kernel, rfl⟩
theorem dc_X5_open_50 : Dc miX5_open 50 (.goto (-40)) 3 53 := ⟨by decide +kernel, rfl⟩
theorem dc_X5_open_53 : Dc miX5_open 53 (.return_) 1 54 := ⟨by decide +kernel, rfl⟩
def fX5_open_b34 (N : Nat) (G : pG) (k10 : Int32 × pS → Option (pS)) (a0 : Nat) (a1 : Nat) (x2 : Int32) (y0 : Nat) (y1 : Int32) (y2 : Int64) (σ : pS) : Option (pS) := ck (inB y1 (pN G y0)) (ck (inB x2 (pN G (pR G a0 2))) (ck (inB x2 (pN G (pR G a0 1))) (k10 (x2 + (1 : Int32), sJ (sJ σ y0 y1 y2) (pR G a0 1) x2 (gJ (sJ σ y0 y1 y2) (pR G a0 2) x2)))))
set_option maxRecDepth 100000 in
set_option maxHeartbeats 4000000 in
theorem tX5_open_b34 {N : Nat} {G : pG} {SK : Nat → Nat} {k10 : Int32 × pS → Option (pS)} {a0 : Nat} {a1 : Nat} {x2 : Int32} {y0 : Nat} {y1 : Int32} {y2 : Int64} {σ : pS} {r : pS} (hW : WT G) (i0 : Is G a0 5) (i1 : Is G a1 3) (w0 : Is G y0 14) (hk10 : ∀ b : Int32 × pS, k10 b = some r → Ev miX5_open (2, 0, 0) G (Zp G none r) SK (0, 0) 10 [some (.ref a0), some (.ref a1), some (.int b.1)] [] b.2) (h : fX5_open_b34 N G k10 a0 a1 x2 y0 y1 y2 σ = some r) : Ev miX5_open (2, 0, 0) G (Zp G none r) SK (0, 0) 34 [some (.ref a0), some (.ref a1), some (.int x2)] [.long y2, .int y1, .ref y0] σ := by
  unfold fX5_open_b34 at h
  refine ev_last dc_X5_open_34 w0 h (fun h => ?_)
  refine ev_aload_n dc_X5_open_35 rfl ?_
  refine ev_getR dc_X5_open_36 fi_X5_18 rfl i0 ?_
  refine ev_iload_n dc_X5_open_39 rfl ?_
  refine ev_aload_n dc_X5_open_40 rfl ?_
  refine ev_getR dc_X5_open_41 fi_X5_22 rfl i0 ?_
  refine ev_iload_n dc_X5_open_44 rfl ?_
  refine ev_lald dc_X5_open_45 (wt hW i0 2 rfl rfl) h (fun h => ?_)
  refine ev_last dc_X5_open_46 (wt hW i0 1 rfl rfl) h (fun h => ?_)
  refine ev_iinc (v := 1) (lv' := [some (.ref a0), some (.ref a1), some (.int (x2 + (1 : Int32)))]) dc_X5_open_47 rfl (by decide) rfl (by decide) rfl ?_
  refine ev_goto (tgt := 10) dc_X5_open_50 (by decide) ?_
  exact ev_sub (hk10 (x2 + (1 : Int32), sJ (sJ σ y0 y1 y2) (pR G a0 1) x2 (gJ (sJ σ y0 y1 y2) (pR G a0 2) x2)) h) (And.intro rfl (And.intro rfl (And.intro rfl trivial)))
def fX5_open_b10 (N : Nat) (G : pG) (a0 : Nat) (a1 : Nat) : (Int32 × pS) → Option (pS) := lp (fun (k10 : Int32 × pS → Option (pS)) (b : Int32 × pS) => if (100 : Int32) ≤ b.1 then (some b.2) else (if b.1 = (b.2.1 a1 0) then (fX5_open_b34 N G k10 a0 a1 b.1 (pR G a0 2) b.1 (1 : Int64) b.2) else (fX5_open_b34 N G k10 a0 a1 b.1 (pR G a0 2) b.1 (0 : Int64) b.2))) N
set_option maxRecDepth 100000 in
set_option maxHeartbeats 4000000 in
theorem tX5_open_b10 {N : Nat} {G : pG} {SK : Nat → Nat} {a0 : Nat} {a1 : Nat} {b : Int32 × pS} {r : pS} (hW : WT G) (i0 : Is G a0 5) (i1 : Is G a1 3) (h : fX5_open_b10 N G a0 a1 b = some r) : Ev miX5_open (2, 0, 0) G (Zp G none r) SK (0, 0) 10 [some (.ref a0), some (.ref a1), some (.int b.1)] [] b.2 := by
  unfold fX5_open_b10 at h
  refine lp_ind (P := fun b r9 => r9 = r → Ev miX5_open (2, 0, 0) G (Zp G none r) SK (0, 0) 10 [some (.ref a0), some (.ref a1), some (.int b.1)] [] b.2) (fun k10 b r9 ih h9 e9 => ?_) N b r h rfl
  clear h
  subst e9
  have h := h9
  clear h9
  have hk10 : ∀ b : Int32 × pS, k10 b = some r9 → Ev miX5_open (2, 0, 0) G (Zp G none r9) SK (0, 0) 10 [some (.ref a0), some (.ref a1), some (.int b.1)] [] b.2 := fun b hb => ih b r9 hb rfl
  clear ih
  obtain ⟨x2, σ⟩ := b
  dsimp only at h ⊢
  refine ev_iload_n dc_X5_open_10 rfl ?_
  refine ev_bipush (v := 100) dc_X5_open_11 (by decide) ?_
  refine ev_icmp_ge (tgt := 53) dc_X5_open_13 (by decide) h (fun h => ?_) (fun h => ?_)
  · cases h
    exact ev_vret dc_X5_open_53 rfl rfl rfl
  · refine ev_aload_n dc_X5_open_16 rfl ?_
    refine ev_getR dc_X5_open_17 fi_X5_22 rfl i0 ?_
    refine ev_iload_n dc_X5_open_20 rfl ?_
    refine ev_iload_n dc_X5_open_21 rfl ?_
    refine ev_aload_n dc_X5_open_22 rfl ?_
    refine ev_getI dc_X5_open_23 fi_X5_50 rfl i1 ?_
    refine ev_icmp_ne (tgt := 33) dc_X5_open_26 (by decide) h (fun h => ?_) (fun h => ?_)
    · refine ev_lconst (v := 1) dc_X5_open_29 (by decide) ?_
      refine ev_goto (tgt := 34) dc_X5_open_30 (by decide) ?_
      exact ev_sub (tX5_open_b34 hW i0 i1 (wt hW i0 2 rfl rfl) hk10 h) (And.intro rfl (And.intro rfl (And.intro rfl trivial)))
    · refine ev_lconst (v := 0) dc_X5_open_33 (by decide) ?_
      exact ev_sub (tX5_open_b34 hW i0 i1 (wt hW i0 2 rfl rfl) hk10 h) (And.intro rfl (And.intro rfl (And.intro rfl trivial)))
def fX5_open (N : Nat) (G : pG) (a0 : Nat) (a1 : Nat) (σ : pS) : Option (pS) := (fX3_copyThoughtFrom N G (pR G a0 0) a1 σ).bind (fun q1 => fX5_open_b10 N G a0 a1 ((0 : Int32), q1))
set_option maxRecDepth 100000 in
set_option maxHeartbeats 4000000 in
theorem tX5_open {N : Nat} {G : pG} {SK : Nat → Nat} {a0 : Nat} {a1 : Nat} {σ : pS} {r : pS} (hW : WT G) (i0 : Is G a0 5) (i1 : Is G a1 3) (h : fX5_open N G a0 a1 σ = some r) : Dn miX5_open yX5_open 2 G SK [.ref a0, .ref a1] σ none r := by
  unfold fX5_open at h
  refine dn_of (lv := [some (.ref a0), some (.ref a1), none]) (by decide) rfl rfl (Nat.le_of_ble_eq_true rfl) rfl ?_
  refine ev_aload_n dc_X5_open_0 rfl ?_
  refine ev_getR dc_X5_open_1 fi_X5_12 rfl i0 ?_
  refine ev_aload_n dc_X5_open_4 rfl ?_
  obtain ⟨q1, hq1, h⟩ := Option.bind_eq_some_iff.mp h
  refine ev_callV (av := [.ref a1]) (st := []) (st1 := []) dc_X5_open_5 (tX3_copyThoughtFrom hW (wt hW i0 0 rfl rfl) i1 hq1) mw_1359 cy_X3_copyThoughtFrom (wt hW i0 0 rfl rfl) (by decide) rfl rfl rfl rfl (Nat.le_of_ble_eq_true rfl) (Nat.le_of_ble_eq_true rfl) ⟨Nat.le_refl _, Nat.le_refl _⟩ ?_
  refine ev_iconst (v := 0) dc_X5_open_8 (by decide) ?_
  refine ev_istore_n (lv' := [some (.ref a0), some (.ref a1), some (.int (0 : Int32))]) dc_X5_open_9 rfl (by decide) rfl ?_
  exact ev_sub (tX5_open_b10 (b := ((0 : Int32), q1)) hW i0 i1 h) (And.intro rfl (And.intro rfl (And.intro rfl trivial)))
theorem dc_X5_shortest_0 : Dc miX5_shortest 0 (.aload_n 0) 1 1 := ⟨by decide +kernel, rfl⟩
theorem dc_X5_shortest_1 : Dc miX5_shortest 1 (.aload_n 1) 1 2 := ⟨by decide +kernel, rfl⟩
theorem dc_X5_shortest_2 : Dc miX5_shortest 2 (.getfield 28) 3 5 := ⟨by decide +kernel, rfl⟩
theorem dc_X5_shortest_5 : Dc miX5_shortest 5 (.invokevirtual 33) 3 8 := ⟨by decide +kernel, rfl⟩
theorem dc_X5_shortest_8 : Dc miX5_shortest 8 (.iconst 1) 1 9 := ⟨by decide +kernel, rfl⟩
theorem dc_X5_shortest_9 : Dc miX5_shortest 9 (.istore_n 3) 1 10 := ⟨by decide +kernel, rfl⟩
theorem dc_X5_shortest_10 : Dc miX5_shortest 10 (.iload_n 3) 1 11 := ⟨by decide +kernel, rfl⟩
theorem dc_X5_shortest_11 : Dc miX5_shortest 11 (.bipush 20) 2 13 := ⟨by decide +kernel, rfl⟩
theorem dc_X5_shortest_13 : Dc miX5_shortest 13 (.if_icmp .gt 35) 3 16 := ⟨by decide +kernel, rfl⟩
theorem dc_X5_shortest_16 : Dc miX5_shortest 16 (.aload_n 0) 1 17 := ⟨by decide +kernel, rfl⟩
theorem dc_X5_shortest_17 : Dc miX5_shortest 17 (.aload_n 1) 1 18 := ⟨by decide +kernel, rfl⟩
theorem dc_X5_shortest_18 : Dc miX5_shortest 18 (.iload_n 2) 1 19 := ⟨by decide +kernel, rfl⟩
theorem dc_X5_shortest_19 : Dc miX5_shortest 19 (.invokevirtual 37) 3 22 := ⟨by decide +kernel, rfl⟩
theorem dc_X5_shortest_22 : Dc miX5_shortest 22 (.ifCond .eq 5) 3 25 := ⟨by decide +kernel, rfl⟩
theorem dc_X5_shortest_25 : Dc miX5_shortest 25 (.iload_n 3) 1 26 := ⟨by decide +kernel, rfl⟩
theorem dc_X5_shortest_26 : Dc miX5_shortest 26 (.ireturn) 1 27 := ⟨by decide +kernel, rfl⟩
theorem dc_X5_shortest_27 : Dc miX5_shortest 27 (.aload_n 0) 1 28 := ⟨by decide +kernel, rfl⟩
theorem dc_X5_shortest_28 : Dc miX5_shortest 28 (.getfield 25) 3 31 := ⟨by decide +kernel, rfl⟩
theorem dc_X5_shortest_31 : Dc miX5_shortest 31 (.iconst 0) 1 32 := ⟨by decide +kernel, rfl⟩
theorem dc_X5_shortest_32 : Dc miX5_shortest 32 (.aload_n 0) 1 33 := ⟨by decide +kernel, rfl⟩
theorem dc_X5_shortest_33 : Dc miX5_shortest 33 (.getfield 22) 3 36 := ⟨by decide +kernel, rfl⟩
theorem dc_X5_shortest_36 : Dc miX5_shortest 36 (.iconst 0) 1 37 := ⟨by decide +kernel, rfl⟩
theorem dc_X5_shortest_37 : Dc miX5_shortest 37 (.bipush 100) 2 39 := ⟨by decide +kernel, rfl⟩
theorem dc_X5_shortest_39 : Dc miX5_shortest 39 (.invokestatic 41) 3 42 := ⟨by decide +kernel, rfl⟩
theorem dc_X5_shortest_42 : Dc miX5_shortest 42 (.iinc 3 1) 3 45 := ⟨by decide +kernel, rfl⟩
theorem dc_X5_shortest_45 : Dc miX5_shortest 45 (.goto (-35)) 3 48 := ⟨by decide +kernel, rfl⟩
theorem dc_X5_shortest_48 : Dc miX5_shortest 48 (.iconst (-1)) 1 49 := ⟨by decide +kernel, rfl⟩
theorem dc_X5_shortest_49 : Dc miX5_shortest 49 (.ireturn) 1 50 := ⟨by decide +kernel, rfl⟩
def fX5_shortest_b10 (N : Nat) (G : pG) (a0 : Nat) (a1 : Nat) (a2 : Int32) : (Int32 × pS) → Option (Int32 × pS) := lp (fun (k10 : Int32 × pS → Option (Int32 × pS)) (b : Int32 × pS) => if (20 : Int32) < b.1 then (some ((-1 : Int32), b.2)) else ((fX5_oneWordMore N G a0 a1 a2 b.2).bind (fun q1 => if q1.1 = 0 then (ck (cpB (0 : Int32) (0 : Int32) (100 : Int32) (pN G (pR G a0 3)) (pN G (pR G a0 2))) (k10 (b.1 + (1 : Int32), cpJ q1.2 (pR G a0 3) (0 : Int32) (pR G a0 2) (0 : Int32) (100 : Int32)))) else (some (b.1, q1.2))))) N
set_option maxRecDepth 100000 in
set_option maxHeartbeats 4000000 in
theorem tX5_shortest_b10 {N : Nat} {G : pG} {SK : Nat → Nat} {a0 : Nat} {a1 : Nat} {a2 : Int32} {b : Int32 × pS} {r : Int32 × pS} (hW : WT G) (i0 : Is G a0 5) (i1 : Is G a1 9) (h : fX5_shortest_b10 N G a0 a1 a2 b = some r) : Ev miX5_shortest (6, 0, 0) G (Zp G (some (.int r.1)) r.2) SK (0, 0) 10 [some (.ref a0), some (.ref a1), some (.int a2), some (.int b.1)] [] b.2 := by
  unfold fX5_shortest_b10 at h
  refine lp_ind (P := fun b r9 => r9 = r → Ev miX5_shortest (6, 0, 0) G (Zp G (some (.int r.1)) r.2) SK (0, 0) 10 [some (.ref a0), some (.ref a1), some (.int a2), some (.int b.1)] [] b.2) (fun k10 b r9 ih h9 e9 => ?_) N b r h rfl
  clear h
  subst e9
  have h := h9
  clear h9
  have hk10 : ∀ b : Int32 × pS, k10 b = some r9 → Ev miX5_shortest (6, 0, 0) G (Zp G (some (.int r9.1)) r9.2) SK (0, 0) 10 [some (.ref a0), some (.ref a1), some (.int a2), some (.int b.1)] [] b.2 := fun b hb => ih b r9 hb rfl
  clear ih
  obtain ⟨x3, σ⟩ := b
  dsimp only at h ⊢
  refine ev_iload_n dc_X5_shortest_10 rfl ?_
  refine ev_bipush (v := 20) dc_X5_shortest_11 (by decide) ?_
  refine ev_icmp_gt (tgt := 48) dc_X5_shortest_13 (by decide) h (fun h => ?_) (fun h => ?_)
  · refine ev_iconst (v := (-1)) dc_X5_shortest_48 (by decide) ?_
    cases h
    exact ev_iret dc_X5_shortest_49 rfl rfl rfl
  · refine ev_aload_n dc_X5_shortest_16 rfl ?_
    refine ev_aload_n dc_X5_shortest_17 rfl ?_
    refine ev_iload_n dc_X5_shortest_18 rfl ?_
    obtain ⟨q1, hq1, h⟩ := Option.bind_eq_some_iff.mp h
    refine ev_callV (av := [.ref a1, .int a2]) (st := []) (st1 := [.int q1.1]) dc_X5_shortest_19 (tX5_oneWordMore hW i0 i1 hq1) mw_1360 cy_X5_oneWordMore i0 (by decide) rfl rfl rfl rfl (Nat.le_of_ble_eq_true rfl) (Nat.le_of_ble_eq_true rfl) ⟨Nat.le_refl _, Nat.le_refl _⟩ ?_
    refine ev_if_eq (tgt := 27) dc_X5_shortest_22 (by decide) h (fun h => ?_) (fun h => ?_)
    · refine ev_aload_n dc_X5_shortest_27 rfl ?_
      refine ev_getR dc_X5_shortest_28 fi_X5_25 rfl i0 ?_
      refine ev_iconst (v := 0) dc_X5_shortest_31 (by decide) ?_
      refine ev_aload_n dc_X5_shortest_32 rfl ?_
      refine ev_getR dc_X5_shortest_33 fi_X5_22 rfl i0 ?_
      refine ev_iconst (v := 0) dc_X5_shortest_36 (by decide) ?_
      refine ev_bipush (v := 100) dc_X5_shortest_37 (by decide) ?_
      refine ev_cpJ dc_X5_shortest_39 mw_1381 (wt hW i0 3 rfl rfl) (wt hW i0 2 rfl rfl) (Nat.le_of_ble_eq_true rfl) (Nat.le_of_ble_eq_true rfl) h (fun h => ?_)
      refine ev_iinc (v := 1) (lv' := [some (.ref a0), some (.ref a1), some (.int a2), some (.int (x3 + (1 : Int32)))]) dc_X5_shortest_42 rfl (by decide) rfl (by decide) rfl ?_
      refine ev_goto (tgt := 10) dc_X5_shortest_45 (by decide) ?_
      exact ev_sub (hk10 (x3 + (1 : Int32), cpJ q1.2 (pR G a0 3) (0 : Int32) (pR G a0 2) (0 : Int32) (100 : Int32)) h) (And.intro rfl (And.intro rfl (And.intro rfl (And.intro rfl trivial))))
    · refine ev_iload_n dc_X5_shortest_25 rfl ?_
      cases h
      exact ev_iret dc_X5_shortest_26 rfl rfl rfl
def fX5_shortest (N : Nat) (G : pG) (a0 : Nat) (a1 : Nat) (a2 : Int32) (σ : pS) : Option (Int32 × pS) := (fX5_open N G a0 (pR G a1 2) σ).bind (fun q2 => fX5_shortest_b10 N G a0 a1 a2 ((1 : Int32), q2))
set_option maxRecDepth 100000 in
set_option maxHeartbeats 4000000 in
theorem tX5_shortest {N : Nat} {G : pG} {SK : Nat → Nat} {a0 : Nat} {a1 : Nat} {a2 : Int32} {σ : pS} {r : Int32 × pS} (hW : WT G) (i0 : Is G a0 5) (i1 : Is G a1 9) (h : fX5_shortest N G a0 a1 a2 σ = some r) : Dn miX5_shortest yX5_shortest 6 G SK [.ref a0, .ref a1, .int a2] σ (some (.int r.1)) r.2 := by
  unfold fX5_shortest at h
  refine dn_of (lv := [some (.ref a0), some (.ref a1), some (.int a2), none]) (by decide) rfl rfl (Nat.le_of_ble_eq_true rfl) rfl ?_
  refine ev_aload_n dc_X5_shortest_0 rfl ?_
  refine ev_aload_n dc_X5_shortest_1 rfl ?_
  refine ev_getR dc_X5_shortest_2 fi_X5_28 rfl i1 ?_
  obtain ⟨q2, hq2, h⟩ := Option.bind_eq_some_iff.mp h
  refine ev_callV (av := [.ref (pR G a1 2)]) (st := []) (st1 := []) dc_X5_shortest_5 (tX5_open hW i0 (wt hW i1 2 rfl rfl) hq2) mw_1355 cy_X5_open i0 (by decide) rfl rfl rfl rfl (Nat.le_of_ble_eq_true rfl) (Nat.le_of_ble_eq_true rfl) ⟨Nat.le_refl _, Nat.le_refl _⟩ ?_
  refine ev_iconst (v := 1) dc_X5_shortest_8 (by decide) ?_
  refine ev_istore_n (lv' := [some (.ref a0), some (.ref a1), some (.int a2), some (.int (1 : Int32))]) dc_X5_shortest_9 rfl (by decide) rfl ?_
  exact ev_sub (tX5_shortest_b10 (b := ((1 : Int32), q2)) hW i0 i1 h) (And.intro rfl (And.intro rfl (And.intro rfl (And.intro rfl trivial))))
theorem dc_X6_easedOn_0 : Dc miX6_easedOn 0 (.aload_n 0) 1 1 := ⟨by decide +kernel, rfl⟩
theorem dc_X6_easedOn_1 : Dc miX6_easedOn 1 (.getfield 12) 3 4 := ⟨by decide +kernel, rfl⟩
theorem dc_X6_easedOn_4 : Dc miX6_easedOn 4 (.iload_n 3) 1 5 := ⟨by decide +kernel, rfl⟩
theorem dc_X6_easedOn_5 : Dc miX6_easedOn 5 (.putfield 41) 3 8 := ⟨by decide +kernel, rfl⟩
theorem dc_X6_easedOn_8 : Dc miX6_easedOn 8 (.aload_n 0) 1 9 := ⟨by decide +kernel, rfl⟩
theorem dc_X6_easedOn_9 : Dc miX6_easedOn 9 (.getfield 12) 3 12 := ⟨by decide +kernel, rfl⟩
theorem dc_X6_easedOn_12 : Dc miX6_easedOn 12 (.aload_n 0) 1 13 := ⟨by decide +kernel, rfl⟩
theorem dc_X6_easedOn_13 : Dc miX6_easedOn 13 (.getfield 25) 3 16 := ⟨by decide +kernel, rfl⟩
theorem dc_X6_easedOn_16 : Dc miX6_easedOn 16 (.iload_n 2) 1 17 := ⟨by decide +kernel, rfl⟩
theorem dc_X6_easedOn_17 : Dc miX6_easedOn 17 (.iadd) 1 18 := ⟨by decide +kernel, rfl⟩
theorem dc_X6_easedOn_18 : Dc miX6_easedOn 18 (.putfield 86) 3 21 := ⟨by decide +kernel, rfl⟩
theorem dc_X6_easedOn_21 : Dc miX6_easedOn 21 (.iconst 0) 1 22 := ⟨by decide +kernel, rfl⟩
theorem dc_X6_easedOn_22 : Dc miX6_easedOn 22 (.iload_n 3) 1 23 := ⟨by decide +kernel, rfl⟩
theorem dc_X6_easedOn_23 : Dc miX6_easedOn 23 (.aload_n 1) 1 24 := ⟨by decide +kernel, rfl⟩
theorem dc_X6_easedOn_24 : Dc miX6_easedOn 24 (.aload_n 0) 1 25 := ⟨by decide +kernel, rfl⟩
theorem dc_X6_easedOn_25 : Dc miX6_easedOn 25 (.getfield 12) 3 28 := ⟨by decide +kernel, rfl⟩
theorem dc_X6_easedOn_28 : Dc miX6_easedOn 28 (.iload 4) 2 30 := ⟨by decide +kernel, rfl⟩
theorem dc_X6_easedOn_30 : Dc miX6_easedOn 30 (.invokevirtual 105) 3 33 := ⟨by decide +kernel, rfl⟩
theorem dc_X6_easedOn_33 : Dc miX6_easedOn 33 (.isub) 1 34 := ⟨by decide +kernel, rfl⟩
theorem dc_X6_easedOn_34 : Dc miX6_easedOn 34 (.invokestatic 102) 3 37 := ⟨by decide +kernel, rfl⟩
theorem dc_X6_easedOn_37 : Dc miX6_easedOn 37 (.ireturn) 1 38 := ⟨by decide +kernel, rfl⟩
def fX6_easedOn (N : Nat) (G : pG) (a0 : Nat) (a1 : Nat) (a2 : Int32) (a3 : Int32) (a4 : Int32) (σ : pS) : Option (Int32 × pS) := (fX10_easeOf N G a1 (pR G a0 0) a4 (putF (putF σ (pR G a0 0) 0 a3) (pR G a0 0) 1 (((putF σ (pR G a0 0) 0 a3).1 a0 3) + a2))).bind (fun q1 => some (jmax (0 : Int32) (a3 - q1.1), q1.2))
set_option maxRecDepth 100000 in
set_option maxHeartbeats 4000000 in
theorem tX6_easedOn {N : Nat} {G : pG} {SK : Nat → Nat} {a0 : Nat} {a1 : Nat} {a2 : Int32} {a3 : Int32} {a4 : Int32} {σ : pS} {r : Int32 × pS} (hW : WT G) (i0 : Is G a0 6) (i1 : Is G a1 9) (h : fX6_easedOn N G a0 a1 a2 a3 a4 σ = some r) : Dn miX6_easedOn yX6_easedOn 4 G SK [.ref a0, .ref a1, .int a2, .int a3, .int a4] σ (some (.int r.1)) r.2 := by
  unfold fX6_easedOn at h
  refine dn_of (lv := [some (.ref a0), some (.ref a1), some (.int a2), some (.int a3), some (.int a4)]) (by decide) rfl rfl (Nat.le_of_ble_eq_true rfl) rfl ?_
  refine ev_aload_n dc_X6_easedOn_0 rfl ?_
  refine ev_getR dc_X6_easedOn_1 fi_X6_12 rfl i0 ?_
  refine ev_iload_n dc_X6_easedOn_4 rfl ?_
  refine ev_putI dc_X6_easedOn_5 fi_X6_41 rfl (wt hW i0 0 rfl rfl) ?_
  refine ev_aload_n dc_X6_easedOn_8 rfl ?_
  refine ev_getR dc_X6_easedOn_9 fi_X6_12 rfl i0 ?_
  refine ev_aload_n dc_X6_easedOn_12 rfl ?_
  refine ev_getI dc_X6_easedOn_13 fi_X6_25 rfl i0 ?_
  refine ev_iload_n dc_X6_easedOn_16 rfl ?_
  refine ev_iadd dc_X6_easedOn_17 ?_
  refine ev_putI dc_X6_easedOn_18 fi_X6_86 rfl (wt hW i0 0 rfl rfl) ?_
  refine ev_iconst (v := 0) dc_X6_easedOn_21 (by decide) ?_
  refine ev_iload_n dc_X6_easedOn_22 rfl ?_
  refine ev_aload_n dc_X6_easedOn_23 rfl ?_
  refine ev_aload_n dc_X6_easedOn_24 rfl ?_
  refine ev_getR dc_X6_easedOn_25 fi_X6_12 rfl i0 ?_
  refine ev_iload dc_X6_easedOn_28 rfl ?_
  obtain ⟨q1, hq1, h⟩ := Option.bind_eq_some_iff.mp h
  refine ev_callV (av := [.ref (pR G a0 0), .int a4]) (st := [.int a3, .int (0 : Int32)]) (st1 := [.int q1.1, .int a3, .int (0 : Int32)]) dc_X6_easedOn_30 (tX10_easeOf hW i1 (wt hW i0 0 rfl rfl) hq1) mw_1306 cy_X10_easeOf i1 (by decide) rfl rfl rfl rfl (Nat.le_of_ble_eq_true rfl) (Nat.le_of_ble_eq_true rfl) ⟨Nat.le_refl _, Nat.le_refl _⟩ ?_
  refine ev_isub dc_X6_easedOn_33 ?_
  refine ev_max dc_X6_easedOn_34 mw_1307 (Nat.le_of_ble_eq_true rfl) (Nat.le_of_ble_eq_true rfl) ⟨Nat.le_refl _, Nat.le_refl _⟩ ?_
  cases h
  exact ev_iret dc_X6_easedOn_37 rfl rfl rfl
theorem dc_X6_oneMore_0 : Dc miX6_oneMore 0 (.sipush 1000) 3 3 := ⟨by decide +kernel, rfl⟩
theorem dc_X6_oneMore_3 : Dc miX6_oneMore 3 (.iload_n 0) 1 4 := ⟨by decide +kernel, rfl⟩
theorem dc_X6_oneMore_4 : Dc miX6_oneMore 4 (.iconst 1) 1 5 := ⟨by decide +kernel, rfl⟩
theorem dc_X6_oneMore_5 : Dc miX6_oneMore 5 (.iadd) 1 6 := ⟨by decide +kernel, rfl⟩
theorem dc_X6_oneMore_6 : Dc miX6_oneMore 6 (.invokestatic 89) 3 9 := ⟨by decide +kernel, rfl⟩
theorem dc_X6_oneMore_9 : Dc miX6_oneMore 9 (.ireturn) 1 10 := ⟨by decide +kernel, rfl⟩
def fX6_oneMore (N : Nat) (G : pG) (a0 : Int32) (σ : pS) : Option (Int32) := some (jmin (1000 : Int32) (a0 + (1 : Int32)))
set_option maxRecDepth 100000 in
set_option maxHeartbeats 4000000 in
theorem tX6_oneMore {N : Nat} {G : pG} {SK : Nat → Nat} {a0 : Int32} {σ : pS} {r : Int32} (hW : WT G) (h : fX6_oneMore N G a0 σ = some r) : Dn miX6_oneMore yX6_oneMore 1 G SK [.int a0] σ (some (.int r)) σ := by
  unfold fX6_oneMore at h
  refine dn_of (lv := [some (.int a0)]) (by decide) rfl rfl (Nat.le_of_ble_eq_true rfl) rfl ?_
  refine ev_sipush (v := 1000) dc_X6_oneMore_0 (by decide) ?_
  refine ev_iload_n dc_X6_oneMore_3 rfl ?_
  refine ev_iconst (v := 1) dc_X6_oneMore_4 (by decide) ?_
  refine ev_iadd dc_X6_oneMore_5 ?_
  refine ev_min dc_X6_oneMore_6 mw_1311 (Nat.le_of_ble_eq_true rfl) (Nat.le_of_ble_eq_true rfl) ⟨Nat.le_refl _, Nat.le_refl _⟩ ?_
  cases h
  exact ev_iret dc_X6_oneMore_9 rfl rfl rfl
theorem dc_X6_isEnemyNear_0 : Dc miX6_isEnemyNear 0 (.aload_n 0) 1 1 := ⟨by decide +kernel, rfl⟩
theorem dc_X6_isEnemyNear_1 : Dc miX6_isEnemyNear 1 (.getfield 55) 3 4 := ⟨by decide +kernel, rfl⟩
theorem dc_X6_isEnemyNear_4 : Dc miX6_isEnemyNear 4 (.getfield 109) 3 7 := ⟨by decide +kernel, rfl⟩
theorem dc_X6_isEnemyNear_7 : Dc miX6_isEnemyNear 7 (.iload_n 1) 1 8 := ⟨by decide +kernel, rfl⟩
theorem dc_X6_isEnemyNear_8 : Dc miX6_isEnemyNear 8 (.invokestatic 112) 3 11 := ⟨by decide +kernel, rfl⟩
theorem dc_X6_isEnemyNear_11 : Dc miX6_isEnemyNear 11 (.iconst 1) 1 12 := ⟨by decide +kernel, rfl⟩
theorem dc_X6_isEnemyNear_12 : Dc miX6_isEnemyNear 12 (.if_icmp .ne 21) 3 15 := ⟨by decide +kernel, rfl⟩
theorem dc_X6_isEnemyNear_15 : Dc miX6_isEnemyNear 15 (.aload_n 0) 1 16 := ⟨by decide +kernel, rfl⟩
theorem dc_X6_isEnemyNear_16 : Dc miX6_isEnemyNear 16 (.getfield 36) 3 19 := ⟨by decide +kernel, rfl⟩
theorem dc_X6_isEnemyNear_19 : Dc miX6_isEnemyNear 19 (.getfield 116) 3 22 := ⟨by decide +kernel, rfl⟩
theorem dc_X6_isEnemyNear_22 : Dc miX6_isEnemyNear 22 (.iload_n 1) 1 23 := ⟨by decide +kernel, rfl⟩
theorem dc_X6_isEnemyNear_23 : Dc miX6_isEnemyNear 23 (.invokestatic 119) 3 26 := ⟨by decide +kernel, rfl⟩
theorem dc_X6_isEnemyNear_26 : Dc miX6_isEnemyNear 26 (.ifCond .eq 7) 3 29 := ⟨by decide +kernel, rfl⟩
theorem dc_X6_isEnemyNear_29 : Dc miX6_isEnemyNear 29 (.iconst 1) 1 30 := ⟨by decide +kernel, rfl⟩
theorem dc_X6_isEnemyNear_30 : Dc miX6_isEnemyNear 30 (.goto 4) 3 33 := ⟨by decide +kernel, rfl⟩
theorem dc_X6_isEnemyNear_33 : Dc miX6_isEnemyNear 33 (.iconst 0) 1 34 := ⟨by decide +kernel, rfl⟩
theorem dc_X6_isEnemyNear_34 : Dc miX6_isEnemyNear 34 (.ireturn) 1 35 := ⟨by decide +kernel, rfl⟩
def fX6_isEnemyNear (N : Nat) (G : pG) (a0 : Nat) (a1 : Int32) (σ : pS) : Option (Int32) := (fX11_at N G (pR G (pR G a0 0) 16) a1 σ).bind (fun q1 => if q1 = (1 : Int32) then ((fX11_has N G (σ.1 (pR G a0 2) 4) a1 σ).bind (fun q2 => if q2 = 0 then (some (0 : Int32)) else (some (1 : Int32)))) else (some (0 : Int32)))
set_option maxRecDepth 100000 in
set_option maxHeartbeats 4000000 in
theorem tX6_isEnemyNear {N : Nat} {G : pG} {SK : Nat → Nat} {a0 : Nat} {a1 : Int32} {σ : pS} {r : Int32} (hW : WT G) (i0 : Is G a0 9) (h : fX6_isEnemyNear N G a0 a1 σ = some r) : Dn miX6_isEnemyNear yX6_isEnemyNear 2 G SK [.ref a0, .int a1] σ (some (.int r)) σ := by
  unfold fX6_isEnemyNear at h
  refine dn_of (lv := [some (.ref a0), some (.int a1)]) (by decide) rfl rfl (Nat.le_of_ble_eq_true rfl) rfl ?_
  refine ev_aload_n dc_X6_isEnemyNear_0 rfl ?_
  refine ev_getR dc_X6_isEnemyNear_1 fi_X6_55 rfl i0 ?_
  refine ev_getR dc_X6_isEnemyNear_4 fi_X6_109 rfl (wt hW i0 0 rfl rfl) ?_
  refine ev_iload_n dc_X6_isEnemyNear_7 rfl ?_
  obtain ⟨q1, hq1, h⟩ := Option.bind_eq_some_iff.mp h
  refine ev_callN (av := [.ref (pR G (pR G a0 0) 16), .int a1]) (st := []) (st1 := [.int q1]) (host := "UnaskedName") dc_X6_isEnemyNear_8 (tX11_at hW (wt hW (wt hW i0 0 rfl rfl) 16 rfl rfl) hq1) (List.mem_of_getElem? (i := 20) rfl) cs_X11_at rfl rfl rfl (Nat.le_of_ble_eq_true rfl) (Nat.le_of_ble_eq_true rfl) ⟨Nat.le_refl _, Nat.le_refl _⟩ ?_
  refine ev_iconst (v := 1) dc_X6_isEnemyNear_11 (by decide) ?_
  refine ev_icmp_ne (tgt := 33) dc_X6_isEnemyNear_12 (by decide) h (fun h => ?_) (fun h => ?_)
  · refine ev_aload_n dc_X6_isEnemyNear_15 rfl ?_
    refine ev_getR dc_X6_isEnemyNear_16 fi_X6_36 rfl i0 ?_
    refine ev_getI dc_X6_isEnemyNear_19 fi_X6_116 rfl (wt hW i0 2 rfl rfl) ?_
    refine ev_iload_n dc_X6_isEnemyNear_22 rfl ?_
    obtain ⟨q2, hq2, h⟩ := Option.bind_eq_some_iff.mp h
    refine ev_callN (av := [.int (σ.1 (pR G a0 2) 4), .int a1]) (st := []) (st1 := [.int q2]) (host := "UnaskedName") dc_X6_isEnemyNear_23 (tX11_has hW hq2) (List.mem_of_getElem? (i := 21) rfl) cs_X11_has rfl rfl rfl (Nat.le_of_ble_eq_true rfl) (Nat.le_of_ble_eq_true rfl) ⟨Nat.le_refl _, Nat.le_refl _⟩ ?_
    refine ev_if_eq (tgt := 33) dc_X6_isEnemyNear_26 (by decide) h (fun h => ?_) (fun h => ?_)
    · refine ev_iconst (v := 0) dc_X6_isEnemyNear_33 (by decide) ?_
      cases h
      exact ev_zretc dc_X6_isEnemyNear_34 rfl rfl rfl rfl
    · refine ev_iconst (v := 1) dc_X6_isEnemyNear_29 (by decide) ?_
      refine ev_goto (tgt := 34) dc_X6_isEnemyNear_30 (by decide) ?_
      cases h
      exact ev_zretc dc_X6_isEnemyNear_34 rfl rfl rfl rfl
  · refine ev_iconst (v := 0) dc_X6_isEnemyNear_33 (by decide) ?_
    cases h
    exact ev_zretc dc_X6_isEnemyNear_34 rfl rfl rfl rfl
theorem dc_X6_latestBehind_0 : Dc miX6_latestBehind 0 (.iload_n 2) 1 1 := ⟨by decide +kernel, rfl⟩
theorem dc_X6_latestBehind_1 : Dc miX6_latestBehind 1 (.bipush 100) 2 3 := ⟨by decide +kernel, rfl⟩
theorem dc_X6_latestBehind_3 : Dc miX6_latestBehind 3 (.imul) 1 4 := ⟨by decide +kernel, rfl⟩
theorem dc_X6_latestBehind_4 : Dc miX6_latestBehind 4 (.iload_n 3) 1 5 := ⟨by decide +kernel, rfl⟩
theorem dc_X6_latestBehind_5 : Dc miX6_latestBehind 5 (.iadd) 1 6 := ⟨by decide +kernel, rfl⟩
theorem dc_X6_latestBehind_6 : Dc miX6_latestBehind 6 (.istore 4) 2 8 := ⟨by decide +kernel, rfl⟩
theorem dc_X6_latestBehind_8 : Dc miX6_latestBehind 8 (.iload_n 2) 1 9 := ⟨by decide +kernel, rfl⟩
theorem dc_X6_latestBehind_9 : Dc miX6_latestBehind 9 (.iconst 1) 1 10 := ⟨by decide +kernel, rfl⟩
theorem dc_X6_latestBehind_10 : Dc miX6_latestBehind 10 (.iadd) 1 11 := ⟨by decide +kernel, rfl⟩
theorem dc_X6_latestBehind_11 : Dc miX6_latestBehind 11 (.aload_n 0) 1 12 := ⟨by decide +kernel, rfl⟩
theorem dc_X6_latestBehind_12 : Dc miX6_latestBehind 12 (.getfield 29) 3 15 := ⟨by decide +kernel, rfl⟩
theorem dc_X6_latestBehind_15 : Dc miX6_latestBehind 15 (.if_icmp .ge 18) 3 18 := ⟨by decide +kernel, rfl⟩
theorem dc_X6_latestBehind_18 : Dc miX6_latestBehind 18 (.iload 4) 2 20 := ⟨by decide +kernel, rfl⟩
theorem dc_X6_latestBehind_20 : Dc miX6_latestBehind 20 (.ifCond .lt 13) 3 23 := ⟨by decide +kernel, rfl⟩
theorem dc_X6_latestBehind_23 : Dc miX6_latestBehind 23 (.iload 4) 2 25 := ⟨by decide +kernel, rfl⟩
theorem dc_X6_latestBehind_25 : Dc miX6_latestBehind 25 (.aload_n 0) 1 26 := ⟨by decide +kernel, rfl⟩
theorem dc_X6_latestBehind_26 : Dc miX6_latestBehind 26 (.getfield 22) 3 29 := ⟨by decide +kernel, rfl⟩
theorem dc_X6_latestBehind_29 : Dc miX6_latestBehind 29 (.arraylength) 1 30 := ⟨by decide +kernel, rfl⟩
theorem dc_X6_latestBehind_30 : Dc miX6_latestBehind 30 (.if_icmp .lt 7) 3 33 := ⟨by decide +kernel, rfl⟩
theorem dc_X6_latestBehind_33 : Dc miX6_latestBehind 33 (.sipush 1000) 3 36 := ⟨by decide +kernel, rfl⟩
theorem dc_X6_latestBehind_36 : Dc miX6_latestBehind 36 (.ireturn) 1 37 := ⟨by decide +kernel, rfl⟩
theorem dc_X6_latestBehind_37 : Dc miX6_latestBehind 37 (.aload_n 0) 1 38 := ⟨by decide +kernel, rfl⟩
theorem dc_X6_latestBehind_38 : Dc miX6_latestBehind 38 (.getfield 22) 3 41 := ⟨by decide +kernel, rfl⟩
theorem dc_X6_latestBehind_41 : Dc miX6_latestBehind 41 (.iload 4) 2 43 := ⟨by decide +kernel, rfl⟩
theorem dc_X6_latestBehind_43 : Dc miX6_latestBehind 43 (.iaload) 1 44 := ⟨by decide +kernel, rfl⟩
theorem dc_X6_latestBehind_44 : Dc miX6_latestBehind 44 (.iconst (-1)) 1 45 := ⟨by decide +kernel, rfl⟩
theorem dc_X6_latestBehind_45 : Dc miX6_latestBehind 45 (.if_icmp .eq 11) 3 48 := ⟨by decide +kernel, rfl⟩
theorem dc_X6_latestBehind_48 : Dc miX6_latestBehind 48 (.aload_n 0) 1 49 := ⟨by decide +kernel, rfl⟩
theorem dc_X6_latestBehind_49 : Dc miX6_latestBehind 49 (.getfield 22) 3 52 := ⟨by decide +kernel, rfl⟩
theorem dc_X6_latestBehind_52 : Dc miX6_latestBehind 52 (.iload 4) 2 54 := ⟨by decide +kernel, rfl⟩
theorem dc_X6_latestBehind_54 : Dc miX6_latestBehind 54 (.iaload) 1 55 := ⟨by decide +kernel, rfl⟩
theorem dc_X6_latestBehind_55 : Dc miX6_latestBehind 55 (.ireturn) 1 56 := ⟨by decide +kernel, rfl⟩
theorem dc_X6_latestBehind_56 : Dc miX6_latestBehind 56 (.aload_n 0) 1 57 := ⟨by decide +kernel, rfl⟩
theorem dc_X6_latestBehind_57 : Dc miX6_latestBehind 57 (.aload_n 1) 1 58 := ⟨by decide +kernel, rfl⟩
theorem dc_X6_latestBehind_58 : Dc miX6_latestBehind 58 (.iload_n 2) 1 59 := ⟨by decide +kernel, rfl⟩
theorem dc_X6_latestBehind_59 : Dc miX6_latestBehind 59 (.iconst 1) 1 60 := ⟨by decide +kernel, rfl⟩
theorem dc_X6_latestBehind_60 : Dc miX6_latestBehind 60 (.iadd) 1 61 := ⟨by decide +kernel, rfl⟩
theorem dc_X6_latestBehind_61 : Dc miX6_latestBehind 61 (.iload_n 3) 1 62 := ⟨by decide +kernel, rfl⟩
theorem dc_X6_latestBehind_62 : Dc miX6_latestBehind 62 (.invokevirtual 44) 3 65 := ⟨by decide +kernel, rfl⟩
theorem dc_X6_latestBehind_65 : Dc miX6_latestBehind 65 (.istore 5) 2 67 := ⟨by decide +kernel, rfl⟩
theorem dc_X6_latestBehind_67 : Dc miX6_latestBehind 67 (.iconst 0) 1 68 := ⟨by decide +kernel, rfl⟩
theorem dc_X6_latestBehind_68 : Dc miX6_latestBehind 68 (.istore 6) 2 70 := ⟨by decide +kernel, rfl⟩
theorem dc_X6_latestBehind_70 : Dc miX6_latestBehind 70 (.iload 6) 2 72 := ⟨by decide +kernel, rfl⟩
theorem dc_X6_latestBehind_72 : Dc miX6_latestBehind 72 (.aload_n 1) 1 73 := ⟨by decide +kernel, rfl⟩
theorem dc_X6_latestBehind_73 : Dc miX6_latestBehind 73 (.getfield 55) 3 76 := ⟨by decide +kernel, rfl⟩
theorem dc_X6_latestBehind_76 : Dc miX6_latestBehind 76 (.getfield 75) 3 79 := ⟨by decide +kernel, rfl⟩
theorem dc_X6_latestBehind_79 : Dc miX6_latestBehind 79 (.if_icmp .ge 41) 3 82 := ⟨by decide +kernel, rfl⟩
theorem dc_X6_latestBehind_82 : Dc miX6_latestBehind 82 (.iload 5) 2 84 := ⟨by decide +kernel, rfl⟩
theorem dc_X6_latestBehind_84 : Dc miX6_latestBehind 84 (.sipush 1000) 3 87 := ⟨by decide +kernel, rfl⟩
theorem dc_X6_latestBehind_87 : Dc miX6_latestBehind 87 (.if_icmp .ge 33) 3 90 := ⟨by decide +kernel, rfl⟩
theorem dc_X6_latestBehind_90 : Dc miX6_latestBehind 90 (.iload 5) 2 92 := ⟨by decide +kernel, rfl⟩
theorem dc_X6_latestBehind_92 : Dc miX6_latestBehind 92 (.aload_n 0) 1 93 := ⟨by decide +kernel, rfl⟩
theorem dc_X6_latestBehind_93 : Dc miX6_latestBehind 93 (.aload_n 1) 1 94 := ⟨by decide +kernel, rfl⟩
theorem dc_X6_latestBehind_94 : Dc miX6_latestBehind 94 (.iload_n 2) 1 95 := ⟨by decide +kernel, rfl⟩
theorem dc_X6_latestBehind_95 : Dc miX6_latestBehind 95 (.iconst 1) 1 96 := ⟨by decide +kernel, rfl⟩
theorem dc_X6_latestBehind_96 : Dc miX6_latestBehind 96 (.iadd) 1 97 := ⟨by decide +kernel, rfl⟩
theorem dc_X6_latestBehind_97 : Dc miX6_latestBehind 97 (.aload_n 0) 1 98 := ⟨by decide +kernel, rfl⟩
theorem dc_X6_latestBehind_98 : Dc miX6_latestBehind 98 (.aload_n 1) 1 99 := ⟨by decide +kernel, rfl⟩
theorem dc_X6_latestBehind_99 : Dc miX6_latestBehind 99 (.iload_n 2) 1 100 := ⟨by decide +kernel, rfl⟩
theorem dc_X6_latestBehind_100 : Dc miX6_latestBehind 100 (.iload_n 3) 1 101 := ⟨by decide +kernel, rfl⟩
theorem dc_X6_latestBehind_101 : Dc miX6_latestBehind 101 (.iload 6) 2 103 := ⟨by decide +kernel, rfl⟩
theorem dc_X6_latestBehind_103 : Dc miX6_latestBehind 103 (.invokevirtual 78) 3 106 := ⟨by decide +kernel, rfl⟩
theorem dc_X6_latestBehind_106 : Dc miX6_latestBehind 106 (.invokevirtual 44) 3 109 := ⟨by decide +kernel, rfl⟩
theorem dc_X6_latestBehind_109 : Dc miX6_latestBehind 109 (.invokestatic 102) 3 112 := ⟨by decide +kernel, rfl⟩
theorem dc_X6_latestBehind_112 : Dc miX6_latestBehind 112 (.istore 5) 2 114 := ⟨by decide +kernel, rfl⟩
theorem dc_X6_latestBehind_114 : Dc miX6_latestBehind 114 (.iinc 6 1) 3 117 := ⟨by decide +kernel, rfl⟩
theorem dc_X6_latestBehind_117 : Dc miX6_latestBehind 117 (.goto (-47)) 3 120 := ⟨by decide +kernel, rfl⟩
theorem dc_X6_latestBehind_120 : Dc miX6_latestBehind 120 (.aload_n 0) 1 121 := ⟨by decide +kernel, rfl⟩
theorem dc_X6_latestBehind_121 : Dc miX6_latestBehind 121 (.getfield 22) 3 124 := ⟨by decide +kernel, rfl⟩
theorem dc_X6_latestBehind_124 : Dc miX6_latestBehind 124 (.iload 4) 2 126 := ⟨by decide +kernel, rfl⟩
theorem dc_X6_latestBehind_126 : Dc miX6_latestBehind 126 (.iload 5) 2 128 := ⟨by decide +kernel, rfl⟩
theorem dc_X6_latestBehind_128 : Dc miX6_latestBehind 128 (.iastore) 1 129 := ⟨by decide +kernel, rfl⟩
theorem dc_X6_latestBehind_129 : Dc miX6_latestBehind 129 (.iload 5) 2 131 := ⟨by decide +kernel, rfl⟩
theorem dc_X6_latestBehind_131 : Dc miX6_latestBehind 131 (.ireturn) 1 132 := ⟨by decide +kernel, rfl⟩
def fX6_latestBehind_b120 (N : Nat) (G : pG) (rc : Nat × Nat × Int32 × Int32 × pS → Option (Int32 × pS)) (a0 : Nat) (x4 : Int32) (x5 : Int32) (σ : pS) : Option (Int32 × pS) := ck (inB x4 (pN G (pR G a0 2))) (some (x5, sA σ (pR G a0 2) x4 x5))
set_option maxRecDepth 100000 in
set_option maxHeartbeats 4000000 in
theorem tX6_latestBehind_b120 {N : Nat} {G : pG} {SK : Nat → Nat} {rc : Nat × Nat × Int32 × Int32 × pS → Option (Int32 × pS)} {d0 : Nat} {a0 : Nat} {x4 : Int32} {x5 : Int32} {σ : pS} {r : Int32 × pS} (hW : WT G) (hrc : ∀ (b : Nat × Nat × Int32 × Int32 × pS), Is G b.1 6 → Is G b.2.1 9 → ∀ (r : Int32 × pS), rc b = some r → Dn miX6_fewestFrom yX6_fewestFrom d0 G SK [.ref b.1, .ref b.2.1, .int b.2.2.1, .int b.2.2.2.1] b.2.2.2.2 (some (.int r.1)) r.2) (i0 : Is G a0 6) (h : fX6_latestBehind_b120 N G rc a0 x4 x5 σ = some r) : Ev miX6_latestBehind (d0 + 5, 0, 0) G (Zp G (some (.int r.1)) r.2) SK (0, 0) 120 [some (.ref a0), none, none, none, some (.int x4), some (.int x5), none] [] σ := by
  unfold fX6_latestBehind_b120 at h
  refine ev_aload_n dc_X6_latestBehind_120 rfl ?_
  refine ev_getR dc_X6_latestBehind_121 fi_X6_22 rfl i0 ?_
  refine ev_iload dc_X6_latestBehind_124 rfl ?_
  refine ev_iload dc_X6_latestBehind_126 rfl ?_
  refine ev_iast dc_X6_latestBehind_128 (wt hW i0 2 rfl rfl) h (fun h => ?_)
  refine ev_iload dc_X6_latestBehind_129 rfl ?_
  cases h
  exact ev_iret dc_X6_latestBehind_131 rfl rfl rfl
def fX6_latestBehind_b70 (N : Nat) (G : pG) (rc : Nat × Nat × Int32 × Int32 × pS → Option (Int32 × pS)) (a0 : Nat) (a1 : Nat) (a2 : Int32) (a3 : Int32) (x4 : Int32) : (Int32 × Int32 × pS) → Option (Int32 × pS) := lp (fun (k70 : Int32 × Int32 × pS → Option (Int32 × pS)) (b : Int32 × Int32 × pS) => if (b.2.2.1 (pR G a1 0) 3) ≤ b.2.1 then (fX6_latestBehind_b120 N G rc a0 x4 b.1 b.2.2) else (if (1000 : Int32) ≤ b.1 then (fX6_latestBehind_b120 N G rc a0 x4 b.1 b.2.2) else ((fX6_easedOn N G a0 a1 a2 a3 b.2.1 b.2.2).bind (fun q1 => (rc (a0, a1, a2 + (1 : Int32), q1.1, q1.2)).bind (fun q2 => k70 (jmax b.1 q2.1, b.2.1 + (1 : Int32), q2.2)))))) N
set_option maxRecDepth 100000 in
set_option maxHeartbeats 4000000 in
theorem tX6_latestBehind_b70 {N : Nat} {G : pG} {SK : Nat → Nat} {rc : Nat × Nat × Int32 × Int32 × pS → Option (Int32 × pS)} {d0 : Nat} {a0 : Nat} {a1 : Nat} {a2 : Int32} {a3 : Int32} {x4 : Int32} {b : Int32 × Int32 × pS} {r : Int32 × pS} (hW : WT G) (hrc : ∀ (b : Nat × Nat × Int32 × Int32 × pS), Is G b.1 6 → Is G b.2.1 9 → ∀ (r : Int32 × pS), rc b = some r → Dn miX6_fewestFrom yX6_fewestFrom d0 G SK [.ref b.1, .ref b.2.1, .int b.2.2.1, .int b.2.2.2.1] b.2.2.2.2 (some (.int r.1)) r.2) (i0 : Is G a0 6) (i1 : Is G a1 9) (h : fX6_latestBehind_b70 N G rc a0 a1 a2 a3 x4 b = some r) : Ev miX6_latestBehind (d0 + 5, 0, 0) G (Zp G (some (.int r.1)) r.2) SK (0, 0) 70 [some (.ref a0), some (.ref a1), some (.int a2), some (.int a3), some (.int x4), some (.int b.1), some (.int b.2.1)] [] b.2.2 := by
  unfold fX6_latestBehind_b70 at h
  refine lp_ind (P := fun b r9 => r9 = r → Ev miX6_latestBehind (d0 + 5, 0, 0) G (Zp G (some (.int r.1)) r.2) SK (0, 0) 70 [some (.ref a0), some (.ref a1), some (.int a2), some (.int a3), some (.int x4), some (.int b.1), some (.int b.2.1)] [] b.2.2) (fun k70 b r9 ih h9 e9 => ?_) N b r h rfl
  clear h
  subst e9
  have h := h9
  clear h9
  have hk70 : ∀ b : Int32 × Int32 × pS, k70 b = some r9 → Ev miX6_latestBehind (d0 + 5, 0, 0) G (Zp G (some (.int r9.1)) r9.2) SK (0, 0) 70 [some (.ref a0), some (.ref a1), some (.int a2), some (.int a3), some (.int x4), some (.int b.1), some (.int b.2.1)] [] b.2.2 := fun b hb => ih b r9 hb rfl
  clear ih
  obtain ⟨x5, x6, σ⟩ := b
  dsimp only at h ⊢
  refine ev_iload dc_X6_latestBehind_70 rfl ?_
  refine ev_aload_n dc_X6_latestBehind_72 rfl ?_
  refine ev_getR dc_X6_latestBehind_73 fi_X6_55 rfl i1 ?_
  refine ev_getI dc_X6_latestBehind_76 fi_X6_75 rfl (wt hW i1 0 rfl rfl) ?_
  refine ev_icmp_ge (tgt := 120) dc_X6_latestBehind_79 (by decide) h (fun h => ?_) (fun h => ?_)
  · exact ev_sub (tX6_latestBehind_b120 hW hrc i0 h) (And.intro rfl (And.intro rfl (And.intro rfl trivial)))
  · refine ev_iload dc_X6_latestBehind_82 rfl ?_
    refine ev_sipush (v := 1000) dc_X6_latestBehind_84 (by decide) ?_
    refine ev_icmp_ge (tgt := 120) dc_X6_latestBehind_87 (by decide) h (fun h => ?_) (fun h => ?_)
    · exact ev_sub (tX6_latestBehind_b120 hW hrc i0 h) (And.intro rfl (And.intro rfl (And.intro rfl trivial)))
    · refine ev_iload dc_X6_latestBehind_90 rfl ?_
      refine ev_aload_n dc_X6_latestBehind_92 rfl ?_
      refine ev_aload_n dc_X6_latestBehind_93 rfl ?_
      refine ev_iload_n dc_X6_latestBehind_94 rfl ?_
      refine ev_iconst (v := 1) dc_X6_latestBehind_95 (by decide) ?_
      refine ev_iadd dc_X6_latestBehind_96 ?_
      refine ev_aload_n dc_X6_latestBehind_97 rfl ?_
      refine ev_aload_n dc_X6_latestBehind_98 rfl ?_
      refine ev_iload_n dc_X6_latestBehind_99 rfl ?_
      refine ev_iload_n dc_X6_latestBehind_100 rfl ?_
      refine ev_iload dc_X6_latestBehind_101 rfl ?_
      obtain ⟨q1, hq1, h⟩ := Option.bind_eq_some_iff.mp h
      refine ev_callV (av := [.ref a1, .int a2, .int a3, .int x6]) (st := [.int (a2 + (1 : Int32)), .ref a1, .ref a0, .int x5]) (st1 := [.int q1.1, .int (a2 + (1 : Int32)), .ref a1, .ref a0, .int x5]) dc_X6_latestBehind_103 (tX6_easedOn hW i0 i1 hq1) mw_1302 cy_X6_easedOn i0 (by decide) rfl rfl rfl rfl (Nat.le_of_ble_eq_true rfl) (show _ ≤ d0 + 5 from by omega) ⟨Nat.le_refl _, Nat.le_refl _⟩ ?_
      obtain ⟨q2, hq2, h⟩ := Option.bind_eq_some_iff.mp h
      refine ev_callV (av := [.ref a1, .int (a2 + (1 : Int32)), .int q1.1]) (st := [.int x5]) (st1 := [.int q2.1, .int x5]) dc_X6_latestBehind_106 (hrc _ i0 i1 _ hq2) mw_1294 cy_X6_fewestFrom i0 (by decide) rfl rfl rfl rfl (Nat.le_of_ble_eq_true rfl) (show _ ≤ d0 + 5 from by omega) ⟨Nat.le_refl _, Nat.le_refl _⟩ ?_
      refine ev_max dc_X6_latestBehind_109 mw_1307 (Nat.le_of_ble_eq_true rfl) (show _ ≤ d0 + 5 from by omega) ⟨Nat.le_refl _, Nat.le_refl _⟩ ?_
      refine ev_istore (lv' := [some (.ref a0), some (.ref a1), some (.int a2), some (.int a3), some (.int x4), some (.int (jmax x5 q2.1)), some (.int x6)]) dc_X6_latestBehind_112 rfl (by decide) rfl ?_
      refine ev_iinc (v := 1) (lv' := [some (.ref a0), some (.ref a1), some (.int a2), some (.int a3), some (.int x4), some (.int (jmax x5 q2.1)), some (.int (x6 + (1 : Int32)))]) dc_X6_latestBehind_114 rfl (by decide) rfl (by decide) rfl ?_
      refine ev_goto (tgt := 70) dc_X6_latestBehind_117 (by decide) ?_
      exact ev_sub (hk70 (jmax x5 q2.1, x6 + (1 : Int32), q2.2) h) (And.intro rfl (And.intro rfl (And.intro rfl (And.intro rfl (And.intro rfl (And.intro rfl (And.intro rfl trivial)))))))
def fX6_latestBehind (N : Nat) (G : pG) (rc : Nat × Nat × Int32 × Int32 × pS → Option (Int32 × pS)) (a0 : Nat) (a1 : Nat) (a2 : Int32) (a3 : Int32) (σ : pS) : Option (Int32 × pS) := if (σ.1 a0 4) ≤ (a2 + (1 : Int32)) then (some ((1000 : Int32), σ)) else (if ((a2 * (100 : Int32)) + a3) < 0 then (some ((1000 : Int32), σ)) else (if ((a2 * (100 : Int32)) + a3) < (Int32.ofNat (pN G (pR G a0 2))) then (ck (inB ((a2 * (100 : Int32)) + a3) (pN G (pR G a0 2))) (if (gA σ (pR G a0 2) ((a2 * (100 : Int32)) + a3)) = (-1 : Int32) then ((rc (a0, a1, a2 + (1 : Int32), a3, σ)).bind (fun q3 => fX6_latestBehind_b70 N G rc a0 a1 a2 a3 ((a2 * (100 : Int32)) + a3) (q3.1, (0 : Int32), q3.2))) else (ck (inB ((a2 * (100 : Int32)) + a3) (pN G (pR G a0 2))) (some (gA σ (pR G a0 2) ((a2 * (100 : Int32)) + a3), σ))))) else (some ((1000 : Int32), σ))))
set_option maxRecDepth 100000 in
set_option maxHeartbeats 4000000 in
theorem tX6_latestBehind {N : Nat} {G : pG} {SK : Nat → Nat} {rc : Nat × Nat × Int32 × Int32 × pS → Option (Int32 × pS)} {d0 : Nat} {a0 : Nat} {a1 : Nat} {a2 : Int32} {a3 : Int32} {σ : pS} {r : Int32 × pS} (hW : WT G) (hrc : ∀ (b : Nat × Nat × Int32 × Int32 × pS), Is G b.1 6 → Is G b.2.1 9 → ∀ (r : Int32 × pS), rc b = some r → Dn miX6_fewestFrom yX6_fewestFrom d0 G SK [.ref b.1, .ref b.2.1, .int b.2.2.1, .int b.2.2.2.1] b.2.2.2.2 (some (.int r.1)) r.2) (i0 : Is G a0 6) (i1 : Is G a1 9) (h : fX6_latestBehind N G rc a0 a1 a2 a3 σ = some r) : Dn miX6_latestBehind yX6_latestBehind (d0 + 5) G SK [.ref a0, .ref a1, .int a2, .int a3] σ (some (.int r.1)) r.2 := by
  unfold fX6_latestBehind at h
  refine dn_of (lv := [some (.ref a0), some (.ref a1), some (.int a2), some (.int a3), none, none, none]) (by decide) rfl rfl (Nat.le_of_ble_eq_true rfl) rfl ?_
  refine ev_iload_n dc_X6_latestBehind_0 rfl ?_
  refine ev_bipush (v := 100) dc_X6_latestBehind_1 (by decide) ?_
  refine ev_imul dc_X6_latestBehind_3 ?_
  refine ev_iload_n dc_X6_latestBehind_4 rfl ?_
  refine ev_iadd dc_X6_latestBehind_5 ?_
  refine ev_istore (lv' := [some (.ref a0), some (.ref a1), some (.int a2), some (.int a3), some (.int ((a2 * (100 : Int32)) + a3)), none, none]) dc_X6_latestBehind_6 rfl (by decide) rfl ?_
  refine ev_iload_n dc_X6_latestBehind_8 rfl ?_
  refine ev_iconst (v := 1) dc_X6_latestBehind_9 (by decide) ?_
  refine ev_iadd dc_X6_latestBehind_10 ?_
  refine ev_aload_n dc_X6_latestBehind_11 rfl ?_
  refine ev_getI dc_X6_latestBehind_12 fi_X6_29 rfl i0 ?_
  refine ev_icmp_ge (tgt := 33) dc_X6_latestBehind_15 (by decide) h (fun h => ?_) (fun h => ?_)
  · refine ev_sipush (v := 1000) dc_X6_latestBehind_33 (by decide) ?_
    cases h
    exact ev_iret dc_X6_latestBehind_36 rfl rfl rfl
  · refine ev_iload dc_X6_latestBehind_18 rfl ?_
    refine ev_if_lt (tgt := 33) dc_X6_latestBehind_20 (by decide) h (fun h => ?_) (fun h => ?_)
    · refine ev_sipush (v := 1000) dc_X6_latestBehind_33 (by decide) ?_
      cases h
      exact ev_iret dc_X6_latestBehind_36 rfl rfl rfl
    · refine ev_iload dc_X6_latestBehind_23 rfl ?_
      refine ev_aload_n dc_X6_latestBehind_25 rfl ?_
      refine ev_getR dc_X6_latestBehind_26 fi_X6_22 rfl i0 ?_
      refine ev_alen dc_X6_latestBehind_29 (wt hW i0 2 rfl rfl) (by decide) rfl ?_
      refine ev_icmp_lt (tgt := 37) dc_X6_latestBehind_30 (by decide) h (fun h => ?_) (fun h => ?_)
      · refine ev_aload_n dc_X6_latestBehind_37 rfl ?_
        refine ev_getR dc_X6_latestBehind_38 fi_X6_22 rfl i0 ?_
        refine ev_iload dc_X6_latestBehind_41 rfl ?_
        refine ev_iald dc_X6_latestBehind_43 (wt hW i0 2 rfl rfl) h (fun h => ?_)
        refine ev_iconst (v := (-1)) dc_X6_latestBehind_44 (by decide) ?_
        refine ev_icmp_eq (tgt := 56) dc_X6_latestBehind_45 (by decide) h (fun h => ?_) (fun h => ?_)
        · refine ev_aload_n dc_X6_latestBehind_56 rfl ?_
          refine ev_aload_n dc_X6_latestBehind_57 rfl ?_
          refine ev_iload_n dc_X6_latestBehind_58 rfl ?_
          refine ev_iconst (v := 1) dc_X6_latestBehind_59 (by decide) ?_
          refine ev_iadd dc_X6_latestBehind_60 ?_
          refine ev_iload_n dc_X6_latestBehind_61 rfl ?_
          obtain ⟨q3, hq3, h⟩ := Option.bind_eq_some_iff.mp h
          refine ev_callV (av := [.ref a1, .int (a2 + (1 : Int32)), .int a3]) (st := []) (st1 := [.int q3.1]) dc_X6_latestBehind_62 (hrc _ i0 i1 _ hq3) mw_1294 cy_X6_fewestFrom i0 (by decide) rfl rfl rfl rfl (Nat.le_of_ble_eq_true rfl) (show _ ≤ d0 + 5 from by omega) ⟨Nat.le_refl _, Nat.le_refl _⟩ ?_
          refine ev_istore (lv' := [some (.ref a0), some (.ref a1), some (.int a2), some (.int a3), some (.int ((a2 * (100 : Int32)) + a3)), some (.int q3.1), none]) dc_X6_latestBehind_65 rfl (by decide) rfl ?_
          refine ev_iconst (v := 0) dc_X6_latestBehind_67 (by decide) ?_
          refine ev_istore (lv' := [some (.ref a0), some (.ref a1), some (.int a2), some (.int a3), some (.int ((a2 * (100 : Int32)) + a3)), some (.int q3.1), some (.int (0 : Int32))]) dc_X6_latestBehind_68 rfl (by decide) rfl ?_
          exact ev_sub (tX6_latestBehind_b70 (b := (q3.1, (0 : Int32), q3.2)) hW hrc i0 i1 h) (And.intro rfl (And.intro rfl (And.intro rfl (And.intro rfl (And.intro rfl (And.intro rfl (And.intro rfl trivial)))))))
        · refine ev_aload_n dc_X6_latestBehind_48 rfl ?_
          refine ev_getR dc_X6_latestBehind_49 fi_X6_22 rfl i0 ?_
          refine ev_iload dc_X6_latestBehind_52 rfl ?_
          refine ev_iald dc_X6_latestBehind_54 (wt hW i0 2 rfl rfl) h (fun h => ?_)
          cases h
          exact ev_iret dc_X6_latestBehind_55 rfl rfl rfl
      · refine ev_sipush (v := 1000) dc_X6_latestBehind_33 (by decide) ?_
        cases h
        exact ev_iret dc_X6_latestBehind_36 rfl rfl rfl
theorem dc_X6_fewestWith_0 : Dc miX6_fewestWith 0 (.aload_n 0) 1 1 := ⟨by decide +kernel, rfl⟩
theorem dc_X6_fewestWith_1 : Dc miX6_fewestWith 1 (.getfield 12) 3 4 := ⟨by decide +kernel, rfl⟩
theorem dc_X6_fewestWith_4 : Dc miX6_fewestWith 4 (.iload_n 3) 1 5 := ⟨by decide +kernel, rfl⟩
theorem dc_X6_fewestWith_5 : Dc miX6_fewestWith 5 (.putfield 41) 3 8 := ⟨by decide +kernel, rfl⟩
theorem dc_X6_fewestWith_8 : Dc miX6_fewestWith 8 (.aload_n 0) 1 9 := ⟨by decide +kernel, rfl⟩
theorem dc_X6_fewestWith_9 : Dc miX6_fewestWith 9 (.getfield 12) 3 12 := ⟨by decide +kernel, rfl⟩
theorem dc_X6_fewestWith_12 : Dc miX6_fewestWith 12 (.aload_n 0) 1 13 := ⟨by decide +kernel, rfl⟩
theorem dc_X6_fewestWith_13 : Dc miX6_fewestWith 13 (.getfield 25) 3 16 := ⟨by decide +kernel, rfl⟩
theorem dc_X6_fewestWith_16 : Dc miX6_fewestWith 16 (.iload_n 2) 1 17 := ⟨by decide +kernel, rfl⟩
theorem dc_X6_fewestWith_17 : Dc miX6_fewestWith 17 (.iadd) 1 18 := ⟨by decide +kernel, rfl⟩
theorem dc_X6_fewestWith_18 : Dc miX6_fewestWith 18 (.putfield 86) 3 21 := ⟨by decide +kernel, rfl⟩
theorem dc_X6_fewestWith_21 : Dc miX6_fewestWith 21 (.bipush 99) 2 23 := ⟨by decide +kernel, rfl⟩
theorem dc_X6_fewestWith_23 : Dc miX6_fewestWith 23 (.iload_n 3) 1 24 := ⟨by decide +kernel, rfl⟩
theorem dc_X6_fewestWith_24 : Dc miX6_fewestWith 24 (.aload_n 1) 1 25 := ⟨by decide +kernel, rfl⟩
theorem dc_X6_fewestWith_25 : Dc miX6_fewestWith 25 (.aload_n 0) 1 26 := ⟨by decide +kernel, rfl⟩
theorem dc_X6_fewestWith_26 : Dc miX6_fewestWith 26 (.getfield 12) 3 29 := ⟨by decide +kernel, rfl⟩
theorem dc_X6_fewestWith_29 : Dc miX6_fewestWith 29 (.iload 4) 2 31 := ⟨by decide +kernel, rfl⟩
theorem dc_X6_fewestWith_31 : Dc miX6_fewestWith 31 (.iload 5) 2 33 := ⟨by decide +kernel, rfl⟩
theorem dc_X6_fewestWith_33 : Dc miX6_fewestWith 33 (.invokevirtual 95) 3 36 := ⟨by decide +kernel, rfl⟩
theorem dc_X6_fewestWith_36 : Dc miX6_fewestWith 36 (.iadd) 1 37 := ⟨by decide +kernel, rfl⟩
theorem dc_X6_fewestWith_37 : Dc miX6_fewestWith 37 (.invokestatic 89) 3 40 := ⟨by decide +kernel, rfl⟩
theorem dc_X6_fewestWith_40 : Dc miX6_fewestWith 40 (.istore 6) 2 42 := ⟨by decide +kernel, rfl⟩
theorem dc_X6_fewestWith_42 : Dc miX6_fewestWith 42 (.iload 6) 2 44 := ⟨by decide +kernel, rfl⟩
theorem dc_X6_fewestWith_44 : Dc miX6_fewestWith 44 (.aload_n 1) 1 45 := ⟨by decide +kernel, rfl⟩
theorem dc_X6_fewestWith_45 : Dc miX6_fewestWith 45 (.getfield 55) 3 48 := ⟨by decide +kernel, rfl⟩
theorem dc_X6_fewestWith_48 : Dc miX6_fewestWith 48 (.getfield 99) 3 51 := ⟨by decide +kernel, rfl⟩
theorem dc_X6_fewestWith_51 : Dc miX6_fewestWith 51 (.if_icmp .lt 7) 3 54 := ⟨by decide +kernel, rfl⟩
theorem dc_X6_fewestWith_54 : Dc miX6_fewestWith 54 (.iconst 1) 1 55 := ⟨by decide +kernel, rfl⟩
theorem dc_X6_fewestWith_55 : Dc miX6_fewestWith 55 (.goto 14) 3 58 := ⟨by decide +kernel, rfl⟩
theorem dc_X6_fewestWith_58 : Dc miX6_fewestWith 58 (.aload_n 0) 1 59 := ⟨by decide +kernel, rfl⟩
theorem dc_X6_fewestWith_59 : Dc miX6_fewestWith 59 (.aload_n 1) 1 60 := ⟨by decide +kernel, rfl⟩
theorem dc_X6_fewestWith_60 : Dc miX6_fewestWith 60 (.iload_n 2) 1 61 := ⟨by decide +kernel, rfl⟩
theorem dc_X6_fewestWith_61 : Dc miX6_fewestWith 61 (.iload 6) 2 63 := ⟨by decide +kernel, rfl⟩
theorem dc_X6_fewestWith_63 : Dc miX6_fewestWith 63 (.invokevirtual 48) 3 66 := ⟨by decide +kernel, rfl⟩
theorem dc_X6_fewestWith_66 : Dc miX6_fewestWith 66 (.invokestatic 51) 3 69 := ⟨by decide +kernel, rfl⟩
theorem dc_X6_fewestWith_69 : Dc miX6_fewestWith 69 (.ireturn) 1 70 := ⟨by decide +kernel, rfl⟩
def fX6_fewestWith (N : Nat) (G : pG) (rc : Nat × Nat × Int32 × Int32 × pS → Option (Int32 × pS)) (a0 : Nat) (a1 : Nat) (a2 : Int32) (a3 : Int32) (a4 : Int32) (a5 : Int32) (σ : pS) : Option (Int32 × pS) := (fX10_stingOf N G a1 (pR G a0 0) a4 a5 (putF (putF σ (pR G a0 0) 0 a3) (pR G a0 0) 1 (((putF σ (pR G a0 0) 0 a3).1 a0 3) + a2))).bind (fun q1 => if (jmin (99 : Int32) (a3 + q1.1)) < (q1.2.1 (pR G a1 0) 6) then ((fX6_latestBehind N G rc a0 a1 a2 (jmin (99 : Int32) (a3 + q1.1)) q1.2).bind (fun q2 => (fX6_oneMore N G q2.1 q2.2).bind (fun q3 => some (q3, q2.2)))) else (some ((1 : Int32), q1.2)))
set_option maxRecDepth 100000 in
set_option maxHeartbeats 4000000 in
theorem tX6_fewestWith {N : Nat} {G : pG} {SK : Nat → Nat} {rc : Nat × Nat × Int32 × Int32 × pS → Option (Int32 × pS)} {d0 : Nat} {a0 : Nat} {a1 : Nat} {a2 : Int32} {a3 : Int32} {a4 : Int32} {a5 : Int32} {σ : pS} {r : Int32 × pS} (hW : WT G) (hrc : ∀ (b : Nat × Nat × Int32 × Int32 × pS), Is G b.1 6 → Is G b.2.1 9 → ∀ (r : Int32 × pS), rc b = some r → Dn miX6_fewestFrom yX6_fewestFrom d0 G SK [.ref b.1, .ref b.2.1, .int b.2.2.1, .int b.2.2.2.1] b.2.2.2.2 (some (.int r.1)) r.2) (i0 : Is G a0 6) (i1 : Is G a1 9) (h : fX6_fewestWith N G rc a0 a1 a2 a3 a4 a5 σ = some r) : Dn miX6_fewestWith yX6_fewestWith (d0 + 6) G SK [.ref a0, .ref a1, .int a2, .int a3, .int a4, .int a5] σ (some (.int r.1)) r.2 := by
  unfold fX6_fewestWith at h
  refine dn_of (lv := [some (.ref a0), some (.ref a1), some (.int a2), some (.int a3), some (.int a4), some (.int a5), none]) (by decide) rfl rfl (Nat.le_of_ble_eq_true rfl) rfl ?_
  refine ev_aload_n dc_X6_fewestWith_0 rfl ?_
  refine ev_getR dc_X6_fewestWith_1 fi_X6_12 rfl i0 ?_
  refine ev_iload_n dc_X6_fewestWith_4 rfl ?_
  refine ev_putI dc_X6_fewestWith_5 fi_X6_41 rfl (wt hW i0 0 rfl rfl) ?_
  refine ev_aload_n dc_X6_fewestWith_8 rfl ?_
  refine ev_getR dc_X6_fewestWith_9 fi_X6_12 rfl i0 ?_
  refine ev_aload_n dc_X6_fewestWith_12 rfl ?_
  refine ev_getI dc_X6_fewestWith_13 fi_X6_25 rfl i0 ?_
  refine ev_iload_n dc_X6_fewestWith_16 rfl ?_
  refine ev_iadd dc_X6_fewestWith_17 ?_
  refine ev_putI dc_X6_fewestWith_18 fi_X6_86 rfl (wt hW i0 0 rfl rfl) ?_
  refine ev_bipush (v := 99) dc_X6_fewestWith_21 (by decide) ?_
  refine ev_iload_n dc_X6_fewestWith_23 rfl ?_
  refine ev_aload_n dc_X6_fewestWith_24 rfl ?_
  refine ev_aload_n dc_X6_fewestWith_25 rfl ?_
  refine ev_getR dc_X6_fewestWith_26 fi_X6_12 rfl i0 ?_
  refine ev_iload dc_X6_fewestWith_29 rfl ?_
  refine ev_iload dc_X6_fewestWith_31 rfl ?_
  obtain ⟨q1, hq1, h⟩ := Option.bind_eq_some_iff.mp h
  refine ev_callV (av := [.ref (pR G a0 0), .int a4, .int a5]) (st := [.int a3, .int (99 : Int32)]) (st1 := [.int q1.1, .int a3, .int (99 : Int32)]) dc_X6_fewestWith_33 (tX10_stingOf hW i1 (wt hW i0 0 rfl rfl) hq1) mw_1321 cy_X10_stingOf i1 (by decide) rfl rfl rfl rfl (Nat.le_of_ble_eq_true rfl) (show _ ≤ d0 + 6 from by omega) ⟨Nat.le_refl _, Nat.le_refl _⟩ ?_
  refine ev_iadd dc_X6_fewestWith_36 ?_
  refine ev_min dc_X6_fewestWith_37 mw_1311 (Nat.le_of_ble_eq_true rfl) (show _ ≤ d0 + 6 from by omega) ⟨Nat.le_refl _, Nat.le_refl _⟩ ?_
  refine ev_istore (lv' := [some (.ref a0), some (.ref a1), some (.int a2), some (.int a3), some (.int a4), some (.int a5), some (.int (jmin (99 : Int32) (a3 + q1.1)))]) dc_X6_fewestWith_40 rfl (by decide) rfl ?_
  refine ev_iload dc_X6_fewestWith_42 rfl ?_
  refine ev_aload_n dc_X6_fewestWith_44 rfl ?_
  refine ev_getR dc_X6_fewestWith_45 fi_X6_55 rfl i1 ?_
  refine ev_getI dc_X6_fewestWith_48 fi_X6_99 rfl (wt hW i1 0 rfl rfl) ?_
  refine ev_icmp_lt (tgt := 58) dc_X6_fewestWith_51 (by decide) h (fun h => ?_) (fun h => ?_)
  · refine ev_aload_n dc_X6_fewestWith_58 rfl ?_
    refine ev_aload_n dc_X6_fewestWith_59 rfl ?_
    refine ev_iload_n dc_X6_fewestWith_60 rfl ?_
    refine ev_iload dc_X6_fewestWith_61 rfl ?_
    obtain ⟨q2, hq2, h⟩ := Option.bind_eq_some_iff.mp h
    refine ev_callV (av := [.ref a1, .int a2, .int (jmin (99 : Int32) (a3 + q1.1))]) (st := []) (st1 := [.int q2.1]) dc_X6_fewestWith_63 (tX6_latestBehind hW hrc i0 i1 hq2) mw_1298 cy_X6_latestBehind i0 (by decide) rfl rfl rfl rfl (Nat.le_of_ble_eq_true rfl) (show _ ≤ d0 + 6 from by omega) ⟨Nat.le_refl _, Nat.le_refl _⟩ ?_
    obtain ⟨q3, hq3, h⟩ := Option.bind_eq_some_iff.mp h
    refine ev_callS (av := [.int q2.1]) (st := []) (st1 := [.int q3]) dc_X6_fewestWith_66 (tX6_oneMore hW hq3) mw_1308 cs_X6_oneMore rfl rfl rfl (Nat.le_of_ble_eq_true rfl) (show _ ≤ d0 + 6 from by omega) ⟨Nat.le_refl _, Nat.le_refl _⟩ ?_
    cases h
    exact ev_iret dc_X6_fewestWith_69 rfl rfl rfl
  · refine ev_iconst (v := 1) dc_X6_fewestWith_54 (by decide) ?_
    refine ev_goto (tgt := 69) dc_X6_fewestWith_55 (by decide) ?_
    cases h
    exact ev_iret dc_X6_fewestWith_69 rfl rfl rfl
theorem dc_X6_fewestFrom_0 : Dc miX6_fewestFrom 0 (.iload_n 2) 1 1 := ⟨by decide +kernel, rfl⟩
theorem dc_X6_fewestFrom_1 : Dc miX6_fewestFrom 1 (.bipush 100) 2 3 := ⟨by decide +kernel, rfl⟩
theorem dc_X6_fewestFrom_3 : Dc miX6_fewestFrom 3 (.imul) 1 4 := ⟨by decide +kernel, rfl⟩
theorem dc_X6_fewestFrom_4 : Dc miX6_fewestFrom 4 (.iload_n 3) 1 5 := ⟨by decide +kernel, rfl⟩
theorem dc_X6_fewestFrom_5 : Dc miX6_fewestFrom 5 (.iadd) 1 6 := ⟨by decide +kernel, rfl⟩
theorem dc_X6_fewestFrom_6 : Dc miX6_fewestFrom 6 (.istore 4) 2 8 := ⟨by decide +kernel, rfl⟩
theorem dc_X6_fewestFrom_8 : Dc miX6_fewestFrom 8 (.iload_n 2) 1 9 := ⟨by decide +kernel, rfl⟩
theorem dc_X6_fewestFrom_9 : Dc miX6_fewestFrom 9 (.aload_n 0) 1 10 := ⟨by decide +kernel, rfl⟩
theorem dc_X6_fewestFrom_10 : Dc miX6_fewestFrom 10 (.getfield 29) 3 13 := ⟨by decide +kernel, rfl⟩
theorem dc_X6_fewestFrom_13 : Dc miX6_fewestFrom 13 (.if_icmp .ge 18) 3 16 := ⟨by decide +kernel, rfl⟩
theorem dc_X6_fewestFrom_16 : Dc miX6_fewestFrom 16 (.iload 4) 2 18 := ⟨by decide +kernel, rfl⟩
theorem dc_X6_fewestFrom_18 : Dc miX6_fewestFrom 18 (.ifCond .lt 13) 3 21 := ⟨by decide +kernel, rfl⟩
theorem dc_X6_fewestFrom_21 : Dc miX6_fewestFrom 21 (.iload 4) 2 23 := ⟨by decide +kernel, rfl⟩
theorem dc_X6_fewestFrom_23 : Dc miX6_fewestFrom 23 (.aload_n 0) 1 24 := ⟨by decide +kernel, rfl⟩
theorem dc_X6_fewestFrom_24 : Dc miX6_fewestFrom 24 (.getfield 18) 3 27 := ⟨by decide +kernel, rfl⟩
theorem dc_X6_fewestFrom_27 : Dc miX6_fewestFrom 27 (.arraylength) 1 28 := ⟨by decide +kernel, rfl⟩
theorem dc_X6_fewestFrom_28 : Dc miX6_fewestFrom 28 (.if_icmp .lt 7) 3 31 := ⟨by decide +kernel, rfl⟩
theorem dc_X6_fewestFrom_31 : Dc miX6_fewestFrom 31 (.sipush 1000) 3 34 := ⟨by decide +kernel, rfl⟩
theorem dc_X6_fewestFrom_34 : Dc miX6_fewestFrom 34 (.ireturn) 1 35 := ⟨by decide +kernel, rfl⟩
theorem dc_X6_fewestFrom_35 : Dc miX6_fewestFrom 35 (.aload_n 0) 1 36 := ⟨by decide +kernel, rfl⟩
theorem dc_X6_fewestFrom_36 : Dc miX6_fewestFrom 36 (.getfield 18) 3 39 := ⟨by decide +kernel, rfl⟩
theorem dc_X6_fewestFrom_39 : Dc miX6_fewestFrom 39 (.iload 4) 2 41 := ⟨by decide +kernel, rfl⟩
theorem dc_X6_fewestFrom_41 : Dc miX6_fewestFrom 41 (.iaload) 1 42 := ⟨by decide +kernel, rfl⟩
theorem dc_X6_fewestFrom_42 : Dc miX6_fewestFrom 42 (.iconst (-1)) 1 43 := ⟨by decide +kernel, rfl⟩
theorem dc_X6_fewestFrom_43 : Dc miX6_fewestFrom 43 (.if_icmp .eq 11) 3 46 := ⟨by decide +kernel, rfl⟩
theorem dc_X6_fewestFrom_46 : Dc miX6_fewestFrom 46 (.aload_n 0) 1 47 := ⟨by decide +kernel, rfl⟩
theorem dc_X6_fewestFrom_47 : Dc miX6_fewestFrom 47 (.getfield 18) 3 50 := ⟨by decide +kernel, rfl⟩
theorem dc_X6_fewestFrom_50 : Dc miX6_fewestFrom 50 (.iload 4) 2 52 := ⟨by decide +kernel, rfl⟩
theorem dc_X6_fewestFrom_52 : Dc miX6_fewestFrom 52 (.iaload) 1 53 := ⟨by decide +kernel, rfl⟩
theorem dc_X6_fewestFrom_53 : Dc miX6_fewestFrom 53 (.ireturn) 1 54 := ⟨by decide +kernel, rfl⟩
theorem dc_X6_fewestFrom_54 : Dc miX6_fewestFrom 54 (.aload_n 0) 1 55 := ⟨by decide +kernel, rfl⟩
theorem dc_X6_fewestFrom_55 : Dc miX6_fewestFrom 55 (.aload_n 1) 1 56 := ⟨by decide +kernel, rfl⟩
theorem dc_X6_fewestFrom_56 : Dc miX6_fewestFrom 56 (.iload_n 2) 1 57 := ⟨by decide +kernel, rfl⟩
theorem dc_X6_fewestFrom_57 : Dc miX6_fewestFrom 57 (.iload_n 3) 1 58 := ⟨by decide +kernel, rfl⟩
theorem dc_X6_fewestFrom_58 : Dc miX6_fewestFrom 58 (.invokevirtual 48) 3 61 := ⟨by decide +kernel, rfl⟩
theorem dc_X6_fewestFrom_61 : Dc miX6_fewestFrom 61 (.invokestatic 51) 3 64 := ⟨by decide +kernel, rfl⟩
theorem dc_X6_fewestFrom_64 : Dc miX6_fewestFrom 64 (.istore 5) 2 66 := ⟨by decide +kernel, rfl⟩
theorem dc_X6_fewestFrom_66 : Dc miX6_fewestFrom 66 (.iconst 0) 1 67 := ⟨by decide +kernel, rfl⟩
theorem dc_X6_fewestFrom_67 : Dc miX6_fewestFrom 67 (.istore 6) 2 69 := ⟨by decide +kernel, rfl⟩
theorem dc_X6_fewestFrom_69 : Dc miX6_fewestFrom 69 (.iload 6) 2 71 := ⟨by decide +kernel, rfl⟩
theorem dc_X6_fewestFrom_71 : Dc miX6_fewestFrom 71 (.aload_n 1) 1 72 := ⟨by decide +kernel, rfl⟩
theorem dc_X6_fewestFrom_72 : Dc miX6_fewestFrom 72 (.getfield 55) 3 75 := ⟨by decide +kernel, rfl⟩
theorem dc_X6_fewestFrom_75 : Dc miX6_fewestFrom 75 (.getfield 64) 3 78 := ⟨by decide +kernel, rfl⟩
theorem dc_X6_fewestFrom_78 : Dc miX6_fewestFrom 78 (.if_icmp .ge 63) 3 81 := ⟨by decide +kernel, rfl⟩
theorem dc_X6_fewestFrom_81 : Dc miX6_fewestFrom 81 (.iconst 0) 1 82 := ⟨by decide +kernel, rfl⟩
theorem dc_X6_fewestFrom_82 : Dc miX6_fewestFrom 82 (.istore 7) 2 84 := ⟨by decide +kernel, rfl⟩
theorem dc_X6_fewestFrom_84 : Dc miX6_fewestFrom 84 (.iload 7) 2 86 := ⟨by decide +kernel, rfl⟩
theorem dc_X6_fewestFrom_86 : Dc miX6_fewestFrom 86 (.aload_n 1) 1 87 := ⟨by decide +kernel, rfl⟩
theorem dc_X6_fewestFrom_87 : Dc miX6_fewestFrom 87 (.getfield 55) 3 90 := ⟨by decide +kernel, rfl⟩
theorem dc_X6_fewestFrom_90 : Dc miX6_fewestFrom 90 (.getfield 59) 3 93 := ⟨by decide +kernel, rfl⟩
theorem dc_X6_fewestFrom_93 : Dc miX6_fewestFrom 93 (.if_icmp .ge 42) 3 96 := ⟨by decide +kernel, rfl⟩
theorem dc_X6_fewestFrom_96 : Dc miX6_fewestFrom 96 (.aload_n 1) 1 97 := ⟨by decide +kernel, rfl⟩
theorem dc_X6_fewestFrom_97 : Dc miX6_fewestFrom 97 (.iload 6) 2 99 := ⟨by decide +kernel, rfl⟩
theorem dc_X6_fewestFrom_99 : Dc miX6_fewestFrom 99 (.invokestatic 67) 3 102 := ⟨by decide +kernel, rfl⟩
theorem dc_X6_fewestFrom_102 : Dc miX6_fewestFrom 102 (.ifCond .eq 33) 3 105 := ⟨by decide +kernel, rfl⟩
theorem dc_X6_fewestFrom_105 : Dc miX6_fewestFrom 105 (.iload 5) 2 107 := ⟨by decide +kernel, rfl⟩
theorem dc_X6_fewestFrom_107 : Dc miX6_fewestFrom 107 (.iconst 1) 1 108 := ⟨by decide +kernel, rfl⟩
theorem dc_X6_fewestFrom_108 : Dc miX6_fewestFrom 108 (.if_icmp .le 27) 3 111 := ⟨by decide +kernel, rfl⟩
theorem dc_X6_fewestFrom_111 : Dc miX6_fewestFrom 111 (.iload 5) 2 113 := ⟨by decide +kernel, rfl⟩
theorem dc_X6_fewestFrom_113 : Dc miX6_fewestFrom 113 (.aload_n 0) 1 114 := ⟨by decide +kernel, rfl⟩
theorem dc_X6_fewestFrom_114 : Dc miX6_fewestFrom 114 (.aload_n 1) 1 115 := ⟨by decide +kernel, rfl⟩
theorem dc_X6_fewestFrom_115 : Dc miX6_fewestFrom 115 (.iload_n 2) 1 116 := ⟨by decide +kernel, rfl⟩
theorem dc_X6_fewestFrom_116 : Dc miX6_fewestFrom 116 (.iload_n 3) 1 117 := ⟨by decide +kernel, rfl⟩
theorem dc_X6_fewestFrom_117 : Dc miX6_fewestFrom 117 (.iload 6) 2 119 := ⟨by decide +kernel, rfl⟩
theorem dc_X6_fewestFrom_119 : Dc miX6_fewestFrom 119 (.iload 7) 2 121 := ⟨by decide +kernel, rfl⟩
theorem dc_X6_fewestFrom_121 : Dc miX6_fewestFrom 121 (.invokevirtual 71) 3 124 := ⟨by decide +kernel, rfl⟩
theorem dc_X6_fewestFrom_124 : Dc miX6_fewestFrom 124 (.invokestatic 89) 3 127 := ⟨by decide +kernel, rfl⟩
theorem dc_X6_fewestFrom_127 : Dc miX6_fewestFrom 127 (.istore 5) 2 129 := ⟨by decide +kernel, rfl⟩
theorem dc_X6_fewestFrom_129 : Dc miX6_fewestFrom 129 (.iinc 7 1) 3 132 := ⟨by decide +kernel, rfl⟩
theorem dc_X6_fewestFrom_132 : Dc miX6_fewestFrom 132 (.goto (-48)) 3 135 := ⟨by decide +kernel, rfl⟩
theorem dc_X6_fewestFrom_135 : Dc miX6_fewestFrom 135 (.iinc 6 1) 3 138 := ⟨by decide +kernel, rfl⟩
theorem dc_X6_fewestFrom_138 : Dc miX6_fewestFrom 138 (.goto (-69)) 3 141 := ⟨by decide +kernel, rfl⟩
theorem dc_X6_fewestFrom_141 : Dc miX6_fewestFrom 141 (.aload_n 0) 1 142 := ⟨by decide +kernel, rfl⟩
theorem dc_X6_fewestFrom_142 : Dc miX6_fewestFrom 142 (.getfield 18) 3 145 := ⟨by decide +kernel, rfl⟩
theorem dc_X6_fewestFrom_145 : Dc miX6_fewestFrom 145 (.iload 4) 2 147 := ⟨by decide +kernel, rfl⟩
theorem dc_X6_fewestFrom_147 : Dc miX6_fewestFrom 147 (.iload 5) 2 149 := ⟨by decide +kernel, rfl⟩
theorem dc_X6_fewestFrom_149 : Dc miX6_fewestFrom 149 (.iastore) 1 150 := ⟨by decide +kernel, rfl⟩
theorem dc_X6_fewestFrom_150 : Dc miX6_fewestFrom 150 (.iload 5) 2 152 := ⟨by decide +kernel, rfl⟩
theorem dc_X6_fewestFrom_152 : Dc miX6_fewestFrom 152 (.ireturn) 1 153 := ⟨by decide +kernel, rfl⟩
def fX6_fewestFrom_b84 (N : Nat) (G : pG) (rc : Nat × Nat × Int32 × Int32 × pS → Option (Int32 × pS)) (k69 : Int32 × Int32 × pS → Option (Int32 × pS)) (a0 : Nat) (a1 : Nat) (a2 : Int32) (a3 : Int32) (x4 : Int32) (x6 : Int32) : (Int32 × Int32 × pS) → Option (Int32 × pS) := lp (fun (k84 : Int32 × Int32 × pS → Option (Int32 × pS)) (b : Int32 × Int32 × pS) => if (b.2.2.1 (pR G a1 0) 2) ≤ b.2.1 then (k69 (b.1, x6 + (1 : Int32), b.2.2)) else ((fX6_isEnemyNear N G a1 x6 b.2.2).bind (fun q1 => if q1 = 0 then (k69 (b.1, x6 + (1 : Int32), b.2.2)) else (if b.1 ≤ (1 : Int32) then (k69 (b.1, x6 + (1 : Int32), b.2.2)) else ((fX6_fewestWith N G rc a0 a1 a2 a3 x6 b.2.1 b.2.2).bind (fun q2 => k84 (jmin b.1 q2.1, b.2.1 + (1 : Int32), q2.2))))))) N
set_option maxRecDepth 100000 in
set_option maxHeartbeats 4000000 in
theorem tX6_fewestFrom_b84 {N : Nat} {G : pG} {SK : Nat → Nat} {rc : Nat × Nat × Int32 × Int32 × pS → Option (Int32 × pS)} {d0 : Nat} {k69 : Int32 × Int32 × pS → Option (Int32 × pS)} {a0 : Nat} {a1 : Nat} {a2 : Int32} {a3 : Int32} {x4 : Int32} {x6 : Int32} {b : Int32 × Int32 × pS} {r : Int32 × pS} (hW : WT G) (hrc : ∀ (b : Nat × Nat × Int32 × Int32 × pS), Is G b.1 6 → Is G b.2.1 9 → ∀ (r : Int32 × pS), rc b = some r → Dn miX6_fewestFrom yX6_fewestFrom d0 G SK [.ref b.1, .ref b.2.1, .int b.2.2.1, .int b.2.2.2.1] b.2.2.2.2 (some (.int r.1)) r.2) (i0 : Is G a0 6) (i1 : Is G a1 9) (hk69 : ∀ b : Int32 × Int32 × pS, k69 b = some r → Ev miX6_fewestFrom (d0 + 7, 0, 0) G (Zp G (some (.int r.1)) r.2) SK (0, 0) 69 [some (.ref a0), some (.ref a1), some (.int a2), some (.int a3), some (.int x4), some (.int b.1), some (.int b.2.1), none] [] b.2.2) (h : fX6_fewestFrom_b84 N G rc k69 a0 a1 a2 a3 x4 x6 b = some r) : Ev miX6_fewestFrom (d0 + 7, 0, 0) G (Zp G (some (.int r.1)) r.2) SK (0, 0) 84 [some (.ref a0), some (.ref a1), some (.int a2), some (.int a3), some (.int x4), some (.int b.1), some (.int x6), some (.int b.2.1)] [] b.2.2 := by
  unfold fX6_fewestFrom_b84 at h
  refine lp_ind (P := fun b r9 => r9 = r → Ev miX6_fewestFrom (d0 + 7, 0, 0) G (Zp G (some (.int r.1)) r.2) SK (0, 0) 84 [some (.ref a0), some (.ref a1), some (.int a2), some (.int a3), some (.int x4), some (.int b.1), some (.int x6), some (.int b.2.1)] [] b.2.2) (fun k84 b r9 ih h9 e9 => ?_) N b r h rfl
  clear h
  subst e9
  have h := h9
  clear h9
  have hk84 : ∀ b : Int32 × Int32 × pS, k84 b = some r9 → Ev miX6_fewestFrom (d0 + 7, 0, 0) G (Zp G (some (.int r9.1)) r9.2) SK (0, 0) 84 [some (.ref a0), some (.ref a1), some (.int a2), some (.int a3), some (.int x4), some (.int b.1), some (.int x6), some (.int b.2.1)] [] b.2.2 := fun b hb => ih b r9 hb rfl
  clear ih
  obtain ⟨x5, x7, σ⟩ := b
  dsimp only at h ⊢
  refine ev_iload dc_X6_fewestFrom_84 rfl ?_
  refine ev_aload_n dc_X6_fewestFrom_86 rfl ?_
  refine ev_getR dc_X6_fewestFrom_87 fi_X6_55 rfl i1 ?_
  refine ev_getI dc_X6_fewestFrom_90 fi_X6_59 rfl (wt hW i1 0 rfl rfl) ?_
  refine ev_icmp_ge (tgt := 135) dc_X6_fewestFrom_93 (by decide) h (fun h => ?_) (fun h => ?_)
  · refine ev_iinc (v := 1) (lv' := [some (.ref a0), some (.ref a1), some (.int a2), some (.int a3), some (.int x4), some (.int x5), some (.int (x6 + (1 : Int32))), some (.int x7)]) dc_X6_fewestFrom_135 rfl (by decide) rfl (by decide) rfl ?_
    refine ev_goto (tgt := 69) dc_X6_fewestFrom_138 (by decide) ?_
    exact ev_sub (hk69 (x5, x6 + (1 : Int32), σ) h) (And.intro rfl (And.intro rfl (And.intro rfl (And.intro rfl (And.intro rfl (And.intro rfl (And.intro rfl trivial)))))))
  · refine ev_aload_n dc_X6_fewestFrom_96 rfl ?_
    refine ev_iload dc_X6_fewestFrom_97 rfl ?_
    obtain ⟨q1, hq1, h⟩ := Option.bind_eq_some_iff.mp h
    refine ev_callS (av := [.ref a1, .int x6]) (st := []) (st1 := [.int q1]) dc_X6_fewestFrom_99 (tX6_isEnemyNear hW i1 hq1) mw_1312 cs_X6_isEnemyNear rfl rfl rfl (Nat.le_of_ble_eq_true rfl) (show _ ≤ d0 + 7 from by omega) ⟨Nat.le_refl _, Nat.le_refl _⟩ ?_
    refine ev_if_eq (tgt := 135) dc_X6_fewestFrom_102 (by decide) h (fun h => ?_) (fun h => ?_)
    · refine ev_iinc (v := 1) (lv' := [some (.ref a0), some (.ref a1), some (.int a2), some (.int a3), some (.int x4), some (.int x5), some (.int (x6 + (1 : Int32))), some (.int x7)]) dc_X6_fewestFrom_135 rfl (by decide) rfl (by decide) rfl ?_
      refine ev_goto (tgt := 69) dc_X6_fewestFrom_138 (by decide) ?_
      exact ev_sub (hk69 (x5, x6 + (1 : Int32), σ) h) (And.intro rfl (And.intro rfl (And.intro rfl (And.intro rfl (And.intro rfl (And.intro rfl (And.intro rfl trivial)))))))
    · refine ev_iload dc_X6_fewestFrom_105 rfl ?_
      refine ev_iconst (v := 1) dc_X6_fewestFrom_107 (by decide) ?_
      refine ev_icmp_le (tgt := 135) dc_X6_fewestFrom_108 (by decide) h (fun h => ?_) (fun h => ?_)
      · refine ev_iinc (v := 1) (lv' := [some (.ref a0), some (.ref a1), some (.int a2), some (.int a3), some (.int x4), some (.int x5), some (.int (x6 + (1 : Int32))), some (.int x7)]) dc_X6_fewestFrom_135 rfl (by decide) rfl (by decide) rfl ?_
        refine ev_goto (tgt := 69) dc_X6_fewestFrom_138 (by decide) ?_
        exact ev_sub (hk69 (x5, x6 + (1 : Int32), σ) h) (And.intro rfl (And.intro rfl (And.intro rfl (And.intro rfl (And.intro rfl (And.intro rfl (And.intro rfl trivial)))))))
      · refine ev_iload dc_X6_fewestFrom_111 rfl ?_
        refine ev_aload_n dc_X6_fewestFrom_113 rfl ?_
        refine ev_aload_n dc_X6_fewestFrom_114 rfl ?_
        refine ev_iload_n dc_X6_fewestFrom_115 rfl ?_
        refine ev_iload_n dc_X6_fewestFrom_116 rfl ?_
        refine ev_iload dc_X6_fewestFrom_117 rfl ?_
        refine ev_iload dc_X6_fewestFrom_119 rfl ?_
        obtain ⟨q2, hq2, h⟩ := Option.bind_eq_some_iff.mp h
        refine ev_callV (av := [.ref a1, .int a2, .int a3, .int x6, .int x7]) (st := [.int x5]) (st1 := [.int q2.1, .int x5]) dc_X6_fewestFrom_121 (tX6_fewestWith hW hrc i0 i1 hq2) mw_1317 cy_X6_fewestWith i0 (by decide) rfl rfl rfl rfl (Nat.le_of_ble_eq_true rfl) (show _ ≤ d0 + 7 from by omega) ⟨Nat.le_refl _, Nat.le_refl _⟩ ?_
        refine ev_min dc_X6_fewestFrom_124 mw_1311 (Nat.le_of_ble_eq_true rfl) (show _ ≤ d0 + 7 from by omega) ⟨Nat.le_refl _, Nat.le_refl _⟩ ?_
        refine ev_istore (lv' := [some (.ref a0), some (.ref a1), some (.int a2), some (.int a3), some (.int x4), some (.int (jmin x5 q2.1)), some (.int x6), some (.int x7)]) dc_X6_fewestFrom_127 rfl (by decide) rfl ?_
        refine ev_iinc (v := 1) (lv' := [some (.ref a0), some (.ref a1), some (.int a2), some (.int a3), some (.int x4), some (.int (jmin x5 q2.1)), some (.int x6), some (.int (x7 + (1 : Int32)))]) dc_X6_fewestFrom_129 rfl (by decide) rfl (by decide) rfl ?_
        refine ev_goto (tgt := 84) dc_X6_fewestFrom_132 (by decide) ?_
        exact ev_sub (hk84 (jmin x5 q2.1, x7 + (1 : Int32), q2.2) h) (And.intro rfl (And.intro rfl (And.intro rfl (And.intro rfl (And.intro rfl (And.intro rfl (And.intro rfl (And.intro rfl trivial))))))))
def fX6_fewestFrom_b69 (N : Nat) (G : pG) (rc : Nat × Nat × Int32 × Int32 × pS → Option (Int32 × pS)) (a0 : Nat) (a1 : Nat) (a2 : Int32) (a3 : Int32) (x4 : Int32) : (Int32 × Int32 × pS) → Option (Int32 × pS) := lp (fun (k69 : Int32 × Int32 × pS → Option (Int32 × pS)) (b : Int32 × Int32 × pS) => if (b.2.2.1 (pR G a1 0) 4) ≤ b.2.1 then (ck (inB x4 (pN G (pR G a0 1))) (some (b.1, sA b.2.2 (pR G a0 1) x4 b.1))) else (fX6_fewestFrom_b84 N G rc k69 a0 a1 a2 a3 x4 b.2.1 (b.1, (0 : Int32), b.2.2))) N
set_option maxRecDepth 100000 in
set_option maxHeartbeats 4000000 in
theorem tX6_fewestFrom_b69 {N : Nat} {G : pG} {SK : Nat → Nat} {rc : Nat × Nat × Int32 × Int32 × pS → Option (Int32 × pS)} {d0 : Nat} {a0 : Nat} {a1 : Nat} {a2 : Int32} {a3 : Int32} {x4 : Int32} {b : Int32 × Int32 × pS} {r : Int32 × pS} (hW : WT G) (hrc : ∀ (b : Nat × Nat × Int32 × Int32 × pS), Is G b.1 6 → Is G b.2.1 9 → ∀ (r : Int32 × pS), rc b = some r → Dn miX6_fewestFrom yX6_fewestFrom d0 G SK [.ref b.1, .ref b.2.1, .int b.2.2.1, .int b.2.2.2.1] b.2.2.2.2 (some (.int r.1)) r.2) (i0 : Is G a0 6) (i1 : Is G a1 9) (h : fX6_fewestFrom_b69 N G rc a0 a1 a2 a3 x4 b = some r) : Ev miX6_fewestFrom (d0 + 7, 0, 0) G (Zp G (some (.int r.1)) r.2) SK (0, 0) 69 [some (.ref a0), some (.ref a1), some (.int a2), some (.int a3), some (.int x4), some (.int b.1), some (.int b.2.1), none] [] b.2.2 := by
  unfold fX6_fewestFrom_b69 at h
  refine lp_ind (P := fun b r9 => r9 = r → Ev miX6_fewestFrom (d0 + 7, 0, 0) G (Zp G (some (.int r.1)) r.2) SK (0, 0) 69 [some (.ref a0), some (.ref a1), some (.int a2), some (.int a3), some (.int x4), some (.int b.1), some (.int b.2.1), none] [] b.2.2) (fun k69 b r9 ih h9 e9 => ?_) N b r h rfl
  clear h
  subst e9
  have h := h9
  clear h9
  have hk69 : ∀ b : Int32 × Int32 × pS, k69 b = some r9 → Ev miX6_fewestFrom (d0 + 7, 0, 0) G (Zp G (some (.int r9.1)) r9.2) SK (0, 0) 69 [some (.ref a0), some (.ref a1), some (.int a2), some (.int a3), some (.int x4), some (.int b.1), some (.int b.2.1), none] [] b.2.2 := fun b hb => ih b r9 hb rfl
  clear ih
  obtain ⟨x5, x6, σ⟩ := b
  dsimp only at h ⊢
  refine ev_iload dc_X6_fewestFrom_69 rfl ?_
  refine ev_aload_n dc_X6_fewestFrom_71 rfl ?_
  refine ev_getR dc_X6_fewestFrom_72 fi_X6_55 rfl i1 ?_
  refine ev_getI dc_X6_fewestFrom_75 fi_X6_64 rfl (wt hW i1 0 rfl rfl) ?_
  refine ev_icmp_ge (tgt := 141) dc_X6_fewestFrom_78 (by decide) h (fun h => ?_) (fun h => ?_)
  · refine ev_aload_n dc_X6_fewestFrom_141 rfl ?_
    refine ev_getR dc_X6_fewestFrom_142 fi_X6_18 rfl i0 ?_
    refine ev_iload dc_X6_fewestFrom_145 rfl ?_
    refine ev_iload dc_X6_fewestFrom_147 rfl ?_
    refine ev_iast dc_X6_fewestFrom_149 (wt hW i0 1 rfl rfl) h (fun h => ?_)
    refine ev_iload dc_X6_fewestFrom_150 rfl ?_
    cases h
    exact ev_iret dc_X6_fewestFrom_152 rfl rfl rfl
  · refine ev_iconst (v := 0) dc_X6_fewestFrom_81 (by decide) ?_
    refine ev_istore (lv' := [some (.ref a0), some (.ref a1), some (.int a2), some (.int a3), some (.int x4), some (.int x5), some (.int x6), some (.int (0 : Int32))]) dc_X6_fewestFrom_82 rfl (by decide) rfl ?_
    exact ev_sub (tX6_fewestFrom_b84 (b := (x5, (0 : Int32), σ)) hW hrc i0 i1 hk69 h) (And.intro rfl (And.intro rfl (And.intro rfl (And.intro rfl (And.intro rfl (And.intro rfl (And.intro rfl (And.intro rfl trivial))))))))
def fX6_fewestFrom_u (N : Nat) (G : pG) (rc : Nat × Nat × Int32 × Int32 × pS → Option (Int32 × pS)) (a0 : Nat) (a1 : Nat) (a2 : Int32) (a3 : Int32) (σ : pS) : Option (Int32 × pS) := if (σ.1 a0 4) ≤ a2 then (some ((1000 : Int32), σ)) else (if ((a2 * (100 : Int32)) + a3) < 0 then (some ((1000 : Int32), σ)) else (if ((a2 * (100 : Int32)) + a3) < (Int32.ofNat (pN G (pR G a0 1))) then (ck (inB ((a2 * (100 : Int32)) + a3) (pN G (pR G a0 1))) (if (gA σ (pR G a0 1) ((a2 * (100 : Int32)) + a3)) = (-1 : Int32) then ((fX6_latestBehind N G rc a0 a1 a2 a3 σ).bind (fun q3 => (fX6_oneMore N G q3.1 q3.2).bind (fun q4 => fX6_fewestFrom_b69 N G rc a0 a1 a2 a3 ((a2 * (100 : Int32)) + a3) (q4, (0 : Int32), q3.2)))) else (ck (inB ((a2 * (100 : Int32)) + a3) (pN G (pR G a0 1))) (some (gA σ (pR G a0 1) ((a2 * (100 : Int32)) + a3), σ))))) else (some ((1000 : Int32), σ))))
set_option maxRecDepth 100000 in
set_option maxHeartbeats 4000000 in
theorem tX6_fewestFrom_u {N : Nat} {G : pG} {SK : Nat → Nat} {rc : Nat × Nat × Int32 × Int32 × pS → Option (Int32 × pS)} {d0 : Nat} {a0 : Nat} {a1 : Nat} {a2 : Int32} {a3 : Int32} {σ : pS} {r : Int32 × pS} (hW : WT G) (hrc : ∀ (b : Nat × Nat × Int32 × Int32 × pS), Is G b.1 6 → Is G b.2.1 9 → ∀ (r : Int32 × pS), rc b = some r → Dn miX6_fewestFrom yX6_fewestFrom d0 G SK [.ref b.1, .ref b.2.1, .int b.2.2.1, .int b.2.2.2.1] b.2.2.2.2 (some (.int r.1)) r.2) (i0 : Is G a0 6) (i1 : Is G a1 9) (h : fX6_fewestFrom_u N G rc a0 a1 a2 a3 σ = some r) : Dn miX6_fewestFrom yX6_fewestFrom (d0 + 7) G SK [.ref a0, .ref a1, .int a2, .int a3] σ (some (.int r.1)) r.2 := by
  unfold fX6_fewestFrom_u at h
  refine dn_of (lv := [some (.ref a0), some (.ref a1), some (.int a2), some (.int a3), none, none, none, none]) (by decide) rfl rfl (Nat.le_of_ble_eq_true rfl) rfl ?_
  refine ev_iload_n dc_X6_fewestFrom_0 rfl ?_
  refine ev_bipush (v := 100) dc_X6_fewestFrom_1 (by decide) ?_
  refine ev_imul dc_X6_fewestFrom_3 ?_
  refine ev_iload_n dc_X6_fewestFrom_4 rfl ?_
  refine ev_iadd dc_X6_fewestFrom_5 ?_
  refine ev_istore (lv' := [some (.ref a0), some (.ref a1), some (.int a2), some (.int a3), some (.int ((a2 * (100 : Int32)) + a3)), none, none, none]) dc_X6_fewestFrom_6 rfl (by decide) rfl ?_
  refine ev_iload_n dc_X6_fewestFrom_8 rfl ?_
  refine ev_aload_n dc_X6_fewestFrom_9 rfl ?_
  refine ev_getI dc_X6_fewestFrom_10 fi_X6_29 rfl i0 ?_
  refine ev_icmp_ge (tgt := 31) dc_X6_fewestFrom_13 (by decide) h (fun h => ?_) (fun h => ?_)
  · refine ev_sipush (v := 1000) dc_X6_fewestFrom_31 (by decide) ?_
    cases h
    exact ev_iret dc_X6_fewestFrom_34 rfl rfl rfl
  · refine ev_iload dc_X6_fewestFrom_16 rfl ?_
    refine ev_if_lt (tgt := 31) dc_X6_fewestFrom_18 (by decide) h (fun h => ?_) (fun h => ?_)
    · refine ev_sipush (v := 1000) dc_X6_fewestFrom_31 (by decide) ?_
      cases h
      exact ev_iret dc_X6_fewestFrom_34 rfl rfl rfl
    · refine ev_iload dc_X6_fewestFrom_21 rfl ?_
      refine ev_aload_n dc_X6_fewestFrom_23 rfl ?_
      refine ev_getR dc_X6_fewestFrom_24 fi_X6_18 rfl i0 ?_
      refine ev_alen dc_X6_fewestFrom_27 (wt hW i0 1 rfl rfl) (by decide) rfl ?_
      refine ev_icmp_lt (tgt := 35) dc_X6_fewestFrom_28 (by decide) h (fun h => ?_) (fun h => ?_)
      · refine ev_aload_n dc_X6_fewestFrom_35 rfl ?_
        refine ev_getR dc_X6_fewestFrom_36 fi_X6_18 rfl i0 ?_
        refine ev_iload dc_X6_fewestFrom_39 rfl ?_
        refine ev_iald dc_X6_fewestFrom_41 (wt hW i0 1 rfl rfl) h (fun h => ?_)
        refine ev_iconst (v := (-1)) dc_X6_fewestFrom_42 (by decide) ?_
        refine ev_icmp_eq (tgt := 54) dc_X6_fewestFrom_43 (by decide) h (fun h => ?_) (fun h => ?_)
        · refine ev_aload_n dc_X6_fewestFrom_54 rfl ?_
          refine ev_aload_n dc_X6_fewestFrom_55 rfl ?_
          refine ev_iload_n dc_X6_fewestFrom_56 rfl ?_
          refine ev_iload_n dc_X6_fewestFrom_57 rfl ?_
          obtain ⟨q3, hq3, h⟩ := Option.bind_eq_some_iff.mp h
          refine ev_callV (av := [.ref a1, .int a2, .int a3]) (st := []) (st1 := [.int q3.1]) dc_X6_fewestFrom_58 (tX6_latestBehind hW hrc i0 i1 hq3) mw_1298 cy_X6_latestBehind i0 (by decide) rfl rfl rfl rfl (Nat.le_of_ble_eq_true rfl) (show _ ≤ d0 + 7 from by omega) ⟨Nat.le_refl _, Nat.le_refl _⟩ ?_
          obtain ⟨q4, hq4, h⟩ := Option.bind_eq_some_iff.mp h
          refine ev_callS (av := [.int q3.1]) (st := []) (st1 := [.int q4]) dc_X6_fewestFrom_61 (tX6_oneMore hW hq4) mw_1308 cs_X6_oneMore rfl rfl rfl (Nat.le_of_ble_eq_true rfl) (show _ ≤ d0 + 7 from by omega) ⟨Nat.le_refl _, Nat.le_refl _⟩ ?_
          refine ev_istore (lv' := [some (.ref a0), some (.ref a1), some (.int a2), some (.int a3), some (.int ((a2 * (100 : Int32)) + a3)), some (.int q4), none, none]) dc_X6_fewestFrom_64 rfl (by decide) rfl ?_
          refine ev_iconst (v := 0) dc_X6_fewestFrom_66 (by decide) ?_
          refine ev_istore (lv' := [some (.ref a0), some (.ref a1), some (.int a2), some (.int a3), some (.int ((a2 * (100 : Int32)) + a3)), some (.int q4), some (.int (0 : Int32)), none]) dc_X6_fewestFrom_67 rfl (by decide) rfl ?_
          exact ev_sub (tX6_fewestFrom_b69 (b := (q4, (0 : Int32), q3.2)) hW hrc i0 i1 h) (And.intro rfl (And.intro rfl (And.intro rfl (And.intro rfl (And.intro rfl (And.intro rfl (And.intro rfl trivial)))))))
        · refine ev_aload_n dc_X6_fewestFrom_46 rfl ?_
          refine ev_getR dc_X6_fewestFrom_47 fi_X6_18 rfl i0 ?_
          refine ev_iload dc_X6_fewestFrom_50 rfl ?_
          refine ev_iald dc_X6_fewestFrom_52 (wt hW i0 1 rfl rfl) h (fun h => ?_)
          cases h
          exact ev_iret dc_X6_fewestFrom_53 rfl rfl rfl
      · refine ev_sipush (v := 1000) dc_X6_fewestFrom_31 (by decide) ?_
        cases h
        exact ev_iret dc_X6_fewestFrom_34 rfl rfl rfl
def fX6_fewestFrom_r (N : Nat) (G : pG) : (Nat × Nat × Int32 × Int32 × pS) → Option (Int32 × pS) := lp (fun (rc : Nat × Nat × Int32 × Int32 × pS → Option (Int32 × pS)) (b : Nat × Nat × Int32 × Int32 × pS) => fX6_fewestFrom_u N G rc b.1 b.2.1 b.2.2.1 b.2.2.2.1 b.2.2.2.2) 15
theorem tX6_fewestFrom_n {N : Nat} {G : pG} {SK : Nat → Nat} (hW : WT G) : ∀ (n : Nat) (b : Nat × Nat × Int32 × Int32 × pS) (r : Int32 × pS), lp (fun (rc : Nat × Nat × Int32 × Int32 × pS → Option (Int32 × pS)) (b : Nat × Nat × Int32 × Int32 × pS) => fX6_fewestFrom_u N G rc b.1 b.2.1 b.2.2.1 b.2.2.2.1 b.2.2.2.2) n b = some r → Is G b.1 6 → Is G b.2.1 9 → Dn miX6_fewestFrom yX6_fewestFrom (7 * n) G SK [.ref b.1, .ref b.2.1, .int b.2.2.1, .int b.2.2.2.1] b.2.2.2.2 (some (.int r.1)) r.2 := by
  refine lp_ind2 (P := fun (n : Nat) (b : Nat × Nat × Int32 × Int32 × pS) (r : Int32 × pS) => Is G b.1 6 → Is G b.2.1 9 → Dn miX6_fewestFrom yX6_fewestFrom (7 * n) G SK [.ref b.1, .ref b.2.1, .int b.2.2.1, .int b.2.2.2.1] b.2.2.2.2 (some (.int r.1)) r.2) (fun n rc b r ih h => ?_)
  intro i0 i1
  exact tX6_fewestFrom_u (d0 := 7 * n) hW (fun b i0 i1 r h => ih b r h i0 i1) i0 i1 h
theorem tX6_fewestFrom_r {N : Nat} {G : pG} {SK : Nat → Nat} (hW : WT G) : ∀ (b : Nat × Nat × Int32 × Int32 × pS), Is G b.1 6 → Is G b.2.1 9 → ∀ (r : Int32 × pS), fX6_fewestFrom_r N G b = some r → Dn miX6_fewestFrom yX6_fewestFrom 105 G SK [.ref b.1, .ref b.2.1, .int b.2.2.1, .int b.2.2.2.1] b.2.2.2.2 (some (.int r.1)) r.2 := fun b i0 i1 r h => tX6_fewestFrom_n hW 15 b r h i0 i1
def fX6_fewestFrom (N : Nat) (G : pG) (a0 : Nat) (a1 : Nat) (a2 : Int32) (a3 : Int32) (σ : pS) : Option (Int32 × pS) := fX6_fewestFrom_r N G (a0, a1, a2, a3, σ)
theorem tX6_fewestFrom {N : Nat} {G : pG} {SK : Nat → Nat} {a0 : Nat} {a1 : Nat} {a2 : Int32} {a3 : Int32} {σ : pS} {r : Int32 × pS} (hW : WT G) (i0 : Is G a0 6) (i1 : Is G a1 9) (h : fX6_fewestFrom N G a0 a1 a2 a3 σ = some r) : Dn miX6_fewestFrom yX6_fewestFrom 105 G SK [.ref a0, .ref a1, .int a2, .int a3] σ (some (.int r.1)) r.2 := tX6_fewestFrom_r hW _ i0 i1 r h
theorem dc_X6_open_0 : Dc miX6_open 0 (.aload_n 0) 1 1 := ⟨by decide +kernel, rfl⟩
theorem dc_X6_open_1 : Dc miX6_open 1 (.getfield 12) 3 4 := ⟨by decide +kernel, rfl⟩
theorem dc_X6_open_4 : Dc miX6_open 4 (.aload_n 1) 1 5 := ⟨by decide +kernel, rfl⟩
theorem dc_X6_open_5 : Dc miX6_open 5 (.getfield 36) 3 8 := ⟨by decide +kernel, rfl⟩
theorem dc_X6_open_8 : Dc miX6_open 8 (.invokevirtual 82) 3 11 := ⟨by decide +kernel, rfl⟩
theorem dc_X6_open_11 : Dc miX6_open 11 (.aload_n 0) 1 12 := ⟨by decide +kernel, rfl⟩
theorem dc_X6_open_12 : Dc miX6_open 12 (.aload_n 1) 1 13 := ⟨by decide +kernel, rfl⟩
theorem dc_X6_open_13 : Dc miX6_open 13 (.getfield 36) 3 16 := ⟨by decide +kernel, rfl⟩
theorem dc_X6_open_16 : Dc miX6_open 16 (.getfield 86) 3 19 := ⟨by decide +kernel, rfl⟩
theorem dc_X6_open_19 : Dc miX6_open 19 (.putfield 25) 3 22 := ⟨by decide +kernel, rfl⟩
theorem dc_X6_open_22 : Dc miX6_open 22 (.aload_n 0) 1 23 := ⟨by decide +kernel, rfl⟩
theorem dc_X6_open_23 : Dc miX6_open 23 (.iload_n 2) 1 24 := ⟨by decide +kernel, rfl⟩
theorem dc_X6_open_24 : Dc miX6_open 24 (.putfield 29) 3 27 := ⟨by decide +kernel, rfl⟩
theorem dc_X6_open_27 : Dc miX6_open 27 (.iconst 0) 1 28 := ⟨by decide +kernel, rfl⟩
theorem dc_X6_open_28 : Dc miX6_open 28 (.istore_n 3) 1 29 := ⟨by decide +kernel, rfl⟩
theorem dc_X6_open_29 : Dc miX6_open 29 (.iload_n 3) 1 30 := ⟨by decide +kernel, rfl⟩
theorem dc_X6_open_30 : Dc miX6_open 30 (.sipush 1200) 3 33 := ⟨by decide +kernel, rfl⟩
theorem dc_X6_open_33 : Dc miX6_open 33 (.if_icmp .ge 23) 3 36 := ⟨by decide +kernel, rfl⟩
theorem dc_X6_open_36 : Dc miX6_open 36 (.aload_n 0) 1 37 := ⟨by decide +kernel, rfl⟩
theorem dc_X6_open_37 : Dc miX6_open 37 (.getfield 18) 3 40 := ⟨by decide +kernel, rfl⟩
theorem dc_X6_open_40 : Dc miX6_open 40 (.iload_n 3) 1 41 := ⟨by decide +kernel, rfl⟩
theorem dc_X6_open_41 : Dc miX6_open 41 (.iconst (-1)) 1 42 := ⟨by decide +kernel, rfl⟩
theorem dc_X6_open_42 : Dc miX6_open 42 (.iastore) 1 43 := ⟨by decide +kernel, rfl⟩
theorem dc_X6_open_43 : Dc miX6_open 43 (.aload_n 0) 1 44 := ⟨by decide +kernel, rfl⟩
theorem dc_X6_open_44 : Dc miX6_open 44 (.getfield 22) 3 47 := ⟨by decide +kernel, rfl⟩
theorem dc_X6_open_47 : Dc miX6_open 47 (.iload_n 3) 1 48 := ⟨by decide +kernel, rfl⟩
theorem dc_X6_open_48 : Dc miX6_open 48 (.iconst (-1)) 1 49 := ⟨by decide +kernel, rfl⟩
theorem dc_X6_open_49 : Dc miX6_open 49 (.iastore) 1 50 := ⟨by decide +kernel, rfl⟩
theorem dc_X6_open_50 : Dc miX6_open 50 (.iinc 3 1) 3 53 := ⟨by decide +kernel, rfl⟩
theorem dc_X6_open_53 : Dc miX6_open 53 (.goto (-24)) 3 56 := ⟨by decide +kernel, rfl⟩
theorem dc_X6_open_56 : Dc miX6_open 56 (.return_) 1 57 := ⟨by decide +kernel, rfl⟩
def fX6_open_b29 (N : Nat) (G : pG) (a0 : Nat) : (Int32 × pS) → Option (pS) := lp (fun (k29 : Int32 × pS → Option (pS)) (b : Int32 × pS) => if (1200 : Int32) ≤ b.1 then (some b.2) else (ck (inB b.1 (pN G (pR G a0 1))) (ck (inB b.1 (pN G (pR G a0 2))) (k29 (b.1 + (1 : Int32), sA (sA b.2 (pR G a0 1) b.1 (-1 : Int32)) (pR G a0 2) b.1 (-1 : Int32)))))) N
set_option maxRecDepth 100000 in
set_option maxHeartbeats 4000000 in
theorem tX6_open_b29 {N : Nat} {G : pG} {SK : Nat → Nat} {a0 : Nat} {b : Int32 × pS} {r : pS} (hW : WT G) (i0 : Is G a0 6) (h : fX6_open_b29 N G a0 b = some r) : Ev miX6_open (2, 0, 0) G (Zp G none r) SK (0, 0) 29 [some (.ref a0), none, none, some (.int b.1)] [] b.2 := by
  unfold fX6_open_b29 at h
  refine lp_ind (P := fun b r9 => r9 = r → Ev miX6_open (2, 0, 0) G (Zp G none r) SK (0, 0) 29 [some (.ref a0), none, none, some (.int b.1)] [] b.2) (fun k29 b r9 ih h9 e9 => ?_) N b r h rfl
  clear h
  subst e9
  have h := h9
  clear h9
  have hk29 : ∀ b : Int32 × pS, k29 b = some r9 → Ev miX6_open (2, 0, 0) G (Zp G none r9) SK (0, 0) 29 [some (.ref a0), none, none, some (.int b.1)] [] b.2 := fun b hb => ih b r9 hb rfl
  clear ih
  obtain ⟨x3, σ⟩ := b
  dsimp only at h ⊢
  refine ev_iload_n dc_X6_open_29 rfl ?_
  refine ev_sipush (v := 1200) dc_X6_open_30 (by decide) ?_
  refine ev_icmp_ge (tgt := 56) dc_X6_open_33 (by decide) h (fun h => ?_) (fun h => ?_)
  · cases h
    exact ev_vret dc_X6_open_56 rfl rfl rfl
  · refine ev_aload_n dc_X6_open_36 rfl ?_
    refine ev_getR dc_X6_open_37 fi_X6_18 rfl i0 ?_
    refine ev_iload_n dc_X6_open_40 rfl ?_
    refine ev_iconst (v := (-1)) dc_X6_open_41 (by decide) ?_
    refine ev_iast dc_X6_open_42 (wt hW i0 1 rfl rfl) h (fun h => ?_)
    refine ev_aload_n dc_X6_open_43 rfl ?_
    refine ev_getR dc_X6_open_44 fi_X6_22 rfl i0 ?_
    refine ev_iload_n dc_X6_open_47 rfl ?_
    refine ev_iconst (v := (-1)) dc_X6_open_48 (by decide) ?_
    refine ev_iast dc_X6_open_49 (wt hW i0 2 rfl rfl) h (fun h => ?_)
    refine ev_iinc (v := 1) (lv' := [some (.ref a0), none, none, some (.int (x3 + (1 : Int32)))]) dc_X6_open_50 rfl (by decide) rfl (by decide) rfl ?_
    refine ev_goto (tgt := 29) dc_X6_open_53 (by decide) ?_
    exact ev_sub (hk29 (x3 + (1 : Int32), sA (sA σ (pR G a0 1) x3 (-1 : Int32)) (pR G a0 2) x3 (-1 : Int32)) h) (And.intro rfl (And.intro rfl trivial))
def fX6_open (N : Nat) (G : pG) (a0 : Nat) (a1 : Nat) (a2 : Int32) (σ : pS) : Option (pS) := (fX3_copyThoughtFrom N G (pR G a0 0) (pR G a1 2) σ).bind (fun q1 => fX6_open_b29 N G a0 ((0 : Int32), putF (putF q1 a0 3 (q1.1 (pR G a1 2) 1)) a0 4 a2))
set_option maxRecDepth 100000 in
set_option maxHeartbeats 4000000 in
theorem tX6_open {N : Nat} {G : pG} {SK : Nat → Nat} {a0 : Nat} {a1 : Nat} {a2 : Int32} {σ : pS} {r : pS} (hW : WT G) (i0 : Is G a0 6) (i1 : Is G a1 9) (h : fX6_open N G a0 a1 a2 σ = some r) : Dn miX6_open yX6_open 2 G SK [.ref a0, .ref a1, .int a2] σ none r := by
  unfold fX6_open at h
  refine dn_of (lv := [some (.ref a0), some (.ref a1), some (.int a2), none]) (by decide) rfl rfl (Nat.le_of_ble_eq_true rfl) rfl ?_
  refine ev_aload_n dc_X6_open_0 rfl ?_
  refine ev_getR dc_X6_open_1 fi_X6_12 rfl i0 ?_
  refine ev_aload_n dc_X6_open_4 rfl ?_
  refine ev_getR dc_X6_open_5 fi_X6_36 rfl i1 ?_
  obtain ⟨q1, hq1, h⟩ := Option.bind_eq_some_iff.mp h
  refine ev_callV (av := [.ref (pR G a1 2)]) (st := []) (st1 := []) dc_X6_open_8 (tX3_copyThoughtFrom hW (wt hW i0 0 rfl rfl) (wt hW i1 2 rfl rfl) hq1) mw_1293 cy_X3_copyThoughtFrom (wt hW i0 0 rfl rfl) (by decide) rfl rfl rfl rfl (Nat.le_of_ble_eq_true rfl) (Nat.le_of_ble_eq_true rfl) ⟨Nat.le_refl _, Nat.le_refl _⟩ ?_
  refine ev_aload_n dc_X6_open_11 rfl ?_
  refine ev_aload_n dc_X6_open_12 rfl ?_
  refine ev_getR dc_X6_open_13 fi_X6_36 rfl i1 ?_
  refine ev_getI dc_X6_open_16 fi_X6_86 rfl (wt hW i1 2 rfl rfl) ?_
  refine ev_putI dc_X6_open_19 fi_X6_25 rfl i0 ?_
  refine ev_aload_n dc_X6_open_22 rfl ?_
  refine ev_iload_n dc_X6_open_23 rfl ?_
  refine ev_putI dc_X6_open_24 fi_X6_29 rfl i0 ?_
  refine ev_iconst (v := 0) dc_X6_open_27 (by decide) ?_
  refine ev_istore_n (lv' := [some (.ref a0), some (.ref a1), some (.int a2), some (.int (0 : Int32))]) dc_X6_open_28 rfl (by decide) rfl ?_
  exact ev_sub (tX6_open_b29 (b := ((0 : Int32), putF (putF q1 a0 3 (q1.1 (pR G a1 2) 1)) a0 4 a2)) hW i0 h) (And.intro rfl (And.intro rfl trivial))
theorem dc_X6_bestDefence_0 : Dc miX6_bestDefence 0 (.aload_n 0) 1 1 := ⟨by decide +kernel, rfl⟩
theorem dc_X6_bestDefence_1 : Dc miX6_bestDefence 1 (.aload_n 1) 1 2 := ⟨by decide +kernel, rfl⟩
theorem dc_X6_bestDefence_2 : Dc miX6_bestDefence 2 (.iload_n 3) 1 3 := ⟨by decide +kernel, rfl⟩
theorem dc_X6_bestDefence_3 : Dc miX6_bestDefence 3 (.iconst 1) 1 4 := ⟨by decide +kernel, rfl⟩
theorem dc_X6_bestDefence_4 : Dc miX6_bestDefence 4 (.iadd) 1 5 := ⟨by decide +kernel, rfl⟩
theorem dc_X6_bestDefence_5 : Dc miX6_bestDefence 5 (.invokevirtual 32) 3 8 := ⟨by decide +kernel, rfl⟩
theorem dc_X6_bestDefence_8 : Dc miX6_bestDefence 8 (.iconst (-1)) 1 9 := ⟨by decide +kernel, rfl⟩
theorem dc_X6_bestDefence_9 : Dc miX6_bestDefence 9 (.istore 4) 2 11 := ⟨by decide +kernel, rfl⟩
theorem dc_X6_bestDefence_11 : Dc miX6_bestDefence 11 (.aload_n 0) 1 12 := ⟨by decide +kernel, rfl⟩
theorem dc_X6_bestDefence_12 : Dc miX6_bestDefence 12 (.aload_n 1) 1 13 := ⟨by decide +kernel, rfl⟩
theorem dc_X6_bestDefence_13 : Dc miX6_bestDefence 13 (.iconst 1) 1 14 := ⟨by decide +kernel, rfl⟩
theorem dc_X6_bestDefence_14 : Dc miX6_bestDefence 14 (.iload_n 2) 1 15 := ⟨by decide +kernel, rfl⟩
theorem dc_X6_bestDefence_15 : Dc miX6_bestDefence 15 (.invokevirtual 44) 3 18 := ⟨by decide +kernel, rfl⟩
theorem dc_X6_bestDefence_18 : Dc miX6_bestDefence 18 (.istore 5) 2 20 := ⟨by decide +kernel, rfl⟩
theorem dc_X6_bestDefence_20 : Dc miX6_bestDefence 20 (.iconst 0) 1 21 := ⟨by decide +kernel, rfl⟩
theorem dc_X6_bestDefence_21 : Dc miX6_bestDefence 21 (.istore 6) 2 23 := ⟨by decide +kernel, rfl⟩
theorem dc_X6_bestDefence_23 : Dc miX6_bestDefence 23 (.iload 6) 2 25 := ⟨by decide +kernel, rfl⟩
theorem dc_X6_bestDefence_25 : Dc miX6_bestDefence 25 (.aload_n 1) 1 26 := ⟨by decide +kernel, rfl⟩
theorem dc_X6_bestDefence_26 : Dc miX6_bestDefence 26 (.getfield 55) 3 29 := ⟨by decide +kernel, rfl⟩
theorem dc_X6_bestDefence_29 : Dc miX6_bestDefence 29 (.getfield 75) 3 32 := ⟨by decide +kernel, rfl⟩
theorem dc_X6_bestDefence_32 : Dc miX6_bestDefence 32 (.if_icmp .ge 41) 3 35 := ⟨by decide +kernel, rfl⟩
theorem dc_X6_bestDefence_35 : Dc miX6_bestDefence 35 (.aload_n 0) 1 36 := ⟨by decide +kernel, rfl⟩
theorem dc_X6_bestDefence_36 : Dc miX6_bestDefence 36 (.aload_n 1) 1 37 := ⟨by decide +kernel, rfl⟩
theorem dc_X6_bestDefence_37 : Dc miX6_bestDefence 37 (.iconst 1) 1 38 := ⟨by decide +kernel, rfl⟩
theorem dc_X6_bestDefence_38 : Dc miX6_bestDefence 38 (.aload_n 0) 1 39 := ⟨by decide +kernel, rfl⟩
theorem dc_X6_bestDefence_39 : Dc miX6_bestDefence 39 (.aload_n 1) 1 40 := ⟨by decide +kernel, rfl⟩
theorem dc_X6_bestDefence_40 : Dc miX6_bestDefence 40 (.iconst 0) 1 41 := ⟨by decide +kernel, rfl⟩
theorem dc_X6_bestDefence_41 : Dc miX6_bestDefence 41 (.iload_n 2) 1 42 := ⟨by decide +kernel, rfl⟩
theorem dc_X6_bestDefence_42 : Dc miX6_bestDefence 42 (.iload 6) 2 44 := ⟨by decide +kernel, rfl⟩
theorem dc_X6_bestDefence_44 : Dc miX6_bestDefence 44 (.invokevirtual 78) 3 47 := ⟨by decide +kernel, rfl⟩
theorem dc_X6_bestDefence_47 : Dc miX6_bestDefence 47 (.invokevirtual 44) 3 50 := ⟨by decide +kernel, rfl⟩
theorem dc_X6_bestDefence_50 : Dc miX6_bestDefence 50 (.istore 7) 2 52 := ⟨by decide +kernel, rfl⟩
theorem dc_X6_bestDefence_52 : Dc miX6_bestDefence 52 (.iload 7) 2 54 := ⟨by decide +kernel, rfl⟩
theorem dc_X6_bestDefence_54 : Dc miX6_bestDefence 54 (.iload 5) 2 56 := ⟨by decide +kernel, rfl⟩
theorem dc_X6_bestDefence_56 : Dc miX6_bestDefence 56 (.if_icmp .le 11) 3 59 := ⟨by decide +kernel, rfl⟩
theorem dc_X6_bestDefence_59 : Dc miX6_bestDefence 59 (.iload 6) 2 61 := ⟨by decide +kernel, rfl⟩
theorem dc_X6_bestDefence_61 : Dc miX6_bestDefence 61 (.istore 4) 2 63 := ⟨by decide +kernel, rfl⟩
theorem dc_X6_bestDefence_63 : Dc miX6_bestDefence 63 (.iload 7) 2 65 := ⟨by decide +kernel, rfl⟩
theorem dc_X6_bestDefence_65 : Dc miX6_bestDefence 65 (.istore 5) 2 67 := ⟨by decide +kernel, rfl⟩
theorem dc_X6_bestDefence_67 : Dc miX6_bestDefence 67 (.iinc 6 1) 3 70 := ⟨by decide +kernel, rfl⟩
theorem dc_X6_bestDefence_70 : Dc miX6_bestDefence 70 (.goto (-47)) 3 73 := ⟨by decide +kernel, rfl⟩
theorem dc_X6_bestDefence_73 : Dc miX6_bestDefence 73 (.iload 4) 2 75 := ⟨by decide +kernel, rfl⟩
theorem dc_X6_bestDefence_75 : Dc miX6_bestDefence 75 (.ireturn) 1 76 := ⟨by decide +kernel, rfl⟩
def fX6_bestDefence_b23 (N : Nat) (G : pG) (a0 : Nat) (a1 : Nat) (a2 : Int32) : (Int32 × Int32 × Int32 × pS) → Option (Int32 × pS) := lp (fun (k23 : Int32 × Int32 × Int32 × pS → Option (Int32 × pS)) (b : Int32 × Int32 × Int32 × pS) => if (b.2.2.2.1 (pR G a1 0) 3) ≤ b.2.2.1 then (some (b.1, b.2.2.2)) else ((fX6_easedOn N G a0 a1 (0 : Int32) a2 b.2.2.1 b.2.2.2).bind (fun q1 => (fX6_fewestFrom N G a0 a1 (1 : Int32) q1.1 q1.2).bind (fun q2 => if q2.1 ≤ b.2.1 then (k23 (b.1, b.2.1, b.2.2.1 + (1 : Int32), q2.2)) else (k23 (b.2.2.1, q2.1, b.2.2.1 + (1 : Int32), q2.2)))))) N
set_option maxRecDepth 100000 in
set_option maxHeartbeats 4000000 in
theorem tX6_bestDefence_b23 {N : Nat} {G : pG} {SK : Nat → Nat} {a0 : Nat} {a1 : Nat} {a2 : Int32} {b : Int32 × Int32 × Int32 × pS} {r : Int32 × pS} (hW : WT G) (i0 : Is G a0 6) (i1 : Is G a1 9) (h : fX6_bestDefence_b23 N G a0 a1 a2 b = some r) : Ev miX6_bestDefence (106, 0, 0) G (Zp G (some (.int r.1)) r.2) SK (0, 0) 23 [some (.ref a0), some (.ref a1), some (.int a2), none, some (.int b.1), some (.int b.2.1), some (.int b.2.2.1), none] [] b.2.2.2 := by
  unfold fX6_bestDefence_b23 at h
  refine lp_ind (P := fun b r9 => r9 = r → Ev miX6_bestDefence (106, 0, 0) G (Zp G (some (.int r.1)) r.2) SK (0, 0) 23 [some (.ref a0), some (.ref a1), some (.int a2), none, some (.int b.1), some (.int b.2.1), some (.int b.2.2.1), none] [] b.2.2.2) (fun k23 b r9 ih h9 e9 => ?_) N b r h rfl
  clear h
  subst e9
  have h := h9
  clear h9
  have hk23 : ∀ b : Int32 × Int32 × Int32 × pS, k23 b = some r9 → Ev miX6_bestDefence (106, 0, 0) G (Zp G (some (.int r9.1)) r9.2) SK (0, 0) 23 [some (.ref a0), some (.ref a1), some (.int a2), none, some (.int b.1), some (.int b.2.1), some (.int b.2.2.1), none] [] b.2.2.2 := fun b hb => ih b r9 hb rfl
  clear ih
  obtain ⟨x4, x5, x6, σ⟩ := b
  dsimp only at h ⊢
  refine ev_iload dc_X6_bestDefence_23 rfl ?_
  refine ev_aload_n dc_X6_bestDefence_25 rfl ?_
  refine ev_getR dc_X6_bestDefence_26 fi_X6_55 rfl i1 ?_
  refine ev_getI dc_X6_bestDefence_29 fi_X6_75 rfl (wt hW i1 0 rfl rfl) ?_
  refine ev_icmp_ge (tgt := 73) dc_X6_bestDefence_32 (by decide) h (fun h => ?_) (fun h => ?_)
  · refine ev_iload dc_X6_bestDefence_73 rfl ?_
    cases h
    exact ev_iret dc_X6_bestDefence_75 rfl rfl rfl
  · refine ev_aload_n dc_X6_bestDefence_35 rfl ?_
    refine ev_aload_n dc_X6_bestDefence_36 rfl ?_
    refine ev_iconst (v := 1) dc_X6_bestDefence_37 (by decide) ?_
    refine ev_aload_n dc_X6_bestDefence_38 rfl ?_
    refine ev_aload_n dc_X6_bestDefence_39 rfl ?_
    refine ev_iconst (v := 0) dc_X6_bestDefence_40 (by decide) ?_
    refine ev_iload_n dc_X6_bestDefence_41 rfl ?_
    refine ev_iload dc_X6_bestDefence_42 rfl ?_
    obtain ⟨q1, hq1, h⟩ := Option.bind_eq_some_iff.mp h
    refine ev_callV (av := [.ref a1, .int (0 : Int32), .int a2, .int x6]) (st := [.int (1 : Int32), .ref a1, .ref a0]) (st1 := [.int q1.1, .int (1 : Int32), .ref a1, .ref a0]) dc_X6_bestDefence_44 (tX6_easedOn hW i0 i1 hq1) mw_1302 cy_X6_easedOn i0 (by decide) rfl rfl rfl rfl (Nat.le_of_ble_eq_true rfl) (Nat.le_of_ble_eq_true rfl) ⟨Nat.le_refl _, Nat.le_refl _⟩ ?_
    obtain ⟨q2, hq2, h⟩ := Option.bind_eq_some_iff.mp h
    refine ev_callV (av := [.ref a1, .int (1 : Int32), .int q1.1]) (st := []) (st1 := [.int q2.1]) dc_X6_bestDefence_47 (tX6_fewestFrom hW i0 i1 hq2) mw_1294 cy_X6_fewestFrom i0 (by decide) rfl rfl rfl rfl (Nat.le_of_ble_eq_true rfl) (Nat.le_of_ble_eq_true rfl) ⟨Nat.le_refl _, Nat.le_refl _⟩ ?_
    refine ev_istore (lv' := [some (.ref a0), some (.ref a1), some (.int a2), none, some (.int x4), some (.int x5), some (.int x6), some (.int q2.1)]) dc_X6_bestDefence_50 rfl (by decide) rfl ?_
    refine ev_iload dc_X6_bestDefence_52 rfl ?_
    refine ev_iload dc_X6_bestDefence_54 rfl ?_
    refine ev_icmp_le (tgt := 67) dc_X6_bestDefence_56 (by decide) h (fun h => ?_) (fun h => ?_)
    · refine ev_iinc (v := 1) (lv' := [some (.ref a0), some (.ref a1), some (.int a2), none, some (.int x4), some (.int x5), some (.int (x6 + (1 : Int32))), some (.int q2.1)]) dc_X6_bestDefence_67 rfl (by decide) rfl (by decide) rfl ?_
      refine ev_goto (tgt := 23) dc_X6_bestDefence_70 (by decide) ?_
      exact ev_sub (hk23 (x4, x5, x6 + (1 : Int32), q2.2) h) (And.intro rfl (And.intro rfl (And.intro rfl (And.intro rfl (And.intro rfl (And.intro rfl trivial))))))
    · refine ev_iload dc_X6_bestDefence_59 rfl ?_
      refine ev_istore (lv' := [some (.ref a0), some (.ref a1), some (.int a2), none, some (.int x6), some (.int x5), some (.int x6), some (.int q2.1)]) dc_X6_bestDefence_61 rfl (by decide) rfl ?_
      refine ev_iload dc_X6_bestDefence_63 rfl ?_
      refine ev_istore (lv' := [some (.ref a0), some (.ref a1), some (.int a2), none, some (.int x6), some (.int q2.1), some (.int x6), some (.int q2.1)]) dc_X6_bestDefence_65 rfl (by decide) rfl ?_
      refine ev_iinc (v := 1) (lv' := [some (.ref a0), some (.ref a1), some (.int a2), none, some (.int x6), some (.int q2.1), some (.int (x6 + (1 : Int32))), some (.int q2.1)]) dc_X6_bestDefence_67 rfl (by decide) rfl (by decide) rfl ?_
      refine ev_goto (tgt := 23) dc_X6_bestDefence_70 (by decide) ?_
      exact ev_sub (hk23 (x6, q2.1, x6 + (1 : Int32), q2.2) h) (And.intro rfl (And.intro rfl (And.intro rfl (And.intro rfl (And.intro rfl (And.intro rfl trivial))))))
def fX6_bestDefence (N : Nat) (G : pG) (a0 : Nat) (a1 : Nat) (a2 : Int32) (a3 : Int32) (σ : pS) : Option (Int32 × pS) := (fX6_open N G a0 a1 (a3 + (1 : Int32)) σ).bind (fun q3 => (fX6_fewestFrom N G a0 a1 (1 : Int32) a2 q3).bind (fun q4 => fX6_bestDefence_b23 N G a0 a1 a2 ((-1 : Int32), q4.1, (0 : Int32), q4.2)))
set_option maxRecDepth 100000 in
set_option maxHeartbeats 4000000 in
theorem tX6_bestDefence {N : Nat} {G : pG} {SK : Nat → Nat} {a0 : Nat} {a1 : Nat} {a2 : Int32} {a3 : Int32} {σ : pS} {r : Int32 × pS} (hW : WT G) (i0 : Is G a0 6) (i1 : Is G a1 9) (h : fX6_bestDefence N G a0 a1 a2 a3 σ = some r) : Dn miX6_bestDefence yX6_bestDefence 106 G SK [.ref a0, .ref a1, .int a2, .int a3] σ (some (.int r.1)) r.2 := by
  unfold fX6_bestDefence at h
  refine dn_of (lv := [some (.ref a0), some (.ref a1), some (.int a2), some (.int a3), none, none, none, none]) (by decide) rfl rfl (Nat.le_of_ble_eq_true rfl) rfl ?_
  refine ev_aload_n dc_X6_bestDefence_0 rfl ?_
  refine ev_aload_n dc_X6_bestDefence_1 rfl ?_
  refine ev_iload_n dc_X6_bestDefence_2 rfl ?_
  refine ev_iconst (v := 1) dc_X6_bestDefence_3 (by decide) ?_
  refine ev_iadd dc_X6_bestDefence_4 ?_
  obtain ⟨q3, hq3, h⟩ := Option.bind_eq_some_iff.mp h
  refine ev_callV (av := [.ref a1, .int (a3 + (1 : Int32))]) (st := []) (st1 := []) dc_X6_bestDefence_5 (tX6_open hW i0 i1 hq3) mw_1289 cy_X6_open i0 (by decide) rfl rfl rfl rfl (Nat.le_of_ble_eq_true rfl) (Nat.le_of_ble_eq_true rfl) ⟨Nat.le_refl _, Nat.le_refl _⟩ ?_
  refine ev_iconst (v := (-1)) dc_X6_bestDefence_8 (by decide) ?_
  refine ev_istore (lv' := [some (.ref a0), some (.ref a1), some (.int a2), some (.int a3), some (.int (-1 : Int32)), none, none, none]) dc_X6_bestDefence_9 rfl (by decide) rfl ?_
  refine ev_aload_n dc_X6_bestDefence_11 rfl ?_
  refine ev_aload_n dc_X6_bestDefence_12 rfl ?_
  refine ev_iconst (v := 1) dc_X6_bestDefence_13 (by decide) ?_
  refine ev_iload_n dc_X6_bestDefence_14 rfl ?_
  obtain ⟨q4, hq4, h⟩ := Option.bind_eq_some_iff.mp h
  refine ev_callV (av := [.ref a1, .int (1 : Int32), .int a2]) (st := []) (st1 := [.int q4.1]) dc_X6_bestDefence_15 (tX6_fewestFrom hW i0 i1 hq4) mw_1294 cy_X6_fewestFrom i0 (by decide) rfl rfl rfl rfl (Nat.le_of_ble_eq_true rfl) (Nat.le_of_ble_eq_true rfl) ⟨Nat.le_refl _, Nat.le_refl _⟩ ?_
  refine ev_istore (lv' := [some (.ref a0), some (.ref a1), some (.int a2), some (.int a3), some (.int (-1 : Int32)), some (.int q4.1), none, none]) dc_X6_bestDefence_18 rfl (by decide) rfl ?_
  refine ev_iconst (v := 0) dc_X6_bestDefence_20 (by decide) ?_
  refine ev_istore (lv' := [some (.ref a0), some (.ref a1), some (.int a2), some (.int a3), some (.int (-1 : Int32)), some (.int q4.1), some (.int (0 : Int32)), none]) dc_X6_bestDefence_21 rfl (by decide) rfl ?_
  exact ev_sub (tX6_bestDefence_b23 (b := ((-1 : Int32), q4.1, (0 : Int32), q4.2)) hW i0 i1 h) (And.intro rfl (And.intro rfl (And.intro rfl (And.intro rfl (And.intro rfl (And.intro rfl trivial))))))
theorem dc_X6_fewestNights_0 : Dc miX6_fewestNights 0 (.aload_n 0) 1 1 := ⟨by decide +kernel, rfl⟩
theorem dc_X6_fewestNights_1 : Dc miX6_fewestNights 1 (.aload_n 1) 1 2 := ⟨by decide +kernel, rfl⟩
theorem dc_X6_fewestNights_2 : Dc miX6_fewestNights 2 (.iload_n 2) 1 3 := ⟨by decide +kernel, rfl⟩
theorem dc_X6_fewestNights_3 : Dc miX6_fewestNights 3 (.invokevirtual 32) 3 6 := ⟨by decide +kernel, rfl⟩
theorem dc_X6_fewestNights_6 : Dc miX6_fewestNights 6 (.aload_n 0) 1 7 := ⟨by decide +kernel, rfl⟩
theorem dc_X6_fewestNights_7 : Dc miX6_fewestNights 7 (.aload_n 1) 1 8 := ⟨by decide +kernel, rfl⟩
theorem dc_X6_fewestNights_8 : Dc miX6_fewestNights 8 (.iconst 0) 1 9 := ⟨by decide +kernel, rfl⟩
theorem dc_X6_fewestNights_9 : Dc miX6_fewestNights 9 (.aload_n 1) 1 10 := ⟨by decide +kernel, rfl⟩
theorem dc_X6_fewestNights_10 : Dc miX6_fewestNights 10 (.getfield 36) 3 13 := ⟨by decide +kernel, rfl⟩
theorem dc_X6_fewestNights_13 : Dc miX6_fewestNights 13 (.getfield 41) 3 16 := ⟨by decide +kernel, rfl⟩
theorem dc_X6_fewestNights_16 : Dc miX6_fewestNights 16 (.invokevirtual 44) 3 19 := ⟨by decide +kernel, rfl⟩
theorem dc_X6_fewestNights_19 : Dc miX6_fewestNights 19 (.ireturn) 1 20 := ⟨by decide +kernel, rfl⟩
def fX6_fewestNights (N : Nat) (G : pG) (a0 : Nat) (a1 : Nat) (a2 : Int32) (σ : pS) : Option (Int32 × pS) := (fX6_open N G a0 a1 a2 σ).bind (fun q1 => (fX6_fewestFrom N G a0 a1 (0 : Int32) (q1.1 (pR G a1 2) 0) q1).bind (fun q2 => some (q2.1, q2.2)))
set_option maxRecDepth 100000 in
set_option maxHeartbeats 4000000 in
theorem tX6_fewestNights {N : Nat} {G : pG} {SK : Nat → Nat} {a0 : Nat} {a1 : Nat} {a2 : Int32} {σ : pS} {r : Int32 × pS} (hW : WT G) (i0 : Is G a0 6) (i1 : Is G a1 9) (h : fX6_fewestNights N G a0 a1 a2 σ = some r) : Dn miX6_fewestNights yX6_fewestNights 106 G SK [.ref a0, .ref a1, .int a2] σ (some (.int r.1)) r.2 := by
  unfold fX6_fewestNights at h
  refine dn_of (lv := [some (.ref a0), some (.ref a1), some (.int a2)]) (by decide) rfl rfl (Nat.le_of_ble_eq_true rfl) rfl ?_
  refine ev_aload_n dc_X6_fewestNights_0 rfl ?_
  refine ev_aload_n dc_X6_fewestNights_1 rfl ?_
  refine ev_iload_n dc_X6_fewestNights_2 rfl ?_
  obtain ⟨q1, hq1, h⟩ := Option.bind_eq_some_iff.mp h
  refine ev_callV (av := [.ref a1, .int a2]) (st := []) (st1 := []) dc_X6_fewestNights_3 (tX6_open hW i0 i1 hq1) mw_1289 cy_X6_open i0 (by decide) rfl rfl rfl rfl (Nat.le_of_ble_eq_true rfl) (Nat.le_of_ble_eq_true rfl) ⟨Nat.le_refl _, Nat.le_refl _⟩ ?_
  refine ev_aload_n dc_X6_fewestNights_6 rfl ?_
  refine ev_aload_n dc_X6_fewestNights_7 rfl ?_
  refine ev_iconst (v := 0) dc_X6_fewestNights_8 (by decide) ?_
  refine ev_aload_n dc_X6_fewestNights_9 rfl ?_
  refine ev_getR dc_X6_fewestNights_10 fi_X6_36 rfl i1 ?_
  refine ev_getI dc_X6_fewestNights_13 fi_X6_41 rfl (wt hW i1 2 rfl rfl) ?_
  obtain ⟨q2, hq2, h⟩ := Option.bind_eq_some_iff.mp h
  refine ev_callV (av := [.ref a1, .int (0 : Int32), .int (q1.1 (pR G a1 2) 0)]) (st := []) (st1 := [.int q2.1]) dc_X6_fewestNights_16 (tX6_fewestFrom hW i0 i1 hq2) mw_1294 cy_X6_fewestFrom i0 (by decide) rfl rfl rfl rfl (Nat.le_of_ble_eq_true rfl) (Nat.le_of_ble_eq_true rfl) ⟨Nat.le_refl _, Nat.le_refl _⟩ ?_
  cases h
  exact ev_iret dc_X6_fewestNights_19 rfl rfl rfl
