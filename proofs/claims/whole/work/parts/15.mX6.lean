theorem dc_X6_opening_0 : Dc miX6_opening 0 (.aload_n 0) 1 1 := ⟨by decide +kernel, rfl⟩
theorem dc_X6_opening_1 : Dc miX6_opening 1 (.aload_n 1) 1 2 := ⟨by decide +kernel, rfl⟩
theorem dc_X6_opening_2 : Dc miX6_opening 2 (.iload_n 2) 1 3 := ⟨by decide +kernel, rfl⟩
theorem dc_X6_opening_3 : Dc miX6_opening 3 (.invokevirtual 32) 3 6 := ⟨by decide +kernel, rfl⟩
theorem dc_X6_opening_6 : Dc miX6_opening 6 (.aload_n 1) 1 7 := ⟨by decide +kernel, rfl⟩
theorem dc_X6_opening_7 : Dc miX6_opening 7 (.getfield 36) 3 10 := ⟨by decide +kernel, rfl⟩
theorem dc_X6_opening_10 : Dc miX6_opening 10 (.getfield 41) 3 13 := ⟨by decide +kernel, rfl⟩
theorem dc_X6_opening_13 : Dc miX6_opening 13 (.istore_n 3) 1 14 := ⟨by decide +kernel, rfl⟩
theorem dc_X6_opening_14 : Dc miX6_opening 14 (.aload_n 0) 1 15 := ⟨by decide +kernel, rfl⟩
theorem dc_X6_opening_15 : Dc miX6_opening 15 (.aload_n 1) 1 16 := ⟨by decide +kernel, rfl⟩
theorem dc_X6_opening_16 : Dc miX6_opening 16 (.iconst 0) 1 17 := ⟨by decide +kernel, rfl⟩
theorem dc_X6_opening_17 : Dc miX6_opening 17 (.iload_n 3) 1 18 := ⟨by decide +kernel, rfl⟩
theorem dc_X6_opening_18 : Dc miX6_opening 18 (.invokevirtual 44) 3 21 := ⟨by decide +kernel, rfl⟩
theorem dc_X6_opening_21 : Dc miX6_opening 21 (.istore 4) 2 23 := ⟨by decide +kernel, rfl⟩
theorem dc_X6_opening_23 : Dc miX6_opening 23 (.iload 4) 2 25 := ⟨by decide +kernel, rfl⟩
theorem dc_X6_opening_25 : Dc miX6_opening 25 (.sipush 1000) 3 28 := ⟨by decide +kernel, rfl⟩
theorem dc_X6_opening_28 : Dc miX6_opening 28 (.if_icmp .ge 18) 3 31 := ⟨by decide +kernel, rfl⟩
theorem dc_X6_opening_31 : Dc miX6_opening 31 (.aload_n 0) 1 32 := ⟨by decide +kernel, rfl⟩
theorem dc_X6_opening_32 : Dc miX6_opening 32 (.aload_n 1) 1 33 := ⟨by decide +kernel, rfl⟩
theorem dc_X6_opening_33 : Dc miX6_opening 33 (.iconst 0) 1 34 := ⟨by decide +kernel, rfl⟩
theorem dc_X6_opening_34 : Dc miX6_opening 34 (.iload_n 3) 1 35 := ⟨by decide +kernel, rfl⟩
theorem dc_X6_opening_35 : Dc miX6_opening 35 (.invokevirtual 48) 3 38 := ⟨by decide +kernel, rfl⟩
theorem dc_X6_opening_38 : Dc miX6_opening 38 (.invokestatic 51) 3 41 := ⟨by decide +kernel, rfl⟩
theorem dc_X6_opening_41 : Dc miX6_opening 41 (.iload 4) 2 43 := ⟨by decide +kernel, rfl⟩
theorem dc_X6_opening_43 : Dc miX6_opening 43 (.if_icmp .ne 5) 3 46 := ⟨by decide +kernel, rfl⟩
theorem dc_X6_opening_46 : Dc miX6_opening 46 (.iconst (-1)) 1 47 := ⟨by decide +kernel, rfl⟩
theorem dc_X6_opening_47 : Dc miX6_opening 47 (.ireturn) 1 48 := ⟨by decide +kernel, rfl⟩
theorem dc_X6_opening_48 : Dc miX6_opening 48 (.iconst 0) 1 49 := ⟨by decide +kernel, rfl⟩
theorem dc_X6_opening_49 : Dc miX6_opening 49 (.istore 5) 2 51 := ⟨by decide +kernel, rfl⟩
theorem dc_X6_opening_51 : Dc miX6_opening 51 (.iload 5) 2 53 := ⟨by decide +kernel, rfl⟩
theorem dc_X6_opening_53 : Dc miX6_opening 53 (.aload_n 1) 1 54 := ⟨by decide +kernel, rfl⟩
theorem dc_X6_opening_54 : Dc miX6_opening 54 (.getfield 55) 3 57 := ⟨by decide +kernel, rfl⟩
theorem dc_X6_opening_57 : Dc miX6_opening 57 (.getfield 59) 3 60 := ⟨by decide +kernel, rfl⟩
theorem dc_X6_opening_60 : Dc miX6_opening 60 (.if_icmp .ge 64) 3 63 := ⟨by decide +kernel, rfl⟩
theorem dc_X6_opening_63 : Dc miX6_opening 63 (.iconst 0) 1 64 := ⟨by decide +kernel, rfl⟩
theorem dc_X6_opening_64 : Dc miX6_opening 64 (.istore 6) 2 66 := ⟨by decide +kernel, rfl⟩
theorem dc_X6_opening_66 : Dc miX6_opening 66 (.iload 6) 2 68 := ⟨by decide +kernel, rfl⟩
theorem dc_X6_opening_68 : Dc miX6_opening 68 (.aload_n 1) 1 69 := ⟨by decide +kernel, rfl⟩
theorem dc_X6_opening_69 : Dc miX6_opening 69 (.getfield 55) 3 72 := ⟨by decide +kernel, rfl⟩
theorem dc_X6_opening_72 : Dc miX6_opening 72 (.getfield 64) 3 75 := ⟨by decide +kernel, rfl⟩
theorem dc_X6_opening_75 : Dc miX6_opening 75 (.if_icmp .ge 43) 3 78 := ⟨by decide +kernel, rfl⟩
theorem dc_X6_opening_78 : Dc miX6_opening 78 (.aload_n 1) 1 79 := ⟨by decide +kernel, rfl⟩
theorem dc_X6_opening_79 : Dc miX6_opening 79 (.iload 6) 2 81 := ⟨by decide +kernel, rfl⟩
theorem dc_X6_opening_81 : Dc miX6_opening 81 (.invokestatic 67) 3 84 := ⟨by decide +kernel, rfl⟩
theorem dc_X6_opening_84 : Dc miX6_opening 84 (.ifCond .eq 28) 3 87 := ⟨by decide +kernel, rfl⟩
theorem dc_X6_opening_87 : Dc miX6_opening 87 (.aload_n 0) 1 88 := ⟨by decide +kernel, rfl⟩
theorem dc_X6_opening_88 : Dc miX6_opening 88 (.aload_n 1) 1 89 := ⟨by decide +kernel, rfl⟩
theorem dc_X6_opening_89 : Dc miX6_opening 89 (.iconst 0) 1 90 := ⟨by decide +kernel, rfl⟩
theorem dc_X6_opening_90 : Dc miX6_opening 90 (.iload_n 3) 1 91 := ⟨by decide +kernel, rfl⟩
theorem dc_X6_opening_91 : Dc miX6_opening 91 (.iload 6) 2 93 := ⟨by decide +kernel, rfl⟩
theorem dc_X6_opening_93 : Dc miX6_opening 93 (.iload 5) 2 95 := ⟨by decide +kernel, rfl⟩
theorem dc_X6_opening_95 : Dc miX6_opening 95 (.invokevirtual 71) 3 98 := ⟨by decide +kernel, rfl⟩
theorem dc_X6_opening_98 : Dc miX6_opening 98 (.iload 4) 2 100 := ⟨by decide +kernel, rfl⟩
theorem dc_X6_opening_100 : Dc miX6_opening 100 (.if_icmp .ne 12) 3 103 := ⟨by decide +kernel, rfl⟩
theorem dc_X6_opening_103 : Dc miX6_opening 103 (.bipush 10) 2 105 := ⟨by decide +kernel, rfl⟩
theorem dc_X6_opening_105 : Dc miX6_opening 105 (.iload 5) 2 107 := ⟨by decide +kernel, rfl⟩
theorem dc_X6_opening_107 : Dc miX6_opening 107 (.imul) 1 108 := ⟨by decide +kernel, rfl⟩
theorem dc_X6_opening_108 : Dc miX6_opening 108 (.iload 6) 2 110 := ⟨by decide +kernel, rfl⟩
theorem dc_X6_opening_110 : Dc miX6_opening 110 (.iadd) 1 111 := ⟨by decide +kernel, rfl⟩
theorem dc_X6_opening_111 : Dc miX6_opening 111 (.ireturn) 1 112 := ⟨by decide +kernel, rfl⟩
theorem dc_X6_opening_112 : Dc miX6_opening 112 (.iinc 6 1) 3 115 := ⟨by decide +kernel, rfl⟩
theorem dc_X6_opening_115 : Dc miX6_opening 115 (.goto (-49)) 3 118 := ⟨by decide +kernel, rfl⟩
theorem dc_X6_opening_118 : Dc miX6_opening 118 (.iinc 5 1) 3 121 := ⟨by decide +kernel, rfl⟩
theorem dc_X6_opening_121 : Dc miX6_opening 121 (.goto (-70)) 3 124 := ⟨by decide +kernel, rfl⟩
theorem dc_X6_opening_124 : Dc miX6_opening 124 (.iconst (-1)) 1 125 := ⟨by decide +kernel, rfl⟩
theorem dc_X6_opening_125 : Dc miX6_opening 125 (.ireturn) 1 126 := ⟨by decide +kernel, rfl⟩
def fX6_opening_b66 (N : Nat) (G : pG) (k51 : Int32 × pS → Option (Int32 × pS)) (a0 : Nat) (a1 : Nat) (x3 : Int32) (x4 : Int32) (x5 : Int32) : (Int32 × pS) → Option (Int32 × pS) := lp (fun (k66 : Int32 × pS → Option (Int32 × pS)) (b : Int32 × pS) => if (b.2.1 (pR G a1 0) 4) ≤ b.1 then (k51 (x5 + (1 : Int32), b.2)) else ((fX6_isEnemyNear N G a1 b.1 b.2).bind (fun q1 => if q1 = 0 then (k66 (b.1 + (1 : Int32), b.2)) else ((fX6_fewestWith N G (fX6_fewestFrom_r N G) a0 a1 (0 : Int32) x3 b.1 x5 b.2).bind (fun q2 => if q2.1 = x4 then (some (((10 : Int32) * x5) + b.1, q2.2)) else (k66 (b.1 + (1 : Int32), q2.2))))))) N
set_option maxRecDepth 100000 in
set_option maxHeartbeats 4000000 in
theorem tX6_opening_b66 {N : Nat} {G : pG} {SK : Nat → Nat} {k51 : Int32 × pS → Option (Int32 × pS)} {a0 : Nat} {a1 : Nat} {x3 : Int32} {x4 : Int32} {x5 : Int32} {b : Int32 × pS} {r : Int32 × pS} (hW : WT G) (i0 : Is G a0 6) (i1 : Is G a1 9) (hk51 : ∀ b : Int32 × pS, k51 b = some r → Ev miX6_opening (112, 0, 0) G (Zp G (some (.int r.1)) r.2) SK (0, 0) 51 [some (.ref a0), some (.ref a1), none, some (.int x3), some (.int x4), some (.int b.1), none] [] b.2) (h : fX6_opening_b66 N G k51 a0 a1 x3 x4 x5 b = some r) : Ev miX6_opening (112, 0, 0) G (Zp G (some (.int r.1)) r.2) SK (0, 0) 66 [some (.ref a0), some (.ref a1), none, some (.int x3), some (.int x4), some (.int x5), some (.int b.1)] [] b.2 := by
  unfold fX6_opening_b66 at h
  refine lp_ind (P := fun b r9 => r9 = r → Ev miX6_opening (112, 0, 0) G (Zp G (some (.int r.1)) r.2) SK (0, 0) 66 [some (.ref a0), some (.ref a1), none, some (.int x3), some (.int x4), some (.int x5), some (.int b.1)] [] b.2) (fun k66 b r9 ih h9 e9 => ?_) N b r h rfl
  clear h
  subst e9
  have h := h9
  clear h9
  have hk66 : ∀ b : Int32 × pS, k66 b = some r9 → Ev miX6_opening (112, 0, 0) G (Zp G (some (.int r9.1)) r9.2) SK (0, 0) 66 [some (.ref a0), some (.ref a1), none, some (.int x3), some (.int x4), some (.int x5), some (.int b.1)] [] b.2 := fun b hb => ih b r9 hb rfl
  clear ih
  obtain ⟨x6, σ⟩ := b
  dsimp only at h ⊢
  refine ev_iload dc_X6_opening_66 rfl ?_
  refine ev_aload_n dc_X6_opening_68 rfl ?_
  refine ev_getR dc_X6_opening_69 fi_X6_55 rfl i1 ?_
  refine ev_getI dc_X6_opening_72 fi_X6_64 rfl (wt hW i1 0 rfl rfl) ?_
  refine ev_icmp_ge (tgt := 118) dc_X6_opening_75 (by decide) h (fun h => ?_) (fun h => ?_)
  · refine ev_iinc (v := 1) (lv' := [some (.ref a0), some (.ref a1), none, some (.int x3), some (.int x4), some (.int (x5 + (1 : Int32))), some (.int x6)]) dc_X6_opening_118 rfl (by decide) rfl (by decide) rfl ?_
    refine ev_goto (tgt := 51) dc_X6_opening_121 (by decide) ?_
    exact ev_sub (hk51 (x5 + (1 : Int32), σ) h) (And.intro rfl (And.intro rfl (And.intro rfl (And.intro rfl (And.intro rfl trivial)))))
  · refine ev_aload_n dc_X6_opening_78 rfl ?_
    refine ev_iload dc_X6_opening_79 rfl ?_
    obtain ⟨q1, hq1, h⟩ := Option.bind_eq_some_iff.mp h
    refine ev_callS (av := [.ref a1, .int x6]) (st := []) (st1 := [.int q1]) dc_X6_opening_81 (tX6_isEnemyNear hW i1 hq1) mw_1312 cs_X6_isEnemyNear rfl rfl rfl (Nat.le_of_ble_eq_true rfl) (Nat.le_of_ble_eq_true rfl) ⟨Nat.le_refl _, Nat.le_refl _⟩ ?_
    refine ev_if_eq (tgt := 112) dc_X6_opening_84 (by decide) h (fun h => ?_) (fun h => ?_)
    · refine ev_iinc (v := 1) (lv' := [some (.ref a0), some (.ref a1), none, some (.int x3), some (.int x4), some (.int x5), some (.int (x6 + (1 : Int32)))]) dc_X6_opening_112 rfl (by decide) rfl (by decide) rfl ?_
      refine ev_goto (tgt := 66) dc_X6_opening_115 (by decide) ?_
      exact ev_sub (hk66 (x6 + (1 : Int32), σ) h) (And.intro rfl (And.intro rfl (And.intro rfl (And.intro rfl (And.intro rfl (And.intro rfl trivial))))))
    · refine ev_aload_n dc_X6_opening_87 rfl ?_
      refine ev_aload_n dc_X6_opening_88 rfl ?_
      refine ev_iconst (v := 0) dc_X6_opening_89 (by decide) ?_
      refine ev_iload_n dc_X6_opening_90 rfl ?_
      refine ev_iload dc_X6_opening_91 rfl ?_
      refine ev_iload dc_X6_opening_93 rfl ?_
      obtain ⟨q2, hq2, h⟩ := Option.bind_eq_some_iff.mp h
      refine ev_callV (av := [.ref a1, .int (0 : Int32), .int x3, .int x6, .int x5]) (st := []) (st1 := [.int q2.1]) dc_X6_opening_95 (tX6_fewestWith hW (tX6_fewestFrom_r hW) i0 i1 hq2) mw_1317 cy_X6_fewestWith i0 (by decide) rfl rfl rfl rfl (Nat.le_of_ble_eq_true rfl) (Nat.le_of_ble_eq_true rfl) ⟨Nat.le_refl _, Nat.le_refl _⟩ ?_
      refine ev_iload dc_X6_opening_98 rfl ?_
      refine ev_icmp_ne (tgt := 112) dc_X6_opening_100 (by decide) h (fun h => ?_) (fun h => ?_)
      · refine ev_bipush (v := 10) dc_X6_opening_103 (by decide) ?_
        refine ev_iload dc_X6_opening_105 rfl ?_
        refine ev_imul dc_X6_opening_107 ?_
        refine ev_iload dc_X6_opening_108 rfl ?_
        refine ev_iadd dc_X6_opening_110 ?_
        cases h
        exact ev_iret dc_X6_opening_111 rfl rfl rfl
      · refine ev_iinc (v := 1) (lv' := [some (.ref a0), some (.ref a1), none, some (.int x3), some (.int x4), some (.int x5), some (.int (x6 + (1 : Int32)))]) dc_X6_opening_112 rfl (by decide) rfl (by decide) rfl ?_
        refine ev_goto (tgt := 66) dc_X6_opening_115 (by decide) ?_
        exact ev_sub (hk66 (x6 + (1 : Int32), q2.2) h) (And.intro rfl (And.intro rfl (And.intro rfl (And.intro rfl (And.intro rfl (And.intro rfl trivial))))))
def fX6_opening_b51 (N : Nat) (G : pG) (a0 : Nat) (a1 : Nat) (x3 : Int32) (x4 : Int32) : (Int32 × pS) → Option (Int32 × pS) := lp (fun (k51 : Int32 × pS → Option (Int32 × pS)) (b : Int32 × pS) => if (b.2.1 (pR G a1 0) 2) ≤ b.1 then (some ((-1 : Int32), b.2)) else (fX6_opening_b66 N G k51 a0 a1 x3 x4 b.1 ((0 : Int32), b.2))) N
set_option maxRecDepth 100000 in
set_option maxHeartbeats 4000000 in
theorem tX6_opening_b51 {N : Nat} {G : pG} {SK : Nat → Nat} {a0 : Nat} {a1 : Nat} {x3 : Int32} {x4 : Int32} {b : Int32 × pS} {r : Int32 × pS} (hW : WT G) (i0 : Is G a0 6) (i1 : Is G a1 9) (h : fX6_opening_b51 N G a0 a1 x3 x4 b = some r) : Ev miX6_opening (112, 0, 0) G (Zp G (some (.int r.1)) r.2) SK (0, 0) 51 [some (.ref a0), some (.ref a1), none, some (.int x3), some (.int x4), some (.int b.1), none] [] b.2 := by
  unfold fX6_opening_b51 at h
  refine lp_ind (P := fun b r9 => r9 = r → Ev miX6_opening (112, 0, 0) G (Zp G (some (.int r.1)) r.2) SK (0, 0) 51 [some (.ref a0), some (.ref a1), none, some (.int x3), some (.int x4), some (.int b.1), none] [] b.2) (fun k51 b r9 ih h9 e9 => ?_) N b r h rfl
  clear h
  subst e9
  have h := h9
  clear h9
  have hk51 : ∀ b : Int32 × pS, k51 b = some r9 → Ev miX6_opening (112, 0, 0) G (Zp G (some (.int r9.1)) r9.2) SK (0, 0) 51 [some (.ref a0), some (.ref a1), none, some (.int x3), some (.int x4), some (.int b.1), none] [] b.2 := fun b hb => ih b r9 hb rfl
  clear ih
  obtain ⟨x5, σ⟩ := b
  dsimp only at h ⊢
  refine ev_iload dc_X6_opening_51 rfl ?_
  refine ev_aload_n dc_X6_opening_53 rfl ?_
  refine ev_getR dc_X6_opening_54 fi_X6_55 rfl i1 ?_
  refine ev_getI dc_X6_opening_57 fi_X6_59 rfl (wt hW i1 0 rfl rfl) ?_
  refine ev_icmp_ge (tgt := 124) dc_X6_opening_60 (by decide) h (fun h => ?_) (fun h => ?_)
  · refine ev_iconst (v := (-1)) dc_X6_opening_124 (by decide) ?_
    cases h
    exact ev_iret dc_X6_opening_125 rfl rfl rfl
  · refine ev_iconst (v := 0) dc_X6_opening_63 (by decide) ?_
    refine ev_istore (lv' := [some (.ref a0), some (.ref a1), none, some (.int x3), some (.int x4), some (.int x5), some (.int (0 : Int32))]) dc_X6_opening_64 rfl (by decide) rfl ?_
    exact ev_sub (tX6_opening_b66 (b := ((0 : Int32), σ)) hW i0 i1 hk51 h) (And.intro rfl (And.intro rfl (And.intro rfl (And.intro rfl (And.intro rfl (And.intro rfl trivial))))))
def fX6_opening (N : Nat) (G : pG) (a0 : Nat) (a1 : Nat) (a2 : Int32) (σ : pS) : Option (Int32 × pS) := (fX6_open N G a0 a1 a2 σ).bind (fun q3 => (fX6_fewestFrom N G a0 a1 (0 : Int32) (q3.1 (pR G a1 2) 0) q3).bind (fun q4 => if (1000 : Int32) ≤ q4.1 then (some ((-1 : Int32), q4.2)) else ((fX6_latestBehind N G (fX6_fewestFrom_r N G) a0 a1 (0 : Int32) (q3.1 (pR G a1 2) 0) q4.2).bind (fun q5 => (fX6_oneMore N G q5.1 q5.2).bind (fun q6 => if q6 = q4.1 then (some ((-1 : Int32), q5.2)) else (fX6_opening_b51 N G a0 a1 (q3.1 (pR G a1 2) 0) q4.1 ((0 : Int32), q5.2)))))))
set_option maxRecDepth 100000 in
set_option maxHeartbeats 4000000 in
theorem tX6_opening {N : Nat} {G : pG} {SK : Nat → Nat} {a0 : Nat} {a1 : Nat} {a2 : Int32} {σ : pS} {r : Int32 × pS} (hW : WT G) (i0 : Is G a0 6) (i1 : Is G a1 9) (h : fX6_opening N G a0 a1 a2 σ = some r) : Dn miX6_opening yX6_opening 112 G SK [.ref a0, .ref a1, .int a2] σ (some (.int r.1)) r.2 := by
  unfold fX6_opening at h
  refine dn_of (lv := [some (.ref a0), some (.ref a1), some (.int a2), none, none, none, none]) (by decide) rfl rfl (Nat.le_of_ble_eq_true rfl) rfl ?_
  refine ev_aload_n dc_X6_opening_0 rfl ?_
  refine ev_aload_n dc_X6_opening_1 rfl ?_
  refine ev_iload_n dc_X6_opening_2 rfl ?_
  obtain ⟨q3, hq3, h⟩ := Option.bind_eq_some_iff.mp h
  refine ev_callV (av := [.ref a1, .int a2]) (st := []) (st1 := []) dc_X6_opening_3 (tX6_open hW i0 i1 hq3) mw_1289 cy_X6_open i0 (by decide) rfl rfl rfl rfl (Nat.le_of_ble_eq_true rfl) (Nat.le_of_ble_eq_true rfl) ⟨Nat.le_refl _, Nat.le_refl _⟩ ?_
  refine ev_aload_n dc_X6_opening_6 rfl ?_
  refine ev_getR dc_X6_opening_7 fi_X6_36 rfl i1 ?_
  refine ev_getI dc_X6_opening_10 fi_X6_41 rfl (wt hW i1 2 rfl rfl) ?_
  refine ev_istore_n (lv' := [some (.ref a0), some (.ref a1), some (.int a2), some (.int (q3.1 (pR G a1 2) 0)), none, none, none]) dc_X6_opening_13 rfl (by decide) rfl ?_
  refine ev_aload_n dc_X6_opening_14 rfl ?_
  refine ev_aload_n dc_X6_opening_15 rfl ?_
  refine ev_iconst (v := 0) dc_X6_opening_16 (by decide) ?_
  refine ev_iload_n dc_X6_opening_17 rfl ?_
  obtain ⟨q4, hq4, h⟩ := Option.bind_eq_some_iff.mp h
  refine ev_callV (av := [.ref a1, .int (0 : Int32), .int (q3.1 (pR G a1 2) 0)]) (st := []) (st1 := [.int q4.1]) dc_X6_opening_18 (tX6_fewestFrom hW i0 i1 hq4) mw_1294 cy_X6_fewestFrom i0 (by decide) rfl rfl rfl rfl (Nat.le_of_ble_eq_true rfl) (Nat.le_of_ble_eq_true rfl) ⟨Nat.le_refl _, Nat.le_refl _⟩ ?_
  refine ev_istore (lv' := [some (.ref a0), some (.ref a1), some (.int a2), some (.int (q3.1 (pR G a1 2) 0)), some (.int q4.1), none, none]) dc_X6_opening_21 rfl (by decide) rfl ?_
  refine ev_iload dc_X6_opening_23 rfl ?_
  refine ev_sipush (v := 1000) dc_X6_opening_25 (by decide) ?_
  refine ev_icmp_ge (tgt := 46) dc_X6_opening_28 (by decide) h (fun h => ?_) (fun h => ?_)
  · refine ev_iconst (v := (-1)) dc_X6_opening_46 (by decide) ?_
    cases h
    exact ev_iret dc_X6_opening_47 rfl rfl rfl
  · refine ev_aload_n dc_X6_opening_31 rfl ?_
    refine ev_aload_n dc_X6_opening_32 rfl ?_
    refine ev_iconst (v := 0) dc_X6_opening_33 (by decide) ?_
    refine ev_iload_n dc_X6_opening_34 rfl ?_
    obtain ⟨q5, hq5, h⟩ := Option.bind_eq_some_iff.mp h
    refine ev_callV (av := [.ref a1, .int (0 : Int32), .int (q3.1 (pR G a1 2) 0)]) (st := []) (st1 := [.int q5.1]) dc_X6_opening_35 (tX6_latestBehind hW (tX6_fewestFrom_r hW) i0 i1 hq5) mw_1298 cy_X6_latestBehind i0 (by decide) rfl rfl rfl rfl (Nat.le_of_ble_eq_true rfl) (Nat.le_of_ble_eq_true rfl) ⟨Nat.le_refl _, Nat.le_refl _⟩ ?_
    obtain ⟨q6, hq6, h⟩ := Option.bind_eq_some_iff.mp h
    refine ev_callS (av := [.int q5.1]) (st := []) (st1 := [.int q6]) dc_X6_opening_38 (tX6_oneMore hW hq6) mw_1308 cs_X6_oneMore rfl rfl rfl (Nat.le_of_ble_eq_true rfl) (Nat.le_of_ble_eq_true rfl) ⟨Nat.le_refl _, Nat.le_refl _⟩ ?_
    refine ev_iload dc_X6_opening_41 rfl ?_
    refine ev_icmp_ne (tgt := 48) dc_X6_opening_43 (by decide) h (fun h => ?_) (fun h => ?_)
    · refine ev_iconst (v := (-1)) dc_X6_opening_46 (by decide) ?_
      cases h
      exact ev_iret dc_X6_opening_47 rfl rfl rfl
    · refine ev_iconst (v := 0) dc_X6_opening_48 (by decide) ?_
      refine ev_istore (lv' := [some (.ref a0), some (.ref a1), some (.int a2), some (.int (q3.1 (pR G a1 2) 0)), some (.int q4.1), some (.int (0 : Int32)), none]) dc_X6_opening_49 rfl (by decide) rfl ?_
      exact ev_sub (tX6_opening_b51 (b := ((0 : Int32), q5.2)) hW i0 i1 h) (And.intro rfl (And.intro rfl (And.intro rfl (And.intro rfl (And.intro rfl trivial)))))
theorem dc_X1_topWaiting_0 : Dc miX1_topWaiting 0 (.aload_n 0) 1 1 := ⟨by decide +kernel, rfl⟩
theorem dc_X1_topWaiting_1 : Dc miX1_topWaiting 1 (.getfield 32) 3 4 := ⟨by decide +kernel, rfl⟩
theorem dc_X1_topWaiting_4 : Dc miX1_topWaiting 4 (.ifCond .le 16) 3 7 := ⟨by decide +kernel, rfl⟩
theorem dc_X1_topWaiting_7 : Dc miX1_topWaiting 7 (.aload_n 0) 1 8 := ⟨by decide +kernel, rfl⟩
theorem dc_X1_topWaiting_8 : Dc miX1_topWaiting 8 (.getfield 32) 3 11 := ⟨by decide +kernel, rfl⟩
theorem dc_X1_topWaiting_11 : Dc miX1_topWaiting 11 (.bipush 20) 2 13 := ⟨by decide +kernel, rfl⟩
theorem dc_X1_topWaiting_13 : Dc miX1_topWaiting 13 (.if_icmp .gt 7) 3 16 := ⟨by decide +kernel, rfl⟩
theorem dc_X1_topWaiting_16 : Dc miX1_topWaiting 16 (.iconst 1) 1 17 := ⟨by decide +kernel, rfl⟩
theorem dc_X1_topWaiting_17 : Dc miX1_topWaiting 17 (.goto 4) 3 20 := ⟨by decide +kernel, rfl⟩
theorem dc_X1_topWaiting_20 : Dc miX1_topWaiting 20 (.iconst 0) 1 21 := ⟨by decide +kernel, rfl⟩
theorem dc_X1_topWaiting_21 : Dc miX1_topWaiting 21 (.istore_n 1) 1 22 := ⟨by decide +kernel, rfl⟩
theorem dc_X1_topWaiting_22 : Dc miX1_topWaiting 22 (.iload_n 1) 1 23 := ⟨by decide +kernel, rfl⟩
theorem dc_X1_topWaiting_23 : Dc miX1_topWaiting 23 (.ifCond .eq 17) 3 26 := ⟨by decide +kernel, rfl⟩
theorem dc_X1_topWaiting_26 : Dc miX1_topWaiting 26 (.aload_n 0) 1 27 := ⟨by decide +kernel, rfl⟩
theorem dc_X1_topWaiting_27 : Dc miX1_topWaiting 27 (.getfield 35) 3 30 := ⟨by decide +kernel, rfl⟩
theorem dc_X1_topWaiting_30 : Dc miX1_topWaiting 30 (.aload_n 0) 1 31 := ⟨by decide +kernel, rfl⟩
theorem dc_X1_topWaiting_31 : Dc miX1_topWaiting 31 (.getfield 32) 3 34 := ⟨by decide +kernel, rfl⟩
theorem dc_X1_topWaiting_34 : Dc miX1_topWaiting 34 (.iconst 1) 1 35 := ⟨by decide +kernel, rfl⟩
theorem dc_X1_topWaiting_35 : Dc miX1_topWaiting 35 (.isub) 1 36 := ⟨by decide +kernel, rfl⟩
theorem dc_X1_topWaiting_36 : Dc miX1_topWaiting 36 (.iaload) 1 37 := ⟨by decide +kernel, rfl⟩
theorem dc_X1_topWaiting_37 : Dc miX1_topWaiting 37 (.goto 4) 3 40 := ⟨by decide +kernel, rfl⟩
theorem dc_X1_topWaiting_40 : Dc miX1_topWaiting 40 (.iconst (-1)) 1 41 := ⟨by decide +kernel, rfl⟩
theorem dc_X1_topWaiting_41 : Dc miX1_topWaiting 41 (.ireturn) 1 42 := ⟨by decide +kernel, rfl⟩
def fX1_topWaiting_b21 (N : Nat) (G : pG) (a0 : Nat) (y0 : Int32) (σ : pS) : Option (Int32) := if y0 = 0 then (some (-1 : Int32)) else (ck (inB ((σ.1 a0 6) - (1 : Int32)) (pN G (pR G a0 7))) (some (gA σ (pR G a0 7) ((σ.1 a0 6) - (1 : Int32)))))
set_option maxRecDepth 100000 in
set_option maxHeartbeats 4000000 in
theorem tX1_topWaiting_b21 {N : Nat} {G : pG} {SK : Nat → Nat} {a0 : Nat} {y0 : Int32} {σ : pS} {r : Int32} (hW : WT G) (i0 : Is G a0 1) (h : fX1_topWaiting_b21 N G a0 y0 σ = some r) : Ev miX1_topWaiting (1, 0, 0) G (Zp G (some (.int r)) σ) SK (0, 0) 21 [some (.ref a0), none] [.int y0] σ := by
  unfold fX1_topWaiting_b21 at h
  refine ev_istore_n (lv' := [some (.ref a0), some (.int y0)]) dc_X1_topWaiting_21 rfl (by decide) rfl ?_
  refine ev_iload_n dc_X1_topWaiting_22 rfl ?_
  refine ev_if_eq (tgt := 40) dc_X1_topWaiting_23 (by decide) h (fun h => ?_) (fun h => ?_)
  · refine ev_iconst (v := (-1)) dc_X1_topWaiting_40 (by decide) ?_
    cases h
    exact ev_iret dc_X1_topWaiting_41 rfl rfl rfl
  · refine ev_aload_n dc_X1_topWaiting_26 rfl ?_
    refine ev_getR dc_X1_topWaiting_27 fi_X1_35 rfl i0 ?_
    refine ev_aload_n dc_X1_topWaiting_30 rfl ?_
    refine ev_getI dc_X1_topWaiting_31 fi_X1_32 rfl i0 ?_
    refine ev_iconst (v := 1) dc_X1_topWaiting_34 (by decide) ?_
    refine ev_isub dc_X1_topWaiting_35 ?_
    refine ev_iald dc_X1_topWaiting_36 (wt hW i0 7 rfl rfl) h (fun h => ?_)
    refine ev_goto (tgt := 41) dc_X1_topWaiting_37 (by decide) ?_
    cases h
    exact ev_iret dc_X1_topWaiting_41 rfl rfl rfl
def fX1_topWaiting_b20 (N : Nat) (G : pG) (a0 : Nat) (σ : pS) : Option (Int32) := fX1_topWaiting_b21 N G a0 (0 : Int32) σ
set_option maxRecDepth 100000 in
set_option maxHeartbeats 4000000 in
theorem tX1_topWaiting_b20 {N : Nat} {G : pG} {SK : Nat → Nat} {a0 : Nat} {σ : pS} {r : Int32} (hW : WT G) (i0 : Is G a0 1) (h : fX1_topWaiting_b20 N G a0 σ = some r) : Ev miX1_topWaiting (1, 0, 0) G (Zp G (some (.int r)) σ) SK (0, 0) 20 [some (.ref a0), none] [] σ := by
  unfold fX1_topWaiting_b20 at h
  refine ev_iconst (v := 0) dc_X1_topWaiting_20 (by decide) ?_
  exact ev_sub (tX1_topWaiting_b21 hW i0 h) (And.intro rfl trivial)
def fX1_topWaiting (N : Nat) (G : pG) (a0 : Nat) (σ : pS) : Option (Int32) := if (σ.1 a0 6) ≤ 0 then (fX1_topWaiting_b20 N G a0 σ) else (if (20 : Int32) < (σ.1 a0 6) then (fX1_topWaiting_b20 N G a0 σ) else (fX1_topWaiting_b21 N G a0 (1 : Int32) σ))
set_option maxRecDepth 100000 in
set_option maxHeartbeats 4000000 in
theorem tX1_topWaiting {N : Nat} {G : pG} {SK : Nat → Nat} {a0 : Nat} {σ : pS} {r : Int32} (hW : WT G) (i0 : Is G a0 1) (h : fX1_topWaiting N G a0 σ = some r) : Dn miX1_topWaiting yX1_topWaiting 1 G SK [.ref a0] σ (some (.int r)) σ := by
  unfold fX1_topWaiting at h
  refine dn_of (lv := [some (.ref a0), none]) (by decide) rfl rfl (Nat.le_of_ble_eq_true rfl) rfl ?_
  refine ev_aload_n dc_X1_topWaiting_0 rfl ?_
  refine ev_getI dc_X1_topWaiting_1 fi_X1_32 rfl i0 ?_
  refine ev_if_le (tgt := 20) dc_X1_topWaiting_4 (by decide) h (fun h => ?_) (fun h => ?_)
  · exact ev_sub (tX1_topWaiting_b20 hW i0 h) (And.intro rfl trivial)
  · refine ev_aload_n dc_X1_topWaiting_7 rfl ?_
    refine ev_getI dc_X1_topWaiting_8 fi_X1_32 rfl i0 ?_
    refine ev_bipush (v := 20) dc_X1_topWaiting_11 (by decide) ?_
    refine ev_icmp_gt (tgt := 20) dc_X1_topWaiting_13 (by decide) h (fun h => ?_) (fun h => ?_)
    · exact ev_sub (tX1_topWaiting_b20 hW i0 h) (And.intro rfl trivial)
    · refine ev_iconst (v := 1) dc_X1_topWaiting_16 (by decide) ?_
      refine ev_goto (tgt := 21) dc_X1_topWaiting_17 (by decide) ?_
      exact ev_sub (tX1_topWaiting_b21 hW i0 h) (And.intro rfl trivial)
theorem dc_X1_endAtom_0 : Dc miX1_endAtom 0 (.aload_n 0) 1 1 := ⟨by decide +kernel, rfl⟩
theorem dc_X1_endAtom_1 : Dc miX1_endAtom 1 (.getfield 11) 3 4 := ⟨by decide +kernel, rfl⟩
theorem dc_X1_endAtom_4 : Dc miX1_endAtom 4 (.bipush 7) 2 6 := ⟨by decide +kernel, rfl⟩
theorem dc_X1_endAtom_6 : Dc miX1_endAtom 6 (.if_icmp .ne 11) 3 9 := ⟨by decide +kernel, rfl⟩
theorem dc_X1_endAtom_9 : Dc miX1_endAtom 9 (.aload_n 1) 1 10 := ⟨by decide +kernel, rfl⟩
theorem dc_X1_endAtom_10 : Dc miX1_endAtom 10 (.aload_n 0) 1 11 := ⟨by decide +kernel, rfl⟩
theorem dc_X1_endAtom_11 : Dc miX1_endAtom 11 (.getfield 26) 3 14 := ⟨by decide +kernel, rfl⟩
theorem dc_X1_endAtom_14 : Dc miX1_endAtom 14 (.invokevirtual 112) 3 17 := ⟨by decide +kernel, rfl⟩
theorem dc_X1_endAtom_17 : Dc miX1_endAtom 17 (.iconst 0) 1 18 := ⟨by decide +kernel, rfl⟩
theorem dc_X1_endAtom_18 : Dc miX1_endAtom 18 (.istore_n 2) 1 19 := ⟨by decide +kernel, rfl⟩
theorem dc_X1_endAtom_19 : Dc miX1_endAtom 19 (.iload_n 2) 1 20 := ⟨by decide +kernel, rfl⟩
theorem dc_X1_endAtom_20 : Dc miX1_endAtom 20 (.bipush 6) 2 22 := ⟨by decide +kernel, rfl⟩
theorem dc_X1_endAtom_22 : Dc miX1_endAtom 22 (.if_icmp .ge 46) 3 25 := ⟨by decide +kernel, rfl⟩
theorem dc_X1_endAtom_25 : Dc miX1_endAtom 25 (.aload_n 0) 1 26 := ⟨by decide +kernel, rfl⟩
theorem dc_X1_endAtom_26 : Dc miX1_endAtom 26 (.invokevirtual 139) 3 29 := ⟨by decide +kernel, rfl⟩
theorem dc_X1_endAtom_29 : Dc miX1_endAtom 29 (.sipush 1011) 3 32 := ⟨by decide +kernel, rfl⟩
theorem dc_X1_endAtom_32 : Dc miX1_endAtom 32 (.if_icmp .ne 36) 3 35 := ⟨by decide +kernel, rfl⟩
theorem dc_X1_endAtom_35 : Dc miX1_endAtom 35 (.aload_n 1) 1 36 := ⟨by decide +kernel, rfl⟩
theorem dc_X1_endAtom_36 : Dc miX1_endAtom 36 (.sipush 1011) 3 39 := ⟨by decide +kernel, rfl⟩
theorem dc_X1_endAtom_39 : Dc miX1_endAtom 39 (.invokevirtual 112) 3 42 := ⟨by decide +kernel, rfl⟩
theorem dc_X1_endAtom_42 : Dc miX1_endAtom 42 (.aload_n 0) 1 43 := ⟨by decide +kernel, rfl⟩
theorem dc_X1_endAtom_43 : Dc miX1_endAtom 43 (.dup) 1 44 := ⟨by decide +kernel, rfl⟩
theorem dc_X1_endAtom_44 : Dc miX1_endAtom 44 (.getfield 32) 3 47 := ⟨by decide +kernel, rfl⟩
theorem dc_X1_endAtom_47 : Dc miX1_endAtom 47 (.iconst 1) 1 48 := ⟨by decide +kernel, rfl⟩
theorem dc_X1_endAtom_48 : Dc miX1_endAtom 48 (.isub) 1 49 := ⟨by decide +kernel, rfl⟩
theorem dc_X1_endAtom_49 : Dc miX1_endAtom 49 (.putfield 32) 3 52 := ⟨by decide +kernel, rfl⟩
theorem dc_X1_endAtom_52 : Dc miX1_endAtom 52 (.aload_n 0) 1 53 := ⟨by decide +kernel, rfl⟩
theorem dc_X1_endAtom_53 : Dc miX1_endAtom 53 (.dup) 1 54 := ⟨by decide +kernel, rfl⟩
theorem dc_X1_endAtom_54 : Dc miX1_endAtom 54 (.getfield 29) 3 57 := ⟨by decide +kernel, rfl⟩
theorem dc_X1_endAtom_57 : Dc miX1_endAtom 57 (.iconst 1) 1 58 := ⟨by decide +kernel, rfl⟩
theorem dc_X1_endAtom_58 : Dc miX1_endAtom 58 (.isub) 1 59 := ⟨by decide +kernel, rfl⟩
theorem dc_X1_endAtom_59 : Dc miX1_endAtom 59 (.putfield 29) 3 62 := ⟨by decide +kernel, rfl⟩
theorem dc_X1_endAtom_62 : Dc miX1_endAtom 62 (.iinc 2 1) 3 65 := ⟨by decide +kernel, rfl⟩
theorem dc_X1_endAtom_65 : Dc miX1_endAtom 65 (.goto (-46)) 3 68 := ⟨by decide +kernel, rfl⟩
theorem dc_X1_endAtom_68 : Dc miX1_endAtom 68 (.aload_n 0) 1 69 := ⟨by decide +kernel, rfl⟩
theorem dc_X1_endAtom_69 : Dc miX1_endAtom 69 (.bipush 8) 2 71 := ⟨by decide +kernel, rfl⟩
theorem dc_X1_endAtom_71 : Dc miX1_endAtom 71 (.putfield 11) 3 74 := ⟨by decide +kernel, rfl⟩
theorem dc_X1_endAtom_74 : Dc miX1_endAtom 74 (.return_) 1 75 := ⟨by decide +kernel, rfl⟩
def fX1_endAtom_b68 (N : Nat) (G : pG) (a0 : Nat) (σ : pS) : Option (pS) := some (putF σ a0 0 (8 : Int32))
set_option maxRecDepth 100000 in
set_option maxHeartbeats 4000000 in
theorem tX1_endAtom_b68 {N : Nat} {G : pG} {SK : Nat → Nat} {a0 : Nat} {σ : pS} {r : pS} (hW : WT G) (i0 : Is G a0 1) (h : fX1_endAtom_b68 N G a0 σ = some r) : Ev miX1_endAtom (2, 0, 0) G (Zp G none r) SK (0, 0) 68 [some (.ref a0), none, none] [] σ := by
  unfold fX1_endAtom_b68 at h
  refine ev_aload_n dc_X1_endAtom_68 rfl ?_
  refine ev_bipush (v := 8) dc_X1_endAtom_69 (by decide) ?_
  refine ev_putI dc_X1_endAtom_71 fi_X1_11 rfl i0 ?_
  cases h
  exact ev_vret dc_X1_endAtom_74 rfl rfl rfl
def fX1_endAtom_b19 (N : Nat) (G : pG) (a0 : Nat) (a1 : Nat) : (Int32 × pS) → Option (pS) := lp (fun (k19 : Int32 × pS → Option (pS)) (b : Int32 × pS) => if (6 : Int32) ≤ b.1 then (fX1_endAtom_b68 N G a0 b.2) else ((fX1_topWaiting N G a0 b.2).bind (fun q1 => if q1 = (1011 : Int32) then ((fX0_addStep N G a1 (1011 : Int32) b.2).bind (fun q2 => k19 (b.1 + (1 : Int32), putF (putF q2 a0 6 ((q2.1 a0 6) - (1 : Int32))) a0 5 (((putF q2 a0 6 ((q2.1 a0 6) - (1 : Int32))).1 a0 5) - (1 : Int32))))) else (fX1_endAtom_b68 N G a0 b.2)))) N
set_option maxRecDepth 100000 in
set_option maxHeartbeats 4000000 in
theorem tX1_endAtom_b19 {N : Nat} {G : pG} {SK : Nat → Nat} {a0 : Nat} {a1 : Nat} {b : Int32 × pS} {r : pS} (hW : WT G) (i0 : Is G a0 1) (i1 : Is G a1 0) (h : fX1_endAtom_b19 N G a0 a1 b = some r) : Ev miX1_endAtom (2, 0, 0) G (Zp G none r) SK (0, 0) 19 [some (.ref a0), some (.ref a1), some (.int b.1)] [] b.2 := by
  unfold fX1_endAtom_b19 at h
  refine lp_ind (P := fun b r9 => r9 = r → Ev miX1_endAtom (2, 0, 0) G (Zp G none r) SK (0, 0) 19 [some (.ref a0), some (.ref a1), some (.int b.1)] [] b.2) (fun k19 b r9 ih h9 e9 => ?_) N b r h rfl
  clear h
  subst e9
  have h := h9
  clear h9
  have hk19 : ∀ b : Int32 × pS, k19 b = some r9 → Ev miX1_endAtom (2, 0, 0) G (Zp G none r9) SK (0, 0) 19 [some (.ref a0), some (.ref a1), some (.int b.1)] [] b.2 := fun b hb => ih b r9 hb rfl
  clear ih
  obtain ⟨x2, σ⟩ := b
  dsimp only at h ⊢
  refine ev_iload_n dc_X1_endAtom_19 rfl ?_
  refine ev_bipush (v := 6) dc_X1_endAtom_20 (by decide) ?_
  refine ev_icmp_ge (tgt := 68) dc_X1_endAtom_22 (by decide) h (fun h => ?_) (fun h => ?_)
  · exact ev_sub (tX1_endAtom_b68 hW i0 h) (And.intro rfl trivial)
  · refine ev_aload_n dc_X1_endAtom_25 rfl ?_
    obtain ⟨q1, hq1, h⟩ := Option.bind_eq_some_iff.mp h
    refine ev_callV (av := []) (st := []) (st1 := [.int q1]) dc_X1_endAtom_26 (tX1_topWaiting hW i0 hq1) mw_981 cy_X1_topWaiting i0 (by decide) rfl rfl rfl rfl (Nat.le_of_ble_eq_true rfl) (Nat.le_of_ble_eq_true rfl) ⟨Nat.le_refl _, Nat.le_refl _⟩ ?_
    refine ev_sipush (v := 1011) dc_X1_endAtom_29 (by decide) ?_
    refine ev_icmp_ne (tgt := 68) dc_X1_endAtom_32 (by decide) h (fun h => ?_) (fun h => ?_)
    · refine ev_aload_n dc_X1_endAtom_35 rfl ?_
      refine ev_sipush (v := 1011) dc_X1_endAtom_36 (by decide) ?_
      obtain ⟨q2, hq2, h⟩ := Option.bind_eq_some_iff.mp h
      refine ev_callV (av := [.int (1011 : Int32)]) (st := []) (st1 := []) dc_X1_endAtom_39 (tX0_addStep hW i1 hq2) mw_977 cy_X0_addStep i1 (by decide) rfl rfl rfl rfl (Nat.le_of_ble_eq_true rfl) (Nat.le_of_ble_eq_true rfl) ⟨Nat.le_refl _, Nat.le_refl _⟩ ?_
      refine ev_aload_n dc_X1_endAtom_42 rfl ?_
      refine ev_dup dc_X1_endAtom_43 rfl ?_
      refine ev_getI dc_X1_endAtom_44 fi_X1_32 rfl i0 ?_
      refine ev_iconst (v := 1) dc_X1_endAtom_47 (by decide) ?_
      refine ev_isub dc_X1_endAtom_48 ?_
      refine ev_putI dc_X1_endAtom_49 fi_X1_32 rfl i0 ?_
      refine ev_aload_n dc_X1_endAtom_52 rfl ?_
      refine ev_dup dc_X1_endAtom_53 rfl ?_
      refine ev_getI dc_X1_endAtom_54 fi_X1_29 rfl i0 ?_
      refine ev_iconst (v := 1) dc_X1_endAtom_57 (by decide) ?_
      refine ev_isub dc_X1_endAtom_58 ?_
      refine ev_putI dc_X1_endAtom_59 fi_X1_29 rfl i0 ?_
      refine ev_iinc (v := 1) (lv' := [some (.ref a0), some (.ref a1), some (.int (x2 + (1 : Int32)))]) dc_X1_endAtom_62 rfl (by decide) rfl (by decide) rfl ?_
      refine ev_goto (tgt := 19) dc_X1_endAtom_65 (by decide) ?_
      exact ev_sub (hk19 (x2 + (1 : Int32), putF (putF q2 a0 6 ((q2.1 a0 6) - (1 : Int32))) a0 5 (((putF q2 a0 6 ((q2.1 a0 6) - (1 : Int32))).1 a0 5) - (1 : Int32))) h) (And.intro rfl (And.intro rfl (And.intro rfl trivial)))
    · exact ev_sub (tX1_endAtom_b68 hW i0 h) (And.intro rfl trivial)
def fX1_endAtom_b17 (N : Nat) (G : pG) (a0 : Nat) (a1 : Nat) (σ : pS) : Option (pS) := fX1_endAtom_b19 N G a0 a1 ((0 : Int32), σ)
set_option maxRecDepth 100000 in
set_option maxHeartbeats 4000000 in
theorem tX1_endAtom_b17 {N : Nat} {G : pG} {SK : Nat → Nat} {a0 : Nat} {a1 : Nat} {σ : pS} {r : pS} (hW : WT G) (i0 : Is G a0 1) (i1 : Is G a1 0) (h : fX1_endAtom_b17 N G a0 a1 σ = some r) : Ev miX1_endAtom (2, 0, 0) G (Zp G none r) SK (0, 0) 17 [some (.ref a0), some (.ref a1), none] [] σ := by
  unfold fX1_endAtom_b17 at h
  refine ev_iconst (v := 0) dc_X1_endAtom_17 (by decide) ?_
  refine ev_istore_n (lv' := [some (.ref a0), some (.ref a1), some (.int (0 : Int32))]) dc_X1_endAtom_18 rfl (by decide) rfl ?_
  exact ev_sub (tX1_endAtom_b19 (b := ((0 : Int32), σ)) hW i0 i1 h) (And.intro rfl (And.intro rfl (And.intro rfl trivial)))
def fX1_endAtom (N : Nat) (G : pG) (a0 : Nat) (a1 : Nat) (σ : pS) : Option (pS) := if (σ.1 a0 0) = (7 : Int32) then ((fX0_addStep N G a1 (σ.1 a0 4) σ).bind (fun q3 => fX1_endAtom_b17 N G a0 a1 q3)) else (fX1_endAtom_b17 N G a0 a1 σ)
set_option maxRecDepth 100000 in
set_option maxHeartbeats 4000000 in
theorem tX1_endAtom {N : Nat} {G : pG} {SK : Nat → Nat} {a0 : Nat} {a1 : Nat} {σ : pS} {r : pS} (hW : WT G) (i0 : Is G a0 1) (i1 : Is G a1 0) (h : fX1_endAtom N G a0 a1 σ = some r) : Dn miX1_endAtom yX1_endAtom 2 G SK [.ref a0, .ref a1] σ none r := by
  unfold fX1_endAtom at h
  refine dn_of (lv := [some (.ref a0), some (.ref a1), none]) (by decide) rfl rfl (Nat.le_of_ble_eq_true rfl) rfl ?_
  refine ev_aload_n dc_X1_endAtom_0 rfl ?_
  refine ev_getI dc_X1_endAtom_1 fi_X1_11 rfl i0 ?_
  refine ev_bipush (v := 7) dc_X1_endAtom_4 (by decide) ?_
  refine ev_icmp_ne (tgt := 17) dc_X1_endAtom_6 (by decide) h (fun h => ?_) (fun h => ?_)
  · refine ev_aload_n dc_X1_endAtom_9 rfl ?_
    refine ev_aload_n dc_X1_endAtom_10 rfl ?_
    refine ev_getI dc_X1_endAtom_11 fi_X1_26 rfl i0 ?_
    obtain ⟨q3, hq3, h⟩ := Option.bind_eq_some_iff.mp h
    refine ev_callV (av := [.int (σ.1 a0 4)]) (st := []) (st1 := []) dc_X1_endAtom_14 (tX0_addStep hW i1 hq3) mw_977 cy_X0_addStep i1 (by decide) rfl rfl rfl rfl (Nat.le_of_ble_eq_true rfl) (Nat.le_of_ble_eq_true rfl) ⟨Nat.le_refl _, Nat.le_refl _⟩ ?_
    exact ev_sub (tX1_endAtom_b17 hW i0 i1 h) (And.intro rfl (And.intro rfl trivial))
  · exact ev_sub (tX1_endAtom_b17 hW i0 i1 h) (And.intro rfl (And.intro rfl trivial))
theorem dc_X1_release_0 : Dc miX1_release 0 (.aload_n 0) 1 1 := ⟨by decide +kernel, rfl⟩
theorem dc_X1_release_1 : Dc miX1_release 1 (.invokevirtual 139) 3 4 := ⟨by decide +kernel, rfl⟩
theorem dc_X1_release_4 : Dc miX1_release 4 (.iload_n 2) 1 5 := ⟨by decide +kernel, rfl⟩
theorem dc_X1_release_5 : Dc miX1_release 5 (.if_icmp .ne 18) 3 8 := ⟨by decide +kernel, rfl⟩
theorem dc_X1_release_8 : Dc miX1_release 8 (.aload_n 1) 1 9 := ⟨by decide +kernel, rfl⟩
theorem dc_X1_release_9 : Dc miX1_release 9 (.iload_n 2) 1 10 := ⟨by decide +kernel, rfl⟩
theorem dc_X1_release_10 : Dc miX1_release 10 (.invokevirtual 112) 3 13 := ⟨by decide +kernel, rfl⟩
theorem dc_X1_release_13 : Dc miX1_release 13 (.aload_n 0) 1 14 := ⟨by decide +kernel, rfl⟩
theorem dc_X1_release_14 : Dc miX1_release 14 (.dup) 1 15 := ⟨by decide +kernel, rfl⟩
theorem dc_X1_release_15 : Dc miX1_release 15 (.getfield 32) 3 18 := ⟨by decide +kernel, rfl⟩
theorem dc_X1_release_18 : Dc miX1_release 18 (.iconst 1) 1 19 := ⟨by decide +kernel, rfl⟩
theorem dc_X1_release_19 : Dc miX1_release 19 (.isub) 1 20 := ⟨by decide +kernel, rfl⟩
theorem dc_X1_release_20 : Dc miX1_release 20 (.putfield 32) 3 23 := ⟨by decide +kernel, rfl⟩
theorem dc_X1_release_23 : Dc miX1_release 23 (.return_) 1 24 := ⟨by decide +kernel, rfl⟩
def fX1_release (N : Nat) (G : pG) (a0 : Nat) (a1 : Nat) (a2 : Int32) (σ : pS) : Option (pS) := (fX1_topWaiting N G a0 σ).bind (fun q1 => if q1 = a2 then ((fX0_addStep N G a1 a2 σ).bind (fun q2 => some (putF q2 a0 6 ((q2.1 a0 6) - (1 : Int32))))) else (some σ))
set_option maxRecDepth 100000 in
set_option maxHeartbeats 4000000 in
theorem tX1_release {N : Nat} {G : pG} {SK : Nat → Nat} {a0 : Nat} {a1 : Nat} {a2 : Int32} {σ : pS} {r : pS} (hW : WT G) (i0 : Is G a0 1) (i1 : Is G a1 0) (h : fX1_release N G a0 a1 a2 σ = some r) : Dn miX1_release yX1_release 2 G SK [.ref a0, .ref a1, .int a2] σ none r := by
  unfold fX1_release at h
  refine dn_of (lv := [some (.ref a0), some (.ref a1), some (.int a2)]) (by decide) rfl rfl (Nat.le_of_ble_eq_true rfl) rfl ?_
  refine ev_aload_n dc_X1_release_0 rfl ?_
  obtain ⟨q1, hq1, h⟩ := Option.bind_eq_some_iff.mp h
  refine ev_callV (av := []) (st := []) (st1 := [.int q1]) dc_X1_release_1 (tX1_topWaiting hW i0 hq1) mw_981 cy_X1_topWaiting i0 (by decide) rfl rfl rfl rfl (Nat.le_of_ble_eq_true rfl) (Nat.le_of_ble_eq_true rfl) ⟨Nat.le_refl _, Nat.le_refl _⟩ ?_
  refine ev_iload_n dc_X1_release_4 rfl ?_
  refine ev_icmp_ne (tgt := 23) dc_X1_release_5 (by decide) h (fun h => ?_) (fun h => ?_)
  · refine ev_aload_n dc_X1_release_8 rfl ?_
    refine ev_iload_n dc_X1_release_9 rfl ?_
    obtain ⟨q2, hq2, h⟩ := Option.bind_eq_some_iff.mp h
    refine ev_callV (av := [.int a2]) (st := []) (st1 := []) dc_X1_release_10 (tX0_addStep hW i1 hq2) mw_977 cy_X0_addStep i1 (by decide) rfl rfl rfl rfl (Nat.le_of_ble_eq_true rfl) (Nat.le_of_ble_eq_true rfl) ⟨Nat.le_refl _, Nat.le_refl _⟩ ?_
    refine ev_aload_n dc_X1_release_13 rfl ?_
    refine ev_dup dc_X1_release_14 rfl ?_
    refine ev_getI dc_X1_release_15 fi_X1_32 rfl i0 ?_
    refine ev_iconst (v := 1) dc_X1_release_18 (by decide) ?_
    refine ev_isub dc_X1_release_19 ?_
    refine ev_putI dc_X1_release_20 fi_X1_32 rfl i0 ?_
    cases h
    exact ev_vret dc_X1_release_23 rfl rfl rfl
  · cases h
    exact ev_vret dc_X1_release_23 rfl rfl rfl
theorem dc_X1_endsLine_0 : Dc miX1_endsLine 0 (.aload_n 0) 1 1 := ⟨by decide +kernel, rfl⟩
theorem dc_X1_endsLine_1 : Dc miX1_endsLine 1 (.getfield 11) 3 4 := ⟨by decide +kernel, rfl⟩
theorem dc_X1_endsLine_4 : Dc miX1_endsLine 4 (.bipush 7) 2 6 := ⟨by decide +kernel, rfl⟩
theorem dc_X1_endsLine_6 : Dc miX1_endsLine 6 (.if_icmp .ne 8) 3 9 := ⟨by decide +kernel, rfl⟩
theorem dc_X1_endsLine_9 : Dc miX1_endsLine 9 (.aload_n 0) 1 10 := ⟨by decide +kernel, rfl⟩
theorem dc_X1_endsLine_10 : Dc miX1_endsLine 10 (.aload_n 1) 1 11 := ⟨by decide +kernel, rfl⟩
theorem dc_X1_endsLine_11 : Dc miX1_endsLine 11 (.invokevirtual 89) 3 14 := ⟨by decide +kernel, rfl⟩
theorem dc_X1_endsLine_14 : Dc miX1_endsLine 14 (.aload_n 0) 1 15 := ⟨by decide +kernel, rfl⟩
theorem dc_X1_endsLine_15 : Dc miX1_endsLine 15 (.getfield 11) 3 18 := ⟨by decide +kernel, rfl⟩
theorem dc_X1_endsLine_18 : Dc miX1_endsLine 18 (.iconst 2) 1 19 := ⟨by decide +kernel, rfl⟩
theorem dc_X1_endsLine_19 : Dc miX1_endsLine 19 (.if_icmp .eq 12) 3 22 := ⟨by decide +kernel, rfl⟩
theorem dc_X1_endsLine_22 : Dc miX1_endsLine 22 (.aload_n 0) 1 23 := ⟨by decide +kernel, rfl⟩
theorem dc_X1_endsLine_23 : Dc miX1_endsLine 23 (.getfield 11) 3 26 := ⟨by decide +kernel, rfl⟩
theorem dc_X1_endsLine_26 : Dc miX1_endsLine 26 (.bipush 8) 2 28 := ⟨by decide +kernel, rfl⟩
theorem dc_X1_endsLine_28 : Dc miX1_endsLine 28 (.if_icmp .ne 10) 3 31 := ⟨by decide +kernel, rfl⟩
theorem dc_X1_endsLine_31 : Dc miX1_endsLine 31 (.aload_n 0) 1 32 := ⟨by decide +kernel, rfl⟩
theorem dc_X1_endsLine_32 : Dc miX1_endsLine 32 (.getfield 29) 3 35 := ⟨by decide +kernel, rfl⟩
theorem dc_X1_endsLine_35 : Dc miX1_endsLine 35 (.ifCond .le 5) 3 38 := ⟨by decide +kernel, rfl⟩
theorem dc_X1_endsLine_38 : Dc miX1_endsLine 38 (.iconst 0) 1 39 := ⟨by decide +kernel, rfl⟩
theorem dc_X1_endsLine_39 : Dc miX1_endsLine 39 (.ireturn) 1 40 := ⟨by decide +kernel, rfl⟩
theorem dc_X1_endsLine_40 : Dc miX1_endsLine 40 (.aload_n 0) 1 41 := ⟨by decide +kernel, rfl⟩
theorem dc_X1_endsLine_41 : Dc miX1_endsLine 41 (.aload_n 1) 1 42 := ⟨by decide +kernel, rfl⟩
theorem dc_X1_endsLine_42 : Dc miX1_endsLine 42 (.sipush 1012) 3 45 := ⟨by decide +kernel, rfl⟩
theorem dc_X1_endsLine_45 : Dc miX1_endsLine 45 (.invokevirtual 133) 3 48 := ⟨by decide +kernel, rfl⟩
theorem dc_X1_endsLine_48 : Dc miX1_endsLine 48 (.aload_n 0) 1 49 := ⟨by decide +kernel, rfl⟩
theorem dc_X1_endsLine_49 : Dc miX1_endsLine 49 (.aload_n 1) 1 50 := ⟨by decide +kernel, rfl⟩
theorem dc_X1_endsLine_50 : Dc miX1_endsLine 50 (.sipush 1013) 3 53 := ⟨by decide +kernel, rfl⟩
theorem dc_X1_endsLine_53 : Dc miX1_endsLine 53 (.invokevirtual 133) 3 56 := ⟨by decide +kernel, rfl⟩
theorem dc_X1_endsLine_56 : Dc miX1_endsLine 56 (.aload_n 1) 1 57 := ⟨by decide +kernel, rfl⟩
theorem dc_X1_endsLine_57 : Dc miX1_endsLine 57 (.aload_n 0) 1 58 := ⟨by decide +kernel, rfl⟩
theorem dc_X1_endsLine_58 : Dc miX1_endsLine 58 (.getfield 17) 3 61 := ⟨by decide +kernel, rfl⟩
theorem dc_X1_endsLine_61 : Dc miX1_endsLine 61 (.aload_n 0) 1 62 := ⟨by decide +kernel, rfl⟩
theorem dc_X1_endsLine_62 : Dc miX1_endsLine 62 (.getfield 20) 3 65 := ⟨by decide +kernel, rfl⟩
theorem dc_X1_endsLine_65 : Dc miX1_endsLine 65 (.aload_n 0) 1 66 := ⟨by decide +kernel, rfl⟩
theorem dc_X1_endsLine_66 : Dc miX1_endsLine 66 (.getfield 23) 3 69 := ⟨by decide +kernel, rfl⟩
theorem dc_X1_endsLine_69 : Dc miX1_endsLine 69 (.imul) 1 70 := ⟨by decide +kernel, rfl⟩
theorem dc_X1_endsLine_70 : Dc miX1_endsLine 70 (.invokevirtual 143) 3 73 := ⟨by decide +kernel, rfl⟩
theorem dc_X1_endsLine_73 : Dc miX1_endsLine 73 (.aload_n 0) 1 74 := ⟨by decide +kernel, rfl⟩
theorem dc_X1_endsLine_74 : Dc miX1_endsLine 74 (.iconst 0) 1 75 := ⟨by decide +kernel, rfl⟩
theorem dc_X1_endsLine_75 : Dc miX1_endsLine 75 (.putfield 11) 3 78 := ⟨by decide +kernel, rfl⟩
theorem dc_X1_endsLine_78 : Dc miX1_endsLine 78 (.iconst 1) 1 79 := ⟨by decide +kernel, rfl⟩
theorem dc_X1_endsLine_79 : Dc miX1_endsLine 79 (.ireturn) 1 80 := ⟨by decide +kernel, rfl⟩
def fX1_endsLine_b31 (N : Nat) (G : pG) (a0 : Nat) (a1 : Nat) (σ : pS) : Option (Int32 × pS) := if (σ.1 a0 5) ≤ 0 then ((fX1_release N G a0 a1 (1012 : Int32) σ).bind (fun q1 => (fX1_release N G a0 a1 (1013 : Int32) q1).bind (fun q2 => (fX0_addLine N G a1 (q2.1 a0 1) ((q2.1 a0 2) * (q2.1 a0 3)) q2).bind (fun q3 => some ((1 : Int32), putF q3 a0 0 (0 : Int32)))))) else (some ((0 : Int32), σ))
set_option maxRecDepth 100000 in
set_option maxHeartbeats 4000000 in
theorem tX1_endsLine_b31 {N : Nat} {G : pG} {SK : Nat → Nat} {a0 : Nat} {a1 : Nat} {σ : pS} {r : Int32 × pS} (hW : WT G) (i0 : Is G a0 1) (i1 : Is G a1 0) (h : fX1_endsLine_b31 N G a0 a1 σ = some r) : Ev miX1_endsLine (3, 0, 0) G (Zp G (some (.int r.1)) r.2) SK (0, 0) 31 [some (.ref a0), some (.ref a1)] [] σ := by
  unfold fX1_endsLine_b31 at h
  refine ev_aload_n dc_X1_endsLine_31 rfl ?_
  refine ev_getI dc_X1_endsLine_32 fi_X1_29 rfl i0 ?_
  refine ev_if_le (tgt := 40) dc_X1_endsLine_35 (by decide) h (fun h => ?_) (fun h => ?_)
  · refine ev_aload_n dc_X1_endsLine_40 rfl ?_
    refine ev_aload_n dc_X1_endsLine_41 rfl ?_
    refine ev_sipush (v := 1012) dc_X1_endsLine_42 (by decide) ?_
    obtain ⟨q1, hq1, h⟩ := Option.bind_eq_some_iff.mp h
    refine ev_callV (av := [.ref a1, .int (1012 : Int32)]) (st := []) (st1 := []) dc_X1_endsLine_45 (tX1_release hW i0 i1 hq1) mw_985 cy_X1_release i0 (by decide) rfl rfl rfl rfl (Nat.le_of_ble_eq_true rfl) (Nat.le_of_ble_eq_true rfl) ⟨Nat.le_refl _, Nat.le_refl _⟩ ?_
    refine ev_aload_n dc_X1_endsLine_48 rfl ?_
    refine ev_aload_n dc_X1_endsLine_49 rfl ?_
    refine ev_sipush (v := 1013) dc_X1_endsLine_50 (by decide) ?_
    obtain ⟨q2, hq2, h⟩ := Option.bind_eq_some_iff.mp h
    refine ev_callV (av := [.ref a1, .int (1013 : Int32)]) (st := []) (st1 := []) dc_X1_endsLine_53 (tX1_release hW i0 i1 hq2) mw_985 cy_X1_release i0 (by decide) rfl rfl rfl rfl (Nat.le_of_ble_eq_true rfl) (Nat.le_of_ble_eq_true rfl) ⟨Nat.le_refl _, Nat.le_refl _⟩ ?_
    refine ev_aload_n dc_X1_endsLine_56 rfl ?_
    refine ev_aload_n dc_X1_endsLine_57 rfl ?_
    refine ev_getI dc_X1_endsLine_58 fi_X1_17 rfl i0 ?_
    refine ev_aload_n dc_X1_endsLine_61 rfl ?_
    refine ev_getI dc_X1_endsLine_62 fi_X1_20 rfl i0 ?_
    refine ev_aload_n dc_X1_endsLine_65 rfl ?_
    refine ev_getI dc_X1_endsLine_66 fi_X1_23 rfl i0 ?_
    refine ev_imul dc_X1_endsLine_69 ?_
    obtain ⟨q3, hq3, h⟩ := Option.bind_eq_some_iff.mp h
    refine ev_callV (av := [.int (q2.1 a0 1), .int ((q2.1 a0 2) * (q2.1 a0 3))]) (st := []) (st1 := []) dc_X1_endsLine_70 (tX0_addLine hW i1 hq3) mw_989 cy_X0_addLine i1 (by decide) rfl rfl rfl rfl (Nat.le_of_ble_eq_true rfl) (Nat.le_of_ble_eq_true rfl) ⟨Nat.le_refl _, Nat.le_refl _⟩ ?_
    refine ev_aload_n dc_X1_endsLine_73 rfl ?_
    refine ev_iconst (v := 0) dc_X1_endsLine_74 (by decide) ?_
    refine ev_putI dc_X1_endsLine_75 fi_X1_11 rfl i0 ?_
    refine ev_iconst (v := 1) dc_X1_endsLine_78 (by decide) ?_
    cases h
    exact ev_zretc dc_X1_endsLine_79 rfl rfl rfl rfl
  · refine ev_iconst (v := 0) dc_X1_endsLine_38 (by decide) ?_
    cases h
    exact ev_zretc dc_X1_endsLine_39 rfl rfl rfl rfl
def fX1_endsLine_b14 (N : Nat) (G : pG) (a0 : Nat) (a1 : Nat) (σ : pS) : Option (Int32 × pS) := if (σ.1 a0 0) = (2 : Int32) then (fX1_endsLine_b31 N G a0 a1 σ) else (if (σ.1 a0 0) = (8 : Int32) then (fX1_endsLine_b31 N G a0 a1 σ) else (some ((0 : Int32), σ)))
set_option maxRecDepth 100000 in
set_option maxHeartbeats 4000000 in
theorem tX1_endsLine_b14 {N : Nat} {G : pG} {SK : Nat → Nat} {a0 : Nat} {a1 : Nat} {σ : pS} {r : Int32 × pS} (hW : WT G) (i0 : Is G a0 1) (i1 : Is G a1 0) (h : fX1_endsLine_b14 N G a0 a1 σ = some r) : Ev miX1_endsLine (3, 0, 0) G (Zp G (some (.int r.1)) r.2) SK (0, 0) 14 [some (.ref a0), some (.ref a1)] [] σ := by
  unfold fX1_endsLine_b14 at h
  refine ev_aload_n dc_X1_endsLine_14 rfl ?_
  refine ev_getI dc_X1_endsLine_15 fi_X1_11 rfl i0 ?_
  refine ev_iconst (v := 2) dc_X1_endsLine_18 (by decide) ?_
  refine ev_icmp_eq (tgt := 31) dc_X1_endsLine_19 (by decide) h (fun h => ?_) (fun h => ?_)
  · exact ev_sub (tX1_endsLine_b31 hW i0 i1 h) (And.intro rfl (And.intro rfl trivial))
  · refine ev_aload_n dc_X1_endsLine_22 rfl ?_
    refine ev_getI dc_X1_endsLine_23 fi_X1_11 rfl i0 ?_
    refine ev_bipush (v := 8) dc_X1_endsLine_26 (by decide) ?_
    refine ev_icmp_ne (tgt := 38) dc_X1_endsLine_28 (by decide) h (fun h => ?_) (fun h => ?_)
    · exact ev_sub (tX1_endsLine_b31 hW i0 i1 h) (And.intro rfl (And.intro rfl trivial))
    · refine ev_iconst (v := 0) dc_X1_endsLine_38 (by decide) ?_
      cases h
      exact ev_zretc dc_X1_endsLine_39 rfl rfl rfl rfl
def fX1_endsLine (N : Nat) (G : pG) (a0 : Nat) (a1 : Nat) (σ : pS) : Option (Int32 × pS) := if (σ.1 a0 0) = (7 : Int32) then ((fX1_endAtom N G a0 a1 σ).bind (fun q4 => fX1_endsLine_b14 N G a0 a1 q4)) else (fX1_endsLine_b14 N G a0 a1 σ)
set_option maxRecDepth 100000 in
set_option maxHeartbeats 4000000 in
theorem tX1_endsLine {N : Nat} {G : pG} {SK : Nat → Nat} {a0 : Nat} {a1 : Nat} {σ : pS} {r : Int32 × pS} (hW : WT G) (i0 : Is G a0 1) (i1 : Is G a1 0) (h : fX1_endsLine N G a0 a1 σ = some r) : Dn miX1_endsLine yX1_endsLine 3 G SK [.ref a0, .ref a1] σ (some (.int r.1)) r.2 := by
  unfold fX1_endsLine at h
  refine dn_of (lv := [some (.ref a0), some (.ref a1)]) (by decide) rfl rfl (Nat.le_of_ble_eq_true rfl) rfl ?_
  refine ev_aload_n dc_X1_endsLine_0 rfl ?_
  refine ev_getI dc_X1_endsLine_1 fi_X1_11 rfl i0 ?_
  refine ev_bipush (v := 7) dc_X1_endsLine_4 (by decide) ?_
  refine ev_icmp_ne (tgt := 14) dc_X1_endsLine_6 (by decide) h (fun h => ?_) (fun h => ?_)
  · refine ev_aload_n dc_X1_endsLine_9 rfl ?_
    refine ev_aload_n dc_X1_endsLine_10 rfl ?_
    obtain ⟨q4, hq4, h⟩ := Option.bind_eq_some_iff.mp h
    refine ev_callV (av := [.ref a1]) (st := []) (st1 := []) dc_X1_endsLine_11 (tX1_endAtom hW i0 i1 hq4) mw_973 cy_X1_endAtom i0 (by decide) rfl rfl rfl rfl (Nat.le_of_ble_eq_true rfl) (Nat.le_of_ble_eq_true rfl) ⟨Nat.le_refl _, Nat.le_refl _⟩ ?_
    exact ev_sub (tX1_endsLine_b14 hW i0 i1 h) (And.intro rfl (And.intro rfl trivial))
  · exact ev_sub (tX1_endsLine_b14 hW i0 i1 h) (And.intro rfl (And.intro rfl trivial))
theorem dc_X1_partAt_0 : Dc miX1_partAt 0 (.aload_n 0) 1 1 := ⟨by decide +kernel, rfl⟩
theorem dc_X1_partAt_1 : Dc miX1_partAt 1 (.ldc 119) 2 3 := ⟨by decide +kernel, rfl⟩
theorem dc_X1_partAt_3 : Dc miX1_partAt 3 (.invokevirtual 72) 3 6 := ⟨by decide +kernel, rfl⟩
theorem dc_X1_partAt_6 : Dc miX1_partAt 6 (.ifCond .eq 7) 3 9 := ⟨by decide +kernel, rfl⟩
theorem dc_X1_partAt_9 : Dc miX1_partAt 9 (.sipush 1000) 3 12 := ⟨by decide +kernel, rfl⟩
theorem dc_X1_partAt_12 : Dc miX1_partAt 12 (.ireturn) 1 13 := ⟨by decide +kernel, rfl⟩
theorem dc_X1_partAt_13 : Dc miX1_partAt 13 (.aload_n 0) 1 14 := ⟨by decide +kernel, rfl⟩
theorem dc_X1_partAt_14 : Dc miX1_partAt 14 (.ldc 121) 2 16 := ⟨by decide +kernel, rfl⟩
theorem dc_X1_partAt_16 : Dc miX1_partAt 16 (.invokevirtual 72) 3 19 := ⟨by decide +kernel, rfl⟩
theorem dc_X1_partAt_19 : Dc miX1_partAt 19 (.ifCond .eq 7) 3 22 := ⟨by decide +kernel, rfl⟩
theorem dc_X1_partAt_22 : Dc miX1_partAt 22 (.sipush 1001) 3 25 := ⟨by decide +kernel, rfl⟩
theorem dc_X1_partAt_25 : Dc miX1_partAt 25 (.ireturn) 1 26 := ⟨by decide +kernel, rfl⟩
theorem dc_X1_partAt_26 : Dc miX1_partAt 26 (.aload_n 0) 1 27 := ⟨by decide +kernel, rfl⟩
theorem dc_X1_partAt_27 : Dc miX1_partAt 27 (.ldc 123) 2 29 := ⟨by decide +kernel, rfl⟩
theorem dc_X1_partAt_29 : Dc miX1_partAt 29 (.invokevirtual 72) 3 32 := ⟨by decide +kernel, rfl⟩
theorem dc_X1_partAt_32 : Dc miX1_partAt 32 (.ifCond .eq 7) 3 35 := ⟨by decide +kernel, rfl⟩
theorem dc_X1_partAt_35 : Dc miX1_partAt 35 (.sipush 1002) 3 38 := ⟨by decide +kernel, rfl⟩
theorem dc_X1_partAt_38 : Dc miX1_partAt 38 (.ireturn) 1 39 := ⟨by decide +kernel, rfl⟩
theorem dc_X1_partAt_39 : Dc miX1_partAt 39 (.aload_n 0) 1 40 := ⟨by decide +kernel, rfl⟩
theorem dc_X1_partAt_40 : Dc miX1_partAt 40 (.ldc 125) 2 42 := ⟨by decide +kernel, rfl⟩
theorem dc_X1_partAt_42 : Dc miX1_partAt 42 (.invokevirtual 72) 3 45 := ⟨by decide +kernel, rfl⟩
theorem dc_X1_partAt_45 : Dc miX1_partAt 45 (.ifCond .eq 7) 3 48 := ⟨by decide +kernel, rfl⟩
theorem dc_X1_partAt_48 : Dc miX1_partAt 48 (.sipush 1003) 3 51 := ⟨by decide +kernel, rfl⟩
theorem dc_X1_partAt_51 : Dc miX1_partAt 51 (.ireturn) 1 52 := ⟨by decide +kernel, rfl⟩
theorem dc_X1_partAt_52 : Dc miX1_partAt 52 (.aload_n 0) 1 53 := ⟨by decide +kernel, rfl⟩
theorem dc_X1_partAt_53 : Dc miX1_partAt 53 (.ldc 127) 2 55 := ⟨by decide +kernel, rfl⟩
theorem dc_X1_partAt_55 : Dc miX1_partAt 55 (.invokevirtual 72) 3 58 := ⟨by decide +kernel, rfl⟩
theorem dc_X1_partAt_58 : Dc miX1_partAt 58 (.ifCond .eq 7) 3 61 := ⟨by decide +kernel, rfl⟩
theorem dc_X1_partAt_61 : Dc miX1_partAt 61 (.sipush 1004) 3 64 := ⟨by decide +kernel, rfl⟩
theorem dc_X1_partAt_64 : Dc miX1_partAt 64 (.ireturn) 1 65 := ⟨by decide +kernel, rfl⟩
theorem dc_X1_partAt_65 : Dc miX1_partAt 65 (.aload_n 0) 1 66 := ⟨by decide +kernel, rfl⟩
theorem dc_X1_partAt_66 : Dc miX1_partAt 66 (.ldc 129) 2 68 := ⟨by decide +kernel, rfl⟩
theorem dc_X1_partAt_68 : Dc miX1_partAt 68 (.invokevirtual 72) 3 71 := ⟨by decide +kernel, rfl⟩
theorem dc_X1_partAt_71 : Dc miX1_partAt 71 (.ifCond .eq 9) 3 74 := ⟨by decide +kernel, rfl⟩
theorem dc_X1_partAt_74 : Dc miX1_partAt 74 (.sipush 1005) 3 77 := ⟨by decide +kernel, rfl⟩
theorem dc_X1_partAt_77 : Dc miX1_partAt 77 (.goto 4) 3 80 := ⟨by decide +kernel, rfl⟩
theorem dc_X1_partAt_80 : Dc miX1_partAt 80 (.iconst (-1)) 1 81 := ⟨by decide +kernel, rfl⟩
theorem dc_X1_partAt_81 : Dc miX1_partAt 81 (.ireturn) 1 82 := ⟨by decide +kernel, rfl⟩
def fX1_partAt (N : Nat) (G : pG) (a0 : Nat) (σ : pS) : Option (Int32) := (fX9_isWord N G a0 23 σ).bind (fun q1 => if q1 = 0 then ((fX9_isWord N G a0 24 σ).bind (fun q2 => if q2 = 0 then ((fX9_isWord N G a0 25 σ).bind (fun q3 => if q3 = 0 then ((fX9_isWord N G a0 26 σ).bind (fun q4 => if q4 = 0 then ((fX9_isWord N G a0 27 σ).bind (fun q5 => if q5 = 0 then ((fX9_isWord N G a0 28 σ).bind (fun q6 => if q6 = 0 then (some (-1 : Int32)) else (some (1005 : Int32)))) else (some (1004 : Int32)))) else (some (1003 : Int32)))) else (some (1002 : Int32)))) else (some (1001 : Int32)))) else (some (1000 : Int32)))
set_option maxRecDepth 100000 in
set_option maxHeartbeats 4000000 in
theorem tX1_partAt {N : Nat} {G : pG} {SK : Nat → Nat} {a0 : Nat} {σ : pS} {r : Int32} (hW : WT G) (i0 : Is G a0 8) (h : fX1_partAt N G a0 σ = some r) : Dn miX1_partAt yX1_partAt 10 G SK [.ref a0] σ (some (.int r)) σ := by
  unfold fX1_partAt at h
  refine dn_of (lv := [some (.ref a0)]) (by decide) rfl rfl (Nat.le_of_ble_eq_true rfl) rfl ?_
  refine ev_aload_n dc_X1_partAt_0 rfl ?_
  refine ev_ldcS (sid := 23) (tx := "word") dc_X1_partAt_1 (List.mem_of_getElem? (i := 23) rfl) ?_
  obtain ⟨q1, hq1, h⟩ := Option.bind_eq_some_iff.mp h
  refine ev_callV (av := [.ref (SK 23)]) (st := []) (st1 := [.int q1]) dc_X1_partAt_3 (tX9_isWord hW i0 rfl hq1) mw_963 cy_X9_isWord i0 (by decide) rfl rfl rfl rfl (Nat.le_of_ble_eq_true rfl) (Nat.le_of_ble_eq_true rfl) ⟨Nat.le_refl _, Nat.le_refl _⟩ ?_
  refine ev_if_eq (tgt := 13) dc_X1_partAt_6 (by decide) h (fun h => ?_) (fun h => ?_)
  · refine ev_aload_n dc_X1_partAt_13 rfl ?_
    refine ev_ldcS (sid := 24) (tx := "deed") dc_X1_partAt_14 (List.mem_of_getElem? (i := 24) rfl) ?_
    obtain ⟨q2, hq2, h⟩ := Option.bind_eq_some_iff.mp h
    refine ev_callV (av := [.ref (SK 24)]) (st := []) (st1 := [.int q2]) dc_X1_partAt_16 (tX9_isWord hW i0 rfl hq2) mw_963 cy_X9_isWord i0 (by decide) rfl rfl rfl rfl (Nat.le_of_ble_eq_true rfl) (Nat.le_of_ble_eq_true rfl) ⟨Nat.le_refl _, Nat.le_refl _⟩ ?_
    refine ev_if_eq (tgt := 26) dc_X1_partAt_19 (by decide) h (fun h => ?_) (fun h => ?_)
    · refine ev_aload_n dc_X1_partAt_26 rfl ?_
      refine ev_ldcS (sid := 25) (tx := "doubt") dc_X1_partAt_27 (List.mem_of_getElem? (i := 25) rfl) ?_
      obtain ⟨q3, hq3, h⟩ := Option.bind_eq_some_iff.mp h
      refine ev_callV (av := [.ref (SK 25)]) (st := []) (st1 := [.int q3]) dc_X1_partAt_29 (tX9_isWord hW i0 rfl hq3) mw_963 cy_X9_isWord i0 (by decide) rfl rfl rfl rfl (Nat.le_of_ble_eq_true rfl) (Nat.le_of_ble_eq_true rfl) ⟨Nat.le_refl _, Nat.le_refl _⟩ ?_
      refine ev_if_eq (tgt := 39) dc_X1_partAt_32 (by decide) h (fun h => ?_) (fun h => ?_)
      · refine ev_aload_n dc_X1_partAt_39 rfl ?_
        refine ev_ldcS (sid := 26) (tx := "night") dc_X1_partAt_40 (List.mem_of_getElem? (i := 26) rfl) ?_
        obtain ⟨q4, hq4, h⟩ := Option.bind_eq_some_iff.mp h
        refine ev_callV (av := [.ref (SK 26)]) (st := []) (st1 := [.int q4]) dc_X1_partAt_42 (tX9_isWord hW i0 rfl hq4) mw_963 cy_X9_isWord i0 (by decide) rfl rfl rfl rfl (Nat.le_of_ble_eq_true rfl) (Nat.le_of_ble_eq_true rfl) ⟨Nat.le_refl _, Nat.le_refl _⟩ ?_
        refine ev_if_eq (tgt := 52) dc_X1_partAt_45 (by decide) h (fun h => ?_) (fun h => ?_)
        · refine ev_aload_n dc_X1_partAt_52 rfl ?_
          refine ev_ldcS (sid := 27) (tx := "left") dc_X1_partAt_53 (List.mem_of_getElem? (i := 27) rfl) ?_
          obtain ⟨q5, hq5, h⟩ := Option.bind_eq_some_iff.mp h
          refine ev_callV (av := [.ref (SK 27)]) (st := []) (st1 := [.int q5]) dc_X1_partAt_55 (tX9_isWord hW i0 rfl hq5) mw_963 cy_X9_isWord i0 (by decide) rfl rfl rfl rfl (Nat.le_of_ble_eq_true rfl) (Nat.le_of_ble_eq_true rfl) ⟨Nat.le_refl _, Nat.le_refl _⟩ ?_
          refine ev_if_eq (tgt := 65) dc_X1_partAt_58 (by decide) h (fun h => ?_) (fun h => ?_)
          · refine ev_aload_n dc_X1_partAt_65 rfl ?_
            refine ev_ldcS (sid := 28) (tx := "who") dc_X1_partAt_66 (List.mem_of_getElem? (i := 28) rfl) ?_
            obtain ⟨q6, hq6, h⟩ := Option.bind_eq_some_iff.mp h
            refine ev_callV (av := [.ref (SK 28)]) (st := []) (st1 := [.int q6]) dc_X1_partAt_68 (tX9_isWord hW i0 rfl hq6) mw_963 cy_X9_isWord i0 (by decide) rfl rfl rfl rfl (Nat.le_of_ble_eq_true rfl) (Nat.le_of_ble_eq_true rfl) ⟨Nat.le_refl _, Nat.le_refl _⟩ ?_
            refine ev_if_eq (tgt := 80) dc_X1_partAt_71 (by decide) h (fun h => ?_) (fun h => ?_)
            · refine ev_iconst (v := (-1)) dc_X1_partAt_80 (by decide) ?_
              cases h
              exact ev_iret dc_X1_partAt_81 rfl rfl rfl
            · refine ev_sipush (v := 1005) dc_X1_partAt_74 (by decide) ?_
              refine ev_goto (tgt := 81) dc_X1_partAt_77 (by decide) ?_
              cases h
              exact ev_iret dc_X1_partAt_81 rfl rfl rfl
          · refine ev_sipush (v := 1004) dc_X1_partAt_61 (by decide) ?_
            cases h
            exact ev_iret dc_X1_partAt_64 rfl rfl rfl
        · refine ev_sipush (v := 1003) dc_X1_partAt_48 (by decide) ?_
          cases h
          exact ev_iret dc_X1_partAt_51 rfl rfl rfl
      · refine ev_sipush (v := 1002) dc_X1_partAt_35 (by decide) ?_
        cases h
        exact ev_iret dc_X1_partAt_38 rfl rfl rfl
    · refine ev_sipush (v := 1001) dc_X1_partAt_22 (by decide) ?_
      cases h
      exact ev_iret dc_X1_partAt_25 rfl rfl rfl
  · refine ev_sipush (v := 1000) dc_X1_partAt_9 (by decide) ?_
    cases h
    exact ev_iret dc_X1_partAt_12 rfl rfl rfl
theorem dc_X1_pushWaiting_0 : Dc miX1_pushWaiting 0 (.aload_n 0) 1 1 := ⟨by decide +kernel, rfl⟩
theorem dc_X1_pushWaiting_1 : Dc miX1_pushWaiting 1 (.getfield 32) 3 4 := ⟨by decide +kernel, rfl⟩
theorem dc_X1_pushWaiting_4 : Dc miX1_pushWaiting 4 (.ifCond .lt 32) 3 7 := ⟨by decide +kernel, rfl⟩
theorem dc_X1_pushWaiting_7 : Dc miX1_pushWaiting 7 (.aload_n 0) 1 8 := ⟨by decide +kernel, rfl⟩
theorem dc_X1_pushWaiting_8 : Dc miX1_pushWaiting 8 (.getfield 32) 3 11 := ⟨by decide +kernel, rfl⟩
theorem dc_X1_pushWaiting_11 : Dc miX1_pushWaiting 11 (.bipush 20) 2 13 := ⟨by decide +kernel, rfl⟩
theorem dc_X1_pushWaiting_13 : Dc miX1_pushWaiting 13 (.if_icmp .ge 23) 3 16 := ⟨by decide +kernel, rfl⟩
theorem dc_X1_pushWaiting_16 : Dc miX1_pushWaiting 16 (.aload_n 0) 1 17 := ⟨by decide +kernel, rfl⟩
theorem dc_X1_pushWaiting_17 : Dc miX1_pushWaiting 17 (.getfield 35) 3 20 := ⟨by decide +kernel, rfl⟩
theorem dc_X1_pushWaiting_20 : Dc miX1_pushWaiting 20 (.aload_n 0) 1 21 := ⟨by decide +kernel, rfl⟩
theorem dc_X1_pushWaiting_21 : Dc miX1_pushWaiting 21 (.getfield 32) 3 24 := ⟨by decide +kernel, rfl⟩
theorem dc_X1_pushWaiting_24 : Dc miX1_pushWaiting 24 (.iload_n 1) 1 25 := ⟨by decide +kernel, rfl⟩
theorem dc_X1_pushWaiting_25 : Dc miX1_pushWaiting 25 (.iastore) 1 26 := ⟨by decide +kernel, rfl⟩
theorem dc_X1_pushWaiting_26 : Dc miX1_pushWaiting 26 (.aload_n 0) 1 27 := ⟨by decide +kernel, rfl⟩
theorem dc_X1_pushWaiting_27 : Dc miX1_pushWaiting 27 (.dup) 1 28 := ⟨by decide +kernel, rfl⟩
theorem dc_X1_pushWaiting_28 : Dc miX1_pushWaiting 28 (.getfield 32) 3 31 := ⟨by decide +kernel, rfl⟩
theorem dc_X1_pushWaiting_31 : Dc miX1_pushWaiting 31 (.iconst 1) 1 32 := ⟨by decide +kernel, rfl⟩
theorem dc_X1_pushWaiting_32 : Dc miX1_pushWaiting 32 (.iadd) 1 33 := ⟨by decide +kernel, rfl⟩
theorem dc_X1_pushWaiting_33 : Dc miX1_pushWaiting 33 (.putfield 32) 3 36 := ⟨by decide +kernel, rfl⟩
theorem dc_X1_pushWaiting_36 : Dc miX1_pushWaiting 36 (.return_) 1 37 := ⟨by decide +kernel, rfl⟩
def fX1_pushWaiting (N : Nat) (G : pG) (a0 : Nat) (a1 : Int32) (σ : pS) : Option (pS) := if (σ.1 a0 6) < 0 then (some σ) else (if (20 : Int32) ≤ (σ.1 a0 6) then (some σ) else (ck (inB (σ.1 a0 6) (pN G (pR G a0 7))) (some (putF (sA σ (pR G a0 7) (σ.1 a0 6) a1) a0 6 (((sA σ (pR G a0 7) (σ.1 a0 6) a1).1 a0 6) + (1 : Int32))))))
set_option maxRecDepth 100000 in
set_option maxHeartbeats 4000000 in
theorem tX1_pushWaiting {N : Nat} {G : pG} {SK : Nat → Nat} {a0 : Nat} {a1 : Int32} {σ : pS} {r : pS} (hW : WT G) (i0 : Is G a0 1) (h : fX1_pushWaiting N G a0 a1 σ = some r) : Dn miX1_pushWaiting yX1_pushWaiting 1 G SK [.ref a0, .int a1] σ none r := by
  unfold fX1_pushWaiting at h
  refine dn_of (lv := [some (.ref a0), some (.int a1)]) (by decide) rfl rfl (Nat.le_of_ble_eq_true rfl) rfl ?_
  refine ev_aload_n dc_X1_pushWaiting_0 rfl ?_
  refine ev_getI dc_X1_pushWaiting_1 fi_X1_32 rfl i0 ?_
  refine ev_if_lt (tgt := 36) dc_X1_pushWaiting_4 (by decide) h (fun h => ?_) (fun h => ?_)
  · cases h
    exact ev_vret dc_X1_pushWaiting_36 rfl rfl rfl
  · refine ev_aload_n dc_X1_pushWaiting_7 rfl ?_
    refine ev_getI dc_X1_pushWaiting_8 fi_X1_32 rfl i0 ?_
    refine ev_bipush (v := 20) dc_X1_pushWaiting_11 (by decide) ?_
    refine ev_icmp_ge (tgt := 36) dc_X1_pushWaiting_13 (by decide) h (fun h => ?_) (fun h => ?_)
    · cases h
      exact ev_vret dc_X1_pushWaiting_36 rfl rfl rfl
    · refine ev_aload_n dc_X1_pushWaiting_16 rfl ?_
      refine ev_getR dc_X1_pushWaiting_17 fi_X1_35 rfl i0 ?_
      refine ev_aload_n dc_X1_pushWaiting_20 rfl ?_
      refine ev_getI dc_X1_pushWaiting_21 fi_X1_32 rfl i0 ?_
      refine ev_iload_n dc_X1_pushWaiting_24 rfl ?_
      refine ev_iast dc_X1_pushWaiting_25 (wt hW i0 7 rfl rfl) h (fun h => ?_)
      refine ev_aload_n dc_X1_pushWaiting_26 rfl ?_
      refine ev_dup dc_X1_pushWaiting_27 rfl ?_
      refine ev_getI dc_X1_pushWaiting_28 fi_X1_32 rfl i0 ?_
      refine ev_iconst (v := 1) dc_X1_pushWaiting_31 (by decide) ?_
      refine ev_iadd dc_X1_pushWaiting_32 ?_
      refine ev_putI dc_X1_pushWaiting_33 fi_X1_32 rfl i0 ?_
      cases h
      exact ev_vret dc_X1_pushWaiting_36 rfl rfl rfl
theorem dc_X1_takesAtom_0 : Dc miX1_takesAtom 0 (.aload_n 1) 1 1 := ⟨by decide +kernel, rfl⟩
theorem dc_X1_takesAtom_1 : Dc miX1_takesAtom 1 (.ldc 102) 2 3 := ⟨by decide +kernel, rfl⟩
theorem dc_X1_takesAtom_3 : Dc miX1_takesAtom 3 (.invokevirtual 72) 3 6 := ⟨by decide +kernel, rfl⟩
theorem dc_X1_takesAtom_6 : Dc miX1_takesAtom 6 (.istore_n 3) 1 7 := ⟨by decide +kernel, rfl⟩
theorem dc_X1_takesAtom_7 : Dc miX1_takesAtom 7 (.iload_n 3) 1 8 := ⟨by decide +kernel, rfl⟩
theorem dc_X1_takesAtom_8 : Dc miX1_takesAtom 8 (.ifCond .ne 12) 3 11 := ⟨by decide +kernel, rfl⟩
theorem dc_X1_takesAtom_11 : Dc miX1_takesAtom 11 (.aload_n 1) 1 12 := ⟨by decide +kernel, rfl⟩
theorem dc_X1_takesAtom_12 : Dc miX1_takesAtom 12 (.bipush 40) 2 14 := ⟨by decide +kernel, rfl⟩
theorem dc_X1_takesAtom_14 : Dc miX1_takesAtom 14 (.invokevirtual 76) 3 17 := ⟨by decide +kernel, rfl⟩
theorem dc_X1_takesAtom_17 : Dc miX1_takesAtom 17 (.ifCond .eq 45) 3 20 := ⟨by decide +kernel, rfl⟩
theorem dc_X1_takesAtom_20 : Dc miX1_takesAtom 20 (.aload_n 0) 1 21 := ⟨by decide +kernel, rfl⟩
theorem dc_X1_takesAtom_21 : Dc miX1_takesAtom 21 (.iload_n 3) 1 22 := ⟨by decide +kernel, rfl⟩
theorem dc_X1_takesAtom_22 : Dc miX1_takesAtom 22 (.ifCond .eq 9) 3 25 := ⟨by decide +kernel, rfl⟩
theorem dc_X1_takesAtom_25 : Dc miX1_takesAtom 25 (.sipush 1011) 3 28 := ⟨by decide +kernel, rfl⟩
theorem dc_X1_takesAtom_28 : Dc miX1_takesAtom 28 (.goto 6) 3 31 := ⟨by decide +kernel, rfl⟩
theorem dc_X1_takesAtom_31 : Dc miX1_takesAtom 31 (.sipush 2000) 3 34 := ⟨by decide +kernel, rfl⟩
theorem dc_X1_takesAtom_34 : Dc miX1_takesAtom 34 (.invokevirtual 104) 3 37 := ⟨by decide +kernel, rfl⟩
theorem dc_X1_takesAtom_37 : Dc miX1_takesAtom 37 (.aload_n 0) 1 38 := ⟨by decide +kernel, rfl⟩
theorem dc_X1_takesAtom_38 : Dc miX1_takesAtom 38 (.dup) 1 39 := ⟨by decide +kernel, rfl⟩
theorem dc_X1_takesAtom_39 : Dc miX1_takesAtom 39 (.getfield 29) 3 42 := ⟨by decide +kernel, rfl⟩
theorem dc_X1_takesAtom_42 : Dc miX1_takesAtom 42 (.iconst 1) 1 43 := ⟨by decide +kernel, rfl⟩
theorem dc_X1_takesAtom_43 : Dc miX1_takesAtom 43 (.iadd) 1 44 := ⟨by decide +kernel, rfl⟩
theorem dc_X1_takesAtom_44 : Dc miX1_takesAtom 44 (.putfield 29) 3 47 := ⟨by decide +kernel, rfl⟩
theorem dc_X1_takesAtom_47 : Dc miX1_takesAtom 47 (.aload_n 0) 1 48 := ⟨by decide +kernel, rfl⟩
theorem dc_X1_takesAtom_48 : Dc miX1_takesAtom 48 (.getfield 29) 3 51 := ⟨by decide +kernel, rfl⟩
theorem dc_X1_takesAtom_51 : Dc miX1_takesAtom 51 (.bipush 6) 2 53 := ⟨by decide +kernel, rfl⟩
theorem dc_X1_takesAtom_53 : Dc miX1_takesAtom 53 (.if_icmp .gt 7) 3 56 := ⟨by decide +kernel, rfl⟩
theorem dc_X1_takesAtom_56 : Dc miX1_takesAtom 56 (.iconst 1) 1 57 := ⟨by decide +kernel, rfl⟩
theorem dc_X1_takesAtom_57 : Dc miX1_takesAtom 57 (.goto 4) 3 60 := ⟨by decide +kernel, rfl⟩
theorem dc_X1_takesAtom_60 : Dc miX1_takesAtom 60 (.iconst 0) 1 61 := ⟨by decide +kernel, rfl⟩
theorem dc_X1_takesAtom_61 : Dc miX1_takesAtom 61 (.ireturn) 1 62 := ⟨by decide +kernel, rfl⟩
theorem dc_X1_takesAtom_62 : Dc miX1_takesAtom 62 (.aload_n 1) 1 63 := ⟨by decide +kernel, rfl⟩
theorem dc_X1_takesAtom_63 : Dc miX1_takesAtom 63 (.ldc 108) 2 65 := ⟨by decide +kernel, rfl⟩
theorem dc_X1_takesAtom_65 : Dc miX1_takesAtom 65 (.invokevirtual 72) 3 68 := ⟨by decide +kernel, rfl⟩
theorem dc_X1_takesAtom_68 : Dc miX1_takesAtom 68 (.istore 4) 2 70 := ⟨by decide +kernel, rfl⟩
theorem dc_X1_takesAtom_70 : Dc miX1_takesAtom 70 (.iload 4) 2 72 := ⟨by decide +kernel, rfl⟩
theorem dc_X1_takesAtom_72 : Dc miX1_takesAtom 72 (.ifCond .ne 12) 3 75 := ⟨by decide +kernel, rfl⟩
theorem dc_X1_takesAtom_75 : Dc miX1_takesAtom 75 (.aload_n 1) 1 76 := ⟨by decide +kernel, rfl⟩
theorem dc_X1_takesAtom_76 : Dc miX1_takesAtom 76 (.ldc 110) 2 78 := ⟨by decide +kernel, rfl⟩
theorem dc_X1_takesAtom_78 : Dc miX1_takesAtom 78 (.invokevirtual 72) 3 81 := ⟨by decide +kernel, rfl⟩
theorem dc_X1_takesAtom_81 : Dc miX1_takesAtom 81 (.ifCond .eq 28) 3 84 := ⟨by decide +kernel, rfl⟩
theorem dc_X1_takesAtom_84 : Dc miX1_takesAtom 84 (.aload_n 2) 1 85 := ⟨by decide +kernel, rfl⟩
theorem dc_X1_takesAtom_85 : Dc miX1_takesAtom 85 (.iload 4) 2 87 := ⟨by decide +kernel, rfl⟩
theorem dc_X1_takesAtom_87 : Dc miX1_takesAtom 87 (.ifCond .eq 9) 3 90 := ⟨by decide +kernel, rfl⟩
theorem dc_X1_takesAtom_90 : Dc miX1_takesAtom 90 (.sipush 1009) 3 93 := ⟨by decide +kernel, rfl⟩
theorem dc_X1_takesAtom_93 : Dc miX1_takesAtom 93 (.goto 6) 3 96 := ⟨by decide +kernel, rfl⟩
theorem dc_X1_takesAtom_96 : Dc miX1_takesAtom 96 (.sipush 1010) 3 99 := ⟨by decide +kernel, rfl⟩
theorem dc_X1_takesAtom_99 : Dc miX1_takesAtom 99 (.invokevirtual 112) 3 102 := ⟨by decide +kernel, rfl⟩
theorem dc_X1_takesAtom_102 : Dc miX1_takesAtom 102 (.aload_n 0) 1 103 := ⟨by decide +kernel, rfl⟩
theorem dc_X1_takesAtom_103 : Dc miX1_takesAtom 103 (.aload_n 2) 1 104 := ⟨by decide +kernel, rfl⟩
theorem dc_X1_takesAtom_104 : Dc miX1_takesAtom 104 (.invokevirtual 89) 3 107 := ⟨by decide +kernel, rfl⟩
theorem dc_X1_takesAtom_107 : Dc miX1_takesAtom 107 (.iconst 1) 1 108 := ⟨by decide +kernel, rfl⟩
theorem dc_X1_takesAtom_108 : Dc miX1_takesAtom 108 (.ireturn) 1 109 := ⟨by decide +kernel, rfl⟩
theorem dc_X1_takesAtom_109 : Dc miX1_takesAtom 109 (.iconst 0) 1 110 := ⟨by decide +kernel, rfl⟩
theorem dc_X1_takesAtom_110 : Dc miX1_takesAtom 110 (.ireturn) 1 111 := ⟨by decide +kernel, rfl⟩
def fX1_takesAtom_b34 (N : Nat) (G : pG) (a0 : Nat) (y1 : Int32) (σ : pS) : Option (Int32 × pS) := (fX1_pushWaiting N G a0 y1 σ).bind (fun q1 => if (6 : Int32) < ((putF q1 a0 5 ((q1.1 a0 5) + (1 : Int32))).1 a0 5) then (some ((0 : Int32), putF q1 a0 5 ((q1.1 a0 5) + (1 : Int32)))) else (some ((1 : Int32), putF q1 a0 5 ((q1.1 a0 5) + (1 : Int32)))))
set_option maxRecDepth 100000 in
set_option maxHeartbeats 4000000 in
theorem tX1_takesAtom_b34 {N : Nat} {G : pG} {SK : Nat → Nat} {a0 : Nat} {y1 : Int32} {σ : pS} {r : Int32 × pS} (hW : WT G) (i0 : Is G a0 1) (h : fX1_takesAtom_b34 N G a0 y1 σ = some r) : Ev miX1_takesAtom (10, 0, 0) G (Zp G (some (.int r.1)) r.2) SK (0, 0) 34 [some (.ref a0), none, none, none, none] [.int y1, .ref a0] σ := by
  unfold fX1_takesAtom_b34 at h
  obtain ⟨q1, hq1, h⟩ := Option.bind_eq_some_iff.mp h
  refine ev_callV (av := [.int y1]) (st := []) (st1 := []) dc_X1_takesAtom_34 (tX1_pushWaiting hW i0 hq1) mw_998 cy_X1_pushWaiting i0 (by decide) rfl rfl rfl rfl (Nat.le_of_ble_eq_true rfl) (Nat.le_of_ble_eq_true rfl) ⟨Nat.le_refl _, Nat.le_refl _⟩ ?_
  refine ev_aload_n dc_X1_takesAtom_37 rfl ?_
  refine ev_dup dc_X1_takesAtom_38 rfl ?_
  refine ev_getI dc_X1_takesAtom_39 fi_X1_29 rfl i0 ?_
  refine ev_iconst (v := 1) dc_X1_takesAtom_42 (by decide) ?_
  refine ev_iadd dc_X1_takesAtom_43 ?_
  refine ev_putI dc_X1_takesAtom_44 fi_X1_29 rfl i0 ?_
  refine ev_aload_n dc_X1_takesAtom_47 rfl ?_
  refine ev_getI dc_X1_takesAtom_48 fi_X1_29 rfl i0 ?_
  refine ev_bipush (v := 6) dc_X1_takesAtom_51 (by decide) ?_
  refine ev_icmp_gt (tgt := 60) dc_X1_takesAtom_53 (by decide) h (fun h => ?_) (fun h => ?_)
  · refine ev_iconst (v := 0) dc_X1_takesAtom_60 (by decide) ?_
    cases h
    exact ev_zretc dc_X1_takesAtom_61 rfl rfl rfl rfl
  · refine ev_iconst (v := 1) dc_X1_takesAtom_56 (by decide) ?_
    refine ev_goto (tgt := 61) dc_X1_takesAtom_57 (by decide) ?_
    cases h
    exact ev_zretc dc_X1_takesAtom_61 rfl rfl rfl rfl
def fX1_takesAtom_b20 (N : Nat) (G : pG) (a0 : Nat) (x3 : Int32) (σ : pS) : Option (Int32 × pS) := if x3 = 0 then (fX1_takesAtom_b34 N G a0 (2000 : Int32) σ) else (fX1_takesAtom_b34 N G a0 (1011 : Int32) σ)
set_option maxRecDepth 100000 in
set_option maxHeartbeats 4000000 in
theorem tX1_takesAtom_b20 {N : Nat} {G : pG} {SK : Nat → Nat} {a0 : Nat} {x3 : Int32} {σ : pS} {r : Int32 × pS} (hW : WT G) (i0 : Is G a0 1) (h : fX1_takesAtom_b20 N G a0 x3 σ = some r) : Ev miX1_takesAtom (10, 0, 0) G (Zp G (some (.int r.1)) r.2) SK (0, 0) 20 [some (.ref a0), none, none, some (.int x3), none] [] σ := by
  unfold fX1_takesAtom_b20 at h
  refine ev_aload_n dc_X1_takesAtom_20 rfl ?_
  refine ev_iload_n dc_X1_takesAtom_21 rfl ?_
  refine ev_if_eq (tgt := 31) dc_X1_takesAtom_22 (by decide) h (fun h => ?_) (fun h => ?_)
  · refine ev_sipush (v := 2000) dc_X1_takesAtom_31 (by decide) ?_
    exact ev_sub (tX1_takesAtom_b34 hW i0 h) (And.intro rfl trivial)
  · refine ev_sipush (v := 1011) dc_X1_takesAtom_25 (by decide) ?_
    refine ev_goto (tgt := 34) dc_X1_takesAtom_28 (by decide) ?_
    exact ev_sub (tX1_takesAtom_b34 hW i0 h) (And.intro rfl trivial)
def fX1_takesAtom_b99 (N : Nat) (G : pG) (a0 : Nat) (a2 : Nat) (y1 : Int32) (σ : pS) : Option (Int32 × pS) := (fX0_addStep N G a2 y1 σ).bind (fun q2 => (fX1_endAtom N G a0 a2 q2).bind (fun q3 => some ((1 : Int32), q3)))
set_option maxRecDepth 100000 in
set_option maxHeartbeats 4000000 in
theorem tX1_takesAtom_b99 {N : Nat} {G : pG} {SK : Nat → Nat} {a0 : Nat} {a2 : Nat} {y1 : Int32} {σ : pS} {r : Int32 × pS} (hW : WT G) (i0 : Is G a0 1) (i2 : Is G a2 0) (h : fX1_takesAtom_b99 N G a0 a2 y1 σ = some r) : Ev miX1_takesAtom (10, 0, 0) G (Zp G (some (.int r.1)) r.2) SK (0, 0) 99 [some (.ref a0), none, some (.ref a2), none, none] [.int y1, .ref a2] σ := by
  unfold fX1_takesAtom_b99 at h
  obtain ⟨q2, hq2, h⟩ := Option.bind_eq_some_iff.mp h
  refine ev_callV (av := [.int y1]) (st := []) (st1 := []) dc_X1_takesAtom_99 (tX0_addStep hW i2 hq2) mw_977 cy_X0_addStep i2 (by decide) rfl rfl rfl rfl (Nat.le_of_ble_eq_true rfl) (Nat.le_of_ble_eq_true rfl) ⟨Nat.le_refl _, Nat.le_refl _⟩ ?_
  refine ev_aload_n dc_X1_takesAtom_102 rfl ?_
  refine ev_aload_n dc_X1_takesAtom_103 rfl ?_
  obtain ⟨q3, hq3, h⟩ := Option.bind_eq_some_iff.mp h
  refine ev_callV (av := [.ref a2]) (st := []) (st1 := []) dc_X1_takesAtom_104 (tX1_endAtom hW i0 i2 hq3) mw_973 cy_X1_endAtom i0 (by decide) rfl rfl rfl rfl (Nat.le_of_ble_eq_true rfl) (Nat.le_of_ble_eq_true rfl) ⟨Nat.le_refl _, Nat.le_refl _⟩ ?_
  refine ev_iconst (v := 1) dc_X1_takesAtom_107 (by decide) ?_
  cases h
  exact ev_zretc dc_X1_takesAtom_108 rfl rfl rfl rfl
def fX1_takesAtom_b84 (N : Nat) (G : pG) (a0 : Nat) (a2 : Nat) (x4 : Int32) (σ : pS) : Option (Int32 × pS) := if x4 = 0 then (fX1_takesAtom_b99 N G a0 a2 (1010 : Int32) σ) else (fX1_takesAtom_b99 N G a0 a2 (1009 : Int32) σ)
set_option maxRecDepth 100000 in
set_option maxHeartbeats 4000000 in
theorem tX1_takesAtom_b84 {N : Nat} {G : pG} {SK : Nat → Nat} {a0 : Nat} {a2 : Nat} {x4 : Int32} {σ : pS} {r : Int32 × pS} (hW : WT G) (i0 : Is G a0 1) (i2 : Is G a2 0) (h : fX1_takesAtom_b84 N G a0 a2 x4 σ = some r) : Ev miX1_takesAtom (10, 0, 0) G (Zp G (some (.int r.1)) r.2) SK (0, 0) 84 [some (.ref a0), none, some (.ref a2), none, some (.int x4)] [] σ := by
  unfold fX1_takesAtom_b84 at h
  refine ev_aload_n dc_X1_takesAtom_84 rfl ?_
  refine ev_iload dc_X1_takesAtom_85 rfl ?_
  refine ev_if_eq (tgt := 96) dc_X1_takesAtom_87 (by decide) h (fun h => ?_) (fun h => ?_)
  · refine ev_sipush (v := 1010) dc_X1_takesAtom_96 (by decide) ?_
    exact ev_sub (tX1_takesAtom_b99 hW i0 i2 h) (And.intro rfl (And.intro rfl trivial))
  · refine ev_sipush (v := 1009) dc_X1_takesAtom_90 (by decide) ?_
    refine ev_goto (tgt := 99) dc_X1_takesAtom_93 (by decide) ?_
    exact ev_sub (tX1_takesAtom_b99 hW i0 i2 h) (And.intro rfl (And.intro rfl trivial))
def fX1_takesAtom (N : Nat) (G : pG) (a0 : Nat) (a1 : Nat) (a2 : Nat) (σ : pS) : Option (Int32 × pS) := (fX9_isWord N G a1 20 σ).bind (fun q4 => if q4 = 0 then ((fX9_isSign N G a1 (40 : Int32) σ).bind (fun q5 => if q5 = 0 then ((fX9_isWord N G a1 21 σ).bind (fun q6 => if q6 = 0 then ((fX9_isWord N G a1 22 σ).bind (fun q7 => if q7 = 0 then (some ((0 : Int32), σ)) else (fX1_takesAtom_b84 N G a0 a2 q6 σ))) else (fX1_takesAtom_b84 N G a0 a2 q6 σ))) else (fX1_takesAtom_b20 N G a0 q4 σ))) else (fX1_takesAtom_b20 N G a0 q4 σ))
set_option maxRecDepth 100000 in
set_option maxHeartbeats 4000000 in
theorem tX1_takesAtom {N : Nat} {G : pG} {SK : Nat → Nat} {a0 : Nat} {a1 : Nat} {a2 : Nat} {σ : pS} {r : Int32 × pS} (hW : WT G) (i0 : Is G a0 1) (i1 : Is G a1 8) (i2 : Is G a2 0) (h : fX1_takesAtom N G a0 a1 a2 σ = some r) : Dn miX1_takesAtom yX1_takesAtom 10 G SK [.ref a0, .ref a1, .ref a2] σ (some (.int r.1)) r.2 := by
  unfold fX1_takesAtom at h
  refine dn_of (lv := [some (.ref a0), some (.ref a1), some (.ref a2), none, none]) (by decide) rfl rfl (Nat.le_of_ble_eq_true rfl) rfl ?_
  refine ev_aload_n dc_X1_takesAtom_0 rfl ?_
  refine ev_ldcS (sid := 20) (tx := "not") dc_X1_takesAtom_1 (List.mem_of_getElem? (i := 20) rfl) ?_
  obtain ⟨q4, hq4, h⟩ := Option.bind_eq_some_iff.mp h
  refine ev_callV (av := [.ref (SK 20)]) (st := []) (st1 := [.int q4]) dc_X1_takesAtom_3 (tX9_isWord hW i1 rfl hq4) mw_963 cy_X9_isWord i1 (by decide) rfl rfl rfl rfl (Nat.le_of_ble_eq_true rfl) (Nat.le_of_ble_eq_true rfl) ⟨Nat.le_refl _, Nat.le_refl _⟩ ?_
  refine ev_istore_n (lv' := [some (.ref a0), some (.ref a1), some (.ref a2), some (.int q4), none]) dc_X1_takesAtom_6 rfl (by decide) rfl ?_
  refine ev_iload_n dc_X1_takesAtom_7 rfl ?_
  refine ev_if_ne (tgt := 20) dc_X1_takesAtom_8 (by decide) h (fun h => ?_) (fun h => ?_)
  · refine ev_aload_n dc_X1_takesAtom_11 rfl ?_
    refine ev_bipush (v := 40) dc_X1_takesAtom_12 (by decide) ?_
    obtain ⟨q5, hq5, h⟩ := Option.bind_eq_some_iff.mp h
    refine ev_callV (av := [.int (40 : Int32)]) (st := []) (st1 := [.int q5]) dc_X1_takesAtom_14 (tX9_isSign hW i1 hq5) mw_968 cy_X9_isSign i1 (by decide) rfl rfl rfl rfl (Nat.le_of_ble_eq_true rfl) (Nat.le_of_ble_eq_true rfl) ⟨Nat.le_refl _, Nat.le_refl _⟩ ?_
    refine ev_if_eq (tgt := 62) dc_X1_takesAtom_17 (by decide) h (fun h => ?_) (fun h => ?_)
    · refine ev_aload_n dc_X1_takesAtom_62 rfl ?_
      refine ev_ldcS (sid := 21) (tx := "true") dc_X1_takesAtom_63 (List.mem_of_getElem? (i := 21) rfl) ?_
      obtain ⟨q6, hq6, h⟩ := Option.bind_eq_some_iff.mp h
      refine ev_callV (av := [.ref (SK 21)]) (st := []) (st1 := [.int q6]) dc_X1_takesAtom_65 (tX9_isWord hW i1 rfl hq6) mw_963 cy_X9_isWord i1 (by decide) rfl rfl rfl rfl (Nat.le_of_ble_eq_true rfl) (Nat.le_of_ble_eq_true rfl) ⟨Nat.le_refl _, Nat.le_refl _⟩ ?_
      refine ev_istore (lv' := [some (.ref a0), some (.ref a1), some (.ref a2), some (.int q4), some (.int q6)]) dc_X1_takesAtom_68 rfl (by decide) rfl ?_
      refine ev_iload dc_X1_takesAtom_70 rfl ?_
      refine ev_if_ne (tgt := 84) dc_X1_takesAtom_72 (by decide) h (fun h => ?_) (fun h => ?_)
      · refine ev_aload_n dc_X1_takesAtom_75 rfl ?_
        refine ev_ldcS (sid := 22) (tx := "sure") dc_X1_takesAtom_76 (List.mem_of_getElem? (i := 22) rfl) ?_
        obtain ⟨q7, hq7, h⟩ := Option.bind_eq_some_iff.mp h
        refine ev_callV (av := [.ref (SK 22)]) (st := []) (st1 := [.int q7]) dc_X1_takesAtom_78 (tX9_isWord hW i1 rfl hq7) mw_963 cy_X9_isWord i1 (by decide) rfl rfl rfl rfl (Nat.le_of_ble_eq_true rfl) (Nat.le_of_ble_eq_true rfl) ⟨Nat.le_refl _, Nat.le_refl _⟩ ?_
        refine ev_if_eq (tgt := 109) dc_X1_takesAtom_81 (by decide) h (fun h => ?_) (fun h => ?_)
        · refine ev_iconst (v := 0) dc_X1_takesAtom_109 (by decide) ?_
          cases h
          exact ev_zretc dc_X1_takesAtom_110 rfl rfl rfl rfl
        · exact ev_sub (tX1_takesAtom_b84 hW i0 i2 h) (And.intro rfl (And.intro rfl (And.intro rfl trivial)))
      · exact ev_sub (tX1_takesAtom_b84 hW i0 i2 h) (And.intro rfl (And.intro rfl (And.intro rfl trivial)))
    · exact ev_sub (tX1_takesAtom_b20 hW i0 h) (And.intro rfl (And.intro rfl trivial))
  · exact ev_sub (tX1_takesAtom_b20 hW i0 h) (And.intro rfl (And.intro rfl trivial))
theorem dc_X1_takesComparison_0 : Dc miX1_takesComparison 0 (.aload_n 1) 1 1 := ⟨by decide +kernel, rfl⟩
theorem dc_X1_takesComparison_1 : Dc miX1_takesComparison 1 (.bipush 43) 2 3 := ⟨by decide +kernel, rfl⟩
theorem dc_X1_takesComparison_3 : Dc miX1_takesComparison 3 (.invokevirtual 76) 3 6 := ⟨by decide +kernel, rfl⟩
theorem dc_X1_takesComparison_6 : Dc miX1_takesComparison 6 (.ifCond .eq 10) 3 9 := ⟨by decide +kernel, rfl⟩
theorem dc_X1_takesComparison_9 : Dc miX1_takesComparison 9 (.aload_n 0) 1 10 := ⟨by decide +kernel, rfl⟩
theorem dc_X1_takesComparison_10 : Dc miX1_takesComparison 10 (.iconst 4) 1 11 := ⟨by decide +kernel, rfl⟩
theorem dc_X1_takesComparison_11 : Dc miX1_takesComparison 11 (.putfield 11) 3 14 := ⟨by decide +kernel, rfl⟩
theorem dc_X1_takesComparison_14 : Dc miX1_takesComparison 14 (.iconst 1) 1 15 := ⟨by decide +kernel, rfl⟩
theorem dc_X1_takesComparison_15 : Dc miX1_takesComparison 15 (.ireturn) 1 16 := ⟨by decide +kernel, rfl⟩
theorem dc_X1_takesComparison_16 : Dc miX1_takesComparison 16 (.aload_n 1) 1 17 := ⟨by decide +kernel, rfl⟩
theorem dc_X1_takesComparison_17 : Dc miX1_takesComparison 17 (.bipush 60) 2 19 := ⟨by decide +kernel, rfl⟩
theorem dc_X1_takesComparison_19 : Dc miX1_takesComparison 19 (.invokevirtual 76) 3 22 := ⟨by decide +kernel, rfl⟩
theorem dc_X1_takesComparison_22 : Dc miX1_takesComparison 22 (.istore_n 3) 1 23 := ⟨by decide +kernel, rfl⟩
theorem dc_X1_takesComparison_23 : Dc miX1_takesComparison 23 (.aload_n 0) 1 24 := ⟨by decide +kernel, rfl⟩
theorem dc_X1_takesComparison_24 : Dc miX1_takesComparison 24 (.iload_n 3) 1 25 := ⟨by decide +kernel, rfl⟩
theorem dc_X1_takesComparison_25 : Dc miX1_takesComparison 25 (.ifCond .eq 9) 3 28 := ⟨by decide +kernel, rfl⟩
theorem dc_X1_takesComparison_28 : Dc miX1_takesComparison 28 (.sipush 1007) 3 31 := ⟨by decide +kernel, rfl⟩
theorem dc_X1_takesComparison_31 : Dc miX1_takesComparison 31 (.goto 6) 3 34 := ⟨by decide +kernel, rfl⟩
theorem dc_X1_takesComparison_34 : Dc miX1_takesComparison 34 (.sipush 1008) 3 37 := ⟨by decide +kernel, rfl⟩
theorem dc_X1_takesComparison_37 : Dc miX1_takesComparison 37 (.putfield 26) 3 40 := ⟨by decide +kernel, rfl⟩
theorem dc_X1_takesComparison_40 : Dc miX1_takesComparison 40 (.aload_n 2) 1 41 := ⟨by decide +kernel, rfl⟩
theorem dc_X1_takesComparison_41 : Dc miX1_takesComparison 41 (.sipush 1006) 3 44 := ⟨by decide +kernel, rfl⟩
theorem dc_X1_takesComparison_44 : Dc miX1_takesComparison 44 (.invokevirtual 112) 3 47 := ⟨by decide +kernel, rfl⟩
theorem dc_X1_takesComparison_47 : Dc miX1_takesComparison 47 (.aload_n 0) 1 48 := ⟨by decide +kernel, rfl⟩
theorem dc_X1_takesComparison_48 : Dc miX1_takesComparison 48 (.bipush 6) 2 50 := ⟨by decide +kernel, rfl⟩
theorem dc_X1_takesComparison_50 : Dc miX1_takesComparison 50 (.putfield 11) 3 53 := ⟨by decide +kernel, rfl⟩
theorem dc_X1_takesComparison_53 : Dc miX1_takesComparison 53 (.iload_n 3) 1 54 := ⟨by decide +kernel, rfl⟩
theorem dc_X1_takesComparison_54 : Dc miX1_takesComparison 54 (.ifCond .ne 12) 3 57 := ⟨by decide +kernel, rfl⟩
theorem dc_X1_takesComparison_57 : Dc miX1_takesComparison 57 (.aload_n 1) 1 58 := ⟨by decide +kernel, rfl⟩
theorem dc_X1_takesComparison_58 : Dc miX1_takesComparison 58 (.bipush 62) 2 60 := ⟨by decide +kernel, rfl⟩
theorem dc_X1_takesComparison_60 : Dc miX1_takesComparison 60 (.invokevirtual 76) 3 63 := ⟨by decide +kernel, rfl⟩
theorem dc_X1_takesComparison_63 : Dc miX1_takesComparison 63 (.ifCond .eq 7) 3 66 := ⟨by decide +kernel, rfl⟩
theorem dc_X1_takesComparison_66 : Dc miX1_takesComparison 66 (.iconst 1) 1 67 := ⟨by decide +kernel, rfl⟩
theorem dc_X1_takesComparison_67 : Dc miX1_takesComparison 67 (.goto 4) 3 70 := ⟨by decide +kernel, rfl⟩
theorem dc_X1_takesComparison_70 : Dc miX1_takesComparison 70 (.iconst 0) 1 71 := ⟨by decide +kernel, rfl⟩
theorem dc_X1_takesComparison_71 : Dc miX1_takesComparison 71 (.ireturn) 1 72 := ⟨by decide +kernel, rfl⟩
def fX1_takesComparison_b66 (N : Nat) (G : pG) (σ : pS) : Option (Int32 × pS) := some ((1 : Int32), σ)
set_option maxRecDepth 100000 in
set_option maxHeartbeats 4000000 in
theorem tX1_takesComparison_b66 {N : Nat} {G : pG} {SK : Nat → Nat} {σ : pS} {r : Int32 × pS} (hW : WT G) (h : fX1_takesComparison_b66 N G σ = some r) : Ev miX1_takesComparison (3, 0, 0) G (Zp G (some (.int r.1)) r.2) SK (0, 0) 66 [none, none, none, none] [] σ := by
  unfold fX1_takesComparison_b66 at h
  refine ev_iconst (v := 1) dc_X1_takesComparison_66 (by decide) ?_
  refine ev_goto (tgt := 71) dc_X1_takesComparison_67 (by decide) ?_
  cases h
  exact ev_zretc dc_X1_takesComparison_71 rfl rfl rfl rfl
def fX1_takesComparison_b37 (N : Nat) (G : pG) (a0 : Nat) (a1 : Nat) (a2 : Nat) (x3 : Int32) (y1 : Int32) (σ : pS) : Option (Int32 × pS) := (fX0_addStep N G a2 (1006 : Int32) (putF σ a0 4 y1)).bind (fun q1 => if x3 = 0 then ((fX9_isSign N G a1 (62 : Int32) (putF q1 a0 0 (6 : Int32))).bind (fun q2 => if q2 = 0 then (some ((0 : Int32), putF q1 a0 0 (6 : Int32))) else (fX1_takesComparison_b66 N G (putF q1 a0 0 (6 : Int32))))) else (fX1_takesComparison_b66 N G (putF q1 a0 0 (6 : Int32))))
set_option maxRecDepth 100000 in
set_option maxHeartbeats 4000000 in
theorem tX1_takesComparison_b37 {N : Nat} {G : pG} {SK : Nat → Nat} {a0 : Nat} {a1 : Nat} {a2 : Nat} {x3 : Int32} {y1 : Int32} {σ : pS} {r : Int32 × pS} (hW : WT G) (i0 : Is G a0 1) (i1 : Is G a1 8) (i2 : Is G a2 0) (h : fX1_takesComparison_b37 N G a0 a1 a2 x3 y1 σ = some r) : Ev miX1_takesComparison (3, 0, 0) G (Zp G (some (.int r.1)) r.2) SK (0, 0) 37 [some (.ref a0), some (.ref a1), some (.ref a2), some (.int x3)] [.int y1, .ref a0] σ := by
  unfold fX1_takesComparison_b37 at h
  refine ev_putI dc_X1_takesComparison_37 fi_X1_26 rfl i0 ?_
  refine ev_aload_n dc_X1_takesComparison_40 rfl ?_
  refine ev_sipush (v := 1006) dc_X1_takesComparison_41 (by decide) ?_
  obtain ⟨q1, hq1, h⟩ := Option.bind_eq_some_iff.mp h
  refine ev_callV (av := [.int (1006 : Int32)]) (st := []) (st1 := []) dc_X1_takesComparison_44 (tX0_addStep hW i2 hq1) mw_977 cy_X0_addStep i2 (by decide) rfl rfl rfl rfl (Nat.le_of_ble_eq_true rfl) (Nat.le_of_ble_eq_true rfl) ⟨Nat.le_refl _, Nat.le_refl _⟩ ?_
  refine ev_aload_n dc_X1_takesComparison_47 rfl ?_
  refine ev_bipush (v := 6) dc_X1_takesComparison_48 (by decide) ?_
  refine ev_putI dc_X1_takesComparison_50 fi_X1_11 rfl i0 ?_
  refine ev_iload_n dc_X1_takesComparison_53 rfl ?_
  refine ev_if_ne (tgt := 66) dc_X1_takesComparison_54 (by decide) h (fun h => ?_) (fun h => ?_)
  · refine ev_aload_n dc_X1_takesComparison_57 rfl ?_
    refine ev_bipush (v := 62) dc_X1_takesComparison_58 (by decide) ?_
    obtain ⟨q2, hq2, h⟩ := Option.bind_eq_some_iff.mp h
    refine ev_callV (av := [.int (62 : Int32)]) (st := []) (st1 := [.int q2]) dc_X1_takesComparison_60 (tX9_isSign hW i1 hq2) mw_968 cy_X9_isSign i1 (by decide) rfl rfl rfl rfl (Nat.le_of_ble_eq_true rfl) (Nat.le_of_ble_eq_true rfl) ⟨Nat.le_refl _, Nat.le_refl _⟩ ?_
    refine ev_if_eq (tgt := 70) dc_X1_takesComparison_63 (by decide) h (fun h => ?_) (fun h => ?_)
    · refine ev_iconst (v := 0) dc_X1_takesComparison_70 (by decide) ?_
      cases h
      exact ev_zretc dc_X1_takesComparison_71 rfl rfl rfl rfl
    · exact ev_sub (tX1_takesComparison_b66 hW h) trivial
  · exact ev_sub (tX1_takesComparison_b66 hW h) trivial
def fX1_takesComparison (N : Nat) (G : pG) (a0 : Nat) (a1 : Nat) (a2 : Nat) (σ : pS) : Option (Int32 × pS) := (fX9_isSign N G a1 (43 : Int32) σ).bind (fun q3 => if q3 = 0 then ((fX9_isSign N G a1 (60 : Int32) σ).bind (fun q4 => if q4 = 0 then (fX1_takesComparison_b37 N G a0 a1 a2 q4 (1008 : Int32) σ) else (fX1_takesComparison_b37 N G a0 a1 a2 q4 (1007 : Int32) σ))) else (some ((1 : Int32), putF σ a0 0 (4 : Int32))))
set_option maxRecDepth 100000 in
set_option maxHeartbeats 4000000 in
theorem tX1_takesComparison {N : Nat} {G : pG} {SK : Nat → Nat} {a0 : Nat} {a1 : Nat} {a2 : Nat} {σ : pS} {r : Int32 × pS} (hW : WT G) (i0 : Is G a0 1) (i1 : Is G a1 8) (i2 : Is G a2 0) (h : fX1_takesComparison N G a0 a1 a2 σ = some r) : Dn miX1_takesComparison yX1_takesComparison 3 G SK [.ref a0, .ref a1, .ref a2] σ (some (.int r.1)) r.2 := by
  unfold fX1_takesComparison at h
  refine dn_of (lv := [some (.ref a0), some (.ref a1), some (.ref a2), none]) (by decide) rfl rfl (Nat.le_of_ble_eq_true rfl) rfl ?_
  refine ev_aload_n dc_X1_takesComparison_0 rfl ?_
  refine ev_bipush (v := 43) dc_X1_takesComparison_1 (by decide) ?_
  obtain ⟨q3, hq3, h⟩ := Option.bind_eq_some_iff.mp h
  refine ev_callV (av := [.int (43 : Int32)]) (st := []) (st1 := [.int q3]) dc_X1_takesComparison_3 (tX9_isSign hW i1 hq3) mw_968 cy_X9_isSign i1 (by decide) rfl rfl rfl rfl (Nat.le_of_ble_eq_true rfl) (Nat.le_of_ble_eq_true rfl) ⟨Nat.le_refl _, Nat.le_refl _⟩ ?_
  refine ev_if_eq (tgt := 16) dc_X1_takesComparison_6 (by decide) h (fun h => ?_) (fun h => ?_)
  · refine ev_aload_n dc_X1_takesComparison_16 rfl ?_
    refine ev_bipush (v := 60) dc_X1_takesComparison_17 (by decide) ?_
    obtain ⟨q4, hq4, h⟩ := Option.bind_eq_some_iff.mp h
    refine ev_callV (av := [.int (60 : Int32)]) (st := []) (st1 := [.int q4]) dc_X1_takesComparison_19 (tX9_isSign hW i1 hq4) mw_968 cy_X9_isSign i1 (by decide) rfl rfl rfl rfl (Nat.le_of_ble_eq_true rfl) (Nat.le_of_ble_eq_true rfl) ⟨Nat.le_refl _, Nat.le_refl _⟩ ?_
    refine ev_istore_n (lv' := [some (.ref a0), some (.ref a1), some (.ref a2), some (.int q4)]) dc_X1_takesComparison_22 rfl (by decide) rfl ?_
    refine ev_aload_n dc_X1_takesComparison_23 rfl ?_
    refine ev_iload_n dc_X1_takesComparison_24 rfl ?_
    refine ev_if_eq (tgt := 34) dc_X1_takesComparison_25 (by decide) h (fun h => ?_) (fun h => ?_)
    · refine ev_sipush (v := 1008) dc_X1_takesComparison_34 (by decide) ?_
      exact ev_sub (tX1_takesComparison_b37 hW i0 i1 i2 h) (And.intro rfl (And.intro rfl (And.intro rfl (And.intro rfl trivial))))
    · refine ev_sipush (v := 1007) dc_X1_takesComparison_28 (by decide) ?_
      refine ev_goto (tgt := 37) dc_X1_takesComparison_31 (by decide) ?_
      exact ev_sub (tX1_takesComparison_b37 hW i0 i1 i2 h) (And.intro rfl (And.intro rfl (And.intro rfl (And.intro rfl trivial))))
  · refine ev_aload_n dc_X1_takesComparison_9 rfl ?_
    refine ev_iconst (v := 4) dc_X1_takesComparison_10 (by decide) ?_
    refine ev_putI dc_X1_takesComparison_11 fi_X1_11 rfl i0 ?_
    refine ev_iconst (v := 1) dc_X1_takesComparison_14 (by decide) ?_
    cases h
    exact ev_zretc dc_X1_takesComparison_15 rfl rfl rfl rfl
theorem dc_X1_takesJoint_0 : Dc miX1_takesJoint 0 (.aload_n 1) 1 1 := ⟨by decide +kernel, rfl⟩
theorem dc_X1_takesJoint_1 : Dc miX1_takesJoint 1 (.bipush 59) 2 3 := ⟨by decide +kernel, rfl⟩
theorem dc_X1_takesJoint_3 : Dc miX1_takesJoint 3 (.invokevirtual 76) 3 6 := ⟨by decide +kernel, rfl⟩
theorem dc_X1_takesJoint_6 : Dc miX1_takesJoint 6 (.ifCond .eq 9) 3 9 := ⟨by decide +kernel, rfl⟩
theorem dc_X1_takesJoint_9 : Dc miX1_takesJoint 9 (.aload_n 0) 1 10 := ⟨by decide +kernel, rfl⟩
theorem dc_X1_takesJoint_10 : Dc miX1_takesJoint 10 (.aload_n 2) 1 11 := ⟨by decide +kernel, rfl⟩
theorem dc_X1_takesJoint_11 : Dc miX1_takesJoint 11 (.invokevirtual 55) 3 14 := ⟨by decide +kernel, rfl⟩
theorem dc_X1_takesJoint_14 : Dc miX1_takesJoint 14 (.ireturn) 1 15 := ⟨by decide +kernel, rfl⟩
theorem dc_X1_takesJoint_15 : Dc miX1_takesJoint 15 (.aload_n 1) 1 16 := ⟨by decide +kernel, rfl⟩
theorem dc_X1_takesJoint_16 : Dc miX1_takesJoint 16 (.ldc 131) 2 18 := ⟨by decide +kernel, rfl⟩
theorem dc_X1_takesJoint_18 : Dc miX1_takesJoint 18 (.invokevirtual 72) 3 21 := ⟨by decide +kernel, rfl⟩
theorem dc_X1_takesJoint_21 : Dc miX1_takesJoint 21 (.istore_n 3) 1 22 := ⟨by decide +kernel, rfl⟩
theorem dc_X1_takesJoint_22 : Dc miX1_takesJoint 22 (.aload_n 0) 1 23 := ⟨by decide +kernel, rfl⟩
theorem dc_X1_takesJoint_23 : Dc miX1_takesJoint 23 (.aload_n 2) 1 24 := ⟨by decide +kernel, rfl⟩
theorem dc_X1_takesJoint_24 : Dc miX1_takesJoint 24 (.sipush 1012) 3 27 := ⟨by decide +kernel, rfl⟩
theorem dc_X1_takesJoint_27 : Dc miX1_takesJoint 27 (.invokevirtual 133) 3 30 := ⟨by decide +kernel, rfl⟩
theorem dc_X1_takesJoint_30 : Dc miX1_takesJoint 30 (.iload_n 3) 1 31 := ⟨by decide +kernel, rfl⟩
theorem dc_X1_takesJoint_31 : Dc miX1_takesJoint 31 (.ifCond .ne 11) 3 34 := ⟨by decide +kernel, rfl⟩
theorem dc_X1_takesJoint_34 : Dc miX1_takesJoint 34 (.aload_n 0) 1 35 := ⟨by decide +kernel, rfl⟩
theorem dc_X1_takesJoint_35 : Dc miX1_takesJoint 35 (.aload_n 2) 1 36 := ⟨by decide +kernel, rfl⟩
theorem dc_X1_takesJoint_36 : Dc miX1_takesJoint 36 (.sipush 1013) 3 39 := ⟨by decide +kernel, rfl⟩
theorem dc_X1_takesJoint_39 : Dc miX1_takesJoint 39 (.invokevirtual 133) 3 42 := ⟨by decide +kernel, rfl⟩
theorem dc_X1_takesJoint_42 : Dc miX1_takesJoint 42 (.iload_n 3) 1 43 := ⟨by decide +kernel, rfl⟩
theorem dc_X1_takesJoint_43 : Dc miX1_takesJoint 43 (.ifCond .ne 12) 3 46 := ⟨by decide +kernel, rfl⟩
theorem dc_X1_takesJoint_46 : Dc miX1_takesJoint 46 (.aload_n 1) 1 47 := ⟨by decide +kernel, rfl⟩
theorem dc_X1_takesJoint_47 : Dc miX1_takesJoint 47 (.ldc 137) 2 49 := ⟨by decide +kernel, rfl⟩
theorem dc_X1_takesJoint_49 : Dc miX1_takesJoint 49 (.invokevirtual 72) 3 52 := ⟨by decide +kernel, rfl⟩
theorem dc_X1_takesJoint_52 : Dc miX1_takesJoint 52 (.ifCond .eq 27) 3 55 := ⟨by decide +kernel, rfl⟩
theorem dc_X1_takesJoint_55 : Dc miX1_takesJoint 55 (.aload_n 0) 1 56 := ⟨by decide +kernel, rfl⟩
theorem dc_X1_takesJoint_56 : Dc miX1_takesJoint 56 (.iload_n 3) 1 57 := ⟨by decide +kernel, rfl⟩
theorem dc_X1_takesJoint_57 : Dc miX1_takesJoint 57 (.ifCond .eq 9) 3 60 := ⟨by decide +kernel, rfl⟩
theorem dc_X1_takesJoint_60 : Dc miX1_takesJoint 60 (.sipush 1012) 3 63 := ⟨by decide +kernel, rfl⟩
theorem dc_X1_takesJoint_63 : Dc miX1_takesJoint 63 (.goto 6) 3 66 := ⟨by decide +kernel, rfl⟩
theorem dc_X1_takesJoint_66 : Dc miX1_takesJoint 66 (.sipush 1013) 3 69 := ⟨by decide +kernel, rfl⟩
theorem dc_X1_takesJoint_69 : Dc miX1_takesJoint 69 (.invokevirtual 104) 3 72 := ⟨by decide +kernel, rfl⟩
theorem dc_X1_takesJoint_72 : Dc miX1_takesJoint 72 (.aload_n 0) 1 73 := ⟨by decide +kernel, rfl⟩
theorem dc_X1_takesJoint_73 : Dc miX1_takesJoint 73 (.iconst 3) 1 74 := ⟨by decide +kernel, rfl⟩
theorem dc_X1_takesJoint_74 : Dc miX1_takesJoint 74 (.putfield 11) 3 77 := ⟨by decide +kernel, rfl⟩
theorem dc_X1_takesJoint_77 : Dc miX1_takesJoint 77 (.iconst 1) 1 78 := ⟨by decide +kernel, rfl⟩
theorem dc_X1_takesJoint_78 : Dc miX1_takesJoint 78 (.ireturn) 1 79 := ⟨by decide +kernel, rfl⟩
theorem dc_X1_takesJoint_79 : Dc miX1_takesJoint 79 (.aload_n 1) 1 80 := ⟨by decide +kernel, rfl⟩
theorem dc_X1_takesJoint_80 : Dc miX1_takesJoint 80 (.bipush 41) 2 82 := ⟨by decide +kernel, rfl⟩
theorem dc_X1_takesJoint_82 : Dc miX1_takesJoint 82 (.invokevirtual 76) 3 85 := ⟨by decide +kernel, rfl⟩
theorem dc_X1_takesJoint_85 : Dc miX1_takesJoint 85 (.ifCond .eq 17) 3 88 := ⟨by decide +kernel, rfl⟩
theorem dc_X1_takesJoint_88 : Dc miX1_takesJoint 88 (.aload_n 0) 1 89 := ⟨by decide +kernel, rfl⟩
theorem dc_X1_takesJoint_89 : Dc miX1_takesJoint 89 (.invokevirtual 139) 3 92 := ⟨by decide +kernel, rfl⟩
theorem dc_X1_takesJoint_92 : Dc miX1_takesJoint 92 (.sipush 2000) 3 95 := ⟨by decide +kernel, rfl⟩
theorem dc_X1_takesJoint_95 : Dc miX1_takesJoint 95 (.if_icmp .ne 7) 3 98 := ⟨by decide +kernel, rfl⟩
theorem dc_X1_takesJoint_98 : Dc miX1_takesJoint 98 (.iconst 1) 1 99 := ⟨by decide +kernel, rfl⟩
theorem dc_X1_takesJoint_99 : Dc miX1_takesJoint 99 (.goto 4) 3 102 := ⟨by decide +kernel, rfl⟩
theorem dc_X1_takesJoint_102 : Dc miX1_takesJoint 102 (.iconst 0) 1 103 := ⟨by decide +kernel, rfl⟩
theorem dc_X1_takesJoint_103 : Dc miX1_takesJoint 103 (.istore 4) 2 105 := ⟨by decide +kernel, rfl⟩
theorem dc_X1_takesJoint_105 : Dc miX1_takesJoint 105 (.iload 4) 2 107 := ⟨by decide +kernel, rfl⟩
theorem dc_X1_takesJoint_107 : Dc miX1_takesJoint 107 (.ifCond .eq 28) 3 110 := ⟨by decide +kernel, rfl⟩
theorem dc_X1_takesJoint_110 : Dc miX1_takesJoint 110 (.aload_n 0) 1 111 := ⟨by decide +kernel, rfl⟩
theorem dc_X1_takesJoint_111 : Dc miX1_takesJoint 111 (.dup) 1 112 := ⟨by decide +kernel, rfl⟩
theorem dc_X1_takesJoint_112 : Dc miX1_takesJoint 112 (.getfield 32) 3 115 := ⟨by decide +kernel, rfl⟩
theorem dc_X1_takesJoint_115 : Dc miX1_takesJoint 115 (.iconst 1) 1 116 := ⟨by decide +kernel, rfl⟩
theorem dc_X1_takesJoint_116 : Dc miX1_takesJoint 116 (.isub) 1 117 := ⟨by decide +kernel, rfl⟩
theorem dc_X1_takesJoint_117 : Dc miX1_takesJoint 117 (.putfield 32) 3 120 := ⟨by decide +kernel, rfl⟩
theorem dc_X1_takesJoint_120 : Dc miX1_takesJoint 120 (.aload_n 0) 1 121 := ⟨by decide +kernel, rfl⟩
theorem dc_X1_takesJoint_121 : Dc miX1_takesJoint 121 (.dup) 1 122 := ⟨by decide +kernel, rfl⟩
theorem dc_X1_takesJoint_122 : Dc miX1_takesJoint 122 (.getfield 29) 3 125 := ⟨by decide +kernel, rfl⟩
theorem dc_X1_takesJoint_125 : Dc miX1_takesJoint 125 (.iconst 1) 1 126 := ⟨by decide +kernel, rfl⟩
theorem dc_X1_takesJoint_126 : Dc miX1_takesJoint 126 (.isub) 1 127 := ⟨by decide +kernel, rfl⟩
theorem dc_X1_takesJoint_127 : Dc miX1_takesJoint 127 (.putfield 29) 3 130 := ⟨by decide +kernel, rfl⟩
theorem dc_X1_takesJoint_130 : Dc miX1_takesJoint 130 (.aload_n 0) 1 131 := ⟨by decide +kernel, rfl⟩
theorem dc_X1_takesJoint_131 : Dc miX1_takesJoint 131 (.aload_n 2) 1 132 := ⟨by decide +kernel, rfl⟩
theorem dc_X1_takesJoint_132 : Dc miX1_takesJoint 132 (.invokevirtual 89) 3 135 := ⟨by decide +kernel, rfl⟩
theorem dc_X1_takesJoint_135 : Dc miX1_takesJoint 135 (.iload 4) 2 137 := ⟨by decide +kernel, rfl⟩
theorem dc_X1_takesJoint_137 : Dc miX1_takesJoint 137 (.ireturn) 1 138 := ⟨by decide +kernel, rfl⟩
def fX1_takesJoint_b69 (N : Nat) (G : pG) (a0 : Nat) (y1 : Int32) (σ : pS) : Option (Int32 × pS) := (fX1_pushWaiting N G a0 y1 σ).bind (fun q1 => some ((1 : Int32), putF q1 a0 0 (3 : Int32)))
set_option maxRecDepth 100000 in
set_option maxHeartbeats 4000000 in
theorem tX1_takesJoint_b69 {N : Nat} {G : pG} {SK : Nat → Nat} {a0 : Nat} {y1 : Int32} {σ : pS} {r : Int32 × pS} (hW : WT G) (i0 : Is G a0 1) (h : fX1_takesJoint_b69 N G a0 y1 σ = some r) : Ev miX1_takesJoint (10, 0, 0) G (Zp G (some (.int r.1)) r.2) SK (0, 0) 69 [some (.ref a0), none, none, none, none] [.int y1, .ref a0] σ := by
  unfold fX1_takesJoint_b69 at h
  obtain ⟨q1, hq1, h⟩ := Option.bind_eq_some_iff.mp h
  refine ev_callV (av := [.int y1]) (st := []) (st1 := []) dc_X1_takesJoint_69 (tX1_pushWaiting hW i0 hq1) mw_998 cy_X1_pushWaiting i0 (by decide) rfl rfl rfl rfl (Nat.le_of_ble_eq_true rfl) (Nat.le_of_ble_eq_true rfl) ⟨Nat.le_refl _, Nat.le_refl _⟩ ?_
  refine ev_aload_n dc_X1_takesJoint_72 rfl ?_
  refine ev_iconst (v := 3) dc_X1_takesJoint_73 (by decide) ?_
  refine ev_putI dc_X1_takesJoint_74 fi_X1_11 rfl i0 ?_
  refine ev_iconst (v := 1) dc_X1_takesJoint_77 (by decide) ?_
  cases h
  exact ev_zretc dc_X1_takesJoint_78 rfl rfl rfl rfl
def fX1_takesJoint_b55 (N : Nat) (G : pG) (a0 : Nat) (x3 : Int32) (σ : pS) : Option (Int32 × pS) := if x3 = 0 then (fX1_takesJoint_b69 N G a0 (1013 : Int32) σ) else (fX1_takesJoint_b69 N G a0 (1012 : Int32) σ)
set_option maxRecDepth 100000 in
set_option maxHeartbeats 4000000 in
theorem tX1_takesJoint_b55 {N : Nat} {G : pG} {SK : Nat → Nat} {a0 : Nat} {x3 : Int32} {σ : pS} {r : Int32 × pS} (hW : WT G) (i0 : Is G a0 1) (h : fX1_takesJoint_b55 N G a0 x3 σ = some r) : Ev miX1_takesJoint (10, 0, 0) G (Zp G (some (.int r.1)) r.2) SK (0, 0) 55 [some (.ref a0), none, none, some (.int x3), none] [] σ := by
  unfold fX1_takesJoint_b55 at h
  refine ev_aload_n dc_X1_takesJoint_55 rfl ?_
  refine ev_iload_n dc_X1_takesJoint_56 rfl ?_
  refine ev_if_eq (tgt := 66) dc_X1_takesJoint_57 (by decide) h (fun h => ?_) (fun h => ?_)
  · refine ev_sipush (v := 1013) dc_X1_takesJoint_66 (by decide) ?_
    exact ev_sub (tX1_takesJoint_b69 hW i0 h) (And.intro rfl trivial)
  · refine ev_sipush (v := 1012) dc_X1_takesJoint_60 (by decide) ?_
    refine ev_goto (tgt := 69) dc_X1_takesJoint_63 (by decide) ?_
    exact ev_sub (tX1_takesJoint_b69 hW i0 h) (And.intro rfl trivial)
def fX1_takesJoint_b103 (N : Nat) (G : pG) (a0 : Nat) (a2 : Nat) (y0 : Int32) (σ : pS) : Option (Int32 × pS) := if y0 = 0 then (ck (isZ y0) (some (y0, σ))) else ((fX1_endAtom N G a0 a2 (putF (putF σ a0 6 ((σ.1 a0 6) - (1 : Int32))) a0 5 (((putF σ a0 6 ((σ.1 a0 6) - (1 : Int32))).1 a0 5) - (1 : Int32)))).bind (fun q2 => ck (isZ y0) (some (y0, q2))))
set_option maxRecDepth 100000 in
set_option maxHeartbeats 4000000 in
theorem tX1_takesJoint_b103 {N : Nat} {G : pG} {SK : Nat → Nat} {a0 : Nat} {a2 : Nat} {y0 : Int32} {σ : pS} {r : Int32 × pS} (hW : WT G) (i0 : Is G a0 1) (i2 : Is G a2 0) (h : fX1_takesJoint_b103 N G a0 a2 y0 σ = some r) : Ev miX1_takesJoint (10, 0, 0) G (Zp G (some (.int r.1)) r.2) SK (0, 0) 103 [some (.ref a0), none, some (.ref a2), none, none] [.int y0] σ := by
  unfold fX1_takesJoint_b103 at h
  refine ev_istore (lv' := [some (.ref a0), none, some (.ref a2), none, some (.int y0)]) dc_X1_takesJoint_103 rfl (by decide) rfl ?_
  refine ev_iload dc_X1_takesJoint_105 rfl ?_
  refine ev_if_eq (tgt := 135) dc_X1_takesJoint_107 (by decide) h (fun h => ?_) (fun h => ?_)
  · refine ev_iload dc_X1_takesJoint_135 rfl ?_
    have h2 := (ck_s h).2
    cases h2
    exact ev_zret dc_X1_takesJoint_137 rfl h rfl rfl
  · refine ev_aload_n dc_X1_takesJoint_110 rfl ?_
    refine ev_dup dc_X1_takesJoint_111 rfl ?_
    refine ev_getI dc_X1_takesJoint_112 fi_X1_32 rfl i0 ?_
    refine ev_iconst (v := 1) dc_X1_takesJoint_115 (by decide) ?_
    refine ev_isub dc_X1_takesJoint_116 ?_
    refine ev_putI dc_X1_takesJoint_117 fi_X1_32 rfl i0 ?_
    refine ev_aload_n dc_X1_takesJoint_120 rfl ?_
    refine ev_dup dc_X1_takesJoint_121 rfl ?_
    refine ev_getI dc_X1_takesJoint_122 fi_X1_29 rfl i0 ?_
    refine ev_iconst (v := 1) dc_X1_takesJoint_125 (by decide) ?_
    refine ev_isub dc_X1_takesJoint_126 ?_
    refine ev_putI dc_X1_takesJoint_127 fi_X1_29 rfl i0 ?_
    refine ev_aload_n dc_X1_takesJoint_130 rfl ?_
    refine ev_aload_n dc_X1_takesJoint_131 rfl ?_
    obtain ⟨q2, hq2, h⟩ := Option.bind_eq_some_iff.mp h
    refine ev_callV (av := [.ref a2]) (st := []) (st1 := []) dc_X1_takesJoint_132 (tX1_endAtom hW i0 i2 hq2) mw_973 cy_X1_endAtom i0 (by decide) rfl rfl rfl rfl (Nat.le_of_ble_eq_true rfl) (Nat.le_of_ble_eq_true rfl) ⟨Nat.le_refl _, Nat.le_refl _⟩ ?_
    refine ev_iload dc_X1_takesJoint_135 rfl ?_
    have h2 := (ck_s h).2
    cases h2
    exact ev_zret dc_X1_takesJoint_137 rfl h rfl rfl
def fX1_takesJoint_b102 (N : Nat) (G : pG) (a0 : Nat) (a2 : Nat) (σ : pS) : Option (Int32 × pS) := fX1_takesJoint_b103 N G a0 a2 (0 : Int32) σ
set_option maxRecDepth 100000 in
set_option maxHeartbeats 4000000 in
theorem tX1_takesJoint_b102 {N : Nat} {G : pG} {SK : Nat → Nat} {a0 : Nat} {a2 : Nat} {σ : pS} {r : Int32 × pS} (hW : WT G) (i0 : Is G a0 1) (i2 : Is G a2 0) (h : fX1_takesJoint_b102 N G a0 a2 σ = some r) : Ev miX1_takesJoint (10, 0, 0) G (Zp G (some (.int r.1)) r.2) SK (0, 0) 102 [some (.ref a0), none, some (.ref a2), none, none] [] σ := by
  unfold fX1_takesJoint_b102 at h
  refine ev_iconst (v := 0) dc_X1_takesJoint_102 (by decide) ?_
  exact ev_sub (tX1_takesJoint_b103 hW i0 i2 h) (And.intro rfl (And.intro rfl trivial))
def fX1_takesJoint_b42 (N : Nat) (G : pG) (a0 : Nat) (a1 : Nat) (a2 : Nat) (x3 : Int32) (σ : pS) : Option (Int32 × pS) := if x3 = 0 then ((fX9_isWord N G a1 30 σ).bind (fun q3 => if q3 = 0 then ((fX9_isSign N G a1 (41 : Int32) σ).bind (fun q4 => if q4 = 0 then (fX1_takesJoint_b102 N G a0 a2 σ) else ((fX1_topWaiting N G a0 σ).bind (fun q5 => if q5 = (2000 : Int32) then (fX1_takesJoint_b103 N G a0 a2 (1 : Int32) σ) else (fX1_takesJoint_b102 N G a0 a2 σ))))) else (fX1_takesJoint_b55 N G a0 x3 σ))) else (fX1_takesJoint_b55 N G a0 x3 σ)
set_option maxRecDepth 100000 in
set_option maxHeartbeats 4000000 in
theorem tX1_takesJoint_b42 {N : Nat} {G : pG} {SK : Nat → Nat} {a0 : Nat} {a1 : Nat} {a2 : Nat} {x3 : Int32} {σ : pS} {r : Int32 × pS} (hW : WT G) (i0 : Is G a0 1) (i1 : Is G a1 8) (i2 : Is G a2 0) (h : fX1_takesJoint_b42 N G a0 a1 a2 x3 σ = some r) : Ev miX1_takesJoint (10, 0, 0) G (Zp G (some (.int r.1)) r.2) SK (0, 0) 42 [some (.ref a0), some (.ref a1), some (.ref a2), some (.int x3), none] [] σ := by
  unfold fX1_takesJoint_b42 at h
  refine ev_iload_n dc_X1_takesJoint_42 rfl ?_
  refine ev_if_ne (tgt := 55) dc_X1_takesJoint_43 (by decide) h (fun h => ?_) (fun h => ?_)
  · refine ev_aload_n dc_X1_takesJoint_46 rfl ?_
    refine ev_ldcS (sid := 30) (tx := "or") dc_X1_takesJoint_47 (List.mem_of_getElem? (i := 30) rfl) ?_
    obtain ⟨q3, hq3, h⟩ := Option.bind_eq_some_iff.mp h
    refine ev_callV (av := [.ref (SK 30)]) (st := []) (st1 := [.int q3]) dc_X1_takesJoint_49 (tX9_isWord hW i1 rfl hq3) mw_963 cy_X9_isWord i1 (by decide) rfl rfl rfl rfl (Nat.le_of_ble_eq_true rfl) (Nat.le_of_ble_eq_true rfl) ⟨Nat.le_refl _, Nat.le_refl _⟩ ?_
    refine ev_if_eq (tgt := 79) dc_X1_takesJoint_52 (by decide) h (fun h => ?_) (fun h => ?_)
    · refine ev_aload_n dc_X1_takesJoint_79 rfl ?_
      refine ev_bipush (v := 41) dc_X1_takesJoint_80 (by decide) ?_
      obtain ⟨q4, hq4, h⟩ := Option.bind_eq_some_iff.mp h
      refine ev_callV (av := [.int (41 : Int32)]) (st := []) (st1 := [.int q4]) dc_X1_takesJoint_82 (tX9_isSign hW i1 hq4) mw_968 cy_X9_isSign i1 (by decide) rfl rfl rfl rfl (Nat.le_of_ble_eq_true rfl) (Nat.le_of_ble_eq_true rfl) ⟨Nat.le_refl _, Nat.le_refl _⟩ ?_
      refine ev_if_eq (tgt := 102) dc_X1_takesJoint_85 (by decide) h (fun h => ?_) (fun h => ?_)
      · exact ev_sub (tX1_takesJoint_b102 hW i0 i2 h) (And.intro rfl (And.intro rfl trivial))
      · refine ev_aload_n dc_X1_takesJoint_88 rfl ?_
        obtain ⟨q5, hq5, h⟩ := Option.bind_eq_some_iff.mp h
        refine ev_callV (av := []) (st := []) (st1 := [.int q5]) dc_X1_takesJoint_89 (tX1_topWaiting hW i0 hq5) mw_981 cy_X1_topWaiting i0 (by decide) rfl rfl rfl rfl (Nat.le_of_ble_eq_true rfl) (Nat.le_of_ble_eq_true rfl) ⟨Nat.le_refl _, Nat.le_refl _⟩ ?_
        refine ev_sipush (v := 2000) dc_X1_takesJoint_92 (by decide) ?_
        refine ev_icmp_ne (tgt := 102) dc_X1_takesJoint_95 (by decide) h (fun h => ?_) (fun h => ?_)
        · refine ev_iconst (v := 1) dc_X1_takesJoint_98 (by decide) ?_
          refine ev_goto (tgt := 103) dc_X1_takesJoint_99 (by decide) ?_
          exact ev_sub (tX1_takesJoint_b103 hW i0 i2 h) (And.intro rfl (And.intro rfl trivial))
        · exact ev_sub (tX1_takesJoint_b102 hW i0 i2 h) (And.intro rfl (And.intro rfl trivial))
    · exact ev_sub (tX1_takesJoint_b55 hW i0 h) (And.intro rfl (And.intro rfl trivial))
  · exact ev_sub (tX1_takesJoint_b55 hW i0 h) (And.intro rfl (And.intro rfl trivial))
def fX1_takesJoint (N : Nat) (G : pG) (a0 : Nat) (a1 : Nat) (a2 : Nat) (σ : pS) : Option (Int32 × pS) := (fX9_isSign N G a1 (59 : Int32) σ).bind (fun q6 => if q6 = 0 then ((fX9_isWord N G a1 29 σ).bind (fun q7 => (fX1_release N G a0 a2 (1012 : Int32) σ).bind (fun q8 => if q7 = 0 then ((fX1_release N G a0 a2 (1013 : Int32) q8).bind (fun q9 => fX1_takesJoint_b42 N G a0 a1 a2 q7 q9)) else (fX1_takesJoint_b42 N G a0 a1 a2 q7 q8)))) else ((fX1_endsLine N G a0 a2 σ).bind (fun q10 => ck (isZ q10.1) (some (q10.1, q10.2)))))
set_option maxRecDepth 100000 in
set_option maxHeartbeats 4000000 in
theorem tX1_takesJoint {N : Nat} {G : pG} {SK : Nat → Nat} {a0 : Nat} {a1 : Nat} {a2 : Nat} {σ : pS} {r : Int32 × pS} (hW : WT G) (i0 : Is G a0 1) (i1 : Is G a1 8) (i2 : Is G a2 0) (h : fX1_takesJoint N G a0 a1 a2 σ = some r) : Dn miX1_takesJoint yX1_takesJoint 10 G SK [.ref a0, .ref a1, .ref a2] σ (some (.int r.1)) r.2 := by
  unfold fX1_takesJoint at h
  refine dn_of (lv := [some (.ref a0), some (.ref a1), some (.ref a2), none, none]) (by decide) rfl rfl (Nat.le_of_ble_eq_true rfl) rfl ?_
  refine ev_aload_n dc_X1_takesJoint_0 rfl ?_
  refine ev_bipush (v := 59) dc_X1_takesJoint_1 (by decide) ?_
  obtain ⟨q6, hq6, h⟩ := Option.bind_eq_some_iff.mp h
  refine ev_callV (av := [.int (59 : Int32)]) (st := []) (st1 := [.int q6]) dc_X1_takesJoint_3 (tX9_isSign hW i1 hq6) mw_968 cy_X9_isSign i1 (by decide) rfl rfl rfl rfl (Nat.le_of_ble_eq_true rfl) (Nat.le_of_ble_eq_true rfl) ⟨Nat.le_refl _, Nat.le_refl _⟩ ?_
  refine ev_if_eq (tgt := 15) dc_X1_takesJoint_6 (by decide) h (fun h => ?_) (fun h => ?_)
  · refine ev_aload_n dc_X1_takesJoint_15 rfl ?_
    refine ev_ldcS (sid := 29) (tx := "and") dc_X1_takesJoint_16 (List.mem_of_getElem? (i := 29) rfl) ?_
    obtain ⟨q7, hq7, h⟩ := Option.bind_eq_some_iff.mp h
    refine ev_callV (av := [.ref (SK 29)]) (st := []) (st1 := [.int q7]) dc_X1_takesJoint_18 (tX9_isWord hW i1 rfl hq7) mw_963 cy_X9_isWord i1 (by decide) rfl rfl rfl rfl (Nat.le_of_ble_eq_true rfl) (Nat.le_of_ble_eq_true rfl) ⟨Nat.le_refl _, Nat.le_refl _⟩ ?_
    refine ev_istore_n (lv' := [some (.ref a0), some (.ref a1), some (.ref a2), some (.int q7), none]) dc_X1_takesJoint_21 rfl (by decide) rfl ?_
    refine ev_aload_n dc_X1_takesJoint_22 rfl ?_
    refine ev_aload_n dc_X1_takesJoint_23 rfl ?_
    refine ev_sipush (v := 1012) dc_X1_takesJoint_24 (by decide) ?_
    obtain ⟨q8, hq8, h⟩ := Option.bind_eq_some_iff.mp h
    refine ev_callV (av := [.ref a2, .int (1012 : Int32)]) (st := []) (st1 := []) dc_X1_takesJoint_27 (tX1_release hW i0 i2 hq8) mw_985 cy_X1_release i0 (by decide) rfl rfl rfl rfl (Nat.le_of_ble_eq_true rfl) (Nat.le_of_ble_eq_true rfl) ⟨Nat.le_refl _, Nat.le_refl _⟩ ?_
    refine ev_iload_n dc_X1_takesJoint_30 rfl ?_
    refine ev_if_ne (tgt := 42) dc_X1_takesJoint_31 (by decide) h (fun h => ?_) (fun h => ?_)
    · refine ev_aload_n dc_X1_takesJoint_34 rfl ?_
      refine ev_aload_n dc_X1_takesJoint_35 rfl ?_
      refine ev_sipush (v := 1013) dc_X1_takesJoint_36 (by decide) ?_
      obtain ⟨q9, hq9, h⟩ := Option.bind_eq_some_iff.mp h
      refine ev_callV (av := [.ref a2, .int (1013 : Int32)]) (st := []) (st1 := []) dc_X1_takesJoint_39 (tX1_release hW i0 i2 hq9) mw_985 cy_X1_release i0 (by decide) rfl rfl rfl rfl (Nat.le_of_ble_eq_true rfl) (Nat.le_of_ble_eq_true rfl) ⟨Nat.le_refl _, Nat.le_refl _⟩ ?_
      exact ev_sub (tX1_takesJoint_b42 hW i0 i1 i2 h) (And.intro rfl (And.intro rfl (And.intro rfl (And.intro rfl trivial))))
    · exact ev_sub (tX1_takesJoint_b42 hW i0 i1 i2 h) (And.intro rfl (And.intro rfl (And.intro rfl (And.intro rfl trivial))))
  · refine ev_aload_n dc_X1_takesJoint_9 rfl ?_
    refine ev_aload_n dc_X1_takesJoint_10 rfl ?_
    obtain ⟨q10, hq10, h⟩ := Option.bind_eq_some_iff.mp h
    refine ev_callV (av := [.ref a2]) (st := []) (st1 := [.int q10.1]) dc_X1_takesJoint_11 (tX1_endsLine hW i0 i2 hq10) mw_969 cy_X1_endsLine i0 (by decide) rfl rfl rfl rfl (Nat.le_of_ble_eq_true rfl) (Nat.le_of_ble_eq_true rfl) ⟨Nat.le_refl _, Nat.le_refl _⟩ ?_
    have h2 := (ck_s h).2
    cases h2
    exact ev_zret dc_X1_takesJoint_14 rfl h rfl rfl
theorem dc_X1_takesKind_0 : Dc miX1_takesKind 0 (.aload_n 1) 1 1 := ⟨by decide +kernel, rfl⟩
theorem dc_X1_takesKind_1 : Dc miX1_takesKind 1 (.ldc 96) 2 3 := ⟨by decide +kernel, rfl⟩
theorem dc_X1_takesKind_3 : Dc miX1_takesKind 3 (.invokevirtual 72) 3 6 := ⟨by decide +kernel, rfl⟩
theorem dc_X1_takesKind_6 : Dc miX1_takesKind 6 (.istore_n 2) 1 7 := ⟨by decide +kernel, rfl⟩
theorem dc_X1_takesKind_7 : Dc miX1_takesKind 7 (.aload_n 1) 1 8 := ⟨by decide +kernel, rfl⟩
theorem dc_X1_takesKind_8 : Dc miX1_takesKind 8 (.ldc 98) 2 10 := ⟨by decide +kernel, rfl⟩
theorem dc_X1_takesKind_10 : Dc miX1_takesKind 10 (.invokevirtual 72) 3 13 := ⟨by decide +kernel, rfl⟩
theorem dc_X1_takesKind_13 : Dc miX1_takesKind 13 (.istore_n 3) 1 14 := ⟨by decide +kernel, rfl⟩
theorem dc_X1_takesKind_14 : Dc miX1_takesKind 14 (.aload_n 0) 1 15 := ⟨by decide +kernel, rfl⟩
theorem dc_X1_takesKind_15 : Dc miX1_takesKind 15 (.iload_n 3) 1 16 := ⟨by decide +kernel, rfl⟩
theorem dc_X1_takesKind_16 : Dc miX1_takesKind 16 (.ifCond .eq 7) 3 19 := ⟨by decide +kernel, rfl⟩
theorem dc_X1_takesKind_19 : Dc miX1_takesKind 19 (.iconst 1) 1 20 := ⟨by decide +kernel, rfl⟩
theorem dc_X1_takesKind_20 : Dc miX1_takesKind 20 (.goto 4) 3 23 := ⟨by decide +kernel, rfl⟩
theorem dc_X1_takesKind_23 : Dc miX1_takesKind 23 (.iconst 0) 1 24 := ⟨by decide +kernel, rfl⟩
theorem dc_X1_takesKind_24 : Dc miX1_takesKind 24 (.putfield 17) 3 27 := ⟨by decide +kernel, rfl⟩
theorem dc_X1_takesKind_27 : Dc miX1_takesKind 27 (.aload_n 0) 1 28 := ⟨by decide +kernel, rfl⟩
theorem dc_X1_takesKind_28 : Dc miX1_takesKind 28 (.iload_n 2) 1 29 := ⟨by decide +kernel, rfl⟩
theorem dc_X1_takesKind_29 : Dc miX1_takesKind 29 (.ifCond .eq 7) 3 32 := ⟨by decide +kernel, rfl⟩
theorem dc_X1_takesKind_32 : Dc miX1_takesKind 32 (.iconst (-1)) 1 33 := ⟨by decide +kernel, rfl⟩
theorem dc_X1_takesKind_33 : Dc miX1_takesKind 33 (.goto 4) 3 36 := ⟨by decide +kernel, rfl⟩
theorem dc_X1_takesKind_36 : Dc miX1_takesKind 36 (.iconst 1) 1 37 := ⟨by decide +kernel, rfl⟩
theorem dc_X1_takesKind_37 : Dc miX1_takesKind 37 (.putfield 20) 3 40 := ⟨by decide +kernel, rfl⟩
theorem dc_X1_takesKind_40 : Dc miX1_takesKind 40 (.aload_n 0) 1 41 := ⟨by decide +kernel, rfl⟩
theorem dc_X1_takesKind_41 : Dc miX1_takesKind 41 (.iconst 1) 1 42 := ⟨by decide +kernel, rfl⟩
theorem dc_X1_takesKind_42 : Dc miX1_takesKind 42 (.putfield 11) 3 45 := ⟨by decide +kernel, rfl⟩
theorem dc_X1_takesKind_45 : Dc miX1_takesKind 45 (.iload_n 2) 1 46 := ⟨by decide +kernel, rfl⟩
theorem dc_X1_takesKind_46 : Dc miX1_takesKind 46 (.ifCond .ne 16) 3 49 := ⟨by decide +kernel, rfl⟩
theorem dc_X1_takesKind_49 : Dc miX1_takesKind 49 (.iload_n 3) 1 50 := ⟨by decide +kernel, rfl⟩
theorem dc_X1_takesKind_50 : Dc miX1_takesKind 50 (.ifCond .ne 12) 3 53 := ⟨by decide +kernel, rfl⟩
theorem dc_X1_takesKind_53 : Dc miX1_takesKind 53 (.aload_n 1) 1 54 := ⟨by decide +kernel, rfl⟩
theorem dc_X1_takesKind_54 : Dc miX1_takesKind 54 (.ldc 100) 2 56 := ⟨by decide +kernel, rfl⟩
theorem dc_X1_takesKind_56 : Dc miX1_takesKind 56 (.invokevirtual 72) 3 59 := ⟨by decide +kernel, rfl⟩
theorem dc_X1_takesKind_59 : Dc miX1_takesKind 59 (.ifCond .eq 7) 3 62 := ⟨by decide +kernel, rfl⟩
theorem dc_X1_takesKind_62 : Dc miX1_takesKind 62 (.iconst 1) 1 63 := ⟨by decide +kernel, rfl⟩
theorem dc_X1_takesKind_63 : Dc miX1_takesKind 63 (.goto 4) 3 66 := ⟨by decide +kernel, rfl⟩
theorem dc_X1_takesKind_66 : Dc miX1_takesKind 66 (.iconst 0) 1 67 := ⟨by decide +kernel, rfl⟩
theorem dc_X1_takesKind_67 : Dc miX1_takesKind 67 (.ireturn) 1 68 := ⟨by decide +kernel, rfl⟩
def fX1_takesKind_b62 (N : Nat) (G : pG) (σ : pS) : Option (Int32 × pS) := some ((1 : Int32), σ)
set_option maxRecDepth 100000 in
set_option maxHeartbeats 4000000 in
theorem tX1_takesKind_b62 {N : Nat} {G : pG} {SK : Nat → Nat} {σ : pS} {r : Int32 × pS} (hW : WT G) (h : fX1_takesKind_b62 N G σ = some r) : Ev miX1_takesKind (10, 0, 0) G (Zp G (some (.int r.1)) r.2) SK (0, 0) 62 [none, none, none, none] [] σ := by
  unfold fX1_takesKind_b62 at h
  refine ev_iconst (v := 1) dc_X1_takesKind_62 (by decide) ?_
  refine ev_goto (tgt := 67) dc_X1_takesKind_63 (by decide) ?_
  cases h
  exact ev_zretc dc_X1_takesKind_67 rfl rfl rfl rfl
def fX1_takesKind_b37 (N : Nat) (G : pG) (a0 : Nat) (a1 : Nat) (x2 : Int32) (x3 : Int32) (y1 : Int32) (σ : pS) : Option (Int32 × pS) := if x2 = 0 then (if x3 = 0 then ((fX9_isWord N G a1 18 (putF (putF σ a0 2 y1) a0 0 (1 : Int32))).bind (fun q1 => if q1 = 0 then (some ((0 : Int32), putF (putF σ a0 2 y1) a0 0 (1 : Int32))) else (fX1_takesKind_b62 N G (putF (putF σ a0 2 y1) a0 0 (1 : Int32))))) else (fX1_takesKind_b62 N G (putF (putF σ a0 2 y1) a0 0 (1 : Int32)))) else (fX1_takesKind_b62 N G (putF (putF σ a0 2 y1) a0 0 (1 : Int32)))
set_option maxRecDepth 100000 in
set_option maxHeartbeats 4000000 in
theorem tX1_takesKind_b37 {N : Nat} {G : pG} {SK : Nat → Nat} {a0 : Nat} {a1 : Nat} {x2 : Int32} {x3 : Int32} {y1 : Int32} {σ : pS} {r : Int32 × pS} (hW : WT G) (i0 : Is G a0 1) (i1 : Is G a1 8) (h : fX1_takesKind_b37 N G a0 a1 x2 x3 y1 σ = some r) : Ev miX1_takesKind (10, 0, 0) G (Zp G (some (.int r.1)) r.2) SK (0, 0) 37 [some (.ref a0), some (.ref a1), some (.int x2), some (.int x3)] [.int y1, .ref a0] σ := by
  unfold fX1_takesKind_b37 at h
  refine ev_putI dc_X1_takesKind_37 fi_X1_20 rfl i0 ?_
  refine ev_aload_n dc_X1_takesKind_40 rfl ?_
  refine ev_iconst (v := 1) dc_X1_takesKind_41 (by decide) ?_
  refine ev_putI dc_X1_takesKind_42 fi_X1_11 rfl i0 ?_
  refine ev_iload_n dc_X1_takesKind_45 rfl ?_
  refine ev_if_ne (tgt := 62) dc_X1_takesKind_46 (by decide) h (fun h => ?_) (fun h => ?_)
  · refine ev_iload_n dc_X1_takesKind_49 rfl ?_
    refine ev_if_ne (tgt := 62) dc_X1_takesKind_50 (by decide) h (fun h => ?_) (fun h => ?_)
    · refine ev_aload_n dc_X1_takesKind_53 rfl ?_
      refine ev_ldcS (sid := 18) (tx := "sting") dc_X1_takesKind_54 (List.mem_of_getElem? (i := 18) rfl) ?_
      obtain ⟨q1, hq1, h⟩ := Option.bind_eq_some_iff.mp h
      refine ev_callV (av := [.ref (SK 18)]) (st := []) (st1 := [.int q1]) dc_X1_takesKind_56 (tX9_isWord hW i1 rfl hq1) mw_963 cy_X9_isWord i1 (by decide) rfl rfl rfl rfl (Nat.le_of_ble_eq_true rfl) (Nat.le_of_ble_eq_true rfl) ⟨Nat.le_refl _, Nat.le_refl _⟩ ?_
      refine ev_if_eq (tgt := 66) dc_X1_takesKind_59 (by decide) h (fun h => ?_) (fun h => ?_)
      · refine ev_iconst (v := 0) dc_X1_takesKind_66 (by decide) ?_
        cases h
        exact ev_zretc dc_X1_takesKind_67 rfl rfl rfl rfl
      · exact ev_sub (tX1_takesKind_b62 hW h) trivial
    · exact ev_sub (tX1_takesKind_b62 hW h) trivial
  · exact ev_sub (tX1_takesKind_b62 hW h) trivial
def fX1_takesKind_b24 (N : Nat) (G : pG) (a0 : Nat) (a1 : Nat) (x2 : Int32) (x3 : Int32) (y1 : Int32) (σ : pS) : Option (Int32 × pS) := if x2 = 0 then (fX1_takesKind_b37 N G a0 a1 x2 x3 (1 : Int32) (putF σ a0 1 y1)) else (fX1_takesKind_b37 N G a0 a1 x2 x3 (-1 : Int32) (putF σ a0 1 y1))
set_option maxRecDepth 100000 in
set_option maxHeartbeats 4000000 in
theorem tX1_takesKind_b24 {N : Nat} {G : pG} {SK : Nat → Nat} {a0 : Nat} {a1 : Nat} {x2 : Int32} {x3 : Int32} {y1 : Int32} {σ : pS} {r : Int32 × pS} (hW : WT G) (i0 : Is G a0 1) (i1 : Is G a1 8) (h : fX1_takesKind_b24 N G a0 a1 x2 x3 y1 σ = some r) : Ev miX1_takesKind (10, 0, 0) G (Zp G (some (.int r.1)) r.2) SK (0, 0) 24 [some (.ref a0), some (.ref a1), some (.int x2), some (.int x3)] [.int y1, .ref a0] σ := by
  unfold fX1_takesKind_b24 at h
  refine ev_putI dc_X1_takesKind_24 fi_X1_17 rfl i0 ?_
  refine ev_aload_n dc_X1_takesKind_27 rfl ?_
  refine ev_iload_n dc_X1_takesKind_28 rfl ?_
  refine ev_if_eq (tgt := 36) dc_X1_takesKind_29 (by decide) h (fun h => ?_) (fun h => ?_)
  · refine ev_iconst (v := 1) dc_X1_takesKind_36 (by decide) ?_
    exact ev_sub (tX1_takesKind_b37 hW i0 i1 h) (And.intro rfl (And.intro rfl (And.intro rfl (And.intro rfl trivial))))
  · refine ev_iconst (v := (-1)) dc_X1_takesKind_32 (by decide) ?_
    refine ev_goto (tgt := 37) dc_X1_takesKind_33 (by decide) ?_
    exact ev_sub (tX1_takesKind_b37 hW i0 i1 h) (And.intro rfl (And.intro rfl (And.intro rfl (And.intro rfl trivial))))
def fX1_takesKind (N : Nat) (G : pG) (a0 : Nat) (a1 : Nat) (σ : pS) : Option (Int32 × pS) := (fX9_isWord N G a1 16 σ).bind (fun q2 => (fX9_isWord N G a1 17 σ).bind (fun q3 => if q3 = 0 then (fX1_takesKind_b24 N G a0 a1 q2 q3 (0 : Int32) σ) else (fX1_takesKind_b24 N G a0 a1 q2 q3 (1 : Int32) σ)))
set_option maxRecDepth 100000 in
set_option maxHeartbeats 4000000 in
theorem tX1_takesKind {N : Nat} {G : pG} {SK : Nat → Nat} {a0 : Nat} {a1 : Nat} {σ : pS} {r : Int32 × pS} (hW : WT G) (i0 : Is G a0 1) (i1 : Is G a1 8) (h : fX1_takesKind N G a0 a1 σ = some r) : Dn miX1_takesKind yX1_takesKind 10 G SK [.ref a0, .ref a1] σ (some (.int r.1)) r.2 := by
  unfold fX1_takesKind at h
  refine dn_of (lv := [some (.ref a0), some (.ref a1), none, none]) (by decide) rfl rfl (Nat.le_of_ble_eq_true rfl) rfl ?_
  refine ev_aload_n dc_X1_takesKind_0 rfl ?_
  refine ev_ldcS (sid := 16) (tx := "blunt") dc_X1_takesKind_1 (List.mem_of_getElem? (i := 16) rfl) ?_
  obtain ⟨q2, hq2, h⟩ := Option.bind_eq_some_iff.mp h
  refine ev_callV (av := [.ref (SK 16)]) (st := []) (st1 := [.int q2]) dc_X1_takesKind_3 (tX9_isWord hW i1 rfl hq2) mw_963 cy_X9_isWord i1 (by decide) rfl rfl rfl rfl (Nat.le_of_ble_eq_true rfl) (Nat.le_of_ble_eq_true rfl) ⟨Nat.le_refl _, Nat.le_refl _⟩ ?_
  refine ev_istore_n (lv' := [some (.ref a0), some (.ref a1), some (.int q2), none]) dc_X1_takesKind_6 rfl (by decide) rfl ?_
  refine ev_aload_n dc_X1_takesKind_7 rfl ?_
  refine ev_ldcS (sid := 17) (tx := "soothe") dc_X1_takesKind_8 (List.mem_of_getElem? (i := 17) rfl) ?_
  obtain ⟨q3, hq3, h⟩ := Option.bind_eq_some_iff.mp h
  refine ev_callV (av := [.ref (SK 17)]) (st := []) (st1 := [.int q3]) dc_X1_takesKind_10 (tX9_isWord hW i1 rfl hq3) mw_963 cy_X9_isWord i1 (by decide) rfl rfl rfl rfl (Nat.le_of_ble_eq_true rfl) (Nat.le_of_ble_eq_true rfl) ⟨Nat.le_refl _, Nat.le_refl _⟩ ?_
  refine ev_istore_n (lv' := [some (.ref a0), some (.ref a1), some (.int q2), some (.int q3)]) dc_X1_takesKind_13 rfl (by decide) rfl ?_
  refine ev_aload_n dc_X1_takesKind_14 rfl ?_
  refine ev_iload_n dc_X1_takesKind_15 rfl ?_
  refine ev_if_eq (tgt := 23) dc_X1_takesKind_16 (by decide) h (fun h => ?_) (fun h => ?_)
  · refine ev_iconst (v := 0) dc_X1_takesKind_23 (by decide) ?_
    exact ev_sub (tX1_takesKind_b24 hW i0 i1 h) (And.intro rfl (And.intro rfl (And.intro rfl (And.intro rfl trivial))))
  · refine ev_iconst (v := 1) dc_X1_takesKind_19 (by decide) ?_
    refine ev_goto (tgt := 24) dc_X1_takesKind_20 (by decide) ?_
    exact ev_sub (tX1_takesKind_b24 hW i0 i1 h) (And.intro rfl (And.intro rfl (And.intro rfl (And.intro rfl trivial))))
theorem dc_X1_takesPart_0 : Dc miX1_takesPart 0 (.aload_n 1) 1 1 := ⟨by decide +kernel, rfl⟩
theorem dc_X1_takesPart_1 : Dc miX1_takesPart 1 (.iconst 0) 1 2 := ⟨by decide +kernel, rfl⟩
theorem dc_X1_takesPart_2 : Dc miX1_takesPart 2 (.sipush 999) 3 5 := ⟨by decide +kernel, rfl⟩
theorem dc_X1_takesPart_5 : Dc miX1_takesPart 5 (.invokevirtual 66) 3 8 := ⟨by decide +kernel, rfl⟩
theorem dc_X1_takesPart_8 : Dc miX1_takesPart 8 (.istore_n 3) 1 9 := ⟨by decide +kernel, rfl⟩
theorem dc_X1_takesPart_9 : Dc miX1_takesPart 9 (.iload_n 3) 1 10 := ⟨by decide +kernel, rfl⟩
theorem dc_X1_takesPart_10 : Dc miX1_takesPart 10 (.iconst (-1)) 1 11 := ⟨by decide +kernel, rfl⟩
theorem dc_X1_takesPart_11 : Dc miX1_takesPart 11 (.if_icmp .ne 10) 3 14 := ⟨by decide +kernel, rfl⟩
theorem dc_X1_takesPart_14 : Dc miX1_takesPart 14 (.aload_n 1) 1 15 := ⟨by decide +kernel, rfl⟩
theorem dc_X1_takesPart_15 : Dc miX1_takesPart 15 (.invokestatic 115) 3 18 := ⟨by decide +kernel, rfl⟩
theorem dc_X1_takesPart_18 : Dc miX1_takesPart 18 (.goto 4) 3 21 := ⟨by decide +kernel, rfl⟩
theorem dc_X1_takesPart_21 : Dc miX1_takesPart 21 (.iload_n 3) 1 22 := ⟨by decide +kernel, rfl⟩
theorem dc_X1_takesPart_22 : Dc miX1_takesPart 22 (.istore 4) 2 24 := ⟨by decide +kernel, rfl⟩
theorem dc_X1_takesPart_24 : Dc miX1_takesPart 24 (.iload 4) 2 26 := ⟨by decide +kernel, rfl⟩
theorem dc_X1_takesPart_26 : Dc miX1_takesPart 26 (.iconst (-1)) 1 27 := ⟨by decide +kernel, rfl⟩
theorem dc_X1_takesPart_27 : Dc miX1_takesPart 27 (.if_icmp .ne 5) 3 30 := ⟨by decide +kernel, rfl⟩
theorem dc_X1_takesPart_30 : Dc miX1_takesPart 30 (.iconst 0) 1 31 := ⟨by decide +kernel, rfl⟩
theorem dc_X1_takesPart_31 : Dc miX1_takesPart 31 (.ireturn) 1 32 := ⟨by decide +kernel, rfl⟩
theorem dc_X1_takesPart_32 : Dc miX1_takesPart 32 (.aload_n 2) 1 33 := ⟨by decide +kernel, rfl⟩
theorem dc_X1_takesPart_33 : Dc miX1_takesPart 33 (.iload 4) 2 35 := ⟨by decide +kernel, rfl⟩
theorem dc_X1_takesPart_35 : Dc miX1_takesPart 35 (.invokevirtual 112) 3 38 := ⟨by decide +kernel, rfl⟩
theorem dc_X1_takesPart_38 : Dc miX1_takesPart 38 (.aload_n 0) 1 39 := ⟨by decide +kernel, rfl⟩
theorem dc_X1_takesPart_39 : Dc miX1_takesPart 39 (.aload_n 0) 1 40 := ⟨by decide +kernel, rfl⟩
theorem dc_X1_takesPart_40 : Dc miX1_takesPart 40 (.getfield 11) 3 43 := ⟨by decide +kernel, rfl⟩
theorem dc_X1_takesPart_43 : Dc miX1_takesPart 43 (.bipush 6) 2 45 := ⟨by decide +kernel, rfl⟩
theorem dc_X1_takesPart_45 : Dc miX1_takesPart 45 (.if_icmp .ne 8) 3 48 := ⟨by decide +kernel, rfl⟩
theorem dc_X1_takesPart_48 : Dc miX1_takesPart 48 (.bipush 7) 2 50 := ⟨by decide +kernel, rfl⟩
theorem dc_X1_takesPart_50 : Dc miX1_takesPart 50 (.goto 4) 3 53 := ⟨by decide +kernel, rfl⟩
theorem dc_X1_takesPart_53 : Dc miX1_takesPart 53 (.iconst 5) 1 54 := ⟨by decide +kernel, rfl⟩
theorem dc_X1_takesPart_54 : Dc miX1_takesPart 54 (.putfield 11) 3 57 := ⟨by decide +kernel, rfl⟩
theorem dc_X1_takesPart_57 : Dc miX1_takesPart 57 (.iconst 1) 1 58 := ⟨by decide +kernel, rfl⟩
theorem dc_X1_takesPart_58 : Dc miX1_takesPart 58 (.ireturn) 1 59 := ⟨by decide +kernel, rfl⟩
def fX1_takesPart_b54 (N : Nat) (G : pG) (a0 : Nat) (y1 : Int32) (σ : pS) : Option (Int32 × pS) := some ((1 : Int32), putF σ a0 0 y1)
set_option maxRecDepth 100000 in
set_option maxHeartbeats 4000000 in
theorem tX1_takesPart_b54 {N : Nat} {G : pG} {SK : Nat → Nat} {a0 : Nat} {y1 : Int32} {σ : pS} {r : Int32 × pS} (hW : WT G) (i0 : Is G a0 1) (h : fX1_takesPart_b54 N G a0 y1 σ = some r) : Ev miX1_takesPart (11, 0, 0) G (Zp G (some (.int r.1)) r.2) SK (0, 0) 54 [some (.ref a0), none, none, none, none] [.int y1, .ref a0] σ := by
  unfold fX1_takesPart_b54 at h
  refine ev_putI dc_X1_takesPart_54 fi_X1_11 rfl i0 ?_
  refine ev_iconst (v := 1) dc_X1_takesPart_57 (by decide) ?_
  cases h
  exact ev_zretc dc_X1_takesPart_58 rfl rfl rfl rfl
def fX1_takesPart_b22 (N : Nat) (G : pG) (a0 : Nat) (a2 : Nat) (y0 : Int32) (σ : pS) : Option (Int32 × pS) := if y0 = (-1 : Int32) then (some ((0 : Int32), σ)) else ((fX0_addStep N G a2 y0 σ).bind (fun q1 => if (q1.1 a0 0) = (6 : Int32) then (fX1_takesPart_b54 N G a0 (7 : Int32) q1) else (fX1_takesPart_b54 N G a0 (5 : Int32) q1)))
set_option maxRecDepth 100000 in
set_option maxHeartbeats 4000000 in
theorem tX1_takesPart_b22 {N : Nat} {G : pG} {SK : Nat → Nat} {a0 : Nat} {a2 : Nat} {y0 : Int32} {σ : pS} {r : Int32 × pS} (hW : WT G) (i0 : Is G a0 1) (i2 : Is G a2 0) (h : fX1_takesPart_b22 N G a0 a2 y0 σ = some r) : Ev miX1_takesPart (11, 0, 0) G (Zp G (some (.int r.1)) r.2) SK (0, 0) 22 [some (.ref a0), none, some (.ref a2), none, none] [.int y0] σ := by
  unfold fX1_takesPart_b22 at h
  refine ev_istore (lv' := [some (.ref a0), none, some (.ref a2), none, some (.int y0)]) dc_X1_takesPart_22 rfl (by decide) rfl ?_
  refine ev_iload dc_X1_takesPart_24 rfl ?_
  refine ev_iconst (v := (-1)) dc_X1_takesPart_26 (by decide) ?_
  refine ev_icmp_ne (tgt := 32) dc_X1_takesPart_27 (by decide) h (fun h => ?_) (fun h => ?_)
  · refine ev_iconst (v := 0) dc_X1_takesPart_30 (by decide) ?_
    cases h
    exact ev_zretc dc_X1_takesPart_31 rfl rfl rfl rfl
  · refine ev_aload_n dc_X1_takesPart_32 rfl ?_
    refine ev_iload dc_X1_takesPart_33 rfl ?_
    obtain ⟨q1, hq1, h⟩ := Option.bind_eq_some_iff.mp h
    refine ev_callV (av := [.int y0]) (st := []) (st1 := []) dc_X1_takesPart_35 (tX0_addStep hW i2 hq1) mw_977 cy_X0_addStep i2 (by decide) rfl rfl rfl rfl (Nat.le_of_ble_eq_true rfl) (Nat.le_of_ble_eq_true rfl) ⟨Nat.le_refl _, Nat.le_refl _⟩ ?_
    refine ev_aload_n dc_X1_takesPart_38 rfl ?_
    refine ev_aload_n dc_X1_takesPart_39 rfl ?_
    refine ev_getI dc_X1_takesPart_40 fi_X1_11 rfl i0 ?_
    refine ev_bipush (v := 6) dc_X1_takesPart_43 (by decide) ?_
    refine ev_icmp_ne (tgt := 53) dc_X1_takesPart_45 (by decide) h (fun h => ?_) (fun h => ?_)
    · refine ev_bipush (v := 7) dc_X1_takesPart_48 (by decide) ?_
      refine ev_goto (tgt := 54) dc_X1_takesPart_50 (by decide) ?_
      exact ev_sub (tX1_takesPart_b54 hW i0 h) (And.intro rfl trivial)
    · refine ev_iconst (v := 5) dc_X1_takesPart_53 (by decide) ?_
      exact ev_sub (tX1_takesPart_b54 hW i0 h) (And.intro rfl trivial)
def fX1_takesPart (N : Nat) (G : pG) (a0 : Nat) (a1 : Nat) (a2 : Nat) (σ : pS) : Option (Int32 × pS) := (fX9_numberIn N G a1 (0 : Int32) (999 : Int32) σ).bind (fun q2 => if q2 = (-1 : Int32) then ((fX1_partAt N G a1 σ).bind (fun q3 => fX1_takesPart_b22 N G a0 a2 q3 σ)) else (fX1_takesPart_b22 N G a0 a2 q2 σ))
set_option maxRecDepth 100000 in
set_option maxHeartbeats 4000000 in
theorem tX1_takesPart {N : Nat} {G : pG} {SK : Nat → Nat} {a0 : Nat} {a1 : Nat} {a2 : Nat} {σ : pS} {r : Int32 × pS} (hW : WT G) (i0 : Is G a0 1) (i1 : Is G a1 8) (i2 : Is G a2 0) (h : fX1_takesPart N G a0 a1 a2 σ = some r) : Dn miX1_takesPart yX1_takesPart 11 G SK [.ref a0, .ref a1, .ref a2] σ (some (.int r.1)) r.2 := by
  unfold fX1_takesPart at h
  refine dn_of (lv := [some (.ref a0), some (.ref a1), some (.ref a2), none, none]) (by decide) rfl rfl (Nat.le_of_ble_eq_true rfl) rfl ?_
  refine ev_aload_n dc_X1_takesPart_0 rfl ?_
  refine ev_iconst (v := 0) dc_X1_takesPart_1 (by decide) ?_
  refine ev_sipush (v := 999) dc_X1_takesPart_2 (by decide) ?_
  obtain ⟨q2, hq2, h⟩ := Option.bind_eq_some_iff.mp h
  refine ev_callV (av := [.int (0 : Int32), .int (999 : Int32)]) (st := []) (st1 := [.int q2]) dc_X1_takesPart_5 (tX9_numberIn hW i1 hq2) mw_966 cy_X9_numberIn i1 (by decide) rfl rfl rfl rfl (Nat.le_of_ble_eq_true rfl) (Nat.le_of_ble_eq_true rfl) ⟨Nat.le_refl _, Nat.le_refl _⟩ ?_
  refine ev_istore_n (lv' := [some (.ref a0), some (.ref a1), some (.ref a2), some (.int q2), none]) dc_X1_takesPart_8 rfl (by decide) rfl ?_
  refine ev_iload_n dc_X1_takesPart_9 rfl ?_
  refine ev_iconst (v := (-1)) dc_X1_takesPart_10 (by decide) ?_
  refine ev_icmp_ne (tgt := 21) dc_X1_takesPart_11 (by decide) h (fun h => ?_) (fun h => ?_)
  · refine ev_aload_n dc_X1_takesPart_14 rfl ?_
    obtain ⟨q3, hq3, h⟩ := Option.bind_eq_some_iff.mp h
    refine ev_callS (av := [.ref a1]) (st := []) (st1 := [.int q3]) dc_X1_takesPart_15 (tX1_partAt hW i1 hq3) mw_1008 cs_X1_partAt rfl rfl rfl (Nat.le_of_ble_eq_true rfl) (Nat.le_of_ble_eq_true rfl) ⟨Nat.le_refl _, Nat.le_refl _⟩ ?_
    refine ev_goto (tgt := 22) dc_X1_takesPart_18 (by decide) ?_
    exact ev_sub (tX1_takesPart_b22 hW i0 i2 h) (And.intro rfl (And.intro rfl trivial))
  · refine ev_iload_n dc_X1_takesPart_21 rfl ?_
    exact ev_sub (tX1_takesPart_b22 hW i0 i2 h) (And.intro rfl (And.intro rfl trivial))
