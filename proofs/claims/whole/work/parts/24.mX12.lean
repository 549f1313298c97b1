theorem dc_X12_readCond_0 : Dc miX12_readCond 0 (.aload_n 0) 1 1 := ⟨by decide +kernel, rfl⟩
theorem dc_X12_readCond_1 : Dc miX12_readCond 1 (.invokevirtual 244) 3 4 := ⟨by decide +kernel, rfl⟩
theorem dc_X12_readCond_4 : Dc miX12_readCond 4 (.ifCond .ne 5) 3 7 := ⟨by decide +kernel, rfl⟩
theorem dc_X12_readCond_7 : Dc miX12_readCond 7 (.iconst 0) 1 8 := ⟨by decide +kernel, rfl⟩
theorem dc_X12_readCond_8 : Dc miX12_readCond 8 (.ireturn) 1 9 := ⟨by decide +kernel, rfl⟩
theorem dc_X12_readCond_9 : Dc miX12_readCond 9 (.aload_n 0) 1 10 := ⟨by decide +kernel, rfl⟩
theorem dc_X12_readCond_10 : Dc miX12_readCond 10 (.ldc 247) 2 12 := ⟨by decide +kernel, rfl⟩
theorem dc_X12_readCond_12 : Dc miX12_readCond 12 (.invokevirtual 136) 3 15 := ⟨by decide +kernel, rfl⟩
theorem dc_X12_readCond_15 : Dc miX12_readCond 15 (.ifCond .eq 22) 3 18 := ⟨by decide +kernel, rfl⟩
theorem dc_X12_readCond_18 : Dc miX12_readCond 18 (.aload_n 0) 1 19 := ⟨by decide +kernel, rfl⟩
theorem dc_X12_readCond_19 : Dc miX12_readCond 19 (.invokevirtual 244) 3 22 := ⟨by decide +kernel, rfl⟩
theorem dc_X12_readCond_22 : Dc miX12_readCond 22 (.ifCond .ne 5) 3 25 := ⟨by decide +kernel, rfl⟩
theorem dc_X12_readCond_25 : Dc miX12_readCond 25 (.iconst 0) 1 26 := ⟨by decide +kernel, rfl⟩
theorem dc_X12_readCond_26 : Dc miX12_readCond 26 (.ireturn) 1 27 := ⟨by decide +kernel, rfl⟩
theorem dc_X12_readCond_27 : Dc miX12_readCond 27 (.aload_n 0) 1 28 := ⟨by decide +kernel, rfl⟩
theorem dc_X12_readCond_28 : Dc miX12_readCond 28 (.bipush 14) 2 30 := ⟨by decide +kernel, rfl⟩
theorem dc_X12_readCond_30 : Dc miX12_readCond 30 (.iconst 0) 1 31 := ⟨by decide +kernel, rfl⟩
theorem dc_X12_readCond_31 : Dc miX12_readCond 31 (.invokevirtual 205) 3 34 := ⟨by decide +kernel, rfl⟩
theorem dc_X12_readCond_34 : Dc miX12_readCond 34 (.goto (-25)) 3 37 := ⟨by decide +kernel, rfl⟩
theorem dc_X12_readCond_37 : Dc miX12_readCond 37 (.iconst 1) 1 38 := ⟨by decide +kernel, rfl⟩
theorem dc_X12_readCond_38 : Dc miX12_readCond 38 (.ireturn) 1 39 := ⟨by decide +kernel, rfl⟩
def fX12_readCond_b9 (N : Nat) (G : pG) (rc : Nat × pS → Option (Int32 × pS)) (a0 : Nat) : pS → Option (Int32 × pS) := lp (fun (k9 : pS → Option (Int32 × pS)) (b : pS) => (fX12_passes N G a0 71 b).bind (fun q1 => if q1.1 = 0 then (some ((1 : Int32), q1.2)) else ((fX12_readAllOf N G rc a0 q1.2).bind (fun q2 => if q2.1 = 0 then (some ((0 : Int32), q2.2)) else ((fX12_emits N G a0 (14 : Int32) (0 : Int32) q2.2).bind (fun q3 => k9 q3)))))) N
set_option maxRecDepth 100000 in
set_option maxHeartbeats 4000000 in
theorem tX12_readCond_b9 {N : Nat} {G : pG} {SK : Nat → Nat} {rc : Nat × pS → Option (Int32 × pS)} {d0 : Nat} {a0 : Nat} {b : pS} {r : Int32 × pS} (hW : WT G) (hrc : ∀ (b : Nat × pS), Is G b.1 11 → ∀ (r : Int32 × pS), rc b = some r → Dn miX12_readAtom yX12_readAtom d0 G SK [.ref b.1] b.2 (some (.int r.1)) r.2) (i0 : Is G a0 11) (h : fX12_readCond_b9 N G rc a0 b = some r) : Ev miX12_readCond (d0 + 12, 0, 0) G (Zp G (some (.int r.1)) r.2) SK (0, 0) 9 [some (.ref a0)] [] b := by
  unfold fX12_readCond_b9 at h
  refine lp_ind (P := fun b r9 => r9 = r → Ev miX12_readCond (d0 + 12, 0, 0) G (Zp G (some (.int r.1)) r.2) SK (0, 0) 9 [some (.ref a0)] [] b) (fun k9 σ r9 ih h9 e9 => ?_) N b r h rfl
  clear h
  subst e9
  have h := h9
  clear h9
  have hk9 : ∀ b : pS, k9 b = some r9 → Ev miX12_readCond (d0 + 12, 0, 0) G (Zp G (some (.int r9.1)) r9.2) SK (0, 0) 9 [some (.ref a0)] [] b := fun b hb => ih b r9 hb rfl
  clear ih
  try dsimp only at h ⊢
  refine ev_aload_n dc_X12_readCond_9 rfl ?_
  refine ev_ldcS (sid := 71) (tx := "or") dc_X12_readCond_10 (List.mem_of_getElem? (i := 71) rfl) ?_
  obtain ⟨q1, hq1, h⟩ := Option.bind_eq_some_iff.mp h
  refine ev_callV (av := [.ref (SK 71)]) (st := []) (st1 := [.int q1.1]) dc_X12_readCond_12 (tX12_passes hW i0 rfl hq1) mw_1681 cy_X12_passes i0 (by decide) rfl rfl rfl rfl (Nat.le_of_ble_eq_true rfl) (show _ ≤ d0 + 12 from by omega) ⟨Nat.le_refl _, Nat.le_refl _⟩ ?_
  refine ev_if_eq (tgt := 37) dc_X12_readCond_15 (by decide) h (fun h => ?_) (fun h => ?_)
  · refine ev_iconst (v := 1) dc_X12_readCond_37 (by decide) ?_
    cases h
    exact ev_zretc dc_X12_readCond_38 rfl rfl rfl rfl
  · refine ev_aload_n dc_X12_readCond_18 rfl ?_
    obtain ⟨q2, hq2, h⟩ := Option.bind_eq_some_iff.mp h
    refine ev_callV (av := []) (st := []) (st1 := [.int q2.1]) dc_X12_readCond_19 (tX12_readAllOf hW hrc i0 hq2) mw_1748 cy_X12_readAllOf i0 (by decide) rfl rfl rfl rfl (Nat.le_of_ble_eq_true rfl) (show _ ≤ d0 + 12 from by omega) ⟨Nat.le_refl _, Nat.le_refl _⟩ ?_
    refine ev_if_ne (tgt := 27) dc_X12_readCond_22 (by decide) h (fun h => ?_) (fun h => ?_)
    · refine ev_iconst (v := 0) dc_X12_readCond_25 (by decide) ?_
      cases h
      exact ev_zretc dc_X12_readCond_26 rfl rfl rfl rfl
    · refine ev_aload_n dc_X12_readCond_27 rfl ?_
      refine ev_bipush (v := 14) dc_X12_readCond_28 (by decide) ?_
      refine ev_iconst (v := 0) dc_X12_readCond_30 (by decide) ?_
      obtain ⟨q3, hq3, h⟩ := Option.bind_eq_some_iff.mp h
      refine ev_callV (av := [.int (14 : Int32), .int (0 : Int32)]) (st := []) (st1 := []) dc_X12_readCond_31 (tX12_emits hW i0 hq3) mw_1761 cy_X12_emits i0 (by decide) rfl rfl rfl rfl (Nat.le_of_ble_eq_true rfl) (show _ ≤ d0 + 12 from by omega) ⟨Nat.le_refl _, Nat.le_refl _⟩ ?_
      refine ev_goto (tgt := 9) dc_X12_readCond_34 (by decide) ?_
      exact ev_sub (hk9 q3 h) (And.intro rfl trivial)
def fX12_readCond (N : Nat) (G : pG) (rc : Nat × pS → Option (Int32 × pS)) (a0 : Nat) (σ : pS) : Option (Int32 × pS) := (fX12_readAllOf N G rc a0 σ).bind (fun q4 => if q4.1 = 0 then (some ((0 : Int32), q4.2)) else (fX12_readCond_b9 N G rc a0 q4.2))
set_option maxRecDepth 100000 in
set_option maxHeartbeats 4000000 in
theorem tX12_readCond {N : Nat} {G : pG} {SK : Nat → Nat} {rc : Nat × pS → Option (Int32 × pS)} {d0 : Nat} {a0 : Nat} {σ : pS} {r : Int32 × pS} (hW : WT G) (hrc : ∀ (b : Nat × pS), Is G b.1 11 → ∀ (r : Int32 × pS), rc b = some r → Dn miX12_readAtom yX12_readAtom d0 G SK [.ref b.1] b.2 (some (.int r.1)) r.2) (i0 : Is G a0 11) (h : fX12_readCond N G rc a0 σ = some r) : Dn miX12_readCond yX12_readCond (d0 + 12) G SK [.ref a0] σ (some (.int r.1)) r.2 := by
  unfold fX12_readCond at h
  refine dn_of (lv := [some (.ref a0)]) (by decide) rfl rfl (Nat.le_of_ble_eq_true rfl) rfl ?_
  refine ev_aload_n dc_X12_readCond_0 rfl ?_
  obtain ⟨q4, hq4, h⟩ := Option.bind_eq_some_iff.mp h
  refine ev_callV (av := []) (st := []) (st1 := [.int q4.1]) dc_X12_readCond_1 (tX12_readAllOf hW hrc i0 hq4) mw_1748 cy_X12_readAllOf i0 (by decide) rfl rfl rfl rfl (Nat.le_of_ble_eq_true rfl) (show _ ≤ d0 + 12 from by omega) ⟨Nat.le_refl _, Nat.le_refl _⟩ ?_
  refine ev_if_ne (tgt := 9) dc_X12_readCond_4 (by decide) h (fun h => ?_) (fun h => ?_)
  · refine ev_iconst (v := 0) dc_X12_readCond_7 (by decide) ?_
    cases h
    exact ev_zretc dc_X12_readCond_8 rfl rfl rfl rfl
  · exact ev_sub (tX12_readCond_b9 (b := q4.2) hW hrc i0 h) (And.intro rfl trivial)
theorem dc_X12_readAtom_0 : Dc miX12_readAtom 0 (.aload_n 0) 1 1 := ⟨by decide +kernel, rfl⟩
theorem dc_X12_readAtom_1 : Dc miX12_readAtom 1 (.bipush 40) 2 3 := ⟨by decide +kernel, rfl⟩
theorem dc_X12_readAtom_3 : Dc miX12_readAtom 3 (.invokevirtual 218) 3 6 := ⟨by decide +kernel, rfl⟩
theorem dc_X12_readAtom_6 : Dc miX12_readAtom 6 (.ifCond .eq 50) 3 9 := ⟨by decide +kernel, rfl⟩
theorem dc_X12_readAtom_9 : Dc miX12_readAtom 9 (.aload_n 0) 1 10 := ⟨by decide +kernel, rfl⟩
theorem dc_X12_readAtom_10 : Dc miX12_readAtom 10 (.getfield 225) 3 13 := ⟨by decide +kernel, rfl⟩
theorem dc_X12_readAtom_13 : Dc miX12_readAtom 13 (.bipush 6) 2 15 := ⟨by decide +kernel, rfl⟩
theorem dc_X12_readAtom_15 : Dc miX12_readAtom 15 (.if_icmp .ne 5) 3 18 := ⟨by decide +kernel, rfl⟩
theorem dc_X12_readAtom_18 : Dc miX12_readAtom 18 (.iconst 0) 1 19 := ⟨by decide +kernel, rfl⟩
theorem dc_X12_readAtom_19 : Dc miX12_readAtom 19 (.ireturn) 1 20 := ⟨by decide +kernel, rfl⟩
theorem dc_X12_readAtom_20 : Dc miX12_readAtom 20 (.aload_n 0) 1 21 := ⟨by decide +kernel, rfl⟩
theorem dc_X12_readAtom_21 : Dc miX12_readAtom 21 (.dup) 1 22 := ⟨by decide +kernel, rfl⟩
theorem dc_X12_readAtom_22 : Dc miX12_readAtom 22 (.getfield 225) 3 25 := ⟨by decide +kernel, rfl⟩
theorem dc_X12_readAtom_25 : Dc miX12_readAtom 25 (.iconst 1) 1 26 := ⟨by decide +kernel, rfl⟩
theorem dc_X12_readAtom_26 : Dc miX12_readAtom 26 (.iadd) 1 27 := ⟨by decide +kernel, rfl⟩
theorem dc_X12_readAtom_27 : Dc miX12_readAtom 27 (.putfield 225) 3 30 := ⟨by decide +kernel, rfl⟩
theorem dc_X12_readAtom_30 : Dc miX12_readAtom 30 (.aload_n 0) 1 31 := ⟨by decide +kernel, rfl⟩
theorem dc_X12_readAtom_31 : Dc miX12_readAtom 31 (.invokevirtual 228) 3 34 := ⟨by decide +kernel, rfl⟩
theorem dc_X12_readAtom_34 : Dc miX12_readAtom 34 (.ifCond .ne 5) 3 37 := ⟨by decide +kernel, rfl⟩
theorem dc_X12_readAtom_37 : Dc miX12_readAtom 37 (.iconst 0) 1 38 := ⟨by decide +kernel, rfl⟩
theorem dc_X12_readAtom_38 : Dc miX12_readAtom 38 (.ireturn) 1 39 := ⟨by decide +kernel, rfl⟩
theorem dc_X12_readAtom_39 : Dc miX12_readAtom 39 (.aload_n 0) 1 40 := ⟨by decide +kernel, rfl⟩
theorem dc_X12_readAtom_40 : Dc miX12_readAtom 40 (.dup) 1 41 := ⟨by decide +kernel, rfl⟩
theorem dc_X12_readAtom_41 : Dc miX12_readAtom 41 (.getfield 225) 3 44 := ⟨by decide +kernel, rfl⟩
theorem dc_X12_readAtom_44 : Dc miX12_readAtom 44 (.iconst 1) 1 45 := ⟨by decide +kernel, rfl⟩
theorem dc_X12_readAtom_45 : Dc miX12_readAtom 45 (.isub) 1 46 := ⟨by decide +kernel, rfl⟩
theorem dc_X12_readAtom_46 : Dc miX12_readAtom 46 (.putfield 225) 3 49 := ⟨by decide +kernel, rfl⟩
theorem dc_X12_readAtom_49 : Dc miX12_readAtom 49 (.aload_n 0) 1 50 := ⟨by decide +kernel, rfl⟩
theorem dc_X12_readAtom_50 : Dc miX12_readAtom 50 (.bipush 41) 2 52 := ⟨by decide +kernel, rfl⟩
theorem dc_X12_readAtom_52 : Dc miX12_readAtom 52 (.invokevirtual 218) 3 55 := ⟨by decide +kernel, rfl⟩
theorem dc_X12_readAtom_55 : Dc miX12_readAtom 55 (.ireturn) 1 56 := ⟨by decide +kernel, rfl⟩
theorem dc_X12_readAtom_56 : Dc miX12_readAtom 56 (.aload_n 0) 1 57 := ⟨by decide +kernel, rfl⟩
theorem dc_X12_readAtom_57 : Dc miX12_readAtom 57 (.ldc 231) 2 59 := ⟨by decide +kernel, rfl⟩
theorem dc_X12_readAtom_59 : Dc miX12_readAtom 59 (.invokevirtual 136) 3 62 := ⟨by decide +kernel, rfl⟩
theorem dc_X12_readAtom_62 : Dc miX12_readAtom 62 (.ifCond .eq 52) 3 65 := ⟨by decide +kernel, rfl⟩
theorem dc_X12_readAtom_65 : Dc miX12_readAtom 65 (.aload_n 0) 1 66 := ⟨by decide +kernel, rfl⟩
theorem dc_X12_readAtom_66 : Dc miX12_readAtom 66 (.getfield 225) 3 69 := ⟨by decide +kernel, rfl⟩
theorem dc_X12_readAtom_69 : Dc miX12_readAtom 69 (.bipush 6) 2 71 := ⟨by decide +kernel, rfl⟩
theorem dc_X12_readAtom_71 : Dc miX12_readAtom 71 (.if_icmp .ne 5) 3 74 := ⟨by decide +kernel, rfl⟩
theorem dc_X12_readAtom_74 : Dc miX12_readAtom 74 (.iconst 0) 1 75 := ⟨by decide +kernel, rfl⟩
theorem dc_X12_readAtom_75 : Dc miX12_readAtom 75 (.ireturn) 1 76 := ⟨by decide +kernel, rfl⟩
theorem dc_X12_readAtom_76 : Dc miX12_readAtom 76 (.aload_n 0) 1 77 := ⟨by decide +kernel, rfl⟩
theorem dc_X12_readAtom_77 : Dc miX12_readAtom 77 (.dup) 1 78 := ⟨by decide +kernel, rfl⟩
theorem dc_X12_readAtom_78 : Dc miX12_readAtom 78 (.getfield 225) 3 81 := ⟨by decide +kernel, rfl⟩
theorem dc_X12_readAtom_81 : Dc miX12_readAtom 81 (.iconst 1) 1 82 := ⟨by decide +kernel, rfl⟩
theorem dc_X12_readAtom_82 : Dc miX12_readAtom 82 (.iadd) 1 83 := ⟨by decide +kernel, rfl⟩
theorem dc_X12_readAtom_83 : Dc miX12_readAtom 83 (.putfield 225) 3 86 := ⟨by decide +kernel, rfl⟩
theorem dc_X12_readAtom_86 : Dc miX12_readAtom 86 (.aload_n 0) 1 87 := ⟨by decide +kernel, rfl⟩
theorem dc_X12_readAtom_87 : Dc miX12_readAtom 87 (.invokevirtual 233) 3 90 := ⟨by decide +kernel, rfl⟩
theorem dc_X12_readAtom_90 : Dc miX12_readAtom 90 (.ifCond .ne 5) 3 93 := ⟨by decide +kernel, rfl⟩
theorem dc_X12_readAtom_93 : Dc miX12_readAtom 93 (.iconst 0) 1 94 := ⟨by decide +kernel, rfl⟩
theorem dc_X12_readAtom_94 : Dc miX12_readAtom 94 (.ireturn) 1 95 := ⟨by decide +kernel, rfl⟩
theorem dc_X12_readAtom_95 : Dc miX12_readAtom 95 (.aload_n 0) 1 96 := ⟨by decide +kernel, rfl⟩
theorem dc_X12_readAtom_96 : Dc miX12_readAtom 96 (.dup) 1 97 := ⟨by decide +kernel, rfl⟩
theorem dc_X12_readAtom_97 : Dc miX12_readAtom 97 (.getfield 225) 3 100 := ⟨by decide +kernel, rfl⟩
theorem dc_X12_readAtom_100 : Dc miX12_readAtom 100 (.iconst 1) 1 101 := ⟨by decide +kernel, rfl⟩
theorem dc_X12_readAtom_101 : Dc miX12_readAtom 101 (.isub) 1 102 := ⟨by decide +kernel, rfl⟩
theorem dc_X12_readAtom_102 : Dc miX12_readAtom 102 (.putfield 225) 3 105 := ⟨by decide +kernel, rfl⟩
theorem dc_X12_readAtom_105 : Dc miX12_readAtom 105 (.aload_n 0) 1 106 := ⟨by decide +kernel, rfl⟩
theorem dc_X12_readAtom_106 : Dc miX12_readAtom 106 (.bipush 12) 2 108 := ⟨by decide +kernel, rfl⟩
theorem dc_X12_readAtom_108 : Dc miX12_readAtom 108 (.iconst 0) 1 109 := ⟨by decide +kernel, rfl⟩
theorem dc_X12_readAtom_109 : Dc miX12_readAtom 109 (.invokevirtual 205) 3 112 := ⟨by decide +kernel, rfl⟩
theorem dc_X12_readAtom_112 : Dc miX12_readAtom 112 (.iconst 1) 1 113 := ⟨by decide +kernel, rfl⟩
theorem dc_X12_readAtom_113 : Dc miX12_readAtom 113 (.ireturn) 1 114 := ⟨by decide +kernel, rfl⟩
theorem dc_X12_readAtom_114 : Dc miX12_readAtom 114 (.aload_n 0) 1 115 := ⟨by decide +kernel, rfl⟩
theorem dc_X12_readAtom_115 : Dc miX12_readAtom 115 (.invokevirtual 236) 3 118 := ⟨by decide +kernel, rfl⟩
theorem dc_X12_readAtom_118 : Dc miX12_readAtom 118 (.ifCond .eq 5) 3 121 := ⟨by decide +kernel, rfl⟩
theorem dc_X12_readAtom_121 : Dc miX12_readAtom 121 (.iconst 1) 1 122 := ⟨by decide +kernel, rfl⟩
theorem dc_X12_readAtom_122 : Dc miX12_readAtom 122 (.ireturn) 1 123 := ⟨by decide +kernel, rfl⟩
theorem dc_X12_readAtom_123 : Dc miX12_readAtom 123 (.aload_n 0) 1 124 := ⟨by decide +kernel, rfl⟩
theorem dc_X12_readAtom_124 : Dc miX12_readAtom 124 (.invokevirtual 239) 3 127 := ⟨by decide +kernel, rfl⟩
theorem dc_X12_readAtom_127 : Dc miX12_readAtom 127 (.ifCond .ne 5) 3 130 := ⟨by decide +kernel, rfl⟩
theorem dc_X12_readAtom_130 : Dc miX12_readAtom 130 (.iconst 0) 1 131 := ⟨by decide +kernel, rfl⟩
theorem dc_X12_readAtom_131 : Dc miX12_readAtom 131 (.ireturn) 1 132 := ⟨by decide +kernel, rfl⟩
theorem dc_X12_readAtom_132 : Dc miX12_readAtom 132 (.aload_n 0) 1 133 := ⟨by decide +kernel, rfl⟩
theorem dc_X12_readAtom_133 : Dc miX12_readAtom 133 (.bipush 60) 2 135 := ⟨by decide +kernel, rfl⟩
theorem dc_X12_readAtom_135 : Dc miX12_readAtom 135 (.invokevirtual 218) 3 138 := ⟨by decide +kernel, rfl⟩
theorem dc_X12_readAtom_138 : Dc miX12_readAtom 138 (.istore_n 1) 1 139 := ⟨by decide +kernel, rfl⟩
theorem dc_X12_readAtom_139 : Dc miX12_readAtom 139 (.iload_n 1) 1 140 := ⟨by decide +kernel, rfl⟩
theorem dc_X12_readAtom_140 : Dc miX12_readAtom 140 (.ifCond .ne 12) 3 143 := ⟨by decide +kernel, rfl⟩
theorem dc_X12_readAtom_143 : Dc miX12_readAtom 143 (.aload_n 0) 1 144 := ⟨by decide +kernel, rfl⟩
theorem dc_X12_readAtom_144 : Dc miX12_readAtom 144 (.bipush 62) 2 146 := ⟨by decide +kernel, rfl⟩
theorem dc_X12_readAtom_146 : Dc miX12_readAtom 146 (.invokevirtual 218) 3 149 := ⟨by decide +kernel, rfl⟩
theorem dc_X12_readAtom_149 : Dc miX12_readAtom 149 (.ifCond .eq 10) 3 152 := ⟨by decide +kernel, rfl⟩
theorem dc_X12_readAtom_152 : Dc miX12_readAtom 152 (.aload_n 0) 1 153 := ⟨by decide +kernel, rfl⟩
theorem dc_X12_readAtom_153 : Dc miX12_readAtom 153 (.invokevirtual 239) 3 156 := ⟨by decide +kernel, rfl⟩
theorem dc_X12_readAtom_156 : Dc miX12_readAtom 156 (.ifCond .ne 5) 3 159 := ⟨by decide +kernel, rfl⟩
theorem dc_X12_readAtom_159 : Dc miX12_readAtom 159 (.iconst 0) 1 160 := ⟨by decide +kernel, rfl⟩
theorem dc_X12_readAtom_160 : Dc miX12_readAtom 160 (.ireturn) 1 161 := ⟨by decide +kernel, rfl⟩
theorem dc_X12_readAtom_161 : Dc miX12_readAtom 161 (.aload_n 0) 1 162 := ⟨by decide +kernel, rfl⟩
theorem dc_X12_readAtom_162 : Dc miX12_readAtom 162 (.iload_n 1) 1 163 := ⟨by decide +kernel, rfl⟩
theorem dc_X12_readAtom_163 : Dc miX12_readAtom 163 (.ifCond .eq 8) 3 166 := ⟨by decide +kernel, rfl⟩
theorem dc_X12_readAtom_166 : Dc miX12_readAtom 166 (.bipush 10) 2 168 := ⟨by decide +kernel, rfl⟩
theorem dc_X12_readAtom_168 : Dc miX12_readAtom 168 (.goto 5) 3 171 := ⟨by decide +kernel, rfl⟩
theorem dc_X12_readAtom_171 : Dc miX12_readAtom 171 (.bipush 11) 2 173 := ⟨by decide +kernel, rfl⟩
theorem dc_X12_readAtom_173 : Dc miX12_readAtom 173 (.iconst 0) 1 174 := ⟨by decide +kernel, rfl⟩
theorem dc_X12_readAtom_174 : Dc miX12_readAtom 174 (.invokevirtual 205) 3 177 := ⟨by decide +kernel, rfl⟩
theorem dc_X12_readAtom_177 : Dc miX12_readAtom 177 (.iconst 1) 1 178 := ⟨by decide +kernel, rfl⟩
theorem dc_X12_readAtom_178 : Dc miX12_readAtom 178 (.ireturn) 1 179 := ⟨by decide +kernel, rfl⟩
def fX12_readAtom_b173 (N : Nat) (G : pG) (rc : Nat × pS → Option (Int32 × pS)) (a0 : Nat) (y1 : Int32) (σ : pS) : Option (Int32 × pS) := (fX12_emits N G a0 y1 (0 : Int32) σ).bind (fun q1 => some ((1 : Int32), q1))
set_option maxRecDepth 100000 in
set_option maxHeartbeats 4000000 in
theorem tX12_readAtom_b173 {N : Nat} {G : pG} {SK : Nat → Nat} {rc : Nat × pS → Option (Int32 × pS)} {d0 : Nat} {a0 : Nat} {y1 : Int32} {σ : pS} {r : Int32 × pS} (hW : WT G) (hrc : ∀ (b : Nat × pS), Is G b.1 11 → ∀ (r : Int32 × pS), rc b = some r → Dn miX12_readAtom yX12_readAtom d0 G SK [.ref b.1] b.2 (some (.int r.1)) r.2) (i0 : Is G a0 11) (h : fX12_readAtom_b173 N G rc a0 y1 σ = some r) : Ev miX12_readAtom (d0 + 13, 0, 0) G (Zp G (some (.int r.1)) r.2) SK (0, 0) 173 [some (.ref a0), none] [.int y1, .ref a0] σ := by
  unfold fX12_readAtom_b173 at h
  refine ev_iconst (v := 0) dc_X12_readAtom_173 (by decide) ?_
  obtain ⟨q1, hq1, h⟩ := Option.bind_eq_some_iff.mp h
  refine ev_callV (av := [.int y1, .int (0 : Int32)]) (st := []) (st1 := []) dc_X12_readAtom_174 (tX12_emits hW i0 hq1) mw_1761 cy_X12_emits i0 (by decide) rfl rfl rfl rfl (Nat.le_of_ble_eq_true rfl) (show _ ≤ d0 + 13 from by omega) ⟨Nat.le_refl _, Nat.le_refl _⟩ ?_
  refine ev_iconst (v := 1) dc_X12_readAtom_177 (by decide) ?_
  cases h
  exact ev_zretc dc_X12_readAtom_178 rfl rfl rfl rfl
def fX12_readAtom_b152 (N : Nat) (G : pG) (rc : Nat × pS → Option (Int32 × pS)) (a0 : Nat) (x1 : Int32) (σ : pS) : Option (Int32 × pS) := (fX12_readSum N G a0 σ).bind (fun q2 => if q2.1 = 0 then (some ((0 : Int32), q2.2)) else (if x1 = 0 then (fX12_readAtom_b173 N G rc a0 (11 : Int32) q2.2) else (fX12_readAtom_b173 N G rc a0 (10 : Int32) q2.2)))
set_option maxRecDepth 100000 in
set_option maxHeartbeats 4000000 in
theorem tX12_readAtom_b152 {N : Nat} {G : pG} {SK : Nat → Nat} {rc : Nat × pS → Option (Int32 × pS)} {d0 : Nat} {a0 : Nat} {x1 : Int32} {σ : pS} {r : Int32 × pS} (hW : WT G) (hrc : ∀ (b : Nat × pS), Is G b.1 11 → ∀ (r : Int32 × pS), rc b = some r → Dn miX12_readAtom yX12_readAtom d0 G SK [.ref b.1] b.2 (some (.int r.1)) r.2) (i0 : Is G a0 11) (h : fX12_readAtom_b152 N G rc a0 x1 σ = some r) : Ev miX12_readAtom (d0 + 13, 0, 0) G (Zp G (some (.int r.1)) r.2) SK (0, 0) 152 [some (.ref a0), some (.int x1)] [] σ := by
  unfold fX12_readAtom_b152 at h
  refine ev_aload_n dc_X12_readAtom_152 rfl ?_
  obtain ⟨q2, hq2, h⟩ := Option.bind_eq_some_iff.mp h
  refine ev_callV (av := []) (st := []) (st1 := [.int q2.1]) dc_X12_readAtom_153 (tX12_readSum hW i0 hq2) mw_1771 cy_X12_readSum i0 (by decide) rfl rfl rfl rfl (Nat.le_of_ble_eq_true rfl) (show _ ≤ d0 + 13 from by omega) ⟨Nat.le_refl _, Nat.le_refl _⟩ ?_
  refine ev_if_ne (tgt := 161) dc_X12_readAtom_156 (by decide) h (fun h => ?_) (fun h => ?_)
  · refine ev_iconst (v := 0) dc_X12_readAtom_159 (by decide) ?_
    cases h
    exact ev_zretc dc_X12_readAtom_160 rfl rfl rfl rfl
  · refine ev_aload_n dc_X12_readAtom_161 rfl ?_
    refine ev_iload_n dc_X12_readAtom_162 rfl ?_
    refine ev_if_eq (tgt := 171) dc_X12_readAtom_163 (by decide) h (fun h => ?_) (fun h => ?_)
    · refine ev_bipush (v := 11) dc_X12_readAtom_171 (by decide) ?_
      exact ev_sub (tX12_readAtom_b173 hW hrc i0 h) (And.intro rfl trivial)
    · refine ev_bipush (v := 10) dc_X12_readAtom_166 (by decide) ?_
      refine ev_goto (tgt := 173) dc_X12_readAtom_168 (by decide) ?_
      exact ev_sub (tX12_readAtom_b173 hW hrc i0 h) (And.intro rfl trivial)
def fX12_readAtom_u (N : Nat) (G : pG) (rc : Nat × pS → Option (Int32 × pS)) (a0 : Nat) (σ : pS) : Option (Int32 × pS) := (fX12_sign N G a0 (40 : Int32) σ).bind (fun q3 => if q3.1 = 0 then ((fX12_passes N G a0 64 q3.2).bind (fun q4 => if q4.1 = 0 then ((fX12_readTag N G a0 q4.2).bind (fun q5 => if q5.1 = 0 then ((fX12_readSum N G a0 q5.2).bind (fun q6 => if q6.1 = 0 then (some ((0 : Int32), q6.2)) else ((fX12_sign N G a0 (60 : Int32) q6.2).bind (fun q7 => if q7.1 = 0 then ((fX12_sign N G a0 (62 : Int32) q7.2).bind (fun q8 => if q8.1 = 0 then (some ((0 : Int32), q8.2)) else (fX12_readAtom_b152 N G rc a0 q7.1 q8.2))) else (fX12_readAtom_b152 N G rc a0 q7.1 q7.2))))) else (some ((1 : Int32), q5.2)))) else (if (q4.2.1 a0 13) = (6 : Int32) then (some ((0 : Int32), q4.2)) else ((rc (a0, putF q4.2 a0 13 ((q4.2.1 a0 13) + (1 : Int32)))).bind (fun q9 => if q9.1 = 0 then (some ((0 : Int32), q9.2)) else ((fX12_emits N G a0 (12 : Int32) (0 : Int32) (putF q9.2 a0 13 ((q9.2.1 a0 13) - (1 : Int32)))).bind (fun q10 => some ((1 : Int32), q10)))))))) else (if (q3.2.1 a0 13) = (6 : Int32) then (some ((0 : Int32), q3.2)) else ((fX12_readCond N G rc a0 (putF q3.2 a0 13 ((q3.2.1 a0 13) + (1 : Int32)))).bind (fun q11 => if q11.1 = 0 then (some ((0 : Int32), q11.2)) else ((fX12_sign N G a0 (41 : Int32) (putF q11.2 a0 13 ((q11.2.1 a0 13) - (1 : Int32)))).bind (fun q12 => ck (isZ q12.1) (some (q12.1, q12.2))))))))
set_option maxRecDepth 100000 in
set_option maxHeartbeats 4000000 in
theorem tX12_readAtom_u {N : Nat} {G : pG} {SK : Nat → Nat} {rc : Nat × pS → Option (Int32 × pS)} {d0 : Nat} {a0 : Nat} {σ : pS} {r : Int32 × pS} (hW : WT G) (hrc : ∀ (b : Nat × pS), Is G b.1 11 → ∀ (r : Int32 × pS), rc b = some r → Dn miX12_readAtom yX12_readAtom d0 G SK [.ref b.1] b.2 (some (.int r.1)) r.2) (i0 : Is G a0 11) (h : fX12_readAtom_u N G rc a0 σ = some r) : Dn miX12_readAtom yX12_readAtom (d0 + 13) G SK [.ref a0] σ (some (.int r.1)) r.2 := by
  unfold fX12_readAtom_u at h
  refine dn_of (lv := [some (.ref a0), none]) (by decide) rfl rfl (Nat.le_of_ble_eq_true rfl) rfl ?_
  refine ev_aload_n dc_X12_readAtom_0 rfl ?_
  refine ev_bipush (v := 40) dc_X12_readAtom_1 (by decide) ?_
  obtain ⟨q3, hq3, h⟩ := Option.bind_eq_some_iff.mp h
  refine ev_callV (av := [.int (40 : Int32)]) (st := []) (st1 := [.int q3.1]) dc_X12_readAtom_3 (tX12_sign hW i0 hq3) mw_1756 cy_X12_sign i0 (by decide) rfl rfl rfl rfl (Nat.le_of_ble_eq_true rfl) (show _ ≤ d0 + 13 from by omega) ⟨Nat.le_refl _, Nat.le_refl _⟩ ?_
  refine ev_if_eq (tgt := 56) dc_X12_readAtom_6 (by decide) h (fun h => ?_) (fun h => ?_)
  · refine ev_aload_n dc_X12_readAtom_56 rfl ?_
    refine ev_ldcS (sid := 64) (tx := "not") dc_X12_readAtom_57 (List.mem_of_getElem? (i := 64) rfl) ?_
    obtain ⟨q4, hq4, h⟩ := Option.bind_eq_some_iff.mp h
    refine ev_callV (av := [.ref (SK 64)]) (st := []) (st1 := [.int q4.1]) dc_X12_readAtom_59 (tX12_passes hW i0 rfl hq4) mw_1681 cy_X12_passes i0 (by decide) rfl rfl rfl rfl (Nat.le_of_ble_eq_true rfl) (show _ ≤ d0 + 13 from by omega) ⟨Nat.le_refl _, Nat.le_refl _⟩ ?_
    refine ev_if_eq (tgt := 114) dc_X12_readAtom_62 (by decide) h (fun h => ?_) (fun h => ?_)
    · refine ev_aload_n dc_X12_readAtom_114 rfl ?_
      obtain ⟨q5, hq5, h⟩ := Option.bind_eq_some_iff.mp h
      refine ev_callV (av := []) (st := []) (st1 := [.int q5.1]) dc_X12_readAtom_115 (tX12_readTag hW i0 hq5) mw_1765 cy_X12_readTag i0 (by decide) rfl rfl rfl rfl (Nat.le_of_ble_eq_true rfl) (show _ ≤ d0 + 13 from by omega) ⟨Nat.le_refl _, Nat.le_refl _⟩ ?_
      refine ev_if_eq (tgt := 123) dc_X12_readAtom_118 (by decide) h (fun h => ?_) (fun h => ?_)
      · refine ev_aload_n dc_X12_readAtom_123 rfl ?_
        obtain ⟨q6, hq6, h⟩ := Option.bind_eq_some_iff.mp h
        refine ev_callV (av := []) (st := []) (st1 := [.int q6.1]) dc_X12_readAtom_124 (tX12_readSum hW i0 hq6) mw_1771 cy_X12_readSum i0 (by decide) rfl rfl rfl rfl (Nat.le_of_ble_eq_true rfl) (show _ ≤ d0 + 13 from by omega) ⟨Nat.le_refl _, Nat.le_refl _⟩ ?_
        refine ev_if_ne (tgt := 132) dc_X12_readAtom_127 (by decide) h (fun h => ?_) (fun h => ?_)
        · refine ev_iconst (v := 0) dc_X12_readAtom_130 (by decide) ?_
          cases h
          exact ev_zretc dc_X12_readAtom_131 rfl rfl rfl rfl
        · refine ev_aload_n dc_X12_readAtom_132 rfl ?_
          refine ev_bipush (v := 60) dc_X12_readAtom_133 (by decide) ?_
          obtain ⟨q7, hq7, h⟩ := Option.bind_eq_some_iff.mp h
          refine ev_callV (av := [.int (60 : Int32)]) (st := []) (st1 := [.int q7.1]) dc_X12_readAtom_135 (tX12_sign hW i0 hq7) mw_1756 cy_X12_sign i0 (by decide) rfl rfl rfl rfl (Nat.le_of_ble_eq_true rfl) (show _ ≤ d0 + 13 from by omega) ⟨Nat.le_refl _, Nat.le_refl _⟩ ?_
          refine ev_istore_n (lv' := [some (.ref a0), some (.int q7.1)]) dc_X12_readAtom_138 rfl (by decide) rfl ?_
          refine ev_iload_n dc_X12_readAtom_139 rfl ?_
          refine ev_if_ne (tgt := 152) dc_X12_readAtom_140 (by decide) h (fun h => ?_) (fun h => ?_)
          · refine ev_aload_n dc_X12_readAtom_143 rfl ?_
            refine ev_bipush (v := 62) dc_X12_readAtom_144 (by decide) ?_
            obtain ⟨q8, hq8, h⟩ := Option.bind_eq_some_iff.mp h
            refine ev_callV (av := [.int (62 : Int32)]) (st := []) (st1 := [.int q8.1]) dc_X12_readAtom_146 (tX12_sign hW i0 hq8) mw_1756 cy_X12_sign i0 (by decide) rfl rfl rfl rfl (Nat.le_of_ble_eq_true rfl) (show _ ≤ d0 + 13 from by omega) ⟨Nat.le_refl _, Nat.le_refl _⟩ ?_
            refine ev_if_eq (tgt := 159) dc_X12_readAtom_149 (by decide) h (fun h => ?_) (fun h => ?_)
            · refine ev_iconst (v := 0) dc_X12_readAtom_159 (by decide) ?_
              cases h
              exact ev_zretc dc_X12_readAtom_160 rfl rfl rfl rfl
            · exact ev_sub (tX12_readAtom_b152 hW hrc i0 h) (And.intro rfl (And.intro rfl trivial))
          · exact ev_sub (tX12_readAtom_b152 hW hrc i0 h) (And.intro rfl (And.intro rfl trivial))
      · refine ev_iconst (v := 1) dc_X12_readAtom_121 (by decide) ?_
        cases h
        exact ev_zretc dc_X12_readAtom_122 rfl rfl rfl rfl
    · refine ev_aload_n dc_X12_readAtom_65 rfl ?_
      refine ev_getI dc_X12_readAtom_66 fi_X12_225 rfl i0 ?_
      refine ev_bipush (v := 6) dc_X12_readAtom_69 (by decide) ?_
      refine ev_icmp_ne (tgt := 76) dc_X12_readAtom_71 (by decide) h (fun h => ?_) (fun h => ?_)
      · refine ev_iconst (v := 0) dc_X12_readAtom_74 (by decide) ?_
        cases h
        exact ev_zretc dc_X12_readAtom_75 rfl rfl rfl rfl
      · refine ev_aload_n dc_X12_readAtom_76 rfl ?_
        refine ev_dup dc_X12_readAtom_77 rfl ?_
        refine ev_getI dc_X12_readAtom_78 fi_X12_225 rfl i0 ?_
        refine ev_iconst (v := 1) dc_X12_readAtom_81 (by decide) ?_
        refine ev_iadd dc_X12_readAtom_82 ?_
        refine ev_putI dc_X12_readAtom_83 fi_X12_225 rfl i0 ?_
        refine ev_aload_n dc_X12_readAtom_86 rfl ?_
        obtain ⟨q9, hq9, h⟩ := Option.bind_eq_some_iff.mp h
        refine ev_callV (av := []) (st := []) (st1 := [.int q9.1]) dc_X12_readAtom_87 (hrc _ i0 _ hq9) mw_1752 cy_X12_readAtom i0 (by decide) rfl rfl rfl rfl (Nat.le_of_ble_eq_true rfl) (show _ ≤ d0 + 13 from by omega) ⟨Nat.le_refl _, Nat.le_refl _⟩ ?_
        refine ev_if_ne (tgt := 95) dc_X12_readAtom_90 (by decide) h (fun h => ?_) (fun h => ?_)
        · refine ev_iconst (v := 0) dc_X12_readAtom_93 (by decide) ?_
          cases h
          exact ev_zretc dc_X12_readAtom_94 rfl rfl rfl rfl
        · refine ev_aload_n dc_X12_readAtom_95 rfl ?_
          refine ev_dup dc_X12_readAtom_96 rfl ?_
          refine ev_getI dc_X12_readAtom_97 fi_X12_225 rfl i0 ?_
          refine ev_iconst (v := 1) dc_X12_readAtom_100 (by decide) ?_
          refine ev_isub dc_X12_readAtom_101 ?_
          refine ev_putI dc_X12_readAtom_102 fi_X12_225 rfl i0 ?_
          refine ev_aload_n dc_X12_readAtom_105 rfl ?_
          refine ev_bipush (v := 12) dc_X12_readAtom_106 (by decide) ?_
          refine ev_iconst (v := 0) dc_X12_readAtom_108 (by decide) ?_
          obtain ⟨q10, hq10, h⟩ := Option.bind_eq_some_iff.mp h
          refine ev_callV (av := [.int (12 : Int32), .int (0 : Int32)]) (st := []) (st1 := []) dc_X12_readAtom_109 (tX12_emits hW i0 hq10) mw_1761 cy_X12_emits i0 (by decide) rfl rfl rfl rfl (Nat.le_of_ble_eq_true rfl) (show _ ≤ d0 + 13 from by omega) ⟨Nat.le_refl _, Nat.le_refl _⟩ ?_
          refine ev_iconst (v := 1) dc_X12_readAtom_112 (by decide) ?_
          cases h
          exact ev_zretc dc_X12_readAtom_113 rfl rfl rfl rfl
  · refine ev_aload_n dc_X12_readAtom_9 rfl ?_
    refine ev_getI dc_X12_readAtom_10 fi_X12_225 rfl i0 ?_
    refine ev_bipush (v := 6) dc_X12_readAtom_13 (by decide) ?_
    refine ev_icmp_ne (tgt := 20) dc_X12_readAtom_15 (by decide) h (fun h => ?_) (fun h => ?_)
    · refine ev_iconst (v := 0) dc_X12_readAtom_18 (by decide) ?_
      cases h
      exact ev_zretc dc_X12_readAtom_19 rfl rfl rfl rfl
    · refine ev_aload_n dc_X12_readAtom_20 rfl ?_
      refine ev_dup dc_X12_readAtom_21 rfl ?_
      refine ev_getI dc_X12_readAtom_22 fi_X12_225 rfl i0 ?_
      refine ev_iconst (v := 1) dc_X12_readAtom_25 (by decide) ?_
      refine ev_iadd dc_X12_readAtom_26 ?_
      refine ev_putI dc_X12_readAtom_27 fi_X12_225 rfl i0 ?_
      refine ev_aload_n dc_X12_readAtom_30 rfl ?_
      obtain ⟨q11, hq11, h⟩ := Option.bind_eq_some_iff.mp h
      refine ev_callV (av := []) (st := []) (st1 := [.int q11.1]) dc_X12_readAtom_31 (tX12_readCond hW hrc i0 hq11) mw_1744 cy_X12_readCond i0 (by decide) rfl rfl rfl rfl (Nat.le_of_ble_eq_true rfl) (show _ ≤ d0 + 13 from by omega) ⟨Nat.le_refl _, Nat.le_refl _⟩ ?_
      refine ev_if_ne (tgt := 39) dc_X12_readAtom_34 (by decide) h (fun h => ?_) (fun h => ?_)
      · refine ev_iconst (v := 0) dc_X12_readAtom_37 (by decide) ?_
        cases h
        exact ev_zretc dc_X12_readAtom_38 rfl rfl rfl rfl
      · refine ev_aload_n dc_X12_readAtom_39 rfl ?_
        refine ev_dup dc_X12_readAtom_40 rfl ?_
        refine ev_getI dc_X12_readAtom_41 fi_X12_225 rfl i0 ?_
        refine ev_iconst (v := 1) dc_X12_readAtom_44 (by decide) ?_
        refine ev_isub dc_X12_readAtom_45 ?_
        refine ev_putI dc_X12_readAtom_46 fi_X12_225 rfl i0 ?_
        refine ev_aload_n dc_X12_readAtom_49 rfl ?_
        refine ev_bipush (v := 41) dc_X12_readAtom_50 (by decide) ?_
        obtain ⟨q12, hq12, h⟩ := Option.bind_eq_some_iff.mp h
        refine ev_callV (av := [.int (41 : Int32)]) (st := []) (st1 := [.int q12.1]) dc_X12_readAtom_52 (tX12_sign hW i0 hq12) mw_1756 cy_X12_sign i0 (by decide) rfl rfl rfl rfl (Nat.le_of_ble_eq_true rfl) (show _ ≤ d0 + 13 from by omega) ⟨Nat.le_refl _, Nat.le_refl _⟩ ?_
        have h2 := (ck_s h).2
        cases h2
        exact ev_zret dc_X12_readAtom_55 rfl h rfl rfl
def fX12_readAtom_r (N : Nat) (G : pG) : (Nat × pS) → Option (Int32 × pS) := lp (fun (rc : Nat × pS → Option (Int32 × pS)) (b : Nat × pS) => fX12_readAtom_u N G rc b.1 b.2) 9
theorem tX12_readAtom_n {N : Nat} {G : pG} {SK : Nat → Nat} (hW : WT G) : ∀ (n : Nat) (b : Nat × pS) (r : Int32 × pS), lp (fun (rc : Nat × pS → Option (Int32 × pS)) (b : Nat × pS) => fX12_readAtom_u N G rc b.1 b.2) n b = some r → Is G b.1 11 → Dn miX12_readAtom yX12_readAtom (13 * n) G SK [.ref b.1] b.2 (some (.int r.1)) r.2 := by
  refine lp_ind2 (P := fun (n : Nat) (b : Nat × pS) (r : Int32 × pS) => Is G b.1 11 → Dn miX12_readAtom yX12_readAtom (13 * n) G SK [.ref b.1] b.2 (some (.int r.1)) r.2) (fun n rc b r ih h => ?_)
  intro i0
  exact tX12_readAtom_u (d0 := 13 * n) hW (fun b i0 r h => ih b r h i0) i0 h
theorem tX12_readAtom_r {N : Nat} {G : pG} {SK : Nat → Nat} (hW : WT G) : ∀ (b : Nat × pS), Is G b.1 11 → ∀ (r : Int32 × pS), fX12_readAtom_r N G b = some r → Dn miX12_readAtom yX12_readAtom 117 G SK [.ref b.1] b.2 (some (.int r.1)) r.2 := fun b i0 r h => tX12_readAtom_n hW 9 b r h i0
def fX12_readAtom (N : Nat) (G : pG) (a0 : Nat) (σ : pS) : Option (Int32 × pS) := fX12_readAtom_r N G (a0, σ)
theorem tX12_readAtom {N : Nat} {G : pG} {SK : Nat → Nat} {a0 : Nat} {σ : pS} {r : Int32 × pS} (hW : WT G) (i0 : Is G a0 11) (h : fX12_readAtom N G a0 σ = some r) : Dn miX12_readAtom yX12_readAtom 117 G SK [.ref a0] σ (some (.int r.1)) r.2 := tX12_readAtom_r hW _ i0 r h
theorem dc_X12_readLawLine_0 : Dc miX12_readLawLine 0 (.sipush 1233) 3 3 := ⟨by decide +kernel, rfl⟩
theorem dc_X12_readLawLine_3 : Dc miX12_readLawLine 3 (.iconst 4) 1 4 := ⟨by decide +kernel, rfl⟩
theorem dc_X12_readLawLine_4 : Dc miX12_readLawLine 4 (.iload_n 1) 1 5 := ⟨by decide +kernel, rfl⟩
theorem dc_X12_readLawLine_5 : Dc miX12_readLawLine 5 (.imul) 1 6 := ⟨by decide +kernel, rfl⟩
theorem dc_X12_readLawLine_6 : Dc miX12_readLawLine 6 (.iadd) 1 7 := ⟨by decide +kernel, rfl⟩
theorem dc_X12_readLawLine_7 : Dc miX12_readLawLine 7 (.istore_n 2) 1 8 := ⟨by decide +kernel, rfl⟩
theorem dc_X12_readLawLine_8 : Dc miX12_readLawLine 8 (.aload_n 0) 1 9 := ⟨by decide +kernel, rfl⟩
theorem dc_X12_readLawLine_9 : Dc miX12_readLawLine 9 (.getfield 13) 3 12 := ⟨by decide +kernel, rfl⟩
theorem dc_X12_readLawLine_12 : Dc miX12_readLawLine 12 (.iload_n 2) 1 13 := ⟨by decide +kernel, rfl⟩
theorem dc_X12_readLawLine_13 : Dc miX12_readLawLine 13 (.aload_n 0) 1 14 := ⟨by decide +kernel, rfl⟩
theorem dc_X12_readLawLine_14 : Dc miX12_readLawLine 14 (.ldc 249) 2 16 := ⟨by decide +kernel, rfl⟩
theorem dc_X12_readLawLine_16 : Dc miX12_readLawLine 16 (.invokevirtual 115) 3 19 := ⟨by decide +kernel, rfl⟩
theorem dc_X12_readLawLine_19 : Dc miX12_readLawLine 19 (.ifCond .eq 7) 3 22 := ⟨by decide +kernel, rfl⟩
theorem dc_X12_readLawLine_22 : Dc miX12_readLawLine 22 (.iconst 0) 1 23 := ⟨by decide +kernel, rfl⟩
theorem dc_X12_readLawLine_23 : Dc miX12_readLawLine 23 (.goto 30) 3 26 := ⟨by decide +kernel, rfl⟩
theorem dc_X12_readLawLine_26 : Dc miX12_readLawLine 26 (.aload_n 0) 1 27 := ⟨by decide +kernel, rfl⟩
theorem dc_X12_readLawLine_27 : Dc miX12_readLawLine 27 (.ldc 251) 2 29 := ⟨by decide +kernel, rfl⟩
theorem dc_X12_readLawLine_29 : Dc miX12_readLawLine 29 (.invokevirtual 115) 3 32 := ⟨by decide +kernel, rfl⟩
theorem dc_X12_readLawLine_32 : Dc miX12_readLawLine 32 (.ifCond .eq 7) 3 35 := ⟨by decide +kernel, rfl⟩
theorem dc_X12_readLawLine_35 : Dc miX12_readLawLine 35 (.iconst 1) 1 36 := ⟨by decide +kernel, rfl⟩
theorem dc_X12_readLawLine_36 : Dc miX12_readLawLine 36 (.goto 17) 3 39 := ⟨by decide +kernel, rfl⟩
theorem dc_X12_readLawLine_39 : Dc miX12_readLawLine 39 (.aload_n 0) 1 40 := ⟨by decide +kernel, rfl⟩
theorem dc_X12_readLawLine_40 : Dc miX12_readLawLine 40 (.ldc 253) 2 42 := ⟨by decide +kernel, rfl⟩
theorem dc_X12_readLawLine_42 : Dc miX12_readLawLine 42 (.invokevirtual 115) 3 45 := ⟨by decide +kernel, rfl⟩
theorem dc_X12_readLawLine_45 : Dc miX12_readLawLine 45 (.ifCond .eq 7) 3 48 := ⟨by decide +kernel, rfl⟩
theorem dc_X12_readLawLine_48 : Dc miX12_readLawLine 48 (.iconst 2) 1 49 := ⟨by decide +kernel, rfl⟩
theorem dc_X12_readLawLine_49 : Dc miX12_readLawLine 49 (.goto 4) 3 52 := ⟨by decide +kernel, rfl⟩
theorem dc_X12_readLawLine_52 : Dc miX12_readLawLine 52 (.iconst (-1)) 1 53 := ⟨by decide +kernel, rfl⟩
theorem dc_X12_readLawLine_53 : Dc miX12_readLawLine 53 (.iastore) 1 54 := ⟨by decide +kernel, rfl⟩
theorem dc_X12_readLawLine_54 : Dc miX12_readLawLine 54 (.aload_n 0) 1 55 := ⟨by decide +kernel, rfl⟩
theorem dc_X12_readLawLine_55 : Dc miX12_readLawLine 55 (.getfield 13) 3 58 := ⟨by decide +kernel, rfl⟩
theorem dc_X12_readLawLine_58 : Dc miX12_readLawLine 58 (.iload_n 2) 1 59 := ⟨by decide +kernel, rfl⟩
theorem dc_X12_readLawLine_59 : Dc miX12_readLawLine 59 (.iaload) 1 60 := ⟨by decide +kernel, rfl⟩
theorem dc_X12_readLawLine_60 : Dc miX12_readLawLine 60 (.ifCond .ge 5) 3 63 := ⟨by decide +kernel, rfl⟩
theorem dc_X12_readLawLine_63 : Dc miX12_readLawLine 63 (.iconst 0) 1 64 := ⟨by decide +kernel, rfl⟩
theorem dc_X12_readLawLine_64 : Dc miX12_readLawLine 64 (.ireturn) 1 65 := ⟨by decide +kernel, rfl⟩
theorem dc_X12_readLawLine_65 : Dc miX12_readLawLine 65 (.aload_n 0) 1 66 := ⟨by decide +kernel, rfl⟩
theorem dc_X12_readLawLine_66 : Dc miX12_readLawLine 66 (.getfield 13) 3 69 := ⟨by decide +kernel, rfl⟩
theorem dc_X12_readLawLine_69 : Dc miX12_readLawLine 69 (.iload_n 2) 1 70 := ⟨by decide +kernel, rfl⟩
theorem dc_X12_readLawLine_70 : Dc miX12_readLawLine 70 (.iconst 1) 1 71 := ⟨by decide +kernel, rfl⟩
theorem dc_X12_readLawLine_71 : Dc miX12_readLawLine 71 (.iadd) 1 72 := ⟨by decide +kernel, rfl⟩
theorem dc_X12_readLawLine_72 : Dc miX12_readLawLine 72 (.aload_n 0) 1 73 := ⟨by decide +kernel, rfl⟩
theorem dc_X12_readLawLine_73 : Dc miX12_readLawLine 73 (.iconst 0) 1 74 := ⟨by decide +kernel, rfl⟩
theorem dc_X12_readLawLine_74 : Dc miX12_readLawLine 74 (.bipush 20) 2 76 := ⟨by decide +kernel, rfl⟩
theorem dc_X12_readLawLine_76 : Dc miX12_readLawLine 76 (.invokevirtual 119) 3 79 := ⟨by decide +kernel, rfl⟩
theorem dc_X12_readLawLine_79 : Dc miX12_readLawLine 79 (.iastore) 1 80 := ⟨by decide +kernel, rfl⟩
theorem dc_X12_readLawLine_80 : Dc miX12_readLawLine 80 (.aload_n 0) 1 81 := ⟨by decide +kernel, rfl⟩
theorem dc_X12_readLawLine_81 : Dc miX12_readLawLine 81 (.getfield 13) 3 84 := ⟨by decide +kernel, rfl⟩
theorem dc_X12_readLawLine_84 : Dc miX12_readLawLine 84 (.iload_n 2) 1 85 := ⟨by decide +kernel, rfl⟩
theorem dc_X12_readLawLine_85 : Dc miX12_readLawLine 85 (.iconst 1) 1 86 := ⟨by decide +kernel, rfl⟩
theorem dc_X12_readLawLine_86 : Dc miX12_readLawLine 86 (.iadd) 1 87 := ⟨by decide +kernel, rfl⟩
theorem dc_X12_readLawLine_87 : Dc miX12_readLawLine 87 (.iaload) 1 88 := ⟨by decide +kernel, rfl⟩
theorem dc_X12_readLawLine_88 : Dc miX12_readLawLine 88 (.ifCond .ge 5) 3 91 := ⟨by decide +kernel, rfl⟩
theorem dc_X12_readLawLine_91 : Dc miX12_readLawLine 91 (.iconst 0) 1 92 := ⟨by decide +kernel, rfl⟩
theorem dc_X12_readLawLine_92 : Dc miX12_readLawLine 92 (.ireturn) 1 93 := ⟨by decide +kernel, rfl⟩
theorem dc_X12_readLawLine_93 : Dc miX12_readLawLine 93 (.aload_n 0) 1 94 := ⟨by decide +kernel, rfl⟩
theorem dc_X12_readLawLine_94 : Dc miX12_readLawLine 94 (.getfield 13) 3 97 := ⟨by decide +kernel, rfl⟩
theorem dc_X12_readLawLine_97 : Dc miX12_readLawLine 97 (.iload_n 2) 1 98 := ⟨by decide +kernel, rfl⟩
theorem dc_X12_readLawLine_98 : Dc miX12_readLawLine 98 (.iconst 2) 1 99 := ⟨by decide +kernel, rfl⟩
theorem dc_X12_readLawLine_99 : Dc miX12_readLawLine 99 (.iadd) 1 100 := ⟨by decide +kernel, rfl⟩
theorem dc_X12_readLawLine_100 : Dc miX12_readLawLine 100 (.aload_n 0) 1 101 := ⟨by decide +kernel, rfl⟩
theorem dc_X12_readLawLine_101 : Dc miX12_readLawLine 101 (.getfield 202) 3 104 := ⟨by decide +kernel, rfl⟩
theorem dc_X12_readLawLine_104 : Dc miX12_readLawLine 104 (.iastore) 1 105 := ⟨by decide +kernel, rfl⟩
theorem dc_X12_readLawLine_105 : Dc miX12_readLawLine 105 (.aload_n 0) 1 106 := ⟨by decide +kernel, rfl⟩
theorem dc_X12_readLawLine_106 : Dc miX12_readLawLine 106 (.iconst 0) 1 107 := ⟨by decide +kernel, rfl⟩
theorem dc_X12_readLawLine_107 : Dc miX12_readLawLine 107 (.putfield 225) 3 110 := ⟨by decide +kernel, rfl⟩
theorem dc_X12_readLawLine_110 : Dc miX12_readLawLine 110 (.aload_n 0) 1 111 := ⟨by decide +kernel, rfl⟩
theorem dc_X12_readLawLine_111 : Dc miX12_readLawLine 111 (.ldc 255) 2 113 := ⟨by decide +kernel, rfl⟩
theorem dc_X12_readLawLine_113 : Dc miX12_readLawLine 113 (.invokevirtual 136) 3 116 := ⟨by decide +kernel, rfl⟩
theorem dc_X12_readLawLine_116 : Dc miX12_readLawLine 116 (.ifCond .eq 12) 3 119 := ⟨by decide +kernel, rfl⟩
theorem dc_X12_readLawLine_119 : Dc miX12_readLawLine 119 (.aload_n 0) 1 120 := ⟨by decide +kernel, rfl⟩
theorem dc_X12_readLawLine_120 : Dc miX12_readLawLine 120 (.invokevirtual 228) 3 123 := ⟨by decide +kernel, rfl⟩
theorem dc_X12_readLawLine_123 : Dc miX12_readLawLine 123 (.ifCond .ne 5) 3 126 := ⟨by decide +kernel, rfl⟩
theorem dc_X12_readLawLine_126 : Dc miX12_readLawLine 126 (.iconst 0) 1 127 := ⟨by decide +kernel, rfl⟩
theorem dc_X12_readLawLine_127 : Dc miX12_readLawLine 127 (.ireturn) 1 128 := ⟨by decide +kernel, rfl⟩
theorem dc_X12_readLawLine_128 : Dc miX12_readLawLine 128 (.aload_n 0) 1 129 := ⟨by decide +kernel, rfl⟩
theorem dc_X12_readLawLine_129 : Dc miX12_readLawLine 129 (.getfield 13) 3 132 := ⟨by decide +kernel, rfl⟩
theorem dc_X12_readLawLine_132 : Dc miX12_readLawLine 132 (.iload_n 2) 1 133 := ⟨by decide +kernel, rfl⟩
theorem dc_X12_readLawLine_133 : Dc miX12_readLawLine 133 (.iconst 3) 1 134 := ⟨by decide +kernel, rfl⟩
theorem dc_X12_readLawLine_134 : Dc miX12_readLawLine 134 (.iadd) 1 135 := ⟨by decide +kernel, rfl⟩
theorem dc_X12_readLawLine_135 : Dc miX12_readLawLine 135 (.aload_n 0) 1 136 := ⟨by decide +kernel, rfl⟩
theorem dc_X12_readLawLine_136 : Dc miX12_readLawLine 136 (.getfield 202) 3 139 := ⟨by decide +kernel, rfl⟩
theorem dc_X12_readLawLine_139 : Dc miX12_readLawLine 139 (.iastore) 1 140 := ⟨by decide +kernel, rfl⟩
theorem dc_X12_readLawLine_140 : Dc miX12_readLawLine 140 (.iconst 1) 1 141 := ⟨by decide +kernel, rfl⟩
theorem dc_X12_readLawLine_141 : Dc miX12_readLawLine 141 (.ireturn) 1 142 := ⟨by decide +kernel, rfl⟩
def fX12_readLawLine_b128 (N : Nat) (G : pG) (a0 : Nat) (x2 : Int32) (σ : pS) : Option (Int32 × pS) := ck (inB (x2 + (3 : Int32)) (pN G (pR G a0 1))) (some ((1 : Int32), sA σ (pR G a0 1) (x2 + (3 : Int32)) (σ.1 a0 16)))
set_option maxRecDepth 100000 in
set_option maxHeartbeats 4000000 in
theorem tX12_readLawLine_b128 {N : Nat} {G : pG} {SK : Nat → Nat} {a0 : Nat} {x2 : Int32} {σ : pS} {r : Int32 × pS} (hW : WT G) (i0 : Is G a0 11) (h : fX12_readLawLine_b128 N G a0 x2 σ = some r) : Ev miX12_readLawLine (130, 0, 0) G (Zp G (some (.int r.1)) r.2) SK (0, 0) 128 [some (.ref a0), none, some (.int x2)] [] σ := by
  unfold fX12_readLawLine_b128 at h
  refine ev_aload_n dc_X12_readLawLine_128 rfl ?_
  refine ev_getR dc_X12_readLawLine_129 fi_X12_13 rfl i0 ?_
  refine ev_iload_n dc_X12_readLawLine_132 rfl ?_
  refine ev_iconst (v := 3) dc_X12_readLawLine_133 (by decide) ?_
  refine ev_iadd dc_X12_readLawLine_134 ?_
  refine ev_aload_n dc_X12_readLawLine_135 rfl ?_
  refine ev_getI dc_X12_readLawLine_136 fi_X12_202 rfl i0 ?_
  refine ev_iast dc_X12_readLawLine_139 (wt hW i0 1 rfl rfl) h (fun h => ?_)
  refine ev_iconst (v := 1) dc_X12_readLawLine_140 (by decide) ?_
  cases h
  exact ev_zretc dc_X12_readLawLine_141 rfl rfl rfl rfl
def fX12_readLawLine_b53 (N : Nat) (G : pG) (a0 : Nat) (x2 : Int32) (y0 : Nat) (y1 : Int32) (y2 : Int32) (σ : pS) : Option (Int32 × pS) := ck (inB y1 (pN G y0)) (ck (inB x2 (pN G (pR G a0 1))) (if 0 ≤ (gA (sA σ y0 y1 y2) (pR G a0 1) x2) then ((fX12_number N G a0 (0 : Int32) (20 : Int32) (sA σ y0 y1 y2)).bind (fun q1 => ck (inB (x2 + (1 : Int32)) (pN G (pR G a0 1))) (ck (inB (x2 + (1 : Int32)) (pN G (pR G a0 1))) (if 0 ≤ (gA (sA q1.2 (pR G a0 1) (x2 + (1 : Int32)) q1.1) (pR G a0 1) (x2 + (1 : Int32))) then (ck (inB (x2 + (2 : Int32)) (pN G (pR G a0 1))) ((fX12_passes N G a0 63 (putF (sA (sA q1.2 (pR G a0 1) (x2 + (1 : Int32)) q1.1) (pR G a0 1) (x2 + (2 : Int32)) ((sA q1.2 (pR G a0 1) (x2 + (1 : Int32)) q1.1).1 a0 16)) a0 13 (0 : Int32))).bind (fun q2 => if q2.1 = 0 then (fX12_readLawLine_b128 N G a0 x2 q2.2) else ((fX12_readCond N G (fX12_readAtom_r N G) a0 q2.2).bind (fun q3 => if q3.1 = 0 then (some ((0 : Int32), q3.2)) else (fX12_readLawLine_b128 N G a0 x2 q3.2)))))) else (some ((0 : Int32), sA q1.2 (pR G a0 1) (x2 + (1 : Int32)) q1.1)))))) else (some ((0 : Int32), sA σ y0 y1 y2))))
set_option maxRecDepth 100000 in
set_option maxHeartbeats 4000000 in
theorem tX12_readLawLine_b53 {N : Nat} {G : pG} {SK : Nat → Nat} {a0 : Nat} {x2 : Int32} {y0 : Nat} {y1 : Int32} {y2 : Int32} {σ : pS} {r : Int32 × pS} (hW : WT G) (i0 : Is G a0 11) (w0 : Is G y0 13) (h : fX12_readLawLine_b53 N G a0 x2 y0 y1 y2 σ = some r) : Ev miX12_readLawLine (130, 0, 0) G (Zp G (some (.int r.1)) r.2) SK (0, 0) 53 [some (.ref a0), none, some (.int x2)] [.int y2, .int y1, .ref y0] σ := by
  unfold fX12_readLawLine_b53 at h
  refine ev_iast dc_X12_readLawLine_53 w0 h (fun h => ?_)
  refine ev_aload_n dc_X12_readLawLine_54 rfl ?_
  refine ev_getR dc_X12_readLawLine_55 fi_X12_13 rfl i0 ?_
  refine ev_iload_n dc_X12_readLawLine_58 rfl ?_
  refine ev_iald dc_X12_readLawLine_59 (wt hW i0 1 rfl rfl) h (fun h => ?_)
  refine ev_if_ge (tgt := 65) dc_X12_readLawLine_60 (by decide) h (fun h => ?_) (fun h => ?_)
  · refine ev_aload_n dc_X12_readLawLine_65 rfl ?_
    refine ev_getR dc_X12_readLawLine_66 fi_X12_13 rfl i0 ?_
    refine ev_iload_n dc_X12_readLawLine_69 rfl ?_
    refine ev_iconst (v := 1) dc_X12_readLawLine_70 (by decide) ?_
    refine ev_iadd dc_X12_readLawLine_71 ?_
    refine ev_aload_n dc_X12_readLawLine_72 rfl ?_
    refine ev_iconst (v := 0) dc_X12_readLawLine_73 (by decide) ?_
    refine ev_bipush (v := 20) dc_X12_readLawLine_74 (by decide) ?_
    obtain ⟨q1, hq1, h⟩ := Option.bind_eq_some_iff.mp h
    refine ev_callV (av := [.int (0 : Int32), .int (20 : Int32)]) (st := [.int (x2 + (1 : Int32)), .ref (pR G a0 1)]) (st1 := [.int q1.1, .int (x2 + (1 : Int32)), .ref (pR G a0 1)]) dc_X12_readLawLine_76 (tX12_number hW i0 hq1) mw_1667 cy_X12_number i0 (by decide) rfl rfl rfl rfl (Nat.le_of_ble_eq_true rfl) (Nat.le_of_ble_eq_true rfl) ⟨Nat.le_refl _, Nat.le_refl _⟩ ?_
    refine ev_iast dc_X12_readLawLine_79 (wt hW i0 1 rfl rfl) h (fun h => ?_)
    refine ev_aload_n dc_X12_readLawLine_80 rfl ?_
    refine ev_getR dc_X12_readLawLine_81 fi_X12_13 rfl i0 ?_
    refine ev_iload_n dc_X12_readLawLine_84 rfl ?_
    refine ev_iconst (v := 1) dc_X12_readLawLine_85 (by decide) ?_
    refine ev_iadd dc_X12_readLawLine_86 ?_
    refine ev_iald dc_X12_readLawLine_87 (wt hW i0 1 rfl rfl) h (fun h => ?_)
    refine ev_if_ge (tgt := 93) dc_X12_readLawLine_88 (by decide) h (fun h => ?_) (fun h => ?_)
    · refine ev_aload_n dc_X12_readLawLine_93 rfl ?_
      refine ev_getR dc_X12_readLawLine_94 fi_X12_13 rfl i0 ?_
      refine ev_iload_n dc_X12_readLawLine_97 rfl ?_
      refine ev_iconst (v := 2) dc_X12_readLawLine_98 (by decide) ?_
      refine ev_iadd dc_X12_readLawLine_99 ?_
      refine ev_aload_n dc_X12_readLawLine_100 rfl ?_
      refine ev_getI dc_X12_readLawLine_101 fi_X12_202 rfl i0 ?_
      refine ev_iast dc_X12_readLawLine_104 (wt hW i0 1 rfl rfl) h (fun h => ?_)
      refine ev_aload_n dc_X12_readLawLine_105 rfl ?_
      refine ev_iconst (v := 0) dc_X12_readLawLine_106 (by decide) ?_
      refine ev_putI dc_X12_readLawLine_107 fi_X12_225 rfl i0 ?_
      refine ev_aload_n dc_X12_readLawLine_110 rfl ?_
      refine ev_ldcS (sid := 63) (tx := "if") dc_X12_readLawLine_111 (List.mem_of_getElem? (i := 63) rfl) ?_
      obtain ⟨q2, hq2, h⟩ := Option.bind_eq_some_iff.mp h
      refine ev_callV (av := [.ref (SK 63)]) (st := []) (st1 := [.int q2.1]) dc_X12_readLawLine_113 (tX12_passes hW i0 rfl hq2) mw_1681 cy_X12_passes i0 (by decide) rfl rfl rfl rfl (Nat.le_of_ble_eq_true rfl) (Nat.le_of_ble_eq_true rfl) ⟨Nat.le_refl _, Nat.le_refl _⟩ ?_
      refine ev_if_eq (tgt := 128) dc_X12_readLawLine_116 (by decide) h (fun h => ?_) (fun h => ?_)
      · exact ev_sub (tX12_readLawLine_b128 hW i0 h) (And.intro rfl (And.intro rfl trivial))
      · refine ev_aload_n dc_X12_readLawLine_119 rfl ?_
        obtain ⟨q3, hq3, h⟩ := Option.bind_eq_some_iff.mp h
        refine ev_callV (av := []) (st := []) (st1 := [.int q3.1]) dc_X12_readLawLine_120 (tX12_readCond hW (tX12_readAtom_r hW) i0 hq3) mw_1744 cy_X12_readCond i0 (by decide) rfl rfl rfl rfl (Nat.le_of_ble_eq_true rfl) (Nat.le_of_ble_eq_true rfl) ⟨Nat.le_refl _, Nat.le_refl _⟩ ?_
        refine ev_if_ne (tgt := 128) dc_X12_readLawLine_123 (by decide) h (fun h => ?_) (fun h => ?_)
        · refine ev_iconst (v := 0) dc_X12_readLawLine_126 (by decide) ?_
          cases h
          exact ev_zretc dc_X12_readLawLine_127 rfl rfl rfl rfl
        · exact ev_sub (tX12_readLawLine_b128 hW i0 h) (And.intro rfl (And.intro rfl trivial))
    · refine ev_iconst (v := 0) dc_X12_readLawLine_91 (by decide) ?_
      cases h
      exact ev_zretc dc_X12_readLawLine_92 rfl rfl rfl rfl
  · refine ev_iconst (v := 0) dc_X12_readLawLine_63 (by decide) ?_
    cases h
    exact ev_zretc dc_X12_readLawLine_64 rfl rfl rfl rfl
def fX12_readLawLine (N : Nat) (G : pG) (a0 : Nat) (a1 : Int32) (σ : pS) : Option (Int32 × pS) := (fX12_isWord N G a0 60 σ).bind (fun q4 => if q4 = 0 then ((fX12_isWord N G a0 61 σ).bind (fun q5 => if q5 = 0 then ((fX12_isWord N G a0 62 σ).bind (fun q6 => if q6 = 0 then (fX12_readLawLine_b53 N G a0 ((1233 : Int32) + ((4 : Int32) * a1)) (pR G a0 1) ((1233 : Int32) + ((4 : Int32) * a1)) (-1 : Int32) σ) else (fX12_readLawLine_b53 N G a0 ((1233 : Int32) + ((4 : Int32) * a1)) (pR G a0 1) ((1233 : Int32) + ((4 : Int32) * a1)) (2 : Int32) σ))) else (fX12_readLawLine_b53 N G a0 ((1233 : Int32) + ((4 : Int32) * a1)) (pR G a0 1) ((1233 : Int32) + ((4 : Int32) * a1)) (1 : Int32) σ))) else (fX12_readLawLine_b53 N G a0 ((1233 : Int32) + ((4 : Int32) * a1)) (pR G a0 1) ((1233 : Int32) + ((4 : Int32) * a1)) (0 : Int32) σ))
set_option maxRecDepth 100000 in
set_option maxHeartbeats 4000000 in
theorem tX12_readLawLine {N : Nat} {G : pG} {SK : Nat → Nat} {a0 : Nat} {a1 : Int32} {σ : pS} {r : Int32 × pS} (hW : WT G) (i0 : Is G a0 11) (h : fX12_readLawLine N G a0 a1 σ = some r) : Dn miX12_readLawLine yX12_readLawLine 130 G SK [.ref a0, .int a1] σ (some (.int r.1)) r.2 := by
  unfold fX12_readLawLine at h
  refine dn_of (lv := [some (.ref a0), some (.int a1), none]) (by decide) rfl rfl (Nat.le_of_ble_eq_true rfl) rfl ?_
  refine ev_sipush (v := 1233) dc_X12_readLawLine_0 (by decide) ?_
  refine ev_iconst (v := 4) dc_X12_readLawLine_3 (by decide) ?_
  refine ev_iload_n dc_X12_readLawLine_4 rfl ?_
  refine ev_imul dc_X12_readLawLine_5 ?_
  refine ev_iadd dc_X12_readLawLine_6 ?_
  refine ev_istore_n (lv' := [some (.ref a0), some (.int a1), some (.int ((1233 : Int32) + ((4 : Int32) * a1)))]) dc_X12_readLawLine_7 rfl (by decide) rfl ?_
  refine ev_aload_n dc_X12_readLawLine_8 rfl ?_
  refine ev_getR dc_X12_readLawLine_9 fi_X12_13 rfl i0 ?_
  refine ev_iload_n dc_X12_readLawLine_12 rfl ?_
  refine ev_aload_n dc_X12_readLawLine_13 rfl ?_
  refine ev_ldcS (sid := 60) (tx := "sting") dc_X12_readLawLine_14 (List.mem_of_getElem? (i := 60) rfl) ?_
  obtain ⟨q4, hq4, h⟩ := Option.bind_eq_some_iff.mp h
  refine ev_callV (av := [.ref (SK 60)]) (st := [.int ((1233 : Int32) + ((4 : Int32) * a1)), .ref (pR G a0 1)]) (st1 := [.int q4, .int ((1233 : Int32) + ((4 : Int32) * a1)), .ref (pR G a0 1)]) dc_X12_readLawLine_16 (tX12_isWord hW i0 rfl hq4) mw_1638 cy_X12_isWord i0 (by decide) rfl rfl rfl rfl (Nat.le_of_ble_eq_true rfl) (Nat.le_of_ble_eq_true rfl) ⟨Nat.le_refl _, Nat.le_refl _⟩ ?_
  refine ev_if_eq (tgt := 26) dc_X12_readLawLine_19 (by decide) h (fun h => ?_) (fun h => ?_)
  · refine ev_aload_n dc_X12_readLawLine_26 rfl ?_
    refine ev_ldcS (sid := 61) (tx := "blunt") dc_X12_readLawLine_27 (List.mem_of_getElem? (i := 61) rfl) ?_
    obtain ⟨q5, hq5, h⟩ := Option.bind_eq_some_iff.mp h
    refine ev_callV (av := [.ref (SK 61)]) (st := [.int ((1233 : Int32) + ((4 : Int32) * a1)), .ref (pR G a0 1)]) (st1 := [.int q5, .int ((1233 : Int32) + ((4 : Int32) * a1)), .ref (pR G a0 1)]) dc_X12_readLawLine_29 (tX12_isWord hW i0 rfl hq5) mw_1638 cy_X12_isWord i0 (by decide) rfl rfl rfl rfl (Nat.le_of_ble_eq_true rfl) (Nat.le_of_ble_eq_true rfl) ⟨Nat.le_refl _, Nat.le_refl _⟩ ?_
    refine ev_if_eq (tgt := 39) dc_X12_readLawLine_32 (by decide) h (fun h => ?_) (fun h => ?_)
    · refine ev_aload_n dc_X12_readLawLine_39 rfl ?_
      refine ev_ldcS (sid := 62) (tx := "soothe") dc_X12_readLawLine_40 (List.mem_of_getElem? (i := 62) rfl) ?_
      obtain ⟨q6, hq6, h⟩ := Option.bind_eq_some_iff.mp h
      refine ev_callV (av := [.ref (SK 62)]) (st := [.int ((1233 : Int32) + ((4 : Int32) * a1)), .ref (pR G a0 1)]) (st1 := [.int q6, .int ((1233 : Int32) + ((4 : Int32) * a1)), .ref (pR G a0 1)]) dc_X12_readLawLine_42 (tX12_isWord hW i0 rfl hq6) mw_1638 cy_X12_isWord i0 (by decide) rfl rfl rfl rfl (Nat.le_of_ble_eq_true rfl) (Nat.le_of_ble_eq_true rfl) ⟨Nat.le_refl _, Nat.le_refl _⟩ ?_
      refine ev_if_eq (tgt := 52) dc_X12_readLawLine_45 (by decide) h (fun h => ?_) (fun h => ?_)
      · refine ev_iconst (v := (-1)) dc_X12_readLawLine_52 (by decide) ?_
        exact ev_sub (tX12_readLawLine_b53 hW i0 (wt hW i0 1 rfl rfl) h) (And.intro rfl (And.intro rfl trivial))
      · refine ev_iconst (v := 2) dc_X12_readLawLine_48 (by decide) ?_
        refine ev_goto (tgt := 53) dc_X12_readLawLine_49 (by decide) ?_
        exact ev_sub (tX12_readLawLine_b53 hW i0 (wt hW i0 1 rfl rfl) h) (And.intro rfl (And.intro rfl trivial))
    · refine ev_iconst (v := 1) dc_X12_readLawLine_35 (by decide) ?_
      refine ev_goto (tgt := 53) dc_X12_readLawLine_36 (by decide) ?_
      exact ev_sub (tX12_readLawLine_b53 hW i0 (wt hW i0 1 rfl rfl) h) (And.intro rfl (And.intro rfl trivial))
  · refine ev_iconst (v := 0) dc_X12_readLawLine_22 (by decide) ?_
    refine ev_goto (tgt := 53) dc_X12_readLawLine_23 (by decide) ?_
    exact ev_sub (tX12_readLawLine_b53 hW i0 (wt hW i0 1 rfl rfl) h) (And.intro rfl (And.intro rfl trivial))
theorem dc_X12_readDeed_0 : Dc miX12_readDeed 0 (.aload_n 0) 1 1 := ⟨by decide +kernel, rfl⟩
theorem dc_X12_readDeed_1 : Dc miX12_readDeed 1 (.invokevirtual 80) 3 4 := ⟨by decide +kernel, rfl⟩
theorem dc_X12_readDeed_4 : Dc miX12_readDeed 4 (.istore_n 1) 1 5 := ⟨by decide +kernel, rfl⟩
theorem dc_X12_readDeed_5 : Dc miX12_readDeed 5 (.iload_n 1) 1 6 := ⟨by decide +kernel, rfl⟩
theorem dc_X12_readDeed_6 : Dc miX12_readDeed 6 (.iconst 4) 1 7 := ⟨by decide +kernel, rfl⟩
theorem dc_X12_readDeed_7 : Dc miX12_readDeed 7 (.if_icmp .ne 5) 3 10 := ⟨by decide +kernel, rfl⟩
theorem dc_X12_readDeed_10 : Dc miX12_readDeed 10 (.iconst 0) 1 11 := ⟨by decide +kernel, rfl⟩
theorem dc_X12_readDeed_11 : Dc miX12_readDeed 11 (.ireturn) 1 12 := ⟨by decide +kernel, rfl⟩
theorem dc_X12_readDeed_12 : Dc miX12_readDeed 12 (.aload_n 0) 1 13 := ⟨by decide +kernel, rfl⟩
theorem dc_X12_readDeed_13 : Dc miX12_readDeed 13 (.iconst 0) 1 14 := ⟨by decide +kernel, rfl⟩
theorem dc_X12_readDeed_14 : Dc miX12_readDeed 14 (.bipush 20) 2 16 := ⟨by decide +kernel, rfl⟩
theorem dc_X12_readDeed_16 : Dc miX12_readDeed 16 (.invokevirtual 119) 3 19 := ⟨by decide +kernel, rfl⟩
theorem dc_X12_readDeed_19 : Dc miX12_readDeed 19 (.istore_n 2) 1 20 := ⟨by decide +kernel, rfl⟩
theorem dc_X12_readDeed_20 : Dc miX12_readDeed 20 (.iload_n 2) 1 21 := ⟨by decide +kernel, rfl⟩
theorem dc_X12_readDeed_21 : Dc miX12_readDeed 21 (.ifCond .ge 7) 3 24 := ⟨by decide +kernel, rfl⟩
theorem dc_X12_readDeed_24 : Dc miX12_readDeed 24 (.iconst (-1)) 1 25 := ⟨by decide +kernel, rfl⟩
theorem dc_X12_readDeed_25 : Dc miX12_readDeed 25 (.goto 12) 3 28 := ⟨by decide +kernel, rfl⟩
theorem dc_X12_readDeed_28 : Dc miX12_readDeed 28 (.aload_n 0) 1 29 := ⟨by decide +kernel, rfl⟩
theorem dc_X12_readDeed_29 : Dc miX12_readDeed 29 (.ldc 148) 2 31 := ⟨by decide +kernel, rfl⟩
theorem dc_X12_readDeed_31 : Dc miX12_readDeed 31 (.iconst 0) 1 32 := ⟨by decide +kernel, rfl⟩
theorem dc_X12_readDeed_32 : Dc miX12_readDeed 32 (.bipush 9) 2 34 := ⟨by decide +kernel, rfl⟩
theorem dc_X12_readDeed_34 : Dc miX12_readDeed 34 (.invokevirtual 130) 3 37 := ⟨by decide +kernel, rfl⟩
theorem dc_X12_readDeed_37 : Dc miX12_readDeed 37 (.istore_n 3) 1 38 := ⟨by decide +kernel, rfl⟩
theorem dc_X12_readDeed_38 : Dc miX12_readDeed 38 (.iload_n 3) 1 39 := ⟨by decide +kernel, rfl⟩
theorem dc_X12_readDeed_39 : Dc miX12_readDeed 39 (.ifCond .ge 5) 3 42 := ⟨by decide +kernel, rfl⟩
theorem dc_X12_readDeed_42 : Dc miX12_readDeed 42 (.iconst 0) 1 43 := ⟨by decide +kernel, rfl⟩
theorem dc_X12_readDeed_43 : Dc miX12_readDeed 43 (.ireturn) 1 44 := ⟨by decide +kernel, rfl⟩
theorem dc_X12_readDeed_44 : Dc miX12_readDeed 44 (.aload_n 0) 1 45 := ⟨by decide +kernel, rfl⟩
theorem dc_X12_readDeed_45 : Dc miX12_readDeed 45 (.getfield 13) 3 48 := ⟨by decide +kernel, rfl⟩
theorem dc_X12_readDeed_48 : Dc miX12_readDeed 48 (.bipush 67) 2 50 := ⟨by decide +kernel, rfl⟩
theorem dc_X12_readDeed_50 : Dc miX12_readDeed 50 (.iconst 2) 1 51 := ⟨by decide +kernel, rfl⟩
theorem dc_X12_readDeed_51 : Dc miX12_readDeed 51 (.iload_n 1) 1 52 := ⟨by decide +kernel, rfl⟩
theorem dc_X12_readDeed_52 : Dc miX12_readDeed 52 (.imul) 1 53 := ⟨by decide +kernel, rfl⟩
theorem dc_X12_readDeed_53 : Dc miX12_readDeed 53 (.iadd) 1 54 := ⟨by decide +kernel, rfl⟩
theorem dc_X12_readDeed_54 : Dc miX12_readDeed 54 (.iconst 0) 1 55 := ⟨by decide +kernel, rfl⟩
theorem dc_X12_readDeed_55 : Dc miX12_readDeed 55 (.iadd) 1 56 := ⟨by decide +kernel, rfl⟩
theorem dc_X12_readDeed_56 : Dc miX12_readDeed 56 (.iload_n 2) 1 57 := ⟨by decide +kernel, rfl⟩
theorem dc_X12_readDeed_57 : Dc miX12_readDeed 57 (.iastore) 1 58 := ⟨by decide +kernel, rfl⟩
theorem dc_X12_readDeed_58 : Dc miX12_readDeed 58 (.aload_n 0) 1 59 := ⟨by decide +kernel, rfl⟩
theorem dc_X12_readDeed_59 : Dc miX12_readDeed 59 (.getfield 13) 3 62 := ⟨by decide +kernel, rfl⟩
theorem dc_X12_readDeed_62 : Dc miX12_readDeed 62 (.bipush 67) 2 64 := ⟨by decide +kernel, rfl⟩
theorem dc_X12_readDeed_64 : Dc miX12_readDeed 64 (.iconst 2) 1 65 := ⟨by decide +kernel, rfl⟩
theorem dc_X12_readDeed_65 : Dc miX12_readDeed 65 (.iload_n 1) 1 66 := ⟨by decide +kernel, rfl⟩
theorem dc_X12_readDeed_66 : Dc miX12_readDeed 66 (.imul) 1 67 := ⟨by decide +kernel, rfl⟩
theorem dc_X12_readDeed_67 : Dc miX12_readDeed 67 (.iadd) 1 68 := ⟨by decide +kernel, rfl⟩
theorem dc_X12_readDeed_68 : Dc miX12_readDeed 68 (.iconst 1) 1 69 := ⟨by decide +kernel, rfl⟩
theorem dc_X12_readDeed_69 : Dc miX12_readDeed 69 (.iadd) 1 70 := ⟨by decide +kernel, rfl⟩
theorem dc_X12_readDeed_70 : Dc miX12_readDeed 70 (.iload_n 3) 1 71 := ⟨by decide +kernel, rfl⟩
theorem dc_X12_readDeed_71 : Dc miX12_readDeed 71 (.iastore) 1 72 := ⟨by decide +kernel, rfl⟩
theorem dc_X12_readDeed_72 : Dc miX12_readDeed 72 (.aload_n 0) 1 73 := ⟨by decide +kernel, rfl⟩
theorem dc_X12_readDeed_73 : Dc miX12_readDeed 73 (.getfield 13) 3 76 := ⟨by decide +kernel, rfl⟩
theorem dc_X12_readDeed_76 : Dc miX12_readDeed 76 (.iconst 3) 1 77 := ⟨by decide +kernel, rfl⟩
theorem dc_X12_readDeed_77 : Dc miX12_readDeed 77 (.dup2) 1 78 := ⟨by decide +kernel, rfl⟩
theorem dc_X12_readDeed_78 : Dc miX12_readDeed 78 (.iaload) 1 79 := ⟨by decide +kernel, rfl⟩
theorem dc_X12_readDeed_79 : Dc miX12_readDeed 79 (.iconst 1) 1 80 := ⟨by decide +kernel, rfl⟩
theorem dc_X12_readDeed_80 : Dc miX12_readDeed 80 (.iadd) 1 81 := ⟨by decide +kernel, rfl⟩
theorem dc_X12_readDeed_81 : Dc miX12_readDeed 81 (.iastore) 1 82 := ⟨by decide +kernel, rfl⟩
theorem dc_X12_readDeed_82 : Dc miX12_readDeed 82 (.iconst 1) 1 83 := ⟨by decide +kernel, rfl⟩
theorem dc_X12_readDeed_83 : Dc miX12_readDeed 83 (.ireturn) 1 84 := ⟨by decide +kernel, rfl⟩
def fX12_readDeed_b37 (N : Nat) (G : pG) (a0 : Nat) (x1 : Int32) (x2 : Int32) (y0 : Int32) (σ : pS) : Option (Int32 × pS) := if 0 ≤ y0 then (ck (inB (((67 : Int32) + ((2 : Int32) * x1)) + (0 : Int32)) (pN G (pR G a0 1))) (ck (inB (((67 : Int32) + ((2 : Int32) * x1)) + (1 : Int32)) (pN G (pR G a0 1))) (ck (inB (3 : Int32) (pN G (pR G a0 1))) (ck (inB (3 : Int32) (pN G (pR G a0 1))) (some ((1 : Int32), sA (sA (sA σ (pR G a0 1) (((67 : Int32) + ((2 : Int32) * x1)) + (0 : Int32)) x2) (pR G a0 1) (((67 : Int32) + ((2 : Int32) * x1)) + (1 : Int32)) y0) (pR G a0 1) (3 : Int32) ((gA (sA (sA σ (pR G a0 1) (((67 : Int32) + ((2 : Int32) * x1)) + (0 : Int32)) x2) (pR G a0 1) (((67 : Int32) + ((2 : Int32) * x1)) + (1 : Int32)) y0) (pR G a0 1) (3 : Int32)) + (1 : Int32)))))))) else (some ((0 : Int32), σ))
set_option maxRecDepth 100000 in
set_option maxHeartbeats 4000000 in
theorem tX12_readDeed_b37 {N : Nat} {G : pG} {SK : Nat → Nat} {a0 : Nat} {x1 : Int32} {x2 : Int32} {y0 : Int32} {σ : pS} {r : Int32 × pS} (hW : WT G) (i0 : Is G a0 11) (h : fX12_readDeed_b37 N G a0 x1 x2 y0 σ = some r) : Ev miX12_readDeed (11, 0, 0) G (Zp G (some (.int r.1)) r.2) SK (0, 0) 37 [some (.ref a0), some (.int x1), some (.int x2), none] [.int y0] σ := by
  unfold fX12_readDeed_b37 at h
  refine ev_istore_n (lv' := [some (.ref a0), some (.int x1), some (.int x2), some (.int y0)]) dc_X12_readDeed_37 rfl (by decide) rfl ?_
  refine ev_iload_n dc_X12_readDeed_38 rfl ?_
  refine ev_if_ge (tgt := 44) dc_X12_readDeed_39 (by decide) h (fun h => ?_) (fun h => ?_)
  · refine ev_aload_n dc_X12_readDeed_44 rfl ?_
    refine ev_getR dc_X12_readDeed_45 fi_X12_13 rfl i0 ?_
    refine ev_bipush (v := 67) dc_X12_readDeed_48 (by decide) ?_
    refine ev_iconst (v := 2) dc_X12_readDeed_50 (by decide) ?_
    refine ev_iload_n dc_X12_readDeed_51 rfl ?_
    refine ev_imul dc_X12_readDeed_52 ?_
    refine ev_iadd dc_X12_readDeed_53 ?_
    refine ev_iconst (v := 0) dc_X12_readDeed_54 (by decide) ?_
    refine ev_iadd dc_X12_readDeed_55 ?_
    refine ev_iload_n dc_X12_readDeed_56 rfl ?_
    refine ev_iast dc_X12_readDeed_57 (wt hW i0 1 rfl rfl) h (fun h => ?_)
    refine ev_aload_n dc_X12_readDeed_58 rfl ?_
    refine ev_getR dc_X12_readDeed_59 fi_X12_13 rfl i0 ?_
    refine ev_bipush (v := 67) dc_X12_readDeed_62 (by decide) ?_
    refine ev_iconst (v := 2) dc_X12_readDeed_64 (by decide) ?_
    refine ev_iload_n dc_X12_readDeed_65 rfl ?_
    refine ev_imul dc_X12_readDeed_66 ?_
    refine ev_iadd dc_X12_readDeed_67 ?_
    refine ev_iconst (v := 1) dc_X12_readDeed_68 (by decide) ?_
    refine ev_iadd dc_X12_readDeed_69 ?_
    refine ev_iload_n dc_X12_readDeed_70 rfl ?_
    refine ev_iast dc_X12_readDeed_71 (wt hW i0 1 rfl rfl) h (fun h => ?_)
    refine ev_aload_n dc_X12_readDeed_72 rfl ?_
    refine ev_getR dc_X12_readDeed_73 fi_X12_13 rfl i0 ?_
    refine ev_iconst (v := 3) dc_X12_readDeed_76 (by decide) ?_
    refine ev_dup2 dc_X12_readDeed_77 rfl rfl ?_
    refine ev_iald dc_X12_readDeed_78 (wt hW i0 1 rfl rfl) h (fun h => ?_)
    refine ev_iconst (v := 1) dc_X12_readDeed_79 (by decide) ?_
    refine ev_iadd dc_X12_readDeed_80 ?_
    refine ev_iast dc_X12_readDeed_81 (wt hW i0 1 rfl rfl) h (fun h => ?_)
    refine ev_iconst (v := 1) dc_X12_readDeed_82 (by decide) ?_
    cases h
    exact ev_zretc dc_X12_readDeed_83 rfl rfl rfl rfl
  · refine ev_iconst (v := 0) dc_X12_readDeed_42 (by decide) ?_
    cases h
    exact ev_zretc dc_X12_readDeed_43 rfl rfl rfl rfl
def fX12_readDeed (N : Nat) (G : pG) (a0 : Nat) (σ : pS) : Option (Int32 × pS) := (fX12_deeds N G a0 σ).bind (fun q1 => if q1 = (4 : Int32) then (some ((0 : Int32), σ)) else ((fX12_number N G a0 (0 : Int32) (20 : Int32) σ).bind (fun q2 => if 0 ≤ q2.1 then ((fX12_after N G a0 51 (0 : Int32) (9 : Int32) q2.2).bind (fun q3 => fX12_readDeed_b37 N G a0 q1 q2.1 q3.1 q3.2)) else (fX12_readDeed_b37 N G a0 q1 q2.1 (-1 : Int32) q2.2))))
set_option maxRecDepth 100000 in
set_option maxHeartbeats 4000000 in
theorem tX12_readDeed {N : Nat} {G : pG} {SK : Nat → Nat} {a0 : Nat} {σ : pS} {r : Int32 × pS} (hW : WT G) (i0 : Is G a0 11) (h : fX12_readDeed N G a0 σ = some r) : Dn miX12_readDeed yX12_readDeed 11 G SK [.ref a0] σ (some (.int r.1)) r.2 := by
  unfold fX12_readDeed at h
  refine dn_of (lv := [some (.ref a0), none, none, none]) (by decide) rfl rfl (Nat.le_of_ble_eq_true rfl) rfl ?_
  refine ev_aload_n dc_X12_readDeed_0 rfl ?_
  obtain ⟨q1, hq1, h⟩ := Option.bind_eq_some_iff.mp h
  refine ev_callV (av := []) (st := []) (st1 := [.int q1]) dc_X12_readDeed_1 (tX12_deeds hW i0 hq1) mw_1695 cy_X12_deeds i0 (by decide) rfl rfl rfl rfl (Nat.le_of_ble_eq_true rfl) (Nat.le_of_ble_eq_true rfl) ⟨Nat.le_refl _, Nat.le_refl _⟩ ?_
  refine ev_istore_n (lv' := [some (.ref a0), some (.int q1), none, none]) dc_X12_readDeed_4 rfl (by decide) rfl ?_
  refine ev_iload_n dc_X12_readDeed_5 rfl ?_
  refine ev_iconst (v := 4) dc_X12_readDeed_6 (by decide) ?_
  refine ev_icmp_ne (tgt := 12) dc_X12_readDeed_7 (by decide) h (fun h => ?_) (fun h => ?_)
  · refine ev_iconst (v := 0) dc_X12_readDeed_10 (by decide) ?_
    cases h
    exact ev_zretc dc_X12_readDeed_11 rfl rfl rfl rfl
  · refine ev_aload_n dc_X12_readDeed_12 rfl ?_
    refine ev_iconst (v := 0) dc_X12_readDeed_13 (by decide) ?_
    refine ev_bipush (v := 20) dc_X12_readDeed_14 (by decide) ?_
    obtain ⟨q2, hq2, h⟩ := Option.bind_eq_some_iff.mp h
    refine ev_callV (av := [.int (0 : Int32), .int (20 : Int32)]) (st := []) (st1 := [.int q2.1]) dc_X12_readDeed_16 (tX12_number hW i0 hq2) mw_1667 cy_X12_number i0 (by decide) rfl rfl rfl rfl (Nat.le_of_ble_eq_true rfl) (Nat.le_of_ble_eq_true rfl) ⟨Nat.le_refl _, Nat.le_refl _⟩ ?_
    refine ev_istore_n (lv' := [some (.ref a0), some (.int q1), some (.int q2.1), none]) dc_X12_readDeed_19 rfl (by decide) rfl ?_
    refine ev_iload_n dc_X12_readDeed_20 rfl ?_
    refine ev_if_ge (tgt := 28) dc_X12_readDeed_21 (by decide) h (fun h => ?_) (fun h => ?_)
    · refine ev_aload_n dc_X12_readDeed_28 rfl ?_
      refine ev_ldcS (sid := 51) (tx := "costs") dc_X12_readDeed_29 (List.mem_of_getElem? (i := 51) rfl) ?_
      refine ev_iconst (v := 0) dc_X12_readDeed_31 (by decide) ?_
      refine ev_bipush (v := 9) dc_X12_readDeed_32 (by decide) ?_
      obtain ⟨q3, hq3, h⟩ := Option.bind_eq_some_iff.mp h
      refine ev_callV (av := [.ref (SK 51), .int (0 : Int32), .int (9 : Int32)]) (st := []) (st1 := [.int q3.1]) dc_X12_readDeed_34 (tX12_after hW i0 rfl hq3) mw_1663 cy_X12_after i0 (by decide) rfl rfl rfl rfl (Nat.le_of_ble_eq_true rfl) (Nat.le_of_ble_eq_true rfl) ⟨Nat.le_refl _, Nat.le_refl _⟩ ?_
      exact ev_sub (tX12_readDeed_b37 hW i0 h) (And.intro rfl (And.intro rfl (And.intro rfl trivial)))
    · refine ev_iconst (v := (-1)) dc_X12_readDeed_24 (by decide) ?_
      refine ev_goto (tgt := 37) dc_X12_readDeed_25 (by decide) ?_
      exact ev_sub (tX12_readDeed_b37 hW i0 h) (And.intro rfl (And.intro rfl (And.intro rfl trivial)))
theorem dc_X12_lettersTold_0 : Dc miX12_lettersTold 0 (.aload_n 0) 1 1 := ⟨by decide +kernel, rfl⟩
theorem dc_X12_lettersTold_1 : Dc miX12_lettersTold 1 (.invokevirtual 112) 3 4 := ⟨by decide +kernel, rfl⟩
theorem dc_X12_lettersTold_4 : Dc miX12_lettersTold 4 (.iconst 0) 1 5 := ⟨by decide +kernel, rfl⟩
theorem dc_X12_lettersTold_5 : Dc miX12_lettersTold 5 (.istore_n 1) 1 6 := ⟨by decide +kernel, rfl⟩
theorem dc_X12_lettersTold_6 : Dc miX12_lettersTold 6 (.aload_n 0) 1 7 := ⟨by decide +kernel, rfl⟩
theorem dc_X12_lettersTold_7 : Dc miX12_lettersTold 7 (.getfield 87) 3 10 := ⟨by decide +kernel, rfl⟩
theorem dc_X12_lettersTold_10 : Dc miX12_lettersTold 10 (.aload_n 0) 1 11 := ⟨by decide +kernel, rfl⟩
theorem dc_X12_lettersTold_11 : Dc miX12_lettersTold 11 (.getfield 97) 3 14 := ⟨by decide +kernel, rfl⟩
theorem dc_X12_lettersTold_14 : Dc miX12_lettersTold 14 (.if_icmp .le 7) 3 17 := ⟨by decide +kernel, rfl⟩
theorem dc_X12_lettersTold_17 : Dc miX12_lettersTold 17 (.iconst 1) 1 18 := ⟨by decide +kernel, rfl⟩
theorem dc_X12_lettersTold_18 : Dc miX12_lettersTold 18 (.goto 4) 3 21 := ⟨by decide +kernel, rfl⟩
theorem dc_X12_lettersTold_21 : Dc miX12_lettersTold 21 (.iconst 0) 1 22 := ⟨by decide +kernel, rfl⟩
theorem dc_X12_lettersTold_22 : Dc miX12_lettersTold 22 (.istore_n 2) 1 23 := ⟨by decide +kernel, rfl⟩
theorem dc_X12_lettersTold_23 : Dc miX12_lettersTold 23 (.aload_n 0) 1 24 := ⟨by decide +kernel, rfl⟩
theorem dc_X12_lettersTold_24 : Dc miX12_lettersTold 24 (.getfield 97) 3 27 := ⟨by decide +kernel, rfl⟩
theorem dc_X12_lettersTold_27 : Dc miX12_lettersTold 27 (.istore_n 3) 1 28 := ⟨by decide +kernel, rfl⟩
theorem dc_X12_lettersTold_28 : Dc miX12_lettersTold 28 (.iload_n 3) 1 29 := ⟨by decide +kernel, rfl⟩
theorem dc_X12_lettersTold_29 : Dc miX12_lettersTold 29 (.aload_n 0) 1 30 := ⟨by decide +kernel, rfl⟩
theorem dc_X12_lettersTold_30 : Dc miX12_lettersTold 30 (.getfield 87) 3 33 := ⟨by decide +kernel, rfl⟩
theorem dc_X12_lettersTold_33 : Dc miX12_lettersTold 33 (.if_icmp .ge 64) 3 36 := ⟨by decide +kernel, rfl⟩
theorem dc_X12_lettersTold_36 : Dc miX12_lettersTold 36 (.iload_n 2) 1 37 := ⟨by decide +kernel, rfl⟩
theorem dc_X12_lettersTold_37 : Dc miX12_lettersTold 37 (.ifCond .eq 60) 3 40 := ⟨by decide +kernel, rfl⟩
theorem dc_X12_lettersTold_40 : Dc miX12_lettersTold 40 (.aload_n 0) 1 41 := ⟨by decide +kernel, rfl⟩
theorem dc_X12_lettersTold_41 : Dc miX12_lettersTold 41 (.getfield 29) 3 44 := ⟨by decide +kernel, rfl⟩
theorem dc_X12_lettersTold_44 : Dc miX12_lettersTold 44 (.iload_n 3) 1 45 := ⟨by decide +kernel, rfl⟩
theorem dc_X12_lettersTold_45 : Dc miX12_lettersTold 45 (.baload) 1 46 := ⟨by decide +kernel, rfl⟩
theorem dc_X12_lettersTold_46 : Dc miX12_lettersTold 46 (.bipush 97) 2 48 := ⟨by decide +kernel, rfl⟩
theorem dc_X12_lettersTold_48 : Dc miX12_lettersTold 48 (.isub) 1 49 := ⟨by decide +kernel, rfl⟩
theorem dc_X12_lettersTold_49 : Dc miX12_lettersTold 49 (.istore 4) 2 51 := ⟨by decide +kernel, rfl⟩
theorem dc_X12_lettersTold_51 : Dc miX12_lettersTold 51 (.iload 4) 2 53 := ⟨by decide +kernel, rfl⟩
theorem dc_X12_lettersTold_53 : Dc miX12_lettersTold 53 (.iconst 0) 1 54 := ⟨by decide +kernel, rfl⟩
theorem dc_X12_lettersTold_54 : Dc miX12_lettersTold 54 (.iconst 5) 1 55 := ⟨by decide +kernel, rfl⟩
theorem dc_X12_lettersTold_55 : Dc miX12_lettersTold 55 (.invokestatic 70) 3 58 := ⟨by decide +kernel, rfl⟩
theorem dc_X12_lettersTold_58 : Dc miX12_lettersTold 58 (.ifCond .eq 16) 3 61 := ⟨by decide +kernel, rfl⟩
theorem dc_X12_lettersTold_61 : Dc miX12_lettersTold 61 (.iload_n 1) 1 62 := ⟨by decide +kernel, rfl⟩
theorem dc_X12_lettersTold_62 : Dc miX12_lettersTold 62 (.iload 4) 2 64 := ⟨by decide +kernel, rfl⟩
theorem dc_X12_lettersTold_64 : Dc miX12_lettersTold 64 (.invokestatic 122) 3 67 := ⟨by decide +kernel, rfl⟩
theorem dc_X12_lettersTold_67 : Dc miX12_lettersTold 67 (.ifCond .ne 7) 3 70 := ⟨by decide +kernel, rfl⟩
theorem dc_X12_lettersTold_70 : Dc miX12_lettersTold 70 (.iconst 1) 1 71 := ⟨by decide +kernel, rfl⟩
theorem dc_X12_lettersTold_71 : Dc miX12_lettersTold 71 (.goto 4) 3 74 := ⟨by decide +kernel, rfl⟩
theorem dc_X12_lettersTold_74 : Dc miX12_lettersTold 74 (.iconst 0) 1 75 := ⟨by decide +kernel, rfl⟩
theorem dc_X12_lettersTold_75 : Dc miX12_lettersTold 75 (.istore_n 2) 1 76 := ⟨by decide +kernel, rfl⟩
theorem dc_X12_lettersTold_76 : Dc miX12_lettersTold 76 (.iload_n 1) 1 77 := ⟨by decide +kernel, rfl⟩
theorem dc_X12_lettersTold_77 : Dc miX12_lettersTold 77 (.iload_n 2) 1 78 := ⟨by decide +kernel, rfl⟩
theorem dc_X12_lettersTold_78 : Dc miX12_lettersTold 78 (.ifCond .eq 10) 3 81 := ⟨by decide +kernel, rfl⟩
theorem dc_X12_lettersTold_81 : Dc miX12_lettersTold 81 (.iconst 1) 1 82 := ⟨by decide +kernel, rfl⟩
theorem dc_X12_lettersTold_82 : Dc miX12_lettersTold 82 (.iload 4) 2 84 := ⟨by decide +kernel, rfl⟩
theorem dc_X12_lettersTold_84 : Dc miX12_lettersTold 84 (.ishl) 1 85 := ⟨by decide +kernel, rfl⟩
theorem dc_X12_lettersTold_85 : Dc miX12_lettersTold 85 (.goto 4) 3 88 := ⟨by decide +kernel, rfl⟩
theorem dc_X12_lettersTold_88 : Dc miX12_lettersTold 88 (.iconst 0) 1 89 := ⟨by decide +kernel, rfl⟩
theorem dc_X12_lettersTold_89 : Dc miX12_lettersTold 89 (.ior) 1 90 := ⟨by decide +kernel, rfl⟩
theorem dc_X12_lettersTold_90 : Dc miX12_lettersTold 90 (.istore_n 1) 1 91 := ⟨by decide +kernel, rfl⟩
theorem dc_X12_lettersTold_91 : Dc miX12_lettersTold 91 (.iinc 3 1) 3 94 := ⟨by decide +kernel, rfl⟩
theorem dc_X12_lettersTold_94 : Dc miX12_lettersTold 94 (.goto (-66)) 3 97 := ⟨by decide +kernel, rfl⟩
theorem dc_X12_lettersTold_97 : Dc miX12_lettersTold 97 (.iload_n 2) 1 98 := ⟨by decide +kernel, rfl⟩
theorem dc_X12_lettersTold_98 : Dc miX12_lettersTold 98 (.ifCond .eq 7) 3 101 := ⟨by decide +kernel, rfl⟩
theorem dc_X12_lettersTold_101 : Dc miX12_lettersTold 101 (.iload_n 1) 1 102 := ⟨by decide +kernel, rfl⟩
theorem dc_X12_lettersTold_102 : Dc miX12_lettersTold 102 (.goto 4) 3 105 := ⟨by decide +kernel, rfl⟩
theorem dc_X12_lettersTold_105 : Dc miX12_lettersTold 105 (.iconst (-1)) 1 106 := ⟨by decide +kernel, rfl⟩
theorem dc_X12_lettersTold_106 : Dc miX12_lettersTold 106 (.ireturn) 1 107 := ⟨by decide +kernel, rfl⟩
def fX12_lettersTold_b75 (N : Nat) (G : pG) (k28 : Int32 × Int32 × Int32 × pS → Option (Int32 × pS)) (a0 : Nat) (x1 : Int32) (x3 : Int32) (x4 : Int32) (y0 : Int32) (σ : pS) : Option (Int32 × pS) := if y0 = 0 then (k28 (x1 ||| (0 : Int32), y0, x3 + (1 : Int32), σ)) else (k28 (x1 ||| ((1 : Int32) <<< (x4 &&& 31)), y0, x3 + (1 : Int32), σ))
set_option maxRecDepth 100000 in
set_option maxHeartbeats 4000000 in
theorem tX12_lettersTold_b75 {N : Nat} {G : pG} {SK : Nat → Nat} {k28 : Int32 × Int32 × Int32 × pS → Option (Int32 × pS)} {a0 : Nat} {x1 : Int32} {x3 : Int32} {x4 : Int32} {y0 : Int32} {σ : pS} {r : Int32 × pS} (hW : WT G) (i0 : Is G a0 11) (hk28 : ∀ b : Int32 × Int32 × Int32 × pS, k28 b = some r → Ev miX12_lettersTold (4, 0, 0) G (Zp G (some (.int r.1)) r.2) SK (0, 0) 28 [some (.ref a0), some (.int b.1), some (.int b.2.1), some (.int b.2.2.1), none] [] b.2.2.2) (h : fX12_lettersTold_b75 N G k28 a0 x1 x3 x4 y0 σ = some r) : Ev miX12_lettersTold (4, 0, 0) G (Zp G (some (.int r.1)) r.2) SK (0, 0) 75 [some (.ref a0), some (.int x1), none, some (.int x3), some (.int x4)] [.int y0] σ := by
  unfold fX12_lettersTold_b75 at h
  refine ev_istore_n (lv' := [some (.ref a0), some (.int x1), some (.int y0), some (.int x3), some (.int x4)]) dc_X12_lettersTold_75 rfl (by decide) rfl ?_
  refine ev_iload_n dc_X12_lettersTold_76 rfl ?_
  refine ev_iload_n dc_X12_lettersTold_77 rfl ?_
  refine ev_if_eq (tgt := 88) dc_X12_lettersTold_78 (by decide) h (fun h => ?_) (fun h => ?_)
  · refine ev_iconst (v := 0) dc_X12_lettersTold_88 (by decide) ?_
    refine ev_ior dc_X12_lettersTold_89 ?_
    refine ev_istore_n (lv' := [some (.ref a0), some (.int (x1 ||| (0 : Int32))), some (.int y0), some (.int x3), some (.int x4)]) dc_X12_lettersTold_90 rfl (by decide) rfl ?_
    refine ev_iinc (v := 1) (lv' := [some (.ref a0), some (.int (x1 ||| (0 : Int32))), some (.int y0), some (.int (x3 + (1 : Int32))), some (.int x4)]) dc_X12_lettersTold_91 rfl (by decide) rfl (by decide) rfl ?_
    refine ev_goto (tgt := 28) dc_X12_lettersTold_94 (by decide) ?_
    exact ev_sub (hk28 (x1 ||| (0 : Int32), y0, x3 + (1 : Int32), σ) h) (And.intro rfl (And.intro rfl (And.intro rfl (And.intro rfl trivial))))
  · refine ev_iconst (v := 1) dc_X12_lettersTold_81 (by decide) ?_
    refine ev_iload dc_X12_lettersTold_82 rfl ?_
    refine ev_ishl dc_X12_lettersTold_84 ?_
    refine ev_goto (tgt := 89) dc_X12_lettersTold_85 (by decide) ?_
    refine ev_ior dc_X12_lettersTold_89 ?_
    refine ev_istore_n (lv' := [some (.ref a0), some (.int (x1 ||| ((1 : Int32) <<< (x4 &&& 31)))), some (.int y0), some (.int x3), some (.int x4)]) dc_X12_lettersTold_90 rfl (by decide) rfl ?_
    refine ev_iinc (v := 1) (lv' := [some (.ref a0), some (.int (x1 ||| ((1 : Int32) <<< (x4 &&& 31)))), some (.int y0), some (.int (x3 + (1 : Int32))), some (.int x4)]) dc_X12_lettersTold_91 rfl (by decide) rfl (by decide) rfl ?_
    refine ev_goto (tgt := 28) dc_X12_lettersTold_94 (by decide) ?_
    exact ev_sub (hk28 (x1 ||| ((1 : Int32) <<< (x4 &&& 31)), y0, x3 + (1 : Int32), σ) h) (And.intro rfl (And.intro rfl (And.intro rfl (And.intro rfl trivial))))
def fX12_lettersTold_b74 (N : Nat) (G : pG) (k28 : Int32 × Int32 × Int32 × pS → Option (Int32 × pS)) (a0 : Nat) (x1 : Int32) (x3 : Int32) (x4 : Int32) (σ : pS) : Option (Int32 × pS) := fX12_lettersTold_b75 N G k28 a0 x1 x3 x4 (0 : Int32) σ
set_option maxRecDepth 100000 in
set_option maxHeartbeats 4000000 in
theorem tX12_lettersTold_b74 {N : Nat} {G : pG} {SK : Nat → Nat} {k28 : Int32 × Int32 × Int32 × pS → Option (Int32 × pS)} {a0 : Nat} {x1 : Int32} {x3 : Int32} {x4 : Int32} {σ : pS} {r : Int32 × pS} (hW : WT G) (i0 : Is G a0 11) (hk28 : ∀ b : Int32 × Int32 × Int32 × pS, k28 b = some r → Ev miX12_lettersTold (4, 0, 0) G (Zp G (some (.int r.1)) r.2) SK (0, 0) 28 [some (.ref a0), some (.int b.1), some (.int b.2.1), some (.int b.2.2.1), none] [] b.2.2.2) (h : fX12_lettersTold_b74 N G k28 a0 x1 x3 x4 σ = some r) : Ev miX12_lettersTold (4, 0, 0) G (Zp G (some (.int r.1)) r.2) SK (0, 0) 74 [some (.ref a0), some (.int x1), none, some (.int x3), some (.int x4)] [] σ := by
  unfold fX12_lettersTold_b74 at h
  refine ev_iconst (v := 0) dc_X12_lettersTold_74 (by decide) ?_
  exact ev_sub (tX12_lettersTold_b75 hW i0 hk28 h) (And.intro rfl (And.intro rfl (And.intro rfl (And.intro rfl trivial))))
def fX12_lettersTold_b97 (N : Nat) (G : pG) (x1 : Int32) (x2 : Int32) (σ : pS) : Option (Int32 × pS) := if x2 = 0 then (some ((-1 : Int32), σ)) else (some (x1, σ))
set_option maxRecDepth 100000 in
set_option maxHeartbeats 4000000 in
theorem tX12_lettersTold_b97 {N : Nat} {G : pG} {SK : Nat → Nat} {x1 : Int32} {x2 : Int32} {σ : pS} {r : Int32 × pS} (hW : WT G) (h : fX12_lettersTold_b97 N G x1 x2 σ = some r) : Ev miX12_lettersTold (4, 0, 0) G (Zp G (some (.int r.1)) r.2) SK (0, 0) 97 [none, some (.int x1), some (.int x2), none, none] [] σ := by
  unfold fX12_lettersTold_b97 at h
  refine ev_iload_n dc_X12_lettersTold_97 rfl ?_
  refine ev_if_eq (tgt := 105) dc_X12_lettersTold_98 (by decide) h (fun h => ?_) (fun h => ?_)
  · refine ev_iconst (v := (-1)) dc_X12_lettersTold_105 (by decide) ?_
    cases h
    exact ev_iret dc_X12_lettersTold_106 rfl rfl rfl
  · refine ev_iload_n dc_X12_lettersTold_101 rfl ?_
    refine ev_goto (tgt := 106) dc_X12_lettersTold_102 (by decide) ?_
    cases h
    exact ev_iret dc_X12_lettersTold_106 rfl rfl rfl
def fX12_lettersTold_b28 (N : Nat) (G : pG) (a0 : Nat) : (Int32 × Int32 × Int32 × pS) → Option (Int32 × pS) := lp (fun (k28 : Int32 × Int32 × Int32 × pS → Option (Int32 × pS)) (b : Int32 × Int32 × Int32 × pS) => if (b.2.2.2.1 a0 10) ≤ b.2.2.1 then (fX12_lettersTold_b97 N G b.1 b.2.1 b.2.2.2) else (if b.2.1 = 0 then (fX12_lettersTold_b97 N G b.1 b.2.1 b.2.2.2) else (ck (inB b.2.2.1 (pN G (pR G a0 8))) ((fX12_in N G ((gA b.2.2.2 (pR G a0 8) b.2.2.1) - (97 : Int32)) (0 : Int32) (5 : Int32) b.2.2.2).bind (fun q1 => if q1 = 0 then (fX12_lettersTold_b74 N G k28 a0 b.1 b.2.2.1 ((gA b.2.2.2 (pR G a0 8) b.2.2.1) - (97 : Int32)) b.2.2.2) else ((fX12_has N G b.1 ((gA b.2.2.2 (pR G a0 8) b.2.2.1) - (97 : Int32)) b.2.2.2).bind (fun q2 => if q2 = 0 then (fX12_lettersTold_b75 N G k28 a0 b.1 b.2.2.1 ((gA b.2.2.2 (pR G a0 8) b.2.2.1) - (97 : Int32)) (1 : Int32) b.2.2.2) else (fX12_lettersTold_b74 N G k28 a0 b.1 b.2.2.1 ((gA b.2.2.2 (pR G a0 8) b.2.2.1) - (97 : Int32)) b.2.2.2)))))))) N
set_option maxRecDepth 100000 in
set_option maxHeartbeats 4000000 in
theorem tX12_lettersTold_b28 {N : Nat} {G : pG} {SK : Nat → Nat} {a0 : Nat} {b : Int32 × Int32 × Int32 × pS} {r : Int32 × pS} (hW : WT G) (i0 : Is G a0 11) (h : fX12_lettersTold_b28 N G a0 b = some r) : Ev miX12_lettersTold (4, 0, 0) G (Zp G (some (.int r.1)) r.2) SK (0, 0) 28 [some (.ref a0), some (.int b.1), some (.int b.2.1), some (.int b.2.2.1), none] [] b.2.2.2 := by
  unfold fX12_lettersTold_b28 at h
  refine lp_ind (P := fun b r9 => r9 = r → Ev miX12_lettersTold (4, 0, 0) G (Zp G (some (.int r.1)) r.2) SK (0, 0) 28 [some (.ref a0), some (.int b.1), some (.int b.2.1), some (.int b.2.2.1), none] [] b.2.2.2) (fun k28 b r9 ih h9 e9 => ?_) N b r h rfl
  clear h
  subst e9
  have h := h9
  clear h9
  have hk28 : ∀ b : Int32 × Int32 × Int32 × pS, k28 b = some r9 → Ev miX12_lettersTold (4, 0, 0) G (Zp G (some (.int r9.1)) r9.2) SK (0, 0) 28 [some (.ref a0), some (.int b.1), some (.int b.2.1), some (.int b.2.2.1), none] [] b.2.2.2 := fun b hb => ih b r9 hb rfl
  clear ih
  obtain ⟨x1, x2, x3, σ⟩ := b
  dsimp only at h ⊢
  refine ev_iload_n dc_X12_lettersTold_28 rfl ?_
  refine ev_aload_n dc_X12_lettersTold_29 rfl ?_
  refine ev_getI dc_X12_lettersTold_30 fi_X12_87 rfl i0 ?_
  refine ev_icmp_ge (tgt := 97) dc_X12_lettersTold_33 (by decide) h (fun h => ?_) (fun h => ?_)
  · exact ev_sub (tX12_lettersTold_b97 hW h) (And.intro rfl (And.intro rfl trivial))
  · refine ev_iload_n dc_X12_lettersTold_36 rfl ?_
    refine ev_if_eq (tgt := 97) dc_X12_lettersTold_37 (by decide) h (fun h => ?_) (fun h => ?_)
    · exact ev_sub (tX12_lettersTold_b97 hW h) (And.intro rfl (And.intro rfl trivial))
    · refine ev_aload_n dc_X12_lettersTold_40 rfl ?_
      refine ev_getR dc_X12_lettersTold_41 fi_X12_29 rfl i0 ?_
      refine ev_iload_n dc_X12_lettersTold_44 rfl ?_
      refine ev_bald dc_X12_lettersTold_45 (wt hW i0 8 rfl rfl) h (fun h => ?_)
      refine ev_bipush (v := 97) dc_X12_lettersTold_46 (by decide) ?_
      refine ev_isub dc_X12_lettersTold_48 ?_
      refine ev_istore (lv' := [some (.ref a0), some (.int x1), some (.int x2), some (.int x3), some (.int ((gA σ (pR G a0 8) x3) - (97 : Int32)))]) dc_X12_lettersTold_49 rfl (by decide) rfl ?_
      refine ev_iload dc_X12_lettersTold_51 rfl ?_
      refine ev_iconst (v := 0) dc_X12_lettersTold_53 (by decide) ?_
      refine ev_iconst (v := 5) dc_X12_lettersTold_54 (by decide) ?_
      obtain ⟨q1, hq1, h⟩ := Option.bind_eq_some_iff.mp h
      refine ev_callS (av := [.int ((gA σ (pR G a0 8) x3) - (97 : Int32)), .int (0 : Int32), .int (5 : Int32)]) (st := []) (st1 := [.int q1]) dc_X12_lettersTold_55 (tX12_in hW hq1) mw_1656 cs_X12_in rfl rfl rfl (Nat.le_of_ble_eq_true rfl) (Nat.le_of_ble_eq_true rfl) ⟨Nat.le_refl _, Nat.le_refl _⟩ ?_
      refine ev_if_eq (tgt := 74) dc_X12_lettersTold_58 (by decide) h (fun h => ?_) (fun h => ?_)
      · exact ev_sub (tX12_lettersTold_b74 hW i0 hk28 h) (And.intro rfl (And.intro rfl (And.intro rfl (And.intro rfl trivial))))
      · refine ev_iload_n dc_X12_lettersTold_61 rfl ?_
        refine ev_iload dc_X12_lettersTold_62 rfl ?_
        obtain ⟨q2, hq2, h⟩ := Option.bind_eq_some_iff.mp h
        refine ev_callS (av := [.int x1, .int ((gA σ (pR G a0 8) x3) - (97 : Int32))]) (st := []) (st1 := [.int q2]) dc_X12_lettersTold_64 (tX12_has hW hq2) mw_1659 cs_X12_has rfl rfl rfl (Nat.le_of_ble_eq_true rfl) (Nat.le_of_ble_eq_true rfl) ⟨Nat.le_refl _, Nat.le_refl _⟩ ?_
        refine ev_if_ne (tgt := 74) dc_X12_lettersTold_67 (by decide) h (fun h => ?_) (fun h => ?_)
        · refine ev_iconst (v := 1) dc_X12_lettersTold_70 (by decide) ?_
          refine ev_goto (tgt := 75) dc_X12_lettersTold_71 (by decide) ?_
          exact ev_sub (tX12_lettersTold_b75 hW i0 hk28 h) (And.intro rfl (And.intro rfl (And.intro rfl (And.intro rfl trivial))))
        · exact ev_sub (tX12_lettersTold_b74 hW i0 hk28 h) (And.intro rfl (And.intro rfl (And.intro rfl (And.intro rfl trivial))))
def fX12_lettersTold_b22 (N : Nat) (G : pG) (a0 : Nat) (x1 : Int32) (y0 : Int32) (σ : pS) : Option (Int32 × pS) := fX12_lettersTold_b28 N G a0 (x1, y0, σ.1 a0 12, σ)
set_option maxRecDepth 100000 in
set_option maxHeartbeats 4000000 in
theorem tX12_lettersTold_b22 {N : Nat} {G : pG} {SK : Nat → Nat} {a0 : Nat} {x1 : Int32} {y0 : Int32} {σ : pS} {r : Int32 × pS} (hW : WT G) (i0 : Is G a0 11) (h : fX12_lettersTold_b22 N G a0 x1 y0 σ = some r) : Ev miX12_lettersTold (4, 0, 0) G (Zp G (some (.int r.1)) r.2) SK (0, 0) 22 [some (.ref a0), some (.int x1), none, none, none] [.int y0] σ := by
  unfold fX12_lettersTold_b22 at h
  refine ev_istore_n (lv' := [some (.ref a0), some (.int x1), some (.int y0), none, none]) dc_X12_lettersTold_22 rfl (by decide) rfl ?_
  refine ev_aload_n dc_X12_lettersTold_23 rfl ?_
  refine ev_getI dc_X12_lettersTold_24 fi_X12_97 rfl i0 ?_
  refine ev_istore_n (lv' := [some (.ref a0), some (.int x1), some (.int y0), some (.int (σ.1 a0 12)), none]) dc_X12_lettersTold_27 rfl (by decide) rfl ?_
  exact ev_sub (tX12_lettersTold_b28 (b := (x1, y0, σ.1 a0 12, σ)) hW i0 h) (And.intro rfl (And.intro rfl (And.intro rfl (And.intro rfl trivial))))
def fX12_lettersTold (N : Nat) (G : pG) (a0 : Nat) (σ : pS) : Option (Int32 × pS) := (fX12_letters N G a0 σ).bind (fun q3 => if (q3.1 a0 10) ≤ (q3.1 a0 12) then (fX12_lettersTold_b22 N G a0 (0 : Int32) (0 : Int32) q3) else (fX12_lettersTold_b22 N G a0 (0 : Int32) (1 : Int32) q3))
set_option maxRecDepth 100000 in
set_option maxHeartbeats 4000000 in
theorem tX12_lettersTold {N : Nat} {G : pG} {SK : Nat → Nat} {a0 : Nat} {σ : pS} {r : Int32 × pS} (hW : WT G) (i0 : Is G a0 11) (h : fX12_lettersTold N G a0 σ = some r) : Dn miX12_lettersTold yX12_lettersTold 4 G SK [.ref a0] σ (some (.int r.1)) r.2 := by
  unfold fX12_lettersTold at h
  refine dn_of (lv := [some (.ref a0), none, none, none, none]) (by decide) rfl rfl (Nat.le_of_ble_eq_true rfl) rfl ?_
  refine ev_aload_n dc_X12_lettersTold_0 rfl ?_
  obtain ⟨q3, hq3, h⟩ := Option.bind_eq_some_iff.mp h
  refine ev_callV (av := []) (st := []) (st1 := []) dc_X12_lettersTold_1 (tX12_letters hW i0 hq3) mw_1629 cy_X12_letters i0 (by decide) rfl rfl rfl rfl (Nat.le_of_ble_eq_true rfl) (Nat.le_of_ble_eq_true rfl) ⟨Nat.le_refl _, Nat.le_refl _⟩ ?_
  refine ev_iconst (v := 0) dc_X12_lettersTold_4 (by decide) ?_
  refine ev_istore_n (lv' := [some (.ref a0), some (.int (0 : Int32)), none, none, none]) dc_X12_lettersTold_5 rfl (by decide) rfl ?_
  refine ev_aload_n dc_X12_lettersTold_6 rfl ?_
  refine ev_getI dc_X12_lettersTold_7 fi_X12_87 rfl i0 ?_
  refine ev_aload_n dc_X12_lettersTold_10 rfl ?_
  refine ev_getI dc_X12_lettersTold_11 fi_X12_97 rfl i0 ?_
  refine ev_icmp_le (tgt := 21) dc_X12_lettersTold_14 (by decide) h (fun h => ?_) (fun h => ?_)
  · refine ev_iconst (v := 0) dc_X12_lettersTold_21 (by decide) ?_
    exact ev_sub (tX12_lettersTold_b22 hW i0 h) (And.intro rfl (And.intro rfl trivial))
  · refine ev_iconst (v := 1) dc_X12_lettersTold_17 (by decide) ?_
    refine ev_goto (tgt := 22) dc_X12_lettersTold_18 (by decide) ?_
    exact ev_sub (tX12_lettersTold_b22 hW i0 h) (And.intro rfl (And.intro rfl trivial))
theorem dc_X12_readDuty_0 : Dc miX12_readDuty 0 (.aload_n 0) 1 1 := ⟨by decide +kernel, rfl⟩
theorem dc_X12_readDuty_1 : Dc miX12_readDuty 1 (.invokevirtual 150) 3 4 := ⟨by decide +kernel, rfl⟩
theorem dc_X12_readDuty_4 : Dc miX12_readDuty 4 (.bipush 8) 2 6 := ⟨by decide +kernel, rfl⟩
theorem dc_X12_readDuty_6 : Dc miX12_readDuty 6 (.if_icmp .ne 5) 3 9 := ⟨by decide +kernel, rfl⟩
theorem dc_X12_readDuty_9 : Dc miX12_readDuty 9 (.iconst 0) 1 10 := ⟨by decide +kernel, rfl⟩
theorem dc_X12_readDuty_10 : Dc miX12_readDuty 10 (.ireturn) 1 11 := ⟨by decide +kernel, rfl⟩
theorem dc_X12_readDuty_11 : Dc miX12_readDuty 11 (.aload_n 0) 1 12 := ⟨by decide +kernel, rfl⟩
theorem dc_X12_readDuty_12 : Dc miX12_readDuty 12 (.invokevirtual 125) 3 15 := ⟨by decide +kernel, rfl⟩
theorem dc_X12_readDuty_15 : Dc miX12_readDuty 15 (.istore_n 1) 1 16 := ⟨by decide +kernel, rfl⟩
theorem dc_X12_readDuty_16 : Dc miX12_readDuty 16 (.iload_n 1) 1 17 := ⟨by decide +kernel, rfl⟩
theorem dc_X12_readDuty_17 : Dc miX12_readDuty 17 (.ifCond .ge 5) 3 20 := ⟨by decide +kernel, rfl⟩
theorem dc_X12_readDuty_20 : Dc miX12_readDuty 20 (.iconst 0) 1 21 := ⟨by decide +kernel, rfl⟩
theorem dc_X12_readDuty_21 : Dc miX12_readDuty 21 (.ireturn) 1 22 := ⟨by decide +kernel, rfl⟩
theorem dc_X12_readDuty_22 : Dc miX12_readDuty 22 (.aload_n 0) 1 23 := ⟨by decide +kernel, rfl⟩
theorem dc_X12_readDuty_23 : Dc miX12_readDuty 23 (.getfield 13) 3 26 := ⟨by decide +kernel, rfl⟩
theorem dc_X12_readDuty_26 : Dc miX12_readDuty 26 (.bipush 75) 2 28 := ⟨by decide +kernel, rfl⟩
theorem dc_X12_readDuty_28 : Dc miX12_readDuty 28 (.aload_n 0) 1 29 := ⟨by decide +kernel, rfl⟩
theorem dc_X12_readDuty_29 : Dc miX12_readDuty 29 (.invokevirtual 150) 3 32 := ⟨by decide +kernel, rfl⟩
theorem dc_X12_readDuty_32 : Dc miX12_readDuty 32 (.iadd) 1 33 := ⟨by decide +kernel, rfl⟩
theorem dc_X12_readDuty_33 : Dc miX12_readDuty 33 (.iload_n 1) 1 34 := ⟨by decide +kernel, rfl⟩
theorem dc_X12_readDuty_34 : Dc miX12_readDuty 34 (.iastore) 1 35 := ⟨by decide +kernel, rfl⟩
theorem dc_X12_readDuty_35 : Dc miX12_readDuty 35 (.aload_n 0) 1 36 := ⟨by decide +kernel, rfl⟩
theorem dc_X12_readDuty_36 : Dc miX12_readDuty 36 (.getfield 13) 3 39 := ⟨by decide +kernel, rfl⟩
theorem dc_X12_readDuty_39 : Dc miX12_readDuty 39 (.iconst 4) 1 40 := ⟨by decide +kernel, rfl⟩
theorem dc_X12_readDuty_40 : Dc miX12_readDuty 40 (.dup2) 1 41 := ⟨by decide +kernel, rfl⟩
theorem dc_X12_readDuty_41 : Dc miX12_readDuty 41 (.iaload) 1 42 := ⟨by decide +kernel, rfl⟩
theorem dc_X12_readDuty_42 : Dc miX12_readDuty 42 (.iconst 1) 1 43 := ⟨by decide +kernel, rfl⟩
theorem dc_X12_readDuty_43 : Dc miX12_readDuty 43 (.iadd) 1 44 := ⟨by decide +kernel, rfl⟩
theorem dc_X12_readDuty_44 : Dc miX12_readDuty 44 (.iastore) 1 45 := ⟨by decide +kernel, rfl⟩
theorem dc_X12_readDuty_45 : Dc miX12_readDuty 45 (.iconst 1) 1 46 := ⟨by decide +kernel, rfl⟩
theorem dc_X12_readDuty_46 : Dc miX12_readDuty 46 (.ireturn) 1 47 := ⟨by decide +kernel, rfl⟩
def fX12_readDuty (N : Nat) (G : pG) (a0 : Nat) (σ : pS) : Option (Int32 × pS) := (fX12_duties N G a0 σ).bind (fun q1 => if q1 = (8 : Int32) then (some ((0 : Int32), σ)) else ((fX12_lettersTold N G a0 σ).bind (fun q2 => if 0 ≤ q2.1 then ((fX12_duties N G a0 q2.2).bind (fun q3 => ck (inB ((75 : Int32) + q3) (pN G (pR G a0 1))) (ck (inB (4 : Int32) (pN G (pR G a0 1))) (ck (inB (4 : Int32) (pN G (pR G a0 1))) (some ((1 : Int32), sA (sA q2.2 (pR G a0 1) ((75 : Int32) + q3) q2.1) (pR G a0 1) (4 : Int32) ((gA (sA q2.2 (pR G a0 1) ((75 : Int32) + q3) q2.1) (pR G a0 1) (4 : Int32)) + (1 : Int32)))))))) else (some ((0 : Int32), q2.2)))))
set_option maxRecDepth 100000 in
set_option maxHeartbeats 4000000 in
theorem tX12_readDuty {N : Nat} {G : pG} {SK : Nat → Nat} {a0 : Nat} {σ : pS} {r : Int32 × pS} (hW : WT G) (i0 : Is G a0 11) (h : fX12_readDuty N G a0 σ = some r) : Dn miX12_readDuty yX12_readDuty 5 G SK [.ref a0] σ (some (.int r.1)) r.2 := by
  unfold fX12_readDuty at h
  refine dn_of (lv := [some (.ref a0), none]) (by decide) rfl rfl (Nat.le_of_ble_eq_true rfl) rfl ?_
  refine ev_aload_n dc_X12_readDuty_0 rfl ?_
  obtain ⟨q1, hq1, h⟩ := Option.bind_eq_some_iff.mp h
  refine ev_callV (av := []) (st := []) (st1 := [.int q1]) dc_X12_readDuty_1 (tX12_duties hW i0 hq1) mw_1715 cy_X12_duties i0 (by decide) rfl rfl rfl rfl (Nat.le_of_ble_eq_true rfl) (Nat.le_of_ble_eq_true rfl) ⟨Nat.le_refl _, Nat.le_refl _⟩ ?_
  refine ev_bipush (v := 8) dc_X12_readDuty_4 (by decide) ?_
  refine ev_icmp_ne (tgt := 11) dc_X12_readDuty_6 (by decide) h (fun h => ?_) (fun h => ?_)
  · refine ev_iconst (v := 0) dc_X12_readDuty_9 (by decide) ?_
    cases h
    exact ev_zretc dc_X12_readDuty_10 rfl rfl rfl rfl
  · refine ev_aload_n dc_X12_readDuty_11 rfl ?_
    obtain ⟨q2, hq2, h⟩ := Option.bind_eq_some_iff.mp h
    refine ev_callV (av := []) (st := []) (st1 := [.int q2.1]) dc_X12_readDuty_12 (tX12_lettersTold hW i0 hq2) mw_1652 cy_X12_lettersTold i0 (by decide) rfl rfl rfl rfl (Nat.le_of_ble_eq_true rfl) (Nat.le_of_ble_eq_true rfl) ⟨Nat.le_refl _, Nat.le_refl _⟩ ?_
    refine ev_istore_n (lv' := [some (.ref a0), some (.int q2.1)]) dc_X12_readDuty_15 rfl (by decide) rfl ?_
    refine ev_iload_n dc_X12_readDuty_16 rfl ?_
    refine ev_if_ge (tgt := 22) dc_X12_readDuty_17 (by decide) h (fun h => ?_) (fun h => ?_)
    · refine ev_aload_n dc_X12_readDuty_22 rfl ?_
      refine ev_getR dc_X12_readDuty_23 fi_X12_13 rfl i0 ?_
      refine ev_bipush (v := 75) dc_X12_readDuty_26 (by decide) ?_
      refine ev_aload_n dc_X12_readDuty_28 rfl ?_
      obtain ⟨q3, hq3, h⟩ := Option.bind_eq_some_iff.mp h
      refine ev_callV (av := []) (st := [.int (75 : Int32), .ref (pR G a0 1)]) (st1 := [.int q3, .int (75 : Int32), .ref (pR G a0 1)]) dc_X12_readDuty_29 (tX12_duties hW i0 hq3) mw_1715 cy_X12_duties i0 (by decide) rfl rfl rfl rfl (Nat.le_of_ble_eq_true rfl) (Nat.le_of_ble_eq_true rfl) ⟨Nat.le_refl _, Nat.le_refl _⟩ ?_
      refine ev_iadd dc_X12_readDuty_32 ?_
      refine ev_iload_n dc_X12_readDuty_33 rfl ?_
      refine ev_iast dc_X12_readDuty_34 (wt hW i0 1 rfl rfl) h (fun h => ?_)
      refine ev_aload_n dc_X12_readDuty_35 rfl ?_
      refine ev_getR dc_X12_readDuty_36 fi_X12_13 rfl i0 ?_
      refine ev_iconst (v := 4) dc_X12_readDuty_39 (by decide) ?_
      refine ev_dup2 dc_X12_readDuty_40 rfl rfl ?_
      refine ev_iald dc_X12_readDuty_41 (wt hW i0 1 rfl rfl) h (fun h => ?_)
      refine ev_iconst (v := 1) dc_X12_readDuty_42 (by decide) ?_
      refine ev_iadd dc_X12_readDuty_43 ?_
      refine ev_iast dc_X12_readDuty_44 (wt hW i0 1 rfl rfl) h (fun h => ?_)
      refine ev_iconst (v := 1) dc_X12_readDuty_45 (by decide) ?_
      cases h
      exact ev_zretc dc_X12_readDuty_46 rfl rfl rfl rfl
    · refine ev_iconst (v := 0) dc_X12_readDuty_20 (by decide) ?_
      cases h
      exact ev_zretc dc_X12_readDuty_21 rfl rfl rfl rfl
theorem dc_X12_readHis_0 : Dc miX12_readHis 0 (.aload_n 0) 1 1 := ⟨by decide +kernel, rfl⟩
theorem dc_X12_readHis_1 : Dc miX12_readHis 1 (.iconst 0) 1 2 := ⟨by decide +kernel, rfl⟩
theorem dc_X12_readHis_2 : Dc miX12_readHis 2 (.aload_n 0) 1 3 := ⟨by decide +kernel, rfl⟩
theorem dc_X12_readHis_3 : Dc miX12_readHis 3 (.invokevirtual 66) 3 6 := ⟨by decide +kernel, rfl⟩
theorem dc_X12_readHis_6 : Dc miX12_readHis 6 (.iconst 1) 1 7 := ⟨by decide +kernel, rfl⟩
theorem dc_X12_readHis_7 : Dc miX12_readHis 7 (.isub) 1 8 := ⟨by decide +kernel, rfl⟩
theorem dc_X12_readHis_8 : Dc miX12_readHis 8 (.invokevirtual 119) 3 11 := ⟨by decide +kernel, rfl⟩
theorem dc_X12_readHis_11 : Dc miX12_readHis 11 (.istore_n 1) 1 12 := ⟨by decide +kernel, rfl⟩
theorem dc_X12_readHis_12 : Dc miX12_readHis 12 (.iload_n 1) 1 13 := ⟨by decide +kernel, rfl⟩
theorem dc_X12_readHis_13 : Dc miX12_readHis 13 (.ifCond .lt 8) 3 16 := ⟨by decide +kernel, rfl⟩
theorem dc_X12_readHis_16 : Dc miX12_readHis 16 (.aload_n 0) 1 17 := ⟨by decide +kernel, rfl⟩
theorem dc_X12_readHis_17 : Dc miX12_readHis 17 (.iload_n 1) 1 18 := ⟨by decide +kernel, rfl⟩
theorem dc_X12_readHis_18 : Dc miX12_readHis 18 (.invokevirtual 153) 3 21 := ⟨by decide +kernel, rfl⟩
theorem dc_X12_readHis_21 : Dc miX12_readHis 21 (.iload_n 1) 1 22 := ⟨by decide +kernel, rfl⟩
theorem dc_X12_readHis_22 : Dc miX12_readHis 22 (.ifCond .lt 7) 3 25 := ⟨by decide +kernel, rfl⟩
theorem dc_X12_readHis_25 : Dc miX12_readHis 25 (.iconst 1) 1 26 := ⟨by decide +kernel, rfl⟩
theorem dc_X12_readHis_26 : Dc miX12_readHis 26 (.goto 4) 3 29 := ⟨by decide +kernel, rfl⟩
theorem dc_X12_readHis_29 : Dc miX12_readHis 29 (.iconst 0) 1 30 := ⟨by decide +kernel, rfl⟩
theorem dc_X12_readHis_30 : Dc miX12_readHis 30 (.ireturn) 1 31 := ⟨by decide +kernel, rfl⟩
def fX12_readHis_b21 (N : Nat) (G : pG) (x1 : Int32) (σ : pS) : Option (Int32 × pS) := if x1 < 0 then (some ((0 : Int32), σ)) else (some ((1 : Int32), σ))
set_option maxRecDepth 100000 in
set_option maxHeartbeats 4000000 in
theorem tX12_readHis_b21 {N : Nat} {G : pG} {SK : Nat → Nat} {x1 : Int32} {σ : pS} {r : Int32 × pS} (hW : WT G) (h : fX12_readHis_b21 N G x1 σ = some r) : Ev miX12_readHis (4, 0, 0) G (Zp G (some (.int r.1)) r.2) SK (0, 0) 21 [none, some (.int x1)] [] σ := by
  unfold fX12_readHis_b21 at h
  refine ev_iload_n dc_X12_readHis_21 rfl ?_
  refine ev_if_lt (tgt := 29) dc_X12_readHis_22 (by decide) h (fun h => ?_) (fun h => ?_)
  · refine ev_iconst (v := 0) dc_X12_readHis_29 (by decide) ?_
    cases h
    exact ev_zretc dc_X12_readHis_30 rfl rfl rfl rfl
  · refine ev_iconst (v := 1) dc_X12_readHis_25 (by decide) ?_
    refine ev_goto (tgt := 30) dc_X12_readHis_26 (by decide) ?_
    cases h
    exact ev_zretc dc_X12_readHis_30 rfl rfl rfl rfl
def fX12_readHis (N : Nat) (G : pG) (a0 : Nat) (σ : pS) : Option (Int32 × pS) := (fX12_names N G a0 σ).bind (fun q1 => (fX12_number N G a0 (0 : Int32) (q1 - (1 : Int32)) σ).bind (fun q2 => if q2.1 < 0 then (fX12_readHis_b21 N G q2.1 q2.2) else ((fX12_isNow N G a0 q2.1 q2.2).bind (fun q3 => fX12_readHis_b21 N G q2.1 q3))))
set_option maxRecDepth 100000 in
set_option maxHeartbeats 4000000 in
theorem tX12_readHis {N : Nat} {G : pG} {SK : Nat → Nat} {a0 : Nat} {σ : pS} {r : Int32 × pS} (hW : WT G) (i0 : Is G a0 11) (h : fX12_readHis N G a0 σ = some r) : Dn miX12_readHis yX12_readHis 4 G SK [.ref a0] σ (some (.int r.1)) r.2 := by
  unfold fX12_readHis at h
  refine dn_of (lv := [some (.ref a0), none]) (by decide) rfl rfl (Nat.le_of_ble_eq_true rfl) rfl ?_
  refine ev_aload_n dc_X12_readHis_0 rfl ?_
  refine ev_iconst (v := 0) dc_X12_readHis_1 (by decide) ?_
  refine ev_aload_n dc_X12_readHis_2 rfl ?_
  obtain ⟨q1, hq1, h⟩ := Option.bind_eq_some_iff.mp h
  refine ev_callV (av := []) (st := [.int (0 : Int32), .ref a0]) (st1 := [.int q1, .int (0 : Int32), .ref a0]) dc_X12_readHis_3 (tX12_names hW i0 hq1) mw_1648 cy_X12_names i0 (by decide) rfl rfl rfl rfl (Nat.le_of_ble_eq_true rfl) (Nat.le_of_ble_eq_true rfl) ⟨Nat.le_refl _, Nat.le_refl _⟩ ?_
  refine ev_iconst (v := 1) dc_X12_readHis_6 (by decide) ?_
  refine ev_isub dc_X12_readHis_7 ?_
  obtain ⟨q2, hq2, h⟩ := Option.bind_eq_some_iff.mp h
  refine ev_callV (av := [.int (0 : Int32), .int (q1 - (1 : Int32))]) (st := []) (st1 := [.int q2.1]) dc_X12_readHis_8 (tX12_number hW i0 hq2) mw_1667 cy_X12_number i0 (by decide) rfl rfl rfl rfl (Nat.le_of_ble_eq_true rfl) (Nat.le_of_ble_eq_true rfl) ⟨Nat.le_refl _, Nat.le_refl _⟩ ?_
  refine ev_istore_n (lv' := [some (.ref a0), some (.int q2.1)]) dc_X12_readHis_11 rfl (by decide) rfl ?_
  refine ev_iload_n dc_X12_readHis_12 rfl ?_
  refine ev_if_lt (tgt := 21) dc_X12_readHis_13 (by decide) h (fun h => ?_) (fun h => ?_)
  · exact ev_sub (tX12_readHis_b21 hW h) (And.intro rfl trivial)
  · refine ev_aload_n dc_X12_readHis_16 rfl ?_
    refine ev_iload_n dc_X12_readHis_17 rfl ?_
    obtain ⟨q3, hq3, h⟩ := Option.bind_eq_some_iff.mp h
    refine ev_callV (av := [.int q2.1]) (st := []) (st1 := []) dc_X12_readHis_18 (tX12_isNow hW i0 hq3) mw_1730 cy_X12_isNow i0 (by decide) rfl rfl rfl rfl (Nat.le_of_ble_eq_true rfl) (Nat.le_of_ble_eq_true rfl) ⟨Nat.le_refl _, Nat.le_refl _⟩ ?_
    exact ev_sub (tX12_readHis_b21 hW h) (And.intro rfl trivial)
theorem dc_X12_readName_0 : Dc miX12_readName 0 (.aload_n 0) 1 1 := ⟨by decide +kernel, rfl⟩
theorem dc_X12_readName_1 : Dc miX12_readName 1 (.invokevirtual 66) 3 4 := ⟨by decide +kernel, rfl⟩
theorem dc_X12_readName_4 : Dc miX12_readName 4 (.istore_n 1) 1 5 := ⟨by decide +kernel, rfl⟩
theorem dc_X12_readName_5 : Dc miX12_readName 5 (.iload_n 1) 1 6 := ⟨by decide +kernel, rfl⟩
theorem dc_X12_readName_6 : Dc miX12_readName 6 (.bipush 10) 2 8 := ⟨by decide +kernel, rfl⟩
theorem dc_X12_readName_8 : Dc miX12_readName 8 (.if_icmp .ne 5) 3 11 := ⟨by decide +kernel, rfl⟩
theorem dc_X12_readName_11 : Dc miX12_readName 11 (.iconst 0) 1 12 := ⟨by decide +kernel, rfl⟩
theorem dc_X12_readName_12 : Dc miX12_readName 12 (.ireturn) 1 13 := ⟨by decide +kernel, rfl⟩
theorem dc_X12_readName_13 : Dc miX12_readName 13 (.aload_n 0) 1 14 := ⟨by decide +kernel, rfl⟩
theorem dc_X12_readName_14 : Dc miX12_readName 14 (.invokevirtual 125) 3 17 := ⟨by decide +kernel, rfl⟩
theorem dc_X12_readName_17 : Dc miX12_readName 17 (.istore_n 2) 1 18 := ⟨by decide +kernel, rfl⟩
theorem dc_X12_readName_18 : Dc miX12_readName 18 (.iload_n 2) 1 19 := ⟨by decide +kernel, rfl⟩
theorem dc_X12_readName_19 : Dc miX12_readName 19 (.ifCond .ge 7) 3 22 := ⟨by decide +kernel, rfl⟩
theorem dc_X12_readName_22 : Dc miX12_readName 22 (.iconst (-1)) 1 23 := ⟨by decide +kernel, rfl⟩
theorem dc_X12_readName_23 : Dc miX12_readName 23 (.goto 12) 3 26 := ⟨by decide +kernel, rfl⟩
theorem dc_X12_readName_26 : Dc miX12_readName 26 (.aload_n 0) 1 27 := ⟨by decide +kernel, rfl⟩
theorem dc_X12_readName_27 : Dc miX12_readName 27 (.ldc 128) 2 29 := ⟨by decide +kernel, rfl⟩
theorem dc_X12_readName_29 : Dc miX12_readName 29 (.iconst 1) 1 30 := ⟨by decide +kernel, rfl⟩
theorem dc_X12_readName_30 : Dc miX12_readName 30 (.bipush 9) 2 32 := ⟨by decide +kernel, rfl⟩
theorem dc_X12_readName_32 : Dc miX12_readName 32 (.invokevirtual 130) 3 35 := ⟨by decide +kernel, rfl⟩
theorem dc_X12_readName_35 : Dc miX12_readName 35 (.istore_n 3) 1 36 := ⟨by decide +kernel, rfl⟩
theorem dc_X12_readName_36 : Dc miX12_readName 36 (.iload_n 3) 1 37 := ⟨by decide +kernel, rfl⟩
theorem dc_X12_readName_37 : Dc miX12_readName 37 (.ifCond .ge 5) 3 40 := ⟨by decide +kernel, rfl⟩
theorem dc_X12_readName_40 : Dc miX12_readName 40 (.iconst 0) 1 41 := ⟨by decide +kernel, rfl⟩
theorem dc_X12_readName_41 : Dc miX12_readName 41 (.ireturn) 1 42 := ⟨by decide +kernel, rfl⟩
theorem dc_X12_readName_42 : Dc miX12_readName 42 (.aload_n 0) 1 43 := ⟨by decide +kernel, rfl⟩
theorem dc_X12_readName_43 : Dc miX12_readName 43 (.getfield 13) 3 46 := ⟨by decide +kernel, rfl⟩
theorem dc_X12_readName_46 : Dc miX12_readName 46 (.bipush 17) 2 48 := ⟨by decide +kernel, rfl⟩
theorem dc_X12_readName_48 : Dc miX12_readName 48 (.iconst 2) 1 49 := ⟨by decide +kernel, rfl⟩
theorem dc_X12_readName_49 : Dc miX12_readName 49 (.iload_n 1) 1 50 := ⟨by decide +kernel, rfl⟩
theorem dc_X12_readName_50 : Dc miX12_readName 50 (.imul) 1 51 := ⟨by decide +kernel, rfl⟩
theorem dc_X12_readName_51 : Dc miX12_readName 51 (.iadd) 1 52 := ⟨by decide +kernel, rfl⟩
theorem dc_X12_readName_52 : Dc miX12_readName 52 (.iconst 0) 1 53 := ⟨by decide +kernel, rfl⟩
theorem dc_X12_readName_53 : Dc miX12_readName 53 (.iadd) 1 54 := ⟨by decide +kernel, rfl⟩
theorem dc_X12_readName_54 : Dc miX12_readName 54 (.iload_n 2) 1 55 := ⟨by decide +kernel, rfl⟩
theorem dc_X12_readName_55 : Dc miX12_readName 55 (.iastore) 1 56 := ⟨by decide +kernel, rfl⟩
theorem dc_X12_readName_56 : Dc miX12_readName 56 (.aload_n 0) 1 57 := ⟨by decide +kernel, rfl⟩
theorem dc_X12_readName_57 : Dc miX12_readName 57 (.getfield 13) 3 60 := ⟨by decide +kernel, rfl⟩
theorem dc_X12_readName_60 : Dc miX12_readName 60 (.bipush 17) 2 62 := ⟨by decide +kernel, rfl⟩
theorem dc_X12_readName_62 : Dc miX12_readName 62 (.iconst 2) 1 63 := ⟨by decide +kernel, rfl⟩
theorem dc_X12_readName_63 : Dc miX12_readName 63 (.iload_n 1) 1 64 := ⟨by decide +kernel, rfl⟩
theorem dc_X12_readName_64 : Dc miX12_readName 64 (.imul) 1 65 := ⟨by decide +kernel, rfl⟩
theorem dc_X12_readName_65 : Dc miX12_readName 65 (.iadd) 1 66 := ⟨by decide +kernel, rfl⟩
theorem dc_X12_readName_66 : Dc miX12_readName 66 (.iconst 1) 1 67 := ⟨by decide +kernel, rfl⟩
theorem dc_X12_readName_67 : Dc miX12_readName 67 (.iadd) 1 68 := ⟨by decide +kernel, rfl⟩
theorem dc_X12_readName_68 : Dc miX12_readName 68 (.iload_n 3) 1 69 := ⟨by decide +kernel, rfl⟩
theorem dc_X12_readName_69 : Dc miX12_readName 69 (.iastore) 1 70 := ⟨by decide +kernel, rfl⟩
theorem dc_X12_readName_70 : Dc miX12_readName 70 (.aload_n 0) 1 71 := ⟨by decide +kernel, rfl⟩
theorem dc_X12_readName_71 : Dc miX12_readName 71 (.getfield 13) 3 74 := ⟨by decide +kernel, rfl⟩
theorem dc_X12_readName_74 : Dc miX12_readName 74 (.bipush 12) 2 76 := ⟨by decide +kernel, rfl⟩
theorem dc_X12_readName_76 : Dc miX12_readName 76 (.dup2) 1 77 := ⟨by decide +kernel, rfl⟩
theorem dc_X12_readName_77 : Dc miX12_readName 77 (.iaload) 1 78 := ⟨by decide +kernel, rfl⟩
theorem dc_X12_readName_78 : Dc miX12_readName 78 (.iconst 1) 1 79 := ⟨by decide +kernel, rfl⟩
theorem dc_X12_readName_79 : Dc miX12_readName 79 (.iload_n 1) 1 80 := ⟨by decide +kernel, rfl⟩
theorem dc_X12_readName_80 : Dc miX12_readName 80 (.ishl) 1 81 := ⟨by decide +kernel, rfl⟩
theorem dc_X12_readName_81 : Dc miX12_readName 81 (.ior) 1 82 := ⟨by decide +kernel, rfl⟩
theorem dc_X12_readName_82 : Dc miX12_readName 82 (.iastore) 1 83 := ⟨by decide +kernel, rfl⟩
theorem dc_X12_readName_83 : Dc miX12_readName 83 (.aload_n 0) 1 84 := ⟨by decide +kernel, rfl⟩
theorem dc_X12_readName_84 : Dc miX12_readName 84 (.getfield 13) 3 87 := ⟨by decide +kernel, rfl⟩
theorem dc_X12_readName_87 : Dc miX12_readName 87 (.iconst 0) 1 88 := ⟨by decide +kernel, rfl⟩
theorem dc_X12_readName_88 : Dc miX12_readName 88 (.dup2) 1 89 := ⟨by decide +kernel, rfl⟩
theorem dc_X12_readName_89 : Dc miX12_readName 89 (.iaload) 1 90 := ⟨by decide +kernel, rfl⟩
theorem dc_X12_readName_90 : Dc miX12_readName 90 (.iconst 1) 1 91 := ⟨by decide +kernel, rfl⟩
theorem dc_X12_readName_91 : Dc miX12_readName 91 (.iadd) 1 92 := ⟨by decide +kernel, rfl⟩
theorem dc_X12_readName_92 : Dc miX12_readName 92 (.iastore) 1 93 := ⟨by decide +kernel, rfl⟩
theorem dc_X12_readName_93 : Dc miX12_readName 93 (.iconst 1) 1 94 := ⟨by decide +kernel, rfl⟩
theorem dc_X12_readName_94 : Dc miX12_readName 94 (.ireturn) 1 95 := ⟨by decide +kernel, rfl⟩
def fX12_readName_b35 (N : Nat) (G : pG) (a0 : Nat) (x1 : Int32) (x2 : Int32) (y0 : Int32) (σ : pS) : Option (Int32 × pS) := if 0 ≤ y0 then (ck (inB (((17 : Int32) + ((2 : Int32) * x1)) + (0 : Int32)) (pN G (pR G a0 1))) (ck (inB (((17 : Int32) + ((2 : Int32) * x1)) + (1 : Int32)) (pN G (pR G a0 1))) (ck (inB (12 : Int32) (pN G (pR G a0 1))) (ck (inB (12 : Int32) (pN G (pR G a0 1))) (ck (inB (0 : Int32) (pN G (pR G a0 1))) (ck (inB (0 : Int32) (pN G (pR G a0 1))) (some ((1 : Int32), sA (sA (sA (sA σ (pR G a0 1) (((17 : Int32) + ((2 : Int32) * x1)) + (0 : Int32)) x2) (pR G a0 1) (((17 : Int32) + ((2 : Int32) * x1)) + (1 : Int32)) y0) (pR G a0 1) (12 : Int32) ((gA (sA (sA σ (pR G a0 1) (((17 : Int32) + ((2 : Int32) * x1)) + (0 : Int32)) x2) (pR G a0 1) (((17 : Int32) + ((2 : Int32) * x1)) + (1 : Int32)) y0) (pR G a0 1) (12 : Int32)) ||| ((1 : Int32) <<< (x1 &&& 31)))) (pR G a0 1) (0 : Int32) ((gA (sA (sA (sA σ (pR G a0 1) (((17 : Int32) + ((2 : Int32) * x1)) + (0 : Int32)) x2) (pR G a0 1) (((17 : Int32) + ((2 : Int32) * x1)) + (1 : Int32)) y0) (pR G a0 1) (12 : Int32) ((gA (sA (sA σ (pR G a0 1) (((17 : Int32) + ((2 : Int32) * x1)) + (0 : Int32)) x2) (pR G a0 1) (((17 : Int32) + ((2 : Int32) * x1)) + (1 : Int32)) y0) (pR G a0 1) (12 : Int32)) ||| ((1 : Int32) <<< (x1 &&& 31)))) (pR G a0 1) (0 : Int32)) + (1 : Int32)))))))))) else (some ((0 : Int32), σ))
set_option maxRecDepth 100000 in
set_option maxHeartbeats 4000000 in
theorem tX12_readName_b35 {N : Nat} {G : pG} {SK : Nat → Nat} {a0 : Nat} {x1 : Int32} {x2 : Int32} {y0 : Int32} {σ : pS} {r : Int32 × pS} (hW : WT G) (i0 : Is G a0 11) (h : fX12_readName_b35 N G a0 x1 x2 y0 σ = some r) : Ev miX12_readName (11, 0, 0) G (Zp G (some (.int r.1)) r.2) SK (0, 0) 35 [some (.ref a0), some (.int x1), some (.int x2), none] [.int y0] σ := by
  unfold fX12_readName_b35 at h
  refine ev_istore_n (lv' := [some (.ref a0), some (.int x1), some (.int x2), some (.int y0)]) dc_X12_readName_35 rfl (by decide) rfl ?_
  refine ev_iload_n dc_X12_readName_36 rfl ?_
  refine ev_if_ge (tgt := 42) dc_X12_readName_37 (by decide) h (fun h => ?_) (fun h => ?_)
  · refine ev_aload_n dc_X12_readName_42 rfl ?_
    refine ev_getR dc_X12_readName_43 fi_X12_13 rfl i0 ?_
    refine ev_bipush (v := 17) dc_X12_readName_46 (by decide) ?_
    refine ev_iconst (v := 2) dc_X12_readName_48 (by decide) ?_
    refine ev_iload_n dc_X12_readName_49 rfl ?_
    refine ev_imul dc_X12_readName_50 ?_
    refine ev_iadd dc_X12_readName_51 ?_
    refine ev_iconst (v := 0) dc_X12_readName_52 (by decide) ?_
    refine ev_iadd dc_X12_readName_53 ?_
    refine ev_iload_n dc_X12_readName_54 rfl ?_
    refine ev_iast dc_X12_readName_55 (wt hW i0 1 rfl rfl) h (fun h => ?_)
    refine ev_aload_n dc_X12_readName_56 rfl ?_
    refine ev_getR dc_X12_readName_57 fi_X12_13 rfl i0 ?_
    refine ev_bipush (v := 17) dc_X12_readName_60 (by decide) ?_
    refine ev_iconst (v := 2) dc_X12_readName_62 (by decide) ?_
    refine ev_iload_n dc_X12_readName_63 rfl ?_
    refine ev_imul dc_X12_readName_64 ?_
    refine ev_iadd dc_X12_readName_65 ?_
    refine ev_iconst (v := 1) dc_X12_readName_66 (by decide) ?_
    refine ev_iadd dc_X12_readName_67 ?_
    refine ev_iload_n dc_X12_readName_68 rfl ?_
    refine ev_iast dc_X12_readName_69 (wt hW i0 1 rfl rfl) h (fun h => ?_)
    refine ev_aload_n dc_X12_readName_70 rfl ?_
    refine ev_getR dc_X12_readName_71 fi_X12_13 rfl i0 ?_
    refine ev_bipush (v := 12) dc_X12_readName_74 (by decide) ?_
    refine ev_dup2 dc_X12_readName_76 rfl rfl ?_
    refine ev_iald dc_X12_readName_77 (wt hW i0 1 rfl rfl) h (fun h => ?_)
    refine ev_iconst (v := 1) dc_X12_readName_78 (by decide) ?_
    refine ev_iload_n dc_X12_readName_79 rfl ?_
    refine ev_ishl dc_X12_readName_80 ?_
    refine ev_ior dc_X12_readName_81 ?_
    refine ev_iast dc_X12_readName_82 (wt hW i0 1 rfl rfl) h (fun h => ?_)
    refine ev_aload_n dc_X12_readName_83 rfl ?_
    refine ev_getR dc_X12_readName_84 fi_X12_13 rfl i0 ?_
    refine ev_iconst (v := 0) dc_X12_readName_87 (by decide) ?_
    refine ev_dup2 dc_X12_readName_88 rfl rfl ?_
    refine ev_iald dc_X12_readName_89 (wt hW i0 1 rfl rfl) h (fun h => ?_)
    refine ev_iconst (v := 1) dc_X12_readName_90 (by decide) ?_
    refine ev_iadd dc_X12_readName_91 ?_
    refine ev_iast dc_X12_readName_92 (wt hW i0 1 rfl rfl) h (fun h => ?_)
    refine ev_iconst (v := 1) dc_X12_readName_93 (by decide) ?_
    cases h
    exact ev_zretc dc_X12_readName_94 rfl rfl rfl rfl
  · refine ev_iconst (v := 0) dc_X12_readName_40 (by decide) ?_
    cases h
    exact ev_zretc dc_X12_readName_41 rfl rfl rfl rfl
def fX12_readName (N : Nat) (G : pG) (a0 : Nat) (σ : pS) : Option (Int32 × pS) := (fX12_names N G a0 σ).bind (fun q1 => if q1 = (10 : Int32) then (some ((0 : Int32), σ)) else ((fX12_lettersTold N G a0 σ).bind (fun q2 => if 0 ≤ q2.1 then ((fX12_after N G a0 47 (1 : Int32) (9 : Int32) q2.2).bind (fun q3 => fX12_readName_b35 N G a0 q1 q2.1 q3.1 q3.2)) else (fX12_readName_b35 N G a0 q1 q2.1 (-1 : Int32) q2.2))))
set_option maxRecDepth 100000 in
set_option maxHeartbeats 4000000 in
theorem tX12_readName {N : Nat} {G : pG} {SK : Nat → Nat} {a0 : Nat} {σ : pS} {r : Int32 × pS} (hW : WT G) (i0 : Is G a0 11) (h : fX12_readName N G a0 σ = some r) : Dn miX12_readName yX12_readName 11 G SK [.ref a0] σ (some (.int r.1)) r.2 := by
  unfold fX12_readName at h
  refine dn_of (lv := [some (.ref a0), none, none, none]) (by decide) rfl rfl (Nat.le_of_ble_eq_true rfl) rfl ?_
  refine ev_aload_n dc_X12_readName_0 rfl ?_
  obtain ⟨q1, hq1, h⟩ := Option.bind_eq_some_iff.mp h
  refine ev_callV (av := []) (st := []) (st1 := [.int q1]) dc_X12_readName_1 (tX12_names hW i0 hq1) mw_1648 cy_X12_names i0 (by decide) rfl rfl rfl rfl (Nat.le_of_ble_eq_true rfl) (Nat.le_of_ble_eq_true rfl) ⟨Nat.le_refl _, Nat.le_refl _⟩ ?_
  refine ev_istore_n (lv' := [some (.ref a0), some (.int q1), none, none]) dc_X12_readName_4 rfl (by decide) rfl ?_
  refine ev_iload_n dc_X12_readName_5 rfl ?_
  refine ev_bipush (v := 10) dc_X12_readName_6 (by decide) ?_
  refine ev_icmp_ne (tgt := 13) dc_X12_readName_8 (by decide) h (fun h => ?_) (fun h => ?_)
  · refine ev_iconst (v := 0) dc_X12_readName_11 (by decide) ?_
    cases h
    exact ev_zretc dc_X12_readName_12 rfl rfl rfl rfl
  · refine ev_aload_n dc_X12_readName_13 rfl ?_
    obtain ⟨q2, hq2, h⟩ := Option.bind_eq_some_iff.mp h
    refine ev_callV (av := []) (st := []) (st1 := [.int q2.1]) dc_X12_readName_14 (tX12_lettersTold hW i0 hq2) mw_1652 cy_X12_lettersTold i0 (by decide) rfl rfl rfl rfl (Nat.le_of_ble_eq_true rfl) (Nat.le_of_ble_eq_true rfl) ⟨Nat.le_refl _, Nat.le_refl _⟩ ?_
    refine ev_istore_n (lv' := [some (.ref a0), some (.int q1), some (.int q2.1), none]) dc_X12_readName_17 rfl (by decide) rfl ?_
    refine ev_iload_n dc_X12_readName_18 rfl ?_
    refine ev_if_ge (tgt := 26) dc_X12_readName_19 (by decide) h (fun h => ?_) (fun h => ?_)
    · refine ev_aload_n dc_X12_readName_26 rfl ?_
      refine ev_ldcS (sid := 47) (tx := "credit") dc_X12_readName_27 (List.mem_of_getElem? (i := 47) rfl) ?_
      refine ev_iconst (v := 1) dc_X12_readName_29 (by decide) ?_
      refine ev_bipush (v := 9) dc_X12_readName_30 (by decide) ?_
      obtain ⟨q3, hq3, h⟩ := Option.bind_eq_some_iff.mp h
      refine ev_callV (av := [.ref (SK 47), .int (1 : Int32), .int (9 : Int32)]) (st := []) (st1 := [.int q3.1]) dc_X12_readName_32 (tX12_after hW i0 rfl hq3) mw_1663 cy_X12_after i0 (by decide) rfl rfl rfl rfl (Nat.le_of_ble_eq_true rfl) (Nat.le_of_ble_eq_true rfl) ⟨Nat.le_refl _, Nat.le_refl _⟩ ?_
      exact ev_sub (tX12_readName_b35 hW i0 h) (And.intro rfl (And.intro rfl (And.intro rfl trivial)))
    · refine ev_iconst (v := (-1)) dc_X12_readName_22 (by decide) ?_
      refine ev_goto (tgt := 35) dc_X12_readName_23 (by decide) ?_
      exact ev_sub (tX12_readName_b35 hW i0 h) (And.intro rfl (And.intro rfl (And.intro rfl trivial)))
theorem dc_X12_readNumber_0 : Dc miX12_readNumber 0 (.aload_n 0) 1 1 := ⟨by decide +kernel, rfl⟩
theorem dc_X12_readNumber_1 : Dc miX12_readNumber 1 (.iload_n 2) 1 2 := ⟨by decide +kernel, rfl⟩
theorem dc_X12_readNumber_2 : Dc miX12_readNumber 2 (.iload_n 3) 1 3 := ⟨by decide +kernel, rfl⟩
theorem dc_X12_readNumber_3 : Dc miX12_readNumber 3 (.invokevirtual 119) 3 6 := ⟨by decide +kernel, rfl⟩
theorem dc_X12_readNumber_6 : Dc miX12_readNumber 6 (.istore 4) 2 8 := ⟨by decide +kernel, rfl⟩
theorem dc_X12_readNumber_8 : Dc miX12_readNumber 8 (.aload_n 0) 1 9 := ⟨by decide +kernel, rfl⟩
theorem dc_X12_readNumber_9 : Dc miX12_readNumber 9 (.getfield 13) 3 12 := ⟨by decide +kernel, rfl⟩
theorem dc_X12_readNumber_12 : Dc miX12_readNumber 12 (.iload_n 1) 1 13 := ⟨by decide +kernel, rfl⟩
theorem dc_X12_readNumber_13 : Dc miX12_readNumber 13 (.iload 4) 2 15 := ⟨by decide +kernel, rfl⟩
theorem dc_X12_readNumber_15 : Dc miX12_readNumber 15 (.ifCond .ge 12) 3 18 := ⟨by decide +kernel, rfl⟩
theorem dc_X12_readNumber_18 : Dc miX12_readNumber 18 (.aload_n 0) 1 19 := ⟨by decide +kernel, rfl⟩
theorem dc_X12_readNumber_19 : Dc miX12_readNumber 19 (.getfield 13) 3 22 := ⟨by decide +kernel, rfl⟩
theorem dc_X12_readNumber_22 : Dc miX12_readNumber 22 (.iload_n 1) 1 23 := ⟨by decide +kernel, rfl⟩
theorem dc_X12_readNumber_23 : Dc miX12_readNumber 23 (.iaload) 1 24 := ⟨by decide +kernel, rfl⟩
theorem dc_X12_readNumber_24 : Dc miX12_readNumber 24 (.goto 5) 3 27 := ⟨by decide +kernel, rfl⟩
theorem dc_X12_readNumber_27 : Dc miX12_readNumber 27 (.iload 4) 2 29 := ⟨by decide +kernel, rfl⟩
theorem dc_X12_readNumber_29 : Dc miX12_readNumber 29 (.iastore) 1 30 := ⟨by decide +kernel, rfl⟩
theorem dc_X12_readNumber_30 : Dc miX12_readNumber 30 (.iload 4) 2 32 := ⟨by decide +kernel, rfl⟩
theorem dc_X12_readNumber_32 : Dc miX12_readNumber 32 (.ifCond .lt 7) 3 35 := ⟨by decide +kernel, rfl⟩
theorem dc_X12_readNumber_35 : Dc miX12_readNumber 35 (.iconst 1) 1 36 := ⟨by decide +kernel, rfl⟩
theorem dc_X12_readNumber_36 : Dc miX12_readNumber 36 (.goto 4) 3 39 := ⟨by decide +kernel, rfl⟩
theorem dc_X12_readNumber_39 : Dc miX12_readNumber 39 (.iconst 0) 1 40 := ⟨by decide +kernel, rfl⟩
theorem dc_X12_readNumber_40 : Dc miX12_readNumber 40 (.ireturn) 1 41 := ⟨by decide +kernel, rfl⟩
def fX12_readNumber_b29 (N : Nat) (G : pG) (x4 : Int32) (y0 : Nat) (y1 : Int32) (y2 : Int32) (σ : pS) : Option (Int32 × pS) := ck (inB y1 (pN G y0)) (if x4 < 0 then (some ((0 : Int32), sA σ y0 y1 y2)) else (some ((1 : Int32), sA σ y0 y1 y2)))
set_option maxRecDepth 100000 in
set_option maxHeartbeats 4000000 in
theorem tX12_readNumber_b29 {N : Nat} {G : pG} {SK : Nat → Nat} {x4 : Int32} {y0 : Nat} {y1 : Int32} {y2 : Int32} {σ : pS} {r : Int32 × pS} (hW : WT G) (w0 : Is G y0 13) (h : fX12_readNumber_b29 N G x4 y0 y1 y2 σ = some r) : Ev miX12_readNumber (4, 0, 0) G (Zp G (some (.int r.1)) r.2) SK (0, 0) 29 [none, none, none, none, some (.int x4)] [.int y2, .int y1, .ref y0] σ := by
  unfold fX12_readNumber_b29 at h
  refine ev_iast dc_X12_readNumber_29 w0 h (fun h => ?_)
  refine ev_iload dc_X12_readNumber_30 rfl ?_
  refine ev_if_lt (tgt := 39) dc_X12_readNumber_32 (by decide) h (fun h => ?_) (fun h => ?_)
  · refine ev_iconst (v := 0) dc_X12_readNumber_39 (by decide) ?_
    cases h
    exact ev_zretc dc_X12_readNumber_40 rfl rfl rfl rfl
  · refine ev_iconst (v := 1) dc_X12_readNumber_35 (by decide) ?_
    refine ev_goto (tgt := 40) dc_X12_readNumber_36 (by decide) ?_
    cases h
    exact ev_zretc dc_X12_readNumber_40 rfl rfl rfl rfl
def fX12_readNumber (N : Nat) (G : pG) (a0 : Nat) (a1 : Int32) (a2 : Int32) (a3 : Int32) (σ : pS) : Option (Int32 × pS) := (fX12_number N G a0 a2 a3 σ).bind (fun q1 => if 0 ≤ q1.1 then (fX12_readNumber_b29 N G q1.1 (pR G a0 1) a1 q1.1 q1.2) else (ck (inB a1 (pN G (pR G a0 1))) (fX12_readNumber_b29 N G q1.1 (pR G a0 1) a1 (gA q1.2 (pR G a0 1) a1) q1.2)))
set_option maxRecDepth 100000 in
set_option maxHeartbeats 4000000 in
theorem tX12_readNumber {N : Nat} {G : pG} {SK : Nat → Nat} {a0 : Nat} {a1 : Int32} {a2 : Int32} {a3 : Int32} {σ : pS} {r : Int32 × pS} (hW : WT G) (i0 : Is G a0 11) (h : fX12_readNumber N G a0 a1 a2 a3 σ = some r) : Dn miX12_readNumber yX12_readNumber 4 G SK [.ref a0, .int a1, .int a2, .int a3] σ (some (.int r.1)) r.2 := by
  unfold fX12_readNumber at h
  refine dn_of (lv := [some (.ref a0), some (.int a1), some (.int a2), some (.int a3), none]) (by decide) rfl rfl (Nat.le_of_ble_eq_true rfl) rfl ?_
  refine ev_aload_n dc_X12_readNumber_0 rfl ?_
  refine ev_iload_n dc_X12_readNumber_1 rfl ?_
  refine ev_iload_n dc_X12_readNumber_2 rfl ?_
  obtain ⟨q1, hq1, h⟩ := Option.bind_eq_some_iff.mp h
  refine ev_callV (av := [.int a2, .int a3]) (st := []) (st1 := [.int q1.1]) dc_X12_readNumber_3 (tX12_number hW i0 hq1) mw_1667 cy_X12_number i0 (by decide) rfl rfl rfl rfl (Nat.le_of_ble_eq_true rfl) (Nat.le_of_ble_eq_true rfl) ⟨Nat.le_refl _, Nat.le_refl _⟩ ?_
  refine ev_istore (lv' := [some (.ref a0), some (.int a1), some (.int a2), some (.int a3), some (.int q1.1)]) dc_X12_readNumber_6 rfl (by decide) rfl ?_
  refine ev_aload_n dc_X12_readNumber_8 rfl ?_
  refine ev_getR dc_X12_readNumber_9 fi_X12_13 rfl i0 ?_
  refine ev_iload_n dc_X12_readNumber_12 rfl ?_
  refine ev_iload dc_X12_readNumber_13 rfl ?_
  refine ev_if_ge (tgt := 27) dc_X12_readNumber_15 (by decide) h (fun h => ?_) (fun h => ?_)
  · refine ev_iload dc_X12_readNumber_27 rfl ?_
    exact ev_sub (tX12_readNumber_b29 hW (wt hW i0 1 rfl rfl) h) (And.intro rfl trivial)
  · refine ev_aload_n dc_X12_readNumber_18 rfl ?_
    refine ev_getR dc_X12_readNumber_19 fi_X12_13 rfl i0 ?_
    refine ev_iload_n dc_X12_readNumber_22 rfl ?_
    refine ev_iald dc_X12_readNumber_23 (wt hW i0 1 rfl rfl) h (fun h => ?_)
    refine ev_goto (tgt := 29) dc_X12_readNumber_24 (by decide) ?_
    exact ev_sub (tX12_readNumber_b29 hW (wt hW i0 1 rfl rfl) h) (And.intro rfl trivial)
theorem dc_X12_readWho_0 : Dc miX12_readWho 0 (.aload_n 0) 1 1 := ⟨by decide +kernel, rfl⟩
theorem dc_X12_readWho_1 : Dc miX12_readWho 1 (.invokevirtual 74) 3 4 := ⟨by decide +kernel, rfl⟩
theorem dc_X12_readWho_4 : Dc miX12_readWho 4 (.istore_n 2) 1 5 := ⟨by decide +kernel, rfl⟩
theorem dc_X12_readWho_5 : Dc miX12_readWho 5 (.iload_n 2) 1 6 := ⟨by decide +kernel, rfl⟩
theorem dc_X12_readWho_6 : Dc miX12_readWho 6 (.bipush 6) 2 8 := ⟨by decide +kernel, rfl⟩
theorem dc_X12_readWho_8 : Dc miX12_readWho 8 (.if_icmp .ne 5) 3 11 := ⟨by decide +kernel, rfl⟩
theorem dc_X12_readWho_11 : Dc miX12_readWho 11 (.iconst 0) 1 12 := ⟨by decide +kernel, rfl⟩
theorem dc_X12_readWho_12 : Dc miX12_readWho 12 (.ireturn) 1 13 := ⟨by decide +kernel, rfl⟩
theorem dc_X12_readWho_13 : Dc miX12_readWho 13 (.aload_n 0) 1 14 := ⟨by decide +kernel, rfl⟩
theorem dc_X12_readWho_14 : Dc miX12_readWho 14 (.iconst 0) 1 15 := ⟨by decide +kernel, rfl⟩
theorem dc_X12_readWho_15 : Dc miX12_readWho 15 (.aload_n 0) 1 16 := ⟨by decide +kernel, rfl⟩
theorem dc_X12_readWho_16 : Dc miX12_readWho 16 (.invokevirtual 77) 3 19 := ⟨by decide +kernel, rfl⟩
theorem dc_X12_readWho_19 : Dc miX12_readWho 19 (.iconst 1) 1 20 := ⟨by decide +kernel, rfl⟩
theorem dc_X12_readWho_20 : Dc miX12_readWho 20 (.isub) 1 21 := ⟨by decide +kernel, rfl⟩
theorem dc_X12_readWho_21 : Dc miX12_readWho 21 (.invokevirtual 119) 3 24 := ⟨by decide +kernel, rfl⟩
theorem dc_X12_readWho_24 : Dc miX12_readWho 24 (.istore_n 3) 1 25 := ⟨by decide +kernel, rfl⟩
theorem dc_X12_readWho_25 : Dc miX12_readWho 25 (.iload_n 3) 1 26 := ⟨by decide +kernel, rfl⟩
theorem dc_X12_readWho_26 : Dc miX12_readWho 26 (.ifCond .ge 5) 3 29 := ⟨by decide +kernel, rfl⟩
theorem dc_X12_readWho_29 : Dc miX12_readWho 29 (.iconst 0) 1 30 := ⟨by decide +kernel, rfl⟩
theorem dc_X12_readWho_30 : Dc miX12_readWho 30 (.ireturn) 1 31 := ⟨by decide +kernel, rfl⟩
theorem dc_X12_readWho_31 : Dc miX12_readWho 31 (.aload_n 0) 1 32 := ⟨by decide +kernel, rfl⟩
theorem dc_X12_readWho_32 : Dc miX12_readWho 32 (.getfield 13) 3 35 := ⟨by decide +kernel, rfl⟩
theorem dc_X12_readWho_35 : Dc miX12_readWho 35 (.bipush 37) 2 37 := ⟨by decide +kernel, rfl⟩
theorem dc_X12_readWho_37 : Dc miX12_readWho 37 (.iconst 3) 1 38 := ⟨by decide +kernel, rfl⟩
theorem dc_X12_readWho_38 : Dc miX12_readWho 38 (.iload_n 2) 1 39 := ⟨by decide +kernel, rfl⟩
theorem dc_X12_readWho_39 : Dc miX12_readWho 39 (.imul) 1 40 := ⟨by decide +kernel, rfl⟩
theorem dc_X12_readWho_40 : Dc miX12_readWho 40 (.iadd) 1 41 := ⟨by decide +kernel, rfl⟩
theorem dc_X12_readWho_41 : Dc miX12_readWho 41 (.iconst 0) 1 42 := ⟨by decide +kernel, rfl⟩
theorem dc_X12_readWho_42 : Dc miX12_readWho 42 (.iadd) 1 43 := ⟨by decide +kernel, rfl⟩
theorem dc_X12_readWho_43 : Dc miX12_readWho 43 (.iload_n 1) 1 44 := ⟨by decide +kernel, rfl⟩
theorem dc_X12_readWho_44 : Dc miX12_readWho 44 (.iastore) 1 45 := ⟨by decide +kernel, rfl⟩
theorem dc_X12_readWho_45 : Dc miX12_readWho 45 (.aload_n 0) 1 46 := ⟨by decide +kernel, rfl⟩
theorem dc_X12_readWho_46 : Dc miX12_readWho 46 (.getfield 13) 3 49 := ⟨by decide +kernel, rfl⟩
theorem dc_X12_readWho_49 : Dc miX12_readWho 49 (.bipush 37) 2 51 := ⟨by decide +kernel, rfl⟩
theorem dc_X12_readWho_51 : Dc miX12_readWho 51 (.iconst 3) 1 52 := ⟨by decide +kernel, rfl⟩
theorem dc_X12_readWho_52 : Dc miX12_readWho 52 (.iload_n 2) 1 53 := ⟨by decide +kernel, rfl⟩
theorem dc_X12_readWho_53 : Dc miX12_readWho 53 (.imul) 1 54 := ⟨by decide +kernel, rfl⟩
theorem dc_X12_readWho_54 : Dc miX12_readWho 54 (.iadd) 1 55 := ⟨by decide +kernel, rfl⟩
theorem dc_X12_readWho_55 : Dc miX12_readWho 55 (.iconst 1) 1 56 := ⟨by decide +kernel, rfl⟩
theorem dc_X12_readWho_56 : Dc miX12_readWho 56 (.iadd) 1 57 := ⟨by decide +kernel, rfl⟩
theorem dc_X12_readWho_57 : Dc miX12_readWho 57 (.iload_n 3) 1 58 := ⟨by decide +kernel, rfl⟩
theorem dc_X12_readWho_58 : Dc miX12_readWho 58 (.iastore) 1 59 := ⟨by decide +kernel, rfl⟩
theorem dc_X12_readWho_59 : Dc miX12_readWho 59 (.aload_n 0) 1 60 := ⟨by decide +kernel, rfl⟩
theorem dc_X12_readWho_60 : Dc miX12_readWho 60 (.getfield 13) 3 63 := ⟨by decide +kernel, rfl⟩
theorem dc_X12_readWho_63 : Dc miX12_readWho 63 (.bipush 37) 2 65 := ⟨by decide +kernel, rfl⟩
theorem dc_X12_readWho_65 : Dc miX12_readWho 65 (.iconst 3) 1 66 := ⟨by decide +kernel, rfl⟩
theorem dc_X12_readWho_66 : Dc miX12_readWho 66 (.iload_n 2) 1 67 := ⟨by decide +kernel, rfl⟩
theorem dc_X12_readWho_67 : Dc miX12_readWho 67 (.imul) 1 68 := ⟨by decide +kernel, rfl⟩
theorem dc_X12_readWho_68 : Dc miX12_readWho 68 (.iadd) 1 69 := ⟨by decide +kernel, rfl⟩
theorem dc_X12_readWho_69 : Dc miX12_readWho 69 (.iconst 2) 1 70 := ⟨by decide +kernel, rfl⟩
theorem dc_X12_readWho_70 : Dc miX12_readWho 70 (.iadd) 1 71 := ⟨by decide +kernel, rfl⟩
theorem dc_X12_readWho_71 : Dc miX12_readWho 71 (.iconst 1) 1 72 := ⟨by decide +kernel, rfl⟩
theorem dc_X12_readWho_72 : Dc miX12_readWho 72 (.iastore) 1 73 := ⟨by decide +kernel, rfl⟩
theorem dc_X12_readWho_73 : Dc miX12_readWho 73 (.aload_n 0) 1 74 := ⟨by decide +kernel, rfl⟩
theorem dc_X12_readWho_74 : Dc miX12_readWho 74 (.getfield 13) 3 77 := ⟨by decide +kernel, rfl⟩
theorem dc_X12_readWho_77 : Dc miX12_readWho 77 (.iconst 1) 1 78 := ⟨by decide +kernel, rfl⟩
theorem dc_X12_readWho_78 : Dc miX12_readWho 78 (.dup2) 1 79 := ⟨by decide +kernel, rfl⟩
theorem dc_X12_readWho_79 : Dc miX12_readWho 79 (.iaload) 1 80 := ⟨by decide +kernel, rfl⟩
theorem dc_X12_readWho_80 : Dc miX12_readWho 80 (.iconst 1) 1 81 := ⟨by decide +kernel, rfl⟩
theorem dc_X12_readWho_81 : Dc miX12_readWho 81 (.iadd) 1 82 := ⟨by decide +kernel, rfl⟩
theorem dc_X12_readWho_82 : Dc miX12_readWho 82 (.iastore) 1 83 := ⟨by decide +kernel, rfl⟩
theorem dc_X12_readWho_83 : Dc miX12_readWho 83 (.iconst 1) 1 84 := ⟨by decide +kernel, rfl⟩
theorem dc_X12_readWho_84 : Dc miX12_readWho 84 (.ireturn) 1 85 := ⟨by decide +kernel, rfl⟩
def fX12_readWho (N : Nat) (G : pG) (a0 : Nat) (a1 : Int32) (σ : pS) : Option (Int32 × pS) := (fX12_courtiers N G a0 σ).bind (fun q1 => if q1 = (6 : Int32) then (some ((0 : Int32), σ)) else ((fX12_words N G a0 σ).bind (fun q2 => (fX12_number N G a0 (0 : Int32) (q2 - (1 : Int32)) σ).bind (fun q3 => if 0 ≤ q3.1 then (ck (inB (((37 : Int32) + ((3 : Int32) * q1)) + (0 : Int32)) (pN G (pR G a0 1))) (ck (inB (((37 : Int32) + ((3 : Int32) * q1)) + (1 : Int32)) (pN G (pR G a0 1))) (ck (inB (((37 : Int32) + ((3 : Int32) * q1)) + (2 : Int32)) (pN G (pR G a0 1))) (ck (inB (1 : Int32) (pN G (pR G a0 1))) (ck (inB (1 : Int32) (pN G (pR G a0 1))) (some ((1 : Int32), sA (sA (sA (sA q3.2 (pR G a0 1) (((37 : Int32) + ((3 : Int32) * q1)) + (0 : Int32)) a1) (pR G a0 1) (((37 : Int32) + ((3 : Int32) * q1)) + (1 : Int32)) q3.1) (pR G a0 1) (((37 : Int32) + ((3 : Int32) * q1)) + (2 : Int32)) (1 : Int32)) (pR G a0 1) (1 : Int32) ((gA (sA (sA (sA q3.2 (pR G a0 1) (((37 : Int32) + ((3 : Int32) * q1)) + (0 : Int32)) a1) (pR G a0 1) (((37 : Int32) + ((3 : Int32) * q1)) + (1 : Int32)) q3.1) (pR G a0 1) (((37 : Int32) + ((3 : Int32) * q1)) + (2 : Int32)) (1 : Int32)) (pR G a0 1) (1 : Int32)) + (1 : Int32))))))))) else (some ((0 : Int32), q3.2))))))
set_option maxRecDepth 100000 in
set_option maxHeartbeats 4000000 in
theorem tX12_readWho {N : Nat} {G : pG} {SK : Nat → Nat} {a0 : Nat} {a1 : Int32} {σ : pS} {r : Int32 × pS} (hW : WT G) (i0 : Is G a0 11) (h : fX12_readWho N G a0 a1 σ = some r) : Dn miX12_readWho yX12_readWho 4 G SK [.ref a0, .int a1] σ (some (.int r.1)) r.2 := by
  unfold fX12_readWho at h
  refine dn_of (lv := [some (.ref a0), some (.int a1), none, none]) (by decide) rfl rfl (Nat.le_of_ble_eq_true rfl) rfl ?_
  refine ev_aload_n dc_X12_readWho_0 rfl ?_
  obtain ⟨q1, hq1, h⟩ := Option.bind_eq_some_iff.mp h
  refine ev_callV (av := []) (st := []) (st1 := [.int q1]) dc_X12_readWho_1 (tX12_courtiers hW i0 hq1) mw_1705 cy_X12_courtiers i0 (by decide) rfl rfl rfl rfl (Nat.le_of_ble_eq_true rfl) (Nat.le_of_ble_eq_true rfl) ⟨Nat.le_refl _, Nat.le_refl _⟩ ?_
  refine ev_istore_n (lv' := [some (.ref a0), some (.int a1), some (.int q1), none]) dc_X12_readWho_4 rfl (by decide) rfl ?_
  refine ev_iload_n dc_X12_readWho_5 rfl ?_
  refine ev_bipush (v := 6) dc_X12_readWho_6 (by decide) ?_
  refine ev_icmp_ne (tgt := 13) dc_X12_readWho_8 (by decide) h (fun h => ?_) (fun h => ?_)
  · refine ev_iconst (v := 0) dc_X12_readWho_11 (by decide) ?_
    cases h
    exact ev_zretc dc_X12_readWho_12 rfl rfl rfl rfl
  · refine ev_aload_n dc_X12_readWho_13 rfl ?_
    refine ev_iconst (v := 0) dc_X12_readWho_14 (by decide) ?_
    refine ev_aload_n dc_X12_readWho_15 rfl ?_
    obtain ⟨q2, hq2, h⟩ := Option.bind_eq_some_iff.mp h
    refine ev_callV (av := []) (st := [.int (0 : Int32), .ref a0]) (st1 := [.int q2, .int (0 : Int32), .ref a0]) dc_X12_readWho_16 (tX12_words hW i0 hq2) mw_1676 cy_X12_words i0 (by decide) rfl rfl rfl rfl (Nat.le_of_ble_eq_true rfl) (Nat.le_of_ble_eq_true rfl) ⟨Nat.le_refl _, Nat.le_refl _⟩ ?_
    refine ev_iconst (v := 1) dc_X12_readWho_19 (by decide) ?_
    refine ev_isub dc_X12_readWho_20 ?_
    obtain ⟨q3, hq3, h⟩ := Option.bind_eq_some_iff.mp h
    refine ev_callV (av := [.int (0 : Int32), .int (q2 - (1 : Int32))]) (st := []) (st1 := [.int q3.1]) dc_X12_readWho_21 (tX12_number hW i0 hq3) mw_1667 cy_X12_number i0 (by decide) rfl rfl rfl rfl (Nat.le_of_ble_eq_true rfl) (Nat.le_of_ble_eq_true rfl) ⟨Nat.le_refl _, Nat.le_refl _⟩ ?_
    refine ev_istore_n (lv' := [some (.ref a0), some (.int a1), some (.int q1), some (.int q3.1)]) dc_X12_readWho_24 rfl (by decide) rfl ?_
    refine ev_iload_n dc_X12_readWho_25 rfl ?_
    refine ev_if_ge (tgt := 31) dc_X12_readWho_26 (by decide) h (fun h => ?_) (fun h => ?_)
    · refine ev_aload_n dc_X12_readWho_31 rfl ?_
      refine ev_getR dc_X12_readWho_32 fi_X12_13 rfl i0 ?_
      refine ev_bipush (v := 37) dc_X12_readWho_35 (by decide) ?_
      refine ev_iconst (v := 3) dc_X12_readWho_37 (by decide) ?_
      refine ev_iload_n dc_X12_readWho_38 rfl ?_
      refine ev_imul dc_X12_readWho_39 ?_
      refine ev_iadd dc_X12_readWho_40 ?_
      refine ev_iconst (v := 0) dc_X12_readWho_41 (by decide) ?_
      refine ev_iadd dc_X12_readWho_42 ?_
      refine ev_iload_n dc_X12_readWho_43 rfl ?_
      refine ev_iast dc_X12_readWho_44 (wt hW i0 1 rfl rfl) h (fun h => ?_)
      refine ev_aload_n dc_X12_readWho_45 rfl ?_
      refine ev_getR dc_X12_readWho_46 fi_X12_13 rfl i0 ?_
      refine ev_bipush (v := 37) dc_X12_readWho_49 (by decide) ?_
      refine ev_iconst (v := 3) dc_X12_readWho_51 (by decide) ?_
      refine ev_iload_n dc_X12_readWho_52 rfl ?_
      refine ev_imul dc_X12_readWho_53 ?_
      refine ev_iadd dc_X12_readWho_54 ?_
      refine ev_iconst (v := 1) dc_X12_readWho_55 (by decide) ?_
      refine ev_iadd dc_X12_readWho_56 ?_
      refine ev_iload_n dc_X12_readWho_57 rfl ?_
      refine ev_iast dc_X12_readWho_58 (wt hW i0 1 rfl rfl) h (fun h => ?_)
      refine ev_aload_n dc_X12_readWho_59 rfl ?_
      refine ev_getR dc_X12_readWho_60 fi_X12_13 rfl i0 ?_
      refine ev_bipush (v := 37) dc_X12_readWho_63 (by decide) ?_
      refine ev_iconst (v := 3) dc_X12_readWho_65 (by decide) ?_
      refine ev_iload_n dc_X12_readWho_66 rfl ?_
      refine ev_imul dc_X12_readWho_67 ?_
      refine ev_iadd dc_X12_readWho_68 ?_
      refine ev_iconst (v := 2) dc_X12_readWho_69 (by decide) ?_
      refine ev_iadd dc_X12_readWho_70 ?_
      refine ev_iconst (v := 1) dc_X12_readWho_71 (by decide) ?_
      refine ev_iast dc_X12_readWho_72 (wt hW i0 1 rfl rfl) h (fun h => ?_)
      refine ev_aload_n dc_X12_readWho_73 rfl ?_
      refine ev_getR dc_X12_readWho_74 fi_X12_13 rfl i0 ?_
      refine ev_iconst (v := 1) dc_X12_readWho_77 (by decide) ?_
      refine ev_dup2 dc_X12_readWho_78 rfl rfl ?_
      refine ev_iald dc_X12_readWho_79 (wt hW i0 1 rfl rfl) h (fun h => ?_)
      refine ev_iconst (v := 1) dc_X12_readWho_80 (by decide) ?_
      refine ev_iadd dc_X12_readWho_81 ?_
      refine ev_iast dc_X12_readWho_82 (wt hW i0 1 rfl rfl) h (fun h => ?_)
      refine ev_iconst (v := 1) dc_X12_readWho_83 (by decide) ?_
      cases h
      exact ev_zretc dc_X12_readWho_84 rfl rfl rfl rfl
    · refine ev_iconst (v := 0) dc_X12_readWho_29 (by decide) ?_
      cases h
      exact ev_zretc dc_X12_readWho_30 rfl rfl rfl rfl
theorem dc_X12_readWord_0 : Dc miX12_readWord 0 (.aload_n 0) 1 1 := ⟨by decide +kernel, rfl⟩
theorem dc_X12_readWord_1 : Dc miX12_readWord 1 (.invokevirtual 77) 3 4 := ⟨by decide +kernel, rfl⟩
theorem dc_X12_readWord_4 : Dc miX12_readWord 4 (.istore_n 1) 1 5 := ⟨by decide +kernel, rfl⟩
theorem dc_X12_readWord_5 : Dc miX12_readWord 5 (.iload_n 1) 1 6 := ⟨by decide +kernel, rfl⟩
theorem dc_X12_readWord_6 : Dc miX12_readWord 6 (.bipush 6) 2 8 := ⟨by decide +kernel, rfl⟩
theorem dc_X12_readWord_8 : Dc miX12_readWord 8 (.if_icmp .ne 5) 3 11 := ⟨by decide +kernel, rfl⟩
theorem dc_X12_readWord_11 : Dc miX12_readWord 11 (.iconst 0) 1 12 := ⟨by decide +kernel, rfl⟩
theorem dc_X12_readWord_12 : Dc miX12_readWord 12 (.ireturn) 1 13 := ⟨by decide +kernel, rfl⟩
theorem dc_X12_readWord_13 : Dc miX12_readWord 13 (.aload_n 0) 1 14 := ⟨by decide +kernel, rfl⟩
theorem dc_X12_readWord_14 : Dc miX12_readWord 14 (.iconst 0) 1 15 := ⟨by decide +kernel, rfl⟩
theorem dc_X12_readWord_15 : Dc miX12_readWord 15 (.bipush 20) 2 17 := ⟨by decide +kernel, rfl⟩
theorem dc_X12_readWord_17 : Dc miX12_readWord 17 (.invokevirtual 119) 3 20 := ⟨by decide +kernel, rfl⟩
theorem dc_X12_readWord_20 : Dc miX12_readWord 20 (.istore_n 2) 1 21 := ⟨by decide +kernel, rfl⟩
theorem dc_X12_readWord_21 : Dc miX12_readWord 21 (.iload_n 2) 1 22 := ⟨by decide +kernel, rfl⟩
theorem dc_X12_readWord_22 : Dc miX12_readWord 22 (.ifCond .ge 5) 3 25 := ⟨by decide +kernel, rfl⟩
theorem dc_X12_readWord_25 : Dc miX12_readWord 25 (.iconst 0) 1 26 := ⟨by decide +kernel, rfl⟩
theorem dc_X12_readWord_26 : Dc miX12_readWord 26 (.ireturn) 1 27 := ⟨by decide +kernel, rfl⟩
theorem dc_X12_readWord_27 : Dc miX12_readWord 27 (.iconst (-1)) 1 28 := ⟨by decide +kernel, rfl⟩
theorem dc_X12_readWord_28 : Dc miX12_readWord 28 (.istore_n 3) 1 29 := ⟨by decide +kernel, rfl⟩
theorem dc_X12_readWord_29 : Dc miX12_readWord 29 (.aload_n 0) 1 30 := ⟨by decide +kernel, rfl⟩
theorem dc_X12_readWord_30 : Dc miX12_readWord 30 (.ldc 134) 2 32 := ⟨by decide +kernel, rfl⟩
theorem dc_X12_readWord_32 : Dc miX12_readWord 32 (.invokevirtual 136) 3 35 := ⟨by decide +kernel, rfl⟩
theorem dc_X12_readWord_35 : Dc miX12_readWord 35 (.ifCond .eq 31) 3 38 := ⟨by decide +kernel, rfl⟩
theorem dc_X12_readWord_38 : Dc miX12_readWord 38 (.aload_n 0) 1 39 := ⟨by decide +kernel, rfl⟩
theorem dc_X12_readWord_39 : Dc miX12_readWord 39 (.invokevirtual 125) 3 42 := ⟨by decide +kernel, rfl⟩
theorem dc_X12_readWord_42 : Dc miX12_readWord 42 (.istore 4) 2 44 := ⟨by decide +kernel, rfl⟩
theorem dc_X12_readWord_44 : Dc miX12_readWord 44 (.iload 4) 2 46 := ⟨by decide +kernel, rfl⟩
theorem dc_X12_readWord_46 : Dc miX12_readWord 46 (.ifCond .lt 12) 3 49 := ⟨by decide +kernel, rfl⟩
theorem dc_X12_readWord_49 : Dc miX12_readWord 49 (.iload 4) 2 51 := ⟨by decide +kernel, rfl⟩
theorem dc_X12_readWord_51 : Dc miX12_readWord 51 (.invokestatic 139) 3 54 := ⟨by decide +kernel, rfl⟩
theorem dc_X12_readWord_54 : Dc miX12_readWord 54 (.iconst 1) 1 55 := ⟨by decide +kernel, rfl⟩
theorem dc_X12_readWord_55 : Dc miX12_readWord 55 (.if_icmp .eq 5) 3 58 := ⟨by decide +kernel, rfl⟩
theorem dc_X12_readWord_58 : Dc miX12_readWord 58 (.iconst 0) 1 59 := ⟨by decide +kernel, rfl⟩
theorem dc_X12_readWord_59 : Dc miX12_readWord 59 (.ireturn) 1 60 := ⟨by decide +kernel, rfl⟩
theorem dc_X12_readWord_60 : Dc miX12_readWord 60 (.iload 4) 2 62 := ⟨by decide +kernel, rfl⟩
theorem dc_X12_readWord_62 : Dc miX12_readWord 62 (.invokestatic 145) 3 65 := ⟨by decide +kernel, rfl⟩
theorem dc_X12_readWord_65 : Dc miX12_readWord 65 (.istore_n 3) 1 66 := ⟨by decide +kernel, rfl⟩
theorem dc_X12_readWord_66 : Dc miX12_readWord 66 (.aload_n 0) 1 67 := ⟨by decide +kernel, rfl⟩
theorem dc_X12_readWord_67 : Dc miX12_readWord 67 (.getfield 13) 3 70 := ⟨by decide +kernel, rfl⟩
theorem dc_X12_readWord_70 : Dc miX12_readWord 70 (.bipush 55) 2 72 := ⟨by decide +kernel, rfl⟩
theorem dc_X12_readWord_72 : Dc miX12_readWord 72 (.iconst 2) 1 73 := ⟨by decide +kernel, rfl⟩
theorem dc_X12_readWord_73 : Dc miX12_readWord 73 (.iload_n 1) 1 74 := ⟨by decide +kernel, rfl⟩
theorem dc_X12_readWord_74 : Dc miX12_readWord 74 (.imul) 1 75 := ⟨by decide +kernel, rfl⟩
theorem dc_X12_readWord_75 : Dc miX12_readWord 75 (.iadd) 1 76 := ⟨by decide +kernel, rfl⟩
theorem dc_X12_readWord_76 : Dc miX12_readWord 76 (.iconst 0) 1 77 := ⟨by decide +kernel, rfl⟩
theorem dc_X12_readWord_77 : Dc miX12_readWord 77 (.iadd) 1 78 := ⟨by decide +kernel, rfl⟩
theorem dc_X12_readWord_78 : Dc miX12_readWord 78 (.iload_n 2) 1 79 := ⟨by decide +kernel, rfl⟩
theorem dc_X12_readWord_79 : Dc miX12_readWord 79 (.iastore) 1 80 := ⟨by decide +kernel, rfl⟩
theorem dc_X12_readWord_80 : Dc miX12_readWord 80 (.aload_n 0) 1 81 := ⟨by decide +kernel, rfl⟩
theorem dc_X12_readWord_81 : Dc miX12_readWord 81 (.getfield 13) 3 84 := ⟨by decide +kernel, rfl⟩
theorem dc_X12_readWord_84 : Dc miX12_readWord 84 (.bipush 55) 2 86 := ⟨by decide +kernel, rfl⟩
theorem dc_X12_readWord_86 : Dc miX12_readWord 86 (.iconst 2) 1 87 := ⟨by decide +kernel, rfl⟩
theorem dc_X12_readWord_87 : Dc miX12_readWord 87 (.iload_n 1) 1 88 := ⟨by decide +kernel, rfl⟩
theorem dc_X12_readWord_88 : Dc miX12_readWord 88 (.imul) 1 89 := ⟨by decide +kernel, rfl⟩
theorem dc_X12_readWord_89 : Dc miX12_readWord 89 (.iadd) 1 90 := ⟨by decide +kernel, rfl⟩
theorem dc_X12_readWord_90 : Dc miX12_readWord 90 (.iconst 1) 1 91 := ⟨by decide +kernel, rfl⟩
theorem dc_X12_readWord_91 : Dc miX12_readWord 91 (.iadd) 1 92 := ⟨by decide +kernel, rfl⟩
theorem dc_X12_readWord_92 : Dc miX12_readWord 92 (.iload_n 3) 1 93 := ⟨by decide +kernel, rfl⟩
theorem dc_X12_readWord_93 : Dc miX12_readWord 93 (.iastore) 1 94 := ⟨by decide +kernel, rfl⟩
theorem dc_X12_readWord_94 : Dc miX12_readWord 94 (.aload_n 0) 1 95 := ⟨by decide +kernel, rfl⟩
theorem dc_X12_readWord_95 : Dc miX12_readWord 95 (.getfield 13) 3 98 := ⟨by decide +kernel, rfl⟩
theorem dc_X12_readWord_98 : Dc miX12_readWord 98 (.iconst 2) 1 99 := ⟨by decide +kernel, rfl⟩
theorem dc_X12_readWord_99 : Dc miX12_readWord 99 (.dup2) 1 100 := ⟨by decide +kernel, rfl⟩
theorem dc_X12_readWord_100 : Dc miX12_readWord 100 (.iaload) 1 101 := ⟨by decide +kernel, rfl⟩
theorem dc_X12_readWord_101 : Dc miX12_readWord 101 (.iconst 1) 1 102 := ⟨by decide +kernel, rfl⟩
theorem dc_X12_readWord_102 : Dc miX12_readWord 102 (.iadd) 1 103 := ⟨by decide +kernel, rfl⟩
theorem dc_X12_readWord_103 : Dc miX12_readWord 103 (.iastore) 1 104 := ⟨by decide +kernel, rfl⟩
theorem dc_X12_readWord_104 : Dc miX12_readWord 104 (.iconst 1) 1 105 := ⟨by decide +kernel, rfl⟩
theorem dc_X12_readWord_105 : Dc miX12_readWord 105 (.ireturn) 1 106 := ⟨by decide +kernel, rfl⟩
def fX12_readWord_b66 (N : Nat) (G : pG) (a0 : Nat) (x1 : Int32) (x2 : Int32) (x3 : Int32) (σ : pS) : Option (Int32 × pS) := ck (inB (((55 : Int32) + ((2 : Int32) * x1)) + (0 : Int32)) (pN G (pR G a0 1))) (ck (inB (((55 : Int32) + ((2 : Int32) * x1)) + (1 : Int32)) (pN G (pR G a0 1))) (ck (inB (2 : Int32) (pN G (pR G a0 1))) (ck (inB (2 : Int32) (pN G (pR G a0 1))) (some ((1 : Int32), sA (sA (sA σ (pR G a0 1) (((55 : Int32) + ((2 : Int32) * x1)) + (0 : Int32)) x2) (pR G a0 1) (((55 : Int32) + ((2 : Int32) * x1)) + (1 : Int32)) x3) (pR G a0 1) (2 : Int32) ((gA (sA (sA σ (pR G a0 1) (((55 : Int32) + ((2 : Int32) * x1)) + (0 : Int32)) x2) (pR G a0 1) (((55 : Int32) + ((2 : Int32) * x1)) + (1 : Int32)) x3) (pR G a0 1) (2 : Int32)) + (1 : Int32)))))))
set_option maxRecDepth 100000 in
set_option maxHeartbeats 4000000 in
theorem tX12_readWord_b66 {N : Nat} {G : pG} {SK : Nat → Nat} {a0 : Nat} {x1 : Int32} {x2 : Int32} {x3 : Int32} {σ : pS} {r : Int32 × pS} (hW : WT G) (i0 : Is G a0 11) (h : fX12_readWord_b66 N G a0 x1 x2 x3 σ = some r) : Ev miX12_readWord (11, 0, 0) G (Zp G (some (.int r.1)) r.2) SK (0, 0) 66 [some (.ref a0), some (.int x1), some (.int x2), some (.int x3), none] [] σ := by
  unfold fX12_readWord_b66 at h
  refine ev_aload_n dc_X12_readWord_66 rfl ?_
  refine ev_getR dc_X12_readWord_67 fi_X12_13 rfl i0 ?_
  refine ev_bipush (v := 55) dc_X12_readWord_70 (by decide) ?_
  refine ev_iconst (v := 2) dc_X12_readWord_72 (by decide) ?_
  refine ev_iload_n dc_X12_readWord_73 rfl ?_
  refine ev_imul dc_X12_readWord_74 ?_
  refine ev_iadd dc_X12_readWord_75 ?_
  refine ev_iconst (v := 0) dc_X12_readWord_76 (by decide) ?_
  refine ev_iadd dc_X12_readWord_77 ?_
  refine ev_iload_n dc_X12_readWord_78 rfl ?_
  refine ev_iast dc_X12_readWord_79 (wt hW i0 1 rfl rfl) h (fun h => ?_)
  refine ev_aload_n dc_X12_readWord_80 rfl ?_
  refine ev_getR dc_X12_readWord_81 fi_X12_13 rfl i0 ?_
  refine ev_bipush (v := 55) dc_X12_readWord_84 (by decide) ?_
  refine ev_iconst (v := 2) dc_X12_readWord_86 (by decide) ?_
  refine ev_iload_n dc_X12_readWord_87 rfl ?_
  refine ev_imul dc_X12_readWord_88 ?_
  refine ev_iadd dc_X12_readWord_89 ?_
  refine ev_iconst (v := 1) dc_X12_readWord_90 (by decide) ?_
  refine ev_iadd dc_X12_readWord_91 ?_
  refine ev_iload_n dc_X12_readWord_92 rfl ?_
  refine ev_iast dc_X12_readWord_93 (wt hW i0 1 rfl rfl) h (fun h => ?_)
  refine ev_aload_n dc_X12_readWord_94 rfl ?_
  refine ev_getR dc_X12_readWord_95 fi_X12_13 rfl i0 ?_
  refine ev_iconst (v := 2) dc_X12_readWord_98 (by decide) ?_
  refine ev_dup2 dc_X12_readWord_99 rfl rfl ?_
  refine ev_iald dc_X12_readWord_100 (wt hW i0 1 rfl rfl) h (fun h => ?_)
  refine ev_iconst (v := 1) dc_X12_readWord_101 (by decide) ?_
  refine ev_iadd dc_X12_readWord_102 ?_
  refine ev_iast dc_X12_readWord_103 (wt hW i0 1 rfl rfl) h (fun h => ?_)
  refine ev_iconst (v := 1) dc_X12_readWord_104 (by decide) ?_
  cases h
  exact ev_zretc dc_X12_readWord_105 rfl rfl rfl rfl
def fX12_readWord (N : Nat) (G : pG) (a0 : Nat) (σ : pS) : Option (Int32 × pS) := (fX12_words N G a0 σ).bind (fun q1 => if q1 = (6 : Int32) then (some ((0 : Int32), σ)) else ((fX12_number N G a0 (0 : Int32) (20 : Int32) σ).bind (fun q2 => if 0 ≤ q2.1 then ((fX12_passes N G a0 49 q2.2).bind (fun q3 => if q3.1 = 0 then (fX12_readWord_b66 N G a0 q1 q2.1 (-1 : Int32) q3.2) else ((fX12_lettersTold N G a0 q3.2).bind (fun q4 => if q4.1 < 0 then (some ((0 : Int32), q4.2)) else ((fJ6_bitCount_0f7a4 N G q4.1 q4.2).bind (fun q5 => if q5 = (1 : Int32) then ((fJ6_numberOfTrailingZeros_0f7a4 N G q4.1 q4.2).bind (fun q6 => fX12_readWord_b66 N G a0 q1 q2.1 q6 q4.2)) else (some ((0 : Int32), q4.2)))))))) else (some ((0 : Int32), q2.2)))))
set_option maxRecDepth 100000 in
set_option maxHeartbeats 4000000 in
theorem tX12_readWord {N : Nat} {G : pG} {SK : Nat → Nat} {a0 : Nat} {σ : pS} {r : Int32 × pS} (hW : WT G) (i0 : Is G a0 11) (h : fX12_readWord N G a0 σ = some r) : Dn miX12_readWord yX12_readWord 11 G SK [.ref a0] σ (some (.int r.1)) r.2 := by
  unfold fX12_readWord at h
  refine dn_of (lv := [some (.ref a0), none, none, none, none]) (by decide) rfl rfl (Nat.le_of_ble_eq_true rfl) rfl ?_
  refine ev_aload_n dc_X12_readWord_0 rfl ?_
  obtain ⟨q1, hq1, h⟩ := Option.bind_eq_some_iff.mp h
  refine ev_callV (av := []) (st := []) (st1 := [.int q1]) dc_X12_readWord_1 (tX12_words hW i0 hq1) mw_1676 cy_X12_words i0 (by decide) rfl rfl rfl rfl (Nat.le_of_ble_eq_true rfl) (Nat.le_of_ble_eq_true rfl) ⟨Nat.le_refl _, Nat.le_refl _⟩ ?_
  refine ev_istore_n (lv' := [some (.ref a0), some (.int q1), none, none, none]) dc_X12_readWord_4 rfl (by decide) rfl ?_
  refine ev_iload_n dc_X12_readWord_5 rfl ?_
  refine ev_bipush (v := 6) dc_X12_readWord_6 (by decide) ?_
  refine ev_icmp_ne (tgt := 13) dc_X12_readWord_8 (by decide) h (fun h => ?_) (fun h => ?_)
  · refine ev_iconst (v := 0) dc_X12_readWord_11 (by decide) ?_
    cases h
    exact ev_zretc dc_X12_readWord_12 rfl rfl rfl rfl
  · refine ev_aload_n dc_X12_readWord_13 rfl ?_
    refine ev_iconst (v := 0) dc_X12_readWord_14 (by decide) ?_
    refine ev_bipush (v := 20) dc_X12_readWord_15 (by decide) ?_
    obtain ⟨q2, hq2, h⟩ := Option.bind_eq_some_iff.mp h
    refine ev_callV (av := [.int (0 : Int32), .int (20 : Int32)]) (st := []) (st1 := [.int q2.1]) dc_X12_readWord_17 (tX12_number hW i0 hq2) mw_1667 cy_X12_number i0 (by decide) rfl rfl rfl rfl (Nat.le_of_ble_eq_true rfl) (Nat.le_of_ble_eq_true rfl) ⟨Nat.le_refl _, Nat.le_refl _⟩ ?_
    refine ev_istore_n (lv' := [some (.ref a0), some (.int q1), some (.int q2.1), none, none]) dc_X12_readWord_20 rfl (by decide) rfl ?_
    refine ev_iload_n dc_X12_readWord_21 rfl ?_
    refine ev_if_ge (tgt := 27) dc_X12_readWord_22 (by decide) h (fun h => ?_) (fun h => ?_)
    · refine ev_iconst (v := (-1)) dc_X12_readWord_27 (by decide) ?_
      refine ev_istore_n (lv' := [some (.ref a0), some (.int q1), some (.int q2.1), some (.int (-1 : Int32)), none]) dc_X12_readWord_28 rfl (by decide) rfl ?_
      refine ev_aload_n dc_X12_readWord_29 rfl ?_
      refine ev_ldcS (sid := 49) (tx := "of") dc_X12_readWord_30 (List.mem_of_getElem? (i := 49) rfl) ?_
      obtain ⟨q3, hq3, h⟩ := Option.bind_eq_some_iff.mp h
      refine ev_callV (av := [.ref (SK 49)]) (st := []) (st1 := [.int q3.1]) dc_X12_readWord_32 (tX12_passes hW i0 rfl hq3) mw_1681 cy_X12_passes i0 (by decide) rfl rfl rfl rfl (Nat.le_of_ble_eq_true rfl) (Nat.le_of_ble_eq_true rfl) ⟨Nat.le_refl _, Nat.le_refl _⟩ ?_
      refine ev_if_eq (tgt := 66) dc_X12_readWord_35 (by decide) h (fun h => ?_) (fun h => ?_)
      · exact ev_sub (tX12_readWord_b66 hW i0 h) (And.intro rfl (And.intro rfl (And.intro rfl (And.intro rfl trivial))))
      · refine ev_aload_n dc_X12_readWord_38 rfl ?_
        obtain ⟨q4, hq4, h⟩ := Option.bind_eq_some_iff.mp h
        refine ev_callV (av := []) (st := []) (st1 := [.int q4.1]) dc_X12_readWord_39 (tX12_lettersTold hW i0 hq4) mw_1652 cy_X12_lettersTold i0 (by decide) rfl rfl rfl rfl (Nat.le_of_ble_eq_true rfl) (Nat.le_of_ble_eq_true rfl) ⟨Nat.le_refl _, Nat.le_refl _⟩ ?_
        refine ev_istore (lv' := [some (.ref a0), some (.int q1), some (.int q2.1), some (.int (-1 : Int32)), some (.int q4.1)]) dc_X12_readWord_42 rfl (by decide) rfl ?_
        refine ev_iload dc_X12_readWord_44 rfl ?_
        refine ev_if_lt (tgt := 58) dc_X12_readWord_46 (by decide) h (fun h => ?_) (fun h => ?_)
        · refine ev_iconst (v := 0) dc_X12_readWord_58 (by decide) ?_
          cases h
          exact ev_zretc dc_X12_readWord_59 rfl rfl rfl rfl
        · refine ev_iload dc_X12_readWord_49 rfl ?_
          obtain ⟨q5, hq5, h⟩ := Option.bind_eq_some_iff.mp h
          refine ev_callS (av := [.int q4.1]) (st := []) (st1 := [.int q5]) dc_X12_readWord_51 (tJ6_bitCount_0f7a4 hW hq5) mw_1685 cs_J6_bitCount_0f7a4 rfl rfl rfl (Nat.le_of_ble_eq_true rfl) (Nat.le_of_ble_eq_true rfl) ⟨Nat.le_refl _, Nat.le_refl _⟩ ?_
          refine ev_iconst (v := 1) dc_X12_readWord_54 (by decide) ?_
          refine ev_icmp_eq (tgt := 60) dc_X12_readWord_55 (by decide) h (fun h => ?_) (fun h => ?_)
          · refine ev_iload dc_X12_readWord_60 rfl ?_
            obtain ⟨q6, hq6, h⟩ := Option.bind_eq_some_iff.mp h
            refine ev_callS (av := [.int q4.1]) (st := []) (st1 := [.int q6]) dc_X12_readWord_62 (tJ6_numberOfTrailingZeros_0f7a4 hW hq6) mw_1686 cs_J6_numberOfTrailingZeros_0f7a4 rfl rfl rfl (Nat.le_of_ble_eq_true rfl) (Nat.le_of_ble_eq_true rfl) ⟨Nat.le_refl _, Nat.le_refl _⟩ ?_
            refine ev_istore_n (lv' := [some (.ref a0), some (.int q1), some (.int q2.1), some (.int q6), some (.int q4.1)]) dc_X12_readWord_65 rfl (by decide) rfl ?_
            exact ev_sub (tX12_readWord_b66 hW i0 h) (And.intro rfl (And.intro rfl (And.intro rfl (And.intro rfl trivial))))
          · refine ev_iconst (v := 0) dc_X12_readWord_58 (by decide) ?_
            cases h
            exact ev_zretc dc_X12_readWord_59 rfl rfl rfl rfl
    · refine ev_iconst (v := 0) dc_X12_readWord_25 (by decide) ?_
      cases h
      exact ev_zretc dc_X12_readWord_26 rfl rfl rfl rfl
