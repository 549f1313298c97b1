theorem dc_X11_similar_0 : Dc miX11_similar 0 (.aload_n 0) 1 1 := ⟨by decide +kernel, rfl⟩
theorem dc_X11_similar_1 : Dc miX11_similar 1 (.iload_n 1) 1 2 := ⟨by decide +kernel, rfl⟩
theorem dc_X11_similar_2 : Dc miX11_similar 2 (.invokevirtual 141) 3 5 := ⟨by decide +kernel, rfl⟩
theorem dc_X11_similar_5 : Dc miX11_similar 5 (.aload_n 0) 1 6 := ⟨by decide +kernel, rfl⟩
theorem dc_X11_similar_6 : Dc miX11_similar 6 (.iload_n 2) 1 7 := ⟨by decide +kernel, rfl⟩
theorem dc_X11_similar_7 : Dc miX11_similar 7 (.ifCond .lt 13) 3 10 := ⟨by decide +kernel, rfl⟩
theorem dc_X11_similar_10 : Dc miX11_similar 10 (.iload_n 2) 1 11 := ⟨by decide +kernel, rfl⟩
theorem dc_X11_similar_11 : Dc miX11_similar 11 (.bipush 6) 2 13 := ⟨by decide +kernel, rfl⟩
theorem dc_X11_similar_13 : Dc miX11_similar 13 (.if_icmp .gt 7) 3 16 := ⟨by decide +kernel, rfl⟩
theorem dc_X11_similar_16 : Dc miX11_similar 16 (.iconst 1) 1 17 := ⟨by decide +kernel, rfl⟩
theorem dc_X11_similar_17 : Dc miX11_similar 17 (.goto 4) 3 20 := ⟨by decide +kernel, rfl⟩
theorem dc_X11_similar_20 : Dc miX11_similar 20 (.iconst 0) 1 21 := ⟨by decide +kernel, rfl⟩
theorem dc_X11_similar_21 : Dc miX11_similar 21 (.invokevirtual 268) 3 24 := ⟨by decide +kernel, rfl⟩
theorem dc_X11_similar_24 : Dc miX11_similar 24 (.iconst 0) 1 25 := ⟨by decide +kernel, rfl⟩
theorem dc_X11_similar_25 : Dc miX11_similar 25 (.istore_n 3) 1 26 := ⟨by decide +kernel, rfl⟩
theorem dc_X11_similar_26 : Dc miX11_similar 26 (.iconst 0) 1 27 := ⟨by decide +kernel, rfl⟩
theorem dc_X11_similar_27 : Dc miX11_similar 27 (.istore 4) 2 29 := ⟨by decide +kernel, rfl⟩
theorem dc_X11_similar_29 : Dc miX11_similar 29 (.iload 4) 2 31 := ⟨by decide +kernel, rfl⟩
theorem dc_X11_similar_31 : Dc miX11_similar 31 (.aload_n 0) 1 32 := ⟨by decide +kernel, rfl⟩
theorem dc_X11_similar_32 : Dc miX11_similar 32 (.getfield 19) 3 35 := ⟨by decide +kernel, rfl⟩
theorem dc_X11_similar_35 : Dc miX11_similar 35 (.getfield 104) 3 38 := ⟨by decide +kernel, rfl⟩
theorem dc_X11_similar_38 : Dc miX11_similar 38 (.getfield 248) 3 41 := ⟨by decide +kernel, rfl⟩
theorem dc_X11_similar_41 : Dc miX11_similar 41 (.if_icmp .ge 39) 3 44 := ⟨by decide +kernel, rfl⟩
theorem dc_X11_similar_44 : Dc miX11_similar 44 (.iload 4) 2 46 := ⟨by decide +kernel, rfl⟩
theorem dc_X11_similar_46 : Dc miX11_similar 46 (.iload_n 1) 1 47 := ⟨by decide +kernel, rfl⟩
theorem dc_X11_similar_47 : Dc miX11_similar 47 (.if_icmp .eq 27) 3 50 := ⟨by decide +kernel, rfl⟩
theorem dc_X11_similar_50 : Dc miX11_similar 50 (.aload_n 0) 1 51 := ⟨by decide +kernel, rfl⟩
theorem dc_X11_similar_51 : Dc miX11_similar 51 (.getfield 19) 3 54 := ⟨by decide +kernel, rfl⟩
theorem dc_X11_similar_54 : Dc miX11_similar 54 (.getfield 104) 3 57 := ⟨by decide +kernel, rfl⟩
theorem dc_X11_similar_57 : Dc miX11_similar 57 (.iload_n 1) 1 58 := ⟨by decide +kernel, rfl⟩
theorem dc_X11_similar_58 : Dc miX11_similar 58 (.iload 4) 2 60 := ⟨by decide +kernel, rfl⟩
theorem dc_X11_similar_60 : Dc miX11_similar 60 (.invokevirtual 340) 3 63 := ⟨by decide +kernel, rfl⟩
theorem dc_X11_similar_63 : Dc miX11_similar 63 (.iload_n 2) 1 64 := ⟨by decide +kernel, rfl⟩
theorem dc_X11_similar_64 : Dc miX11_similar 64 (.if_icmp .gt 10) 3 67 := ⟨by decide +kernel, rfl⟩
theorem dc_X11_similar_67 : Dc miX11_similar 67 (.iload_n 3) 1 68 := ⟨by decide +kernel, rfl⟩
theorem dc_X11_similar_68 : Dc miX11_similar 68 (.iconst 1) 1 69 := ⟨by decide +kernel, rfl⟩
theorem dc_X11_similar_69 : Dc miX11_similar 69 (.iload 4) 2 71 := ⟨by decide +kernel, rfl⟩
theorem dc_X11_similar_71 : Dc miX11_similar 71 (.ishl) 1 72 := ⟨by decide +kernel, rfl⟩
theorem dc_X11_similar_72 : Dc miX11_similar 72 (.ior) 1 73 := ⟨by decide +kernel, rfl⟩
theorem dc_X11_similar_73 : Dc miX11_similar 73 (.istore_n 3) 1 74 := ⟨by decide +kernel, rfl⟩
theorem dc_X11_similar_74 : Dc miX11_similar 74 (.iinc 4 1) 3 77 := ⟨by decide +kernel, rfl⟩
theorem dc_X11_similar_77 : Dc miX11_similar 77 (.goto (-48)) 3 80 := ⟨by decide +kernel, rfl⟩
theorem dc_X11_similar_80 : Dc miX11_similar 80 (.iload_n 3) 1 81 := ⟨by decide +kernel, rfl⟩
theorem dc_X11_similar_81 : Dc miX11_similar 81 (.ireturn) 1 82 := ⟨by decide +kernel, rfl⟩
def fX11_similar_b29 (N : Nat) (G : pG) (a0 : Nat) (a1 : Int32) (a2 : Int32) : (Int32 × Int32 × pS) → Option ((Int32 × pS) ⊕ (String × pS)) := lp (fun (k29 : Int32 × Int32 × pS → Option ((Int32 × pS) ⊕ (String × pS))) (b : Int32 × Int32 × pS) => if (b.2.2.1 (pR G (pR G a0 1) 0) 1) ≤ b.2.1 then (some (.inl (b.1, b.2.2))) else (if b.2.1 = a1 then (k29 (b.1, b.2.1 + (1 : Int32), b.2.2)) else ((fX8_difference N G (pR G (pR G a0 1) 0) a1 b.2.1 b.2.2).bind (fun q1 => if a2 < q1 then (k29 (b.1, b.2.1 + (1 : Int32), b.2.2)) else (k29 (b.1 ||| ((1 : Int32) <<< (b.2.1 &&& 31)), b.2.1 + (1 : Int32), b.2.2)))))) N
set_option maxRecDepth 100000 in
set_option maxHeartbeats 4000000 in
theorem tX11_similar_b29 {N : Nat} {G : pG} {SK : Nat → Nat} {a0 : Nat} {a1 : Int32} {a2 : Int32} {b : Int32 × Int32 × pS} {r : (Int32 × pS) ⊕ (String × pS)} (hW : WT G) (i0 : Is G a0 10) (h : fX11_similar_b29 N G a0 a1 a2 b = some r) : Ev miX11_similar (8, 2, 12) G (Zx G (xoI r) 2 12) SK (2, 12) 29 [some (.ref a0), some (.int a1), some (.int a2), some (.int b.1), some (.int b.2.1)] [] b.2.2 := by
  unfold fX11_similar_b29 at h
  refine lp_ind (P := fun b r9 => r9 = r → Ev miX11_similar (8, 2, 12) G (Zx G (xoI r) 2 12) SK (2, 12) 29 [some (.ref a0), some (.int a1), some (.int a2), some (.int b.1), some (.int b.2.1)] [] b.2.2) (fun k29 b r9 ih h9 e9 => ?_) N b r h rfl
  clear h
  subst e9
  have h := h9
  clear h9
  have hk29 : ∀ b : Int32 × Int32 × pS, k29 b = some r9 → Ev miX11_similar (8, 2, 12) G (Zx G (xoI r9) 2 12) SK (2, 12) 29 [some (.ref a0), some (.int a1), some (.int a2), some (.int b.1), some (.int b.2.1)] [] b.2.2 := fun b hb => ih b r9 hb rfl
  clear ih
  obtain ⟨x3, x4, σ⟩ := b
  dsimp only at h ⊢
  refine ev_iload dc_X11_similar_29 rfl ?_
  refine ev_aload_n dc_X11_similar_31 rfl ?_
  refine ev_getR dc_X11_similar_32 fi_X11_19 rfl i0 ?_
  refine ev_getR dc_X11_similar_35 fi_X11_104 rfl (wt hW i0 1 rfl rfl) ?_
  refine ev_getI dc_X11_similar_38 fi_X11_248 rfl (wt hW (wt hW i0 1 rfl rfl) 0 rfl rfl) ?_
  refine ev_icmp_ge (tgt := 80) dc_X11_similar_41 (by decide) h (fun h => ?_) (fun h => ?_)
  · refine ev_iload_n dc_X11_similar_80 rfl ?_
    cases h
    exact ev_iretX dc_X11_similar_81 rfl ⟨Nat.le_of_ble_eq_true rfl, Nat.le_of_ble_eq_true rfl⟩ rfl rfl
  · refine ev_iload dc_X11_similar_44 rfl ?_
    refine ev_iload_n dc_X11_similar_46 rfl ?_
    refine ev_icmp_eq (tgt := 74) dc_X11_similar_47 (by decide) h (fun h => ?_) (fun h => ?_)
    · refine ev_iinc (v := 1) (lv' := [some (.ref a0), some (.int a1), some (.int a2), some (.int x3), some (.int (x4 + (1 : Int32)))]) dc_X11_similar_74 rfl (by decide) rfl (by decide) rfl ?_
      refine ev_goto (tgt := 29) dc_X11_similar_77 (by decide) ?_
      exact ev_sub (hk29 (x3, x4 + (1 : Int32), σ) h) (And.intro rfl (And.intro rfl (And.intro rfl (And.intro rfl (And.intro rfl trivial)))))
    · refine ev_aload_n dc_X11_similar_50 rfl ?_
      refine ev_getR dc_X11_similar_51 fi_X11_19 rfl i0 ?_
      refine ev_getR dc_X11_similar_54 fi_X11_104 rfl (wt hW i0 1 rfl rfl) ?_
      refine ev_iload_n dc_X11_similar_57 rfl ?_
      refine ev_iload dc_X11_similar_58 rfl ?_
      obtain ⟨q1, hq1, h⟩ := Option.bind_eq_some_iff.mp h
      refine ev_callV (av := [.int a1, .int x4]) (st := []) (st1 := [.int q1]) dc_X11_similar_60 (tX8_difference hW (wt hW (wt hW i0 1 rfl rfl) 0 rfl rfl) hq1) mw_558 cy_X8_difference (wt hW (wt hW i0 1 rfl rfl) 0 rfl rfl) (by decide) rfl rfl rfl rfl (Nat.le_of_ble_eq_true rfl) (Nat.le_of_ble_eq_true rfl) ⟨Nat.le_of_ble_eq_true rfl, Nat.le_of_ble_eq_true rfl⟩ ?_
      refine ev_iload_n dc_X11_similar_63 rfl ?_
      refine ev_icmp_gt (tgt := 74) dc_X11_similar_64 (by decide) h (fun h => ?_) (fun h => ?_)
      · refine ev_iinc (v := 1) (lv' := [some (.ref a0), some (.int a1), some (.int a2), some (.int x3), some (.int (x4 + (1 : Int32)))]) dc_X11_similar_74 rfl (by decide) rfl (by decide) rfl ?_
        refine ev_goto (tgt := 29) dc_X11_similar_77 (by decide) ?_
        exact ev_sub (hk29 (x3, x4 + (1 : Int32), σ) h) (And.intro rfl (And.intro rfl (And.intro rfl (And.intro rfl (And.intro rfl trivial)))))
      · refine ev_iload_n dc_X11_similar_67 rfl ?_
        refine ev_iconst (v := 1) dc_X11_similar_68 (by decide) ?_
        refine ev_iload dc_X11_similar_69 rfl ?_
        refine ev_ishl dc_X11_similar_71 ?_
        refine ev_ior dc_X11_similar_72 ?_
        refine ev_istore_n (lv' := [some (.ref a0), some (.int a1), some (.int a2), some (.int (x3 ||| ((1 : Int32) <<< (x4 &&& 31)))), some (.int x4)]) dc_X11_similar_73 rfl (by decide) rfl ?_
        refine ev_iinc (v := 1) (lv' := [some (.ref a0), some (.int a1), some (.int a2), some (.int (x3 ||| ((1 : Int32) <<< (x4 &&& 31)))), some (.int (x4 + (1 : Int32)))]) dc_X11_similar_74 rfl (by decide) rfl (by decide) rfl ?_
        refine ev_goto (tgt := 29) dc_X11_similar_77 (by decide) ?_
        exact ev_sub (hk29 (x3 ||| ((1 : Int32) <<< (x4 &&& 31)), x4 + (1 : Int32), σ) h) (And.intro rfl (And.intro rfl (And.intro rfl (And.intro rfl (And.intro rfl trivial)))))
def fX11_similar_b21 (N : Nat) (G : pG) (a0 : Nat) (a1 : Int32) (a2 : Int32) (y1 : Int32) (σ : pS) : Option ((Int32 × pS) ⊕ (String × pS)) := (fX11_need N G a0 y1 σ).bind (fun q2 => q2.elim (fun zs3 => fX11_similar_b29 N G a0 a1 a2 ((0 : Int32), (0 : Int32), zs3)) (fun e => some (.inr e)))
set_option maxRecDepth 100000 in
set_option maxHeartbeats 4000000 in
theorem tX11_similar_b21 {N : Nat} {G : pG} {SK : Nat → Nat} {a0 : Nat} {a1 : Int32} {a2 : Int32} {y1 : Int32} {σ : pS} {r : (Int32 × pS) ⊕ (String × pS)} (hW : WT G) (i0 : Is G a0 10) (h : fX11_similar_b21 N G a0 a1 a2 y1 σ = some r) : Ev miX11_similar (8, 2, 12) G (Zx G (xoI r) 2 12) SK (1, 6) 21 [some (.ref a0), some (.int a1), some (.int a2), none, none] [.int y1, .ref a0] σ := by
  unfold fX11_similar_b21 at h
  obtain ⟨q2, hq2, h⟩ := Option.bind_eq_some_iff.mp h
  refine ev_callX (mc := 2) (ms := 12) (av := [.int y1]) (st := []) rfl dc_X11_similar_21 (tX11_need hW i0 hq2) mw_1228 cy_X11_need i0 (by decide) rfl rfl rfl (Nat.le_of_ble_eq_true rfl) (Nat.le_of_ble_eq_true rfl) ⟨Nat.le_of_ble_eq_true rfl, Nat.le_of_ble_eq_true rfl⟩ ?_ ?_
  · intro e he
    rcases q2 with zs3 | zs3
    · have he : (Sum.inl (none, zs3) : XO) = .inr e := he
      cases he
    · have he : (Sum.inr zs3 : XO) = .inr e := he
      cases he
      dsimp only [Sum.elim] at h
      cases h
      exact ⟨rfl, Nat.le_of_ble_eq_true rfl, Nat.le_of_ble_eq_true rfl⟩
  intro e he
  rcases q2 with zs3 | zs3
  rotate_left
  · have he : (Sum.inr zs3 : XO) = .inl e := he
    cases he
  have he : (Sum.inl (none, zs3) : XO) = .inl e := he
  cases he
  dsimp only [Sum.elim] at h
  show Ev miX11_similar (8, 2, 12) G (Zx G (xoI r) 2 12) SK (2, 12) 24 [some (.ref a0), some (.int a1), some (.int a2), none, none] [] zs3
  refine ev_iconst (v := 0) dc_X11_similar_24 (by decide) ?_
  refine ev_istore_n (lv' := [some (.ref a0), some (.int a1), some (.int a2), some (.int (0 : Int32)), none]) dc_X11_similar_25 rfl (by decide) rfl ?_
  refine ev_iconst (v := 0) dc_X11_similar_26 (by decide) ?_
  refine ev_istore (lv' := [some (.ref a0), some (.int a1), some (.int a2), some (.int (0 : Int32)), some (.int (0 : Int32))]) dc_X11_similar_27 rfl (by decide) rfl ?_
  exact ev_sub (tX11_similar_b29 (b := ((0 : Int32), (0 : Int32), zs3)) hW i0 h) (And.intro rfl (And.intro rfl (And.intro rfl (And.intro rfl (And.intro rfl trivial)))))
def fX11_similar_b20 (N : Nat) (G : pG) (a0 : Nat) (a1 : Int32) (a2 : Int32) (σ : pS) : Option ((Int32 × pS) ⊕ (String × pS)) := fX11_similar_b21 N G a0 a1 a2 (0 : Int32) σ
set_option maxRecDepth 100000 in
set_option maxHeartbeats 4000000 in
theorem tX11_similar_b20 {N : Nat} {G : pG} {SK : Nat → Nat} {a0 : Nat} {a1 : Int32} {a2 : Int32} {σ : pS} {r : (Int32 × pS) ⊕ (String × pS)} (hW : WT G) (i0 : Is G a0 10) (h : fX11_similar_b20 N G a0 a1 a2 σ = some r) : Ev miX11_similar (8, 2, 12) G (Zx G (xoI r) 2 12) SK (1, 6) 20 [some (.ref a0), some (.int a1), some (.int a2), none, none] [.ref a0] σ := by
  unfold fX11_similar_b20 at h
  refine ev_iconst (v := 0) dc_X11_similar_20 (by decide) ?_
  exact ev_sub (tX11_similar_b21 hW i0 h) (And.intro rfl (And.intro rfl (And.intro rfl trivial)))
def fX11_similar (N : Nat) (G : pG) (a0 : Nat) (a1 : Int32) (a2 : Int32) (σ : pS) : Option ((Int32 × pS) ⊕ (String × pS)) := (fX11_needName N G a0 a1 σ).bind (fun q4 => q4.elim (fun zs5 => if a2 < 0 then (fX11_similar_b20 N G a0 a1 a2 zs5) else (if (6 : Int32) < a2 then (fX11_similar_b20 N G a0 a1 a2 zs5) else (fX11_similar_b21 N G a0 a1 a2 (1 : Int32) zs5))) (fun e => some (.inr e)))
set_option maxRecDepth 100000 in
set_option maxHeartbeats 4000000 in
theorem tX11_similar {N : Nat} {G : pG} {SK : Nat → Nat} {a0 : Nat} {a1 : Int32} {a2 : Int32} {σ : pS} {r : (Int32 × pS) ⊕ (String × pS)} (hW : WT G) (i0 : Is G a0 10) (h : fX11_similar N G a0 a1 a2 σ = some r) : Dx miX11_similar yX11_similar 8 2 12 G SK [.ref a0, .int a1, .int a2] σ (xoI r) := by
  unfold fX11_similar at h
  refine dx_of (lv := [some (.ref a0), some (.int a1), some (.int a2), none, none]) (by decide) rfl rfl (Nat.le_of_ble_eq_true rfl) rfl ?_
  refine ev_aload_n dc_X11_similar_0 rfl ?_
  refine ev_iload_n dc_X11_similar_1 rfl ?_
  obtain ⟨q4, hq4, h⟩ := Option.bind_eq_some_iff.mp h
  refine ev_callX (mc := 2) (ms := 12) (av := [.int a1]) (st := []) rfl dc_X11_similar_2 (tX11_needName hW i0 hq4) mw_1039 cy_X11_needName i0 (by decide) rfl rfl rfl (Nat.le_of_ble_eq_true rfl) (Nat.le_of_ble_eq_true rfl) ⟨Nat.le_of_ble_eq_true rfl, Nat.le_of_ble_eq_true rfl⟩ ?_ ?_
  · intro e he
    rcases q4 with zs5 | zs5
    · have he : (Sum.inl (none, zs5) : XO) = .inr e := he
      cases he
    · have he : (Sum.inr zs5 : XO) = .inr e := he
      cases he
      dsimp only [Sum.elim] at h
      cases h
      exact ⟨rfl, Nat.le_of_ble_eq_true rfl, Nat.le_of_ble_eq_true rfl⟩
  intro e he
  rcases q4 with zs5 | zs5
  rotate_left
  · have he : (Sum.inr zs5 : XO) = .inl e := he
    cases he
  have he : (Sum.inl (none, zs5) : XO) = .inl e := he
  cases he
  dsimp only [Sum.elim] at h
  show Ev miX11_similar (8, 2, 12) G (Zx G (xoI r) 2 12) SK (1, 6) 5 [some (.ref a0), some (.int a1), some (.int a2), none, none] [] zs5
  refine ev_aload_n dc_X11_similar_5 rfl ?_
  refine ev_iload_n dc_X11_similar_6 rfl ?_
  refine ev_if_lt (tgt := 20) dc_X11_similar_7 (by decide) h (fun h => ?_) (fun h => ?_)
  · exact ev_sub (tX11_similar_b20 hW i0 h) (And.intro rfl (And.intro rfl (And.intro rfl trivial)))
  · refine ev_iload_n dc_X11_similar_10 rfl ?_
    refine ev_bipush (v := 6) dc_X11_similar_11 (by decide) ?_
    refine ev_icmp_gt (tgt := 20) dc_X11_similar_13 (by decide) h (fun h => ?_) (fun h => ?_)
    · exact ev_sub (tX11_similar_b20 hW i0 h) (And.intro rfl (And.intro rfl (And.intro rfl trivial)))
    · refine ev_iconst (v := 1) dc_X11_similar_16 (by decide) ?_
      refine ev_goto (tgt := 21) dc_X11_similar_17 (by decide) ?_
      exact ev_sub (tX11_similar_b21 hW i0 h) (And.intro rfl (And.intro rfl (And.intro rfl trivial)))
theorem dc_X11_span_0 : Dc miX11_span 0 (.aload_n 0) 1 1 := ⟨by decide +kernel, rfl⟩
theorem dc_X11_span_1 : Dc miX11_span 1 (.iload_n 1) 1 2 := ⟨by decide +kernel, rfl⟩
theorem dc_X11_span_2 : Dc miX11_span 2 (.ifCond .lt 13) 3 5 := ⟨by decide +kernel, rfl⟩
theorem dc_X11_span_5 : Dc miX11_span 5 (.iload_n 1) 1 6 := ⟨by decide +kernel, rfl⟩
theorem dc_X11_span_6 : Dc miX11_span 6 (.bipush 60) 2 8 := ⟨by decide +kernel, rfl⟩
theorem dc_X11_span_8 : Dc miX11_span 8 (.if_icmp .gt 7) 3 11 := ⟨by decide +kernel, rfl⟩
theorem dc_X11_span_11 : Dc miX11_span 11 (.iconst 1) 1 12 := ⟨by decide +kernel, rfl⟩
theorem dc_X11_span_12 : Dc miX11_span 12 (.goto 4) 3 15 := ⟨by decide +kernel, rfl⟩
theorem dc_X11_span_15 : Dc miX11_span 15 (.iconst 0) 1 16 := ⟨by decide +kernel, rfl⟩
theorem dc_X11_span_16 : Dc miX11_span 16 (.invokevirtual 268) 3 19 := ⟨by decide +kernel, rfl⟩
theorem dc_X11_span_19 : Dc miX11_span 19 (.iconst 0) 1 20 := ⟨by decide +kernel, rfl⟩
theorem dc_X11_span_20 : Dc miX11_span 20 (.istore_n 2) 1 21 := ⟨by decide +kernel, rfl⟩
theorem dc_X11_span_21 : Dc miX11_span 21 (.iconst 1) 1 22 := ⟨by decide +kernel, rfl⟩
theorem dc_X11_span_22 : Dc miX11_span 22 (.istore_n 3) 1 23 := ⟨by decide +kernel, rfl⟩
theorem dc_X11_span_23 : Dc miX11_span 23 (.iload_n 3) 1 24 := ⟨by decide +kernel, rfl⟩
theorem dc_X11_span_24 : Dc miX11_span 24 (.bipush 6) 2 26 := ⟨by decide +kernel, rfl⟩
theorem dc_X11_span_26 : Dc miX11_span 26 (.if_icmp .gt 33) 3 29 := ⟨by decide +kernel, rfl⟩
theorem dc_X11_span_29 : Dc miX11_span 29 (.aload_n 0) 1 30 := ⟨by decide +kernel, rfl⟩
theorem dc_X11_span_30 : Dc miX11_span 30 (.iload_n 1) 1 31 := ⟨by decide +kernel, rfl⟩
theorem dc_X11_span_31 : Dc miX11_span 31 (.iload_n 3) 1 32 := ⟨by decide +kernel, rfl⟩
theorem dc_X11_span_32 : Dc miX11_span 32 (.invokevirtual 290) 3 35 := ⟨by decide +kernel, rfl⟩
theorem dc_X11_span_35 : Dc miX11_span 35 (.iload_n 2) 1 36 := ⟨by decide +kernel, rfl⟩
theorem dc_X11_span_36 : Dc miX11_span 36 (.aload_n 0) 1 37 := ⟨by decide +kernel, rfl⟩
theorem dc_X11_span_37 : Dc miX11_span 37 (.getfield 39) 3 40 := ⟨by decide +kernel, rfl⟩
theorem dc_X11_span_40 : Dc miX11_span 40 (.getfield 216) 3 43 := ⟨by decide +kernel, rfl⟩
theorem dc_X11_span_43 : Dc miX11_span 43 (.ifCond .eq 7) 3 46 := ⟨by decide +kernel, rfl⟩
theorem dc_X11_span_46 : Dc miX11_span 46 (.iconst 1) 1 47 := ⟨by decide +kernel, rfl⟩
theorem dc_X11_span_47 : Dc miX11_span 47 (.goto 4) 3 50 := ⟨by decide +kernel, rfl⟩
theorem dc_X11_span_50 : Dc miX11_span 50 (.iconst 0) 1 51 := ⟨by decide +kernel, rfl⟩
theorem dc_X11_span_51 : Dc miX11_span 51 (.iadd) 1 52 := ⟨by decide +kernel, rfl⟩
theorem dc_X11_span_52 : Dc miX11_span 52 (.istore_n 2) 1 53 := ⟨by decide +kernel, rfl⟩
theorem dc_X11_span_53 : Dc miX11_span 53 (.iinc 3 1) 3 56 := ⟨by decide +kernel, rfl⟩
theorem dc_X11_span_56 : Dc miX11_span 56 (.goto (-33)) 3 59 := ⟨by decide +kernel, rfl⟩
theorem dc_X11_span_59 : Dc miX11_span 59 (.iload_n 2) 1 60 := ⟨by decide +kernel, rfl⟩
theorem dc_X11_span_60 : Dc miX11_span 60 (.ireturn) 1 61 := ⟨by decide +kernel, rfl⟩
def fX11_span_b23 (N : Nat) (G : pG) (a0 : Nat) (a1 : Int32) : (Int32 × Int32 × pS) → Option ((Int32 × pS) ⊕ (String × pS)) := lp (fun (k23 : Int32 × Int32 × pS → Option ((Int32 × pS) ⊕ (String × pS))) (b : Int32 × Int32 × pS) => if (6 : Int32) < b.2.1 then (some (.inl (b.1, b.2.2))) else ((fX11_tryNights N G a0 a1 b.2.1 b.2.2).bind (fun q1 => if (q1.1 (pR G a0 5) 6) = 0 then (k23 (b.1 + (0 : Int32), b.2.1 + (1 : Int32), q1)) else (k23 (b.1 + (1 : Int32), b.2.1 + (1 : Int32), q1))))) N
set_option maxRecDepth 100000 in
set_option maxHeartbeats 4000000 in
theorem tX11_span_b23 {N : Nat} {G : pG} {SK : Nat → Nat} {a0 : Nat} {a1 : Int32} {b : Int32 × Int32 × pS} {r : (Int32 × pS) ⊕ (String × pS)} (hW : WT G) (i0 : Is G a0 10) (h : fX11_span_b23 N G a0 a1 b = some r) : Ev miX11_span (8, 1, 6) G (Zx G (xoI r) 1 6) SK (1, 6) 23 [some (.ref a0), some (.int a1), some (.int b.1), some (.int b.2.1)] [] b.2.2 := by
  unfold fX11_span_b23 at h
  refine lp_ind (P := fun b r9 => r9 = r → Ev miX11_span (8, 1, 6) G (Zx G (xoI r) 1 6) SK (1, 6) 23 [some (.ref a0), some (.int a1), some (.int b.1), some (.int b.2.1)] [] b.2.2) (fun k23 b r9 ih h9 e9 => ?_) N b r h rfl
  clear h
  subst e9
  have h := h9
  clear h9
  have hk23 : ∀ b : Int32 × Int32 × pS, k23 b = some r9 → Ev miX11_span (8, 1, 6) G (Zx G (xoI r9) 1 6) SK (1, 6) 23 [some (.ref a0), some (.int a1), some (.int b.1), some (.int b.2.1)] [] b.2.2 := fun b hb => ih b r9 hb rfl
  clear ih
  obtain ⟨x2, x3, σ⟩ := b
  dsimp only at h ⊢
  refine ev_iload_n dc_X11_span_23 rfl ?_
  refine ev_bipush (v := 6) dc_X11_span_24 (by decide) ?_
  refine ev_icmp_gt (tgt := 59) dc_X11_span_26 (by decide) h (fun h => ?_) (fun h => ?_)
  · refine ev_iload_n dc_X11_span_59 rfl ?_
    cases h
    exact ev_iretX dc_X11_span_60 rfl ⟨Nat.le_of_ble_eq_true rfl, Nat.le_of_ble_eq_true rfl⟩ rfl rfl
  · refine ev_aload_n dc_X11_span_29 rfl ?_
    refine ev_iload_n dc_X11_span_30 rfl ?_
    refine ev_iload_n dc_X11_span_31 rfl ?_
    obtain ⟨q1, hq1, h⟩ := Option.bind_eq_some_iff.mp h
    refine ev_callV (av := [.int a1, .int x3]) (st := []) (st1 := []) dc_X11_span_32 (tX11_tryNights hW i0 hq1) mw_1451 cy_X11_tryNights i0 (by decide) rfl rfl rfl rfl (Nat.le_of_ble_eq_true rfl) (Nat.le_of_ble_eq_true rfl) ⟨Nat.le_of_ble_eq_true rfl, Nat.le_of_ble_eq_true rfl⟩ ?_
    refine ev_iload_n dc_X11_span_35 rfl ?_
    refine ev_aload_n dc_X11_span_36 rfl ?_
    refine ev_getR dc_X11_span_37 fi_X11_39 rfl i0 ?_
    refine ev_getI dc_X11_span_40 fi_X11_216 rfl (wt hW i0 5 rfl rfl) ?_
    refine ev_if_eq (tgt := 50) dc_X11_span_43 (by decide) h (fun h => ?_) (fun h => ?_)
    · refine ev_iconst (v := 0) dc_X11_span_50 (by decide) ?_
      refine ev_iadd dc_X11_span_51 ?_
      refine ev_istore_n (lv' := [some (.ref a0), some (.int a1), some (.int (x2 + (0 : Int32))), some (.int x3)]) dc_X11_span_52 rfl (by decide) rfl ?_
      refine ev_iinc (v := 1) (lv' := [some (.ref a0), some (.int a1), some (.int (x2 + (0 : Int32))), some (.int (x3 + (1 : Int32)))]) dc_X11_span_53 rfl (by decide) rfl (by decide) rfl ?_
      refine ev_goto (tgt := 23) dc_X11_span_56 (by decide) ?_
      exact ev_sub (hk23 (x2 + (0 : Int32), x3 + (1 : Int32), q1) h) (And.intro rfl (And.intro rfl (And.intro rfl (And.intro rfl trivial))))
    · refine ev_iconst (v := 1) dc_X11_span_46 (by decide) ?_
      refine ev_goto (tgt := 51) dc_X11_span_47 (by decide) ?_
      refine ev_iadd dc_X11_span_51 ?_
      refine ev_istore_n (lv' := [some (.ref a0), some (.int a1), some (.int (x2 + (1 : Int32))), some (.int x3)]) dc_X11_span_52 rfl (by decide) rfl ?_
      refine ev_iinc (v := 1) (lv' := [some (.ref a0), some (.int a1), some (.int (x2 + (1 : Int32))), some (.int (x3 + (1 : Int32)))]) dc_X11_span_53 rfl (by decide) rfl (by decide) rfl ?_
      refine ev_goto (tgt := 23) dc_X11_span_56 (by decide) ?_
      exact ev_sub (hk23 (x2 + (1 : Int32), x3 + (1 : Int32), q1) h) (And.intro rfl (And.intro rfl (And.intro rfl (And.intro rfl trivial))))
def fX11_span_b16 (N : Nat) (G : pG) (a0 : Nat) (a1 : Int32) (y1 : Int32) (σ : pS) : Option ((Int32 × pS) ⊕ (String × pS)) := (fX11_need N G a0 y1 σ).bind (fun q2 => q2.elim (fun zs3 => fX11_span_b23 N G a0 a1 ((0 : Int32), (1 : Int32), zs3)) (fun e => some (.inr e)))
set_option maxRecDepth 100000 in
set_option maxHeartbeats 4000000 in
theorem tX11_span_b16 {N : Nat} {G : pG} {SK : Nat → Nat} {a0 : Nat} {a1 : Int32} {y1 : Int32} {σ : pS} {r : (Int32 × pS) ⊕ (String × pS)} (hW : WT G) (i0 : Is G a0 10) (h : fX11_span_b16 N G a0 a1 y1 σ = some r) : Ev miX11_span (8, 1, 6) G (Zx G (xoI r) 1 6) SK (0, 0) 16 [some (.ref a0), some (.int a1), none, none] [.int y1, .ref a0] σ := by
  unfold fX11_span_b16 at h
  obtain ⟨q2, hq2, h⟩ := Option.bind_eq_some_iff.mp h
  refine ev_callX (mc := 1) (ms := 6) (av := [.int y1]) (st := []) rfl dc_X11_span_16 (tX11_need hW i0 hq2) mw_1228 cy_X11_need i0 (by decide) rfl rfl rfl (Nat.le_of_ble_eq_true rfl) (Nat.le_of_ble_eq_true rfl) ⟨Nat.le_of_ble_eq_true rfl, Nat.le_of_ble_eq_true rfl⟩ ?_ ?_
  · intro e he
    rcases q2 with zs3 | zs3
    · have he : (Sum.inl (none, zs3) : XO) = .inr e := he
      cases he
    · have he : (Sum.inr zs3 : XO) = .inr e := he
      cases he
      dsimp only [Sum.elim] at h
      cases h
      exact ⟨rfl, Nat.le_of_ble_eq_true rfl, Nat.le_of_ble_eq_true rfl⟩
  intro e he
  rcases q2 with zs3 | zs3
  rotate_left
  · have he : (Sum.inr zs3 : XO) = .inl e := he
    cases he
  have he : (Sum.inl (none, zs3) : XO) = .inl e := he
  cases he
  dsimp only [Sum.elim] at h
  show Ev miX11_span (8, 1, 6) G (Zx G (xoI r) 1 6) SK (1, 6) 19 [some (.ref a0), some (.int a1), none, none] [] zs3
  refine ev_iconst (v := 0) dc_X11_span_19 (by decide) ?_
  refine ev_istore_n (lv' := [some (.ref a0), some (.int a1), some (.int (0 : Int32)), none]) dc_X11_span_20 rfl (by decide) rfl ?_
  refine ev_iconst (v := 1) dc_X11_span_21 (by decide) ?_
  refine ev_istore_n (lv' := [some (.ref a0), some (.int a1), some (.int (0 : Int32)), some (.int (1 : Int32))]) dc_X11_span_22 rfl (by decide) rfl ?_
  exact ev_sub (tX11_span_b23 (b := ((0 : Int32), (1 : Int32), zs3)) hW i0 h) (And.intro rfl (And.intro rfl (And.intro rfl (And.intro rfl trivial))))
def fX11_span_b15 (N : Nat) (G : pG) (a0 : Nat) (a1 : Int32) (σ : pS) : Option ((Int32 × pS) ⊕ (String × pS)) := fX11_span_b16 N G a0 a1 (0 : Int32) σ
set_option maxRecDepth 100000 in
set_option maxHeartbeats 4000000 in
theorem tX11_span_b15 {N : Nat} {G : pG} {SK : Nat → Nat} {a0 : Nat} {a1 : Int32} {σ : pS} {r : (Int32 × pS) ⊕ (String × pS)} (hW : WT G) (i0 : Is G a0 10) (h : fX11_span_b15 N G a0 a1 σ = some r) : Ev miX11_span (8, 1, 6) G (Zx G (xoI r) 1 6) SK (0, 0) 15 [some (.ref a0), some (.int a1), none, none] [.ref a0] σ := by
  unfold fX11_span_b15 at h
  refine ev_iconst (v := 0) dc_X11_span_15 (by decide) ?_
  exact ev_sub (tX11_span_b16 hW i0 h) (And.intro rfl (And.intro rfl trivial))
def fX11_span (N : Nat) (G : pG) (a0 : Nat) (a1 : Int32) (σ : pS) : Option ((Int32 × pS) ⊕ (String × pS)) := if a1 < 0 then (fX11_span_b15 N G a0 a1 σ) else (if (60 : Int32) < a1 then (fX11_span_b15 N G a0 a1 σ) else (fX11_span_b16 N G a0 a1 (1 : Int32) σ))
set_option maxRecDepth 100000 in
set_option maxHeartbeats 4000000 in
theorem tX11_span {N : Nat} {G : pG} {SK : Nat → Nat} {a0 : Nat} {a1 : Int32} {σ : pS} {r : (Int32 × pS) ⊕ (String × pS)} (hW : WT G) (i0 : Is G a0 10) (h : fX11_span N G a0 a1 σ = some r) : Dx miX11_span yX11_span 8 1 6 G SK [.ref a0, .int a1] σ (xoI r) := by
  unfold fX11_span at h
  refine dx_of (lv := [some (.ref a0), some (.int a1), none, none]) (by decide) rfl rfl (Nat.le_of_ble_eq_true rfl) rfl ?_
  refine ev_aload_n dc_X11_span_0 rfl ?_
  refine ev_iload_n dc_X11_span_1 rfl ?_
  refine ev_if_lt (tgt := 15) dc_X11_span_2 (by decide) h (fun h => ?_) (fun h => ?_)
  · exact ev_sub (tX11_span_b15 hW i0 h) (And.intro rfl (And.intro rfl trivial))
  · refine ev_iload_n dc_X11_span_5 rfl ?_
    refine ev_bipush (v := 60) dc_X11_span_6 (by decide) ?_
    refine ev_icmp_gt (tgt := 15) dc_X11_span_8 (by decide) h (fun h => ?_) (fun h => ?_)
    · exact ev_sub (tX11_span_b15 hW i0 h) (And.intro rfl (And.intro rfl trivial))
    · refine ev_iconst (v := 1) dc_X11_span_11 (by decide) ?_
      refine ev_goto (tgt := 16) dc_X11_span_12 (by decide) ?_
      exact ev_sub (tX11_span_b16 hW i0 h) (And.intro rfl (And.intro rfl trivial))
theorem dc_X11_stings_0 : Dc miX11_stings 0 (.aload_n 0) 1 1 := ⟨by decide +kernel, rfl⟩
theorem dc_X11_stings_1 : Dc miX11_stings 1 (.iload_n 1) 1 2 := ⟨by decide +kernel, rfl⟩
theorem dc_X11_stings_2 : Dc miX11_stings 2 (.invokevirtual 174) 3 5 := ⟨by decide +kernel, rfl⟩
theorem dc_X11_stings_5 : Dc miX11_stings 5 (.aload_n 0) 1 6 := ⟨by decide +kernel, rfl⟩
theorem dc_X11_stings_6 : Dc miX11_stings 6 (.iload_n 2) 1 7 := ⟨by decide +kernel, rfl⟩
theorem dc_X11_stings_7 : Dc miX11_stings 7 (.invokevirtual 188) 3 10 := ⟨by decide +kernel, rfl⟩
theorem dc_X11_stings_10 : Dc miX11_stings 10 (.aload_n 0) 1 11 := ⟨by decide +kernel, rfl⟩
theorem dc_X11_stings_11 : Dc miX11_stings 11 (.getfield 19) 3 14 := ⟨by decide +kernel, rfl⟩
theorem dc_X11_stings_14 : Dc miX11_stings 14 (.aload_n 0) 1 15 := ⟨by decide +kernel, rfl⟩
theorem dc_X11_stings_15 : Dc miX11_stings 15 (.getfield 19) 3 18 := ⟨by decide +kernel, rfl⟩
theorem dc_X11_stings_18 : Dc miX11_stings 18 (.getfield 155) 3 21 := ⟨by decide +kernel, rfl⟩
theorem dc_X11_stings_21 : Dc miX11_stings 21 (.iload_n 1) 1 22 := ⟨by decide +kernel, rfl⟩
theorem dc_X11_stings_22 : Dc miX11_stings 22 (.iload_n 2) 1 23 := ⟨by decide +kernel, rfl⟩
theorem dc_X11_stings_23 : Dc miX11_stings 23 (.invokevirtual 212) 3 26 := ⟨by decide +kernel, rfl⟩
theorem dc_X11_stings_26 : Dc miX11_stings 26 (.ireturn) 1 27 := ⟨by decide +kernel, rfl⟩
def fX11_stings (N : Nat) (G : pG) (a0 : Nat) (a1 : Int32) (a2 : Int32) (σ : pS) : Option ((Int32 × pS) ⊕ (String × pS)) := (fX11_needWho N G a0 a1 σ).bind (fun q1 => q1.elim (fun zs2 => (fX11_needWord N G a0 a2 zs2).bind (fun q3 => q3.elim (fun zs4 => (fX10_stingOf N G (pR G a0 1) (pR G (pR G a0 1) 2) a1 a2 zs4).bind (fun q5 => some (.inl (q5.1, q5.2)))) (fun e => some (.inr e)))) (fun e => some (.inr e)))
set_option maxRecDepth 100000 in
set_option maxHeartbeats 4000000 in
theorem tX11_stings {N : Nat} {G : pG} {SK : Nat → Nat} {a0 : Nat} {a1 : Int32} {a2 : Int32} {σ : pS} {r : (Int32 × pS) ⊕ (String × pS)} (hW : WT G) (i0 : Is G a0 10) (h : fX11_stings N G a0 a1 a2 σ = some r) : Dx miX11_stings yX11_stings 8 2 12 G SK [.ref a0, .int a1, .int a2] σ (xoI r) := by
  unfold fX11_stings at h
  refine dx_of (lv := [some (.ref a0), some (.int a1), some (.int a2)]) (by decide) rfl rfl (Nat.le_of_ble_eq_true rfl) rfl ?_
  refine ev_aload_n dc_X11_stings_0 rfl ?_
  refine ev_iload_n dc_X11_stings_1 rfl ?_
  obtain ⟨q1, hq1, h⟩ := Option.bind_eq_some_iff.mp h
  refine ev_callX (mc := 2) (ms := 12) (av := [.int a1]) (st := []) rfl dc_X11_stings_2 (tX11_needWho hW i0 hq1) mw_1090 cy_X11_needWho i0 (by decide) rfl rfl rfl (Nat.le_of_ble_eq_true rfl) (Nat.le_of_ble_eq_true rfl) ⟨Nat.le_of_ble_eq_true rfl, Nat.le_of_ble_eq_true rfl⟩ ?_ ?_
  · intro e he
    rcases q1 with zs2 | zs2
    · have he : (Sum.inl (none, zs2) : XO) = .inr e := he
      cases he
    · have he : (Sum.inr zs2 : XO) = .inr e := he
      cases he
      dsimp only [Sum.elim] at h
      cases h
      exact ⟨rfl, Nat.le_of_ble_eq_true rfl, Nat.le_of_ble_eq_true rfl⟩
  intro e he
  rcases q1 with zs2 | zs2
  rotate_left
  · have he : (Sum.inr zs2 : XO) = .inl e := he
    cases he
  have he : (Sum.inl (none, zs2) : XO) = .inl e := he
  cases he
  dsimp only [Sum.elim] at h
  show Ev miX11_stings (8, 2, 12) G (Zx G (xoI r) 2 12) SK (1, 6) 5 [some (.ref a0), some (.int a1), some (.int a2)] [] zs2
  refine ev_aload_n dc_X11_stings_5 rfl ?_
  refine ev_iload_n dc_X11_stings_6 rfl ?_
  obtain ⟨q3, hq3, h⟩ := Option.bind_eq_some_iff.mp h
  refine ev_callX (mc := 2) (ms := 12) (av := [.int a2]) (st := []) rfl dc_X11_stings_7 (tX11_needWord hW i0 hq3) mw_1103 cy_X11_needWord i0 (by decide) rfl rfl rfl (Nat.le_of_ble_eq_true rfl) (Nat.le_of_ble_eq_true rfl) ⟨Nat.le_of_ble_eq_true rfl, Nat.le_of_ble_eq_true rfl⟩ ?_ ?_
  · intro e he
    rcases q3 with zs4 | zs4
    · have he : (Sum.inl (none, zs4) : XO) = .inr e := he
      cases he
    · have he : (Sum.inr zs4 : XO) = .inr e := he
      cases he
      dsimp only [Sum.elim] at h
      cases h
      exact ⟨rfl, Nat.le_of_ble_eq_true rfl, Nat.le_of_ble_eq_true rfl⟩
  intro e he
  rcases q3 with zs4 | zs4
  rotate_left
  · have he : (Sum.inr zs4 : XO) = .inl e := he
    cases he
  have he : (Sum.inl (none, zs4) : XO) = .inl e := he
  cases he
  dsimp only [Sum.elim] at h
  show Ev miX11_stings (8, 2, 12) G (Zx G (xoI r) 2 12) SK (2, 12) 10 [some (.ref a0), some (.int a1), some (.int a2)] [] zs4
  refine ev_aload_n dc_X11_stings_10 rfl ?_
  refine ev_getR dc_X11_stings_11 fi_X11_19 rfl i0 ?_
  refine ev_aload_n dc_X11_stings_14 rfl ?_
  refine ev_getR dc_X11_stings_15 fi_X11_19 rfl i0 ?_
  refine ev_getR dc_X11_stings_18 fi_X11_155 rfl (wt hW i0 1 rfl rfl) ?_
  refine ev_iload_n dc_X11_stings_21 rfl ?_
  refine ev_iload_n dc_X11_stings_22 rfl ?_
  obtain ⟨q5, hq5, h⟩ := Option.bind_eq_some_iff.mp h
  refine ev_callV (av := [.ref (pR G (pR G a0 1) 2), .int a1, .int a2]) (st := []) (st1 := [.int q5.1]) dc_X11_stings_23 (tX10_stingOf hW (wt hW i0 1 rfl rfl) (wt hW (wt hW i0 1 rfl rfl) 2 rfl rfl) hq5) mw_471 cy_X10_stingOf (wt hW i0 1 rfl rfl) (by decide) rfl rfl rfl rfl (Nat.le_of_ble_eq_true rfl) (Nat.le_of_ble_eq_true rfl) ⟨Nat.le_of_ble_eq_true rfl, Nat.le_of_ble_eq_true rfl⟩ ?_
  cases h
  exact ev_iretX dc_X11_stings_26 rfl ⟨Nat.le_of_ble_eq_true rfl, Nat.le_of_ble_eq_true rfl⟩ rfl rfl
theorem dc_X11_story_0 : Dc miX11_story 0 (.aload_n 0) 1 1 := ⟨by decide +kernel, rfl⟩
theorem dc_X11_story_1 : Dc miX11_story 1 (.getfield 23) 3 4 := ⟨by decide +kernel, rfl⟩
theorem dc_X11_story_4 : Dc miX11_story 4 (.aload_n 0) 1 5 := ⟨by decide +kernel, rfl⟩
theorem dc_X11_story_5 : Dc miX11_story 5 (.getfield 19) 3 8 := ⟨by decide +kernel, rfl⟩
theorem dc_X11_story_8 : Dc miX11_story 8 (.invokevirtual 83) 3 11 := ⟨by decide +kernel, rfl⟩
theorem dc_X11_story_11 : Dc miX11_story 11 (.aload_n 0) 1 12 := ⟨by decide +kernel, rfl⟩
theorem dc_X11_story_12 : Dc miX11_story 12 (.getfield 10) 3 15 := ⟨by decide +kernel, rfl⟩
theorem dc_X11_story_15 : Dc miX11_story 15 (.aload_n 0) 1 16 := ⟨by decide +kernel, rfl⟩
theorem dc_X11_story_16 : Dc miX11_story 16 (.getfield 23) 3 19 := ⟨by decide +kernel, rfl⟩
theorem dc_X11_story_19 : Dc miX11_story 19 (.invokestatic 87) 3 22 := ⟨by decide +kernel, rfl⟩
theorem dc_X11_story_22 : Dc miX11_story 22 (.istore_n 1) 1 23 := ⟨by decide +kernel, rfl⟩
theorem dc_X11_story_23 : Dc miX11_story 23 (.aload_n 0) 1 24 := ⟨by decide +kernel, rfl⟩
theorem dc_X11_story_24 : Dc miX11_story 24 (.iload_n 1) 1 25 := ⟨by decide +kernel, rfl⟩
theorem dc_X11_story_25 : Dc miX11_story 25 (.invokevirtual 93) 3 28 := ⟨by decide +kernel, rfl⟩
theorem dc_X11_story_28 : Dc miX11_story 28 (.iload_n 1) 1 29 := ⟨by decide +kernel, rfl⟩
theorem dc_X11_story_29 : Dc miX11_story 29 (.ifCond .ne 13) 3 32 := ⟨by decide +kernel, rfl⟩
theorem dc_X11_story_32 : Dc miX11_story 32 (.new 97) 3 35 := ⟨by decide +kernel, rfl⟩
theorem dc_X11_story_35 : Dc miX11_story 35 (.dup) 1 36 := ⟨by decide +kernel, rfl⟩
theorem dc_X11_story_36 : Dc miX11_story 36 (.ldc 99) 2 38 := ⟨by decide +kernel, rfl⟩
theorem dc_X11_story_38 : Dc miX11_story 38 (.invokespecial 101) 3 41 := ⟨by decide +kernel, rfl⟩
theorem dc_X11_story_41 : Dc miX11_story 41 (.athrow) 1 42 := ⟨by decide +kernel, rfl⟩
theorem dc_X11_story_42 : Dc miX11_story 42 (.aload_n 0) 1 43 := ⟨by decide +kernel, rfl⟩
theorem dc_X11_story_43 : Dc miX11_story 43 (.getfield 19) 3 46 := ⟨by decide +kernel, rfl⟩
theorem dc_X11_story_46 : Dc miX11_story 46 (.getfield 104) 3 49 := ⟨by decide +kernel, rfl⟩
theorem dc_X11_story_49 : Dc miX11_story 49 (.getfield 108) 3 52 := ⟨by decide +kernel, rfl⟩
theorem dc_X11_story_52 : Dc miX11_story 52 (.bipush 12) 2 54 := ⟨by decide +kernel, rfl⟩
theorem dc_X11_story_54 : Dc miX11_story 54 (.if_icmp .lt 13) 3 57 := ⟨by decide +kernel, rfl⟩
theorem dc_X11_story_57 : Dc miX11_story 57 (.new 113) 3 60 := ⟨by decide +kernel, rfl⟩
theorem dc_X11_story_60 : Dc miX11_story 60 (.dup) 1 61 := ⟨by decide +kernel, rfl⟩
theorem dc_X11_story_61 : Dc miX11_story 61 (.ldc 115) 2 63 := ⟨by decide +kernel, rfl⟩
theorem dc_X11_story_63 : Dc miX11_story 63 (.invokespecial 117) 3 66 := ⟨by decide +kernel, rfl⟩
theorem dc_X11_story_66 : Dc miX11_story 66 (.athrow) 1 67 := ⟨by decide +kernel, rfl⟩
theorem dc_X11_story_67 : Dc miX11_story 67 (.aload_n 0) 1 68 := ⟨by decide +kernel, rfl⟩
theorem dc_X11_story_68 : Dc miX11_story 68 (.getfield 23) 3 71 := ⟨by decide +kernel, rfl⟩
theorem dc_X11_story_71 : Dc miX11_story 71 (.getfield 104) 3 74 := ⟨by decide +kernel, rfl⟩
theorem dc_X11_story_74 : Dc miX11_story 74 (.dup) 1 75 := ⟨by decide +kernel, rfl⟩
theorem dc_X11_story_75 : Dc miX11_story 75 (.getfield 108) 3 78 := ⟨by decide +kernel, rfl⟩
theorem dc_X11_story_78 : Dc miX11_story 78 (.iconst 1) 1 79 := ⟨by decide +kernel, rfl⟩
theorem dc_X11_story_79 : Dc miX11_story 79 (.iadd) 1 80 := ⟨by decide +kernel, rfl⟩
theorem dc_X11_story_80 : Dc miX11_story 80 (.putfield 108) 3 83 := ⟨by decide +kernel, rfl⟩
theorem dc_X11_story_83 : Dc miX11_story 83 (.aload_n 0) 1 84 := ⟨by decide +kernel, rfl⟩
theorem dc_X11_story_84 : Dc miX11_story 84 (.getfield 19) 3 87 := ⟨by decide +kernel, rfl⟩
theorem dc_X11_story_87 : Dc miX11_story 87 (.aload_n 0) 1 88 := ⟨by decide +kernel, rfl⟩
theorem dc_X11_story_88 : Dc miX11_story 88 (.getfield 23) 3 91 := ⟨by decide +kernel, rfl⟩
theorem dc_X11_story_91 : Dc miX11_story 91 (.invokevirtual 83) 3 94 := ⟨by decide +kernel, rfl⟩
theorem dc_X11_story_94 : Dc miX11_story 94 (.aload_n 0) 1 95 := ⟨by decide +kernel, rfl⟩
theorem dc_X11_story_95 : Dc miX11_story 95 (.getfield 32) 3 98 := ⟨by decide +kernel, rfl⟩
theorem dc_X11_story_98 : Dc miX11_story 98 (.invokevirtual 118) 3 101 := ⟨by decide +kernel, rfl⟩
theorem dc_X11_story_101 : Dc miX11_story 101 (.aload_n 0) 1 102 := ⟨by decide +kernel, rfl⟩
theorem dc_X11_story_102 : Dc miX11_story 102 (.getfield 19) 3 105 := ⟨by decide +kernel, rfl⟩
theorem dc_X11_story_105 : Dc miX11_story 105 (.getfield 104) 3 108 := ⟨by decide +kernel, rfl⟩
theorem dc_X11_story_108 : Dc miX11_story 108 (.getfield 108) 3 111 := ⟨by decide +kernel, rfl⟩
theorem dc_X11_story_111 : Dc miX11_story 111 (.ireturn) 1 112 := ⟨by decide +kernel, rfl⟩
def fX11_story (N : Nat) (G : pG) (a0 : Nat) (σ : pS) : Option ((Int32 × pS) ⊕ (String × pS)) := (fX10_copyFrom N G (pR G a0 2) (pR G a0 1) σ).bind (fun q1 => (fX7_reads N G (pR G a0 0) (pR G a0 2) q1).bind (fun q2 => (fX11_useTapeUp N G a0 q2.1 q2.2).bind (fun q3 => if q2.1 = 0 then (some (.inr ("java/lang/IllegalArgumentException", q3))) else (if (q3.1 (pR G (pR G a0 1) 0) 0) < (12 : Int32) then ((fX10_copyFrom N G (pR G a0 1) (pR G a0 2) (putF q3 (pR G (pR G a0 2) 0) 0 ((q3.1 (pR G (pR G a0 2) 0) 0) + (1 : Int32)))).bind (fun q4 => (fX4_forget N G (pR G a0 4) q4).bind (fun q5 => some (.inl (q5.1 (pR G (pR G a0 1) 0) 0, q5))))) else (some (.inr ("java/lang/UnsupportedOperationException", q3)))))))
set_option maxRecDepth 100000 in
set_option maxHeartbeats 4000000 in
theorem tX11_story {N : Nat} {G : pG} {SK : Nat → Nat} {a0 : Nat} {σ : pS} {r : (Int32 × pS) ⊕ (String × pS)} (hW : WT G) (i0 : Is G a0 10) (h : fX11_story N G a0 σ = some r) : Dx miX11_story yX11_story 14 1 6 G SK [.ref a0] σ (xoI r) := by
  unfold fX11_story at h
  refine dx_of (lv := [some (.ref a0), none]) (by decide) rfl rfl (Nat.le_of_ble_eq_true rfl) rfl ?_
  refine ev_aload_n dc_X11_story_0 rfl ?_
  refine ev_getR dc_X11_story_1 fi_X11_23 rfl i0 ?_
  refine ev_aload_n dc_X11_story_4 rfl ?_
  refine ev_getR dc_X11_story_5 fi_X11_19 rfl i0 ?_
  obtain ⟨q1, hq1, h⟩ := Option.bind_eq_some_iff.mp h
  refine ev_callV (av := [.ref (pR G a0 1)]) (st := []) (st1 := []) dc_X11_story_8 (tX10_copyFrom hW (wt hW i0 2 rfl rfl) (wt hW i0 1 rfl rfl) hq1) mw_646 cy_X10_copyFrom (wt hW i0 2 rfl rfl) (by decide) rfl rfl rfl rfl (Nat.le_of_ble_eq_true rfl) (Nat.le_of_ble_eq_true rfl) ⟨Nat.le_of_ble_eq_true rfl, Nat.le_of_ble_eq_true rfl⟩ ?_
  refine ev_aload_n dc_X11_story_11 rfl ?_
  refine ev_getR dc_X11_story_12 fi_X11_10 rfl i0 ?_
  refine ev_aload_n dc_X11_story_15 rfl ?_
  refine ev_getR dc_X11_story_16 fi_X11_23 rfl i0 ?_
  obtain ⟨q2, hq2, h⟩ := Option.bind_eq_some_iff.mp h
  refine ev_callS (av := [.ref (pR G a0 0), .ref (pR G a0 2)]) (st := []) (st1 := [.int q2.1]) dc_X11_story_19 (tX7_reads hW (wt hW i0 0 rfl rfl) (wt hW i0 2 rfl rfl) hq2) mw_683 cs_X7_reads rfl rfl rfl (Nat.le_of_ble_eq_true rfl) (Nat.le_of_ble_eq_true rfl) ⟨Nat.le_of_ble_eq_true rfl, Nat.le_of_ble_eq_true rfl⟩ ?_
  refine ev_istore_n (lv' := [some (.ref a0), some (.int q2.1)]) dc_X11_story_22 rfl (by decide) rfl ?_
  refine ev_aload_n dc_X11_story_23 rfl ?_
  refine ev_iload_n dc_X11_story_24 rfl ?_
  obtain ⟨q3, hq3, h⟩ := Option.bind_eq_some_iff.mp h
  refine ev_callV (av := [.int q2.1]) (st := []) (st1 := []) dc_X11_story_25 (tX11_useTapeUp hW i0 hq3) mw_849 cy_X11_useTapeUp i0 (by decide) rfl rfl rfl rfl (Nat.le_of_ble_eq_true rfl) (Nat.le_of_ble_eq_true rfl) ⟨Nat.le_of_ble_eq_true rfl, Nat.le_of_ble_eq_true rfl⟩ ?_
  refine ev_iload_n dc_X11_story_28 rfl ?_
  refine ev_if_ne (tgt := 42) dc_X11_story_29 (by decide) h (fun h => ?_) (fun h => ?_)
  · cases h
    exact ev_throwS (tx := "the text of the story is wrong") rfl dc_X11_story_32 dc_X11_story_35 dc_X11_story_36 dc_X11_story_38 dc_X11_story_41 mw_853 (List.mem_of_getElem? (i := 14) rfl) xa_X11_101 (Nat.le_of_ble_eq_true rfl) (Nat.le_of_ble_eq_true rfl) ⟨Nat.le_of_ble_eq_true rfl, Nat.le_of_ble_eq_true rfl⟩ ⟨Nat.le_of_ble_eq_true rfl, Nat.le_of_ble_eq_true rfl⟩
  · refine ev_aload_n dc_X11_story_42 rfl ?_
    refine ev_getR dc_X11_story_43 fi_X11_19 rfl i0 ?_
    refine ev_getR dc_X11_story_46 fi_X11_104 rfl (wt hW i0 1 rfl rfl) ?_
    refine ev_getI dc_X11_story_49 fi_X11_108 rfl (wt hW (wt hW i0 1 rfl rfl) 0 rfl rfl) ?_
    refine ev_bipush (v := 12) dc_X11_story_52 (by decide) ?_
    refine ev_icmp_lt (tgt := 67) dc_X11_story_54 (by decide) h (fun h => ?_) (fun h => ?_)
    · refine ev_aload_n dc_X11_story_67 rfl ?_
      refine ev_getR dc_X11_story_68 fi_X11_23 rfl i0 ?_
      refine ev_getR dc_X11_story_71 fi_X11_104 rfl (wt hW i0 2 rfl rfl) ?_
      refine ev_dup dc_X11_story_74 rfl ?_
      refine ev_getI dc_X11_story_75 fi_X11_108 rfl (wt hW (wt hW i0 2 rfl rfl) 0 rfl rfl) ?_
      refine ev_iconst (v := 1) dc_X11_story_78 (by decide) ?_
      refine ev_iadd dc_X11_story_79 ?_
      refine ev_putI dc_X11_story_80 fi_X11_108 rfl (wt hW (wt hW i0 2 rfl rfl) 0 rfl rfl) ?_
      refine ev_aload_n dc_X11_story_83 rfl ?_
      refine ev_getR dc_X11_story_84 fi_X11_19 rfl i0 ?_
      refine ev_aload_n dc_X11_story_87 rfl ?_
      refine ev_getR dc_X11_story_88 fi_X11_23 rfl i0 ?_
      obtain ⟨q4, hq4, h⟩ := Option.bind_eq_some_iff.mp h
      refine ev_callV (av := [.ref (pR G a0 2)]) (st := []) (st1 := []) dc_X11_story_91 (tX10_copyFrom hW (wt hW i0 1 rfl rfl) (wt hW i0 2 rfl rfl) hq4) mw_646 cy_X10_copyFrom (wt hW i0 1 rfl rfl) (by decide) rfl rfl rfl rfl (Nat.le_of_ble_eq_true rfl) (Nat.le_of_ble_eq_true rfl) ⟨Nat.le_of_ble_eq_true rfl, Nat.le_of_ble_eq_true rfl⟩ ?_
      refine ev_aload_n dc_X11_story_94 rfl ?_
      refine ev_getR dc_X11_story_95 fi_X11_32 rfl i0 ?_
      obtain ⟨q5, hq5, h⟩ := Option.bind_eq_some_iff.mp h
      refine ev_callV (av := []) (st := []) (st1 := []) dc_X11_story_98 (tX4_forget hW (wt hW i0 4 rfl rfl) hq5) mw_665 cy_X4_forget (wt hW i0 4 rfl rfl) (by decide) rfl rfl rfl rfl (Nat.le_of_ble_eq_true rfl) (Nat.le_of_ble_eq_true rfl) ⟨Nat.le_of_ble_eq_true rfl, Nat.le_of_ble_eq_true rfl⟩ ?_
      refine ev_aload_n dc_X11_story_101 rfl ?_
      refine ev_getR dc_X11_story_102 fi_X11_19 rfl i0 ?_
      refine ev_getR dc_X11_story_105 fi_X11_104 rfl (wt hW i0 1 rfl rfl) ?_
      refine ev_getI dc_X11_story_108 fi_X11_108 rfl (wt hW (wt hW i0 1 rfl rfl) 0 rfl rfl) ?_
      cases h
      exact ev_iretX dc_X11_story_111 rfl ⟨Nat.le_of_ble_eq_true rfl, Nat.le_of_ble_eq_true rfl⟩ rfl rfl
    · cases h
      exact ev_throwS (tx := "the story has all its texts") rfl dc_X11_story_57 dc_X11_story_60 dc_X11_story_61 dc_X11_story_63 dc_X11_story_66 mw_922 (List.mem_of_getElem? (i := 15) rfl) xa_X11_117 (Nat.le_of_ble_eq_true rfl) (Nat.le_of_ble_eq_true rfl) ⟨Nat.le_of_ble_eq_true rfl, Nat.le_of_ble_eq_true rfl⟩ ⟨Nat.le_of_ble_eq_true rfl, Nat.le_of_ble_eq_true rfl⟩
theorem dc_X11_trial_0 : Dc miX11_trial 0 (.aload_n 0) 1 1 := ⟨by decide +kernel, rfl⟩
theorem dc_X11_trial_1 : Dc miX11_trial 1 (.iload_n 1) 1 2 := ⟨by decide +kernel, rfl⟩
theorem dc_X11_trial_2 : Dc miX11_trial 2 (.ifCond .lt 13) 3 5 := ⟨by decide +kernel, rfl⟩
theorem dc_X11_trial_5 : Dc miX11_trial 5 (.iload_n 1) 1 6 := ⟨by decide +kernel, rfl⟩
theorem dc_X11_trial_6 : Dc miX11_trial 6 (.bipush 60) 2 8 := ⟨by decide +kernel, rfl⟩
theorem dc_X11_trial_8 : Dc miX11_trial 8 (.if_icmp .gt 7) 3 11 := ⟨by decide +kernel, rfl⟩
theorem dc_X11_trial_11 : Dc miX11_trial 11 (.iconst 1) 1 12 := ⟨by decide +kernel, rfl⟩
theorem dc_X11_trial_12 : Dc miX11_trial 12 (.goto 4) 3 15 := ⟨by decide +kernel, rfl⟩
theorem dc_X11_trial_15 : Dc miX11_trial 15 (.iconst 0) 1 16 := ⟨by decide +kernel, rfl⟩
theorem dc_X11_trial_16 : Dc miX11_trial 16 (.invokevirtual 268) 3 19 := ⟨by decide +kernel, rfl⟩
theorem dc_X11_trial_19 : Dc miX11_trial 19 (.aload_n 0) 1 20 := ⟨by decide +kernel, rfl⟩
theorem dc_X11_trial_20 : Dc miX11_trial 20 (.iload_n 1) 1 21 := ⟨by decide +kernel, rfl⟩
theorem dc_X11_trial_21 : Dc miX11_trial 21 (.aload_n 0) 1 22 := ⟨by decide +kernel, rfl⟩
theorem dc_X11_trial_22 : Dc miX11_trial 22 (.getfield 19) 3 25 := ⟨by decide +kernel, rfl⟩
theorem dc_X11_trial_25 : Dc miX11_trial 25 (.getfield 155) 3 28 := ⟨by decide +kernel, rfl⟩
theorem dc_X11_trial_28 : Dc miX11_trial 28 (.getfield 287) 3 31 := ⟨by decide +kernel, rfl⟩
theorem dc_X11_trial_31 : Dc miX11_trial 31 (.invokevirtual 290) 3 34 := ⟨by decide +kernel, rfl⟩
theorem dc_X11_trial_34 : Dc miX11_trial 34 (.iload_n 2) 1 35 := ⟨by decide +kernel, rfl⟩
theorem dc_X11_trial_35 : Dc miX11_trial 35 (.ifCond .eq 19) 3 38 := ⟨by decide +kernel, rfl⟩
theorem dc_X11_trial_38 : Dc miX11_trial 38 (.aload_n 0) 1 39 := ⟨by decide +kernel, rfl⟩
theorem dc_X11_trial_39 : Dc miX11_trial 39 (.getfield 39) 3 42 := ⟨by decide +kernel, rfl⟩
theorem dc_X11_trial_42 : Dc miX11_trial 42 (.getfield 216) 3 45 := ⟨by decide +kernel, rfl⟩
theorem dc_X11_trial_45 : Dc miX11_trial 45 (.ifCond .eq 7) 3 48 := ⟨by decide +kernel, rfl⟩
theorem dc_X11_trial_48 : Dc miX11_trial 48 (.iconst 1) 1 49 := ⟨by decide +kernel, rfl⟩
theorem dc_X11_trial_49 : Dc miX11_trial 49 (.goto 4) 3 52 := ⟨by decide +kernel, rfl⟩
theorem dc_X11_trial_52 : Dc miX11_trial 52 (.iconst 0) 1 53 := ⟨by decide +kernel, rfl⟩
theorem dc_X11_trial_53 : Dc miX11_trial 53 (.ireturn) 1 54 := ⟨by decide +kernel, rfl⟩
theorem dc_X11_trial_54 : Dc miX11_trial 54 (.aload_n 0) 1 55 := ⟨by decide +kernel, rfl⟩
theorem dc_X11_trial_55 : Dc miX11_trial 55 (.getfield 39) 3 58 := ⟨by decide +kernel, rfl⟩
theorem dc_X11_trial_58 : Dc miX11_trial 58 (.getfield 232) 3 61 := ⟨by decide +kernel, rfl⟩
theorem dc_X11_trial_61 : Dc miX11_trial 61 (.ireturn) 1 62 := ⟨by decide +kernel, rfl⟩
def fX11_trial_b16 (N : Nat) (G : pG) (a0 : Nat) (a1 : Int32) (a2 : Int32) (y1 : Int32) (σ : pS) : Option ((Int32 × pS) ⊕ (String × pS)) := (fX11_need N G a0 y1 σ).bind (fun q1 => q1.elim (fun zs2 => (fX11_tryNights N G a0 a1 (zs2.1 (pR G (pR G a0 1) 2) 5) zs2).bind (fun q3 => if a2 = 0 then (some (.inl (q3.1 (pR G a0 5) 0, q3))) else (if (q3.1 (pR G a0 5) 6) = 0 then (some (.inl ((0 : Int32), q3))) else (some (.inl ((1 : Int32), q3)))))) (fun e => some (.inr e)))
set_option maxRecDepth 100000 in
set_option maxHeartbeats 4000000 in
theorem tX11_trial_b16 {N : Nat} {G : pG} {SK : Nat → Nat} {a0 : Nat} {a1 : Int32} {a2 : Int32} {y1 : Int32} {σ : pS} {r : (Int32 × pS) ⊕ (String × pS)} (hW : WT G) (i0 : Is G a0 10) (h : fX11_trial_b16 N G a0 a1 a2 y1 σ = some r) : Ev miX11_trial (8, 1, 6) G (Zx G (xoI r) 1 6) SK (0, 0) 16 [some (.ref a0), some (.int a1), some (.int a2)] [.int y1, .ref a0] σ := by
  unfold fX11_trial_b16 at h
  obtain ⟨q1, hq1, h⟩ := Option.bind_eq_some_iff.mp h
  refine ev_callX (mc := 1) (ms := 6) (av := [.int y1]) (st := []) rfl dc_X11_trial_16 (tX11_need hW i0 hq1) mw_1228 cy_X11_need i0 (by decide) rfl rfl rfl (Nat.le_of_ble_eq_true rfl) (Nat.le_of_ble_eq_true rfl) ⟨Nat.le_of_ble_eq_true rfl, Nat.le_of_ble_eq_true rfl⟩ ?_ ?_
  · intro e he
    rcases q1 with zs2 | zs2
    · have he : (Sum.inl (none, zs2) : XO) = .inr e := he
      cases he
    · have he : (Sum.inr zs2 : XO) = .inr e := he
      cases he
      dsimp only [Sum.elim] at h
      cases h
      exact ⟨rfl, Nat.le_of_ble_eq_true rfl, Nat.le_of_ble_eq_true rfl⟩
  intro e he
  rcases q1 with zs2 | zs2
  rotate_left
  · have he : (Sum.inr zs2 : XO) = .inl e := he
    cases he
  have he : (Sum.inl (none, zs2) : XO) = .inl e := he
  cases he
  dsimp only [Sum.elim] at h
  show Ev miX11_trial (8, 1, 6) G (Zx G (xoI r) 1 6) SK (1, 6) 19 [some (.ref a0), some (.int a1), some (.int a2)] [] zs2
  refine ev_aload_n dc_X11_trial_19 rfl ?_
  refine ev_iload_n dc_X11_trial_20 rfl ?_
  refine ev_aload_n dc_X11_trial_21 rfl ?_
  refine ev_getR dc_X11_trial_22 fi_X11_19 rfl i0 ?_
  refine ev_getR dc_X11_trial_25 fi_X11_155 rfl (wt hW i0 1 rfl rfl) ?_
  refine ev_getI dc_X11_trial_28 fi_X11_287 rfl (wt hW (wt hW i0 1 rfl rfl) 2 rfl rfl) ?_
  obtain ⟨q3, hq3, h⟩ := Option.bind_eq_some_iff.mp h
  refine ev_callV (av := [.int a1, .int (zs2.1 (pR G (pR G a0 1) 2) 5)]) (st := []) (st1 := []) dc_X11_trial_31 (tX11_tryNights hW i0 hq3) mw_1451 cy_X11_tryNights i0 (by decide) rfl rfl rfl rfl (Nat.le_of_ble_eq_true rfl) (Nat.le_of_ble_eq_true rfl) ⟨Nat.le_of_ble_eq_true rfl, Nat.le_of_ble_eq_true rfl⟩ ?_
  refine ev_iload_n dc_X11_trial_34 rfl ?_
  refine ev_if_eq (tgt := 54) dc_X11_trial_35 (by decide) h (fun h => ?_) (fun h => ?_)
  · refine ev_aload_n dc_X11_trial_54 rfl ?_
    refine ev_getR dc_X11_trial_55 fi_X11_39 rfl i0 ?_
    refine ev_getI dc_X11_trial_58 fi_X11_232 rfl (wt hW i0 5 rfl rfl) ?_
    cases h
    exact ev_iretX dc_X11_trial_61 rfl ⟨Nat.le_of_ble_eq_true rfl, Nat.le_of_ble_eq_true rfl⟩ rfl rfl
  · refine ev_aload_n dc_X11_trial_38 rfl ?_
    refine ev_getR dc_X11_trial_39 fi_X11_39 rfl i0 ?_
    refine ev_getI dc_X11_trial_42 fi_X11_216 rfl (wt hW i0 5 rfl rfl) ?_
    refine ev_if_eq (tgt := 52) dc_X11_trial_45 (by decide) h (fun h => ?_) (fun h => ?_)
    · refine ev_iconst (v := 0) dc_X11_trial_52 (by decide) ?_
      cases h
      exact ev_iretX dc_X11_trial_53 rfl ⟨Nat.le_of_ble_eq_true rfl, Nat.le_of_ble_eq_true rfl⟩ rfl rfl
    · refine ev_iconst (v := 1) dc_X11_trial_48 (by decide) ?_
      refine ev_goto (tgt := 53) dc_X11_trial_49 (by decide) ?_
      cases h
      exact ev_iretX dc_X11_trial_53 rfl ⟨Nat.le_of_ble_eq_true rfl, Nat.le_of_ble_eq_true rfl⟩ rfl rfl
def fX11_trial_b15 (N : Nat) (G : pG) (a0 : Nat) (a1 : Int32) (a2 : Int32) (σ : pS) : Option ((Int32 × pS) ⊕ (String × pS)) := fX11_trial_b16 N G a0 a1 a2 (0 : Int32) σ
set_option maxRecDepth 100000 in
set_option maxHeartbeats 4000000 in
theorem tX11_trial_b15 {N : Nat} {G : pG} {SK : Nat → Nat} {a0 : Nat} {a1 : Int32} {a2 : Int32} {σ : pS} {r : (Int32 × pS) ⊕ (String × pS)} (hW : WT G) (i0 : Is G a0 10) (h : fX11_trial_b15 N G a0 a1 a2 σ = some r) : Ev miX11_trial (8, 1, 6) G (Zx G (xoI r) 1 6) SK (0, 0) 15 [some (.ref a0), some (.int a1), some (.int a2)] [.ref a0] σ := by
  unfold fX11_trial_b15 at h
  refine ev_iconst (v := 0) dc_X11_trial_15 (by decide) ?_
  exact ev_sub (tX11_trial_b16 hW i0 h) (And.intro rfl (And.intro rfl (And.intro rfl trivial)))
def fX11_trial (N : Nat) (G : pG) (a0 : Nat) (a1 : Int32) (a2 : Int32) (σ : pS) : Option ((Int32 × pS) ⊕ (String × pS)) := if a1 < 0 then (fX11_trial_b15 N G a0 a1 a2 σ) else (if (60 : Int32) < a1 then (fX11_trial_b15 N G a0 a1 a2 σ) else (fX11_trial_b16 N G a0 a1 a2 (1 : Int32) σ))
set_option maxRecDepth 100000 in
set_option maxHeartbeats 4000000 in
theorem tX11_trial {N : Nat} {G : pG} {SK : Nat → Nat} {a0 : Nat} {a1 : Int32} {a2 : Int32} {σ : pS} {r : (Int32 × pS) ⊕ (String × pS)} (hW : WT G) (i0 : Is G a0 10) (h : fX11_trial N G a0 a1 a2 σ = some r) : Dx miX11_trial yX11_trial 8 1 6 G SK [.ref a0, .int a1, .int a2] σ (xoI r) := by
  unfold fX11_trial at h
  refine dx_of (lv := [some (.ref a0), some (.int a1), some (.int a2)]) (by decide) rfl rfl (Nat.le_of_ble_eq_true rfl) rfl ?_
  refine ev_aload_n dc_X11_trial_0 rfl ?_
  refine ev_iload_n dc_X11_trial_1 rfl ?_
  refine ev_if_lt (tgt := 15) dc_X11_trial_2 (by decide) h (fun h => ?_) (fun h => ?_)
  · exact ev_sub (tX11_trial_b15 hW i0 h) (And.intro rfl (And.intro rfl (And.intro rfl trivial)))
  · refine ev_iload_n dc_X11_trial_5 rfl ?_
    refine ev_bipush (v := 60) dc_X11_trial_6 (by decide) ?_
    refine ev_icmp_gt (tgt := 15) dc_X11_trial_8 (by decide) h (fun h => ?_) (fun h => ?_)
    · exact ev_sub (tX11_trial_b15 hW i0 h) (And.intro rfl (And.intro rfl (And.intro rfl trivial)))
    · refine ev_iconst (v := 1) dc_X11_trial_11 (by decide) ?_
      refine ev_goto (tgt := 16) dc_X11_trial_12 (by decide) ?_
      exact ev_sub (tX11_trial_b16 hW i0 h) (And.intro rfl (And.intro rfl (And.intro rfl trivial)))
theorem dc_X11_word_0 : Dc miX11_word 0 (.aload_n 0) 1 1 := ⟨by decide +kernel, rfl⟩
theorem dc_X11_word_1 : Dc miX11_word 1 (.iload_n 1) 1 2 := ⟨by decide +kernel, rfl⟩
theorem dc_X11_word_2 : Dc miX11_word 2 (.invokevirtual 188) 3 5 := ⟨by decide +kernel, rfl⟩
theorem dc_X11_word_5 : Dc miX11_word 5 (.iload_n 2) 1 6 := ⟨by decide +kernel, rfl⟩
theorem dc_X11_word_6 : Dc miX11_word 6 (.ifCond .eq 20) 3 9 := ⟨by decide +kernel, rfl⟩
theorem dc_X11_word_9 : Dc miX11_word 9 (.aload_n 0) 1 10 := ⟨by decide +kernel, rfl⟩
theorem dc_X11_word_10 : Dc miX11_word 10 (.getfield 19) 3 13 := ⟨by decide +kernel, rfl⟩
theorem dc_X11_word_13 : Dc miX11_word 13 (.getfield 104) 3 16 := ⟨by decide +kernel, rfl⟩
theorem dc_X11_word_16 : Dc miX11_word 16 (.getfield 191) 3 19 := ⟨by decide +kernel, rfl⟩
theorem dc_X11_word_19 : Dc miX11_word 19 (.iload_n 1) 1 20 := ⟨by decide +kernel, rfl⟩
theorem dc_X11_word_20 : Dc miX11_word 20 (.invokestatic 148) 3 23 := ⟨by decide +kernel, rfl⟩
theorem dc_X11_word_23 : Dc miX11_word 23 (.goto 17) 3 26 := ⟨by decide +kernel, rfl⟩
theorem dc_X11_word_26 : Dc miX11_word 26 (.aload_n 0) 1 27 := ⟨by decide +kernel, rfl⟩
theorem dc_X11_word_27 : Dc miX11_word 27 (.getfield 19) 3 30 := ⟨by decide +kernel, rfl⟩
theorem dc_X11_word_30 : Dc miX11_word 30 (.getfield 104) 3 33 := ⟨by decide +kernel, rfl⟩
theorem dc_X11_word_33 : Dc miX11_word 33 (.getfield 194) 3 36 := ⟨by decide +kernel, rfl⟩
theorem dc_X11_word_36 : Dc miX11_word 36 (.iload_n 1) 1 37 := ⟨by decide +kernel, rfl⟩
theorem dc_X11_word_37 : Dc miX11_word 37 (.invokestatic 148) 3 40 := ⟨by decide +kernel, rfl⟩
theorem dc_X11_word_40 : Dc miX11_word 40 (.ireturn) 1 41 := ⟨by decide +kernel, rfl⟩
def fX11_word (N : Nat) (G : pG) (a0 : Nat) (a1 : Int32) (a2 : Int32) (σ : pS) : Option ((Int32 × pS) ⊕ (String × pS)) := (fX11_needWord N G a0 a1 σ).bind (fun q1 => q1.elim (fun zs2 => if a2 = 0 then ((fX11_at N G (pR G (pR G (pR G a0 1) 0) 12) a1 zs2).bind (fun q3 => some (.inl (q3, zs2)))) else ((fX11_at N G (pR G (pR G (pR G a0 1) 0) 13) a1 zs2).bind (fun q4 => some (.inl (q4, zs2))))) (fun e => some (.inr e)))
set_option maxRecDepth 100000 in
set_option maxHeartbeats 4000000 in
theorem tX11_word {N : Nat} {G : pG} {SK : Nat → Nat} {a0 : Nat} {a1 : Int32} {a2 : Int32} {σ : pS} {r : (Int32 × pS) ⊕ (String × pS)} (hW : WT G) (i0 : Is G a0 10) (h : fX11_word N G a0 a1 a2 σ = some r) : Dx miX11_word yX11_word 8 1 6 G SK [.ref a0, .int a1, .int a2] σ (xoI r) := by
  unfold fX11_word at h
  refine dx_of (lv := [some (.ref a0), some (.int a1), some (.int a2)]) (by decide) rfl rfl (Nat.le_of_ble_eq_true rfl) rfl ?_
  refine ev_aload_n dc_X11_word_0 rfl ?_
  refine ev_iload_n dc_X11_word_1 rfl ?_
  obtain ⟨q1, hq1, h⟩ := Option.bind_eq_some_iff.mp h
  refine ev_callX (mc := 1) (ms := 6) (av := [.int a1]) (st := []) rfl dc_X11_word_2 (tX11_needWord hW i0 hq1) mw_1103 cy_X11_needWord i0 (by decide) rfl rfl rfl (Nat.le_of_ble_eq_true rfl) (Nat.le_of_ble_eq_true rfl) ⟨Nat.le_of_ble_eq_true rfl, Nat.le_of_ble_eq_true rfl⟩ ?_ ?_
  · intro e he
    rcases q1 with zs2 | zs2
    · have he : (Sum.inl (none, zs2) : XO) = .inr e := he
      cases he
    · have he : (Sum.inr zs2 : XO) = .inr e := he
      cases he
      dsimp only [Sum.elim] at h
      cases h
      exact ⟨rfl, Nat.le_of_ble_eq_true rfl, Nat.le_of_ble_eq_true rfl⟩
  intro e he
  rcases q1 with zs2 | zs2
  rotate_left
  · have he : (Sum.inr zs2 : XO) = .inl e := he
    cases he
  have he : (Sum.inl (none, zs2) : XO) = .inl e := he
  cases he
  dsimp only [Sum.elim] at h
  show Ev miX11_word (8, 1, 6) G (Zx G (xoI r) 1 6) SK (1, 6) 5 [some (.ref a0), some (.int a1), some (.int a2)] [] zs2
  refine ev_iload_n dc_X11_word_5 rfl ?_
  refine ev_if_eq (tgt := 26) dc_X11_word_6 (by decide) h (fun h => ?_) (fun h => ?_)
  · refine ev_aload_n dc_X11_word_26 rfl ?_
    refine ev_getR dc_X11_word_27 fi_X11_19 rfl i0 ?_
    refine ev_getR dc_X11_word_30 fi_X11_104 rfl (wt hW i0 1 rfl rfl) ?_
    refine ev_getR dc_X11_word_33 fi_X11_194 rfl (wt hW (wt hW i0 1 rfl rfl) 0 rfl rfl) ?_
    refine ev_iload_n dc_X11_word_36 rfl ?_
    obtain ⟨q3, hq3, h⟩ := Option.bind_eq_some_iff.mp h
    refine ev_callS (av := [.ref (pR G (pR G (pR G a0 1) 0) 12), .int a1]) (st := []) (st1 := [.int q3]) dc_X11_word_37 (tX11_at hW (wt hW (wt hW (wt hW i0 1 rfl rfl) 0 rfl rfl) 12 rfl rfl) hq3) mw_567 cs_X11_at rfl rfl rfl (Nat.le_of_ble_eq_true rfl) (Nat.le_of_ble_eq_true rfl) ⟨Nat.le_of_ble_eq_true rfl, Nat.le_of_ble_eq_true rfl⟩ ?_
    cases h
    exact ev_iretX dc_X11_word_40 rfl ⟨Nat.le_of_ble_eq_true rfl, Nat.le_of_ble_eq_true rfl⟩ rfl rfl
  · refine ev_aload_n dc_X11_word_9 rfl ?_
    refine ev_getR dc_X11_word_10 fi_X11_19 rfl i0 ?_
    refine ev_getR dc_X11_word_13 fi_X11_104 rfl (wt hW i0 1 rfl rfl) ?_
    refine ev_getR dc_X11_word_16 fi_X11_191 rfl (wt hW (wt hW i0 1 rfl rfl) 0 rfl rfl) ?_
    refine ev_iload_n dc_X11_word_19 rfl ?_
    obtain ⟨q4, hq4, h⟩ := Option.bind_eq_some_iff.mp h
    refine ev_callS (av := [.ref (pR G (pR G (pR G a0 1) 0) 13), .int a1]) (st := []) (st1 := [.int q4]) dc_X11_word_20 (tX11_at hW (wt hW (wt hW (wt hW i0 1 rfl rfl) 0 rfl rfl) 13 rfl rfl) hq4) mw_567 cs_X11_at rfl rfl rfl (Nat.le_of_ble_eq_true rfl) (Nat.le_of_ble_eq_true rfl) ⟨Nat.le_of_ble_eq_true rfl, Nat.le_of_ble_eq_true rfl⟩ ?_
    refine ev_goto (tgt := 40) dc_X11_word_23 (by decide) ?_
    cases h
    exact ev_iretX dc_X11_word_40 rfl ⟨Nat.le_of_ble_eq_true rfl, Nat.le_of_ble_eq_true rfl⟩ rfl rfl
theorem dc_X11_would_0 : Dc miX11_would 0 (.aload_n 0) 1 1 := ⟨by decide +kernel, rfl⟩
theorem dc_X11_would_1 : Dc miX11_would 1 (.iload_n 1) 1 2 := ⟨by decide +kernel, rfl⟩
theorem dc_X11_would_2 : Dc miX11_would 2 (.invokevirtual 174) 3 5 := ⟨by decide +kernel, rfl⟩
theorem dc_X11_would_5 : Dc miX11_would 5 (.aload_n 0) 1 6 := ⟨by decide +kernel, rfl⟩
theorem dc_X11_would_6 : Dc miX11_would 6 (.iload_n 2) 1 7 := ⟨by decide +kernel, rfl⟩
theorem dc_X11_would_7 : Dc miX11_would 7 (.invokevirtual 188) 3 10 := ⟨by decide +kernel, rfl⟩
theorem dc_X11_would_10 : Dc miX11_would 10 (.aload_n 0) 1 11 := ⟨by decide +kernel, rfl⟩
theorem dc_X11_would_11 : Dc miX11_would 11 (.getfield 39) 3 14 := ⟨by decide +kernel, rfl⟩
theorem dc_X11_would_14 : Dc miX11_would 14 (.aload_n 0) 1 15 := ⟨by decide +kernel, rfl⟩
theorem dc_X11_would_15 : Dc miX11_would 15 (.getfield 19) 3 18 := ⟨by decide +kernel, rfl⟩
theorem dc_X11_would_18 : Dc miX11_would 18 (.getfield 155) 3 21 := ⟨by decide +kernel, rfl⟩
theorem dc_X11_would_21 : Dc miX11_would 21 (.invokevirtual 275) 3 24 := ⟨by decide +kernel, rfl⟩
theorem dc_X11_would_24 : Dc miX11_would 24 (.aload_n 0) 1 25 := ⟨by decide +kernel, rfl⟩
theorem dc_X11_would_25 : Dc miX11_would 25 (.getfield 19) 3 28 := ⟨by decide +kernel, rfl⟩
theorem dc_X11_would_28 : Dc miX11_would 28 (.aload_n 0) 1 29 := ⟨by decide +kernel, rfl⟩
theorem dc_X11_would_29 : Dc miX11_would 29 (.getfield 39) 3 32 := ⟨by decide +kernel, rfl⟩
theorem dc_X11_would_32 : Dc miX11_would 32 (.iload_n 1) 1 33 := ⟨by decide +kernel, rfl⟩
theorem dc_X11_would_33 : Dc miX11_would 33 (.iload_n 2) 1 34 := ⟨by decide +kernel, rfl⟩
theorem dc_X11_would_34 : Dc miX11_would 34 (.invokevirtual 228) 3 37 := ⟨by decide +kernel, rfl⟩
theorem dc_X11_would_37 : Dc miX11_would 37 (.iload_n 3) 1 38 := ⟨by decide +kernel, rfl⟩
theorem dc_X11_would_38 : Dc miX11_would 38 (.ifCond .eq 16) 3 41 := ⟨by decide +kernel, rfl⟩
theorem dc_X11_would_41 : Dc miX11_would 41 (.aload_n 0) 1 42 := ⟨by decide +kernel, rfl⟩
theorem dc_X11_would_42 : Dc miX11_would 42 (.getfield 39) 3 45 := ⟨by decide +kernel, rfl⟩
theorem dc_X11_would_45 : Dc miX11_would 45 (.getfield 158) 3 48 := ⟨by decide +kernel, rfl⟩
theorem dc_X11_would_48 : Dc miX11_would 48 (.invokestatic 263) 3 51 := ⟨by decide +kernel, rfl⟩
theorem dc_X11_would_51 : Dc miX11_would 51 (.goto 10) 3 54 := ⟨by decide +kernel, rfl⟩
theorem dc_X11_would_54 : Dc miX11_would 54 (.aload_n 0) 1 55 := ⟨by decide +kernel, rfl⟩
theorem dc_X11_would_55 : Dc miX11_would 55 (.getfield 39) 3 58 := ⟨by decide +kernel, rfl⟩
theorem dc_X11_would_58 : Dc miX11_would 58 (.getfield 232) 3 61 := ⟨by decide +kernel, rfl⟩
theorem dc_X11_would_61 : Dc miX11_would 61 (.ireturn) 1 62 := ⟨by decide +kernel, rfl⟩
def fX11_would (N : Nat) (G : pG) (a0 : Nat) (a1 : Int32) (a2 : Int32) (a3 : Int32) (σ : pS) : Option ((Int32 × pS) ⊕ (String × pS)) := (fX11_needWho N G a0 a1 σ).bind (fun q1 => q1.elim (fun zs2 => (fX11_needWord N G a0 a2 zs2).bind (fun q3 => q3.elim (fun zs4 => (fX3_copyThoughtFrom N G (pR G a0 5) (pR G (pR G a0 1) 2) zs4).bind (fun q5 => (fX10_speak N G (pR G a0 1) (pR G a0 5) a1 a2 q5).bind (fun q6 => if a3 = 0 then (some (.inl (q6.1 (pR G a0 5) 0, q6))) else ((fJ6_bitCount_0f7a4 N G (q6.1 (pR G a0 5) 3) q6).bind (fun q7 => some (.inl (q7, q6))))))) (fun e => some (.inr e)))) (fun e => some (.inr e)))
set_option maxRecDepth 100000 in
set_option maxHeartbeats 4000000 in
theorem tX11_would {N : Nat} {G : pG} {SK : Nat → Nat} {a0 : Nat} {a1 : Int32} {a2 : Int32} {a3 : Int32} {σ : pS} {r : (Int32 × pS) ⊕ (String × pS)} (hW : WT G) (i0 : Is G a0 10) (h : fX11_would N G a0 a1 a2 a3 σ = some r) : Dx miX11_would yX11_would 8 2 12 G SK [.ref a0, .int a1, .int a2, .int a3] σ (xoI r) := by
  unfold fX11_would at h
  refine dx_of (lv := [some (.ref a0), some (.int a1), some (.int a2), some (.int a3)]) (by decide) rfl rfl (Nat.le_of_ble_eq_true rfl) rfl ?_
  refine ev_aload_n dc_X11_would_0 rfl ?_
  refine ev_iload_n dc_X11_would_1 rfl ?_
  obtain ⟨q1, hq1, h⟩ := Option.bind_eq_some_iff.mp h
  refine ev_callX (mc := 2) (ms := 12) (av := [.int a1]) (st := []) rfl dc_X11_would_2 (tX11_needWho hW i0 hq1) mw_1090 cy_X11_needWho i0 (by decide) rfl rfl rfl (Nat.le_of_ble_eq_true rfl) (Nat.le_of_ble_eq_true rfl) ⟨Nat.le_of_ble_eq_true rfl, Nat.le_of_ble_eq_true rfl⟩ ?_ ?_
  · intro e he
    rcases q1 with zs2 | zs2
    · have he : (Sum.inl (none, zs2) : XO) = .inr e := he
      cases he
    · have he : (Sum.inr zs2 : XO) = .inr e := he
      cases he
      dsimp only [Sum.elim] at h
      cases h
      exact ⟨rfl, Nat.le_of_ble_eq_true rfl, Nat.le_of_ble_eq_true rfl⟩
  intro e he
  rcases q1 with zs2 | zs2
  rotate_left
  · have he : (Sum.inr zs2 : XO) = .inl e := he
    cases he
  have he : (Sum.inl (none, zs2) : XO) = .inl e := he
  cases he
  dsimp only [Sum.elim] at h
  show Ev miX11_would (8, 2, 12) G (Zx G (xoI r) 2 12) SK (1, 6) 5 [some (.ref a0), some (.int a1), some (.int a2), some (.int a3)] [] zs2
  refine ev_aload_n dc_X11_would_5 rfl ?_
  refine ev_iload_n dc_X11_would_6 rfl ?_
  obtain ⟨q3, hq3, h⟩ := Option.bind_eq_some_iff.mp h
  refine ev_callX (mc := 2) (ms := 12) (av := [.int a2]) (st := []) rfl dc_X11_would_7 (tX11_needWord hW i0 hq3) mw_1103 cy_X11_needWord i0 (by decide) rfl rfl rfl (Nat.le_of_ble_eq_true rfl) (Nat.le_of_ble_eq_true rfl) ⟨Nat.le_of_ble_eq_true rfl, Nat.le_of_ble_eq_true rfl⟩ ?_ ?_
  · intro e he
    rcases q3 with zs4 | zs4
    · have he : (Sum.inl (none, zs4) : XO) = .inr e := he
      cases he
    · have he : (Sum.inr zs4 : XO) = .inr e := he
      cases he
      dsimp only [Sum.elim] at h
      cases h
      exact ⟨rfl, Nat.le_of_ble_eq_true rfl, Nat.le_of_ble_eq_true rfl⟩
  intro e he
  rcases q3 with zs4 | zs4
  rotate_left
  · have he : (Sum.inr zs4 : XO) = .inl e := he
    cases he
  have he : (Sum.inl (none, zs4) : XO) = .inl e := he
  cases he
  dsimp only [Sum.elim] at h
  show Ev miX11_would (8, 2, 12) G (Zx G (xoI r) 2 12) SK (2, 12) 10 [some (.ref a0), some (.int a1), some (.int a2), some (.int a3)] [] zs4
  refine ev_aload_n dc_X11_would_10 rfl ?_
  refine ev_getR dc_X11_would_11 fi_X11_39 rfl i0 ?_
  refine ev_aload_n dc_X11_would_14 rfl ?_
  refine ev_getR dc_X11_would_15 fi_X11_19 rfl i0 ?_
  refine ev_getR dc_X11_would_18 fi_X11_155 rfl (wt hW i0 1 rfl rfl) ?_
  obtain ⟨q5, hq5, h⟩ := Option.bind_eq_some_iff.mp h
  refine ev_callV (av := [.ref (pR G (pR G a0 1) 2)]) (st := []) (st1 := []) dc_X11_would_21 (tX3_copyThoughtFrom hW (wt hW i0 5 rfl rfl) (wt hW (wt hW i0 1 rfl rfl) 2 rfl rfl) hq5) mw_1255 cy_X3_copyThoughtFrom (wt hW i0 5 rfl rfl) (by decide) rfl rfl rfl rfl (Nat.le_of_ble_eq_true rfl) (Nat.le_of_ble_eq_true rfl) ⟨Nat.le_of_ble_eq_true rfl, Nat.le_of_ble_eq_true rfl⟩ ?_
  refine ev_aload_n dc_X11_would_24 rfl ?_
  refine ev_getR dc_X11_would_25 fi_X11_19 rfl i0 ?_
  refine ev_aload_n dc_X11_would_28 rfl ?_
  refine ev_getR dc_X11_would_29 fi_X11_39 rfl i0 ?_
  refine ev_iload_n dc_X11_would_32 rfl ?_
  refine ev_iload_n dc_X11_would_33 rfl ?_
  obtain ⟨q6, hq6, h⟩ := Option.bind_eq_some_iff.mp h
  refine ev_callV (av := [.ref (pR G a0 5), .int a1, .int a2]) (st := []) (st1 := []) dc_X11_would_34 (tX10_speak hW (wt hW i0 1 rfl rfl) (wt hW i0 5 rfl rfl) hq6) mw_1160 cy_X10_speak (wt hW i0 1 rfl rfl) (by decide) rfl rfl rfl rfl (Nat.le_of_ble_eq_true rfl) (Nat.le_of_ble_eq_true rfl) ⟨Nat.le_of_ble_eq_true rfl, Nat.le_of_ble_eq_true rfl⟩ ?_
  refine ev_iload_n dc_X11_would_37 rfl ?_
  refine ev_if_eq (tgt := 54) dc_X11_would_38 (by decide) h (fun h => ?_) (fun h => ?_)
  · refine ev_aload_n dc_X11_would_54 rfl ?_
    refine ev_getR dc_X11_would_55 fi_X11_39 rfl i0 ?_
    refine ev_getI dc_X11_would_58 fi_X11_232 rfl (wt hW i0 5 rfl rfl) ?_
    cases h
    exact ev_iretX dc_X11_would_61 rfl ⟨Nat.le_of_ble_eq_true rfl, Nat.le_of_ble_eq_true rfl⟩ rfl rfl
  · refine ev_aload_n dc_X11_would_41 rfl ?_
    refine ev_getR dc_X11_would_42 fi_X11_39 rfl i0 ?_
    refine ev_getI dc_X11_would_45 fi_X11_158 rfl (wt hW i0 5 rfl rfl) ?_
    obtain ⟨q7, hq7, h⟩ := Option.bind_eq_some_iff.mp h
    refine ev_callS (av := [.int (q6.1 (pR G a0 5) 3)]) (st := []) (st1 := [.int q7]) dc_X11_would_48 (tJ6_bitCount_0f7a4 hW hq7) mw_576 cs_J6_bitCount_0f7a4 rfl rfl rfl (Nat.le_of_ble_eq_true rfl) (Nat.le_of_ble_eq_true rfl) ⟨Nat.le_of_ble_eq_true rfl, Nat.le_of_ble_eq_true rfl⟩ ?_
    refine ev_goto (tgt := 61) dc_X11_would_51 (by decide) ?_
    cases h
    exact ev_iretX dc_X11_would_61 rfl ⟨Nat.le_of_ble_eq_true rfl, Nat.le_of_ble_eq_true rfl⟩ rfl rfl
