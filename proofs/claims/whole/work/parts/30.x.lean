theorem ev_wid {Y : MI} {B : Nat × Nat × Nat} {G : pG} {Z : ZZ} {SK : Nat → Nat} {u v : Nat × Nat} {pc : Nat} {lv : List (Option Value)} {st : List Value} {σ : pS} (hv : u.1 ≤ v.1 ∧ u.2 ≤ v.2) (k : Ev Y B G Z SK v pc lv st σ) : Ev Y B G Z SK u pc lv st σ := by
  intro p l e R s m args below meth c H locs A ls D cy SV C hP hD hS hl
  exact W.widen (k := v.1) (n := v.2) hv.1 hv.2 (k p l e R s m args below meth c H locs A ls D cy SV C hP hD hS hl)
theorem xa_X11_101 : XA RX11 101 "java/lang/IllegalArgumentException" := ⟨by decide, by decide, by decide +kernel, by decide +kernel, by decide +kernel, mw_23⟩
theorem xa_X11_117 : XA RX11 117 "java/lang/UnsupportedOperationException" := ⟨by decide, by decide, by decide +kernel, by decide +kernel, by decide +kernel, mw_24⟩
theorem xa_X11_223 : XA RX11 223 "java/lang/IllegalStateException" := ⟨by decide, by decide, by decide +kernel, by decide +kernel, by decide +kernel, mw_28⟩
theorem xa_X11_356 : XA RX11 356 "java/lang/IndexOutOfBoundsException" := ⟨by decide, by decide, by decide +kernel, by decide +kernel, by decide +kernel, mw_26⟩
theorem dc_X11_need_0 : Dc miX11_need 0 (.iload_n 1) 1 1 := ⟨by decide +kernel, rfl⟩
theorem dc_X11_need_1 : Dc miX11_need 1 (.ifCond .ne 14) 3 4 := ⟨by decide +kernel, rfl⟩
theorem dc_X11_need_4 : Dc miX11_need 4 (.new 97) 3 7 := ⟨by decide +kernel, rfl⟩
theorem dc_X11_need_7 : Dc miX11_need 7 (.dup) 1 8 := ⟨by decide +kernel, rfl⟩
theorem dc_X11_need_8 : Dc miX11_need 8 (.ldc_w 415) 3 11 := ⟨by decide +kernel, rfl⟩
theorem dc_X11_need_11 : Dc miX11_need 11 (.invokespecial 101) 3 14 := ⟨by decide +kernel, rfl⟩
theorem dc_X11_need_14 : Dc miX11_need 14 (.athrow) 1 15 := ⟨by decide +kernel, rfl⟩
theorem dc_X11_need_15 : Dc miX11_need 15 (.return_) 1 16 := ⟨by decide +kernel, rfl⟩
def fX11_need (N : Nat) (G : pG) (a0 : Nat) (a1 : Int32) (σ : pS) : Option (pS ⊕ (String × pS)) := if a1 = 0 then (some (.inr ("java/lang/IllegalArgumentException", σ))) else (some (.inl σ))
set_option maxRecDepth 100000 in
set_option maxHeartbeats 4000000 in
theorem tX11_need {N : Nat} {G : pG} {SK : Nat → Nat} {a0 : Nat} {a1 : Int32} {σ : pS} {r : pS ⊕ (String × pS)} (hW : WT G) (i0 : Is G a0 10) (h : fX11_need N G a0 a1 σ = some r) : Dx miX11_need yX11_need 7 1 6 G SK [.ref a0, .int a1] σ (xoV r) := by
  unfold fX11_need at h
  refine dx_of (lv := [some (.ref a0), some (.int a1)]) (by decide) rfl rfl (Nat.le_of_ble_eq_true rfl) rfl ?_
  refine ev_iload_n dc_X11_need_0 rfl ?_
  refine ev_if_ne (tgt := 15) dc_X11_need_1 (by decide) h (fun h => ?_) (fun h => ?_)
  · cases h
    exact ev_throwSW (tx := "the number is none") rfl dc_X11_need_4 dc_X11_need_7 dc_X11_need_8 dc_X11_need_11 dc_X11_need_14 mw_853 (List.mem_of_getElem? (i := 43) rfl) xa_X11_101 (Nat.le_of_ble_eq_true rfl) (Nat.le_of_ble_eq_true rfl) ⟨Nat.le_of_ble_eq_true rfl, Nat.le_of_ble_eq_true rfl⟩ ⟨Nat.le_of_ble_eq_true rfl, Nat.le_of_ble_eq_true rfl⟩
  · cases h
    exact ev_vretX dc_X11_need_15 rfl ⟨Nat.le_of_ble_eq_true rfl, Nat.le_of_ble_eq_true rfl⟩ rfl rfl
theorem dc_X11_needDeed_0 : Dc miX11_needDeed 0 (.iload_n 1) 1 1 := ⟨by decide +kernel, rfl⟩
theorem dc_X11_needDeed_1 : Dc miX11_needDeed 1 (.ifCond .lt 17) 3 4 := ⟨by decide +kernel, rfl⟩
theorem dc_X11_needDeed_4 : Dc miX11_needDeed 4 (.iload_n 1) 1 5 := ⟨by decide +kernel, rfl⟩
theorem dc_X11_needDeed_5 : Dc miX11_needDeed 5 (.aload_n 0) 1 6 := ⟨by decide +kernel, rfl⟩
theorem dc_X11_needDeed_6 : Dc miX11_needDeed 6 (.getfield 19) 3 9 := ⟨by decide +kernel, rfl⟩
theorem dc_X11_needDeed_9 : Dc miX11_needDeed 9 (.getfield 104) 3 12 := ⟨by decide +kernel, rfl⟩
theorem dc_X11_needDeed_12 : Dc miX11_needDeed 12 (.getfield 322) 3 15 := ⟨by decide +kernel, rfl⟩
theorem dc_X11_needDeed_15 : Dc miX11_needDeed 15 (.if_icmp .lt 14) 3 18 := ⟨by decide +kernel, rfl⟩
theorem dc_X11_needDeed_18 : Dc miX11_needDeed 18 (.new 352) 3 21 := ⟨by decide +kernel, rfl⟩
theorem dc_X11_needDeed_21 : Dc miX11_needDeed 21 (.dup) 1 22 := ⟨by decide +kernel, rfl⟩
theorem dc_X11_needDeed_22 : Dc miX11_needDeed 22 (.ldc_w 411) 3 25 := ⟨by decide +kernel, rfl⟩
theorem dc_X11_needDeed_25 : Dc miX11_needDeed 25 (.invokespecial 356) 3 28 := ⟨by decide +kernel, rfl⟩
theorem dc_X11_needDeed_28 : Dc miX11_needDeed 28 (.athrow) 1 29 := ⟨by decide +kernel, rfl⟩
theorem dc_X11_needDeed_29 : Dc miX11_needDeed 29 (.return_) 1 30 := ⟨by decide +kernel, rfl⟩
def fX11_needDeed (N : Nat) (G : pG) (a0 : Nat) (a1 : Int32) (σ : pS) : Option (pS ⊕ (String × pS)) := if a1 < 0 then (some (.inr ("java/lang/IndexOutOfBoundsException", σ))) else (if a1 < (σ.1 (pR G (pR G a0 1) 0) 3) then (some (.inl σ)) else (some (.inr ("java/lang/IndexOutOfBoundsException", σ))))
set_option maxRecDepth 100000 in
set_option maxHeartbeats 4000000 in
theorem tX11_needDeed {N : Nat} {G : pG} {SK : Nat → Nat} {a0 : Nat} {a1 : Int32} {σ : pS} {r : pS ⊕ (String × pS)} (hW : WT G) (i0 : Is G a0 10) (h : fX11_needDeed N G a0 a1 σ = some r) : Dx miX11_needDeed yX11_needDeed 7 1 6 G SK [.ref a0, .int a1] σ (xoV r) := by
  unfold fX11_needDeed at h
  refine dx_of (lv := [some (.ref a0), some (.int a1)]) (by decide) rfl rfl (Nat.le_of_ble_eq_true rfl) rfl ?_
  refine ev_iload_n dc_X11_needDeed_0 rfl ?_
  refine ev_if_lt (tgt := 18) dc_X11_needDeed_1 (by decide) h (fun h => ?_) (fun h => ?_)
  · cases h
    exact ev_throwSW (tx := "no such deed") rfl dc_X11_needDeed_18 dc_X11_needDeed_21 dc_X11_needDeed_22 dc_X11_needDeed_25 dc_X11_needDeed_28 mw_1043 (List.mem_of_getElem? (i := 37) rfl) xa_X11_356 (Nat.le_of_ble_eq_true rfl) (Nat.le_of_ble_eq_true rfl) ⟨Nat.le_of_ble_eq_true rfl, Nat.le_of_ble_eq_true rfl⟩ ⟨Nat.le_of_ble_eq_true rfl, Nat.le_of_ble_eq_true rfl⟩
  · refine ev_iload_n dc_X11_needDeed_4 rfl ?_
    refine ev_aload_n dc_X11_needDeed_5 rfl ?_
    refine ev_getR dc_X11_needDeed_6 fi_X11_19 rfl i0 ?_
    refine ev_getR dc_X11_needDeed_9 fi_X11_104 rfl (wt hW i0 1 rfl rfl) ?_
    refine ev_getI dc_X11_needDeed_12 fi_X11_322 rfl (wt hW (wt hW i0 1 rfl rfl) 0 rfl rfl) ?_
    refine ev_icmp_lt (tgt := 29) dc_X11_needDeed_15 (by decide) h (fun h => ?_) (fun h => ?_)
    · cases h
      exact ev_vretX dc_X11_needDeed_29 rfl ⟨Nat.le_of_ble_eq_true rfl, Nat.le_of_ble_eq_true rfl⟩ rfl rfl
    · cases h
      exact ev_throwSW (tx := "no such deed") rfl dc_X11_needDeed_18 dc_X11_needDeed_21 dc_X11_needDeed_22 dc_X11_needDeed_25 dc_X11_needDeed_28 mw_1043 (List.mem_of_getElem? (i := 37) rfl) xa_X11_356 (Nat.le_of_ble_eq_true rfl) (Nat.le_of_ble_eq_true rfl) ⟨Nat.le_of_ble_eq_true rfl, Nat.le_of_ble_eq_true rfl⟩ ⟨Nat.le_of_ble_eq_true rfl, Nat.le_of_ble_eq_true rfl⟩
theorem dc_X11_needDeedOrNone_0 : Dc miX11_needDeedOrNone 0 (.iload_n 1) 1 1 := ⟨by decide +kernel, rfl⟩
theorem dc_X11_needDeedOrNone_1 : Dc miX11_needDeedOrNone 1 (.iconst (-1)) 1 2 := ⟨by decide +kernel, rfl⟩
theorem dc_X11_needDeedOrNone_2 : Dc miX11_needDeedOrNone 2 (.if_icmp .eq 8) 3 5 := ⟨by decide +kernel, rfl⟩
theorem dc_X11_needDeedOrNone_5 : Dc miX11_needDeedOrNone 5 (.aload_n 0) 1 6 := ⟨by decide +kernel, rfl⟩
theorem dc_X11_needDeedOrNone_6 : Dc miX11_needDeedOrNone 6 (.iload_n 1) 1 7 := ⟨by decide +kernel, rfl⟩
theorem dc_X11_needDeedOrNone_7 : Dc miX11_needDeedOrNone 7 (.invokevirtual 197) 3 10 := ⟨by decide +kernel, rfl⟩
theorem dc_X11_needDeedOrNone_10 : Dc miX11_needDeedOrNone 10 (.return_) 1 11 := ⟨by decide +kernel, rfl⟩
def fX11_needDeedOrNone (N : Nat) (G : pG) (a0 : Nat) (a1 : Int32) (σ : pS) : Option (pS ⊕ (String × pS)) := if a1 = (-1 : Int32) then (some (.inl σ)) else ((fX11_needDeed N G a0 a1 σ).bind (fun q1 => q1.elim (fun zs2 => some (.inl zs2)) (fun e => some (.inr e))))
set_option maxRecDepth 100000 in
set_option maxHeartbeats 4000000 in
theorem tX11_needDeedOrNone {N : Nat} {G : pG} {SK : Nat → Nat} {a0 : Nat} {a1 : Int32} {σ : pS} {r : pS ⊕ (String × pS)} (hW : WT G) (i0 : Is G a0 10) (h : fX11_needDeedOrNone N G a0 a1 σ = some r) : Dx miX11_needDeedOrNone yX11_needDeedOrNone 8 1 6 G SK [.ref a0, .int a1] σ (xoV r) := by
  unfold fX11_needDeedOrNone at h
  refine dx_of (lv := [some (.ref a0), some (.int a1)]) (by decide) rfl rfl (Nat.le_of_ble_eq_true rfl) rfl ?_
  refine ev_iload_n dc_X11_needDeedOrNone_0 rfl ?_
  refine ev_iconst (v := (-1)) dc_X11_needDeedOrNone_1 (by decide) ?_
  refine ev_icmp_eq (tgt := 10) dc_X11_needDeedOrNone_2 (by decide) h (fun h => ?_) (fun h => ?_)
  · cases h
    exact ev_vretX dc_X11_needDeedOrNone_10 rfl ⟨Nat.le_of_ble_eq_true rfl, Nat.le_of_ble_eq_true rfl⟩ rfl rfl
  · refine ev_aload_n dc_X11_needDeedOrNone_5 rfl ?_
    refine ev_iload_n dc_X11_needDeedOrNone_6 rfl ?_
    obtain ⟨q1, hq1, h⟩ := Option.bind_eq_some_iff.mp h
    refine ev_callX (mc := 1) (ms := 6) (av := [.int a1]) (st := []) rfl dc_X11_needDeedOrNone_7 (tX11_needDeed hW i0 hq1) mw_1115 cy_X11_needDeed i0 (by decide) rfl rfl rfl (Nat.le_of_ble_eq_true rfl) (Nat.le_of_ble_eq_true rfl) ⟨Nat.le_of_ble_eq_true rfl, Nat.le_of_ble_eq_true rfl⟩ ?_ ?_
    · intro e he
      rcases q1 with zs2 | zs2
      · have he : (Sum.inl (none, zs2) : XO) = .inr e := he
        cases he
      · have he : (Sum.inr zs2 : XO) = .inr e := he
        cases he
        dsimp only [Sum.elim] at h
        cases h
        exact ⟨rfl, Nat.le_of_ble_eq_true rfl, Nat.le_of_ble_eq_true rfl⟩
    intro e he
    rcases q1 with zs2 | zs2
    rotate_left
    · have he : (Sum.inr zs2 : XO) = .inl e := he
      cases he
    have he : (Sum.inl (none, zs2) : XO) = .inl e := he
    cases he
    dsimp only [Sum.elim] at h
    show Ev miX11_needDeedOrNone (8, 1, 6) G (Zx G (xoV r) 1 6) SK (1, 6) 10 [some (.ref a0), some (.int a1)] [] zs2
    cases h
    exact ev_vretX dc_X11_needDeedOrNone_10 rfl ⟨Nat.le_of_ble_eq_true rfl, Nat.le_of_ble_eq_true rfl⟩ rfl rfl
theorem dc_X11_ahead_0 : Dc miX11_ahead 0 (.aload_n 0) 1 1 := ⟨by decide +kernel, rfl⟩
theorem dc_X11_ahead_1 : Dc miX11_ahead 1 (.iload_n 1) 1 2 := ⟨by decide +kernel, rfl⟩
theorem dc_X11_ahead_2 : Dc miX11_ahead 2 (.invokevirtual 278) 3 5 := ⟨by decide +kernel, rfl⟩
theorem dc_X11_ahead_5 : Dc miX11_ahead 5 (.aload_n 0) 1 6 := ⟨by decide +kernel, rfl⟩
theorem dc_X11_ahead_6 : Dc miX11_ahead 6 (.iload_n 2) 1 7 := ⟨by decide +kernel, rfl⟩
theorem dc_X11_ahead_7 : Dc miX11_ahead 7 (.ifCond .lt 14) 3 10 := ⟨by decide +kernel, rfl⟩
theorem dc_X11_ahead_10 : Dc miX11_ahead 10 (.iload_n 2) 1 11 := ⟨by decide +kernel, rfl⟩
theorem dc_X11_ahead_11 : Dc miX11_ahead 11 (.sipush 400) 3 14 := ⟨by decide +kernel, rfl⟩
theorem dc_X11_ahead_14 : Dc miX11_ahead 14 (.if_icmp .gt 7) 3 17 := ⟨by decide +kernel, rfl⟩
theorem dc_X11_ahead_17 : Dc miX11_ahead 17 (.iconst 1) 1 18 := ⟨by decide +kernel, rfl⟩
theorem dc_X11_ahead_18 : Dc miX11_ahead 18 (.goto 4) 3 21 := ⟨by decide +kernel, rfl⟩
theorem dc_X11_ahead_21 : Dc miX11_ahead 21 (.iconst 0) 1 22 := ⟨by decide +kernel, rfl⟩
theorem dc_X11_ahead_22 : Dc miX11_ahead 22 (.invokevirtual 268) 3 25 := ⟨by decide +kernel, rfl⟩
theorem dc_X11_ahead_25 : Dc miX11_ahead 25 (.aload_n 0) 1 26 := ⟨by decide +kernel, rfl⟩
theorem dc_X11_ahead_26 : Dc miX11_ahead 26 (.getfield 39) 3 29 := ⟨by decide +kernel, rfl⟩
theorem dc_X11_ahead_29 : Dc miX11_ahead 29 (.aload_n 0) 1 30 := ⟨by decide +kernel, rfl⟩
theorem dc_X11_ahead_30 : Dc miX11_ahead 30 (.getfield 19) 3 33 := ⟨by decide +kernel, rfl⟩
theorem dc_X11_ahead_33 : Dc miX11_ahead 33 (.getfield 155) 3 36 := ⟨by decide +kernel, rfl⟩
theorem dc_X11_ahead_36 : Dc miX11_ahead 36 (.invokevirtual 275) 3 39 := ⟨by decide +kernel, rfl⟩
theorem dc_X11_ahead_39 : Dc miX11_ahead 39 (.iconst 0) 1 40 := ⟨by decide +kernel, rfl⟩
theorem dc_X11_ahead_40 : Dc miX11_ahead 40 (.istore_n 3) 1 41 := ⟨by decide +kernel, rfl⟩
theorem dc_X11_ahead_41 : Dc miX11_ahead 41 (.iload_n 3) 1 42 := ⟨by decide +kernel, rfl⟩
theorem dc_X11_ahead_42 : Dc miX11_ahead 42 (.iload_n 2) 1 43 := ⟨by decide +kernel, rfl⟩
theorem dc_X11_ahead_43 : Dc miX11_ahead 43 (.if_icmp .ge 21) 3 46 := ⟨by decide +kernel, rfl⟩
theorem dc_X11_ahead_46 : Dc miX11_ahead 46 (.aload_n 0) 1 47 := ⟨by decide +kernel, rfl⟩
theorem dc_X11_ahead_47 : Dc miX11_ahead 47 (.getfield 19) 3 50 := ⟨by decide +kernel, rfl⟩
theorem dc_X11_ahead_50 : Dc miX11_ahead 50 (.aload_n 0) 1 51 := ⟨by decide +kernel, rfl⟩
theorem dc_X11_ahead_51 : Dc miX11_ahead 51 (.getfield 39) 3 54 := ⟨by decide +kernel, rfl⟩
theorem dc_X11_ahead_54 : Dc miX11_ahead 54 (.iload_n 1) 1 55 := ⟨by decide +kernel, rfl⟩
theorem dc_X11_ahead_55 : Dc miX11_ahead 55 (.invokevirtual 281) 3 58 := ⟨by decide +kernel, rfl⟩
theorem dc_X11_ahead_58 : Dc miX11_ahead 58 (.iinc 3 1) 3 61 := ⟨by decide +kernel, rfl⟩
theorem dc_X11_ahead_61 : Dc miX11_ahead 61 (.goto (-20)) 3 64 := ⟨by decide +kernel, rfl⟩
theorem dc_X11_ahead_64 : Dc miX11_ahead 64 (.aload_n 0) 1 65 := ⟨by decide +kernel, rfl⟩
theorem dc_X11_ahead_65 : Dc miX11_ahead 65 (.getfield 39) 3 68 := ⟨by decide +kernel, rfl⟩
theorem dc_X11_ahead_68 : Dc miX11_ahead 68 (.getfield 232) 3 71 := ⟨by decide +kernel, rfl⟩
theorem dc_X11_ahead_71 : Dc miX11_ahead 71 (.ireturn) 1 72 := ⟨by decide +kernel, rfl⟩
def fX11_ahead_b41 (N : Nat) (G : pG) (a0 : Nat) (a1 : Int32) (a2 : Int32) : (Int32 × pS) → Option ((Int32 × pS) ⊕ (String × pS)) := lp (fun (k41 : Int32 × pS → Option ((Int32 × pS) ⊕ (String × pS))) (b : Int32 × pS) => if a2 ≤ b.1 then (some (.inl (b.2.1 (pR G a0 5) 0, b.2))) else ((fX10_plainNight N G (pR G a0 1) (pR G a0 5) a1 b.2).bind (fun q1 => k41 (b.1 + (1 : Int32), q1)))) N
set_option maxRecDepth 100000 in
set_option maxHeartbeats 4000000 in
theorem tX11_ahead_b41 {N : Nat} {G : pG} {SK : Nat → Nat} {a0 : Nat} {a1 : Int32} {a2 : Int32} {b : Int32 × pS} {r : (Int32 × pS) ⊕ (String × pS)} (hW : WT G) (i0 : Is G a0 10) (h : fX11_ahead_b41 N G a0 a1 a2 b = some r) : Ev miX11_ahead (9, 2, 12) G (Zx G (xoI r) 2 12) SK (2, 12) 41 [some (.ref a0), some (.int a1), some (.int a2), some (.int b.1)] [] b.2 := by
  unfold fX11_ahead_b41 at h
  refine lp_ind (P := fun b r9 => r9 = r → Ev miX11_ahead (9, 2, 12) G (Zx G (xoI r) 2 12) SK (2, 12) 41 [some (.ref a0), some (.int a1), some (.int a2), some (.int b.1)] [] b.2) (fun k41 b r9 ih h9 e9 => ?_) N b r h rfl
  clear h
  subst e9
  have h := h9
  clear h9
  have hk41 : ∀ b : Int32 × pS, k41 b = some r9 → Ev miX11_ahead (9, 2, 12) G (Zx G (xoI r9) 2 12) SK (2, 12) 41 [some (.ref a0), some (.int a1), some (.int a2), some (.int b.1)] [] b.2 := fun b hb => ih b r9 hb rfl
  clear ih
  obtain ⟨x3, σ⟩ := b
  dsimp only at h ⊢
  refine ev_iload_n dc_X11_ahead_41 rfl ?_
  refine ev_iload_n dc_X11_ahead_42 rfl ?_
  refine ev_icmp_ge (tgt := 64) dc_X11_ahead_43 (by decide) h (fun h => ?_) (fun h => ?_)
  · refine ev_aload_n dc_X11_ahead_64 rfl ?_
    refine ev_getR dc_X11_ahead_65 fi_X11_39 rfl i0 ?_
    refine ev_getI dc_X11_ahead_68 fi_X11_232 rfl (wt hW i0 5 rfl rfl) ?_
    cases h
    exact ev_iretX dc_X11_ahead_71 rfl ⟨Nat.le_of_ble_eq_true rfl, Nat.le_of_ble_eq_true rfl⟩ rfl rfl
  · refine ev_aload_n dc_X11_ahead_46 rfl ?_
    refine ev_getR dc_X11_ahead_47 fi_X11_19 rfl i0 ?_
    refine ev_aload_n dc_X11_ahead_50 rfl ?_
    refine ev_getR dc_X11_ahead_51 fi_X11_39 rfl i0 ?_
    refine ev_iload_n dc_X11_ahead_54 rfl ?_
    obtain ⟨q1, hq1, h⟩ := Option.bind_eq_some_iff.mp h
    refine ev_callV (av := [.ref (pR G a0 5), .int a1]) (st := []) (st1 := []) dc_X11_ahead_55 (tX10_plainNight hW (wt hW i0 1 rfl rfl) (wt hW i0 5 rfl rfl) hq1) mw_1267 cy_X10_plainNight (wt hW i0 1 rfl rfl) (by decide) rfl rfl rfl rfl (Nat.le_of_ble_eq_true rfl) (Nat.le_of_ble_eq_true rfl) ⟨Nat.le_of_ble_eq_true rfl, Nat.le_of_ble_eq_true rfl⟩ ?_
    refine ev_iinc (v := 1) (lv' := [some (.ref a0), some (.int a1), some (.int a2), some (.int (x3 + (1 : Int32)))]) dc_X11_ahead_58 rfl (by decide) rfl (by decide) rfl ?_
    refine ev_goto (tgt := 41) dc_X11_ahead_61 (by decide) ?_
    exact ev_sub (hk41 (x3 + (1 : Int32), q1) h) (And.intro rfl (And.intro rfl (And.intro rfl (And.intro rfl trivial))))
def fX11_ahead_b22 (N : Nat) (G : pG) (a0 : Nat) (a1 : Int32) (a2 : Int32) (y1 : Int32) (σ : pS) : Option ((Int32 × pS) ⊕ (String × pS)) := (fX11_need N G a0 y1 σ).bind (fun q2 => q2.elim (fun zs3 => (fX3_copyThoughtFrom N G (pR G a0 5) (pR G (pR G a0 1) 2) zs3).bind (fun q4 => fX11_ahead_b41 N G a0 a1 a2 ((0 : Int32), q4))) (fun e => some (.inr e)))
set_option maxRecDepth 100000 in
set_option maxHeartbeats 4000000 in
theorem tX11_ahead_b22 {N : Nat} {G : pG} {SK : Nat → Nat} {a0 : Nat} {a1 : Int32} {a2 : Int32} {y1 : Int32} {σ : pS} {r : (Int32 × pS) ⊕ (String × pS)} (hW : WT G) (i0 : Is G a0 10) (h : fX11_ahead_b22 N G a0 a1 a2 y1 σ = some r) : Ev miX11_ahead (9, 2, 12) G (Zx G (xoI r) 2 12) SK (1, 6) 22 [some (.ref a0), some (.int a1), some (.int a2), none] [.int y1, .ref a0] σ := by
  unfold fX11_ahead_b22 at h
  obtain ⟨q2, hq2, h⟩ := Option.bind_eq_some_iff.mp h
  refine ev_callX (mc := 2) (ms := 12) (av := [.int y1]) (st := []) rfl dc_X11_ahead_22 (tX11_need hW i0 hq2) mw_1228 cy_X11_need i0 (by decide) rfl rfl rfl (Nat.le_of_ble_eq_true rfl) (Nat.le_of_ble_eq_true rfl) ⟨Nat.le_of_ble_eq_true rfl, Nat.le_of_ble_eq_true rfl⟩ ?_ ?_
  · intro e he
    rcases q2 with zs3 | zs3
    · have he : (Sum.inl (none, zs3) : XO) = .inr e := he
      cases he
    · have he : (Sum.inr zs3 : XO) = .inr e := he
      cases he
      dsimp only [Sum.elim] at h
      cases h
      exact ⟨rfl, Nat.le_of_ble_eq_true rfl, Nat.le_of_ble_eq_true rfl⟩
  intro e he
  rcases q2 with zs3 | zs3
  rotate_left
  · have he : (Sum.inr zs3 : XO) = .inl e := he
    cases he
  have he : (Sum.inl (none, zs3) : XO) = .inl e := he
  cases he
  dsimp only [Sum.elim] at h
  show Ev miX11_ahead (9, 2, 12) G (Zx G (xoI r) 2 12) SK (2, 12) 25 [some (.ref a0), some (.int a1), some (.int a2), none] [] zs3
  refine ev_aload_n dc_X11_ahead_25 rfl ?_
  refine ev_getR dc_X11_ahead_26 fi_X11_39 rfl i0 ?_
  refine ev_aload_n dc_X11_ahead_29 rfl ?_
  refine ev_getR dc_X11_ahead_30 fi_X11_19 rfl i0 ?_
  refine ev_getR dc_X11_ahead_33 fi_X11_155 rfl (wt hW i0 1 rfl rfl) ?_
  obtain ⟨q4, hq4, h⟩ := Option.bind_eq_some_iff.mp h
  refine ev_callV (av := [.ref (pR G (pR G a0 1) 2)]) (st := []) (st1 := []) dc_X11_ahead_36 (tX3_copyThoughtFrom hW (wt hW i0 5 rfl rfl) (wt hW (wt hW i0 1 rfl rfl) 2 rfl rfl) hq4) mw_1255 cy_X3_copyThoughtFrom (wt hW i0 5 rfl rfl) (by decide) rfl rfl rfl rfl (Nat.le_of_ble_eq_true rfl) (Nat.le_of_ble_eq_true rfl) ⟨Nat.le_of_ble_eq_true rfl, Nat.le_of_ble_eq_true rfl⟩ ?_
  refine ev_iconst (v := 0) dc_X11_ahead_39 (by decide) ?_
  refine ev_istore_n (lv' := [some (.ref a0), some (.int a1), some (.int a2), some (.int (0 : Int32))]) dc_X11_ahead_40 rfl (by decide) rfl ?_
  exact ev_sub (tX11_ahead_b41 (b := ((0 : Int32), q4)) hW i0 h) (And.intro rfl (And.intro rfl (And.intro rfl (And.intro rfl trivial))))
def fX11_ahead_b21 (N : Nat) (G : pG) (a0 : Nat) (a1 : Int32) (a2 : Int32) (σ : pS) : Option ((Int32 × pS) ⊕ (String × pS)) := fX11_ahead_b22 N G a0 a1 a2 (0 : Int32) σ
set_option maxRecDepth 100000 in
set_option maxHeartbeats 4000000 in
theorem tX11_ahead_b21 {N : Nat} {G : pG} {SK : Nat → Nat} {a0 : Nat} {a1 : Int32} {a2 : Int32} {σ : pS} {r : (Int32 × pS) ⊕ (String × pS)} (hW : WT G) (i0 : Is G a0 10) (h : fX11_ahead_b21 N G a0 a1 a2 σ = some r) : Ev miX11_ahead (9, 2, 12) G (Zx G (xoI r) 2 12) SK (1, 6) 21 [some (.ref a0), some (.int a1), some (.int a2), none] [.ref a0] σ := by
  unfold fX11_ahead_b21 at h
  refine ev_iconst (v := 0) dc_X11_ahead_21 (by decide) ?_
  exact ev_sub (tX11_ahead_b22 hW i0 h) (And.intro rfl (And.intro rfl (And.intro rfl trivial)))
def fX11_ahead (N : Nat) (G : pG) (a0 : Nat) (a1 : Int32) (a2 : Int32) (σ : pS) : Option ((Int32 × pS) ⊕ (String × pS)) := (fX11_needDeedOrNone N G a0 a1 σ).bind (fun q5 => q5.elim (fun zs6 => if a2 < 0 then (fX11_ahead_b21 N G a0 a1 a2 zs6) else (if (400 : Int32) < a2 then (fX11_ahead_b21 N G a0 a1 a2 zs6) else (fX11_ahead_b22 N G a0 a1 a2 (1 : Int32) zs6))) (fun e => some (.inr e)))
set_option maxRecDepth 100000 in
set_option maxHeartbeats 4000000 in
theorem tX11_ahead {N : Nat} {G : pG} {SK : Nat → Nat} {a0 : Nat} {a1 : Int32} {a2 : Int32} {σ : pS} {r : (Int32 × pS) ⊕ (String × pS)} (hW : WT G) (i0 : Is G a0 10) (h : fX11_ahead N G a0 a1 a2 σ = some r) : Dx miX11_ahead yX11_ahead 9 2 12 G SK [.ref a0, .int a1, .int a2] σ (xoI r) := by
  unfold fX11_ahead at h
  refine dx_of (lv := [some (.ref a0), some (.int a1), some (.int a2), none]) (by decide) rfl rfl (Nat.le_of_ble_eq_true rfl) rfl ?_
  refine ev_aload_n dc_X11_ahead_0 rfl ?_
  refine ev_iload_n dc_X11_ahead_1 rfl ?_
  obtain ⟨q5, hq5, h⟩ := Option.bind_eq_some_iff.mp h
  refine ev_callX (mc := 2) (ms := 12) (av := [.int a1]) (st := []) rfl dc_X11_ahead_2 (tX11_needDeedOrNone hW i0 hq5) mw_1263 cy_X11_needDeedOrNone i0 (by decide) rfl rfl rfl (Nat.le_of_ble_eq_true rfl) (Nat.le_of_ble_eq_true rfl) ⟨Nat.le_of_ble_eq_true rfl, Nat.le_of_ble_eq_true rfl⟩ ?_ ?_
  · intro e he
    rcases q5 with zs6 | zs6
    · have he : (Sum.inl (none, zs6) : XO) = .inr e := he
      cases he
    · have he : (Sum.inr zs6 : XO) = .inr e := he
      cases he
      dsimp only [Sum.elim] at h
      cases h
      exact ⟨rfl, Nat.le_of_ble_eq_true rfl, Nat.le_of_ble_eq_true rfl⟩
  intro e he
  rcases q5 with zs6 | zs6
  rotate_left
  · have he : (Sum.inr zs6 : XO) = .inl e := he
    cases he
  have he : (Sum.inl (none, zs6) : XO) = .inl e := he
  cases he
  dsimp only [Sum.elim] at h
  show Ev miX11_ahead (9, 2, 12) G (Zx G (xoI r) 2 12) SK (1, 6) 5 [some (.ref a0), some (.int a1), some (.int a2), none] [] zs6
  refine ev_aload_n dc_X11_ahead_5 rfl ?_
  refine ev_iload_n dc_X11_ahead_6 rfl ?_
  refine ev_if_lt (tgt := 21) dc_X11_ahead_7 (by decide) h (fun h => ?_) (fun h => ?_)
  · exact ev_sub (tX11_ahead_b21 hW i0 h) (And.intro rfl (And.intro rfl (And.intro rfl trivial)))
  · refine ev_iload_n dc_X11_ahead_10 rfl ?_
    refine ev_sipush (v := 400) dc_X11_ahead_11 (by decide) ?_
    refine ev_icmp_gt (tgt := 21) dc_X11_ahead_14 (by decide) h (fun h => ?_) (fun h => ?_)
    · exact ev_sub (tX11_ahead_b21 hW i0 h) (And.intro rfl (And.intro rfl (And.intro rfl trivial)))
    · refine ev_iconst (v := 1) dc_X11_ahead_17 (by decide) ?_
      refine ev_goto (tgt := 22) dc_X11_ahead_18 (by decide) ?_
      exact ev_sub (tX11_ahead_b22 hW i0 h) (And.intro rfl (And.intro rfl (And.intro rfl trivial)))
theorem dc_X11_needTrait_0 : Dc miX11_needTrait 0 (.iload_n 1) 1 1 := ⟨by decide +kernel, rfl⟩
theorem dc_X11_needTrait_1 : Dc miX11_needTrait 1 (.ifCond .lt 9) 3 4 := ⟨by decide +kernel, rfl⟩
theorem dc_X11_needTrait_4 : Dc miX11_needTrait 4 (.iload_n 1) 1 5 := ⟨by decide +kernel, rfl⟩
theorem dc_X11_needTrait_5 : Dc miX11_needTrait 5 (.bipush 6) 2 7 := ⟨by decide +kernel, rfl⟩
theorem dc_X11_needTrait_7 : Dc miX11_needTrait 7 (.if_icmp .lt 14) 3 10 := ⟨by decide +kernel, rfl⟩
theorem dc_X11_needTrait_10 : Dc miX11_needTrait 10 (.new 352) 3 13 := ⟨by decide +kernel, rfl⟩
theorem dc_X11_needTrait_13 : Dc miX11_needTrait 13 (.dup) 1 14 := ⟨by decide +kernel, rfl⟩
theorem dc_X11_needTrait_14 : Dc miX11_needTrait 14 (.ldc_w 413) 3 17 := ⟨by decide +kernel, rfl⟩
theorem dc_X11_needTrait_17 : Dc miX11_needTrait 17 (.invokespecial 356) 3 20 := ⟨by decide +kernel, rfl⟩
theorem dc_X11_needTrait_20 : Dc miX11_needTrait 20 (.athrow) 1 21 := ⟨by decide +kernel, rfl⟩
theorem dc_X11_needTrait_21 : Dc miX11_needTrait 21 (.return_) 1 22 := ⟨by decide +kernel, rfl⟩
def fX11_needTrait (N : Nat) (G : pG) (a0 : Nat) (a1 : Int32) (σ : pS) : Option (pS ⊕ (String × pS)) := if a1 < 0 then (some (.inr ("java/lang/IndexOutOfBoundsException", σ))) else (if a1 < (6 : Int32) then (some (.inl σ)) else (some (.inr ("java/lang/IndexOutOfBoundsException", σ))))
set_option maxRecDepth 100000 in
set_option maxHeartbeats 4000000 in
theorem tX11_needTrait {N : Nat} {G : pG} {SK : Nat → Nat} {a0 : Nat} {a1 : Int32} {σ : pS} {r : pS ⊕ (String × pS)} (hW : WT G) (i0 : Is G a0 10) (h : fX11_needTrait N G a0 a1 σ = some r) : Dx miX11_needTrait yX11_needTrait 7 1 6 G SK [.ref a0, .int a1] σ (xoV r) := by
  unfold fX11_needTrait at h
  refine dx_of (lv := [some (.ref a0), some (.int a1)]) (by decide) rfl rfl (Nat.le_of_ble_eq_true rfl) rfl ?_
  refine ev_iload_n dc_X11_needTrait_0 rfl ?_
  refine ev_if_lt (tgt := 10) dc_X11_needTrait_1 (by decide) h (fun h => ?_) (fun h => ?_)
  · cases h
    exact ev_throwSW (tx := "no such trait") rfl dc_X11_needTrait_10 dc_X11_needTrait_13 dc_X11_needTrait_14 dc_X11_needTrait_17 dc_X11_needTrait_20 mw_1043 (List.mem_of_getElem? (i := 41) rfl) xa_X11_356 (Nat.le_of_ble_eq_true rfl) (Nat.le_of_ble_eq_true rfl) ⟨Nat.le_of_ble_eq_true rfl, Nat.le_of_ble_eq_true rfl⟩ ⟨Nat.le_of_ble_eq_true rfl, Nat.le_of_ble_eq_true rfl⟩
  · refine ev_iload_n dc_X11_needTrait_4 rfl ?_
    refine ev_bipush (v := 6) dc_X11_needTrait_5 (by decide) ?_
    refine ev_icmp_lt (tgt := 21) dc_X11_needTrait_7 (by decide) h (fun h => ?_) (fun h => ?_)
    · cases h
      exact ev_vretX dc_X11_needTrait_21 rfl ⟨Nat.le_of_ble_eq_true rfl, Nat.le_of_ble_eq_true rfl⟩ rfl rfl
    · cases h
      exact ev_throwSW (tx := "no such trait") rfl dc_X11_needTrait_10 dc_X11_needTrait_13 dc_X11_needTrait_14 dc_X11_needTrait_17 dc_X11_needTrait_20 mw_1043 (List.mem_of_getElem? (i := 41) rfl) xa_X11_356 (Nat.le_of_ble_eq_true rfl) (Nat.le_of_ble_eq_true rfl) ⟨Nat.le_of_ble_eq_true rfl, Nat.le_of_ble_eq_true rfl⟩ ⟨Nat.le_of_ble_eq_true rfl, Nat.le_of_ble_eq_true rfl⟩
theorem dc_X11_belief_0 : Dc miX11_belief 0 (.aload_n 0) 1 1 := ⟨by decide +kernel, rfl⟩
theorem dc_X11_belief_1 : Dc miX11_belief 1 (.iload_n 1) 1 2 := ⟨by decide +kernel, rfl⟩
theorem dc_X11_belief_2 : Dc miX11_belief 2 (.invokevirtual 254) 3 5 := ⟨by decide +kernel, rfl⟩
theorem dc_X11_belief_5 : Dc miX11_belief 5 (.aload_n 0) 1 6 := ⟨by decide +kernel, rfl⟩
theorem dc_X11_belief_6 : Dc miX11_belief 6 (.aload_n 0) 1 7 := ⟨by decide +kernel, rfl⟩
theorem dc_X11_belief_7 : Dc miX11_belief 7 (.getfield 19) 3 10 := ⟨by decide +kernel, rfl⟩
theorem dc_X11_belief_10 : Dc miX11_belief 10 (.getfield 104) 3 13 := ⟨by decide +kernel, rfl⟩
theorem dc_X11_belief_13 : Dc miX11_belief 13 (.getfield 343) 3 16 := ⟨by decide +kernel, rfl⟩
theorem dc_X11_belief_16 : Dc miX11_belief 16 (.iload_n 1) 1 17 := ⟨by decide +kernel, rfl⟩
theorem dc_X11_belief_17 : Dc miX11_belief 17 (.invokestatic 148) 3 20 := ⟨by decide +kernel, rfl⟩
theorem dc_X11_belief_20 : Dc miX11_belief 20 (.invokevirtual 165) 3 23 := ⟨by decide +kernel, rfl⟩
theorem dc_X11_belief_23 : Dc miX11_belief 23 (.ireturn) 1 24 := ⟨by decide +kernel, rfl⟩
def fX11_belief (N : Nat) (G : pG) (a0 : Nat) (a1 : Int32) (σ : pS) : Option ((Int32 × pS) ⊕ (String × pS)) := (fX11_needTrait N G a0 a1 σ).bind (fun q1 => q1.elim (fun zs2 => (fX11_at N G (pR G (pR G (pR G a0 1) 0) 11) a1 zs2).bind (fun q3 => (fX11_beliefIn N G a0 q3 zs2).bind (fun q4 => some (.inl (q4, zs2))))) (fun e => some (.inr e)))
set_option maxRecDepth 100000 in
set_option maxHeartbeats 4000000 in
theorem tX11_belief {N : Nat} {G : pG} {SK : Nat → Nat} {a0 : Nat} {a1 : Int32} {σ : pS} {r : (Int32 × pS) ⊕ (String × pS)} (hW : WT G) (i0 : Is G a0 10) (h : fX11_belief N G a0 a1 σ = some r) : Dx miX11_belief yX11_belief 8 1 6 G SK [.ref a0, .int a1] σ (xoI r) := by
  unfold fX11_belief at h
  refine dx_of (lv := [some (.ref a0), some (.int a1)]) (by decide) rfl rfl (Nat.le_of_ble_eq_true rfl) rfl ?_
  refine ev_aload_n dc_X11_belief_0 rfl ?_
  refine ev_iload_n dc_X11_belief_1 rfl ?_
  obtain ⟨q1, hq1, h⟩ := Option.bind_eq_some_iff.mp h
  refine ev_callX (mc := 1) (ms := 6) (av := [.int a1]) (st := []) rfl dc_X11_belief_2 (tX11_needTrait hW i0 hq1) mw_1215 cy_X11_needTrait i0 (by decide) rfl rfl rfl (Nat.le_of_ble_eq_true rfl) (Nat.le_of_ble_eq_true rfl) ⟨Nat.le_of_ble_eq_true rfl, Nat.le_of_ble_eq_true rfl⟩ ?_ ?_
  · intro e he
    rcases q1 with zs2 | zs2
    · have he : (Sum.inl (none, zs2) : XO) = .inr e := he
      cases he
    · have he : (Sum.inr zs2 : XO) = .inr e := he
      cases he
      dsimp only [Sum.elim] at h
      cases h
      exact ⟨rfl, Nat.le_of_ble_eq_true rfl, Nat.le_of_ble_eq_true rfl⟩
  intro e he
  rcases q1 with zs2 | zs2
  rotate_left
  · have he : (Sum.inr zs2 : XO) = .inl e := he
    cases he
  have he : (Sum.inl (none, zs2) : XO) = .inl e := he
  cases he
  dsimp only [Sum.elim] at h
  show Ev miX11_belief (8, 1, 6) G (Zx G (xoI r) 1 6) SK (1, 6) 5 [some (.ref a0), some (.int a1)] [] zs2
  refine ev_aload_n dc_X11_belief_5 rfl ?_
  refine ev_aload_n dc_X11_belief_6 rfl ?_
  refine ev_getR dc_X11_belief_7 fi_X11_19 rfl i0 ?_
  refine ev_getR dc_X11_belief_10 fi_X11_104 rfl (wt hW i0 1 rfl rfl) ?_
  refine ev_getR dc_X11_belief_13 fi_X11_343 rfl (wt hW (wt hW i0 1 rfl rfl) 0 rfl rfl) ?_
  refine ev_iload_n dc_X11_belief_16 rfl ?_
  obtain ⟨q3, hq3, h⟩ := Option.bind_eq_some_iff.mp h
  refine ev_callS (av := [.ref (pR G (pR G (pR G a0 1) 0) 11), .int a1]) (st := [.ref a0]) (st1 := [.int q3, .ref a0]) dc_X11_belief_17 (tX11_at hW (wt hW (wt hW (wt hW i0 1 rfl rfl) 0 rfl rfl) 11 rfl rfl) hq3) mw_567 cs_X11_at rfl rfl rfl (Nat.le_of_ble_eq_true rfl) (Nat.le_of_ble_eq_true rfl) ⟨Nat.le_of_ble_eq_true rfl, Nat.le_of_ble_eq_true rfl⟩ ?_
  obtain ⟨q4, hq4, h⟩ := Option.bind_eq_some_iff.mp h
  refine ev_callV (av := [.int q3]) (st := []) (st1 := [.int q4]) dc_X11_belief_20 (tX11_beliefIn hW i0 hq4) mw_1059 cy_X11_beliefIn i0 (by decide) rfl rfl rfl rfl (Nat.le_of_ble_eq_true rfl) (Nat.le_of_ble_eq_true rfl) ⟨Nat.le_of_ble_eq_true rfl, Nat.le_of_ble_eq_true rfl⟩ ?_
  cases h
  exact ev_iretX dc_X11_belief_23 rfl ⟨Nat.le_of_ble_eq_true rfl, Nat.le_of_ble_eq_true rfl⟩ rfl rfl
theorem dc_X11_cheapest_0 : Dc miX11_cheapest 0 (.aload_n 0) 1 1 := ⟨by decide +kernel, rfl⟩
theorem dc_X11_cheapest_1 : Dc miX11_cheapest 1 (.iload_n 1) 1 2 := ⟨by decide +kernel, rfl⟩
theorem dc_X11_cheapest_2 : Dc miX11_cheapest 2 (.ifCond .lt 13) 3 5 := ⟨by decide +kernel, rfl⟩
theorem dc_X11_cheapest_5 : Dc miX11_cheapest 5 (.iload_n 1) 1 6 := ⟨by decide +kernel, rfl⟩
theorem dc_X11_cheapest_6 : Dc miX11_cheapest 6 (.bipush 99) 2 8 := ⟨by decide +kernel, rfl⟩
theorem dc_X11_cheapest_8 : Dc miX11_cheapest 8 (.if_icmp .gt 7) 3 11 := ⟨by decide +kernel, rfl⟩
theorem dc_X11_cheapest_11 : Dc miX11_cheapest 11 (.iconst 1) 1 12 := ⟨by decide +kernel, rfl⟩
theorem dc_X11_cheapest_12 : Dc miX11_cheapest 12 (.goto 4) 3 15 := ⟨by decide +kernel, rfl⟩
theorem dc_X11_cheapest_15 : Dc miX11_cheapest 15 (.iconst 0) 1 16 := ⟨by decide +kernel, rfl⟩
theorem dc_X11_cheapest_16 : Dc miX11_cheapest 16 (.invokevirtual 268) 3 19 := ⟨by decide +kernel, rfl⟩
theorem dc_X11_cheapest_19 : Dc miX11_cheapest 19 (.iconst (-1)) 1 20 := ⟨by decide +kernel, rfl⟩
theorem dc_X11_cheapest_20 : Dc miX11_cheapest 20 (.istore_n 3) 1 21 := ⟨by decide +kernel, rfl⟩
theorem dc_X11_cheapest_21 : Dc miX11_cheapest 21 (.sipush 1000) 3 24 := ⟨by decide +kernel, rfl⟩
theorem dc_X11_cheapest_24 : Dc miX11_cheapest 24 (.istore 4) 2 26 := ⟨by decide +kernel, rfl⟩
theorem dc_X11_cheapest_26 : Dc miX11_cheapest 26 (.iconst 0) 1 27 := ⟨by decide +kernel, rfl⟩
theorem dc_X11_cheapest_27 : Dc miX11_cheapest 27 (.istore 5) 2 29 := ⟨by decide +kernel, rfl⟩
theorem dc_X11_cheapest_29 : Dc miX11_cheapest 29 (.iload 5) 2 31 := ⟨by decide +kernel, rfl⟩
theorem dc_X11_cheapest_31 : Dc miX11_cheapest 31 (.iconst 1) 1 32 := ⟨by decide +kernel, rfl⟩
theorem dc_X11_cheapest_32 : Dc miX11_cheapest 32 (.aload_n 0) 1 33 := ⟨by decide +kernel, rfl⟩
theorem dc_X11_cheapest_33 : Dc miX11_cheapest 33 (.getfield 19) 3 36 := ⟨by decide +kernel, rfl⟩
theorem dc_X11_cheapest_36 : Dc miX11_cheapest 36 (.getfield 104) 3 39 := ⟨by decide +kernel, rfl⟩
theorem dc_X11_cheapest_39 : Dc miX11_cheapest 39 (.getfield 322) 3 42 := ⟨by decide +kernel, rfl⟩
theorem dc_X11_cheapest_42 : Dc miX11_cheapest 42 (.ishl) 1 43 := ⟨by decide +kernel, rfl⟩
theorem dc_X11_cheapest_43 : Dc miX11_cheapest 43 (.if_icmp .ge 47) 3 46 := ⟨by decide +kernel, rfl⟩
theorem dc_X11_cheapest_46 : Dc miX11_cheapest 46 (.aload_n 0) 1 47 := ⟨by decide +kernel, rfl⟩
theorem dc_X11_cheapest_47 : Dc miX11_cheapest 47 (.getfield 19) 3 50 := ⟨by decide +kernel, rfl⟩
theorem dc_X11_cheapest_50 : Dc miX11_cheapest 50 (.getfield 104) 3 53 := ⟨by decide +kernel, rfl⟩
theorem dc_X11_cheapest_53 : Dc miX11_cheapest 53 (.iload 5) 2 55 := ⟨by decide +kernel, rfl⟩
theorem dc_X11_cheapest_55 : Dc miX11_cheapest 55 (.invokevirtual 325) 3 58 := ⟨by decide +kernel, rfl⟩
theorem dc_X11_cheapest_58 : Dc miX11_cheapest 58 (.istore 6) 2 60 := ⟨by decide +kernel, rfl⟩
theorem dc_X11_cheapest_60 : Dc miX11_cheapest 60 (.iload 6) 2 62 := ⟨by decide +kernel, rfl⟩
theorem dc_X11_cheapest_62 : Dc miX11_cheapest 62 (.iload 4) 2 64 := ⟨by decide +kernel, rfl⟩
theorem dc_X11_cheapest_64 : Dc miX11_cheapest 64 (.if_icmp .ge 20) 3 67 := ⟨by decide +kernel, rfl⟩
theorem dc_X11_cheapest_67 : Dc miX11_cheapest 67 (.aload_n 0) 1 68 := ⟨by decide +kernel, rfl⟩
theorem dc_X11_cheapest_68 : Dc miX11_cheapest 68 (.iload 5) 2 70 := ⟨by decide +kernel, rfl⟩
theorem dc_X11_cheapest_70 : Dc miX11_cheapest 70 (.invokevirtual 328) 3 73 := ⟨by decide +kernel, rfl⟩
theorem dc_X11_cheapest_73 : Dc miX11_cheapest 73 (.iload_n 1) 1 74 := ⟨by decide +kernel, rfl⟩
theorem dc_X11_cheapest_74 : Dc miX11_cheapest 74 (.if_icmp .gt 10) 3 77 := ⟨by decide +kernel, rfl⟩
theorem dc_X11_cheapest_77 : Dc miX11_cheapest 77 (.iload 5) 2 79 := ⟨by decide +kernel, rfl⟩
theorem dc_X11_cheapest_79 : Dc miX11_cheapest 79 (.istore_n 3) 1 80 := ⟨by decide +kernel, rfl⟩
theorem dc_X11_cheapest_80 : Dc miX11_cheapest 80 (.iload 6) 2 82 := ⟨by decide +kernel, rfl⟩
theorem dc_X11_cheapest_82 : Dc miX11_cheapest 82 (.istore 4) 2 84 := ⟨by decide +kernel, rfl⟩
theorem dc_X11_cheapest_84 : Dc miX11_cheapest 84 (.iinc 5 1) 3 87 := ⟨by decide +kernel, rfl⟩
theorem dc_X11_cheapest_87 : Dc miX11_cheapest 87 (.goto (-58)) 3 90 := ⟨by decide +kernel, rfl⟩
theorem dc_X11_cheapest_90 : Dc miX11_cheapest 90 (.iload_n 2) 1 91 := ⟨by decide +kernel, rfl⟩
theorem dc_X11_cheapest_91 : Dc miX11_cheapest 91 (.ifCond .eq 11) 3 94 := ⟨by decide +kernel, rfl⟩
theorem dc_X11_cheapest_94 : Dc miX11_cheapest 94 (.iload 4) 2 96 := ⟨by decide +kernel, rfl⟩
theorem dc_X11_cheapest_96 : Dc miX11_cheapest 96 (.invokestatic 297) 3 99 := ⟨by decide +kernel, rfl⟩
theorem dc_X11_cheapest_99 : Dc miX11_cheapest 99 (.goto 4) 3 102 := ⟨by decide +kernel, rfl⟩
theorem dc_X11_cheapest_102 : Dc miX11_cheapest 102 (.iload_n 3) 1 103 := ⟨by decide +kernel, rfl⟩
theorem dc_X11_cheapest_103 : Dc miX11_cheapest 103 (.ireturn) 1 104 := ⟨by decide +kernel, rfl⟩
def fX11_cheapest_b29 (N : Nat) (G : pG) (a0 : Nat) (a1 : Int32) (a2 : Int32) : (Int32 × Int32 × Int32 × pS) → Option ((Int32 × pS) ⊕ (String × pS)) := lp (fun (k29 : Int32 × Int32 × Int32 × pS → Option ((Int32 × pS) ⊕ (String × pS))) (b : Int32 × Int32 × Int32 × pS) => if ((1 : Int32) <<< ((b.2.2.2.1 (pR G (pR G a0 1) 0) 3) &&& 31)) ≤ b.2.2.1 then (if a2 = 0 then (some (.inl (b.1, b.2.2.2))) else ((fX11_orNone N G b.2.1 b.2.2.2).bind (fun q1 => some (.inl (q1, b.2.2.2))))) else ((fX8_costsOf N G (pR G (pR G a0 1) 0) b.2.2.1 b.2.2.2).bind (fun q2 => if b.2.1 ≤ q2 then (k29 (b.1, b.2.1, b.2.2.1 + (1 : Int32), b.2.2.2)) else ((fX11_doubtBehind N G a0 b.2.2.1 b.2.2.2).bind (fun q3 => if a1 < q3.1 then (k29 (b.1, b.2.1, b.2.2.1 + (1 : Int32), q3.2)) else (k29 (b.2.2.1, q2, b.2.2.1 + (1 : Int32), q3.2))))))) N
set_option maxRecDepth 100000 in
set_option maxHeartbeats 4000000 in
theorem tX11_cheapest_b29 {N : Nat} {G : pG} {SK : Nat → Nat} {a0 : Nat} {a1 : Int32} {a2 : Int32} {b : Int32 × Int32 × Int32 × pS} {r : (Int32 × pS) ⊕ (String × pS)} (hW : WT G) (i0 : Is G a0 10) (h : fX11_cheapest_b29 N G a0 a1 a2 b = some r) : Ev miX11_cheapest (8, 1, 6) G (Zx G (xoI r) 1 6) SK (1, 6) 29 [some (.ref a0), some (.int a1), some (.int a2), some (.int b.1), some (.int b.2.1), some (.int b.2.2.1), none] [] b.2.2.2 := by
  unfold fX11_cheapest_b29 at h
  refine lp_ind (P := fun b r9 => r9 = r → Ev miX11_cheapest (8, 1, 6) G (Zx G (xoI r) 1 6) SK (1, 6) 29 [some (.ref a0), some (.int a1), some (.int a2), some (.int b.1), some (.int b.2.1), some (.int b.2.2.1), none] [] b.2.2.2) (fun k29 b r9 ih h9 e9 => ?_) N b r h rfl
  clear h
  subst e9
  have h := h9
  clear h9
  have hk29 : ∀ b : Int32 × Int32 × Int32 × pS, k29 b = some r9 → Ev miX11_cheapest (8, 1, 6) G (Zx G (xoI r9) 1 6) SK (1, 6) 29 [some (.ref a0), some (.int a1), some (.int a2), some (.int b.1), some (.int b.2.1), some (.int b.2.2.1), none] [] b.2.2.2 := fun b hb => ih b r9 hb rfl
  clear ih
  obtain ⟨x3, x4, x5, σ⟩ := b
  dsimp only at h ⊢
  refine ev_iload dc_X11_cheapest_29 rfl ?_
  refine ev_iconst (v := 1) dc_X11_cheapest_31 (by decide) ?_
  refine ev_aload_n dc_X11_cheapest_32 rfl ?_
  refine ev_getR dc_X11_cheapest_33 fi_X11_19 rfl i0 ?_
  refine ev_getR dc_X11_cheapest_36 fi_X11_104 rfl (wt hW i0 1 rfl rfl) ?_
  refine ev_getI dc_X11_cheapest_39 fi_X11_322 rfl (wt hW (wt hW i0 1 rfl rfl) 0 rfl rfl) ?_
  refine ev_ishl dc_X11_cheapest_42 ?_
  refine ev_icmp_ge (tgt := 90) dc_X11_cheapest_43 (by decide) h (fun h => ?_) (fun h => ?_)
  · refine ev_iload_n dc_X11_cheapest_90 rfl ?_
    refine ev_if_eq (tgt := 102) dc_X11_cheapest_91 (by decide) h (fun h => ?_) (fun h => ?_)
    · refine ev_iload_n dc_X11_cheapest_102 rfl ?_
      cases h
      exact ev_iretX dc_X11_cheapest_103 rfl ⟨Nat.le_of_ble_eq_true rfl, Nat.le_of_ble_eq_true rfl⟩ rfl rfl
    · refine ev_iload dc_X11_cheapest_94 rfl ?_
      obtain ⟨q1, hq1, h⟩ := Option.bind_eq_some_iff.mp h
      refine ev_callS (av := [.int x4]) (st := []) (st1 := [.int q1]) dc_X11_cheapest_96 (tX11_orNone hW hq1) mw_546 cs_X11_orNone rfl rfl rfl (Nat.le_of_ble_eq_true rfl) (Nat.le_of_ble_eq_true rfl) ⟨Nat.le_of_ble_eq_true rfl, Nat.le_of_ble_eq_true rfl⟩ ?_
      refine ev_goto (tgt := 103) dc_X11_cheapest_99 (by decide) ?_
      cases h
      exact ev_iretX dc_X11_cheapest_103 rfl ⟨Nat.le_of_ble_eq_true rfl, Nat.le_of_ble_eq_true rfl⟩ rfl rfl
  · refine ev_aload_n dc_X11_cheapest_46 rfl ?_
    refine ev_getR dc_X11_cheapest_47 fi_X11_19 rfl i0 ?_
    refine ev_getR dc_X11_cheapest_50 fi_X11_104 rfl (wt hW i0 1 rfl rfl) ?_
    refine ev_iload dc_X11_cheapest_53 rfl ?_
    obtain ⟨q2, hq2, h⟩ := Option.bind_eq_some_iff.mp h
    refine ev_callV (av := [.int x5]) (st := []) (st1 := [.int q2]) dc_X11_cheapest_55 (tX8_costsOf hW (wt hW (wt hW i0 1 rfl rfl) 0 rfl rfl) hq2) mw_1415 cy_X8_costsOf (wt hW (wt hW i0 1 rfl rfl) 0 rfl rfl) (by decide) rfl rfl rfl rfl (Nat.le_of_ble_eq_true rfl) (Nat.le_of_ble_eq_true rfl) ⟨Nat.le_of_ble_eq_true rfl, Nat.le_of_ble_eq_true rfl⟩ ?_
    refine ev_istore (lv' := [some (.ref a0), some (.int a1), some (.int a2), some (.int x3), some (.int x4), some (.int x5), some (.int q2)]) dc_X11_cheapest_58 rfl (by decide) rfl ?_
    refine ev_iload dc_X11_cheapest_60 rfl ?_
    refine ev_iload dc_X11_cheapest_62 rfl ?_
    refine ev_icmp_ge (tgt := 84) dc_X11_cheapest_64 (by decide) h (fun h => ?_) (fun h => ?_)
    · refine ev_iinc (v := 1) (lv' := [some (.ref a0), some (.int a1), some (.int a2), some (.int x3), some (.int x4), some (.int (x5 + (1 : Int32))), some (.int q2)]) dc_X11_cheapest_84 rfl (by decide) rfl (by decide) rfl ?_
      refine ev_goto (tgt := 29) dc_X11_cheapest_87 (by decide) ?_
      exact ev_sub (hk29 (x3, x4, x5 + (1 : Int32), σ) h) (And.intro rfl (And.intro rfl (And.intro rfl (And.intro rfl (And.intro rfl (And.intro rfl trivial))))))
    · refine ev_aload_n dc_X11_cheapest_67 rfl ?_
      refine ev_iload dc_X11_cheapest_68 rfl ?_
      obtain ⟨q3, hq3, h⟩ := Option.bind_eq_some_iff.mp h
      refine ev_callV (av := [.int x5]) (st := []) (st1 := [.int q3.1]) dc_X11_cheapest_70 (tX11_doubtBehind hW i0 hq3) mw_1419 cy_X11_doubtBehind i0 (by decide) rfl rfl rfl rfl (Nat.le_of_ble_eq_true rfl) (Nat.le_of_ble_eq_true rfl) ⟨Nat.le_of_ble_eq_true rfl, Nat.le_of_ble_eq_true rfl⟩ ?_
      refine ev_iload_n dc_X11_cheapest_73 rfl ?_
      refine ev_icmp_gt (tgt := 84) dc_X11_cheapest_74 (by decide) h (fun h => ?_) (fun h => ?_)
      · refine ev_iinc (v := 1) (lv' := [some (.ref a0), some (.int a1), some (.int a2), some (.int x3), some (.int x4), some (.int (x5 + (1 : Int32))), some (.int q2)]) dc_X11_cheapest_84 rfl (by decide) rfl (by decide) rfl ?_
        refine ev_goto (tgt := 29) dc_X11_cheapest_87 (by decide) ?_
        exact ev_sub (hk29 (x3, x4, x5 + (1 : Int32), q3.2) h) (And.intro rfl (And.intro rfl (And.intro rfl (And.intro rfl (And.intro rfl (And.intro rfl trivial))))))
      · refine ev_iload dc_X11_cheapest_77 rfl ?_
        refine ev_istore_n (lv' := [some (.ref a0), some (.int a1), some (.int a2), some (.int x5), some (.int x4), some (.int x5), some (.int q2)]) dc_X11_cheapest_79 rfl (by decide) rfl ?_
        refine ev_iload dc_X11_cheapest_80 rfl ?_
        refine ev_istore (lv' := [some (.ref a0), some (.int a1), some (.int a2), some (.int x5), some (.int q2), some (.int x5), some (.int q2)]) dc_X11_cheapest_82 rfl (by decide) rfl ?_
        refine ev_iinc (v := 1) (lv' := [some (.ref a0), some (.int a1), some (.int a2), some (.int x5), some (.int q2), some (.int (x5 + (1 : Int32))), some (.int q2)]) dc_X11_cheapest_84 rfl (by decide) rfl (by decide) rfl ?_
        refine ev_goto (tgt := 29) dc_X11_cheapest_87 (by decide) ?_
        exact ev_sub (hk29 (x5, q2, x5 + (1 : Int32), q3.2) h) (And.intro rfl (And.intro rfl (And.intro rfl (And.intro rfl (And.intro rfl (And.intro rfl trivial))))))
def fX11_cheapest_b16 (N : Nat) (G : pG) (a0 : Nat) (a1 : Int32) (a2 : Int32) (y1 : Int32) (σ : pS) : Option ((Int32 × pS) ⊕ (String × pS)) := (fX11_need N G a0 y1 σ).bind (fun q4 => q4.elim (fun zs5 => fX11_cheapest_b29 N G a0 a1 a2 ((-1 : Int32), (1000 : Int32), (0 : Int32), zs5)) (fun e => some (.inr e)))
set_option maxRecDepth 100000 in
set_option maxHeartbeats 4000000 in
theorem tX11_cheapest_b16 {N : Nat} {G : pG} {SK : Nat → Nat} {a0 : Nat} {a1 : Int32} {a2 : Int32} {y1 : Int32} {σ : pS} {r : (Int32 × pS) ⊕ (String × pS)} (hW : WT G) (i0 : Is G a0 10) (h : fX11_cheapest_b16 N G a0 a1 a2 y1 σ = some r) : Ev miX11_cheapest (8, 1, 6) G (Zx G (xoI r) 1 6) SK (0, 0) 16 [some (.ref a0), some (.int a1), some (.int a2), none, none, none, none] [.int y1, .ref a0] σ := by
  unfold fX11_cheapest_b16 at h
  obtain ⟨q4, hq4, h⟩ := Option.bind_eq_some_iff.mp h
  refine ev_callX (mc := 1) (ms := 6) (av := [.int y1]) (st := []) rfl dc_X11_cheapest_16 (tX11_need hW i0 hq4) mw_1228 cy_X11_need i0 (by decide) rfl rfl rfl (Nat.le_of_ble_eq_true rfl) (Nat.le_of_ble_eq_true rfl) ⟨Nat.le_of_ble_eq_true rfl, Nat.le_of_ble_eq_true rfl⟩ ?_ ?_
  · intro e he
    rcases q4 with zs5 | zs5
    · have he : (Sum.inl (none, zs5) : XO) = .inr e := he
      cases he
    · have he : (Sum.inr zs5 : XO) = .inr e := he
      cases he
      dsimp only [Sum.elim] at h
      cases h
      exact ⟨rfl, Nat.le_of_ble_eq_true rfl, Nat.le_of_ble_eq_true rfl⟩
  intro e he
  rcases q4 with zs5 | zs5
  rotate_left
  · have he : (Sum.inr zs5 : XO) = .inl e := he
    cases he
  have he : (Sum.inl (none, zs5) : XO) = .inl e := he
  cases he
  dsimp only [Sum.elim] at h
  show Ev miX11_cheapest (8, 1, 6) G (Zx G (xoI r) 1 6) SK (1, 6) 19 [some (.ref a0), some (.int a1), some (.int a2), none, none, none, none] [] zs5
  refine ev_iconst (v := (-1)) dc_X11_cheapest_19 (by decide) ?_
  refine ev_istore_n (lv' := [some (.ref a0), some (.int a1), some (.int a2), some (.int (-1 : Int32)), none, none, none]) dc_X11_cheapest_20 rfl (by decide) rfl ?_
  refine ev_sipush (v := 1000) dc_X11_cheapest_21 (by decide) ?_
  refine ev_istore (lv' := [some (.ref a0), some (.int a1), some (.int a2), some (.int (-1 : Int32)), some (.int (1000 : Int32)), none, none]) dc_X11_cheapest_24 rfl (by decide) rfl ?_
  refine ev_iconst (v := 0) dc_X11_cheapest_26 (by decide) ?_
  refine ev_istore (lv' := [some (.ref a0), some (.int a1), some (.int a2), some (.int (-1 : Int32)), some (.int (1000 : Int32)), some (.int (0 : Int32)), none]) dc_X11_cheapest_27 rfl (by decide) rfl ?_
  exact ev_sub (tX11_cheapest_b29 (b := ((-1 : Int32), (1000 : Int32), (0 : Int32), zs5)) hW i0 h) (And.intro rfl (And.intro rfl (And.intro rfl (And.intro rfl (And.intro rfl (And.intro rfl trivial))))))
def fX11_cheapest_b15 (N : Nat) (G : pG) (a0 : Nat) (a1 : Int32) (a2 : Int32) (σ : pS) : Option ((Int32 × pS) ⊕ (String × pS)) := fX11_cheapest_b16 N G a0 a1 a2 (0 : Int32) σ
set_option maxRecDepth 100000 in
set_option maxHeartbeats 4000000 in
theorem tX11_cheapest_b15 {N : Nat} {G : pG} {SK : Nat → Nat} {a0 : Nat} {a1 : Int32} {a2 : Int32} {σ : pS} {r : (Int32 × pS) ⊕ (String × pS)} (hW : WT G) (i0 : Is G a0 10) (h : fX11_cheapest_b15 N G a0 a1 a2 σ = some r) : Ev miX11_cheapest (8, 1, 6) G (Zx G (xoI r) 1 6) SK (0, 0) 15 [some (.ref a0), some (.int a1), some (.int a2), none, none, none, none] [.ref a0] σ := by
  unfold fX11_cheapest_b15 at h
  refine ev_iconst (v := 0) dc_X11_cheapest_15 (by decide) ?_
  exact ev_sub (tX11_cheapest_b16 hW i0 h) (And.intro rfl (And.intro rfl (And.intro rfl trivial)))
def fX11_cheapest (N : Nat) (G : pG) (a0 : Nat) (a1 : Int32) (a2 : Int32) (σ : pS) : Option ((Int32 × pS) ⊕ (String × pS)) := if a1 < 0 then (fX11_cheapest_b15 N G a0 a1 a2 σ) else (if (99 : Int32) < a1 then (fX11_cheapest_b15 N G a0 a1 a2 σ) else (fX11_cheapest_b16 N G a0 a1 a2 (1 : Int32) σ))
set_option maxRecDepth 100000 in
set_option maxHeartbeats 4000000 in
theorem tX11_cheapest {N : Nat} {G : pG} {SK : Nat → Nat} {a0 : Nat} {a1 : Int32} {a2 : Int32} {σ : pS} {r : (Int32 × pS) ⊕ (String × pS)} (hW : WT G) (i0 : Is G a0 10) (h : fX11_cheapest N G a0 a1 a2 σ = some r) : Dx miX11_cheapest yX11_cheapest 8 1 6 G SK [.ref a0, .int a1, .int a2] σ (xoI r) := by
  unfold fX11_cheapest at h
  refine dx_of (lv := [some (.ref a0), some (.int a1), some (.int a2), none, none, none, none]) (by decide) rfl rfl (Nat.le_of_ble_eq_true rfl) rfl ?_
  refine ev_aload_n dc_X11_cheapest_0 rfl ?_
  refine ev_iload_n dc_X11_cheapest_1 rfl ?_
  refine ev_if_lt (tgt := 15) dc_X11_cheapest_2 (by decide) h (fun h => ?_) (fun h => ?_)
  · exact ev_sub (tX11_cheapest_b15 hW i0 h) (And.intro rfl (And.intro rfl (And.intro rfl trivial)))
  · refine ev_iload_n dc_X11_cheapest_5 rfl ?_
    refine ev_bipush (v := 99) dc_X11_cheapest_6 (by decide) ?_
    refine ev_icmp_gt (tgt := 15) dc_X11_cheapest_8 (by decide) h (fun h => ?_) (fun h => ?_)
    · exact ev_sub (tX11_cheapest_b15 hW i0 h) (And.intro rfl (And.intro rfl (And.intro rfl trivial)))
    · refine ev_iconst (v := 1) dc_X11_cheapest_11 (by decide) ?_
      refine ev_goto (tgt := 16) dc_X11_cheapest_12 (by decide) ?_
      exact ev_sub (tX11_cheapest_b16 hW i0 h) (And.intro rfl (And.intro rfl (And.intro rfl trivial)))
theorem dc_X11_needWho_0 : Dc miX11_needWho 0 (.iload_n 1) 1 1 := ⟨by decide +kernel, rfl⟩
theorem dc_X11_needWho_1 : Dc miX11_needWho 1 (.ifCond .lt 17) 3 4 := ⟨by decide +kernel, rfl⟩
theorem dc_X11_needWho_4 : Dc miX11_needWho 4 (.iload_n 1) 1 5 := ⟨by decide +kernel, rfl⟩
theorem dc_X11_needWho_5 : Dc miX11_needWho 5 (.aload_n 0) 1 6 := ⟨by decide +kernel, rfl⟩
theorem dc_X11_needWho_6 : Dc miX11_needWho 6 (.getfield 19) 3 9 := ⟨by decide +kernel, rfl⟩
theorem dc_X11_needWho_9 : Dc miX11_needWho 9 (.getfield 104) 3 12 := ⟨by decide +kernel, rfl⟩
theorem dc_X11_needWho_12 : Dc miX11_needWho 12 (.getfield 310) 3 15 := ⟨by decide +kernel, rfl⟩
theorem dc_X11_needWho_15 : Dc miX11_needWho 15 (.if_icmp .lt 14) 3 18 := ⟨by decide +kernel, rfl⟩
theorem dc_X11_needWho_18 : Dc miX11_needWho 18 (.new 352) 3 21 := ⟨by decide +kernel, rfl⟩
theorem dc_X11_needWho_21 : Dc miX11_needWho 21 (.dup) 1 22 := ⟨by decide +kernel, rfl⟩
theorem dc_X11_needWho_22 : Dc miX11_needWho 22 (.ldc_w 407) 3 25 := ⟨by decide +kernel, rfl⟩
theorem dc_X11_needWho_25 : Dc miX11_needWho 25 (.invokespecial 356) 3 28 := ⟨by decide +kernel, rfl⟩
theorem dc_X11_needWho_28 : Dc miX11_needWho 28 (.athrow) 1 29 := ⟨by decide +kernel, rfl⟩
theorem dc_X11_needWho_29 : Dc miX11_needWho 29 (.return_) 1 30 := ⟨by decide +kernel, rfl⟩
def fX11_needWho (N : Nat) (G : pG) (a0 : Nat) (a1 : Int32) (σ : pS) : Option (pS ⊕ (String × pS)) := if a1 < 0 then (some (.inr ("java/lang/IndexOutOfBoundsException", σ))) else (if a1 < (σ.1 (pR G (pR G a0 1) 0) 4) then (some (.inl σ)) else (some (.inr ("java/lang/IndexOutOfBoundsException", σ))))
set_option maxRecDepth 100000 in
set_option maxHeartbeats 4000000 in
theorem tX11_needWho {N : Nat} {G : pG} {SK : Nat → Nat} {a0 : Nat} {a1 : Int32} {σ : pS} {r : pS ⊕ (String × pS)} (hW : WT G) (i0 : Is G a0 10) (h : fX11_needWho N G a0 a1 σ = some r) : Dx miX11_needWho yX11_needWho 7 1 6 G SK [.ref a0, .int a1] σ (xoV r) := by
  unfold fX11_needWho at h
  refine dx_of (lv := [some (.ref a0), some (.int a1)]) (by decide) rfl rfl (Nat.le_of_ble_eq_true rfl) rfl ?_
  refine ev_iload_n dc_X11_needWho_0 rfl ?_
  refine ev_if_lt (tgt := 18) dc_X11_needWho_1 (by decide) h (fun h => ?_) (fun h => ?_)
  · cases h
    exact ev_throwSW (tx := "nobody of that number at court") rfl dc_X11_needWho_18 dc_X11_needWho_21 dc_X11_needWho_22 dc_X11_needWho_25 dc_X11_needWho_28 mw_1043 (List.mem_of_getElem? (i := 34) rfl) xa_X11_356 (Nat.le_of_ble_eq_true rfl) (Nat.le_of_ble_eq_true rfl) ⟨Nat.le_of_ble_eq_true rfl, Nat.le_of_ble_eq_true rfl⟩ ⟨Nat.le_of_ble_eq_true rfl, Nat.le_of_ble_eq_true rfl⟩
  · refine ev_iload_n dc_X11_needWho_4 rfl ?_
    refine ev_aload_n dc_X11_needWho_5 rfl ?_
    refine ev_getR dc_X11_needWho_6 fi_X11_19 rfl i0 ?_
    refine ev_getR dc_X11_needWho_9 fi_X11_104 rfl (wt hW i0 1 rfl rfl) ?_
    refine ev_getI dc_X11_needWho_12 fi_X11_310 rfl (wt hW (wt hW i0 1 rfl rfl) 0 rfl rfl) ?_
    refine ev_icmp_lt (tgt := 29) dc_X11_needWho_15 (by decide) h (fun h => ?_) (fun h => ?_)
    · cases h
      exact ev_vretX dc_X11_needWho_29 rfl ⟨Nat.le_of_ble_eq_true rfl, Nat.le_of_ble_eq_true rfl⟩ rfl rfl
    · cases h
      exact ev_throwSW (tx := "nobody of that number at court") rfl dc_X11_needWho_18 dc_X11_needWho_21 dc_X11_needWho_22 dc_X11_needWho_25 dc_X11_needWho_28 mw_1043 (List.mem_of_getElem? (i := 34) rfl) xa_X11_356 (Nat.le_of_ble_eq_true rfl) (Nat.le_of_ble_eq_true rfl) ⟨Nat.le_of_ble_eq_true rfl, Nat.le_of_ble_eq_true rfl⟩ ⟨Nat.le_of_ble_eq_true rfl, Nat.le_of_ble_eq_true rfl⟩
theorem dc_X11_court_0 : Dc miX11_court 0 (.aload_n 0) 1 1 := ⟨by decide +kernel, rfl⟩
theorem dc_X11_court_1 : Dc miX11_court 1 (.iload_n 1) 1 2 := ⟨by decide +kernel, rfl⟩
theorem dc_X11_court_2 : Dc miX11_court 2 (.invokevirtual 174) 3 5 := ⟨by decide +kernel, rfl⟩
theorem dc_X11_court_5 : Dc miX11_court 5 (.iload_n 2) 1 6 := ⟨by decide +kernel, rfl⟩
theorem dc_X11_court_6 : Dc miX11_court 6 (.tableswitch 79 0 2 #[26, 41, 56]) 26 32 := ⟨by decide +kernel, rfl⟩
theorem dc_X11_court_32 : Dc miX11_court 32 (.aload_n 0) 1 33 := ⟨by decide +kernel, rfl⟩
theorem dc_X11_court_33 : Dc miX11_court 33 (.getfield 19) 3 36 := ⟨by decide +kernel, rfl⟩
theorem dc_X11_court_36 : Dc miX11_court 36 (.getfield 104) 3 39 := ⟨by decide +kernel, rfl⟩
theorem dc_X11_court_39 : Dc miX11_court 39 (.getfield 177) 3 42 := ⟨by decide +kernel, rfl⟩
theorem dc_X11_court_42 : Dc miX11_court 42 (.iload_n 1) 1 43 := ⟨by decide +kernel, rfl⟩
theorem dc_X11_court_43 : Dc miX11_court 43 (.invokestatic 148) 3 46 := ⟨by decide +kernel, rfl⟩
theorem dc_X11_court_46 : Dc miX11_court 46 (.ireturn) 1 47 := ⟨by decide +kernel, rfl⟩
theorem dc_X11_court_47 : Dc miX11_court 47 (.aload_n 0) 1 48 := ⟨by decide +kernel, rfl⟩
theorem dc_X11_court_48 : Dc miX11_court 48 (.getfield 19) 3 51 := ⟨by decide +kernel, rfl⟩
theorem dc_X11_court_51 : Dc miX11_court 51 (.getfield 155) 3 54 := ⟨by decide +kernel, rfl⟩
theorem dc_X11_court_54 : Dc miX11_court 54 (.getfield 180) 3 57 := ⟨by decide +kernel, rfl⟩
theorem dc_X11_court_57 : Dc miX11_court 57 (.iload_n 1) 1 58 := ⟨by decide +kernel, rfl⟩
theorem dc_X11_court_58 : Dc miX11_court 58 (.invokestatic 148) 3 61 := ⟨by decide +kernel, rfl⟩
theorem dc_X11_court_61 : Dc miX11_court 61 (.ireturn) 1 62 := ⟨by decide +kernel, rfl⟩
theorem dc_X11_court_62 : Dc miX11_court 62 (.aload_n 0) 1 63 := ⟨by decide +kernel, rfl⟩
theorem dc_X11_court_63 : Dc miX11_court 63 (.getfield 19) 3 66 := ⟨by decide +kernel, rfl⟩
theorem dc_X11_court_66 : Dc miX11_court 66 (.getfield 155) 3 69 := ⟨by decide +kernel, rfl⟩
theorem dc_X11_court_69 : Dc miX11_court 69 (.getfield 183) 3 72 := ⟨by decide +kernel, rfl⟩
theorem dc_X11_court_72 : Dc miX11_court 72 (.iload_n 1) 1 73 := ⟨by decide +kernel, rfl⟩
theorem dc_X11_court_73 : Dc miX11_court 73 (.invokestatic 161) 3 76 := ⟨by decide +kernel, rfl⟩
theorem dc_X11_court_76 : Dc miX11_court 76 (.ifCond .eq 7) 3 79 := ⟨by decide +kernel, rfl⟩
theorem dc_X11_court_79 : Dc miX11_court 79 (.iconst 1) 1 80 := ⟨by decide +kernel, rfl⟩
theorem dc_X11_court_80 : Dc miX11_court 80 (.goto 4) 3 83 := ⟨by decide +kernel, rfl⟩
theorem dc_X11_court_83 : Dc miX11_court 83 (.iconst 0) 1 84 := ⟨by decide +kernel, rfl⟩
theorem dc_X11_court_84 : Dc miX11_court 84 (.ireturn) 1 85 := ⟨by decide +kernel, rfl⟩
theorem dc_X11_court_85 : Dc miX11_court 85 (.new 169) 3 88 := ⟨by decide +kernel, rfl⟩
theorem dc_X11_court_88 : Dc miX11_court 88 (.dup) 1 89 := ⟨by decide +kernel, rfl⟩
theorem dc_X11_court_89 : Dc miX11_court 89 (.ldc 186) 2 91 := ⟨by decide +kernel, rfl⟩
theorem dc_X11_court_91 : Dc miX11_court 91 (.invokespecial 173) 3 94 := ⟨by decide +kernel, rfl⟩
theorem dc_X11_court_94 : Dc miX11_court 94 (.athrow) 1 95 := ⟨by decide +kernel, rfl⟩
def fX11_court (N : Nat) (G : pG) (a0 : Nat) (a1 : Int32) (a2 : Int32) (σ : pS) : Option ((Int32 × pS) ⊕ (String × pS)) := (fX11_needWho N G a0 a1 σ).bind (fun q1 => q1.elim (fun zs2 => if a2 = 0 then ((fX11_at N G (pR G (pR G (pR G a0 1) 0) 16) a1 zs2).bind (fun q3 => some (.inl (q3, zs2)))) else (if a2 = 1 then ((fX11_at N G (pR G (pR G (pR G a0 1) 2) 7) a1 zs2).bind (fun q4 => some (.inl (q4, zs2)))) else (if a2 = 2 then ((fX11_has N G (zs2.1 (pR G (pR G a0 1) 2) 4) a1 zs2).bind (fun q5 => if q5 = 0 then (some (.inl ((0 : Int32), zs2))) else (some (.inl ((1 : Int32), zs2))))) else (some (.inr ("java/util/NoSuchElementException", zs2)))))) (fun e => some (.inr e)))
set_option maxRecDepth 100000 in
set_option maxHeartbeats 4000000 in
theorem tX11_court {N : Nat} {G : pG} {SK : Nat → Nat} {a0 : Nat} {a1 : Int32} {a2 : Int32} {σ : pS} {r : (Int32 × pS) ⊕ (String × pS)} (hW : WT G) (i0 : Is G a0 10) (h : fX11_court N G a0 a1 a2 σ = some r) : Dx miX11_court yX11_court 8 2 12 G SK [.ref a0, .int a1, .int a2] σ (xoI r) := by
  unfold fX11_court at h
  refine dx_of (lv := [some (.ref a0), some (.int a1), some (.int a2)]) (by decide) rfl rfl (Nat.le_of_ble_eq_true rfl) rfl ?_
  refine ev_aload_n dc_X11_court_0 rfl ?_
  refine ev_iload_n dc_X11_court_1 rfl ?_
  obtain ⟨q1, hq1, h⟩ := Option.bind_eq_some_iff.mp h
  refine ev_callX (mc := 2) (ms := 12) (av := [.int a1]) (st := []) rfl dc_X11_court_2 (tX11_needWho hW i0 hq1) mw_1090 cy_X11_needWho i0 (by decide) rfl rfl rfl (Nat.le_of_ble_eq_true rfl) (Nat.le_of_ble_eq_true rfl) ⟨Nat.le_of_ble_eq_true rfl, Nat.le_of_ble_eq_true rfl⟩ ?_ ?_
  · intro e he
    rcases q1 with zs2 | zs2
    · have he : (Sum.inl (none, zs2) : XO) = .inr e := he
      cases he
    · have he : (Sum.inr zs2 : XO) = .inr e := he
      cases he
      dsimp only [Sum.elim] at h
      cases h
      exact ⟨rfl, Nat.le_of_ble_eq_true rfl, Nat.le_of_ble_eq_true rfl⟩
  intro e he
  rcases q1 with zs2 | zs2
  rotate_left
  · have he : (Sum.inr zs2 : XO) = .inl e := he
    cases he
  have he : (Sum.inl (none, zs2) : XO) = .inl e := he
  cases he
  dsimp only [Sum.elim] at h
  show Ev miX11_court (8, 2, 12) G (Zx G (xoI r) 2 12) SK (1, 6) 5 [some (.ref a0), some (.int a1), some (.int a2)] [] zs2
  refine ev_iload_n dc_X11_court_5 rfl ?_
  by_cases z0 : a2 = 0
  · rw [if_pos z0] at h
    refine ev_tabIn (tgt := 32) 0 z0 dc_X11_court_6 (by decide) (by decide) rfl (by decide) ?_
    refine ev_aload_n dc_X11_court_32 rfl ?_
    refine ev_getR dc_X11_court_33 fi_X11_19 rfl i0 ?_
    refine ev_getR dc_X11_court_36 fi_X11_104 rfl (wt hW i0 1 rfl rfl) ?_
    refine ev_getR dc_X11_court_39 fi_X11_177 rfl (wt hW (wt hW i0 1 rfl rfl) 0 rfl rfl) ?_
    refine ev_iload_n dc_X11_court_42 rfl ?_
    obtain ⟨q3, hq3, h⟩ := Option.bind_eq_some_iff.mp h
    refine ev_callS (av := [.ref (pR G (pR G (pR G a0 1) 0) 16), .int a1]) (st := []) (st1 := [.int q3]) dc_X11_court_43 (tX11_at hW (wt hW (wt hW (wt hW i0 1 rfl rfl) 0 rfl rfl) 16 rfl rfl) hq3) mw_567 cs_X11_at rfl rfl rfl (Nat.le_of_ble_eq_true rfl) (Nat.le_of_ble_eq_true rfl) ⟨Nat.le_of_ble_eq_true rfl, Nat.le_of_ble_eq_true rfl⟩ ?_
    cases h
    exact ev_iretX dc_X11_court_46 rfl ⟨Nat.le_of_ble_eq_true rfl, Nat.le_of_ble_eq_true rfl⟩ rfl rfl
  rw [if_neg z0] at h
  by_cases z1 : a2 = 1
  · rw [if_pos z1] at h
    refine ev_tabIn (tgt := 47) 1 z1 dc_X11_court_6 (by decide) (by decide) rfl (by decide) ?_
    refine ev_aload_n dc_X11_court_47 rfl ?_
    refine ev_getR dc_X11_court_48 fi_X11_19 rfl i0 ?_
    refine ev_getR dc_X11_court_51 fi_X11_155 rfl (wt hW i0 1 rfl rfl) ?_
    refine ev_getR dc_X11_court_54 fi_X11_180 rfl (wt hW (wt hW i0 1 rfl rfl) 2 rfl rfl) ?_
    refine ev_iload_n dc_X11_court_57 rfl ?_
    obtain ⟨q4, hq4, h⟩ := Option.bind_eq_some_iff.mp h
    refine ev_callS (av := [.ref (pR G (pR G (pR G a0 1) 2) 7), .int a1]) (st := []) (st1 := [.int q4]) dc_X11_court_58 (tX11_at hW (wt hW (wt hW (wt hW i0 1 rfl rfl) 2 rfl rfl) 7 rfl rfl) hq4) mw_567 cs_X11_at rfl rfl rfl (Nat.le_of_ble_eq_true rfl) (Nat.le_of_ble_eq_true rfl) ⟨Nat.le_of_ble_eq_true rfl, Nat.le_of_ble_eq_true rfl⟩ ?_
    cases h
    exact ev_iretX dc_X11_court_61 rfl ⟨Nat.le_of_ble_eq_true rfl, Nat.le_of_ble_eq_true rfl⟩ rfl rfl
  rw [if_neg z1] at h
  by_cases z2 : a2 = 2
  · rw [if_pos z2] at h
    refine ev_tabIn (tgt := 62) 2 z2 dc_X11_court_6 (by decide) (by decide) rfl (by decide) ?_
    refine ev_aload_n dc_X11_court_62 rfl ?_
    refine ev_getR dc_X11_court_63 fi_X11_19 rfl i0 ?_
    refine ev_getR dc_X11_court_66 fi_X11_155 rfl (wt hW i0 1 rfl rfl) ?_
    refine ev_getI dc_X11_court_69 fi_X11_183 rfl (wt hW (wt hW i0 1 rfl rfl) 2 rfl rfl) ?_
    refine ev_iload_n dc_X11_court_72 rfl ?_
    obtain ⟨q5, hq5, h⟩ := Option.bind_eq_some_iff.mp h
    refine ev_callS (av := [.int (zs2.1 (pR G (pR G a0 1) 2) 4), .int a1]) (st := []) (st1 := [.int q5]) dc_X11_court_73 (tX11_has hW hq5) mw_566 cs_X11_has rfl rfl rfl (Nat.le_of_ble_eq_true rfl) (Nat.le_of_ble_eq_true rfl) ⟨Nat.le_of_ble_eq_true rfl, Nat.le_of_ble_eq_true rfl⟩ ?_
    refine ev_if_eq (tgt := 83) dc_X11_court_76 (by decide) h (fun h => ?_) (fun h => ?_)
    · refine ev_iconst (v := 0) dc_X11_court_83 (by decide) ?_
      cases h
      exact ev_iretX dc_X11_court_84 rfl ⟨Nat.le_of_ble_eq_true rfl, Nat.le_of_ble_eq_true rfl⟩ rfl rfl
    · refine ev_iconst (v := 1) dc_X11_court_79 (by decide) ?_
      refine ev_goto (tgt := 84) dc_X11_court_80 (by decide) ?_
      cases h
      exact ev_iretX dc_X11_court_84 rfl ⟨Nat.le_of_ble_eq_true rfl, Nat.le_of_ble_eq_true rfl⟩ rfl rfl
  rw [if_neg z2] at h
  refine ev_tabOut (tgt := 85) dc_X11_court_6 ?_ (by decide) ?_
  · exact sw_out (lo := 0) (vs := [0, 1, 2]) (by decide) (by decide) (And.intro z0 (And.intro z1 (And.intro z2 trivial)))
  cases h
  exact ev_throwN (tx := "no such thing of one of the court") rfl dc_X11_court_85 dc_X11_court_88 dc_X11_court_89 dc_X11_court_91 dc_X11_court_94 mw_1067 (List.mem_of_getElem? (i := 35) rfl) xn_X11_173 (Nat.le_of_ble_eq_true rfl) (Nat.le_of_ble_eq_true rfl) ⟨Nat.le_of_ble_eq_true rfl, Nat.le_of_ble_eq_true rfl⟩ ⟨Nat.le_of_ble_eq_true rfl, Nat.le_of_ble_eq_true rfl⟩
theorem dc_X11_crumb_0 : Dc miX11_crumb 0 (.aload_n 0) 1 1 := ⟨by decide +kernel, rfl⟩
theorem dc_X11_crumb_1 : Dc miX11_crumb 1 (.iload_n 1) 1 2 := ⟨by decide +kernel, rfl⟩
theorem dc_X11_crumb_2 : Dc miX11_crumb 2 (.invokevirtual 254) 3 5 := ⟨by decide +kernel, rfl⟩
theorem dc_X11_crumb_5 : Dc miX11_crumb 5 (.aload_n 0) 1 6 := ⟨by decide +kernel, rfl⟩
theorem dc_X11_crumb_6 : Dc miX11_crumb 6 (.getfield 19) 3 9 := ⟨by decide +kernel, rfl⟩
theorem dc_X11_crumb_9 : Dc miX11_crumb 9 (.getfield 155) 3 12 := ⟨by decide +kernel, rfl⟩
theorem dc_X11_crumb_12 : Dc miX11_crumb 12 (.getfield 216) 3 15 := ⟨by decide +kernel, rfl⟩
theorem dc_X11_crumb_15 : Dc miX11_crumb 15 (.ifCond .ne 16) 3 18 := ⟨by decide +kernel, rfl⟩
theorem dc_X11_crumb_18 : Dc miX11_crumb 18 (.aload_n 0) 1 19 := ⟨by decide +kernel, rfl⟩
theorem dc_X11_crumb_19 : Dc miX11_crumb 19 (.getfield 19) 3 22 := ⟨by decide +kernel, rfl⟩
theorem dc_X11_crumb_22 : Dc miX11_crumb 22 (.getfield 104) 3 25 := ⟨by decide +kernel, rfl⟩
theorem dc_X11_crumb_25 : Dc miX11_crumb 25 (.getfield 248) 3 28 := ⟨by decide +kernel, rfl⟩
theorem dc_X11_crumb_28 : Dc miX11_crumb 28 (.ifCond .ne 14) 3 31 := ⟨by decide +kernel, rfl⟩
theorem dc_X11_crumb_31 : Dc miX11_crumb 31 (.new 219) 3 34 := ⟨by decide +kernel, rfl⟩
theorem dc_X11_crumb_34 : Dc miX11_crumb 34 (.dup) 1 35 := ⟨by decide +kernel, rfl⟩
theorem dc_X11_crumb_35 : Dc miX11_crumb 35 (.ldc_w 257) 3 38 := ⟨by decide +kernel, rfl⟩
theorem dc_X11_crumb_38 : Dc miX11_crumb 38 (.invokespecial 223) 3 41 := ⟨by decide +kernel, rfl⟩
theorem dc_X11_crumb_41 : Dc miX11_crumb 41 (.athrow) 1 42 := ⟨by decide +kernel, rfl⟩
theorem dc_X11_crumb_42 : Dc miX11_crumb 42 (.aload_n 0) 1 43 := ⟨by decide +kernel, rfl⟩
theorem dc_X11_crumb_43 : Dc miX11_crumb 43 (.getfield 32) 3 46 := ⟨by decide +kernel, rfl⟩
theorem dc_X11_crumb_46 : Dc miX11_crumb 46 (.aload_n 0) 1 47 := ⟨by decide +kernel, rfl⟩
theorem dc_X11_crumb_47 : Dc miX11_crumb 47 (.getfield 19) 3 50 := ⟨by decide +kernel, rfl⟩
theorem dc_X11_crumb_50 : Dc miX11_crumb 50 (.getfield 155) 3 53 := ⟨by decide +kernel, rfl⟩
theorem dc_X11_crumb_53 : Dc miX11_crumb 53 (.invokevirtual 224) 3 56 := ⟨by decide +kernel, rfl⟩
theorem dc_X11_crumb_56 : Dc miX11_crumb 56 (.aload_n 0) 1 57 := ⟨by decide +kernel, rfl⟩
theorem dc_X11_crumb_57 : Dc miX11_crumb 57 (.getfield 19) 3 60 := ⟨by decide +kernel, rfl⟩
theorem dc_X11_crumb_60 : Dc miX11_crumb 60 (.getfield 155) 3 63 := ⟨by decide +kernel, rfl⟩
theorem dc_X11_crumb_63 : Dc miX11_crumb 63 (.aload_n 0) 1 64 := ⟨by decide +kernel, rfl⟩
theorem dc_X11_crumb_64 : Dc miX11_crumb 64 (.getfield 19) 3 67 := ⟨by decide +kernel, rfl⟩
theorem dc_X11_crumb_67 : Dc miX11_crumb 67 (.getfield 104) 3 70 := ⟨by decide +kernel, rfl⟩
theorem dc_X11_crumb_70 : Dc miX11_crumb 70 (.aload_n 0) 1 71 := ⟨by decide +kernel, rfl⟩
theorem dc_X11_crumb_71 : Dc miX11_crumb 71 (.getfield 19) 3 74 := ⟨by decide +kernel, rfl⟩
theorem dc_X11_crumb_74 : Dc miX11_crumb 74 (.getfield 155) 3 77 := ⟨by decide +kernel, rfl⟩
theorem dc_X11_crumb_77 : Dc miX11_crumb 77 (.getfield 158) 3 80 := ⟨by decide +kernel, rfl⟩
theorem dc_X11_crumb_80 : Dc miX11_crumb 80 (.aload_n 0) 1 81 := ⟨by decide +kernel, rfl⟩
theorem dc_X11_crumb_81 : Dc miX11_crumb 81 (.getfield 19) 3 84 := ⟨by decide +kernel, rfl⟩
theorem dc_X11_crumb_84 : Dc miX11_crumb 84 (.getfield 155) 3 87 := ⟨by decide +kernel, rfl⟩
theorem dc_X11_crumb_87 : Dc miX11_crumb 87 (.getfield 245) 3 90 := ⟨by decide +kernel, rfl⟩
theorem dc_X11_crumb_90 : Dc miX11_crumb 90 (.iload_n 1) 1 91 := ⟨by decide +kernel, rfl⟩
theorem dc_X11_crumb_91 : Dc miX11_crumb 91 (.invokevirtual 259) 3 94 := ⟨by decide +kernel, rfl⟩
theorem dc_X11_crumb_94 : Dc miX11_crumb 94 (.putfield 158) 3 97 := ⟨by decide +kernel, rfl⟩
theorem dc_X11_crumb_97 : Dc miX11_crumb 97 (.aload_n 0) 1 98 := ⟨by decide +kernel, rfl⟩
theorem dc_X11_crumb_98 : Dc miX11_crumb 98 (.getfield 19) 3 101 := ⟨by decide +kernel, rfl⟩
theorem dc_X11_crumb_101 : Dc miX11_crumb 101 (.getfield 155) 3 104 := ⟨by decide +kernel, rfl⟩
theorem dc_X11_crumb_104 : Dc miX11_crumb 104 (.getfield 158) 3 107 := ⟨by decide +kernel, rfl⟩
theorem dc_X11_crumb_107 : Dc miX11_crumb 107 (.invokestatic 263) 3 110 := ⟨by decide +kernel, rfl⟩
theorem dc_X11_crumb_110 : Dc miX11_crumb 110 (.ireturn) 1 111 := ⟨by decide +kernel, rfl⟩
def fX11_crumb (N : Nat) (G : pG) (a0 : Nat) (a1 : Int32) (σ : pS) : Option ((Int32 × pS) ⊕ (String × pS)) := (fX11_needTrait N G a0 a1 σ).bind (fun q1 => q1.elim (fun zs2 => if (zs2.1 (pR G (pR G a0 1) 2) 6) = 0 then (if (zs2.1 (pR G (pR G a0 1) 0) 1) = 0 then (some (.inr ("java/lang/IllegalStateException", zs2))) else ((fX4_remember N G (pR G a0 4) (pR G (pR G a0 1) 2) zs2).bind (fun q3 => (fX8_narrowed N G (pR G (pR G a0 1) 0) (q3.1 (pR G (pR G a0 1) 2) 3) (q3.1 (pR G (pR G a0 1) 2) 2) a1 q3).bind (fun q4 => (fJ6_bitCount_0f7a4 N G ((putF q3 (pR G (pR G a0 1) 2) 3 q4).1 (pR G (pR G a0 1) 2) 3) (putF q3 (pR G (pR G a0 1) 2) 3 q4)).bind (fun q5 => some (.inl (q5, putF q3 (pR G (pR G a0 1) 2) 3 q4))))))) else (some (.inr ("java/lang/IllegalStateException", zs2)))) (fun e => some (.inr e)))
set_option maxRecDepth 100000 in
set_option maxHeartbeats 4000000 in
theorem tX11_crumb {N : Nat} {G : pG} {SK : Nat → Nat} {a0 : Nat} {a1 : Int32} {σ : pS} {r : (Int32 × pS) ⊕ (String × pS)} (hW : WT G) (i0 : Is G a0 10) (h : fX11_crumb N G a0 a1 σ = some r) : Dx miX11_crumb yX11_crumb 8 2 12 G SK [.ref a0, .int a1] σ (xoI r) := by
  unfold fX11_crumb at h
  refine dx_of (lv := [some (.ref a0), some (.int a1)]) (by decide) rfl rfl (Nat.le_of_ble_eq_true rfl) rfl ?_
  refine ev_aload_n dc_X11_crumb_0 rfl ?_
  refine ev_iload_n dc_X11_crumb_1 rfl ?_
  obtain ⟨q1, hq1, h⟩ := Option.bind_eq_some_iff.mp h
  refine ev_callX (mc := 2) (ms := 12) (av := [.int a1]) (st := []) rfl dc_X11_crumb_2 (tX11_needTrait hW i0 hq1) mw_1215 cy_X11_needTrait i0 (by decide) rfl rfl rfl (Nat.le_of_ble_eq_true rfl) (Nat.le_of_ble_eq_true rfl) ⟨Nat.le_of_ble_eq_true rfl, Nat.le_of_ble_eq_true rfl⟩ ?_ ?_
  · intro e he
    rcases q1 with zs2 | zs2
    · have he : (Sum.inl (none, zs2) : XO) = .inr e := he
      cases he
    · have he : (Sum.inr zs2 : XO) = .inr e := he
      cases he
      dsimp only [Sum.elim] at h
      cases h
      exact ⟨rfl, Nat.le_of_ble_eq_true rfl, Nat.le_of_ble_eq_true rfl⟩
  intro e he
  rcases q1 with zs2 | zs2
  rotate_left
  · have he : (Sum.inr zs2 : XO) = .inl e := he
    cases he
  have he : (Sum.inl (none, zs2) : XO) = .inl e := he
  cases he
  dsimp only [Sum.elim] at h
  show Ev miX11_crumb (8, 2, 12) G (Zx G (xoI r) 2 12) SK (1, 6) 5 [some (.ref a0), some (.int a1)] [] zs2
  refine ev_aload_n dc_X11_crumb_5 rfl ?_
  refine ev_getR dc_X11_crumb_6 fi_X11_19 rfl i0 ?_
  refine ev_getR dc_X11_crumb_9 fi_X11_155 rfl (wt hW i0 1 rfl rfl) ?_
  refine ev_getI dc_X11_crumb_12 fi_X11_216 rfl (wt hW (wt hW i0 1 rfl rfl) 2 rfl rfl) ?_
  refine ev_if_ne (tgt := 31) dc_X11_crumb_15 (by decide) h (fun h => ?_) (fun h => ?_)
  · refine ev_aload_n dc_X11_crumb_18 rfl ?_
    refine ev_getR dc_X11_crumb_19 fi_X11_19 rfl i0 ?_
    refine ev_getR dc_X11_crumb_22 fi_X11_104 rfl (wt hW i0 1 rfl rfl) ?_
    refine ev_getI dc_X11_crumb_25 fi_X11_248 rfl (wt hW (wt hW i0 1 rfl rfl) 0 rfl rfl) ?_
    refine ev_if_ne (tgt := 42) dc_X11_crumb_28 (by decide) h (fun h => ?_) (fun h => ?_)
    · cases h
      exact ev_throwSW (tx := "he is gone, or there is no name") rfl dc_X11_crumb_31 dc_X11_crumb_34 dc_X11_crumb_35 dc_X11_crumb_38 dc_X11_crumb_41 mw_1140 (List.mem_of_getElem? (i := 42) rfl) xa_X11_223 (Nat.le_of_ble_eq_true rfl) (Nat.le_of_ble_eq_true rfl) ⟨Nat.le_of_ble_eq_true rfl, Nat.le_of_ble_eq_true rfl⟩ ⟨Nat.le_of_ble_eq_true rfl, Nat.le_of_ble_eq_true rfl⟩
    · refine ev_aload_n dc_X11_crumb_42 rfl ?_
      refine ev_getR dc_X11_crumb_43 fi_X11_32 rfl i0 ?_
      refine ev_aload_n dc_X11_crumb_46 rfl ?_
      refine ev_getR dc_X11_crumb_47 fi_X11_19 rfl i0 ?_
      refine ev_getR dc_X11_crumb_50 fi_X11_155 rfl (wt hW i0 1 rfl rfl) ?_
      obtain ⟨q3, hq3, h⟩ := Option.bind_eq_some_iff.mp h
      refine ev_callV (av := [.ref (pR G (pR G a0 1) 2)]) (st := []) (st1 := []) dc_X11_crumb_53 (tX4_remember hW (wt hW i0 4 rfl rfl) (wt hW (wt hW i0 1 rfl rfl) 2 rfl rfl) hq3) mw_1156 cy_X4_remember (wt hW i0 4 rfl rfl) (by decide) rfl rfl rfl rfl (Nat.le_of_ble_eq_true rfl) (Nat.le_of_ble_eq_true rfl) ⟨Nat.le_of_ble_eq_true rfl, Nat.le_of_ble_eq_true rfl⟩ ?_
      refine ev_aload_n dc_X11_crumb_56 rfl ?_
      refine ev_getR dc_X11_crumb_57 fi_X11_19 rfl i0 ?_
      refine ev_getR dc_X11_crumb_60 fi_X11_155 rfl (wt hW i0 1 rfl rfl) ?_
      refine ev_aload_n dc_X11_crumb_63 rfl ?_
      refine ev_getR dc_X11_crumb_64 fi_X11_19 rfl i0 ?_
      refine ev_getR dc_X11_crumb_67 fi_X11_104 rfl (wt hW i0 1 rfl rfl) ?_
      refine ev_aload_n dc_X11_crumb_70 rfl ?_
      refine ev_getR dc_X11_crumb_71 fi_X11_19 rfl i0 ?_
      refine ev_getR dc_X11_crumb_74 fi_X11_155 rfl (wt hW i0 1 rfl rfl) ?_
      refine ev_getI dc_X11_crumb_77 fi_X11_158 rfl (wt hW (wt hW i0 1 rfl rfl) 2 rfl rfl) ?_
      refine ev_aload_n dc_X11_crumb_80 rfl ?_
      refine ev_getR dc_X11_crumb_81 fi_X11_19 rfl i0 ?_
      refine ev_getR dc_X11_crumb_84 fi_X11_155 rfl (wt hW i0 1 rfl rfl) ?_
      refine ev_getI dc_X11_crumb_87 fi_X11_245 rfl (wt hW (wt hW i0 1 rfl rfl) 2 rfl rfl) ?_
      refine ev_iload_n dc_X11_crumb_90 rfl ?_
      obtain ⟨q4, hq4, h⟩ := Option.bind_eq_some_iff.mp h
      refine ev_callV (av := [.int (q3.1 (pR G (pR G a0 1) 2) 3), .int (q3.1 (pR G (pR G a0 1) 2) 2), .int a1]) (st := [.ref (pR G (pR G a0 1) 2)]) (st1 := [.int q4, .ref (pR G (pR G a0 1) 2)]) dc_X11_crumb_91 (tX8_narrowed hW (wt hW (wt hW i0 1 rfl rfl) 0 rfl rfl) hq4) mw_553 cy_X8_narrowed (wt hW (wt hW i0 1 rfl rfl) 0 rfl rfl) (by decide) rfl rfl rfl rfl (Nat.le_of_ble_eq_true rfl) (Nat.le_of_ble_eq_true rfl) ⟨Nat.le_of_ble_eq_true rfl, Nat.le_of_ble_eq_true rfl⟩ ?_
      refine ev_putI dc_X11_crumb_94 fi_X11_158 rfl (wt hW (wt hW i0 1 rfl rfl) 2 rfl rfl) ?_
      refine ev_aload_n dc_X11_crumb_97 rfl ?_
      refine ev_getR dc_X11_crumb_98 fi_X11_19 rfl i0 ?_
      refine ev_getR dc_X11_crumb_101 fi_X11_155 rfl (wt hW i0 1 rfl rfl) ?_
      refine ev_getI dc_X11_crumb_104 fi_X11_158 rfl (wt hW (wt hW i0 1 rfl rfl) 2 rfl rfl) ?_
      obtain ⟨q5, hq5, h⟩ := Option.bind_eq_some_iff.mp h
      refine ev_callS (av := [.int ((putF q3 (pR G (pR G a0 1) 2) 3 q4).1 (pR G (pR G a0 1) 2) 3)]) (st := []) (st1 := [.int q5]) dc_X11_crumb_107 (tJ6_bitCount_0f7a4 hW hq5) mw_576 cs_J6_bitCount_0f7a4 rfl rfl rfl (Nat.le_of_ble_eq_true rfl) (Nat.le_of_ble_eq_true rfl) ⟨Nat.le_of_ble_eq_true rfl, Nat.le_of_ble_eq_true rfl⟩ ?_
      cases h
      exact ev_iretX dc_X11_crumb_110 rfl ⟨Nat.le_of_ble_eq_true rfl, Nat.le_of_ble_eq_true rfl⟩ rfl rfl
  · cases h
    exact ev_throwSW (tx := "he is gone, or there is no name") rfl dc_X11_crumb_31 dc_X11_crumb_34 dc_X11_crumb_35 dc_X11_crumb_38 dc_X11_crumb_41 mw_1140 (List.mem_of_getElem? (i := 42) rfl) xa_X11_223 (Nat.le_of_ble_eq_true rfl) (Nat.le_of_ble_eq_true rfl) ⟨Nat.le_of_ble_eq_true rfl, Nat.le_of_ble_eq_true rfl⟩ ⟨Nat.le_of_ble_eq_true rfl, Nat.le_of_ble_eq_true rfl⟩
theorem dc_X11_deed_0 : Dc miX11_deed 0 (.aload_n 0) 1 1 := ⟨by decide +kernel, rfl⟩
theorem dc_X11_deed_1 : Dc miX11_deed 1 (.iload_n 1) 1 2 := ⟨by decide +kernel, rfl⟩
theorem dc_X11_deed_2 : Dc miX11_deed 2 (.invokevirtual 197) 3 5 := ⟨by decide +kernel, rfl⟩
theorem dc_X11_deed_5 : Dc miX11_deed 5 (.iload_n 2) 1 6 := ⟨by decide +kernel, rfl⟩
theorem dc_X11_deed_6 : Dc miX11_deed 6 (.tableswitch 72 0 2 #[26, 41, 56]) 26 32 := ⟨by decide +kernel, rfl⟩
theorem dc_X11_deed_32 : Dc miX11_deed 32 (.aload_n 0) 1 33 := ⟨by decide +kernel, rfl⟩
theorem dc_X11_deed_33 : Dc miX11_deed 33 (.getfield 19) 3 36 := ⟨by decide +kernel, rfl⟩
theorem dc_X11_deed_36 : Dc miX11_deed 36 (.getfield 104) 3 39 := ⟨by decide +kernel, rfl⟩
theorem dc_X11_deed_39 : Dc miX11_deed 39 (.getfield 200) 3 42 := ⟨by decide +kernel, rfl⟩
theorem dc_X11_deed_42 : Dc miX11_deed 42 (.iload_n 1) 1 43 := ⟨by decide +kernel, rfl⟩
theorem dc_X11_deed_43 : Dc miX11_deed 43 (.invokestatic 148) 3 46 := ⟨by decide +kernel, rfl⟩
theorem dc_X11_deed_46 : Dc miX11_deed 46 (.ireturn) 1 47 := ⟨by decide +kernel, rfl⟩
theorem dc_X11_deed_47 : Dc miX11_deed 47 (.aload_n 0) 1 48 := ⟨by decide +kernel, rfl⟩
theorem dc_X11_deed_48 : Dc miX11_deed 48 (.getfield 19) 3 51 := ⟨by decide +kernel, rfl⟩
theorem dc_X11_deed_51 : Dc miX11_deed 51 (.getfield 104) 3 54 := ⟨by decide +kernel, rfl⟩
theorem dc_X11_deed_54 : Dc miX11_deed 54 (.getfield 203) 3 57 := ⟨by decide +kernel, rfl⟩
theorem dc_X11_deed_57 : Dc miX11_deed 57 (.iload_n 1) 1 58 := ⟨by decide +kernel, rfl⟩
theorem dc_X11_deed_58 : Dc miX11_deed 58 (.invokestatic 148) 3 61 := ⟨by decide +kernel, rfl⟩
theorem dc_X11_deed_61 : Dc miX11_deed 61 (.ireturn) 1 62 := ⟨by decide +kernel, rfl⟩
theorem dc_X11_deed_62 : Dc miX11_deed 62 (.aload_n 0) 1 63 := ⟨by decide +kernel, rfl⟩
theorem dc_X11_deed_63 : Dc miX11_deed 63 (.getfield 19) 3 66 := ⟨by decide +kernel, rfl⟩
theorem dc_X11_deed_66 : Dc miX11_deed 66 (.aload_n 0) 1 67 := ⟨by decide +kernel, rfl⟩
theorem dc_X11_deed_67 : Dc miX11_deed 67 (.getfield 19) 3 70 := ⟨by decide +kernel, rfl⟩
theorem dc_X11_deed_70 : Dc miX11_deed 70 (.getfield 155) 3 73 := ⟨by decide +kernel, rfl⟩
theorem dc_X11_deed_73 : Dc miX11_deed 73 (.iload_n 1) 1 74 := ⟨by decide +kernel, rfl⟩
theorem dc_X11_deed_74 : Dc miX11_deed 74 (.invokevirtual 206) 3 77 := ⟨by decide +kernel, rfl⟩
theorem dc_X11_deed_77 : Dc miX11_deed 77 (.ireturn) 1 78 := ⟨by decide +kernel, rfl⟩
theorem dc_X11_deed_78 : Dc miX11_deed 78 (.new 169) 3 81 := ⟨by decide +kernel, rfl⟩
theorem dc_X11_deed_81 : Dc miX11_deed 81 (.dup) 1 82 := ⟨by decide +kernel, rfl⟩
theorem dc_X11_deed_82 : Dc miX11_deed 82 (.ldc 210) 2 84 := ⟨by decide +kernel, rfl⟩
theorem dc_X11_deed_84 : Dc miX11_deed 84 (.invokespecial 173) 3 87 := ⟨by decide +kernel, rfl⟩
theorem dc_X11_deed_87 : Dc miX11_deed 87 (.athrow) 1 88 := ⟨by decide +kernel, rfl⟩
def fX11_deed (N : Nat) (G : pG) (a0 : Nat) (a1 : Int32) (a2 : Int32) (σ : pS) : Option ((Int32 × pS) ⊕ (String × pS)) := (fX11_needDeed N G a0 a1 σ).bind (fun q1 => q1.elim (fun zs2 => if a2 = 0 then ((fX11_at N G (pR G (pR G (pR G a0 1) 0) 14) a1 zs2).bind (fun q3 => some (.inl (q3, zs2)))) else (if a2 = 1 then ((fX11_at N G (pR G (pR G (pR G a0 1) 0) 15) a1 zs2).bind (fun q4 => some (.inl (q4, zs2)))) else (if a2 = 2 then ((fX10_easeOf N G (pR G a0 1) (pR G (pR G a0 1) 2) a1 zs2).bind (fun q5 => some (.inl (q5.1, q5.2)))) else (some (.inr ("java/util/NoSuchElementException", zs2)))))) (fun e => some (.inr e)))
set_option maxRecDepth 100000 in
set_option maxHeartbeats 4000000 in
theorem tX11_deed {N : Nat} {G : pG} {SK : Nat → Nat} {a0 : Nat} {a1 : Int32} {a2 : Int32} {σ : pS} {r : (Int32 × pS) ⊕ (String × pS)} (hW : WT G) (i0 : Is G a0 10) (h : fX11_deed N G a0 a1 a2 σ = some r) : Dx miX11_deed yX11_deed 8 2 12 G SK [.ref a0, .int a1, .int a2] σ (xoI r) := by
  unfold fX11_deed at h
  refine dx_of (lv := [some (.ref a0), some (.int a1), some (.int a2)]) (by decide) rfl rfl (Nat.le_of_ble_eq_true rfl) rfl ?_
  refine ev_aload_n dc_X11_deed_0 rfl ?_
  refine ev_iload_n dc_X11_deed_1 rfl ?_
  obtain ⟨q1, hq1, h⟩ := Option.bind_eq_some_iff.mp h
  refine ev_callX (mc := 2) (ms := 12) (av := [.int a1]) (st := []) rfl dc_X11_deed_2 (tX11_needDeed hW i0 hq1) mw_1115 cy_X11_needDeed i0 (by decide) rfl rfl rfl (Nat.le_of_ble_eq_true rfl) (Nat.le_of_ble_eq_true rfl) ⟨Nat.le_of_ble_eq_true rfl, Nat.le_of_ble_eq_true rfl⟩ ?_ ?_
  · intro e he
    rcases q1 with zs2 | zs2
    · have he : (Sum.inl (none, zs2) : XO) = .inr e := he
      cases he
    · have he : (Sum.inr zs2 : XO) = .inr e := he
      cases he
      dsimp only [Sum.elim] at h
      cases h
      exact ⟨rfl, Nat.le_of_ble_eq_true rfl, Nat.le_of_ble_eq_true rfl⟩
  intro e he
  rcases q1 with zs2 | zs2
  rotate_left
  · have he : (Sum.inr zs2 : XO) = .inl e := he
    cases he
  have he : (Sum.inl (none, zs2) : XO) = .inl e := he
  cases he
  dsimp only [Sum.elim] at h
  show Ev miX11_deed (8, 2, 12) G (Zx G (xoI r) 2 12) SK (1, 6) 5 [some (.ref a0), some (.int a1), some (.int a2)] [] zs2
  refine ev_iload_n dc_X11_deed_5 rfl ?_
  by_cases z0 : a2 = 0
  · rw [if_pos z0] at h
    refine ev_tabIn (tgt := 32) 0 z0 dc_X11_deed_6 (by decide) (by decide) rfl (by decide) ?_
    refine ev_aload_n dc_X11_deed_32 rfl ?_
    refine ev_getR dc_X11_deed_33 fi_X11_19 rfl i0 ?_
    refine ev_getR dc_X11_deed_36 fi_X11_104 rfl (wt hW i0 1 rfl rfl) ?_
    refine ev_getR dc_X11_deed_39 fi_X11_200 rfl (wt hW (wt hW i0 1 rfl rfl) 0 rfl rfl) ?_
    refine ev_iload_n dc_X11_deed_42 rfl ?_
    obtain ⟨q3, hq3, h⟩ := Option.bind_eq_some_iff.mp h
    refine ev_callS (av := [.ref (pR G (pR G (pR G a0 1) 0) 14), .int a1]) (st := []) (st1 := [.int q3]) dc_X11_deed_43 (tX11_at hW (wt hW (wt hW (wt hW i0 1 rfl rfl) 0 rfl rfl) 14 rfl rfl) hq3) mw_567 cs_X11_at rfl rfl rfl (Nat.le_of_ble_eq_true rfl) (Nat.le_of_ble_eq_true rfl) ⟨Nat.le_of_ble_eq_true rfl, Nat.le_of_ble_eq_true rfl⟩ ?_
    cases h
    exact ev_iretX dc_X11_deed_46 rfl ⟨Nat.le_of_ble_eq_true rfl, Nat.le_of_ble_eq_true rfl⟩ rfl rfl
  rw [if_neg z0] at h
  by_cases z1 : a2 = 1
  · rw [if_pos z1] at h
    refine ev_tabIn (tgt := 47) 1 z1 dc_X11_deed_6 (by decide) (by decide) rfl (by decide) ?_
    refine ev_aload_n dc_X11_deed_47 rfl ?_
    refine ev_getR dc_X11_deed_48 fi_X11_19 rfl i0 ?_
    refine ev_getR dc_X11_deed_51 fi_X11_104 rfl (wt hW i0 1 rfl rfl) ?_
    refine ev_getR dc_X11_deed_54 fi_X11_203 rfl (wt hW (wt hW i0 1 rfl rfl) 0 rfl rfl) ?_
    refine ev_iload_n dc_X11_deed_57 rfl ?_
    obtain ⟨q4, hq4, h⟩ := Option.bind_eq_some_iff.mp h
    refine ev_callS (av := [.ref (pR G (pR G (pR G a0 1) 0) 15), .int a1]) (st := []) (st1 := [.int q4]) dc_X11_deed_58 (tX11_at hW (wt hW (wt hW (wt hW i0 1 rfl rfl) 0 rfl rfl) 15 rfl rfl) hq4) mw_567 cs_X11_at rfl rfl rfl (Nat.le_of_ble_eq_true rfl) (Nat.le_of_ble_eq_true rfl) ⟨Nat.le_of_ble_eq_true rfl, Nat.le_of_ble_eq_true rfl⟩ ?_
    cases h
    exact ev_iretX dc_X11_deed_61 rfl ⟨Nat.le_of_ble_eq_true rfl, Nat.le_of_ble_eq_true rfl⟩ rfl rfl
  rw [if_neg z1] at h
  by_cases z2 : a2 = 2
  · rw [if_pos z2] at h
    refine ev_tabIn (tgt := 62) 2 z2 dc_X11_deed_6 (by decide) (by decide) rfl (by decide) ?_
    refine ev_aload_n dc_X11_deed_62 rfl ?_
    refine ev_getR dc_X11_deed_63 fi_X11_19 rfl i0 ?_
    refine ev_aload_n dc_X11_deed_66 rfl ?_
    refine ev_getR dc_X11_deed_67 fi_X11_19 rfl i0 ?_
    refine ev_getR dc_X11_deed_70 fi_X11_155 rfl (wt hW i0 1 rfl rfl) ?_
    refine ev_iload_n dc_X11_deed_73 rfl ?_
    obtain ⟨q5, hq5, h⟩ := Option.bind_eq_some_iff.mp h
    refine ev_callV (av := [.ref (pR G (pR G a0 1) 2), .int a1]) (st := []) (st1 := [.int q5.1]) dc_X11_deed_74 (tX10_easeOf hW (wt hW i0 1 rfl rfl) (wt hW (wt hW i0 1 rfl rfl) 2 rfl rfl) hq5) mw_1120 cy_X10_easeOf (wt hW i0 1 rfl rfl) (by decide) rfl rfl rfl rfl (Nat.le_of_ble_eq_true rfl) (Nat.le_of_ble_eq_true rfl) ⟨Nat.le_of_ble_eq_true rfl, Nat.le_of_ble_eq_true rfl⟩ ?_
    cases h
    exact ev_iretX dc_X11_deed_77 rfl ⟨Nat.le_of_ble_eq_true rfl, Nat.le_of_ble_eq_true rfl⟩ rfl rfl
  rw [if_neg z2] at h
  refine ev_tabOut (tgt := 78) dc_X11_deed_6 ?_ (by decide) ?_
  · exact sw_out (lo := 0) (vs := [0, 1, 2]) (by decide) (by decide) (And.intro z0 (And.intro z1 (And.intro z2 trivial)))
  cases h
  exact ev_throwN (tx := "no such thing of a deed") rfl dc_X11_deed_78 dc_X11_deed_81 dc_X11_deed_82 dc_X11_deed_84 dc_X11_deed_87 mw_1067 (List.mem_of_getElem? (i := 38) rfl) xn_X11_173 (Nat.le_of_ble_eq_true rfl) (Nat.le_of_ble_eq_true rfl) ⟨Nat.le_of_ble_eq_true rfl, Nat.le_of_ble_eq_true rfl⟩ ⟨Nat.le_of_ble_eq_true rfl, Nat.le_of_ble_eq_true rfl⟩
theorem dc_X11_does_0 : Dc miX11_does 0 (.aload_n 0) 1 1 := ⟨by decide +kernel, rfl⟩
theorem dc_X11_does_1 : Dc miX11_does 1 (.iload_n 1) 1 2 := ⟨by decide +kernel, rfl⟩
theorem dc_X11_does_2 : Dc miX11_does 2 (.invokevirtual 197) 3 5 := ⟨by decide +kernel, rfl⟩
theorem dc_X11_does_5 : Dc miX11_does 5 (.aload_n 0) 1 6 := ⟨by decide +kernel, rfl⟩
theorem dc_X11_does_6 : Dc miX11_does 6 (.getfield 19) 3 9 := ⟨by decide +kernel, rfl⟩
theorem dc_X11_does_9 : Dc miX11_does 9 (.getfield 155) 3 12 := ⟨by decide +kernel, rfl⟩
theorem dc_X11_does_12 : Dc miX11_does 12 (.getfield 216) 3 15 := ⟨by decide +kernel, rfl⟩
theorem dc_X11_does_15 : Dc miX11_does 15 (.ifCond .eq 13) 3 18 := ⟨by decide +kernel, rfl⟩
theorem dc_X11_does_18 : Dc miX11_does 18 (.new 219) 3 21 := ⟨by decide +kernel, rfl⟩
theorem dc_X11_does_21 : Dc miX11_does 21 (.dup) 1 22 := ⟨by decide +kernel, rfl⟩
theorem dc_X11_does_22 : Dc miX11_does 22 (.ldc 235) 2 24 := ⟨by decide +kernel, rfl⟩
theorem dc_X11_does_24 : Dc miX11_does 24 (.invokespecial 223) 3 27 := ⟨by decide +kernel, rfl⟩
theorem dc_X11_does_27 : Dc miX11_does 27 (.athrow) 1 28 := ⟨by decide +kernel, rfl⟩
theorem dc_X11_does_28 : Dc miX11_does 28 (.aload_n 0) 1 29 := ⟨by decide +kernel, rfl⟩
theorem dc_X11_does_29 : Dc miX11_does 29 (.getfield 32) 3 32 := ⟨by decide +kernel, rfl⟩
theorem dc_X11_does_32 : Dc miX11_does 32 (.aload_n 0) 1 33 := ⟨by decide +kernel, rfl⟩
theorem dc_X11_does_33 : Dc miX11_does 33 (.getfield 19) 3 36 := ⟨by decide +kernel, rfl⟩
theorem dc_X11_does_36 : Dc miX11_does 36 (.getfield 155) 3 39 := ⟨by decide +kernel, rfl⟩
theorem dc_X11_does_39 : Dc miX11_does 39 (.invokevirtual 224) 3 42 := ⟨by decide +kernel, rfl⟩
theorem dc_X11_does_42 : Dc miX11_does 42 (.aload_n 0) 1 43 := ⟨by decide +kernel, rfl⟩
theorem dc_X11_does_43 : Dc miX11_does 43 (.getfield 19) 3 46 := ⟨by decide +kernel, rfl⟩
theorem dc_X11_does_46 : Dc miX11_does 46 (.aload_n 0) 1 47 := ⟨by decide +kernel, rfl⟩
theorem dc_X11_does_47 : Dc miX11_does 47 (.getfield 19) 3 50 := ⟨by decide +kernel, rfl⟩
theorem dc_X11_does_50 : Dc miX11_does 50 (.getfield 155) 3 53 := ⟨by decide +kernel, rfl⟩
theorem dc_X11_does_53 : Dc miX11_does 53 (.iload_n 1) 1 54 := ⟨by decide +kernel, rfl⟩
theorem dc_X11_does_54 : Dc miX11_does 54 (.invokevirtual 237) 3 57 := ⟨by decide +kernel, rfl⟩
theorem dc_X11_does_57 : Dc miX11_does 57 (.aload_n 0) 1 58 := ⟨by decide +kernel, rfl⟩
theorem dc_X11_does_58 : Dc miX11_does 58 (.getfield 19) 3 61 := ⟨by decide +kernel, rfl⟩
theorem dc_X11_does_61 : Dc miX11_does 61 (.getfield 155) 3 64 := ⟨by decide +kernel, rfl⟩
theorem dc_X11_does_64 : Dc miX11_does 64 (.getfield 232) 3 67 := ⟨by decide +kernel, rfl⟩
theorem dc_X11_does_67 : Dc miX11_does 67 (.ireturn) 1 68 := ⟨by decide +kernel, rfl⟩
def fX11_does (N : Nat) (G : pG) (a0 : Nat) (a1 : Int32) (σ : pS) : Option ((Int32 × pS) ⊕ (String × pS)) := (fX11_needDeed N G a0 a1 σ).bind (fun q1 => q1.elim (fun zs2 => if (zs2.1 (pR G (pR G a0 1) 2) 6) = 0 then ((fX4_remember N G (pR G a0 4) (pR G (pR G a0 1) 2) zs2).bind (fun q3 => (fX10_soothe N G (pR G a0 1) (pR G (pR G a0 1) 2) a1 q3).bind (fun q4 => some (.inl (q4.1 (pR G (pR G a0 1) 2) 0, q4))))) else (some (.inr ("java/lang/IllegalStateException", zs2)))) (fun e => some (.inr e)))
set_option maxRecDepth 100000 in
set_option maxHeartbeats 4000000 in
theorem tX11_does {N : Nat} {G : pG} {SK : Nat → Nat} {a0 : Nat} {a1 : Int32} {σ : pS} {r : (Int32 × pS) ⊕ (String × pS)} (hW : WT G) (i0 : Is G a0 10) (h : fX11_does N G a0 a1 σ = some r) : Dx miX11_does yX11_does 8 2 12 G SK [.ref a0, .int a1] σ (xoI r) := by
  unfold fX11_does at h
  refine dx_of (lv := [some (.ref a0), some (.int a1)]) (by decide) rfl rfl (Nat.le_of_ble_eq_true rfl) rfl ?_
  refine ev_aload_n dc_X11_does_0 rfl ?_
  refine ev_iload_n dc_X11_does_1 rfl ?_
  obtain ⟨q1, hq1, h⟩ := Option.bind_eq_some_iff.mp h
  refine ev_callX (mc := 2) (ms := 12) (av := [.int a1]) (st := []) rfl dc_X11_does_2 (tX11_needDeed hW i0 hq1) mw_1115 cy_X11_needDeed i0 (by decide) rfl rfl rfl (Nat.le_of_ble_eq_true rfl) (Nat.le_of_ble_eq_true rfl) ⟨Nat.le_of_ble_eq_true rfl, Nat.le_of_ble_eq_true rfl⟩ ?_ ?_
  · intro e he
    rcases q1 with zs2 | zs2
    · have he : (Sum.inl (none, zs2) : XO) = .inr e := he
      cases he
    · have he : (Sum.inr zs2 : XO) = .inr e := he
      cases he
      dsimp only [Sum.elim] at h
      cases h
      exact ⟨rfl, Nat.le_of_ble_eq_true rfl, Nat.le_of_ble_eq_true rfl⟩
  intro e he
  rcases q1 with zs2 | zs2
  rotate_left
  · have he : (Sum.inr zs2 : XO) = .inl e := he
    cases he
  have he : (Sum.inl (none, zs2) : XO) = .inl e := he
  cases he
  dsimp only [Sum.elim] at h
  show Ev miX11_does (8, 2, 12) G (Zx G (xoI r) 2 12) SK (1, 6) 5 [some (.ref a0), some (.int a1)] [] zs2
  refine ev_aload_n dc_X11_does_5 rfl ?_
  refine ev_getR dc_X11_does_6 fi_X11_19 rfl i0 ?_
  refine ev_getR dc_X11_does_9 fi_X11_155 rfl (wt hW i0 1 rfl rfl) ?_
  refine ev_getI dc_X11_does_12 fi_X11_216 rfl (wt hW (wt hW i0 1 rfl rfl) 2 rfl rfl) ?_
  refine ev_if_eq (tgt := 28) dc_X11_does_15 (by decide) h (fun h => ?_) (fun h => ?_)
  · refine ev_aload_n dc_X11_does_28 rfl ?_
    refine ev_getR dc_X11_does_29 fi_X11_32 rfl i0 ?_
    refine ev_aload_n dc_X11_does_32 rfl ?_
    refine ev_getR dc_X11_does_33 fi_X11_19 rfl i0 ?_
    refine ev_getR dc_X11_does_36 fi_X11_155 rfl (wt hW i0 1 rfl rfl) ?_
    obtain ⟨q3, hq3, h⟩ := Option.bind_eq_some_iff.mp h
    refine ev_callV (av := [.ref (pR G (pR G a0 1) 2)]) (st := []) (st1 := []) dc_X11_does_39 (tX4_remember hW (wt hW i0 4 rfl rfl) (wt hW (wt hW i0 1 rfl rfl) 2 rfl rfl) hq3) mw_1156 cy_X4_remember (wt hW i0 4 rfl rfl) (by decide) rfl rfl rfl rfl (Nat.le_of_ble_eq_true rfl) (Nat.le_of_ble_eq_true rfl) ⟨Nat.le_of_ble_eq_true rfl, Nat.le_of_ble_eq_true rfl⟩ ?_
    refine ev_aload_n dc_X11_does_42 rfl ?_
    refine ev_getR dc_X11_does_43 fi_X11_19 rfl i0 ?_
    refine ev_aload_n dc_X11_does_46 rfl ?_
    refine ev_getR dc_X11_does_47 fi_X11_19 rfl i0 ?_
    refine ev_getR dc_X11_does_50 fi_X11_155 rfl (wt hW i0 1 rfl rfl) ?_
    refine ev_iload_n dc_X11_does_53 rfl ?_
    obtain ⟨q4, hq4, h⟩ := Option.bind_eq_some_iff.mp h
    refine ev_callV (av := [.ref (pR G (pR G a0 1) 2), .int a1]) (st := []) (st1 := []) dc_X11_does_54 (tX10_soothe hW (wt hW i0 1 rfl rfl) (wt hW (wt hW i0 1 rfl rfl) 2 rfl rfl) hq4) mw_1180 cy_X10_soothe (wt hW i0 1 rfl rfl) (by decide) rfl rfl rfl rfl (Nat.le_of_ble_eq_true rfl) (Nat.le_of_ble_eq_true rfl) ⟨Nat.le_of_ble_eq_true rfl, Nat.le_of_ble_eq_true rfl⟩ ?_
    refine ev_aload_n dc_X11_does_57 rfl ?_
    refine ev_getR dc_X11_does_58 fi_X11_19 rfl i0 ?_
    refine ev_getR dc_X11_does_61 fi_X11_155 rfl (wt hW i0 1 rfl rfl) ?_
    refine ev_getI dc_X11_does_64 fi_X11_232 rfl (wt hW (wt hW i0 1 rfl rfl) 2 rfl rfl) ?_
    cases h
    exact ev_iretX dc_X11_does_67 rfl ⟨Nat.le_of_ble_eq_true rfl, Nat.le_of_ble_eq_true rfl⟩ rfl rfl
  · cases h
    exact ev_throwS (tx := "he is gone") rfl dc_X11_does_18 dc_X11_does_21 dc_X11_does_22 dc_X11_does_24 dc_X11_does_27 mw_1140 (List.mem_of_getElem? (i := 40) rfl) xa_X11_223 (Nat.le_of_ble_eq_true rfl) (Nat.le_of_ble_eq_true rfl) ⟨Nat.le_of_ble_eq_true rfl, Nat.le_of_ble_eq_true rfl⟩ ⟨Nat.le_of_ble_eq_true rfl, Nat.le_of_ble_eq_true rfl⟩
theorem dc_X11_duty_0 : Dc miX11_duty 0 (.iload_n 1) 1 1 := ⟨by decide +kernel, rfl⟩
theorem dc_X11_duty_1 : Dc miX11_duty 1 (.ifCond .lt 17) 3 4 := ⟨by decide +kernel, rfl⟩
theorem dc_X11_duty_4 : Dc miX11_duty 4 (.iload_n 1) 1 5 := ⟨by decide +kernel, rfl⟩
theorem dc_X11_duty_5 : Dc miX11_duty 5 (.aload_n 0) 1 6 := ⟨by decide +kernel, rfl⟩
theorem dc_X11_duty_6 : Dc miX11_duty 6 (.getfield 19) 3 9 := ⟨by decide +kernel, rfl⟩
theorem dc_X11_duty_9 : Dc miX11_duty 9 (.getfield 104) 3 12 := ⟨by decide +kernel, rfl⟩
theorem dc_X11_duty_12 : Dc miX11_duty 12 (.getfield 349) 3 15 := ⟨by decide +kernel, rfl⟩
theorem dc_X11_duty_15 : Dc miX11_duty 15 (.if_icmp .lt 14) 3 18 := ⟨by decide +kernel, rfl⟩
theorem dc_X11_duty_18 : Dc miX11_duty 18 (.new 352) 3 21 := ⟨by decide +kernel, rfl⟩
theorem dc_X11_duty_21 : Dc miX11_duty 21 (.dup) 1 22 := ⟨by decide +kernel, rfl⟩
theorem dc_X11_duty_22 : Dc miX11_duty 22 (.ldc_w 354) 3 25 := ⟨by decide +kernel, rfl⟩
theorem dc_X11_duty_25 : Dc miX11_duty 25 (.invokespecial 356) 3 28 := ⟨by decide +kernel, rfl⟩
theorem dc_X11_duty_28 : Dc miX11_duty 28 (.athrow) 1 29 := ⟨by decide +kernel, rfl⟩
theorem dc_X11_duty_29 : Dc miX11_duty 29 (.aload_n 0) 1 30 := ⟨by decide +kernel, rfl⟩
theorem dc_X11_duty_30 : Dc miX11_duty 30 (.getfield 19) 3 33 := ⟨by decide +kernel, rfl⟩
theorem dc_X11_duty_33 : Dc miX11_duty 33 (.getfield 104) 3 36 := ⟨by decide +kernel, rfl⟩
theorem dc_X11_duty_36 : Dc miX11_duty 36 (.getfield 357) 3 39 := ⟨by decide +kernel, rfl⟩
theorem dc_X11_duty_39 : Dc miX11_duty 39 (.iload_n 1) 1 40 := ⟨by decide +kernel, rfl⟩
theorem dc_X11_duty_40 : Dc miX11_duty 40 (.invokestatic 148) 3 43 := ⟨by decide +kernel, rfl⟩
theorem dc_X11_duty_43 : Dc miX11_duty 43 (.ireturn) 1 44 := ⟨by decide +kernel, rfl⟩
def fX11_duty (N : Nat) (G : pG) (a0 : Nat) (a1 : Int32) (σ : pS) : Option ((Int32 × pS) ⊕ (String × pS)) := if a1 < 0 then (some (.inr ("java/lang/IndexOutOfBoundsException", σ))) else (if a1 < (σ.1 (pR G (pR G a0 1) 0) 5) then ((fX11_at N G (pR G (pR G (pR G a0 1) 0) 17) a1 σ).bind (fun q1 => some (.inl (q1, σ)))) else (some (.inr ("java/lang/IndexOutOfBoundsException", σ))))
set_option maxRecDepth 100000 in
set_option maxHeartbeats 4000000 in
theorem tX11_duty {N : Nat} {G : pG} {SK : Nat → Nat} {a0 : Nat} {a1 : Int32} {σ : pS} {r : (Int32 × pS) ⊕ (String × pS)} (hW : WT G) (i0 : Is G a0 10) (h : fX11_duty N G a0 a1 σ = some r) : Dx miX11_duty yX11_duty 7 1 6 G SK [.ref a0, .int a1] σ (xoI r) := by
  unfold fX11_duty at h
  refine dx_of (lv := [some (.ref a0), some (.int a1)]) (by decide) rfl rfl (Nat.le_of_ble_eq_true rfl) rfl ?_
  refine ev_iload_n dc_X11_duty_0 rfl ?_
  refine ev_if_lt (tgt := 18) dc_X11_duty_1 (by decide) h (fun h => ?_) (fun h => ?_)
  · cases h
    exact ev_throwSW (tx := "no such duty") rfl dc_X11_duty_18 dc_X11_duty_21 dc_X11_duty_22 dc_X11_duty_25 dc_X11_duty_28 mw_1043 (List.mem_of_getElem? (i := 44) rfl) xa_X11_356 (Nat.le_of_ble_eq_true rfl) (Nat.le_of_ble_eq_true rfl) ⟨Nat.le_of_ble_eq_true rfl, Nat.le_of_ble_eq_true rfl⟩ ⟨Nat.le_of_ble_eq_true rfl, Nat.le_of_ble_eq_true rfl⟩
  · refine ev_iload_n dc_X11_duty_4 rfl ?_
    refine ev_aload_n dc_X11_duty_5 rfl ?_
    refine ev_getR dc_X11_duty_6 fi_X11_19 rfl i0 ?_
    refine ev_getR dc_X11_duty_9 fi_X11_104 rfl (wt hW i0 1 rfl rfl) ?_
    refine ev_getI dc_X11_duty_12 fi_X11_349 rfl (wt hW (wt hW i0 1 rfl rfl) 0 rfl rfl) ?_
    refine ev_icmp_lt (tgt := 29) dc_X11_duty_15 (by decide) h (fun h => ?_) (fun h => ?_)
    · refine ev_aload_n dc_X11_duty_29 rfl ?_
      refine ev_getR dc_X11_duty_30 fi_X11_19 rfl i0 ?_
      refine ev_getR dc_X11_duty_33 fi_X11_104 rfl (wt hW i0 1 rfl rfl) ?_
      refine ev_getR dc_X11_duty_36 fi_X11_357 rfl (wt hW (wt hW i0 1 rfl rfl) 0 rfl rfl) ?_
      refine ev_iload_n dc_X11_duty_39 rfl ?_
      obtain ⟨q1, hq1, h⟩ := Option.bind_eq_some_iff.mp h
      refine ev_callS (av := [.ref (pR G (pR G (pR G a0 1) 0) 17), .int a1]) (st := []) (st1 := [.int q1]) dc_X11_duty_40 (tX11_at hW (wt hW (wt hW (wt hW i0 1 rfl rfl) 0 rfl rfl) 17 rfl rfl) hq1) mw_567 cs_X11_at rfl rfl rfl (Nat.le_of_ble_eq_true rfl) (Nat.le_of_ble_eq_true rfl) ⟨Nat.le_of_ble_eq_true rfl, Nat.le_of_ble_eq_true rfl⟩ ?_
      cases h
      exact ev_iretX dc_X11_duty_43 rfl ⟨Nat.le_of_ble_eq_true rfl, Nat.le_of_ble_eq_true rfl⟩ rfl rfl
    · cases h
      exact ev_throwSW (tx := "no such duty") rfl dc_X11_duty_18 dc_X11_duty_21 dc_X11_duty_22 dc_X11_duty_25 dc_X11_duty_28 mw_1043 (List.mem_of_getElem? (i := 44) rfl) xa_X11_356 (Nat.le_of_ble_eq_true rfl) (Nat.le_of_ble_eq_true rfl) ⟨Nat.le_of_ble_eq_true rfl, Nat.le_of_ble_eq_true rfl⟩ ⟨Nat.le_of_ble_eq_true rfl, Nat.le_of_ble_eq_true rfl⟩
theorem dc_X11_fewest_0 : Dc miX11_fewest 0 (.aload_n 0) 1 1 := ⟨by decide +kernel, rfl⟩
theorem dc_X11_fewest_1 : Dc miX11_fewest 1 (.iload_n 1) 1 2 := ⟨by decide +kernel, rfl⟩
theorem dc_X11_fewest_2 : Dc miX11_fewest 2 (.invokevirtual 174) 3 5 := ⟨by decide +kernel, rfl⟩
theorem dc_X11_fewest_5 : Dc miX11_fewest 5 (.aload_n 0) 1 6 := ⟨by decide +kernel, rfl⟩
theorem dc_X11_fewest_6 : Dc miX11_fewest 6 (.getfield 19) 3 9 := ⟨by decide +kernel, rfl⟩
theorem dc_X11_fewest_9 : Dc miX11_fewest 9 (.getfield 155) 3 12 := ⟨by decide +kernel, rfl⟩
theorem dc_X11_fewest_12 : Dc miX11_fewest 12 (.getfield 216) 3 15 := ⟨by decide +kernel, rfl⟩
theorem dc_X11_fewest_15 : Dc miX11_fewest 15 (.ifCond .eq 7) 3 18 := ⟨by decide +kernel, rfl⟩
theorem dc_X11_fewest_18 : Dc miX11_fewest 18 (.iconst (-1)) 1 19 := ⟨by decide +kernel, rfl⟩
theorem dc_X11_fewest_19 : Dc miX11_fewest 19 (.goto 15) 3 22 := ⟨by decide +kernel, rfl⟩
theorem dc_X11_fewest_22 : Dc miX11_fewest 22 (.aload_n 0) 1 23 := ⟨by decide +kernel, rfl⟩
theorem dc_X11_fewest_23 : Dc miX11_fewest 23 (.getfield 53) 3 26 := ⟨by decide +kernel, rfl⟩
theorem dc_X11_fewest_26 : Dc miX11_fewest 26 (.aload_n 0) 1 27 := ⟨by decide +kernel, rfl⟩
theorem dc_X11_fewest_27 : Dc miX11_fewest 27 (.getfield 19) 3 30 := ⟨by decide +kernel, rfl⟩
theorem dc_X11_fewest_30 : Dc miX11_fewest 30 (.iload_n 1) 1 31 := ⟨by decide +kernel, rfl⟩
theorem dc_X11_fewest_31 : Dc miX11_fewest 31 (.invokevirtual 307) 3 34 := ⟨by decide +kernel, rfl⟩
theorem dc_X11_fewest_34 : Dc miX11_fewest 34 (.ireturn) 1 35 := ⟨by decide +kernel, rfl⟩
def fX11_fewest (N : Nat) (G : pG) (a0 : Nat) (a1 : Int32) (σ : pS) : Option ((Int32 × pS) ⊕ (String × pS)) := (fX11_needWho N G a0 a1 σ).bind (fun q1 => q1.elim (fun zs2 => if (zs2.1 (pR G (pR G a0 1) 2) 6) = 0 then ((fX5_shortest N G (pR G a0 7) (pR G a0 1) a1 zs2).bind (fun q3 => some (.inl (q3.1, q3.2)))) else (some (.inl ((-1 : Int32), zs2)))) (fun e => some (.inr e)))
set_option maxRecDepth 100000 in
set_option maxHeartbeats 4000000 in
theorem tX11_fewest {N : Nat} {G : pG} {SK : Nat → Nat} {a0 : Nat} {a1 : Int32} {σ : pS} {r : (Int32 × pS) ⊕ (String × pS)} (hW : WT G) (i0 : Is G a0 10) (h : fX11_fewest N G a0 a1 σ = some r) : Dx miX11_fewest yX11_fewest 8 1 6 G SK [.ref a0, .int a1] σ (xoI r) := by
  unfold fX11_fewest at h
  refine dx_of (lv := [some (.ref a0), some (.int a1)]) (by decide) rfl rfl (Nat.le_of_ble_eq_true rfl) rfl ?_
  refine ev_aload_n dc_X11_fewest_0 rfl ?_
  refine ev_iload_n dc_X11_fewest_1 rfl ?_
  obtain ⟨q1, hq1, h⟩ := Option.bind_eq_some_iff.mp h
  refine ev_callX (mc := 1) (ms := 6) (av := [.int a1]) (st := []) rfl dc_X11_fewest_2 (tX11_needWho hW i0 hq1) mw_1090 cy_X11_needWho i0 (by decide) rfl rfl rfl (Nat.le_of_ble_eq_true rfl) (Nat.le_of_ble_eq_true rfl) ⟨Nat.le_of_ble_eq_true rfl, Nat.le_of_ble_eq_true rfl⟩ ?_ ?_
  · intro e he
    rcases q1 with zs2 | zs2
    · have he : (Sum.inl (none, zs2) : XO) = .inr e := he
      cases he
    · have he : (Sum.inr zs2 : XO) = .inr e := he
      cases he
      dsimp only [Sum.elim] at h
      cases h
      exact ⟨rfl, Nat.le_of_ble_eq_true rfl, Nat.le_of_ble_eq_true rfl⟩
  intro e he
  rcases q1 with zs2 | zs2
  rotate_left
  · have he : (Sum.inr zs2 : XO) = .inl e := he
    cases he
  have he : (Sum.inl (none, zs2) : XO) = .inl e := he
  cases he
  dsimp only [Sum.elim] at h
  show Ev miX11_fewest (8, 1, 6) G (Zx G (xoI r) 1 6) SK (1, 6) 5 [some (.ref a0), some (.int a1)] [] zs2
  refine ev_aload_n dc_X11_fewest_5 rfl ?_
  refine ev_getR dc_X11_fewest_6 fi_X11_19 rfl i0 ?_
  refine ev_getR dc_X11_fewest_9 fi_X11_155 rfl (wt hW i0 1 rfl rfl) ?_
  refine ev_getI dc_X11_fewest_12 fi_X11_216 rfl (wt hW (wt hW i0 1 rfl rfl) 2 rfl rfl) ?_
  refine ev_if_eq (tgt := 22) dc_X11_fewest_15 (by decide) h (fun h => ?_) (fun h => ?_)
  · refine ev_aload_n dc_X11_fewest_22 rfl ?_
    refine ev_getR dc_X11_fewest_23 fi_X11_53 rfl i0 ?_
    refine ev_aload_n dc_X11_fewest_26 rfl ?_
    refine ev_getR dc_X11_fewest_27 fi_X11_19 rfl i0 ?_
    refine ev_iload_n dc_X11_fewest_30 rfl ?_
    obtain ⟨q3, hq3, h⟩ := Option.bind_eq_some_iff.mp h
    refine ev_callV (av := [.ref (pR G a0 1), .int a1]) (st := []) (st1 := [.int q3.1]) dc_X11_fewest_31 (tX5_shortest hW (wt hW i0 7 rfl rfl) (wt hW i0 1 rfl rfl) hq3) mw_1351 cy_X5_shortest (wt hW i0 7 rfl rfl) (by decide) rfl rfl rfl rfl (Nat.le_of_ble_eq_true rfl) (Nat.le_of_ble_eq_true rfl) ⟨Nat.le_of_ble_eq_true rfl, Nat.le_of_ble_eq_true rfl⟩ ?_
    cases h
    exact ev_iretX dc_X11_fewest_34 rfl ⟨Nat.le_of_ble_eq_true rfl, Nat.le_of_ble_eq_true rfl⟩ rfl rfl
  · refine ev_iconst (v := (-1)) dc_X11_fewest_18 (by decide) ?_
    refine ev_goto (tgt := 34) dc_X11_fewest_19 (by decide) ?_
    cases h
    exact ev_iretX dc_X11_fewest_34 rfl ⟨Nat.le_of_ble_eq_true rfl, Nat.le_of_ble_eq_true rfl⟩ rfl rfl
theorem dc_X11_first_0 : Dc miX11_first 0 (.aload_n 0) 1 1 := ⟨by decide +kernel, rfl⟩
theorem dc_X11_first_1 : Dc miX11_first 1 (.iload_n 1) 1 2 := ⟨by decide +kernel, rfl⟩
theorem dc_X11_first_2 : Dc miX11_first 2 (.invokevirtual 278) 3 5 := ⟨by decide +kernel, rfl⟩
theorem dc_X11_first_5 : Dc miX11_first 5 (.aload_n 0) 1 6 := ⟨by decide +kernel, rfl⟩
theorem dc_X11_first_6 : Dc miX11_first 6 (.getfield 39) 3 9 := ⟨by decide +kernel, rfl⟩
theorem dc_X11_first_9 : Dc miX11_first 9 (.aload_n 0) 1 10 := ⟨by decide +kernel, rfl⟩
theorem dc_X11_first_10 : Dc miX11_first 10 (.getfield 19) 3 13 := ⟨by decide +kernel, rfl⟩
theorem dc_X11_first_13 : Dc miX11_first 13 (.getfield 155) 3 16 := ⟨by decide +kernel, rfl⟩
theorem dc_X11_first_16 : Dc miX11_first 16 (.invokevirtual 275) 3 19 := ⟨by decide +kernel, rfl⟩
theorem dc_X11_first_19 : Dc miX11_first 19 (.iconst 1) 1 20 := ⟨by decide +kernel, rfl⟩
theorem dc_X11_first_20 : Dc miX11_first 20 (.istore_n 2) 1 21 := ⟨by decide +kernel, rfl⟩
theorem dc_X11_first_21 : Dc miX11_first 21 (.iload_n 2) 1 22 := ⟨by decide +kernel, rfl⟩
theorem dc_X11_first_22 : Dc miX11_first 22 (.sipush 400) 3 25 := ⟨by decide +kernel, rfl⟩
theorem dc_X11_first_25 : Dc miX11_first 25 (.if_icmp .gt 33) 3 28 := ⟨by decide +kernel, rfl⟩
theorem dc_X11_first_28 : Dc miX11_first 28 (.aload_n 0) 1 29 := ⟨by decide +kernel, rfl⟩
theorem dc_X11_first_29 : Dc miX11_first 29 (.getfield 19) 3 32 := ⟨by decide +kernel, rfl⟩
theorem dc_X11_first_32 : Dc miX11_first 32 (.aload_n 0) 1 33 := ⟨by decide +kernel, rfl⟩
theorem dc_X11_first_33 : Dc miX11_first 33 (.getfield 39) 3 36 := ⟨by decide +kernel, rfl⟩
theorem dc_X11_first_36 : Dc miX11_first 36 (.iload_n 1) 1 37 := ⟨by decide +kernel, rfl⟩
theorem dc_X11_first_37 : Dc miX11_first 37 (.invokevirtual 281) 3 40 := ⟨by decide +kernel, rfl⟩
theorem dc_X11_first_40 : Dc miX11_first 40 (.aload_n 0) 1 41 := ⟨by decide +kernel, rfl⟩
theorem dc_X11_first_41 : Dc miX11_first 41 (.getfield 39) 3 44 := ⟨by decide +kernel, rfl⟩
theorem dc_X11_first_44 : Dc miX11_first 44 (.getfield 216) 3 47 := ⟨by decide +kernel, rfl⟩
theorem dc_X11_first_47 : Dc miX11_first 47 (.ifCond .eq 5) 3 50 := ⟨by decide +kernel, rfl⟩
theorem dc_X11_first_50 : Dc miX11_first 50 (.iload_n 2) 1 51 := ⟨by decide +kernel, rfl⟩
theorem dc_X11_first_51 : Dc miX11_first 51 (.ireturn) 1 52 := ⟨by decide +kernel, rfl⟩
theorem dc_X11_first_52 : Dc miX11_first 52 (.iinc 2 1) 3 55 := ⟨by decide +kernel, rfl⟩
theorem dc_X11_first_55 : Dc miX11_first 55 (.goto (-34)) 3 58 := ⟨by decide +kernel, rfl⟩
theorem dc_X11_first_58 : Dc miX11_first 58 (.iconst (-1)) 1 59 := ⟨by decide +kernel, rfl⟩
theorem dc_X11_first_59 : Dc miX11_first 59 (.ireturn) 1 60 := ⟨by decide +kernel, rfl⟩
def fX11_first_b21 (N : Nat) (G : pG) (a0 : Nat) (a1 : Int32) : (Int32 × pS) → Option ((Int32 × pS) ⊕ (String × pS)) := lp (fun (k21 : Int32 × pS → Option ((Int32 × pS) ⊕ (String × pS))) (b : Int32 × pS) => if (400 : Int32) < b.1 then (some (.inl ((-1 : Int32), b.2))) else ((fX10_plainNight N G (pR G a0 1) (pR G a0 5) a1 b.2).bind (fun q1 => if (q1.1 (pR G a0 5) 6) = 0 then (k21 (b.1 + (1 : Int32), q1)) else (some (.inl (b.1, q1)))))) N
set_option maxRecDepth 100000 in
set_option maxHeartbeats 4000000 in
theorem tX11_first_b21 {N : Nat} {G : pG} {SK : Nat → Nat} {a0 : Nat} {a1 : Int32} {b : Int32 × pS} {r : (Int32 × pS) ⊕ (String × pS)} (hW : WT G) (i0 : Is G a0 10) (h : fX11_first_b21 N G a0 a1 b = some r) : Ev miX11_first (9, 1, 6) G (Zx G (xoI r) 1 6) SK (1, 6) 21 [some (.ref a0), some (.int a1), some (.int b.1)] [] b.2 := by
  unfold fX11_first_b21 at h
  refine lp_ind (P := fun b r9 => r9 = r → Ev miX11_first (9, 1, 6) G (Zx G (xoI r) 1 6) SK (1, 6) 21 [some (.ref a0), some (.int a1), some (.int b.1)] [] b.2) (fun k21 b r9 ih h9 e9 => ?_) N b r h rfl
  clear h
  subst e9
  have h := h9
  clear h9
  have hk21 : ∀ b : Int32 × pS, k21 b = some r9 → Ev miX11_first (9, 1, 6) G (Zx G (xoI r9) 1 6) SK (1, 6) 21 [some (.ref a0), some (.int a1), some (.int b.1)] [] b.2 := fun b hb => ih b r9 hb rfl
  clear ih
  obtain ⟨x2, σ⟩ := b
  dsimp only at h ⊢
  refine ev_iload_n dc_X11_first_21 rfl ?_
  refine ev_sipush (v := 400) dc_X11_first_22 (by decide) ?_
  refine ev_icmp_gt (tgt := 58) dc_X11_first_25 (by decide) h (fun h => ?_) (fun h => ?_)
  · refine ev_iconst (v := (-1)) dc_X11_first_58 (by decide) ?_
    cases h
    exact ev_iretX dc_X11_first_59 rfl ⟨Nat.le_of_ble_eq_true rfl, Nat.le_of_ble_eq_true rfl⟩ rfl rfl
  · refine ev_aload_n dc_X11_first_28 rfl ?_
    refine ev_getR dc_X11_first_29 fi_X11_19 rfl i0 ?_
    refine ev_aload_n dc_X11_first_32 rfl ?_
    refine ev_getR dc_X11_first_33 fi_X11_39 rfl i0 ?_
    refine ev_iload_n dc_X11_first_36 rfl ?_
    obtain ⟨q1, hq1, h⟩ := Option.bind_eq_some_iff.mp h
    refine ev_callV (av := [.ref (pR G a0 5), .int a1]) (st := []) (st1 := []) dc_X11_first_37 (tX10_plainNight hW (wt hW i0 1 rfl rfl) (wt hW i0 5 rfl rfl) hq1) mw_1267 cy_X10_plainNight (wt hW i0 1 rfl rfl) (by decide) rfl rfl rfl rfl (Nat.le_of_ble_eq_true rfl) (Nat.le_of_ble_eq_true rfl) ⟨Nat.le_of_ble_eq_true rfl, Nat.le_of_ble_eq_true rfl⟩ ?_
    refine ev_aload_n dc_X11_first_40 rfl ?_
    refine ev_getR dc_X11_first_41 fi_X11_39 rfl i0 ?_
    refine ev_getI dc_X11_first_44 fi_X11_216 rfl (wt hW i0 5 rfl rfl) ?_
    refine ev_if_eq (tgt := 52) dc_X11_first_47 (by decide) h (fun h => ?_) (fun h => ?_)
    · refine ev_iinc (v := 1) (lv' := [some (.ref a0), some (.int a1), some (.int (x2 + (1 : Int32)))]) dc_X11_first_52 rfl (by decide) rfl (by decide) rfl ?_
      refine ev_goto (tgt := 21) dc_X11_first_55 (by decide) ?_
      exact ev_sub (hk21 (x2 + (1 : Int32), q1) h) (And.intro rfl (And.intro rfl (And.intro rfl trivial)))
    · refine ev_iload_n dc_X11_first_50 rfl ?_
      cases h
      exact ev_iretX dc_X11_first_51 rfl ⟨Nat.le_of_ble_eq_true rfl, Nat.le_of_ble_eq_true rfl⟩ rfl rfl
def fX11_first (N : Nat) (G : pG) (a0 : Nat) (a1 : Int32) (σ : pS) : Option ((Int32 × pS) ⊕ (String × pS)) := (fX11_needDeedOrNone N G a0 a1 σ).bind (fun q2 => q2.elim (fun zs3 => (fX3_copyThoughtFrom N G (pR G a0 5) (pR G (pR G a0 1) 2) zs3).bind (fun q4 => fX11_first_b21 N G a0 a1 ((1 : Int32), q4))) (fun e => some (.inr e)))
set_option maxRecDepth 100000 in
set_option maxHeartbeats 4000000 in
theorem tX11_first {N : Nat} {G : pG} {SK : Nat → Nat} {a0 : Nat} {a1 : Int32} {σ : pS} {r : (Int32 × pS) ⊕ (String × pS)} (hW : WT G) (i0 : Is G a0 10) (h : fX11_first N G a0 a1 σ = some r) : Dx miX11_first yX11_first 9 1 6 G SK [.ref a0, .int a1] σ (xoI r) := by
  unfold fX11_first at h
  refine dx_of (lv := [some (.ref a0), some (.int a1), none]) (by decide) rfl rfl (Nat.le_of_ble_eq_true rfl) rfl ?_
  refine ev_aload_n dc_X11_first_0 rfl ?_
  refine ev_iload_n dc_X11_first_1 rfl ?_
  obtain ⟨q2, hq2, h⟩ := Option.bind_eq_some_iff.mp h
  refine ev_callX (mc := 1) (ms := 6) (av := [.int a1]) (st := []) rfl dc_X11_first_2 (tX11_needDeedOrNone hW i0 hq2) mw_1263 cy_X11_needDeedOrNone i0 (by decide) rfl rfl rfl (Nat.le_of_ble_eq_true rfl) (Nat.le_of_ble_eq_true rfl) ⟨Nat.le_of_ble_eq_true rfl, Nat.le_of_ble_eq_true rfl⟩ ?_ ?_
  · intro e he
    rcases q2 with zs3 | zs3
    · have he : (Sum.inl (none, zs3) : XO) = .inr e := he
      cases he
    · have he : (Sum.inr zs3 : XO) = .inr e := he
      cases he
      dsimp only [Sum.elim] at h
      cases h
      exact ⟨rfl, Nat.le_of_ble_eq_true rfl, Nat.le_of_ble_eq_true rfl⟩
  intro e he
  rcases q2 with zs3 | zs3
  rotate_left
  · have he : (Sum.inr zs3 : XO) = .inl e := he
    cases he
  have he : (Sum.inl (none, zs3) : XO) = .inl e := he
  cases he
  dsimp only [Sum.elim] at h
  show Ev miX11_first (9, 1, 6) G (Zx G (xoI r) 1 6) SK (1, 6) 5 [some (.ref a0), some (.int a1), none] [] zs3
  refine ev_aload_n dc_X11_first_5 rfl ?_
  refine ev_getR dc_X11_first_6 fi_X11_39 rfl i0 ?_
  refine ev_aload_n dc_X11_first_9 rfl ?_
  refine ev_getR dc_X11_first_10 fi_X11_19 rfl i0 ?_
  refine ev_getR dc_X11_first_13 fi_X11_155 rfl (wt hW i0 1 rfl rfl) ?_
  obtain ⟨q4, hq4, h⟩ := Option.bind_eq_some_iff.mp h
  refine ev_callV (av := [.ref (pR G (pR G a0 1) 2)]) (st := []) (st1 := []) dc_X11_first_16 (tX3_copyThoughtFrom hW (wt hW i0 5 rfl rfl) (wt hW (wt hW i0 1 rfl rfl) 2 rfl rfl) hq4) mw_1255 cy_X3_copyThoughtFrom (wt hW i0 5 rfl rfl) (by decide) rfl rfl rfl rfl (Nat.le_of_ble_eq_true rfl) (Nat.le_of_ble_eq_true rfl) ⟨Nat.le_of_ble_eq_true rfl, Nat.le_of_ble_eq_true rfl⟩ ?_
  refine ev_iconst (v := 1) dc_X11_first_19 (by decide) ?_
  refine ev_istore_n (lv' := [some (.ref a0), some (.int a1), some (.int (1 : Int32))]) dc_X11_first_20 rfl (by decide) rfl ?_
  exact ev_sub (tX11_first_b21 (b := ((1 : Int32), q4)) hW i0 h) (And.intro rfl (And.intro rfl (And.intro rfl trivial)))
theorem dc_X11_needWord_0 : Dc miX11_needWord 0 (.iload_n 1) 1 1 := ⟨by decide +kernel, rfl⟩
theorem dc_X11_needWord_1 : Dc miX11_needWord 1 (.ifCond .lt 17) 3 4 := ⟨by decide +kernel, rfl⟩
theorem dc_X11_needWord_4 : Dc miX11_needWord 4 (.iload_n 1) 1 5 := ⟨by decide +kernel, rfl⟩
theorem dc_X11_needWord_5 : Dc miX11_needWord 5 (.aload_n 0) 1 6 := ⟨by decide +kernel, rfl⟩
theorem dc_X11_needWord_6 : Dc miX11_needWord 6 (.getfield 19) 3 9 := ⟨by decide +kernel, rfl⟩
theorem dc_X11_needWord_9 : Dc miX11_needWord 9 (.getfield 104) 3 12 := ⟨by decide +kernel, rfl⟩
theorem dc_X11_needWord_12 : Dc miX11_needWord 12 (.getfield 313) 3 15 := ⟨by decide +kernel, rfl⟩
theorem dc_X11_needWord_15 : Dc miX11_needWord 15 (.if_icmp .lt 14) 3 18 := ⟨by decide +kernel, rfl⟩
theorem dc_X11_needWord_18 : Dc miX11_needWord 18 (.new 352) 3 21 := ⟨by decide +kernel, rfl⟩
theorem dc_X11_needWord_21 : Dc miX11_needWord 21 (.dup) 1 22 := ⟨by decide +kernel, rfl⟩
theorem dc_X11_needWord_22 : Dc miX11_needWord 22 (.ldc_w 409) 3 25 := ⟨by decide +kernel, rfl⟩
theorem dc_X11_needWord_25 : Dc miX11_needWord 25 (.invokespecial 356) 3 28 := ⟨by decide +kernel, rfl⟩
theorem dc_X11_needWord_28 : Dc miX11_needWord 28 (.athrow) 1 29 := ⟨by decide +kernel, rfl⟩
theorem dc_X11_needWord_29 : Dc miX11_needWord 29 (.return_) 1 30 := ⟨by decide +kernel, rfl⟩
def fX11_needWord (N : Nat) (G : pG) (a0 : Nat) (a1 : Int32) (σ : pS) : Option (pS ⊕ (String × pS)) := if a1 < 0 then (some (.inr ("java/lang/IndexOutOfBoundsException", σ))) else (if a1 < (σ.1 (pR G (pR G a0 1) 0) 2) then (some (.inl σ)) else (some (.inr ("java/lang/IndexOutOfBoundsException", σ))))
set_option maxRecDepth 100000 in
set_option maxHeartbeats 4000000 in
theorem tX11_needWord {N : Nat} {G : pG} {SK : Nat → Nat} {a0 : Nat} {a1 : Int32} {σ : pS} {r : pS ⊕ (String × pS)} (hW : WT G) (i0 : Is G a0 10) (h : fX11_needWord N G a0 a1 σ = some r) : Dx miX11_needWord yX11_needWord 7 1 6 G SK [.ref a0, .int a1] σ (xoV r) := by
  unfold fX11_needWord at h
  refine dx_of (lv := [some (.ref a0), some (.int a1)]) (by decide) rfl rfl (Nat.le_of_ble_eq_true rfl) rfl ?_
  refine ev_iload_n dc_X11_needWord_0 rfl ?_
  refine ev_if_lt (tgt := 18) dc_X11_needWord_1 (by decide) h (fun h => ?_) (fun h => ?_)
  · cases h
    exact ev_throwSW (tx := "no such word") rfl dc_X11_needWord_18 dc_X11_needWord_21 dc_X11_needWord_22 dc_X11_needWord_25 dc_X11_needWord_28 mw_1043 (List.mem_of_getElem? (i := 36) rfl) xa_X11_356 (Nat.le_of_ble_eq_true rfl) (Nat.le_of_ble_eq_true rfl) ⟨Nat.le_of_ble_eq_true rfl, Nat.le_of_ble_eq_true rfl⟩ ⟨Nat.le_of_ble_eq_true rfl, Nat.le_of_ble_eq_true rfl⟩
  · refine ev_iload_n dc_X11_needWord_4 rfl ?_
    refine ev_aload_n dc_X11_needWord_5 rfl ?_
    refine ev_getR dc_X11_needWord_6 fi_X11_19 rfl i0 ?_
    refine ev_getR dc_X11_needWord_9 fi_X11_104 rfl (wt hW i0 1 rfl rfl) ?_
    refine ev_getI dc_X11_needWord_12 fi_X11_313 rfl (wt hW (wt hW i0 1 rfl rfl) 0 rfl rfl) ?_
    refine ev_icmp_lt (tgt := 29) dc_X11_needWord_15 (by decide) h (fun h => ?_) (fun h => ?_)
    · cases h
      exact ev_vretX dc_X11_needWord_29 rfl ⟨Nat.le_of_ble_eq_true rfl, Nat.le_of_ble_eq_true rfl⟩ rfl rfl
    · cases h
      exact ev_throwSW (tx := "no such word") rfl dc_X11_needWord_18 dc_X11_needWord_21 dc_X11_needWord_22 dc_X11_needWord_25 dc_X11_needWord_28 mw_1043 (List.mem_of_getElem? (i := 36) rfl) xa_X11_356 (Nat.le_of_ble_eq_true rfl) (Nat.le_of_ble_eq_true rfl) ⟨Nat.le_of_ble_eq_true rfl, Nat.le_of_ble_eq_true rfl⟩ ⟨Nat.le_of_ble_eq_true rfl, Nat.le_of_ble_eq_true rfl⟩
theorem dc_X11_habit_0 : Dc miX11_habit 0 (.aload_n 0) 1 1 := ⟨by decide +kernel, rfl⟩
theorem dc_X11_habit_1 : Dc miX11_habit 1 (.iload_n 1) 1 2 := ⟨by decide +kernel, rfl⟩
theorem dc_X11_habit_2 : Dc miX11_habit 2 (.invokevirtual 174) 3 5 := ⟨by decide +kernel, rfl⟩
theorem dc_X11_habit_5 : Dc miX11_habit 5 (.aload_n 0) 1 6 := ⟨by decide +kernel, rfl⟩
theorem dc_X11_habit_6 : Dc miX11_habit 6 (.iload_n 2) 1 7 := ⟨by decide +kernel, rfl⟩
theorem dc_X11_habit_7 : Dc miX11_habit 7 (.invokevirtual 188) 3 10 := ⟨by decide +kernel, rfl⟩
theorem dc_X11_habit_10 : Dc miX11_habit 10 (.aload_n 0) 1 11 := ⟨by decide +kernel, rfl⟩
theorem dc_X11_habit_11 : Dc miX11_habit 11 (.getfield 32) 3 14 := ⟨by decide +kernel, rfl⟩
theorem dc_X11_habit_14 : Dc miX11_habit 14 (.aload_n 0) 1 15 := ⟨by decide +kernel, rfl⟩
theorem dc_X11_habit_15 : Dc miX11_habit 15 (.getfield 19) 3 18 := ⟨by decide +kernel, rfl⟩
theorem dc_X11_habit_18 : Dc miX11_habit 18 (.getfield 155) 3 21 := ⟨by decide +kernel, rfl⟩
theorem dc_X11_habit_21 : Dc miX11_habit 21 (.invokevirtual 224) 3 24 := ⟨by decide +kernel, rfl⟩
theorem dc_X11_habit_24 : Dc miX11_habit 24 (.aload_n 0) 1 25 := ⟨by decide +kernel, rfl⟩
theorem dc_X11_habit_25 : Dc miX11_habit 25 (.getfield 19) 3 28 := ⟨by decide +kernel, rfl⟩
theorem dc_X11_habit_28 : Dc miX11_habit 28 (.getfield 155) 3 31 := ⟨by decide +kernel, rfl⟩
theorem dc_X11_habit_31 : Dc miX11_habit 31 (.getfield 180) 3 34 := ⟨by decide +kernel, rfl⟩
theorem dc_X11_habit_34 : Dc miX11_habit 34 (.iload_n 1) 1 35 := ⟨by decide +kernel, rfl⟩
theorem dc_X11_habit_35 : Dc miX11_habit 35 (.invokestatic 148) 3 38 := ⟨by decide +kernel, rfl⟩
theorem dc_X11_habit_38 : Dc miX11_habit 38 (.istore_n 3) 1 39 := ⟨by decide +kernel, rfl⟩
theorem dc_X11_habit_39 : Dc miX11_habit 39 (.aload_n 0) 1 40 := ⟨by decide +kernel, rfl⟩
theorem dc_X11_habit_40 : Dc miX11_habit 40 (.getfield 19) 3 43 := ⟨by decide +kernel, rfl⟩
theorem dc_X11_habit_43 : Dc miX11_habit 43 (.getfield 155) 3 46 := ⟨by decide +kernel, rfl⟩
theorem dc_X11_habit_46 : Dc miX11_habit 46 (.iload_n 1) 1 47 := ⟨by decide +kernel, rfl⟩
theorem dc_X11_habit_47 : Dc miX11_habit 47 (.iload_n 2) 1 48 := ⟨by decide +kernel, rfl⟩
theorem dc_X11_habit_48 : Dc miX11_habit 48 (.invokevirtual 241) 3 51 := ⟨by decide +kernel, rfl⟩
theorem dc_X11_habit_51 : Dc miX11_habit 51 (.iload_n 3) 1 52 := ⟨by decide +kernel, rfl⟩
theorem dc_X11_habit_52 : Dc miX11_habit 52 (.ireturn) 1 53 := ⟨by decide +kernel, rfl⟩
def fX11_habit (N : Nat) (G : pG) (a0 : Nat) (a1 : Int32) (a2 : Int32) (σ : pS) : Option ((Int32 × pS) ⊕ (String × pS)) := (fX11_needWho N G a0 a1 σ).bind (fun q1 => q1.elim (fun zs2 => (fX11_needWord N G a0 a2 zs2).bind (fun q3 => q3.elim (fun zs4 => (fX4_remember N G (pR G a0 4) (pR G (pR G a0 1) 2) zs4).bind (fun q5 => (fX11_at N G (pR G (pR G (pR G a0 1) 2) 7) a1 q5).bind (fun q6 => (fX3_setHabit N G (pR G (pR G a0 1) 2) a1 a2 q5).bind (fun q7 => some (.inl (q6, q7)))))) (fun e => some (.inr e)))) (fun e => some (.inr e)))
set_option maxRecDepth 100000 in
set_option maxHeartbeats 4000000 in
theorem tX11_habit {N : Nat} {G : pG} {SK : Nat → Nat} {a0 : Nat} {a1 : Int32} {a2 : Int32} {σ : pS} {r : (Int32 × pS) ⊕ (String × pS)} (hW : WT G) (i0 : Is G a0 10) (h : fX11_habit N G a0 a1 a2 σ = some r) : Dx miX11_habit yX11_habit 8 2 12 G SK [.ref a0, .int a1, .int a2] σ (xoI r) := by
  unfold fX11_habit at h
  refine dx_of (lv := [some (.ref a0), some (.int a1), some (.int a2), none]) (by decide) rfl rfl (Nat.le_of_ble_eq_true rfl) rfl ?_
  refine ev_aload_n dc_X11_habit_0 rfl ?_
  refine ev_iload_n dc_X11_habit_1 rfl ?_
  obtain ⟨q1, hq1, h⟩ := Option.bind_eq_some_iff.mp h
  refine ev_callX (mc := 2) (ms := 12) (av := [.int a1]) (st := []) rfl dc_X11_habit_2 (tX11_needWho hW i0 hq1) mw_1090 cy_X11_needWho i0 (by decide) rfl rfl rfl (Nat.le_of_ble_eq_true rfl) (Nat.le_of_ble_eq_true rfl) ⟨Nat.le_of_ble_eq_true rfl, Nat.le_of_ble_eq_true rfl⟩ ?_ ?_
  · intro e he
    rcases q1 with zs2 | zs2
    · have he : (Sum.inl (none, zs2) : XO) = .inr e := he
      cases he
    · have he : (Sum.inr zs2 : XO) = .inr e := he
      cases he
      dsimp only [Sum.elim] at h
      cases h
      exact ⟨rfl, Nat.le_of_ble_eq_true rfl, Nat.le_of_ble_eq_true rfl⟩
  intro e he
  rcases q1 with zs2 | zs2
  rotate_left
  · have he : (Sum.inr zs2 : XO) = .inl e := he
    cases he
  have he : (Sum.inl (none, zs2) : XO) = .inl e := he
  cases he
  dsimp only [Sum.elim] at h
  show Ev miX11_habit (8, 2, 12) G (Zx G (xoI r) 2 12) SK (1, 6) 5 [some (.ref a0), some (.int a1), some (.int a2), none] [] zs2
  refine ev_aload_n dc_X11_habit_5 rfl ?_
  refine ev_iload_n dc_X11_habit_6 rfl ?_
  obtain ⟨q3, hq3, h⟩ := Option.bind_eq_some_iff.mp h
  refine ev_callX (mc := 2) (ms := 12) (av := [.int a2]) (st := []) rfl dc_X11_habit_7 (tX11_needWord hW i0 hq3) mw_1103 cy_X11_needWord i0 (by decide) rfl rfl rfl (Nat.le_of_ble_eq_true rfl) (Nat.le_of_ble_eq_true rfl) ⟨Nat.le_of_ble_eq_true rfl, Nat.le_of_ble_eq_true rfl⟩ ?_ ?_
  · intro e he
    rcases q3 with zs4 | zs4
    · have he : (Sum.inl (none, zs4) : XO) = .inr e := he
      cases he
    · have he : (Sum.inr zs4 : XO) = .inr e := he
      cases he
      dsimp only [Sum.elim] at h
      cases h
      exact ⟨rfl, Nat.le_of_ble_eq_true rfl, Nat.le_of_ble_eq_true rfl⟩
  intro e he
  rcases q3 with zs4 | zs4
  rotate_left
  · have he : (Sum.inr zs4 : XO) = .inl e := he
    cases he
  have he : (Sum.inl (none, zs4) : XO) = .inl e := he
  cases he
  dsimp only [Sum.elim] at h
  show Ev miX11_habit (8, 2, 12) G (Zx G (xoI r) 2 12) SK (2, 12) 10 [some (.ref a0), some (.int a1), some (.int a2), none] [] zs4
  refine ev_aload_n dc_X11_habit_10 rfl ?_
  refine ev_getR dc_X11_habit_11 fi_X11_32 rfl i0 ?_
  refine ev_aload_n dc_X11_habit_14 rfl ?_
  refine ev_getR dc_X11_habit_15 fi_X11_19 rfl i0 ?_
  refine ev_getR dc_X11_habit_18 fi_X11_155 rfl (wt hW i0 1 rfl rfl) ?_
  obtain ⟨q5, hq5, h⟩ := Option.bind_eq_some_iff.mp h
  refine ev_callV (av := [.ref (pR G (pR G a0 1) 2)]) (st := []) (st1 := []) dc_X11_habit_21 (tX4_remember hW (wt hW i0 4 rfl rfl) (wt hW (wt hW i0 1 rfl rfl) 2 rfl rfl) hq5) mw_1156 cy_X4_remember (wt hW i0 4 rfl rfl) (by decide) rfl rfl rfl rfl (Nat.le_of_ble_eq_true rfl) (Nat.le_of_ble_eq_true rfl) ⟨Nat.le_of_ble_eq_true rfl, Nat.le_of_ble_eq_true rfl⟩ ?_
  refine ev_aload_n dc_X11_habit_24 rfl ?_
  refine ev_getR dc_X11_habit_25 fi_X11_19 rfl i0 ?_
  refine ev_getR dc_X11_habit_28 fi_X11_155 rfl (wt hW i0 1 rfl rfl) ?_
  refine ev_getR dc_X11_habit_31 fi_X11_180 rfl (wt hW (wt hW i0 1 rfl rfl) 2 rfl rfl) ?_
  refine ev_iload_n dc_X11_habit_34 rfl ?_
  obtain ⟨q6, hq6, h⟩ := Option.bind_eq_some_iff.mp h
  refine ev_callS (av := [.ref (pR G (pR G (pR G a0 1) 2) 7), .int a1]) (st := []) (st1 := [.int q6]) dc_X11_habit_35 (tX11_at hW (wt hW (wt hW (wt hW i0 1 rfl rfl) 2 rfl rfl) 7 rfl rfl) hq6) mw_567 cs_X11_at rfl rfl rfl (Nat.le_of_ble_eq_true rfl) (Nat.le_of_ble_eq_true rfl) ⟨Nat.le_of_ble_eq_true rfl, Nat.le_of_ble_eq_true rfl⟩ ?_
  refine ev_istore_n (lv' := [some (.ref a0), some (.int a1), some (.int a2), some (.int q6)]) dc_X11_habit_38 rfl (by decide) rfl ?_
  refine ev_aload_n dc_X11_habit_39 rfl ?_
  refine ev_getR dc_X11_habit_40 fi_X11_19 rfl i0 ?_
  refine ev_getR dc_X11_habit_43 fi_X11_155 rfl (wt hW i0 1 rfl rfl) ?_
  refine ev_iload_n dc_X11_habit_46 rfl ?_
  refine ev_iload_n dc_X11_habit_47 rfl ?_
  obtain ⟨q7, hq7, h⟩ := Option.bind_eq_some_iff.mp h
  refine ev_callV (av := [.int a1, .int a2]) (st := []) (st1 := []) dc_X11_habit_48 (tX3_setHabit hW (wt hW (wt hW i0 1 rfl rfl) 2 rfl rfl) hq7) mw_1199 cy_X3_setHabit (wt hW (wt hW i0 1 rfl rfl) 2 rfl rfl) (by decide) rfl rfl rfl rfl (Nat.le_of_ble_eq_true rfl) (Nat.le_of_ble_eq_true rfl) ⟨Nat.le_of_ble_eq_true rfl, Nat.le_of_ble_eq_true rfl⟩ ?_
  refine ev_iload_n dc_X11_habit_51 rfl ?_
  cases h
  exact ev_iretX dc_X11_habit_52 rfl ⟨Nat.le_of_ble_eq_true rfl, Nat.le_of_ble_eq_true rfl⟩ rfl rfl
theorem dc_X11_needName_0 : Dc miX11_needName 0 (.iload_n 1) 1 1 := ⟨by decide +kernel, rfl⟩
theorem dc_X11_needName_1 : Dc miX11_needName 1 (.ifCond .lt 17) 3 4 := ⟨by decide +kernel, rfl⟩
theorem dc_X11_needName_4 : Dc miX11_needName 4 (.iload_n 1) 1 5 := ⟨by decide +kernel, rfl⟩
theorem dc_X11_needName_5 : Dc miX11_needName 5 (.aload_n 0) 1 6 := ⟨by decide +kernel, rfl⟩
theorem dc_X11_needName_6 : Dc miX11_needName 6 (.getfield 19) 3 9 := ⟨by decide +kernel, rfl⟩
theorem dc_X11_needName_9 : Dc miX11_needName 9 (.getfield 104) 3 12 := ⟨by decide +kernel, rfl⟩
theorem dc_X11_needName_12 : Dc miX11_needName 12 (.getfield 248) 3 15 := ⟨by decide +kernel, rfl⟩
theorem dc_X11_needName_15 : Dc miX11_needName 15 (.if_icmp .lt 14) 3 18 := ⟨by decide +kernel, rfl⟩
theorem dc_X11_needName_18 : Dc miX11_needName 18 (.new 352) 3 21 := ⟨by decide +kernel, rfl⟩
theorem dc_X11_needName_21 : Dc miX11_needName 21 (.dup) 1 22 := ⟨by decide +kernel, rfl⟩
theorem dc_X11_needName_22 : Dc miX11_needName 22 (.ldc_w 405) 3 25 := ⟨by decide +kernel, rfl⟩
theorem dc_X11_needName_25 : Dc miX11_needName 25 (.invokespecial 356) 3 28 := ⟨by decide +kernel, rfl⟩
theorem dc_X11_needName_28 : Dc miX11_needName 28 (.athrow) 1 29 := ⟨by decide +kernel, rfl⟩
theorem dc_X11_needName_29 : Dc miX11_needName 29 (.return_) 1 30 := ⟨by decide +kernel, rfl⟩
def fX11_needName (N : Nat) (G : pG) (a0 : Nat) (a1 : Int32) (σ : pS) : Option (pS ⊕ (String × pS)) := if a1 < 0 then (some (.inr ("java/lang/IndexOutOfBoundsException", σ))) else (if a1 < (σ.1 (pR G (pR G a0 1) 0) 1) then (some (.inl σ)) else (some (.inr ("java/lang/IndexOutOfBoundsException", σ))))
set_option maxRecDepth 100000 in
set_option maxHeartbeats 4000000 in
theorem tX11_needName {N : Nat} {G : pG} {SK : Nat → Nat} {a0 : Nat} {a1 : Int32} {σ : pS} {r : pS ⊕ (String × pS)} (hW : WT G) (i0 : Is G a0 10) (h : fX11_needName N G a0 a1 σ = some r) : Dx miX11_needName yX11_needName 7 1 6 G SK [.ref a0, .int a1] σ (xoV r) := by
  unfold fX11_needName at h
  refine dx_of (lv := [some (.ref a0), some (.int a1)]) (by decide) rfl rfl (Nat.le_of_ble_eq_true rfl) rfl ?_
  refine ev_iload_n dc_X11_needName_0 rfl ?_
  refine ev_if_lt (tgt := 18) dc_X11_needName_1 (by decide) h (fun h => ?_) (fun h => ?_)
  · cases h
    exact ev_throwSW (tx := "no such name") rfl dc_X11_needName_18 dc_X11_needName_21 dc_X11_needName_22 dc_X11_needName_25 dc_X11_needName_28 mw_1043 (List.mem_of_getElem? (i := 32) rfl) xa_X11_356 (Nat.le_of_ble_eq_true rfl) (Nat.le_of_ble_eq_true rfl) ⟨Nat.le_of_ble_eq_true rfl, Nat.le_of_ble_eq_true rfl⟩ ⟨Nat.le_of_ble_eq_true rfl, Nat.le_of_ble_eq_true rfl⟩
  · refine ev_iload_n dc_X11_needName_4 rfl ?_
    refine ev_aload_n dc_X11_needName_5 rfl ?_
    refine ev_getR dc_X11_needName_6 fi_X11_19 rfl i0 ?_
    refine ev_getR dc_X11_needName_9 fi_X11_104 rfl (wt hW i0 1 rfl rfl) ?_
    refine ev_getI dc_X11_needName_12 fi_X11_248 rfl (wt hW (wt hW i0 1 rfl rfl) 0 rfl rfl) ?_
    refine ev_icmp_lt (tgt := 29) dc_X11_needName_15 (by decide) h (fun h => ?_) (fun h => ?_)
    · cases h
      exact ev_vretX dc_X11_needName_29 rfl ⟨Nat.le_of_ble_eq_true rfl, Nat.le_of_ble_eq_true rfl⟩ rfl rfl
    · cases h
      exact ev_throwSW (tx := "no such name") rfl dc_X11_needName_18 dc_X11_needName_21 dc_X11_needName_22 dc_X11_needName_25 dc_X11_needName_28 mw_1043 (List.mem_of_getElem? (i := 32) rfl) xa_X11_356 (Nat.le_of_ble_eq_true rfl) (Nat.le_of_ble_eq_true rfl) ⟨Nat.le_of_ble_eq_true rfl, Nat.le_of_ble_eq_true rfl⟩ ⟨Nat.le_of_ble_eq_true rfl, Nat.le_of_ble_eq_true rfl⟩
theorem dc_X11_his_0 : Dc miX11_his 0 (.aload_n 0) 1 1 := ⟨by decide +kernel, rfl⟩
theorem dc_X11_his_1 : Dc miX11_his 1 (.iload_n 1) 1 2 := ⟨by decide +kernel, rfl⟩
theorem dc_X11_his_2 : Dc miX11_his 2 (.invokevirtual 141) 3 5 := ⟨by decide +kernel, rfl⟩
theorem dc_X11_his_5 : Dc miX11_his 5 (.aload_n 0) 1 6 := ⟨by decide +kernel, rfl⟩
theorem dc_X11_his_6 : Dc miX11_his 6 (.getfield 32) 3 9 := ⟨by decide +kernel, rfl⟩
theorem dc_X11_his_9 : Dc miX11_his 9 (.aload_n 0) 1 10 := ⟨by decide +kernel, rfl⟩
theorem dc_X11_his_10 : Dc miX11_his 10 (.getfield 19) 3 13 := ⟨by decide +kernel, rfl⟩
theorem dc_X11_his_13 : Dc miX11_his 13 (.getfield 155) 3 16 := ⟨by decide +kernel, rfl⟩
theorem dc_X11_his_16 : Dc miX11_his 16 (.invokevirtual 224) 3 19 := ⟨by decide +kernel, rfl⟩
theorem dc_X11_his_19 : Dc miX11_his 19 (.aload_n 0) 1 20 := ⟨by decide +kernel, rfl⟩
theorem dc_X11_his_20 : Dc miX11_his 20 (.getfield 19) 3 23 := ⟨by decide +kernel, rfl⟩
theorem dc_X11_his_23 : Dc miX11_his 23 (.getfield 155) 3 26 := ⟨by decide +kernel, rfl⟩
theorem dc_X11_his_26 : Dc miX11_his 26 (.getfield 245) 3 29 := ⟨by decide +kernel, rfl⟩
theorem dc_X11_his_29 : Dc miX11_his 29 (.istore_n 2) 1 30 := ⟨by decide +kernel, rfl⟩
theorem dc_X11_his_30 : Dc miX11_his 30 (.aload_n 0) 1 31 := ⟨by decide +kernel, rfl⟩
theorem dc_X11_his_31 : Dc miX11_his 31 (.getfield 19) 3 34 := ⟨by decide +kernel, rfl⟩
theorem dc_X11_his_34 : Dc miX11_his 34 (.getfield 155) 3 37 := ⟨by decide +kernel, rfl⟩
theorem dc_X11_his_37 : Dc miX11_his 37 (.iload_n 1) 1 38 := ⟨by decide +kernel, rfl⟩
theorem dc_X11_his_38 : Dc miX11_his 38 (.aload_n 0) 1 39 := ⟨by decide +kernel, rfl⟩
theorem dc_X11_his_39 : Dc miX11_his 39 (.getfield 19) 3 42 := ⟨by decide +kernel, rfl⟩
theorem dc_X11_his_42 : Dc miX11_his 42 (.getfield 104) 3 45 := ⟨by decide +kernel, rfl⟩
theorem dc_X11_his_45 : Dc miX11_his 45 (.getfield 248) 3 48 := ⟨by decide +kernel, rfl⟩
theorem dc_X11_his_48 : Dc miX11_his 48 (.invokevirtual 251) 3 51 := ⟨by decide +kernel, rfl⟩
theorem dc_X11_his_51 : Dc miX11_his 51 (.iload_n 2) 1 52 := ⟨by decide +kernel, rfl⟩
theorem dc_X11_his_52 : Dc miX11_his 52 (.ireturn) 1 53 := ⟨by decide +kernel, rfl⟩
def fX11_his (N : Nat) (G : pG) (a0 : Nat) (a1 : Int32) (σ : pS) : Option ((Int32 × pS) ⊕ (String × pS)) := (fX11_needName N G a0 a1 σ).bind (fun q1 => q1.elim (fun zs2 => (fX4_remember N G (pR G a0 4) (pR G (pR G a0 1) 2) zs2).bind (fun q3 => (fX3_tellBearer N G (pR G (pR G a0 1) 2) a1 (q3.1 (pR G (pR G a0 1) 0) 1) q3).bind (fun q4 => some (.inl (q3.1 (pR G (pR G a0 1) 2) 2, q4))))) (fun e => some (.inr e)))
set_option maxRecDepth 100000 in
set_option maxHeartbeats 4000000 in
theorem tX11_his {N : Nat} {G : pG} {SK : Nat → Nat} {a0 : Nat} {a1 : Int32} {σ : pS} {r : (Int32 × pS) ⊕ (String × pS)} (hW : WT G) (i0 : Is G a0 10) (h : fX11_his N G a0 a1 σ = some r) : Dx miX11_his yX11_his 8 1 6 G SK [.ref a0, .int a1] σ (xoI r) := by
  unfold fX11_his at h
  refine dx_of (lv := [some (.ref a0), some (.int a1), none]) (by decide) rfl rfl (Nat.le_of_ble_eq_true rfl) rfl ?_
  refine ev_aload_n dc_X11_his_0 rfl ?_
  refine ev_iload_n dc_X11_his_1 rfl ?_
  obtain ⟨q1, hq1, h⟩ := Option.bind_eq_some_iff.mp h
  refine ev_callX (mc := 1) (ms := 6) (av := [.int a1]) (st := []) rfl dc_X11_his_2 (tX11_needName hW i0 hq1) mw_1039 cy_X11_needName i0 (by decide) rfl rfl rfl (Nat.le_of_ble_eq_true rfl) (Nat.le_of_ble_eq_true rfl) ⟨Nat.le_of_ble_eq_true rfl, Nat.le_of_ble_eq_true rfl⟩ ?_ ?_
  · intro e he
    rcases q1 with zs2 | zs2
    · have he : (Sum.inl (none, zs2) : XO) = .inr e := he
      cases he
    · have he : (Sum.inr zs2 : XO) = .inr e := he
      cases he
      dsimp only [Sum.elim] at h
      cases h
      exact ⟨rfl, Nat.le_of_ble_eq_true rfl, Nat.le_of_ble_eq_true rfl⟩
  intro e he
  rcases q1 with zs2 | zs2
  rotate_left
  · have he : (Sum.inr zs2 : XO) = .inl e := he
    cases he
  have he : (Sum.inl (none, zs2) : XO) = .inl e := he
  cases he
  dsimp only [Sum.elim] at h
  show Ev miX11_his (8, 1, 6) G (Zx G (xoI r) 1 6) SK (1, 6) 5 [some (.ref a0), some (.int a1), none] [] zs2
  refine ev_aload_n dc_X11_his_5 rfl ?_
  refine ev_getR dc_X11_his_6 fi_X11_32 rfl i0 ?_
  refine ev_aload_n dc_X11_his_9 rfl ?_
  refine ev_getR dc_X11_his_10 fi_X11_19 rfl i0 ?_
  refine ev_getR dc_X11_his_13 fi_X11_155 rfl (wt hW i0 1 rfl rfl) ?_
  obtain ⟨q3, hq3, h⟩ := Option.bind_eq_some_iff.mp h
  refine ev_callV (av := [.ref (pR G (pR G a0 1) 2)]) (st := []) (st1 := []) dc_X11_his_16 (tX4_remember hW (wt hW i0 4 rfl rfl) (wt hW (wt hW i0 1 rfl rfl) 2 rfl rfl) hq3) mw_1156 cy_X4_remember (wt hW i0 4 rfl rfl) (by decide) rfl rfl rfl rfl (Nat.le_of_ble_eq_true rfl) (Nat.le_of_ble_eq_true rfl) ⟨Nat.le_of_ble_eq_true rfl, Nat.le_of_ble_eq_true rfl⟩ ?_
  refine ev_aload_n dc_X11_his_19 rfl ?_
  refine ev_getR dc_X11_his_20 fi_X11_19 rfl i0 ?_
  refine ev_getR dc_X11_his_23 fi_X11_155 rfl (wt hW i0 1 rfl rfl) ?_
  refine ev_getI dc_X11_his_26 fi_X11_245 rfl (wt hW (wt hW i0 1 rfl rfl) 2 rfl rfl) ?_
  refine ev_istore_n (lv' := [some (.ref a0), some (.int a1), some (.int (q3.1 (pR G (pR G a0 1) 2) 2))]) dc_X11_his_29 rfl (by decide) rfl ?_
  refine ev_aload_n dc_X11_his_30 rfl ?_
  refine ev_getR dc_X11_his_31 fi_X11_19 rfl i0 ?_
  refine ev_getR dc_X11_his_34 fi_X11_155 rfl (wt hW i0 1 rfl rfl) ?_
  refine ev_iload_n dc_X11_his_37 rfl ?_
  refine ev_aload_n dc_X11_his_38 rfl ?_
  refine ev_getR dc_X11_his_39 fi_X11_19 rfl i0 ?_
  refine ev_getR dc_X11_his_42 fi_X11_104 rfl (wt hW i0 1 rfl rfl) ?_
  refine ev_getI dc_X11_his_45 fi_X11_248 rfl (wt hW (wt hW i0 1 rfl rfl) 0 rfl rfl) ?_
  obtain ⟨q4, hq4, h⟩ := Option.bind_eq_some_iff.mp h
  refine ev_callV (av := [.int a1, .int (q3.1 (pR G (pR G a0 1) 0) 1)]) (st := []) (st1 := []) dc_X11_his_48 (tX3_tellBearer hW (wt hW (wt hW i0 1 rfl rfl) 2 rfl rfl) hq4) mw_1207 cy_X3_tellBearer (wt hW (wt hW i0 1 rfl rfl) 2 rfl rfl) (by decide) rfl rfl rfl rfl (Nat.le_of_ble_eq_true rfl) (Nat.le_of_ble_eq_true rfl) ⟨Nat.le_of_ble_eq_true rfl, Nat.le_of_ble_eq_true rfl⟩ ?_
  refine ev_iload_n dc_X11_his_51 rfl ?_
  cases h
  exact ev_iretX dc_X11_his_52 rfl ⟨Nat.le_of_ble_eq_true rfl, Nat.le_of_ble_eq_true rfl⟩ rfl rfl
