theorem dc_X9_advance_0 : Dc miX9_advance 0 (.aload_n 0) 1 1 := ⟨by decide +kernel, rfl⟩
theorem dc_X9_advance_1 : Dc miX9_advance 1 (.getfield 21) 3 4 := ⟨by decide +kernel, rfl⟩
theorem dc_X9_advance_4 : Dc miX9_advance 4 (.aload_n 0) 1 5 := ⟨by decide +kernel, rfl⟩
theorem dc_X9_advance_5 : Dc miX9_advance 5 (.getfield 9) 3 8 := ⟨by decide +kernel, rfl⟩
theorem dc_X9_advance_8 : Dc miX9_advance 8 (.if_icmp .ge 29) 3 11 := ⟨by decide +kernel, rfl⟩
theorem dc_X9_advance_11 : Dc miX9_advance 11 (.aload_n 0) 1 12 := ⟨by decide +kernel, rfl⟩
theorem dc_X9_advance_12 : Dc miX9_advance 12 (.aload_n 0) 1 13 := ⟨by decide +kernel, rfl⟩
theorem dc_X9_advance_13 : Dc miX9_advance 13 (.getfield 21) 3 16 := ⟨by decide +kernel, rfl⟩
theorem dc_X9_advance_16 : Dc miX9_advance 16 (.invokevirtual 34) 3 19 := ⟨by decide +kernel, rfl⟩
theorem dc_X9_advance_19 : Dc miX9_advance 19 (.bipush 32) 2 21 := ⟨by decide +kernel, rfl⟩
theorem dc_X9_advance_21 : Dc miX9_advance 21 (.if_icmp .ne 16) 3 24 := ⟨by decide +kernel, rfl⟩
theorem dc_X9_advance_24 : Dc miX9_advance 24 (.aload_n 0) 1 25 := ⟨by decide +kernel, rfl⟩
theorem dc_X9_advance_25 : Dc miX9_advance 25 (.dup) 1 26 := ⟨by decide +kernel, rfl⟩
theorem dc_X9_advance_26 : Dc miX9_advance 26 (.getfield 21) 3 29 := ⟨by decide +kernel, rfl⟩
theorem dc_X9_advance_29 : Dc miX9_advance 29 (.iconst 1) 1 30 := ⟨by decide +kernel, rfl⟩
theorem dc_X9_advance_30 : Dc miX9_advance 30 (.iadd) 1 31 := ⟨by decide +kernel, rfl⟩
theorem dc_X9_advance_31 : Dc miX9_advance 31 (.putfield 21) 3 34 := ⟨by decide +kernel, rfl⟩
theorem dc_X9_advance_34 : Dc miX9_advance 34 (.goto (-34)) 3 37 := ⟨by decide +kernel, rfl⟩
theorem dc_X9_advance_37 : Dc miX9_advance 37 (.aload_n 0) 1 38 := ⟨by decide +kernel, rfl⟩
theorem dc_X9_advance_38 : Dc miX9_advance 38 (.aload_n 0) 1 39 := ⟨by decide +kernel, rfl⟩
theorem dc_X9_advance_39 : Dc miX9_advance 39 (.getfield 21) 3 42 := ⟨by decide +kernel, rfl⟩
theorem dc_X9_advance_42 : Dc miX9_advance 42 (.putfield 18) 3 45 := ⟨by decide +kernel, rfl⟩
theorem dc_X9_advance_45 : Dc miX9_advance 45 (.aload_n 0) 1 46 := ⟨by decide +kernel, rfl⟩
theorem dc_X9_advance_46 : Dc miX9_advance 46 (.aload_n 0) 1 47 := ⟨by decide +kernel, rfl⟩
theorem dc_X9_advance_47 : Dc miX9_advance 47 (.aload_n 0) 1 48 := ⟨by decide +kernel, rfl⟩
theorem dc_X9_advance_48 : Dc miX9_advance 48 (.getfield 21) 3 51 := ⟨by decide +kernel, rfl⟩
theorem dc_X9_advance_51 : Dc miX9_advance 51 (.invokevirtual 34) 3 54 := ⟨by decide +kernel, rfl⟩
theorem dc_X9_advance_54 : Dc miX9_advance 54 (.invokestatic 38) 3 57 := ⟨by decide +kernel, rfl⟩
theorem dc_X9_advance_57 : Dc miX9_advance 57 (.putfield 15) 3 60 := ⟨by decide +kernel, rfl⟩
theorem dc_X9_advance_60 : Dc miX9_advance 60 (.aload_n 0) 1 61 := ⟨by decide +kernel, rfl⟩
theorem dc_X9_advance_61 : Dc miX9_advance 61 (.iconst 0) 1 62 := ⟨by decide +kernel, rfl⟩
theorem dc_X9_advance_62 : Dc miX9_advance 62 (.putfield 24) 3 65 := ⟨by decide +kernel, rfl⟩
theorem dc_X9_advance_65 : Dc miX9_advance 65 (.aload_n 0) 1 66 := ⟨by decide +kernel, rfl⟩
theorem dc_X9_advance_66 : Dc miX9_advance 66 (.getfield 15) 3 69 := ⟨by decide +kernel, rfl⟩
theorem dc_X9_advance_69 : Dc miX9_advance 69 (.iconst 3) 1 70 := ⟨by decide +kernel, rfl⟩
theorem dc_X9_advance_70 : Dc miX9_advance 70 (.if_icmp .ne 14) 3 73 := ⟨by decide +kernel, rfl⟩
theorem dc_X9_advance_73 : Dc miX9_advance 73 (.aload_n 0) 1 74 := ⟨by decide +kernel, rfl⟩
theorem dc_X9_advance_74 : Dc miX9_advance 74 (.dup) 1 75 := ⟨by decide +kernel, rfl⟩
theorem dc_X9_advance_75 : Dc miX9_advance 75 (.getfield 21) 3 78 := ⟨by decide +kernel, rfl⟩
theorem dc_X9_advance_78 : Dc miX9_advance 78 (.iconst 1) 1 79 := ⟨by decide +kernel, rfl⟩
theorem dc_X9_advance_79 : Dc miX9_advance 79 (.iadd) 1 80 := ⟨by decide +kernel, rfl⟩
theorem dc_X9_advance_80 : Dc miX9_advance 80 (.putfield 21) 3 83 := ⟨by decide +kernel, rfl⟩
theorem dc_X9_advance_83 : Dc miX9_advance 83 (.return_) 1 84 := ⟨by decide +kernel, rfl⟩
theorem dc_X9_advance_84 : Dc miX9_advance 84 (.aload_n 0) 1 85 := ⟨by decide +kernel, rfl⟩
theorem dc_X9_advance_85 : Dc miX9_advance 85 (.getfield 21) 3 88 := ⟨by decide +kernel, rfl⟩
theorem dc_X9_advance_88 : Dc miX9_advance 88 (.aload_n 0) 1 89 := ⟨by decide +kernel, rfl⟩
theorem dc_X9_advance_89 : Dc miX9_advance 89 (.getfield 9) 3 92 := ⟨by decide +kernel, rfl⟩
theorem dc_X9_advance_92 : Dc miX9_advance 92 (.if_icmp .ge 84) 3 95 := ⟨by decide +kernel, rfl⟩
theorem dc_X9_advance_95 : Dc miX9_advance 95 (.aload_n 0) 1 96 := ⟨by decide +kernel, rfl⟩
theorem dc_X9_advance_96 : Dc miX9_advance 96 (.aload_n 0) 1 97 := ⟨by decide +kernel, rfl⟩
theorem dc_X9_advance_97 : Dc miX9_advance 97 (.getfield 21) 3 100 := ⟨by decide +kernel, rfl⟩
theorem dc_X9_advance_100 : Dc miX9_advance 100 (.invokevirtual 34) 3 103 := ⟨by decide +kernel, rfl⟩
theorem dc_X9_advance_103 : Dc miX9_advance 103 (.invokestatic 38) 3 106 := ⟨by decide +kernel, rfl⟩
theorem dc_X9_advance_106 : Dc miX9_advance 106 (.aload_n 0) 1 107 := ⟨by decide +kernel, rfl⟩
theorem dc_X9_advance_107 : Dc miX9_advance 107 (.getfield 15) 3 110 := ⟨by decide +kernel, rfl⟩
theorem dc_X9_advance_110 : Dc miX9_advance 110 (.if_icmp .ne 66) 3 113 := ⟨by decide +kernel, rfl⟩
theorem dc_X9_advance_113 : Dc miX9_advance 113 (.aload_n 0) 1 114 := ⟨by decide +kernel, rfl⟩
theorem dc_X9_advance_114 : Dc miX9_advance 114 (.getfield 21) 3 117 := ⟨by decide +kernel, rfl⟩
theorem dc_X9_advance_117 : Dc miX9_advance 117 (.aload_n 0) 1 118 := ⟨by decide +kernel, rfl⟩
theorem dc_X9_advance_118 : Dc miX9_advance 118 (.getfield 18) 3 121 := ⟨by decide +kernel, rfl⟩
theorem dc_X9_advance_121 : Dc miX9_advance 121 (.isub) 1 122 := ⟨by decide +kernel, rfl⟩
theorem dc_X9_advance_122 : Dc miX9_advance 122 (.iconst 3) 1 123 := ⟨by decide +kernel, rfl⟩
theorem dc_X9_advance_123 : Dc miX9_advance 123 (.if_icmp .lt 7) 3 126 := ⟨by decide +kernel, rfl⟩
theorem dc_X9_advance_126 : Dc miX9_advance 126 (.iconst 1) 1 127 := ⟨by decide +kernel, rfl⟩
theorem dc_X9_advance_127 : Dc miX9_advance 127 (.goto 4) 3 130 := ⟨by decide +kernel, rfl⟩
theorem dc_X9_advance_130 : Dc miX9_advance 130 (.iconst 0) 1 131 := ⟨by decide +kernel, rfl⟩
theorem dc_X9_advance_131 : Dc miX9_advance 131 (.istore_n 1) 1 132 := ⟨by decide +kernel, rfl⟩
theorem dc_X9_advance_132 : Dc miX9_advance 132 (.aload_n 0) 1 133 := ⟨by decide +kernel, rfl⟩
theorem dc_X9_advance_133 : Dc miX9_advance 133 (.iload_n 1) 1 134 := ⟨by decide +kernel, rfl⟩
theorem dc_X9_advance_134 : Dc miX9_advance 134 (.ifCond .eq 7) 3 137 := ⟨by decide +kernel, rfl⟩
theorem dc_X9_advance_137 : Dc miX9_advance 137 (.iconst (-1)) 1 138 := ⟨by decide +kernel, rfl⟩
theorem dc_X9_advance_138 : Dc miX9_advance 138 (.goto 22) 3 141 := ⟨by decide +kernel, rfl⟩
theorem dc_X9_advance_141 : Dc miX9_advance 141 (.aload_n 0) 1 142 := ⟨by decide +kernel, rfl⟩
theorem dc_X9_advance_142 : Dc miX9_advance 142 (.getfield 24) 3 145 := ⟨by decide +kernel, rfl⟩
theorem dc_X9_advance_145 : Dc miX9_advance 145 (.bipush 10) 2 147 := ⟨by decide +kernel, rfl⟩
theorem dc_X9_advance_147 : Dc miX9_advance 147 (.imul) 1 148 := ⟨by decide +kernel, rfl⟩
theorem dc_X9_advance_148 : Dc miX9_advance 148 (.aload_n 0) 1 149 := ⟨by decide +kernel, rfl⟩
theorem dc_X9_advance_149 : Dc miX9_advance 149 (.aload_n 0) 1 150 := ⟨by decide +kernel, rfl⟩
theorem dc_X9_advance_150 : Dc miX9_advance 150 (.getfield 21) 3 153 := ⟨by decide +kernel, rfl⟩
theorem dc_X9_advance_153 : Dc miX9_advance 153 (.invokevirtual 34) 3 156 := ⟨by decide +kernel, rfl⟩
theorem dc_X9_advance_156 : Dc miX9_advance 156 (.iadd) 1 157 := ⟨by decide +kernel, rfl⟩
theorem dc_X9_advance_157 : Dc miX9_advance 157 (.bipush 48) 2 159 := ⟨by decide +kernel, rfl⟩
theorem dc_X9_advance_159 : Dc miX9_advance 159 (.isub) 1 160 := ⟨by decide +kernel, rfl⟩
theorem dc_X9_advance_160 : Dc miX9_advance 160 (.putfield 24) 3 163 := ⟨by decide +kernel, rfl⟩
theorem dc_X9_advance_163 : Dc miX9_advance 163 (.aload_n 0) 1 164 := ⟨by decide +kernel, rfl⟩
theorem dc_X9_advance_164 : Dc miX9_advance 164 (.dup) 1 165 := ⟨by decide +kernel, rfl⟩
theorem dc_X9_advance_165 : Dc miX9_advance 165 (.getfield 21) 3 168 := ⟨by decide +kernel, rfl⟩
theorem dc_X9_advance_168 : Dc miX9_advance 168 (.iconst 1) 1 169 := ⟨by decide +kernel, rfl⟩
theorem dc_X9_advance_169 : Dc miX9_advance 169 (.iadd) 1 170 := ⟨by decide +kernel, rfl⟩
theorem dc_X9_advance_170 : Dc miX9_advance 170 (.putfield 21) 3 173 := ⟨by decide +kernel, rfl⟩
theorem dc_X9_advance_173 : Dc miX9_advance 173 (.goto (-89)) 3 176 := ⟨by decide +kernel, rfl⟩
theorem dc_X9_advance_176 : Dc miX9_advance 176 (.return_) 1 177 := ⟨by decide +kernel, rfl⟩
def fX9_advance_b160 (N : Nat) (G : pG) (k84 : pS → Option (pS)) (a0 : Nat) (y1 : Int32) (σ : pS) : Option (pS) := k84 (putF (putF σ a0 4 y1) a0 3 (((putF σ a0 4 y1).1 a0 3) + (1 : Int32)))
set_option maxRecDepth 100000 in
set_option maxHeartbeats 4000000 in
theorem tX9_advance_b160 {N : Nat} {G : pG} {SK : Nat → Nat} {k84 : pS → Option (pS)} {a0 : Nat} {y1 : Int32} {σ : pS} {r : pS} (hW : WT G) (i0 : Is G a0 8) (hk84 : ∀ b : pS, k84 b = some r → Ev miX9_advance (2, 0, 0) G (Zp G none r) SK (0, 0) 84 [some (.ref a0), none] [] b) (h : fX9_advance_b160 N G k84 a0 y1 σ = some r) : Ev miX9_advance (2, 0, 0) G (Zp G none r) SK (0, 0) 160 [some (.ref a0), none] [.int y1, .ref a0] σ := by
  unfold fX9_advance_b160 at h
  refine ev_putI dc_X9_advance_160 fi_X9_24 rfl i0 ?_
  refine ev_aload_n dc_X9_advance_163 rfl ?_
  refine ev_dup dc_X9_advance_164 rfl ?_
  refine ev_getI dc_X9_advance_165 fi_X9_21 rfl i0 ?_
  refine ev_iconst (v := 1) dc_X9_advance_168 (by decide) ?_
  refine ev_iadd dc_X9_advance_169 ?_
  refine ev_putI dc_X9_advance_170 fi_X9_21 rfl i0 ?_
  refine ev_goto (tgt := 84) dc_X9_advance_173 (by decide) ?_
  exact ev_sub (hk84 (putF (putF σ a0 4 y1) a0 3 (((putF σ a0 4 y1).1 a0 3) + (1 : Int32))) h) (And.intro rfl trivial)
def fX9_advance_b131 (N : Nat) (G : pG) (k84 : pS → Option (pS)) (a0 : Nat) (y0 : Int32) (σ : pS) : Option (pS) := if y0 = 0 then ((fX9_byteAt N G a0 (σ.1 a0 3) σ).bind (fun q1 => fX9_advance_b160 N G k84 a0 ((((σ.1 a0 4) * (10 : Int32)) + q1) - (48 : Int32)) σ)) else (fX9_advance_b160 N G k84 a0 (-1 : Int32) σ)
set_option maxRecDepth 100000 in
set_option maxHeartbeats 4000000 in
theorem tX9_advance_b131 {N : Nat} {G : pG} {SK : Nat → Nat} {k84 : pS → Option (pS)} {a0 : Nat} {y0 : Int32} {σ : pS} {r : pS} (hW : WT G) (i0 : Is G a0 8) (hk84 : ∀ b : pS, k84 b = some r → Ev miX9_advance (2, 0, 0) G (Zp G none r) SK (0, 0) 84 [some (.ref a0), none] [] b) (h : fX9_advance_b131 N G k84 a0 y0 σ = some r) : Ev miX9_advance (2, 0, 0) G (Zp G none r) SK (0, 0) 131 [some (.ref a0), none] [.int y0] σ := by
  unfold fX9_advance_b131 at h
  refine ev_istore_n (lv' := [some (.ref a0), some (.int y0)]) dc_X9_advance_131 rfl (by decide) rfl ?_
  refine ev_aload_n dc_X9_advance_132 rfl ?_
  refine ev_iload_n dc_X9_advance_133 rfl ?_
  refine ev_if_eq (tgt := 141) dc_X9_advance_134 (by decide) h (fun h => ?_) (fun h => ?_)
  · refine ev_aload_n dc_X9_advance_141 rfl ?_
    refine ev_getI dc_X9_advance_142 fi_X9_24 rfl i0 ?_
    refine ev_bipush (v := 10) dc_X9_advance_145 (by decide) ?_
    refine ev_imul dc_X9_advance_147 ?_
    refine ev_aload_n dc_X9_advance_148 rfl ?_
    refine ev_aload_n dc_X9_advance_149 rfl ?_
    refine ev_getI dc_X9_advance_150 fi_X9_21 rfl i0 ?_
    obtain ⟨q1, hq1, h⟩ := Option.bind_eq_some_iff.mp h
    refine ev_callV (av := [.int (σ.1 a0 3)]) (st := [.int ((σ.1 a0 4) * (10 : Int32)), .ref a0]) (st1 := [.int q1, .int ((σ.1 a0 4) * (10 : Int32)), .ref a0]) dc_X9_advance_153 (tX9_byteAt hW i0 hq1) mw_694 cy_X9_byteAt i0 (by decide) rfl rfl rfl rfl (Nat.le_of_ble_eq_true rfl) (Nat.le_of_ble_eq_true rfl) ⟨Nat.le_refl _, Nat.le_refl _⟩ ?_
    refine ev_iadd dc_X9_advance_156 ?_
    refine ev_bipush (v := 48) dc_X9_advance_157 (by decide) ?_
    refine ev_isub dc_X9_advance_159 ?_
    exact ev_sub (tX9_advance_b160 hW i0 hk84 h) (And.intro rfl trivial)
  · refine ev_iconst (v := (-1)) dc_X9_advance_137 (by decide) ?_
    refine ev_goto (tgt := 160) dc_X9_advance_138 (by decide) ?_
    exact ev_sub (tX9_advance_b160 hW i0 hk84 h) (And.intro rfl trivial)
def fX9_advance_b84 (N : Nat) (G : pG) (a0 : Nat) : pS → Option (pS) := lp (fun (k84 : pS → Option (pS)) (b : pS) => if (b.1 a0 0) ≤ (b.1 a0 3) then (some b) else ((fX9_byteAt N G a0 (b.1 a0 3) b).bind (fun q2 => (fX9_kindOf N G q2 b).bind (fun q3 => if q3 = (b.1 a0 1) then (if ((b.1 a0 3) - (b.1 a0 2)) < (3 : Int32) then (fX9_advance_b131 N G k84 a0 (0 : Int32) b) else (fX9_advance_b131 N G k84 a0 (1 : Int32) b)) else (some b))))) N
set_option maxRecDepth 100000 in
set_option maxHeartbeats 4000000 in
theorem tX9_advance_b84 {N : Nat} {G : pG} {SK : Nat → Nat} {a0 : Nat} {b : pS} {r : pS} (hW : WT G) (i0 : Is G a0 8) (h : fX9_advance_b84 N G a0 b = some r) : Ev miX9_advance (2, 0, 0) G (Zp G none r) SK (0, 0) 84 [some (.ref a0), none] [] b := by
  unfold fX9_advance_b84 at h
  refine lp_ind (P := fun b r9 => r9 = r → Ev miX9_advance (2, 0, 0) G (Zp G none r) SK (0, 0) 84 [some (.ref a0), none] [] b) (fun k84 σ r9 ih h9 e9 => ?_) N b r h rfl
  clear h
  subst e9
  have h := h9
  clear h9
  have hk84 : ∀ b : pS, k84 b = some r9 → Ev miX9_advance (2, 0, 0) G (Zp G none r9) SK (0, 0) 84 [some (.ref a0), none] [] b := fun b hb => ih b r9 hb rfl
  clear ih
  try dsimp only at h ⊢
  refine ev_aload_n dc_X9_advance_84 rfl ?_
  refine ev_getI dc_X9_advance_85 fi_X9_21 rfl i0 ?_
  refine ev_aload_n dc_X9_advance_88 rfl ?_
  refine ev_getI dc_X9_advance_89 fi_X9_9 rfl i0 ?_
  refine ev_icmp_ge (tgt := 176) dc_X9_advance_92 (by decide) h (fun h => ?_) (fun h => ?_)
  · cases h
    exact ev_vret dc_X9_advance_176 rfl rfl rfl
  · refine ev_aload_n dc_X9_advance_95 rfl ?_
    refine ev_aload_n dc_X9_advance_96 rfl ?_
    refine ev_getI dc_X9_advance_97 fi_X9_21 rfl i0 ?_
    obtain ⟨q2, hq2, h⟩ := Option.bind_eq_some_iff.mp h
    refine ev_callV (av := [.int (σ.1 a0 3)]) (st := []) (st1 := [.int q2]) dc_X9_advance_100 (tX9_byteAt hW i0 hq2) mw_694 cy_X9_byteAt i0 (by decide) rfl rfl rfl rfl (Nat.le_of_ble_eq_true rfl) (Nat.le_of_ble_eq_true rfl) ⟨Nat.le_refl _, Nat.le_refl _⟩ ?_
    obtain ⟨q3, hq3, h⟩ := Option.bind_eq_some_iff.mp h
    refine ev_callS (av := [.int q2]) (st := []) (st1 := [.int q3]) dc_X9_advance_103 (tX9_kindOf hW hq3) mw_698 cs_X9_kindOf rfl rfl rfl (Nat.le_of_ble_eq_true rfl) (Nat.le_of_ble_eq_true rfl) ⟨Nat.le_refl _, Nat.le_refl _⟩ ?_
    refine ev_aload_n dc_X9_advance_106 rfl ?_
    refine ev_getI dc_X9_advance_107 fi_X9_15 rfl i0 ?_
    refine ev_icmp_ne (tgt := 176) dc_X9_advance_110 (by decide) h (fun h => ?_) (fun h => ?_)
    · refine ev_aload_n dc_X9_advance_113 rfl ?_
      refine ev_getI dc_X9_advance_114 fi_X9_21 rfl i0 ?_
      refine ev_aload_n dc_X9_advance_117 rfl ?_
      refine ev_getI dc_X9_advance_118 fi_X9_18 rfl i0 ?_
      refine ev_isub dc_X9_advance_121 ?_
      refine ev_iconst (v := 3) dc_X9_advance_122 (by decide) ?_
      refine ev_icmp_lt (tgt := 130) dc_X9_advance_123 (by decide) h (fun h => ?_) (fun h => ?_)
      · refine ev_iconst (v := 0) dc_X9_advance_130 (by decide) ?_
        exact ev_sub (tX9_advance_b131 hW i0 hk84 h) (And.intro rfl trivial)
      · refine ev_iconst (v := 1) dc_X9_advance_126 (by decide) ?_
        refine ev_goto (tgt := 131) dc_X9_advance_127 (by decide) ?_
        exact ev_sub (tX9_advance_b131 hW i0 hk84 h) (And.intro rfl trivial)
    · cases h
      exact ev_vret dc_X9_advance_176 rfl rfl rfl
def fX9_advance_b37 (N : Nat) (G : pG) (a0 : Nat) (σ : pS) : Option (pS) := (fX9_byteAt N G a0 ((putF σ a0 2 (σ.1 a0 3)).1 a0 3) (putF σ a0 2 (σ.1 a0 3))).bind (fun q4 => (fX9_kindOf N G q4 (putF σ a0 2 (σ.1 a0 3))).bind (fun q5 => if ((putF (putF (putF σ a0 2 (σ.1 a0 3)) a0 1 q5) a0 4 (0 : Int32)).1 a0 1) = (3 : Int32) then (some (putF (putF (putF (putF σ a0 2 (σ.1 a0 3)) a0 1 q5) a0 4 (0 : Int32)) a0 3 (((putF (putF (putF σ a0 2 (σ.1 a0 3)) a0 1 q5) a0 4 (0 : Int32)).1 a0 3) + (1 : Int32)))) else (fX9_advance_b84 N G a0 (putF (putF (putF σ a0 2 (σ.1 a0 3)) a0 1 q5) a0 4 (0 : Int32)))))
set_option maxRecDepth 100000 in
set_option maxHeartbeats 4000000 in
theorem tX9_advance_b37 {N : Nat} {G : pG} {SK : Nat → Nat} {a0 : Nat} {σ : pS} {r : pS} (hW : WT G) (i0 : Is G a0 8) (h : fX9_advance_b37 N G a0 σ = some r) : Ev miX9_advance (2, 0, 0) G (Zp G none r) SK (0, 0) 37 [some (.ref a0), none] [] σ := by
  unfold fX9_advance_b37 at h
  refine ev_aload_n dc_X9_advance_37 rfl ?_
  refine ev_aload_n dc_X9_advance_38 rfl ?_
  refine ev_getI dc_X9_advance_39 fi_X9_21 rfl i0 ?_
  refine ev_putI dc_X9_advance_42 fi_X9_18 rfl i0 ?_
  refine ev_aload_n dc_X9_advance_45 rfl ?_
  refine ev_aload_n dc_X9_advance_46 rfl ?_
  refine ev_aload_n dc_X9_advance_47 rfl ?_
  refine ev_getI dc_X9_advance_48 fi_X9_21 rfl i0 ?_
  obtain ⟨q4, hq4, h⟩ := Option.bind_eq_some_iff.mp h
  refine ev_callV (av := [.int ((putF σ a0 2 (σ.1 a0 3)).1 a0 3)]) (st := [.ref a0]) (st1 := [.int q4, .ref a0]) dc_X9_advance_51 (tX9_byteAt hW i0 hq4) mw_694 cy_X9_byteAt i0 (by decide) rfl rfl rfl rfl (Nat.le_of_ble_eq_true rfl) (Nat.le_of_ble_eq_true rfl) ⟨Nat.le_refl _, Nat.le_refl _⟩ ?_
  obtain ⟨q5, hq5, h⟩ := Option.bind_eq_some_iff.mp h
  refine ev_callS (av := [.int q4]) (st := [.ref a0]) (st1 := [.int q5, .ref a0]) dc_X9_advance_54 (tX9_kindOf hW hq5) mw_698 cs_X9_kindOf rfl rfl rfl (Nat.le_of_ble_eq_true rfl) (Nat.le_of_ble_eq_true rfl) ⟨Nat.le_refl _, Nat.le_refl _⟩ ?_
  refine ev_putI dc_X9_advance_57 fi_X9_15 rfl i0 ?_
  refine ev_aload_n dc_X9_advance_60 rfl ?_
  refine ev_iconst (v := 0) dc_X9_advance_61 (by decide) ?_
  refine ev_putI dc_X9_advance_62 fi_X9_24 rfl i0 ?_
  refine ev_aload_n dc_X9_advance_65 rfl ?_
  refine ev_getI dc_X9_advance_66 fi_X9_15 rfl i0 ?_
  refine ev_iconst (v := 3) dc_X9_advance_69 (by decide) ?_
  refine ev_icmp_ne (tgt := 84) dc_X9_advance_70 (by decide) h (fun h => ?_) (fun h => ?_)
  · refine ev_aload_n dc_X9_advance_73 rfl ?_
    refine ev_dup dc_X9_advance_74 rfl ?_
    refine ev_getI dc_X9_advance_75 fi_X9_21 rfl i0 ?_
    refine ev_iconst (v := 1) dc_X9_advance_78 (by decide) ?_
    refine ev_iadd dc_X9_advance_79 ?_
    refine ev_putI dc_X9_advance_80 fi_X9_21 rfl i0 ?_
    cases h
    exact ev_vret dc_X9_advance_83 rfl rfl rfl
  · exact ev_sub (tX9_advance_b84 (b := (putF (putF (putF σ a0 2 (σ.1 a0 3)) a0 1 q5) a0 4 (0 : Int32))) hW i0 h) (And.intro rfl trivial)
def fX9_advance_b0 (N : Nat) (G : pG) (a0 : Nat) : pS → Option (pS) := lp (fun (k0 : pS → Option (pS)) (b : pS) => if (b.1 a0 0) ≤ (b.1 a0 3) then (fX9_advance_b37 N G a0 b) else ((fX9_byteAt N G a0 (b.1 a0 3) b).bind (fun q6 => if q6 = (32 : Int32) then (k0 (putF b a0 3 ((b.1 a0 3) + (1 : Int32)))) else (fX9_advance_b37 N G a0 b)))) N
set_option maxRecDepth 100000 in
set_option maxHeartbeats 4000000 in
theorem tX9_advance_b0 {N : Nat} {G : pG} {SK : Nat → Nat} {a0 : Nat} {b : pS} {r : pS} (hW : WT G) (i0 : Is G a0 8) (h : fX9_advance_b0 N G a0 b = some r) : Ev miX9_advance (2, 0, 0) G (Zp G none r) SK (0, 0) 0 [some (.ref a0), none] [] b := by
  unfold fX9_advance_b0 at h
  refine lp_ind (P := fun b r9 => r9 = r → Ev miX9_advance (2, 0, 0) G (Zp G none r) SK (0, 0) 0 [some (.ref a0), none] [] b) (fun k0 σ r9 ih h9 e9 => ?_) N b r h rfl
  clear h
  subst e9
  have h := h9
  clear h9
  have hk0 : ∀ b : pS, k0 b = some r9 → Ev miX9_advance (2, 0, 0) G (Zp G none r9) SK (0, 0) 0 [some (.ref a0), none] [] b := fun b hb => ih b r9 hb rfl
  clear ih
  try dsimp only at h ⊢
  refine ev_aload_n dc_X9_advance_0 rfl ?_
  refine ev_getI dc_X9_advance_1 fi_X9_21 rfl i0 ?_
  refine ev_aload_n dc_X9_advance_4 rfl ?_
  refine ev_getI dc_X9_advance_5 fi_X9_9 rfl i0 ?_
  refine ev_icmp_ge (tgt := 37) dc_X9_advance_8 (by decide) h (fun h => ?_) (fun h => ?_)
  · exact ev_sub (tX9_advance_b37 hW i0 h) (And.intro rfl trivial)
  · refine ev_aload_n dc_X9_advance_11 rfl ?_
    refine ev_aload_n dc_X9_advance_12 rfl ?_
    refine ev_getI dc_X9_advance_13 fi_X9_21 rfl i0 ?_
    obtain ⟨q6, hq6, h⟩ := Option.bind_eq_some_iff.mp h
    refine ev_callV (av := [.int (σ.1 a0 3)]) (st := []) (st1 := [.int q6]) dc_X9_advance_16 (tX9_byteAt hW i0 hq6) mw_694 cy_X9_byteAt i0 (by decide) rfl rfl rfl rfl (Nat.le_of_ble_eq_true rfl) (Nat.le_of_ble_eq_true rfl) ⟨Nat.le_refl _, Nat.le_refl _⟩ ?_
    refine ev_bipush (v := 32) dc_X9_advance_19 (by decide) ?_
    refine ev_icmp_ne (tgt := 37) dc_X9_advance_21 (by decide) h (fun h => ?_) (fun h => ?_)
    · refine ev_aload_n dc_X9_advance_24 rfl ?_
      refine ev_dup dc_X9_advance_25 rfl ?_
      refine ev_getI dc_X9_advance_26 fi_X9_21 rfl i0 ?_
      refine ev_iconst (v := 1) dc_X9_advance_29 (by decide) ?_
      refine ev_iadd dc_X9_advance_30 ?_
      refine ev_putI dc_X9_advance_31 fi_X9_21 rfl i0 ?_
      refine ev_goto (tgt := 0) dc_X9_advance_34 (by decide) ?_
      exact ev_sub (hk0 (putF σ a0 3 ((σ.1 a0 3) + (1 : Int32))) h) (And.intro rfl trivial)
    · exact ev_sub (tX9_advance_b37 hW i0 h) (And.intro rfl trivial)
def fX9_advance (N : Nat) (G : pG) (a0 : Nat) (σ : pS) : Option (pS) := fX9_advance_b0 N G a0 σ
set_option maxRecDepth 100000 in
set_option maxHeartbeats 4000000 in
theorem tX9_advance {N : Nat} {G : pG} {SK : Nat → Nat} {a0 : Nat} {σ : pS} {r : pS} (hW : WT G) (i0 : Is G a0 8) (h : fX9_advance N G a0 σ = some r) : Dn miX9_advance yX9_advance 2 G SK [.ref a0] σ none r := by
  unfold fX9_advance at h
  refine dn_of (lv := [some (.ref a0), none]) (by decide) rfl rfl (Nat.le_of_ble_eq_true rfl) rfl ?_
  exact ev_sub (tX9_advance_b0 (b := σ) hW i0 h) (And.intro rfl trivial)
theorem dc_X9_hasRoomForFeed_0 : Dc miX9_hasRoomForFeed 0 (.aload_n 0) 1 1 := ⟨by decide +kernel, rfl⟩
theorem dc_X9_hasRoomForFeed_1 : Dc miX9_hasRoomForFeed 1 (.getfield 9) 3 4 := ⟨by decide +kernel, rfl⟩
theorem dc_X9_hasRoomForFeed_4 : Dc miX9_hasRoomForFeed 4 (.bipush 20) 2 6 := ⟨by decide +kernel, rfl⟩
theorem dc_X9_hasRoomForFeed_6 : Dc miX9_hasRoomForFeed 6 (.iadd) 1 7 := ⟨by decide +kernel, rfl⟩
theorem dc_X9_hasRoomForFeed_7 : Dc miX9_hasRoomForFeed 7 (.sipush 400) 3 10 := ⟨by decide +kernel, rfl⟩
theorem dc_X9_hasRoomForFeed_10 : Dc miX9_hasRoomForFeed 10 (.if_icmp .gt 7) 3 13 := ⟨by decide +kernel, rfl⟩
theorem dc_X9_hasRoomForFeed_13 : Dc miX9_hasRoomForFeed 13 (.iconst 1) 1 14 := ⟨by decide +kernel, rfl⟩
theorem dc_X9_hasRoomForFeed_14 : Dc miX9_hasRoomForFeed 14 (.goto 4) 3 17 := ⟨by decide +kernel, rfl⟩
theorem dc_X9_hasRoomForFeed_17 : Dc miX9_hasRoomForFeed 17 (.iconst 0) 1 18 := ⟨by decide +kernel, rfl⟩
theorem dc_X9_hasRoomForFeed_18 : Dc miX9_hasRoomForFeed 18 (.ireturn) 1 19 := ⟨by decide +kernel, rfl⟩
def fX9_hasRoomForFeed (N : Nat) (G : pG) (a0 : Nat) (σ : pS) : Option (Int32) := if (400 : Int32) < ((σ.1 a0 0) + (20 : Int32)) then (some (0 : Int32)) else (some (1 : Int32))
set_option maxRecDepth 100000 in
set_option maxHeartbeats 4000000 in
theorem tX9_hasRoomForFeed {N : Nat} {G : pG} {SK : Nat → Nat} {a0 : Nat} {σ : pS} {r : Int32} (hW : WT G) (i0 : Is G a0 8) (h : fX9_hasRoomForFeed N G a0 σ = some r) : Dn miX9_hasRoomForFeed yX9_hasRoomForFeed 1 G SK [.ref a0] σ (some (.int r)) σ := by
  unfold fX9_hasRoomForFeed at h
  refine dn_of (lv := [some (.ref a0)]) (by decide) rfl rfl (Nat.le_of_ble_eq_true rfl) rfl ?_
  refine ev_aload_n dc_X9_hasRoomForFeed_0 rfl ?_
  refine ev_getI dc_X9_hasRoomForFeed_1 fi_X9_9 rfl i0 ?_
  refine ev_bipush (v := 20) dc_X9_hasRoomForFeed_4 (by decide) ?_
  refine ev_iadd dc_X9_hasRoomForFeed_6 ?_
  refine ev_sipush (v := 400) dc_X9_hasRoomForFeed_7 (by decide) ?_
  refine ev_icmp_gt (tgt := 17) dc_X9_hasRoomForFeed_10 (by decide) h (fun h => ?_) (fun h => ?_)
  · refine ev_iconst (v := 0) dc_X9_hasRoomForFeed_17 (by decide) ?_
    cases h
    exact ev_zretc dc_X9_hasRoomForFeed_18 rfl rfl rfl rfl
  · refine ev_iconst (v := 1) dc_X9_hasRoomForFeed_13 (by decide) ?_
    refine ev_goto (tgt := 18) dc_X9_hasRoomForFeed_14 (by decide) ?_
    cases h
    exact ev_zretc dc_X9_hasRoomForFeed_18 rfl rfl rfl rfl
theorem dc_X9_isSign_0 : Dc miX9_isSign 0 (.aload_n 0) 1 1 := ⟨by decide +kernel, rfl⟩
theorem dc_X9_isSign_1 : Dc miX9_isSign 1 (.getfield 15) 3 4 := ⟨by decide +kernel, rfl⟩
theorem dc_X9_isSign_4 : Dc miX9_isSign 4 (.iconst 3) 1 5 := ⟨by decide +kernel, rfl⟩
theorem dc_X9_isSign_5 : Dc miX9_isSign 5 (.if_icmp .ne 19) 3 8 := ⟨by decide +kernel, rfl⟩
theorem dc_X9_isSign_8 : Dc miX9_isSign 8 (.aload_n 0) 1 9 := ⟨by decide +kernel, rfl⟩
theorem dc_X9_isSign_9 : Dc miX9_isSign 9 (.aload_n 0) 1 10 := ⟨by decide +kernel, rfl⟩
theorem dc_X9_isSign_10 : Dc miX9_isSign 10 (.getfield 18) 3 13 := ⟨by decide +kernel, rfl⟩
theorem dc_X9_isSign_13 : Dc miX9_isSign 13 (.invokevirtual 34) 3 16 := ⟨by decide +kernel, rfl⟩
theorem dc_X9_isSign_16 : Dc miX9_isSign 16 (.iload_n 1) 1 17 := ⟨by decide +kernel, rfl⟩
theorem dc_X9_isSign_17 : Dc miX9_isSign 17 (.if_icmp .ne 7) 3 20 := ⟨by decide +kernel, rfl⟩
theorem dc_X9_isSign_20 : Dc miX9_isSign 20 (.iconst 1) 1 21 := ⟨by decide +kernel, rfl⟩
theorem dc_X9_isSign_21 : Dc miX9_isSign 21 (.goto 4) 3 24 := ⟨by decide +kernel, rfl⟩
theorem dc_X9_isSign_24 : Dc miX9_isSign 24 (.iconst 0) 1 25 := ⟨by decide +kernel, rfl⟩
theorem dc_X9_isSign_25 : Dc miX9_isSign 25 (.ireturn) 1 26 := ⟨by decide +kernel, rfl⟩
def fX9_isSign (N : Nat) (G : pG) (a0 : Nat) (a1 : Int32) (σ : pS) : Option (Int32) := if (σ.1 a0 1) = (3 : Int32) then ((fX9_byteAt N G a0 (σ.1 a0 2) σ).bind (fun q1 => if q1 = a1 then (some (1 : Int32)) else (some (0 : Int32)))) else (some (0 : Int32))
set_option maxRecDepth 100000 in
set_option maxHeartbeats 4000000 in
theorem tX9_isSign {N : Nat} {G : pG} {SK : Nat → Nat} {a0 : Nat} {a1 : Int32} {σ : pS} {r : Int32} (hW : WT G) (i0 : Is G a0 8) (h : fX9_isSign N G a0 a1 σ = some r) : Dn miX9_isSign yX9_isSign 2 G SK [.ref a0, .int a1] σ (some (.int r)) σ := by
  unfold fX9_isSign at h
  refine dn_of (lv := [some (.ref a0), some (.int a1)]) (by decide) rfl rfl (Nat.le_of_ble_eq_true rfl) rfl ?_
  refine ev_aload_n dc_X9_isSign_0 rfl ?_
  refine ev_getI dc_X9_isSign_1 fi_X9_15 rfl i0 ?_
  refine ev_iconst (v := 3) dc_X9_isSign_4 (by decide) ?_
  refine ev_icmp_ne (tgt := 24) dc_X9_isSign_5 (by decide) h (fun h => ?_) (fun h => ?_)
  · refine ev_aload_n dc_X9_isSign_8 rfl ?_
    refine ev_aload_n dc_X9_isSign_9 rfl ?_
    refine ev_getI dc_X9_isSign_10 fi_X9_18 rfl i0 ?_
    obtain ⟨q1, hq1, h⟩ := Option.bind_eq_some_iff.mp h
    refine ev_callV (av := [.int (σ.1 a0 2)]) (st := []) (st1 := [.int q1]) dc_X9_isSign_13 (tX9_byteAt hW i0 hq1) mw_694 cy_X9_byteAt i0 (by decide) rfl rfl rfl rfl (Nat.le_of_ble_eq_true rfl) (Nat.le_of_ble_eq_true rfl) ⟨Nat.le_refl _, Nat.le_refl _⟩ ?_
    refine ev_iload_n dc_X9_isSign_16 rfl ?_
    refine ev_icmp_ne (tgt := 24) dc_X9_isSign_17 (by decide) h (fun h => ?_) (fun h => ?_)
    · refine ev_iconst (v := 1) dc_X9_isSign_20 (by decide) ?_
      refine ev_goto (tgt := 25) dc_X9_isSign_21 (by decide) ?_
      cases h
      exact ev_zretc dc_X9_isSign_25 rfl rfl rfl rfl
    · refine ev_iconst (v := 0) dc_X9_isSign_24 (by decide) ?_
      cases h
      exact ev_zretc dc_X9_isSign_25 rfl rfl rfl rfl
  · refine ev_iconst (v := 0) dc_X9_isSign_24 (by decide) ?_
    cases h
    exact ev_zretc dc_X9_isSign_25 rfl rfl rfl rfl
theorem dc_X9_isWord_0 : Dc miX9_isWord 0 (.aload_n 0) 1 1 := ⟨by decide +kernel, rfl⟩
theorem dc_X9_isWord_1 : Dc miX9_isWord 1 (.getfield 15) 3 4 := ⟨by decide +kernel, rfl⟩
theorem dc_X9_isWord_4 : Dc miX9_isWord 4 (.iconst 1) 1 5 := ⟨by decide +kernel, rfl⟩
theorem dc_X9_isWord_5 : Dc miX9_isWord 5 (.if_icmp .ne 19) 3 8 := ⟨by decide +kernel, rfl⟩
theorem dc_X9_isWord_8 : Dc miX9_isWord 8 (.aload_n 1) 1 9 := ⟨by decide +kernel, rfl⟩
theorem dc_X9_isWord_9 : Dc miX9_isWord 9 (.invokevirtual 41) 3 12 := ⟨by decide +kernel, rfl⟩
theorem dc_X9_isWord_12 : Dc miX9_isWord 12 (.aload_n 0) 1 13 := ⟨by decide +kernel, rfl⟩
theorem dc_X9_isWord_13 : Dc miX9_isWord 13 (.getfield 21) 3 16 := ⟨by decide +kernel, rfl⟩
theorem dc_X9_isWord_16 : Dc miX9_isWord 16 (.aload_n 0) 1 17 := ⟨by decide +kernel, rfl⟩
theorem dc_X9_isWord_17 : Dc miX9_isWord 17 (.getfield 18) 3 20 := ⟨by decide +kernel, rfl⟩
theorem dc_X9_isWord_20 : Dc miX9_isWord 20 (.isub) 1 21 := ⟨by decide +kernel, rfl⟩
theorem dc_X9_isWord_21 : Dc miX9_isWord 21 (.if_icmp .eq 5) 3 24 := ⟨by decide +kernel, rfl⟩
theorem dc_X9_isWord_24 : Dc miX9_isWord 24 (.iconst 0) 1 25 := ⟨by decide +kernel, rfl⟩
theorem dc_X9_isWord_25 : Dc miX9_isWord 25 (.ireturn) 1 26 := ⟨by decide +kernel, rfl⟩
theorem dc_X9_isWord_26 : Dc miX9_isWord 26 (.iconst 0) 1 27 := ⟨by decide +kernel, rfl⟩
theorem dc_X9_isWord_27 : Dc miX9_isWord 27 (.istore_n 2) 1 28 := ⟨by decide +kernel, rfl⟩
theorem dc_X9_isWord_28 : Dc miX9_isWord 28 (.iload_n 2) 1 29 := ⟨by decide +kernel, rfl⟩
theorem dc_X9_isWord_29 : Dc miX9_isWord 29 (.aload_n 1) 1 30 := ⟨by decide +kernel, rfl⟩
theorem dc_X9_isWord_30 : Dc miX9_isWord 30 (.invokevirtual 41) 3 33 := ⟨by decide +kernel, rfl⟩
theorem dc_X9_isWord_33 : Dc miX9_isWord 33 (.if_icmp .ge 29) 3 36 := ⟨by decide +kernel, rfl⟩
theorem dc_X9_isWord_36 : Dc miX9_isWord 36 (.aload_n 1) 1 37 := ⟨by decide +kernel, rfl⟩
theorem dc_X9_isWord_37 : Dc miX9_isWord 37 (.iload_n 2) 1 38 := ⟨by decide +kernel, rfl⟩
theorem dc_X9_isWord_38 : Dc miX9_isWord 38 (.invokevirtual 46) 3 41 := ⟨by decide +kernel, rfl⟩
theorem dc_X9_isWord_41 : Dc miX9_isWord 41 (.aload_n 0) 1 42 := ⟨by decide +kernel, rfl⟩
theorem dc_X9_isWord_42 : Dc miX9_isWord 42 (.aload_n 0) 1 43 := ⟨by decide +kernel, rfl⟩
theorem dc_X9_isWord_43 : Dc miX9_isWord 43 (.getfield 18) 3 46 := ⟨by decide +kernel, rfl⟩
theorem dc_X9_isWord_46 : Dc miX9_isWord 46 (.iload_n 2) 1 47 := ⟨by decide +kernel, rfl⟩
theorem dc_X9_isWord_47 : Dc miX9_isWord 47 (.iadd) 1 48 := ⟨by decide +kernel, rfl⟩
theorem dc_X9_isWord_48 : Dc miX9_isWord 48 (.invokevirtual 34) 3 51 := ⟨by decide +kernel, rfl⟩
theorem dc_X9_isWord_51 : Dc miX9_isWord 51 (.if_icmp .eq 5) 3 54 := ⟨by decide +kernel, rfl⟩
theorem dc_X9_isWord_54 : Dc miX9_isWord 54 (.iconst 0) 1 55 := ⟨by decide +kernel, rfl⟩
theorem dc_X9_isWord_55 : Dc miX9_isWord 55 (.ireturn) 1 56 := ⟨by decide +kernel, rfl⟩
theorem dc_X9_isWord_56 : Dc miX9_isWord 56 (.iinc 2 1) 3 59 := ⟨by decide +kernel, rfl⟩
theorem dc_X9_isWord_59 : Dc miX9_isWord 59 (.goto (-31)) 3 62 := ⟨by decide +kernel, rfl⟩
theorem dc_X9_isWord_62 : Dc miX9_isWord 62 (.iconst 1) 1 63 := ⟨by decide +kernel, rfl⟩
theorem dc_X9_isWord_63 : Dc miX9_isWord 63 (.ireturn) 1 64 := ⟨by decide +kernel, rfl⟩
def fX9_isWord_b28 (N : Nat) (G : pG) (a0 : Nat) (a1 : Nat) (σ : pS) : Int32 → Option (Int32) := lp (fun (k28 : Int32 → Option (Int32)) (b : Int32) => if (sLen a1) ≤ b then (some (1 : Int32)) else (ck (inB b (lenS.getD a1 0)) ((fX9_byteAt N G a0 ((σ.1 a0 2) + b) σ).bind (fun q1 => if (sChr a1 b) = q1 then (k28 (b + (1 : Int32))) else (some (0 : Int32)))))) N
set_option maxRecDepth 100000 in
set_option maxHeartbeats 4000000 in
theorem tX9_isWord_b28 {N : Nat} {G : pG} {SK : Nat → Nat} {a0 : Nat} {a1 : Nat} {σ : pS} {b : Int32} {r : Int32} (hW : WT G) (i0 : Is G a0 8) (s1 : decide (a1 < nStr) = true) (h : fX9_isWord_b28 N G a0 a1 σ b = some r) : Ev miX9_isWord (9, 0, 0) G (Zp G (some (.int r)) σ) SK (0, 0) 28 [some (.ref a0), some (.ref (SK a1)), some (.int b)] [] σ := by
  unfold fX9_isWord_b28 at h
  refine lp_ind (P := fun b r9 => r9 = r → Ev miX9_isWord (9, 0, 0) G (Zp G (some (.int r)) σ) SK (0, 0) 28 [some (.ref a0), some (.ref (SK a1)), some (.int b)] [] σ) (fun k28 x2 r9 ih h9 e9 => ?_) N b r h rfl
  clear h
  subst e9
  have h := h9
  clear h9
  have hk28 : ∀ b : Int32, k28 b = some r9 → Ev miX9_isWord (9, 0, 0) G (Zp G (some (.int r9)) σ) SK (0, 0) 28 [some (.ref a0), some (.ref (SK a1)), some (.int b)] [] σ := fun b hb => ih b r9 hb rfl
  clear ih
  try dsimp only at h ⊢
  refine ev_iload_n dc_X9_isWord_28 rfl ?_
  refine ev_aload_n dc_X9_isWord_29 rfl ?_
  refine ev_slen dc_X9_isWord_30 mw_709 (Nat.le_of_ble_eq_true rfl) (Nat.le_of_ble_eq_true rfl) ⟨Nat.le_refl _, Nat.le_refl _⟩ s1 ?_
  refine ev_icmp_ge (tgt := 62) dc_X9_isWord_33 (by decide) h (fun h => ?_) (fun h => ?_)
  · refine ev_iconst (v := 1) dc_X9_isWord_62 (by decide) ?_
    cases h
    exact ev_zretc dc_X9_isWord_63 rfl rfl rfl rfl
  · refine ev_aload_n dc_X9_isWord_36 rfl ?_
    refine ev_iload_n dc_X9_isWord_37 rfl ?_
    refine ev_schr dc_X9_isWord_38 mw_719 (Nat.le_of_ble_eq_true rfl) (Nat.le_of_ble_eq_true rfl) ⟨Nat.le_refl _, Nat.le_refl _⟩ s1 h (fun h => ?_)
    refine ev_aload_n dc_X9_isWord_41 rfl ?_
    refine ev_aload_n dc_X9_isWord_42 rfl ?_
    refine ev_getI dc_X9_isWord_43 fi_X9_18 rfl i0 ?_
    refine ev_iload_n dc_X9_isWord_46 rfl ?_
    refine ev_iadd dc_X9_isWord_47 ?_
    obtain ⟨q1, hq1, h⟩ := Option.bind_eq_some_iff.mp h
    refine ev_callV (av := [.int ((σ.1 a0 2) + x2)]) (st := [.int (sChr a1 x2)]) (st1 := [.int q1, .int (sChr a1 x2)]) dc_X9_isWord_48 (tX9_byteAt hW i0 hq1) mw_694 cy_X9_byteAt i0 (by decide) rfl rfl rfl rfl (Nat.le_of_ble_eq_true rfl) (Nat.le_of_ble_eq_true rfl) ⟨Nat.le_refl _, Nat.le_refl _⟩ ?_
    refine ev_icmp_eq (tgt := 56) dc_X9_isWord_51 (by decide) h (fun h => ?_) (fun h => ?_)
    · refine ev_iinc (v := 1) (lv' := [some (.ref a0), some (.ref (SK a1)), some (.int (x2 + (1 : Int32)))]) dc_X9_isWord_56 rfl (by decide) rfl (by decide) rfl ?_
      refine ev_goto (tgt := 28) dc_X9_isWord_59 (by decide) ?_
      exact ev_sub (hk28 (x2 + (1 : Int32)) h) (And.intro rfl (And.intro rfl (And.intro rfl trivial)))
    · refine ev_iconst (v := 0) dc_X9_isWord_54 (by decide) ?_
      cases h
      exact ev_zretc dc_X9_isWord_55 rfl rfl rfl rfl
def fX9_isWord (N : Nat) (G : pG) (a0 : Nat) (a1 : Nat) (σ : pS) : Option (Int32) := if (σ.1 a0 1) = (1 : Int32) then (if (sLen a1) = ((σ.1 a0 3) - (σ.1 a0 2)) then (fX9_isWord_b28 N G a0 a1 σ (0 : Int32)) else (some (0 : Int32))) else (some (0 : Int32))
set_option maxRecDepth 100000 in
set_option maxHeartbeats 4000000 in
theorem tX9_isWord {N : Nat} {G : pG} {SK : Nat → Nat} {a0 : Nat} {a1 : Nat} {σ : pS} {r : Int32} (hW : WT G) (i0 : Is G a0 8) (s1 : decide (a1 < nStr) = true) (h : fX9_isWord N G a0 a1 σ = some r) : Dn miX9_isWord yX9_isWord 9 G SK [.ref a0, .ref (SK a1)] σ (some (.int r)) σ := by
  unfold fX9_isWord at h
  refine dn_of (lv := [some (.ref a0), some (.ref (SK a1)), none]) (by decide) rfl rfl (Nat.le_of_ble_eq_true rfl) rfl ?_
  refine ev_aload_n dc_X9_isWord_0 rfl ?_
  refine ev_getI dc_X9_isWord_1 fi_X9_15 rfl i0 ?_
  refine ev_iconst (v := 1) dc_X9_isWord_4 (by decide) ?_
  refine ev_icmp_ne (tgt := 24) dc_X9_isWord_5 (by decide) h (fun h => ?_) (fun h => ?_)
  · refine ev_aload_n dc_X9_isWord_8 rfl ?_
    refine ev_slen dc_X9_isWord_9 mw_709 (Nat.le_of_ble_eq_true rfl) (Nat.le_of_ble_eq_true rfl) ⟨Nat.le_refl _, Nat.le_refl _⟩ s1 ?_
    refine ev_aload_n dc_X9_isWord_12 rfl ?_
    refine ev_getI dc_X9_isWord_13 fi_X9_21 rfl i0 ?_
    refine ev_aload_n dc_X9_isWord_16 rfl ?_
    refine ev_getI dc_X9_isWord_17 fi_X9_18 rfl i0 ?_
    refine ev_isub dc_X9_isWord_20 ?_
    refine ev_icmp_eq (tgt := 26) dc_X9_isWord_21 (by decide) h (fun h => ?_) (fun h => ?_)
    · refine ev_iconst (v := 0) dc_X9_isWord_26 (by decide) ?_
      refine ev_istore_n (lv' := [some (.ref a0), some (.ref (SK a1)), some (.int (0 : Int32))]) dc_X9_isWord_27 rfl (by decide) rfl ?_
      exact ev_sub (tX9_isWord_b28 (b := (0 : Int32)) hW i0 s1 h) (And.intro rfl (And.intro rfl (And.intro rfl trivial)))
    · refine ev_iconst (v := 0) dc_X9_isWord_24 (by decide) ?_
      cases h
      exact ev_zretc dc_X9_isWord_25 rfl rfl rfl rfl
  · refine ev_iconst (v := 0) dc_X9_isWord_24 (by decide) ?_
    cases h
    exact ev_zretc dc_X9_isWord_25 rfl rfl rfl rfl
theorem dc_X9_numberIn_0 : Dc miX9_numberIn 0 (.aload_n 0) 1 1 := ⟨by decide +kernel, rfl⟩
theorem dc_X9_numberIn_1 : Dc miX9_numberIn 1 (.getfield 15) 3 4 := ⟨by decide +kernel, rfl⟩
theorem dc_X9_numberIn_4 : Dc miX9_numberIn 4 (.iconst 2) 1 5 := ⟨by decide +kernel, rfl⟩
theorem dc_X9_numberIn_5 : Dc miX9_numberIn 5 (.if_icmp .ne 26) 3 8 := ⟨by decide +kernel, rfl⟩
theorem dc_X9_numberIn_8 : Dc miX9_numberIn 8 (.aload_n 0) 1 9 := ⟨by decide +kernel, rfl⟩
theorem dc_X9_numberIn_9 : Dc miX9_numberIn 9 (.getfield 24) 3 12 := ⟨by decide +kernel, rfl⟩
theorem dc_X9_numberIn_12 : Dc miX9_numberIn 12 (.iload_n 1) 1 13 := ⟨by decide +kernel, rfl⟩
theorem dc_X9_numberIn_13 : Dc miX9_numberIn 13 (.if_icmp .lt 18) 3 16 := ⟨by decide +kernel, rfl⟩
theorem dc_X9_numberIn_16 : Dc miX9_numberIn 16 (.aload_n 0) 1 17 := ⟨by decide +kernel, rfl⟩
theorem dc_X9_numberIn_17 : Dc miX9_numberIn 17 (.getfield 24) 3 20 := ⟨by decide +kernel, rfl⟩
theorem dc_X9_numberIn_20 : Dc miX9_numberIn 20 (.iload_n 2) 1 21 := ⟨by decide +kernel, rfl⟩
theorem dc_X9_numberIn_21 : Dc miX9_numberIn 21 (.if_icmp .gt 10) 3 24 := ⟨by decide +kernel, rfl⟩
theorem dc_X9_numberIn_24 : Dc miX9_numberIn 24 (.aload_n 0) 1 25 := ⟨by decide +kernel, rfl⟩
theorem dc_X9_numberIn_25 : Dc miX9_numberIn 25 (.getfield 24) 3 28 := ⟨by decide +kernel, rfl⟩
theorem dc_X9_numberIn_28 : Dc miX9_numberIn 28 (.goto 4) 3 31 := ⟨by decide +kernel, rfl⟩
theorem dc_X9_numberIn_31 : Dc miX9_numberIn 31 (.iconst (-1)) 1 32 := ⟨by decide +kernel, rfl⟩
theorem dc_X9_numberIn_32 : Dc miX9_numberIn 32 (.ireturn) 1 33 := ⟨by decide +kernel, rfl⟩
def fX9_numberIn (N : Nat) (G : pG) (a0 : Nat) (a1 : Int32) (a2 : Int32) (σ : pS) : Option (Int32) := if (σ.1 a0 1) = (2 : Int32) then (if (σ.1 a0 4) < a1 then (some (-1 : Int32)) else (if a2 < (σ.1 a0 4) then (some (-1 : Int32)) else (some (σ.1 a0 4)))) else (some (-1 : Int32))
set_option maxRecDepth 100000 in
set_option maxHeartbeats 4000000 in
theorem tX9_numberIn {N : Nat} {G : pG} {SK : Nat → Nat} {a0 : Nat} {a1 : Int32} {a2 : Int32} {σ : pS} {r : Int32} (hW : WT G) (i0 : Is G a0 8) (h : fX9_numberIn N G a0 a1 a2 σ = some r) : Dn miX9_numberIn yX9_numberIn 1 G SK [.ref a0, .int a1, .int a2] σ (some (.int r)) σ := by
  unfold fX9_numberIn at h
  refine dn_of (lv := [some (.ref a0), some (.int a1), some (.int a2)]) (by decide) rfl rfl (Nat.le_of_ble_eq_true rfl) rfl ?_
  refine ev_aload_n dc_X9_numberIn_0 rfl ?_
  refine ev_getI dc_X9_numberIn_1 fi_X9_15 rfl i0 ?_
  refine ev_iconst (v := 2) dc_X9_numberIn_4 (by decide) ?_
  refine ev_icmp_ne (tgt := 31) dc_X9_numberIn_5 (by decide) h (fun h => ?_) (fun h => ?_)
  · refine ev_aload_n dc_X9_numberIn_8 rfl ?_
    refine ev_getI dc_X9_numberIn_9 fi_X9_24 rfl i0 ?_
    refine ev_iload_n dc_X9_numberIn_12 rfl ?_
    refine ev_icmp_lt (tgt := 31) dc_X9_numberIn_13 (by decide) h (fun h => ?_) (fun h => ?_)
    · refine ev_iconst (v := (-1)) dc_X9_numberIn_31 (by decide) ?_
      cases h
      exact ev_iret dc_X9_numberIn_32 rfl rfl rfl
    · refine ev_aload_n dc_X9_numberIn_16 rfl ?_
      refine ev_getI dc_X9_numberIn_17 fi_X9_24 rfl i0 ?_
      refine ev_iload_n dc_X9_numberIn_20 rfl ?_
      refine ev_icmp_gt (tgt := 31) dc_X9_numberIn_21 (by decide) h (fun h => ?_) (fun h => ?_)
      · refine ev_iconst (v := (-1)) dc_X9_numberIn_31 (by decide) ?_
        cases h
        exact ev_iret dc_X9_numberIn_32 rfl rfl rfl
      · refine ev_aload_n dc_X9_numberIn_24 rfl ?_
        refine ev_getI dc_X9_numberIn_25 fi_X9_24 rfl i0 ?_
        refine ev_goto (tgt := 32) dc_X9_numberIn_28 (by decide) ?_
        cases h
        exact ev_iret dc_X9_numberIn_32 rfl rfl rfl
  · refine ev_iconst (v := (-1)) dc_X9_numberIn_31 (by decide) ?_
    cases h
    exact ev_iret dc_X9_numberIn_32 rfl rfl rfl
theorem dc_X9_open_0 : Dc miX9_open 0 (.aload_n 0) 1 1 := ⟨by decide +kernel, rfl⟩
theorem dc_X9_open_1 : Dc miX9_open 1 (.iconst 0) 1 2 := ⟨by decide +kernel, rfl⟩
theorem dc_X9_open_2 : Dc miX9_open 2 (.putfield 21) 3 5 := ⟨by decide +kernel, rfl⟩
theorem dc_X9_open_5 : Dc miX9_open 5 (.aload_n 0) 1 6 := ⟨by decide +kernel, rfl⟩
theorem dc_X9_open_6 : Dc miX9_open 6 (.invokevirtual 31) 3 9 := ⟨by decide +kernel, rfl⟩
theorem dc_X9_open_9 : Dc miX9_open 9 (.return_) 1 10 := ⟨by decide +kernel, rfl⟩
def fX9_open (N : Nat) (G : pG) (a0 : Nat) (σ : pS) : Option (pS) := (fX9_advance N G a0 (putF σ a0 3 (0 : Int32))).bind (fun q1 => some q1)
set_option maxRecDepth 100000 in
set_option maxHeartbeats 4000000 in
theorem tX9_open {N : Nat} {G : pG} {SK : Nat → Nat} {a0 : Nat} {σ : pS} {r : pS} (hW : WT G) (i0 : Is G a0 8) (h : fX9_open N G a0 σ = some r) : Dn miX9_open yX9_open 3 G SK [.ref a0] σ none r := by
  unfold fX9_open at h
  refine dn_of (lv := [some (.ref a0)]) (by decide) rfl rfl (Nat.le_of_ble_eq_true rfl) rfl ?_
  refine ev_aload_n dc_X9_open_0 rfl ?_
  refine ev_iconst (v := 0) dc_X9_open_1 (by decide) ?_
  refine ev_putI dc_X9_open_2 fi_X9_21 rfl i0 ?_
  refine ev_aload_n dc_X9_open_5 rfl ?_
  obtain ⟨q1, hq1, h⟩ := Option.bind_eq_some_iff.mp h
  refine ev_callV (av := []) (st := []) (st1 := []) dc_X9_open_6 (tX9_advance hW i0 hq1) mw_690 cy_X9_advance i0 (by decide) rfl rfl rfl rfl (Nat.le_of_ble_eq_true rfl) (Nat.le_of_ble_eq_true rfl) ⟨Nat.le_refl _, Nat.le_refl _⟩ ?_
  cases h
  exact ev_vret dc_X9_open_9 rfl rfl rfl
theorem dc_X9_passLetter_0 : Dc miX9_passLetter 0 (.aload_n 0) 1 1 := ⟨by decide +kernel, rfl⟩
theorem dc_X9_passLetter_1 : Dc miX9_passLetter 1 (.aload_n 0) 1 2 := ⟨by decide +kernel, rfl⟩
theorem dc_X9_passLetter_2 : Dc miX9_passLetter 2 (.getfield 18) 3 5 := ⟨by decide +kernel, rfl⟩
theorem dc_X9_passLetter_5 : Dc miX9_passLetter 5 (.invokevirtual 34) 3 8 := ⟨by decide +kernel, rfl⟩
theorem dc_X9_passLetter_8 : Dc miX9_passLetter 8 (.bipush 97) 2 10 := ⟨by decide +kernel, rfl⟩
theorem dc_X9_passLetter_10 : Dc miX9_passLetter 10 (.isub) 1 11 := ⟨by decide +kernel, rfl⟩
theorem dc_X9_passLetter_11 : Dc miX9_passLetter 11 (.istore_n 1) 1 12 := ⟨by decide +kernel, rfl⟩
theorem dc_X9_passLetter_12 : Dc miX9_passLetter 12 (.aload_n 0) 1 13 := ⟨by decide +kernel, rfl⟩
theorem dc_X9_passLetter_13 : Dc miX9_passLetter 13 (.getfield 15) 3 16 := ⟨by decide +kernel, rfl⟩
theorem dc_X9_passLetter_16 : Dc miX9_passLetter 16 (.iconst 1) 1 17 := ⟨by decide +kernel, rfl⟩
theorem dc_X9_passLetter_17 : Dc miX9_passLetter 17 (.if_icmp .ne 22) 3 20 := ⟨by decide +kernel, rfl⟩
theorem dc_X9_passLetter_20 : Dc miX9_passLetter 20 (.aload_n 0) 1 21 := ⟨by decide +kernel, rfl⟩
theorem dc_X9_passLetter_21 : Dc miX9_passLetter 21 (.getfield 21) 3 24 := ⟨by decide +kernel, rfl⟩
theorem dc_X9_passLetter_24 : Dc miX9_passLetter 24 (.aload_n 0) 1 25 := ⟨by decide +kernel, rfl⟩
theorem dc_X9_passLetter_25 : Dc miX9_passLetter 25 (.getfield 18) 3 28 := ⟨by decide +kernel, rfl⟩
theorem dc_X9_passLetter_28 : Dc miX9_passLetter 28 (.isub) 1 29 := ⟨by decide +kernel, rfl⟩
theorem dc_X9_passLetter_29 : Dc miX9_passLetter 29 (.iconst 1) 1 30 := ⟨by decide +kernel, rfl⟩
theorem dc_X9_passLetter_30 : Dc miX9_passLetter 30 (.if_icmp .ne 9) 3 33 := ⟨by decide +kernel, rfl⟩
theorem dc_X9_passLetter_33 : Dc miX9_passLetter 33 (.iload_n 1) 1 34 := ⟨by decide +kernel, rfl⟩
theorem dc_X9_passLetter_34 : Dc miX9_passLetter 34 (.bipush 6) 2 36 := ⟨by decide +kernel, rfl⟩
theorem dc_X9_passLetter_36 : Dc miX9_passLetter 36 (.if_icmp .lt 5) 3 39 := ⟨by decide +kernel, rfl⟩
theorem dc_X9_passLetter_39 : Dc miX9_passLetter 39 (.iconst (-1)) 1 40 := ⟨by decide +kernel, rfl⟩
theorem dc_X9_passLetter_40 : Dc miX9_passLetter 40 (.ireturn) 1 41 := ⟨by decide +kernel, rfl⟩
theorem dc_X9_passLetter_41 : Dc miX9_passLetter 41 (.aload_n 0) 1 42 := ⟨by decide +kernel, rfl⟩
theorem dc_X9_passLetter_42 : Dc miX9_passLetter 42 (.invokevirtual 31) 3 45 := ⟨by decide +kernel, rfl⟩
theorem dc_X9_passLetter_45 : Dc miX9_passLetter 45 (.iload_n 1) 1 46 := ⟨by decide +kernel, rfl⟩
theorem dc_X9_passLetter_46 : Dc miX9_passLetter 46 (.ireturn) 1 47 := ⟨by decide +kernel, rfl⟩
def fX9_passLetter (N : Nat) (G : pG) (a0 : Nat) (σ : pS) : Option (Int32 × pS) := (fX9_byteAt N G a0 (σ.1 a0 2) σ).bind (fun q1 => if (σ.1 a0 1) = (1 : Int32) then (if ((σ.1 a0 3) - (σ.1 a0 2)) = (1 : Int32) then (if (q1 - (97 : Int32)) < (6 : Int32) then ((fX9_advance N G a0 σ).bind (fun q2 => some (q1 - (97 : Int32), q2))) else (some ((-1 : Int32), σ))) else (some ((-1 : Int32), σ))) else (some ((-1 : Int32), σ)))
set_option maxRecDepth 100000 in
set_option maxHeartbeats 4000000 in
theorem tX9_passLetter {N : Nat} {G : pG} {SK : Nat → Nat} {a0 : Nat} {σ : pS} {r : Int32 × pS} (hW : WT G) (i0 : Is G a0 8) (h : fX9_passLetter N G a0 σ = some r) : Dn miX9_passLetter yX9_passLetter 3 G SK [.ref a0] σ (some (.int r.1)) r.2 := by
  unfold fX9_passLetter at h
  refine dn_of (lv := [some (.ref a0), none]) (by decide) rfl rfl (Nat.le_of_ble_eq_true rfl) rfl ?_
  refine ev_aload_n dc_X9_passLetter_0 rfl ?_
  refine ev_aload_n dc_X9_passLetter_1 rfl ?_
  refine ev_getI dc_X9_passLetter_2 fi_X9_18 rfl i0 ?_
  obtain ⟨q1, hq1, h⟩ := Option.bind_eq_some_iff.mp h
  refine ev_callV (av := [.int (σ.1 a0 2)]) (st := []) (st1 := [.int q1]) dc_X9_passLetter_5 (tX9_byteAt hW i0 hq1) mw_694 cy_X9_byteAt i0 (by decide) rfl rfl rfl rfl (Nat.le_of_ble_eq_true rfl) (Nat.le_of_ble_eq_true rfl) ⟨Nat.le_refl _, Nat.le_refl _⟩ ?_
  refine ev_bipush (v := 97) dc_X9_passLetter_8 (by decide) ?_
  refine ev_isub dc_X9_passLetter_10 ?_
  refine ev_istore_n (lv' := [some (.ref a0), some (.int (q1 - (97 : Int32)))]) dc_X9_passLetter_11 rfl (by decide) rfl ?_
  refine ev_aload_n dc_X9_passLetter_12 rfl ?_
  refine ev_getI dc_X9_passLetter_13 fi_X9_15 rfl i0 ?_
  refine ev_iconst (v := 1) dc_X9_passLetter_16 (by decide) ?_
  refine ev_icmp_ne (tgt := 39) dc_X9_passLetter_17 (by decide) h (fun h => ?_) (fun h => ?_)
  · refine ev_aload_n dc_X9_passLetter_20 rfl ?_
    refine ev_getI dc_X9_passLetter_21 fi_X9_21 rfl i0 ?_
    refine ev_aload_n dc_X9_passLetter_24 rfl ?_
    refine ev_getI dc_X9_passLetter_25 fi_X9_18 rfl i0 ?_
    refine ev_isub dc_X9_passLetter_28 ?_
    refine ev_iconst (v := 1) dc_X9_passLetter_29 (by decide) ?_
    refine ev_icmp_ne (tgt := 39) dc_X9_passLetter_30 (by decide) h (fun h => ?_) (fun h => ?_)
    · refine ev_iload_n dc_X9_passLetter_33 rfl ?_
      refine ev_bipush (v := 6) dc_X9_passLetter_34 (by decide) ?_
      refine ev_icmp_lt (tgt := 41) dc_X9_passLetter_36 (by decide) h (fun h => ?_) (fun h => ?_)
      · refine ev_aload_n dc_X9_passLetter_41 rfl ?_
        obtain ⟨q2, hq2, h⟩ := Option.bind_eq_some_iff.mp h
        refine ev_callV (av := []) (st := []) (st1 := []) dc_X9_passLetter_42 (tX9_advance hW i0 hq2) mw_690 cy_X9_advance i0 (by decide) rfl rfl rfl rfl (Nat.le_of_ble_eq_true rfl) (Nat.le_of_ble_eq_true rfl) ⟨Nat.le_refl _, Nat.le_refl _⟩ ?_
        refine ev_iload_n dc_X9_passLetter_45 rfl ?_
        cases h
        exact ev_iret dc_X9_passLetter_46 rfl rfl rfl
      · refine ev_iconst (v := (-1)) dc_X9_passLetter_39 (by decide) ?_
        cases h
        exact ev_iret dc_X9_passLetter_40 rfl rfl rfl
    · refine ev_iconst (v := (-1)) dc_X9_passLetter_39 (by decide) ?_
      cases h
      exact ev_iret dc_X9_passLetter_40 rfl rfl rfl
  · refine ev_iconst (v := (-1)) dc_X9_passLetter_39 (by decide) ?_
    cases h
    exact ev_iret dc_X9_passLetter_40 rfl rfl rfl
theorem dc_X9_passLetters_0 : Dc miX9_passLetters 0 (.aload_n 0) 1 1 := ⟨by decide +kernel, rfl⟩
theorem dc_X9_passLetters_1 : Dc miX9_passLetters 1 (.getfield 15) 3 4 := ⟨by decide +kernel, rfl⟩
theorem dc_X9_passLetters_4 : Dc miX9_passLetters 4 (.iconst 1) 1 5 := ⟨by decide +kernel, rfl⟩
theorem dc_X9_passLetters_5 : Dc miX9_passLetters 5 (.if_icmp .eq 5) 3 8 := ⟨by decide +kernel, rfl⟩
theorem dc_X9_passLetters_8 : Dc miX9_passLetters 8 (.iconst (-1)) 1 9 := ⟨by decide +kernel, rfl⟩
theorem dc_X9_passLetters_9 : Dc miX9_passLetters 9 (.ireturn) 1 10 := ⟨by decide +kernel, rfl⟩
theorem dc_X9_passLetters_10 : Dc miX9_passLetters 10 (.iconst 0) 1 11 := ⟨by decide +kernel, rfl⟩
theorem dc_X9_passLetters_11 : Dc miX9_passLetters 11 (.istore_n 1) 1 12 := ⟨by decide +kernel, rfl⟩
theorem dc_X9_passLetters_12 : Dc miX9_passLetters 12 (.aload_n 0) 1 13 := ⟨by decide +kernel, rfl⟩
theorem dc_X9_passLetters_13 : Dc miX9_passLetters 13 (.getfield 18) 3 16 := ⟨by decide +kernel, rfl⟩
theorem dc_X9_passLetters_16 : Dc miX9_passLetters 16 (.istore_n 2) 1 17 := ⟨by decide +kernel, rfl⟩
theorem dc_X9_passLetters_17 : Dc miX9_passLetters 17 (.iload_n 2) 1 18 := ⟨by decide +kernel, rfl⟩
theorem dc_X9_passLetters_18 : Dc miX9_passLetters 18 (.aload_n 0) 1 19 := ⟨by decide +kernel, rfl⟩
theorem dc_X9_passLetters_19 : Dc miX9_passLetters 19 (.getfield 21) 3 22 := ⟨by decide +kernel, rfl⟩
theorem dc_X9_passLetters_22 : Dc miX9_passLetters 22 (.if_icmp .ge 40) 3 25 := ⟨by decide +kernel, rfl⟩
theorem dc_X9_passLetters_25 : Dc miX9_passLetters 25 (.aload_n 0) 1 26 := ⟨by decide +kernel, rfl⟩
theorem dc_X9_passLetters_26 : Dc miX9_passLetters 26 (.iload_n 2) 1 27 := ⟨by decide +kernel, rfl⟩
theorem dc_X9_passLetters_27 : Dc miX9_passLetters 27 (.invokevirtual 34) 3 30 := ⟨by decide +kernel, rfl⟩
theorem dc_X9_passLetters_30 : Dc miX9_passLetters 30 (.bipush 97) 2 32 := ⟨by decide +kernel, rfl⟩
theorem dc_X9_passLetters_32 : Dc miX9_passLetters 32 (.isub) 1 33 := ⟨by decide +kernel, rfl⟩
theorem dc_X9_passLetters_33 : Dc miX9_passLetters 33 (.istore_n 3) 1 34 := ⟨by decide +kernel, rfl⟩
theorem dc_X9_passLetters_34 : Dc miX9_passLetters 34 (.iload_n 3) 1 35 := ⟨by decide +kernel, rfl⟩
theorem dc_X9_passLetters_35 : Dc miX9_passLetters 35 (.bipush 6) 2 37 := ⟨by decide +kernel, rfl⟩
theorem dc_X9_passLetters_37 : Dc miX9_passLetters 37 (.if_icmp .ge 11) 3 40 := ⟨by decide +kernel, rfl⟩
theorem dc_X9_passLetters_40 : Dc miX9_passLetters 40 (.iload_n 1) 1 41 := ⟨by decide +kernel, rfl⟩
theorem dc_X9_passLetters_41 : Dc miX9_passLetters 41 (.iload_n 3) 1 42 := ⟨by decide +kernel, rfl⟩
theorem dc_X9_passLetters_42 : Dc miX9_passLetters 42 (.invokestatic 62) 3 45 := ⟨by decide +kernel, rfl⟩
theorem dc_X9_passLetters_45 : Dc miX9_passLetters 45 (.ifCond .eq 5) 3 48 := ⟨by decide +kernel, rfl⟩
theorem dc_X9_passLetters_48 : Dc miX9_passLetters 48 (.iconst (-1)) 1 49 := ⟨by decide +kernel, rfl⟩
theorem dc_X9_passLetters_49 : Dc miX9_passLetters 49 (.ireturn) 1 50 := ⟨by decide +kernel, rfl⟩
theorem dc_X9_passLetters_50 : Dc miX9_passLetters 50 (.iload_n 1) 1 51 := ⟨by decide +kernel, rfl⟩
theorem dc_X9_passLetters_51 : Dc miX9_passLetters 51 (.iconst 1) 1 52 := ⟨by decide +kernel, rfl⟩
theorem dc_X9_passLetters_52 : Dc miX9_passLetters 52 (.iload_n 3) 1 53 := ⟨by decide +kernel, rfl⟩
theorem dc_X9_passLetters_53 : Dc miX9_passLetters 53 (.ishl) 1 54 := ⟨by decide +kernel, rfl⟩
theorem dc_X9_passLetters_54 : Dc miX9_passLetters 54 (.ior) 1 55 := ⟨by decide +kernel, rfl⟩
theorem dc_X9_passLetters_55 : Dc miX9_passLetters 55 (.istore_n 1) 1 56 := ⟨by decide +kernel, rfl⟩
theorem dc_X9_passLetters_56 : Dc miX9_passLetters 56 (.iinc 2 1) 3 59 := ⟨by decide +kernel, rfl⟩
theorem dc_X9_passLetters_59 : Dc miX9_passLetters 59 (.goto (-42)) 3 62 := ⟨by decide +kernel, rfl⟩
theorem dc_X9_passLetters_62 : Dc miX9_passLetters 62 (.aload_n 0) 1 63 := ⟨by decide +kernel, rfl⟩
theorem dc_X9_passLetters_63 : Dc miX9_passLetters 63 (.invokevirtual 31) 3 66 := ⟨by decide +kernel, rfl⟩
theorem dc_X9_passLetters_66 : Dc miX9_passLetters 66 (.iload_n 1) 1 67 := ⟨by decide +kernel, rfl⟩
theorem dc_X9_passLetters_67 : Dc miX9_passLetters 67 (.ireturn) 1 68 := ⟨by decide +kernel, rfl⟩
def fX9_passLetters_b17 (N : Nat) (G : pG) (a0 : Nat) : (Int32 × Int32 × pS) → Option (Int32 × pS) := lp (fun (k17 : Int32 × Int32 × pS → Option (Int32 × pS)) (b : Int32 × Int32 × pS) => if (b.2.2.1 a0 3) ≤ b.2.1 then ((fX9_advance N G a0 b.2.2).bind (fun q1 => some (b.1, q1))) else ((fX9_byteAt N G a0 b.2.1 b.2.2).bind (fun q2 => if (6 : Int32) ≤ (q2 - (97 : Int32)) then (some ((-1 : Int32), b.2.2)) else ((fX11_has N G b.1 (q2 - (97 : Int32)) b.2.2).bind (fun q3 => if q3 = 0 then (k17 (b.1 ||| ((1 : Int32) <<< ((q2 - (97 : Int32)) &&& 31)), b.2.1 + (1 : Int32), b.2.2)) else (some ((-1 : Int32), b.2.2))))))) N
set_option maxRecDepth 100000 in
set_option maxHeartbeats 4000000 in
theorem tX9_passLetters_b17 {N : Nat} {G : pG} {SK : Nat → Nat} {a0 : Nat} {b : Int32 × Int32 × pS} {r : Int32 × pS} (hW : WT G) (i0 : Is G a0 8) (h : fX9_passLetters_b17 N G a0 b = some r) : Ev miX9_passLetters (3, 0, 0) G (Zp G (some (.int r.1)) r.2) SK (0, 0) 17 [some (.ref a0), some (.int b.1), some (.int b.2.1), none] [] b.2.2 := by
  unfold fX9_passLetters_b17 at h
  refine lp_ind (P := fun b r9 => r9 = r → Ev miX9_passLetters (3, 0, 0) G (Zp G (some (.int r.1)) r.2) SK (0, 0) 17 [some (.ref a0), some (.int b.1), some (.int b.2.1), none] [] b.2.2) (fun k17 b r9 ih h9 e9 => ?_) N b r h rfl
  clear h
  subst e9
  have h := h9
  clear h9
  have hk17 : ∀ b : Int32 × Int32 × pS, k17 b = some r9 → Ev miX9_passLetters (3, 0, 0) G (Zp G (some (.int r9.1)) r9.2) SK (0, 0) 17 [some (.ref a0), some (.int b.1), some (.int b.2.1), none] [] b.2.2 := fun b hb => ih b r9 hb rfl
  clear ih
  obtain ⟨x1, x2, σ⟩ := b
  dsimp only at h ⊢
  refine ev_iload_n dc_X9_passLetters_17 rfl ?_
  refine ev_aload_n dc_X9_passLetters_18 rfl ?_
  refine ev_getI dc_X9_passLetters_19 fi_X9_21 rfl i0 ?_
  refine ev_icmp_ge (tgt := 62) dc_X9_passLetters_22 (by decide) h (fun h => ?_) (fun h => ?_)
  · refine ev_aload_n dc_X9_passLetters_62 rfl ?_
    obtain ⟨q1, hq1, h⟩ := Option.bind_eq_some_iff.mp h
    refine ev_callV (av := []) (st := []) (st1 := []) dc_X9_passLetters_63 (tX9_advance hW i0 hq1) mw_690 cy_X9_advance i0 (by decide) rfl rfl rfl rfl (Nat.le_of_ble_eq_true rfl) (Nat.le_of_ble_eq_true rfl) ⟨Nat.le_refl _, Nat.le_refl _⟩ ?_
    refine ev_iload_n dc_X9_passLetters_66 rfl ?_
    cases h
    exact ev_iret dc_X9_passLetters_67 rfl rfl rfl
  · refine ev_aload_n dc_X9_passLetters_25 rfl ?_
    refine ev_iload_n dc_X9_passLetters_26 rfl ?_
    obtain ⟨q2, hq2, h⟩ := Option.bind_eq_some_iff.mp h
    refine ev_callV (av := [.int x2]) (st := []) (st1 := [.int q2]) dc_X9_passLetters_27 (tX9_byteAt hW i0 hq2) mw_694 cy_X9_byteAt i0 (by decide) rfl rfl rfl rfl (Nat.le_of_ble_eq_true rfl) (Nat.le_of_ble_eq_true rfl) ⟨Nat.le_refl _, Nat.le_refl _⟩ ?_
    refine ev_bipush (v := 97) dc_X9_passLetters_30 (by decide) ?_
    refine ev_isub dc_X9_passLetters_32 ?_
    refine ev_istore_n (lv' := [some (.ref a0), some (.int x1), some (.int x2), some (.int (q2 - (97 : Int32)))]) dc_X9_passLetters_33 rfl (by decide) rfl ?_
    refine ev_iload_n dc_X9_passLetters_34 rfl ?_
    refine ev_bipush (v := 6) dc_X9_passLetters_35 (by decide) ?_
    refine ev_icmp_ge (tgt := 48) dc_X9_passLetters_37 (by decide) h (fun h => ?_) (fun h => ?_)
    · refine ev_iconst (v := (-1)) dc_X9_passLetters_48 (by decide) ?_
      cases h
      exact ev_iret dc_X9_passLetters_49 rfl rfl rfl
    · refine ev_iload_n dc_X9_passLetters_40 rfl ?_
      refine ev_iload_n dc_X9_passLetters_41 rfl ?_
      obtain ⟨q3, hq3, h⟩ := Option.bind_eq_some_iff.mp h
      refine ev_callN (av := [.int x1, .int (q2 - (97 : Int32))]) (st := []) (st1 := [.int q3]) (host := "UnaskedName") dc_X9_passLetters_42 (tX11_has hW hq3) (List.mem_of_getElem? (i := 18) rfl) cs_X11_has rfl rfl rfl (Nat.le_of_ble_eq_true rfl) (Nat.le_of_ble_eq_true rfl) ⟨Nat.le_refl _, Nat.le_refl _⟩ ?_
      refine ev_if_eq (tgt := 50) dc_X9_passLetters_45 (by decide) h (fun h => ?_) (fun h => ?_)
      · refine ev_iload_n dc_X9_passLetters_50 rfl ?_
        refine ev_iconst (v := 1) dc_X9_passLetters_51 (by decide) ?_
        refine ev_iload_n dc_X9_passLetters_52 rfl ?_
        refine ev_ishl dc_X9_passLetters_53 ?_
        refine ev_ior dc_X9_passLetters_54 ?_
        refine ev_istore_n (lv' := [some (.ref a0), some (.int (x1 ||| ((1 : Int32) <<< ((q2 - (97 : Int32)) &&& 31)))), some (.int x2), some (.int (q2 - (97 : Int32)))]) dc_X9_passLetters_55 rfl (by decide) rfl ?_
        refine ev_iinc (v := 1) (lv' := [some (.ref a0), some (.int (x1 ||| ((1 : Int32) <<< ((q2 - (97 : Int32)) &&& 31)))), some (.int (x2 + (1 : Int32))), some (.int (q2 - (97 : Int32)))]) dc_X9_passLetters_56 rfl (by decide) rfl (by decide) rfl ?_
        refine ev_goto (tgt := 17) dc_X9_passLetters_59 (by decide) ?_
        exact ev_sub (hk17 (x1 ||| ((1 : Int32) <<< ((q2 - (97 : Int32)) &&& 31)), x2 + (1 : Int32), σ) h) (And.intro rfl (And.intro rfl (And.intro rfl trivial)))
      · refine ev_iconst (v := (-1)) dc_X9_passLetters_48 (by decide) ?_
        cases h
        exact ev_iret dc_X9_passLetters_49 rfl rfl rfl
def fX9_passLetters (N : Nat) (G : pG) (a0 : Nat) (σ : pS) : Option (Int32 × pS) := if (σ.1 a0 1) = (1 : Int32) then (fX9_passLetters_b17 N G a0 ((0 : Int32), σ.1 a0 2, σ)) else (some ((-1 : Int32), σ))
set_option maxRecDepth 100000 in
set_option maxHeartbeats 4000000 in
theorem tX9_passLetters {N : Nat} {G : pG} {SK : Nat → Nat} {a0 : Nat} {σ : pS} {r : Int32 × pS} (hW : WT G) (i0 : Is G a0 8) (h : fX9_passLetters N G a0 σ = some r) : Dn miX9_passLetters yX9_passLetters 3 G SK [.ref a0] σ (some (.int r.1)) r.2 := by
  unfold fX9_passLetters at h
  refine dn_of (lv := [some (.ref a0), none, none, none]) (by decide) rfl rfl (Nat.le_of_ble_eq_true rfl) rfl ?_
  refine ev_aload_n dc_X9_passLetters_0 rfl ?_
  refine ev_getI dc_X9_passLetters_1 fi_X9_15 rfl i0 ?_
  refine ev_iconst (v := 1) dc_X9_passLetters_4 (by decide) ?_
  refine ev_icmp_eq (tgt := 10) dc_X9_passLetters_5 (by decide) h (fun h => ?_) (fun h => ?_)
  · refine ev_iconst (v := 0) dc_X9_passLetters_10 (by decide) ?_
    refine ev_istore_n (lv' := [some (.ref a0), some (.int (0 : Int32)), none, none]) dc_X9_passLetters_11 rfl (by decide) rfl ?_
    refine ev_aload_n dc_X9_passLetters_12 rfl ?_
    refine ev_getI dc_X9_passLetters_13 fi_X9_18 rfl i0 ?_
    refine ev_istore_n (lv' := [some (.ref a0), some (.int (0 : Int32)), some (.int (σ.1 a0 2)), none]) dc_X9_passLetters_16 rfl (by decide) rfl ?_
    exact ev_sub (tX9_passLetters_b17 (b := ((0 : Int32), σ.1 a0 2, σ)) hW i0 h) (And.intro rfl (And.intro rfl (And.intro rfl trivial)))
  · refine ev_iconst (v := (-1)) dc_X9_passLetters_8 (by decide) ?_
    cases h
    exact ev_iret dc_X9_passLetters_9 rfl rfl rfl
theorem dc_X9_passNumber_0 : Dc miX9_passNumber 0 (.aload_n 0) 1 1 := ⟨by decide +kernel, rfl⟩
theorem dc_X9_passNumber_1 : Dc miX9_passNumber 1 (.iload_n 1) 1 2 := ⟨by decide +kernel, rfl⟩
theorem dc_X9_passNumber_2 : Dc miX9_passNumber 2 (.iload_n 2) 1 3 := ⟨by decide +kernel, rfl⟩
theorem dc_X9_passNumber_3 : Dc miX9_passNumber 3 (.invokevirtual 58) 3 6 := ⟨by decide +kernel, rfl⟩
theorem dc_X9_passNumber_6 : Dc miX9_passNumber 6 (.istore_n 3) 1 7 := ⟨by decide +kernel, rfl⟩
theorem dc_X9_passNumber_7 : Dc miX9_passNumber 7 (.iload_n 3) 1 8 := ⟨by decide +kernel, rfl⟩
theorem dc_X9_passNumber_8 : Dc miX9_passNumber 8 (.iconst (-1)) 1 9 := ⟨by decide +kernel, rfl⟩
theorem dc_X9_passNumber_9 : Dc miX9_passNumber 9 (.if_icmp .eq 7) 3 12 := ⟨by decide +kernel, rfl⟩
theorem dc_X9_passNumber_12 : Dc miX9_passNumber 12 (.aload_n 0) 1 13 := ⟨by decide +kernel, rfl⟩
theorem dc_X9_passNumber_13 : Dc miX9_passNumber 13 (.invokevirtual 31) 3 16 := ⟨by decide +kernel, rfl⟩
theorem dc_X9_passNumber_16 : Dc miX9_passNumber 16 (.iload_n 3) 1 17 := ⟨by decide +kernel, rfl⟩
theorem dc_X9_passNumber_17 : Dc miX9_passNumber 17 (.ireturn) 1 18 := ⟨by decide +kernel, rfl⟩
def fX9_passNumber (N : Nat) (G : pG) (a0 : Nat) (a1 : Int32) (a2 : Int32) (σ : pS) : Option (Int32 × pS) := (fX9_numberIn N G a0 a1 a2 σ).bind (fun q1 => if q1 = (-1 : Int32) then (some (q1, σ)) else ((fX9_advance N G a0 σ).bind (fun q2 => some (q1, q2))))
set_option maxRecDepth 100000 in
set_option maxHeartbeats 4000000 in
theorem tX9_passNumber {N : Nat} {G : pG} {SK : Nat → Nat} {a0 : Nat} {a1 : Int32} {a2 : Int32} {σ : pS} {r : Int32 × pS} (hW : WT G) (i0 : Is G a0 8) (h : fX9_passNumber N G a0 a1 a2 σ = some r) : Dn miX9_passNumber yX9_passNumber 3 G SK [.ref a0, .int a1, .int a2] σ (some (.int r.1)) r.2 := by
  unfold fX9_passNumber at h
  refine dn_of (lv := [some (.ref a0), some (.int a1), some (.int a2), none]) (by decide) rfl rfl (Nat.le_of_ble_eq_true rfl) rfl ?_
  refine ev_aload_n dc_X9_passNumber_0 rfl ?_
  refine ev_iload_n dc_X9_passNumber_1 rfl ?_
  refine ev_iload_n dc_X9_passNumber_2 rfl ?_
  obtain ⟨q1, hq1, h⟩ := Option.bind_eq_some_iff.mp h
  refine ev_callV (av := [.int a1, .int a2]) (st := []) (st1 := [.int q1]) dc_X9_passNumber_3 (tX9_numberIn hW i0 hq1) mw_776 cy_X9_numberIn i0 (by decide) rfl rfl rfl rfl (Nat.le_of_ble_eq_true rfl) (Nat.le_of_ble_eq_true rfl) ⟨Nat.le_refl _, Nat.le_refl _⟩ ?_
  refine ev_istore_n (lv' := [some (.ref a0), some (.int a1), some (.int a2), some (.int q1)]) dc_X9_passNumber_6 rfl (by decide) rfl ?_
  refine ev_iload_n dc_X9_passNumber_7 rfl ?_
  refine ev_iconst (v := (-1)) dc_X9_passNumber_8 (by decide) ?_
  refine ev_icmp_eq (tgt := 16) dc_X9_passNumber_9 (by decide) h (fun h => ?_) (fun h => ?_)
  · refine ev_iload_n dc_X9_passNumber_16 rfl ?_
    cases h
    exact ev_iret dc_X9_passNumber_17 rfl rfl rfl
  · refine ev_aload_n dc_X9_passNumber_12 rfl ?_
    obtain ⟨q2, hq2, h⟩ := Option.bind_eq_some_iff.mp h
    refine ev_callV (av := []) (st := []) (st1 := []) dc_X9_passNumber_13 (tX9_advance hW i0 hq2) mw_690 cy_X9_advance i0 (by decide) rfl rfl rfl rfl (Nat.le_of_ble_eq_true rfl) (Nat.le_of_ble_eq_true rfl) ⟨Nat.le_refl _, Nat.le_refl _⟩ ?_
    refine ev_iload_n dc_X9_passNumber_16 rfl ?_
    cases h
    exact ev_iret dc_X9_passNumber_17 rfl rfl rfl
theorem dc_X9_passSign_0 : Dc miX9_passSign 0 (.aload_n 0) 1 1 := ⟨by decide +kernel, rfl⟩
theorem dc_X9_passSign_1 : Dc miX9_passSign 1 (.iload_n 1) 1 2 := ⟨by decide +kernel, rfl⟩
theorem dc_X9_passSign_2 : Dc miX9_passSign 2 (.invokevirtual 54) 3 5 := ⟨by decide +kernel, rfl⟩
theorem dc_X9_passSign_5 : Dc miX9_passSign 5 (.istore_n 2) 1 6 := ⟨by decide +kernel, rfl⟩
theorem dc_X9_passSign_6 : Dc miX9_passSign 6 (.iload_n 2) 1 7 := ⟨by decide +kernel, rfl⟩
theorem dc_X9_passSign_7 : Dc miX9_passSign 7 (.ifCond .eq 7) 3 10 := ⟨by decide +kernel, rfl⟩
theorem dc_X9_passSign_10 : Dc miX9_passSign 10 (.aload_n 0) 1 11 := ⟨by decide +kernel, rfl⟩
theorem dc_X9_passSign_11 : Dc miX9_passSign 11 (.invokevirtual 31) 3 14 := ⟨by decide +kernel, rfl⟩
theorem dc_X9_passSign_14 : Dc miX9_passSign 14 (.iload_n 2) 1 15 := ⟨by decide +kernel, rfl⟩
theorem dc_X9_passSign_15 : Dc miX9_passSign 15 (.ireturn) 1 16 := ⟨by decide +kernel, rfl⟩
def fX9_passSign (N : Nat) (G : pG) (a0 : Nat) (a1 : Int32) (σ : pS) : Option (Int32 × pS) := (fX9_isSign N G a0 a1 σ).bind (fun q1 => if q1 = 0 then (ck (isZ q1) (some (q1, σ))) else ((fX9_advance N G a0 σ).bind (fun q2 => ck (isZ q1) (some (q1, q2)))))
set_option maxRecDepth 100000 in
set_option maxHeartbeats 4000000 in
theorem tX9_passSign {N : Nat} {G : pG} {SK : Nat → Nat} {a0 : Nat} {a1 : Int32} {σ : pS} {r : Int32 × pS} (hW : WT G) (i0 : Is G a0 8) (h : fX9_passSign N G a0 a1 σ = some r) : Dn miX9_passSign yX9_passSign 3 G SK [.ref a0, .int a1] σ (some (.int r.1)) r.2 := by
  unfold fX9_passSign at h
  refine dn_of (lv := [some (.ref a0), some (.int a1), none]) (by decide) rfl rfl (Nat.le_of_ble_eq_true rfl) rfl ?_
  refine ev_aload_n dc_X9_passSign_0 rfl ?_
  refine ev_iload_n dc_X9_passSign_1 rfl ?_
  obtain ⟨q1, hq1, h⟩ := Option.bind_eq_some_iff.mp h
  refine ev_callV (av := [.int a1]) (st := []) (st1 := [.int q1]) dc_X9_passSign_2 (tX9_isSign hW i0 hq1) mw_845 cy_X9_isSign i0 (by decide) rfl rfl rfl rfl (Nat.le_of_ble_eq_true rfl) (Nat.le_of_ble_eq_true rfl) ⟨Nat.le_refl _, Nat.le_refl _⟩ ?_
  refine ev_istore_n (lv' := [some (.ref a0), some (.int a1), some (.int q1)]) dc_X9_passSign_5 rfl (by decide) rfl ?_
  refine ev_iload_n dc_X9_passSign_6 rfl ?_
  refine ev_if_eq (tgt := 14) dc_X9_passSign_7 (by decide) h (fun h => ?_) (fun h => ?_)
  · refine ev_iload_n dc_X9_passSign_14 rfl ?_
    have h2 := (ck_s h).2
    cases h2
    exact ev_zret dc_X9_passSign_15 rfl h rfl rfl
  · refine ev_aload_n dc_X9_passSign_10 rfl ?_
    obtain ⟨q2, hq2, h⟩ := Option.bind_eq_some_iff.mp h
    refine ev_callV (av := []) (st := []) (st1 := []) dc_X9_passSign_11 (tX9_advance hW i0 hq2) mw_690 cy_X9_advance i0 (by decide) rfl rfl rfl rfl (Nat.le_of_ble_eq_true rfl) (Nat.le_of_ble_eq_true rfl) ⟨Nat.le_refl _, Nat.le_refl _⟩ ?_
    refine ev_iload_n dc_X9_passSign_14 rfl ?_
    have h2 := (ck_s h).2
    cases h2
    exact ev_zret dc_X9_passSign_15 rfl h rfl rfl
theorem dc_X9_passWord_0 : Dc miX9_passWord 0 (.aload_n 0) 1 1 := ⟨by decide +kernel, rfl⟩
theorem dc_X9_passWord_1 : Dc miX9_passWord 1 (.aload_n 1) 1 2 := ⟨by decide +kernel, rfl⟩
theorem dc_X9_passWord_2 : Dc miX9_passWord 2 (.invokevirtual 50) 3 5 := ⟨by decide +kernel, rfl⟩
theorem dc_X9_passWord_5 : Dc miX9_passWord 5 (.istore_n 2) 1 6 := ⟨by decide +kernel, rfl⟩
theorem dc_X9_passWord_6 : Dc miX9_passWord 6 (.iload_n 2) 1 7 := ⟨by decide +kernel, rfl⟩
theorem dc_X9_passWord_7 : Dc miX9_passWord 7 (.ifCond .eq 7) 3 10 := ⟨by decide +kernel, rfl⟩
theorem dc_X9_passWord_10 : Dc miX9_passWord 10 (.aload_n 0) 1 11 := ⟨by decide +kernel, rfl⟩
theorem dc_X9_passWord_11 : Dc miX9_passWord 11 (.invokevirtual 31) 3 14 := ⟨by decide +kernel, rfl⟩
theorem dc_X9_passWord_14 : Dc miX9_passWord 14 (.iload_n 2) 1 15 := ⟨by decide +kernel, rfl⟩
theorem dc_X9_passWord_15 : Dc miX9_passWord 15 (.ireturn) 1 16 := ⟨by decide +kernel, rfl⟩
def fX9_passWord (N : Nat) (G : pG) (a0 : Nat) (a1 : Nat) (σ : pS) : Option (Int32 × pS) := (fX9_isWord N G a0 a1 σ).bind (fun q1 => if q1 = 0 then (ck (isZ q1) (some (q1, σ))) else ((fX9_advance N G a0 σ).bind (fun q2 => ck (isZ q1) (some (q1, q2)))))
set_option maxRecDepth 100000 in
set_option maxHeartbeats 4000000 in
theorem tX9_passWord {N : Nat} {G : pG} {SK : Nat → Nat} {a0 : Nat} {a1 : Nat} {σ : pS} {r : Int32 × pS} (hW : WT G) (i0 : Is G a0 8) (s1 : decide (a1 < nStr) = true) (h : fX9_passWord N G a0 a1 σ = some r) : Dn miX9_passWord yX9_passWord 10 G SK [.ref a0, .ref (SK a1)] σ (some (.int r.1)) r.2 := by
  unfold fX9_passWord at h
  refine dn_of (lv := [some (.ref a0), some (.ref (SK a1)), none]) (by decide) rfl rfl (Nat.le_of_ble_eq_true rfl) rfl ?_
  refine ev_aload_n dc_X9_passWord_0 rfl ?_
  refine ev_aload_n dc_X9_passWord_1 rfl ?_
  obtain ⟨q1, hq1, h⟩ := Option.bind_eq_some_iff.mp h
  refine ev_callV (av := [.ref (SK a1)]) (st := []) (st1 := [.int q1]) dc_X9_passWord_2 (tX9_isWord hW i0 s1 hq1) mw_771 cy_X9_isWord i0 (by decide) rfl rfl rfl rfl (Nat.le_of_ble_eq_true rfl) (Nat.le_of_ble_eq_true rfl) ⟨Nat.le_refl _, Nat.le_refl _⟩ ?_
  refine ev_istore_n (lv' := [some (.ref a0), some (.ref (SK a1)), some (.int q1)]) dc_X9_passWord_5 rfl (by decide) rfl ?_
  refine ev_iload_n dc_X9_passWord_6 rfl ?_
  refine ev_if_eq (tgt := 14) dc_X9_passWord_7 (by decide) h (fun h => ?_) (fun h => ?_)
  · refine ev_iload_n dc_X9_passWord_14 rfl ?_
    have h2 := (ck_s h).2
    cases h2
    exact ev_zret dc_X9_passWord_15 rfl h rfl rfl
  · refine ev_aload_n dc_X9_passWord_10 rfl ?_
    obtain ⟨q2, hq2, h⟩ := Option.bind_eq_some_iff.mp h
    refine ev_callV (av := []) (st := []) (st1 := []) dc_X9_passWord_11 (tX9_advance hW i0 hq2) mw_690 cy_X9_advance i0 (by decide) rfl rfl rfl rfl (Nat.le_of_ble_eq_true rfl) (Nat.le_of_ble_eq_true rfl) ⟨Nat.le_refl _, Nat.le_refl _⟩ ?_
    refine ev_iload_n dc_X9_passWord_14 rfl ?_
    have h2 := (ck_s h).2
    cases h2
    exact ev_zret dc_X9_passWord_15 rfl h rfl rfl
theorem dc_X9_put_0 : Dc miX9_put 0 (.bipush 24) 2 2 := ⟨by decide +kernel, rfl⟩
theorem dc_X9_put_2 : Dc miX9_put 2 (.istore_n 2) 1 3 := ⟨by decide +kernel, rfl⟩
theorem dc_X9_put_3 : Dc miX9_put 3 (.iload_n 2) 1 4 := ⟨by decide +kernel, rfl⟩
theorem dc_X9_put_4 : Dc miX9_put 4 (.ifCond .lt 49) 3 7 := ⟨by decide +kernel, rfl⟩
theorem dc_X9_put_7 : Dc miX9_put 7 (.aload_n 0) 1 8 := ⟨by decide +kernel, rfl⟩
theorem dc_X9_put_8 : Dc miX9_put 8 (.getfield 9) 3 11 := ⟨by decide +kernel, rfl⟩
theorem dc_X9_put_11 : Dc miX9_put 11 (.ifCond .lt 36) 3 14 := ⟨by decide +kernel, rfl⟩
theorem dc_X9_put_14 : Dc miX9_put 14 (.aload_n 0) 1 15 := ⟨by decide +kernel, rfl⟩
theorem dc_X9_put_15 : Dc miX9_put 15 (.getfield 9) 3 18 := ⟨by decide +kernel, rfl⟩
theorem dc_X9_put_18 : Dc miX9_put 18 (.sipush 400) 3 21 := ⟨by decide +kernel, rfl⟩
theorem dc_X9_put_21 : Dc miX9_put 21 (.if_icmp .ge 26) 3 24 := ⟨by decide +kernel, rfl⟩
theorem dc_X9_put_24 : Dc miX9_put 24 (.aload_n 0) 1 25 := ⟨by decide +kernel, rfl⟩
theorem dc_X9_put_25 : Dc miX9_put 25 (.getfield 27) 3 28 := ⟨by decide +kernel, rfl⟩
theorem dc_X9_put_28 : Dc miX9_put 28 (.aload_n 0) 1 29 := ⟨by decide +kernel, rfl⟩
theorem dc_X9_put_29 : Dc miX9_put 29 (.getfield 9) 3 32 := ⟨by decide +kernel, rfl⟩
theorem dc_X9_put_32 : Dc miX9_put 32 (.iload_n 1) 1 33 := ⟨by decide +kernel, rfl⟩
theorem dc_X9_put_33 : Dc miX9_put 33 (.iload_n 2) 1 34 := ⟨by decide +kernel, rfl⟩
theorem dc_X9_put_34 : Dc miX9_put 34 (.iushr) 1 35 := ⟨by decide +kernel, rfl⟩
theorem dc_X9_put_35 : Dc miX9_put 35 (.i2b) 1 36 := ⟨by decide +kernel, rfl⟩
theorem dc_X9_put_36 : Dc miX9_put 36 (.bastore) 1 37 := ⟨by decide +kernel, rfl⟩
theorem dc_X9_put_37 : Dc miX9_put 37 (.aload_n 0) 1 38 := ⟨by decide +kernel, rfl⟩
theorem dc_X9_put_38 : Dc miX9_put 38 (.dup) 1 39 := ⟨by decide +kernel, rfl⟩
theorem dc_X9_put_39 : Dc miX9_put 39 (.getfield 9) 3 42 := ⟨by decide +kernel, rfl⟩
theorem dc_X9_put_42 : Dc miX9_put 42 (.iconst 1) 1 43 := ⟨by decide +kernel, rfl⟩
theorem dc_X9_put_43 : Dc miX9_put 43 (.iadd) 1 44 := ⟨by decide +kernel, rfl⟩
theorem dc_X9_put_44 : Dc miX9_put 44 (.putfield 9) 3 47 := ⟨by decide +kernel, rfl⟩
theorem dc_X9_put_47 : Dc miX9_put 47 (.iinc 2 (-8)) 3 50 := ⟨by decide +kernel, rfl⟩
theorem dc_X9_put_50 : Dc miX9_put 50 (.goto (-47)) 3 53 := ⟨by decide +kernel, rfl⟩
theorem dc_X9_put_53 : Dc miX9_put 53 (.return_) 1 54 := ⟨by decide +kernel, rfl⟩
def fX9_put_b3 (N : Nat) (G : pG) (a0 : Nat) (a1 : Int32) : (Int32 × pS) → Option (pS) := lp (fun (k3 : Int32 × pS → Option (pS)) (b : Int32 × pS) => if b.1 < 0 then (some b.2) else (if (b.2.1 a0 0) < 0 then (k3 (b.1 + (-8 : Int32), b.2)) else (if (400 : Int32) ≤ (b.2.1 a0 0) then (k3 (b.1 + (-8 : Int32), b.2)) else (ck (inB (b.2.1 a0 0) (pN G (pR G a0 5))) (k3 (b.1 + (-8 : Int32), putF (sA b.2 (pR G a0 5) (b.2.1 a0 0) (vp_nar .byte ((jushr a1 b.1).toInt8.toInt32))) a0 0 (((sA b.2 (pR G a0 5) (b.2.1 a0 0) (vp_nar .byte ((jushr a1 b.1).toInt8.toInt32))).1 a0 0) + (1 : Int32)))))))) N
set_option maxRecDepth 100000 in
set_option maxHeartbeats 4000000 in
theorem tX9_put_b3 {N : Nat} {G : pG} {SK : Nat → Nat} {a0 : Nat} {a1 : Int32} {b : Int32 × pS} {r : pS} (hW : WT G) (i0 : Is G a0 8) (h : fX9_put_b3 N G a0 a1 b = some r) : Ev miX9_put (1, 0, 0) G (Zp G none r) SK (0, 0) 3 [some (.ref a0), some (.int a1), some (.int b.1)] [] b.2 := by
  unfold fX9_put_b3 at h
  refine lp_ind (P := fun b r9 => r9 = r → Ev miX9_put (1, 0, 0) G (Zp G none r) SK (0, 0) 3 [some (.ref a0), some (.int a1), some (.int b.1)] [] b.2) (fun k3 b r9 ih h9 e9 => ?_) N b r h rfl
  clear h
  subst e9
  have h := h9
  clear h9
  have hk3 : ∀ b : Int32 × pS, k3 b = some r9 → Ev miX9_put (1, 0, 0) G (Zp G none r9) SK (0, 0) 3 [some (.ref a0), some (.int a1), some (.int b.1)] [] b.2 := fun b hb => ih b r9 hb rfl
  clear ih
  obtain ⟨x2, σ⟩ := b
  dsimp only at h ⊢
  refine ev_iload_n dc_X9_put_3 rfl ?_
  refine ev_if_lt (tgt := 53) dc_X9_put_4 (by decide) h (fun h => ?_) (fun h => ?_)
  · cases h
    exact ev_vret dc_X9_put_53 rfl rfl rfl
  · refine ev_aload_n dc_X9_put_7 rfl ?_
    refine ev_getI dc_X9_put_8 fi_X9_9 rfl i0 ?_
    refine ev_if_lt (tgt := 47) dc_X9_put_11 (by decide) h (fun h => ?_) (fun h => ?_)
    · refine ev_iinc (v := (-8)) (lv' := [some (.ref a0), some (.int a1), some (.int (x2 + (-8 : Int32)))]) dc_X9_put_47 rfl (by decide) rfl (by decide) rfl ?_
      refine ev_goto (tgt := 3) dc_X9_put_50 (by decide) ?_
      exact ev_sub (hk3 (x2 + (-8 : Int32), σ) h) (And.intro rfl (And.intro rfl (And.intro rfl trivial)))
    · refine ev_aload_n dc_X9_put_14 rfl ?_
      refine ev_getI dc_X9_put_15 fi_X9_9 rfl i0 ?_
      refine ev_sipush (v := 400) dc_X9_put_18 (by decide) ?_
      refine ev_icmp_ge (tgt := 47) dc_X9_put_21 (by decide) h (fun h => ?_) (fun h => ?_)
      · refine ev_iinc (v := (-8)) (lv' := [some (.ref a0), some (.int a1), some (.int (x2 + (-8 : Int32)))]) dc_X9_put_47 rfl (by decide) rfl (by decide) rfl ?_
        refine ev_goto (tgt := 3) dc_X9_put_50 (by decide) ?_
        exact ev_sub (hk3 (x2 + (-8 : Int32), σ) h) (And.intro rfl (And.intro rfl (And.intro rfl trivial)))
      · refine ev_aload_n dc_X9_put_24 rfl ?_
        refine ev_getR dc_X9_put_25 fi_X9_27 rfl i0 ?_
        refine ev_aload_n dc_X9_put_28 rfl ?_
        refine ev_getI dc_X9_put_29 fi_X9_9 rfl i0 ?_
        refine ev_iload_n dc_X9_put_32 rfl ?_
        refine ev_iload_n dc_X9_put_33 rfl ?_
        refine ev_iushr dc_X9_put_34 ?_
        refine ev_i2b dc_X9_put_35 ?_
        refine ev_bast dc_X9_put_36 (wt hW i0 5 rfl rfl) h (fun h => ?_)
        refine ev_aload_n dc_X9_put_37 rfl ?_
        refine ev_dup dc_X9_put_38 rfl ?_
        refine ev_getI dc_X9_put_39 fi_X9_9 rfl i0 ?_
        refine ev_iconst (v := 1) dc_X9_put_42 (by decide) ?_
        refine ev_iadd dc_X9_put_43 ?_
        refine ev_putI dc_X9_put_44 fi_X9_9 rfl i0 ?_
        refine ev_iinc (v := (-8)) (lv' := [some (.ref a0), some (.int a1), some (.int (x2 + (-8 : Int32)))]) dc_X9_put_47 rfl (by decide) rfl (by decide) rfl ?_
        refine ev_goto (tgt := 3) dc_X9_put_50 (by decide) ?_
        exact ev_sub (hk3 (x2 + (-8 : Int32), putF (sA σ (pR G a0 5) (σ.1 a0 0) (vp_nar .byte ((jushr a1 x2).toInt8.toInt32))) a0 0 (((sA σ (pR G a0 5) (σ.1 a0 0) (vp_nar .byte ((jushr a1 x2).toInt8.toInt32))).1 a0 0) + (1 : Int32))) h) (And.intro rfl (And.intro rfl (And.intro rfl trivial)))
def fX9_put (N : Nat) (G : pG) (a0 : Nat) (a1 : Int32) (σ : pS) : Option (pS) := fX9_put_b3 N G a0 a1 ((24 : Int32), σ)
set_option maxRecDepth 100000 in
set_option maxHeartbeats 4000000 in
theorem tX9_put {N : Nat} {G : pG} {SK : Nat → Nat} {a0 : Nat} {a1 : Int32} {σ : pS} {r : pS} (hW : WT G) (i0 : Is G a0 8) (h : fX9_put N G a0 a1 σ = some r) : Dn miX9_put yX9_put 1 G SK [.ref a0, .int a1] σ none r := by
  unfold fX9_put at h
  refine dn_of (lv := [some (.ref a0), some (.int a1), none]) (by decide) rfl rfl (Nat.le_of_ble_eq_true rfl) rfl ?_
  refine ev_bipush (v := 24) dc_X9_put_0 (by decide) ?_
  refine ev_istore_n (lv' := [some (.ref a0), some (.int a1), some (.int (24 : Int32))]) dc_X9_put_2 rfl (by decide) rfl ?_
  exact ev_sub (tX9_put_b3 (b := ((24 : Int32), σ)) hW i0 h) (And.intro rfl (And.intro rfl (And.intro rfl trivial)))
theorem dc_X0_addLine_0 : Dc miX0_addLine 0 (.aload_n 0) 1 1 := ⟨by decide +kernel, rfl⟩
theorem dc_X0_addLine_1 : Dc miX0_addLine 1 (.getfield 11) 3 4 := ⟨by decide +kernel, rfl⟩
theorem dc_X0_addLine_4 : Dc miX0_addLine 4 (.ifCond .lt 55) 3 7 := ⟨by decide +kernel, rfl⟩
theorem dc_X0_addLine_7 : Dc miX0_addLine 7 (.aload_n 0) 1 8 := ⟨by decide +kernel, rfl⟩
theorem dc_X0_addLine_8 : Dc miX0_addLine 8 (.getfield 11) 3 11 := ⟨by decide +kernel, rfl⟩
theorem dc_X0_addLine_11 : Dc miX0_addLine 11 (.bipush 12) 2 13 := ⟨by decide +kernel, rfl⟩
theorem dc_X0_addLine_13 : Dc miX0_addLine 13 (.if_icmp .ge 46) 3 16 := ⟨by decide +kernel, rfl⟩
theorem dc_X0_addLine_16 : Dc miX0_addLine 16 (.aload_n 0) 1 17 := ⟨by decide +kernel, rfl⟩
theorem dc_X0_addLine_17 : Dc miX0_addLine 17 (.getfield 20) 3 20 := ⟨by decide +kernel, rfl⟩
theorem dc_X0_addLine_20 : Dc miX0_addLine 20 (.aload_n 0) 1 21 := ⟨by decide +kernel, rfl⟩
theorem dc_X0_addLine_21 : Dc miX0_addLine 21 (.getfield 11) 3 24 := ⟨by decide +kernel, rfl⟩
theorem dc_X0_addLine_24 : Dc miX0_addLine 24 (.iload_n 1) 1 25 := ⟨by decide +kernel, rfl⟩
theorem dc_X0_addLine_25 : Dc miX0_addLine 25 (.iastore) 1 26 := ⟨by decide +kernel, rfl⟩
theorem dc_X0_addLine_26 : Dc miX0_addLine 26 (.aload_n 0) 1 27 := ⟨by decide +kernel, rfl⟩
theorem dc_X0_addLine_27 : Dc miX0_addLine 27 (.getfield 24) 3 30 := ⟨by decide +kernel, rfl⟩
theorem dc_X0_addLine_30 : Dc miX0_addLine 30 (.aload_n 0) 1 31 := ⟨by decide +kernel, rfl⟩
theorem dc_X0_addLine_31 : Dc miX0_addLine 31 (.getfield 11) 3 34 := ⟨by decide +kernel, rfl⟩
theorem dc_X0_addLine_34 : Dc miX0_addLine 34 (.iload_n 2) 1 35 := ⟨by decide +kernel, rfl⟩
theorem dc_X0_addLine_35 : Dc miX0_addLine 35 (.iastore) 1 36 := ⟨by decide +kernel, rfl⟩
theorem dc_X0_addLine_36 : Dc miX0_addLine 36 (.aload_n 0) 1 37 := ⟨by decide +kernel, rfl⟩
theorem dc_X0_addLine_37 : Dc miX0_addLine 37 (.getfield 27) 3 40 := ⟨by decide +kernel, rfl⟩
theorem dc_X0_addLine_40 : Dc miX0_addLine 40 (.aload_n 0) 1 41 := ⟨by decide +kernel, rfl⟩
theorem dc_X0_addLine_41 : Dc miX0_addLine 41 (.getfield 11) 3 44 := ⟨by decide +kernel, rfl⟩
theorem dc_X0_addLine_44 : Dc miX0_addLine 44 (.aload_n 0) 1 45 := ⟨by decide +kernel, rfl⟩
theorem dc_X0_addLine_45 : Dc miX0_addLine 45 (.getfield 17) 3 48 := ⟨by decide +kernel, rfl⟩
theorem dc_X0_addLine_48 : Dc miX0_addLine 48 (.iastore) 1 49 := ⟨by decide +kernel, rfl⟩
theorem dc_X0_addLine_49 : Dc miX0_addLine 49 (.aload_n 0) 1 50 := ⟨by decide +kernel, rfl⟩
theorem dc_X0_addLine_50 : Dc miX0_addLine 50 (.dup) 1 51 := ⟨by decide +kernel, rfl⟩
theorem dc_X0_addLine_51 : Dc miX0_addLine 51 (.getfield 11) 3 54 := ⟨by decide +kernel, rfl⟩
theorem dc_X0_addLine_54 : Dc miX0_addLine 54 (.iconst 1) 1 55 := ⟨by decide +kernel, rfl⟩
theorem dc_X0_addLine_55 : Dc miX0_addLine 55 (.iadd) 1 56 := ⟨by decide +kernel, rfl⟩
theorem dc_X0_addLine_56 : Dc miX0_addLine 56 (.putfield 11) 3 59 := ⟨by decide +kernel, rfl⟩
theorem dc_X0_addLine_59 : Dc miX0_addLine 59 (.return_) 1 60 := ⟨by decide +kernel, rfl⟩
def fX0_addLine (N : Nat) (G : pG) (a0 : Nat) (a1 : Int32) (a2 : Int32) (σ : pS) : Option (pS) := if (σ.1 a0 0) < 0 then (some σ) else (if (12 : Int32) ≤ (σ.1 a0 0) then (some σ) else (ck (inB (σ.1 a0 0) (pN G (pR G a0 2))) (ck (inB ((sA σ (pR G a0 2) (σ.1 a0 0) a1).1 a0 0) (pN G (pR G a0 3))) (ck (inB ((sA (sA σ (pR G a0 2) (σ.1 a0 0) a1) (pR G a0 3) ((sA σ (pR G a0 2) (σ.1 a0 0) a1).1 a0 0) a2).1 a0 0) (pN G (pR G a0 4))) (some (putF (sA (sA (sA σ (pR G a0 2) (σ.1 a0 0) a1) (pR G a0 3) ((sA σ (pR G a0 2) (σ.1 a0 0) a1).1 a0 0) a2) (pR G a0 4) ((sA (sA σ (pR G a0 2) (σ.1 a0 0) a1) (pR G a0 3) ((sA σ (pR G a0 2) (σ.1 a0 0) a1).1 a0 0) a2).1 a0 0) ((sA (sA σ (pR G a0 2) (σ.1 a0 0) a1) (pR G a0 3) ((sA σ (pR G a0 2) (σ.1 a0 0) a1).1 a0 0) a2).1 a0 1)) a0 0 (((sA (sA (sA σ (pR G a0 2) (σ.1 a0 0) a1) (pR G a0 3) ((sA σ (pR G a0 2) (σ.1 a0 0) a1).1 a0 0) a2) (pR G a0 4) ((sA (sA σ (pR G a0 2) (σ.1 a0 0) a1) (pR G a0 3) ((sA σ (pR G a0 2) (σ.1 a0 0) a1).1 a0 0) a2).1 a0 0) ((sA (sA σ (pR G a0 2) (σ.1 a0 0) a1) (pR G a0 3) ((sA σ (pR G a0 2) (σ.1 a0 0) a1).1 a0 0) a2).1 a0 1)).1 a0 0) + (1 : Int32))))))))
set_option maxRecDepth 100000 in
set_option maxHeartbeats 4000000 in
theorem tX0_addLine {N : Nat} {G : pG} {SK : Nat → Nat} {a0 : Nat} {a1 : Int32} {a2 : Int32} {σ : pS} {r : pS} (hW : WT G) (i0 : Is G a0 0) (h : fX0_addLine N G a0 a1 a2 σ = some r) : Dn miX0_addLine yX0_addLine 1 G SK [.ref a0, .int a1, .int a2] σ none r := by
  unfold fX0_addLine at h
  refine dn_of (lv := [some (.ref a0), some (.int a1), some (.int a2)]) (by decide) rfl rfl (Nat.le_of_ble_eq_true rfl) rfl ?_
  refine ev_aload_n dc_X0_addLine_0 rfl ?_
  refine ev_getI dc_X0_addLine_1 fi_X0_11 rfl i0 ?_
  refine ev_if_lt (tgt := 59) dc_X0_addLine_4 (by decide) h (fun h => ?_) (fun h => ?_)
  · cases h
    exact ev_vret dc_X0_addLine_59 rfl rfl rfl
  · refine ev_aload_n dc_X0_addLine_7 rfl ?_
    refine ev_getI dc_X0_addLine_8 fi_X0_11 rfl i0 ?_
    refine ev_bipush (v := 12) dc_X0_addLine_11 (by decide) ?_
    refine ev_icmp_ge (tgt := 59) dc_X0_addLine_13 (by decide) h (fun h => ?_) (fun h => ?_)
    · cases h
      exact ev_vret dc_X0_addLine_59 rfl rfl rfl
    · refine ev_aload_n dc_X0_addLine_16 rfl ?_
      refine ev_getR dc_X0_addLine_17 fi_X0_20 rfl i0 ?_
      refine ev_aload_n dc_X0_addLine_20 rfl ?_
      refine ev_getI dc_X0_addLine_21 fi_X0_11 rfl i0 ?_
      refine ev_iload_n dc_X0_addLine_24 rfl ?_
      refine ev_iast dc_X0_addLine_25 (wt hW i0 2 rfl rfl) h (fun h => ?_)
      refine ev_aload_n dc_X0_addLine_26 rfl ?_
      refine ev_getR dc_X0_addLine_27 fi_X0_24 rfl i0 ?_
      refine ev_aload_n dc_X0_addLine_30 rfl ?_
      refine ev_getI dc_X0_addLine_31 fi_X0_11 rfl i0 ?_
      refine ev_iload_n dc_X0_addLine_34 rfl ?_
      refine ev_iast dc_X0_addLine_35 (wt hW i0 3 rfl rfl) h (fun h => ?_)
      refine ev_aload_n dc_X0_addLine_36 rfl ?_
      refine ev_getR dc_X0_addLine_37 fi_X0_27 rfl i0 ?_
      refine ev_aload_n dc_X0_addLine_40 rfl ?_
      refine ev_getI dc_X0_addLine_41 fi_X0_11 rfl i0 ?_
      refine ev_aload_n dc_X0_addLine_44 rfl ?_
      refine ev_getI dc_X0_addLine_45 fi_X0_17 rfl i0 ?_
      refine ev_iast dc_X0_addLine_48 (wt hW i0 4 rfl rfl) h (fun h => ?_)
      refine ev_aload_n dc_X0_addLine_49 rfl ?_
      refine ev_dup dc_X0_addLine_50 rfl ?_
      refine ev_getI dc_X0_addLine_51 fi_X0_11 rfl i0 ?_
      refine ev_iconst (v := 1) dc_X0_addLine_54 (by decide) ?_
      refine ev_iadd dc_X0_addLine_55 ?_
      refine ev_putI dc_X0_addLine_56 fi_X0_11 rfl i0 ?_
      cases h
      exact ev_vret dc_X0_addLine_59 rfl rfl rfl
theorem dc_X0_addStep_0 : Dc miX0_addStep 0 (.aload_n 0) 1 1 := ⟨by decide +kernel, rfl⟩
theorem dc_X0_addStep_1 : Dc miX0_addStep 1 (.getfield 17) 3 4 := ⟨by decide +kernel, rfl⟩
theorem dc_X0_addStep_4 : Dc miX0_addStep 4 (.ifCond .lt 33) 3 7 := ⟨by decide +kernel, rfl⟩
theorem dc_X0_addStep_7 : Dc miX0_addStep 7 (.aload_n 0) 1 8 := ⟨by decide +kernel, rfl⟩
theorem dc_X0_addStep_8 : Dc miX0_addStep 8 (.getfield 17) 3 11 := ⟨by decide +kernel, rfl⟩
theorem dc_X0_addStep_11 : Dc miX0_addStep 11 (.sipush 400) 3 14 := ⟨by decide +kernel, rfl⟩
theorem dc_X0_addStep_14 : Dc miX0_addStep 14 (.if_icmp .ge 23) 3 17 := ⟨by decide +kernel, rfl⟩
theorem dc_X0_addStep_17 : Dc miX0_addStep 17 (.aload_n 0) 1 18 := ⟨by decide +kernel, rfl⟩
theorem dc_X0_addStep_18 : Dc miX0_addStep 18 (.getfield 30) 3 21 := ⟨by decide +kernel, rfl⟩
theorem dc_X0_addStep_21 : Dc miX0_addStep 21 (.aload_n 0) 1 22 := ⟨by decide +kernel, rfl⟩
theorem dc_X0_addStep_22 : Dc miX0_addStep 22 (.getfield 17) 3 25 := ⟨by decide +kernel, rfl⟩
theorem dc_X0_addStep_25 : Dc miX0_addStep 25 (.iload_n 1) 1 26 := ⟨by decide +kernel, rfl⟩
theorem dc_X0_addStep_26 : Dc miX0_addStep 26 (.iastore) 1 27 := ⟨by decide +kernel, rfl⟩
theorem dc_X0_addStep_27 : Dc miX0_addStep 27 (.aload_n 0) 1 28 := ⟨by decide +kernel, rfl⟩
theorem dc_X0_addStep_28 : Dc miX0_addStep 28 (.dup) 1 29 := ⟨by decide +kernel, rfl⟩
theorem dc_X0_addStep_29 : Dc miX0_addStep 29 (.getfield 17) 3 32 := ⟨by decide +kernel, rfl⟩
theorem dc_X0_addStep_32 : Dc miX0_addStep 32 (.iconst 1) 1 33 := ⟨by decide +kernel, rfl⟩
theorem dc_X0_addStep_33 : Dc miX0_addStep 33 (.iadd) 1 34 := ⟨by decide +kernel, rfl⟩
theorem dc_X0_addStep_34 : Dc miX0_addStep 34 (.putfield 17) 3 37 := ⟨by decide +kernel, rfl⟩
theorem dc_X0_addStep_37 : Dc miX0_addStep 37 (.return_) 1 38 := ⟨by decide +kernel, rfl⟩
def fX0_addStep (N : Nat) (G : pG) (a0 : Nat) (a1 : Int32) (σ : pS) : Option (pS) := if (σ.1 a0 1) < 0 then (some σ) else (if (400 : Int32) ≤ (σ.1 a0 1) then (some σ) else (ck (inB (σ.1 a0 1) (pN G (pR G a0 5))) (some (putF (sA σ (pR G a0 5) (σ.1 a0 1) a1) a0 1 (((sA σ (pR G a0 5) (σ.1 a0 1) a1).1 a0 1) + (1 : Int32))))))
set_option maxRecDepth 100000 in
set_option maxHeartbeats 4000000 in
theorem tX0_addStep {N : Nat} {G : pG} {SK : Nat → Nat} {a0 : Nat} {a1 : Int32} {σ : pS} {r : pS} (hW : WT G) (i0 : Is G a0 0) (h : fX0_addStep N G a0 a1 σ = some r) : Dn miX0_addStep yX0_addStep 1 G SK [.ref a0, .int a1] σ none r := by
  unfold fX0_addStep at h
  refine dn_of (lv := [some (.ref a0), some (.int a1)]) (by decide) rfl rfl (Nat.le_of_ble_eq_true rfl) rfl ?_
  refine ev_aload_n dc_X0_addStep_0 rfl ?_
  refine ev_getI dc_X0_addStep_1 fi_X0_17 rfl i0 ?_
  refine ev_if_lt (tgt := 37) dc_X0_addStep_4 (by decide) h (fun h => ?_) (fun h => ?_)
  · cases h
    exact ev_vret dc_X0_addStep_37 rfl rfl rfl
  · refine ev_aload_n dc_X0_addStep_7 rfl ?_
    refine ev_getI dc_X0_addStep_8 fi_X0_17 rfl i0 ?_
    refine ev_sipush (v := 400) dc_X0_addStep_11 (by decide) ?_
    refine ev_icmp_ge (tgt := 37) dc_X0_addStep_14 (by decide) h (fun h => ?_) (fun h => ?_)
    · cases h
      exact ev_vret dc_X0_addStep_37 rfl rfl rfl
    · refine ev_aload_n dc_X0_addStep_17 rfl ?_
      refine ev_getR dc_X0_addStep_18 fi_X0_30 rfl i0 ?_
      refine ev_aload_n dc_X0_addStep_21 rfl ?_
      refine ev_getI dc_X0_addStep_22 fi_X0_17 rfl i0 ?_
      refine ev_iload_n dc_X0_addStep_25 rfl ?_
      refine ev_iast dc_X0_addStep_26 (wt hW i0 5 rfl rfl) h (fun h => ?_)
      refine ev_aload_n dc_X0_addStep_27 rfl ?_
      refine ev_dup dc_X0_addStep_28 rfl ?_
      refine ev_getI dc_X0_addStep_29 fi_X0_17 rfl i0 ?_
      refine ev_iconst (v := 1) dc_X0_addStep_32 (by decide) ?_
      refine ev_iadd dc_X0_addStep_33 ?_
      refine ev_putI dc_X0_addStep_34 fi_X0_17 rfl i0 ?_
      cases h
      exact ev_vret dc_X0_addStep_37 rfl rfl rfl
theorem dc_X0_clear_0 : Dc miX0_clear 0 (.aload_n 0) 1 1 := ⟨by decide +kernel, rfl⟩
theorem dc_X0_clear_1 : Dc miX0_clear 1 (.iconst 0) 1 2 := ⟨by decide +kernel, rfl⟩
theorem dc_X0_clear_2 : Dc miX0_clear 2 (.putfield 11) 3 5 := ⟨by decide +kernel, rfl⟩
theorem dc_X0_clear_5 : Dc miX0_clear 5 (.aload_n 0) 1 6 := ⟨by decide +kernel, rfl⟩
theorem dc_X0_clear_6 : Dc miX0_clear 6 (.iconst 0) 1 7 := ⟨by decide +kernel, rfl⟩
theorem dc_X0_clear_7 : Dc miX0_clear 7 (.putfield 17) 3 10 := ⟨by decide +kernel, rfl⟩
theorem dc_X0_clear_10 : Dc miX0_clear 10 (.return_) 1 11 := ⟨by decide +kernel, rfl⟩
def fX0_clear (N : Nat) (G : pG) (a0 : Nat) (σ : pS) : Option (pS) := some (putF (putF σ a0 0 (0 : Int32)) a0 1 (0 : Int32))
set_option maxRecDepth 100000 in
set_option maxHeartbeats 4000000 in
theorem tX0_clear {N : Nat} {G : pG} {SK : Nat → Nat} {a0 : Nat} {σ : pS} {r : pS} (hW : WT G) (i0 : Is G a0 0) (h : fX0_clear N G a0 σ = some r) : Dn miX0_clear yX0_clear 1 G SK [.ref a0] σ none r := by
  unfold fX0_clear at h
  refine dn_of (lv := [some (.ref a0)]) (by decide) rfl rfl (Nat.le_of_ble_eq_true rfl) rfl ?_
  refine ev_aload_n dc_X0_clear_0 rfl ?_
  refine ev_iconst (v := 0) dc_X0_clear_1 (by decide) ?_
  refine ev_putI dc_X0_clear_2 fi_X0_11 rfl i0 ?_
  refine ev_aload_n dc_X0_clear_5 rfl ?_
  refine ev_iconst (v := 0) dc_X0_clear_6 (by decide) ?_
  refine ev_putI dc_X0_clear_7 fi_X0_17 rfl i0 ?_
  cases h
  exact ev_vret dc_X0_clear_10 rfl rfl rfl
theorem dc_X0_copyFrom_0 : Dc miX0_copyFrom 0 (.aload_n 0) 1 1 := ⟨by decide +kernel, rfl⟩
theorem dc_X0_copyFrom_1 : Dc miX0_copyFrom 1 (.aload_n 1) 1 2 := ⟨by decide +kernel, rfl⟩
theorem dc_X0_copyFrom_2 : Dc miX0_copyFrom 2 (.getfield 11) 3 5 := ⟨by decide +kernel, rfl⟩
theorem dc_X0_copyFrom_5 : Dc miX0_copyFrom 5 (.putfield 11) 3 8 := ⟨by decide +kernel, rfl⟩
theorem dc_X0_copyFrom_8 : Dc miX0_copyFrom 8 (.aload_n 0) 1 9 := ⟨by decide +kernel, rfl⟩
theorem dc_X0_copyFrom_9 : Dc miX0_copyFrom 9 (.aload_n 1) 1 10 := ⟨by decide +kernel, rfl⟩
theorem dc_X0_copyFrom_10 : Dc miX0_copyFrom 10 (.getfield 17) 3 13 := ⟨by decide +kernel, rfl⟩
theorem dc_X0_copyFrom_13 : Dc miX0_copyFrom 13 (.putfield 17) 3 16 := ⟨by decide +kernel, rfl⟩
theorem dc_X0_copyFrom_16 : Dc miX0_copyFrom 16 (.aload_n 1) 1 17 := ⟨by decide +kernel, rfl⟩
theorem dc_X0_copyFrom_17 : Dc miX0_copyFrom 17 (.getfield 20) 3 20 := ⟨by decide +kernel, rfl⟩
theorem dc_X0_copyFrom_20 : Dc miX0_copyFrom 20 (.iconst 0) 1 21 := ⟨by decide +kernel, rfl⟩
theorem dc_X0_copyFrom_21 : Dc miX0_copyFrom 21 (.aload_n 0) 1 22 := ⟨by decide +kernel, rfl⟩
theorem dc_X0_copyFrom_22 : Dc miX0_copyFrom 22 (.getfield 20) 3 25 := ⟨by decide +kernel, rfl⟩
theorem dc_X0_copyFrom_25 : Dc miX0_copyFrom 25 (.iconst 0) 1 26 := ⟨by decide +kernel, rfl⟩
theorem dc_X0_copyFrom_26 : Dc miX0_copyFrom 26 (.bipush 12) 2 28 := ⟨by decide +kernel, rfl⟩
theorem dc_X0_copyFrom_28 : Dc miX0_copyFrom 28 (.invokestatic 40) 3 31 := ⟨by decide +kernel, rfl⟩
theorem dc_X0_copyFrom_31 : Dc miX0_copyFrom 31 (.aload_n 1) 1 32 := ⟨by decide +kernel, rfl⟩
theorem dc_X0_copyFrom_32 : Dc miX0_copyFrom 32 (.getfield 24) 3 35 := ⟨by decide +kernel, rfl⟩
theorem dc_X0_copyFrom_35 : Dc miX0_copyFrom 35 (.iconst 0) 1 36 := ⟨by decide +kernel, rfl⟩
theorem dc_X0_copyFrom_36 : Dc miX0_copyFrom 36 (.aload_n 0) 1 37 := ⟨by decide +kernel, rfl⟩
theorem dc_X0_copyFrom_37 : Dc miX0_copyFrom 37 (.getfield 24) 3 40 := ⟨by decide +kernel, rfl⟩
theorem dc_X0_copyFrom_40 : Dc miX0_copyFrom 40 (.iconst 0) 1 41 := ⟨by decide +kernel, rfl⟩
theorem dc_X0_copyFrom_41 : Dc miX0_copyFrom 41 (.bipush 12) 2 43 := ⟨by decide +kernel, rfl⟩
theorem dc_X0_copyFrom_43 : Dc miX0_copyFrom 43 (.invokestatic 40) 3 46 := ⟨by decide +kernel, rfl⟩
theorem dc_X0_copyFrom_46 : Dc miX0_copyFrom 46 (.aload_n 1) 1 47 := ⟨by decide +kernel, rfl⟩
theorem dc_X0_copyFrom_47 : Dc miX0_copyFrom 47 (.getfield 27) 3 50 := ⟨by decide +kernel, rfl⟩
theorem dc_X0_copyFrom_50 : Dc miX0_copyFrom 50 (.iconst 0) 1 51 := ⟨by decide +kernel, rfl⟩
theorem dc_X0_copyFrom_51 : Dc miX0_copyFrom 51 (.aload_n 0) 1 52 := ⟨by decide +kernel, rfl⟩
theorem dc_X0_copyFrom_52 : Dc miX0_copyFrom 52 (.getfield 27) 3 55 := ⟨by decide +kernel, rfl⟩
theorem dc_X0_copyFrom_55 : Dc miX0_copyFrom 55 (.iconst 0) 1 56 := ⟨by decide +kernel, rfl⟩
theorem dc_X0_copyFrom_56 : Dc miX0_copyFrom 56 (.bipush 12) 2 58 := ⟨by decide +kernel, rfl⟩
theorem dc_X0_copyFrom_58 : Dc miX0_copyFrom 58 (.invokestatic 40) 3 61 := ⟨by decide +kernel, rfl⟩
theorem dc_X0_copyFrom_61 : Dc miX0_copyFrom 61 (.aload_n 1) 1 62 := ⟨by decide +kernel, rfl⟩
theorem dc_X0_copyFrom_62 : Dc miX0_copyFrom 62 (.getfield 30) 3 65 := ⟨by decide +kernel, rfl⟩
theorem dc_X0_copyFrom_65 : Dc miX0_copyFrom 65 (.iconst 0) 1 66 := ⟨by decide +kernel, rfl⟩
theorem dc_X0_copyFrom_66 : Dc miX0_copyFrom 66 (.aload_n 0) 1 67 := ⟨by decide +kernel, rfl⟩
theorem dc_X0_copyFrom_67 : Dc miX0_copyFrom 67 (.getfield 30) 3 70 := ⟨by decide +kernel, rfl⟩
theorem dc_X0_copyFrom_70 : Dc miX0_copyFrom 70 (.iconst 0) 1 71 := ⟨by decide +kernel, rfl⟩
theorem dc_X0_copyFrom_71 : Dc miX0_copyFrom 71 (.sipush 400) 3 74 := ⟨by decide +kernel, rfl⟩
theorem dc_X0_copyFrom_74 : Dc miX0_copyFrom 74 (.invokestatic 40) 3 77 := ⟨by decide +kernel, rfl⟩
theorem dc_X0_copyFrom_77 : Dc miX0_copyFrom 77 (.return_) 1 78 := ⟨by decide +kernel, rfl⟩
def fX0_copyFrom (N : Nat) (G : pG) (a0 : Nat) (a1 : Nat) (σ : pS) : Option (pS) := ck (cpB (0 : Int32) (0 : Int32) (12 : Int32) (pN G (pR G a1 2)) (pN G (pR G a0 2))) (ck (cpB (0 : Int32) (0 : Int32) (12 : Int32) (pN G (pR G a1 3)) (pN G (pR G a0 3))) (ck (cpB (0 : Int32) (0 : Int32) (12 : Int32) (pN G (pR G a1 4)) (pN G (pR G a0 4))) (ck (cpB (0 : Int32) (0 : Int32) (400 : Int32) (pN G (pR G a1 5)) (pN G (pR G a0 5))) (some (cpA (cpA (cpA (cpA (putF (putF σ a0 0 (σ.1 a1 0)) a0 1 ((putF σ a0 0 (σ.1 a1 0)).1 a1 1)) (pR G a1 2) (0 : Int32) (pR G a0 2) (0 : Int32) (12 : Int32)) (pR G a1 3) (0 : Int32) (pR G a0 3) (0 : Int32) (12 : Int32)) (pR G a1 4) (0 : Int32) (pR G a0 4) (0 : Int32) (12 : Int32)) (pR G a1 5) (0 : Int32) (pR G a0 5) (0 : Int32) (400 : Int32))))))
set_option maxRecDepth 100000 in
set_option maxHeartbeats 4000000 in
theorem tX0_copyFrom {N : Nat} {G : pG} {SK : Nat → Nat} {a0 : Nat} {a1 : Nat} {σ : pS} {r : pS} (hW : WT G) (i0 : Is G a0 0) (i1 : Is G a1 0) (h : fX0_copyFrom N G a0 a1 σ = some r) : Dn miX0_copyFrom yX0_copyFrom 1 G SK [.ref a0, .ref a1] σ none r := by
  unfold fX0_copyFrom at h
  refine dn_of (lv := [some (.ref a0), some (.ref a1)]) (by decide) rfl rfl (Nat.le_of_ble_eq_true rfl) rfl ?_
  refine ev_aload_n dc_X0_copyFrom_0 rfl ?_
  refine ev_aload_n dc_X0_copyFrom_1 rfl ?_
  refine ev_getI dc_X0_copyFrom_2 fi_X0_11 rfl i1 ?_
  refine ev_putI dc_X0_copyFrom_5 fi_X0_11 rfl i0 ?_
  refine ev_aload_n dc_X0_copyFrom_8 rfl ?_
  refine ev_aload_n dc_X0_copyFrom_9 rfl ?_
  refine ev_getI dc_X0_copyFrom_10 fi_X0_17 rfl i1 ?_
  refine ev_putI dc_X0_copyFrom_13 fi_X0_17 rfl i0 ?_
  refine ev_aload_n dc_X0_copyFrom_16 rfl ?_
  refine ev_getR dc_X0_copyFrom_17 fi_X0_20 rfl i1 ?_
  refine ev_iconst (v := 0) dc_X0_copyFrom_20 (by decide) ?_
  refine ev_aload_n dc_X0_copyFrom_21 rfl ?_
  refine ev_getR dc_X0_copyFrom_22 fi_X0_20 rfl i0 ?_
  refine ev_iconst (v := 0) dc_X0_copyFrom_25 (by decide) ?_
  refine ev_bipush (v := 12) dc_X0_copyFrom_26 (by decide) ?_
  refine ev_cpI dc_X0_copyFrom_28 mw_659 (wt hW i1 2 rfl rfl) (wt hW i0 2 rfl rfl) (Nat.le_of_ble_eq_true rfl) (Nat.le_of_ble_eq_true rfl) h (fun h => ?_)
  refine ev_aload_n dc_X0_copyFrom_31 rfl ?_
  refine ev_getR dc_X0_copyFrom_32 fi_X0_24 rfl i1 ?_
  refine ev_iconst (v := 0) dc_X0_copyFrom_35 (by decide) ?_
  refine ev_aload_n dc_X0_copyFrom_36 rfl ?_
  refine ev_getR dc_X0_copyFrom_37 fi_X0_24 rfl i0 ?_
  refine ev_iconst (v := 0) dc_X0_copyFrom_40 (by decide) ?_
  refine ev_bipush (v := 12) dc_X0_copyFrom_41 (by decide) ?_
  refine ev_cpI dc_X0_copyFrom_43 mw_659 (wt hW i1 3 rfl rfl) (wt hW i0 3 rfl rfl) (Nat.le_of_ble_eq_true rfl) (Nat.le_of_ble_eq_true rfl) h (fun h => ?_)
  refine ev_aload_n dc_X0_copyFrom_46 rfl ?_
  refine ev_getR dc_X0_copyFrom_47 fi_X0_27 rfl i1 ?_
  refine ev_iconst (v := 0) dc_X0_copyFrom_50 (by decide) ?_
  refine ev_aload_n dc_X0_copyFrom_51 rfl ?_
  refine ev_getR dc_X0_copyFrom_52 fi_X0_27 rfl i0 ?_
  refine ev_iconst (v := 0) dc_X0_copyFrom_55 (by decide) ?_
  refine ev_bipush (v := 12) dc_X0_copyFrom_56 (by decide) ?_
  refine ev_cpI dc_X0_copyFrom_58 mw_659 (wt hW i1 4 rfl rfl) (wt hW i0 4 rfl rfl) (Nat.le_of_ble_eq_true rfl) (Nat.le_of_ble_eq_true rfl) h (fun h => ?_)
  refine ev_aload_n dc_X0_copyFrom_61 rfl ?_
  refine ev_getR dc_X0_copyFrom_62 fi_X0_30 rfl i1 ?_
  refine ev_iconst (v := 0) dc_X0_copyFrom_65 (by decide) ?_
  refine ev_aload_n dc_X0_copyFrom_66 rfl ?_
  refine ev_getR dc_X0_copyFrom_67 fi_X0_30 rfl i0 ?_
  refine ev_iconst (v := 0) dc_X0_copyFrom_70 (by decide) ?_
  refine ev_sipush (v := 400) dc_X0_copyFrom_71 (by decide) ?_
  refine ev_cpI dc_X0_copyFrom_74 mw_659 (wt hW i1 5 rfl rfl) (wt hW i0 5 rfl rfl) (Nat.le_of_ble_eq_true rfl) (Nat.le_of_ble_eq_true rfl) h (fun h => ?_)
  cases h
  exact ev_vret dc_X0_copyFrom_77 rfl rfl rfl
