theorem dc_X1_takes_0 : Dc miX1_takes 0 (.aload_n 0) 1 1 := ⟨by decide +kernel, rfl⟩
theorem dc_X1_takes_1 : Dc miX1_takes 1 (.getfield 11) 3 4 := ⟨by decide +kernel, rfl⟩
theorem dc_X1_takes_4 : Dc miX1_takes 4 (.tableswitch 207 0 7 #[48, 71, 101, 140, 164, 171, 164, 178]) 48 52 := ⟨by decide +kernel, rfl⟩
theorem dc_X1_takes_52 : Dc miX1_takes 52 (.aload_n 2) 1 53 := ⟨by decide +kernel, rfl⟩
theorem dc_X1_takes_53 : Dc miX1_takes 53 (.getfield 59) 3 56 := ⟨by decide +kernel, rfl⟩
theorem dc_X1_takes_56 : Dc miX1_takes 56 (.bipush 12) 2 58 := ⟨by decide +kernel, rfl⟩
theorem dc_X1_takes_58 : Dc miX1_takes 58 (.if_icmp .ge 15) 3 61 := ⟨by decide +kernel, rfl⟩
theorem dc_X1_takes_61 : Dc miX1_takes 61 (.aload_n 0) 1 62 := ⟨by decide +kernel, rfl⟩
theorem dc_X1_takes_62 : Dc miX1_takes 62 (.aload_n 1) 1 63 := ⟨by decide +kernel, rfl⟩
theorem dc_X1_takes_63 : Dc miX1_takes 63 (.invokevirtual 62) 3 66 := ⟨by decide +kernel, rfl⟩
theorem dc_X1_takes_66 : Dc miX1_takes 66 (.ifCond .eq 7) 3 69 := ⟨by decide +kernel, rfl⟩
theorem dc_X1_takes_69 : Dc miX1_takes 69 (.iconst 1) 1 70 := ⟨by decide +kernel, rfl⟩
theorem dc_X1_takes_70 : Dc miX1_takes 70 (.goto 4) 3 73 := ⟨by decide +kernel, rfl⟩
theorem dc_X1_takes_73 : Dc miX1_takes 73 (.iconst 0) 1 74 := ⟨by decide +kernel, rfl⟩
theorem dc_X1_takes_74 : Dc miX1_takes 74 (.ireturn) 1 75 := ⟨by decide +kernel, rfl⟩
theorem dc_X1_takes_75 : Dc miX1_takes 75 (.aload_n 0) 1 76 := ⟨by decide +kernel, rfl⟩
theorem dc_X1_takes_76 : Dc miX1_takes 76 (.aload_n 1) 1 77 := ⟨by decide +kernel, rfl⟩
theorem dc_X1_takes_77 : Dc miX1_takes 77 (.iconst 0) 1 78 := ⟨by decide +kernel, rfl⟩
theorem dc_X1_takes_78 : Dc miX1_takes 78 (.bipush 20) 2 80 := ⟨by decide +kernel, rfl⟩
theorem dc_X1_takes_80 : Dc miX1_takes 80 (.invokevirtual 66) 3 83 := ⟨by decide +kernel, rfl⟩
theorem dc_X1_takes_83 : Dc miX1_takes 83 (.putfield 23) 3 86 := ⟨by decide +kernel, rfl⟩
theorem dc_X1_takes_86 : Dc miX1_takes 86 (.aload_n 0) 1 87 := ⟨by decide +kernel, rfl⟩
theorem dc_X1_takes_87 : Dc miX1_takes 87 (.iconst 2) 1 88 := ⟨by decide +kernel, rfl⟩
theorem dc_X1_takes_88 : Dc miX1_takes 88 (.putfield 11) 3 91 := ⟨by decide +kernel, rfl⟩
theorem dc_X1_takes_91 : Dc miX1_takes 91 (.aload_n 0) 1 92 := ⟨by decide +kernel, rfl⟩
theorem dc_X1_takes_92 : Dc miX1_takes 92 (.getfield 23) 3 95 := ⟨by decide +kernel, rfl⟩
theorem dc_X1_takes_95 : Dc miX1_takes 95 (.iconst (-1)) 1 96 := ⟨by decide +kernel, rfl⟩
theorem dc_X1_takes_96 : Dc miX1_takes 96 (.if_icmp .eq 7) 3 99 := ⟨by decide +kernel, rfl⟩
theorem dc_X1_takes_99 : Dc miX1_takes 99 (.iconst 1) 1 100 := ⟨by decide +kernel, rfl⟩
theorem dc_X1_takes_100 : Dc miX1_takes 100 (.goto 4) 3 103 := ⟨by decide +kernel, rfl⟩
theorem dc_X1_takes_103 : Dc miX1_takes 103 (.iconst 0) 1 104 := ⟨by decide +kernel, rfl⟩
theorem dc_X1_takes_104 : Dc miX1_takes 104 (.ireturn) 1 105 := ⟨by decide +kernel, rfl⟩
theorem dc_X1_takes_105 : Dc miX1_takes 105 (.aload_n 1) 1 106 := ⟨by decide +kernel, rfl⟩
theorem dc_X1_takes_106 : Dc miX1_takes 106 (.ldc 70) 2 108 := ⟨by decide +kernel, rfl⟩
theorem dc_X1_takes_108 : Dc miX1_takes 108 (.invokevirtual 72) 3 111 := ⟨by decide +kernel, rfl⟩
theorem dc_X1_takes_111 : Dc miX1_takes 111 (.ifCond .eq 10) 3 114 := ⟨by decide +kernel, rfl⟩
theorem dc_X1_takes_114 : Dc miX1_takes 114 (.aload_n 0) 1 115 := ⟨by decide +kernel, rfl⟩
theorem dc_X1_takes_115 : Dc miX1_takes 115 (.iconst 3) 1 116 := ⟨by decide +kernel, rfl⟩
theorem dc_X1_takes_116 : Dc miX1_takes 116 (.putfield 11) 3 119 := ⟨by decide +kernel, rfl⟩
theorem dc_X1_takes_119 : Dc miX1_takes 119 (.iconst 1) 1 120 := ⟨by decide +kernel, rfl⟩
theorem dc_X1_takes_120 : Dc miX1_takes 120 (.ireturn) 1 121 := ⟨by decide +kernel, rfl⟩
theorem dc_X1_takes_121 : Dc miX1_takes 121 (.aload_n 1) 1 122 := ⟨by decide +kernel, rfl⟩
theorem dc_X1_takes_122 : Dc miX1_takes 122 (.bipush 59) 2 124 := ⟨by decide +kernel, rfl⟩
theorem dc_X1_takes_124 : Dc miX1_takes 124 (.invokevirtual 76) 3 127 := ⟨by decide +kernel, rfl⟩
theorem dc_X1_takes_127 : Dc miX1_takes 127 (.ifCond .eq 15) 3 130 := ⟨by decide +kernel, rfl⟩
theorem dc_X1_takes_130 : Dc miX1_takes 130 (.aload_n 0) 1 131 := ⟨by decide +kernel, rfl⟩
theorem dc_X1_takes_131 : Dc miX1_takes 131 (.aload_n 2) 1 132 := ⟨by decide +kernel, rfl⟩
theorem dc_X1_takes_132 : Dc miX1_takes 132 (.invokevirtual 55) 3 135 := ⟨by decide +kernel, rfl⟩
theorem dc_X1_takes_135 : Dc miX1_takes 135 (.ifCond .eq 7) 3 138 := ⟨by decide +kernel, rfl⟩
theorem dc_X1_takes_138 : Dc miX1_takes 138 (.iconst 1) 1 139 := ⟨by decide +kernel, rfl⟩
theorem dc_X1_takes_139 : Dc miX1_takes 139 (.goto 4) 3 142 := ⟨by decide +kernel, rfl⟩
theorem dc_X1_takes_142 : Dc miX1_takes 142 (.iconst 0) 1 143 := ⟨by decide +kernel, rfl⟩
theorem dc_X1_takes_143 : Dc miX1_takes 143 (.ireturn) 1 144 := ⟨by decide +kernel, rfl⟩
theorem dc_X1_takes_144 : Dc miX1_takes 144 (.aload_n 0) 1 145 := ⟨by decide +kernel, rfl⟩
theorem dc_X1_takes_145 : Dc miX1_takes 145 (.aload_n 1) 1 146 := ⟨by decide +kernel, rfl⟩
theorem dc_X1_takes_146 : Dc miX1_takes 146 (.aload_n 2) 1 147 := ⟨by decide +kernel, rfl⟩
theorem dc_X1_takes_147 : Dc miX1_takes 147 (.invokevirtual 80) 3 150 := ⟨by decide +kernel, rfl⟩
theorem dc_X1_takes_150 : Dc miX1_takes 150 (.ifCond .ne 12) 3 153 := ⟨by decide +kernel, rfl⟩
theorem dc_X1_takes_153 : Dc miX1_takes 153 (.aload_n 0) 1 154 := ⟨by decide +kernel, rfl⟩
theorem dc_X1_takes_154 : Dc miX1_takes 154 (.aload_n 1) 1 155 := ⟨by decide +kernel, rfl⟩
theorem dc_X1_takes_155 : Dc miX1_takes 155 (.aload_n 2) 1 156 := ⟨by decide +kernel, rfl⟩
theorem dc_X1_takes_156 : Dc miX1_takes 156 (.invokevirtual 83) 3 159 := ⟨by decide +kernel, rfl⟩
theorem dc_X1_takes_159 : Dc miX1_takes 159 (.ifCond .eq 7) 3 162 := ⟨by decide +kernel, rfl⟩
theorem dc_X1_takes_162 : Dc miX1_takes 162 (.iconst 1) 1 163 := ⟨by decide +kernel, rfl⟩
theorem dc_X1_takes_163 : Dc miX1_takes 163 (.goto 4) 3 166 := ⟨by decide +kernel, rfl⟩
theorem dc_X1_takes_166 : Dc miX1_takes 166 (.iconst 0) 1 167 := ⟨by decide +kernel, rfl⟩
theorem dc_X1_takes_167 : Dc miX1_takes 167 (.ireturn) 1 168 := ⟨by decide +kernel, rfl⟩
theorem dc_X1_takes_168 : Dc miX1_takes 168 (.aload_n 0) 1 169 := ⟨by decide +kernel, rfl⟩
theorem dc_X1_takes_169 : Dc miX1_takes 169 (.aload_n 1) 1 170 := ⟨by decide +kernel, rfl⟩
theorem dc_X1_takes_170 : Dc miX1_takes 170 (.aload_n 2) 1 171 := ⟨by decide +kernel, rfl⟩
theorem dc_X1_takes_171 : Dc miX1_takes 171 (.invokevirtual 83) 3 174 := ⟨by decide +kernel, rfl⟩
theorem dc_X1_takes_174 : Dc miX1_takes 174 (.ireturn) 1 175 := ⟨by decide +kernel, rfl⟩
theorem dc_X1_takes_175 : Dc miX1_takes 175 (.aload_n 0) 1 176 := ⟨by decide +kernel, rfl⟩
theorem dc_X1_takes_176 : Dc miX1_takes 176 (.aload_n 1) 1 177 := ⟨by decide +kernel, rfl⟩
theorem dc_X1_takes_177 : Dc miX1_takes 177 (.aload_n 2) 1 178 := ⟨by decide +kernel, rfl⟩
theorem dc_X1_takes_178 : Dc miX1_takes 178 (.invokevirtual 86) 3 181 := ⟨by decide +kernel, rfl⟩
theorem dc_X1_takes_181 : Dc miX1_takes 181 (.ireturn) 1 182 := ⟨by decide +kernel, rfl⟩
theorem dc_X1_takes_182 : Dc miX1_takes 182 (.aload_n 1) 1 183 := ⟨by decide +kernel, rfl⟩
theorem dc_X1_takes_183 : Dc miX1_takes 183 (.bipush 43) 2 185 := ⟨by decide +kernel, rfl⟩
theorem dc_X1_takes_185 : Dc miX1_takes 185 (.invokevirtual 76) 3 188 := ⟨by decide +kernel, rfl⟩
theorem dc_X1_takes_188 : Dc miX1_takes 188 (.ifCond .eq 11) 3 191 := ⟨by decide +kernel, rfl⟩
theorem dc_X1_takes_191 : Dc miX1_takes 191 (.aload_n 0) 1 192 := ⟨by decide +kernel, rfl⟩
theorem dc_X1_takes_192 : Dc miX1_takes 192 (.bipush 6) 2 194 := ⟨by decide +kernel, rfl⟩
theorem dc_X1_takes_194 : Dc miX1_takes 194 (.putfield 11) 3 197 := ⟨by decide +kernel, rfl⟩
theorem dc_X1_takes_197 : Dc miX1_takes 197 (.iconst 1) 1 198 := ⟨by decide +kernel, rfl⟩
theorem dc_X1_takes_198 : Dc miX1_takes 198 (.ireturn) 1 199 := ⟨by decide +kernel, rfl⟩
theorem dc_X1_takes_199 : Dc miX1_takes 199 (.aload_n 0) 1 200 := ⟨by decide +kernel, rfl⟩
theorem dc_X1_takes_200 : Dc miX1_takes 200 (.aload_n 2) 1 201 := ⟨by decide +kernel, rfl⟩
theorem dc_X1_takes_201 : Dc miX1_takes 201 (.invokevirtual 89) 3 204 := ⟨by decide +kernel, rfl⟩
theorem dc_X1_takes_204 : Dc miX1_takes 204 (.aload_n 0) 1 205 := ⟨by decide +kernel, rfl⟩
theorem dc_X1_takes_205 : Dc miX1_takes 205 (.aload_n 1) 1 206 := ⟨by decide +kernel, rfl⟩
theorem dc_X1_takes_206 : Dc miX1_takes 206 (.aload_n 2) 1 207 := ⟨by decide +kernel, rfl⟩
theorem dc_X1_takes_207 : Dc miX1_takes 207 (.invokevirtual 93) 3 210 := ⟨by decide +kernel, rfl⟩
theorem dc_X1_takes_210 : Dc miX1_takes 210 (.ireturn) 1 211 := ⟨by decide +kernel, rfl⟩
theorem dc_X1_takes_211 : Dc miX1_takes 211 (.aload_n 0) 1 212 := ⟨by decide +kernel, rfl⟩
theorem dc_X1_takes_212 : Dc miX1_takes 212 (.aload_n 1) 1 213 := ⟨by decide +kernel, rfl⟩
theorem dc_X1_takes_213 : Dc miX1_takes 213 (.aload_n 2) 1 214 := ⟨by decide +kernel, rfl⟩
theorem dc_X1_takes_214 : Dc miX1_takes 214 (.invokevirtual 93) 3 217 := ⟨by decide +kernel, rfl⟩
theorem dc_X1_takes_217 : Dc miX1_takes 217 (.ireturn) 1 218 := ⟨by decide +kernel, rfl⟩
def fX1_takes_b162 (N : Nat) (G : pG) (σ : pS) : Option (Int32 × pS) := some ((1 : Int32), σ)
set_option maxRecDepth 100000 in
set_option maxHeartbeats 4000000 in
theorem tX1_takes_b162 {N : Nat} {G : pG} {SK : Nat → Nat} {σ : pS} {r : Int32 × pS} (hW : WT G) (h : fX1_takes_b162 N G σ = some r) : Ev miX1_takes (12, 0, 0) G (Zp G (some (.int r.1)) r.2) SK (0, 0) 162 [none, none, none] [] σ := by
  unfold fX1_takes_b162 at h
  refine ev_iconst (v := 1) dc_X1_takes_162 (by decide) ?_
  refine ev_goto (tgt := 167) dc_X1_takes_163 (by decide) ?_
  cases h
  exact ev_zretc dc_X1_takes_167 rfl rfl rfl rfl
def fX1_takes (N : Nat) (G : pG) (a0 : Nat) (a1 : Nat) (a2 : Nat) (σ : pS) : Option (Int32 × pS) := if (σ.1 a0 0) = 0 then (if (12 : Int32) ≤ (σ.1 a2 0) then (some ((0 : Int32), σ)) else ((fX1_takesKind N G a0 a1 σ).bind (fun q2 => if q2.1 = 0 then (some ((0 : Int32), q2.2)) else (some ((1 : Int32), q2.2))))) else (if (σ.1 a0 0) = 1 then ((fX9_numberIn N G a1 (0 : Int32) (20 : Int32) σ).bind (fun q3 => if ((putF (putF σ a0 3 q3) a0 0 (2 : Int32)).1 a0 3) = (-1 : Int32) then (some ((0 : Int32), putF (putF σ a0 3 q3) a0 0 (2 : Int32))) else (some ((1 : Int32), putF (putF σ a0 3 q3) a0 0 (2 : Int32))))) else (if (σ.1 a0 0) = 2 then ((fX9_isWord N G a1 19 σ).bind (fun q4 => if q4 = 0 then ((fX9_isSign N G a1 (59 : Int32) σ).bind (fun q5 => if q5 = 0 then (some ((0 : Int32), σ)) else ((fX1_endsLine N G a0 a2 σ).bind (fun q6 => if q6.1 = 0 then (some ((0 : Int32), q6.2)) else (some ((1 : Int32), q6.2)))))) else (some ((1 : Int32), putF σ a0 0 (3 : Int32))))) else (if (σ.1 a0 0) = 3 then ((fX1_takesAtom N G a0 a1 a2 σ).bind (fun q7 => if q7.1 = 0 then ((fX1_takesPart N G a0 a1 a2 q7.2).bind (fun q8 => if q8.1 = 0 then (some ((0 : Int32), q8.2)) else (fX1_takes_b162 N G q8.2))) else (fX1_takes_b162 N G q7.2))) else (if (σ.1 a0 0) = 4 then ((fX1_takesPart N G a0 a1 a2 σ).bind (fun q9 => ck (isZ q9.1) (some (q9.1, q9.2)))) else (if (σ.1 a0 0) = 5 then ((fX1_takesComparison N G a0 a1 a2 σ).bind (fun q10 => ck (isZ q10.1) (some (q10.1, q10.2)))) else (if (σ.1 a0 0) = 6 then ((fX1_takesPart N G a0 a1 a2 σ).bind (fun q11 => ck (isZ q11.1) (some (q11.1, q11.2)))) else (if (σ.1 a0 0) = 7 then ((fX9_isSign N G a1 (43 : Int32) σ).bind (fun q12 => if q12 = 0 then ((fX1_endAtom N G a0 a2 σ).bind (fun q13 => (fX1_takesJoint N G a0 a1 a2 q13).bind (fun q14 => ck (isZ q14.1) (some (q14.1, q14.2))))) else (some ((1 : Int32), putF σ a0 0 (6 : Int32))))) else ((fX1_takesJoint N G a0 a1 a2 σ).bind (fun q1 => ck (isZ q1.1) (some (q1.1, q1.2)))))))))))
set_option maxRecDepth 100000 in
set_option maxHeartbeats 4000000 in
theorem tX1_takes {N : Nat} {G : pG} {SK : Nat → Nat} {a0 : Nat} {a1 : Nat} {a2 : Nat} {σ : pS} {r : Int32 × pS} (hW : WT G) (i0 : Is G a0 1) (i1 : Is G a1 8) (i2 : Is G a2 0) (h : fX1_takes N G a0 a1 a2 σ = some r) : Dn miX1_takes yX1_takes 12 G SK [.ref a0, .ref a1, .ref a2] σ (some (.int r.1)) r.2 := by
  unfold fX1_takes at h
  refine dn_of (lv := [some (.ref a0), some (.ref a1), some (.ref a2)]) (by decide) rfl rfl (Nat.le_of_ble_eq_true rfl) rfl ?_
  refine ev_aload_n dc_X1_takes_0 rfl ?_
  refine ev_getI dc_X1_takes_1 fi_X1_11 rfl i0 ?_
  by_cases z0 : (σ.1 a0 0) = 0
  · rw [if_pos z0] at h
    refine ev_tabIn (tgt := 52) 0 z0 dc_X1_takes_4 (by decide) (by decide) rfl (by decide) ?_
    refine ev_aload_n dc_X1_takes_52 rfl ?_
    refine ev_getI dc_X1_takes_53 fi_X1_59 rfl i2 ?_
    refine ev_bipush (v := 12) dc_X1_takes_56 (by decide) ?_
    refine ev_icmp_ge (tgt := 73) dc_X1_takes_58 (by decide) h (fun h => ?_) (fun h => ?_)
    · refine ev_iconst (v := 0) dc_X1_takes_73 (by decide) ?_
      cases h
      exact ev_zretc dc_X1_takes_74 rfl rfl rfl rfl
    · refine ev_aload_n dc_X1_takes_61 rfl ?_
      refine ev_aload_n dc_X1_takes_62 rfl ?_
      obtain ⟨q2, hq2, h⟩ := Option.bind_eq_some_iff.mp h
      refine ev_callV (av := [.ref a1]) (st := []) (st1 := [.int q2.1]) dc_X1_takes_63 (tX1_takesKind hW i0 i1 hq2) mw_958 cy_X1_takesKind i0 (by decide) rfl rfl rfl rfl (Nat.le_of_ble_eq_true rfl) (Nat.le_of_ble_eq_true rfl) ⟨Nat.le_refl _, Nat.le_refl _⟩ ?_
      refine ev_if_eq (tgt := 73) dc_X1_takes_66 (by decide) h (fun h => ?_) (fun h => ?_)
      · refine ev_iconst (v := 0) dc_X1_takes_73 (by decide) ?_
        cases h
        exact ev_zretc dc_X1_takes_74 rfl rfl rfl rfl
      · refine ev_iconst (v := 1) dc_X1_takes_69 (by decide) ?_
        refine ev_goto (tgt := 74) dc_X1_takes_70 (by decide) ?_
        cases h
        exact ev_zretc dc_X1_takes_74 rfl rfl rfl rfl
  rw [if_neg z0] at h
  by_cases z1 : (σ.1 a0 0) = 1
  · rw [if_pos z1] at h
    refine ev_tabIn (tgt := 75) 1 z1 dc_X1_takes_4 (by decide) (by decide) rfl (by decide) ?_
    refine ev_aload_n dc_X1_takes_75 rfl ?_
    refine ev_aload_n dc_X1_takes_76 rfl ?_
    refine ev_iconst (v := 0) dc_X1_takes_77 (by decide) ?_
    refine ev_bipush (v := 20) dc_X1_takes_78 (by decide) ?_
    obtain ⟨q3, hq3, h⟩ := Option.bind_eq_some_iff.mp h
    refine ev_callV (av := [.int (0 : Int32), .int (20 : Int32)]) (st := [.ref a0]) (st1 := [.int q3, .ref a0]) dc_X1_takes_80 (tX9_numberIn hW i1 hq3) mw_966 cy_X9_numberIn i1 (by decide) rfl rfl rfl rfl (Nat.le_of_ble_eq_true rfl) (Nat.le_of_ble_eq_true rfl) ⟨Nat.le_refl _, Nat.le_refl _⟩ ?_
    refine ev_putI dc_X1_takes_83 fi_X1_23 rfl i0 ?_
    refine ev_aload_n dc_X1_takes_86 rfl ?_
    refine ev_iconst (v := 2) dc_X1_takes_87 (by decide) ?_
    refine ev_putI dc_X1_takes_88 fi_X1_11 rfl i0 ?_
    refine ev_aload_n dc_X1_takes_91 rfl ?_
    refine ev_getI dc_X1_takes_92 fi_X1_23 rfl i0 ?_
    refine ev_iconst (v := (-1)) dc_X1_takes_95 (by decide) ?_
    refine ev_icmp_eq (tgt := 103) dc_X1_takes_96 (by decide) h (fun h => ?_) (fun h => ?_)
    · refine ev_iconst (v := 0) dc_X1_takes_103 (by decide) ?_
      cases h
      exact ev_zretc dc_X1_takes_104 rfl rfl rfl rfl
    · refine ev_iconst (v := 1) dc_X1_takes_99 (by decide) ?_
      refine ev_goto (tgt := 104) dc_X1_takes_100 (by decide) ?_
      cases h
      exact ev_zretc dc_X1_takes_104 rfl rfl rfl rfl
  rw [if_neg z1] at h
  by_cases z2 : (σ.1 a0 0) = 2
  · rw [if_pos z2] at h
    refine ev_tabIn (tgt := 105) 2 z2 dc_X1_takes_4 (by decide) (by decide) rfl (by decide) ?_
    refine ev_aload_n dc_X1_takes_105 rfl ?_
    refine ev_ldcS (sid := 19) (tx := "if") dc_X1_takes_106 (List.mem_of_getElem? (i := 19) rfl) ?_
    obtain ⟨q4, hq4, h⟩ := Option.bind_eq_some_iff.mp h
    refine ev_callV (av := [.ref (SK 19)]) (st := []) (st1 := [.int q4]) dc_X1_takes_108 (tX9_isWord hW i1 rfl hq4) mw_963 cy_X9_isWord i1 (by decide) rfl rfl rfl rfl (Nat.le_of_ble_eq_true rfl) (Nat.le_of_ble_eq_true rfl) ⟨Nat.le_refl _, Nat.le_refl _⟩ ?_
    refine ev_if_eq (tgt := 121) dc_X1_takes_111 (by decide) h (fun h => ?_) (fun h => ?_)
    · refine ev_aload_n dc_X1_takes_121 rfl ?_
      refine ev_bipush (v := 59) dc_X1_takes_122 (by decide) ?_
      obtain ⟨q5, hq5, h⟩ := Option.bind_eq_some_iff.mp h
      refine ev_callV (av := [.int (59 : Int32)]) (st := []) (st1 := [.int q5]) dc_X1_takes_124 (tX9_isSign hW i1 hq5) mw_968 cy_X9_isSign i1 (by decide) rfl rfl rfl rfl (Nat.le_of_ble_eq_true rfl) (Nat.le_of_ble_eq_true rfl) ⟨Nat.le_refl _, Nat.le_refl _⟩ ?_
      refine ev_if_eq (tgt := 142) dc_X1_takes_127 (by decide) h (fun h => ?_) (fun h => ?_)
      · refine ev_iconst (v := 0) dc_X1_takes_142 (by decide) ?_
        cases h
        exact ev_zretc dc_X1_takes_143 rfl rfl rfl rfl
      · refine ev_aload_n dc_X1_takes_130 rfl ?_
        refine ev_aload_n dc_X1_takes_131 rfl ?_
        obtain ⟨q6, hq6, h⟩ := Option.bind_eq_some_iff.mp h
        refine ev_callV (av := [.ref a2]) (st := []) (st1 := [.int q6.1]) dc_X1_takes_132 (tX1_endsLine hW i0 i2 hq6) mw_969 cy_X1_endsLine i0 (by decide) rfl rfl rfl rfl (Nat.le_of_ble_eq_true rfl) (Nat.le_of_ble_eq_true rfl) ⟨Nat.le_refl _, Nat.le_refl _⟩ ?_
        refine ev_if_eq (tgt := 142) dc_X1_takes_135 (by decide) h (fun h => ?_) (fun h => ?_)
        · refine ev_iconst (v := 0) dc_X1_takes_142 (by decide) ?_
          cases h
          exact ev_zretc dc_X1_takes_143 rfl rfl rfl rfl
        · refine ev_iconst (v := 1) dc_X1_takes_138 (by decide) ?_
          refine ev_goto (tgt := 143) dc_X1_takes_139 (by decide) ?_
          cases h
          exact ev_zretc dc_X1_takes_143 rfl rfl rfl rfl
    · refine ev_aload_n dc_X1_takes_114 rfl ?_
      refine ev_iconst (v := 3) dc_X1_takes_115 (by decide) ?_
      refine ev_putI dc_X1_takes_116 fi_X1_11 rfl i0 ?_
      refine ev_iconst (v := 1) dc_X1_takes_119 (by decide) ?_
      cases h
      exact ev_zretc dc_X1_takes_120 rfl rfl rfl rfl
  rw [if_neg z2] at h
  by_cases z3 : (σ.1 a0 0) = 3
  · rw [if_pos z3] at h
    refine ev_tabIn (tgt := 144) 3 z3 dc_X1_takes_4 (by decide) (by decide) rfl (by decide) ?_
    refine ev_aload_n dc_X1_takes_144 rfl ?_
    refine ev_aload_n dc_X1_takes_145 rfl ?_
    refine ev_aload_n dc_X1_takes_146 rfl ?_
    obtain ⟨q7, hq7, h⟩ := Option.bind_eq_some_iff.mp h
    refine ev_callV (av := [.ref a1, .ref a2]) (st := []) (st1 := [.int q7.1]) dc_X1_takes_147 (tX1_takesAtom hW i0 i1 i2 hq7) mw_993 cy_X1_takesAtom i0 (by decide) rfl rfl rfl rfl (Nat.le_of_ble_eq_true rfl) (Nat.le_of_ble_eq_true rfl) ⟨Nat.le_refl _, Nat.le_refl _⟩ ?_
    refine ev_if_ne (tgt := 162) dc_X1_takes_150 (by decide) h (fun h => ?_) (fun h => ?_)
    · refine ev_aload_n dc_X1_takes_153 rfl ?_
      refine ev_aload_n dc_X1_takes_154 rfl ?_
      refine ev_aload_n dc_X1_takes_155 rfl ?_
      obtain ⟨q8, hq8, h⟩ := Option.bind_eq_some_iff.mp h
      refine ev_callV (av := [.ref a1, .ref a2]) (st := []) (st1 := [.int q8.1]) dc_X1_takes_156 (tX1_takesPart hW i0 i1 i2 hq8) mw_1004 cy_X1_takesPart i0 (by decide) rfl rfl rfl rfl (Nat.le_of_ble_eq_true rfl) (Nat.le_of_ble_eq_true rfl) ⟨Nat.le_refl _, Nat.le_refl _⟩ ?_
      refine ev_if_eq (tgt := 166) dc_X1_takes_159 (by decide) h (fun h => ?_) (fun h => ?_)
      · refine ev_iconst (v := 0) dc_X1_takes_166 (by decide) ?_
        cases h
        exact ev_zretc dc_X1_takes_167 rfl rfl rfl rfl
      · exact ev_sub (tX1_takes_b162 hW h) trivial
    · exact ev_sub (tX1_takes_b162 hW h) trivial
  rw [if_neg z3] at h
  by_cases z4 : (σ.1 a0 0) = 4
  · rw [if_pos z4] at h
    refine ev_tabIn (tgt := 168) 4 z4 dc_X1_takes_4 (by decide) (by decide) rfl (by decide) ?_
    refine ev_aload_n dc_X1_takes_168 rfl ?_
    refine ev_aload_n dc_X1_takes_169 rfl ?_
    refine ev_aload_n dc_X1_takes_170 rfl ?_
    obtain ⟨q9, hq9, h⟩ := Option.bind_eq_some_iff.mp h
    refine ev_callV (av := [.ref a1, .ref a2]) (st := []) (st1 := [.int q9.1]) dc_X1_takes_171 (tX1_takesPart hW i0 i1 i2 hq9) mw_1004 cy_X1_takesPart i0 (by decide) rfl rfl rfl rfl (Nat.le_of_ble_eq_true rfl) (Nat.le_of_ble_eq_true rfl) ⟨Nat.le_refl _, Nat.le_refl _⟩ ?_
    have h2 := (ck_s h).2
    cases h2
    exact ev_zret dc_X1_takes_174 rfl h rfl rfl
  rw [if_neg z4] at h
  by_cases z5 : (σ.1 a0 0) = 5
  · rw [if_pos z5] at h
    refine ev_tabIn (tgt := 175) 5 z5 dc_X1_takes_4 (by decide) (by decide) rfl (by decide) ?_
    refine ev_aload_n dc_X1_takes_175 rfl ?_
    refine ev_aload_n dc_X1_takes_176 rfl ?_
    refine ev_aload_n dc_X1_takes_177 rfl ?_
    obtain ⟨q10, hq10, h⟩ := Option.bind_eq_some_iff.mp h
    refine ev_callV (av := [.ref a1, .ref a2]) (st := []) (st1 := [.int q10.1]) dc_X1_takes_178 (tX1_takesComparison hW i0 i1 i2 hq10) mw_1017 cy_X1_takesComparison i0 (by decide) rfl rfl rfl rfl (Nat.le_of_ble_eq_true rfl) (Nat.le_of_ble_eq_true rfl) ⟨Nat.le_refl _, Nat.le_refl _⟩ ?_
    have h2 := (ck_s h).2
    cases h2
    exact ev_zret dc_X1_takes_181 rfl h rfl rfl
  rw [if_neg z5] at h
  by_cases z6 : (σ.1 a0 0) = 6
  · rw [if_pos z6] at h
    refine ev_tabIn (tgt := 168) 6 z6 dc_X1_takes_4 (by decide) (by decide) rfl (by decide) ?_
    refine ev_aload_n dc_X1_takes_168 rfl ?_
    refine ev_aload_n dc_X1_takes_169 rfl ?_
    refine ev_aload_n dc_X1_takes_170 rfl ?_
    obtain ⟨q11, hq11, h⟩ := Option.bind_eq_some_iff.mp h
    refine ev_callV (av := [.ref a1, .ref a2]) (st := []) (st1 := [.int q11.1]) dc_X1_takes_171 (tX1_takesPart hW i0 i1 i2 hq11) mw_1004 cy_X1_takesPart i0 (by decide) rfl rfl rfl rfl (Nat.le_of_ble_eq_true rfl) (Nat.le_of_ble_eq_true rfl) ⟨Nat.le_refl _, Nat.le_refl _⟩ ?_
    have h2 := (ck_s h).2
    cases h2
    exact ev_zret dc_X1_takes_174 rfl h rfl rfl
  rw [if_neg z6] at h
  by_cases z7 : (σ.1 a0 0) = 7
  · rw [if_pos z7] at h
    refine ev_tabIn (tgt := 182) 7 z7 dc_X1_takes_4 (by decide) (by decide) rfl (by decide) ?_
    refine ev_aload_n dc_X1_takes_182 rfl ?_
    refine ev_bipush (v := 43) dc_X1_takes_183 (by decide) ?_
    obtain ⟨q12, hq12, h⟩ := Option.bind_eq_some_iff.mp h
    refine ev_callV (av := [.int (43 : Int32)]) (st := []) (st1 := [.int q12]) dc_X1_takes_185 (tX9_isSign hW i1 hq12) mw_968 cy_X9_isSign i1 (by decide) rfl rfl rfl rfl (Nat.le_of_ble_eq_true rfl) (Nat.le_of_ble_eq_true rfl) ⟨Nat.le_refl _, Nat.le_refl _⟩ ?_
    refine ev_if_eq (tgt := 199) dc_X1_takes_188 (by decide) h (fun h => ?_) (fun h => ?_)
    · refine ev_aload_n dc_X1_takes_199 rfl ?_
      refine ev_aload_n dc_X1_takes_200 rfl ?_
      obtain ⟨q13, hq13, h⟩ := Option.bind_eq_some_iff.mp h
      refine ev_callV (av := [.ref a2]) (st := []) (st1 := []) dc_X1_takes_201 (tX1_endAtom hW i0 i2 hq13) mw_973 cy_X1_endAtom i0 (by decide) rfl rfl rfl rfl (Nat.le_of_ble_eq_true rfl) (Nat.le_of_ble_eq_true rfl) ⟨Nat.le_refl _, Nat.le_refl _⟩ ?_
      refine ev_aload_n dc_X1_takes_204 rfl ?_
      refine ev_aload_n dc_X1_takes_205 rfl ?_
      refine ev_aload_n dc_X1_takes_206 rfl ?_
      obtain ⟨q14, hq14, h⟩ := Option.bind_eq_some_iff.mp h
      refine ev_callV (av := [.ref a1, .ref a2]) (st := []) (st1 := [.int q14.1]) dc_X1_takes_207 (tX1_takesJoint hW i0 i1 i2 hq14) mw_1021 cy_X1_takesJoint i0 (by decide) rfl rfl rfl rfl (Nat.le_of_ble_eq_true rfl) (Nat.le_of_ble_eq_true rfl) ⟨Nat.le_refl _, Nat.le_refl _⟩ ?_
      have h2 := (ck_s h).2
      cases h2
      exact ev_zret dc_X1_takes_210 rfl h rfl rfl
    · refine ev_aload_n dc_X1_takes_191 rfl ?_
      refine ev_bipush (v := 6) dc_X1_takes_192 (by decide) ?_
      refine ev_putI dc_X1_takes_194 fi_X1_11 rfl i0 ?_
      refine ev_iconst (v := 1) dc_X1_takes_197 (by decide) ?_
      cases h
      exact ev_zretc dc_X1_takes_198 rfl rfl rfl rfl
  rw [if_neg z7] at h
  refine ev_tabOut (tgt := 211) dc_X1_takes_4 ?_ (by decide) ?_
  · exact sw_out (lo := 0) (vs := [0, 1, 2, 3, 4, 5, 6, 7]) (by decide) (by decide) (And.intro z0 (And.intro z1 (And.intro z2 (And.intro z3 (And.intro z4 (And.intro z5 (And.intro z6 (And.intro z7 trivial))))))))
  refine ev_aload_n dc_X1_takes_211 rfl ?_
  refine ev_aload_n dc_X1_takes_212 rfl ?_
  refine ev_aload_n dc_X1_takes_213 rfl ?_
  obtain ⟨q1, hq1, h⟩ := Option.bind_eq_some_iff.mp h
  refine ev_callV (av := [.ref a1, .ref a2]) (st := []) (st1 := [.int q1.1]) dc_X1_takes_214 (tX1_takesJoint hW i0 i1 i2 hq1) mw_1021 cy_X1_takesJoint i0 (by decide) rfl rfl rfl rfl (Nat.le_of_ble_eq_true rfl) (Nat.le_of_ble_eq_true rfl) ⟨Nat.le_refl _, Nat.le_refl _⟩ ?_
  have h2 := (ck_s h).2
  cases h2
  exact ev_zret dc_X1_takes_217 rfl h rfl rfl
theorem dc_X1_reads_0 : Dc miX1_reads 0 (.aload_n 2) 1 1 := ⟨by decide +kernel, rfl⟩
theorem dc_X1_reads_1 : Dc miX1_reads 1 (.invokevirtual 39) 3 4 := ⟨by decide +kernel, rfl⟩
theorem dc_X1_reads_4 : Dc miX1_reads 4 (.aload_n 0) 1 5 := ⟨by decide +kernel, rfl⟩
theorem dc_X1_reads_5 : Dc miX1_reads 5 (.iconst 0) 1 6 := ⟨by decide +kernel, rfl⟩
theorem dc_X1_reads_6 : Dc miX1_reads 6 (.putfield 11) 3 9 := ⟨by decide +kernel, rfl⟩
theorem dc_X1_reads_9 : Dc miX1_reads 9 (.aload_n 0) 1 10 := ⟨by decide +kernel, rfl⟩
theorem dc_X1_reads_10 : Dc miX1_reads 10 (.iconst 0) 1 11 := ⟨by decide +kernel, rfl⟩
theorem dc_X1_reads_11 : Dc miX1_reads 11 (.putfield 29) 3 14 := ⟨by decide +kernel, rfl⟩
theorem dc_X1_reads_14 : Dc miX1_reads 14 (.aload_n 0) 1 15 := ⟨by decide +kernel, rfl⟩
theorem dc_X1_reads_15 : Dc miX1_reads 15 (.iconst 0) 1 16 := ⟨by decide +kernel, rfl⟩
theorem dc_X1_reads_16 : Dc miX1_reads 16 (.putfield 32) 3 19 := ⟨by decide +kernel, rfl⟩
theorem dc_X1_reads_19 : Dc miX1_reads 19 (.aload_n 1) 1 20 := ⟨by decide +kernel, rfl⟩
theorem dc_X1_reads_20 : Dc miX1_reads 20 (.invokevirtual 42) 3 23 := ⟨by decide +kernel, rfl⟩
theorem dc_X1_reads_23 : Dc miX1_reads 23 (.aload_n 1) 1 24 := ⟨by decide +kernel, rfl⟩
theorem dc_X1_reads_24 : Dc miX1_reads 24 (.getfield 47) 3 27 := ⟨by decide +kernel, rfl⟩
theorem dc_X1_reads_27 : Dc miX1_reads 27 (.ifCond .ne 5) 3 30 := ⟨by decide +kernel, rfl⟩
theorem dc_X1_reads_30 : Dc miX1_reads 30 (.iconst 1) 1 31 := ⟨by decide +kernel, rfl⟩
theorem dc_X1_reads_31 : Dc miX1_reads 31 (.ireturn) 1 32 := ⟨by decide +kernel, rfl⟩
theorem dc_X1_reads_32 : Dc miX1_reads 32 (.iconst 0) 1 33 := ⟨by decide +kernel, rfl⟩
theorem dc_X1_reads_33 : Dc miX1_reads 33 (.istore_n 3) 1 34 := ⟨by decide +kernel, rfl⟩
theorem dc_X1_reads_34 : Dc miX1_reads 34 (.iload_n 3) 1 35 := ⟨by decide +kernel, rfl⟩
theorem dc_X1_reads_35 : Dc miX1_reads 35 (.sipush 400) 3 38 := ⟨by decide +kernel, rfl⟩
theorem dc_X1_reads_38 : Dc miX1_reads 38 (.if_icmp .ge 31) 3 41 := ⟨by decide +kernel, rfl⟩
theorem dc_X1_reads_41 : Dc miX1_reads 41 (.aload_n 1) 1 42 := ⟨by decide +kernel, rfl⟩
theorem dc_X1_reads_42 : Dc miX1_reads 42 (.getfield 47) 3 45 := ⟨by decide +kernel, rfl⟩
theorem dc_X1_reads_45 : Dc miX1_reads 45 (.ifCond .eq 24) 3 48 := ⟨by decide +kernel, rfl⟩
theorem dc_X1_reads_48 : Dc miX1_reads 48 (.aload_n 0) 1 49 := ⟨by decide +kernel, rfl⟩
theorem dc_X1_reads_49 : Dc miX1_reads 49 (.aload_n 1) 1 50 := ⟨by decide +kernel, rfl⟩
theorem dc_X1_reads_50 : Dc miX1_reads 50 (.aload_n 2) 1 51 := ⟨by decide +kernel, rfl⟩
theorem dc_X1_reads_51 : Dc miX1_reads 51 (.invokevirtual 48) 3 54 := ⟨by decide +kernel, rfl⟩
theorem dc_X1_reads_54 : Dc miX1_reads 54 (.ifCond .ne 5) 3 57 := ⟨by decide +kernel, rfl⟩
theorem dc_X1_reads_57 : Dc miX1_reads 57 (.iconst 0) 1 58 := ⟨by decide +kernel, rfl⟩
theorem dc_X1_reads_58 : Dc miX1_reads 58 (.ireturn) 1 59 := ⟨by decide +kernel, rfl⟩
theorem dc_X1_reads_59 : Dc miX1_reads 59 (.aload_n 1) 1 60 := ⟨by decide +kernel, rfl⟩
theorem dc_X1_reads_60 : Dc miX1_reads 60 (.invokevirtual 52) 3 63 := ⟨by decide +kernel, rfl⟩
theorem dc_X1_reads_63 : Dc miX1_reads 63 (.iinc 3 1) 3 66 := ⟨by decide +kernel, rfl⟩
theorem dc_X1_reads_66 : Dc miX1_reads 66 (.goto (-32)) 3 69 := ⟨by decide +kernel, rfl⟩
theorem dc_X1_reads_69 : Dc miX1_reads 69 (.aload_n 0) 1 70 := ⟨by decide +kernel, rfl⟩
theorem dc_X1_reads_70 : Dc miX1_reads 70 (.aload_n 2) 1 71 := ⟨by decide +kernel, rfl⟩
theorem dc_X1_reads_71 : Dc miX1_reads 71 (.invokevirtual 55) 3 74 := ⟨by decide +kernel, rfl⟩
theorem dc_X1_reads_74 : Dc miX1_reads 74 (.ireturn) 1 75 := ⟨by decide +kernel, rfl⟩
def fX1_reads_b69 (N : Nat) (G : pG) (a0 : Nat) (a2 : Nat) (σ : pS) : Option (Int32 × pS) := (fX1_endsLine N G a0 a2 σ).bind (fun q1 => ck (isZ q1.1) (some (q1.1, q1.2)))
set_option maxRecDepth 100000 in
set_option maxHeartbeats 4000000 in
theorem tX1_reads_b69 {N : Nat} {G : pG} {SK : Nat → Nat} {a0 : Nat} {a2 : Nat} {σ : pS} {r : Int32 × pS} (hW : WT G) (i0 : Is G a0 1) (i2 : Is G a2 0) (h : fX1_reads_b69 N G a0 a2 σ = some r) : Ev miX1_reads (13, 0, 0) G (Zp G (some (.int r.1)) r.2) SK (0, 0) 69 [some (.ref a0), none, some (.ref a2), none] [] σ := by
  unfold fX1_reads_b69 at h
  refine ev_aload_n dc_X1_reads_69 rfl ?_
  refine ev_aload_n dc_X1_reads_70 rfl ?_
  obtain ⟨q1, hq1, h⟩ := Option.bind_eq_some_iff.mp h
  refine ev_callV (av := [.ref a2]) (st := []) (st1 := [.int q1.1]) dc_X1_reads_71 (tX1_endsLine hW i0 i2 hq1) mw_969 cy_X1_endsLine i0 (by decide) rfl rfl rfl rfl (Nat.le_of_ble_eq_true rfl) (Nat.le_of_ble_eq_true rfl) ⟨Nat.le_refl _, Nat.le_refl _⟩ ?_
  have h2 := (ck_s h).2
  cases h2
  exact ev_zret dc_X1_reads_74 rfl h rfl rfl
def fX1_reads_b34 (N : Nat) (G : pG) (a0 : Nat) (a1 : Nat) (a2 : Nat) : (Int32 × pS) → Option (Int32 × pS) := lp (fun (k34 : Int32 × pS → Option (Int32 × pS)) (b : Int32 × pS) => if (400 : Int32) ≤ b.1 then (fX1_reads_b69 N G a0 a2 b.2) else (if (b.2.1 a1 1) = 0 then (fX1_reads_b69 N G a0 a2 b.2) else ((fX1_takes N G a0 a1 a2 b.2).bind (fun q2 => if q2.1 = 0 then (some ((0 : Int32), q2.2)) else ((fX9_advance N G a1 q2.2).bind (fun q3 => k34 (b.1 + (1 : Int32), q3))))))) N
set_option maxRecDepth 100000 in
set_option maxHeartbeats 4000000 in
theorem tX1_reads_b34 {N : Nat} {G : pG} {SK : Nat → Nat} {a0 : Nat} {a1 : Nat} {a2 : Nat} {b : Int32 × pS} {r : Int32 × pS} (hW : WT G) (i0 : Is G a0 1) (i1 : Is G a1 8) (i2 : Is G a2 0) (h : fX1_reads_b34 N G a0 a1 a2 b = some r) : Ev miX1_reads (13, 0, 0) G (Zp G (some (.int r.1)) r.2) SK (0, 0) 34 [some (.ref a0), some (.ref a1), some (.ref a2), some (.int b.1)] [] b.2 := by
  unfold fX1_reads_b34 at h
  refine lp_ind (P := fun b r9 => r9 = r → Ev miX1_reads (13, 0, 0) G (Zp G (some (.int r.1)) r.2) SK (0, 0) 34 [some (.ref a0), some (.ref a1), some (.ref a2), some (.int b.1)] [] b.2) (fun k34 b r9 ih h9 e9 => ?_) N b r h rfl
  clear h
  subst e9
  have h := h9
  clear h9
  have hk34 : ∀ b : Int32 × pS, k34 b = some r9 → Ev miX1_reads (13, 0, 0) G (Zp G (some (.int r9.1)) r9.2) SK (0, 0) 34 [some (.ref a0), some (.ref a1), some (.ref a2), some (.int b.1)] [] b.2 := fun b hb => ih b r9 hb rfl
  clear ih
  obtain ⟨x3, σ⟩ := b
  dsimp only at h ⊢
  refine ev_iload_n dc_X1_reads_34 rfl ?_
  refine ev_sipush (v := 400) dc_X1_reads_35 (by decide) ?_
  refine ev_icmp_ge (tgt := 69) dc_X1_reads_38 (by decide) h (fun h => ?_) (fun h => ?_)
  · exact ev_sub (tX1_reads_b69 hW i0 i2 h) (And.intro rfl (And.intro rfl trivial))
  · refine ev_aload_n dc_X1_reads_41 rfl ?_
    refine ev_getI dc_X1_reads_42 fi_X1_47 rfl i1 ?_
    refine ev_if_eq (tgt := 69) dc_X1_reads_45 (by decide) h (fun h => ?_) (fun h => ?_)
    · exact ev_sub (tX1_reads_b69 hW i0 i2 h) (And.intro rfl (And.intro rfl trivial))
    · refine ev_aload_n dc_X1_reads_48 rfl ?_
      refine ev_aload_n dc_X1_reads_49 rfl ?_
      refine ev_aload_n dc_X1_reads_50 rfl ?_
      obtain ⟨q2, hq2, h⟩ := Option.bind_eq_some_iff.mp h
      refine ev_callV (av := [.ref a1, .ref a2]) (st := []) (st1 := [.int q2.1]) dc_X1_reads_51 (tX1_takes hW i0 i1 i2 hq2) mw_954 cy_X1_takes i0 (by decide) rfl rfl rfl rfl (Nat.le_of_ble_eq_true rfl) (Nat.le_of_ble_eq_true rfl) ⟨Nat.le_refl _, Nat.le_refl _⟩ ?_
      refine ev_if_ne (tgt := 59) dc_X1_reads_54 (by decide) h (fun h => ?_) (fun h => ?_)
      · refine ev_iconst (v := 0) dc_X1_reads_57 (by decide) ?_
        cases h
        exact ev_zretc dc_X1_reads_58 rfl rfl rfl rfl
      · refine ev_aload_n dc_X1_reads_59 rfl ?_
        obtain ⟨q3, hq3, h⟩ := Option.bind_eq_some_iff.mp h
        refine ev_callV (av := []) (st := []) (st1 := []) dc_X1_reads_60 (tX9_advance hW i1 hq3) mw_1027 cy_X9_advance i1 (by decide) rfl rfl rfl rfl (Nat.le_of_ble_eq_true rfl) (Nat.le_of_ble_eq_true rfl) ⟨Nat.le_refl _, Nat.le_refl _⟩ ?_
        refine ev_iinc (v := 1) (lv' := [some (.ref a0), some (.ref a1), some (.ref a2), some (.int (x3 + (1 : Int32)))]) dc_X1_reads_63 rfl (by decide) rfl (by decide) rfl ?_
        refine ev_goto (tgt := 34) dc_X1_reads_66 (by decide) ?_
        exact ev_sub (hk34 (x3 + (1 : Int32), q3) h) (And.intro rfl (And.intro rfl (And.intro rfl (And.intro rfl trivial))))
def fX1_reads (N : Nat) (G : pG) (a0 : Nat) (a1 : Nat) (a2 : Nat) (σ : pS) : Option (Int32 × pS) := (fX0_clear N G a2 σ).bind (fun q4 => (fX9_open N G a1 (putF (putF (putF q4 a0 0 (0 : Int32)) a0 5 (0 : Int32)) a0 6 (0 : Int32))).bind (fun q5 => if (q5.1 a1 1) = 0 then (some ((1 : Int32), q5)) else (fX1_reads_b34 N G a0 a1 a2 ((0 : Int32), q5))))
set_option maxRecDepth 100000 in
set_option maxHeartbeats 4000000 in
theorem tX1_reads {N : Nat} {G : pG} {SK : Nat → Nat} {a0 : Nat} {a1 : Nat} {a2 : Nat} {σ : pS} {r : Int32 × pS} (hW : WT G) (i0 : Is G a0 1) (i1 : Is G a1 8) (i2 : Is G a2 0) (h : fX1_reads N G a0 a1 a2 σ = some r) : Dn miX1_reads yX1_reads 13 G SK [.ref a0, .ref a1, .ref a2] σ (some (.int r.1)) r.2 := by
  unfold fX1_reads at h
  refine dn_of (lv := [some (.ref a0), some (.ref a1), some (.ref a2), none]) (by decide) rfl rfl (Nat.le_of_ble_eq_true rfl) rfl ?_
  refine ev_aload_n dc_X1_reads_0 rfl ?_
  obtain ⟨q4, hq4, h⟩ := Option.bind_eq_some_iff.mp h
  refine ev_callV (av := []) (st := []) (st1 := []) dc_X1_reads_1 (tX0_clear hW i2 hq4) mw_949 cy_X0_clear i2 (by decide) rfl rfl rfl rfl (Nat.le_of_ble_eq_true rfl) (Nat.le_of_ble_eq_true rfl) ⟨Nat.le_refl _, Nat.le_refl _⟩ ?_
  refine ev_aload_n dc_X1_reads_4 rfl ?_
  refine ev_iconst (v := 0) dc_X1_reads_5 (by decide) ?_
  refine ev_putI dc_X1_reads_6 fi_X1_11 rfl i0 ?_
  refine ev_aload_n dc_X1_reads_9 rfl ?_
  refine ev_iconst (v := 0) dc_X1_reads_10 (by decide) ?_
  refine ev_putI dc_X1_reads_11 fi_X1_29 rfl i0 ?_
  refine ev_aload_n dc_X1_reads_14 rfl ?_
  refine ev_iconst (v := 0) dc_X1_reads_15 (by decide) ?_
  refine ev_putI dc_X1_reads_16 fi_X1_32 rfl i0 ?_
  refine ev_aload_n dc_X1_reads_19 rfl ?_
  obtain ⟨q5, hq5, h⟩ := Option.bind_eq_some_iff.mp h
  refine ev_callV (av := []) (st := []) (st1 := []) dc_X1_reads_20 (tX9_open hW i1 hq5) mw_953 cy_X9_open i1 (by decide) rfl rfl rfl rfl (Nat.le_of_ble_eq_true rfl) (Nat.le_of_ble_eq_true rfl) ⟨Nat.le_refl _, Nat.le_refl _⟩ ?_
  refine ev_aload_n dc_X1_reads_23 rfl ?_
  refine ev_getI dc_X1_reads_24 fi_X1_47 rfl i1 ?_
  refine ev_if_ne (tgt := 32) dc_X1_reads_27 (by decide) h (fun h => ?_) (fun h => ?_)
  · refine ev_iconst (v := 1) dc_X1_reads_30 (by decide) ?_
    cases h
    exact ev_zretc dc_X1_reads_31 rfl rfl rfl rfl
  · refine ev_iconst (v := 0) dc_X1_reads_32 (by decide) ?_
    refine ev_istore_n (lv' := [some (.ref a0), some (.ref a1), some (.ref a2), some (.int (0 : Int32))]) dc_X1_reads_33 rfl (by decide) rfl ?_
    exact ev_sub (tX1_reads_b34 (b := ((0 : Int32), q5)) hW i0 i1 i2 h) (And.intro rfl (And.intro rfl (And.intro rfl (And.intro rfl trivial))))
theorem dc_X7_readsDeed_0 : Dc miX7_readsDeed 0 (.aload_n 1) 1 1 := ⟨by decide +kernel, rfl⟩
theorem dc_X7_readsDeed_1 : Dc miX7_readsDeed 1 (.getfield 123) 3 4 := ⟨by decide +kernel, rfl⟩
theorem dc_X7_readsDeed_4 : Dc miX7_readsDeed 4 (.iconst 4) 1 5 := ⟨by decide +kernel, rfl⟩
theorem dc_X7_readsDeed_5 : Dc miX7_readsDeed 5 (.if_icmp .lt 5) 3 8 := ⟨by decide +kernel, rfl⟩
theorem dc_X7_readsDeed_8 : Dc miX7_readsDeed 8 (.iconst 0) 1 9 := ⟨by decide +kernel, rfl⟩
theorem dc_X7_readsDeed_9 : Dc miX7_readsDeed 9 (.ireturn) 1 10 := ⟨by decide +kernel, rfl⟩
theorem dc_X7_readsDeed_10 : Dc miX7_readsDeed 10 (.aload_n 0) 1 11 := ⟨by decide +kernel, rfl⟩
theorem dc_X7_readsDeed_11 : Dc miX7_readsDeed 11 (.invokevirtual 75) 3 14 := ⟨by decide +kernel, rfl⟩
theorem dc_X7_readsDeed_14 : Dc miX7_readsDeed 14 (.aload_n 0) 1 15 := ⟨by decide +kernel, rfl⟩
theorem dc_X7_readsDeed_15 : Dc miX7_readsDeed 15 (.iconst 0) 1 16 := ⟨by decide +kernel, rfl⟩
theorem dc_X7_readsDeed_16 : Dc miX7_readsDeed 16 (.bipush 20) 2 18 := ⟨by decide +kernel, rfl⟩
theorem dc_X7_readsDeed_18 : Dc miX7_readsDeed 18 (.invokevirtual 87) 3 21 := ⟨by decide +kernel, rfl⟩
theorem dc_X7_readsDeed_21 : Dc miX7_readsDeed 21 (.istore_n 2) 1 22 := ⟨by decide +kernel, rfl⟩
theorem dc_X7_readsDeed_22 : Dc miX7_readsDeed 22 (.iload_n 2) 1 23 := ⟨by decide +kernel, rfl⟩
theorem dc_X7_readsDeed_23 : Dc miX7_readsDeed 23 (.iconst (-1)) 1 24 := ⟨by decide +kernel, rfl⟩
theorem dc_X7_readsDeed_24 : Dc miX7_readsDeed 24 (.if_icmp .eq 12) 3 27 := ⟨by decide +kernel, rfl⟩
theorem dc_X7_readsDeed_27 : Dc miX7_readsDeed 27 (.aload_n 0) 1 28 := ⟨by decide +kernel, rfl⟩
theorem dc_X7_readsDeed_28 : Dc miX7_readsDeed 28 (.ldc 126) 2 30 := ⟨by decide +kernel, rfl⟩
theorem dc_X7_readsDeed_30 : Dc miX7_readsDeed 30 (.invokevirtual 84) 3 33 := ⟨by decide +kernel, rfl⟩
theorem dc_X7_readsDeed_33 : Dc miX7_readsDeed 33 (.ifCond .ne 5) 3 36 := ⟨by decide +kernel, rfl⟩
theorem dc_X7_readsDeed_36 : Dc miX7_readsDeed 36 (.iconst 0) 1 37 := ⟨by decide +kernel, rfl⟩
theorem dc_X7_readsDeed_37 : Dc miX7_readsDeed 37 (.ireturn) 1 38 := ⟨by decide +kernel, rfl⟩
theorem dc_X7_readsDeed_38 : Dc miX7_readsDeed 38 (.aload_n 0) 1 39 := ⟨by decide +kernel, rfl⟩
theorem dc_X7_readsDeed_39 : Dc miX7_readsDeed 39 (.iconst 0) 1 40 := ⟨by decide +kernel, rfl⟩
theorem dc_X7_readsDeed_40 : Dc miX7_readsDeed 40 (.bipush 9) 2 42 := ⟨by decide +kernel, rfl⟩
theorem dc_X7_readsDeed_42 : Dc miX7_readsDeed 42 (.invokevirtual 87) 3 45 := ⟨by decide +kernel, rfl⟩
theorem dc_X7_readsDeed_45 : Dc miX7_readsDeed 45 (.istore_n 3) 1 46 := ⟨by decide +kernel, rfl⟩
theorem dc_X7_readsDeed_46 : Dc miX7_readsDeed 46 (.iload_n 3) 1 47 := ⟨by decide +kernel, rfl⟩
theorem dc_X7_readsDeed_47 : Dc miX7_readsDeed 47 (.iconst (-1)) 1 48 := ⟨by decide +kernel, rfl⟩
theorem dc_X7_readsDeed_48 : Dc miX7_readsDeed 48 (.if_icmp .ne 5) 3 51 := ⟨by decide +kernel, rfl⟩
theorem dc_X7_readsDeed_51 : Dc miX7_readsDeed 51 (.iconst 0) 1 52 := ⟨by decide +kernel, rfl⟩
theorem dc_X7_readsDeed_52 : Dc miX7_readsDeed 52 (.ireturn) 1 53 := ⟨by decide +kernel, rfl⟩
theorem dc_X7_readsDeed_53 : Dc miX7_readsDeed 53 (.aload_n 1) 1 54 := ⟨by decide +kernel, rfl⟩
theorem dc_X7_readsDeed_54 : Dc miX7_readsDeed 54 (.iload_n 2) 1 55 := ⟨by decide +kernel, rfl⟩
theorem dc_X7_readsDeed_55 : Dc miX7_readsDeed 55 (.iload_n 3) 1 56 := ⟨by decide +kernel, rfl⟩
theorem dc_X7_readsDeed_56 : Dc miX7_readsDeed 56 (.invokevirtual 128) 3 59 := ⟨by decide +kernel, rfl⟩
theorem dc_X7_readsDeed_59 : Dc miX7_readsDeed 59 (.iconst 1) 1 60 := ⟨by decide +kernel, rfl⟩
theorem dc_X7_readsDeed_60 : Dc miX7_readsDeed 60 (.ireturn) 1 61 := ⟨by decide +kernel, rfl⟩
def fX7_readsDeed (N : Nat) (G : pG) (a0 : Nat) (a1 : Nat) (σ : pS) : Option (Int32 × pS) := if (σ.1 a1 3) < (4 : Int32) then ((fX9_advance N G a0 σ).bind (fun q1 => (fX9_passNumber N G a0 (0 : Int32) (20 : Int32) q1).bind (fun q2 => if q2.1 = (-1 : Int32) then (some ((0 : Int32), q2.2)) else ((fX9_passWord N G a0 5 q2.2).bind (fun q3 => if q3.1 = 0 then (some ((0 : Int32), q3.2)) else ((fX9_passNumber N G a0 (0 : Int32) (9 : Int32) q3.2).bind (fun q4 => if q4.1 = (-1 : Int32) then (some ((0 : Int32), q4.2)) else ((fX8_addDeed N G a1 q2.1 q4.1 q4.2).bind (fun q5 => some ((1 : Int32), q5)))))))))) else (some ((0 : Int32), σ))
set_option maxRecDepth 100000 in
set_option maxHeartbeats 4000000 in
theorem tX7_readsDeed {N : Nat} {G : pG} {SK : Nat → Nat} {a0 : Nat} {a1 : Nat} {σ : pS} {r : Int32 × pS} (hW : WT G) (i0 : Is G a0 8) (i1 : Is G a1 7) (h : fX7_readsDeed N G a0 a1 σ = some r) : Dn miX7_readsDeed yX7_readsDeed 11 G SK [.ref a0, .ref a1] σ (some (.int r.1)) r.2 := by
  unfold fX7_readsDeed at h
  refine dn_of (lv := [some (.ref a0), some (.ref a1), none, none]) (by decide) rfl rfl (Nat.le_of_ble_eq_true rfl) rfl ?_
  refine ev_aload_n dc_X7_readsDeed_0 rfl ?_
  refine ev_getI dc_X7_readsDeed_1 fi_X7_123 rfl i1 ?_
  refine ev_iconst (v := 4) dc_X7_readsDeed_4 (by decide) ?_
  refine ev_icmp_lt (tgt := 10) dc_X7_readsDeed_5 (by decide) h (fun h => ?_) (fun h => ?_)
  · refine ev_aload_n dc_X7_readsDeed_10 rfl ?_
    obtain ⟨q1, hq1, h⟩ := Option.bind_eq_some_iff.mp h
    refine ev_callV (av := []) (st := []) (st1 := []) dc_X7_readsDeed_11 (tX9_advance hW i0 hq1) mw_760 cy_X9_advance i0 (by decide) rfl rfl rfl rfl (Nat.le_of_ble_eq_true rfl) (Nat.le_of_ble_eq_true rfl) ⟨Nat.le_refl _, Nat.le_refl _⟩ ?_
    refine ev_aload_n dc_X7_readsDeed_14 rfl ?_
    refine ev_iconst (v := 0) dc_X7_readsDeed_15 (by decide) ?_
    refine ev_bipush (v := 20) dc_X7_readsDeed_16 (by decide) ?_
    obtain ⟨q2, hq2, h⟩ := Option.bind_eq_some_iff.mp h
    refine ev_callV (av := [.int (0 : Int32), .int (20 : Int32)]) (st := []) (st1 := [.int q2.1]) dc_X7_readsDeed_18 (tX9_passNumber hW i0 hq2) mw_772 cy_X9_passNumber i0 (by decide) rfl rfl rfl rfl (Nat.le_of_ble_eq_true rfl) (Nat.le_of_ble_eq_true rfl) ⟨Nat.le_refl _, Nat.le_refl _⟩ ?_
    refine ev_istore_n (lv' := [some (.ref a0), some (.ref a1), some (.int q2.1), none]) dc_X7_readsDeed_21 rfl (by decide) rfl ?_
    refine ev_iload_n dc_X7_readsDeed_22 rfl ?_
    refine ev_iconst (v := (-1)) dc_X7_readsDeed_23 (by decide) ?_
    refine ev_icmp_eq (tgt := 36) dc_X7_readsDeed_24 (by decide) h (fun h => ?_) (fun h => ?_)
    · refine ev_iconst (v := 0) dc_X7_readsDeed_36 (by decide) ?_
      cases h
      exact ev_zretc dc_X7_readsDeed_37 rfl rfl rfl rfl
    · refine ev_aload_n dc_X7_readsDeed_27 rfl ?_
      refine ev_ldcS (sid := 5) (tx := "costs") dc_X7_readsDeed_28 (List.mem_of_getElem? (i := 5) rfl) ?_
      obtain ⟨q3, hq3, h⟩ := Option.bind_eq_some_iff.mp h
      refine ev_callV (av := [.ref (SK 5)]) (st := []) (st1 := [.int q3.1]) dc_X7_readsDeed_30 (tX9_passWord hW i0 rfl hq3) mw_767 cy_X9_passWord i0 (by decide) rfl rfl rfl rfl (Nat.le_of_ble_eq_true rfl) (Nat.le_of_ble_eq_true rfl) ⟨Nat.le_refl _, Nat.le_refl _⟩ ?_
      refine ev_if_ne (tgt := 38) dc_X7_readsDeed_33 (by decide) h (fun h => ?_) (fun h => ?_)
      · refine ev_iconst (v := 0) dc_X7_readsDeed_36 (by decide) ?_
        cases h
        exact ev_zretc dc_X7_readsDeed_37 rfl rfl rfl rfl
      · refine ev_aload_n dc_X7_readsDeed_38 rfl ?_
        refine ev_iconst (v := 0) dc_X7_readsDeed_39 (by decide) ?_
        refine ev_bipush (v := 9) dc_X7_readsDeed_40 (by decide) ?_
        obtain ⟨q4, hq4, h⟩ := Option.bind_eq_some_iff.mp h
        refine ev_callV (av := [.int (0 : Int32), .int (9 : Int32)]) (st := []) (st1 := [.int q4.1]) dc_X7_readsDeed_42 (tX9_passNumber hW i0 hq4) mw_772 cy_X9_passNumber i0 (by decide) rfl rfl rfl rfl (Nat.le_of_ble_eq_true rfl) (Nat.le_of_ble_eq_true rfl) ⟨Nat.le_refl _, Nat.le_refl _⟩ ?_
        refine ev_istore_n (lv' := [some (.ref a0), some (.ref a1), some (.int q2.1), some (.int q4.1)]) dc_X7_readsDeed_45 rfl (by decide) rfl ?_
        refine ev_iload_n dc_X7_readsDeed_46 rfl ?_
        refine ev_iconst (v := (-1)) dc_X7_readsDeed_47 (by decide) ?_
        refine ev_icmp_ne (tgt := 53) dc_X7_readsDeed_48 (by decide) h (fun h => ?_) (fun h => ?_)
        · refine ev_iconst (v := 0) dc_X7_readsDeed_51 (by decide) ?_
          cases h
          exact ev_zretc dc_X7_readsDeed_52 rfl rfl rfl rfl
        · refine ev_aload_n dc_X7_readsDeed_53 rfl ?_
          refine ev_iload_n dc_X7_readsDeed_54 rfl ?_
          refine ev_iload_n dc_X7_readsDeed_55 rfl ?_
          obtain ⟨q5, hq5, h⟩ := Option.bind_eq_some_iff.mp h
          refine ev_callV (av := [.int q2.1, .int q4.1]) (st := []) (st1 := []) dc_X7_readsDeed_56 (tX8_addDeed hW i1 hq5) mw_803 cy_X8_addDeed i1 (by decide) rfl rfl rfl rfl (Nat.le_of_ble_eq_true rfl) (Nat.le_of_ble_eq_true rfl) ⟨Nat.le_refl _, Nat.le_refl _⟩ ?_
          refine ev_iconst (v := 1) dc_X7_readsDeed_59 (by decide) ?_
          cases h
          exact ev_zretc dc_X7_readsDeed_60 rfl rfl rfl rfl
  · refine ev_iconst (v := 0) dc_X7_readsDeed_8 (by decide) ?_
    cases h
    exact ev_zretc dc_X7_readsDeed_9 rfl rfl rfl rfl
theorem dc_X7_readsDuty_0 : Dc miX7_readsDuty 0 (.aload_n 1) 1 1 := ⟨by decide +kernel, rfl⟩
theorem dc_X7_readsDuty_1 : Dc miX7_readsDuty 1 (.getfield 144) 3 4 := ⟨by decide +kernel, rfl⟩
theorem dc_X7_readsDuty_4 : Dc miX7_readsDuty 4 (.bipush 8) 2 6 := ⟨by decide +kernel, rfl⟩
theorem dc_X7_readsDuty_6 : Dc miX7_readsDuty 6 (.if_icmp .lt 5) 3 9 := ⟨by decide +kernel, rfl⟩
theorem dc_X7_readsDuty_9 : Dc miX7_readsDuty 9 (.iconst 0) 1 10 := ⟨by decide +kernel, rfl⟩
theorem dc_X7_readsDuty_10 : Dc miX7_readsDuty 10 (.ireturn) 1 11 := ⟨by decide +kernel, rfl⟩
theorem dc_X7_readsDuty_11 : Dc miX7_readsDuty 11 (.aload_n 0) 1 12 := ⟨by decide +kernel, rfl⟩
theorem dc_X7_readsDuty_12 : Dc miX7_readsDuty 12 (.invokevirtual 75) 3 15 := ⟨by decide +kernel, rfl⟩
theorem dc_X7_readsDuty_15 : Dc miX7_readsDuty 15 (.aload_n 0) 1 16 := ⟨by decide +kernel, rfl⟩
theorem dc_X7_readsDuty_16 : Dc miX7_readsDuty 16 (.invokevirtual 78) 3 19 := ⟨by decide +kernel, rfl⟩
theorem dc_X7_readsDuty_19 : Dc miX7_readsDuty 19 (.istore_n 2) 1 20 := ⟨by decide +kernel, rfl⟩
theorem dc_X7_readsDuty_20 : Dc miX7_readsDuty 20 (.iload_n 2) 1 21 := ⟨by decide +kernel, rfl⟩
theorem dc_X7_readsDuty_21 : Dc miX7_readsDuty 21 (.iconst (-1)) 1 22 := ⟨by decide +kernel, rfl⟩
theorem dc_X7_readsDuty_22 : Dc miX7_readsDuty 22 (.if_icmp .ne 5) 3 25 := ⟨by decide +kernel, rfl⟩
theorem dc_X7_readsDuty_25 : Dc miX7_readsDuty 25 (.iconst 0) 1 26 := ⟨by decide +kernel, rfl⟩
theorem dc_X7_readsDuty_26 : Dc miX7_readsDuty 26 (.ireturn) 1 27 := ⟨by decide +kernel, rfl⟩
theorem dc_X7_readsDuty_27 : Dc miX7_readsDuty 27 (.aload_n 1) 1 28 := ⟨by decide +kernel, rfl⟩
theorem dc_X7_readsDuty_28 : Dc miX7_readsDuty 28 (.iload_n 2) 1 29 := ⟨by decide +kernel, rfl⟩
theorem dc_X7_readsDuty_29 : Dc miX7_readsDuty 29 (.invokevirtual 147) 3 32 := ⟨by decide +kernel, rfl⟩
theorem dc_X7_readsDuty_32 : Dc miX7_readsDuty 32 (.iconst 1) 1 33 := ⟨by decide +kernel, rfl⟩
theorem dc_X7_readsDuty_33 : Dc miX7_readsDuty 33 (.ireturn) 1 34 := ⟨by decide +kernel, rfl⟩
def fX7_readsDuty (N : Nat) (G : pG) (a0 : Nat) (a1 : Nat) (σ : pS) : Option (Int32 × pS) := if (σ.1 a1 5) < (8 : Int32) then ((fX9_advance N G a0 σ).bind (fun q1 => (fX9_passLetters N G a0 q1).bind (fun q2 => if q2.1 = (-1 : Int32) then (some ((0 : Int32), q2.2)) else ((fX8_addDuty N G a1 q2.1 q2.2).bind (fun q3 => some ((1 : Int32), q3)))))) else (some ((0 : Int32), σ))
set_option maxRecDepth 100000 in
set_option maxHeartbeats 4000000 in
theorem tX7_readsDuty {N : Nat} {G : pG} {SK : Nat → Nat} {a0 : Nat} {a1 : Nat} {σ : pS} {r : Int32 × pS} (hW : WT G) (i0 : Is G a0 8) (i1 : Is G a1 7) (h : fX7_readsDuty N G a0 a1 σ = some r) : Dn miX7_readsDuty yX7_readsDuty 4 G SK [.ref a0, .ref a1] σ (some (.int r.1)) r.2 := by
  unfold fX7_readsDuty at h
  refine dn_of (lv := [some (.ref a0), some (.ref a1), none]) (by decide) rfl rfl (Nat.le_of_ble_eq_true rfl) rfl ?_
  refine ev_aload_n dc_X7_readsDuty_0 rfl ?_
  refine ev_getI dc_X7_readsDuty_1 fi_X7_144 rfl i1 ?_
  refine ev_bipush (v := 8) dc_X7_readsDuty_4 (by decide) ?_
  refine ev_icmp_lt (tgt := 11) dc_X7_readsDuty_6 (by decide) h (fun h => ?_) (fun h => ?_)
  · refine ev_aload_n dc_X7_readsDuty_11 rfl ?_
    obtain ⟨q1, hq1, h⟩ := Option.bind_eq_some_iff.mp h
    refine ev_callV (av := []) (st := []) (st1 := []) dc_X7_readsDuty_12 (tX9_advance hW i0 hq1) mw_760 cy_X9_advance i0 (by decide) rfl rfl rfl rfl (Nat.le_of_ble_eq_true rfl) (Nat.le_of_ble_eq_true rfl) ⟨Nat.le_refl _, Nat.le_refl _⟩ ?_
    refine ev_aload_n dc_X7_readsDuty_15 rfl ?_
    obtain ⟨q2, hq2, h⟩ := Option.bind_eq_some_iff.mp h
    refine ev_callV (av := []) (st := []) (st1 := [.int q2.1]) dc_X7_readsDuty_16 (tX9_passLetters hW i0 hq2) mw_761 cy_X9_passLetters i0 (by decide) rfl rfl rfl rfl (Nat.le_of_ble_eq_true rfl) (Nat.le_of_ble_eq_true rfl) ⟨Nat.le_refl _, Nat.le_refl _⟩ ?_
    refine ev_istore_n (lv' := [some (.ref a0), some (.ref a1), some (.int q2.1)]) dc_X7_readsDuty_19 rfl (by decide) rfl ?_
    refine ev_iload_n dc_X7_readsDuty_20 rfl ?_
    refine ev_iconst (v := (-1)) dc_X7_readsDuty_21 (by decide) ?_
    refine ev_icmp_ne (tgt := 27) dc_X7_readsDuty_22 (by decide) h (fun h => ?_) (fun h => ?_)
    · refine ev_iconst (v := 0) dc_X7_readsDuty_25 (by decide) ?_
      cases h
      exact ev_zretc dc_X7_readsDuty_26 rfl rfl rfl rfl
    · refine ev_aload_n dc_X7_readsDuty_27 rfl ?_
      refine ev_iload_n dc_X7_readsDuty_28 rfl ?_
      obtain ⟨q3, hq3, h⟩ := Option.bind_eq_some_iff.mp h
      refine ev_callV (av := [.int q2.1]) (st := []) (st1 := []) dc_X7_readsDuty_29 (tX8_addDuty hW i1 hq3) mw_824 cy_X8_addDuty i1 (by decide) rfl rfl rfl rfl (Nat.le_of_ble_eq_true rfl) (Nat.le_of_ble_eq_true rfl) ⟨Nat.le_refl _, Nat.le_refl _⟩ ?_
      refine ev_iconst (v := 1) dc_X7_readsDuty_32 (by decide) ?_
      cases h
      exact ev_zretc dc_X7_readsDuty_33 rfl rfl rfl rfl
  · refine ev_iconst (v := 0) dc_X7_readsDuty_9 (by decide) ?_
    cases h
    exact ev_zretc dc_X7_readsDuty_10 rfl rfl rfl rfl
theorem dc_X7_readsMember_0 : Dc miX7_readsMember 0 (.aload_n 1) 1 1 := ⟨by decide +kernel, rfl⟩
theorem dc_X7_readsMember_1 : Dc miX7_readsMember 1 (.getfield 39) 3 4 := ⟨by decide +kernel, rfl⟩
theorem dc_X7_readsMember_4 : Dc miX7_readsMember 4 (.getfield 131) 3 7 := ⟨by decide +kernel, rfl⟩
theorem dc_X7_readsMember_7 : Dc miX7_readsMember 7 (.istore_n 3) 1 8 := ⟨by decide +kernel, rfl⟩
theorem dc_X7_readsMember_8 : Dc miX7_readsMember 8 (.iload_n 3) 1 9 := ⟨by decide +kernel, rfl⟩
theorem dc_X7_readsMember_9 : Dc miX7_readsMember 9 (.bipush 6) 2 11 := ⟨by decide +kernel, rfl⟩
theorem dc_X7_readsMember_11 : Dc miX7_readsMember 11 (.if_icmp .lt 5) 3 14 := ⟨by decide +kernel, rfl⟩
theorem dc_X7_readsMember_14 : Dc miX7_readsMember 14 (.iconst 0) 1 15 := ⟨by decide +kernel, rfl⟩
theorem dc_X7_readsMember_15 : Dc miX7_readsMember 15 (.ireturn) 1 16 := ⟨by decide +kernel, rfl⟩
theorem dc_X7_readsMember_16 : Dc miX7_readsMember 16 (.aload_n 0) 1 17 := ⟨by decide +kernel, rfl⟩
theorem dc_X7_readsMember_17 : Dc miX7_readsMember 17 (.invokevirtual 75) 3 20 := ⟨by decide +kernel, rfl⟩
theorem dc_X7_readsMember_20 : Dc miX7_readsMember 20 (.aload_n 0) 1 21 := ⟨by decide +kernel, rfl⟩
theorem dc_X7_readsMember_21 : Dc miX7_readsMember 21 (.iconst 0) 1 22 := ⟨by decide +kernel, rfl⟩
theorem dc_X7_readsMember_22 : Dc miX7_readsMember 22 (.aload_n 1) 1 23 := ⟨by decide +kernel, rfl⟩
theorem dc_X7_readsMember_23 : Dc miX7_readsMember 23 (.getfield 39) 3 26 := ⟨by decide +kernel, rfl⟩
theorem dc_X7_readsMember_26 : Dc miX7_readsMember 26 (.getfield 112) 3 29 := ⟨by decide +kernel, rfl⟩
theorem dc_X7_readsMember_29 : Dc miX7_readsMember 29 (.iconst 1) 1 30 := ⟨by decide +kernel, rfl⟩
theorem dc_X7_readsMember_30 : Dc miX7_readsMember 30 (.isub) 1 31 := ⟨by decide +kernel, rfl⟩
theorem dc_X7_readsMember_31 : Dc miX7_readsMember 31 (.invokevirtual 87) 3 34 := ⟨by decide +kernel, rfl⟩
theorem dc_X7_readsMember_34 : Dc miX7_readsMember 34 (.istore 4) 2 36 := ⟨by decide +kernel, rfl⟩
theorem dc_X7_readsMember_36 : Dc miX7_readsMember 36 (.iload 4) 2 38 := ⟨by decide +kernel, rfl⟩
theorem dc_X7_readsMember_38 : Dc miX7_readsMember 38 (.iconst (-1)) 1 39 := ⟨by decide +kernel, rfl⟩
theorem dc_X7_readsMember_39 : Dc miX7_readsMember 39 (.if_icmp .ne 5) 3 42 := ⟨by decide +kernel, rfl⟩
theorem dc_X7_readsMember_42 : Dc miX7_readsMember 42 (.iconst 0) 1 43 := ⟨by decide +kernel, rfl⟩
theorem dc_X7_readsMember_43 : Dc miX7_readsMember 43 (.ireturn) 1 44 := ⟨by decide +kernel, rfl⟩
theorem dc_X7_readsMember_44 : Dc miX7_readsMember 44 (.aload_n 1) 1 45 := ⟨by decide +kernel, rfl⟩
theorem dc_X7_readsMember_45 : Dc miX7_readsMember 45 (.getfield 91) 3 48 := ⟨by decide +kernel, rfl⟩
theorem dc_X7_readsMember_48 : Dc miX7_readsMember 48 (.dup) 1 49 := ⟨by decide +kernel, rfl⟩
theorem dc_X7_readsMember_49 : Dc miX7_readsMember 49 (.getfield 134) 3 52 := ⟨by decide +kernel, rfl⟩
theorem dc_X7_readsMember_52 : Dc miX7_readsMember 52 (.iconst 1) 1 53 := ⟨by decide +kernel, rfl⟩
theorem dc_X7_readsMember_53 : Dc miX7_readsMember 53 (.iload_n 3) 1 54 := ⟨by decide +kernel, rfl⟩
theorem dc_X7_readsMember_54 : Dc miX7_readsMember 54 (.ishl) 1 55 := ⟨by decide +kernel, rfl⟩
theorem dc_X7_readsMember_55 : Dc miX7_readsMember 55 (.ior) 1 56 := ⟨by decide +kernel, rfl⟩
theorem dc_X7_readsMember_56 : Dc miX7_readsMember 56 (.putfield 134) 3 59 := ⟨by decide +kernel, rfl⟩
theorem dc_X7_readsMember_59 : Dc miX7_readsMember 59 (.aload_n 1) 1 60 := ⟨by decide +kernel, rfl⟩
theorem dc_X7_readsMember_60 : Dc miX7_readsMember 60 (.getfield 91) 3 63 := ⟨by decide +kernel, rfl⟩
theorem dc_X7_readsMember_63 : Dc miX7_readsMember 63 (.iload_n 3) 1 64 := ⟨by decide +kernel, rfl⟩
theorem dc_X7_readsMember_64 : Dc miX7_readsMember 64 (.iload 4) 2 66 := ⟨by decide +kernel, rfl⟩
theorem dc_X7_readsMember_66 : Dc miX7_readsMember 66 (.invokevirtual 137) 3 69 := ⟨by decide +kernel, rfl⟩
theorem dc_X7_readsMember_69 : Dc miX7_readsMember 69 (.aload_n 1) 1 70 := ⟨by decide +kernel, rfl⟩
theorem dc_X7_readsMember_70 : Dc miX7_readsMember 70 (.getfield 39) 3 73 := ⟨by decide +kernel, rfl⟩
theorem dc_X7_readsMember_73 : Dc miX7_readsMember 73 (.iload_n 2) 1 74 := ⟨by decide +kernel, rfl⟩
theorem dc_X7_readsMember_74 : Dc miX7_readsMember 74 (.invokevirtual 140) 3 77 := ⟨by decide +kernel, rfl⟩
theorem dc_X7_readsMember_77 : Dc miX7_readsMember 77 (.iconst 1) 1 78 := ⟨by decide +kernel, rfl⟩
theorem dc_X7_readsMember_78 : Dc miX7_readsMember 78 (.ireturn) 1 79 := ⟨by decide +kernel, rfl⟩
def fX7_readsMember (N : Nat) (G : pG) (a0 : Nat) (a1 : Nat) (a2 : Int32) (σ : pS) : Option (Int32 × pS) := if (σ.1 (pR G a1 0) 4) < (6 : Int32) then ((fX9_advance N G a0 σ).bind (fun q1 => (fX9_passNumber N G a0 (0 : Int32) ((q1.1 (pR G a1 0) 2) - (1 : Int32)) q1).bind (fun q2 => if q2.1 = (-1 : Int32) then (some ((0 : Int32), q2.2)) else ((fX3_setHabit N G (pR G a1 2) (σ.1 (pR G a1 0) 4) q2.1 (putF q2.2 (pR G a1 2) 4 ((q2.2.1 (pR G a1 2) 4) ||| ((1 : Int32) <<< ((σ.1 (pR G a1 0) 4) &&& 31))))).bind (fun q3 => (fX8_addMember N G (pR G a1 0) a2 q3).bind (fun q4 => some ((1 : Int32), q4))))))) else (some ((0 : Int32), σ))
set_option maxRecDepth 100000 in
set_option maxHeartbeats 4000000 in
theorem tX7_readsMember {N : Nat} {G : pG} {SK : Nat → Nat} {a0 : Nat} {a1 : Nat} {a2 : Int32} {σ : pS} {r : Int32 × pS} (hW : WT G) (i0 : Is G a0 8) (i1 : Is G a1 9) (h : fX7_readsMember N G a0 a1 a2 σ = some r) : Dn miX7_readsMember yX7_readsMember 4 G SK [.ref a0, .ref a1, .int a2] σ (some (.int r.1)) r.2 := by
  unfold fX7_readsMember at h
  refine dn_of (lv := [some (.ref a0), some (.ref a1), some (.int a2), none, none]) (by decide) rfl rfl (Nat.le_of_ble_eq_true rfl) rfl ?_
  refine ev_aload_n dc_X7_readsMember_0 rfl ?_
  refine ev_getR dc_X7_readsMember_1 fi_X7_39 rfl i1 ?_
  refine ev_getI dc_X7_readsMember_4 fi_X7_131 rfl (wt hW i1 0 rfl rfl) ?_
  refine ev_istore_n (lv' := [some (.ref a0), some (.ref a1), some (.int a2), some (.int (σ.1 (pR G a1 0) 4)), none]) dc_X7_readsMember_7 rfl (by decide) rfl ?_
  refine ev_iload_n dc_X7_readsMember_8 rfl ?_
  refine ev_bipush (v := 6) dc_X7_readsMember_9 (by decide) ?_
  refine ev_icmp_lt (tgt := 16) dc_X7_readsMember_11 (by decide) h (fun h => ?_) (fun h => ?_)
  · refine ev_aload_n dc_X7_readsMember_16 rfl ?_
    obtain ⟨q1, hq1, h⟩ := Option.bind_eq_some_iff.mp h
    refine ev_callV (av := []) (st := []) (st1 := []) dc_X7_readsMember_17 (tX9_advance hW i0 hq1) mw_760 cy_X9_advance i0 (by decide) rfl rfl rfl rfl (Nat.le_of_ble_eq_true rfl) (Nat.le_of_ble_eq_true rfl) ⟨Nat.le_refl _, Nat.le_refl _⟩ ?_
    refine ev_aload_n dc_X7_readsMember_20 rfl ?_
    refine ev_iconst (v := 0) dc_X7_readsMember_21 (by decide) ?_
    refine ev_aload_n dc_X7_readsMember_22 rfl ?_
    refine ev_getR dc_X7_readsMember_23 fi_X7_39 rfl i1 ?_
    refine ev_getI dc_X7_readsMember_26 fi_X7_112 rfl (wt hW i1 0 rfl rfl) ?_
    refine ev_iconst (v := 1) dc_X7_readsMember_29 (by decide) ?_
    refine ev_isub dc_X7_readsMember_30 ?_
    obtain ⟨q2, hq2, h⟩ := Option.bind_eq_some_iff.mp h
    refine ev_callV (av := [.int (0 : Int32), .int ((q1.1 (pR G a1 0) 2) - (1 : Int32))]) (st := []) (st1 := [.int q2.1]) dc_X7_readsMember_31 (tX9_passNumber hW i0 hq2) mw_772 cy_X9_passNumber i0 (by decide) rfl rfl rfl rfl (Nat.le_of_ble_eq_true rfl) (Nat.le_of_ble_eq_true rfl) ⟨Nat.le_refl _, Nat.le_refl _⟩ ?_
    refine ev_istore (lv' := [some (.ref a0), some (.ref a1), some (.int a2), some (.int (σ.1 (pR G a1 0) 4)), some (.int q2.1)]) dc_X7_readsMember_34 rfl (by decide) rfl ?_
    refine ev_iload dc_X7_readsMember_36 rfl ?_
    refine ev_iconst (v := (-1)) dc_X7_readsMember_38 (by decide) ?_
    refine ev_icmp_ne (tgt := 44) dc_X7_readsMember_39 (by decide) h (fun h => ?_) (fun h => ?_)
    · refine ev_iconst (v := 0) dc_X7_readsMember_42 (by decide) ?_
      cases h
      exact ev_zretc dc_X7_readsMember_43 rfl rfl rfl rfl
    · refine ev_aload_n dc_X7_readsMember_44 rfl ?_
      refine ev_getR dc_X7_readsMember_45 fi_X7_91 rfl i1 ?_
      refine ev_dup dc_X7_readsMember_48 rfl ?_
      refine ev_getI dc_X7_readsMember_49 fi_X7_134 rfl (wt hW i1 2 rfl rfl) ?_
      refine ev_iconst (v := 1) dc_X7_readsMember_52 (by decide) ?_
      refine ev_iload_n dc_X7_readsMember_53 rfl ?_
      refine ev_ishl dc_X7_readsMember_54 ?_
      refine ev_ior dc_X7_readsMember_55 ?_
      refine ev_putI dc_X7_readsMember_56 fi_X7_134 rfl (wt hW i1 2 rfl rfl) ?_
      refine ev_aload_n dc_X7_readsMember_59 rfl ?_
      refine ev_getR dc_X7_readsMember_60 fi_X7_91 rfl i1 ?_
      refine ev_iload_n dc_X7_readsMember_63 rfl ?_
      refine ev_iload dc_X7_readsMember_64 rfl ?_
      obtain ⟨q3, hq3, h⟩ := Option.bind_eq_some_iff.mp h
      refine ev_callV (av := [.int (σ.1 (pR G a1 0) 4), .int q2.1]) (st := []) (st1 := []) dc_X7_readsMember_66 (tX3_setHabit hW (wt hW i1 2 rfl rfl) hq3) mw_811 cy_X3_setHabit (wt hW i1 2 rfl rfl) (by decide) rfl rfl rfl rfl (Nat.le_of_ble_eq_true rfl) (Nat.le_of_ble_eq_true rfl) ⟨Nat.le_refl _, Nat.le_refl _⟩ ?_
      refine ev_aload_n dc_X7_readsMember_69 rfl ?_
      refine ev_getR dc_X7_readsMember_70 fi_X7_39 rfl i1 ?_
      refine ev_iload_n dc_X7_readsMember_73 rfl ?_
      obtain ⟨q4, hq4, h⟩ := Option.bind_eq_some_iff.mp h
      refine ev_callV (av := [.int a2]) (st := []) (st1 := []) dc_X7_readsMember_74 (tX8_addMember hW (wt hW i1 0 rfl rfl) hq4) mw_815 cy_X8_addMember (wt hW i1 0 rfl rfl) (by decide) rfl rfl rfl rfl (Nat.le_of_ble_eq_true rfl) (Nat.le_of_ble_eq_true rfl) ⟨Nat.le_refl _, Nat.le_refl _⟩ ?_
      refine ev_iconst (v := 1) dc_X7_readsMember_77 (by decide) ?_
      cases h
      exact ev_zretc dc_X7_readsMember_78 rfl rfl rfl rfl
  · refine ev_iconst (v := 0) dc_X7_readsMember_14 (by decide) ?_
    cases h
    exact ev_zretc dc_X7_readsMember_15 rfl rfl rfl rfl
theorem dc_X7_readsName_0 : Dc miX7_readsName 0 (.aload_n 1) 1 1 := ⟨by decide +kernel, rfl⟩
theorem dc_X7_readsName_1 : Dc miX7_readsName 1 (.getfield 39) 3 4 := ⟨by decide +kernel, rfl⟩
theorem dc_X7_readsName_4 : Dc miX7_readsName 4 (.getfield 70) 3 7 := ⟨by decide +kernel, rfl⟩
theorem dc_X7_readsName_7 : Dc miX7_readsName 7 (.bipush 10) 2 9 := ⟨by decide +kernel, rfl⟩
theorem dc_X7_readsName_9 : Dc miX7_readsName 9 (.if_icmp .lt 5) 3 12 := ⟨by decide +kernel, rfl⟩
theorem dc_X7_readsName_12 : Dc miX7_readsName 12 (.iconst 0) 1 13 := ⟨by decide +kernel, rfl⟩
theorem dc_X7_readsName_13 : Dc miX7_readsName 13 (.ireturn) 1 14 := ⟨by decide +kernel, rfl⟩
theorem dc_X7_readsName_14 : Dc miX7_readsName 14 (.aload_n 0) 1 15 := ⟨by decide +kernel, rfl⟩
theorem dc_X7_readsName_15 : Dc miX7_readsName 15 (.invokevirtual 75) 3 18 := ⟨by decide +kernel, rfl⟩
theorem dc_X7_readsName_18 : Dc miX7_readsName 18 (.aload_n 0) 1 19 := ⟨by decide +kernel, rfl⟩
theorem dc_X7_readsName_19 : Dc miX7_readsName 19 (.invokevirtual 78) 3 22 := ⟨by decide +kernel, rfl⟩
theorem dc_X7_readsName_22 : Dc miX7_readsName 22 (.istore_n 2) 1 23 := ⟨by decide +kernel, rfl⟩
theorem dc_X7_readsName_23 : Dc miX7_readsName 23 (.iload_n 2) 1 24 := ⟨by decide +kernel, rfl⟩
theorem dc_X7_readsName_24 : Dc miX7_readsName 24 (.iconst (-1)) 1 25 := ⟨by decide +kernel, rfl⟩
theorem dc_X7_readsName_25 : Dc miX7_readsName 25 (.if_icmp .eq 12) 3 28 := ⟨by decide +kernel, rfl⟩
theorem dc_X7_readsName_28 : Dc miX7_readsName 28 (.aload_n 0) 1 29 := ⟨by decide +kernel, rfl⟩
theorem dc_X7_readsName_29 : Dc miX7_readsName 29 (.ldc 82) 2 31 := ⟨by decide +kernel, rfl⟩
theorem dc_X7_readsName_31 : Dc miX7_readsName 31 (.invokevirtual 84) 3 34 := ⟨by decide +kernel, rfl⟩
theorem dc_X7_readsName_34 : Dc miX7_readsName 34 (.ifCond .ne 5) 3 37 := ⟨by decide +kernel, rfl⟩
theorem dc_X7_readsName_37 : Dc miX7_readsName 37 (.iconst 0) 1 38 := ⟨by decide +kernel, rfl⟩
theorem dc_X7_readsName_38 : Dc miX7_readsName 38 (.ireturn) 1 39 := ⟨by decide +kernel, rfl⟩
theorem dc_X7_readsName_39 : Dc miX7_readsName 39 (.aload_n 0) 1 40 := ⟨by decide +kernel, rfl⟩
theorem dc_X7_readsName_40 : Dc miX7_readsName 40 (.iconst 1) 1 41 := ⟨by decide +kernel, rfl⟩
theorem dc_X7_readsName_41 : Dc miX7_readsName 41 (.bipush 9) 2 43 := ⟨by decide +kernel, rfl⟩
theorem dc_X7_readsName_43 : Dc miX7_readsName 43 (.invokevirtual 87) 3 46 := ⟨by decide +kernel, rfl⟩
theorem dc_X7_readsName_46 : Dc miX7_readsName 46 (.istore_n 3) 1 47 := ⟨by decide +kernel, rfl⟩
theorem dc_X7_readsName_47 : Dc miX7_readsName 47 (.iload_n 3) 1 48 := ⟨by decide +kernel, rfl⟩
theorem dc_X7_readsName_48 : Dc miX7_readsName 48 (.iconst (-1)) 1 49 := ⟨by decide +kernel, rfl⟩
theorem dc_X7_readsName_49 : Dc miX7_readsName 49 (.if_icmp .ne 5) 3 52 := ⟨by decide +kernel, rfl⟩
theorem dc_X7_readsName_52 : Dc miX7_readsName 52 (.iconst 0) 1 53 := ⟨by decide +kernel, rfl⟩
theorem dc_X7_readsName_53 : Dc miX7_readsName 53 (.ireturn) 1 54 := ⟨by decide +kernel, rfl⟩
theorem dc_X7_readsName_54 : Dc miX7_readsName 54 (.aload_n 1) 1 55 := ⟨by decide +kernel, rfl⟩
theorem dc_X7_readsName_55 : Dc miX7_readsName 55 (.getfield 91) 3 58 := ⟨by decide +kernel, rfl⟩
theorem dc_X7_readsName_58 : Dc miX7_readsName 58 (.dup) 1 59 := ⟨by decide +kernel, rfl⟩
theorem dc_X7_readsName_59 : Dc miX7_readsName 59 (.getfield 95) 3 62 := ⟨by decide +kernel, rfl⟩
theorem dc_X7_readsName_62 : Dc miX7_readsName 62 (.iconst 1) 1 63 := ⟨by decide +kernel, rfl⟩
theorem dc_X7_readsName_63 : Dc miX7_readsName 63 (.aload_n 1) 1 64 := ⟨by decide +kernel, rfl⟩
theorem dc_X7_readsName_64 : Dc miX7_readsName 64 (.getfield 39) 3 67 := ⟨by decide +kernel, rfl⟩
theorem dc_X7_readsName_67 : Dc miX7_readsName 67 (.getfield 70) 3 70 := ⟨by decide +kernel, rfl⟩
theorem dc_X7_readsName_70 : Dc miX7_readsName 70 (.ishl) 1 71 := ⟨by decide +kernel, rfl⟩
theorem dc_X7_readsName_71 : Dc miX7_readsName 71 (.ior) 1 72 := ⟨by decide +kernel, rfl⟩
theorem dc_X7_readsName_72 : Dc miX7_readsName 72 (.putfield 95) 3 75 := ⟨by decide +kernel, rfl⟩
theorem dc_X7_readsName_75 : Dc miX7_readsName 75 (.aload_n 1) 1 76 := ⟨by decide +kernel, rfl⟩
theorem dc_X7_readsName_76 : Dc miX7_readsName 76 (.getfield 91) 3 79 := ⟨by decide +kernel, rfl⟩
theorem dc_X7_readsName_79 : Dc miX7_readsName 79 (.iconst 0) 1 80 := ⟨by decide +kernel, rfl⟩
theorem dc_X7_readsName_80 : Dc miX7_readsName 80 (.aload_n 1) 1 81 := ⟨by decide +kernel, rfl⟩
theorem dc_X7_readsName_81 : Dc miX7_readsName 81 (.getfield 91) 3 84 := ⟨by decide +kernel, rfl⟩
theorem dc_X7_readsName_84 : Dc miX7_readsName 84 (.getfield 100) 3 87 := ⟨by decide +kernel, rfl⟩
theorem dc_X7_readsName_87 : Dc miX7_readsName 87 (.invokestatic 103) 3 90 := ⟨by decide +kernel, rfl⟩
theorem dc_X7_readsName_90 : Dc miX7_readsName 90 (.putfield 100) 3 93 := ⟨by decide +kernel, rfl⟩
theorem dc_X7_readsName_93 : Dc miX7_readsName 93 (.aload_n 1) 1 94 := ⟨by decide +kernel, rfl⟩
theorem dc_X7_readsName_94 : Dc miX7_readsName 94 (.getfield 39) 3 97 := ⟨by decide +kernel, rfl⟩
theorem dc_X7_readsName_97 : Dc miX7_readsName 97 (.iload_n 2) 1 98 := ⟨by decide +kernel, rfl⟩
theorem dc_X7_readsName_98 : Dc miX7_readsName 98 (.iload_n 3) 1 99 := ⟨by decide +kernel, rfl⟩
theorem dc_X7_readsName_99 : Dc miX7_readsName 99 (.invokevirtual 108) 3 102 := ⟨by decide +kernel, rfl⟩
theorem dc_X7_readsName_102 : Dc miX7_readsName 102 (.iconst 1) 1 103 := ⟨by decide +kernel, rfl⟩
theorem dc_X7_readsName_103 : Dc miX7_readsName 103 (.ireturn) 1 104 := ⟨by decide +kernel, rfl⟩
def fX7_readsName (N : Nat) (G : pG) (a0 : Nat) (a1 : Nat) (σ : pS) : Option (Int32 × pS) := if (σ.1 (pR G a1 0) 1) < (10 : Int32) then ((fX9_advance N G a0 σ).bind (fun q1 => (fX9_passLetters N G a0 q1).bind (fun q2 => if q2.1 = (-1 : Int32) then (some ((0 : Int32), q2.2)) else ((fX9_passWord N G a0 1 q2.2).bind (fun q3 => if q3.1 = 0 then (some ((0 : Int32), q3.2)) else ((fX9_passNumber N G a0 (1 : Int32) (9 : Int32) q3.2).bind (fun q4 => if q4.1 = (-1 : Int32) then (some ((0 : Int32), q4.2)) else ((fX8_addName N G (pR G a1 0) q2.1 q4.1 (putF (putF q4.2 (pR G a1 2) 3 ((q4.2.1 (pR G a1 2) 3) ||| ((1 : Int32) <<< ((q4.2.1 (pR G a1 0) 1) &&& 31)))) (pR G a1 2) 2 (jmax (0 : Int32) ((putF q4.2 (pR G a1 2) 3 ((q4.2.1 (pR G a1 2) 3) ||| ((1 : Int32) <<< ((q4.2.1 (pR G a1 0) 1) &&& 31)))).1 (pR G a1 2) 2)))).bind (fun q5 => some ((1 : Int32), q5)))))))))) else (some ((0 : Int32), σ))
set_option maxRecDepth 100000 in
set_option maxHeartbeats 4000000 in
theorem tX7_readsName {N : Nat} {G : pG} {SK : Nat → Nat} {a0 : Nat} {a1 : Nat} {σ : pS} {r : Int32 × pS} (hW : WT G) (i0 : Is G a0 8) (i1 : Is G a1 9) (h : fX7_readsName N G a0 a1 σ = some r) : Dn miX7_readsName yX7_readsName 11 G SK [.ref a0, .ref a1] σ (some (.int r.1)) r.2 := by
  unfold fX7_readsName at h
  refine dn_of (lv := [some (.ref a0), some (.ref a1), none, none]) (by decide) rfl rfl (Nat.le_of_ble_eq_true rfl) rfl ?_
  refine ev_aload_n dc_X7_readsName_0 rfl ?_
  refine ev_getR dc_X7_readsName_1 fi_X7_39 rfl i1 ?_
  refine ev_getI dc_X7_readsName_4 fi_X7_70 rfl (wt hW i1 0 rfl rfl) ?_
  refine ev_bipush (v := 10) dc_X7_readsName_7 (by decide) ?_
  refine ev_icmp_lt (tgt := 14) dc_X7_readsName_9 (by decide) h (fun h => ?_) (fun h => ?_)
  · refine ev_aload_n dc_X7_readsName_14 rfl ?_
    obtain ⟨q1, hq1, h⟩ := Option.bind_eq_some_iff.mp h
    refine ev_callV (av := []) (st := []) (st1 := []) dc_X7_readsName_15 (tX9_advance hW i0 hq1) mw_760 cy_X9_advance i0 (by decide) rfl rfl rfl rfl (Nat.le_of_ble_eq_true rfl) (Nat.le_of_ble_eq_true rfl) ⟨Nat.le_refl _, Nat.le_refl _⟩ ?_
    refine ev_aload_n dc_X7_readsName_18 rfl ?_
    obtain ⟨q2, hq2, h⟩ := Option.bind_eq_some_iff.mp h
    refine ev_callV (av := []) (st := []) (st1 := [.int q2.1]) dc_X7_readsName_19 (tX9_passLetters hW i0 hq2) mw_761 cy_X9_passLetters i0 (by decide) rfl rfl rfl rfl (Nat.le_of_ble_eq_true rfl) (Nat.le_of_ble_eq_true rfl) ⟨Nat.le_refl _, Nat.le_refl _⟩ ?_
    refine ev_istore_n (lv' := [some (.ref a0), some (.ref a1), some (.int q2.1), none]) dc_X7_readsName_22 rfl (by decide) rfl ?_
    refine ev_iload_n dc_X7_readsName_23 rfl ?_
    refine ev_iconst (v := (-1)) dc_X7_readsName_24 (by decide) ?_
    refine ev_icmp_eq (tgt := 37) dc_X7_readsName_25 (by decide) h (fun h => ?_) (fun h => ?_)
    · refine ev_iconst (v := 0) dc_X7_readsName_37 (by decide) ?_
      cases h
      exact ev_zretc dc_X7_readsName_38 rfl rfl rfl rfl
    · refine ev_aload_n dc_X7_readsName_28 rfl ?_
      refine ev_ldcS (sid := 1) (tx := "credit") dc_X7_readsName_29 (List.mem_of_getElem? (i := 1) rfl) ?_
      obtain ⟨q3, hq3, h⟩ := Option.bind_eq_some_iff.mp h
      refine ev_callV (av := [.ref (SK 1)]) (st := []) (st1 := [.int q3.1]) dc_X7_readsName_31 (tX9_passWord hW i0 rfl hq3) mw_767 cy_X9_passWord i0 (by decide) rfl rfl rfl rfl (Nat.le_of_ble_eq_true rfl) (Nat.le_of_ble_eq_true rfl) ⟨Nat.le_refl _, Nat.le_refl _⟩ ?_
      refine ev_if_ne (tgt := 39) dc_X7_readsName_34 (by decide) h (fun h => ?_) (fun h => ?_)
      · refine ev_iconst (v := 0) dc_X7_readsName_37 (by decide) ?_
        cases h
        exact ev_zretc dc_X7_readsName_38 rfl rfl rfl rfl
      · refine ev_aload_n dc_X7_readsName_39 rfl ?_
        refine ev_iconst (v := 1) dc_X7_readsName_40 (by decide) ?_
        refine ev_bipush (v := 9) dc_X7_readsName_41 (by decide) ?_
        obtain ⟨q4, hq4, h⟩ := Option.bind_eq_some_iff.mp h
        refine ev_callV (av := [.int (1 : Int32), .int (9 : Int32)]) (st := []) (st1 := [.int q4.1]) dc_X7_readsName_43 (tX9_passNumber hW i0 hq4) mw_772 cy_X9_passNumber i0 (by decide) rfl rfl rfl rfl (Nat.le_of_ble_eq_true rfl) (Nat.le_of_ble_eq_true rfl) ⟨Nat.le_refl _, Nat.le_refl _⟩ ?_
        refine ev_istore_n (lv' := [some (.ref a0), some (.ref a1), some (.int q2.1), some (.int q4.1)]) dc_X7_readsName_46 rfl (by decide) rfl ?_
        refine ev_iload_n dc_X7_readsName_47 rfl ?_
        refine ev_iconst (v := (-1)) dc_X7_readsName_48 (by decide) ?_
        refine ev_icmp_ne (tgt := 54) dc_X7_readsName_49 (by decide) h (fun h => ?_) (fun h => ?_)
        · refine ev_iconst (v := 0) dc_X7_readsName_52 (by decide) ?_
          cases h
          exact ev_zretc dc_X7_readsName_53 rfl rfl rfl rfl
        · refine ev_aload_n dc_X7_readsName_54 rfl ?_
          refine ev_getR dc_X7_readsName_55 fi_X7_91 rfl i1 ?_
          refine ev_dup dc_X7_readsName_58 rfl ?_
          refine ev_getI dc_X7_readsName_59 fi_X7_95 rfl (wt hW i1 2 rfl rfl) ?_
          refine ev_iconst (v := 1) dc_X7_readsName_62 (by decide) ?_
          refine ev_aload_n dc_X7_readsName_63 rfl ?_
          refine ev_getR dc_X7_readsName_64 fi_X7_39 rfl i1 ?_
          refine ev_getI dc_X7_readsName_67 fi_X7_70 rfl (wt hW i1 0 rfl rfl) ?_
          refine ev_ishl dc_X7_readsName_70 ?_
          refine ev_ior dc_X7_readsName_71 ?_
          refine ev_putI dc_X7_readsName_72 fi_X7_95 rfl (wt hW i1 2 rfl rfl) ?_
          refine ev_aload_n dc_X7_readsName_75 rfl ?_
          refine ev_getR dc_X7_readsName_76 fi_X7_91 rfl i1 ?_
          refine ev_iconst (v := 0) dc_X7_readsName_79 (by decide) ?_
          refine ev_aload_n dc_X7_readsName_80 rfl ?_
          refine ev_getR dc_X7_readsName_81 fi_X7_91 rfl i1 ?_
          refine ev_getI dc_X7_readsName_84 fi_X7_100 rfl (wt hW i1 2 rfl rfl) ?_
          refine ev_max dc_X7_readsName_87 mw_780 (Nat.le_of_ble_eq_true rfl) (Nat.le_of_ble_eq_true rfl) ⟨Nat.le_refl _, Nat.le_refl _⟩ ?_
          refine ev_putI dc_X7_readsName_90 fi_X7_100 rfl (wt hW i1 2 rfl rfl) ?_
          refine ev_aload_n dc_X7_readsName_93 rfl ?_
          refine ev_getR dc_X7_readsName_94 fi_X7_39 rfl i1 ?_
          refine ev_iload_n dc_X7_readsName_97 rfl ?_
          refine ev_iload_n dc_X7_readsName_98 rfl ?_
          obtain ⟨q5, hq5, h⟩ := Option.bind_eq_some_iff.mp h
          refine ev_callV (av := [.int q2.1, .int q4.1]) (st := []) (st1 := []) dc_X7_readsName_99 (tX8_addName hW (wt hW i1 0 rfl rfl) hq5) mw_781 cy_X8_addName (wt hW i1 0 rfl rfl) (by decide) rfl rfl rfl rfl (Nat.le_of_ble_eq_true rfl) (Nat.le_of_ble_eq_true rfl) ⟨Nat.le_refl _, Nat.le_refl _⟩ ?_
          refine ev_iconst (v := 1) dc_X7_readsName_102 (by decide) ?_
          cases h
          exact ev_zretc dc_X7_readsName_103 rfl rfl rfl rfl
  · refine ev_iconst (v := 0) dc_X7_readsName_12 (by decide) ?_
    cases h
    exact ev_zretc dc_X7_readsName_13 rfl rfl rfl rfl
theorem dc_X7_readsSetting_0 : Dc miX7_readsSetting 0 (.iconst (-1)) 1 1 := ⟨by decide +kernel, rfl⟩
theorem dc_X7_readsSetting_1 : Dc miX7_readsSetting 1 (.istore_n 2) 1 2 := ⟨by decide +kernel, rfl⟩
theorem dc_X7_readsSetting_2 : Dc miX7_readsSetting 2 (.aload_n 0) 1 3 := ⟨by decide +kernel, rfl⟩
theorem dc_X7_readsSetting_3 : Dc miX7_readsSetting 3 (.ldc 150) 2 5 := ⟨by decide +kernel, rfl⟩
theorem dc_X7_readsSetting_5 : Dc miX7_readsSetting 5 (.invokevirtual 84) 3 8 := ⟨by decide +kernel, rfl⟩
theorem dc_X7_readsSetting_8 : Dc miX7_readsSetting 8 (.ifCond .eq 22) 3 11 := ⟨by decide +kernel, rfl⟩
theorem dc_X7_readsSetting_11 : Dc miX7_readsSetting 11 (.aload_n 0) 1 12 := ⟨by decide +kernel, rfl⟩
theorem dc_X7_readsSetting_12 : Dc miX7_readsSetting 12 (.iconst 1) 1 13 := ⟨by decide +kernel, rfl⟩
theorem dc_X7_readsSetting_13 : Dc miX7_readsSetting 13 (.bipush 99) 2 15 := ⟨by decide +kernel, rfl⟩
theorem dc_X7_readsSetting_15 : Dc miX7_readsSetting 15 (.invokevirtual 87) 3 18 := ⟨by decide +kernel, rfl⟩
theorem dc_X7_readsSetting_18 : Dc miX7_readsSetting 18 (.istore_n 2) 1 19 := ⟨by decide +kernel, rfl⟩
theorem dc_X7_readsSetting_19 : Dc miX7_readsSetting 19 (.aload_n 1) 1 20 := ⟨by decide +kernel, rfl⟩
theorem dc_X7_readsSetting_20 : Dc miX7_readsSetting 20 (.getfield 39) 3 23 := ⟨by decide +kernel, rfl⟩
theorem dc_X7_readsSetting_23 : Dc miX7_readsSetting 23 (.iload_n 2) 1 24 := ⟨by decide +kernel, rfl⟩
theorem dc_X7_readsSetting_24 : Dc miX7_readsSetting 24 (.putfield 152) 3 27 := ⟨by decide +kernel, rfl⟩
theorem dc_X7_readsSetting_27 : Dc miX7_readsSetting 27 (.goto 132) 3 30 := ⟨by decide +kernel, rfl⟩
theorem dc_X7_readsSetting_30 : Dc miX7_readsSetting 30 (.aload_n 0) 1 31 := ⟨by decide +kernel, rfl⟩
theorem dc_X7_readsSetting_31 : Dc miX7_readsSetting 31 (.ldc 154) 2 33 := ⟨by decide +kernel, rfl⟩
theorem dc_X7_readsSetting_33 : Dc miX7_readsSetting 33 (.invokevirtual 84) 3 36 := ⟨by decide +kernel, rfl⟩
theorem dc_X7_readsSetting_36 : Dc miX7_readsSetting 36 (.ifCond .eq 23) 3 39 := ⟨by decide +kernel, rfl⟩
theorem dc_X7_readsSetting_39 : Dc miX7_readsSetting 39 (.aload_n 0) 1 40 := ⟨by decide +kernel, rfl⟩
theorem dc_X7_readsSetting_40 : Dc miX7_readsSetting 40 (.iconst 1) 1 41 := ⟨by decide +kernel, rfl⟩
theorem dc_X7_readsSetting_41 : Dc miX7_readsSetting 41 (.sipush 400) 3 44 := ⟨by decide +kernel, rfl⟩
theorem dc_X7_readsSetting_44 : Dc miX7_readsSetting 44 (.invokevirtual 87) 3 47 := ⟨by decide +kernel, rfl⟩
theorem dc_X7_readsSetting_47 : Dc miX7_readsSetting 47 (.istore_n 2) 1 48 := ⟨by decide +kernel, rfl⟩
theorem dc_X7_readsSetting_48 : Dc miX7_readsSetting 48 (.aload_n 1) 1 49 := ⟨by decide +kernel, rfl⟩
theorem dc_X7_readsSetting_49 : Dc miX7_readsSetting 49 (.getfield 39) 3 52 := ⟨by decide +kernel, rfl⟩
theorem dc_X7_readsSetting_52 : Dc miX7_readsSetting 52 (.iload_n 2) 1 53 := ⟨by decide +kernel, rfl⟩
theorem dc_X7_readsSetting_53 : Dc miX7_readsSetting 53 (.putfield 156) 3 56 := ⟨by decide +kernel, rfl⟩
theorem dc_X7_readsSetting_56 : Dc miX7_readsSetting 56 (.goto 103) 3 59 := ⟨by decide +kernel, rfl⟩
theorem dc_X7_readsSetting_59 : Dc miX7_readsSetting 59 (.aload_n 0) 1 60 := ⟨by decide +kernel, rfl⟩
theorem dc_X7_readsSetting_60 : Dc miX7_readsSetting 60 (.ldc 158) 2 62 := ⟨by decide +kernel, rfl⟩
theorem dc_X7_readsSetting_62 : Dc miX7_readsSetting 62 (.invokevirtual 84) 3 65 := ⟨by decide +kernel, rfl⟩
theorem dc_X7_readsSetting_65 : Dc miX7_readsSetting 65 (.ifCond .eq 22) 3 68 := ⟨by decide +kernel, rfl⟩
theorem dc_X7_readsSetting_68 : Dc miX7_readsSetting 68 (.aload_n 0) 1 69 := ⟨by decide +kernel, rfl⟩
theorem dc_X7_readsSetting_69 : Dc miX7_readsSetting 69 (.iconst 0) 1 70 := ⟨by decide +kernel, rfl⟩
theorem dc_X7_readsSetting_70 : Dc miX7_readsSetting 70 (.bipush 100) 2 72 := ⟨by decide +kernel, rfl⟩
theorem dc_X7_readsSetting_72 : Dc miX7_readsSetting 72 (.invokevirtual 87) 3 75 := ⟨by decide +kernel, rfl⟩
theorem dc_X7_readsSetting_75 : Dc miX7_readsSetting 75 (.istore_n 2) 1 76 := ⟨by decide +kernel, rfl⟩
theorem dc_X7_readsSetting_76 : Dc miX7_readsSetting 76 (.aload_n 1) 1 77 := ⟨by decide +kernel, rfl⟩
theorem dc_X7_readsSetting_77 : Dc miX7_readsSetting 77 (.getfield 39) 3 80 := ⟨by decide +kernel, rfl⟩
theorem dc_X7_readsSetting_80 : Dc miX7_readsSetting 80 (.iload_n 2) 1 81 := ⟨by decide +kernel, rfl⟩
theorem dc_X7_readsSetting_81 : Dc miX7_readsSetting 81 (.putfield 160) 3 84 := ⟨by decide +kernel, rfl⟩
theorem dc_X7_readsSetting_84 : Dc miX7_readsSetting 84 (.goto 75) 3 87 := ⟨by decide +kernel, rfl⟩
theorem dc_X7_readsSetting_87 : Dc miX7_readsSetting 87 (.aload_n 0) 1 88 := ⟨by decide +kernel, rfl⟩
theorem dc_X7_readsSetting_88 : Dc miX7_readsSetting 88 (.ldc 162) 2 90 := ⟨by decide +kernel, rfl⟩
theorem dc_X7_readsSetting_90 : Dc miX7_readsSetting 90 (.invokevirtual 84) 3 93 := ⟨by decide +kernel, rfl⟩
theorem dc_X7_readsSetting_93 : Dc miX7_readsSetting 93 (.ifCond .eq 22) 3 96 := ⟨by decide +kernel, rfl⟩
theorem dc_X7_readsSetting_96 : Dc miX7_readsSetting 96 (.aload_n 0) 1 97 := ⟨by decide +kernel, rfl⟩
theorem dc_X7_readsSetting_97 : Dc miX7_readsSetting 97 (.iconst 0) 1 98 := ⟨by decide +kernel, rfl⟩
theorem dc_X7_readsSetting_98 : Dc miX7_readsSetting 98 (.bipush 99) 2 100 := ⟨by decide +kernel, rfl⟩
theorem dc_X7_readsSetting_100 : Dc miX7_readsSetting 100 (.invokevirtual 87) 3 103 := ⟨by decide +kernel, rfl⟩
theorem dc_X7_readsSetting_103 : Dc miX7_readsSetting 103 (.istore_n 2) 1 104 := ⟨by decide +kernel, rfl⟩
theorem dc_X7_readsSetting_104 : Dc miX7_readsSetting 104 (.aload_n 1) 1 105 := ⟨by decide +kernel, rfl⟩
theorem dc_X7_readsSetting_105 : Dc miX7_readsSetting 105 (.getfield 91) 3 108 := ⟨by decide +kernel, rfl⟩
theorem dc_X7_readsSetting_108 : Dc miX7_readsSetting 108 (.iload_n 2) 1 109 := ⟨by decide +kernel, rfl⟩
theorem dc_X7_readsSetting_109 : Dc miX7_readsSetting 109 (.putfield 164) 3 112 := ⟨by decide +kernel, rfl⟩
theorem dc_X7_readsSetting_112 : Dc miX7_readsSetting 112 (.goto 47) 3 115 := ⟨by decide +kernel, rfl⟩
theorem dc_X7_readsSetting_115 : Dc miX7_readsSetting 115 (.aload_n 0) 1 116 := ⟨by decide +kernel, rfl⟩
theorem dc_X7_readsSetting_116 : Dc miX7_readsSetting 116 (.ldc 166) 2 118 := ⟨by decide +kernel, rfl⟩
theorem dc_X7_readsSetting_118 : Dc miX7_readsSetting 118 (.invokevirtual 84) 3 121 := ⟨by decide +kernel, rfl⟩
theorem dc_X7_readsSetting_121 : Dc miX7_readsSetting 121 (.ifCond .eq 38) 3 124 := ⟨by decide +kernel, rfl⟩
theorem dc_X7_readsSetting_124 : Dc miX7_readsSetting 124 (.aload_n 0) 1 125 := ⟨by decide +kernel, rfl⟩
theorem dc_X7_readsSetting_125 : Dc miX7_readsSetting 125 (.iconst 0) 1 126 := ⟨by decide +kernel, rfl⟩
theorem dc_X7_readsSetting_126 : Dc miX7_readsSetting 126 (.aload_n 1) 1 127 := ⟨by decide +kernel, rfl⟩
theorem dc_X7_readsSetting_127 : Dc miX7_readsSetting 127 (.getfield 39) 3 130 := ⟨by decide +kernel, rfl⟩
theorem dc_X7_readsSetting_130 : Dc miX7_readsSetting 130 (.getfield 70) 3 133 := ⟨by decide +kernel, rfl⟩
theorem dc_X7_readsSetting_133 : Dc miX7_readsSetting 133 (.iconst 1) 1 134 := ⟨by decide +kernel, rfl⟩
theorem dc_X7_readsSetting_134 : Dc miX7_readsSetting 134 (.isub) 1 135 := ⟨by decide +kernel, rfl⟩
theorem dc_X7_readsSetting_135 : Dc miX7_readsSetting 135 (.invokevirtual 87) 3 138 := ⟨by decide +kernel, rfl⟩
theorem dc_X7_readsSetting_138 : Dc miX7_readsSetting 138 (.istore_n 2) 1 139 := ⟨by decide +kernel, rfl⟩
theorem dc_X7_readsSetting_139 : Dc miX7_readsSetting 139 (.iload_n 2) 1 140 := ⟨by decide +kernel, rfl⟩
theorem dc_X7_readsSetting_140 : Dc miX7_readsSetting 140 (.iconst (-1)) 1 141 := ⟨by decide +kernel, rfl⟩
theorem dc_X7_readsSetting_141 : Dc miX7_readsSetting 141 (.if_icmp .eq 18) 3 144 := ⟨by decide +kernel, rfl⟩
theorem dc_X7_readsSetting_144 : Dc miX7_readsSetting 144 (.aload_n 1) 1 145 := ⟨by decide +kernel, rfl⟩
theorem dc_X7_readsSetting_145 : Dc miX7_readsSetting 145 (.getfield 91) 3 148 := ⟨by decide +kernel, rfl⟩
theorem dc_X7_readsSetting_148 : Dc miX7_readsSetting 148 (.iload_n 2) 1 149 := ⟨by decide +kernel, rfl⟩
theorem dc_X7_readsSetting_149 : Dc miX7_readsSetting 149 (.aload_n 1) 1 150 := ⟨by decide +kernel, rfl⟩
theorem dc_X7_readsSetting_150 : Dc miX7_readsSetting 150 (.getfield 39) 3 153 := ⟨by decide +kernel, rfl⟩
theorem dc_X7_readsSetting_153 : Dc miX7_readsSetting 153 (.getfield 70) 3 156 := ⟨by decide +kernel, rfl⟩
theorem dc_X7_readsSetting_156 : Dc miX7_readsSetting 156 (.invokevirtual 168) 3 159 := ⟨by decide +kernel, rfl⟩
theorem dc_X7_readsSetting_159 : Dc miX7_readsSetting 159 (.iload_n 2) 1 160 := ⟨by decide +kernel, rfl⟩
theorem dc_X7_readsSetting_160 : Dc miX7_readsSetting 160 (.iconst (-1)) 1 161 := ⟨by decide +kernel, rfl⟩
theorem dc_X7_readsSetting_161 : Dc miX7_readsSetting 161 (.if_icmp .eq 7) 3 164 := ⟨by decide +kernel, rfl⟩
theorem dc_X7_readsSetting_164 : Dc miX7_readsSetting 164 (.iconst 1) 1 165 := ⟨by decide +kernel, rfl⟩
theorem dc_X7_readsSetting_165 : Dc miX7_readsSetting 165 (.goto 4) 3 168 := ⟨by decide +kernel, rfl⟩
theorem dc_X7_readsSetting_168 : Dc miX7_readsSetting 168 (.iconst 0) 1 169 := ⟨by decide +kernel, rfl⟩
theorem dc_X7_readsSetting_169 : Dc miX7_readsSetting 169 (.ireturn) 1 170 := ⟨by decide +kernel, rfl⟩
def fX7_readsSetting_b159 (N : Nat) (G : pG) (x2 : Int32) (σ : pS) : Option (Int32 × pS) := if x2 = (-1 : Int32) then (some ((0 : Int32), σ)) else (some ((1 : Int32), σ))
set_option maxRecDepth 100000 in
set_option maxHeartbeats 4000000 in
theorem tX7_readsSetting_b159 {N : Nat} {G : pG} {SK : Nat → Nat} {x2 : Int32} {σ : pS} {r : Int32 × pS} (hW : WT G) (h : fX7_readsSetting_b159 N G x2 σ = some r) : Ev miX7_readsSetting (11, 0, 0) G (Zp G (some (.int r.1)) r.2) SK (0, 0) 159 [none, none, some (.int x2)] [] σ := by
  unfold fX7_readsSetting_b159 at h
  refine ev_iload_n dc_X7_readsSetting_159 rfl ?_
  refine ev_iconst (v := (-1)) dc_X7_readsSetting_160 (by decide) ?_
  refine ev_icmp_eq (tgt := 168) dc_X7_readsSetting_161 (by decide) h (fun h => ?_) (fun h => ?_)
  · refine ev_iconst (v := 0) dc_X7_readsSetting_168 (by decide) ?_
    cases h
    exact ev_zretc dc_X7_readsSetting_169 rfl rfl rfl rfl
  · refine ev_iconst (v := 1) dc_X7_readsSetting_164 (by decide) ?_
    refine ev_goto (tgt := 169) dc_X7_readsSetting_165 (by decide) ?_
    cases h
    exact ev_zretc dc_X7_readsSetting_169 rfl rfl rfl rfl
def fX7_readsSetting (N : Nat) (G : pG) (a0 : Nat) (a1 : Nat) (σ : pS) : Option (Int32 × pS) := (fX9_passWord N G a0 9 σ).bind (fun q1 => if q1.1 = 0 then ((fX9_passWord N G a0 10 q1.2).bind (fun q2 => if q2.1 = 0 then ((fX9_passWord N G a0 11 q2.2).bind (fun q3 => if q3.1 = 0 then ((fX9_passWord N G a0 12 q3.2).bind (fun q4 => if q4.1 = 0 then ((fX9_passWord N G a0 13 q4.2).bind (fun q5 => if q5.1 = 0 then (fX7_readsSetting_b159 N G (-1 : Int32) q5.2) else ((fX9_passNumber N G a0 (0 : Int32) ((q5.2.1 (pR G a1 0) 1) - (1 : Int32)) q5.2).bind (fun q6 => if q6.1 = (-1 : Int32) then (fX7_readsSetting_b159 N G q6.1 q6.2) else ((fX3_tellBearer N G (pR G a1 2) q6.1 (q6.2.1 (pR G a1 0) 1) q6.2).bind (fun q7 => fX7_readsSetting_b159 N G q6.1 q7)))))) else ((fX9_passNumber N G a0 (0 : Int32) (99 : Int32) q4.2).bind (fun q8 => fX7_readsSetting_b159 N G q8.1 (putF q8.2 (pR G a1 2) 0 q8.1))))) else ((fX9_passNumber N G a0 (0 : Int32) (100 : Int32) q3.2).bind (fun q9 => fX7_readsSetting_b159 N G q9.1 (putF q9.2 (pR G a1 0) 8 q9.1))))) else ((fX9_passNumber N G a0 (1 : Int32) (400 : Int32) q2.2).bind (fun q10 => fX7_readsSetting_b159 N G q10.1 (putF q10.2 (pR G a1 0) 7 q10.1))))) else ((fX9_passNumber N G a0 (1 : Int32) (99 : Int32) q1.2).bind (fun q11 => fX7_readsSetting_b159 N G q11.1 (putF q11.2 (pR G a1 0) 6 q11.1))))
set_option maxRecDepth 100000 in
set_option maxHeartbeats 4000000 in
theorem tX7_readsSetting {N : Nat} {G : pG} {SK : Nat → Nat} {a0 : Nat} {a1 : Nat} {σ : pS} {r : Int32 × pS} (hW : WT G) (i0 : Is G a0 8) (i1 : Is G a1 9) (h : fX7_readsSetting N G a0 a1 σ = some r) : Dn miX7_readsSetting yX7_readsSetting 11 G SK [.ref a0, .ref a1] σ (some (.int r.1)) r.2 := by
  unfold fX7_readsSetting at h
  refine dn_of (lv := [some (.ref a0), some (.ref a1), none]) (by decide) rfl rfl (Nat.le_of_ble_eq_true rfl) rfl ?_
  refine ev_iconst (v := (-1)) dc_X7_readsSetting_0 (by decide) ?_
  refine ev_istore_n (lv' := [some (.ref a0), some (.ref a1), some (.int (-1 : Int32))]) dc_X7_readsSetting_1 rfl (by decide) rfl ?_
  refine ev_aload_n dc_X7_readsSetting_2 rfl ?_
  refine ev_ldcS (sid := 9) (tx := "limit") dc_X7_readsSetting_3 (List.mem_of_getElem? (i := 9) rfl) ?_
  obtain ⟨q1, hq1, h⟩ := Option.bind_eq_some_iff.mp h
  refine ev_callV (av := [.ref (SK 9)]) (st := []) (st1 := [.int q1.1]) dc_X7_readsSetting_5 (tX9_passWord hW i0 rfl hq1) mw_767 cy_X9_passWord i0 (by decide) rfl rfl rfl rfl (Nat.le_of_ble_eq_true rfl) (Nat.le_of_ble_eq_true rfl) ⟨Nat.le_refl _, Nat.le_refl _⟩ ?_
  refine ev_if_eq (tgt := 30) dc_X7_readsSetting_8 (by decide) h (fun h => ?_) (fun h => ?_)
  · refine ev_aload_n dc_X7_readsSetting_30 rfl ?_
    refine ev_ldcS (sid := 10) (tx := "year") dc_X7_readsSetting_31 (List.mem_of_getElem? (i := 10) rfl) ?_
    obtain ⟨q2, hq2, h⟩ := Option.bind_eq_some_iff.mp h
    refine ev_callV (av := [.ref (SK 10)]) (st := []) (st1 := [.int q2.1]) dc_X7_readsSetting_33 (tX9_passWord hW i0 rfl hq2) mw_767 cy_X9_passWord i0 (by decide) rfl rfl rfl rfl (Nat.le_of_ble_eq_true rfl) (Nat.le_of_ble_eq_true rfl) ⟨Nat.le_refl _, Nat.le_refl _⟩ ?_
    refine ev_if_eq (tgt := 59) dc_X7_readsSetting_36 (by decide) h (fun h => ?_) (fun h => ?_)
    · refine ev_aload_n dc_X7_readsSetting_59 rfl ?_
      refine ev_ldcS (sid := 11) (tx := "talk") dc_X7_readsSetting_60 (List.mem_of_getElem? (i := 11) rfl) ?_
      obtain ⟨q3, hq3, h⟩ := Option.bind_eq_some_iff.mp h
      refine ev_callV (av := [.ref (SK 11)]) (st := []) (st1 := [.int q3.1]) dc_X7_readsSetting_62 (tX9_passWord hW i0 rfl hq3) mw_767 cy_X9_passWord i0 (by decide) rfl rfl rfl rfl (Nat.le_of_ble_eq_true rfl) (Nat.le_of_ble_eq_true rfl) ⟨Nat.le_refl _, Nat.le_refl _⟩ ?_
      refine ev_if_eq (tgt := 87) dc_X7_readsSetting_65 (by decide) h (fun h => ?_) (fun h => ?_)
      · refine ev_aload_n dc_X7_readsSetting_87 rfl ?_
        refine ev_ldcS (sid := 12) (tx := "doubt") dc_X7_readsSetting_88 (List.mem_of_getElem? (i := 12) rfl) ?_
        obtain ⟨q4, hq4, h⟩ := Option.bind_eq_some_iff.mp h
        refine ev_callV (av := [.ref (SK 12)]) (st := []) (st1 := [.int q4.1]) dc_X7_readsSetting_90 (tX9_passWord hW i0 rfl hq4) mw_767 cy_X9_passWord i0 (by decide) rfl rfl rfl rfl (Nat.le_of_ble_eq_true rfl) (Nat.le_of_ble_eq_true rfl) ⟨Nat.le_refl _, Nat.le_refl _⟩ ?_
        refine ev_if_eq (tgt := 115) dc_X7_readsSetting_93 (by decide) h (fun h => ?_) (fun h => ?_)
        · refine ev_aload_n dc_X7_readsSetting_115 rfl ?_
          refine ev_ldcS (sid := 13) (tx := "his") dc_X7_readsSetting_116 (List.mem_of_getElem? (i := 13) rfl) ?_
          obtain ⟨q5, hq5, h⟩ := Option.bind_eq_some_iff.mp h
          refine ev_callV (av := [.ref (SK 13)]) (st := []) (st1 := [.int q5.1]) dc_X7_readsSetting_118 (tX9_passWord hW i0 rfl hq5) mw_767 cy_X9_passWord i0 (by decide) rfl rfl rfl rfl (Nat.le_of_ble_eq_true rfl) (Nat.le_of_ble_eq_true rfl) ⟨Nat.le_refl _, Nat.le_refl _⟩ ?_
          refine ev_if_eq (tgt := 159) dc_X7_readsSetting_121 (by decide) h (fun h => ?_) (fun h => ?_)
          · exact ev_sub (tX7_readsSetting_b159 hW h) (And.intro rfl trivial)
          · refine ev_aload_n dc_X7_readsSetting_124 rfl ?_
            refine ev_iconst (v := 0) dc_X7_readsSetting_125 (by decide) ?_
            refine ev_aload_n dc_X7_readsSetting_126 rfl ?_
            refine ev_getR dc_X7_readsSetting_127 fi_X7_39 rfl i1 ?_
            refine ev_getI dc_X7_readsSetting_130 fi_X7_70 rfl (wt hW i1 0 rfl rfl) ?_
            refine ev_iconst (v := 1) dc_X7_readsSetting_133 (by decide) ?_
            refine ev_isub dc_X7_readsSetting_134 ?_
            obtain ⟨q6, hq6, h⟩ := Option.bind_eq_some_iff.mp h
            refine ev_callV (av := [.int (0 : Int32), .int ((q5.2.1 (pR G a1 0) 1) - (1 : Int32))]) (st := []) (st1 := [.int q6.1]) dc_X7_readsSetting_135 (tX9_passNumber hW i0 hq6) mw_772 cy_X9_passNumber i0 (by decide) rfl rfl rfl rfl (Nat.le_of_ble_eq_true rfl) (Nat.le_of_ble_eq_true rfl) ⟨Nat.le_refl _, Nat.le_refl _⟩ ?_
            refine ev_istore_n (lv' := [some (.ref a0), some (.ref a1), some (.int q6.1)]) dc_X7_readsSetting_138 rfl (by decide) rfl ?_
            refine ev_iload_n dc_X7_readsSetting_139 rfl ?_
            refine ev_iconst (v := (-1)) dc_X7_readsSetting_140 (by decide) ?_
            refine ev_icmp_eq (tgt := 159) dc_X7_readsSetting_141 (by decide) h (fun h => ?_) (fun h => ?_)
            · exact ev_sub (tX7_readsSetting_b159 hW h) (And.intro rfl trivial)
            · refine ev_aload_n dc_X7_readsSetting_144 rfl ?_
              refine ev_getR dc_X7_readsSetting_145 fi_X7_91 rfl i1 ?_
              refine ev_iload_n dc_X7_readsSetting_148 rfl ?_
              refine ev_aload_n dc_X7_readsSetting_149 rfl ?_
              refine ev_getR dc_X7_readsSetting_150 fi_X7_39 rfl i1 ?_
              refine ev_getI dc_X7_readsSetting_153 fi_X7_70 rfl (wt hW i1 0 rfl rfl) ?_
              obtain ⟨q7, hq7, h⟩ := Option.bind_eq_some_iff.mp h
              refine ev_callV (av := [.int q6.1, .int (q6.2.1 (pR G a1 0) 1)]) (st := []) (st1 := []) dc_X7_readsSetting_156 (tX3_tellBearer hW (wt hW i1 2 rfl rfl) hq7) mw_836 cy_X3_tellBearer (wt hW i1 2 rfl rfl) (by decide) rfl rfl rfl rfl (Nat.le_of_ble_eq_true rfl) (Nat.le_of_ble_eq_true rfl) ⟨Nat.le_refl _, Nat.le_refl _⟩ ?_
              exact ev_sub (tX7_readsSetting_b159 hW h) (And.intro rfl trivial)
        · refine ev_aload_n dc_X7_readsSetting_96 rfl ?_
          refine ev_iconst (v := 0) dc_X7_readsSetting_97 (by decide) ?_
          refine ev_bipush (v := 99) dc_X7_readsSetting_98 (by decide) ?_
          obtain ⟨q8, hq8, h⟩ := Option.bind_eq_some_iff.mp h
          refine ev_callV (av := [.int (0 : Int32), .int (99 : Int32)]) (st := []) (st1 := [.int q8.1]) dc_X7_readsSetting_100 (tX9_passNumber hW i0 hq8) mw_772 cy_X9_passNumber i0 (by decide) rfl rfl rfl rfl (Nat.le_of_ble_eq_true rfl) (Nat.le_of_ble_eq_true rfl) ⟨Nat.le_refl _, Nat.le_refl _⟩ ?_
          refine ev_istore_n (lv' := [some (.ref a0), some (.ref a1), some (.int q8.1)]) dc_X7_readsSetting_103 rfl (by decide) rfl ?_
          refine ev_aload_n dc_X7_readsSetting_104 rfl ?_
          refine ev_getR dc_X7_readsSetting_105 fi_X7_91 rfl i1 ?_
          refine ev_iload_n dc_X7_readsSetting_108 rfl ?_
          refine ev_putI dc_X7_readsSetting_109 fi_X7_164 rfl (wt hW i1 2 rfl rfl) ?_
          refine ev_goto (tgt := 159) dc_X7_readsSetting_112 (by decide) ?_
          exact ev_sub (tX7_readsSetting_b159 hW h) (And.intro rfl trivial)
      · refine ev_aload_n dc_X7_readsSetting_68 rfl ?_
        refine ev_iconst (v := 0) dc_X7_readsSetting_69 (by decide) ?_
        refine ev_bipush (v := 100) dc_X7_readsSetting_70 (by decide) ?_
        obtain ⟨q9, hq9, h⟩ := Option.bind_eq_some_iff.mp h
        refine ev_callV (av := [.int (0 : Int32), .int (100 : Int32)]) (st := []) (st1 := [.int q9.1]) dc_X7_readsSetting_72 (tX9_passNumber hW i0 hq9) mw_772 cy_X9_passNumber i0 (by decide) rfl rfl rfl rfl (Nat.le_of_ble_eq_true rfl) (Nat.le_of_ble_eq_true rfl) ⟨Nat.le_refl _, Nat.le_refl _⟩ ?_
        refine ev_istore_n (lv' := [some (.ref a0), some (.ref a1), some (.int q9.1)]) dc_X7_readsSetting_75 rfl (by decide) rfl ?_
        refine ev_aload_n dc_X7_readsSetting_76 rfl ?_
        refine ev_getR dc_X7_readsSetting_77 fi_X7_39 rfl i1 ?_
        refine ev_iload_n dc_X7_readsSetting_80 rfl ?_
        refine ev_putI dc_X7_readsSetting_81 fi_X7_160 rfl (wt hW i1 0 rfl rfl) ?_
        refine ev_goto (tgt := 159) dc_X7_readsSetting_84 (by decide) ?_
        exact ev_sub (tX7_readsSetting_b159 hW h) (And.intro rfl trivial)
    · refine ev_aload_n dc_X7_readsSetting_39 rfl ?_
      refine ev_iconst (v := 1) dc_X7_readsSetting_40 (by decide) ?_
      refine ev_sipush (v := 400) dc_X7_readsSetting_41 (by decide) ?_
      obtain ⟨q10, hq10, h⟩ := Option.bind_eq_some_iff.mp h
      refine ev_callV (av := [.int (1 : Int32), .int (400 : Int32)]) (st := []) (st1 := [.int q10.1]) dc_X7_readsSetting_44 (tX9_passNumber hW i0 hq10) mw_772 cy_X9_passNumber i0 (by decide) rfl rfl rfl rfl (Nat.le_of_ble_eq_true rfl) (Nat.le_of_ble_eq_true rfl) ⟨Nat.le_refl _, Nat.le_refl _⟩ ?_
      refine ev_istore_n (lv' := [some (.ref a0), some (.ref a1), some (.int q10.1)]) dc_X7_readsSetting_47 rfl (by decide) rfl ?_
      refine ev_aload_n dc_X7_readsSetting_48 rfl ?_
      refine ev_getR dc_X7_readsSetting_49 fi_X7_39 rfl i1 ?_
      refine ev_iload_n dc_X7_readsSetting_52 rfl ?_
      refine ev_putI dc_X7_readsSetting_53 fi_X7_156 rfl (wt hW i1 0 rfl rfl) ?_
      refine ev_goto (tgt := 159) dc_X7_readsSetting_56 (by decide) ?_
      exact ev_sub (tX7_readsSetting_b159 hW h) (And.intro rfl trivial)
  · refine ev_aload_n dc_X7_readsSetting_11 rfl ?_
    refine ev_iconst (v := 1) dc_X7_readsSetting_12 (by decide) ?_
    refine ev_bipush (v := 99) dc_X7_readsSetting_13 (by decide) ?_
    obtain ⟨q11, hq11, h⟩ := Option.bind_eq_some_iff.mp h
    refine ev_callV (av := [.int (1 : Int32), .int (99 : Int32)]) (st := []) (st1 := [.int q11.1]) dc_X7_readsSetting_15 (tX9_passNumber hW i0 hq11) mw_772 cy_X9_passNumber i0 (by decide) rfl rfl rfl rfl (Nat.le_of_ble_eq_true rfl) (Nat.le_of_ble_eq_true rfl) ⟨Nat.le_refl _, Nat.le_refl _⟩ ?_
    refine ev_istore_n (lv' := [some (.ref a0), some (.ref a1), some (.int q11.1)]) dc_X7_readsSetting_18 rfl (by decide) rfl ?_
    refine ev_aload_n dc_X7_readsSetting_19 rfl ?_
    refine ev_getR dc_X7_readsSetting_20 fi_X7_39 rfl i1 ?_
    refine ev_iload_n dc_X7_readsSetting_23 rfl ?_
    refine ev_putI dc_X7_readsSetting_24 fi_X7_152 rfl (wt hW i1 0 rfl rfl) ?_
    refine ev_goto (tgt := 159) dc_X7_readsSetting_27 (by decide) ?_
    exact ev_sub (tX7_readsSetting_b159 hW h) (And.intro rfl trivial)
theorem dc_X7_readsWord_0 : Dc miX7_readsWord 0 (.aload_n 1) 1 1 := ⟨by decide +kernel, rfl⟩
theorem dc_X7_readsWord_1 : Dc miX7_readsWord 1 (.getfield 112) 3 4 := ⟨by decide +kernel, rfl⟩
theorem dc_X7_readsWord_4 : Dc miX7_readsWord 4 (.bipush 6) 2 6 := ⟨by decide +kernel, rfl⟩
theorem dc_X7_readsWord_6 : Dc miX7_readsWord 6 (.if_icmp .lt 5) 3 9 := ⟨by decide +kernel, rfl⟩
theorem dc_X7_readsWord_9 : Dc miX7_readsWord 9 (.iconst 0) 1 10 := ⟨by decide +kernel, rfl⟩
theorem dc_X7_readsWord_10 : Dc miX7_readsWord 10 (.ireturn) 1 11 := ⟨by decide +kernel, rfl⟩
theorem dc_X7_readsWord_11 : Dc miX7_readsWord 11 (.aload_n 0) 1 12 := ⟨by decide +kernel, rfl⟩
theorem dc_X7_readsWord_12 : Dc miX7_readsWord 12 (.invokevirtual 75) 3 15 := ⟨by decide +kernel, rfl⟩
theorem dc_X7_readsWord_15 : Dc miX7_readsWord 15 (.aload_n 0) 1 16 := ⟨by decide +kernel, rfl⟩
theorem dc_X7_readsWord_16 : Dc miX7_readsWord 16 (.iconst 0) 1 17 := ⟨by decide +kernel, rfl⟩
theorem dc_X7_readsWord_17 : Dc miX7_readsWord 17 (.bipush 20) 2 19 := ⟨by decide +kernel, rfl⟩
theorem dc_X7_readsWord_19 : Dc miX7_readsWord 19 (.invokevirtual 87) 3 22 := ⟨by decide +kernel, rfl⟩
theorem dc_X7_readsWord_22 : Dc miX7_readsWord 22 (.istore_n 2) 1 23 := ⟨by decide +kernel, rfl⟩
theorem dc_X7_readsWord_23 : Dc miX7_readsWord 23 (.iload_n 2) 1 24 := ⟨by decide +kernel, rfl⟩
theorem dc_X7_readsWord_24 : Dc miX7_readsWord 24 (.iconst (-1)) 1 25 := ⟨by decide +kernel, rfl⟩
theorem dc_X7_readsWord_25 : Dc miX7_readsWord 25 (.if_icmp .ne 5) 3 28 := ⟨by decide +kernel, rfl⟩
theorem dc_X7_readsWord_28 : Dc miX7_readsWord 28 (.iconst 0) 1 29 := ⟨by decide +kernel, rfl⟩
theorem dc_X7_readsWord_29 : Dc miX7_readsWord 29 (.ireturn) 1 30 := ⟨by decide +kernel, rfl⟩
theorem dc_X7_readsWord_30 : Dc miX7_readsWord 30 (.iconst (-1)) 1 31 := ⟨by decide +kernel, rfl⟩
theorem dc_X7_readsWord_31 : Dc miX7_readsWord 31 (.istore_n 3) 1 32 := ⟨by decide +kernel, rfl⟩
theorem dc_X7_readsWord_32 : Dc miX7_readsWord 32 (.aload_n 0) 1 33 := ⟨by decide +kernel, rfl⟩
theorem dc_X7_readsWord_33 : Dc miX7_readsWord 33 (.ldc 115) 2 35 := ⟨by decide +kernel, rfl⟩
theorem dc_X7_readsWord_35 : Dc miX7_readsWord 35 (.invokevirtual 84) 3 38 := ⟨by decide +kernel, rfl⟩
theorem dc_X7_readsWord_38 : Dc miX7_readsWord 38 (.ifCond .eq 15) 3 41 := ⟨by decide +kernel, rfl⟩
theorem dc_X7_readsWord_41 : Dc miX7_readsWord 41 (.aload_n 0) 1 42 := ⟨by decide +kernel, rfl⟩
theorem dc_X7_readsWord_42 : Dc miX7_readsWord 42 (.invokevirtual 117) 3 45 := ⟨by decide +kernel, rfl⟩
theorem dc_X7_readsWord_45 : Dc miX7_readsWord 45 (.istore_n 3) 1 46 := ⟨by decide +kernel, rfl⟩
theorem dc_X7_readsWord_46 : Dc miX7_readsWord 46 (.iload_n 3) 1 47 := ⟨by decide +kernel, rfl⟩
theorem dc_X7_readsWord_47 : Dc miX7_readsWord 47 (.iconst (-1)) 1 48 := ⟨by decide +kernel, rfl⟩
theorem dc_X7_readsWord_48 : Dc miX7_readsWord 48 (.if_icmp .ne 5) 3 51 := ⟨by decide +kernel, rfl⟩
theorem dc_X7_readsWord_51 : Dc miX7_readsWord 51 (.iconst 0) 1 52 := ⟨by decide +kernel, rfl⟩
theorem dc_X7_readsWord_52 : Dc miX7_readsWord 52 (.ireturn) 1 53 := ⟨by decide +kernel, rfl⟩
theorem dc_X7_readsWord_53 : Dc miX7_readsWord 53 (.aload_n 1) 1 54 := ⟨by decide +kernel, rfl⟩
theorem dc_X7_readsWord_54 : Dc miX7_readsWord 54 (.iload_n 2) 1 55 := ⟨by decide +kernel, rfl⟩
theorem dc_X7_readsWord_55 : Dc miX7_readsWord 55 (.iload_n 3) 1 56 := ⟨by decide +kernel, rfl⟩
theorem dc_X7_readsWord_56 : Dc miX7_readsWord 56 (.invokevirtual 120) 3 59 := ⟨by decide +kernel, rfl⟩
theorem dc_X7_readsWord_59 : Dc miX7_readsWord 59 (.iconst 1) 1 60 := ⟨by decide +kernel, rfl⟩
theorem dc_X7_readsWord_60 : Dc miX7_readsWord 60 (.ireturn) 1 61 := ⟨by decide +kernel, rfl⟩
def fX7_readsWord_b53 (N : Nat) (G : pG) (a1 : Nat) (x2 : Int32) (x3 : Int32) (σ : pS) : Option (Int32 × pS) := (fX8_addWord N G a1 x2 x3 σ).bind (fun q1 => some ((1 : Int32), q1))
set_option maxRecDepth 100000 in
set_option maxHeartbeats 4000000 in
theorem tX7_readsWord_b53 {N : Nat} {G : pG} {SK : Nat → Nat} {a1 : Nat} {x2 : Int32} {x3 : Int32} {σ : pS} {r : Int32 × pS} (hW : WT G) (i1 : Is G a1 7) (h : fX7_readsWord_b53 N G a1 x2 x3 σ = some r) : Ev miX7_readsWord (11, 0, 0) G (Zp G (some (.int r.1)) r.2) SK (0, 0) 53 [none, some (.ref a1), some (.int x2), some (.int x3)] [] σ := by
  unfold fX7_readsWord_b53 at h
  refine ev_aload_n dc_X7_readsWord_53 rfl ?_
  refine ev_iload_n dc_X7_readsWord_54 rfl ?_
  refine ev_iload_n dc_X7_readsWord_55 rfl ?_
  obtain ⟨q1, hq1, h⟩ := Option.bind_eq_some_iff.mp h
  refine ev_callV (av := [.int x2, .int x3]) (st := []) (st1 := []) dc_X7_readsWord_56 (tX8_addWord hW i1 hq1) mw_794 cy_X8_addWord i1 (by decide) rfl rfl rfl rfl (Nat.le_of_ble_eq_true rfl) (Nat.le_of_ble_eq_true rfl) ⟨Nat.le_refl _, Nat.le_refl _⟩ ?_
  refine ev_iconst (v := 1) dc_X7_readsWord_59 (by decide) ?_
  cases h
  exact ev_zretc dc_X7_readsWord_60 rfl rfl rfl rfl
def fX7_readsWord (N : Nat) (G : pG) (a0 : Nat) (a1 : Nat) (σ : pS) : Option (Int32 × pS) := if (σ.1 a1 2) < (6 : Int32) then ((fX9_advance N G a0 σ).bind (fun q2 => (fX9_passNumber N G a0 (0 : Int32) (20 : Int32) q2).bind (fun q3 => if q3.1 = (-1 : Int32) then (some ((0 : Int32), q3.2)) else ((fX9_passWord N G a0 3 q3.2).bind (fun q4 => if q4.1 = 0 then (fX7_readsWord_b53 N G a1 q3.1 (-1 : Int32) q4.2) else ((fX9_passLetter N G a0 q4.2).bind (fun q5 => if q5.1 = (-1 : Int32) then (some ((0 : Int32), q5.2)) else (fX7_readsWord_b53 N G a1 q3.1 q5.1 q5.2)))))))) else (some ((0 : Int32), σ))
set_option maxRecDepth 100000 in
set_option maxHeartbeats 4000000 in
theorem tX7_readsWord {N : Nat} {G : pG} {SK : Nat → Nat} {a0 : Nat} {a1 : Nat} {σ : pS} {r : Int32 × pS} (hW : WT G) (i0 : Is G a0 8) (i1 : Is G a1 7) (h : fX7_readsWord N G a0 a1 σ = some r) : Dn miX7_readsWord yX7_readsWord 11 G SK [.ref a0, .ref a1] σ (some (.int r.1)) r.2 := by
  unfold fX7_readsWord at h
  refine dn_of (lv := [some (.ref a0), some (.ref a1), none, none]) (by decide) rfl rfl (Nat.le_of_ble_eq_true rfl) rfl ?_
  refine ev_aload_n dc_X7_readsWord_0 rfl ?_
  refine ev_getI dc_X7_readsWord_1 fi_X7_112 rfl i1 ?_
  refine ev_bipush (v := 6) dc_X7_readsWord_4 (by decide) ?_
  refine ev_icmp_lt (tgt := 11) dc_X7_readsWord_6 (by decide) h (fun h => ?_) (fun h => ?_)
  · refine ev_aload_n dc_X7_readsWord_11 rfl ?_
    obtain ⟨q2, hq2, h⟩ := Option.bind_eq_some_iff.mp h
    refine ev_callV (av := []) (st := []) (st1 := []) dc_X7_readsWord_12 (tX9_advance hW i0 hq2) mw_760 cy_X9_advance i0 (by decide) rfl rfl rfl rfl (Nat.le_of_ble_eq_true rfl) (Nat.le_of_ble_eq_true rfl) ⟨Nat.le_refl _, Nat.le_refl _⟩ ?_
    refine ev_aload_n dc_X7_readsWord_15 rfl ?_
    refine ev_iconst (v := 0) dc_X7_readsWord_16 (by decide) ?_
    refine ev_bipush (v := 20) dc_X7_readsWord_17 (by decide) ?_
    obtain ⟨q3, hq3, h⟩ := Option.bind_eq_some_iff.mp h
    refine ev_callV (av := [.int (0 : Int32), .int (20 : Int32)]) (st := []) (st1 := [.int q3.1]) dc_X7_readsWord_19 (tX9_passNumber hW i0 hq3) mw_772 cy_X9_passNumber i0 (by decide) rfl rfl rfl rfl (Nat.le_of_ble_eq_true rfl) (Nat.le_of_ble_eq_true rfl) ⟨Nat.le_refl _, Nat.le_refl _⟩ ?_
    refine ev_istore_n (lv' := [some (.ref a0), some (.ref a1), some (.int q3.1), none]) dc_X7_readsWord_22 rfl (by decide) rfl ?_
    refine ev_iload_n dc_X7_readsWord_23 rfl ?_
    refine ev_iconst (v := (-1)) dc_X7_readsWord_24 (by decide) ?_
    refine ev_icmp_ne (tgt := 30) dc_X7_readsWord_25 (by decide) h (fun h => ?_) (fun h => ?_)
    · refine ev_iconst (v := 0) dc_X7_readsWord_28 (by decide) ?_
      cases h
      exact ev_zretc dc_X7_readsWord_29 rfl rfl rfl rfl
    · refine ev_iconst (v := (-1)) dc_X7_readsWord_30 (by decide) ?_
      refine ev_istore_n (lv' := [some (.ref a0), some (.ref a1), some (.int q3.1), some (.int (-1 : Int32))]) dc_X7_readsWord_31 rfl (by decide) rfl ?_
      refine ev_aload_n dc_X7_readsWord_32 rfl ?_
      refine ev_ldcS (sid := 3) (tx := "of") dc_X7_readsWord_33 (List.mem_of_getElem? (i := 3) rfl) ?_
      obtain ⟨q4, hq4, h⟩ := Option.bind_eq_some_iff.mp h
      refine ev_callV (av := [.ref (SK 3)]) (st := []) (st1 := [.int q4.1]) dc_X7_readsWord_35 (tX9_passWord hW i0 rfl hq4) mw_767 cy_X9_passWord i0 (by decide) rfl rfl rfl rfl (Nat.le_of_ble_eq_true rfl) (Nat.le_of_ble_eq_true rfl) ⟨Nat.le_refl _, Nat.le_refl _⟩ ?_
      refine ev_if_eq (tgt := 53) dc_X7_readsWord_38 (by decide) h (fun h => ?_) (fun h => ?_)
      · exact ev_sub (tX7_readsWord_b53 hW i1 h) (And.intro rfl (And.intro rfl (And.intro rfl trivial)))
      · refine ev_aload_n dc_X7_readsWord_41 rfl ?_
        obtain ⟨q5, hq5, h⟩ := Option.bind_eq_some_iff.mp h
        refine ev_callV (av := []) (st := []) (st1 := [.int q5.1]) dc_X7_readsWord_42 (tX9_passLetter hW i0 hq5) mw_790 cy_X9_passLetter i0 (by decide) rfl rfl rfl rfl (Nat.le_of_ble_eq_true rfl) (Nat.le_of_ble_eq_true rfl) ⟨Nat.le_refl _, Nat.le_refl _⟩ ?_
        refine ev_istore_n (lv' := [some (.ref a0), some (.ref a1), some (.int q3.1), some (.int q5.1)]) dc_X7_readsWord_45 rfl (by decide) rfl ?_
        refine ev_iload_n dc_X7_readsWord_46 rfl ?_
        refine ev_iconst (v := (-1)) dc_X7_readsWord_47 (by decide) ?_
        refine ev_icmp_ne (tgt := 53) dc_X7_readsWord_48 (by decide) h (fun h => ?_) (fun h => ?_)
        · refine ev_iconst (v := 0) dc_X7_readsWord_51 (by decide) ?_
          cases h
          exact ev_zretc dc_X7_readsWord_52 rfl rfl rfl rfl
        · exact ev_sub (tX7_readsWord_b53 hW i1 h) (And.intro rfl (And.intro rfl (And.intro rfl trivial)))
  · refine ev_iconst (v := 0) dc_X7_readsWord_9 (by decide) ?_
    cases h
    exact ev_zretc dc_X7_readsWord_10 rfl rfl rfl rfl
theorem dc_X7_readsLine_0 : Dc miX7_readsLine 0 (.aload_n 0) 1 1 := ⟨by decide +kernel, rfl⟩
theorem dc_X7_readsLine_1 : Dc miX7_readsLine 1 (.ldc 28) 2 3 := ⟨by decide +kernel, rfl⟩
theorem dc_X7_readsLine_3 : Dc miX7_readsLine 3 (.invokevirtual 30) 3 6 := ⟨by decide +kernel, rfl⟩
theorem dc_X7_readsLine_6 : Dc miX7_readsLine 6 (.ifCond .eq 9) 3 9 := ⟨by decide +kernel, rfl⟩
theorem dc_X7_readsLine_9 : Dc miX7_readsLine 9 (.aload_n 0) 1 10 := ⟨by decide +kernel, rfl⟩
theorem dc_X7_readsLine_10 : Dc miX7_readsLine 10 (.aload_n 1) 1 11 := ⟨by decide +kernel, rfl⟩
theorem dc_X7_readsLine_11 : Dc miX7_readsLine 11 (.invokestatic 34) 3 14 := ⟨by decide +kernel, rfl⟩
theorem dc_X7_readsLine_14 : Dc miX7_readsLine 14 (.ireturn) 1 15 := ⟨by decide +kernel, rfl⟩
theorem dc_X7_readsLine_15 : Dc miX7_readsLine 15 (.aload_n 0) 1 16 := ⟨by decide +kernel, rfl⟩
theorem dc_X7_readsLine_16 : Dc miX7_readsLine 16 (.ldc 37) 2 18 := ⟨by decide +kernel, rfl⟩
theorem dc_X7_readsLine_18 : Dc miX7_readsLine 18 (.invokevirtual 30) 3 21 := ⟨by decide +kernel, rfl⟩
theorem dc_X7_readsLine_21 : Dc miX7_readsLine 21 (.ifCond .eq 12) 3 24 := ⟨by decide +kernel, rfl⟩
theorem dc_X7_readsLine_24 : Dc miX7_readsLine 24 (.aload_n 0) 1 25 := ⟨by decide +kernel, rfl⟩
theorem dc_X7_readsLine_25 : Dc miX7_readsLine 25 (.aload_n 1) 1 26 := ⟨by decide +kernel, rfl⟩
theorem dc_X7_readsLine_26 : Dc miX7_readsLine 26 (.getfield 39) 3 29 := ⟨by decide +kernel, rfl⟩
theorem dc_X7_readsLine_29 : Dc miX7_readsLine 29 (.invokestatic 45) 3 32 := ⟨by decide +kernel, rfl⟩
theorem dc_X7_readsLine_32 : Dc miX7_readsLine 32 (.ireturn) 1 33 := ⟨by decide +kernel, rfl⟩
theorem dc_X7_readsLine_33 : Dc miX7_readsLine 33 (.aload_n 0) 1 34 := ⟨by decide +kernel, rfl⟩
theorem dc_X7_readsLine_34 : Dc miX7_readsLine 34 (.ldc 49) 2 36 := ⟨by decide +kernel, rfl⟩
theorem dc_X7_readsLine_36 : Dc miX7_readsLine 36 (.invokevirtual 30) 3 39 := ⟨by decide +kernel, rfl⟩
theorem dc_X7_readsLine_39 : Dc miX7_readsLine 39 (.ifCond .eq 12) 3 42 := ⟨by decide +kernel, rfl⟩
theorem dc_X7_readsLine_42 : Dc miX7_readsLine 42 (.aload_n 0) 1 43 := ⟨by decide +kernel, rfl⟩
theorem dc_X7_readsLine_43 : Dc miX7_readsLine 43 (.aload_n 1) 1 44 := ⟨by decide +kernel, rfl⟩
theorem dc_X7_readsLine_44 : Dc miX7_readsLine 44 (.getfield 39) 3 47 := ⟨by decide +kernel, rfl⟩
theorem dc_X7_readsLine_47 : Dc miX7_readsLine 47 (.invokestatic 51) 3 50 := ⟨by decide +kernel, rfl⟩
theorem dc_X7_readsLine_50 : Dc miX7_readsLine 50 (.ireturn) 1 51 := ⟨by decide +kernel, rfl⟩
theorem dc_X7_readsLine_51 : Dc miX7_readsLine 51 (.aload_n 0) 1 52 := ⟨by decide +kernel, rfl⟩
theorem dc_X7_readsLine_52 : Dc miX7_readsLine 52 (.ldc 54) 2 54 := ⟨by decide +kernel, rfl⟩
theorem dc_X7_readsLine_54 : Dc miX7_readsLine 54 (.invokevirtual 30) 3 57 := ⟨by decide +kernel, rfl⟩
theorem dc_X7_readsLine_57 : Dc miX7_readsLine 57 (.ifCond .eq 10) 3 60 := ⟨by decide +kernel, rfl⟩
theorem dc_X7_readsLine_60 : Dc miX7_readsLine 60 (.aload_n 0) 1 61 := ⟨by decide +kernel, rfl⟩
theorem dc_X7_readsLine_61 : Dc miX7_readsLine 61 (.aload_n 1) 1 62 := ⟨by decide +kernel, rfl⟩
theorem dc_X7_readsLine_62 : Dc miX7_readsLine 62 (.iconst 0) 1 63 := ⟨by decide +kernel, rfl⟩
theorem dc_X7_readsLine_63 : Dc miX7_readsLine 63 (.invokestatic 56) 3 66 := ⟨by decide +kernel, rfl⟩
theorem dc_X7_readsLine_66 : Dc miX7_readsLine 66 (.ireturn) 1 67 := ⟨by decide +kernel, rfl⟩
theorem dc_X7_readsLine_67 : Dc miX7_readsLine 67 (.aload_n 0) 1 68 := ⟨by decide +kernel, rfl⟩
theorem dc_X7_readsLine_68 : Dc miX7_readsLine 68 (.ldc 60) 2 70 := ⟨by decide +kernel, rfl⟩
theorem dc_X7_readsLine_70 : Dc miX7_readsLine 70 (.invokevirtual 30) 3 73 := ⟨by decide +kernel, rfl⟩
theorem dc_X7_readsLine_73 : Dc miX7_readsLine 73 (.ifCond .eq 10) 3 76 := ⟨by decide +kernel, rfl⟩
theorem dc_X7_readsLine_76 : Dc miX7_readsLine 76 (.aload_n 0) 1 77 := ⟨by decide +kernel, rfl⟩
theorem dc_X7_readsLine_77 : Dc miX7_readsLine 77 (.aload_n 1) 1 78 := ⟨by decide +kernel, rfl⟩
theorem dc_X7_readsLine_78 : Dc miX7_readsLine 78 (.iconst 1) 1 79 := ⟨by decide +kernel, rfl⟩
theorem dc_X7_readsLine_79 : Dc miX7_readsLine 79 (.invokestatic 56) 3 82 := ⟨by decide +kernel, rfl⟩
theorem dc_X7_readsLine_82 : Dc miX7_readsLine 82 (.ireturn) 1 83 := ⟨by decide +kernel, rfl⟩
theorem dc_X7_readsLine_83 : Dc miX7_readsLine 83 (.aload_n 0) 1 84 := ⟨by decide +kernel, rfl⟩
theorem dc_X7_readsLine_84 : Dc miX7_readsLine 84 (.ldc 62) 2 86 := ⟨by decide +kernel, rfl⟩
theorem dc_X7_readsLine_86 : Dc miX7_readsLine 86 (.invokevirtual 30) 3 89 := ⟨by decide +kernel, rfl⟩
theorem dc_X7_readsLine_89 : Dc miX7_readsLine 89 (.ifCond .eq 12) 3 92 := ⟨by decide +kernel, rfl⟩
theorem dc_X7_readsLine_92 : Dc miX7_readsLine 92 (.aload_n 0) 1 93 := ⟨by decide +kernel, rfl⟩
theorem dc_X7_readsLine_93 : Dc miX7_readsLine 93 (.aload_n 1) 1 94 := ⟨by decide +kernel, rfl⟩
theorem dc_X7_readsLine_94 : Dc miX7_readsLine 94 (.getfield 39) 3 97 := ⟨by decide +kernel, rfl⟩
theorem dc_X7_readsLine_97 : Dc miX7_readsLine 97 (.invokestatic 64) 3 100 := ⟨by decide +kernel, rfl⟩
theorem dc_X7_readsLine_100 : Dc miX7_readsLine 100 (.ireturn) 1 101 := ⟨by decide +kernel, rfl⟩
theorem dc_X7_readsLine_101 : Dc miX7_readsLine 101 (.aload_n 0) 1 102 := ⟨by decide +kernel, rfl⟩
theorem dc_X7_readsLine_102 : Dc miX7_readsLine 102 (.aload_n 1) 1 103 := ⟨by decide +kernel, rfl⟩
theorem dc_X7_readsLine_103 : Dc miX7_readsLine 103 (.invokestatic 67) 3 106 := ⟨by decide +kernel, rfl⟩
theorem dc_X7_readsLine_106 : Dc miX7_readsLine 106 (.ireturn) 1 107 := ⟨by decide +kernel, rfl⟩
def fX7_readsLine (N : Nat) (G : pG) (a0 : Nat) (a1 : Nat) (σ : pS) : Option (Int32 × pS) := (fX9_isWord N G a0 0 σ).bind (fun q1 => if q1 = 0 then ((fX9_isWord N G a0 2 σ).bind (fun q2 => if q2 = 0 then ((fX9_isWord N G a0 4 σ).bind (fun q3 => if q3 = 0 then ((fX9_isWord N G a0 6 σ).bind (fun q4 => if q4 = 0 then ((fX9_isWord N G a0 7 σ).bind (fun q5 => if q5 = 0 then ((fX9_isWord N G a0 8 σ).bind (fun q6 => if q6 = 0 then ((fX7_readsSetting N G a0 a1 σ).bind (fun q7 => ck (isZ q7.1) (some (q7.1, q7.2)))) else ((fX7_readsDuty N G a0 (pR G a1 0) σ).bind (fun q8 => ck (isZ q8.1) (some (q8.1, q8.2)))))) else ((fX7_readsMember N G a0 a1 (1 : Int32) σ).bind (fun q9 => ck (isZ q9.1) (some (q9.1, q9.2)))))) else ((fX7_readsMember N G a0 a1 (0 : Int32) σ).bind (fun q10 => ck (isZ q10.1) (some (q10.1, q10.2)))))) else ((fX7_readsDeed N G a0 (pR G a1 0) σ).bind (fun q11 => ck (isZ q11.1) (some (q11.1, q11.2)))))) else ((fX7_readsWord N G a0 (pR G a1 0) σ).bind (fun q12 => ck (isZ q12.1) (some (q12.1, q12.2)))))) else ((fX7_readsName N G a0 a1 σ).bind (fun q13 => ck (isZ q13.1) (some (q13.1, q13.2)))))
set_option maxRecDepth 100000 in
set_option maxHeartbeats 4000000 in
theorem tX7_readsLine {N : Nat} {G : pG} {SK : Nat → Nat} {a0 : Nat} {a1 : Nat} {σ : pS} {r : Int32 × pS} (hW : WT G) (i0 : Is G a0 8) (i1 : Is G a1 9) (h : fX7_readsLine N G a0 a1 σ = some r) : Dn miX7_readsLine yX7_readsLine 12 G SK [.ref a0, .ref a1] σ (some (.int r.1)) r.2 := by
  unfold fX7_readsLine at h
  refine dn_of (lv := [some (.ref a0), some (.ref a1)]) (by decide) rfl rfl (Nat.le_of_ble_eq_true rfl) rfl ?_
  refine ev_aload_n dc_X7_readsLine_0 rfl ?_
  refine ev_ldcS (sid := 0) (tx := "name") dc_X7_readsLine_1 (List.mem_of_getElem? (i := 0) rfl) ?_
  obtain ⟨q1, hq1, h⟩ := Option.bind_eq_some_iff.mp h
  refine ev_callV (av := [.ref (SK 0)]) (st := []) (st1 := [.int q1]) dc_X7_readsLine_3 (tX9_isWord hW i0 rfl hq1) mw_705 cy_X9_isWord i0 (by decide) rfl rfl rfl rfl (Nat.le_of_ble_eq_true rfl) (Nat.le_of_ble_eq_true rfl) ⟨Nat.le_refl _, Nat.le_refl _⟩ ?_
  refine ev_if_eq (tgt := 15) dc_X7_readsLine_6 (by decide) h (fun h => ?_) (fun h => ?_)
  · refine ev_aload_n dc_X7_readsLine_15 rfl ?_
    refine ev_ldcS (sid := 2) (tx := "word") dc_X7_readsLine_16 (List.mem_of_getElem? (i := 2) rfl) ?_
    obtain ⟨q2, hq2, h⟩ := Option.bind_eq_some_iff.mp h
    refine ev_callV (av := [.ref (SK 2)]) (st := []) (st1 := [.int q2]) dc_X7_readsLine_18 (tX9_isWord hW i0 rfl hq2) mw_705 cy_X9_isWord i0 (by decide) rfl rfl rfl rfl (Nat.le_of_ble_eq_true rfl) (Nat.le_of_ble_eq_true rfl) ⟨Nat.le_refl _, Nat.le_refl _⟩ ?_
    refine ev_if_eq (tgt := 33) dc_X7_readsLine_21 (by decide) h (fun h => ?_) (fun h => ?_)
    · refine ev_aload_n dc_X7_readsLine_33 rfl ?_
      refine ev_ldcS (sid := 4) (tx := "deed") dc_X7_readsLine_34 (List.mem_of_getElem? (i := 4) rfl) ?_
      obtain ⟨q3, hq3, h⟩ := Option.bind_eq_some_iff.mp h
      refine ev_callV (av := [.ref (SK 4)]) (st := []) (st1 := [.int q3]) dc_X7_readsLine_36 (tX9_isWord hW i0 rfl hq3) mw_705 cy_X9_isWord i0 (by decide) rfl rfl rfl rfl (Nat.le_of_ble_eq_true rfl) (Nat.le_of_ble_eq_true rfl) ⟨Nat.le_refl _, Nat.le_refl _⟩ ?_
      refine ev_if_eq (tgt := 51) dc_X7_readsLine_39 (by decide) h (fun h => ?_) (fun h => ?_)
      · refine ev_aload_n dc_X7_readsLine_51 rfl ?_
        refine ev_ldcS (sid := 6) (tx := "friend") dc_X7_readsLine_52 (List.mem_of_getElem? (i := 6) rfl) ?_
        obtain ⟨q4, hq4, h⟩ := Option.bind_eq_some_iff.mp h
        refine ev_callV (av := [.ref (SK 6)]) (st := []) (st1 := [.int q4]) dc_X7_readsLine_54 (tX9_isWord hW i0 rfl hq4) mw_705 cy_X9_isWord i0 (by decide) rfl rfl rfl rfl (Nat.le_of_ble_eq_true rfl) (Nat.le_of_ble_eq_true rfl) ⟨Nat.le_refl _, Nat.le_refl _⟩ ?_
        refine ev_if_eq (tgt := 67) dc_X7_readsLine_57 (by decide) h (fun h => ?_) (fun h => ?_)
        · refine ev_aload_n dc_X7_readsLine_67 rfl ?_
          refine ev_ldcS (sid := 7) (tx := "enemy") dc_X7_readsLine_68 (List.mem_of_getElem? (i := 7) rfl) ?_
          obtain ⟨q5, hq5, h⟩ := Option.bind_eq_some_iff.mp h
          refine ev_callV (av := [.ref (SK 7)]) (st := []) (st1 := [.int q5]) dc_X7_readsLine_70 (tX9_isWord hW i0 rfl hq5) mw_705 cy_X9_isWord i0 (by decide) rfl rfl rfl rfl (Nat.le_of_ble_eq_true rfl) (Nat.le_of_ble_eq_true rfl) ⟨Nat.le_refl _, Nat.le_refl _⟩ ?_
          refine ev_if_eq (tgt := 83) dc_X7_readsLine_73 (by decide) h (fun h => ?_) (fun h => ?_)
          · refine ev_aload_n dc_X7_readsLine_83 rfl ?_
            refine ev_ldcS (sid := 8) (tx := "duty") dc_X7_readsLine_84 (List.mem_of_getElem? (i := 8) rfl) ?_
            obtain ⟨q6, hq6, h⟩ := Option.bind_eq_some_iff.mp h
            refine ev_callV (av := [.ref (SK 8)]) (st := []) (st1 := [.int q6]) dc_X7_readsLine_86 (tX9_isWord hW i0 rfl hq6) mw_705 cy_X9_isWord i0 (by decide) rfl rfl rfl rfl (Nat.le_of_ble_eq_true rfl) (Nat.le_of_ble_eq_true rfl) ⟨Nat.le_refl _, Nat.le_refl _⟩ ?_
            refine ev_if_eq (tgt := 101) dc_X7_readsLine_89 (by decide) h (fun h => ?_) (fun h => ?_)
            · refine ev_aload_n dc_X7_readsLine_101 rfl ?_
              refine ev_aload_n dc_X7_readsLine_102 rfl ?_
              obtain ⟨q7, hq7, h⟩ := Option.bind_eq_some_iff.mp h
              refine ev_callS (av := [.ref a0, .ref a1]) (st := []) (st1 := [.int q7.1]) dc_X7_readsLine_103 (tX7_readsSetting hW i0 i1 hq7) mw_828 cs_X7_readsSetting rfl rfl rfl (Nat.le_of_ble_eq_true rfl) (Nat.le_of_ble_eq_true rfl) ⟨Nat.le_refl _, Nat.le_refl _⟩ ?_
              have h2 := (ck_s h).2
              cases h2
              exact ev_zret dc_X7_readsLine_106 rfl h rfl rfl
            · refine ev_aload_n dc_X7_readsLine_92 rfl ?_
              refine ev_aload_n dc_X7_readsLine_93 rfl ?_
              refine ev_getR dc_X7_readsLine_94 fi_X7_39 rfl i1 ?_
              obtain ⟨q8, hq8, h⟩ := Option.bind_eq_some_iff.mp h
              refine ev_callS (av := [.ref a0, .ref (pR G a1 0)]) (st := []) (st1 := [.int q8.1]) dc_X7_readsLine_97 (tX7_readsDuty hW i0 (wt hW i1 0 rfl rfl) hq8) mw_821 cs_X7_readsDuty rfl rfl rfl (Nat.le_of_ble_eq_true rfl) (Nat.le_of_ble_eq_true rfl) ⟨Nat.le_refl _, Nat.le_refl _⟩ ?_
              have h2 := (ck_s h).2
              cases h2
              exact ev_zret dc_X7_readsLine_100 rfl h rfl rfl
          · refine ev_aload_n dc_X7_readsLine_76 rfl ?_
            refine ev_aload_n dc_X7_readsLine_77 rfl ?_
            refine ev_iconst (v := 1) dc_X7_readsLine_78 (by decide) ?_
            obtain ⟨q9, hq9, h⟩ := Option.bind_eq_some_iff.mp h
            refine ev_callS (av := [.ref a0, .ref a1, .int (1 : Int32)]) (st := []) (st1 := [.int q9.1]) dc_X7_readsLine_79 (tX7_readsMember hW i0 i1 hq9) mw_808 cs_X7_readsMember rfl rfl rfl (Nat.le_of_ble_eq_true rfl) (Nat.le_of_ble_eq_true rfl) ⟨Nat.le_refl _, Nat.le_refl _⟩ ?_
            have h2 := (ck_s h).2
            cases h2
            exact ev_zret dc_X7_readsLine_82 rfl h rfl rfl
        · refine ev_aload_n dc_X7_readsLine_60 rfl ?_
          refine ev_aload_n dc_X7_readsLine_61 rfl ?_
          refine ev_iconst (v := 0) dc_X7_readsLine_62 (by decide) ?_
          obtain ⟨q10, hq10, h⟩ := Option.bind_eq_some_iff.mp h
          refine ev_callS (av := [.ref a0, .ref a1, .int (0 : Int32)]) (st := []) (st1 := [.int q10.1]) dc_X7_readsLine_63 (tX7_readsMember hW i0 i1 hq10) mw_808 cs_X7_readsMember rfl rfl rfl (Nat.le_of_ble_eq_true rfl) (Nat.le_of_ble_eq_true rfl) ⟨Nat.le_refl _, Nat.le_refl _⟩ ?_
          have h2 := (ck_s h).2
          cases h2
          exact ev_zret dc_X7_readsLine_66 rfl h rfl rfl
      · refine ev_aload_n dc_X7_readsLine_42 rfl ?_
        refine ev_aload_n dc_X7_readsLine_43 rfl ?_
        refine ev_getR dc_X7_readsLine_44 fi_X7_39 rfl i1 ?_
        obtain ⟨q11, hq11, h⟩ := Option.bind_eq_some_iff.mp h
        refine ev_callS (av := [.ref a0, .ref (pR G a1 0)]) (st := []) (st1 := [.int q11.1]) dc_X7_readsLine_47 (tX7_readsDeed hW i0 (wt hW i1 0 rfl rfl) hq11) mw_799 cs_X7_readsDeed rfl rfl rfl (Nat.le_of_ble_eq_true rfl) (Nat.le_of_ble_eq_true rfl) ⟨Nat.le_refl _, Nat.le_refl _⟩ ?_
        have h2 := (ck_s h).2
        cases h2
        exact ev_zret dc_X7_readsLine_50 rfl h rfl rfl
    · refine ev_aload_n dc_X7_readsLine_24 rfl ?_
      refine ev_aload_n dc_X7_readsLine_25 rfl ?_
      refine ev_getR dc_X7_readsLine_26 fi_X7_39 rfl i1 ?_
      obtain ⟨q12, hq12, h⟩ := Option.bind_eq_some_iff.mp h
      refine ev_callS (av := [.ref a0, .ref (pR G a1 0)]) (st := []) (st1 := [.int q12.1]) dc_X7_readsLine_29 (tX7_readsWord hW i0 (wt hW i1 0 rfl rfl) hq12) mw_786 cs_X7_readsWord rfl rfl rfl (Nat.le_of_ble_eq_true rfl) (Nat.le_of_ble_eq_true rfl) ⟨Nat.le_refl _, Nat.le_refl _⟩ ?_
      have h2 := (ck_s h).2
      cases h2
      exact ev_zret dc_X7_readsLine_32 rfl h rfl rfl
  · refine ev_aload_n dc_X7_readsLine_9 rfl ?_
    refine ev_aload_n dc_X7_readsLine_10 rfl ?_
    obtain ⟨q13, hq13, h⟩ := Option.bind_eq_some_iff.mp h
    refine ev_callS (av := [.ref a0, .ref a1]) (st := []) (st1 := [.int q13.1]) dc_X7_readsLine_11 (tX7_readsName hW i0 i1 hq13) mw_757 cs_X7_readsName rfl rfl rfl (Nat.le_of_ble_eq_true rfl) (Nat.le_of_ble_eq_true rfl) ⟨Nat.le_refl _, Nat.le_refl _⟩ ?_
    have h2 := (ck_s h).2
    cases h2
    exact ev_zret dc_X7_readsLine_14 rfl h rfl rfl
theorem dc_X7_reads_0 : Dc miX7_reads 0 (.aload_n 0) 1 1 := ⟨by decide +kernel, rfl⟩
theorem dc_X7_reads_1 : Dc miX7_reads 1 (.invokevirtual 9) 3 4 := ⟨by decide +kernel, rfl⟩
theorem dc_X7_reads_4 : Dc miX7_reads 4 (.aload_n 0) 1 5 := ⟨by decide +kernel, rfl⟩
theorem dc_X7_reads_5 : Dc miX7_reads 5 (.getfield 14) 3 8 := ⟨by decide +kernel, rfl⟩
theorem dc_X7_reads_8 : Dc miX7_reads 8 (.ifCond .ne 5) 3 11 := ⟨by decide +kernel, rfl⟩
theorem dc_X7_reads_11 : Dc miX7_reads 11 (.iconst 1) 1 12 := ⟨by decide +kernel, rfl⟩
theorem dc_X7_reads_12 : Dc miX7_reads 12 (.ireturn) 1 13 := ⟨by decide +kernel, rfl⟩
theorem dc_X7_reads_13 : Dc miX7_reads 13 (.iconst 0) 1 14 := ⟨by decide +kernel, rfl⟩
theorem dc_X7_reads_14 : Dc miX7_reads 14 (.istore_n 2) 1 15 := ⟨by decide +kernel, rfl⟩
theorem dc_X7_reads_15 : Dc miX7_reads 15 (.iload_n 2) 1 16 := ⟨by decide +kernel, rfl⟩
theorem dc_X7_reads_16 : Dc miX7_reads 16 (.bipush 14) 2 18 := ⟨by decide +kernel, rfl⟩
theorem dc_X7_reads_18 : Dc miX7_reads 18 (.if_icmp .ge 39) 3 21 := ⟨by decide +kernel, rfl⟩
theorem dc_X7_reads_21 : Dc miX7_reads 21 (.aload_n 0) 1 22 := ⟨by decide +kernel, rfl⟩
theorem dc_X7_reads_22 : Dc miX7_reads 22 (.aload_n 1) 1 23 := ⟨by decide +kernel, rfl⟩
theorem dc_X7_reads_23 : Dc miX7_reads 23 (.invokestatic 20) 3 26 := ⟨by decide +kernel, rfl⟩
theorem dc_X7_reads_26 : Dc miX7_reads 26 (.ifCond .ne 5) 3 29 := ⟨by decide +kernel, rfl⟩
theorem dc_X7_reads_29 : Dc miX7_reads 29 (.iconst 0) 1 30 := ⟨by decide +kernel, rfl⟩
theorem dc_X7_reads_30 : Dc miX7_reads 30 (.ireturn) 1 31 := ⟨by decide +kernel, rfl⟩
theorem dc_X7_reads_31 : Dc miX7_reads 31 (.aload_n 0) 1 32 := ⟨by decide +kernel, rfl⟩
theorem dc_X7_reads_32 : Dc miX7_reads 32 (.getfield 14) 3 35 := ⟨by decide +kernel, rfl⟩
theorem dc_X7_reads_35 : Dc miX7_reads 35 (.ifCond .ne 5) 3 38 := ⟨by decide +kernel, rfl⟩
theorem dc_X7_reads_38 : Dc miX7_reads 38 (.iconst 1) 1 39 := ⟨by decide +kernel, rfl⟩
theorem dc_X7_reads_39 : Dc miX7_reads 39 (.ireturn) 1 40 := ⟨by decide +kernel, rfl⟩
theorem dc_X7_reads_40 : Dc miX7_reads 40 (.aload_n 0) 1 41 := ⟨by decide +kernel, rfl⟩
theorem dc_X7_reads_41 : Dc miX7_reads 41 (.bipush 59) 2 43 := ⟨by decide +kernel, rfl⟩
theorem dc_X7_reads_43 : Dc miX7_reads 43 (.invokevirtual 24) 3 46 := ⟨by decide +kernel, rfl⟩
theorem dc_X7_reads_46 : Dc miX7_reads 46 (.ifCond .ne 5) 3 49 := ⟨by decide +kernel, rfl⟩
theorem dc_X7_reads_49 : Dc miX7_reads 49 (.iconst 0) 1 50 := ⟨by decide +kernel, rfl⟩
theorem dc_X7_reads_50 : Dc miX7_reads 50 (.ireturn) 1 51 := ⟨by decide +kernel, rfl⟩
theorem dc_X7_reads_51 : Dc miX7_reads 51 (.iinc 2 1) 3 54 := ⟨by decide +kernel, rfl⟩
theorem dc_X7_reads_54 : Dc miX7_reads 54 (.goto (-39)) 3 57 := ⟨by decide +kernel, rfl⟩
theorem dc_X7_reads_57 : Dc miX7_reads 57 (.iconst 0) 1 58 := ⟨by decide +kernel, rfl⟩
theorem dc_X7_reads_58 : Dc miX7_reads 58 (.ireturn) 1 59 := ⟨by decide +kernel, rfl⟩
def fX7_reads_b15 (N : Nat) (G : pG) (a0 : Nat) (a1 : Nat) : (Int32 × pS) → Option (Int32 × pS) := lp (fun (k15 : Int32 × pS → Option (Int32 × pS)) (b : Int32 × pS) => if (14 : Int32) ≤ b.1 then (some ((0 : Int32), b.2)) else ((fX7_readsLine N G a0 a1 b.2).bind (fun q1 => if q1.1 = 0 then (some ((0 : Int32), q1.2)) else (if (q1.2.1 a0 1) = 0 then (some ((1 : Int32), q1.2)) else ((fX9_passSign N G a0 (59 : Int32) q1.2).bind (fun q2 => if q2.1 = 0 then (some ((0 : Int32), q2.2)) else (k15 (b.1 + (1 : Int32), q2.2)))))))) N
set_option maxRecDepth 100000 in
set_option maxHeartbeats 4000000 in
theorem tX7_reads_b15 {N : Nat} {G : pG} {SK : Nat → Nat} {a0 : Nat} {a1 : Nat} {b : Int32 × pS} {r : Int32 × pS} (hW : WT G) (i0 : Is G a0 8) (i1 : Is G a1 9) (h : fX7_reads_b15 N G a0 a1 b = some r) : Ev miX7_reads (13, 0, 0) G (Zp G (some (.int r.1)) r.2) SK (0, 0) 15 [some (.ref a0), some (.ref a1), some (.int b.1)] [] b.2 := by
  unfold fX7_reads_b15 at h
  refine lp_ind (P := fun b r9 => r9 = r → Ev miX7_reads (13, 0, 0) G (Zp G (some (.int r.1)) r.2) SK (0, 0) 15 [some (.ref a0), some (.ref a1), some (.int b.1)] [] b.2) (fun k15 b r9 ih h9 e9 => ?_) N b r h rfl
  clear h
  subst e9
  have h := h9
  clear h9
  have hk15 : ∀ b : Int32 × pS, k15 b = some r9 → Ev miX7_reads (13, 0, 0) G (Zp G (some (.int r9.1)) r9.2) SK (0, 0) 15 [some (.ref a0), some (.ref a1), some (.int b.1)] [] b.2 := fun b hb => ih b r9 hb rfl
  clear ih
  obtain ⟨x2, σ⟩ := b
  dsimp only at h ⊢
  refine ev_iload_n dc_X7_reads_15 rfl ?_
  refine ev_bipush (v := 14) dc_X7_reads_16 (by decide) ?_
  refine ev_icmp_ge (tgt := 57) dc_X7_reads_18 (by decide) h (fun h => ?_) (fun h => ?_)
  · refine ev_iconst (v := 0) dc_X7_reads_57 (by decide) ?_
    cases h
    exact ev_zretc dc_X7_reads_58 rfl rfl rfl rfl
  · refine ev_aload_n dc_X7_reads_21 rfl ?_
    refine ev_aload_n dc_X7_reads_22 rfl ?_
    obtain ⟨q1, hq1, h⟩ := Option.bind_eq_some_iff.mp h
    refine ev_callS (av := [.ref a0, .ref a1]) (st := []) (st1 := [.int q1.1]) dc_X7_reads_23 (tX7_readsLine hW i0 i1 hq1) mw_701 cs_X7_readsLine rfl rfl rfl (Nat.le_of_ble_eq_true rfl) (Nat.le_of_ble_eq_true rfl) ⟨Nat.le_refl _, Nat.le_refl _⟩ ?_
    refine ev_if_ne (tgt := 31) dc_X7_reads_26 (by decide) h (fun h => ?_) (fun h => ?_)
    · refine ev_iconst (v := 0) dc_X7_reads_29 (by decide) ?_
      cases h
      exact ev_zretc dc_X7_reads_30 rfl rfl rfl rfl
    · refine ev_aload_n dc_X7_reads_31 rfl ?_
      refine ev_getI dc_X7_reads_32 fi_X7_14 rfl i0 ?_
      refine ev_if_ne (tgt := 40) dc_X7_reads_35 (by decide) h (fun h => ?_) (fun h => ?_)
      · refine ev_iconst (v := 1) dc_X7_reads_38 (by decide) ?_
        cases h
        exact ev_zretc dc_X7_reads_39 rfl rfl rfl rfl
      · refine ev_aload_n dc_X7_reads_40 rfl ?_
        refine ev_bipush (v := 59) dc_X7_reads_41 (by decide) ?_
        obtain ⟨q2, hq2, h⟩ := Option.bind_eq_some_iff.mp h
        refine ev_callV (av := [.int (59 : Int32)]) (st := []) (st1 := [.int q2.1]) dc_X7_reads_43 (tX9_passSign hW i0 hq2) mw_841 cy_X9_passSign i0 (by decide) rfl rfl rfl rfl (Nat.le_of_ble_eq_true rfl) (Nat.le_of_ble_eq_true rfl) ⟨Nat.le_refl _, Nat.le_refl _⟩ ?_
        refine ev_if_ne (tgt := 51) dc_X7_reads_46 (by decide) h (fun h => ?_) (fun h => ?_)
        · refine ev_iconst (v := 0) dc_X7_reads_49 (by decide) ?_
          cases h
          exact ev_zretc dc_X7_reads_50 rfl rfl rfl rfl
        · refine ev_iinc (v := 1) (lv' := [some (.ref a0), some (.ref a1), some (.int (x2 + (1 : Int32)))]) dc_X7_reads_51 rfl (by decide) rfl (by decide) rfl ?_
          refine ev_goto (tgt := 15) dc_X7_reads_54 (by decide) ?_
          exact ev_sub (hk15 (x2 + (1 : Int32), q2.2) h) (And.intro rfl (And.intro rfl (And.intro rfl trivial)))
def fX7_reads (N : Nat) (G : pG) (a0 : Nat) (a1 : Nat) (σ : pS) : Option (Int32 × pS) := (fX9_open N G a0 σ).bind (fun q3 => if (q3.1 a0 1) = 0 then (some ((1 : Int32), q3)) else (fX7_reads_b15 N G a0 a1 ((0 : Int32), q3)))
set_option maxRecDepth 100000 in
set_option maxHeartbeats 4000000 in
theorem tX7_reads {N : Nat} {G : pG} {SK : Nat → Nat} {a0 : Nat} {a1 : Nat} {σ : pS} {r : Int32 × pS} (hW : WT G) (i0 : Is G a0 8) (i1 : Is G a1 9) (h : fX7_reads N G a0 a1 σ = some r) : Dn miX7_reads yX7_reads 13 G SK [.ref a0, .ref a1] σ (some (.int r.1)) r.2 := by
  unfold fX7_reads at h
  refine dn_of (lv := [some (.ref a0), some (.ref a1), none]) (by decide) rfl rfl (Nat.le_of_ble_eq_true rfl) rfl ?_
  refine ev_aload_n dc_X7_reads_0 rfl ?_
  obtain ⟨q3, hq3, h⟩ := Option.bind_eq_some_iff.mp h
  refine ev_callV (av := []) (st := []) (st1 := []) dc_X7_reads_1 (tX9_open hW i0 hq3) mw_686 cy_X9_open i0 (by decide) rfl rfl rfl rfl (Nat.le_of_ble_eq_true rfl) (Nat.le_of_ble_eq_true rfl) ⟨Nat.le_refl _, Nat.le_refl _⟩ ?_
  refine ev_aload_n dc_X7_reads_4 rfl ?_
  refine ev_getI dc_X7_reads_5 fi_X7_14 rfl i0 ?_
  refine ev_if_ne (tgt := 13) dc_X7_reads_8 (by decide) h (fun h => ?_) (fun h => ?_)
  · refine ev_iconst (v := 1) dc_X7_reads_11 (by decide) ?_
    cases h
    exact ev_zretc dc_X7_reads_12 rfl rfl rfl rfl
  · refine ev_iconst (v := 0) dc_X7_reads_13 (by decide) ?_
    refine ev_istore_n (lv' := [some (.ref a0), some (.ref a1), some (.int (0 : Int32))]) dc_X7_reads_14 rfl (by decide) rfl ?_
    exact ev_sub (tX7_reads_b15 (b := ((0 : Int32), q3)) hW i0 i1 h) (And.intro rfl (And.intro rfl (And.intro rfl trivial)))
theorem dc_X11_alike_0 : Dc miX11_alike 0 (.iconst 0) 1 1 := ⟨by decide +kernel, rfl⟩
theorem dc_X11_alike_1 : Dc miX11_alike 1 (.istore_n 1) 1 2 := ⟨by decide +kernel, rfl⟩
theorem dc_X11_alike_2 : Dc miX11_alike 2 (.iconst 0) 1 3 := ⟨by decide +kernel, rfl⟩
theorem dc_X11_alike_3 : Dc miX11_alike 3 (.istore_n 2) 1 4 := ⟨by decide +kernel, rfl⟩
theorem dc_X11_alike_4 : Dc miX11_alike 4 (.iload_n 2) 1 5 := ⟨by decide +kernel, rfl⟩
theorem dc_X11_alike_5 : Dc miX11_alike 5 (.aload_n 0) 1 6 := ⟨by decide +kernel, rfl⟩
theorem dc_X11_alike_6 : Dc miX11_alike 6 (.getfield 19) 3 9 := ⟨by decide +kernel, rfl⟩
theorem dc_X11_alike_9 : Dc miX11_alike 9 (.getfield 104) 3 12 := ⟨by decide +kernel, rfl⟩
theorem dc_X11_alike_12 : Dc miX11_alike 12 (.getfield 248) 3 15 := ⟨by decide +kernel, rfl⟩
theorem dc_X11_alike_15 : Dc miX11_alike 15 (.if_icmp .ge 45) 3 18 := ⟨by decide +kernel, rfl⟩
theorem dc_X11_alike_18 : Dc miX11_alike 18 (.iconst 0) 1 19 := ⟨by decide +kernel, rfl⟩
theorem dc_X11_alike_19 : Dc miX11_alike 19 (.istore_n 3) 1 20 := ⟨by decide +kernel, rfl⟩
theorem dc_X11_alike_20 : Dc miX11_alike 20 (.iload_n 3) 1 21 := ⟨by decide +kernel, rfl⟩
theorem dc_X11_alike_21 : Dc miX11_alike 21 (.iload_n 2) 1 22 := ⟨by decide +kernel, rfl⟩
theorem dc_X11_alike_22 : Dc miX11_alike 22 (.if_icmp .ge 32) 3 25 := ⟨by decide +kernel, rfl⟩
theorem dc_X11_alike_25 : Dc miX11_alike 25 (.iload_n 1) 1 26 := ⟨by decide +kernel, rfl⟩
theorem dc_X11_alike_26 : Dc miX11_alike 26 (.aload_n 0) 1 27 := ⟨by decide +kernel, rfl⟩
theorem dc_X11_alike_27 : Dc miX11_alike 27 (.getfield 19) 3 30 := ⟨by decide +kernel, rfl⟩
theorem dc_X11_alike_30 : Dc miX11_alike 30 (.getfield 104) 3 33 := ⟨by decide +kernel, rfl⟩
theorem dc_X11_alike_33 : Dc miX11_alike 33 (.iload_n 2) 1 34 := ⟨by decide +kernel, rfl⟩
theorem dc_X11_alike_34 : Dc miX11_alike 34 (.iload_n 3) 1 35 := ⟨by decide +kernel, rfl⟩
theorem dc_X11_alike_35 : Dc miX11_alike 35 (.invokevirtual 340) 3 38 := ⟨by decide +kernel, rfl⟩
theorem dc_X11_alike_38 : Dc miX11_alike 38 (.ifCond .ne 7) 3 41 := ⟨by decide +kernel, rfl⟩
theorem dc_X11_alike_41 : Dc miX11_alike 41 (.iconst 1) 1 42 := ⟨by decide +kernel, rfl⟩
theorem dc_X11_alike_42 : Dc miX11_alike 42 (.goto 4) 3 45 := ⟨by decide +kernel, rfl⟩
theorem dc_X11_alike_45 : Dc miX11_alike 45 (.iconst 0) 1 46 := ⟨by decide +kernel, rfl⟩
theorem dc_X11_alike_46 : Dc miX11_alike 46 (.iadd) 1 47 := ⟨by decide +kernel, rfl⟩
theorem dc_X11_alike_47 : Dc miX11_alike 47 (.istore_n 1) 1 48 := ⟨by decide +kernel, rfl⟩
theorem dc_X11_alike_48 : Dc miX11_alike 48 (.iinc 3 1) 3 51 := ⟨by decide +kernel, rfl⟩
theorem dc_X11_alike_51 : Dc miX11_alike 51 (.goto (-31)) 3 54 := ⟨by decide +kernel, rfl⟩
theorem dc_X11_alike_54 : Dc miX11_alike 54 (.iinc 2 1) 3 57 := ⟨by decide +kernel, rfl⟩
theorem dc_X11_alike_57 : Dc miX11_alike 57 (.goto (-53)) 3 60 := ⟨by decide +kernel, rfl⟩
theorem dc_X11_alike_60 : Dc miX11_alike 60 (.iload_n 1) 1 61 := ⟨by decide +kernel, rfl⟩
theorem dc_X11_alike_61 : Dc miX11_alike 61 (.ireturn) 1 62 := ⟨by decide +kernel, rfl⟩
def fX11_alike_b20 (N : Nat) (G : pG) (k4 : Int32 × Int32 → Option (Int32)) (a0 : Nat) (x2 : Int32) (σ : pS) : (Int32 × Int32) → Option (Int32) := lp (fun (k20 : Int32 × Int32 → Option (Int32)) (b : Int32 × Int32) => if x2 ≤ b.2 then (k4 (b.1, x2 + (1 : Int32))) else ((fX8_difference N G (pR G (pR G a0 1) 0) x2 b.2 σ).bind (fun q1 => if q1 = 0 then (k20 (b.1 + (1 : Int32), b.2 + (1 : Int32))) else (k20 (b.1 + (0 : Int32), b.2 + (1 : Int32)))))) N
set_option maxRecDepth 100000 in
set_option maxHeartbeats 4000000 in
theorem tX11_alike_b20 {N : Nat} {G : pG} {SK : Nat → Nat} {k4 : Int32 × Int32 → Option (Int32)} {a0 : Nat} {x2 : Int32} {σ : pS} {b : Int32 × Int32} {r : Int32} (hW : WT G) (i0 : Is G a0 10) (hk4 : ∀ b : Int32 × Int32, k4 b = some r → Ev miX11_alike (3, 0, 0) G (Zp G (some (.int r)) σ) SK (0, 0) 4 [some (.ref a0), some (.int b.1), some (.int b.2), none] [] σ) (h : fX11_alike_b20 N G k4 a0 x2 σ b = some r) : Ev miX11_alike (3, 0, 0) G (Zp G (some (.int r)) σ) SK (0, 0) 20 [some (.ref a0), some (.int b.1), some (.int x2), some (.int b.2)] [] σ := by
  unfold fX11_alike_b20 at h
  refine lp_ind (P := fun b r9 => r9 = r → Ev miX11_alike (3, 0, 0) G (Zp G (some (.int r)) σ) SK (0, 0) 20 [some (.ref a0), some (.int b.1), some (.int x2), some (.int b.2)] [] σ) (fun k20 b r9 ih h9 e9 => ?_) N b r h rfl
  clear h
  subst e9
  have h := h9
  clear h9
  have hk20 : ∀ b : Int32 × Int32, k20 b = some r9 → Ev miX11_alike (3, 0, 0) G (Zp G (some (.int r9)) σ) SK (0, 0) 20 [some (.ref a0), some (.int b.1), some (.int x2), some (.int b.2)] [] σ := fun b hb => ih b r9 hb rfl
  clear ih
  obtain ⟨x1, x3⟩ := b
  dsimp only at h ⊢
  refine ev_iload_n dc_X11_alike_20 rfl ?_
  refine ev_iload_n dc_X11_alike_21 rfl ?_
  refine ev_icmp_ge (tgt := 54) dc_X11_alike_22 (by decide) h (fun h => ?_) (fun h => ?_)
  · refine ev_iinc (v := 1) (lv' := [some (.ref a0), some (.int x1), some (.int (x2 + (1 : Int32))), some (.int x3)]) dc_X11_alike_54 rfl (by decide) rfl (by decide) rfl ?_
    refine ev_goto (tgt := 4) dc_X11_alike_57 (by decide) ?_
    exact ev_sub (hk4 (x1, x2 + (1 : Int32)) h) (And.intro rfl (And.intro rfl (And.intro rfl trivial)))
  · refine ev_iload_n dc_X11_alike_25 rfl ?_
    refine ev_aload_n dc_X11_alike_26 rfl ?_
    refine ev_getR dc_X11_alike_27 fi_X11_19 rfl i0 ?_
    refine ev_getR dc_X11_alike_30 fi_X11_104 rfl (wt hW i0 1 rfl rfl) ?_
    refine ev_iload_n dc_X11_alike_33 rfl ?_
    refine ev_iload_n dc_X11_alike_34 rfl ?_
    obtain ⟨q1, hq1, h⟩ := Option.bind_eq_some_iff.mp h
    refine ev_callV (av := [.int x2, .int x3]) (st := [.int x1]) (st1 := [.int q1, .int x1]) dc_X11_alike_35 (tX8_difference hW (wt hW (wt hW i0 1 rfl rfl) 0 rfl rfl) hq1) mw_558 cy_X8_difference (wt hW (wt hW i0 1 rfl rfl) 0 rfl rfl) (by decide) rfl rfl rfl rfl (Nat.le_of_ble_eq_true rfl) (Nat.le_of_ble_eq_true rfl) ⟨Nat.le_refl _, Nat.le_refl _⟩ ?_
    refine ev_if_ne (tgt := 45) dc_X11_alike_38 (by decide) h (fun h => ?_) (fun h => ?_)
    · refine ev_iconst (v := 1) dc_X11_alike_41 (by decide) ?_
      refine ev_goto (tgt := 46) dc_X11_alike_42 (by decide) ?_
      refine ev_iadd dc_X11_alike_46 ?_
      refine ev_istore_n (lv' := [some (.ref a0), some (.int (x1 + (1 : Int32))), some (.int x2), some (.int x3)]) dc_X11_alike_47 rfl (by decide) rfl ?_
      refine ev_iinc (v := 1) (lv' := [some (.ref a0), some (.int (x1 + (1 : Int32))), some (.int x2), some (.int (x3 + (1 : Int32)))]) dc_X11_alike_48 rfl (by decide) rfl (by decide) rfl ?_
      refine ev_goto (tgt := 20) dc_X11_alike_51 (by decide) ?_
      exact ev_sub (hk20 (x1 + (1 : Int32), x3 + (1 : Int32)) h) (And.intro rfl (And.intro rfl (And.intro rfl (And.intro rfl trivial))))
    · refine ev_iconst (v := 0) dc_X11_alike_45 (by decide) ?_
      refine ev_iadd dc_X11_alike_46 ?_
      refine ev_istore_n (lv' := [some (.ref a0), some (.int (x1 + (0 : Int32))), some (.int x2), some (.int x3)]) dc_X11_alike_47 rfl (by decide) rfl ?_
      refine ev_iinc (v := 1) (lv' := [some (.ref a0), some (.int (x1 + (0 : Int32))), some (.int x2), some (.int (x3 + (1 : Int32)))]) dc_X11_alike_48 rfl (by decide) rfl (by decide) rfl ?_
      refine ev_goto (tgt := 20) dc_X11_alike_51 (by decide) ?_
      exact ev_sub (hk20 (x1 + (0 : Int32), x3 + (1 : Int32)) h) (And.intro rfl (And.intro rfl (And.intro rfl (And.intro rfl trivial))))
def fX11_alike_b4 (N : Nat) (G : pG) (a0 : Nat) (σ : pS) : (Int32 × Int32) → Option (Int32) := lp (fun (k4 : Int32 × Int32 → Option (Int32)) (b : Int32 × Int32) => if (σ.1 (pR G (pR G a0 1) 0) 1) ≤ b.2 then (some b.1) else (fX11_alike_b20 N G k4 a0 b.2 σ (b.1, (0 : Int32)))) N
set_option maxRecDepth 100000 in
set_option maxHeartbeats 4000000 in
theorem tX11_alike_b4 {N : Nat} {G : pG} {SK : Nat → Nat} {a0 : Nat} {σ : pS} {b : Int32 × Int32} {r : Int32} (hW : WT G) (i0 : Is G a0 10) (h : fX11_alike_b4 N G a0 σ b = some r) : Ev miX11_alike (3, 0, 0) G (Zp G (some (.int r)) σ) SK (0, 0) 4 [some (.ref a0), some (.int b.1), some (.int b.2), none] [] σ := by
  unfold fX11_alike_b4 at h
  refine lp_ind (P := fun b r9 => r9 = r → Ev miX11_alike (3, 0, 0) G (Zp G (some (.int r)) σ) SK (0, 0) 4 [some (.ref a0), some (.int b.1), some (.int b.2), none] [] σ) (fun k4 b r9 ih h9 e9 => ?_) N b r h rfl
  clear h
  subst e9
  have h := h9
  clear h9
  have hk4 : ∀ b : Int32 × Int32, k4 b = some r9 → Ev miX11_alike (3, 0, 0) G (Zp G (some (.int r9)) σ) SK (0, 0) 4 [some (.ref a0), some (.int b.1), some (.int b.2), none] [] σ := fun b hb => ih b r9 hb rfl
  clear ih
  obtain ⟨x1, x2⟩ := b
  dsimp only at h ⊢
  refine ev_iload_n dc_X11_alike_4 rfl ?_
  refine ev_aload_n dc_X11_alike_5 rfl ?_
  refine ev_getR dc_X11_alike_6 fi_X11_19 rfl i0 ?_
  refine ev_getR dc_X11_alike_9 fi_X11_104 rfl (wt hW i0 1 rfl rfl) ?_
  refine ev_getI dc_X11_alike_12 fi_X11_248 rfl (wt hW (wt hW i0 1 rfl rfl) 0 rfl rfl) ?_
  refine ev_icmp_ge (tgt := 60) dc_X11_alike_15 (by decide) h (fun h => ?_) (fun h => ?_)
  · refine ev_iload_n dc_X11_alike_60 rfl ?_
    cases h
    exact ev_iret dc_X11_alike_61 rfl rfl rfl
  · refine ev_iconst (v := 0) dc_X11_alike_18 (by decide) ?_
    refine ev_istore_n (lv' := [some (.ref a0), some (.int x1), some (.int x2), some (.int (0 : Int32))]) dc_X11_alike_19 rfl (by decide) rfl ?_
    exact ev_sub (tX11_alike_b20 (b := (x1, (0 : Int32))) hW i0 hk4 h) (And.intro rfl (And.intro rfl (And.intro rfl (And.intro rfl trivial))))
def fX11_alike (N : Nat) (G : pG) (a0 : Nat) (σ : pS) : Option (Int32) := fX11_alike_b4 N G a0 σ ((0 : Int32), (0 : Int32))
set_option maxRecDepth 100000 in
set_option maxHeartbeats 4000000 in
theorem tX11_alike {N : Nat} {G : pG} {SK : Nat → Nat} {a0 : Nat} {σ : pS} {r : Int32} (hW : WT G) (i0 : Is G a0 10) (h : fX11_alike N G a0 σ = some r) : Dn miX11_alike yX11_alike 3 G SK [.ref a0] σ (some (.int r)) σ := by
  unfold fX11_alike at h
  refine dn_of (lv := [some (.ref a0), none, none, none]) (by decide) rfl rfl (Nat.le_of_ble_eq_true rfl) rfl ?_
  refine ev_iconst (v := 0) dc_X11_alike_0 (by decide) ?_
  refine ev_istore_n (lv' := [some (.ref a0), some (.int (0 : Int32)), none, none]) dc_X11_alike_1 rfl (by decide) rfl ?_
  refine ev_iconst (v := 0) dc_X11_alike_2 (by decide) ?_
  refine ev_istore_n (lv' := [some (.ref a0), some (.int (0 : Int32)), some (.int (0 : Int32)), none]) dc_X11_alike_3 rfl (by decide) rfl ?_
  exact ev_sub (tX11_alike_b4 (b := ((0 : Int32), (0 : Int32))) hW i0 h) (And.intro rfl (And.intro rfl (And.intro rfl trivial)))
