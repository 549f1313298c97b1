theorem dc_X12_readStoryLine_0 : Dc miX12_readStoryLine 0 (.aload_n 0) 1 1 := ⟨by decide +kernel, rfl⟩
theorem dc_X12_readStoryLine_1 : Dc miX12_readStoryLine 1 (.ldc 157) 2 3 := ⟨by decide +kernel, rfl⟩
theorem dc_X12_readStoryLine_3 : Dc miX12_readStoryLine 3 (.invokevirtual 115) 3 6 := ⟨by decide +kernel, rfl⟩
theorem dc_X12_readStoryLine_6 : Dc miX12_readStoryLine 6 (.ifCond .eq 8) 3 9 := ⟨by decide +kernel, rfl⟩
theorem dc_X12_readStoryLine_9 : Dc miX12_readStoryLine 9 (.aload_n 0) 1 10 := ⟨by decide +kernel, rfl⟩
theorem dc_X12_readStoryLine_10 : Dc miX12_readStoryLine 10 (.invokevirtual 159) 3 13 := ⟨by decide +kernel, rfl⟩
theorem dc_X12_readStoryLine_13 : Dc miX12_readStoryLine 13 (.ireturn) 1 14 := ⟨by decide +kernel, rfl⟩
theorem dc_X12_readStoryLine_14 : Dc miX12_readStoryLine 14 (.aload_n 0) 1 15 := ⟨by decide +kernel, rfl⟩
theorem dc_X12_readStoryLine_15 : Dc miX12_readStoryLine 15 (.ldc 163) 2 17 := ⟨by decide +kernel, rfl⟩
theorem dc_X12_readStoryLine_17 : Dc miX12_readStoryLine 17 (.invokevirtual 115) 3 20 := ⟨by decide +kernel, rfl⟩
theorem dc_X12_readStoryLine_20 : Dc miX12_readStoryLine 20 (.ifCond .eq 8) 3 23 := ⟨by decide +kernel, rfl⟩
theorem dc_X12_readStoryLine_23 : Dc miX12_readStoryLine 23 (.aload_n 0) 1 24 := ⟨by decide +kernel, rfl⟩
theorem dc_X12_readStoryLine_24 : Dc miX12_readStoryLine 24 (.invokevirtual 165) 3 27 := ⟨by decide +kernel, rfl⟩
theorem dc_X12_readStoryLine_27 : Dc miX12_readStoryLine 27 (.ireturn) 1 28 := ⟨by decide +kernel, rfl⟩
theorem dc_X12_readStoryLine_28 : Dc miX12_readStoryLine 28 (.aload_n 0) 1 29 := ⟨by decide +kernel, rfl⟩
theorem dc_X12_readStoryLine_29 : Dc miX12_readStoryLine 29 (.ldc 168) 2 31 := ⟨by decide +kernel, rfl⟩
theorem dc_X12_readStoryLine_31 : Dc miX12_readStoryLine 31 (.invokevirtual 115) 3 34 := ⟨by decide +kernel, rfl⟩
theorem dc_X12_readStoryLine_34 : Dc miX12_readStoryLine 34 (.ifCond .eq 8) 3 37 := ⟨by decide +kernel, rfl⟩
theorem dc_X12_readStoryLine_37 : Dc miX12_readStoryLine 37 (.aload_n 0) 1 38 := ⟨by decide +kernel, rfl⟩
theorem dc_X12_readStoryLine_38 : Dc miX12_readStoryLine 38 (.invokevirtual 170) 3 41 := ⟨by decide +kernel, rfl⟩
theorem dc_X12_readStoryLine_41 : Dc miX12_readStoryLine 41 (.ireturn) 1 42 := ⟨by decide +kernel, rfl⟩
theorem dc_X12_readStoryLine_42 : Dc miX12_readStoryLine 42 (.aload_n 0) 1 43 := ⟨by decide +kernel, rfl⟩
theorem dc_X12_readStoryLine_43 : Dc miX12_readStoryLine 43 (.ldc 173) 2 45 := ⟨by decide +kernel, rfl⟩
theorem dc_X12_readStoryLine_45 : Dc miX12_readStoryLine 45 (.invokevirtual 115) 3 48 := ⟨by decide +kernel, rfl⟩
theorem dc_X12_readStoryLine_48 : Dc miX12_readStoryLine 48 (.ifCond .eq 9) 3 51 := ⟨by decide +kernel, rfl⟩
theorem dc_X12_readStoryLine_51 : Dc miX12_readStoryLine 51 (.aload_n 0) 1 52 := ⟨by decide +kernel, rfl⟩
theorem dc_X12_readStoryLine_52 : Dc miX12_readStoryLine 52 (.iconst 0) 1 53 := ⟨by decide +kernel, rfl⟩
theorem dc_X12_readStoryLine_53 : Dc miX12_readStoryLine 53 (.invokevirtual 175) 3 56 := ⟨by decide +kernel, rfl⟩
theorem dc_X12_readStoryLine_56 : Dc miX12_readStoryLine 56 (.ireturn) 1 57 := ⟨by decide +kernel, rfl⟩
theorem dc_X12_readStoryLine_57 : Dc miX12_readStoryLine 57 (.aload_n 0) 1 58 := ⟨by decide +kernel, rfl⟩
theorem dc_X12_readStoryLine_58 : Dc miX12_readStoryLine 58 (.ldc 179) 2 60 := ⟨by decide +kernel, rfl⟩
theorem dc_X12_readStoryLine_60 : Dc miX12_readStoryLine 60 (.invokevirtual 115) 3 63 := ⟨by decide +kernel, rfl⟩
theorem dc_X12_readStoryLine_63 : Dc miX12_readStoryLine 63 (.ifCond .eq 9) 3 66 := ⟨by decide +kernel, rfl⟩
theorem dc_X12_readStoryLine_66 : Dc miX12_readStoryLine 66 (.aload_n 0) 1 67 := ⟨by decide +kernel, rfl⟩
theorem dc_X12_readStoryLine_67 : Dc miX12_readStoryLine 67 (.iconst 1) 1 68 := ⟨by decide +kernel, rfl⟩
theorem dc_X12_readStoryLine_68 : Dc miX12_readStoryLine 68 (.invokevirtual 175) 3 71 := ⟨by decide +kernel, rfl⟩
theorem dc_X12_readStoryLine_71 : Dc miX12_readStoryLine 71 (.ireturn) 1 72 := ⟨by decide +kernel, rfl⟩
theorem dc_X12_readStoryLine_72 : Dc miX12_readStoryLine 72 (.aload_n 0) 1 73 := ⟨by decide +kernel, rfl⟩
theorem dc_X12_readStoryLine_73 : Dc miX12_readStoryLine 73 (.ldc 181) 2 75 := ⟨by decide +kernel, rfl⟩
theorem dc_X12_readStoryLine_75 : Dc miX12_readStoryLine 75 (.invokevirtual 115) 3 78 := ⟨by decide +kernel, rfl⟩
theorem dc_X12_readStoryLine_78 : Dc miX12_readStoryLine 78 (.ifCond .eq 8) 3 81 := ⟨by decide +kernel, rfl⟩
theorem dc_X12_readStoryLine_81 : Dc miX12_readStoryLine 81 (.aload_n 0) 1 82 := ⟨by decide +kernel, rfl⟩
theorem dc_X12_readStoryLine_82 : Dc miX12_readStoryLine 82 (.invokevirtual 183) 3 85 := ⟨by decide +kernel, rfl⟩
theorem dc_X12_readStoryLine_85 : Dc miX12_readStoryLine 85 (.ireturn) 1 86 := ⟨by decide +kernel, rfl⟩
theorem dc_X12_readStoryLine_86 : Dc miX12_readStoryLine 86 (.aload_n 0) 1 87 := ⟨by decide +kernel, rfl⟩
theorem dc_X12_readStoryLine_87 : Dc miX12_readStoryLine 87 (.ldc 186) 2 89 := ⟨by decide +kernel, rfl⟩
theorem dc_X12_readStoryLine_89 : Dc miX12_readStoryLine 89 (.invokevirtual 115) 3 92 := ⟨by decide +kernel, rfl⟩
theorem dc_X12_readStoryLine_92 : Dc miX12_readStoryLine 92 (.ifCond .eq 13) 3 95 := ⟨by decide +kernel, rfl⟩
theorem dc_X12_readStoryLine_95 : Dc miX12_readStoryLine 95 (.aload_n 0) 1 96 := ⟨by decide +kernel, rfl⟩
theorem dc_X12_readStoryLine_96 : Dc miX12_readStoryLine 96 (.bipush 8) 2 98 := ⟨by decide +kernel, rfl⟩
theorem dc_X12_readStoryLine_98 : Dc miX12_readStoryLine 98 (.iconst 1) 1 99 := ⟨by decide +kernel, rfl⟩
theorem dc_X12_readStoryLine_99 : Dc miX12_readStoryLine 99 (.bipush 99) 2 101 := ⟨by decide +kernel, rfl⟩
theorem dc_X12_readStoryLine_101 : Dc miX12_readStoryLine 101 (.invokevirtual 188) 3 104 := ⟨by decide +kernel, rfl⟩
theorem dc_X12_readStoryLine_104 : Dc miX12_readStoryLine 104 (.ireturn) 1 105 := ⟨by decide +kernel, rfl⟩
theorem dc_X12_readStoryLine_105 : Dc miX12_readStoryLine 105 (.aload_n 0) 1 106 := ⟨by decide +kernel, rfl⟩
theorem dc_X12_readStoryLine_106 : Dc miX12_readStoryLine 106 (.ldc 191) 2 108 := ⟨by decide +kernel, rfl⟩
theorem dc_X12_readStoryLine_108 : Dc miX12_readStoryLine 108 (.invokevirtual 115) 3 111 := ⟨by decide +kernel, rfl⟩
theorem dc_X12_readStoryLine_111 : Dc miX12_readStoryLine 111 (.ifCond .eq 14) 3 114 := ⟨by decide +kernel, rfl⟩
theorem dc_X12_readStoryLine_114 : Dc miX12_readStoryLine 114 (.aload_n 0) 1 115 := ⟨by decide +kernel, rfl⟩
theorem dc_X12_readStoryLine_115 : Dc miX12_readStoryLine 115 (.bipush 10) 2 117 := ⟨by decide +kernel, rfl⟩
theorem dc_X12_readStoryLine_117 : Dc miX12_readStoryLine 117 (.iconst 1) 1 118 := ⟨by decide +kernel, rfl⟩
theorem dc_X12_readStoryLine_118 : Dc miX12_readStoryLine 118 (.sipush 400) 3 121 := ⟨by decide +kernel, rfl⟩
theorem dc_X12_readStoryLine_121 : Dc miX12_readStoryLine 121 (.invokevirtual 188) 3 124 := ⟨by decide +kernel, rfl⟩
theorem dc_X12_readStoryLine_124 : Dc miX12_readStoryLine 124 (.ireturn) 1 125 := ⟨by decide +kernel, rfl⟩
theorem dc_X12_readStoryLine_125 : Dc miX12_readStoryLine 125 (.aload_n 0) 1 126 := ⟨by decide +kernel, rfl⟩
theorem dc_X12_readStoryLine_126 : Dc miX12_readStoryLine 126 (.ldc 193) 2 128 := ⟨by decide +kernel, rfl⟩
theorem dc_X12_readStoryLine_128 : Dc miX12_readStoryLine 128 (.invokevirtual 115) 3 131 := ⟨by decide +kernel, rfl⟩
theorem dc_X12_readStoryLine_131 : Dc miX12_readStoryLine 131 (.ifCond .eq 8) 3 134 := ⟨by decide +kernel, rfl⟩
theorem dc_X12_readStoryLine_134 : Dc miX12_readStoryLine 134 (.aload_n 0) 1 135 := ⟨by decide +kernel, rfl⟩
theorem dc_X12_readStoryLine_135 : Dc miX12_readStoryLine 135 (.invokevirtual 195) 3 138 := ⟨by decide +kernel, rfl⟩
theorem dc_X12_readStoryLine_138 : Dc miX12_readStoryLine 138 (.ireturn) 1 139 := ⟨by decide +kernel, rfl⟩
theorem dc_X12_readStoryLine_139 : Dc miX12_readStoryLine 139 (.aload_n 0) 1 140 := ⟨by decide +kernel, rfl⟩
theorem dc_X12_readStoryLine_140 : Dc miX12_readStoryLine 140 (.ldc 198) 2 142 := ⟨by decide +kernel, rfl⟩
theorem dc_X12_readStoryLine_142 : Dc miX12_readStoryLine 142 (.invokevirtual 115) 3 145 := ⟨by decide +kernel, rfl⟩
theorem dc_X12_readStoryLine_145 : Dc miX12_readStoryLine 145 (.ifCond .eq 13) 3 148 := ⟨by decide +kernel, rfl⟩
theorem dc_X12_readStoryLine_148 : Dc miX12_readStoryLine 148 (.aload_n 0) 1 149 := ⟨by decide +kernel, rfl⟩
theorem dc_X12_readStoryLine_149 : Dc miX12_readStoryLine 149 (.bipush 14) 2 151 := ⟨by decide +kernel, rfl⟩
theorem dc_X12_readStoryLine_151 : Dc miX12_readStoryLine 151 (.iconst 0) 1 152 := ⟨by decide +kernel, rfl⟩
theorem dc_X12_readStoryLine_152 : Dc miX12_readStoryLine 152 (.bipush 100) 2 154 := ⟨by decide +kernel, rfl⟩
theorem dc_X12_readStoryLine_154 : Dc miX12_readStoryLine 154 (.invokevirtual 188) 3 157 := ⟨by decide +kernel, rfl⟩
theorem dc_X12_readStoryLine_157 : Dc miX12_readStoryLine 157 (.ireturn) 1 158 := ⟨by decide +kernel, rfl⟩
theorem dc_X12_readStoryLine_158 : Dc miX12_readStoryLine 158 (.aload_n 0) 1 159 := ⟨by decide +kernel, rfl⟩
theorem dc_X12_readStoryLine_159 : Dc miX12_readStoryLine 159 (.ldc 200) 2 161 := ⟨by decide +kernel, rfl⟩
theorem dc_X12_readStoryLine_161 : Dc miX12_readStoryLine 161 (.invokevirtual 115) 3 164 := ⟨by decide +kernel, rfl⟩
theorem dc_X12_readStoryLine_164 : Dc miX12_readStoryLine 164 (.ifCond .eq 19) 3 167 := ⟨by decide +kernel, rfl⟩
theorem dc_X12_readStoryLine_167 : Dc miX12_readStoryLine 167 (.aload_n 0) 1 168 := ⟨by decide +kernel, rfl⟩
theorem dc_X12_readStoryLine_168 : Dc miX12_readStoryLine 168 (.bipush 7) 2 170 := ⟨by decide +kernel, rfl⟩
theorem dc_X12_readStoryLine_170 : Dc miX12_readStoryLine 170 (.iconst 0) 1 171 := ⟨by decide +kernel, rfl⟩
theorem dc_X12_readStoryLine_171 : Dc miX12_readStoryLine 171 (.bipush 99) 2 173 := ⟨by decide +kernel, rfl⟩
theorem dc_X12_readStoryLine_173 : Dc miX12_readStoryLine 173 (.invokevirtual 188) 3 176 := ⟨by decide +kernel, rfl⟩
theorem dc_X12_readStoryLine_176 : Dc miX12_readStoryLine 176 (.ifCond .eq 7) 3 179 := ⟨by decide +kernel, rfl⟩
theorem dc_X12_readStoryLine_179 : Dc miX12_readStoryLine 179 (.iconst 1) 1 180 := ⟨by decide +kernel, rfl⟩
theorem dc_X12_readStoryLine_180 : Dc miX12_readStoryLine 180 (.goto 4) 3 183 := ⟨by decide +kernel, rfl⟩
theorem dc_X12_readStoryLine_183 : Dc miX12_readStoryLine 183 (.iconst 0) 1 184 := ⟨by decide +kernel, rfl⟩
theorem dc_X12_readStoryLine_184 : Dc miX12_readStoryLine 184 (.ireturn) 1 185 := ⟨by decide +kernel, rfl⟩
def fX12_readStoryLine (N : Nat) (G : pG) (a0 : Nat) (σ : pS) : Option (Int32 × pS) := (fX12_isWord N G a0 46 σ).bind (fun q1 => if q1 = 0 then ((fX12_isWord N G a0 48 σ).bind (fun q2 => if q2 = 0 then ((fX12_isWord N G a0 50 σ).bind (fun q3 => if q3 = 0 then ((fX12_isWord N G a0 52 σ).bind (fun q4 => if q4 = 0 then ((fX12_isWord N G a0 53 σ).bind (fun q5 => if q5 = 0 then ((fX12_isWord N G a0 54 σ).bind (fun q6 => if q6 = 0 then ((fX12_isWord N G a0 55 σ).bind (fun q7 => if q7 = 0 then ((fX12_isWord N G a0 56 σ).bind (fun q8 => if q8 = 0 then ((fX12_isWord N G a0 57 σ).bind (fun q9 => if q9 = 0 then ((fX12_isWord N G a0 58 σ).bind (fun q10 => if q10 = 0 then ((fX12_isWord N G a0 59 σ).bind (fun q11 => if q11 = 0 then (some ((0 : Int32), σ)) else ((fX12_readNumber N G a0 (7 : Int32) (0 : Int32) (99 : Int32) σ).bind (fun q12 => if q12.1 = 0 then (some ((0 : Int32), q12.2)) else (some ((1 : Int32), q12.2)))))) else ((fX12_readNumber N G a0 (14 : Int32) (0 : Int32) (100 : Int32) σ).bind (fun q13 => ck (isZ q13.1) (some (q13.1, q13.2)))))) else ((fX12_readHis N G a0 σ).bind (fun q14 => ck (isZ q14.1) (some (q14.1, q14.2)))))) else ((fX12_readNumber N G a0 (10 : Int32) (1 : Int32) (400 : Int32) σ).bind (fun q15 => ck (isZ q15.1) (some (q15.1, q15.2)))))) else ((fX12_readNumber N G a0 (8 : Int32) (1 : Int32) (99 : Int32) σ).bind (fun q16 => ck (isZ q16.1) (some (q16.1, q16.2)))))) else ((fX12_readDuty N G a0 σ).bind (fun q17 => ck (isZ q17.1) (some (q17.1, q17.2)))))) else ((fX12_readWho N G a0 (1 : Int32) σ).bind (fun q18 => ck (isZ q18.1) (some (q18.1, q18.2)))))) else ((fX12_readWho N G a0 (0 : Int32) σ).bind (fun q19 => ck (isZ q19.1) (some (q19.1, q19.2)))))) else ((fX12_readDeed N G a0 σ).bind (fun q20 => ck (isZ q20.1) (some (q20.1, q20.2)))))) else ((fX12_readWord N G a0 σ).bind (fun q21 => ck (isZ q21.1) (some (q21.1, q21.2)))))) else ((fX12_readName N G a0 σ).bind (fun q22 => ck (isZ q22.1) (some (q22.1, q22.2)))))
set_option maxRecDepth 100000 in
set_option maxHeartbeats 4000000 in
theorem tX12_readStoryLine {N : Nat} {G : pG} {SK : Nat → Nat} {a0 : Nat} {σ : pS} {r : Int32 × pS} (hW : WT G) (i0 : Is G a0 11) (h : fX12_readStoryLine N G a0 σ = some r) : Dn miX12_readStoryLine yX12_readStoryLine 12 G SK [.ref a0] σ (some (.int r.1)) r.2 := by
  unfold fX12_readStoryLine at h
  refine dn_of (lv := [some (.ref a0)]) (by decide) rfl rfl (Nat.le_of_ble_eq_true rfl) rfl ?_
  refine ev_aload_n dc_X12_readStoryLine_0 rfl ?_
  refine ev_ldcS (sid := 46) (tx := "name") dc_X12_readStoryLine_1 (List.mem_of_getElem? (i := 46) rfl) ?_
  obtain ⟨q1, hq1, h⟩ := Option.bind_eq_some_iff.mp h
  refine ev_callV (av := [.ref (SK 46)]) (st := []) (st1 := [.int q1]) dc_X12_readStoryLine_3 (tX12_isWord hW i0 rfl hq1) mw_1638 cy_X12_isWord i0 (by decide) rfl rfl rfl rfl (Nat.le_of_ble_eq_true rfl) (Nat.le_of_ble_eq_true rfl) ⟨Nat.le_refl _, Nat.le_refl _⟩ ?_
  refine ev_if_eq (tgt := 14) dc_X12_readStoryLine_6 (by decide) h (fun h => ?_) (fun h => ?_)
  · refine ev_aload_n dc_X12_readStoryLine_14 rfl ?_
    refine ev_ldcS (sid := 48) (tx := "word") dc_X12_readStoryLine_15 (List.mem_of_getElem? (i := 48) rfl) ?_
    obtain ⟨q2, hq2, h⟩ := Option.bind_eq_some_iff.mp h
    refine ev_callV (av := [.ref (SK 48)]) (st := []) (st1 := [.int q2]) dc_X12_readStoryLine_17 (tX12_isWord hW i0 rfl hq2) mw_1638 cy_X12_isWord i0 (by decide) rfl rfl rfl rfl (Nat.le_of_ble_eq_true rfl) (Nat.le_of_ble_eq_true rfl) ⟨Nat.le_refl _, Nat.le_refl _⟩ ?_
    refine ev_if_eq (tgt := 28) dc_X12_readStoryLine_20 (by decide) h (fun h => ?_) (fun h => ?_)
    · refine ev_aload_n dc_X12_readStoryLine_28 rfl ?_
      refine ev_ldcS (sid := 50) (tx := "deed") dc_X12_readStoryLine_29 (List.mem_of_getElem? (i := 50) rfl) ?_
      obtain ⟨q3, hq3, h⟩ := Option.bind_eq_some_iff.mp h
      refine ev_callV (av := [.ref (SK 50)]) (st := []) (st1 := [.int q3]) dc_X12_readStoryLine_31 (tX12_isWord hW i0 rfl hq3) mw_1638 cy_X12_isWord i0 (by decide) rfl rfl rfl rfl (Nat.le_of_ble_eq_true rfl) (Nat.le_of_ble_eq_true rfl) ⟨Nat.le_refl _, Nat.le_refl _⟩ ?_
      refine ev_if_eq (tgt := 42) dc_X12_readStoryLine_34 (by decide) h (fun h => ?_) (fun h => ?_)
      · refine ev_aload_n dc_X12_readStoryLine_42 rfl ?_
        refine ev_ldcS (sid := 52) (tx := "friend") dc_X12_readStoryLine_43 (List.mem_of_getElem? (i := 52) rfl) ?_
        obtain ⟨q4, hq4, h⟩ := Option.bind_eq_some_iff.mp h
        refine ev_callV (av := [.ref (SK 52)]) (st := []) (st1 := [.int q4]) dc_X12_readStoryLine_45 (tX12_isWord hW i0 rfl hq4) mw_1638 cy_X12_isWord i0 (by decide) rfl rfl rfl rfl (Nat.le_of_ble_eq_true rfl) (Nat.le_of_ble_eq_true rfl) ⟨Nat.le_refl _, Nat.le_refl _⟩ ?_
        refine ev_if_eq (tgt := 57) dc_X12_readStoryLine_48 (by decide) h (fun h => ?_) (fun h => ?_)
        · refine ev_aload_n dc_X12_readStoryLine_57 rfl ?_
          refine ev_ldcS (sid := 53) (tx := "enemy") dc_X12_readStoryLine_58 (List.mem_of_getElem? (i := 53) rfl) ?_
          obtain ⟨q5, hq5, h⟩ := Option.bind_eq_some_iff.mp h
          refine ev_callV (av := [.ref (SK 53)]) (st := []) (st1 := [.int q5]) dc_X12_readStoryLine_60 (tX12_isWord hW i0 rfl hq5) mw_1638 cy_X12_isWord i0 (by decide) rfl rfl rfl rfl (Nat.le_of_ble_eq_true rfl) (Nat.le_of_ble_eq_true rfl) ⟨Nat.le_refl _, Nat.le_refl _⟩ ?_
          refine ev_if_eq (tgt := 72) dc_X12_readStoryLine_63 (by decide) h (fun h => ?_) (fun h => ?_)
          · refine ev_aload_n dc_X12_readStoryLine_72 rfl ?_
            refine ev_ldcS (sid := 54) (tx := "duty") dc_X12_readStoryLine_73 (List.mem_of_getElem? (i := 54) rfl) ?_
            obtain ⟨q6, hq6, h⟩ := Option.bind_eq_some_iff.mp h
            refine ev_callV (av := [.ref (SK 54)]) (st := []) (st1 := [.int q6]) dc_X12_readStoryLine_75 (tX12_isWord hW i0 rfl hq6) mw_1638 cy_X12_isWord i0 (by decide) rfl rfl rfl rfl (Nat.le_of_ble_eq_true rfl) (Nat.le_of_ble_eq_true rfl) ⟨Nat.le_refl _, Nat.le_refl _⟩ ?_
            refine ev_if_eq (tgt := 86) dc_X12_readStoryLine_78 (by decide) h (fun h => ?_) (fun h => ?_)
            · refine ev_aload_n dc_X12_readStoryLine_86 rfl ?_
              refine ev_ldcS (sid := 55) (tx := "limit") dc_X12_readStoryLine_87 (List.mem_of_getElem? (i := 55) rfl) ?_
              obtain ⟨q7, hq7, h⟩ := Option.bind_eq_some_iff.mp h
              refine ev_callV (av := [.ref (SK 55)]) (st := []) (st1 := [.int q7]) dc_X12_readStoryLine_89 (tX12_isWord hW i0 rfl hq7) mw_1638 cy_X12_isWord i0 (by decide) rfl rfl rfl rfl (Nat.le_of_ble_eq_true rfl) (Nat.le_of_ble_eq_true rfl) ⟨Nat.le_refl _, Nat.le_refl _⟩ ?_
              refine ev_if_eq (tgt := 105) dc_X12_readStoryLine_92 (by decide) h (fun h => ?_) (fun h => ?_)
              · refine ev_aload_n dc_X12_readStoryLine_105 rfl ?_
                refine ev_ldcS (sid := 56) (tx := "year") dc_X12_readStoryLine_106 (List.mem_of_getElem? (i := 56) rfl) ?_
                obtain ⟨q8, hq8, h⟩ := Option.bind_eq_some_iff.mp h
                refine ev_callV (av := [.ref (SK 56)]) (st := []) (st1 := [.int q8]) dc_X12_readStoryLine_108 (tX12_isWord hW i0 rfl hq8) mw_1638 cy_X12_isWord i0 (by decide) rfl rfl rfl rfl (Nat.le_of_ble_eq_true rfl) (Nat.le_of_ble_eq_true rfl) ⟨Nat.le_refl _, Nat.le_refl _⟩ ?_
                refine ev_if_eq (tgt := 125) dc_X12_readStoryLine_111 (by decide) h (fun h => ?_) (fun h => ?_)
                · refine ev_aload_n dc_X12_readStoryLine_125 rfl ?_
                  refine ev_ldcS (sid := 57) (tx := "his") dc_X12_readStoryLine_126 (List.mem_of_getElem? (i := 57) rfl) ?_
                  obtain ⟨q9, hq9, h⟩ := Option.bind_eq_some_iff.mp h
                  refine ev_callV (av := [.ref (SK 57)]) (st := []) (st1 := [.int q9]) dc_X12_readStoryLine_128 (tX12_isWord hW i0 rfl hq9) mw_1638 cy_X12_isWord i0 (by decide) rfl rfl rfl rfl (Nat.le_of_ble_eq_true rfl) (Nat.le_of_ble_eq_true rfl) ⟨Nat.le_refl _, Nat.le_refl _⟩ ?_
                  refine ev_if_eq (tgt := 139) dc_X12_readStoryLine_131 (by decide) h (fun h => ?_) (fun h => ?_)
                  · refine ev_aload_n dc_X12_readStoryLine_139 rfl ?_
                    refine ev_ldcS (sid := 58) (tx := "talk") dc_X12_readStoryLine_140 (List.mem_of_getElem? (i := 58) rfl) ?_
                    obtain ⟨q10, hq10, h⟩ := Option.bind_eq_some_iff.mp h
                    refine ev_callV (av := [.ref (SK 58)]) (st := []) (st1 := [.int q10]) dc_X12_readStoryLine_142 (tX12_isWord hW i0 rfl hq10) mw_1638 cy_X12_isWord i0 (by decide) rfl rfl rfl rfl (Nat.le_of_ble_eq_true rfl) (Nat.le_of_ble_eq_true rfl) ⟨Nat.le_refl _, Nat.le_refl _⟩ ?_
                    refine ev_if_eq (tgt := 158) dc_X12_readStoryLine_145 (by decide) h (fun h => ?_) (fun h => ?_)
                    · refine ev_aload_n dc_X12_readStoryLine_158 rfl ?_
                      refine ev_ldcS (sid := 59) (tx := "doubt") dc_X12_readStoryLine_159 (List.mem_of_getElem? (i := 59) rfl) ?_
                      obtain ⟨q11, hq11, h⟩ := Option.bind_eq_some_iff.mp h
                      refine ev_callV (av := [.ref (SK 59)]) (st := []) (st1 := [.int q11]) dc_X12_readStoryLine_161 (tX12_isWord hW i0 rfl hq11) mw_1638 cy_X12_isWord i0 (by decide) rfl rfl rfl rfl (Nat.le_of_ble_eq_true rfl) (Nat.le_of_ble_eq_true rfl) ⟨Nat.le_refl _, Nat.le_refl _⟩ ?_
                      refine ev_if_eq (tgt := 183) dc_X12_readStoryLine_164 (by decide) h (fun h => ?_) (fun h => ?_)
                      · refine ev_iconst (v := 0) dc_X12_readStoryLine_183 (by decide) ?_
                        cases h
                        exact ev_zretc dc_X12_readStoryLine_184 rfl rfl rfl rfl
                      · refine ev_aload_n dc_X12_readStoryLine_167 rfl ?_
                        refine ev_bipush (v := 7) dc_X12_readStoryLine_168 (by decide) ?_
                        refine ev_iconst (v := 0) dc_X12_readStoryLine_170 (by decide) ?_
                        refine ev_bipush (v := 99) dc_X12_readStoryLine_171 (by decide) ?_
                        obtain ⟨q12, hq12, h⟩ := Option.bind_eq_some_iff.mp h
                        refine ev_callV (av := [.int (7 : Int32), .int (0 : Int32), .int (99 : Int32)]) (st := []) (st1 := [.int q12.1]) dc_X12_readStoryLine_173 (tX12_readNumber hW i0 hq12) mw_1720 cy_X12_readNumber i0 (by decide) rfl rfl rfl rfl (Nat.le_of_ble_eq_true rfl) (Nat.le_of_ble_eq_true rfl) ⟨Nat.le_refl _, Nat.le_refl _⟩ ?_
                        refine ev_if_eq (tgt := 183) dc_X12_readStoryLine_176 (by decide) h (fun h => ?_) (fun h => ?_)
                        · refine ev_iconst (v := 0) dc_X12_readStoryLine_183 (by decide) ?_
                          cases h
                          exact ev_zretc dc_X12_readStoryLine_184 rfl rfl rfl rfl
                        · refine ev_iconst (v := 1) dc_X12_readStoryLine_179 (by decide) ?_
                          refine ev_goto (tgt := 184) dc_X12_readStoryLine_180 (by decide) ?_
                          cases h
                          exact ev_zretc dc_X12_readStoryLine_184 rfl rfl rfl rfl
                    · refine ev_aload_n dc_X12_readStoryLine_148 rfl ?_
                      refine ev_bipush (v := 14) dc_X12_readStoryLine_149 (by decide) ?_
                      refine ev_iconst (v := 0) dc_X12_readStoryLine_151 (by decide) ?_
                      refine ev_bipush (v := 100) dc_X12_readStoryLine_152 (by decide) ?_
                      obtain ⟨q13, hq13, h⟩ := Option.bind_eq_some_iff.mp h
                      refine ev_callV (av := [.int (14 : Int32), .int (0 : Int32), .int (100 : Int32)]) (st := []) (st1 := [.int q13.1]) dc_X12_readStoryLine_154 (tX12_readNumber hW i0 hq13) mw_1720 cy_X12_readNumber i0 (by decide) rfl rfl rfl rfl (Nat.le_of_ble_eq_true rfl) (Nat.le_of_ble_eq_true rfl) ⟨Nat.le_refl _, Nat.le_refl _⟩ ?_
                      have h2 := (ck_s h).2
                      cases h2
                      exact ev_zret dc_X12_readStoryLine_157 rfl h rfl rfl
                  · refine ev_aload_n dc_X12_readStoryLine_134 rfl ?_
                    obtain ⟨q14, hq14, h⟩ := Option.bind_eq_some_iff.mp h
                    refine ev_callV (av := []) (st := []) (st1 := [.int q14.1]) dc_X12_readStoryLine_135 (tX12_readHis hW i0 hq14) mw_1726 cy_X12_readHis i0 (by decide) rfl rfl rfl rfl (Nat.le_of_ble_eq_true rfl) (Nat.le_of_ble_eq_true rfl) ⟨Nat.le_refl _, Nat.le_refl _⟩ ?_
                    have h2 := (ck_s h).2
                    cases h2
                    exact ev_zret dc_X12_readStoryLine_138 rfl h rfl rfl
                · refine ev_aload_n dc_X12_readStoryLine_114 rfl ?_
                  refine ev_bipush (v := 10) dc_X12_readStoryLine_115 (by decide) ?_
                  refine ev_iconst (v := 1) dc_X12_readStoryLine_117 (by decide) ?_
                  refine ev_sipush (v := 400) dc_X12_readStoryLine_118 (by decide) ?_
                  obtain ⟨q15, hq15, h⟩ := Option.bind_eq_some_iff.mp h
                  refine ev_callV (av := [.int (10 : Int32), .int (1 : Int32), .int (400 : Int32)]) (st := []) (st1 := [.int q15.1]) dc_X12_readStoryLine_121 (tX12_readNumber hW i0 hq15) mw_1720 cy_X12_readNumber i0 (by decide) rfl rfl rfl rfl (Nat.le_of_ble_eq_true rfl) (Nat.le_of_ble_eq_true rfl) ⟨Nat.le_refl _, Nat.le_refl _⟩ ?_
                  have h2 := (ck_s h).2
                  cases h2
                  exact ev_zret dc_X12_readStoryLine_124 rfl h rfl rfl
              · refine ev_aload_n dc_X12_readStoryLine_95 rfl ?_
                refine ev_bipush (v := 8) dc_X12_readStoryLine_96 (by decide) ?_
                refine ev_iconst (v := 1) dc_X12_readStoryLine_98 (by decide) ?_
                refine ev_bipush (v := 99) dc_X12_readStoryLine_99 (by decide) ?_
                obtain ⟨q16, hq16, h⟩ := Option.bind_eq_some_iff.mp h
                refine ev_callV (av := [.int (8 : Int32), .int (1 : Int32), .int (99 : Int32)]) (st := []) (st1 := [.int q16.1]) dc_X12_readStoryLine_101 (tX12_readNumber hW i0 hq16) mw_1720 cy_X12_readNumber i0 (by decide) rfl rfl rfl rfl (Nat.le_of_ble_eq_true rfl) (Nat.le_of_ble_eq_true rfl) ⟨Nat.le_refl _, Nat.le_refl _⟩ ?_
                have h2 := (ck_s h).2
                cases h2
                exact ev_zret dc_X12_readStoryLine_104 rfl h rfl rfl
            · refine ev_aload_n dc_X12_readStoryLine_81 rfl ?_
              obtain ⟨q17, hq17, h⟩ := Option.bind_eq_some_iff.mp h
              refine ev_callV (av := []) (st := []) (st1 := [.int q17.1]) dc_X12_readStoryLine_82 (tX12_readDuty hW i0 hq17) mw_1711 cy_X12_readDuty i0 (by decide) rfl rfl rfl rfl (Nat.le_of_ble_eq_true rfl) (Nat.le_of_ble_eq_true rfl) ⟨Nat.le_refl _, Nat.le_refl _⟩ ?_
              have h2 := (ck_s h).2
              cases h2
              exact ev_zret dc_X12_readStoryLine_85 rfl h rfl rfl
          · refine ev_aload_n dc_X12_readStoryLine_66 rfl ?_
            refine ev_iconst (v := 1) dc_X12_readStoryLine_67 (by decide) ?_
            obtain ⟨q18, hq18, h⟩ := Option.bind_eq_some_iff.mp h
            refine ev_callV (av := [.int (1 : Int32)]) (st := []) (st1 := [.int q18.1]) dc_X12_readStoryLine_68 (tX12_readWho hW i0 hq18) mw_1701 cy_X12_readWho i0 (by decide) rfl rfl rfl rfl (Nat.le_of_ble_eq_true rfl) (Nat.le_of_ble_eq_true rfl) ⟨Nat.le_refl _, Nat.le_refl _⟩ ?_
            have h2 := (ck_s h).2
            cases h2
            exact ev_zret dc_X12_readStoryLine_71 rfl h rfl rfl
        · refine ev_aload_n dc_X12_readStoryLine_51 rfl ?_
          refine ev_iconst (v := 0) dc_X12_readStoryLine_52 (by decide) ?_
          obtain ⟨q19, hq19, h⟩ := Option.bind_eq_some_iff.mp h
          refine ev_callV (av := [.int (0 : Int32)]) (st := []) (st1 := [.int q19.1]) dc_X12_readStoryLine_53 (tX12_readWho hW i0 hq19) mw_1701 cy_X12_readWho i0 (by decide) rfl rfl rfl rfl (Nat.le_of_ble_eq_true rfl) (Nat.le_of_ble_eq_true rfl) ⟨Nat.le_refl _, Nat.le_refl _⟩ ?_
          have h2 := (ck_s h).2
          cases h2
          exact ev_zret dc_X12_readStoryLine_56 rfl h rfl rfl
      · refine ev_aload_n dc_X12_readStoryLine_37 rfl ?_
        obtain ⟨q20, hq20, h⟩ := Option.bind_eq_some_iff.mp h
        refine ev_callV (av := []) (st := []) (st1 := [.int q20.1]) dc_X12_readStoryLine_38 (tX12_readDeed hW i0 hq20) mw_1691 cy_X12_readDeed i0 (by decide) rfl rfl rfl rfl (Nat.le_of_ble_eq_true rfl) (Nat.le_of_ble_eq_true rfl) ⟨Nat.le_refl _, Nat.le_refl _⟩ ?_
        have h2 := (ck_s h).2
        cases h2
        exact ev_zret dc_X12_readStoryLine_41 rfl h rfl rfl
    · refine ev_aload_n dc_X12_readStoryLine_23 rfl ?_
      obtain ⟨q21, hq21, h⟩ := Option.bind_eq_some_iff.mp h
      refine ev_callV (av := []) (st := []) (st1 := [.int q21.1]) dc_X12_readStoryLine_24 (tX12_readWord hW i0 hq21) mw_1672 cy_X12_readWord i0 (by decide) rfl rfl rfl rfl (Nat.le_of_ble_eq_true rfl) (Nat.le_of_ble_eq_true rfl) ⟨Nat.le_refl _, Nat.le_refl _⟩ ?_
      have h2 := (ck_s h).2
      cases h2
      exact ev_zret dc_X12_readStoryLine_27 rfl h rfl rfl
  · refine ev_aload_n dc_X12_readStoryLine_9 rfl ?_
    obtain ⟨q22, hq22, h⟩ := Option.bind_eq_some_iff.mp h
    refine ev_callV (av := []) (st := []) (st1 := [.int q22.1]) dc_X12_readStoryLine_10 (tX12_readName hW i0 hq22) mw_1644 cy_X12_readName i0 (by decide) rfl rfl rfl rfl (Nat.le_of_ble_eq_true rfl) (Nat.le_of_ble_eq_true rfl) ⟨Nat.le_refl _, Nat.le_refl _⟩ ?_
    have h2 := (ck_s h).2
    cases h2
    exact ev_zret dc_X12_readStoryLine_13 rfl h rfl rfl
theorem dc_X12_readLine_0 : Dc miX12_readLine 0 (.aload_n 0) 1 1 := ⟨by decide +kernel, rfl⟩
theorem dc_X12_readLine_1 : Dc miX12_readLine 1 (.invokevirtual 112) 3 4 := ⟨by decide +kernel, rfl⟩
theorem dc_X12_readLine_4 : Dc miX12_readLine 4 (.iload_n 2) 1 5 := ⟨by decide +kernel, rfl⟩
theorem dc_X12_readLine_5 : Dc miX12_readLine 5 (.iload_n 1) 1 6 := ⟨by decide +kernel, rfl⟩
theorem dc_X12_readLine_6 : Dc miX12_readLine 6 (.ifCond .eq 8) 3 9 := ⟨by decide +kernel, rfl⟩
theorem dc_X12_readLine_9 : Dc miX12_readLine 9 (.bipush 14) 2 11 := ⟨by decide +kernel, rfl⟩
theorem dc_X12_readLine_11 : Dc miX12_readLine 11 (.goto 5) 3 14 := ⟨by decide +kernel, rfl⟩
theorem dc_X12_readLine_14 : Dc miX12_readLine 14 (.bipush 12) 2 16 := ⟨by decide +kernel, rfl⟩
theorem dc_X12_readLine_16 : Dc miX12_readLine 16 (.if_icmp .ge 29) 3 19 := ⟨by decide +kernel, rfl⟩
theorem dc_X12_readLine_19 : Dc miX12_readLine 19 (.iload_n 1) 1 20 := ⟨by decide +kernel, rfl⟩
theorem dc_X12_readLine_20 : Dc miX12_readLine 20 (.ifCond .eq 13) 3 23 := ⟨by decide +kernel, rfl⟩
theorem dc_X12_readLine_23 : Dc miX12_readLine 23 (.aload_n 0) 1 24 := ⟨by decide +kernel, rfl⟩
theorem dc_X12_readLine_24 : Dc miX12_readLine 24 (.invokevirtual 257) 3 27 := ⟨by decide +kernel, rfl⟩
theorem dc_X12_readLine_27 : Dc miX12_readLine 27 (.ifCond .eq 18) 3 30 := ⟨by decide +kernel, rfl⟩
theorem dc_X12_readLine_30 : Dc miX12_readLine 30 (.goto 11) 3 33 := ⟨by decide +kernel, rfl⟩
theorem dc_X12_readLine_33 : Dc miX12_readLine 33 (.aload_n 0) 1 34 := ⟨by decide +kernel, rfl⟩
theorem dc_X12_readLine_34 : Dc miX12_readLine 34 (.iload_n 2) 1 35 := ⟨by decide +kernel, rfl⟩
theorem dc_X12_readLine_35 : Dc miX12_readLine 35 (.invokevirtual 260) 3 38 := ⟨by decide +kernel, rfl⟩
theorem dc_X12_readLine_38 : Dc miX12_readLine 38 (.ifCond .eq 7) 3 41 := ⟨by decide +kernel, rfl⟩
theorem dc_X12_readLine_41 : Dc miX12_readLine 41 (.iconst 1) 1 42 := ⟨by decide +kernel, rfl⟩
theorem dc_X12_readLine_42 : Dc miX12_readLine 42 (.goto 4) 3 45 := ⟨by decide +kernel, rfl⟩
theorem dc_X12_readLine_45 : Dc miX12_readLine 45 (.iconst 0) 1 46 := ⟨by decide +kernel, rfl⟩
theorem dc_X12_readLine_46 : Dc miX12_readLine 46 (.ireturn) 1 47 := ⟨by decide +kernel, rfl⟩
def fX12_readLine_b41 (N : Nat) (G : pG) (σ : pS) : Option (Int32 × pS) := some ((1 : Int32), σ)
set_option maxRecDepth 100000 in
set_option maxHeartbeats 4000000 in
theorem tX12_readLine_b41 {N : Nat} {G : pG} {SK : Nat → Nat} {σ : pS} {r : Int32 × pS} (hW : WT G) (h : fX12_readLine_b41 N G σ = some r) : Ev miX12_readLine (131, 0, 0) G (Zp G (some (.int r.1)) r.2) SK (0, 0) 41 [none, none, none] [] σ := by
  unfold fX12_readLine_b41 at h
  refine ev_iconst (v := 1) dc_X12_readLine_41 (by decide) ?_
  refine ev_goto (tgt := 46) dc_X12_readLine_42 (by decide) ?_
  cases h
  exact ev_zretc dc_X12_readLine_46 rfl rfl rfl rfl
def fX12_readLine_b16 (N : Nat) (G : pG) (a0 : Nat) (a1 : Int32) (a2 : Int32) (y0 : Int32) (y1 : Int32) (σ : pS) : Option (Int32 × pS) := if y1 ≤ y0 then (some ((0 : Int32), σ)) else (if a1 = 0 then ((fX12_readLawLine N G a0 a2 σ).bind (fun q1 => if q1.1 = 0 then (some ((0 : Int32), q1.2)) else (fX12_readLine_b41 N G q1.2))) else ((fX12_readStoryLine N G a0 σ).bind (fun q2 => if q2.1 = 0 then (some ((0 : Int32), q2.2)) else (fX12_readLine_b41 N G q2.2))))
set_option maxRecDepth 100000 in
set_option maxHeartbeats 4000000 in
theorem tX12_readLine_b16 {N : Nat} {G : pG} {SK : Nat → Nat} {a0 : Nat} {a1 : Int32} {a2 : Int32} {y0 : Int32} {y1 : Int32} {σ : pS} {r : Int32 × pS} (hW : WT G) (i0 : Is G a0 11) (h : fX12_readLine_b16 N G a0 a1 a2 y0 y1 σ = some r) : Ev miX12_readLine (131, 0, 0) G (Zp G (some (.int r.1)) r.2) SK (0, 0) 16 [some (.ref a0), some (.int a1), some (.int a2)] [.int y1, .int y0] σ := by
  unfold fX12_readLine_b16 at h
  refine ev_icmp_ge (tgt := 45) dc_X12_readLine_16 (by decide) h (fun h => ?_) (fun h => ?_)
  · refine ev_iconst (v := 0) dc_X12_readLine_45 (by decide) ?_
    cases h
    exact ev_zretc dc_X12_readLine_46 rfl rfl rfl rfl
  · refine ev_iload_n dc_X12_readLine_19 rfl ?_
    refine ev_if_eq (tgt := 33) dc_X12_readLine_20 (by decide) h (fun h => ?_) (fun h => ?_)
    · refine ev_aload_n dc_X12_readLine_33 rfl ?_
      refine ev_iload_n dc_X12_readLine_34 rfl ?_
      obtain ⟨q1, hq1, h⟩ := Option.bind_eq_some_iff.mp h
      refine ev_callV (av := [.int a2]) (st := []) (st1 := [.int q1.1]) dc_X12_readLine_35 (tX12_readLawLine hW i0 hq1) mw_1736 cy_X12_readLawLine i0 (by decide) rfl rfl rfl rfl (Nat.le_of_ble_eq_true rfl) (Nat.le_of_ble_eq_true rfl) ⟨Nat.le_refl _, Nat.le_refl _⟩ ?_
      refine ev_if_eq (tgt := 45) dc_X12_readLine_38 (by decide) h (fun h => ?_) (fun h => ?_)
      · refine ev_iconst (v := 0) dc_X12_readLine_45 (by decide) ?_
        cases h
        exact ev_zretc dc_X12_readLine_46 rfl rfl rfl rfl
      · exact ev_sub (tX12_readLine_b41 hW h) trivial
    · refine ev_aload_n dc_X12_readLine_23 rfl ?_
      obtain ⟨q2, hq2, h⟩ := Option.bind_eq_some_iff.mp h
      refine ev_callV (av := []) (st := []) (st1 := [.int q2.1]) dc_X12_readLine_24 (tX12_readStoryLine hW i0 hq2) mw_1633 cy_X12_readStoryLine i0 (by decide) rfl rfl rfl rfl (Nat.le_of_ble_eq_true rfl) (Nat.le_of_ble_eq_true rfl) ⟨Nat.le_refl _, Nat.le_refl _⟩ ?_
      refine ev_if_eq (tgt := 45) dc_X12_readLine_27 (by decide) h (fun h => ?_) (fun h => ?_)
      · refine ev_iconst (v := 0) dc_X12_readLine_45 (by decide) ?_
        cases h
        exact ev_zretc dc_X12_readLine_46 rfl rfl rfl rfl
      · refine ev_goto (tgt := 41) dc_X12_readLine_30 (by decide) ?_
        exact ev_sub (tX12_readLine_b41 hW h) trivial
def fX12_readLine (N : Nat) (G : pG) (a0 : Nat) (a1 : Int32) (a2 : Int32) (σ : pS) : Option (Int32 × pS) := (fX12_letters N G a0 σ).bind (fun q3 => if a1 = 0 then (fX12_readLine_b16 N G a0 a1 a2 a2 (12 : Int32) q3) else (fX12_readLine_b16 N G a0 a1 a2 a2 (14 : Int32) q3))
set_option maxRecDepth 100000 in
set_option maxHeartbeats 4000000 in
theorem tX12_readLine {N : Nat} {G : pG} {SK : Nat → Nat} {a0 : Nat} {a1 : Int32} {a2 : Int32} {σ : pS} {r : Int32 × pS} (hW : WT G) (i0 : Is G a0 11) (h : fX12_readLine N G a0 a1 a2 σ = some r) : Dn miX12_readLine yX12_readLine 131 G SK [.ref a0, .int a1, .int a2] σ (some (.int r.1)) r.2 := by
  unfold fX12_readLine at h
  refine dn_of (lv := [some (.ref a0), some (.int a1), some (.int a2)]) (by decide) rfl rfl (Nat.le_of_ble_eq_true rfl) rfl ?_
  refine ev_aload_n dc_X12_readLine_0 rfl ?_
  obtain ⟨q3, hq3, h⟩ := Option.bind_eq_some_iff.mp h
  refine ev_callV (av := []) (st := []) (st1 := []) dc_X12_readLine_1 (tX12_letters hW i0 hq3) mw_1629 cy_X12_letters i0 (by decide) rfl rfl rfl rfl (Nat.le_of_ble_eq_true rfl) (Nat.le_of_ble_eq_true rfl) ⟨Nat.le_refl _, Nat.le_refl _⟩ ?_
  refine ev_iload_n dc_X12_readLine_4 rfl ?_
  refine ev_iload_n dc_X12_readLine_5 rfl ?_
  refine ev_if_eq (tgt := 14) dc_X12_readLine_6 (by decide) h (fun h => ?_) (fun h => ?_)
  · refine ev_bipush (v := 12) dc_X12_readLine_14 (by decide) ?_
    exact ev_sub (tX12_readLine_b16 hW i0 h) (And.intro rfl (And.intro rfl (And.intro rfl trivial)))
  · refine ev_bipush (v := 14) dc_X12_readLine_9 (by decide) ?_
    refine ev_goto (tgt := 16) dc_X12_readLine_11 (by decide) ?_
    exact ev_sub (tX12_readLine_b16 hW i0 h) (And.intro rfl (And.intro rfl (And.intro rfl trivial)))
theorem dc_X12_uses_0 : Dc miX12_uses 0 (.aload_n 0) 1 1 := ⟨by decide +kernel, rfl⟩
theorem dc_X12_uses_1 : Dc miX12_uses 1 (.iconst 0) 1 2 := ⟨by decide +kernel, rfl⟩
theorem dc_X12_uses_2 : Dc miX12_uses 2 (.putfield 3) 3 5 := ⟨by decide +kernel, rfl⟩
theorem dc_X12_uses_5 : Dc miX12_uses 5 (.aload_n 0) 1 6 := ⟨by decide +kernel, rfl⟩
theorem dc_X12_uses_6 : Dc miX12_uses 6 (.aload_n 0) 1 7 := ⟨by decide +kernel, rfl⟩
theorem dc_X12_uses_7 : Dc miX12_uses 7 (.getfield 84) 3 10 := ⟨by decide +kernel, rfl⟩
theorem dc_X12_uses_10 : Dc miX12_uses 10 (.putfield 90) 3 13 := ⟨by decide +kernel, rfl⟩
theorem dc_X12_uses_13 : Dc miX12_uses 13 (.aload_n 0) 1 14 := ⟨by decide +kernel, rfl⟩
theorem dc_X12_uses_14 : Dc miX12_uses 14 (.iconst 0) 1 15 := ⟨by decide +kernel, rfl⟩
theorem dc_X12_uses_15 : Dc miX12_uses 15 (.putfield 84) 3 18 := ⟨by decide +kernel, rfl⟩
theorem dc_X12_uses_18 : Dc miX12_uses 18 (.aload_n 0) 1 19 := ⟨by decide +kernel, rfl⟩
theorem dc_X12_uses_19 : Dc miX12_uses 19 (.iconst 0) 1 20 := ⟨by decide +kernel, rfl⟩
theorem dc_X12_uses_20 : Dc miX12_uses 20 (.putfield 87) 3 23 := ⟨by decide +kernel, rfl⟩
theorem dc_X12_uses_23 : Dc miX12_uses 23 (.return_) 1 24 := ⟨by decide +kernel, rfl⟩
def fX12_uses (N : Nat) (G : pG) (a0 : Nat) (σ : pS) : Option (pS) := some (putF (putF (putF (putF σ a0 0 (0 : Int32)) a0 11 ((putF σ a0 0 (0 : Int32)).1 a0 9)) a0 9 (0 : Int32)) a0 10 (0 : Int32))
set_option maxRecDepth 100000 in
set_option maxHeartbeats 4000000 in
theorem tX12_uses {N : Nat} {G : pG} {SK : Nat → Nat} {a0 : Nat} {σ : pS} {r : pS} (hW : WT G) (i0 : Is G a0 11) (h : fX12_uses N G a0 σ = some r) : Dn miX12_uses yX12_uses 1 G SK [.ref a0] σ none r := by
  unfold fX12_uses at h
  refine dn_of (lv := [some (.ref a0)]) (by decide) rfl rfl (Nat.le_of_ble_eq_true rfl) rfl ?_
  refine ev_aload_n dc_X12_uses_0 rfl ?_
  refine ev_iconst (v := 0) dc_X12_uses_1 (by decide) ?_
  refine ev_putI dc_X12_uses_2 fi_X12_3 rfl i0 ?_
  refine ev_aload_n dc_X12_uses_5 rfl ?_
  refine ev_aload_n dc_X12_uses_6 rfl ?_
  refine ev_getI dc_X12_uses_7 fi_X12_84 rfl i0 ?_
  refine ev_putI dc_X12_uses_10 fi_X12_90 rfl i0 ?_
  refine ev_aload_n dc_X12_uses_13 rfl ?_
  refine ev_iconst (v := 0) dc_X12_uses_14 (by decide) ?_
  refine ev_putI dc_X12_uses_15 fi_X12_84 rfl i0 ?_
  refine ev_aload_n dc_X12_uses_18 rfl ?_
  refine ev_iconst (v := 0) dc_X12_uses_19 (by decide) ?_
  refine ev_putI dc_X12_uses_20 fi_X12_87 rfl i0 ?_
  cases h
  exact ev_vret dc_X12_uses_23 rfl rfl rfl
theorem dc_X12_readAll_0 : Dc miX12_readAll 0 (.aload_n 0) 1 1 := ⟨by decide +kernel, rfl⟩
theorem dc_X12_readAll_1 : Dc miX12_readAll 1 (.invokevirtual 263) 3 4 := ⟨by decide +kernel, rfl⟩
theorem dc_X12_readAll_4 : Dc miX12_readAll 4 (.aload_n 0) 1 5 := ⟨by decide +kernel, rfl⟩
theorem dc_X12_readAll_5 : Dc miX12_readAll 5 (.iconst 0) 1 6 := ⟨by decide +kernel, rfl⟩
theorem dc_X12_readAll_6 : Dc miX12_readAll 6 (.putfield 202) 3 9 := ⟨by decide +kernel, rfl⟩
theorem dc_X12_readAll_9 : Dc miX12_readAll 9 (.aload_n 0) 1 10 := ⟨by decide +kernel, rfl⟩
theorem dc_X12_readAll_10 : Dc miX12_readAll 10 (.invokevirtual 100) 3 13 := ⟨by decide +kernel, rfl⟩
theorem dc_X12_readAll_13 : Dc miX12_readAll 13 (.aload_n 0) 1 14 := ⟨by decide +kernel, rfl⟩
theorem dc_X12_readAll_14 : Dc miX12_readAll 14 (.getfield 87) 3 17 := ⟨by decide +kernel, rfl⟩
theorem dc_X12_readAll_17 : Dc miX12_readAll 17 (.aload_n 0) 1 18 := ⟨by decide +kernel, rfl⟩
theorem dc_X12_readAll_18 : Dc miX12_readAll 18 (.getfield 90) 3 21 := ⟨by decide +kernel, rfl⟩
theorem dc_X12_readAll_21 : Dc miX12_readAll 21 (.if_icmp .ne 5) 3 24 := ⟨by decide +kernel, rfl⟩
theorem dc_X12_readAll_24 : Dc miX12_readAll 24 (.iconst 0) 1 25 := ⟨by decide +kernel, rfl⟩
theorem dc_X12_readAll_25 : Dc miX12_readAll 25 (.ireturn) 1 26 := ⟨by decide +kernel, rfl⟩
theorem dc_X12_readAll_26 : Dc miX12_readAll 26 (.iconst 0) 1 27 := ⟨by decide +kernel, rfl⟩
theorem dc_X12_readAll_27 : Dc miX12_readAll 27 (.istore_n 2) 1 28 := ⟨by decide +kernel, rfl⟩
theorem dc_X12_readAll_28 : Dc miX12_readAll 28 (.aload_n 0) 1 29 := ⟨by decide +kernel, rfl⟩
theorem dc_X12_readAll_29 : Dc miX12_readAll 29 (.iload_n 1) 1 30 := ⟨by decide +kernel, rfl⟩
theorem dc_X12_readAll_30 : Dc miX12_readAll 30 (.iload_n 2) 1 31 := ⟨by decide +kernel, rfl⟩
theorem dc_X12_readAll_31 : Dc miX12_readAll 31 (.invokevirtual 266) 3 34 := ⟨by decide +kernel, rfl⟩
theorem dc_X12_readAll_34 : Dc miX12_readAll 34 (.ifCond .ne 5) 3 37 := ⟨by decide +kernel, rfl⟩
theorem dc_X12_readAll_37 : Dc miX12_readAll 37 (.iconst (-1)) 1 38 := ⟨by decide +kernel, rfl⟩
theorem dc_X12_readAll_38 : Dc miX12_readAll 38 (.ireturn) 1 39 := ⟨by decide +kernel, rfl⟩
theorem dc_X12_readAll_39 : Dc miX12_readAll 39 (.aload_n 0) 1 40 := ⟨by decide +kernel, rfl⟩
theorem dc_X12_readAll_40 : Dc miX12_readAll 40 (.invokevirtual 100) 3 43 := ⟨by decide +kernel, rfl⟩
theorem dc_X12_readAll_43 : Dc miX12_readAll 43 (.aload_n 0) 1 44 := ⟨by decide +kernel, rfl⟩
theorem dc_X12_readAll_44 : Dc miX12_readAll 44 (.getfield 87) 3 47 := ⟨by decide +kernel, rfl⟩
theorem dc_X12_readAll_47 : Dc miX12_readAll 47 (.aload_n 0) 1 48 := ⟨by decide +kernel, rfl⟩
theorem dc_X12_readAll_48 : Dc miX12_readAll 48 (.getfield 90) 3 51 := ⟨by decide +kernel, rfl⟩
theorem dc_X12_readAll_51 : Dc miX12_readAll 51 (.if_icmp .ne 7) 3 54 := ⟨by decide +kernel, rfl⟩
theorem dc_X12_readAll_54 : Dc miX12_readAll 54 (.iload_n 2) 1 55 := ⟨by decide +kernel, rfl⟩
theorem dc_X12_readAll_55 : Dc miX12_readAll 55 (.iconst 1) 1 56 := ⟨by decide +kernel, rfl⟩
theorem dc_X12_readAll_56 : Dc miX12_readAll 56 (.iadd) 1 57 := ⟨by decide +kernel, rfl⟩
theorem dc_X12_readAll_57 : Dc miX12_readAll 57 (.ireturn) 1 58 := ⟨by decide +kernel, rfl⟩
theorem dc_X12_readAll_58 : Dc miX12_readAll 58 (.aload_n 0) 1 59 := ⟨by decide +kernel, rfl⟩
theorem dc_X12_readAll_59 : Dc miX12_readAll 59 (.bipush 59) 2 61 := ⟨by decide +kernel, rfl⟩
theorem dc_X12_readAll_61 : Dc miX12_readAll 61 (.bipush 59) 2 63 := ⟨by decide +kernel, rfl⟩
theorem dc_X12_readAll_63 : Dc miX12_readAll 63 (.invokevirtual 93) 3 66 := ⟨by decide +kernel, rfl⟩
theorem dc_X12_readAll_66 : Dc miX12_readAll 66 (.ifCond .ne 5) 3 69 := ⟨by decide +kernel, rfl⟩
theorem dc_X12_readAll_69 : Dc miX12_readAll 69 (.iconst (-1)) 1 70 := ⟨by decide +kernel, rfl⟩
theorem dc_X12_readAll_70 : Dc miX12_readAll 70 (.ireturn) 1 71 := ⟨by decide +kernel, rfl⟩
theorem dc_X12_readAll_71 : Dc miX12_readAll 71 (.aload_n 0) 1 72 := ⟨by decide +kernel, rfl⟩
theorem dc_X12_readAll_72 : Dc miX12_readAll 72 (.dup) 1 73 := ⟨by decide +kernel, rfl⟩
theorem dc_X12_readAll_73 : Dc miX12_readAll 73 (.getfield 87) 3 76 := ⟨by decide +kernel, rfl⟩
theorem dc_X12_readAll_76 : Dc miX12_readAll 76 (.iconst 1) 1 77 := ⟨by decide +kernel, rfl⟩
theorem dc_X12_readAll_77 : Dc miX12_readAll 77 (.iadd) 1 78 := ⟨by decide +kernel, rfl⟩
theorem dc_X12_readAll_78 : Dc miX12_readAll 78 (.putfield 87) 3 81 := ⟨by decide +kernel, rfl⟩
theorem dc_X12_readAll_81 : Dc miX12_readAll 81 (.iinc 2 1) 3 84 := ⟨by decide +kernel, rfl⟩
theorem dc_X12_readAll_84 : Dc miX12_readAll 84 (.goto (-56)) 3 87 := ⟨by decide +kernel, rfl⟩
def fX12_readAll_b28 (N : Nat) (G : pG) (a0 : Nat) (a1 : Int32) : (Int32 × pS) → Option (Int32 × pS) := lp (fun (k28 : Int32 × pS → Option (Int32 × pS)) (b : Int32 × pS) => (fX12_readLine N G a0 a1 b.1 b.2).bind (fun q1 => if q1.1 = 0 then (some ((-1 : Int32), q1.2)) else ((fX12_blanks N G a0 q1.2).bind (fun q2 => if (q2.1 a0 10) = (q2.1 a0 11) then (some (b.1 + (1 : Int32), q2)) else ((fX12_isAt N G a0 (59 : Int32) (59 : Int32) q2).bind (fun q3 => if q3 = 0 then (some ((-1 : Int32), q2)) else (k28 (b.1 + (1 : Int32), putF q2 a0 10 ((q2.1 a0 10) + (1 : Int32)))))))))) N
set_option maxRecDepth 100000 in
set_option maxHeartbeats 4000000 in
theorem tX12_readAll_b28 {N : Nat} {G : pG} {SK : Nat → Nat} {a0 : Nat} {a1 : Int32} {b : Int32 × pS} {r : Int32 × pS} (hW : WT G) (i0 : Is G a0 11) (h : fX12_readAll_b28 N G a0 a1 b = some r) : Ev miX12_readAll (132, 0, 0) G (Zp G (some (.int r.1)) r.2) SK (0, 0) 28 [some (.ref a0), some (.int a1), some (.int b.1)] [] b.2 := by
  unfold fX12_readAll_b28 at h
  refine lp_ind (P := fun b r9 => r9 = r → Ev miX12_readAll (132, 0, 0) G (Zp G (some (.int r.1)) r.2) SK (0, 0) 28 [some (.ref a0), some (.int a1), some (.int b.1)] [] b.2) (fun k28 b r9 ih h9 e9 => ?_) N b r h rfl
  clear h
  subst e9
  have h := h9
  clear h9
  have hk28 : ∀ b : Int32 × pS, k28 b = some r9 → Ev miX12_readAll (132, 0, 0) G (Zp G (some (.int r9.1)) r9.2) SK (0, 0) 28 [some (.ref a0), some (.int a1), some (.int b.1)] [] b.2 := fun b hb => ih b r9 hb rfl
  clear ih
  obtain ⟨x2, σ⟩ := b
  dsimp only at h ⊢
  refine ev_aload_n dc_X12_readAll_28 rfl ?_
  refine ev_iload_n dc_X12_readAll_29 rfl ?_
  refine ev_iload_n dc_X12_readAll_30 rfl ?_
  obtain ⟨q1, hq1, h⟩ := Option.bind_eq_some_iff.mp h
  refine ev_callV (av := [.int a1, .int x2]) (st := []) (st1 := [.int q1.1]) dc_X12_readAll_31 (tX12_readLine hW i0 hq1) mw_1625 cy_X12_readLine i0 (by decide) rfl rfl rfl rfl (Nat.le_of_ble_eq_true rfl) (Nat.le_of_ble_eq_true rfl) ⟨Nat.le_refl _, Nat.le_refl _⟩ ?_
  refine ev_if_ne (tgt := 39) dc_X12_readAll_34 (by decide) h (fun h => ?_) (fun h => ?_)
  · refine ev_iconst (v := (-1)) dc_X12_readAll_37 (by decide) ?_
    cases h
    exact ev_iret dc_X12_readAll_38 rfl rfl rfl
  · refine ev_aload_n dc_X12_readAll_39 rfl ?_
    obtain ⟨q2, hq2, h⟩ := Option.bind_eq_some_iff.mp h
    refine ev_callV (av := []) (st := []) (st1 := []) dc_X12_readAll_40 (tX12_blanks hW i0 hq2) mw_1617 cy_X12_blanks i0 (by decide) rfl rfl rfl rfl (Nat.le_of_ble_eq_true rfl) (Nat.le_of_ble_eq_true rfl) ⟨Nat.le_refl _, Nat.le_refl _⟩ ?_
    refine ev_aload_n dc_X12_readAll_43 rfl ?_
    refine ev_getI dc_X12_readAll_44 fi_X12_87 rfl i0 ?_
    refine ev_aload_n dc_X12_readAll_47 rfl ?_
    refine ev_getI dc_X12_readAll_48 fi_X12_90 rfl i0 ?_
    refine ev_icmp_ne (tgt := 58) dc_X12_readAll_51 (by decide) h (fun h => ?_) (fun h => ?_)
    · refine ev_iload_n dc_X12_readAll_54 rfl ?_
      refine ev_iconst (v := 1) dc_X12_readAll_55 (by decide) ?_
      refine ev_iadd dc_X12_readAll_56 ?_
      cases h
      exact ev_iret dc_X12_readAll_57 rfl rfl rfl
    · refine ev_aload_n dc_X12_readAll_58 rfl ?_
      refine ev_bipush (v := 59) dc_X12_readAll_59 (by decide) ?_
      refine ev_bipush (v := 59) dc_X12_readAll_61 (by decide) ?_
      obtain ⟨q3, hq3, h⟩ := Option.bind_eq_some_iff.mp h
      refine ev_callV (av := [.int (59 : Int32), .int (59 : Int32)]) (st := []) (st1 := [.int q3]) dc_X12_readAll_63 (tX12_isAt hW i0 hq3) mw_1621 cy_X12_isAt i0 (by decide) rfl rfl rfl rfl (Nat.le_of_ble_eq_true rfl) (Nat.le_of_ble_eq_true rfl) ⟨Nat.le_refl _, Nat.le_refl _⟩ ?_
      refine ev_if_ne (tgt := 71) dc_X12_readAll_66 (by decide) h (fun h => ?_) (fun h => ?_)
      · refine ev_iconst (v := (-1)) dc_X12_readAll_69 (by decide) ?_
        cases h
        exact ev_iret dc_X12_readAll_70 rfl rfl rfl
      · refine ev_aload_n dc_X12_readAll_71 rfl ?_
        refine ev_dup dc_X12_readAll_72 rfl ?_
        refine ev_getI dc_X12_readAll_73 fi_X12_87 rfl i0 ?_
        refine ev_iconst (v := 1) dc_X12_readAll_76 (by decide) ?_
        refine ev_iadd dc_X12_readAll_77 ?_
        refine ev_putI dc_X12_readAll_78 fi_X12_87 rfl i0 ?_
        refine ev_iinc (v := 1) (lv' := [some (.ref a0), some (.int a1), some (.int (x2 + (1 : Int32)))]) dc_X12_readAll_81 rfl (by decide) rfl (by decide) rfl ?_
        refine ev_goto (tgt := 28) dc_X12_readAll_84 (by decide) ?_
        exact ev_sub (hk28 (x2 + (1 : Int32), putF q2 a0 10 ((q2.1 a0 10) + (1 : Int32))) h) (And.intro rfl (And.intro rfl (And.intro rfl trivial)))
def fX12_readAll (N : Nat) (G : pG) (a0 : Nat) (a1 : Int32) (σ : pS) : Option (Int32 × pS) := (fX12_uses N G a0 σ).bind (fun q4 => (fX12_blanks N G a0 (putF q4 a0 16 (0 : Int32))).bind (fun q5 => if (q5.1 a0 10) = (q5.1 a0 11) then (some ((0 : Int32), q5)) else (fX12_readAll_b28 N G a0 a1 ((0 : Int32), q5))))
set_option maxRecDepth 100000 in
set_option maxHeartbeats 4000000 in
theorem tX12_readAll {N : Nat} {G : pG} {SK : Nat → Nat} {a0 : Nat} {a1 : Int32} {σ : pS} {r : Int32 × pS} (hW : WT G) (i0 : Is G a0 11) (h : fX12_readAll N G a0 a1 σ = some r) : Dn miX12_readAll yX12_readAll 132 G SK [.ref a0, .int a1] σ (some (.int r.1)) r.2 := by
  unfold fX12_readAll at h
  refine dn_of (lv := [some (.ref a0), some (.int a1), none]) (by decide) rfl rfl (Nat.le_of_ble_eq_true rfl) rfl ?_
  refine ev_aload_n dc_X12_readAll_0 rfl ?_
  obtain ⟨q4, hq4, h⟩ := Option.bind_eq_some_iff.mp h
  refine ev_callV (av := []) (st := []) (st1 := []) dc_X12_readAll_1 (tX12_uses hW i0 hq4) mw_1613 cy_X12_uses i0 (by decide) rfl rfl rfl rfl (Nat.le_of_ble_eq_true rfl) (Nat.le_of_ble_eq_true rfl) ⟨Nat.le_refl _, Nat.le_refl _⟩ ?_
  refine ev_aload_n dc_X12_readAll_4 rfl ?_
  refine ev_iconst (v := 0) dc_X12_readAll_5 (by decide) ?_
  refine ev_putI dc_X12_readAll_6 fi_X12_202 rfl i0 ?_
  refine ev_aload_n dc_X12_readAll_9 rfl ?_
  obtain ⟨q5, hq5, h⟩ := Option.bind_eq_some_iff.mp h
  refine ev_callV (av := []) (st := []) (st1 := []) dc_X12_readAll_10 (tX12_blanks hW i0 hq5) mw_1617 cy_X12_blanks i0 (by decide) rfl rfl rfl rfl (Nat.le_of_ble_eq_true rfl) (Nat.le_of_ble_eq_true rfl) ⟨Nat.le_refl _, Nat.le_refl _⟩ ?_
  refine ev_aload_n dc_X12_readAll_13 rfl ?_
  refine ev_getI dc_X12_readAll_14 fi_X12_87 rfl i0 ?_
  refine ev_aload_n dc_X12_readAll_17 rfl ?_
  refine ev_getI dc_X12_readAll_18 fi_X12_90 rfl i0 ?_
  refine ev_icmp_ne (tgt := 26) dc_X12_readAll_21 (by decide) h (fun h => ?_) (fun h => ?_)
  · refine ev_iconst (v := 0) dc_X12_readAll_24 (by decide) ?_
    cases h
    exact ev_iret dc_X12_readAll_25 rfl rfl rfl
  · refine ev_iconst (v := 0) dc_X12_readAll_26 (by decide) ?_
    refine ev_istore_n (lv' := [some (.ref a0), some (.int a1), some (.int (0 : Int32))]) dc_X12_readAll_27 rfl (by decide) rfl ?_
    exact ev_sub (tX12_readAll_b28 (b := ((0 : Int32), q5)) hW i0 h) (And.intro rfl (And.intro rfl (And.intro rfl trivial)))
theorem dc_X12_law_0 : Dc miX12_law 0 (.aload_n 0) 1 1 := ⟨by decide +kernel, rfl⟩
theorem dc_X12_law_1 : Dc miX12_law 1 (.iconst 0) 1 2 := ⟨by decide +kernel, rfl⟩
theorem dc_X12_law_2 : Dc miX12_law 2 (.invokevirtual 270) 3 5 := ⟨by decide +kernel, rfl⟩
theorem dc_X12_law_5 : Dc miX12_law 5 (.istore_n 1) 1 6 := ⟨by decide +kernel, rfl⟩
theorem dc_X12_law_6 : Dc miX12_law 6 (.aload_n 0) 1 7 := ⟨by decide +kernel, rfl⟩
theorem dc_X12_law_7 : Dc miX12_law 7 (.iload_n 1) 1 8 := ⟨by decide +kernel, rfl⟩
theorem dc_X12_law_8 : Dc miX12_law 8 (.ifCond .ge 10) 3 11 := ⟨by decide +kernel, rfl⟩
theorem dc_X12_law_11 : Dc miX12_law 11 (.aload_n 0) 1 12 := ⟨by decide +kernel, rfl⟩
theorem dc_X12_law_12 : Dc miX12_law 12 (.getfield 97) 3 15 := ⟨by decide +kernel, rfl⟩
theorem dc_X12_law_15 : Dc miX12_law 15 (.goto 4) 3 18 := ⟨by decide +kernel, rfl⟩
theorem dc_X12_law_18 : Dc miX12_law 18 (.iconst (-1)) 1 19 := ⟨by decide +kernel, rfl⟩
theorem dc_X12_law_19 : Dc miX12_law 19 (.putfield 33) 3 22 := ⟨by decide +kernel, rfl⟩
theorem dc_X12_law_22 : Dc miX12_law 22 (.aload_n 0) 1 23 := ⟨by decide +kernel, rfl⟩
theorem dc_X12_law_23 : Dc miX12_law 23 (.iload_n 1) 1 24 := ⟨by decide +kernel, rfl⟩
theorem dc_X12_law_24 : Dc miX12_law 24 (.ifCond .ge 7) 3 27 := ⟨by decide +kernel, rfl⟩
theorem dc_X12_law_27 : Dc miX12_law 27 (.iconst 1) 1 28 := ⟨by decide +kernel, rfl⟩
theorem dc_X12_law_28 : Dc miX12_law 28 (.goto 4) 3 31 := ⟨by decide +kernel, rfl⟩
theorem dc_X12_law_31 : Dc miX12_law 31 (.iconst 0) 1 32 := ⟨by decide +kernel, rfl⟩
theorem dc_X12_law_32 : Dc miX12_law 32 (.iconst 1) 1 33 := ⟨by decide +kernel, rfl⟩
theorem dc_X12_law_33 : Dc miX12_law 33 (.invokevirtual 274) 3 36 := ⟨by decide +kernel, rfl⟩
theorem dc_X12_law_36 : Dc miX12_law 36 (.ifCond .eq 5) 3 39 := ⟨by decide +kernel, rfl⟩
theorem dc_X12_law_39 : Dc miX12_law 39 (.iconst 0) 1 40 := ⟨by decide +kernel, rfl⟩
theorem dc_X12_law_40 : Dc miX12_law 40 (.ireturn) 1 41 := ⟨by decide +kernel, rfl⟩
theorem dc_X12_law_41 : Dc miX12_law 41 (.aload_n 0) 1 42 := ⟨by decide +kernel, rfl⟩
theorem dc_X12_law_42 : Dc miX12_law 42 (.getfield 13) 3 45 := ⟨by decide +kernel, rfl⟩
theorem dc_X12_law_45 : Dc miX12_law 45 (.sipush 1232) 3 48 := ⟨by decide +kernel, rfl⟩
theorem dc_X12_law_48 : Dc miX12_law 48 (.iload_n 1) 1 49 := ⟨by decide +kernel, rfl⟩
theorem dc_X12_law_49 : Dc miX12_law 49 (.iastore) 1 50 := ⟨by decide +kernel, rfl⟩
theorem dc_X12_law_50 : Dc miX12_law 50 (.iconst 0) 1 51 := ⟨by decide +kernel, rfl⟩
theorem dc_X12_law_51 : Dc miX12_law 51 (.istore_n 2) 1 52 := ⟨by decide +kernel, rfl⟩
theorem dc_X12_law_52 : Dc miX12_law 52 (.iload_n 2) 1 53 := ⟨by decide +kernel, rfl⟩
theorem dc_X12_law_53 : Dc miX12_law 53 (.sipush 849) 3 56 := ⟨by decide +kernel, rfl⟩
theorem dc_X12_law_56 : Dc miX12_law 56 (.if_icmp .ge 29) 3 59 := ⟨by decide +kernel, rfl⟩
theorem dc_X12_law_59 : Dc miX12_law 59 (.aload_n 0) 1 60 := ⟨by decide +kernel, rfl⟩
theorem dc_X12_law_60 : Dc miX12_law 60 (.getfield 13) 3 63 := ⟨by decide +kernel, rfl⟩
theorem dc_X12_law_63 : Dc miX12_law 63 (.sipush 383) 3 66 := ⟨by decide +kernel, rfl⟩
theorem dc_X12_law_66 : Dc miX12_law 66 (.iload_n 2) 1 67 := ⟨by decide +kernel, rfl⟩
theorem dc_X12_law_67 : Dc miX12_law 67 (.iadd) 1 68 := ⟨by decide +kernel, rfl⟩
theorem dc_X12_law_68 : Dc miX12_law 68 (.aload_n 0) 1 69 := ⟨by decide +kernel, rfl⟩
theorem dc_X12_law_69 : Dc miX12_law 69 (.getfield 13) 3 72 := ⟨by decide +kernel, rfl⟩
theorem dc_X12_law_72 : Dc miX12_law 72 (.sipush 1232) 3 75 := ⟨by decide +kernel, rfl⟩
theorem dc_X12_law_75 : Dc miX12_law 75 (.iload_n 2) 1 76 := ⟨by decide +kernel, rfl⟩
theorem dc_X12_law_76 : Dc miX12_law 76 (.iadd) 1 77 := ⟨by decide +kernel, rfl⟩
theorem dc_X12_law_77 : Dc miX12_law 77 (.iaload) 1 78 := ⟨by decide +kernel, rfl⟩
theorem dc_X12_law_78 : Dc miX12_law 78 (.iastore) 1 79 := ⟨by decide +kernel, rfl⟩
theorem dc_X12_law_79 : Dc miX12_law 79 (.iinc 2 1) 3 82 := ⟨by decide +kernel, rfl⟩
theorem dc_X12_law_82 : Dc miX12_law 82 (.goto (-30)) 3 85 := ⟨by decide +kernel, rfl⟩
theorem dc_X12_law_85 : Dc miX12_law 85 (.aload_n 0) 1 86 := ⟨by decide +kernel, rfl⟩
theorem dc_X12_law_86 : Dc miX12_law 86 (.getfield 13) 3 89 := ⟨by decide +kernel, rfl⟩
theorem dc_X12_law_89 : Dc miX12_law 89 (.bipush 6) 2 91 := ⟨by decide +kernel, rfl⟩
theorem dc_X12_law_91 : Dc miX12_law 91 (.iconst 1) 1 92 := ⟨by decide +kernel, rfl⟩
theorem dc_X12_law_92 : Dc miX12_law 92 (.iastore) 1 93 := ⟨by decide +kernel, rfl⟩
theorem dc_X12_law_93 : Dc miX12_law 93 (.aload_n 0) 1 94 := ⟨by decide +kernel, rfl⟩
theorem dc_X12_law_94 : Dc miX12_law 94 (.iconst 0) 1 95 := ⟨by decide +kernel, rfl⟩
theorem dc_X12_law_95 : Dc miX12_law 95 (.putfield 59) 3 98 := ⟨by decide +kernel, rfl⟩
theorem dc_X12_law_98 : Dc miX12_law 98 (.iload_n 1) 1 99 := ⟨by decide +kernel, rfl⟩
theorem dc_X12_law_99 : Dc miX12_law 99 (.ireturn) 1 100 := ⟨by decide +kernel, rfl⟩
def fX12_law_b52 (N : Nat) (G : pG) (a0 : Nat) (x1 : Int32) : (Int32 × pS) → Option (Int32 × pS) := lp (fun (k52 : Int32 × pS → Option (Int32 × pS)) (b : Int32 × pS) => if (849 : Int32) ≤ b.1 then (ck (inB (6 : Int32) (pN G (pR G a0 1))) (some (x1, putF (sA b.2 (pR G a0 1) (6 : Int32) (1 : Int32)) a0 7 (0 : Int32)))) else (ck (inB ((1232 : Int32) + b.1) (pN G (pR G a0 1))) (ck (inB ((383 : Int32) + b.1) (pN G (pR G a0 1))) (k52 (b.1 + (1 : Int32), sA b.2 (pR G a0 1) ((383 : Int32) + b.1) (gA b.2 (pR G a0 1) ((1232 : Int32) + b.1))))))) N
set_option maxRecDepth 100000 in
set_option maxHeartbeats 4000000 in
theorem tX12_law_b52 {N : Nat} {G : pG} {SK : Nat → Nat} {a0 : Nat} {x1 : Int32} {b : Int32 × pS} {r : Int32 × pS} (hW : WT G) (i0 : Is G a0 11) (h : fX12_law_b52 N G a0 x1 b = some r) : Ev miX12_law (133, 0, 0) G (Zp G (some (.int r.1)) r.2) SK (0, 0) 52 [some (.ref a0), some (.int x1), some (.int b.1)] [] b.2 := by
  unfold fX12_law_b52 at h
  refine lp_ind (P := fun b r9 => r9 = r → Ev miX12_law (133, 0, 0) G (Zp G (some (.int r.1)) r.2) SK (0, 0) 52 [some (.ref a0), some (.int x1), some (.int b.1)] [] b.2) (fun k52 b r9 ih h9 e9 => ?_) N b r h rfl
  clear h
  subst e9
  have h := h9
  clear h9
  have hk52 : ∀ b : Int32 × pS, k52 b = some r9 → Ev miX12_law (133, 0, 0) G (Zp G (some (.int r9.1)) r9.2) SK (0, 0) 52 [some (.ref a0), some (.int x1), some (.int b.1)] [] b.2 := fun b hb => ih b r9 hb rfl
  clear ih
  obtain ⟨x2, σ⟩ := b
  dsimp only at h ⊢
  refine ev_iload_n dc_X12_law_52 rfl ?_
  refine ev_sipush (v := 849) dc_X12_law_53 (by decide) ?_
  refine ev_icmp_ge (tgt := 85) dc_X12_law_56 (by decide) h (fun h => ?_) (fun h => ?_)
  · refine ev_aload_n dc_X12_law_85 rfl ?_
    refine ev_getR dc_X12_law_86 fi_X12_13 rfl i0 ?_
    refine ev_bipush (v := 6) dc_X12_law_89 (by decide) ?_
    refine ev_iconst (v := 1) dc_X12_law_91 (by decide) ?_
    refine ev_iast dc_X12_law_92 (wt hW i0 1 rfl rfl) h (fun h => ?_)
    refine ev_aload_n dc_X12_law_93 rfl ?_
    refine ev_iconst (v := 0) dc_X12_law_94 (by decide) ?_
    refine ev_putI dc_X12_law_95 fi_X12_59 rfl i0 ?_
    refine ev_iload_n dc_X12_law_98 rfl ?_
    cases h
    exact ev_iret dc_X12_law_99 rfl rfl rfl
  · refine ev_aload_n dc_X12_law_59 rfl ?_
    refine ev_getR dc_X12_law_60 fi_X12_13 rfl i0 ?_
    refine ev_sipush (v := 383) dc_X12_law_63 (by decide) ?_
    refine ev_iload_n dc_X12_law_66 rfl ?_
    refine ev_iadd dc_X12_law_67 ?_
    refine ev_aload_n dc_X12_law_68 rfl ?_
    refine ev_getR dc_X12_law_69 fi_X12_13 rfl i0 ?_
    refine ev_sipush (v := 1232) dc_X12_law_72 (by decide) ?_
    refine ev_iload_n dc_X12_law_75 rfl ?_
    refine ev_iadd dc_X12_law_76 ?_
    refine ev_iald dc_X12_law_77 (wt hW i0 1 rfl rfl) h (fun h => ?_)
    refine ev_iast dc_X12_law_78 (wt hW i0 1 rfl rfl) h (fun h => ?_)
    refine ev_iinc (v := 1) (lv' := [some (.ref a0), some (.int x1), some (.int (x2 + (1 : Int32)))]) dc_X12_law_79 rfl (by decide) rfl (by decide) rfl ?_
    refine ev_goto (tgt := 52) dc_X12_law_82 (by decide) ?_
    exact ev_sub (hk52 (x2 + (1 : Int32), sA σ (pR G a0 1) ((383 : Int32) + x2) (gA σ (pR G a0 1) ((1232 : Int32) + x2))) h) (And.intro rfl (And.intro rfl (And.intro rfl trivial)))
def fX12_law_b32 (N : Nat) (G : pG) (a0 : Nat) (x1 : Int32) (y1 : Int32) (σ : pS) : Option (Int32 × pS) := (fX12_throwsIf N G a0 y1 (1 : Int32) σ).bind (fun q1 => if q1.1 = 0 then (ck (inB (1232 : Int32) (pN G (pR G a0 1))) (fX12_law_b52 N G a0 x1 ((0 : Int32), sA q1.2 (pR G a0 1) (1232 : Int32) x1))) else (some ((0 : Int32), q1.2)))
set_option maxRecDepth 100000 in
set_option maxHeartbeats 4000000 in
theorem tX12_law_b32 {N : Nat} {G : pG} {SK : Nat → Nat} {a0 : Nat} {x1 : Int32} {y1 : Int32} {σ : pS} {r : Int32 × pS} (hW : WT G) (i0 : Is G a0 11) (h : fX12_law_b32 N G a0 x1 y1 σ = some r) : Ev miX12_law (133, 0, 0) G (Zp G (some (.int r.1)) r.2) SK (0, 0) 32 [some (.ref a0), some (.int x1), none] [.int y1, .ref a0] σ := by
  unfold fX12_law_b32 at h
  refine ev_iconst (v := 1) dc_X12_law_32 (by decide) ?_
  obtain ⟨q1, hq1, h⟩ := Option.bind_eq_some_iff.mp h
  refine ev_callV (av := [.int y1, .int (1 : Int32)]) (st := []) (st1 := [.int q1.1]) dc_X12_law_33 (tX12_throwsIf hW i0 hq1) mw_1784 cy_X12_throwsIf i0 (by decide) rfl rfl rfl rfl (Nat.le_of_ble_eq_true rfl) (Nat.le_of_ble_eq_true rfl) ⟨Nat.le_refl _, Nat.le_refl _⟩ ?_
  refine ev_if_eq (tgt := 41) dc_X12_law_36 (by decide) h (fun h => ?_) (fun h => ?_)
  · refine ev_aload_n dc_X12_law_41 rfl ?_
    refine ev_getR dc_X12_law_42 fi_X12_13 rfl i0 ?_
    refine ev_sipush (v := 1232) dc_X12_law_45 (by decide) ?_
    refine ev_iload_n dc_X12_law_48 rfl ?_
    refine ev_iast dc_X12_law_49 (wt hW i0 1 rfl rfl) h (fun h => ?_)
    refine ev_iconst (v := 0) dc_X12_law_50 (by decide) ?_
    refine ev_istore_n (lv' := [some (.ref a0), some (.int x1), some (.int (0 : Int32))]) dc_X12_law_51 rfl (by decide) rfl ?_
    exact ev_sub (tX12_law_b52 (b := ((0 : Int32), sA q1.2 (pR G a0 1) (1232 : Int32) x1)) hW i0 h) (And.intro rfl (And.intro rfl (And.intro rfl trivial)))
  · refine ev_iconst (v := 0) dc_X12_law_39 (by decide) ?_
    cases h
    exact ev_iret dc_X12_law_40 rfl rfl rfl
def fX12_law_b19 (N : Nat) (G : pG) (a0 : Nat) (x1 : Int32) (y1 : Int32) (σ : pS) : Option (Int32 × pS) := if 0 ≤ x1 then (fX12_law_b32 N G a0 x1 (0 : Int32) (putF σ a0 14 y1)) else (fX12_law_b32 N G a0 x1 (1 : Int32) (putF σ a0 14 y1))
set_option maxRecDepth 100000 in
set_option maxHeartbeats 4000000 in
theorem tX12_law_b19 {N : Nat} {G : pG} {SK : Nat → Nat} {a0 : Nat} {x1 : Int32} {y1 : Int32} {σ : pS} {r : Int32 × pS} (hW : WT G) (i0 : Is G a0 11) (h : fX12_law_b19 N G a0 x1 y1 σ = some r) : Ev miX12_law (133, 0, 0) G (Zp G (some (.int r.1)) r.2) SK (0, 0) 19 [some (.ref a0), some (.int x1), none] [.int y1, .ref a0] σ := by
  unfold fX12_law_b19 at h
  refine ev_putI dc_X12_law_19 fi_X12_33 rfl i0 ?_
  refine ev_aload_n dc_X12_law_22 rfl ?_
  refine ev_iload_n dc_X12_law_23 rfl ?_
  refine ev_if_ge (tgt := 31) dc_X12_law_24 (by decide) h (fun h => ?_) (fun h => ?_)
  · refine ev_iconst (v := 0) dc_X12_law_31 (by decide) ?_
    exact ev_sub (tX12_law_b32 hW i0 h) (And.intro rfl (And.intro rfl trivial))
  · refine ev_iconst (v := 1) dc_X12_law_27 (by decide) ?_
    refine ev_goto (tgt := 32) dc_X12_law_28 (by decide) ?_
    exact ev_sub (tX12_law_b32 hW i0 h) (And.intro rfl (And.intro rfl trivial))
def fX12_law (N : Nat) (G : pG) (a0 : Nat) (σ : pS) : Option (Int32 × pS) := (fX12_readAll N G a0 (0 : Int32) σ).bind (fun q2 => if 0 ≤ q2.1 then (fX12_law_b19 N G a0 q2.1 (-1 : Int32) q2.2) else (fX12_law_b19 N G a0 q2.1 (q2.2.1 a0 12) q2.2))
set_option maxRecDepth 100000 in
set_option maxHeartbeats 4000000 in
theorem tX12_law {N : Nat} {G : pG} {SK : Nat → Nat} {a0 : Nat} {σ : pS} {r : Int32 × pS} (hW : WT G) (i0 : Is G a0 11) (h : fX12_law N G a0 σ = some r) : Dn miX12_law yX12_law 133 G SK [.ref a0] σ (some (.int r.1)) r.2 := by
  unfold fX12_law at h
  refine dn_of (lv := [some (.ref a0), none, none]) (by decide) rfl rfl (Nat.le_of_ble_eq_true rfl) rfl ?_
  refine ev_aload_n dc_X12_law_0 rfl ?_
  refine ev_iconst (v := 0) dc_X12_law_1 (by decide) ?_
  obtain ⟨q2, hq2, h⟩ := Option.bind_eq_some_iff.mp h
  refine ev_callV (av := [.int (0 : Int32)]) (st := []) (st1 := [.int q2.1]) dc_X12_law_2 (tX12_readAll hW i0 hq2) mw_1609 cy_X12_readAll i0 (by decide) rfl rfl rfl rfl (Nat.le_of_ble_eq_true rfl) (Nat.le_of_ble_eq_true rfl) ⟨Nat.le_refl _, Nat.le_refl _⟩ ?_
  refine ev_istore_n (lv' := [some (.ref a0), some (.int q2.1), none]) dc_X12_law_5 rfl (by decide) rfl ?_
  refine ev_aload_n dc_X12_law_6 rfl ?_
  refine ev_iload_n dc_X12_law_7 rfl ?_
  refine ev_if_ge (tgt := 18) dc_X12_law_8 (by decide) h (fun h => ?_) (fun h => ?_)
  · refine ev_iconst (v := (-1)) dc_X12_law_18 (by decide) ?_
    exact ev_sub (tX12_law_b19 hW i0 h) (And.intro rfl (And.intro rfl trivial))
  · refine ev_aload_n dc_X12_law_11 rfl ?_
    refine ev_getI dc_X12_law_12 fi_X12_97 rfl i0 ?_
    refine ev_goto (tgt := 19) dc_X12_law_15 (by decide) ?_
    exact ev_sub (tX12_law_b19 hW i0 h) (And.intro rfl (And.intro rfl trivial))
theorem dc_X12_learns_0 : Dc miX12_learns 0 (.aload_n 0) 1 1 := ⟨by decide +kernel, rfl⟩
theorem dc_X12_learns_1 : Dc miX12_learns 1 (.iconst 0) 1 2 := ⟨by decide +kernel, rfl⟩
theorem dc_X12_learns_2 : Dc miX12_learns 2 (.putfield 3) 3 5 := ⟨by decide +kernel, rfl⟩
theorem dc_X12_learns_5 : Dc miX12_learns 5 (.iconst (-1)) 1 6 := ⟨by decide +kernel, rfl⟩
theorem dc_X12_learns_6 : Dc miX12_learns 6 (.istore_n 1) 1 7 := ⟨by decide +kernel, rfl⟩
theorem dc_X12_learns_7 : Dc miX12_learns 7 (.bipush 63) 2 9 := ⟨by decide +kernel, rfl⟩
theorem dc_X12_learns_9 : Dc miX12_learns 9 (.istore_n 2) 1 10 := ⟨by decide +kernel, rfl⟩
theorem dc_X12_learns_10 : Dc miX12_learns 10 (.iload_n 2) 1 11 := ⟨by decide +kernel, rfl⟩
theorem dc_X12_learns_11 : Dc miX12_learns 11 (.ifCond .lt 50) 3 14 := ⟨by decide +kernel, rfl⟩
theorem dc_X12_learns_14 : Dc miX12_learns 14 (.aload_n 0) 1 15 := ⟨by decide +kernel, rfl⟩
theorem dc_X12_learns_15 : Dc miX12_learns 15 (.invokevirtual 66) 3 18 := ⟨by decide +kernel, rfl⟩
theorem dc_X12_learns_18 : Dc miX12_learns 18 (.ifCond .le 43) 3 21 := ⟨by decide +kernel, rfl⟩
theorem dc_X12_learns_21 : Dc miX12_learns 21 (.iload_n 1) 1 22 := ⟨by decide +kernel, rfl⟩
theorem dc_X12_learns_22 : Dc miX12_learns 22 (.ifCond .lt 14) 3 25 := ⟨by decide +kernel, rfl⟩
theorem dc_X12_learns_25 : Dc miX12_learns 25 (.iload_n 2) 1 26 := ⟨by decide +kernel, rfl⟩
theorem dc_X12_learns_26 : Dc miX12_learns 26 (.invokestatic 139) 3 29 := ⟨by decide +kernel, rfl⟩
theorem dc_X12_learns_29 : Dc miX12_learns 29 (.iload_n 1) 1 30 := ⟨by decide +kernel, rfl⟩
theorem dc_X12_learns_30 : Dc miX12_learns 30 (.invokestatic 139) 3 33 := ⟨by decide +kernel, rfl⟩
theorem dc_X12_learns_33 : Dc miX12_learns 33 (.if_icmp .gt 22) 3 36 := ⟨by decide +kernel, rfl⟩
theorem dc_X12_learns_36 : Dc miX12_learns 36 (.aload_n 0) 1 37 := ⟨by decide +kernel, rfl⟩
theorem dc_X12_learns_37 : Dc miX12_learns 37 (.iload_n 2) 1 38 := ⟨by decide +kernel, rfl⟩
theorem dc_X12_learns_38 : Dc miX12_learns 38 (.invokevirtual 444) 3 41 := ⟨by decide +kernel, rfl⟩
theorem dc_X12_learns_41 : Dc miX12_learns 41 (.iconst 1) 1 42 := ⟨by decide +kernel, rfl⟩
theorem dc_X12_learns_42 : Dc miX12_learns 42 (.aload_n 0) 1 43 := ⟨by decide +kernel, rfl⟩
theorem dc_X12_learns_43 : Dc miX12_learns 43 (.getfield 13) 3 46 := ⟨by decide +kernel, rfl⟩
theorem dc_X12_learns_46 : Dc miX12_learns 46 (.bipush 11) 2 48 := ⟨by decide +kernel, rfl⟩
theorem dc_X12_learns_48 : Dc miX12_learns 48 (.iaload) 1 49 := ⟨by decide +kernel, rfl⟩
theorem dc_X12_learns_49 : Dc miX12_learns 49 (.ishl) 1 50 := ⟨by decide +kernel, rfl⟩
theorem dc_X12_learns_50 : Dc miX12_learns 50 (.if_icmp .ne 5) 3 53 := ⟨by decide +kernel, rfl⟩
theorem dc_X12_learns_53 : Dc miX12_learns 53 (.iload_n 2) 1 54 := ⟨by decide +kernel, rfl⟩
theorem dc_X12_learns_54 : Dc miX12_learns 54 (.istore_n 1) 1 55 := ⟨by decide +kernel, rfl⟩
theorem dc_X12_learns_55 : Dc miX12_learns 55 (.iinc 2 (-1)) 3 58 := ⟨by decide +kernel, rfl⟩
theorem dc_X12_learns_58 : Dc miX12_learns 58 (.goto (-48)) 3 61 := ⟨by decide +kernel, rfl⟩
theorem dc_X12_learns_61 : Dc miX12_learns 61 (.iload_n 1) 1 62 := ⟨by decide +kernel, rfl⟩
theorem dc_X12_learns_62 : Dc miX12_learns 62 (.ireturn) 1 63 := ⟨by decide +kernel, rfl⟩
def fX12_learns_b36 (N : Nat) (G : pG) (k10 : Int32 × Int32 × pS → Option (Int32 × pS)) (a0 : Nat) (x1 : Int32) (x2 : Int32) (σ : pS) : Option (Int32 × pS) := (fX12_possibleBy N G a0 x2 σ).bind (fun q1 => ck (inB (11 : Int32) (pN G (pR G a0 1))) (if q1 = ((1 : Int32) <<< ((gA σ (pR G a0 1) (11 : Int32)) &&& 31)) then (k10 (x2, x2 + (-1 : Int32), σ)) else (k10 (x1, x2 + (-1 : Int32), σ))))
set_option maxRecDepth 100000 in
set_option maxHeartbeats 4000000 in
theorem tX12_learns_b36 {N : Nat} {G : pG} {SK : Nat → Nat} {k10 : Int32 × Int32 × pS → Option (Int32 × pS)} {a0 : Nat} {x1 : Int32} {x2 : Int32} {σ : pS} {r : Int32 × pS} (hW : WT G) (i0 : Is G a0 11) (hk10 : ∀ b : Int32 × Int32 × pS, k10 b = some r → Ev miX12_learns (5, 0, 0) G (Zp G (some (.int r.1)) r.2) SK (0, 0) 10 [some (.ref a0), some (.int b.1), some (.int b.2.1)] [] b.2.2) (h : fX12_learns_b36 N G k10 a0 x1 x2 σ = some r) : Ev miX12_learns (5, 0, 0) G (Zp G (some (.int r.1)) r.2) SK (0, 0) 36 [some (.ref a0), some (.int x1), some (.int x2)] [] σ := by
  unfold fX12_learns_b36 at h
  refine ev_aload_n dc_X12_learns_36 rfl ?_
  refine ev_iload_n dc_X12_learns_37 rfl ?_
  obtain ⟨q1, hq1, h⟩ := Option.bind_eq_some_iff.mp h
  refine ev_callV (av := [.int x2]) (st := []) (st1 := [.int q1]) dc_X12_learns_38 (tX12_possibleBy hW i0 hq1) mw_2070 cy_X12_possibleBy i0 (by decide) rfl rfl rfl rfl (Nat.le_of_ble_eq_true rfl) (Nat.le_of_ble_eq_true rfl) ⟨Nat.le_refl _, Nat.le_refl _⟩ ?_
  refine ev_iconst (v := 1) dc_X12_learns_41 (by decide) ?_
  refine ev_aload_n dc_X12_learns_42 rfl ?_
  refine ev_getR dc_X12_learns_43 fi_X12_13 rfl i0 ?_
  refine ev_bipush (v := 11) dc_X12_learns_46 (by decide) ?_
  refine ev_iald dc_X12_learns_48 (wt hW i0 1 rfl rfl) h (fun h => ?_)
  refine ev_ishl dc_X12_learns_49 ?_
  refine ev_icmp_ne (tgt := 55) dc_X12_learns_50 (by decide) h (fun h => ?_) (fun h => ?_)
  · refine ev_iload_n dc_X12_learns_53 rfl ?_
    refine ev_istore_n (lv' := [some (.ref a0), some (.int x2), some (.int x2)]) dc_X12_learns_54 rfl (by decide) rfl ?_
    refine ev_iinc (v := (-1)) (lv' := [some (.ref a0), some (.int x2), some (.int (x2 + (-1 : Int32)))]) dc_X12_learns_55 rfl (by decide) rfl (by decide) rfl ?_
    refine ev_goto (tgt := 10) dc_X12_learns_58 (by decide) ?_
    exact ev_sub (hk10 (x2, x2 + (-1 : Int32), σ) h) (And.intro rfl (And.intro rfl (And.intro rfl trivial)))
  · refine ev_iinc (v := (-1)) (lv' := [some (.ref a0), some (.int x1), some (.int (x2 + (-1 : Int32)))]) dc_X12_learns_55 rfl (by decide) rfl (by decide) rfl ?_
    refine ev_goto (tgt := 10) dc_X12_learns_58 (by decide) ?_
    exact ev_sub (hk10 (x1, x2 + (-1 : Int32), σ) h) (And.intro rfl (And.intro rfl (And.intro rfl trivial)))
def fX12_learns_b10 (N : Nat) (G : pG) (a0 : Nat) : (Int32 × Int32 × pS) → Option (Int32 × pS) := lp (fun (k10 : Int32 × Int32 × pS → Option (Int32 × pS)) (b : Int32 × Int32 × pS) => if b.2.1 < 0 then (some (b.1, b.2.2)) else ((fX12_names N G a0 b.2.2).bind (fun q2 => if q2 ≤ 0 then (some (b.1, b.2.2)) else (if b.1 < 0 then (fX12_learns_b36 N G k10 a0 b.1 b.2.1 b.2.2) else ((fJ6_bitCount_0f7a4 N G b.2.1 b.2.2).bind (fun q3 => (fJ6_bitCount_0f7a4 N G b.1 b.2.2).bind (fun q4 => if q4 < q3 then (k10 (b.1, b.2.1 + (-1 : Int32), b.2.2)) else (fX12_learns_b36 N G k10 a0 b.1 b.2.1 b.2.2)))))))) N
set_option maxRecDepth 100000 in
set_option maxHeartbeats 4000000 in
theorem tX12_learns_b10 {N : Nat} {G : pG} {SK : Nat → Nat} {a0 : Nat} {b : Int32 × Int32 × pS} {r : Int32 × pS} (hW : WT G) (i0 : Is G a0 11) (h : fX12_learns_b10 N G a0 b = some r) : Ev miX12_learns (5, 0, 0) G (Zp G (some (.int r.1)) r.2) SK (0, 0) 10 [some (.ref a0), some (.int b.1), some (.int b.2.1)] [] b.2.2 := by
  unfold fX12_learns_b10 at h
  refine lp_ind (P := fun b r9 => r9 = r → Ev miX12_learns (5, 0, 0) G (Zp G (some (.int r.1)) r.2) SK (0, 0) 10 [some (.ref a0), some (.int b.1), some (.int b.2.1)] [] b.2.2) (fun k10 b r9 ih h9 e9 => ?_) N b r h rfl
  clear h
  subst e9
  have h := h9
  clear h9
  have hk10 : ∀ b : Int32 × Int32 × pS, k10 b = some r9 → Ev miX12_learns (5, 0, 0) G (Zp G (some (.int r9.1)) r9.2) SK (0, 0) 10 [some (.ref a0), some (.int b.1), some (.int b.2.1)] [] b.2.2 := fun b hb => ih b r9 hb rfl
  clear ih
  obtain ⟨x1, x2, σ⟩ := b
  dsimp only at h ⊢
  refine ev_iload_n dc_X12_learns_10 rfl ?_
  refine ev_if_lt (tgt := 61) dc_X12_learns_11 (by decide) h (fun h => ?_) (fun h => ?_)
  · refine ev_iload_n dc_X12_learns_61 rfl ?_
    cases h
    exact ev_iret dc_X12_learns_62 rfl rfl rfl
  · refine ev_aload_n dc_X12_learns_14 rfl ?_
    obtain ⟨q2, hq2, h⟩ := Option.bind_eq_some_iff.mp h
    refine ev_callV (av := []) (st := []) (st1 := [.int q2]) dc_X12_learns_15 (tX12_names hW i0 hq2) mw_1648 cy_X12_names i0 (by decide) rfl rfl rfl rfl (Nat.le_of_ble_eq_true rfl) (Nat.le_of_ble_eq_true rfl) ⟨Nat.le_refl _, Nat.le_refl _⟩ ?_
    refine ev_if_le (tgt := 61) dc_X12_learns_18 (by decide) h (fun h => ?_) (fun h => ?_)
    · refine ev_iload_n dc_X12_learns_61 rfl ?_
      cases h
      exact ev_iret dc_X12_learns_62 rfl rfl rfl
    · refine ev_iload_n dc_X12_learns_21 rfl ?_
      refine ev_if_lt (tgt := 36) dc_X12_learns_22 (by decide) h (fun h => ?_) (fun h => ?_)
      · exact ev_sub (tX12_learns_b36 hW i0 hk10 h) (And.intro rfl (And.intro rfl (And.intro rfl trivial)))
      · refine ev_iload_n dc_X12_learns_25 rfl ?_
        obtain ⟨q3, hq3, h⟩ := Option.bind_eq_some_iff.mp h
        refine ev_callS (av := [.int x2]) (st := []) (st1 := [.int q3]) dc_X12_learns_26 (tJ6_bitCount_0f7a4 hW hq3) mw_1685 cs_J6_bitCount_0f7a4 rfl rfl rfl (Nat.le_of_ble_eq_true rfl) (Nat.le_of_ble_eq_true rfl) ⟨Nat.le_refl _, Nat.le_refl _⟩ ?_
        refine ev_iload_n dc_X12_learns_29 rfl ?_
        obtain ⟨q4, hq4, h⟩ := Option.bind_eq_some_iff.mp h
        refine ev_callS (av := [.int x1]) (st := [.int q3]) (st1 := [.int q4, .int q3]) dc_X12_learns_30 (tJ6_bitCount_0f7a4 hW hq4) mw_1685 cs_J6_bitCount_0f7a4 rfl rfl rfl (Nat.le_of_ble_eq_true rfl) (Nat.le_of_ble_eq_true rfl) ⟨Nat.le_refl _, Nat.le_refl _⟩ ?_
        refine ev_icmp_gt (tgt := 55) dc_X12_learns_33 (by decide) h (fun h => ?_) (fun h => ?_)
        · refine ev_iinc (v := (-1)) (lv' := [some (.ref a0), some (.int x1), some (.int (x2 + (-1 : Int32)))]) dc_X12_learns_55 rfl (by decide) rfl (by decide) rfl ?_
          refine ev_goto (tgt := 10) dc_X12_learns_58 (by decide) ?_
          exact ev_sub (hk10 (x1, x2 + (-1 : Int32), σ) h) (And.intro rfl (And.intro rfl (And.intro rfl trivial)))
        · exact ev_sub (tX12_learns_b36 hW i0 hk10 h) (And.intro rfl (And.intro rfl (And.intro rfl trivial)))
def fX12_learns (N : Nat) (G : pG) (a0 : Nat) (σ : pS) : Option (Int32 × pS) := fX12_learns_b10 N G a0 ((-1 : Int32), (63 : Int32), putF σ a0 0 (0 : Int32))
set_option maxRecDepth 100000 in
set_option maxHeartbeats 4000000 in
theorem tX12_learns {N : Nat} {G : pG} {SK : Nat → Nat} {a0 : Nat} {σ : pS} {r : Int32 × pS} (hW : WT G) (i0 : Is G a0 11) (h : fX12_learns N G a0 σ = some r) : Dn miX12_learns yX12_learns 5 G SK [.ref a0] σ (some (.int r.1)) r.2 := by
  unfold fX12_learns at h
  refine dn_of (lv := [some (.ref a0), none, none]) (by decide) rfl rfl (Nat.le_of_ble_eq_true rfl) rfl ?_
  refine ev_aload_n dc_X12_learns_0 rfl ?_
  refine ev_iconst (v := 0) dc_X12_learns_1 (by decide) ?_
  refine ev_putI dc_X12_learns_2 fi_X12_3 rfl i0 ?_
  refine ev_iconst (v := (-1)) dc_X12_learns_5 (by decide) ?_
  refine ev_istore_n (lv' := [some (.ref a0), some (.int (-1 : Int32)), none]) dc_X12_learns_6 rfl (by decide) rfl ?_
  refine ev_bipush (v := 63) dc_X12_learns_7 (by decide) ?_
  refine ev_istore_n (lv' := [some (.ref a0), some (.int (-1 : Int32)), some (.int (63 : Int32))]) dc_X12_learns_9 rfl (by decide) rfl ?_
  exact ev_sub (tX12_learns_b10 (b := ((-1 : Int32), (63 : Int32), putF σ a0 0 (0 : Int32))) hW i0 h) (And.intro rfl (And.intro rfl (And.intro rfl trivial)))
theorem dc_X12_learnt_0 : Dc miX12_learnt 0 (.aload_n 0) 1 1 := ⟨by decide +kernel, rfl⟩
theorem dc_X12_learnt_1 : Dc miX12_learnt 1 (.iconst 0) 1 2 := ⟨by decide +kernel, rfl⟩
theorem dc_X12_learnt_2 : Dc miX12_learnt 2 (.putfield 3) 3 5 := ⟨by decide +kernel, rfl⟩
theorem dc_X12_learnt_5 : Dc miX12_learnt 5 (.aload_n 0) 1 6 := ⟨by decide +kernel, rfl⟩
theorem dc_X12_learnt_6 : Dc miX12_learnt 6 (.aload_n 0) 1 7 := ⟨by decide +kernel, rfl⟩
theorem dc_X12_learnt_7 : Dc miX12_learnt 7 (.iload_n 1) 1 8 := ⟨by decide +kernel, rfl⟩
theorem dc_X12_learnt_8 : Dc miX12_learnt 8 (.invokevirtual 400) 3 11 := ⟨by decide +kernel, rfl⟩
theorem dc_X12_learnt_11 : Dc miX12_learnt 11 (.iconst 1) 1 12 := ⟨by decide +kernel, rfl⟩
theorem dc_X12_learnt_12 : Dc miX12_learnt 12 (.invokevirtual 274) 3 15 := ⟨by decide +kernel, rfl⟩
theorem dc_X12_learnt_15 : Dc miX12_learnt 15 (.ifCond .eq 5) 3 18 := ⟨by decide +kernel, rfl⟩
theorem dc_X12_learnt_18 : Dc miX12_learnt 18 (.iconst 0) 1 19 := ⟨by decide +kernel, rfl⟩
theorem dc_X12_learnt_19 : Dc miX12_learnt 19 (.ireturn) 1 20 := ⟨by decide +kernel, rfl⟩
theorem dc_X12_learnt_20 : Dc miX12_learnt 20 (.aload_n 0) 1 21 := ⟨by decide +kernel, rfl⟩
theorem dc_X12_learnt_21 : Dc miX12_learnt 21 (.invokevirtual 403) 3 24 := ⟨by decide +kernel, rfl⟩
theorem dc_X12_learnt_24 : Dc miX12_learnt 24 (.iconst (-1)) 1 25 := ⟨by decide +kernel, rfl⟩
theorem dc_X12_learnt_25 : Dc miX12_learnt 25 (.istore_n 2) 1 26 := ⟨by decide +kernel, rfl⟩
theorem dc_X12_learnt_26 : Dc miX12_learnt 26 (.iconst 0) 1 27 := ⟨by decide +kernel, rfl⟩
theorem dc_X12_learnt_27 : Dc miX12_learnt 27 (.istore_n 3) 1 28 := ⟨by decide +kernel, rfl⟩
theorem dc_X12_learnt_28 : Dc miX12_learnt 28 (.iload_n 3) 1 29 := ⟨by decide +kernel, rfl⟩
theorem dc_X12_learnt_29 : Dc miX12_learnt 29 (.sipush 400) 3 32 := ⟨by decide +kernel, rfl⟩
theorem dc_X12_learnt_32 : Dc miX12_learnt 32 (.if_icmp .gt 32) 3 35 := ⟨by decide +kernel, rfl⟩
theorem dc_X12_learnt_35 : Dc miX12_learnt 35 (.iload_n 2) 1 36 := ⟨by decide +kernel, rfl⟩
theorem dc_X12_learnt_36 : Dc miX12_learnt 36 (.ifCond .ge 28) 3 39 := ⟨by decide +kernel, rfl⟩
theorem dc_X12_learnt_39 : Dc miX12_learnt 39 (.aload_n 0) 1 40 := ⟨by decide +kernel, rfl⟩
theorem dc_X12_learnt_40 : Dc miX12_learnt 40 (.invokevirtual 307) 3 43 := ⟨by decide +kernel, rfl⟩
theorem dc_X12_learnt_43 : Dc miX12_learnt 43 (.iconst 1) 1 44 := ⟨by decide +kernel, rfl⟩
theorem dc_X12_learnt_44 : Dc miX12_learnt 44 (.if_icmp .ne 7) 3 47 := ⟨by decide +kernel, rfl⟩
theorem dc_X12_learnt_47 : Dc miX12_learnt 47 (.iload_n 3) 1 48 := ⟨by decide +kernel, rfl⟩
theorem dc_X12_learnt_48 : Dc miX12_learnt 48 (.goto 4) 3 51 := ⟨by decide +kernel, rfl⟩
theorem dc_X12_learnt_51 : Dc miX12_learnt 51 (.iconst (-1)) 1 52 := ⟨by decide +kernel, rfl⟩
theorem dc_X12_learnt_52 : Dc miX12_learnt 52 (.istore_n 2) 1 53 := ⟨by decide +kernel, rfl⟩
theorem dc_X12_learnt_53 : Dc miX12_learnt 53 (.aload_n 0) 1 54 := ⟨by decide +kernel, rfl⟩
theorem dc_X12_learnt_54 : Dc miX12_learnt 54 (.iload_n 1) 1 55 := ⟨by decide +kernel, rfl⟩
theorem dc_X12_learnt_55 : Dc miX12_learnt 55 (.invokevirtual 406) 3 58 := ⟨by decide +kernel, rfl⟩
theorem dc_X12_learnt_58 : Dc miX12_learnt 58 (.iinc 3 1) 3 61 := ⟨by decide +kernel, rfl⟩
theorem dc_X12_learnt_61 : Dc miX12_learnt 61 (.goto (-33)) 3 64 := ⟨by decide +kernel, rfl⟩
theorem dc_X12_learnt_64 : Dc miX12_learnt 64 (.aload_n 0) 1 65 := ⟨by decide +kernel, rfl⟩
theorem dc_X12_learnt_65 : Dc miX12_learnt 65 (.invokevirtual 409) 3 68 := ⟨by decide +kernel, rfl⟩
theorem dc_X12_learnt_68 : Dc miX12_learnt 68 (.iload_n 2) 1 69 := ⟨by decide +kernel, rfl⟩
theorem dc_X12_learnt_69 : Dc miX12_learnt 69 (.ireturn) 1 70 := ⟨by decide +kernel, rfl⟩
def fX12_learnt_b52 (N : Nat) (G : pG) (k28 : Int32 × Int32 × pS → Option (Int32 × pS)) (a0 : Nat) (a1 : Int32) (x3 : Int32) (y0 : Int32) (σ : pS) : Option (Int32 × pS) := (fX12_calmNight N G a0 a1 σ).bind (fun q1 => k28 (y0, x3 + (1 : Int32), q1))
set_option maxRecDepth 100000 in
set_option maxHeartbeats 4000000 in
theorem tX12_learnt_b52 {N : Nat} {G : pG} {SK : Nat → Nat} {k28 : Int32 × Int32 × pS → Option (Int32 × pS)} {a0 : Nat} {a1 : Int32} {x3 : Int32} {y0 : Int32} {σ : pS} {r : Int32 × pS} (hW : WT G) (i0 : Is G a0 11) (hk28 : ∀ b : Int32 × Int32 × pS, k28 b = some r → Ev miX12_learnt (8, 0, 0) G (Zp G (some (.int r.1)) r.2) SK (0, 0) 28 [some (.ref a0), some (.int a1), some (.int b.1), some (.int b.2.1)] [] b.2.2) (h : fX12_learnt_b52 N G k28 a0 a1 x3 y0 σ = some r) : Ev miX12_learnt (8, 0, 0) G (Zp G (some (.int r.1)) r.2) SK (0, 0) 52 [some (.ref a0), some (.int a1), none, some (.int x3)] [.int y0] σ := by
  unfold fX12_learnt_b52 at h
  refine ev_istore_n (lv' := [some (.ref a0), some (.int a1), some (.int y0), some (.int x3)]) dc_X12_learnt_52 rfl (by decide) rfl ?_
  refine ev_aload_n dc_X12_learnt_53 rfl ?_
  refine ev_iload_n dc_X12_learnt_54 rfl ?_
  obtain ⟨q1, hq1, h⟩ := Option.bind_eq_some_iff.mp h
  refine ev_callV (av := [.int a1]) (st := []) (st1 := []) dc_X12_learnt_55 (tX12_calmNight hW i0 hq1) mw_1990 cy_X12_calmNight i0 (by decide) rfl rfl rfl rfl (Nat.le_of_ble_eq_true rfl) (Nat.le_of_ble_eq_true rfl) ⟨Nat.le_refl _, Nat.le_refl _⟩ ?_
  refine ev_iinc (v := 1) (lv' := [some (.ref a0), some (.int a1), some (.int y0), some (.int (x3 + (1 : Int32)))]) dc_X12_learnt_58 rfl (by decide) rfl (by decide) rfl ?_
  refine ev_goto (tgt := 28) dc_X12_learnt_61 (by decide) ?_
  exact ev_sub (hk28 (y0, x3 + (1 : Int32), q1) h) (And.intro rfl (And.intro rfl (And.intro rfl (And.intro rfl trivial))))
def fX12_learnt_b64 (N : Nat) (G : pG) (a0 : Nat) (x2 : Int32) (σ : pS) : Option (Int32 × pS) := (fX12_bringsBack N G a0 σ).bind (fun q2 => some (x2, q2))
set_option maxRecDepth 100000 in
set_option maxHeartbeats 4000000 in
theorem tX12_learnt_b64 {N : Nat} {G : pG} {SK : Nat → Nat} {a0 : Nat} {x2 : Int32} {σ : pS} {r : Int32 × pS} (hW : WT G) (i0 : Is G a0 11) (h : fX12_learnt_b64 N G a0 x2 σ = some r) : Ev miX12_learnt (8, 0, 0) G (Zp G (some (.int r.1)) r.2) SK (0, 0) 64 [some (.ref a0), none, some (.int x2), none] [] σ := by
  unfold fX12_learnt_b64 at h
  refine ev_aload_n dc_X12_learnt_64 rfl ?_
  obtain ⟨q2, hq2, h⟩ := Option.bind_eq_some_iff.mp h
  refine ev_callV (av := []) (st := []) (st1 := []) dc_X12_learnt_65 (tX12_bringsBack hW i0 hq2) mw_1994 cy_X12_bringsBack i0 (by decide) rfl rfl rfl rfl (Nat.le_of_ble_eq_true rfl) (Nat.le_of_ble_eq_true rfl) ⟨Nat.le_refl _, Nat.le_refl _⟩ ?_
  refine ev_iload_n dc_X12_learnt_68 rfl ?_
  cases h
  exact ev_iret dc_X12_learnt_69 rfl rfl rfl
def fX12_learnt_b28 (N : Nat) (G : pG) (a0 : Nat) (a1 : Int32) : (Int32 × Int32 × pS) → Option (Int32 × pS) := lp (fun (k28 : Int32 × Int32 × pS → Option (Int32 × pS)) (b : Int32 × Int32 × pS) => if (400 : Int32) < b.2.1 then (fX12_learnt_b64 N G a0 b.1 b.2.2) else (if 0 ≤ b.1 then (fX12_learnt_b64 N G a0 b.1 b.2.2) else ((fX12_howMany N G a0 b.2.2).bind (fun q3 => if q3 = (1 : Int32) then (fX12_learnt_b52 N G k28 a0 a1 b.2.1 b.2.1 b.2.2) else (fX12_learnt_b52 N G k28 a0 a1 b.2.1 (-1 : Int32) b.2.2))))) N
set_option maxRecDepth 100000 in
set_option maxHeartbeats 4000000 in
theorem tX12_learnt_b28 {N : Nat} {G : pG} {SK : Nat → Nat} {a0 : Nat} {a1 : Int32} {b : Int32 × Int32 × pS} {r : Int32 × pS} (hW : WT G) (i0 : Is G a0 11) (h : fX12_learnt_b28 N G a0 a1 b = some r) : Ev miX12_learnt (8, 0, 0) G (Zp G (some (.int r.1)) r.2) SK (0, 0) 28 [some (.ref a0), some (.int a1), some (.int b.1), some (.int b.2.1)] [] b.2.2 := by
  unfold fX12_learnt_b28 at h
  refine lp_ind (P := fun b r9 => r9 = r → Ev miX12_learnt (8, 0, 0) G (Zp G (some (.int r.1)) r.2) SK (0, 0) 28 [some (.ref a0), some (.int a1), some (.int b.1), some (.int b.2.1)] [] b.2.2) (fun k28 b r9 ih h9 e9 => ?_) N b r h rfl
  clear h
  subst e9
  have h := h9
  clear h9
  have hk28 : ∀ b : Int32 × Int32 × pS, k28 b = some r9 → Ev miX12_learnt (8, 0, 0) G (Zp G (some (.int r9.1)) r9.2) SK (0, 0) 28 [some (.ref a0), some (.int a1), some (.int b.1), some (.int b.2.1)] [] b.2.2 := fun b hb => ih b r9 hb rfl
  clear ih
  obtain ⟨x2, x3, σ⟩ := b
  dsimp only at h ⊢
  refine ev_iload_n dc_X12_learnt_28 rfl ?_
  refine ev_sipush (v := 400) dc_X12_learnt_29 (by decide) ?_
  refine ev_icmp_gt (tgt := 64) dc_X12_learnt_32 (by decide) h (fun h => ?_) (fun h => ?_)
  · exact ev_sub (tX12_learnt_b64 hW i0 h) (And.intro rfl (And.intro rfl trivial))
  · refine ev_iload_n dc_X12_learnt_35 rfl ?_
    refine ev_if_ge (tgt := 64) dc_X12_learnt_36 (by decide) h (fun h => ?_) (fun h => ?_)
    · exact ev_sub (tX12_learnt_b64 hW i0 h) (And.intro rfl (And.intro rfl trivial))
    · refine ev_aload_n dc_X12_learnt_39 rfl ?_
      obtain ⟨q3, hq3, h⟩ := Option.bind_eq_some_iff.mp h
      refine ev_callV (av := []) (st := []) (st1 := [.int q3]) dc_X12_learnt_40 (tX12_howMany hW i0 hq3) mw_1808 cy_X12_howMany i0 (by decide) rfl rfl rfl rfl (Nat.le_of_ble_eq_true rfl) (Nat.le_of_ble_eq_true rfl) ⟨Nat.le_refl _, Nat.le_refl _⟩ ?_
      refine ev_iconst (v := 1) dc_X12_learnt_43 (by decide) ?_
      refine ev_icmp_ne (tgt := 51) dc_X12_learnt_44 (by decide) h (fun h => ?_) (fun h => ?_)
      · refine ev_iload_n dc_X12_learnt_47 rfl ?_
        refine ev_goto (tgt := 52) dc_X12_learnt_48 (by decide) ?_
        exact ev_sub (tX12_learnt_b52 hW i0 hk28 h) (And.intro rfl (And.intro rfl (And.intro rfl trivial)))
      · refine ev_iconst (v := (-1)) dc_X12_learnt_51 (by decide) ?_
        exact ev_sub (tX12_learnt_b52 hW i0 hk28 h) (And.intro rfl (And.intro rfl (And.intro rfl trivial)))
def fX12_learnt (N : Nat) (G : pG) (a0 : Nat) (a1 : Int32) (σ : pS) : Option (Int32 × pS) := (fX12_noDeedTold N G a0 a1 (putF σ a0 0 (0 : Int32))).bind (fun q4 => (fX12_throwsIf N G a0 q4 (1 : Int32) (putF σ a0 0 (0 : Int32))).bind (fun q5 => if q5.1 = 0 then ((fX12_keepsAll N G a0 q5.2).bind (fun q6 => fX12_learnt_b28 N G a0 a1 ((-1 : Int32), (0 : Int32), q6))) else (some ((0 : Int32), q5.2))))
set_option maxRecDepth 100000 in
set_option maxHeartbeats 4000000 in
theorem tX12_learnt {N : Nat} {G : pG} {SK : Nat → Nat} {a0 : Nat} {a1 : Int32} {σ : pS} {r : Int32 × pS} (hW : WT G) (i0 : Is G a0 11) (h : fX12_learnt N G a0 a1 σ = some r) : Dn miX12_learnt yX12_learnt 8 G SK [.ref a0, .int a1] σ (some (.int r.1)) r.2 := by
  unfold fX12_learnt at h
  refine dn_of (lv := [some (.ref a0), some (.int a1), none, none]) (by decide) rfl rfl (Nat.le_of_ble_eq_true rfl) rfl ?_
  refine ev_aload_n dc_X12_learnt_0 rfl ?_
  refine ev_iconst (v := 0) dc_X12_learnt_1 (by decide) ?_
  refine ev_putI dc_X12_learnt_2 fi_X12_3 rfl i0 ?_
  refine ev_aload_n dc_X12_learnt_5 rfl ?_
  refine ev_aload_n dc_X12_learnt_6 rfl ?_
  refine ev_iload_n dc_X12_learnt_7 rfl ?_
  obtain ⟨q4, hq4, h⟩ := Option.bind_eq_some_iff.mp h
  refine ev_callV (av := [.int a1]) (st := [.ref a0]) (st1 := [.int q4, .ref a0]) dc_X12_learnt_8 (tX12_noDeedTold hW i0 hq4) mw_1982 cy_X12_noDeedTold i0 (by decide) rfl rfl rfl rfl (Nat.le_of_ble_eq_true rfl) (Nat.le_of_ble_eq_true rfl) ⟨Nat.le_refl _, Nat.le_refl _⟩ ?_
  refine ev_iconst (v := 1) dc_X12_learnt_11 (by decide) ?_
  obtain ⟨q5, hq5, h⟩ := Option.bind_eq_some_iff.mp h
  refine ev_callV (av := [.int q4, .int (1 : Int32)]) (st := []) (st1 := [.int q5.1]) dc_X12_learnt_12 (tX12_throwsIf hW i0 hq5) mw_1784 cy_X12_throwsIf i0 (by decide) rfl rfl rfl rfl (Nat.le_of_ble_eq_true rfl) (Nat.le_of_ble_eq_true rfl) ⟨Nat.le_refl _, Nat.le_refl _⟩ ?_
  refine ev_if_eq (tgt := 20) dc_X12_learnt_15 (by decide) h (fun h => ?_) (fun h => ?_)
  · refine ev_aload_n dc_X12_learnt_20 rfl ?_
    obtain ⟨q6, hq6, h⟩ := Option.bind_eq_some_iff.mp h
    refine ev_callV (av := []) (st := []) (st1 := []) dc_X12_learnt_21 (tX12_keepsAll hW i0 hq6) mw_1986 cy_X12_keepsAll i0 (by decide) rfl rfl rfl rfl (Nat.le_of_ble_eq_true rfl) (Nat.le_of_ble_eq_true rfl) ⟨Nat.le_refl _, Nat.le_refl _⟩ ?_
    refine ev_iconst (v := (-1)) dc_X12_learnt_24 (by decide) ?_
    refine ev_istore_n (lv' := [some (.ref a0), some (.int a1), some (.int (-1 : Int32)), none]) dc_X12_learnt_25 rfl (by decide) rfl ?_
    refine ev_iconst (v := 0) dc_X12_learnt_26 (by decide) ?_
    refine ev_istore_n (lv' := [some (.ref a0), some (.int a1), some (.int (-1 : Int32)), some (.int (0 : Int32))]) dc_X12_learnt_27 rfl (by decide) rfl ?_
    exact ev_sub (tX12_learnt_b28 (b := ((-1 : Int32), (0 : Int32), q6)) hW i0 h) (And.intro rfl (And.intro rfl (And.intro rfl (And.intro rfl trivial))))
  · refine ev_iconst (v := 0) dc_X12_learnt_18 (by decide) ?_
    cases h
    exact ev_iret dc_X12_learnt_19 rfl rfl rfl
theorem dc_X12_led_0 : Dc miX12_led 0 (.aload_n 0) 1 1 := ⟨by decide +kernel, rfl⟩
theorem dc_X12_led_1 : Dc miX12_led 1 (.iconst 0) 1 2 := ⟨by decide +kernel, rfl⟩
theorem dc_X12_led_2 : Dc miX12_led 2 (.putfield 3) 3 5 := ⟨by decide +kernel, rfl⟩
theorem dc_X12_led_5 : Dc miX12_led 5 (.aload_n 0) 1 6 := ⟨by decide +kernel, rfl⟩
theorem dc_X12_led_6 : Dc miX12_led 6 (.aload_n 0) 1 7 := ⟨by decide +kernel, rfl⟩
theorem dc_X12_led_7 : Dc miX12_led 7 (.iload_n 1) 1 8 := ⟨by decide +kernel, rfl⟩
theorem dc_X12_led_8 : Dc miX12_led 8 (.invokevirtual 343) 3 11 := ⟨by decide +kernel, rfl⟩
theorem dc_X12_led_11 : Dc miX12_led 11 (.ifCond .ne 16) 3 14 := ⟨by decide +kernel, rfl⟩
theorem dc_X12_led_14 : Dc miX12_led 14 (.iload_n 2) 1 15 := ⟨by decide +kernel, rfl⟩
theorem dc_X12_led_15 : Dc miX12_led 15 (.iconst (-1)) 1 16 := ⟨by decide +kernel, rfl⟩
theorem dc_X12_led_16 : Dc miX12_led 16 (.if_icmp .eq 15) 3 19 := ⟨by decide +kernel, rfl⟩
theorem dc_X12_led_19 : Dc miX12_led 19 (.aload_n 0) 1 20 := ⟨by decide +kernel, rfl⟩
theorem dc_X12_led_20 : Dc miX12_led 20 (.iload_n 2) 1 21 := ⟨by decide +kernel, rfl⟩
theorem dc_X12_led_21 : Dc miX12_led 21 (.invokevirtual 346) 3 24 := ⟨by decide +kernel, rfl⟩
theorem dc_X12_led_24 : Dc miX12_led 24 (.ifCond .eq 7) 3 27 := ⟨by decide +kernel, rfl⟩
theorem dc_X12_led_27 : Dc miX12_led 27 (.iconst 1) 1 28 := ⟨by decide +kernel, rfl⟩
theorem dc_X12_led_28 : Dc miX12_led 28 (.goto 4) 3 31 := ⟨by decide +kernel, rfl⟩
theorem dc_X12_led_31 : Dc miX12_led 31 (.iconst 0) 1 32 := ⟨by decide +kernel, rfl⟩
theorem dc_X12_led_32 : Dc miX12_led 32 (.iconst 1) 1 33 := ⟨by decide +kernel, rfl⟩
theorem dc_X12_led_33 : Dc miX12_led 33 (.invokevirtual 274) 3 36 := ⟨by decide +kernel, rfl⟩
theorem dc_X12_led_36 : Dc miX12_led 36 (.ifCond .eq 5) 3 39 := ⟨by decide +kernel, rfl⟩
theorem dc_X12_led_39 : Dc miX12_led 39 (.iconst 0) 1 40 := ⟨by decide +kernel, rfl⟩
theorem dc_X12_led_40 : Dc miX12_led 40 (.ireturn) 1 41 := ⟨by decide +kernel, rfl⟩
theorem dc_X12_led_41 : Dc miX12_led 41 (.iconst 0) 1 42 := ⟨by decide +kernel, rfl⟩
theorem dc_X12_led_42 : Dc miX12_led 42 (.istore_n 3) 1 43 := ⟨by decide +kernel, rfl⟩
theorem dc_X12_led_43 : Dc miX12_led 43 (.iconst 0) 1 44 := ⟨by decide +kernel, rfl⟩
theorem dc_X12_led_44 : Dc miX12_led 44 (.istore 4) 2 46 := ⟨by decide +kernel, rfl⟩
theorem dc_X12_led_46 : Dc miX12_led 46 (.iload 4) 2 48 := ⟨by decide +kernel, rfl⟩
theorem dc_X12_led_48 : Dc miX12_led 48 (.aload_n 0) 1 49 := ⟨by decide +kernel, rfl⟩
theorem dc_X12_led_49 : Dc miX12_led 49 (.getfield 13) 3 52 := ⟨by decide +kernel, rfl⟩
theorem dc_X12_led_52 : Dc miX12_led 52 (.bipush 15) 2 54 := ⟨by decide +kernel, rfl⟩
theorem dc_X12_led_54 : Dc miX12_led 54 (.iaload) 1 55 := ⟨by decide +kernel, rfl⟩
theorem dc_X12_led_55 : Dc miX12_led 55 (.if_icmp .ge 44) 3 58 := ⟨by decide +kernel, rfl⟩
theorem dc_X12_led_58 : Dc miX12_led 58 (.iload_n 3) 1 59 := ⟨by decide +kernel, rfl⟩
theorem dc_X12_led_59 : Dc miX12_led 59 (.aload_n 0) 1 60 := ⟨by decide +kernel, rfl⟩
theorem dc_X12_led_60 : Dc miX12_led 60 (.iload 4) 2 62 := ⟨by decide +kernel, rfl⟩
theorem dc_X12_led_62 : Dc miX12_led 62 (.iconst 1) 1 63 := ⟨by decide +kernel, rfl⟩
theorem dc_X12_led_63 : Dc miX12_led 63 (.invokevirtual 468) 3 66 := ⟨by decide +kernel, rfl⟩
theorem dc_X12_led_66 : Dc miX12_led 66 (.iload_n 1) 1 67 := ⟨by decide +kernel, rfl⟩
theorem dc_X12_led_67 : Dc miX12_led 67 (.if_icmp .ne 23) 3 70 := ⟨by decide +kernel, rfl⟩
theorem dc_X12_led_70 : Dc miX12_led 70 (.iload_n 2) 1 71 := ⟨by decide +kernel, rfl⟩
theorem dc_X12_led_71 : Dc miX12_led 71 (.iconst (-1)) 1 72 := ⟨by decide +kernel, rfl⟩
theorem dc_X12_led_72 : Dc miX12_led 72 (.if_icmp .eq 14) 3 75 := ⟨by decide +kernel, rfl⟩
theorem dc_X12_led_75 : Dc miX12_led 75 (.aload_n 0) 1 76 := ⟨by decide +kernel, rfl⟩
theorem dc_X12_led_76 : Dc miX12_led 76 (.iload 4) 2 78 := ⟨by decide +kernel, rfl⟩
theorem dc_X12_led_78 : Dc miX12_led 78 (.iconst 2) 1 79 := ⟨by decide +kernel, rfl⟩
theorem dc_X12_led_79 : Dc miX12_led 79 (.invokevirtual 468) 3 82 := ⟨by decide +kernel, rfl⟩
theorem dc_X12_led_82 : Dc miX12_led 82 (.iload_n 2) 1 83 := ⟨by decide +kernel, rfl⟩
theorem dc_X12_led_83 : Dc miX12_led 83 (.if_icmp .ne 7) 3 86 := ⟨by decide +kernel, rfl⟩
theorem dc_X12_led_86 : Dc miX12_led 86 (.iconst 1) 1 87 := ⟨by decide +kernel, rfl⟩
theorem dc_X12_led_87 : Dc miX12_led 87 (.goto 4) 3 90 := ⟨by decide +kernel, rfl⟩
theorem dc_X12_led_90 : Dc miX12_led 90 (.iconst 0) 1 91 := ⟨by decide +kernel, rfl⟩
theorem dc_X12_led_91 : Dc miX12_led 91 (.iadd) 1 92 := ⟨by decide +kernel, rfl⟩
theorem dc_X12_led_92 : Dc miX12_led 92 (.istore_n 3) 1 93 := ⟨by decide +kernel, rfl⟩
theorem dc_X12_led_93 : Dc miX12_led 93 (.iinc 4 1) 3 96 := ⟨by decide +kernel, rfl⟩
theorem dc_X12_led_96 : Dc miX12_led 96 (.goto (-50)) 3 99 := ⟨by decide +kernel, rfl⟩
theorem dc_X12_led_99 : Dc miX12_led 99 (.iload_n 3) 1 100 := ⟨by decide +kernel, rfl⟩
theorem dc_X12_led_100 : Dc miX12_led 100 (.ireturn) 1 101 := ⟨by decide +kernel, rfl⟩
def fX12_led_b86 (N : Nat) (G : pG) (k46 : Int32 × Int32 × pS → Option (Int32 × pS)) (a0 : Nat) (a1 : Int32) (a2 : Int32) (x4 : Int32) (y0 : Int32) (σ : pS) : Option (Int32 × pS) := k46 (y0 + (1 : Int32), x4 + (1 : Int32), σ)
set_option maxRecDepth 100000 in
set_option maxHeartbeats 4000000 in
theorem tX12_led_b86 {N : Nat} {G : pG} {SK : Nat → Nat} {k46 : Int32 × Int32 × pS → Option (Int32 × pS)} {a0 : Nat} {a1 : Int32} {a2 : Int32} {x4 : Int32} {y0 : Int32} {σ : pS} {r : Int32 × pS} (hW : WT G) (i0 : Is G a0 11) (hk46 : ∀ b : Int32 × Int32 × pS, k46 b = some r → Ev miX12_led (3, 0, 0) G (Zp G (some (.int r.1)) r.2) SK (0, 0) 46 [some (.ref a0), some (.int a1), some (.int a2), some (.int b.1), some (.int b.2.1)] [] b.2.2) (h : fX12_led_b86 N G k46 a0 a1 a2 x4 y0 σ = some r) : Ev miX12_led (3, 0, 0) G (Zp G (some (.int r.1)) r.2) SK (0, 0) 86 [some (.ref a0), some (.int a1), some (.int a2), none, some (.int x4)] [.int y0] σ := by
  unfold fX12_led_b86 at h
  refine ev_iconst (v := 1) dc_X12_led_86 (by decide) ?_
  refine ev_goto (tgt := 91) dc_X12_led_87 (by decide) ?_
  refine ev_iadd dc_X12_led_91 ?_
  refine ev_istore_n (lv' := [some (.ref a0), some (.int a1), some (.int a2), some (.int (y0 + (1 : Int32))), some (.int x4)]) dc_X12_led_92 rfl (by decide) rfl ?_
  refine ev_iinc (v := 1) (lv' := [some (.ref a0), some (.int a1), some (.int a2), some (.int (y0 + (1 : Int32))), some (.int (x4 + (1 : Int32)))]) dc_X12_led_93 rfl (by decide) rfl (by decide) rfl ?_
  refine ev_goto (tgt := 46) dc_X12_led_96 (by decide) ?_
  exact ev_sub (hk46 (y0 + (1 : Int32), x4 + (1 : Int32), σ) h) (And.intro rfl (And.intro rfl (And.intro rfl (And.intro rfl (And.intro rfl trivial)))))
def fX12_led_b90 (N : Nat) (G : pG) (k46 : Int32 × Int32 × pS → Option (Int32 × pS)) (a0 : Nat) (a1 : Int32) (a2 : Int32) (x4 : Int32) (y0 : Int32) (σ : pS) : Option (Int32 × pS) := k46 (y0 + (0 : Int32), x4 + (1 : Int32), σ)
set_option maxRecDepth 100000 in
set_option maxHeartbeats 4000000 in
theorem tX12_led_b90 {N : Nat} {G : pG} {SK : Nat → Nat} {k46 : Int32 × Int32 × pS → Option (Int32 × pS)} {a0 : Nat} {a1 : Int32} {a2 : Int32} {x4 : Int32} {y0 : Int32} {σ : pS} {r : Int32 × pS} (hW : WT G) (i0 : Is G a0 11) (hk46 : ∀ b : Int32 × Int32 × pS, k46 b = some r → Ev miX12_led (3, 0, 0) G (Zp G (some (.int r.1)) r.2) SK (0, 0) 46 [some (.ref a0), some (.int a1), some (.int a2), some (.int b.1), some (.int b.2.1)] [] b.2.2) (h : fX12_led_b90 N G k46 a0 a1 a2 x4 y0 σ = some r) : Ev miX12_led (3, 0, 0) G (Zp G (some (.int r.1)) r.2) SK (0, 0) 90 [some (.ref a0), some (.int a1), some (.int a2), none, some (.int x4)] [.int y0] σ := by
  unfold fX12_led_b90 at h
  refine ev_iconst (v := 0) dc_X12_led_90 (by decide) ?_
  refine ev_iadd dc_X12_led_91 ?_
  refine ev_istore_n (lv' := [some (.ref a0), some (.int a1), some (.int a2), some (.int (y0 + (0 : Int32))), some (.int x4)]) dc_X12_led_92 rfl (by decide) rfl ?_
  refine ev_iinc (v := 1) (lv' := [some (.ref a0), some (.int a1), some (.int a2), some (.int (y0 + (0 : Int32))), some (.int (x4 + (1 : Int32)))]) dc_X12_led_93 rfl (by decide) rfl (by decide) rfl ?_
  refine ev_goto (tgt := 46) dc_X12_led_96 (by decide) ?_
  exact ev_sub (hk46 (y0 + (0 : Int32), x4 + (1 : Int32), σ) h) (And.intro rfl (And.intro rfl (And.intro rfl (And.intro rfl (And.intro rfl trivial)))))
def fX12_led_b46 (N : Nat) (G : pG) (a0 : Nat) (a1 : Int32) (a2 : Int32) : (Int32 × Int32 × pS) → Option (Int32 × pS) := lp (fun (k46 : Int32 × Int32 × pS → Option (Int32 × pS)) (b : Int32 × Int32 × pS) => ck (inB (15 : Int32) (pN G (pR G a0 1))) (if (gA b.2.2 (pR G a0 1) (15 : Int32)) ≤ b.2.1 then (some (b.1, b.2.2)) else ((fX12_ofLog N G a0 b.2.1 (1 : Int32) b.2.2).bind (fun q1 => if q1 = a1 then (if a2 = (-1 : Int32) then (fX12_led_b86 N G k46 a0 a1 a2 b.2.1 b.1 b.2.2) else ((fX12_ofLog N G a0 b.2.1 (2 : Int32) b.2.2).bind (fun q2 => if q2 = a2 then (fX12_led_b86 N G k46 a0 a1 a2 b.2.1 b.1 b.2.2) else (fX12_led_b90 N G k46 a0 a1 a2 b.2.1 b.1 b.2.2)))) else (fX12_led_b90 N G k46 a0 a1 a2 b.2.1 b.1 b.2.2))))) N
set_option maxRecDepth 100000 in
set_option maxHeartbeats 4000000 in
theorem tX12_led_b46 {N : Nat} {G : pG} {SK : Nat → Nat} {a0 : Nat} {a1 : Int32} {a2 : Int32} {b : Int32 × Int32 × pS} {r : Int32 × pS} (hW : WT G) (i0 : Is G a0 11) (h : fX12_led_b46 N G a0 a1 a2 b = some r) : Ev miX12_led (3, 0, 0) G (Zp G (some (.int r.1)) r.2) SK (0, 0) 46 [some (.ref a0), some (.int a1), some (.int a2), some (.int b.1), some (.int b.2.1)] [] b.2.2 := by
  unfold fX12_led_b46 at h
  refine lp_ind (P := fun b r9 => r9 = r → Ev miX12_led (3, 0, 0) G (Zp G (some (.int r.1)) r.2) SK (0, 0) 46 [some (.ref a0), some (.int a1), some (.int a2), some (.int b.1), some (.int b.2.1)] [] b.2.2) (fun k46 b r9 ih h9 e9 => ?_) N b r h rfl
  clear h
  subst e9
  have h := h9
  clear h9
  have hk46 : ∀ b : Int32 × Int32 × pS, k46 b = some r9 → Ev miX12_led (3, 0, 0) G (Zp G (some (.int r9.1)) r9.2) SK (0, 0) 46 [some (.ref a0), some (.int a1), some (.int a2), some (.int b.1), some (.int b.2.1)] [] b.2.2 := fun b hb => ih b r9 hb rfl
  clear ih
  obtain ⟨x3, x4, σ⟩ := b
  dsimp only at h ⊢
  refine ev_iload dc_X12_led_46 rfl ?_
  refine ev_aload_n dc_X12_led_48 rfl ?_
  refine ev_getR dc_X12_led_49 fi_X12_13 rfl i0 ?_
  refine ev_bipush (v := 15) dc_X12_led_52 (by decide) ?_
  refine ev_iald dc_X12_led_54 (wt hW i0 1 rfl rfl) h (fun h => ?_)
  refine ev_icmp_ge (tgt := 99) dc_X12_led_55 (by decide) h (fun h => ?_) (fun h => ?_)
  · refine ev_iload_n dc_X12_led_99 rfl ?_
    cases h
    exact ev_iret dc_X12_led_100 rfl rfl rfl
  · refine ev_iload_n dc_X12_led_58 rfl ?_
    refine ev_aload_n dc_X12_led_59 rfl ?_
    refine ev_iload dc_X12_led_60 rfl ?_
    refine ev_iconst (v := 1) dc_X12_led_62 (by decide) ?_
    obtain ⟨q1, hq1, h⟩ := Option.bind_eq_some_iff.mp h
    refine ev_callV (av := [.int x4, .int (1 : Int32)]) (st := [.int x3]) (st1 := [.int q1, .int x3]) dc_X12_led_63 (tX12_ofLog hW i0 hq1) mw_2162 cy_X12_ofLog i0 (by decide) rfl rfl rfl rfl (Nat.le_of_ble_eq_true rfl) (Nat.le_of_ble_eq_true rfl) ⟨Nat.le_refl _, Nat.le_refl _⟩ ?_
    refine ev_iload_n dc_X12_led_66 rfl ?_
    refine ev_icmp_ne (tgt := 90) dc_X12_led_67 (by decide) h (fun h => ?_) (fun h => ?_)
    · refine ev_iload_n dc_X12_led_70 rfl ?_
      refine ev_iconst (v := (-1)) dc_X12_led_71 (by decide) ?_
      refine ev_icmp_eq (tgt := 86) dc_X12_led_72 (by decide) h (fun h => ?_) (fun h => ?_)
      · exact ev_sub (tX12_led_b86 hW i0 hk46 h) (And.intro rfl (And.intro rfl (And.intro rfl (And.intro rfl trivial))))
      · refine ev_aload_n dc_X12_led_75 rfl ?_
        refine ev_iload dc_X12_led_76 rfl ?_
        refine ev_iconst (v := 2) dc_X12_led_78 (by decide) ?_
        obtain ⟨q2, hq2, h⟩ := Option.bind_eq_some_iff.mp h
        refine ev_callV (av := [.int x4, .int (2 : Int32)]) (st := [.int x3]) (st1 := [.int q2, .int x3]) dc_X12_led_79 (tX12_ofLog hW i0 hq2) mw_2162 cy_X12_ofLog i0 (by decide) rfl rfl rfl rfl (Nat.le_of_ble_eq_true rfl) (Nat.le_of_ble_eq_true rfl) ⟨Nat.le_refl _, Nat.le_refl _⟩ ?_
        refine ev_iload_n dc_X12_led_82 rfl ?_
        refine ev_icmp_ne (tgt := 90) dc_X12_led_83 (by decide) h (fun h => ?_) (fun h => ?_)
        · exact ev_sub (tX12_led_b86 hW i0 hk46 h) (And.intro rfl (And.intro rfl (And.intro rfl (And.intro rfl trivial))))
        · exact ev_sub (tX12_led_b90 hW i0 hk46 h) (And.intro rfl (And.intro rfl (And.intro rfl (And.intro rfl trivial))))
    · exact ev_sub (tX12_led_b90 hW i0 hk46 h) (And.intro rfl (And.intro rfl (And.intro rfl (And.intro rfl trivial))))
def fX12_led_b32 (N : Nat) (G : pG) (a0 : Nat) (a1 : Int32) (a2 : Int32) (y1 : Int32) (σ : pS) : Option (Int32 × pS) := (fX12_throwsIf N G a0 y1 (1 : Int32) σ).bind (fun q3 => if q3.1 = 0 then (fX12_led_b46 N G a0 a1 a2 ((0 : Int32), (0 : Int32), q3.2)) else (some ((0 : Int32), q3.2)))
set_option maxRecDepth 100000 in
set_option maxHeartbeats 4000000 in
theorem tX12_led_b32 {N : Nat} {G : pG} {SK : Nat → Nat} {a0 : Nat} {a1 : Int32} {a2 : Int32} {y1 : Int32} {σ : pS} {r : Int32 × pS} (hW : WT G) (i0 : Is G a0 11) (h : fX12_led_b32 N G a0 a1 a2 y1 σ = some r) : Ev miX12_led (3, 0, 0) G (Zp G (some (.int r.1)) r.2) SK (0, 0) 32 [some (.ref a0), some (.int a1), some (.int a2), none, none] [.int y1, .ref a0] σ := by
  unfold fX12_led_b32 at h
  refine ev_iconst (v := 1) dc_X12_led_32 (by decide) ?_
  obtain ⟨q3, hq3, h⟩ := Option.bind_eq_some_iff.mp h
  refine ev_callV (av := [.int y1, .int (1 : Int32)]) (st := []) (st1 := [.int q3.1]) dc_X12_led_33 (tX12_throwsIf hW i0 hq3) mw_1784 cy_X12_throwsIf i0 (by decide) rfl rfl rfl rfl (Nat.le_of_ble_eq_true rfl) (Nat.le_of_ble_eq_true rfl) ⟨Nat.le_refl _, Nat.le_refl _⟩ ?_
  refine ev_if_eq (tgt := 41) dc_X12_led_36 (by decide) h (fun h => ?_) (fun h => ?_)
  · refine ev_iconst (v := 0) dc_X12_led_41 (by decide) ?_
    refine ev_istore_n (lv' := [some (.ref a0), some (.int a1), some (.int a2), some (.int (0 : Int32)), none]) dc_X12_led_42 rfl (by decide) rfl ?_
    refine ev_iconst (v := 0) dc_X12_led_43 (by decide) ?_
    refine ev_istore (lv' := [some (.ref a0), some (.int a1), some (.int a2), some (.int (0 : Int32)), some (.int (0 : Int32))]) dc_X12_led_44 rfl (by decide) rfl ?_
    exact ev_sub (tX12_led_b46 (b := ((0 : Int32), (0 : Int32), q3.2)) hW i0 h) (And.intro rfl (And.intro rfl (And.intro rfl (And.intro rfl (And.intro rfl trivial)))))
  · refine ev_iconst (v := 0) dc_X12_led_39 (by decide) ?_
    cases h
    exact ev_iret dc_X12_led_40 rfl rfl rfl
def fX12_led_b27 (N : Nat) (G : pG) (a0 : Nat) (a1 : Int32) (a2 : Int32) (σ : pS) : Option (Int32 × pS) := fX12_led_b32 N G a0 a1 a2 (1 : Int32) σ
set_option maxRecDepth 100000 in
set_option maxHeartbeats 4000000 in
theorem tX12_led_b27 {N : Nat} {G : pG} {SK : Nat → Nat} {a0 : Nat} {a1 : Int32} {a2 : Int32} {σ : pS} {r : Int32 × pS} (hW : WT G) (i0 : Is G a0 11) (h : fX12_led_b27 N G a0 a1 a2 σ = some r) : Ev miX12_led (3, 0, 0) G (Zp G (some (.int r.1)) r.2) SK (0, 0) 27 [some (.ref a0), some (.int a1), some (.int a2), none, none] [.ref a0] σ := by
  unfold fX12_led_b27 at h
  refine ev_iconst (v := 1) dc_X12_led_27 (by decide) ?_
  refine ev_goto (tgt := 32) dc_X12_led_28 (by decide) ?_
  exact ev_sub (tX12_led_b32 hW i0 h) (And.intro rfl (And.intro rfl (And.intro rfl trivial)))
def fX12_led_b31 (N : Nat) (G : pG) (a0 : Nat) (a1 : Int32) (a2 : Int32) (σ : pS) : Option (Int32 × pS) := fX12_led_b32 N G a0 a1 a2 (0 : Int32) σ
set_option maxRecDepth 100000 in
set_option maxHeartbeats 4000000 in
theorem tX12_led_b31 {N : Nat} {G : pG} {SK : Nat → Nat} {a0 : Nat} {a1 : Int32} {a2 : Int32} {σ : pS} {r : Int32 × pS} (hW : WT G) (i0 : Is G a0 11) (h : fX12_led_b31 N G a0 a1 a2 σ = some r) : Ev miX12_led (3, 0, 0) G (Zp G (some (.int r.1)) r.2) SK (0, 0) 31 [some (.ref a0), some (.int a1), some (.int a2), none, none] [.ref a0] σ := by
  unfold fX12_led_b31 at h
  refine ev_iconst (v := 0) dc_X12_led_31 (by decide) ?_
  exact ev_sub (tX12_led_b32 hW i0 h) (And.intro rfl (And.intro rfl (And.intro rfl trivial)))
def fX12_led (N : Nat) (G : pG) (a0 : Nat) (a1 : Int32) (a2 : Int32) (σ : pS) : Option (Int32 × pS) := (fX12_noWho N G a0 a1 (putF σ a0 0 (0 : Int32))).bind (fun q4 => if q4 = 0 then (if a2 = (-1 : Int32) then (fX12_led_b31 N G a0 a1 a2 (putF σ a0 0 (0 : Int32))) else ((fX12_noWord N G a0 a2 (putF σ a0 0 (0 : Int32))).bind (fun q5 => if q5 = 0 then (fX12_led_b31 N G a0 a1 a2 (putF σ a0 0 (0 : Int32))) else (fX12_led_b27 N G a0 a1 a2 (putF σ a0 0 (0 : Int32)))))) else (fX12_led_b27 N G a0 a1 a2 (putF σ a0 0 (0 : Int32))))
set_option maxRecDepth 100000 in
set_option maxHeartbeats 4000000 in
theorem tX12_led {N : Nat} {G : pG} {SK : Nat → Nat} {a0 : Nat} {a1 : Int32} {a2 : Int32} {σ : pS} {r : Int32 × pS} (hW : WT G) (i0 : Is G a0 11) (h : fX12_led N G a0 a1 a2 σ = some r) : Dn miX12_led yX12_led 3 G SK [.ref a0, .int a1, .int a2] σ (some (.int r.1)) r.2 := by
  unfold fX12_led at h
  refine dn_of (lv := [some (.ref a0), some (.int a1), some (.int a2), none, none]) (by decide) rfl rfl (Nat.le_of_ble_eq_true rfl) rfl ?_
  refine ev_aload_n dc_X12_led_0 rfl ?_
  refine ev_iconst (v := 0) dc_X12_led_1 (by decide) ?_
  refine ev_putI dc_X12_led_2 fi_X12_3 rfl i0 ?_
  refine ev_aload_n dc_X12_led_5 rfl ?_
  refine ev_aload_n dc_X12_led_6 rfl ?_
  refine ev_iload_n dc_X12_led_7 rfl ?_
  obtain ⟨q4, hq4, h⟩ := Option.bind_eq_some_iff.mp h
  refine ev_callV (av := [.int a1]) (st := [.ref a0]) (st1 := [.int q4, .ref a0]) dc_X12_led_8 (tX12_noWho hW i0 hq4) mw_1796 cy_X12_noWho i0 (by decide) rfl rfl rfl rfl (Nat.le_of_ble_eq_true rfl) (Nat.le_of_ble_eq_true rfl) ⟨Nat.le_refl _, Nat.le_refl _⟩ ?_
  refine ev_if_ne (tgt := 27) dc_X12_led_11 (by decide) h (fun h => ?_) (fun h => ?_)
  · refine ev_iload_n dc_X12_led_14 rfl ?_
    refine ev_iconst (v := (-1)) dc_X12_led_15 (by decide) ?_
    refine ev_icmp_eq (tgt := 31) dc_X12_led_16 (by decide) h (fun h => ?_) (fun h => ?_)
    · exact ev_sub (tX12_led_b31 hW i0 h) (And.intro rfl (And.intro rfl (And.intro rfl trivial)))
    · refine ev_aload_n dc_X12_led_19 rfl ?_
      refine ev_iload_n dc_X12_led_20 rfl ?_
      obtain ⟨q5, hq5, h⟩ := Option.bind_eq_some_iff.mp h
      refine ev_callV (av := [.int a2]) (st := [.ref a0]) (st1 := [.int q5, .ref a0]) dc_X12_led_21 (tX12_noWord hW i0 hq5) mw_1800 cy_X12_noWord i0 (by decide) rfl rfl rfl rfl (Nat.le_of_ble_eq_true rfl) (Nat.le_of_ble_eq_true rfl) ⟨Nat.le_refl _, Nat.le_refl _⟩ ?_
      refine ev_if_eq (tgt := 31) dc_X12_led_24 (by decide) h (fun h => ?_) (fun h => ?_)
      · exact ev_sub (tX12_led_b31 hW i0 h) (And.intro rfl (And.intro rfl (And.intro rfl trivial)))
      · exact ev_sub (tX12_led_b27 hW i0 h) (And.intro rfl (And.intro rfl (And.intro rfl trivial)))
  · exact ev_sub (tX12_led_b27 hW i0 h) (And.intro rfl (And.intro rfl (And.intro rfl trivial)))
theorem dc_X12_likeliest_0 : Dc miX12_likeliest 0 (.aload_n 0) 1 1 := ⟨by decide +kernel, rfl⟩
theorem dc_X12_likeliest_1 : Dc miX12_likeliest 1 (.iconst 0) 1 2 := ⟨by decide +kernel, rfl⟩
theorem dc_X12_likeliest_2 : Dc miX12_likeliest 2 (.putfield 3) 3 5 := ⟨by decide +kernel, rfl⟩
theorem dc_X12_likeliest_5 : Dc miX12_likeliest 5 (.iconst (-1)) 1 6 := ⟨by decide +kernel, rfl⟩
theorem dc_X12_likeliest_6 : Dc miX12_likeliest 6 (.istore_n 1) 1 7 := ⟨by decide +kernel, rfl⟩
theorem dc_X12_likeliest_7 : Dc miX12_likeliest 7 (.iconst 0) 1 8 := ⟨by decide +kernel, rfl⟩
theorem dc_X12_likeliest_8 : Dc miX12_likeliest 8 (.istore_n 2) 1 9 := ⟨by decide +kernel, rfl⟩
theorem dc_X12_likeliest_9 : Dc miX12_likeliest 9 (.iload_n 2) 1 10 := ⟨by decide +kernel, rfl⟩
theorem dc_X12_likeliest_10 : Dc miX12_likeliest 10 (.aload_n 0) 1 11 := ⟨by decide +kernel, rfl⟩
theorem dc_X12_likeliest_11 : Dc miX12_likeliest 11 (.invokevirtual 66) 3 14 := ⟨by decide +kernel, rfl⟩
theorem dc_X12_likeliest_14 : Dc miX12_likeliest 14 (.if_icmp .ge 44) 3 17 := ⟨by decide +kernel, rfl⟩
theorem dc_X12_likeliest_17 : Dc miX12_likeliest 17 (.aload_n 0) 1 18 := ⟨by decide +kernel, rfl⟩
theorem dc_X12_likeliest_18 : Dc miX12_likeliest 18 (.getfield 13) 3 21 := ⟨by decide +kernel, rfl⟩
theorem dc_X12_likeliest_21 : Dc miX12_likeliest 21 (.bipush 12) 2 23 := ⟨by decide +kernel, rfl⟩
theorem dc_X12_likeliest_23 : Dc miX12_likeliest 23 (.iaload) 1 24 := ⟨by decide +kernel, rfl⟩
theorem dc_X12_likeliest_24 : Dc miX12_likeliest 24 (.iload_n 2) 1 25 := ⟨by decide +kernel, rfl⟩
theorem dc_X12_likeliest_25 : Dc miX12_likeliest 25 (.invokestatic 122) 3 28 := ⟨by decide +kernel, rfl⟩
theorem dc_X12_likeliest_28 : Dc miX12_likeliest 28 (.ifCond .eq 24) 3 31 := ⟨by decide +kernel, rfl⟩
theorem dc_X12_likeliest_31 : Dc miX12_likeliest 31 (.iload_n 1) 1 32 := ⟨by decide +kernel, rfl⟩
theorem dc_X12_likeliest_32 : Dc miX12_likeliest 32 (.ifCond .lt 18) 3 35 := ⟨by decide +kernel, rfl⟩
theorem dc_X12_likeliest_35 : Dc miX12_likeliest 35 (.aload_n 0) 1 36 := ⟨by decide +kernel, rfl⟩
theorem dc_X12_likeliest_36 : Dc miX12_likeliest 36 (.iload_n 2) 1 37 := ⟨by decide +kernel, rfl⟩
theorem dc_X12_likeliest_37 : Dc miX12_likeliest 37 (.iconst 1) 1 38 := ⟨by decide +kernel, rfl⟩
theorem dc_X12_likeliest_38 : Dc miX12_likeliest 38 (.invokevirtual 277) 3 41 := ⟨by decide +kernel, rfl⟩
theorem dc_X12_likeliest_41 : Dc miX12_likeliest 41 (.aload_n 0) 1 42 := ⟨by decide +kernel, rfl⟩
theorem dc_X12_likeliest_42 : Dc miX12_likeliest 42 (.iload_n 1) 1 43 := ⟨by decide +kernel, rfl⟩
theorem dc_X12_likeliest_43 : Dc miX12_likeliest 43 (.iconst 1) 1 44 := ⟨by decide +kernel, rfl⟩
theorem dc_X12_likeliest_44 : Dc miX12_likeliest 44 (.invokevirtual 277) 3 47 := ⟨by decide +kernel, rfl⟩
theorem dc_X12_likeliest_47 : Dc miX12_likeliest 47 (.if_icmp .le 5) 3 50 := ⟨by decide +kernel, rfl⟩
theorem dc_X12_likeliest_50 : Dc miX12_likeliest 50 (.iload_n 2) 1 51 := ⟨by decide +kernel, rfl⟩
theorem dc_X12_likeliest_51 : Dc miX12_likeliest 51 (.istore_n 1) 1 52 := ⟨by decide +kernel, rfl⟩
theorem dc_X12_likeliest_52 : Dc miX12_likeliest 52 (.iinc 2 1) 3 55 := ⟨by decide +kernel, rfl⟩
theorem dc_X12_likeliest_55 : Dc miX12_likeliest 55 (.goto (-46)) 3 58 := ⟨by decide +kernel, rfl⟩
theorem dc_X12_likeliest_58 : Dc miX12_likeliest 58 (.iload_n 1) 1 59 := ⟨by decide +kernel, rfl⟩
theorem dc_X12_likeliest_59 : Dc miX12_likeliest 59 (.ireturn) 1 60 := ⟨by decide +kernel, rfl⟩
def fX12_likeliest_b9 (N : Nat) (G : pG) (a0 : Nat) : (Int32 × Int32 × pS) → Option (Int32 × pS) := lp (fun (k9 : Int32 × Int32 × pS → Option (Int32 × pS)) (b : Int32 × Int32 × pS) => (fX12_names N G a0 b.2.2).bind (fun q1 => if q1 ≤ b.2.1 then (some (b.1, b.2.2)) else (ck (inB (12 : Int32) (pN G (pR G a0 1))) ((fX12_has N G (gA b.2.2 (pR G a0 1) (12 : Int32)) b.2.1 b.2.2).bind (fun q2 => if q2 = 0 then (k9 (b.1, b.2.1 + (1 : Int32), b.2.2)) else (if b.1 < 0 then (k9 (b.2.1, b.2.1 + (1 : Int32), b.2.2)) else ((fX12_ofName N G a0 b.2.1 (1 : Int32) b.2.2).bind (fun q3 => (fX12_ofName N G a0 b.1 (1 : Int32) b.2.2).bind (fun q4 => if q3 ≤ q4 then (k9 (b.1, b.2.1 + (1 : Int32), b.2.2)) else (k9 (b.2.1, b.2.1 + (1 : Int32), b.2.2))))))))))) N
set_option maxRecDepth 100000 in
set_option maxHeartbeats 4000000 in
theorem tX12_likeliest_b9 {N : Nat} {G : pG} {SK : Nat → Nat} {a0 : Nat} {b : Int32 × Int32 × pS} {r : Int32 × pS} (hW : WT G) (i0 : Is G a0 11) (h : fX12_likeliest_b9 N G a0 b = some r) : Ev miX12_likeliest (2, 0, 0) G (Zp G (some (.int r.1)) r.2) SK (0, 0) 9 [some (.ref a0), some (.int b.1), some (.int b.2.1)] [] b.2.2 := by
  unfold fX12_likeliest_b9 at h
  refine lp_ind (P := fun b r9 => r9 = r → Ev miX12_likeliest (2, 0, 0) G (Zp G (some (.int r.1)) r.2) SK (0, 0) 9 [some (.ref a0), some (.int b.1), some (.int b.2.1)] [] b.2.2) (fun k9 b r9 ih h9 e9 => ?_) N b r h rfl
  clear h
  subst e9
  have h := h9
  clear h9
  have hk9 : ∀ b : Int32 × Int32 × pS, k9 b = some r9 → Ev miX12_likeliest (2, 0, 0) G (Zp G (some (.int r9.1)) r9.2) SK (0, 0) 9 [some (.ref a0), some (.int b.1), some (.int b.2.1)] [] b.2.2 := fun b hb => ih b r9 hb rfl
  clear ih
  obtain ⟨x1, x2, σ⟩ := b
  dsimp only at h ⊢
  refine ev_iload_n dc_X12_likeliest_9 rfl ?_
  refine ev_aload_n dc_X12_likeliest_10 rfl ?_
  obtain ⟨q1, hq1, h⟩ := Option.bind_eq_some_iff.mp h
  refine ev_callV (av := []) (st := [.int x2]) (st1 := [.int q1, .int x2]) dc_X12_likeliest_11 (tX12_names hW i0 hq1) mw_1648 cy_X12_names i0 (by decide) rfl rfl rfl rfl (Nat.le_of_ble_eq_true rfl) (Nat.le_of_ble_eq_true rfl) ⟨Nat.le_refl _, Nat.le_refl _⟩ ?_
  refine ev_icmp_ge (tgt := 58) dc_X12_likeliest_14 (by decide) h (fun h => ?_) (fun h => ?_)
  · refine ev_iload_n dc_X12_likeliest_58 rfl ?_
    cases h
    exact ev_iret dc_X12_likeliest_59 rfl rfl rfl
  · refine ev_aload_n dc_X12_likeliest_17 rfl ?_
    refine ev_getR dc_X12_likeliest_18 fi_X12_13 rfl i0 ?_
    refine ev_bipush (v := 12) dc_X12_likeliest_21 (by decide) ?_
    refine ev_iald dc_X12_likeliest_23 (wt hW i0 1 rfl rfl) h (fun h => ?_)
    refine ev_iload_n dc_X12_likeliest_24 rfl ?_
    obtain ⟨q2, hq2, h⟩ := Option.bind_eq_some_iff.mp h
    refine ev_callS (av := [.int (gA σ (pR G a0 1) (12 : Int32)), .int x2]) (st := []) (st1 := [.int q2]) dc_X12_likeliest_25 (tX12_has hW hq2) mw_1659 cs_X12_has rfl rfl rfl (Nat.le_of_ble_eq_true rfl) (Nat.le_of_ble_eq_true rfl) ⟨Nat.le_refl _, Nat.le_refl _⟩ ?_
    refine ev_if_eq (tgt := 52) dc_X12_likeliest_28 (by decide) h (fun h => ?_) (fun h => ?_)
    · refine ev_iinc (v := 1) (lv' := [some (.ref a0), some (.int x1), some (.int (x2 + (1 : Int32)))]) dc_X12_likeliest_52 rfl (by decide) rfl (by decide) rfl ?_
      refine ev_goto (tgt := 9) dc_X12_likeliest_55 (by decide) ?_
      exact ev_sub (hk9 (x1, x2 + (1 : Int32), σ) h) (And.intro rfl (And.intro rfl (And.intro rfl trivial)))
    · refine ev_iload_n dc_X12_likeliest_31 rfl ?_
      refine ev_if_lt (tgt := 50) dc_X12_likeliest_32 (by decide) h (fun h => ?_) (fun h => ?_)
      · refine ev_iload_n dc_X12_likeliest_50 rfl ?_
        refine ev_istore_n (lv' := [some (.ref a0), some (.int x2), some (.int x2)]) dc_X12_likeliest_51 rfl (by decide) rfl ?_
        refine ev_iinc (v := 1) (lv' := [some (.ref a0), some (.int x2), some (.int (x2 + (1 : Int32)))]) dc_X12_likeliest_52 rfl (by decide) rfl (by decide) rfl ?_
        refine ev_goto (tgt := 9) dc_X12_likeliest_55 (by decide) ?_
        exact ev_sub (hk9 (x2, x2 + (1 : Int32), σ) h) (And.intro rfl (And.intro rfl (And.intro rfl trivial)))
      · refine ev_aload_n dc_X12_likeliest_35 rfl ?_
        refine ev_iload_n dc_X12_likeliest_36 rfl ?_
        refine ev_iconst (v := 1) dc_X12_likeliest_37 (by decide) ?_
        obtain ⟨q3, hq3, h⟩ := Option.bind_eq_some_iff.mp h
        refine ev_callV (av := [.int x2, .int (1 : Int32)]) (st := []) (st1 := [.int q3]) dc_X12_likeliest_38 (tX12_ofName hW i0 hq3) mw_1828 cy_X12_ofName i0 (by decide) rfl rfl rfl rfl (Nat.le_of_ble_eq_true rfl) (Nat.le_of_ble_eq_true rfl) ⟨Nat.le_refl _, Nat.le_refl _⟩ ?_
        refine ev_aload_n dc_X12_likeliest_41 rfl ?_
        refine ev_iload_n dc_X12_likeliest_42 rfl ?_
        refine ev_iconst (v := 1) dc_X12_likeliest_43 (by decide) ?_
        obtain ⟨q4, hq4, h⟩ := Option.bind_eq_some_iff.mp h
        refine ev_callV (av := [.int x1, .int (1 : Int32)]) (st := [.int q3]) (st1 := [.int q4, .int q3]) dc_X12_likeliest_44 (tX12_ofName hW i0 hq4) mw_1828 cy_X12_ofName i0 (by decide) rfl rfl rfl rfl (Nat.le_of_ble_eq_true rfl) (Nat.le_of_ble_eq_true rfl) ⟨Nat.le_refl _, Nat.le_refl _⟩ ?_
        refine ev_icmp_le (tgt := 52) dc_X12_likeliest_47 (by decide) h (fun h => ?_) (fun h => ?_)
        · refine ev_iinc (v := 1) (lv' := [some (.ref a0), some (.int x1), some (.int (x2 + (1 : Int32)))]) dc_X12_likeliest_52 rfl (by decide) rfl (by decide) rfl ?_
          refine ev_goto (tgt := 9) dc_X12_likeliest_55 (by decide) ?_
          exact ev_sub (hk9 (x1, x2 + (1 : Int32), σ) h) (And.intro rfl (And.intro rfl (And.intro rfl trivial)))
        · refine ev_iload_n dc_X12_likeliest_50 rfl ?_
          refine ev_istore_n (lv' := [some (.ref a0), some (.int x2), some (.int x2)]) dc_X12_likeliest_51 rfl (by decide) rfl ?_
          refine ev_iinc (v := 1) (lv' := [some (.ref a0), some (.int x2), some (.int (x2 + (1 : Int32)))]) dc_X12_likeliest_52 rfl (by decide) rfl (by decide) rfl ?_
          refine ev_goto (tgt := 9) dc_X12_likeliest_55 (by decide) ?_
          exact ev_sub (hk9 (x2, x2 + (1 : Int32), σ) h) (And.intro rfl (And.intro rfl (And.intro rfl trivial)))
def fX12_likeliest (N : Nat) (G : pG) (a0 : Nat) (σ : pS) : Option (Int32 × pS) := fX12_likeliest_b9 N G a0 ((-1 : Int32), (0 : Int32), putF σ a0 0 (0 : Int32))
set_option maxRecDepth 100000 in
set_option maxHeartbeats 4000000 in
theorem tX12_likeliest {N : Nat} {G : pG} {SK : Nat → Nat} {a0 : Nat} {σ : pS} {r : Int32 × pS} (hW : WT G) (i0 : Is G a0 11) (h : fX12_likeliest N G a0 σ = some r) : Dn miX12_likeliest yX12_likeliest 2 G SK [.ref a0] σ (some (.int r.1)) r.2 := by
  unfold fX12_likeliest at h
  refine dn_of (lv := [some (.ref a0), none, none]) (by decide) rfl rfl (Nat.le_of_ble_eq_true rfl) rfl ?_
  refine ev_aload_n dc_X12_likeliest_0 rfl ?_
  refine ev_iconst (v := 0) dc_X12_likeliest_1 (by decide) ?_
  refine ev_putI dc_X12_likeliest_2 fi_X12_3 rfl i0 ?_
  refine ev_iconst (v := (-1)) dc_X12_likeliest_5 (by decide) ?_
  refine ev_istore_n (lv' := [some (.ref a0), some (.int (-1 : Int32)), none]) dc_X12_likeliest_6 rfl (by decide) rfl ?_
  refine ev_iconst (v := 0) dc_X12_likeliest_7 (by decide) ?_
  refine ev_istore_n (lv' := [some (.ref a0), some (.int (-1 : Int32)), some (.int (0 : Int32))]) dc_X12_likeliest_8 rfl (by decide) rfl ?_
  exact ev_sub (tX12_likeliest_b9 (b := ((-1 : Int32), (0 : Int32), putF σ a0 0 (0 : Int32))) hW i0 h) (And.intro rfl (And.intro rfl (And.intro rfl trivial)))
theorem dc_X12_log_0 : Dc miX12_log 0 (.aload_n 0) 1 1 := ⟨by decide +kernel, rfl⟩
theorem dc_X12_log_1 : Dc miX12_log 1 (.iconst 0) 1 2 := ⟨by decide +kernel, rfl⟩
theorem dc_X12_log_2 : Dc miX12_log 2 (.putfield 3) 3 5 := ⟨by decide +kernel, rfl⟩
theorem dc_X12_log_5 : Dc miX12_log 5 (.aload_n 0) 1 6 := ⟨by decide +kernel, rfl⟩
theorem dc_X12_log_6 : Dc miX12_log 6 (.iload_n 2) 1 7 := ⟨by decide +kernel, rfl⟩
theorem dc_X12_log_7 : Dc miX12_log 7 (.iconst 0) 1 8 := ⟨by decide +kernel, rfl⟩
theorem dc_X12_log_8 : Dc miX12_log 8 (.iconst 4) 1 9 := ⟨by decide +kernel, rfl⟩
theorem dc_X12_log_9 : Dc miX12_log 9 (.invokestatic 70) 3 12 := ⟨by decide +kernel, rfl⟩
theorem dc_X12_log_12 : Dc miX12_log 12 (.ifCond .ne 7) 3 15 := ⟨by decide +kernel, rfl⟩
theorem dc_X12_log_15 : Dc miX12_log 15 (.iconst 1) 1 16 := ⟨by decide +kernel, rfl⟩
theorem dc_X12_log_16 : Dc miX12_log 16 (.goto 4) 3 19 := ⟨by decide +kernel, rfl⟩
theorem dc_X12_log_19 : Dc miX12_log 19 (.iconst 0) 1 20 := ⟨by decide +kernel, rfl⟩
theorem dc_X12_log_20 : Dc miX12_log 20 (.iconst 1) 1 21 := ⟨by decide +kernel, rfl⟩
theorem dc_X12_log_21 : Dc miX12_log 21 (.invokevirtual 274) 3 24 := ⟨by decide +kernel, rfl⟩
theorem dc_X12_log_24 : Dc miX12_log 24 (.ifCond .eq 5) 3 27 := ⟨by decide +kernel, rfl⟩
theorem dc_X12_log_27 : Dc miX12_log 27 (.iconst 0) 1 28 := ⟨by decide +kernel, rfl⟩
theorem dc_X12_log_28 : Dc miX12_log 28 (.ireturn) 1 29 := ⟨by decide +kernel, rfl⟩
theorem dc_X12_log_29 : Dc miX12_log 29 (.iload_n 1) 1 30 := ⟨by decide +kernel, rfl⟩
theorem dc_X12_log_30 : Dc miX12_log 30 (.iconst 0) 1 31 := ⟨by decide +kernel, rfl⟩
theorem dc_X12_log_31 : Dc miX12_log 31 (.aload_n 0) 1 32 := ⟨by decide +kernel, rfl⟩
theorem dc_X12_log_32 : Dc miX12_log 32 (.getfield 13) 3 35 := ⟨by decide +kernel, rfl⟩
theorem dc_X12_log_35 : Dc miX12_log 35 (.bipush 15) 2 37 := ⟨by decide +kernel, rfl⟩
theorem dc_X12_log_37 : Dc miX12_log 37 (.iaload) 1 38 := ⟨by decide +kernel, rfl⟩
theorem dc_X12_log_38 : Dc miX12_log 38 (.iconst 1) 1 39 := ⟨by decide +kernel, rfl⟩
theorem dc_X12_log_39 : Dc miX12_log 39 (.isub) 1 40 := ⟨by decide +kernel, rfl⟩
theorem dc_X12_log_40 : Dc miX12_log 40 (.invokestatic 70) 3 43 := ⟨by decide +kernel, rfl⟩
theorem dc_X12_log_43 : Dc miX12_log 43 (.ifCond .eq 12) 3 46 := ⟨by decide +kernel, rfl⟩
theorem dc_X12_log_46 : Dc miX12_log 46 (.aload_n 0) 1 47 := ⟨by decide +kernel, rfl⟩
theorem dc_X12_log_47 : Dc miX12_log 47 (.iload_n 1) 1 48 := ⟨by decide +kernel, rfl⟩
theorem dc_X12_log_48 : Dc miX12_log 48 (.iload_n 2) 1 49 := ⟨by decide +kernel, rfl⟩
theorem dc_X12_log_49 : Dc miX12_log 49 (.invokevirtual 468) 3 52 := ⟨by decide +kernel, rfl⟩
theorem dc_X12_log_52 : Dc miX12_log 52 (.goto 4) 3 55 := ⟨by decide +kernel, rfl⟩
theorem dc_X12_log_55 : Dc miX12_log 55 (.iconst (-1)) 1 56 := ⟨by decide +kernel, rfl⟩
theorem dc_X12_log_56 : Dc miX12_log 56 (.ireturn) 1 57 := ⟨by decide +kernel, rfl⟩
def fX12_log_b20 (N : Nat) (G : pG) (a0 : Nat) (a1 : Int32) (a2 : Int32) (y1 : Int32) (σ : pS) : Option (Int32 × pS) := (fX12_throwsIf N G a0 y1 (1 : Int32) σ).bind (fun q1 => if q1.1 = 0 then (ck (inB (15 : Int32) (pN G (pR G a0 1))) ((fX12_in N G a1 (0 : Int32) ((gA q1.2 (pR G a0 1) (15 : Int32)) - (1 : Int32)) q1.2).bind (fun q2 => if q2 = 0 then (some ((-1 : Int32), q1.2)) else ((fX12_ofLog N G a0 a1 a2 q1.2).bind (fun q3 => some (q3, q1.2)))))) else (some ((0 : Int32), q1.2)))
set_option maxRecDepth 100000 in
set_option maxHeartbeats 4000000 in
theorem tX12_log_b20 {N : Nat} {G : pG} {SK : Nat → Nat} {a0 : Nat} {a1 : Int32} {a2 : Int32} {y1 : Int32} {σ : pS} {r : Int32 × pS} (hW : WT G) (i0 : Is G a0 11) (h : fX12_log_b20 N G a0 a1 a2 y1 σ = some r) : Ev miX12_log (2, 0, 0) G (Zp G (some (.int r.1)) r.2) SK (0, 0) 20 [some (.ref a0), some (.int a1), some (.int a2)] [.int y1, .ref a0] σ := by
  unfold fX12_log_b20 at h
  refine ev_iconst (v := 1) dc_X12_log_20 (by decide) ?_
  obtain ⟨q1, hq1, h⟩ := Option.bind_eq_some_iff.mp h
  refine ev_callV (av := [.int y1, .int (1 : Int32)]) (st := []) (st1 := [.int q1.1]) dc_X12_log_21 (tX12_throwsIf hW i0 hq1) mw_1784 cy_X12_throwsIf i0 (by decide) rfl rfl rfl rfl (Nat.le_of_ble_eq_true rfl) (Nat.le_of_ble_eq_true rfl) ⟨Nat.le_refl _, Nat.le_refl _⟩ ?_
  refine ev_if_eq (tgt := 29) dc_X12_log_24 (by decide) h (fun h => ?_) (fun h => ?_)
  · refine ev_iload_n dc_X12_log_29 rfl ?_
    refine ev_iconst (v := 0) dc_X12_log_30 (by decide) ?_
    refine ev_aload_n dc_X12_log_31 rfl ?_
    refine ev_getR dc_X12_log_32 fi_X12_13 rfl i0 ?_
    refine ev_bipush (v := 15) dc_X12_log_35 (by decide) ?_
    refine ev_iald dc_X12_log_37 (wt hW i0 1 rfl rfl) h (fun h => ?_)
    refine ev_iconst (v := 1) dc_X12_log_38 (by decide) ?_
    refine ev_isub dc_X12_log_39 ?_
    obtain ⟨q2, hq2, h⟩ := Option.bind_eq_some_iff.mp h
    refine ev_callS (av := [.int a1, .int (0 : Int32), .int ((gA q1.2 (pR G a0 1) (15 : Int32)) - (1 : Int32))]) (st := []) (st1 := [.int q2]) dc_X12_log_40 (tX12_in hW hq2) mw_1656 cs_X12_in rfl rfl rfl (Nat.le_of_ble_eq_true rfl) (Nat.le_of_ble_eq_true rfl) ⟨Nat.le_refl _, Nat.le_refl _⟩ ?_
    refine ev_if_eq (tgt := 55) dc_X12_log_43 (by decide) h (fun h => ?_) (fun h => ?_)
    · refine ev_iconst (v := (-1)) dc_X12_log_55 (by decide) ?_
      cases h
      exact ev_iret dc_X12_log_56 rfl rfl rfl
    · refine ev_aload_n dc_X12_log_46 rfl ?_
      refine ev_iload_n dc_X12_log_47 rfl ?_
      refine ev_iload_n dc_X12_log_48 rfl ?_
      obtain ⟨q3, hq3, h⟩ := Option.bind_eq_some_iff.mp h
      refine ev_callV (av := [.int a1, .int a2]) (st := []) (st1 := [.int q3]) dc_X12_log_49 (tX12_ofLog hW i0 hq3) mw_2162 cy_X12_ofLog i0 (by decide) rfl rfl rfl rfl (Nat.le_of_ble_eq_true rfl) (Nat.le_of_ble_eq_true rfl) ⟨Nat.le_refl _, Nat.le_refl _⟩ ?_
      refine ev_goto (tgt := 56) dc_X12_log_52 (by decide) ?_
      cases h
      exact ev_iret dc_X12_log_56 rfl rfl rfl
  · refine ev_iconst (v := 0) dc_X12_log_27 (by decide) ?_
    cases h
    exact ev_iret dc_X12_log_28 rfl rfl rfl
def fX12_log (N : Nat) (G : pG) (a0 : Nat) (a1 : Int32) (a2 : Int32) (σ : pS) : Option (Int32 × pS) := (fX12_in N G a2 (0 : Int32) (4 : Int32) (putF σ a0 0 (0 : Int32))).bind (fun q4 => if q4 = 0 then (fX12_log_b20 N G a0 a1 a2 (1 : Int32) (putF σ a0 0 (0 : Int32))) else (fX12_log_b20 N G a0 a1 a2 (0 : Int32) (putF σ a0 0 (0 : Int32))))
set_option maxRecDepth 100000 in
set_option maxHeartbeats 4000000 in
theorem tX12_log {N : Nat} {G : pG} {SK : Nat → Nat} {a0 : Nat} {a1 : Int32} {a2 : Int32} {σ : pS} {r : Int32 × pS} (hW : WT G) (i0 : Is G a0 11) (h : fX12_log N G a0 a1 a2 σ = some r) : Dn miX12_log yX12_log 2 G SK [.ref a0, .int a1, .int a2] σ (some (.int r.1)) r.2 := by
  unfold fX12_log at h
  refine dn_of (lv := [some (.ref a0), some (.int a1), some (.int a2)]) (by decide) rfl rfl (Nat.le_of_ble_eq_true rfl) rfl ?_
  refine ev_aload_n dc_X12_log_0 rfl ?_
  refine ev_iconst (v := 0) dc_X12_log_1 (by decide) ?_
  refine ev_putI dc_X12_log_2 fi_X12_3 rfl i0 ?_
  refine ev_aload_n dc_X12_log_5 rfl ?_
  refine ev_iload_n dc_X12_log_6 rfl ?_
  refine ev_iconst (v := 0) dc_X12_log_7 (by decide) ?_
  refine ev_iconst (v := 4) dc_X12_log_8 (by decide) ?_
  obtain ⟨q4, hq4, h⟩ := Option.bind_eq_some_iff.mp h
  refine ev_callS (av := [.int a2, .int (0 : Int32), .int (4 : Int32)]) (st := [.ref a0]) (st1 := [.int q4, .ref a0]) dc_X12_log_9 (tX12_in hW hq4) mw_1656 cs_X12_in rfl rfl rfl (Nat.le_of_ble_eq_true rfl) (Nat.le_of_ble_eq_true rfl) ⟨Nat.le_refl _, Nat.le_refl _⟩ ?_
  refine ev_if_ne (tgt := 19) dc_X12_log_12 (by decide) h (fun h => ?_) (fun h => ?_)
  · refine ev_iconst (v := 1) dc_X12_log_15 (by decide) ?_
    refine ev_goto (tgt := 20) dc_X12_log_16 (by decide) ?_
    exact ev_sub (tX12_log_b20 hW i0 h) (And.intro rfl (And.intro rfl (And.intro rfl trivial)))
  · refine ev_iconst (v := 0) dc_X12_log_19 (by decide) ?_
    exact ev_sub (tX12_log_b20 hW i0 h) (And.intro rfl (And.intro rfl (And.intro rfl trivial)))
theorem dc_X12_recordsOf_0 : Dc miX12_recordsOf 0 (.iconst 0) 1 1 := ⟨by decide +kernel, rfl⟩
theorem dc_X12_recordsOf_1 : Dc miX12_recordsOf 1 (.istore_n 2) 1 2 := ⟨by decide +kernel, rfl⟩
theorem dc_X12_recordsOf_2 : Dc miX12_recordsOf 2 (.iconst (-1)) 1 3 := ⟨by decide +kernel, rfl⟩
theorem dc_X12_recordsOf_3 : Dc miX12_recordsOf 3 (.istore_n 3) 1 4 := ⟨by decide +kernel, rfl⟩
theorem dc_X12_recordsOf_4 : Dc miX12_recordsOf 4 (.aload_n 0) 1 5 := ⟨by decide +kernel, rfl⟩
theorem dc_X12_recordsOf_5 : Dc miX12_recordsOf 5 (.getfield 13) 3 8 := ⟨by decide +kernel, rfl⟩
theorem dc_X12_recordsOf_8 : Dc miX12_recordsOf 8 (.bipush 15) 2 10 := ⟨by decide +kernel, rfl⟩
theorem dc_X12_recordsOf_10 : Dc miX12_recordsOf 10 (.iaload) 1 11 := ⟨by decide +kernel, rfl⟩
theorem dc_X12_recordsOf_11 : Dc miX12_recordsOf 11 (.iconst 1) 1 12 := ⟨by decide +kernel, rfl⟩
theorem dc_X12_recordsOf_12 : Dc miX12_recordsOf 12 (.isub) 1 13 := ⟨by decide +kernel, rfl⟩
theorem dc_X12_recordsOf_13 : Dc miX12_recordsOf 13 (.istore 4) 2 15 := ⟨by decide +kernel, rfl⟩
theorem dc_X12_recordsOf_15 : Dc miX12_recordsOf 15 (.iload 4) 2 17 := ⟨by decide +kernel, rfl⟩
theorem dc_X12_recordsOf_17 : Dc miX12_recordsOf 17 (.ifCond .lt 63) 3 20 := ⟨by decide +kernel, rfl⟩
theorem dc_X12_recordsOf_20 : Dc miX12_recordsOf 20 (.aload_n 0) 1 21 := ⟨by decide +kernel, rfl⟩
theorem dc_X12_recordsOf_21 : Dc miX12_recordsOf 21 (.iload 4) 2 23 := ⟨by decide +kernel, rfl⟩
theorem dc_X12_recordsOf_23 : Dc miX12_recordsOf 23 (.iconst 3) 1 24 := ⟨by decide +kernel, rfl⟩
theorem dc_X12_recordsOf_24 : Dc miX12_recordsOf 24 (.invokevirtual 468) 3 27 := ⟨by decide +kernel, rfl⟩
theorem dc_X12_recordsOf_27 : Dc miX12_recordsOf 27 (.iload_n 3) 1 28 := ⟨by decide +kernel, rfl⟩
theorem dc_X12_recordsOf_28 : Dc miX12_recordsOf 28 (.if_icmp .le 7) 3 31 := ⟨by decide +kernel, rfl⟩
theorem dc_X12_recordsOf_31 : Dc miX12_recordsOf 31 (.iconst 1) 1 32 := ⟨by decide +kernel, rfl⟩
theorem dc_X12_recordsOf_32 : Dc miX12_recordsOf 32 (.goto 4) 3 35 := ⟨by decide +kernel, rfl⟩
theorem dc_X12_recordsOf_35 : Dc miX12_recordsOf 35 (.iconst 0) 1 36 := ⟨by decide +kernel, rfl⟩
theorem dc_X12_recordsOf_36 : Dc miX12_recordsOf 36 (.istore 5) 2 38 := ⟨by decide +kernel, rfl⟩
theorem dc_X12_recordsOf_38 : Dc miX12_recordsOf 38 (.iload_n 2) 1 39 := ⟨by decide +kernel, rfl⟩
theorem dc_X12_recordsOf_39 : Dc miX12_recordsOf 39 (.iload 5) 2 41 := ⟨by decide +kernel, rfl⟩
theorem dc_X12_recordsOf_41 : Dc miX12_recordsOf 41 (.ifCond .eq 18) 3 44 := ⟨by decide +kernel, rfl⟩
theorem dc_X12_recordsOf_44 : Dc miX12_recordsOf 44 (.aload_n 0) 1 45 := ⟨by decide +kernel, rfl⟩
theorem dc_X12_recordsOf_45 : Dc miX12_recordsOf 45 (.iload 4) 2 47 := ⟨by decide +kernel, rfl⟩
theorem dc_X12_recordsOf_47 : Dc miX12_recordsOf 47 (.iconst 1) 1 48 := ⟨by decide +kernel, rfl⟩
theorem dc_X12_recordsOf_48 : Dc miX12_recordsOf 48 (.invokevirtual 468) 3 51 := ⟨by decide +kernel, rfl⟩
theorem dc_X12_recordsOf_51 : Dc miX12_recordsOf 51 (.iload_n 1) 1 52 := ⟨by decide +kernel, rfl⟩
theorem dc_X12_recordsOf_52 : Dc miX12_recordsOf 52 (.if_icmp .ne 7) 3 55 := ⟨by decide +kernel, rfl⟩
theorem dc_X12_recordsOf_55 : Dc miX12_recordsOf 55 (.iconst 1) 1 56 := ⟨by decide +kernel, rfl⟩
theorem dc_X12_recordsOf_56 : Dc miX12_recordsOf 56 (.goto 4) 3 59 := ⟨by decide +kernel, rfl⟩
theorem dc_X12_recordsOf_59 : Dc miX12_recordsOf 59 (.iconst 0) 1 60 := ⟨by decide +kernel, rfl⟩
theorem dc_X12_recordsOf_60 : Dc miX12_recordsOf 60 (.iadd) 1 61 := ⟨by decide +kernel, rfl⟩
theorem dc_X12_recordsOf_61 : Dc miX12_recordsOf 61 (.istore_n 2) 1 62 := ⟨by decide +kernel, rfl⟩
theorem dc_X12_recordsOf_62 : Dc miX12_recordsOf 62 (.iload_n 3) 1 63 := ⟨by decide +kernel, rfl⟩
theorem dc_X12_recordsOf_63 : Dc miX12_recordsOf 63 (.aload_n 0) 1 64 := ⟨by decide +kernel, rfl⟩
theorem dc_X12_recordsOf_64 : Dc miX12_recordsOf 64 (.iload 4) 2 66 := ⟨by decide +kernel, rfl⟩
theorem dc_X12_recordsOf_66 : Dc miX12_recordsOf 66 (.iconst 3) 1 67 := ⟨by decide +kernel, rfl⟩
theorem dc_X12_recordsOf_67 : Dc miX12_recordsOf 67 (.invokevirtual 468) 3 70 := ⟨by decide +kernel, rfl⟩
theorem dc_X12_recordsOf_70 : Dc miX12_recordsOf 70 (.invokestatic 323) 3 73 := ⟨by decide +kernel, rfl⟩
theorem dc_X12_recordsOf_73 : Dc miX12_recordsOf 73 (.istore_n 3) 1 74 := ⟨by decide +kernel, rfl⟩
theorem dc_X12_recordsOf_74 : Dc miX12_recordsOf 74 (.iinc 4 (-1)) 3 77 := ⟨by decide +kernel, rfl⟩
theorem dc_X12_recordsOf_77 : Dc miX12_recordsOf 77 (.goto (-62)) 3 80 := ⟨by decide +kernel, rfl⟩
theorem dc_X12_recordsOf_80 : Dc miX12_recordsOf 80 (.iload_n 2) 1 81 := ⟨by decide +kernel, rfl⟩
theorem dc_X12_recordsOf_81 : Dc miX12_recordsOf 81 (.ireturn) 1 82 := ⟨by decide +kernel, rfl⟩
def fX12_recordsOf_b60 (N : Nat) (G : pG) (k15 : Int32 × Int32 × Int32 → Option (Int32)) (a0 : Nat) (a1 : Int32) (x3 : Int32) (x4 : Int32) (y0 : Int32) (y1 : Int32) (σ : pS) : Option (Int32) := (fX12_ofLog N G a0 x4 (3 : Int32) σ).bind (fun q1 => k15 (y0 + y1, jmax x3 q1, x4 + (-1 : Int32)))
set_option maxRecDepth 100000 in
set_option maxHeartbeats 4000000 in
theorem tX12_recordsOf_b60 {N : Nat} {G : pG} {SK : Nat → Nat} {k15 : Int32 × Int32 × Int32 → Option (Int32)} {a0 : Nat} {a1 : Int32} {x3 : Int32} {x4 : Int32} {y0 : Int32} {y1 : Int32} {σ : pS} {r : Int32} (hW : WT G) (i0 : Is G a0 11) (hk15 : ∀ b : Int32 × Int32 × Int32, k15 b = some r → Ev miX12_recordsOf (2, 0, 0) G (Zp G (some (.int r)) σ) SK (0, 0) 15 [some (.ref a0), some (.int a1), some (.int b.1), some (.int b.2.1), some (.int b.2.2), none] [] σ) (h : fX12_recordsOf_b60 N G k15 a0 a1 x3 x4 y0 y1 σ = some r) : Ev miX12_recordsOf (2, 0, 0) G (Zp G (some (.int r)) σ) SK (0, 0) 60 [some (.ref a0), some (.int a1), none, some (.int x3), some (.int x4), none] [.int y1, .int y0] σ := by
  unfold fX12_recordsOf_b60 at h
  refine ev_iadd dc_X12_recordsOf_60 ?_
  refine ev_istore_n (lv' := [some (.ref a0), some (.int a1), some (.int (y0 + y1)), some (.int x3), some (.int x4), none]) dc_X12_recordsOf_61 rfl (by decide) rfl ?_
  refine ev_iload_n dc_X12_recordsOf_62 rfl ?_
  refine ev_aload_n dc_X12_recordsOf_63 rfl ?_
  refine ev_iload dc_X12_recordsOf_64 rfl ?_
  refine ev_iconst (v := 3) dc_X12_recordsOf_66 (by decide) ?_
  obtain ⟨q1, hq1, h⟩ := Option.bind_eq_some_iff.mp h
  refine ev_callV (av := [.int x4, .int (3 : Int32)]) (st := [.int x3]) (st1 := [.int q1, .int x3]) dc_X12_recordsOf_67 (tX12_ofLog hW i0 hq1) mw_2162 cy_X12_ofLog i0 (by decide) rfl rfl rfl rfl (Nat.le_of_ble_eq_true rfl) (Nat.le_of_ble_eq_true rfl) ⟨Nat.le_refl _, Nat.le_refl _⟩ ?_
  refine ev_max dc_X12_recordsOf_70 mw_1844 (Nat.le_of_ble_eq_true rfl) (Nat.le_of_ble_eq_true rfl) ⟨Nat.le_refl _, Nat.le_refl _⟩ ?_
  refine ev_istore_n (lv' := [some (.ref a0), some (.int a1), some (.int (y0 + y1)), some (.int (jmax x3 q1)), some (.int x4), none]) dc_X12_recordsOf_73 rfl (by decide) rfl ?_
  refine ev_iinc (v := (-1)) (lv' := [some (.ref a0), some (.int a1), some (.int (y0 + y1)), some (.int (jmax x3 q1)), some (.int (x4 + (-1 : Int32))), none]) dc_X12_recordsOf_74 rfl (by decide) rfl (by decide) rfl ?_
  refine ev_goto (tgt := 15) dc_X12_recordsOf_77 (by decide) ?_
  exact ev_sub (hk15 (y0 + y1, jmax x3 q1, x4 + (-1 : Int32)) h) (And.intro rfl (And.intro rfl (And.intro rfl (And.intro rfl (And.intro rfl trivial)))))
def fX12_recordsOf_b59 (N : Nat) (G : pG) (k15 : Int32 × Int32 × Int32 → Option (Int32)) (a0 : Nat) (a1 : Int32) (x3 : Int32) (x4 : Int32) (y0 : Int32) (σ : pS) : Option (Int32) := fX12_recordsOf_b60 N G k15 a0 a1 x3 x4 y0 (0 : Int32) σ
set_option maxRecDepth 100000 in
set_option maxHeartbeats 4000000 in
theorem tX12_recordsOf_b59 {N : Nat} {G : pG} {SK : Nat → Nat} {k15 : Int32 × Int32 × Int32 → Option (Int32)} {a0 : Nat} {a1 : Int32} {x3 : Int32} {x4 : Int32} {y0 : Int32} {σ : pS} {r : Int32} (hW : WT G) (i0 : Is G a0 11) (hk15 : ∀ b : Int32 × Int32 × Int32, k15 b = some r → Ev miX12_recordsOf (2, 0, 0) G (Zp G (some (.int r)) σ) SK (0, 0) 15 [some (.ref a0), some (.int a1), some (.int b.1), some (.int b.2.1), some (.int b.2.2), none] [] σ) (h : fX12_recordsOf_b59 N G k15 a0 a1 x3 x4 y0 σ = some r) : Ev miX12_recordsOf (2, 0, 0) G (Zp G (some (.int r)) σ) SK (0, 0) 59 [some (.ref a0), some (.int a1), none, some (.int x3), some (.int x4), none] [.int y0] σ := by
  unfold fX12_recordsOf_b59 at h
  refine ev_iconst (v := 0) dc_X12_recordsOf_59 (by decide) ?_
  exact ev_sub (tX12_recordsOf_b60 hW i0 hk15 h) (And.intro rfl (And.intro rfl (And.intro rfl (And.intro rfl trivial))))
def fX12_recordsOf_b36 (N : Nat) (G : pG) (k15 : Int32 × Int32 × Int32 → Option (Int32)) (a0 : Nat) (a1 : Int32) (x2 : Int32) (x3 : Int32) (x4 : Int32) (y0 : Int32) (σ : pS) : Option (Int32) := if y0 = 0 then (fX12_recordsOf_b59 N G k15 a0 a1 x3 x4 x2 σ) else ((fX12_ofLog N G a0 x4 (1 : Int32) σ).bind (fun q2 => if q2 = a1 then (fX12_recordsOf_b60 N G k15 a0 a1 x3 x4 x2 (1 : Int32) σ) else (fX12_recordsOf_b59 N G k15 a0 a1 x3 x4 x2 σ)))
set_option maxRecDepth 100000 in
set_option maxHeartbeats 4000000 in
theorem tX12_recordsOf_b36 {N : Nat} {G : pG} {SK : Nat → Nat} {k15 : Int32 × Int32 × Int32 → Option (Int32)} {a0 : Nat} {a1 : Int32} {x2 : Int32} {x3 : Int32} {x4 : Int32} {y0 : Int32} {σ : pS} {r : Int32} (hW : WT G) (i0 : Is G a0 11) (hk15 : ∀ b : Int32 × Int32 × Int32, k15 b = some r → Ev miX12_recordsOf (2, 0, 0) G (Zp G (some (.int r)) σ) SK (0, 0) 15 [some (.ref a0), some (.int a1), some (.int b.1), some (.int b.2.1), some (.int b.2.2), none] [] σ) (h : fX12_recordsOf_b36 N G k15 a0 a1 x2 x3 x4 y0 σ = some r) : Ev miX12_recordsOf (2, 0, 0) G (Zp G (some (.int r)) σ) SK (0, 0) 36 [some (.ref a0), some (.int a1), some (.int x2), some (.int x3), some (.int x4), none] [.int y0] σ := by
  unfold fX12_recordsOf_b36 at h
  refine ev_istore (lv' := [some (.ref a0), some (.int a1), some (.int x2), some (.int x3), some (.int x4), some (.int y0)]) dc_X12_recordsOf_36 rfl (by decide) rfl ?_
  refine ev_iload_n dc_X12_recordsOf_38 rfl ?_
  refine ev_iload dc_X12_recordsOf_39 rfl ?_
  refine ev_if_eq (tgt := 59) dc_X12_recordsOf_41 (by decide) h (fun h => ?_) (fun h => ?_)
  · exact ev_sub (tX12_recordsOf_b59 hW i0 hk15 h) (And.intro rfl (And.intro rfl (And.intro rfl (And.intro rfl trivial))))
  · refine ev_aload_n dc_X12_recordsOf_44 rfl ?_
    refine ev_iload dc_X12_recordsOf_45 rfl ?_
    refine ev_iconst (v := 1) dc_X12_recordsOf_47 (by decide) ?_
    obtain ⟨q2, hq2, h⟩ := Option.bind_eq_some_iff.mp h
    refine ev_callV (av := [.int x4, .int (1 : Int32)]) (st := [.int x2]) (st1 := [.int q2, .int x2]) dc_X12_recordsOf_48 (tX12_ofLog hW i0 hq2) mw_2162 cy_X12_ofLog i0 (by decide) rfl rfl rfl rfl (Nat.le_of_ble_eq_true rfl) (Nat.le_of_ble_eq_true rfl) ⟨Nat.le_refl _, Nat.le_refl _⟩ ?_
    refine ev_iload_n dc_X12_recordsOf_51 rfl ?_
    refine ev_icmp_ne (tgt := 59) dc_X12_recordsOf_52 (by decide) h (fun h => ?_) (fun h => ?_)
    · refine ev_iconst (v := 1) dc_X12_recordsOf_55 (by decide) ?_
      refine ev_goto (tgt := 60) dc_X12_recordsOf_56 (by decide) ?_
      exact ev_sub (tX12_recordsOf_b60 hW i0 hk15 h) (And.intro rfl (And.intro rfl (And.intro rfl (And.intro rfl trivial))))
    · exact ev_sub (tX12_recordsOf_b59 hW i0 hk15 h) (And.intro rfl (And.intro rfl (And.intro rfl (And.intro rfl trivial))))
def fX12_recordsOf_b15 (N : Nat) (G : pG) (a0 : Nat) (a1 : Int32) (σ : pS) : (Int32 × Int32 × Int32) → Option (Int32) := lp (fun (k15 : Int32 × Int32 × Int32 → Option (Int32)) (b : Int32 × Int32 × Int32) => if b.2.2 < 0 then (some b.1) else ((fX12_ofLog N G a0 b.2.2 (3 : Int32) σ).bind (fun q3 => if q3 ≤ b.2.1 then (fX12_recordsOf_b36 N G k15 a0 a1 b.1 b.2.1 b.2.2 (0 : Int32) σ) else (fX12_recordsOf_b36 N G k15 a0 a1 b.1 b.2.1 b.2.2 (1 : Int32) σ)))) N
set_option maxRecDepth 100000 in
set_option maxHeartbeats 4000000 in
theorem tX12_recordsOf_b15 {N : Nat} {G : pG} {SK : Nat → Nat} {a0 : Nat} {a1 : Int32} {σ : pS} {b : Int32 × Int32 × Int32} {r : Int32} (hW : WT G) (i0 : Is G a0 11) (h : fX12_recordsOf_b15 N G a0 a1 σ b = some r) : Ev miX12_recordsOf (2, 0, 0) G (Zp G (some (.int r)) σ) SK (0, 0) 15 [some (.ref a0), some (.int a1), some (.int b.1), some (.int b.2.1), some (.int b.2.2), none] [] σ := by
  unfold fX12_recordsOf_b15 at h
  refine lp_ind (P := fun b r9 => r9 = r → Ev miX12_recordsOf (2, 0, 0) G (Zp G (some (.int r)) σ) SK (0, 0) 15 [some (.ref a0), some (.int a1), some (.int b.1), some (.int b.2.1), some (.int b.2.2), none] [] σ) (fun k15 b r9 ih h9 e9 => ?_) N b r h rfl
  clear h
  subst e9
  have h := h9
  clear h9
  have hk15 : ∀ b : Int32 × Int32 × Int32, k15 b = some r9 → Ev miX12_recordsOf (2, 0, 0) G (Zp G (some (.int r9)) σ) SK (0, 0) 15 [some (.ref a0), some (.int a1), some (.int b.1), some (.int b.2.1), some (.int b.2.2), none] [] σ := fun b hb => ih b r9 hb rfl
  clear ih
  obtain ⟨x2, x3, x4⟩ := b
  dsimp only at h ⊢
  refine ev_iload dc_X12_recordsOf_15 rfl ?_
  refine ev_if_lt (tgt := 80) dc_X12_recordsOf_17 (by decide) h (fun h => ?_) (fun h => ?_)
  · refine ev_iload_n dc_X12_recordsOf_80 rfl ?_
    cases h
    exact ev_iret dc_X12_recordsOf_81 rfl rfl rfl
  · refine ev_aload_n dc_X12_recordsOf_20 rfl ?_
    refine ev_iload dc_X12_recordsOf_21 rfl ?_
    refine ev_iconst (v := 3) dc_X12_recordsOf_23 (by decide) ?_
    obtain ⟨q3, hq3, h⟩ := Option.bind_eq_some_iff.mp h
    refine ev_callV (av := [.int x4, .int (3 : Int32)]) (st := []) (st1 := [.int q3]) dc_X12_recordsOf_24 (tX12_ofLog hW i0 hq3) mw_2162 cy_X12_ofLog i0 (by decide) rfl rfl rfl rfl (Nat.le_of_ble_eq_true rfl) (Nat.le_of_ble_eq_true rfl) ⟨Nat.le_refl _, Nat.le_refl _⟩ ?_
    refine ev_iload_n dc_X12_recordsOf_27 rfl ?_
    refine ev_icmp_le (tgt := 35) dc_X12_recordsOf_28 (by decide) h (fun h => ?_) (fun h => ?_)
    · refine ev_iconst (v := 0) dc_X12_recordsOf_35 (by decide) ?_
      exact ev_sub (tX12_recordsOf_b36 hW i0 hk15 h) (And.intro rfl (And.intro rfl (And.intro rfl (And.intro rfl (And.intro rfl trivial)))))
    · refine ev_iconst (v := 1) dc_X12_recordsOf_31 (by decide) ?_
      refine ev_goto (tgt := 36) dc_X12_recordsOf_32 (by decide) ?_
      exact ev_sub (tX12_recordsOf_b36 hW i0 hk15 h) (And.intro rfl (And.intro rfl (And.intro rfl (And.intro rfl (And.intro rfl trivial)))))
def fX12_recordsOf (N : Nat) (G : pG) (a0 : Nat) (a1 : Int32) (σ : pS) : Option (Int32) := ck (inB (15 : Int32) (pN G (pR G a0 1))) (fX12_recordsOf_b15 N G a0 a1 σ ((0 : Int32), (-1 : Int32), (gA σ (pR G a0 1) (15 : Int32)) - (1 : Int32)))
set_option maxRecDepth 100000 in
set_option maxHeartbeats 4000000 in
theorem tX12_recordsOf {N : Nat} {G : pG} {SK : Nat → Nat} {a0 : Nat} {a1 : Int32} {σ : pS} {r : Int32} (hW : WT G) (i0 : Is G a0 11) (h : fX12_recordsOf N G a0 a1 σ = some r) : Dn miX12_recordsOf yX12_recordsOf 2 G SK [.ref a0, .int a1] σ (some (.int r)) σ := by
  unfold fX12_recordsOf at h
  refine dn_of (lv := [some (.ref a0), some (.int a1), none, none, none, none]) (by decide) rfl rfl (Nat.le_of_ble_eq_true rfl) rfl ?_
  refine ev_iconst (v := 0) dc_X12_recordsOf_0 (by decide) ?_
  refine ev_istore_n (lv' := [some (.ref a0), some (.int a1), some (.int (0 : Int32)), none, none, none]) dc_X12_recordsOf_1 rfl (by decide) rfl ?_
  refine ev_iconst (v := (-1)) dc_X12_recordsOf_2 (by decide) ?_
  refine ev_istore_n (lv' := [some (.ref a0), some (.int a1), some (.int (0 : Int32)), some (.int (-1 : Int32)), none, none]) dc_X12_recordsOf_3 rfl (by decide) rfl ?_
  refine ev_aload_n dc_X12_recordsOf_4 rfl ?_
  refine ev_getR dc_X12_recordsOf_5 fi_X12_13 rfl i0 ?_
  refine ev_bipush (v := 15) dc_X12_recordsOf_8 (by decide) ?_
  refine ev_iald dc_X12_recordsOf_10 (wt hW i0 1 rfl rfl) h (fun h => ?_)
  refine ev_iconst (v := 1) dc_X12_recordsOf_11 (by decide) ?_
  refine ev_isub dc_X12_recordsOf_12 ?_
  refine ev_istore (lv' := [some (.ref a0), some (.int a1), some (.int (0 : Int32)), some (.int (-1 : Int32)), some (.int ((gA σ (pR G a0 1) (15 : Int32)) - (1 : Int32))), none]) dc_X12_recordsOf_13 rfl (by decide) rfl ?_
  exact ev_sub (tX12_recordsOf_b15 (b := ((0 : Int32), (-1 : Int32), (gA σ (pR G a0 1) (15 : Int32)) - (1 : Int32))) hW i0 h) (And.intro rfl (And.intro rfl (And.intro rfl (And.intro rfl (And.intro rfl trivial)))))
