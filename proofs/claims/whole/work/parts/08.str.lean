abbrev miJ0_length_8abf5 : MI := (RJ0, cJ0_length_8abf5, 1, some .int, [])
theorem cy_J0_length_8abf5 : CY miJ0_length_8abf5 yJ0_length_8abf5 0 := ⟨mw_710, mw_711, mw_15, mw_712, ⟨by decide, by decide, by decide⟩, by decide⟩
theorem dc_J0_length_8abf5_0 : Dc miJ0_length_8abf5 0 (.aload_n 0) 1 1 := ⟨by decide +kernel, rfl⟩
theorem dc_J0_length_8abf5_1 : Dc miJ0_length_8abf5 1 (.getfield 9) 3 4 := ⟨by decide +kernel, rfl⟩
theorem dc_J0_length_8abf5_4 : Dc miJ0_length_8abf5 4 (.arraylength) 1 5 := ⟨by decide +kernel, rfl⟩
theorem dc_J0_length_8abf5_5 : Dc miJ0_length_8abf5 5 (.aload_n 0) 1 6 := ⟨by decide +kernel, rfl⟩
theorem dc_J0_length_8abf5_6 : Dc miJ0_length_8abf5 6 (.invokevirtual 335) 3 9 := ⟨by decide +kernel, rfl⟩
theorem dc_J0_length_8abf5_9 : Dc miJ0_length_8abf5 9 (.ishr) 1 10 := ⟨by decide +kernel, rfl⟩
theorem dc_J0_length_8abf5_10 : Dc miJ0_length_8abf5 10 (.ireturn) 1 11 := ⟨by decide +kernel, rfl⟩
abbrev miJ0_charAt_5068e : MI := (RJ0, cJ0_charAt_5068e, 2, some .char, [])
theorem cy_J0_charAt_5068e : CY miJ0_charAt_5068e yJ0_charAt_5068e 1 := ⟨mw_720, mw_721, mw_15, mw_722, ⟨by decide, by decide, by decide⟩, by decide⟩
theorem dc_J0_charAt_5068e_0 : Dc miJ0_charAt_5068e 0 (.aload_n 0) 1 1 := ⟨by decide +kernel, rfl⟩
theorem dc_J0_charAt_5068e_1 : Dc miJ0_charAt_5068e 1 (.invokevirtual 492) 3 4 := ⟨by decide +kernel, rfl⟩
theorem dc_J0_charAt_5068e_4 : Dc miJ0_charAt_5068e 4 (.ifCond .eq 12) 3 7 := ⟨by decide +kernel, rfl⟩
theorem dc_J0_charAt_5068e_7 : Dc miJ0_charAt_5068e 7 (.aload_n 0) 1 8 := ⟨by decide +kernel, rfl⟩
theorem dc_J0_charAt_5068e_8 : Dc miJ0_charAt_5068e 8 (.getfield 9) 3 11 := ⟨by decide +kernel, rfl⟩
theorem dc_J0_charAt_5068e_11 : Dc miJ0_charAt_5068e 11 (.iload_n 1) 1 12 := ⟨by decide +kernel, rfl⟩
theorem dc_J0_charAt_5068e_12 : Dc miJ0_charAt_5068e 12 (.invokestatic 495) 3 15 := ⟨by decide +kernel, rfl⟩
theorem dc_J0_charAt_5068e_15 : Dc miJ0_charAt_5068e 15 (.ireturn) 1 16 := ⟨by decide +kernel, rfl⟩
theorem dc_J0_charAt_5068e_16 : Dc miJ0_charAt_5068e 16 (.aload_n 0) 1 17 := ⟨by decide +kernel, rfl⟩
theorem dc_J0_charAt_5068e_17 : Dc miJ0_charAt_5068e 17 (.getfield 9) 3 20 := ⟨by decide +kernel, rfl⟩
theorem dc_J0_charAt_5068e_20 : Dc miJ0_charAt_5068e 20 (.iload_n 1) 1 21 := ⟨by decide +kernel, rfl⟩
theorem dc_J0_charAt_5068e_21 : Dc miJ0_charAt_5068e 21 (.invokestatic 498) 3 24 := ⟨by decide +kernel, rfl⟩
theorem dc_J0_charAt_5068e_24 : Dc miJ0_charAt_5068e 24 (.ireturn) 1 25 := ⟨by decide +kernel, rfl⟩
abbrev miJ0_coder_7d493 : MI := (RJ0, cJ0_coder_7d493, 1, some .byte, [])
theorem cy_J0_coder_7d493 : CY miJ0_coder_7d493 yJ0_coder_7d493 0 := ⟨mw_714, mw_715, mw_15, mw_716, ⟨by decide, by decide, by decide⟩, by decide⟩
theorem dc_J0_coder_7d493_0 : Dc miJ0_coder_7d493 0 (.getstatic 38) 3 3 := ⟨by decide +kernel, rfl⟩
theorem dc_J0_coder_7d493_3 : Dc miJ0_coder_7d493 3 (.ifCond .eq 10) 3 6 := ⟨by decide +kernel, rfl⟩
theorem dc_J0_coder_7d493_6 : Dc miJ0_coder_7d493 6 (.aload_n 0) 1 7 := ⟨by decide +kernel, rfl⟩
theorem dc_J0_coder_7d493_7 : Dc miJ0_coder_7d493 7 (.getfield 15) 3 10 := ⟨by decide +kernel, rfl⟩
theorem dc_J0_coder_7d493_10 : Dc miJ0_coder_7d493 10 (.goto 4) 3 13 := ⟨by decide +kernel, rfl⟩
theorem dc_J0_coder_7d493_13 : Dc miJ0_coder_7d493 13 (.iconst 1) 1 14 := ⟨by decide +kernel, rfl⟩
theorem dc_J0_coder_7d493_14 : Dc miJ0_coder_7d493 14 (.ireturn) 1 15 := ⟨by decide +kernel, rfl⟩
abbrev miJ0_isLatin1_aae02 : MI := (RJ0, cJ0_isLatin1_aae02, 1, some .boolean, [])
theorem cy_J0_isLatin1_aae02 : CY miJ0_isLatin1_aae02 yJ0_isLatin1_aae02 0 := ⟨mw_724, mw_725, mw_15, mw_726, ⟨by decide, by decide, by decide⟩, by decide⟩
theorem dc_J0_isLatin1_aae02_0 : Dc miJ0_isLatin1_aae02 0 (.getstatic 38) 3 3 := ⟨by decide +kernel, rfl⟩
theorem dc_J0_isLatin1_aae02_3 : Dc miJ0_isLatin1_aae02 3 (.ifCond .eq 14) 3 6 := ⟨by decide +kernel, rfl⟩
theorem dc_J0_isLatin1_aae02_6 : Dc miJ0_isLatin1_aae02 6 (.aload_n 0) 1 7 := ⟨by decide +kernel, rfl⟩
theorem dc_J0_isLatin1_aae02_7 : Dc miJ0_isLatin1_aae02 7 (.getfield 15) 3 10 := ⟨by decide +kernel, rfl⟩
theorem dc_J0_isLatin1_aae02_10 : Dc miJ0_isLatin1_aae02 10 (.ifCond .ne 7) 3 13 := ⟨by decide +kernel, rfl⟩
theorem dc_J0_isLatin1_aae02_13 : Dc miJ0_isLatin1_aae02 13 (.iconst 1) 1 14 := ⟨by decide +kernel, rfl⟩
theorem dc_J0_isLatin1_aae02_14 : Dc miJ0_isLatin1_aae02 14 (.goto 4) 3 17 := ⟨by decide +kernel, rfl⟩
theorem dc_J0_isLatin1_aae02_17 : Dc miJ0_isLatin1_aae02 17 (.iconst 0) 1 18 := ⟨by decide +kernel, rfl⟩
theorem dc_J0_isLatin1_aae02_18 : Dc miJ0_isLatin1_aae02 18 (.ireturn) 1 19 := ⟨by decide +kernel, rfl⟩
abbrev miJ0_checkIndex_df160 : MI := (RJ0, cJ0_checkIndex_df160, 2, none, [])
theorem cs_J0_checkIndex_df160 : CS miJ0_checkIndex_df160 yJ0_checkIndex_df160 2 := ⟨mw_731, mw_15, mw_732, ⟨by decide, by decide, by decide⟩, by decide⟩
theorem dc_J0_checkIndex_df160_0 : Dc miJ0_checkIndex_df160 0 (.iload_n 0) 1 1 := ⟨by decide +kernel, rfl⟩
theorem dc_J0_checkIndex_df160_1 : Dc miJ0_checkIndex_df160 1 (.iload_n 1) 1 2 := ⟨by decide +kernel, rfl⟩
theorem dc_J0_checkIndex_df160_2 : Dc miJ0_checkIndex_df160 2 (.getstatic 1053) 3 5 := ⟨by decide +kernel, rfl⟩
theorem dc_J0_checkIndex_df160_5 : Dc miJ0_checkIndex_df160 5 (.invokestatic 1059) 3 8 := ⟨by decide +kernel, rfl⟩
theorem dc_J0_checkIndex_df160_8 : Dc miJ0_checkIndex_df160 8 (.pop) 1 9 := ⟨by decide +kernel, rfl⟩
theorem dc_J0_checkIndex_df160_9 : Dc miJ0_checkIndex_df160 9 (.return_) 1 10 := ⟨by decide +kernel, rfl⟩
abbrev miJ1_charAt_3b067 : MI := (RJ1, cJ1_charAt_3b067, 2, some .char, [])
theorem cs_J1_charAt_3b067 : CS miJ1_charAt_3b067 yJ1_charAt_3b067 2 := ⟨mw_728, mw_16, mw_729, ⟨by decide, by decide, by decide⟩, by decide⟩
theorem dc_J1_charAt_3b067_0 : Dc miJ1_charAt_3b067 0 (.iload_n 1) 1 1 := ⟨by decide +kernel, rfl⟩
theorem dc_J1_charAt_3b067_1 : Dc miJ1_charAt_3b067 1 (.aload_n 0) 1 2 := ⟨by decide +kernel, rfl⟩
theorem dc_J1_charAt_3b067_2 : Dc miJ1_charAt_3b067 2 (.arraylength) 1 3 := ⟨by decide +kernel, rfl⟩
theorem dc_J1_charAt_3b067_3 : Dc miJ1_charAt_3b067 3 (.invokestatic 9) 3 6 := ⟨by decide +kernel, rfl⟩
theorem dc_J1_charAt_3b067_6 : Dc miJ1_charAt_3b067 6 (.aload_n 0) 1 7 := ⟨by decide +kernel, rfl⟩
theorem dc_J1_charAt_3b067_7 : Dc miJ1_charAt_3b067 7 (.iload_n 1) 1 8 := ⟨by decide +kernel, rfl⟩
theorem dc_J1_charAt_3b067_8 : Dc miJ1_charAt_3b067 8 (.baload) 1 9 := ⟨by decide +kernel, rfl⟩
theorem dc_J1_charAt_3b067_9 : Dc miJ1_charAt_3b067 9 (.sipush 255) 3 12 := ⟨by decide +kernel, rfl⟩
theorem dc_J1_charAt_3b067_12 : Dc miJ1_charAt_3b067 12 (.iand) 1 13 := ⟨by decide +kernel, rfl⟩
theorem dc_J1_charAt_3b067_13 : Dc miJ1_charAt_3b067 13 (.i2c) 1 14 := ⟨by decide +kernel, rfl⟩
theorem dc_J1_charAt_3b067_14 : Dc miJ1_charAt_3b067 14 (.ireturn) 1 15 := ⟨by decide +kernel, rfl⟩
abbrev miJ3_checkIndex_8e157 : MI := (RJ3, cJ3_checkIndex_8e157, 3, some .int, [])
theorem cs_J3_checkIndex_8e157 : CS miJ3_checkIndex_8e157 yJ3_checkIndex_8e157 3 := ⟨mw_736, mw_17, mw_737, ⟨by decide, by decide, by decide⟩, by decide⟩
theorem dc_J3_checkIndex_8e157_0 : Dc miJ3_checkIndex_8e157 0 (.iload_n 0) 1 1 := ⟨by decide +kernel, rfl⟩
theorem dc_J3_checkIndex_8e157_1 : Dc miJ3_checkIndex_8e157 1 (.ifCond .lt 8) 3 4 := ⟨by decide +kernel, rfl⟩
theorem dc_J3_checkIndex_8e157_4 : Dc miJ3_checkIndex_8e157 4 (.iload_n 0) 1 5 := ⟨by decide +kernel, rfl⟩
theorem dc_J3_checkIndex_8e157_5 : Dc miJ3_checkIndex_8e157 5 (.iload_n 1) 1 6 := ⟨by decide +kernel, rfl⟩
theorem dc_J3_checkIndex_8e157_6 : Dc miJ3_checkIndex_8e157 6 (.if_icmp .lt 10) 3 9 := ⟨by decide +kernel, rfl⟩
theorem dc_J3_checkIndex_8e157_9 : Dc miJ3_checkIndex_8e157 9 (.aload_n 2) 1 10 := ⟨by decide +kernel, rfl⟩
theorem dc_J3_checkIndex_8e157_10 : Dc miJ3_checkIndex_8e157 10 (.iload_n 0) 1 11 := ⟨by decide +kernel, rfl⟩
theorem dc_J3_checkIndex_8e157_11 : Dc miJ3_checkIndex_8e157 11 (.iload_n 1) 1 12 := ⟨by decide +kernel, rfl⟩
theorem dc_J3_checkIndex_8e157_12 : Dc miJ3_checkIndex_8e157 12 (.invokestatic 95) 3 15 := ⟨by decide +kernel, rfl⟩
theorem dc_J3_checkIndex_8e157_15 : Dc miJ3_checkIndex_8e157 15 (.athrow) 1 16 := ⟨by decide +kernel, rfl⟩
theorem dc_J3_checkIndex_8e157_16 : Dc miJ3_checkIndex_8e157 16 (.iload_n 0) 1 17 := ⟨by decide +kernel, rfl⟩
theorem dc_J3_checkIndex_8e157_17 : Dc miJ3_checkIndex_8e157 17 (.ireturn) 1 18 := ⟨by decide +kernel, rfl⟩
def sLen (sid : Nat) : Int32 := Int32.ofNat (lenS.getD sid 0)
def jc (x : Int32) : Int32 := (x.toUInt32 % 65536).toInt32
def sChr (sid : Nat) (i : Int32) : Int32 := jc (((bytS.getD sid []).getD i.toNatClampNeg 0) &&& 255)
section EvStr
variable {Y : MI} {B : Nat × Nat × Nat} {G : pG} {Z : ZZ} {SK : Nat → Nat} {u : Nat × Nat} {pc pc' : Nat} {lv lv' : List (Option Value)} {st : List Value} {σ : pS}
theorem ev_i2c {x : Int32} (hd : Dc Y pc .i2c 1 pc') (k : Ev Y B G Z SK u pc' lv (.int (jc x) :: st) σ) : Ev Y B G Z SK u pc lv (.int x :: st) σ := by
  obtain ⟨hd, rfl⟩ := hd
  intro p l e R s m args below meth c H locs A ls D cy SV C hP hD hS hl
  exact lv_i2c C.1 C.2.1 hd rfl (k p l e R s m args below meth c H locs A ls D cy SV C hP hD hS hl)
theorem ev_compact {i : Nat} (hd : Dc Y pc (.getstatic i) 3 pc') (hw : Cond.fieldLink Y.1 i "java/lang/String" "COMPACT_STRINGS" "Z" ∈ Gw) (k : Ev Y B G Z SK u pc' lv (.int 1 :: st) σ) : Ev Y B G Z SK u pc lv st σ := by
  obtain ⟨hd, rfl⟩ := hd
  intro p l e R s m args below meth c H locs A ls D cy SV C hP hD hS hl
  exact va_gets C.1 C.2.1 C.2.2.2.2.2.2.2.2.2.2.2.2.2.2.2.1 hS C.2.2.2.2.1 (C.2.2.2.2.2.1 _ hw) (fun _ h => h) hd (k p l e R s m args below meth c H locs A ls D cy SV C hP hD hS hl)
theorem ev_sioobe {i : Nat} (hd : Dc Y pc (.getstatic i) 3 pc') (hw : Cond.fieldLink Y.1 i "jdk/internal/util/Preconditions" "SIOOBE_FORMATTER" "Ljava/util/function/BiFunction;" ∈ Gw) (k0 : Ev Y B G Z SK u pc' lv (.null :: st) σ) (k1 : ∀ t : Nat, Ev Y B G Z SK u pc' lv (.ref t :: st) σ) : Ev Y B G Z SK u pc lv st σ := by
  obtain ⟨hd, rfl⟩ := hd
  intro p l e R s m args below meth c H locs A ls D cy SV C hP hD hS hl
  rcases C.2.2.2.2.2.2.2.2.2.2.2.2.2.2.2.2.1 with h | ⟨t, h⟩
  · exact va_gets C.1 C.2.1 h hS C.2.2.2.2.1 (C.2.2.2.2.2.1 _ hw) (fun _ h => h) hd (k0 p l e R s m args below meth c H locs A ls D cy SV C hP hD hS hl)
  · exact va_gets C.1 C.2.1 h hS C.2.2.2.2.1 (C.2.2.2.2.2.1 _ hw) (fun _ h => h) hd (k1 t p l e R s m args below meth c H locs A ls D cy SV C hP hD hS hl)
theorem ev_sval {i sid : Nat} (hs : sid < nStr) (hd : Dc Y pc (.getfield i) 3 pc') (hw : Cond.fieldLink Y.1 i "java/lang/String" "value" "[B" ∈ Gw) (k : Ev Y B G Z SK u pc' lv (.ref (SK (1000 + sid)) :: st) σ) : Ev Y B G Z SK u pc lv (.ref (SK sid) :: st) σ := by
  obtain ⟨hd, rfl⟩ := hd
  intro p l e R s m args below meth c H locs A ls D cy SV C hP hD hS hl
  have hx := ((C.2.2.2.2.2.2.2.2.2.2.1 sid hs).1 0 (by decide)).2.2.1
  exact vk_getf C.1 C.2.1 hx hS C.2.2.2.2.1 (C.2.2.2.2.2.1 _ hw) (fun _ h => h) hd (k p l e R s m args below meth c H locs A ls D cy SV C hP hD hS hl)
theorem ev_scod {i sid : Nat} (hs : sid < nStr) (hd : Dc Y pc (.getfield i) 3 pc') (hw : Cond.fieldLink Y.1 i "java/lang/String" "coder" "B" ∈ Gw) (k : Ev Y B G Z SK u pc' lv (.int 0 :: st) σ) : Ev Y B G Z SK u pc lv (.ref (SK sid) :: st) σ := by
  obtain ⟨hd, rfl⟩ := hd
  intro p l e R s m args below meth c H locs A ls D cy SV C hP hD hS hl
  have hx := ((C.2.2.2.2.2.2.2.2.2.2.1 sid hs).1 0 (by decide)).2.1
  exact vk_getf C.1 C.2.1 hx hS C.2.2.2.2.1 (C.2.2.2.2.2.1 _ hw) (fun _ h => h) hd (k p l e R s m args below meth c H locs A ls D cy SV C hP hD hS hl)
theorem ev_stlen {sid : Nat} (hs : sid < nStr) (hd : Dc Y pc .arraylength 1 pc') (k : Ev Y B G Z SK u pc' lv (.int (sLen sid) :: st) σ) : Ev Y B G Z SK u pc lv (.ref (SK (1000 + sid)) :: st) σ := by
  obtain ⟨hd, rfl⟩ := hd
  intro p l e R s m args below meth c H locs A ls D cy SV C hP hD hS hl
  have hx := ((C.2.2.2.2.2.2.2.2.2.2.1 sid hs).1 0 (by decide)).2.2.2
  exact va_tlen C.1 C.2.1 hx hS rfl hd (k p l e R s m args below meth c H locs A ls D cy SV C hP hD hS hl)
theorem ev_stb {sid : Nat} {i : Int32} (hs : sid < nStr) (hi : inB i (lenS.getD sid 0) = true) (hd : Dc Y pc .baload 1 pc') (k : Ev Y B G Z SK u pc' lv (.int ((bytS.getD sid []).getD i.toNatClampNeg 0) :: st) σ) : Ev Y B G Z SK u pc lv (.int i :: .ref (SK (1000 + sid)) :: st) σ := by
  obtain ⟨hd, rfl⟩ := hd
  intro p l e R s m args below meth c H locs A ls D cy SV C hP hD hS hl
  have hx := ((C.2.2.2.2.2.2.2.2.2.2.1 sid hs).1 0 (by decide)).2.2.2
  exact va_tb C.1 C.2.1 hx hS (inB_s hi) rfl hd (k p l e R s m args below meth c H locs A ls D cy SV C hP hD hS hl)
/-- a method of a text -/
theorem ev_callT {Y' : MI} {y : MethodName} {d' idx n sid : Nat} {av st0 st1 : List Value} {o : Option Value} {σ1 : pS} (hs : sid < nStr) (hd : Dc Y pc (.invokevirtual idx) 3 pc') (hM : Dn Y' y d' G SK (.ref (SK sid) :: av) σ o σ1) (hl : Cond.methodLink Y.1 idx y ∈ Gw) (hy : CY Y' y n) (hcl : y.cls = "java/lang/String") (hn : av.length = n) (hst : av.reverse ++ .ref (SK sid) :: st = st0) (hs1 : o.toList ++ st = st1) (hr : (st.map fun v => v.category).sum ≤ 8) (hB : d' + 1 ≤ B.1) (hu : u.1 ≤ B.2.1 ∧ u.2 ≤ B.2.2)
    (k9 : Ev Y B G Z SK u pc' lv st1 σ1) : Ev Y B G Z SK u pc lv st0 σ := by
  obtain ⟨hd, rfl⟩ := hd
  obtain ⟨y1, y2, y3, y4, y5, y6⟩ := hy
  subst hst hs1
  intro p l e R s m args below meth c H locs A ls D cy SV C hP hD hS hlv
  have hts := C.2.2.2.2.2.1
  have hrec := vk_recv (C.2.2.2.2.2.2.2.2.2.2.1 sid hs) (i := 0) (by decide) hS
  rw [← hcl] at hrec
  have hp := pre_of (av := .ref (SK sid) :: av) C hP hD hS
  have hF := pool_free hD hS C.2.2.2.2.2.2.2.2.2.1
  have hR := ev_room hB y6 C.2.2.2.2.2.2.2.2.1
  exact run_go (va_runV (As := av) (rest := st) (Ts := Gw) (cc := Y.2.1) (nL := Y.2.2.1) (own := Y.1) (C := y.cls) ⟨C.1, C.2.1, C.2.2.2.1, C.2.2.2.2.1, hts⟩ (hM l C.2.2.2.2.2.2.1.2.1 D cy SV H.size)
    ⟨callB_of n hts (gw_in y4) rfl rfl rfl (hts _ y3) (hts _ hl) y5 hR, hts _ y1, hts _ y2⟩ ⟨hp.1, hrec, hp.2⟩ rfl hn hlv.1 rfl (lv_room hr) hd ⟨Nat.le_trans hu.1 C.2.2.2.2.2.2.2.2.1.2.2.1, Nat.le_trans hu.2 C.2.2.2.2.2.2.2.2.1.2.2.2⟩) hS (fun q _ h => hF q h) hF
    (fun H1 locs1 hP1 hS1 => k9 p l e R s m args below meth c H1 locs1 A ls D cy SV C hP1 (pool_D hD) hS1 hlv)
theorem ev_cret {v : Int32} {o : Option Value} {σ' : pS} {ty : FieldType} (hd : Dc Y pc .ireturn 1 pc') (hY : Y.2.2.2.1 = some ty) (hn : narrow ty (.int v) = .int v) (ho : some (.int v) = o) (hσ : σ = σ') : Ev Y B G (Zp G o σ') SK (0, 0) pc lv [.int v] σ := by
  obtain ⟨hd, rfl⟩ := hd
  subst ho hσ
  intro p l e R s m args below meth c H locs A ls D cy SV C hP hD hS hl
  have hlk := C.2.2.2.2.2.2.1.1
  exact W.zret (v := v) C.1 C.2.1 (C.2.2.1.trans hY) hn (fun t ht hW => ⟨rfl, by rw [ht]; exact hP, va_K.moved hW.alike C.2.2.2.2.2.2.2.1, hD, hS.F ht⟩) hS.2.2 hd
end EvStr
theorem tS_coder {G : pG} {SK : Nat → Nat} {sid : Nat} {σ : pS} (hs : sid < nStr) : Dn miJ0_coder_7d493 yJ0_coder_7d493 1 G SK [.ref (SK sid)] σ (some (.int 0)) σ := by
  refine dn_of (lv := [some (.ref (SK sid))]) (by decide) rfl rfl (Nat.le_of_ble_eq_true rfl) rfl ?_
  refine ev_compact dc_J0_coder_7d493_0 mw_717 ?_
  refine ev_if_eq (tgt := 13) (P := (none : Option Unit)) (Q := some ()) (r := ()) dc_J0_coder_7d493_3 (by decide) rfl (fun h => nomatch h) (fun h => ?_)
  refine ev_aload_n dc_J0_coder_7d493_6 rfl ?_
  refine ev_scod hs dc_J0_coder_7d493_7 mw_2219 ?_
  refine ev_goto (tgt := 14) dc_J0_coder_7d493_10 (by decide) ?_
  exact ev_cret dc_J0_coder_7d493_14 rfl (by decide) rfl rfl
theorem tS_latin {G : pG} {SK : Nat → Nat} {sid : Nat} {σ : pS} (hs : sid < nStr) : Dn miJ0_isLatin1_aae02 yJ0_isLatin1_aae02 1 G SK [.ref (SK sid)] σ (some (.int 1)) σ := by
  refine dn_of (lv := [some (.ref (SK sid))]) (by decide) rfl rfl (Nat.le_of_ble_eq_true rfl) rfl ?_
  refine ev_compact dc_J0_isLatin1_aae02_0 mw_717 ?_
  refine ev_if_eq (tgt := 17) (P := (none : Option Unit)) (Q := some ()) (r := ()) dc_J0_isLatin1_aae02_3 (by decide) rfl (fun h => nomatch h) (fun h => ?_)
  refine ev_aload_n dc_J0_isLatin1_aae02_6 rfl ?_
  refine ev_scod hs dc_J0_isLatin1_aae02_7 mw_2219 ?_
  refine ev_if_ne (tgt := 17) (P := some ()) (Q := (none : Option Unit)) (r := ()) dc_J0_isLatin1_aae02_10 (by decide) rfl (fun h => ?_) (fun h => nomatch h)
  refine ev_iconst (v := 1) dc_J0_isLatin1_aae02_13 (by decide) ?_
  refine ev_goto (tgt := 18) dc_J0_isLatin1_aae02_14 (by decide) ?_
  exact ev_cret dc_J0_isLatin1_aae02_18 rfl (by decide) rfl rfl
theorem tS_len {G : pG} {SK : Nat → Nat} {sid : Nat} {σ : pS} (hs : sid < nStr) : Dn miJ0_length_8abf5 yJ0_length_8abf5 2 G SK [.ref (SK sid)] σ (some (.int (sLen sid))) σ := by
  refine dn_of (lv := [some (.ref (SK sid))]) (by decide) rfl rfl (Nat.le_of_ble_eq_true rfl) rfl ?_
  refine ev_aload_n dc_J0_length_8abf5_0 rfl ?_
  refine ev_sval hs dc_J0_length_8abf5_1 mw_2218 ?_
  refine ev_stlen hs dc_J0_length_8abf5_4 ?_
  refine ev_aload_n dc_J0_length_8abf5_5 rfl ?_
  refine ev_callT (av := []) (st := [.int (sLen sid)]) (st1 := [.int 0, .int (sLen sid)]) hs dc_J0_length_8abf5_6 (tS_coder hs) mw_713 cy_J0_coder_7d493 rfl rfl rfl rfl (Nat.le_of_ble_eq_true rfl) (Nat.le_of_ble_eq_true rfl) ⟨Nat.le_refl _, Nat.le_refl _⟩ ?_
  refine ev_ishr dc_J0_length_8abf5_9 ?_
  have e : sLen sid >>> ((0 : Int32) &&& 31) = sLen sid := by simp
  exact ev_iret dc_J0_length_8abf5_10 rfl (by rw [e]) rfl
theorem tS_pci {G : pG} {SK : Nat → Nat} {i n : Int32} {σ : pS} (h1 : ¬ i < 0) (h2 : i < n) (v : Value) (hv : v = .null ∨ ∃ t, v = .ref t) : Dn miJ3_checkIndex_8e157 yJ3_checkIndex_8e157 1 G SK [.int i, .int n, v] σ (some (.int i)) σ := by
  rcases hv with rfl | ⟨t, rfl⟩
  · refine dn_of (lv := [some (.int i), some (.int n), some .null]) (by decide) rfl rfl (Nat.le_of_ble_eq_true rfl) rfl ?_
    refine ev_iload_n dc_J3_checkIndex_8e157_0 rfl ?_
    refine ev_if_lt (tgt := 9) (P := (none : Option Unit)) (Q := some ()) (r := ()) dc_J3_checkIndex_8e157_1 (by decide) (if_neg h1) (fun h => nomatch h) (fun h => ?_)
    refine ev_iload_n dc_J3_checkIndex_8e157_4 rfl ?_
    refine ev_iload_n dc_J3_checkIndex_8e157_5 rfl ?_
    refine ev_icmp_lt (tgt := 16) (P := some ()) (Q := (none : Option Unit)) (r := ()) dc_J3_checkIndex_8e157_6 (by decide) (if_pos h2) (fun h => ?_) (fun h => nomatch h)
    refine ev_iload_n dc_J3_checkIndex_8e157_16 rfl ?_
    exact ev_iret dc_J3_checkIndex_8e157_17 rfl rfl rfl
  · refine dn_of (lv := [some (.int i), some (.int n), some (.ref t)]) (by decide) rfl rfl (Nat.le_of_ble_eq_true rfl) rfl ?_
    refine ev_iload_n dc_J3_checkIndex_8e157_0 rfl ?_
    refine ev_if_lt (tgt := 9) (P := (none : Option Unit)) (Q := some ()) (r := ()) dc_J3_checkIndex_8e157_1 (by decide) (if_neg h1) (fun h => nomatch h) (fun h => ?_)
    refine ev_iload_n dc_J3_checkIndex_8e157_4 rfl ?_
    refine ev_iload_n dc_J3_checkIndex_8e157_5 rfl ?_
    refine ev_icmp_lt (tgt := 16) (P := some ()) (Q := (none : Option Unit)) (r := ()) dc_J3_checkIndex_8e157_6 (by decide) (if_pos h2) (fun h => ?_) (fun h => nomatch h)
    refine ev_iload_n dc_J3_checkIndex_8e157_16 rfl ?_
    exact ev_iret dc_J3_checkIndex_8e157_17 rfl rfl rfl
theorem tS_ci {G : pG} {SK : Nat → Nat} {i n : Int32} {σ : pS} (h1 : ¬ i < 0) (h2 : i < n) : Dn miJ0_checkIndex_df160 yJ0_checkIndex_df160 2 G SK [.int i, .int n] σ none σ := by
  refine dn_of (lv := [some (.int i), some (.int n)]) (by decide) rfl rfl (Nat.le_of_ble_eq_true rfl) rfl ?_
  refine ev_iload_n dc_J0_checkIndex_df160_0 rfl ?_
  refine ev_iload_n dc_J0_checkIndex_df160_1 rfl ?_
  refine ev_sioobe dc_J0_checkIndex_df160_2 mw_733 ?_ (fun t => ?_)
  · refine ev_callS (av := [.int i, .int n, .null]) (st := []) (st1 := [.int i]) dc_J0_checkIndex_df160_5 (tS_pci h1 h2 .null (Or.inl rfl)) mw_735 cs_J3_checkIndex_8e157 rfl rfl rfl (Nat.le_of_ble_eq_true rfl) (Nat.le_of_ble_eq_true rfl) ⟨Nat.le_refl _, Nat.le_refl _⟩ ?_
    refine ev_pop dc_J0_checkIndex_df160_8 rfl ?_
    exact ev_vret dc_J0_checkIndex_df160_9 rfl rfl rfl
  · refine ev_callS (av := [.int i, .int n, .ref t]) (st := []) (st1 := [.int i]) dc_J0_checkIndex_df160_5 (tS_pci h1 h2 (.ref t) (Or.inr ⟨t, rfl⟩)) mw_735 cs_J3_checkIndex_8e157 rfl rfl rfl (Nat.le_of_ble_eq_true rfl) (Nat.le_of_ble_eq_true rfl) ⟨Nat.le_refl _, Nat.le_refl _⟩ ?_
    refine ev_pop dc_J0_checkIndex_df160_8 rfl ?_
    exact ev_vret dc_J0_checkIndex_df160_9 rfl rfl rfl
theorem sLen_all : ∀ i : Nat, i < nStr → lenS.getD i 0 < 100 := by decide +kernel
theorem inB_lt {sid : Nat} {i : Int32} (hs : sid < nStr) (h : inB i (lenS.getD sid 0) = true) : ¬ i < 0 ∧ i < sLen sid := by
  simp only [inB, Bool.and_eq_true, Bool.not_eq_true', decide_eq_false_iff_not, decide_eq_true_eq] at h
  refine ⟨h.1, ?_⟩
  have h100 := sLen_all sid hs
  have h3 : i.toInt = (i.toNatClampNeg : Int) := by
    have hz0 : (0 : Int) ≤ i.toInt := by
      have := Int32.not_lt.mp h.1
      simpa using Int32.le_iff_toInt_le.mp this
    show i.toInt = ((i.toInt.toNat : Nat) : Int)
    omega
  rw [Int32.lt_iff_toInt_lt, h3]
  have e : (sLen sid).toInt = ((lenS.getD sid 0 : Nat) : Int) := by
    unfold sLen
    exact Int32.toInt_ofNat_of_lt (by omega)
  rw [e]
  omega
theorem tS_lch {G : pG} {SK : Nat → Nat} {sid : Nat} {i : Int32} {σ : pS} (hs : sid < nStr) (hi : inB i (lenS.getD sid 0) = true) : Dn miJ1_charAt_3b067 yJ1_charAt_3b067 3 G SK [.ref (SK (1000 + sid)), .int i] σ (some (.int (sChr sid i))) σ := by
  obtain ⟨h1, h2⟩ := inB_lt hs hi
  refine dn_of (lv := [some (.ref (SK (1000 + sid))), some (.int i)]) (by decide) rfl rfl (Nat.le_of_ble_eq_true rfl) rfl ?_
  refine ev_iload_n dc_J1_charAt_3b067_0 rfl ?_
  refine ev_aload_n dc_J1_charAt_3b067_1 rfl ?_
  refine ev_stlen hs dc_J1_charAt_3b067_2 ?_
  refine ev_callS (av := [.int i, .int (sLen sid)]) (st := []) (st1 := []) dc_J1_charAt_3b067_3 (tS_ci h1 h2) mw_730 cs_J0_checkIndex_df160 rfl rfl rfl (Nat.le_of_ble_eq_true rfl) (Nat.le_of_ble_eq_true rfl) ⟨Nat.le_refl _, Nat.le_refl _⟩ ?_
  refine ev_aload_n dc_J1_charAt_3b067_6 rfl ?_
  refine ev_iload_n dc_J1_charAt_3b067_7 rfl ?_
  refine ev_stb hs hi dc_J1_charAt_3b067_8 ?_
  refine ev_sipush (v := 255) dc_J1_charAt_3b067_9 (by decide) ?_
  refine ev_iand dc_J1_charAt_3b067_12 ?_
  refine ev_i2c dc_J1_charAt_3b067_13 ?_
  exact ev_cret dc_J1_charAt_3b067_14 rfl (pk_nc _) rfl rfl
theorem tS_chr {G : pG} {SK : Nat → Nat} {sid : Nat} {i : Int32} {σ : pS} (hs : sid < nStr) (hi : inB i (lenS.getD sid 0) = true) : Dn miJ0_charAt_5068e yJ0_charAt_5068e 4 G SK [.ref (SK sid), .int i] σ (some (.int (sChr sid i))) σ := by
  refine dn_of (lv := [some (.ref (SK sid)), some (.int i)]) (by decide) rfl rfl (Nat.le_of_ble_eq_true rfl) rfl ?_
  refine ev_aload_n dc_J0_charAt_5068e_0 rfl ?_
  refine ev_callT (av := []) (st := []) (st1 := [.int 1]) hs dc_J0_charAt_5068e_1 (tS_latin hs) mw_723 cy_J0_isLatin1_aae02 rfl rfl rfl rfl (Nat.le_of_ble_eq_true rfl) (Nat.le_of_ble_eq_true rfl) ⟨Nat.le_refl _, Nat.le_refl _⟩ ?_
  refine ev_if_eq (tgt := 16) (P := (none : Option Unit)) (Q := some ()) (r := ()) dc_J0_charAt_5068e_4 (by decide) rfl (fun h => nomatch h) (fun h => ?_)
  refine ev_aload_n dc_J0_charAt_5068e_7 rfl ?_
  refine ev_sval hs dc_J0_charAt_5068e_8 mw_2218 ?_
  refine ev_iload_n dc_J0_charAt_5068e_11 rfl ?_
  refine ev_callS (av := [.ref (SK (1000 + sid)), .int i]) (st := []) (st1 := [.int (sChr sid i)]) dc_J0_charAt_5068e_12 (tS_lch hs hi) mw_727 cs_J1_charAt_3b067 rfl rfl rfl (Nat.le_of_ble_eq_true rfl) (Nat.le_of_ble_eq_true rfl) ⟨Nat.le_refl _, Nat.le_refl _⟩ ?_
  exact ev_cret dc_J0_charAt_5068e_15 rfl (pk_nc _) rfl rfl
section EvStr2
variable {Y : MI} {B : Nat × Nat × Nat} {G : pG} {Z : ZZ} {SK : Nat → Nat} {u : Nat × Nat} {pc pc' : Nat} {lv lv' : List (Option Value)} {st : List Value} {σ : pS}
theorem ev_slen {i sid : Nat} (hd : Dc Y pc (.invokevirtual i) 3 pc') (hw : Cond.methodLink Y.1 i yJ0_length_8abf5 ∈ Gw) (hr : (st.map fun v => v.category).sum ≤ 8) (hB : 8 ≤ B.1) (hu : u.1 ≤ B.2.1 ∧ u.2 ≤ B.2.2) (hs : decide (sid < nStr) = true) (k : Ev Y B G Z SK u pc' lv (.int (sLen sid) :: st) σ) : Ev Y B G Z SK u pc lv (.ref (SK sid) :: st) σ :=
  ev_callT (av := []) (st := st) (of_decide_eq_true hs) hd (tS_len (of_decide_eq_true hs)) hw cy_J0_length_8abf5 rfl rfl rfl rfl hr (by omega) hu k
theorem ev_schr {α : Type} {P : Option α} {r : α} {i sid : Nat} {x : Int32} (hd : Dc Y pc (.invokevirtual i) 3 pc') (hw : Cond.methodLink Y.1 i yJ0_charAt_5068e ∈ Gw) (hr : (st.map fun v => v.category).sum ≤ 8) (hB : 8 ≤ B.1) (hu : u.1 ≤ B.2.1 ∧ u.2 ≤ B.2.2) (hs : decide (sid < nStr) = true) (h : ck (inB x (lenS.getD sid 0)) P = some r) (k : P = some r → Ev Y B G Z SK u pc' lv (.int (sChr sid x) :: st) σ) : Ev Y B G Z SK u pc lv (.int x :: .ref (SK sid) :: st) σ := by
  obtain ⟨h1, h2⟩ := ck_s h
  exact ev_callT (av := [.int x]) (st := st) (of_decide_eq_true hs) hd (tS_chr (of_decide_eq_true hs) h1) hw cy_J0_charAt_5068e rfl rfl rfl rfl hr (by omega) hu (k h2)
end EvStr2
