abbrev miL_story : MI := (RL, cL_story, 3, some .int, [(0, 8, 11, 13), (0, 8, 14, 15)])
theorem cw_L_story : Cond.codeWith yL_story miL_story.2.1 miL_story.2.2.1 miL_story.2.2.2.1 miL_story.2.2.2.2 ∈ Gw := gw_c tin_3 196 rfl rfl
abbrev miL_law : MI := (RL, cL_law, 3, some .int, [(0, 8, 11, 13)])
theorem cw_L_law : Cond.codeWith yL_law miL_law.2.1 miL_law.2.2.1 miL_law.2.2.2.1 miL_law.2.2.2.2 ∈ Gw := gw_c tin_4 220 rfl rfl
abbrev miL_name : MI := (RL, cL_name, 5, some .int, [(0, 10, 13, 24), (0, 10, 17, 26)])
theorem cw_L_name : Cond.codeWith yL_name miL_name.2.1 miL_name.2.2.1 miL_name.2.2.2.1 miL_name.2.2.2.2 ∈ Gw := gw_c tin_5 72 rfl rfl
abbrev miL_court : MI := (RL, cL_court, 5, some .int, [(0, 10, 13, 24), (0, 10, 17, 26)])
theorem cw_L_court : Cond.codeWith yL_court miL_court.2.1 miL_court.2.2.1 miL_court.2.2.2.1 miL_court.2.2.2.2 ∈ Gw := gw_c tin_5 125 rfl rfl
abbrev miL_word : MI := (RL, cL_word, 5, some .int, [(0, 10, 13, 24)])
theorem cw_L_word : Cond.codeWith yL_word miL_word.2.1 miL_word.2.2.1 miL_word.2.2.2.1 miL_word.2.2.2.2 ∈ Gw := gw_c tin_5 138 rfl rfl
abbrev miL_deed : MI := (RL, cL_deed, 5, some .int, [(0, 10, 13, 24), (0, 10, 17, 26)])
theorem cw_L_deed : Cond.codeWith yL_deed miL_deed.2.1 miL_deed.2.2.1 miL_deed.2.2.2.1 miL_deed.2.2.2.2 ∈ Gw := gw_c tin_5 150 rfl rfl
abbrev miL_stings : MI := (RL, cL_stings, 5, some .int, [(0, 10, 13, 24)])
theorem cw_L_stings : Cond.codeWith yL_stings miL_stings.2.1 miL_stings.2.2.1 miL_stings.2.2.2.1 miL_stings.2.2.2.2 ∈ Gw := gw_c tin_5 167 rfl rfl
abbrev miL_say : MI := (RL, cL_say, 5, some .int, [(0, 10, 13, 24), (0, 10, 17, 44)])
theorem cw_L_say : Cond.codeWith yL_say miL_say.2.1 miL_say.2.2.1 miL_say.2.2.2.1 miL_say.2.2.2.2 ∈ Gw := gw_c tin_5 174 rfl rfl
abbrev miL_does : MI := (RL, cL_does, 4, some .int, [(0, 9, 12, 24), (0, 9, 15, 44)])
theorem cw_L_does : Cond.codeWith yL_does miL_does.2.1 miL_does.2.2.1 miL_does.2.2.2.1 miL_does.2.2.2.2 ∈ Gw := gw_c tin_5 214 rfl rfl
abbrev miL_keep : MI := (RL, cL_keep, 5, some .int, [(0, 17, 20, 24)])
theorem cw_L_keep : Cond.codeWith yL_keep miL_keep.2.1 miL_keep.2.2.1 miL_keep.2.2.2.1 miL_keep.2.2.2.2 ∈ Gw := gw_c tin_5 227 rfl rfl
abbrev miL_habit : MI := (RL, cL_habit, 5, some .int, [(0, 10, 13, 24)])
theorem cw_L_habit : Cond.codeWith yL_habit miL_habit.2.1 miL_habit.2.2.1 miL_habit.2.2.2.1 miL_habit.2.2.2.2 ∈ Gw := gw_c tin_5 234 rfl rfl
abbrev miL_his : MI := (RL, cL_his, 4, some .int, [(0, 9, 12, 24)])
theorem cw_L_his : Cond.codeWith yL_his miL_his.2.1 miL_his.2.2.1 miL_his.2.2.2.1 miL_his.2.2.2.2 ∈ Gw := gw_c tin_6 2 rfl rfl
abbrev miL_crumb : MI := (RL, cL_crumb, 4, some .int, [(0, 9, 12, 24), (0, 9, 15, 44)])
theorem cw_L_crumb : Cond.codeWith yL_crumb miL_crumb.2.1 miL_crumb.2.2.1 miL_crumb.2.2.2.1 miL_crumb.2.2.2.2 ∈ Gw := gw_c tin_6 10 rfl rfl
abbrev miL_nights : MI := (RL, cL_nights, 4, some .int, [(0, 9, 12, 13)])
theorem cw_L_nights : Cond.codeWith yL_nights miL_nights.2.1 miL_nights.2.2.1 miL_nights.2.2.2.1 miL_nights.2.2.2.2 ∈ Gw := gw_c tin_6 23 rfl rfl
abbrev miL_would : MI := (RL, cL_would, 6, some .int, [(0, 12, 15, 24)])
theorem cw_L_would : Cond.codeWith yL_would miL_would.2.1 miL_would.2.2.1 miL_would.2.2.2.1 miL_would.2.2.2.2 ∈ Gw := gw_c tin_6 50 rfl rfl
abbrev miL_ahead : MI := (RL, cL_ahead, 5, some .int, [(0, 10, 13, 24), (0, 10, 17, 13)])
theorem cw_L_ahead : Cond.codeWith yL_ahead miL_ahead.2.1 miL_ahead.2.2.1 miL_ahead.2.2.2.1 miL_ahead.2.2.2.2 ∈ Gw := gw_c tin_6 58 rfl rfl
abbrev miL_first : MI := (RL, cL_first, 4, some .int, [(0, 9, 12, 24)])
theorem cw_L_first : Cond.codeWith yL_first miL_first.2.1 miL_first.2.2.1 miL_first.2.2.2.1 miL_first.2.2.2.2 ∈ Gw := gw_c tin_6 73 rfl rfl
abbrev miL_siege : MI := (RL, cL_siege, 4, some .int, [(0, 9, 12, 13)])
theorem cw_L_siege : Cond.codeWith yL_siege miL_siege.2.1 miL_siege.2.2.1 miL_siege.2.2.2.1 miL_siege.2.2.2.2 ∈ Gw := gw_c tin_6 80 rfl rfl
abbrev miL_plan : MI := (RL, cL_plan, 4, some .int, [(0, 9, 12, 13)])
theorem cw_L_plan : Cond.codeWith yL_plan miL_plan.2.1 miL_plan.2.2.1 miL_plan.2.2.2.1 miL_plan.2.2.2.2 ∈ Gw := gw_c tin_6 124 rfl rfl
abbrev miL_keeps : MI := (RL, cL_keeps, 5, some .int, [(0, 10, 13, 13)])
theorem cw_L_keeps : Cond.codeWith yL_keeps miL_keeps.2.1 miL_keeps.2.2.1 miL_keeps.2.2.2.1 miL_keeps.2.2.2.2 ∈ Gw := gw_c tin_6 135 rfl rfl
abbrev miL_fewest : MI := (RL, cL_fewest, 4, some .int, [(0, 9, 12, 24)])
theorem cw_L_fewest : Cond.codeWith yL_fewest miL_fewest.2.1 miL_fewest.2.2.1 miL_fewest.2.2.2.1 miL_fewest.2.2.2.2 ∈ Gw := gw_c tin_6 146 rfl rfl
abbrev miL_silence : MI := (RL, cL_silence, 4, some .int, [(0, 9, 12, 13)])
theorem cw_L_silence : Cond.codeWith yL_silence miL_silence.2.1 miL_silence.2.2.1 miL_silence.2.2.2.1 miL_silence.2.2.2.2 ∈ Gw := gw_c tin_6 184 rfl rfl
abbrev miL_belief : MI := (RL, cL_belief, 4, some .int, [(0, 9, 12, 24)])
theorem cw_L_belief : Cond.codeWith yL_belief miL_belief.2.1 miL_belief.2.2.1 miL_belief.2.2.2.1 miL_belief.2.2.2.2 ∈ Gw := gw_c tin_6 195 rfl rfl
abbrev miL_duty : MI := (RL, cL_duty, 4, some .int, [(0, 9, 12, 24)])
theorem cw_L_duty : Cond.codeWith yL_duty miL_duty.2.1 miL_duty.2.2.1 miL_duty.2.2.2.1 miL_duty.2.2.2.2 ∈ Gw := gw_c tin_6 202 rfl rfl
abbrev miL_cheapest : MI := (RL, cL_cheapest, 5, some .int, [(0, 10, 13, 13)])
theorem cw_L_cheapest : Cond.codeWith yL_cheapest miL_cheapest.2.1 miL_cheapest.2.2.1 miL_cheapest.2.2.2.1 miL_cheapest.2.2.2.2 ∈ Gw := gw_c tin_6 210 rfl rfl
abbrev miL_sharpest : MI := (RL, cL_sharpest, 4, some .int, [(0, 9, 12, 24)])
theorem cw_L_sharpest : Cond.codeWith yL_sharpest miL_sharpest.2.1 miL_sharpest.2.2.1 miL_sharpest.2.2.2.1 miL_sharpest.2.2.2.2 ∈ Gw := gw_c tin_6 225 rfl rfl
abbrev miL_similar : MI := (RL, cL_similar, 5, some .int, [(0, 10, 13, 24), (0, 10, 17, 13)])
theorem cw_L_similar : Cond.codeWith yL_similar miL_similar.2.1 miL_similar.2.2.1 miL_similar.2.2.2.1 miL_similar.2.2.2.2 ∈ Gw := gw_c tin_6 232 rfl rfl
abbrev miL_learnt : MI := (RL, cL_learnt, 4, some .int, [(0, 9, 12, 24)])
theorem cw_L_learnt : Cond.codeWith yL_learnt miL_learnt.2.1 miL_learnt.2.2.1 miL_learnt.2.2.2.1 miL_learnt.2.2.2.2 ∈ Gw := gw_c tin_6 239 rfl rfl
abbrev miL_trial : MI := (RL, cL_trial, 5, some .int, [(0, 10, 13, 13)])
theorem cw_L_trial : Cond.codeWith yL_trial miL_trial.2.1 miL_trial.2.2.1 miL_trial.2.2.2.1 miL_trial.2.2.2.2 ∈ Gw := gw_c tin_7 6 rfl rfl
abbrev miL_span : MI := (RL, cL_span, 4, some .int, [(0, 9, 12, 13)])
theorem cw_L_span : Cond.codeWith yL_span miL_span.2.1 miL_span.2.2.1 miL_span.2.2.2.1 miL_span.2.2.2.2 ∈ Gw := gw_c tin_7 17 rfl rfl
abbrev miL_led : MI := (RL, cL_led, 5, some .int, [(0, 10, 13, 24)])
theorem cw_L_led : Cond.codeWith yL_led miL_led.2.1 miL_led.2.2.1 miL_led.2.2.2.1 miL_led.2.2.2.2 ∈ Gw := gw_c tin_7 24 rfl rfl
abbrev miL_log : MI := (RL, cL_log, 5, some .int, [(0, 10, 13, 26)])
theorem cw_L_log : Cond.codeWith yL_log miL_log.2.1 miL_log.2.2.1 miL_log.2.2.2.1 miL_log.2.2.2.2 ∈ Gw := gw_c tin_7 35 rfl rfl
theorem dc_L_story_0 : Dc miL_story 0 (.aload_n 1) 1 1 := ⟨by decide +kernel, rfl⟩
theorem dc_L_story_1 : Dc miL_story 1 (.iconst 0) 1 2 := ⟨by decide +kernel, rfl⟩
theorem dc_L_story_2 : Dc miL_story 2 (.aload_n 0) 1 3 := ⟨by decide +kernel, rfl⟩
theorem dc_L_story_3 : Dc miL_story 3 (.invokevirtual 7) 3 6 := ⟨by decide +kernel, rfl⟩
theorem dc_L_story_6 : Dc miL_story 6 (.i2l) 1 7 := ⟨by decide +kernel, rfl⟩
theorem dc_L_story_7 : Dc miL_story 7 (.lastore) 1 8 := ⟨by decide +kernel, rfl⟩
theorem dc_L_story_8 : Dc miL_story 8 (.goto 9) 3 11 := ⟨by decide +kernel, rfl⟩
theorem dc_L_story_11 : Dc miL_story 11 (.astore_n 2) 1 12 := ⟨by decide +kernel, rfl⟩
theorem dc_L_story_12 : Dc miL_story 12 (.iconst 1) 1 13 := ⟨by decide +kernel, rfl⟩
theorem dc_L_story_13 : Dc miL_story 13 (.ireturn) 1 14 := ⟨by decide +kernel, rfl⟩
theorem dc_L_story_14 : Dc miL_story 14 (.astore_n 2) 1 15 := ⟨by decide +kernel, rfl⟩
theorem dc_L_story_15 : Dc miL_story 15 (.iconst 2) 1 16 := ⟨by decide +kernel, rfl⟩
theorem dc_L_story_16 : Dc miL_story 16 (.ireturn) 1 17 := ⟨by decide +kernel, rfl⟩
theorem dc_L_story_17 : Dc miL_story 17 (.iconst 0) 1 18 := ⟨by decide +kernel, rfl⟩
theorem dc_L_story_18 : Dc miL_story 18 (.ireturn) 1 19 := ⟨by decide +kernel, rfl⟩
def fL_story (N : Nat) (G : pG) (a0 : Nat) (a1 : Nat) (σ : pS) : Option (Int32 × pS) := (fX11_story N G a0 σ).bind (fun q1 => q1.elim (fun zs2 => ck (inB (0 : Int32) (pN G a1)) (some ((0 : Int32), sJ zs2.2 a1 (0 : Int32) zs2.1.toInt64))) (fun e => if e.1 = "java/lang/IllegalArgumentException" then (some ((1 : Int32), e.2)) else (if e.1 = "java/lang/UnsupportedOperationException" then (some ((2 : Int32), e.2)) else (none))))
set_option maxRecDepth 100000 in
set_option maxHeartbeats 4000000 in
theorem tL_story {N : Nat} {G : pG} {SK : Nat → Nat} {a0 : Nat} {a1 : Nat} {σ : pS} {r : Int32 × pS} (hW : WT G) (i0 : Is G a0 10) (i1 : Is G a1 14) (h : fL_story N G a0 a1 σ = some r) : DxH miL_story yL_story 15 1 6 G SK [.ref a0, .ref a1] σ (.inl (some (.int r.1), r.2)) := by
  unfold fL_story at h
  refine dxh_of (lv := [some (.ref a0), some (.ref a1), none]) (by decide) rfl (Nat.le_of_ble_eq_true rfl) rfl ?_
  refine ev_aload_n dc_L_story_0 rfl ?_
  refine ev_iconst (v := 0) dc_L_story_1 (by decide) ?_
  refine ev_aload_n dc_L_story_2 rfl ?_
  obtain ⟨q1, hq1, h⟩ := Option.bind_eq_some_iff.mp h
  refine ev_callC (av := []) (st := [.int (0 : Int32), .ref a1]) dc_L_story_3 (tX11_story hW i0 hq1) mw_679 cy_X11_story i0 (by decide) rfl rfl rfl (Nat.le_of_ble_eq_true rfl) (Nat.le_of_ble_eq_true rfl) ⟨Nat.le_of_ble_eq_true rfl, Nat.le_of_ble_eq_true rfl⟩ ?_ ?_
  · intro e he
    rcases q1 with zs2 | zs2
    · have he : (Sum.inl (some (.int zs2.1), zs2.2) : XO) = .inr e := he
      cases he
    · have he : (Sum.inr zs2 : XO) = .inr e := he
      have he := Sum.inr.inj he
      subst he
      dsimp only [Sum.elim] at h
      by_cases e0 : zs2.1 = "java/lang/IllegalArgumentException"
      · rw [if_pos e0] at h
        refine ⟨[], (0, 8, 11, 13), _, "java/lang/IllegalArgumentException", rfl, ?_, rfl, by decide, mw_677, ?_, fun ax => ?_⟩
        · intro w hw
          cases hw
        · rw [e0]
          exact List.mem_of_getElem? (i := 0) rfl
        · refine ev_astore_n (lv' := [some (.ref a0), some (.ref a1), some (.ref ax)]) dc_L_story_11 rfl (by decide) rfl ?_
          refine ev_iconst (v := 1) dc_L_story_12 (by decide) ?_
          cases h
          exact ev_iretX dc_L_story_13 rfl ⟨Nat.le_of_ble_eq_true rfl, Nat.le_of_ble_eq_true rfl⟩ rfl rfl
      rw [if_neg e0] at h
      by_cases e1 : zs2.1 = "java/lang/UnsupportedOperationException"
      · rw [if_pos e1] at h
        refine ⟨[(0, 8, 11, 13)], (0, 8, 14, 15), _, "java/lang/UnsupportedOperationException", rfl, ?_, rfl, by decide, mw_678, ?_, fun ax => ?_⟩
        · intro w hw
          rcases List.mem_singleton.mp hw with rfl
          exact ⟨by decide, "java/lang/IllegalArgumentException", mw_677, by rw [e1]; exact List.mem_of_getElem? (i := 12) rfl⟩
        · rw [e1]
          exact List.mem_of_getElem? (i := 1) rfl
        · refine ev_astore_n (lv' := [some (.ref a0), some (.ref a1), some (.ref ax)]) dc_L_story_14 rfl (by decide) rfl ?_
          refine ev_iconst (v := 2) dc_L_story_15 (by decide) ?_
          cases h
          exact ev_iretX dc_L_story_16 rfl ⟨Nat.le_of_ble_eq_true rfl, Nat.le_of_ble_eq_true rfl⟩ rfl rfl
      rw [if_neg e1] at h
      cases h
  intro e he
  rcases q1 with zs2 | zs2
  rotate_left
  · have he : (Sum.inr zs2 : XO) = .inl e := he
    cases he
  have he : (Sum.inl (some (.int zs2.1), zs2.2) : XO) = .inl e := he
  cases he
  dsimp only [Sum.elim] at h
  show Ev miL_story (15, 1, 6) G (Zx G (.inl (some (.int r.1), r.2)) 1 6) SK (1, 6) 6 [some (.ref a0), some (.ref a1), none] [.int zs2.1, .int (0 : Int32), .ref a1] zs2.2
  refine ev_i2l dc_L_story_6 ?_
  refine ev_last dc_L_story_7 i1 h (fun h => ?_)
  refine ev_goto (tgt := 17) dc_L_story_8 (by decide) ?_
  refine ev_iconst (v := 0) dc_L_story_17 (by decide) ?_
  cases h
  exact ev_iretX dc_L_story_18 rfl ⟨Nat.le_of_ble_eq_true rfl, Nat.le_of_ble_eq_true rfl⟩ rfl rfl
theorem dc_L_law_0 : Dc miL_law 0 (.aload_n 1) 1 1 := ⟨by decide +kernel, rfl⟩
theorem dc_L_law_1 : Dc miL_law 1 (.iconst 0) 1 2 := ⟨by decide +kernel, rfl⟩
theorem dc_L_law_2 : Dc miL_law 2 (.aload_n 0) 1 3 := ⟨by decide +kernel, rfl⟩
theorem dc_L_law_3 : Dc miL_law 3 (.invokevirtual 17) 3 6 := ⟨by decide +kernel, rfl⟩
theorem dc_L_law_6 : Dc miL_law 6 (.i2l) 1 7 := ⟨by decide +kernel, rfl⟩
theorem dc_L_law_7 : Dc miL_law 7 (.lastore) 1 8 := ⟨by decide +kernel, rfl⟩
theorem dc_L_law_8 : Dc miL_law 8 (.goto 6) 3 11 := ⟨by decide +kernel, rfl⟩
theorem dc_L_law_11 : Dc miL_law 11 (.astore_n 2) 1 12 := ⟨by decide +kernel, rfl⟩
theorem dc_L_law_12 : Dc miL_law 12 (.iconst 1) 1 13 := ⟨by decide +kernel, rfl⟩
theorem dc_L_law_13 : Dc miL_law 13 (.ireturn) 1 14 := ⟨by decide +kernel, rfl⟩
theorem dc_L_law_14 : Dc miL_law 14 (.iconst 0) 1 15 := ⟨by decide +kernel, rfl⟩
theorem dc_L_law_15 : Dc miL_law 15 (.ireturn) 1 16 := ⟨by decide +kernel, rfl⟩
def fL_law (N : Nat) (G : pG) (a0 : Nat) (a1 : Nat) (σ : pS) : Option (Int32 × pS) := (fX11_law N G a0 σ).bind (fun q1 => q1.elim (fun zs2 => ck (inB (0 : Int32) (pN G a1)) (some ((0 : Int32), sJ zs2.2 a1 (0 : Int32) zs2.1.toInt64))) (fun e => if e.1 = "java/lang/IllegalArgumentException" then (some ((1 : Int32), e.2)) else (none)))
set_option maxRecDepth 100000 in
set_option maxHeartbeats 4000000 in
theorem tL_law {N : Nat} {G : pG} {SK : Nat → Nat} {a0 : Nat} {a1 : Nat} {σ : pS} {r : Int32 × pS} (hW : WT G) (i0 : Is G a0 10) (i1 : Is G a1 14) (h : fL_law N G a0 a1 σ = some r) : DxH miL_law yL_law 15 1 6 G SK [.ref a0, .ref a1] σ (.inl (some (.int r.1), r.2)) := by
  unfold fL_law at h
  refine dxh_of (lv := [some (.ref a0), some (.ref a1), none]) (by decide) rfl (Nat.le_of_ble_eq_true rfl) rfl ?_
  refine ev_aload_n dc_L_law_0 rfl ?_
  refine ev_iconst (v := 0) dc_L_law_1 (by decide) ?_
  refine ev_aload_n dc_L_law_2 rfl ?_
  obtain ⟨q1, hq1, h⟩ := Option.bind_eq_some_iff.mp h
  refine ev_callC (av := []) (st := [.int (0 : Int32), .ref a1]) dc_L_law_3 (tX11_law hW i0 hq1) mw_941 cy_X11_law i0 (by decide) rfl rfl rfl (Nat.le_of_ble_eq_true rfl) (Nat.le_of_ble_eq_true rfl) ⟨Nat.le_of_ble_eq_true rfl, Nat.le_of_ble_eq_true rfl⟩ ?_ ?_
  · intro e he
    rcases q1 with zs2 | zs2
    · have he : (Sum.inl (some (.int zs2.1), zs2.2) : XO) = .inr e := he
      cases he
    · have he : (Sum.inr zs2 : XO) = .inr e := he
      have he := Sum.inr.inj he
      subst he
      dsimp only [Sum.elim] at h
      by_cases e0 : zs2.1 = "java/lang/IllegalArgumentException"
      · rw [if_pos e0] at h
        refine ⟨[], (0, 8, 11, 13), _, "java/lang/IllegalArgumentException", rfl, ?_, rfl, by decide, mw_677, ?_, fun ax => ?_⟩
        · intro w hw
          cases hw
        · rw [e0]
          exact List.mem_of_getElem? (i := 0) rfl
        · refine ev_astore_n (lv' := [some (.ref a0), some (.ref a1), some (.ref ax)]) dc_L_law_11 rfl (by decide) rfl ?_
          refine ev_iconst (v := 1) dc_L_law_12 (by decide) ?_
          cases h
          exact ev_iretX dc_L_law_13 rfl ⟨Nat.le_of_ble_eq_true rfl, Nat.le_of_ble_eq_true rfl⟩ rfl rfl
      rw [if_neg e0] at h
      cases h
  intro e he
  rcases q1 with zs2 | zs2
  rotate_left
  · have he : (Sum.inr zs2 : XO) = .inl e := he
    cases he
  have he : (Sum.inl (some (.int zs2.1), zs2.2) : XO) = .inl e := he
  cases he
  dsimp only [Sum.elim] at h
  show Ev miL_law (15, 1, 6) G (Zx G (.inl (some (.int r.1), r.2)) 1 6) SK (1, 6) 6 [some (.ref a0), some (.ref a1), none] [.int zs2.1, .int (0 : Int32), .ref a1] zs2.2
  refine ev_i2l dc_L_law_6 ?_
  refine ev_last dc_L_law_7 i1 h (fun h => ?_)
  refine ev_goto (tgt := 14) dc_L_law_8 (by decide) ?_
  refine ev_iconst (v := 0) dc_L_law_14 (by decide) ?_
  cases h
  exact ev_iretX dc_L_law_15 rfl ⟨Nat.le_of_ble_eq_true rfl, Nat.le_of_ble_eq_true rfl⟩ rfl rfl
theorem dc_L_name_0 : Dc miL_name 0 (.aload_n 3) 1 1 := ⟨by decide +kernel, rfl⟩
theorem dc_L_name_1 : Dc miL_name 1 (.iconst 0) 1 2 := ⟨by decide +kernel, rfl⟩
theorem dc_L_name_2 : Dc miL_name 2 (.aload_n 0) 1 3 := ⟨by decide +kernel, rfl⟩
theorem dc_L_name_3 : Dc miL_name 3 (.iload_n 1) 1 4 := ⟨by decide +kernel, rfl⟩
theorem dc_L_name_4 : Dc miL_name 4 (.iload_n 2) 1 5 := ⟨by decide +kernel, rfl⟩
theorem dc_L_name_5 : Dc miL_name 5 (.invokevirtual 20) 3 8 := ⟨by decide +kernel, rfl⟩
theorem dc_L_name_8 : Dc miL_name 8 (.i2l) 1 9 := ⟨by decide +kernel, rfl⟩
theorem dc_L_name_9 : Dc miL_name 9 (.lastore) 1 10 := ⟨by decide +kernel, rfl⟩
theorem dc_L_name_10 : Dc miL_name 10 (.goto 11) 3 13 := ⟨by decide +kernel, rfl⟩
theorem dc_L_name_13 : Dc miL_name 13 (.astore 4) 2 15 := ⟨by decide +kernel, rfl⟩
theorem dc_L_name_15 : Dc miL_name 15 (.iconst 1) 1 16 := ⟨by decide +kernel, rfl⟩
theorem dc_L_name_16 : Dc miL_name 16 (.ireturn) 1 17 := ⟨by decide +kernel, rfl⟩
theorem dc_L_name_17 : Dc miL_name 17 (.astore 4) 2 19 := ⟨by decide +kernel, rfl⟩
theorem dc_L_name_19 : Dc miL_name 19 (.iconst 2) 1 20 := ⟨by decide +kernel, rfl⟩
theorem dc_L_name_20 : Dc miL_name 20 (.ireturn) 1 21 := ⟨by decide +kernel, rfl⟩
theorem dc_L_name_21 : Dc miL_name 21 (.iconst 0) 1 22 := ⟨by decide +kernel, rfl⟩
theorem dc_L_name_22 : Dc miL_name 22 (.ireturn) 1 23 := ⟨by decide +kernel, rfl⟩
def fL_name (N : Nat) (G : pG) (a0 : Nat) (a1 : Int32) (a2 : Int32) (a3 : Nat) (σ : pS) : Option (Int32 × pS) := (fX11_name N G a0 a1 a2 σ).bind (fun q1 => q1.elim (fun zs2 => ck (inB (0 : Int32) (pN G a3)) (some ((0 : Int32), sJ zs2.2 a3 (0 : Int32) zs2.1.toInt64))) (fun e => if e.1 = "java/lang/IndexOutOfBoundsException" then (some ((1 : Int32), e.2)) else (if e.1 = "java/util/NoSuchElementException" then (some ((2 : Int32), e.2)) else (none))))
set_option maxRecDepth 100000 in
set_option maxHeartbeats 4000000 in
theorem tL_name {N : Nat} {G : pG} {SK : Nat → Nat} {a0 : Nat} {a1 : Int32} {a2 : Int32} {a3 : Nat} {σ : pS} {r : Int32 × pS} (hW : WT G) (i0 : Is G a0 10) (i3 : Is G a3 14) (h : fL_name N G a0 a1 a2 a3 σ = some r) : DxH miL_name yL_name 9 2 12 G SK [.ref a0, .int a1, .int a2, .ref a3] σ (.inl (some (.int r.1), r.2)) := by
  unfold fL_name at h
  refine dxh_of (lv := [some (.ref a0), some (.int a1), some (.int a2), some (.ref a3), none]) (by decide) rfl (Nat.le_of_ble_eq_true rfl) rfl ?_
  refine ev_aload_n dc_L_name_0 rfl ?_
  refine ev_iconst (v := 0) dc_L_name_1 (by decide) ?_
  refine ev_aload_n dc_L_name_2 rfl ?_
  refine ev_iload_n dc_L_name_3 rfl ?_
  refine ev_iload_n dc_L_name_4 rfl ?_
  obtain ⟨q1, hq1, h⟩ := Option.bind_eq_some_iff.mp h
  refine ev_callC (av := [.int a1, .int a2]) (st := [.int (0 : Int32), .ref a3]) dc_L_name_5 (tX11_name hW i0 hq1) mw_1035 cy_X11_name i0 (by decide) rfl rfl rfl (Nat.le_of_ble_eq_true rfl) (Nat.le_of_ble_eq_true rfl) ⟨Nat.le_of_ble_eq_true rfl, Nat.le_of_ble_eq_true rfl⟩ ?_ ?_
  · intro e he
    rcases q1 with zs2 | zs2
    · have he : (Sum.inl (some (.int zs2.1), zs2.2) : XO) = .inr e := he
      cases he
    · have he : (Sum.inr zs2 : XO) = .inr e := he
      have he := Sum.inr.inj he
      subst he
      dsimp only [Sum.elim] at h
      by_cases e0 : zs2.1 = "java/lang/IndexOutOfBoundsException"
      · rw [if_pos e0] at h
        refine ⟨[], (0, 10, 13, 24), _, "java/lang/IndexOutOfBoundsException", rfl, ?_, rfl, by decide, mw_1033, ?_, fun ax => ?_⟩
        · intro w hw
          cases hw
        · rw [e0]
          exact List.mem_of_getElem? (i := 2) rfl
        · refine ev_astore (lv' := [some (.ref a0), some (.int a1), some (.int a2), some (.ref a3), some (.ref ax)]) dc_L_name_13 rfl (by decide) rfl ?_
          refine ev_iconst (v := 1) dc_L_name_15 (by decide) ?_
          cases h
          exact ev_iretX dc_L_name_16 rfl ⟨Nat.le_of_ble_eq_true rfl, Nat.le_of_ble_eq_true rfl⟩ rfl rfl
      rw [if_neg e0] at h
      by_cases e1 : zs2.1 = "java/util/NoSuchElementException"
      · rw [if_pos e1] at h
        refine ⟨[(0, 10, 13, 24)], (0, 10, 17, 26), _, "java/util/NoSuchElementException", rfl, ?_, rfl, by decide, mw_1034, ?_, fun ax => ?_⟩
        · intro w hw
          rcases List.mem_singleton.mp hw with rfl
          exact ⟨by decide, "java/lang/IndexOutOfBoundsException", mw_1033, by rw [e1]; exact List.mem_of_getElem? (i := 18) rfl⟩
        · rw [e1]
          exact List.mem_of_getElem? (i := 3) rfl
        · refine ev_astore (lv' := [some (.ref a0), some (.int a1), some (.int a2), some (.ref a3), some (.ref ax)]) dc_L_name_17 rfl (by decide) rfl ?_
          refine ev_iconst (v := 2) dc_L_name_19 (by decide) ?_
          cases h
          exact ev_iretX dc_L_name_20 rfl ⟨Nat.le_of_ble_eq_true rfl, Nat.le_of_ble_eq_true rfl⟩ rfl rfl
      rw [if_neg e1] at h
      cases h
  intro e he
  rcases q1 with zs2 | zs2
  rotate_left
  · have he : (Sum.inr zs2 : XO) = .inl e := he
    cases he
  have he : (Sum.inl (some (.int zs2.1), zs2.2) : XO) = .inl e := he
  cases he
  dsimp only [Sum.elim] at h
  show Ev miL_name (9, 2, 12) G (Zx G (.inl (some (.int r.1), r.2)) 2 12) SK (2, 12) 8 [some (.ref a0), some (.int a1), some (.int a2), some (.ref a3), none] [.int zs2.1, .int (0 : Int32), .ref a3] zs2.2
  refine ev_i2l dc_L_name_8 ?_
  refine ev_last dc_L_name_9 i3 h (fun h => ?_)
  refine ev_goto (tgt := 21) dc_L_name_10 (by decide) ?_
  refine ev_iconst (v := 0) dc_L_name_21 (by decide) ?_
  cases h
  exact ev_iretX dc_L_name_22 rfl ⟨Nat.le_of_ble_eq_true rfl, Nat.le_of_ble_eq_true rfl⟩ rfl rfl
theorem dc_L_court_0 : Dc miL_court 0 (.aload_n 3) 1 1 := ⟨by decide +kernel, rfl⟩
theorem dc_L_court_1 : Dc miL_court 1 (.iconst 0) 1 2 := ⟨by decide +kernel, rfl⟩
theorem dc_L_court_2 : Dc miL_court 2 (.aload_n 0) 1 3 := ⟨by decide +kernel, rfl⟩
theorem dc_L_court_3 : Dc miL_court 3 (.iload_n 1) 1 4 := ⟨by decide +kernel, rfl⟩
theorem dc_L_court_4 : Dc miL_court 4 (.iload_n 2) 1 5 := ⟨by decide +kernel, rfl⟩
theorem dc_L_court_5 : Dc miL_court 5 (.invokevirtual 28) 3 8 := ⟨by decide +kernel, rfl⟩
theorem dc_L_court_8 : Dc miL_court 8 (.i2l) 1 9 := ⟨by decide +kernel, rfl⟩
theorem dc_L_court_9 : Dc miL_court 9 (.lastore) 1 10 := ⟨by decide +kernel, rfl⟩
theorem dc_L_court_10 : Dc miL_court 10 (.goto 11) 3 13 := ⟨by decide +kernel, rfl⟩
theorem dc_L_court_13 : Dc miL_court 13 (.astore 4) 2 15 := ⟨by decide +kernel, rfl⟩
theorem dc_L_court_15 : Dc miL_court 15 (.iconst 1) 1 16 := ⟨by decide +kernel, rfl⟩
theorem dc_L_court_16 : Dc miL_court 16 (.ireturn) 1 17 := ⟨by decide +kernel, rfl⟩
theorem dc_L_court_17 : Dc miL_court 17 (.astore 4) 2 19 := ⟨by decide +kernel, rfl⟩
theorem dc_L_court_19 : Dc miL_court 19 (.iconst 2) 1 20 := ⟨by decide +kernel, rfl⟩
theorem dc_L_court_20 : Dc miL_court 20 (.ireturn) 1 21 := ⟨by decide +kernel, rfl⟩
theorem dc_L_court_21 : Dc miL_court 21 (.iconst 0) 1 22 := ⟨by decide +kernel, rfl⟩
theorem dc_L_court_22 : Dc miL_court 22 (.ireturn) 1 23 := ⟨by decide +kernel, rfl⟩
def fL_court (N : Nat) (G : pG) (a0 : Nat) (a1 : Int32) (a2 : Int32) (a3 : Nat) (σ : pS) : Option (Int32 × pS) := (fX11_court N G a0 a1 a2 σ).bind (fun q1 => q1.elim (fun zs2 => ck (inB (0 : Int32) (pN G a3)) (some ((0 : Int32), sJ zs2.2 a3 (0 : Int32) zs2.1.toInt64))) (fun e => if e.1 = "java/lang/IndexOutOfBoundsException" then (some ((1 : Int32), e.2)) else (if e.1 = "java/util/NoSuchElementException" then (some ((2 : Int32), e.2)) else (none))))
set_option maxRecDepth 100000 in
set_option maxHeartbeats 4000000 in
theorem tL_court {N : Nat} {G : pG} {SK : Nat → Nat} {a0 : Nat} {a1 : Int32} {a2 : Int32} {a3 : Nat} {σ : pS} {r : Int32 × pS} (hW : WT G) (i0 : Is G a0 10) (i3 : Is G a3 14) (h : fL_court N G a0 a1 a2 a3 σ = some r) : DxH miL_court yL_court 9 2 12 G SK [.ref a0, .int a1, .int a2, .ref a3] σ (.inl (some (.int r.1), r.2)) := by
  unfold fL_court at h
  refine dxh_of (lv := [some (.ref a0), some (.int a1), some (.int a2), some (.ref a3), none]) (by decide) rfl (Nat.le_of_ble_eq_true rfl) rfl ?_
  refine ev_aload_n dc_L_court_0 rfl ?_
  refine ev_iconst (v := 0) dc_L_court_1 (by decide) ?_
  refine ev_aload_n dc_L_court_2 rfl ?_
  refine ev_iload_n dc_L_court_3 rfl ?_
  refine ev_iload_n dc_L_court_4 rfl ?_
  obtain ⟨q1, hq1, h⟩ := Option.bind_eq_some_iff.mp h
  refine ev_callC (av := [.int a1, .int a2]) (st := [.int (0 : Int32), .ref a3]) dc_L_court_5 (tX11_court hW i0 hq1) mw_1086 cy_X11_court i0 (by decide) rfl rfl rfl (Nat.le_of_ble_eq_true rfl) (Nat.le_of_ble_eq_true rfl) ⟨Nat.le_of_ble_eq_true rfl, Nat.le_of_ble_eq_true rfl⟩ ?_ ?_
  · intro e he
    rcases q1 with zs2 | zs2
    · have he : (Sum.inl (some (.int zs2.1), zs2.2) : XO) = .inr e := he
      cases he
    · have he : (Sum.inr zs2 : XO) = .inr e := he
      have he := Sum.inr.inj he
      subst he
      dsimp only [Sum.elim] at h
      by_cases e0 : zs2.1 = "java/lang/IndexOutOfBoundsException"
      · rw [if_pos e0] at h
        refine ⟨[], (0, 10, 13, 24), _, "java/lang/IndexOutOfBoundsException", rfl, ?_, rfl, by decide, mw_1033, ?_, fun ax => ?_⟩
        · intro w hw
          cases hw
        · rw [e0]
          exact List.mem_of_getElem? (i := 2) rfl
        · refine ev_astore (lv' := [some (.ref a0), some (.int a1), some (.int a2), some (.ref a3), some (.ref ax)]) dc_L_court_13 rfl (by decide) rfl ?_
          refine ev_iconst (v := 1) dc_L_court_15 (by decide) ?_
          cases h
          exact ev_iretX dc_L_court_16 rfl ⟨Nat.le_of_ble_eq_true rfl, Nat.le_of_ble_eq_true rfl⟩ rfl rfl
      rw [if_neg e0] at h
      by_cases e1 : zs2.1 = "java/util/NoSuchElementException"
      · rw [if_pos e1] at h
        refine ⟨[(0, 10, 13, 24)], (0, 10, 17, 26), _, "java/util/NoSuchElementException", rfl, ?_, rfl, by decide, mw_1034, ?_, fun ax => ?_⟩
        · intro w hw
          rcases List.mem_singleton.mp hw with rfl
          exact ⟨by decide, "java/lang/IndexOutOfBoundsException", mw_1033, by rw [e1]; exact List.mem_of_getElem? (i := 18) rfl⟩
        · rw [e1]
          exact List.mem_of_getElem? (i := 3) rfl
        · refine ev_astore (lv' := [some (.ref a0), some (.int a1), some (.int a2), some (.ref a3), some (.ref ax)]) dc_L_court_17 rfl (by decide) rfl ?_
          refine ev_iconst (v := 2) dc_L_court_19 (by decide) ?_
          cases h
          exact ev_iretX dc_L_court_20 rfl ⟨Nat.le_of_ble_eq_true rfl, Nat.le_of_ble_eq_true rfl⟩ rfl rfl
      rw [if_neg e1] at h
      cases h
  intro e he
  rcases q1 with zs2 | zs2
  rotate_left
  · have he : (Sum.inr zs2 : XO) = .inl e := he
    cases he
  have he : (Sum.inl (some (.int zs2.1), zs2.2) : XO) = .inl e := he
  cases he
  dsimp only [Sum.elim] at h
  show Ev miL_court (9, 2, 12) G (Zx G (.inl (some (.int r.1), r.2)) 2 12) SK (2, 12) 8 [some (.ref a0), some (.int a1), some (.int a2), some (.ref a3), none] [.int zs2.1, .int (0 : Int32), .ref a3] zs2.2
  refine ev_i2l dc_L_court_8 ?_
  refine ev_last dc_L_court_9 i3 h (fun h => ?_)
  refine ev_goto (tgt := 21) dc_L_court_10 (by decide) ?_
  refine ev_iconst (v := 0) dc_L_court_21 (by decide) ?_
  cases h
  exact ev_iretX dc_L_court_22 rfl ⟨Nat.le_of_ble_eq_true rfl, Nat.le_of_ble_eq_true rfl⟩ rfl rfl
theorem dc_L_word_0 : Dc miL_word 0 (.aload_n 3) 1 1 := ⟨by decide +kernel, rfl⟩
theorem dc_L_word_1 : Dc miL_word 1 (.iconst 0) 1 2 := ⟨by decide +kernel, rfl⟩
theorem dc_L_word_2 : Dc miL_word 2 (.aload_n 0) 1 3 := ⟨by decide +kernel, rfl⟩
theorem dc_L_word_3 : Dc miL_word 3 (.iload_n 1) 1 4 := ⟨by decide +kernel, rfl⟩
theorem dc_L_word_4 : Dc miL_word 4 (.iload_n 2) 1 5 := ⟨by decide +kernel, rfl⟩
theorem dc_L_word_5 : Dc miL_word 5 (.invokevirtual 31) 3 8 := ⟨by decide +kernel, rfl⟩
theorem dc_L_word_8 : Dc miL_word 8 (.i2l) 1 9 := ⟨by decide +kernel, rfl⟩
theorem dc_L_word_9 : Dc miL_word 9 (.lastore) 1 10 := ⟨by decide +kernel, rfl⟩
theorem dc_L_word_10 : Dc miL_word 10 (.goto 7) 3 13 := ⟨by decide +kernel, rfl⟩
theorem dc_L_word_13 : Dc miL_word 13 (.astore 4) 2 15 := ⟨by decide +kernel, rfl⟩
theorem dc_L_word_15 : Dc miL_word 15 (.iconst 1) 1 16 := ⟨by decide +kernel, rfl⟩
theorem dc_L_word_16 : Dc miL_word 16 (.ireturn) 1 17 := ⟨by decide +kernel, rfl⟩
theorem dc_L_word_17 : Dc miL_word 17 (.iconst 0) 1 18 := ⟨by decide +kernel, rfl⟩
theorem dc_L_word_18 : Dc miL_word 18 (.ireturn) 1 19 := ⟨by decide +kernel, rfl⟩
def fL_word (N : Nat) (G : pG) (a0 : Nat) (a1 : Int32) (a2 : Int32) (a3 : Nat) (σ : pS) : Option (Int32 × pS) := (fX11_word N G a0 a1 a2 σ).bind (fun q1 => q1.elim (fun zs2 => ck (inB (0 : Int32) (pN G a3)) (some ((0 : Int32), sJ zs2.2 a3 (0 : Int32) zs2.1.toInt64))) (fun e => if e.1 = "java/lang/IndexOutOfBoundsException" then (some ((1 : Int32), e.2)) else (none)))
set_option maxRecDepth 100000 in
set_option maxHeartbeats 4000000 in
theorem tL_word {N : Nat} {G : pG} {SK : Nat → Nat} {a0 : Nat} {a1 : Int32} {a2 : Int32} {a3 : Nat} {σ : pS} {r : Int32 × pS} (hW : WT G) (i0 : Is G a0 10) (i3 : Is G a3 14) (h : fL_word N G a0 a1 a2 a3 σ = some r) : DxH miL_word yL_word 9 1 6 G SK [.ref a0, .int a1, .int a2, .ref a3] σ (.inl (some (.int r.1), r.2)) := by
  unfold fL_word at h
  refine dxh_of (lv := [some (.ref a0), some (.int a1), some (.int a2), some (.ref a3), none]) (by decide) rfl (Nat.le_of_ble_eq_true rfl) rfl ?_
  refine ev_aload_n dc_L_word_0 rfl ?_
  refine ev_iconst (v := 0) dc_L_word_1 (by decide) ?_
  refine ev_aload_n dc_L_word_2 rfl ?_
  refine ev_iload_n dc_L_word_3 rfl ?_
  refine ev_iload_n dc_L_word_4 rfl ?_
  obtain ⟨q1, hq1, h⟩ := Option.bind_eq_some_iff.mp h
  refine ev_callC (av := [.int a1, .int a2]) (st := [.int (0 : Int32), .ref a3]) dc_L_word_5 (tX11_word hW i0 hq1) mw_1099 cy_X11_word i0 (by decide) rfl rfl rfl (Nat.le_of_ble_eq_true rfl) (Nat.le_of_ble_eq_true rfl) ⟨Nat.le_of_ble_eq_true rfl, Nat.le_of_ble_eq_true rfl⟩ ?_ ?_
  · intro e he
    rcases q1 with zs2 | zs2
    · have he : (Sum.inl (some (.int zs2.1), zs2.2) : XO) = .inr e := he
      cases he
    · have he : (Sum.inr zs2 : XO) = .inr e := he
      have he := Sum.inr.inj he
      subst he
      dsimp only [Sum.elim] at h
      by_cases e0 : zs2.1 = "java/lang/IndexOutOfBoundsException"
      · rw [if_pos e0] at h
        refine ⟨[], (0, 10, 13, 24), _, "java/lang/IndexOutOfBoundsException", rfl, ?_, rfl, by decide, mw_1033, ?_, fun ax => ?_⟩
        · intro w hw
          cases hw
        · rw [e0]
          exact List.mem_of_getElem? (i := 2) rfl
        · refine ev_astore (lv' := [some (.ref a0), some (.int a1), some (.int a2), some (.ref a3), some (.ref ax)]) dc_L_word_13 rfl (by decide) rfl ?_
          refine ev_iconst (v := 1) dc_L_word_15 (by decide) ?_
          cases h
          exact ev_iretX dc_L_word_16 rfl ⟨Nat.le_of_ble_eq_true rfl, Nat.le_of_ble_eq_true rfl⟩ rfl rfl
      rw [if_neg e0] at h
      cases h
  intro e he
  rcases q1 with zs2 | zs2
  rotate_left
  · have he : (Sum.inr zs2 : XO) = .inl e := he
    cases he
  have he : (Sum.inl (some (.int zs2.1), zs2.2) : XO) = .inl e := he
  cases he
  dsimp only [Sum.elim] at h
  show Ev miL_word (9, 1, 6) G (Zx G (.inl (some (.int r.1), r.2)) 1 6) SK (1, 6) 8 [some (.ref a0), some (.int a1), some (.int a2), some (.ref a3), none] [.int zs2.1, .int (0 : Int32), .ref a3] zs2.2
  refine ev_i2l dc_L_word_8 ?_
  refine ev_last dc_L_word_9 i3 h (fun h => ?_)
  refine ev_goto (tgt := 17) dc_L_word_10 (by decide) ?_
  refine ev_iconst (v := 0) dc_L_word_17 (by decide) ?_
  cases h
  exact ev_iretX dc_L_word_18 rfl ⟨Nat.le_of_ble_eq_true rfl, Nat.le_of_ble_eq_true rfl⟩ rfl rfl
theorem dc_L_deed_0 : Dc miL_deed 0 (.aload_n 3) 1 1 := ⟨by decide +kernel, rfl⟩
theorem dc_L_deed_1 : Dc miL_deed 1 (.iconst 0) 1 2 := ⟨by decide +kernel, rfl⟩
theorem dc_L_deed_2 : Dc miL_deed 2 (.aload_n 0) 1 3 := ⟨by decide +kernel, rfl⟩
theorem dc_L_deed_3 : Dc miL_deed 3 (.iload_n 1) 1 4 := ⟨by decide +kernel, rfl⟩
theorem dc_L_deed_4 : Dc miL_deed 4 (.iload_n 2) 1 5 := ⟨by decide +kernel, rfl⟩
theorem dc_L_deed_5 : Dc miL_deed 5 (.invokevirtual 35) 3 8 := ⟨by decide +kernel, rfl⟩
theorem dc_L_deed_8 : Dc miL_deed 8 (.i2l) 1 9 := ⟨by decide +kernel, rfl⟩
theorem dc_L_deed_9 : Dc miL_deed 9 (.lastore) 1 10 := ⟨by decide +kernel, rfl⟩
theorem dc_L_deed_10 : Dc miL_deed 10 (.goto 11) 3 13 := ⟨by decide +kernel, rfl⟩
theorem dc_L_deed_13 : Dc miL_deed 13 (.astore 4) 2 15 := ⟨by decide +kernel, rfl⟩
theorem dc_L_deed_15 : Dc miL_deed 15 (.iconst 1) 1 16 := ⟨by decide +kernel, rfl⟩
theorem dc_L_deed_16 : Dc miL_deed 16 (.ireturn) 1 17 := ⟨by decide +kernel, rfl⟩
theorem dc_L_deed_17 : Dc miL_deed 17 (.astore 4) 2 19 := ⟨by decide +kernel, rfl⟩
theorem dc_L_deed_19 : Dc miL_deed 19 (.iconst 2) 1 20 := ⟨by decide +kernel, rfl⟩
theorem dc_L_deed_20 : Dc miL_deed 20 (.ireturn) 1 21 := ⟨by decide +kernel, rfl⟩
theorem dc_L_deed_21 : Dc miL_deed 21 (.iconst 0) 1 22 := ⟨by decide +kernel, rfl⟩
theorem dc_L_deed_22 : Dc miL_deed 22 (.ireturn) 1 23 := ⟨by decide +kernel, rfl⟩
def fL_deed (N : Nat) (G : pG) (a0 : Nat) (a1 : Int32) (a2 : Int32) (a3 : Nat) (σ : pS) : Option (Int32 × pS) := (fX11_deed N G a0 a1 a2 σ).bind (fun q1 => q1.elim (fun zs2 => ck (inB (0 : Int32) (pN G a3)) (some ((0 : Int32), sJ zs2.2 a3 (0 : Int32) zs2.1.toInt64))) (fun e => if e.1 = "java/lang/IndexOutOfBoundsException" then (some ((1 : Int32), e.2)) else (if e.1 = "java/util/NoSuchElementException" then (some ((2 : Int32), e.2)) else (none))))
set_option maxRecDepth 100000 in
set_option maxHeartbeats 4000000 in
theorem tL_deed {N : Nat} {G : pG} {SK : Nat → Nat} {a0 : Nat} {a1 : Int32} {a2 : Int32} {a3 : Nat} {σ : pS} {r : Int32 × pS} (hW : WT G) (i0 : Is G a0 10) (i3 : Is G a3 14) (h : fL_deed N G a0 a1 a2 a3 σ = some r) : DxH miL_deed yL_deed 9 2 12 G SK [.ref a0, .int a1, .int a2, .ref a3] σ (.inl (some (.int r.1), r.2)) := by
  unfold fL_deed at h
  refine dxh_of (lv := [some (.ref a0), some (.int a1), some (.int a2), some (.ref a3), none]) (by decide) rfl (Nat.le_of_ble_eq_true rfl) rfl ?_
  refine ev_aload_n dc_L_deed_0 rfl ?_
  refine ev_iconst (v := 0) dc_L_deed_1 (by decide) ?_
  refine ev_aload_n dc_L_deed_2 rfl ?_
  refine ev_iload_n dc_L_deed_3 rfl ?_
  refine ev_iload_n dc_L_deed_4 rfl ?_
  obtain ⟨q1, hq1, h⟩ := Option.bind_eq_some_iff.mp h
  refine ev_callC (av := [.int a1, .int a2]) (st := [.int (0 : Int32), .ref a3]) dc_L_deed_5 (tX11_deed hW i0 hq1) mw_1111 cy_X11_deed i0 (by decide) rfl rfl rfl (Nat.le_of_ble_eq_true rfl) (Nat.le_of_ble_eq_true rfl) ⟨Nat.le_of_ble_eq_true rfl, Nat.le_of_ble_eq_true rfl⟩ ?_ ?_
  · intro e he
    rcases q1 with zs2 | zs2
    · have he : (Sum.inl (some (.int zs2.1), zs2.2) : XO) = .inr e := he
      cases he
    · have he : (Sum.inr zs2 : XO) = .inr e := he
      have he := Sum.inr.inj he
      subst he
      dsimp only [Sum.elim] at h
      by_cases e0 : zs2.1 = "java/lang/IndexOutOfBoundsException"
      · rw [if_pos e0] at h
        refine ⟨[], (0, 10, 13, 24), _, "java/lang/IndexOutOfBoundsException", rfl, ?_, rfl, by decide, mw_1033, ?_, fun ax => ?_⟩
        · intro w hw
          cases hw
        · rw [e0]
          exact List.mem_of_getElem? (i := 2) rfl
        · refine ev_astore (lv' := [some (.ref a0), some (.int a1), some (.int a2), some (.ref a3), some (.ref ax)]) dc_L_deed_13 rfl (by decide) rfl ?_
          refine ev_iconst (v := 1) dc_L_deed_15 (by decide) ?_
          cases h
          exact ev_iretX dc_L_deed_16 rfl ⟨Nat.le_of_ble_eq_true rfl, Nat.le_of_ble_eq_true rfl⟩ rfl rfl
      rw [if_neg e0] at h
      by_cases e1 : zs2.1 = "java/util/NoSuchElementException"
      · rw [if_pos e1] at h
        refine ⟨[(0, 10, 13, 24)], (0, 10, 17, 26), _, "java/util/NoSuchElementException", rfl, ?_, rfl, by decide, mw_1034, ?_, fun ax => ?_⟩
        · intro w hw
          rcases List.mem_singleton.mp hw with rfl
          exact ⟨by decide, "java/lang/IndexOutOfBoundsException", mw_1033, by rw [e1]; exact List.mem_of_getElem? (i := 18) rfl⟩
        · rw [e1]
          exact List.mem_of_getElem? (i := 3) rfl
        · refine ev_astore (lv' := [some (.ref a0), some (.int a1), some (.int a2), some (.ref a3), some (.ref ax)]) dc_L_deed_17 rfl (by decide) rfl ?_
          refine ev_iconst (v := 2) dc_L_deed_19 (by decide) ?_
          cases h
          exact ev_iretX dc_L_deed_20 rfl ⟨Nat.le_of_ble_eq_true rfl, Nat.le_of_ble_eq_true rfl⟩ rfl rfl
      rw [if_neg e1] at h
      cases h
  intro e he
  rcases q1 with zs2 | zs2
  rotate_left
  · have he : (Sum.inr zs2 : XO) = .inl e := he
    cases he
  have he : (Sum.inl (some (.int zs2.1), zs2.2) : XO) = .inl e := he
  cases he
  dsimp only [Sum.elim] at h
  show Ev miL_deed (9, 2, 12) G (Zx G (.inl (some (.int r.1), r.2)) 2 12) SK (2, 12) 8 [some (.ref a0), some (.int a1), some (.int a2), some (.ref a3), none] [.int zs2.1, .int (0 : Int32), .ref a3] zs2.2
  refine ev_i2l dc_L_deed_8 ?_
  refine ev_last dc_L_deed_9 i3 h (fun h => ?_)
  refine ev_goto (tgt := 21) dc_L_deed_10 (by decide) ?_
  refine ev_iconst (v := 0) dc_L_deed_21 (by decide) ?_
  cases h
  exact ev_iretX dc_L_deed_22 rfl ⟨Nat.le_of_ble_eq_true rfl, Nat.le_of_ble_eq_true rfl⟩ rfl rfl
theorem dc_L_stings_0 : Dc miL_stings 0 (.aload_n 3) 1 1 := ⟨by decide +kernel, rfl⟩
theorem dc_L_stings_1 : Dc miL_stings 1 (.iconst 0) 1 2 := ⟨by decide +kernel, rfl⟩
theorem dc_L_stings_2 : Dc miL_stings 2 (.aload_n 0) 1 3 := ⟨by decide +kernel, rfl⟩
theorem dc_L_stings_3 : Dc miL_stings 3 (.iload_n 1) 1 4 := ⟨by decide +kernel, rfl⟩
theorem dc_L_stings_4 : Dc miL_stings 4 (.iload_n 2) 1 5 := ⟨by decide +kernel, rfl⟩
theorem dc_L_stings_5 : Dc miL_stings 5 (.invokevirtual 38) 3 8 := ⟨by decide +kernel, rfl⟩
theorem dc_L_stings_8 : Dc miL_stings 8 (.i2l) 1 9 := ⟨by decide +kernel, rfl⟩
theorem dc_L_stings_9 : Dc miL_stings 9 (.lastore) 1 10 := ⟨by decide +kernel, rfl⟩
theorem dc_L_stings_10 : Dc miL_stings 10 (.goto 7) 3 13 := ⟨by decide +kernel, rfl⟩
theorem dc_L_stings_13 : Dc miL_stings 13 (.astore 4) 2 15 := ⟨by decide +kernel, rfl⟩
theorem dc_L_stings_15 : Dc miL_stings 15 (.iconst 1) 1 16 := ⟨by decide +kernel, rfl⟩
theorem dc_L_stings_16 : Dc miL_stings 16 (.ireturn) 1 17 := ⟨by decide +kernel, rfl⟩
theorem dc_L_stings_17 : Dc miL_stings 17 (.iconst 0) 1 18 := ⟨by decide +kernel, rfl⟩
theorem dc_L_stings_18 : Dc miL_stings 18 (.ireturn) 1 19 := ⟨by decide +kernel, rfl⟩
def fL_stings (N : Nat) (G : pG) (a0 : Nat) (a1 : Int32) (a2 : Int32) (a3 : Nat) (σ : pS) : Option (Int32 × pS) := (fX11_stings N G a0 a1 a2 σ).bind (fun q1 => q1.elim (fun zs2 => ck (inB (0 : Int32) (pN G a3)) (some ((0 : Int32), sJ zs2.2 a3 (0 : Int32) zs2.1.toInt64))) (fun e => if e.1 = "java/lang/IndexOutOfBoundsException" then (some ((1 : Int32), e.2)) else (none)))
set_option maxRecDepth 100000 in
set_option maxHeartbeats 4000000 in
theorem tL_stings {N : Nat} {G : pG} {SK : Nat → Nat} {a0 : Nat} {a1 : Int32} {a2 : Int32} {a3 : Nat} {σ : pS} {r : Int32 × pS} (hW : WT G) (i0 : Is G a0 10) (i3 : Is G a3 14) (h : fL_stings N G a0 a1 a2 a3 σ = some r) : DxH miL_stings yL_stings 9 2 12 G SK [.ref a0, .int a1, .int a2, .ref a3] σ (.inl (some (.int r.1), r.2)) := by
  unfold fL_stings at h
  refine dxh_of (lv := [some (.ref a0), some (.int a1), some (.int a2), some (.ref a3), none]) (by decide) rfl (Nat.le_of_ble_eq_true rfl) rfl ?_
  refine ev_aload_n dc_L_stings_0 rfl ?_
  refine ev_iconst (v := 0) dc_L_stings_1 (by decide) ?_
  refine ev_aload_n dc_L_stings_2 rfl ?_
  refine ev_iload_n dc_L_stings_3 rfl ?_
  refine ev_iload_n dc_L_stings_4 rfl ?_
  obtain ⟨q1, hq1, h⟩ := Option.bind_eq_some_iff.mp h
  refine ev_callC (av := [.int a1, .int a2]) (st := [.int (0 : Int32), .ref a3]) dc_L_stings_5 (tX11_stings hW i0 hq1) mw_1128 cy_X11_stings i0 (by decide) rfl rfl rfl (Nat.le_of_ble_eq_true rfl) (Nat.le_of_ble_eq_true rfl) ⟨Nat.le_of_ble_eq_true rfl, Nat.le_of_ble_eq_true rfl⟩ ?_ ?_
  · intro e he
    rcases q1 with zs2 | zs2
    · have he : (Sum.inl (some (.int zs2.1), zs2.2) : XO) = .inr e := he
      cases he
    · have he : (Sum.inr zs2 : XO) = .inr e := he
      have he := Sum.inr.inj he
      subst he
      dsimp only [Sum.elim] at h
      by_cases e0 : zs2.1 = "java/lang/IndexOutOfBoundsException"
      · rw [if_pos e0] at h
        refine ⟨[], (0, 10, 13, 24), _, "java/lang/IndexOutOfBoundsException", rfl, ?_, rfl, by decide, mw_1033, ?_, fun ax => ?_⟩
        · intro w hw
          cases hw
        · rw [e0]
          exact List.mem_of_getElem? (i := 2) rfl
        · refine ev_astore (lv' := [some (.ref a0), some (.int a1), some (.int a2), some (.ref a3), some (.ref ax)]) dc_L_stings_13 rfl (by decide) rfl ?_
          refine ev_iconst (v := 1) dc_L_stings_15 (by decide) ?_
          cases h
          exact ev_iretX dc_L_stings_16 rfl ⟨Nat.le_of_ble_eq_true rfl, Nat.le_of_ble_eq_true rfl⟩ rfl rfl
      rw [if_neg e0] at h
      cases h
  intro e he
  rcases q1 with zs2 | zs2
  rotate_left
  · have he : (Sum.inr zs2 : XO) = .inl e := he
    cases he
  have he : (Sum.inl (some (.int zs2.1), zs2.2) : XO) = .inl e := he
  cases he
  dsimp only [Sum.elim] at h
  show Ev miL_stings (9, 2, 12) G (Zx G (.inl (some (.int r.1), r.2)) 2 12) SK (2, 12) 8 [some (.ref a0), some (.int a1), some (.int a2), some (.ref a3), none] [.int zs2.1, .int (0 : Int32), .ref a3] zs2.2
  refine ev_i2l dc_L_stings_8 ?_
  refine ev_last dc_L_stings_9 i3 h (fun h => ?_)
  refine ev_goto (tgt := 17) dc_L_stings_10 (by decide) ?_
  refine ev_iconst (v := 0) dc_L_stings_17 (by decide) ?_
  cases h
  exact ev_iretX dc_L_stings_18 rfl ⟨Nat.le_of_ble_eq_true rfl, Nat.le_of_ble_eq_true rfl⟩ rfl rfl
theorem dc_L_say_0 : Dc miL_say 0 (.aload_n 3) 1 1 := ⟨by decide +kernel, rfl⟩
theorem dc_L_say_1 : Dc miL_say 1 (.iconst 0) 1 2 := ⟨by decide +kernel, rfl⟩
theorem dc_L_say_2 : Dc miL_say 2 (.aload_n 0) 1 3 := ⟨by decide +kernel, rfl⟩
theorem dc_L_say_3 : Dc miL_say 3 (.iload_n 1) 1 4 := ⟨by decide +kernel, rfl⟩
theorem dc_L_say_4 : Dc miL_say 4 (.iload_n 2) 1 5 := ⟨by decide +kernel, rfl⟩
theorem dc_L_say_5 : Dc miL_say 5 (.invokevirtual 41) 3 8 := ⟨by decide +kernel, rfl⟩
theorem dc_L_say_8 : Dc miL_say 8 (.i2l) 1 9 := ⟨by decide +kernel, rfl⟩
theorem dc_L_say_9 : Dc miL_say 9 (.lastore) 1 10 := ⟨by decide +kernel, rfl⟩
theorem dc_L_say_10 : Dc miL_say 10 (.goto 11) 3 13 := ⟨by decide +kernel, rfl⟩
theorem dc_L_say_13 : Dc miL_say 13 (.astore 4) 2 15 := ⟨by decide +kernel, rfl⟩
theorem dc_L_say_15 : Dc miL_say 15 (.iconst 1) 1 16 := ⟨by decide +kernel, rfl⟩
theorem dc_L_say_16 : Dc miL_say 16 (.ireturn) 1 17 := ⟨by decide +kernel, rfl⟩
theorem dc_L_say_17 : Dc miL_say 17 (.astore 4) 2 19 := ⟨by decide +kernel, rfl⟩
theorem dc_L_say_19 : Dc miL_say 19 (.iconst 2) 1 20 := ⟨by decide +kernel, rfl⟩
theorem dc_L_say_20 : Dc miL_say 20 (.ireturn) 1 21 := ⟨by decide +kernel, rfl⟩
theorem dc_L_say_21 : Dc miL_say 21 (.iconst 0) 1 22 := ⟨by decide +kernel, rfl⟩
theorem dc_L_say_22 : Dc miL_say 22 (.ireturn) 1 23 := ⟨by decide +kernel, rfl⟩
def fL_say (N : Nat) (G : pG) (a0 : Nat) (a1 : Int32) (a2 : Int32) (a3 : Nat) (σ : pS) : Option (Int32 × pS) := (fX11_say N G a0 a1 a2 σ).bind (fun q1 => q1.elim (fun zs2 => ck (inB (0 : Int32) (pN G a3)) (some ((0 : Int32), sJ zs2.2 a3 (0 : Int32) zs2.1.toInt64))) (fun e => if e.1 = "java/lang/IndexOutOfBoundsException" then (some ((1 : Int32), e.2)) else (if e.1 = "java/lang/IllegalStateException" then (some ((2 : Int32), e.2)) else (none))))
set_option maxRecDepth 100000 in
set_option maxHeartbeats 4000000 in
theorem tL_say {N : Nat} {G : pG} {SK : Nat → Nat} {a0 : Nat} {a1 : Int32} {a2 : Int32} {a3 : Nat} {σ : pS} {r : Int32 × pS} (hW : WT G) (i0 : Is G a0 10) (i3 : Is G a3 14) (h : fL_say N G a0 a1 a2 a3 σ = some r) : DxH miL_say yL_say 9 3 18 G SK [.ref a0, .int a1, .int a2, .ref a3] σ (.inl (some (.int r.1), r.2)) := by
  unfold fL_say at h
  refine dxh_of (lv := [some (.ref a0), some (.int a1), some (.int a2), some (.ref a3), none]) (by decide) rfl (Nat.le_of_ble_eq_true rfl) rfl ?_
  refine ev_aload_n dc_L_say_0 rfl ?_
  refine ev_iconst (v := 0) dc_L_say_1 (by decide) ?_
  refine ev_aload_n dc_L_say_2 rfl ?_
  refine ev_iload_n dc_L_say_3 rfl ?_
  refine ev_iload_n dc_L_say_4 rfl ?_
  obtain ⟨q1, hq1, h⟩ := Option.bind_eq_some_iff.mp h
  refine ev_callC (av := [.int a1, .int a2]) (st := [.int (0 : Int32), .ref a3]) dc_L_say_5 (tX11_say hW i0 hq1) mw_1136 cy_X11_say i0 (by decide) rfl rfl rfl (Nat.le_of_ble_eq_true rfl) (Nat.le_of_ble_eq_true rfl) ⟨Nat.le_of_ble_eq_true rfl, Nat.le_of_ble_eq_true rfl⟩ ?_ ?_
  · intro e he
    rcases q1 with zs2 | zs2
    · have he : (Sum.inl (some (.int zs2.1), zs2.2) : XO) = .inr e := he
      cases he
    · have he : (Sum.inr zs2 : XO) = .inr e := he
      have he := Sum.inr.inj he
      subst he
      dsimp only [Sum.elim] at h
      by_cases e0 : zs2.1 = "java/lang/IndexOutOfBoundsException"
      · rw [if_pos e0] at h
        refine ⟨[], (0, 10, 13, 24), _, "java/lang/IndexOutOfBoundsException", rfl, ?_, rfl, by decide, mw_1033, ?_, fun ax => ?_⟩
        · intro w hw
          cases hw
        · rw [e0]
          exact List.mem_of_getElem? (i := 2) rfl
        · refine ev_astore (lv' := [some (.ref a0), some (.int a1), some (.int a2), some (.ref a3), some (.ref ax)]) dc_L_say_13 rfl (by decide) rfl ?_
          refine ev_iconst (v := 1) dc_L_say_15 (by decide) ?_
          cases h
          exact ev_iretX dc_L_say_16 rfl ⟨Nat.le_of_ble_eq_true rfl, Nat.le_of_ble_eq_true rfl⟩ rfl rfl
      rw [if_neg e0] at h
      by_cases e1 : zs2.1 = "java/lang/IllegalStateException"
      · rw [if_pos e1] at h
        refine ⟨[(0, 10, 13, 24)], (0, 10, 17, 44), _, "java/lang/IllegalStateException", rfl, ?_, rfl, by decide, mw_1135, ?_, fun ax => ?_⟩
        · intro w hw
          rcases List.mem_singleton.mp hw with rfl
          exact ⟨by decide, "java/lang/IndexOutOfBoundsException", mw_1033, by rw [e1]; exact List.mem_of_getElem? (i := 5) rfl⟩
        · rw [e1]
          exact List.mem_of_getElem? (i := 4) rfl
        · refine ev_astore (lv' := [some (.ref a0), some (.int a1), some (.int a2), some (.ref a3), some (.ref ax)]) dc_L_say_17 rfl (by decide) rfl ?_
          refine ev_iconst (v := 2) dc_L_say_19 (by decide) ?_
          cases h
          exact ev_iretX dc_L_say_20 rfl ⟨Nat.le_of_ble_eq_true rfl, Nat.le_of_ble_eq_true rfl⟩ rfl rfl
      rw [if_neg e1] at h
      cases h
  intro e he
  rcases q1 with zs2 | zs2
  rotate_left
  · have he : (Sum.inr zs2 : XO) = .inl e := he
    cases he
  have he : (Sum.inl (some (.int zs2.1), zs2.2) : XO) = .inl e := he
  cases he
  dsimp only [Sum.elim] at h
  show Ev miL_say (9, 3, 18) G (Zx G (.inl (some (.int r.1), r.2)) 3 18) SK (3, 18) 8 [some (.ref a0), some (.int a1), some (.int a2), some (.ref a3), none] [.int zs2.1, .int (0 : Int32), .ref a3] zs2.2
  refine ev_i2l dc_L_say_8 ?_
  refine ev_last dc_L_say_9 i3 h (fun h => ?_)
  refine ev_goto (tgt := 21) dc_L_say_10 (by decide) ?_
  refine ev_iconst (v := 0) dc_L_say_21 (by decide) ?_
  cases h
  exact ev_iretX dc_L_say_22 rfl ⟨Nat.le_of_ble_eq_true rfl, Nat.le_of_ble_eq_true rfl⟩ rfl rfl
theorem dc_L_does_0 : Dc miL_does 0 (.aload_n 2) 1 1 := ⟨by decide +kernel, rfl⟩
theorem dc_L_does_1 : Dc miL_does 1 (.iconst 0) 1 2 := ⟨by decide +kernel, rfl⟩
theorem dc_L_does_2 : Dc miL_does 2 (.aload_n 0) 1 3 := ⟨by decide +kernel, rfl⟩
theorem dc_L_does_3 : Dc miL_does 3 (.iload_n 1) 1 4 := ⟨by decide +kernel, rfl⟩
theorem dc_L_does_4 : Dc miL_does 4 (.invokevirtual 46) 3 7 := ⟨by decide +kernel, rfl⟩
theorem dc_L_does_7 : Dc miL_does 7 (.i2l) 1 8 := ⟨by decide +kernel, rfl⟩
theorem dc_L_does_8 : Dc miL_does 8 (.lastore) 1 9 := ⟨by decide +kernel, rfl⟩
theorem dc_L_does_9 : Dc miL_does 9 (.goto 9) 3 12 := ⟨by decide +kernel, rfl⟩
theorem dc_L_does_12 : Dc miL_does 12 (.astore_n 3) 1 13 := ⟨by decide +kernel, rfl⟩
theorem dc_L_does_13 : Dc miL_does 13 (.iconst 1) 1 14 := ⟨by decide +kernel, rfl⟩
theorem dc_L_does_14 : Dc miL_does 14 (.ireturn) 1 15 := ⟨by decide +kernel, rfl⟩
theorem dc_L_does_15 : Dc miL_does 15 (.astore_n 3) 1 16 := ⟨by decide +kernel, rfl⟩
theorem dc_L_does_16 : Dc miL_does 16 (.iconst 2) 1 17 := ⟨by decide +kernel, rfl⟩
theorem dc_L_does_17 : Dc miL_does 17 (.ireturn) 1 18 := ⟨by decide +kernel, rfl⟩
theorem dc_L_does_18 : Dc miL_does 18 (.iconst 0) 1 19 := ⟨by decide +kernel, rfl⟩
theorem dc_L_does_19 : Dc miL_does 19 (.ireturn) 1 20 := ⟨by decide +kernel, rfl⟩
def fL_does (N : Nat) (G : pG) (a0 : Nat) (a1 : Int32) (a2 : Nat) (σ : pS) : Option (Int32 × pS) := (fX11_does N G a0 a1 σ).bind (fun q1 => q1.elim (fun zs2 => ck (inB (0 : Int32) (pN G a2)) (some ((0 : Int32), sJ zs2.2 a2 (0 : Int32) zs2.1.toInt64))) (fun e => if e.1 = "java/lang/IndexOutOfBoundsException" then (some ((1 : Int32), e.2)) else (if e.1 = "java/lang/IllegalStateException" then (some ((2 : Int32), e.2)) else (none))))
set_option maxRecDepth 100000 in
set_option maxHeartbeats 4000000 in
theorem tL_does {N : Nat} {G : pG} {SK : Nat → Nat} {a0 : Nat} {a1 : Int32} {a2 : Nat} {σ : pS} {r : Int32 × pS} (hW : WT G) (i0 : Is G a0 10) (i2 : Is G a2 14) (h : fL_does N G a0 a1 a2 σ = some r) : DxH miL_does yL_does 9 2 12 G SK [.ref a0, .int a1, .ref a2] σ (.inl (some (.int r.1), r.2)) := by
  unfold fL_does at h
  refine dxh_of (lv := [some (.ref a0), some (.int a1), some (.ref a2), none]) (by decide) rfl (Nat.le_of_ble_eq_true rfl) rfl ?_
  refine ev_aload_n dc_L_does_0 rfl ?_
  refine ev_iconst (v := 0) dc_L_does_1 (by decide) ?_
  refine ev_aload_n dc_L_does_2 rfl ?_
  refine ev_iload_n dc_L_does_3 rfl ?_
  obtain ⟨q1, hq1, h⟩ := Option.bind_eq_some_iff.mp h
  refine ev_callC (av := [.int a1]) (st := [.int (0 : Int32), .ref a2]) dc_L_does_4 (tX11_does hW i0 hq1) mw_1175 cy_X11_does i0 (by decide) rfl rfl rfl (Nat.le_of_ble_eq_true rfl) (Nat.le_of_ble_eq_true rfl) ⟨Nat.le_of_ble_eq_true rfl, Nat.le_of_ble_eq_true rfl⟩ ?_ ?_
  · intro e he
    rcases q1 with zs2 | zs2
    · have he : (Sum.inl (some (.int zs2.1), zs2.2) : XO) = .inr e := he
      cases he
    · have he : (Sum.inr zs2 : XO) = .inr e := he
      have he := Sum.inr.inj he
      subst he
      dsimp only [Sum.elim] at h
      by_cases e0 : zs2.1 = "java/lang/IndexOutOfBoundsException"
      · rw [if_pos e0] at h
        refine ⟨[], (0, 9, 12, 24), _, "java/lang/IndexOutOfBoundsException", rfl, ?_, rfl, by decide, mw_1033, ?_, fun ax => ?_⟩
        · intro w hw
          cases hw
        · rw [e0]
          exact List.mem_of_getElem? (i := 2) rfl
        · refine ev_astore_n (lv' := [some (.ref a0), some (.int a1), some (.ref a2), some (.ref ax)]) dc_L_does_12 rfl (by decide) rfl ?_
          refine ev_iconst (v := 1) dc_L_does_13 (by decide) ?_
          cases h
          exact ev_iretX dc_L_does_14 rfl ⟨Nat.le_of_ble_eq_true rfl, Nat.le_of_ble_eq_true rfl⟩ rfl rfl
      rw [if_neg e0] at h
      by_cases e1 : zs2.1 = "java/lang/IllegalStateException"
      · rw [if_pos e1] at h
        refine ⟨[(0, 9, 12, 24)], (0, 9, 15, 44), _, "java/lang/IllegalStateException", rfl, ?_, rfl, by decide, mw_1135, ?_, fun ax => ?_⟩
        · intro w hw
          rcases List.mem_singleton.mp hw with rfl
          exact ⟨by decide, "java/lang/IndexOutOfBoundsException", mw_1033, by rw [e1]; exact List.mem_of_getElem? (i := 5) rfl⟩
        · rw [e1]
          exact List.mem_of_getElem? (i := 4) rfl
        · refine ev_astore_n (lv' := [some (.ref a0), some (.int a1), some (.ref a2), some (.ref ax)]) dc_L_does_15 rfl (by decide) rfl ?_
          refine ev_iconst (v := 2) dc_L_does_16 (by decide) ?_
          cases h
          exact ev_iretX dc_L_does_17 rfl ⟨Nat.le_of_ble_eq_true rfl, Nat.le_of_ble_eq_true rfl⟩ rfl rfl
      rw [if_neg e1] at h
      cases h
  intro e he
  rcases q1 with zs2 | zs2
  rotate_left
  · have he : (Sum.inr zs2 : XO) = .inl e := he
    cases he
  have he : (Sum.inl (some (.int zs2.1), zs2.2) : XO) = .inl e := he
  cases he
  dsimp only [Sum.elim] at h
  show Ev miL_does (9, 2, 12) G (Zx G (.inl (some (.int r.1), r.2)) 2 12) SK (2, 12) 7 [some (.ref a0), some (.int a1), some (.ref a2), none] [.int zs2.1, .int (0 : Int32), .ref a2] zs2.2
  refine ev_i2l dc_L_does_7 ?_
  refine ev_last dc_L_does_8 i2 h (fun h => ?_)
  refine ev_goto (tgt := 18) dc_L_does_9 (by decide) ?_
  refine ev_iconst (v := 0) dc_L_does_18 (by decide) ?_
  cases h
  exact ev_iretX dc_L_does_19 rfl ⟨Nat.le_of_ble_eq_true rfl, Nat.le_of_ble_eq_true rfl⟩ rfl rfl
theorem dc_L_keep_0 : Dc miL_keep 0 (.aload_n 3) 1 1 := ⟨by decide +kernel, rfl⟩
theorem dc_L_keep_1 : Dc miL_keep 1 (.iconst 0) 1 2 := ⟨by decide +kernel, rfl⟩
theorem dc_L_keep_2 : Dc miL_keep 2 (.aload_n 0) 1 3 := ⟨by decide +kernel, rfl⟩
theorem dc_L_keep_3 : Dc miL_keep 3 (.iload_n 1) 1 4 := ⟨by decide +kernel, rfl⟩
theorem dc_L_keep_4 : Dc miL_keep 4 (.iload_n 2) 1 5 := ⟨by decide +kernel, rfl⟩
theorem dc_L_keep_5 : Dc miL_keep 5 (.invokevirtual 50) 3 8 := ⟨by decide +kernel, rfl⟩
theorem dc_L_keep_8 : Dc miL_keep 8 (.ifCond .eq 7) 3 11 := ⟨by decide +kernel, rfl⟩
theorem dc_L_keep_11 : Dc miL_keep 11 (.lconst 1) 1 12 := ⟨by decide +kernel, rfl⟩
theorem dc_L_keep_12 : Dc miL_keep 12 (.goto 4) 3 15 := ⟨by decide +kernel, rfl⟩
theorem dc_L_keep_15 : Dc miL_keep 15 (.lconst 0) 1 16 := ⟨by decide +kernel, rfl⟩
theorem dc_L_keep_16 : Dc miL_keep 16 (.lastore) 1 17 := ⟨by decide +kernel, rfl⟩
theorem dc_L_keep_17 : Dc miL_keep 17 (.goto 7) 3 20 := ⟨by decide +kernel, rfl⟩
theorem dc_L_keep_20 : Dc miL_keep 20 (.astore 4) 2 22 := ⟨by decide +kernel, rfl⟩
theorem dc_L_keep_22 : Dc miL_keep 22 (.iconst 1) 1 23 := ⟨by decide +kernel, rfl⟩
theorem dc_L_keep_23 : Dc miL_keep 23 (.ireturn) 1 24 := ⟨by decide +kernel, rfl⟩
theorem dc_L_keep_24 : Dc miL_keep 24 (.iconst 0) 1 25 := ⟨by decide +kernel, rfl⟩
theorem dc_L_keep_25 : Dc miL_keep 25 (.ireturn) 1 26 := ⟨by decide +kernel, rfl⟩
def fL_keep_b16 (N : Nat) (G : pG) (a3 : Nat) (y1 : Int32) (y2 : Int64) (σ : pS) : Option (Int32 × pS) := ck (inB y1 (pN G a3)) (some ((0 : Int32), sJ σ a3 y1 y2))
set_option maxRecDepth 100000 in
set_option maxHeartbeats 4000000 in
theorem tL_keep_b16 {N : Nat} {G : pG} {SK : Nat → Nat} {a3 : Nat} {y1 : Int32} {y2 : Int64} {σ : pS} {r : Int32 × pS} (hW : WT G) (i3 : Is G a3 14) (h : fL_keep_b16 N G a3 y1 y2 σ = some r) : Ev miL_keep (9, 1, 6) G (Zx G (.inl (some (.int r.1), r.2)) 1 6) SK (1, 6) 16 [none, none, none, some (.ref a3), none] [.long y2, .int y1, .ref a3] σ := by
  unfold fL_keep_b16 at h
  refine ev_last dc_L_keep_16 i3 h (fun h => ?_)
  refine ev_goto (tgt := 24) dc_L_keep_17 (by decide) ?_
  refine ev_iconst (v := 0) dc_L_keep_24 (by decide) ?_
  cases h
  exact ev_iretX dc_L_keep_25 rfl ⟨Nat.le_of_ble_eq_true rfl, Nat.le_of_ble_eq_true rfl⟩ rfl rfl
def fL_keep (N : Nat) (G : pG) (a0 : Nat) (a1 : Int32) (a2 : Int32) (a3 : Nat) (σ : pS) : Option (Int32 × pS) := (fX11_keep N G a0 a1 a2 σ).bind (fun q1 => q1.elim (fun zs2 => if zs2.1 = 0 then (fL_keep_b16 N G a3 (0 : Int32) (0 : Int64) zs2.2) else (fL_keep_b16 N G a3 (0 : Int32) (1 : Int64) zs2.2)) (fun e => if e.1 = "java/lang/IndexOutOfBoundsException" then (some ((1 : Int32), e.2)) else (none)))
set_option maxRecDepth 100000 in
set_option maxHeartbeats 4000000 in
theorem tL_keep {N : Nat} {G : pG} {SK : Nat → Nat} {a0 : Nat} {a1 : Int32} {a2 : Int32} {a3 : Nat} {σ : pS} {r : Int32 × pS} (hW : WT G) (i0 : Is G a0 10) (i3 : Is G a3 14) (h : fL_keep N G a0 a1 a2 a3 σ = some r) : DxH miL_keep yL_keep 9 1 6 G SK [.ref a0, .int a1, .int a2, .ref a3] σ (.inl (some (.int r.1), r.2)) := by
  unfold fL_keep at h
  refine dxh_of (lv := [some (.ref a0), some (.int a1), some (.int a2), some (.ref a3), none]) (by decide) rfl (Nat.le_of_ble_eq_true rfl) rfl ?_
  refine ev_aload_n dc_L_keep_0 rfl ?_
  refine ev_iconst (v := 0) dc_L_keep_1 (by decide) ?_
  refine ev_aload_n dc_L_keep_2 rfl ?_
  refine ev_iload_n dc_L_keep_3 rfl ?_
  refine ev_iload_n dc_L_keep_4 rfl ?_
  obtain ⟨q1, hq1, h⟩ := Option.bind_eq_some_iff.mp h
  refine ev_callC (av := [.int a1, .int a2]) (st := [.int (0 : Int32), .ref a3]) dc_L_keep_5 (tX11_keep hW i0 hq1) mw_1188 cy_X11_keep i0 (by decide) rfl rfl rfl (Nat.le_of_ble_eq_true rfl) (Nat.le_of_ble_eq_true rfl) ⟨Nat.le_of_ble_eq_true rfl, Nat.le_of_ble_eq_true rfl⟩ ?_ ?_
  · intro e he
    rcases q1 with zs2 | zs2
    · have he : (Sum.inl (some (.int zs2.1), zs2.2) : XO) = .inr e := he
      cases he
    · have he : (Sum.inr zs2 : XO) = .inr e := he
      have he := Sum.inr.inj he
      subst he
      dsimp only [Sum.elim] at h
      by_cases e0 : zs2.1 = "java/lang/IndexOutOfBoundsException"
      · rw [if_pos e0] at h
        refine ⟨[], (0, 17, 20, 24), _, "java/lang/IndexOutOfBoundsException", rfl, ?_, rfl, by decide, mw_1033, ?_, fun ax => ?_⟩
        · intro w hw
          cases hw
        · rw [e0]
          exact List.mem_of_getElem? (i := 2) rfl
        · refine ev_astore (lv' := [some (.ref a0), some (.int a1), some (.int a2), some (.ref a3), some (.ref ax)]) dc_L_keep_20 rfl (by decide) rfl ?_
          refine ev_iconst (v := 1) dc_L_keep_22 (by decide) ?_
          cases h
          exact ev_iretX dc_L_keep_23 rfl ⟨Nat.le_of_ble_eq_true rfl, Nat.le_of_ble_eq_true rfl⟩ rfl rfl
      rw [if_neg e0] at h
      cases h
  intro e he
  rcases q1 with zs2 | zs2
  rotate_left
  · have he : (Sum.inr zs2 : XO) = .inl e := he
    cases he
  have he : (Sum.inl (some (.int zs2.1), zs2.2) : XO) = .inl e := he
  cases he
  dsimp only [Sum.elim] at h
  show Ev miL_keep (9, 1, 6) G (Zx G (.inl (some (.int r.1), r.2)) 1 6) SK (1, 6) 8 [some (.ref a0), some (.int a1), some (.int a2), some (.ref a3), none] [.int zs2.1, .int (0 : Int32), .ref a3] zs2.2
  refine ev_if_eq (tgt := 15) dc_L_keep_8 (by decide) h (fun h => ?_) (fun h => ?_)
  · refine ev_lconst (v := 0) dc_L_keep_15 (by decide) ?_
    exact ev_sub (tL_keep_b16 hW i3 h) (And.intro rfl trivial)
  · refine ev_lconst (v := 1) dc_L_keep_11 (by decide) ?_
    refine ev_goto (tgt := 16) dc_L_keep_12 (by decide) ?_
    exact ev_sub (tL_keep_b16 hW i3 h) (And.intro rfl trivial)
theorem dc_L_habit_0 : Dc miL_habit 0 (.aload_n 3) 1 1 := ⟨by decide +kernel, rfl⟩
theorem dc_L_habit_1 : Dc miL_habit 1 (.iconst 0) 1 2 := ⟨by decide +kernel, rfl⟩
theorem dc_L_habit_2 : Dc miL_habit 2 (.aload_n 0) 1 3 := ⟨by decide +kernel, rfl⟩
theorem dc_L_habit_3 : Dc miL_habit 3 (.iload_n 1) 1 4 := ⟨by decide +kernel, rfl⟩
theorem dc_L_habit_4 : Dc miL_habit 4 (.iload_n 2) 1 5 := ⟨by decide +kernel, rfl⟩
theorem dc_L_habit_5 : Dc miL_habit 5 (.invokevirtual 54) 3 8 := ⟨by decide +kernel, rfl⟩
theorem dc_L_habit_8 : Dc miL_habit 8 (.i2l) 1 9 := ⟨by decide +kernel, rfl⟩
theorem dc_L_habit_9 : Dc miL_habit 9 (.lastore) 1 10 := ⟨by decide +kernel, rfl⟩
theorem dc_L_habit_10 : Dc miL_habit 10 (.goto 7) 3 13 := ⟨by decide +kernel, rfl⟩
theorem dc_L_habit_13 : Dc miL_habit 13 (.astore 4) 2 15 := ⟨by decide +kernel, rfl⟩
theorem dc_L_habit_15 : Dc miL_habit 15 (.iconst 1) 1 16 := ⟨by decide +kernel, rfl⟩
theorem dc_L_habit_16 : Dc miL_habit 16 (.ireturn) 1 17 := ⟨by decide +kernel, rfl⟩
theorem dc_L_habit_17 : Dc miL_habit 17 (.iconst 0) 1 18 := ⟨by decide +kernel, rfl⟩
theorem dc_L_habit_18 : Dc miL_habit 18 (.ireturn) 1 19 := ⟨by decide +kernel, rfl⟩
def fL_habit (N : Nat) (G : pG) (a0 : Nat) (a1 : Int32) (a2 : Int32) (a3 : Nat) (σ : pS) : Option (Int32 × pS) := (fX11_habit N G a0 a1 a2 σ).bind (fun q1 => q1.elim (fun zs2 => ck (inB (0 : Int32) (pN G a3)) (some ((0 : Int32), sJ zs2.2 a3 (0 : Int32) zs2.1.toInt64))) (fun e => if e.1 = "java/lang/IndexOutOfBoundsException" then (some ((1 : Int32), e.2)) else (none)))
set_option maxRecDepth 100000 in
set_option maxHeartbeats 4000000 in
theorem tL_habit {N : Nat} {G : pG} {SK : Nat → Nat} {a0 : Nat} {a1 : Int32} {a2 : Int32} {a3 : Nat} {σ : pS} {r : Int32 × pS} (hW : WT G) (i0 : Is G a0 10) (i3 : Is G a3 14) (h : fL_habit N G a0 a1 a2 a3 σ = some r) : DxH miL_habit yL_habit 9 2 12 G SK [.ref a0, .int a1, .int a2, .ref a3] σ (.inl (some (.int r.1), r.2)) := by
  unfold fL_habit at h
  refine dxh_of (lv := [some (.ref a0), some (.int a1), some (.int a2), some (.ref a3), none]) (by decide) rfl (Nat.le_of_ble_eq_true rfl) rfl ?_
  refine ev_aload_n dc_L_habit_0 rfl ?_
  refine ev_iconst (v := 0) dc_L_habit_1 (by decide) ?_
  refine ev_aload_n dc_L_habit_2 rfl ?_
  refine ev_iload_n dc_L_habit_3 rfl ?_
  refine ev_iload_n dc_L_habit_4 rfl ?_
  obtain ⟨q1, hq1, h⟩ := Option.bind_eq_some_iff.mp h
  refine ev_callC (av := [.int a1, .int a2]) (st := [.int (0 : Int32), .ref a3]) dc_L_habit_5 (tX11_habit hW i0 hq1) mw_1195 cy_X11_habit i0 (by decide) rfl rfl rfl (Nat.le_of_ble_eq_true rfl) (Nat.le_of_ble_eq_true rfl) ⟨Nat.le_of_ble_eq_true rfl, Nat.le_of_ble_eq_true rfl⟩ ?_ ?_
  · intro e he
    rcases q1 with zs2 | zs2
    · have he : (Sum.inl (some (.int zs2.1), zs2.2) : XO) = .inr e := he
      cases he
    · have he : (Sum.inr zs2 : XO) = .inr e := he
      have he := Sum.inr.inj he
      subst he
      dsimp only [Sum.elim] at h
      by_cases e0 : zs2.1 = "java/lang/IndexOutOfBoundsException"
      · rw [if_pos e0] at h
        refine ⟨[], (0, 10, 13, 24), _, "java/lang/IndexOutOfBoundsException", rfl, ?_, rfl, by decide, mw_1033, ?_, fun ax => ?_⟩
        · intro w hw
          cases hw
        · rw [e0]
          exact List.mem_of_getElem? (i := 2) rfl
        · refine ev_astore (lv' := [some (.ref a0), some (.int a1), some (.int a2), some (.ref a3), some (.ref ax)]) dc_L_habit_13 rfl (by decide) rfl ?_
          refine ev_iconst (v := 1) dc_L_habit_15 (by decide) ?_
          cases h
          exact ev_iretX dc_L_habit_16 rfl ⟨Nat.le_of_ble_eq_true rfl, Nat.le_of_ble_eq_true rfl⟩ rfl rfl
      rw [if_neg e0] at h
      cases h
  intro e he
  rcases q1 with zs2 | zs2
  rotate_left
  · have he : (Sum.inr zs2 : XO) = .inl e := he
    cases he
  have he : (Sum.inl (some (.int zs2.1), zs2.2) : XO) = .inl e := he
  cases he
  dsimp only [Sum.elim] at h
  show Ev miL_habit (9, 2, 12) G (Zx G (.inl (some (.int r.1), r.2)) 2 12) SK (2, 12) 8 [some (.ref a0), some (.int a1), some (.int a2), some (.ref a3), none] [.int zs2.1, .int (0 : Int32), .ref a3] zs2.2
  refine ev_i2l dc_L_habit_8 ?_
  refine ev_last dc_L_habit_9 i3 h (fun h => ?_)
  refine ev_goto (tgt := 17) dc_L_habit_10 (by decide) ?_
  refine ev_iconst (v := 0) dc_L_habit_17 (by decide) ?_
  cases h
  exact ev_iretX dc_L_habit_18 rfl ⟨Nat.le_of_ble_eq_true rfl, Nat.le_of_ble_eq_true rfl⟩ rfl rfl
theorem dc_L_his_0 : Dc miL_his 0 (.aload_n 2) 1 1 := ⟨by decide +kernel, rfl⟩
theorem dc_L_his_1 : Dc miL_his 1 (.iconst 0) 1 2 := ⟨by decide +kernel, rfl⟩
theorem dc_L_his_2 : Dc miL_his 2 (.aload_n 0) 1 3 := ⟨by decide +kernel, rfl⟩
theorem dc_L_his_3 : Dc miL_his 3 (.iload_n 1) 1 4 := ⟨by decide +kernel, rfl⟩
theorem dc_L_his_4 : Dc miL_his 4 (.invokevirtual 57) 3 7 := ⟨by decide +kernel, rfl⟩
theorem dc_L_his_7 : Dc miL_his 7 (.i2l) 1 8 := ⟨by decide +kernel, rfl⟩
theorem dc_L_his_8 : Dc miL_his 8 (.lastore) 1 9 := ⟨by decide +kernel, rfl⟩
theorem dc_L_his_9 : Dc miL_his 9 (.goto 6) 3 12 := ⟨by decide +kernel, rfl⟩
theorem dc_L_his_12 : Dc miL_his 12 (.astore_n 3) 1 13 := ⟨by decide +kernel, rfl⟩
theorem dc_L_his_13 : Dc miL_his 13 (.iconst 1) 1 14 := ⟨by decide +kernel, rfl⟩
theorem dc_L_his_14 : Dc miL_his 14 (.ireturn) 1 15 := ⟨by decide +kernel, rfl⟩
theorem dc_L_his_15 : Dc miL_his 15 (.iconst 0) 1 16 := ⟨by decide +kernel, rfl⟩
theorem dc_L_his_16 : Dc miL_his 16 (.ireturn) 1 17 := ⟨by decide +kernel, rfl⟩
def fL_his (N : Nat) (G : pG) (a0 : Nat) (a1 : Int32) (a2 : Nat) (σ : pS) : Option (Int32 × pS) := (fX11_his N G a0 a1 σ).bind (fun q1 => q1.elim (fun zs2 => ck (inB (0 : Int32) (pN G a2)) (some ((0 : Int32), sJ zs2.2 a2 (0 : Int32) zs2.1.toInt64))) (fun e => if e.1 = "java/lang/IndexOutOfBoundsException" then (some ((1 : Int32), e.2)) else (none)))
set_option maxRecDepth 100000 in
set_option maxHeartbeats 4000000 in
theorem tL_his {N : Nat} {G : pG} {SK : Nat → Nat} {a0 : Nat} {a1 : Int32} {a2 : Nat} {σ : pS} {r : Int32 × pS} (hW : WT G) (i0 : Is G a0 10) (i2 : Is G a2 14) (h : fL_his N G a0 a1 a2 σ = some r) : DxH miL_his yL_his 9 1 6 G SK [.ref a0, .int a1, .ref a2] σ (.inl (some (.int r.1), r.2)) := by
  unfold fL_his at h
  refine dxh_of (lv := [some (.ref a0), some (.int a1), some (.ref a2), none]) (by decide) rfl (Nat.le_of_ble_eq_true rfl) rfl ?_
  refine ev_aload_n dc_L_his_0 rfl ?_
  refine ev_iconst (v := 0) dc_L_his_1 (by decide) ?_
  refine ev_aload_n dc_L_his_2 rfl ?_
  refine ev_iload_n dc_L_his_3 rfl ?_
  obtain ⟨q1, hq1, h⟩ := Option.bind_eq_some_iff.mp h
  refine ev_callC (av := [.int a1]) (st := [.int (0 : Int32), .ref a2]) dc_L_his_4 (tX11_his hW i0 hq1) mw_1203 cy_X11_his i0 (by decide) rfl rfl rfl (Nat.le_of_ble_eq_true rfl) (Nat.le_of_ble_eq_true rfl) ⟨Nat.le_of_ble_eq_true rfl, Nat.le_of_ble_eq_true rfl⟩ ?_ ?_
  · intro e he
    rcases q1 with zs2 | zs2
    · have he : (Sum.inl (some (.int zs2.1), zs2.2) : XO) = .inr e := he
      cases he
    · have he : (Sum.inr zs2 : XO) = .inr e := he
      have he := Sum.inr.inj he
      subst he
      dsimp only [Sum.elim] at h
      by_cases e0 : zs2.1 = "java/lang/IndexOutOfBoundsException"
      · rw [if_pos e0] at h
        refine ⟨[], (0, 9, 12, 24), _, "java/lang/IndexOutOfBoundsException", rfl, ?_, rfl, by decide, mw_1033, ?_, fun ax => ?_⟩
        · intro w hw
          cases hw
        · rw [e0]
          exact List.mem_of_getElem? (i := 2) rfl
        · refine ev_astore_n (lv' := [some (.ref a0), some (.int a1), some (.ref a2), some (.ref ax)]) dc_L_his_12 rfl (by decide) rfl ?_
          refine ev_iconst (v := 1) dc_L_his_13 (by decide) ?_
          cases h
          exact ev_iretX dc_L_his_14 rfl ⟨Nat.le_of_ble_eq_true rfl, Nat.le_of_ble_eq_true rfl⟩ rfl rfl
      rw [if_neg e0] at h
      cases h
  intro e he
  rcases q1 with zs2 | zs2
  rotate_left
  · have he : (Sum.inr zs2 : XO) = .inl e := he
    cases he
  have he : (Sum.inl (some (.int zs2.1), zs2.2) : XO) = .inl e := he
  cases he
  dsimp only [Sum.elim] at h
  show Ev miL_his (9, 1, 6) G (Zx G (.inl (some (.int r.1), r.2)) 1 6) SK (1, 6) 7 [some (.ref a0), some (.int a1), some (.ref a2), none] [.int zs2.1, .int (0 : Int32), .ref a2] zs2.2
  refine ev_i2l dc_L_his_7 ?_
  refine ev_last dc_L_his_8 i2 h (fun h => ?_)
  refine ev_goto (tgt := 15) dc_L_his_9 (by decide) ?_
  refine ev_iconst (v := 0) dc_L_his_15 (by decide) ?_
  cases h
  exact ev_iretX dc_L_his_16 rfl ⟨Nat.le_of_ble_eq_true rfl, Nat.le_of_ble_eq_true rfl⟩ rfl rfl
theorem dc_L_crumb_0 : Dc miL_crumb 0 (.aload_n 2) 1 1 := ⟨by decide +kernel, rfl⟩
theorem dc_L_crumb_1 : Dc miL_crumb 1 (.iconst 0) 1 2 := ⟨by decide +kernel, rfl⟩
theorem dc_L_crumb_2 : Dc miL_crumb 2 (.aload_n 0) 1 3 := ⟨by decide +kernel, rfl⟩
theorem dc_L_crumb_3 : Dc miL_crumb 3 (.iload_n 1) 1 4 := ⟨by decide +kernel, rfl⟩
theorem dc_L_crumb_4 : Dc miL_crumb 4 (.invokevirtual 60) 3 7 := ⟨by decide +kernel, rfl⟩
theorem dc_L_crumb_7 : Dc miL_crumb 7 (.i2l) 1 8 := ⟨by decide +kernel, rfl⟩
theorem dc_L_crumb_8 : Dc miL_crumb 8 (.lastore) 1 9 := ⟨by decide +kernel, rfl⟩
theorem dc_L_crumb_9 : Dc miL_crumb 9 (.goto 9) 3 12 := ⟨by decide +kernel, rfl⟩
theorem dc_L_crumb_12 : Dc miL_crumb 12 (.astore_n 3) 1 13 := ⟨by decide +kernel, rfl⟩
theorem dc_L_crumb_13 : Dc miL_crumb 13 (.iconst 1) 1 14 := ⟨by decide +kernel, rfl⟩
theorem dc_L_crumb_14 : Dc miL_crumb 14 (.ireturn) 1 15 := ⟨by decide +kernel, rfl⟩
theorem dc_L_crumb_15 : Dc miL_crumb 15 (.astore_n 3) 1 16 := ⟨by decide +kernel, rfl⟩
theorem dc_L_crumb_16 : Dc miL_crumb 16 (.iconst 2) 1 17 := ⟨by decide +kernel, rfl⟩
theorem dc_L_crumb_17 : Dc miL_crumb 17 (.ireturn) 1 18 := ⟨by decide +kernel, rfl⟩
theorem dc_L_crumb_18 : Dc miL_crumb 18 (.iconst 0) 1 19 := ⟨by decide +kernel, rfl⟩
theorem dc_L_crumb_19 : Dc miL_crumb 19 (.ireturn) 1 20 := ⟨by decide +kernel, rfl⟩
def fL_crumb (N : Nat) (G : pG) (a0 : Nat) (a1 : Int32) (a2 : Nat) (σ : pS) : Option (Int32 × pS) := (fX11_crumb N G a0 a1 σ).bind (fun q1 => q1.elim (fun zs2 => ck (inB (0 : Int32) (pN G a2)) (some ((0 : Int32), sJ zs2.2 a2 (0 : Int32) zs2.1.toInt64))) (fun e => if e.1 = "java/lang/IndexOutOfBoundsException" then (some ((1 : Int32), e.2)) else (if e.1 = "java/lang/IllegalStateException" then (some ((2 : Int32), e.2)) else (none))))
set_option maxRecDepth 100000 in
set_option maxHeartbeats 4000000 in
theorem tL_crumb {N : Nat} {G : pG} {SK : Nat → Nat} {a0 : Nat} {a1 : Int32} {a2 : Nat} {σ : pS} {r : Int32 × pS} (hW : WT G) (i0 : Is G a0 10) (i2 : Is G a2 14) (h : fL_crumb N G a0 a1 a2 σ = some r) : DxH miL_crumb yL_crumb 9 2 12 G SK [.ref a0, .int a1, .ref a2] σ (.inl (some (.int r.1), r.2)) := by
  unfold fL_crumb at h
  refine dxh_of (lv := [some (.ref a0), some (.int a1), some (.ref a2), none]) (by decide) rfl (Nat.le_of_ble_eq_true rfl) rfl ?_
  refine ev_aload_n dc_L_crumb_0 rfl ?_
  refine ev_iconst (v := 0) dc_L_crumb_1 (by decide) ?_
  refine ev_aload_n dc_L_crumb_2 rfl ?_
  refine ev_iload_n dc_L_crumb_3 rfl ?_
  obtain ⟨q1, hq1, h⟩ := Option.bind_eq_some_iff.mp h
  refine ev_callC (av := [.int a1]) (st := [.int (0 : Int32), .ref a2]) dc_L_crumb_4 (tX11_crumb hW i0 hq1) mw_1211 cy_X11_crumb i0 (by decide) rfl rfl rfl (Nat.le_of_ble_eq_true rfl) (Nat.le_of_ble_eq_true rfl) ⟨Nat.le_of_ble_eq_true rfl, Nat.le_of_ble_eq_true rfl⟩ ?_ ?_
  · intro e he
    rcases q1 with zs2 | zs2
    · have he : (Sum.inl (some (.int zs2.1), zs2.2) : XO) = .inr e := he
      cases he
    · have he : (Sum.inr zs2 : XO) = .inr e := he
      have he := Sum.inr.inj he
      subst he
      dsimp only [Sum.elim] at h
      by_cases e0 : zs2.1 = "java/lang/IndexOutOfBoundsException"
      · rw [if_pos e0] at h
        refine ⟨[], (0, 9, 12, 24), _, "java/lang/IndexOutOfBoundsException", rfl, ?_, rfl, by decide, mw_1033, ?_, fun ax => ?_⟩
        · intro w hw
          cases hw
        · rw [e0]
          exact List.mem_of_getElem? (i := 2) rfl
        · refine ev_astore_n (lv' := [some (.ref a0), some (.int a1), some (.ref a2), some (.ref ax)]) dc_L_crumb_12 rfl (by decide) rfl ?_
          refine ev_iconst (v := 1) dc_L_crumb_13 (by decide) ?_
          cases h
          exact ev_iretX dc_L_crumb_14 rfl ⟨Nat.le_of_ble_eq_true rfl, Nat.le_of_ble_eq_true rfl⟩ rfl rfl
      rw [if_neg e0] at h
      by_cases e1 : zs2.1 = "java/lang/IllegalStateException"
      · rw [if_pos e1] at h
        refine ⟨[(0, 9, 12, 24)], (0, 9, 15, 44), _, "java/lang/IllegalStateException", rfl, ?_, rfl, by decide, mw_1135, ?_, fun ax => ?_⟩
        · intro w hw
          rcases List.mem_singleton.mp hw with rfl
          exact ⟨by decide, "java/lang/IndexOutOfBoundsException", mw_1033, by rw [e1]; exact List.mem_of_getElem? (i := 5) rfl⟩
        · rw [e1]
          exact List.mem_of_getElem? (i := 4) rfl
        · refine ev_astore_n (lv' := [some (.ref a0), some (.int a1), some (.ref a2), some (.ref ax)]) dc_L_crumb_15 rfl (by decide) rfl ?_
          refine ev_iconst (v := 2) dc_L_crumb_16 (by decide) ?_
          cases h
          exact ev_iretX dc_L_crumb_17 rfl ⟨Nat.le_of_ble_eq_true rfl, Nat.le_of_ble_eq_true rfl⟩ rfl rfl
      rw [if_neg e1] at h
      cases h
  intro e he
  rcases q1 with zs2 | zs2
  rotate_left
  · have he : (Sum.inr zs2 : XO) = .inl e := he
    cases he
  have he : (Sum.inl (some (.int zs2.1), zs2.2) : XO) = .inl e := he
  cases he
  dsimp only [Sum.elim] at h
  show Ev miL_crumb (9, 2, 12) G (Zx G (.inl (some (.int r.1), r.2)) 2 12) SK (2, 12) 7 [some (.ref a0), some (.int a1), some (.ref a2), none] [.int zs2.1, .int (0 : Int32), .ref a2] zs2.2
  refine ev_i2l dc_L_crumb_7 ?_
  refine ev_last dc_L_crumb_8 i2 h (fun h => ?_)
  refine ev_goto (tgt := 18) dc_L_crumb_9 (by decide) ?_
  refine ev_iconst (v := 0) dc_L_crumb_18 (by decide) ?_
  cases h
  exact ev_iretX dc_L_crumb_19 rfl ⟨Nat.le_of_ble_eq_true rfl, Nat.le_of_ble_eq_true rfl⟩ rfl rfl
theorem dc_L_nights_0 : Dc miL_nights 0 (.aload_n 2) 1 1 := ⟨by decide +kernel, rfl⟩
theorem dc_L_nights_1 : Dc miL_nights 1 (.iconst 0) 1 2 := ⟨by decide +kernel, rfl⟩
theorem dc_L_nights_2 : Dc miL_nights 2 (.aload_n 0) 1 3 := ⟨by decide +kernel, rfl⟩
theorem dc_L_nights_3 : Dc miL_nights 3 (.iload_n 1) 1 4 := ⟨by decide +kernel, rfl⟩
theorem dc_L_nights_4 : Dc miL_nights 4 (.invokevirtual 63) 3 7 := ⟨by decide +kernel, rfl⟩
theorem dc_L_nights_7 : Dc miL_nights 7 (.i2l) 1 8 := ⟨by decide +kernel, rfl⟩
theorem dc_L_nights_8 : Dc miL_nights 8 (.lastore) 1 9 := ⟨by decide +kernel, rfl⟩
theorem dc_L_nights_9 : Dc miL_nights 9 (.goto 6) 3 12 := ⟨by decide +kernel, rfl⟩
theorem dc_L_nights_12 : Dc miL_nights 12 (.astore_n 3) 1 13 := ⟨by decide +kernel, rfl⟩
theorem dc_L_nights_13 : Dc miL_nights 13 (.iconst 1) 1 14 := ⟨by decide +kernel, rfl⟩
theorem dc_L_nights_14 : Dc miL_nights 14 (.ireturn) 1 15 := ⟨by decide +kernel, rfl⟩
theorem dc_L_nights_15 : Dc miL_nights 15 (.iconst 0) 1 16 := ⟨by decide +kernel, rfl⟩
theorem dc_L_nights_16 : Dc miL_nights 16 (.ireturn) 1 17 := ⟨by decide +kernel, rfl⟩
def fL_nights (N : Nat) (G : pG) (a0 : Nat) (a1 : Int32) (a2 : Nat) (σ : pS) : Option (Int32 × pS) := (fX11_nights N G a0 a1 σ).bind (fun q1 => q1.elim (fun zs2 => ck (inB (0 : Int32) (pN G a2)) (some ((0 : Int32), sJ zs2.2 a2 (0 : Int32) zs2.1.toInt64))) (fun e => if e.1 = "java/lang/IllegalArgumentException" then (some ((1 : Int32), e.2)) else (none)))
set_option maxRecDepth 100000 in
set_option maxHeartbeats 4000000 in
theorem tL_nights {N : Nat} {G : pG} {SK : Nat → Nat} {a0 : Nat} {a1 : Int32} {a2 : Nat} {σ : pS} {r : Int32 × pS} (hW : WT G) (i0 : Is G a0 10) (i2 : Is G a2 14) (h : fL_nights N G a0 a1 a2 σ = some r) : DxH miL_nights yL_nights 9 1 6 G SK [.ref a0, .int a1, .ref a2] σ (.inl (some (.int r.1), r.2)) := by
  unfold fL_nights at h
  refine dxh_of (lv := [some (.ref a0), some (.int a1), some (.ref a2), none]) (by decide) rfl (Nat.le_of_ble_eq_true rfl) rfl ?_
  refine ev_aload_n dc_L_nights_0 rfl ?_
  refine ev_iconst (v := 0) dc_L_nights_1 (by decide) ?_
  refine ev_aload_n dc_L_nights_2 rfl ?_
  refine ev_iload_n dc_L_nights_3 rfl ?_
  obtain ⟨q1, hq1, h⟩ := Option.bind_eq_some_iff.mp h
  refine ev_callC (av := [.int a1]) (st := [.int (0 : Int32), .ref a2]) dc_L_nights_4 (tX11_nights hW i0 hq1) mw_1224 cy_X11_nights i0 (by decide) rfl rfl rfl (Nat.le_of_ble_eq_true rfl) (Nat.le_of_ble_eq_true rfl) ⟨Nat.le_of_ble_eq_true rfl, Nat.le_of_ble_eq_true rfl⟩ ?_ ?_
  · intro e he
    rcases q1 with zs2 | zs2
    · have he : (Sum.inl (some (.int zs2.1), zs2.2) : XO) = .inr e := he
      cases he
    · have he : (Sum.inr zs2 : XO) = .inr e := he
      have he := Sum.inr.inj he
      subst he
      dsimp only [Sum.elim] at h
      by_cases e0 : zs2.1 = "java/lang/IllegalArgumentException"
      · rw [if_pos e0] at h
        refine ⟨[], (0, 9, 12, 13), _, "java/lang/IllegalArgumentException", rfl, ?_, rfl, by decide, mw_677, ?_, fun ax => ?_⟩
        · intro w hw
          cases hw
        · rw [e0]
          exact List.mem_of_getElem? (i := 0) rfl
        · refine ev_astore_n (lv' := [some (.ref a0), some (.int a1), some (.ref a2), some (.ref ax)]) dc_L_nights_12 rfl (by decide) rfl ?_
          refine ev_iconst (v := 1) dc_L_nights_13 (by decide) ?_
          cases h
          exact ev_iretX dc_L_nights_14 rfl ⟨Nat.le_of_ble_eq_true rfl, Nat.le_of_ble_eq_true rfl⟩ rfl rfl
      rw [if_neg e0] at h
      cases h
  intro e he
  rcases q1 with zs2 | zs2
  rotate_left
  · have he : (Sum.inr zs2 : XO) = .inl e := he
    cases he
  have he : (Sum.inl (some (.int zs2.1), zs2.2) : XO) = .inl e := he
  cases he
  dsimp only [Sum.elim] at h
  show Ev miL_nights (9, 1, 6) G (Zx G (.inl (some (.int r.1), r.2)) 1 6) SK (1, 6) 7 [some (.ref a0), some (.int a1), some (.ref a2), none] [.int zs2.1, .int (0 : Int32), .ref a2] zs2.2
  refine ev_i2l dc_L_nights_7 ?_
  refine ev_last dc_L_nights_8 i2 h (fun h => ?_)
  refine ev_goto (tgt := 15) dc_L_nights_9 (by decide) ?_
  refine ev_iconst (v := 0) dc_L_nights_15 (by decide) ?_
  cases h
  exact ev_iretX dc_L_nights_16 rfl ⟨Nat.le_of_ble_eq_true rfl, Nat.le_of_ble_eq_true rfl⟩ rfl rfl
theorem dc_L_would_0 : Dc miL_would 0 (.aload 4) 2 2 := ⟨by decide +kernel, rfl⟩
theorem dc_L_would_2 : Dc miL_would 2 (.iconst 0) 1 3 := ⟨by decide +kernel, rfl⟩
theorem dc_L_would_3 : Dc miL_would 3 (.aload_n 0) 1 4 := ⟨by decide +kernel, rfl⟩
theorem dc_L_would_4 : Dc miL_would 4 (.iload_n 1) 1 5 := ⟨by decide +kernel, rfl⟩
theorem dc_L_would_5 : Dc miL_would 5 (.iload_n 2) 1 6 := ⟨by decide +kernel, rfl⟩
theorem dc_L_would_6 : Dc miL_would 6 (.iload_n 3) 1 7 := ⟨by decide +kernel, rfl⟩
theorem dc_L_would_7 : Dc miL_would 7 (.invokevirtual 66) 3 10 := ⟨by decide +kernel, rfl⟩
theorem dc_L_would_10 : Dc miL_would 10 (.i2l) 1 11 := ⟨by decide +kernel, rfl⟩
theorem dc_L_would_11 : Dc miL_would 11 (.lastore) 1 12 := ⟨by decide +kernel, rfl⟩
theorem dc_L_would_12 : Dc miL_would 12 (.goto 7) 3 15 := ⟨by decide +kernel, rfl⟩
theorem dc_L_would_15 : Dc miL_would 15 (.astore 5) 2 17 := ⟨by decide +kernel, rfl⟩
theorem dc_L_would_17 : Dc miL_would 17 (.iconst 1) 1 18 := ⟨by decide +kernel, rfl⟩
theorem dc_L_would_18 : Dc miL_would 18 (.ireturn) 1 19 := ⟨by decide +kernel, rfl⟩
theorem dc_L_would_19 : Dc miL_would 19 (.iconst 0) 1 20 := ⟨by decide +kernel, rfl⟩
theorem dc_L_would_20 : Dc miL_would 20 (.ireturn) 1 21 := ⟨by decide +kernel, rfl⟩
def fL_would (N : Nat) (G : pG) (a0 : Nat) (a1 : Int32) (a2 : Int32) (a3 : Int32) (a4 : Nat) (σ : pS) : Option (Int32 × pS) := (fX11_would N G a0 a1 a2 a3 σ).bind (fun q1 => q1.elim (fun zs2 => ck (inB (0 : Int32) (pN G a4)) (some ((0 : Int32), sJ zs2.2 a4 (0 : Int32) zs2.1.toInt64))) (fun e => if e.1 = "java/lang/IndexOutOfBoundsException" then (some ((1 : Int32), e.2)) else (none)))
set_option maxRecDepth 100000 in
set_option maxHeartbeats 4000000 in
theorem tL_would {N : Nat} {G : pG} {SK : Nat → Nat} {a0 : Nat} {a1 : Int32} {a2 : Int32} {a3 : Int32} {a4 : Nat} {σ : pS} {r : Int32 × pS} (hW : WT G) (i0 : Is G a0 10) (i4 : Is G a4 14) (h : fL_would N G a0 a1 a2 a3 a4 σ = some r) : DxH miL_would yL_would 9 2 12 G SK [.ref a0, .int a1, .int a2, .int a3, .ref a4] σ (.inl (some (.int r.1), r.2)) := by
  unfold fL_would at h
  refine dxh_of (lv := [some (.ref a0), some (.int a1), some (.int a2), some (.int a3), some (.ref a4), none]) (by decide) rfl (Nat.le_of_ble_eq_true rfl) rfl ?_
  refine ev_aload dc_L_would_0 rfl ?_
  refine ev_iconst (v := 0) dc_L_would_2 (by decide) ?_
  refine ev_aload_n dc_L_would_3 rfl ?_
  refine ev_iload_n dc_L_would_4 rfl ?_
  refine ev_iload_n dc_L_would_5 rfl ?_
  refine ev_iload_n dc_L_would_6 rfl ?_
  obtain ⟨q1, hq1, h⟩ := Option.bind_eq_some_iff.mp h
  refine ev_callC (av := [.int a1, .int a2, .int a3]) (st := [.int (0 : Int32), .ref a4]) dc_L_would_7 (tX11_would hW i0 hq1) mw_1251 cy_X11_would i0 (by decide) rfl rfl rfl (Nat.le_of_ble_eq_true rfl) (Nat.le_of_ble_eq_true rfl) ⟨Nat.le_of_ble_eq_true rfl, Nat.le_of_ble_eq_true rfl⟩ ?_ ?_
  · intro e he
    rcases q1 with zs2 | zs2
    · have he : (Sum.inl (some (.int zs2.1), zs2.2) : XO) = .inr e := he
      cases he
    · have he : (Sum.inr zs2 : XO) = .inr e := he
      have he := Sum.inr.inj he
      subst he
      dsimp only [Sum.elim] at h
      by_cases e0 : zs2.1 = "java/lang/IndexOutOfBoundsException"
      · rw [if_pos e0] at h
        refine ⟨[], (0, 12, 15, 24), _, "java/lang/IndexOutOfBoundsException", rfl, ?_, rfl, by decide, mw_1033, ?_, fun ax => ?_⟩
        · intro w hw
          cases hw
        · rw [e0]
          exact List.mem_of_getElem? (i := 2) rfl
        · refine ev_astore (lv' := [some (.ref a0), some (.int a1), some (.int a2), some (.int a3), some (.ref a4), some (.ref ax)]) dc_L_would_15 rfl (by decide) rfl ?_
          refine ev_iconst (v := 1) dc_L_would_17 (by decide) ?_
          cases h
          exact ev_iretX dc_L_would_18 rfl ⟨Nat.le_of_ble_eq_true rfl, Nat.le_of_ble_eq_true rfl⟩ rfl rfl
      rw [if_neg e0] at h
      cases h
  intro e he
  rcases q1 with zs2 | zs2
  rotate_left
  · have he : (Sum.inr zs2 : XO) = .inl e := he
    cases he
  have he : (Sum.inl (some (.int zs2.1), zs2.2) : XO) = .inl e := he
  cases he
  dsimp only [Sum.elim] at h
  show Ev miL_would (9, 2, 12) G (Zx G (.inl (some (.int r.1), r.2)) 2 12) SK (2, 12) 10 [some (.ref a0), some (.int a1), some (.int a2), some (.int a3), some (.ref a4), none] [.int zs2.1, .int (0 : Int32), .ref a4] zs2.2
  refine ev_i2l dc_L_would_10 ?_
  refine ev_last dc_L_would_11 i4 h (fun h => ?_)
  refine ev_goto (tgt := 19) dc_L_would_12 (by decide) ?_
  refine ev_iconst (v := 0) dc_L_would_19 (by decide) ?_
  cases h
  exact ev_iretX dc_L_would_20 rfl ⟨Nat.le_of_ble_eq_true rfl, Nat.le_of_ble_eq_true rfl⟩ rfl rfl
theorem dc_L_ahead_0 : Dc miL_ahead 0 (.aload_n 3) 1 1 := ⟨by decide +kernel, rfl⟩
theorem dc_L_ahead_1 : Dc miL_ahead 1 (.iconst 0) 1 2 := ⟨by decide +kernel, rfl⟩
theorem dc_L_ahead_2 : Dc miL_ahead 2 (.aload_n 0) 1 3 := ⟨by decide +kernel, rfl⟩
theorem dc_L_ahead_3 : Dc miL_ahead 3 (.iload_n 1) 1 4 := ⟨by decide +kernel, rfl⟩
theorem dc_L_ahead_4 : Dc miL_ahead 4 (.iload_n 2) 1 5 := ⟨by decide +kernel, rfl⟩
theorem dc_L_ahead_5 : Dc miL_ahead 5 (.invokevirtual 70) 3 8 := ⟨by decide +kernel, rfl⟩
theorem dc_L_ahead_8 : Dc miL_ahead 8 (.i2l) 1 9 := ⟨by decide +kernel, rfl⟩
theorem dc_L_ahead_9 : Dc miL_ahead 9 (.lastore) 1 10 := ⟨by decide +kernel, rfl⟩
theorem dc_L_ahead_10 : Dc miL_ahead 10 (.goto 11) 3 13 := ⟨by decide +kernel, rfl⟩
theorem dc_L_ahead_13 : Dc miL_ahead 13 (.astore 4) 2 15 := ⟨by decide +kernel, rfl⟩
theorem dc_L_ahead_15 : Dc miL_ahead 15 (.iconst 1) 1 16 := ⟨by decide +kernel, rfl⟩
theorem dc_L_ahead_16 : Dc miL_ahead 16 (.ireturn) 1 17 := ⟨by decide +kernel, rfl⟩
theorem dc_L_ahead_17 : Dc miL_ahead 17 (.astore 4) 2 19 := ⟨by decide +kernel, rfl⟩
theorem dc_L_ahead_19 : Dc miL_ahead 19 (.iconst 2) 1 20 := ⟨by decide +kernel, rfl⟩
theorem dc_L_ahead_20 : Dc miL_ahead 20 (.ireturn) 1 21 := ⟨by decide +kernel, rfl⟩
theorem dc_L_ahead_21 : Dc miL_ahead 21 (.iconst 0) 1 22 := ⟨by decide +kernel, rfl⟩
theorem dc_L_ahead_22 : Dc miL_ahead 22 (.ireturn) 1 23 := ⟨by decide +kernel, rfl⟩
def fL_ahead (N : Nat) (G : pG) (a0 : Nat) (a1 : Int32) (a2 : Int32) (a3 : Nat) (σ : pS) : Option (Int32 × pS) := (fX11_ahead N G a0 a1 a2 σ).bind (fun q1 => q1.elim (fun zs2 => ck (inB (0 : Int32) (pN G a3)) (some ((0 : Int32), sJ zs2.2 a3 (0 : Int32) zs2.1.toInt64))) (fun e => if e.1 = "java/lang/IndexOutOfBoundsException" then (some ((1 : Int32), e.2)) else (if e.1 = "java/lang/IllegalArgumentException" then (some ((2 : Int32), e.2)) else (none))))
set_option maxRecDepth 100000 in
set_option maxHeartbeats 4000000 in
theorem tL_ahead {N : Nat} {G : pG} {SK : Nat → Nat} {a0 : Nat} {a1 : Int32} {a2 : Int32} {a3 : Nat} {σ : pS} {r : Int32 × pS} (hW : WT G) (i0 : Is G a0 10) (i3 : Is G a3 14) (h : fL_ahead N G a0 a1 a2 a3 σ = some r) : DxH miL_ahead yL_ahead 10 2 12 G SK [.ref a0, .int a1, .int a2, .ref a3] σ (.inl (some (.int r.1), r.2)) := by
  unfold fL_ahead at h
  refine dxh_of (lv := [some (.ref a0), some (.int a1), some (.int a2), some (.ref a3), none]) (by decide) rfl (Nat.le_of_ble_eq_true rfl) rfl ?_
  refine ev_aload_n dc_L_ahead_0 rfl ?_
  refine ev_iconst (v := 0) dc_L_ahead_1 (by decide) ?_
  refine ev_aload_n dc_L_ahead_2 rfl ?_
  refine ev_iload_n dc_L_ahead_3 rfl ?_
  refine ev_iload_n dc_L_ahead_4 rfl ?_
  obtain ⟨q1, hq1, h⟩ := Option.bind_eq_some_iff.mp h
  refine ev_callC (av := [.int a1, .int a2]) (st := [.int (0 : Int32), .ref a3]) dc_L_ahead_5 (tX11_ahead hW i0 hq1) mw_1259 cy_X11_ahead i0 (by decide) rfl rfl rfl (Nat.le_of_ble_eq_true rfl) (Nat.le_of_ble_eq_true rfl) ⟨Nat.le_of_ble_eq_true rfl, Nat.le_of_ble_eq_true rfl⟩ ?_ ?_
  · intro e he
    rcases q1 with zs2 | zs2
    · have he : (Sum.inl (some (.int zs2.1), zs2.2) : XO) = .inr e := he
      cases he
    · have he : (Sum.inr zs2 : XO) = .inr e := he
      have he := Sum.inr.inj he
      subst he
      dsimp only [Sum.elim] at h
      by_cases e0 : zs2.1 = "java/lang/IndexOutOfBoundsException"
      · rw [if_pos e0] at h
        refine ⟨[], (0, 10, 13, 24), _, "java/lang/IndexOutOfBoundsException", rfl, ?_, rfl, by decide, mw_1033, ?_, fun ax => ?_⟩
        · intro w hw
          cases hw
        · rw [e0]
          exact List.mem_of_getElem? (i := 2) rfl
        · refine ev_astore (lv' := [some (.ref a0), some (.int a1), some (.int a2), some (.ref a3), some (.ref ax)]) dc_L_ahead_13 rfl (by decide) rfl ?_
          refine ev_iconst (v := 1) dc_L_ahead_15 (by decide) ?_
          cases h
          exact ev_iretX dc_L_ahead_16 rfl ⟨Nat.le_of_ble_eq_true rfl, Nat.le_of_ble_eq_true rfl⟩ rfl rfl
      rw [if_neg e0] at h
      by_cases e1 : zs2.1 = "java/lang/IllegalArgumentException"
      · rw [if_pos e1] at h
        refine ⟨[(0, 10, 13, 24)], (0, 10, 17, 13), _, "java/lang/IllegalArgumentException", rfl, ?_, rfl, by decide, mw_677, ?_, fun ax => ?_⟩
        · intro w hw
          rcases List.mem_singleton.mp hw with rfl
          exact ⟨by decide, "java/lang/IndexOutOfBoundsException", mw_1033, by rw [e1]; exact List.mem_of_getElem? (i := 1) rfl⟩
        · rw [e1]
          exact List.mem_of_getElem? (i := 0) rfl
        · refine ev_astore (lv' := [some (.ref a0), some (.int a1), some (.int a2), some (.ref a3), some (.ref ax)]) dc_L_ahead_17 rfl (by decide) rfl ?_
          refine ev_iconst (v := 2) dc_L_ahead_19 (by decide) ?_
          cases h
          exact ev_iretX dc_L_ahead_20 rfl ⟨Nat.le_of_ble_eq_true rfl, Nat.le_of_ble_eq_true rfl⟩ rfl rfl
      rw [if_neg e1] at h
      cases h
  intro e he
  rcases q1 with zs2 | zs2
  rotate_left
  · have he : (Sum.inr zs2 : XO) = .inl e := he
    cases he
  have he : (Sum.inl (some (.int zs2.1), zs2.2) : XO) = .inl e := he
  cases he
  dsimp only [Sum.elim] at h
  show Ev miL_ahead (10, 2, 12) G (Zx G (.inl (some (.int r.1), r.2)) 2 12) SK (2, 12) 8 [some (.ref a0), some (.int a1), some (.int a2), some (.ref a3), none] [.int zs2.1, .int (0 : Int32), .ref a3] zs2.2
  refine ev_i2l dc_L_ahead_8 ?_
  refine ev_last dc_L_ahead_9 i3 h (fun h => ?_)
  refine ev_goto (tgt := 21) dc_L_ahead_10 (by decide) ?_
  refine ev_iconst (v := 0) dc_L_ahead_21 (by decide) ?_
  cases h
  exact ev_iretX dc_L_ahead_22 rfl ⟨Nat.le_of_ble_eq_true rfl, Nat.le_of_ble_eq_true rfl⟩ rfl rfl
theorem dc_L_first_0 : Dc miL_first 0 (.aload_n 2) 1 1 := ⟨by decide +kernel, rfl⟩
theorem dc_L_first_1 : Dc miL_first 1 (.iconst 0) 1 2 := ⟨by decide +kernel, rfl⟩
theorem dc_L_first_2 : Dc miL_first 2 (.aload_n 0) 1 3 := ⟨by decide +kernel, rfl⟩
theorem dc_L_first_3 : Dc miL_first 3 (.iload_n 1) 1 4 := ⟨by decide +kernel, rfl⟩
theorem dc_L_first_4 : Dc miL_first 4 (.invokevirtual 73) 3 7 := ⟨by decide +kernel, rfl⟩
theorem dc_L_first_7 : Dc miL_first 7 (.i2l) 1 8 := ⟨by decide +kernel, rfl⟩
theorem dc_L_first_8 : Dc miL_first 8 (.lastore) 1 9 := ⟨by decide +kernel, rfl⟩
theorem dc_L_first_9 : Dc miL_first 9 (.goto 6) 3 12 := ⟨by decide +kernel, rfl⟩
theorem dc_L_first_12 : Dc miL_first 12 (.astore_n 3) 1 13 := ⟨by decide +kernel, rfl⟩
theorem dc_L_first_13 : Dc miL_first 13 (.iconst 1) 1 14 := ⟨by decide +kernel, rfl⟩
theorem dc_L_first_14 : Dc miL_first 14 (.ireturn) 1 15 := ⟨by decide +kernel, rfl⟩
theorem dc_L_first_15 : Dc miL_first 15 (.iconst 0) 1 16 := ⟨by decide +kernel, rfl⟩
theorem dc_L_first_16 : Dc miL_first 16 (.ireturn) 1 17 := ⟨by decide +kernel, rfl⟩
def fL_first (N : Nat) (G : pG) (a0 : Nat) (a1 : Int32) (a2 : Nat) (σ : pS) : Option (Int32 × pS) := (fX11_first N G a0 a1 σ).bind (fun q1 => q1.elim (fun zs2 => ck (inB (0 : Int32) (pN G a2)) (some ((0 : Int32), sJ zs2.2 a2 (0 : Int32) zs2.1.toInt64))) (fun e => if e.1 = "java/lang/IndexOutOfBoundsException" then (some ((1 : Int32), e.2)) else (none)))
set_option maxRecDepth 100000 in
set_option maxHeartbeats 4000000 in
theorem tL_first {N : Nat} {G : pG} {SK : Nat → Nat} {a0 : Nat} {a1 : Int32} {a2 : Nat} {σ : pS} {r : Int32 × pS} (hW : WT G) (i0 : Is G a0 10) (i2 : Is G a2 14) (h : fL_first N G a0 a1 a2 σ = some r) : DxH miL_first yL_first 10 1 6 G SK [.ref a0, .int a1, .ref a2] σ (.inl (some (.int r.1), r.2)) := by
  unfold fL_first at h
  refine dxh_of (lv := [some (.ref a0), some (.int a1), some (.ref a2), none]) (by decide) rfl (Nat.le_of_ble_eq_true rfl) rfl ?_
  refine ev_aload_n dc_L_first_0 rfl ?_
  refine ev_iconst (v := 0) dc_L_first_1 (by decide) ?_
  refine ev_aload_n dc_L_first_2 rfl ?_
  refine ev_iload_n dc_L_first_3 rfl ?_
  obtain ⟨q1, hq1, h⟩ := Option.bind_eq_some_iff.mp h
  refine ev_callC (av := [.int a1]) (st := [.int (0 : Int32), .ref a2]) dc_L_first_4 (tX11_first hW i0 hq1) mw_1274 cy_X11_first i0 (by decide) rfl rfl rfl (Nat.le_of_ble_eq_true rfl) (Nat.le_of_ble_eq_true rfl) ⟨Nat.le_of_ble_eq_true rfl, Nat.le_of_ble_eq_true rfl⟩ ?_ ?_
  · intro e he
    rcases q1 with zs2 | zs2
    · have he : (Sum.inl (some (.int zs2.1), zs2.2) : XO) = .inr e := he
      cases he
    · have he : (Sum.inr zs2 : XO) = .inr e := he
      have he := Sum.inr.inj he
      subst he
      dsimp only [Sum.elim] at h
      by_cases e0 : zs2.1 = "java/lang/IndexOutOfBoundsException"
      · rw [if_pos e0] at h
        refine ⟨[], (0, 9, 12, 24), _, "java/lang/IndexOutOfBoundsException", rfl, ?_, rfl, by decide, mw_1033, ?_, fun ax => ?_⟩
        · intro w hw
          cases hw
        · rw [e0]
          exact List.mem_of_getElem? (i := 2) rfl
        · refine ev_astore_n (lv' := [some (.ref a0), some (.int a1), some (.ref a2), some (.ref ax)]) dc_L_first_12 rfl (by decide) rfl ?_
          refine ev_iconst (v := 1) dc_L_first_13 (by decide) ?_
          cases h
          exact ev_iretX dc_L_first_14 rfl ⟨Nat.le_of_ble_eq_true rfl, Nat.le_of_ble_eq_true rfl⟩ rfl rfl
      rw [if_neg e0] at h
      cases h
  intro e he
  rcases q1 with zs2 | zs2
  rotate_left
  · have he : (Sum.inr zs2 : XO) = .inl e := he
    cases he
  have he : (Sum.inl (some (.int zs2.1), zs2.2) : XO) = .inl e := he
  cases he
  dsimp only [Sum.elim] at h
  show Ev miL_first (10, 1, 6) G (Zx G (.inl (some (.int r.1), r.2)) 1 6) SK (1, 6) 7 [some (.ref a0), some (.int a1), some (.ref a2), none] [.int zs2.1, .int (0 : Int32), .ref a2] zs2.2
  refine ev_i2l dc_L_first_7 ?_
  refine ev_last dc_L_first_8 i2 h (fun h => ?_)
  refine ev_goto (tgt := 15) dc_L_first_9 (by decide) ?_
  refine ev_iconst (v := 0) dc_L_first_15 (by decide) ?_
  cases h
  exact ev_iretX dc_L_first_16 rfl ⟨Nat.le_of_ble_eq_true rfl, Nat.le_of_ble_eq_true rfl⟩ rfl rfl
theorem dc_L_siege_0 : Dc miL_siege 0 (.aload_n 2) 1 1 := ⟨by decide +kernel, rfl⟩
theorem dc_L_siege_1 : Dc miL_siege 1 (.iconst 0) 1 2 := ⟨by decide +kernel, rfl⟩
theorem dc_L_siege_2 : Dc miL_siege 2 (.aload_n 0) 1 3 := ⟨by decide +kernel, rfl⟩
theorem dc_L_siege_3 : Dc miL_siege 3 (.iload_n 1) 1 4 := ⟨by decide +kernel, rfl⟩
theorem dc_L_siege_4 : Dc miL_siege 4 (.invokevirtual 76) 3 7 := ⟨by decide +kernel, rfl⟩
theorem dc_L_siege_7 : Dc miL_siege 7 (.i2l) 1 8 := ⟨by decide +kernel, rfl⟩
theorem dc_L_siege_8 : Dc miL_siege 8 (.lastore) 1 9 := ⟨by decide +kernel, rfl⟩
theorem dc_L_siege_9 : Dc miL_siege 9 (.goto 6) 3 12 := ⟨by decide +kernel, rfl⟩
theorem dc_L_siege_12 : Dc miL_siege 12 (.astore_n 3) 1 13 := ⟨by decide +kernel, rfl⟩
theorem dc_L_siege_13 : Dc miL_siege 13 (.iconst 1) 1 14 := ⟨by decide +kernel, rfl⟩
theorem dc_L_siege_14 : Dc miL_siege 14 (.ireturn) 1 15 := ⟨by decide +kernel, rfl⟩
theorem dc_L_siege_15 : Dc miL_siege 15 (.iconst 0) 1 16 := ⟨by decide +kernel, rfl⟩
theorem dc_L_siege_16 : Dc miL_siege 16 (.ireturn) 1 17 := ⟨by decide +kernel, rfl⟩
def fL_siege (N : Nat) (G : pG) (a0 : Nat) (a1 : Int32) (a2 : Nat) (σ : pS) : Option (Int32 × pS) := (fX11_siege N G a0 a1 σ).bind (fun q1 => q1.elim (fun zs2 => ck (inB (0 : Int32) (pN G a2)) (some ((0 : Int32), sJ zs2.2 a2 (0 : Int32) zs2.1.toInt64))) (fun e => if e.1 = "java/lang/IllegalArgumentException" then (some ((1 : Int32), e.2)) else (none)))
set_option maxRecDepth 100000 in
set_option maxHeartbeats 4000000 in
theorem tL_siege {N : Nat} {G : pG} {SK : Nat → Nat} {a0 : Nat} {a1 : Int32} {a2 : Nat} {σ : pS} {r : Int32 × pS} (hW : WT G) (i0 : Is G a0 10) (i2 : Is G a2 14) (h : fL_siege N G a0 a1 a2 σ = some r) : DxH miL_siege yL_siege 108 1 6 G SK [.ref a0, .int a1, .ref a2] σ (.inl (some (.int r.1), r.2)) := by
  unfold fL_siege at h
  refine dxh_of (lv := [some (.ref a0), some (.int a1), some (.ref a2), none]) (by decide) rfl (Nat.le_of_ble_eq_true rfl) rfl ?_
  refine ev_aload_n dc_L_siege_0 rfl ?_
  refine ev_iconst (v := 0) dc_L_siege_1 (by decide) ?_
  refine ev_aload_n dc_L_siege_2 rfl ?_
  refine ev_iload_n dc_L_siege_3 rfl ?_
  obtain ⟨q1, hq1, h⟩ := Option.bind_eq_some_iff.mp h
  refine ev_callC (av := [.int a1]) (st := [.int (0 : Int32), .ref a2]) dc_L_siege_4 (tX11_siege hW i0 hq1) mw_1281 cy_X11_siege i0 (by decide) rfl rfl rfl (Nat.le_of_ble_eq_true rfl) (Nat.le_of_ble_eq_true rfl) ⟨Nat.le_of_ble_eq_true rfl, Nat.le_of_ble_eq_true rfl⟩ ?_ ?_
  · intro e he
    rcases q1 with zs2 | zs2
    · have he : (Sum.inl (some (.int zs2.1), zs2.2) : XO) = .inr e := he
      cases he
    · have he : (Sum.inr zs2 : XO) = .inr e := he
      have he := Sum.inr.inj he
      subst he
      dsimp only [Sum.elim] at h
      by_cases e0 : zs2.1 = "java/lang/IllegalArgumentException"
      · rw [if_pos e0] at h
        refine ⟨[], (0, 9, 12, 13), _, "java/lang/IllegalArgumentException", rfl, ?_, rfl, by decide, mw_677, ?_, fun ax => ?_⟩
        · intro w hw
          cases hw
        · rw [e0]
          exact List.mem_of_getElem? (i := 0) rfl
        · refine ev_astore_n (lv' := [some (.ref a0), some (.int a1), some (.ref a2), some (.ref ax)]) dc_L_siege_12 rfl (by decide) rfl ?_
          refine ev_iconst (v := 1) dc_L_siege_13 (by decide) ?_
          cases h
          exact ev_iretX dc_L_siege_14 rfl ⟨Nat.le_of_ble_eq_true rfl, Nat.le_of_ble_eq_true rfl⟩ rfl rfl
      rw [if_neg e0] at h
      cases h
  intro e he
  rcases q1 with zs2 | zs2
  rotate_left
  · have he : (Sum.inr zs2 : XO) = .inl e := he
    cases he
  have he : (Sum.inl (some (.int zs2.1), zs2.2) : XO) = .inl e := he
  cases he
  dsimp only [Sum.elim] at h
  show Ev miL_siege (108, 1, 6) G (Zx G (.inl (some (.int r.1), r.2)) 1 6) SK (1, 6) 7 [some (.ref a0), some (.int a1), some (.ref a2), none] [.int zs2.1, .int (0 : Int32), .ref a2] zs2.2
  refine ev_i2l dc_L_siege_7 ?_
  refine ev_last dc_L_siege_8 i2 h (fun h => ?_)
  refine ev_goto (tgt := 15) dc_L_siege_9 (by decide) ?_
  refine ev_iconst (v := 0) dc_L_siege_15 (by decide) ?_
  cases h
  exact ev_iretX dc_L_siege_16 rfl ⟨Nat.le_of_ble_eq_true rfl, Nat.le_of_ble_eq_true rfl⟩ rfl rfl
theorem dc_L_plan_0 : Dc miL_plan 0 (.aload_n 2) 1 1 := ⟨by decide +kernel, rfl⟩
theorem dc_L_plan_1 : Dc miL_plan 1 (.iconst 0) 1 2 := ⟨by decide +kernel, rfl⟩
theorem dc_L_plan_2 : Dc miL_plan 2 (.aload_n 0) 1 3 := ⟨by decide +kernel, rfl⟩
theorem dc_L_plan_3 : Dc miL_plan 3 (.iload_n 1) 1 4 := ⟨by decide +kernel, rfl⟩
theorem dc_L_plan_4 : Dc miL_plan 4 (.invokevirtual 79) 3 7 := ⟨by decide +kernel, rfl⟩
theorem dc_L_plan_7 : Dc miL_plan 7 (.i2l) 1 8 := ⟨by decide +kernel, rfl⟩
theorem dc_L_plan_8 : Dc miL_plan 8 (.lastore) 1 9 := ⟨by decide +kernel, rfl⟩
theorem dc_L_plan_9 : Dc miL_plan 9 (.goto 6) 3 12 := ⟨by decide +kernel, rfl⟩
theorem dc_L_plan_12 : Dc miL_plan 12 (.astore_n 3) 1 13 := ⟨by decide +kernel, rfl⟩
theorem dc_L_plan_13 : Dc miL_plan 13 (.iconst 1) 1 14 := ⟨by decide +kernel, rfl⟩
theorem dc_L_plan_14 : Dc miL_plan 14 (.ireturn) 1 15 := ⟨by decide +kernel, rfl⟩
theorem dc_L_plan_15 : Dc miL_plan 15 (.iconst 0) 1 16 := ⟨by decide +kernel, rfl⟩
theorem dc_L_plan_16 : Dc miL_plan 16 (.ireturn) 1 17 := ⟨by decide +kernel, rfl⟩
def fL_plan (N : Nat) (G : pG) (a0 : Nat) (a1 : Int32) (a2 : Nat) (σ : pS) : Option (Int32 × pS) := (fX11_plan N G a0 a1 σ).bind (fun q1 => q1.elim (fun zs2 => ck (inB (0 : Int32) (pN G a2)) (some ((0 : Int32), sJ zs2.2 a2 (0 : Int32) zs2.1.toInt64))) (fun e => if e.1 = "java/lang/IllegalArgumentException" then (some ((1 : Int32), e.2)) else (none)))
set_option maxRecDepth 100000 in
set_option maxHeartbeats 4000000 in
theorem tL_plan {N : Nat} {G : pG} {SK : Nat → Nat} {a0 : Nat} {a1 : Int32} {a2 : Nat} {σ : pS} {r : Int32 × pS} (hW : WT G) (i0 : Is G a0 10) (i2 : Is G a2 14) (h : fL_plan N G a0 a1 a2 σ = some r) : DxH miL_plan yL_plan 114 1 6 G SK [.ref a0, .int a1, .ref a2] σ (.inl (some (.int r.1), r.2)) := by
  unfold fL_plan at h
  refine dxh_of (lv := [some (.ref a0), some (.int a1), some (.ref a2), none]) (by decide) rfl (Nat.le_of_ble_eq_true rfl) rfl ?_
  refine ev_aload_n dc_L_plan_0 rfl ?_
  refine ev_iconst (v := 0) dc_L_plan_1 (by decide) ?_
  refine ev_aload_n dc_L_plan_2 rfl ?_
  refine ev_iload_n dc_L_plan_3 rfl ?_
  obtain ⟨q1, hq1, h⟩ := Option.bind_eq_some_iff.mp h
  refine ev_callC (av := [.int a1]) (st := [.int (0 : Int32), .ref a2]) dc_L_plan_4 (tX11_plan hW i0 hq1) mw_1325 cy_X11_plan i0 (by decide) rfl rfl rfl (Nat.le_of_ble_eq_true rfl) (Nat.le_of_ble_eq_true rfl) ⟨Nat.le_of_ble_eq_true rfl, Nat.le_of_ble_eq_true rfl⟩ ?_ ?_
  · intro e he
    rcases q1 with zs2 | zs2
    · have he : (Sum.inl (some (.int zs2.1), zs2.2) : XO) = .inr e := he
      cases he
    · have he : (Sum.inr zs2 : XO) = .inr e := he
      have he := Sum.inr.inj he
      subst he
      dsimp only [Sum.elim] at h
      by_cases e0 : zs2.1 = "java/lang/IllegalArgumentException"
      · rw [if_pos e0] at h
        refine ⟨[], (0, 9, 12, 13), _, "java/lang/IllegalArgumentException", rfl, ?_, rfl, by decide, mw_677, ?_, fun ax => ?_⟩
        · intro w hw
          cases hw
        · rw [e0]
          exact List.mem_of_getElem? (i := 0) rfl
        · refine ev_astore_n (lv' := [some (.ref a0), some (.int a1), some (.ref a2), some (.ref ax)]) dc_L_plan_12 rfl (by decide) rfl ?_
          refine ev_iconst (v := 1) dc_L_plan_13 (by decide) ?_
          cases h
          exact ev_iretX dc_L_plan_14 rfl ⟨Nat.le_of_ble_eq_true rfl, Nat.le_of_ble_eq_true rfl⟩ rfl rfl
      rw [if_neg e0] at h
      cases h
  intro e he
  rcases q1 with zs2 | zs2
  rotate_left
  · have he : (Sum.inr zs2 : XO) = .inl e := he
    cases he
  have he : (Sum.inl (some (.int zs2.1), zs2.2) : XO) = .inl e := he
  cases he
  dsimp only [Sum.elim] at h
  show Ev miL_plan (114, 1, 6) G (Zx G (.inl (some (.int r.1), r.2)) 1 6) SK (1, 6) 7 [some (.ref a0), some (.int a1), some (.ref a2), none] [.int zs2.1, .int (0 : Int32), .ref a2] zs2.2
  refine ev_i2l dc_L_plan_7 ?_
  refine ev_last dc_L_plan_8 i2 h (fun h => ?_)
  refine ev_goto (tgt := 15) dc_L_plan_9 (by decide) ?_
  refine ev_iconst (v := 0) dc_L_plan_15 (by decide) ?_
  cases h
  exact ev_iretX dc_L_plan_16 rfl ⟨Nat.le_of_ble_eq_true rfl, Nat.le_of_ble_eq_true rfl⟩ rfl rfl
theorem dc_L_keeps_0 : Dc miL_keeps 0 (.aload_n 3) 1 1 := ⟨by decide +kernel, rfl⟩
theorem dc_L_keeps_1 : Dc miL_keeps 1 (.iconst 0) 1 2 := ⟨by decide +kernel, rfl⟩
theorem dc_L_keeps_2 : Dc miL_keeps 2 (.aload_n 0) 1 3 := ⟨by decide +kernel, rfl⟩
theorem dc_L_keeps_3 : Dc miL_keeps 3 (.iload_n 1) 1 4 := ⟨by decide +kernel, rfl⟩
theorem dc_L_keeps_4 : Dc miL_keeps 4 (.iload_n 2) 1 5 := ⟨by decide +kernel, rfl⟩
theorem dc_L_keeps_5 : Dc miL_keeps 5 (.invokevirtual 82) 3 8 := ⟨by decide +kernel, rfl⟩
theorem dc_L_keeps_8 : Dc miL_keeps 8 (.i2l) 1 9 := ⟨by decide +kernel, rfl⟩
theorem dc_L_keeps_9 : Dc miL_keeps 9 (.lastore) 1 10 := ⟨by decide +kernel, rfl⟩
theorem dc_L_keeps_10 : Dc miL_keeps 10 (.goto 7) 3 13 := ⟨by decide +kernel, rfl⟩
theorem dc_L_keeps_13 : Dc miL_keeps 13 (.astore 4) 2 15 := ⟨by decide +kernel, rfl⟩
theorem dc_L_keeps_15 : Dc miL_keeps 15 (.iconst 1) 1 16 := ⟨by decide +kernel, rfl⟩
theorem dc_L_keeps_16 : Dc miL_keeps 16 (.ireturn) 1 17 := ⟨by decide +kernel, rfl⟩
theorem dc_L_keeps_17 : Dc miL_keeps 17 (.iconst 0) 1 18 := ⟨by decide +kernel, rfl⟩
theorem dc_L_keeps_18 : Dc miL_keeps 18 (.ireturn) 1 19 := ⟨by decide +kernel, rfl⟩
def fL_keeps (N : Nat) (G : pG) (a0 : Nat) (a1 : Int32) (a2 : Int32) (a3 : Nat) (σ : pS) : Option (Int32 × pS) := (fX11_keeps N G a0 a1 a2 σ).bind (fun q1 => q1.elim (fun zs2 => ck (inB (0 : Int32) (pN G a3)) (some ((0 : Int32), sJ zs2.2 a3 (0 : Int32) zs2.1.toInt64))) (fun e => if e.1 = "java/lang/IllegalArgumentException" then (some ((1 : Int32), e.2)) else (none)))
set_option maxRecDepth 100000 in
set_option maxHeartbeats 4000000 in
theorem tL_keeps {N : Nat} {G : pG} {SK : Nat → Nat} {a0 : Nat} {a1 : Int32} {a2 : Int32} {a3 : Nat} {σ : pS} {r : Int32 × pS} (hW : WT G) (i0 : Is G a0 10) (i3 : Is G a3 14) (h : fL_keeps N G a0 a1 a2 a3 σ = some r) : DxH miL_keeps yL_keeps 108 1 6 G SK [.ref a0, .int a1, .int a2, .ref a3] σ (.inl (some (.int r.1), r.2)) := by
  unfold fL_keeps at h
  refine dxh_of (lv := [some (.ref a0), some (.int a1), some (.int a2), some (.ref a3), none]) (by decide) rfl (Nat.le_of_ble_eq_true rfl) rfl ?_
  refine ev_aload_n dc_L_keeps_0 rfl ?_
  refine ev_iconst (v := 0) dc_L_keeps_1 (by decide) ?_
  refine ev_aload_n dc_L_keeps_2 rfl ?_
  refine ev_iload_n dc_L_keeps_3 rfl ?_
  refine ev_iload_n dc_L_keeps_4 rfl ?_
  obtain ⟨q1, hq1, h⟩ := Option.bind_eq_some_iff.mp h
  refine ev_callC (av := [.int a1, .int a2]) (st := [.int (0 : Int32), .ref a3]) dc_L_keeps_5 (tX11_keeps hW i0 hq1) mw_1336 cy_X11_keeps i0 (by decide) rfl rfl rfl (Nat.le_of_ble_eq_true rfl) (Nat.le_of_ble_eq_true rfl) ⟨Nat.le_of_ble_eq_true rfl, Nat.le_of_ble_eq_true rfl⟩ ?_ ?_
  · intro e he
    rcases q1 with zs2 | zs2
    · have he : (Sum.inl (some (.int zs2.1), zs2.2) : XO) = .inr e := he
      cases he
    · have he : (Sum.inr zs2 : XO) = .inr e := he
      have he := Sum.inr.inj he
      subst he
      dsimp only [Sum.elim] at h
      by_cases e0 : zs2.1 = "java/lang/IllegalArgumentException"
      · rw [if_pos e0] at h
        refine ⟨[], (0, 10, 13, 13), _, "java/lang/IllegalArgumentException", rfl, ?_, rfl, by decide, mw_677, ?_, fun ax => ?_⟩
        · intro w hw
          cases hw
        · rw [e0]
          exact List.mem_of_getElem? (i := 0) rfl
        · refine ev_astore (lv' := [some (.ref a0), some (.int a1), some (.int a2), some (.ref a3), some (.ref ax)]) dc_L_keeps_13 rfl (by decide) rfl ?_
          refine ev_iconst (v := 1) dc_L_keeps_15 (by decide) ?_
          cases h
          exact ev_iretX dc_L_keeps_16 rfl ⟨Nat.le_of_ble_eq_true rfl, Nat.le_of_ble_eq_true rfl⟩ rfl rfl
      rw [if_neg e0] at h
      cases h
  intro e he
  rcases q1 with zs2 | zs2
  rotate_left
  · have he : (Sum.inr zs2 : XO) = .inl e := he
    cases he
  have he : (Sum.inl (some (.int zs2.1), zs2.2) : XO) = .inl e := he
  cases he
  dsimp only [Sum.elim] at h
  show Ev miL_keeps (108, 1, 6) G (Zx G (.inl (some (.int r.1), r.2)) 1 6) SK (1, 6) 8 [some (.ref a0), some (.int a1), some (.int a2), some (.ref a3), none] [.int zs2.1, .int (0 : Int32), .ref a3] zs2.2
  refine ev_i2l dc_L_keeps_8 ?_
  refine ev_last dc_L_keeps_9 i3 h (fun h => ?_)
  refine ev_goto (tgt := 17) dc_L_keeps_10 (by decide) ?_
  refine ev_iconst (v := 0) dc_L_keeps_17 (by decide) ?_
  cases h
  exact ev_iretX dc_L_keeps_18 rfl ⟨Nat.le_of_ble_eq_true rfl, Nat.le_of_ble_eq_true rfl⟩ rfl rfl
theorem dc_L_fewest_0 : Dc miL_fewest 0 (.aload_n 2) 1 1 := ⟨by decide +kernel, rfl⟩
theorem dc_L_fewest_1 : Dc miL_fewest 1 (.iconst 0) 1 2 := ⟨by decide +kernel, rfl⟩
theorem dc_L_fewest_2 : Dc miL_fewest 2 (.aload_n 0) 1 3 := ⟨by decide +kernel, rfl⟩
theorem dc_L_fewest_3 : Dc miL_fewest 3 (.iload_n 1) 1 4 := ⟨by decide +kernel, rfl⟩
theorem dc_L_fewest_4 : Dc miL_fewest 4 (.invokevirtual 85) 3 7 := ⟨by decide +kernel, rfl⟩
theorem dc_L_fewest_7 : Dc miL_fewest 7 (.i2l) 1 8 := ⟨by decide +kernel, rfl⟩
theorem dc_L_fewest_8 : Dc miL_fewest 8 (.lastore) 1 9 := ⟨by decide +kernel, rfl⟩
theorem dc_L_fewest_9 : Dc miL_fewest 9 (.goto 6) 3 12 := ⟨by decide +kernel, rfl⟩
theorem dc_L_fewest_12 : Dc miL_fewest 12 (.astore_n 3) 1 13 := ⟨by decide +kernel, rfl⟩
theorem dc_L_fewest_13 : Dc miL_fewest 13 (.iconst 1) 1 14 := ⟨by decide +kernel, rfl⟩
theorem dc_L_fewest_14 : Dc miL_fewest 14 (.ireturn) 1 15 := ⟨by decide +kernel, rfl⟩
theorem dc_L_fewest_15 : Dc miL_fewest 15 (.iconst 0) 1 16 := ⟨by decide +kernel, rfl⟩
theorem dc_L_fewest_16 : Dc miL_fewest 16 (.ireturn) 1 17 := ⟨by decide +kernel, rfl⟩
def fL_fewest (N : Nat) (G : pG) (a0 : Nat) (a1 : Int32) (a2 : Nat) (σ : pS) : Option (Int32 × pS) := (fX11_fewest N G a0 a1 σ).bind (fun q1 => q1.elim (fun zs2 => ck (inB (0 : Int32) (pN G a2)) (some ((0 : Int32), sJ zs2.2 a2 (0 : Int32) zs2.1.toInt64))) (fun e => if e.1 = "java/lang/IndexOutOfBoundsException" then (some ((1 : Int32), e.2)) else (none)))
set_option maxRecDepth 100000 in
set_option maxHeartbeats 4000000 in
theorem tL_fewest {N : Nat} {G : pG} {SK : Nat → Nat} {a0 : Nat} {a1 : Int32} {a2 : Nat} {σ : pS} {r : Int32 × pS} (hW : WT G) (i0 : Is G a0 10) (i2 : Is G a2 14) (h : fL_fewest N G a0 a1 a2 σ = some r) : DxH miL_fewest yL_fewest 9 1 6 G SK [.ref a0, .int a1, .ref a2] σ (.inl (some (.int r.1), r.2)) := by
  unfold fL_fewest at h
  refine dxh_of (lv := [some (.ref a0), some (.int a1), some (.ref a2), none]) (by decide) rfl (Nat.le_of_ble_eq_true rfl) rfl ?_
  refine ev_aload_n dc_L_fewest_0 rfl ?_
  refine ev_iconst (v := 0) dc_L_fewest_1 (by decide) ?_
  refine ev_aload_n dc_L_fewest_2 rfl ?_
  refine ev_iload_n dc_L_fewest_3 rfl ?_
  obtain ⟨q1, hq1, h⟩ := Option.bind_eq_some_iff.mp h
  refine ev_callC (av := [.int a1]) (st := [.int (0 : Int32), .ref a2]) dc_L_fewest_4 (tX11_fewest hW i0 hq1) mw_1347 cy_X11_fewest i0 (by decide) rfl rfl rfl (Nat.le_of_ble_eq_true rfl) (Nat.le_of_ble_eq_true rfl) ⟨Nat.le_of_ble_eq_true rfl, Nat.le_of_ble_eq_true rfl⟩ ?_ ?_
  · intro e he
    rcases q1 with zs2 | zs2
    · have he : (Sum.inl (some (.int zs2.1), zs2.2) : XO) = .inr e := he
      cases he
    · have he : (Sum.inr zs2 : XO) = .inr e := he
      have he := Sum.inr.inj he
      subst he
      dsimp only [Sum.elim] at h
      by_cases e0 : zs2.1 = "java/lang/IndexOutOfBoundsException"
      · rw [if_pos e0] at h
        refine ⟨[], (0, 9, 12, 24), _, "java/lang/IndexOutOfBoundsException", rfl, ?_, rfl, by decide, mw_1033, ?_, fun ax => ?_⟩
        · intro w hw
          cases hw
        · rw [e0]
          exact List.mem_of_getElem? (i := 2) rfl
        · refine ev_astore_n (lv' := [some (.ref a0), some (.int a1), some (.ref a2), some (.ref ax)]) dc_L_fewest_12 rfl (by decide) rfl ?_
          refine ev_iconst (v := 1) dc_L_fewest_13 (by decide) ?_
          cases h
          exact ev_iretX dc_L_fewest_14 rfl ⟨Nat.le_of_ble_eq_true rfl, Nat.le_of_ble_eq_true rfl⟩ rfl rfl
      rw [if_neg e0] at h
      cases h
  intro e he
  rcases q1 with zs2 | zs2
  rotate_left
  · have he : (Sum.inr zs2 : XO) = .inl e := he
    cases he
  have he : (Sum.inl (some (.int zs2.1), zs2.2) : XO) = .inl e := he
  cases he
  dsimp only [Sum.elim] at h
  show Ev miL_fewest (9, 1, 6) G (Zx G (.inl (some (.int r.1), r.2)) 1 6) SK (1, 6) 7 [some (.ref a0), some (.int a1), some (.ref a2), none] [.int zs2.1, .int (0 : Int32), .ref a2] zs2.2
  refine ev_i2l dc_L_fewest_7 ?_
  refine ev_last dc_L_fewest_8 i2 h (fun h => ?_)
  refine ev_goto (tgt := 15) dc_L_fewest_9 (by decide) ?_
  refine ev_iconst (v := 0) dc_L_fewest_15 (by decide) ?_
  cases h
  exact ev_iretX dc_L_fewest_16 rfl ⟨Nat.le_of_ble_eq_true rfl, Nat.le_of_ble_eq_true rfl⟩ rfl rfl
theorem dc_L_silence_0 : Dc miL_silence 0 (.aload_n 2) 1 1 := ⟨by decide +kernel, rfl⟩
theorem dc_L_silence_1 : Dc miL_silence 1 (.iconst 0) 1 2 := ⟨by decide +kernel, rfl⟩
theorem dc_L_silence_2 : Dc miL_silence 2 (.aload_n 0) 1 3 := ⟨by decide +kernel, rfl⟩
theorem dc_L_silence_3 : Dc miL_silence 3 (.iload_n 1) 1 4 := ⟨by decide +kernel, rfl⟩
theorem dc_L_silence_4 : Dc miL_silence 4 (.invokevirtual 88) 3 7 := ⟨by decide +kernel, rfl⟩
theorem dc_L_silence_7 : Dc miL_silence 7 (.i2l) 1 8 := ⟨by decide +kernel, rfl⟩
theorem dc_L_silence_8 : Dc miL_silence 8 (.lastore) 1 9 := ⟨by decide +kernel, rfl⟩
theorem dc_L_silence_9 : Dc miL_silence 9 (.goto 6) 3 12 := ⟨by decide +kernel, rfl⟩
theorem dc_L_silence_12 : Dc miL_silence 12 (.astore_n 3) 1 13 := ⟨by decide +kernel, rfl⟩
theorem dc_L_silence_13 : Dc miL_silence 13 (.iconst 1) 1 14 := ⟨by decide +kernel, rfl⟩
theorem dc_L_silence_14 : Dc miL_silence 14 (.ireturn) 1 15 := ⟨by decide +kernel, rfl⟩
theorem dc_L_silence_15 : Dc miL_silence 15 (.iconst 0) 1 16 := ⟨by decide +kernel, rfl⟩
theorem dc_L_silence_16 : Dc miL_silence 16 (.ireturn) 1 17 := ⟨by decide +kernel, rfl⟩
def fL_silence (N : Nat) (G : pG) (a0 : Nat) (a1 : Int32) (a2 : Nat) (σ : pS) : Option (Int32 × pS) := (fX11_silence N G a0 a1 σ).bind (fun q1 => q1.elim (fun zs2 => ck (inB (0 : Int32) (pN G a2)) (some ((0 : Int32), sJ zs2.2 a2 (0 : Int32) zs2.1.toInt64))) (fun e => if e.1 = "java/lang/IllegalArgumentException" then (some ((1 : Int32), e.2)) else (none)))
set_option maxRecDepth 100000 in
set_option maxHeartbeats 4000000 in
theorem tL_silence {N : Nat} {G : pG} {SK : Nat → Nat} {a0 : Nat} {a1 : Int32} {a2 : Nat} {σ : pS} {r : Int32 × pS} (hW : WT G) (i0 : Is G a0 10) (i2 : Is G a2 14) (h : fL_silence N G a0 a1 a2 σ = some r) : DxH miL_silence yL_silence 9 1 6 G SK [.ref a0, .int a1, .ref a2] σ (.inl (some (.int r.1), r.2)) := by
  unfold fL_silence at h
  refine dxh_of (lv := [some (.ref a0), some (.int a1), some (.ref a2), none]) (by decide) rfl (Nat.le_of_ble_eq_true rfl) rfl ?_
  refine ev_aload_n dc_L_silence_0 rfl ?_
  refine ev_iconst (v := 0) dc_L_silence_1 (by decide) ?_
  refine ev_aload_n dc_L_silence_2 rfl ?_
  refine ev_iload_n dc_L_silence_3 rfl ?_
  obtain ⟨q1, hq1, h⟩ := Option.bind_eq_some_iff.mp h
  refine ev_callC (av := [.int a1]) (st := [.int (0 : Int32), .ref a2]) dc_L_silence_4 (tX11_silence hW i0 hq1) mw_1385 cy_X11_silence i0 (by decide) rfl rfl rfl (Nat.le_of_ble_eq_true rfl) (Nat.le_of_ble_eq_true rfl) ⟨Nat.le_of_ble_eq_true rfl, Nat.le_of_ble_eq_true rfl⟩ ?_ ?_
  · intro e he
    rcases q1 with zs2 | zs2
    · have he : (Sum.inl (some (.int zs2.1), zs2.2) : XO) = .inr e := he
      cases he
    · have he : (Sum.inr zs2 : XO) = .inr e := he
      have he := Sum.inr.inj he
      subst he
      dsimp only [Sum.elim] at h
      by_cases e0 : zs2.1 = "java/lang/IllegalArgumentException"
      · rw [if_pos e0] at h
        refine ⟨[], (0, 9, 12, 13), _, "java/lang/IllegalArgumentException", rfl, ?_, rfl, by decide, mw_677, ?_, fun ax => ?_⟩
        · intro w hw
          cases hw
        · rw [e0]
          exact List.mem_of_getElem? (i := 0) rfl
        · refine ev_astore_n (lv' := [some (.ref a0), some (.int a1), some (.ref a2), some (.ref ax)]) dc_L_silence_12 rfl (by decide) rfl ?_
          refine ev_iconst (v := 1) dc_L_silence_13 (by decide) ?_
          cases h
          exact ev_iretX dc_L_silence_14 rfl ⟨Nat.le_of_ble_eq_true rfl, Nat.le_of_ble_eq_true rfl⟩ rfl rfl
      rw [if_neg e0] at h
      cases h
  intro e he
  rcases q1 with zs2 | zs2
  rotate_left
  · have he : (Sum.inr zs2 : XO) = .inl e := he
    cases he
  have he : (Sum.inl (some (.int zs2.1), zs2.2) : XO) = .inl e := he
  cases he
  dsimp only [Sum.elim] at h
  show Ev miL_silence (9, 1, 6) G (Zx G (.inl (some (.int r.1), r.2)) 1 6) SK (1, 6) 7 [some (.ref a0), some (.int a1), some (.ref a2), none] [.int zs2.1, .int (0 : Int32), .ref a2] zs2.2
  refine ev_i2l dc_L_silence_7 ?_
  refine ev_last dc_L_silence_8 i2 h (fun h => ?_)
  refine ev_goto (tgt := 15) dc_L_silence_9 (by decide) ?_
  refine ev_iconst (v := 0) dc_L_silence_15 (by decide) ?_
  cases h
  exact ev_iretX dc_L_silence_16 rfl ⟨Nat.le_of_ble_eq_true rfl, Nat.le_of_ble_eq_true rfl⟩ rfl rfl
theorem dc_L_belief_0 : Dc miL_belief 0 (.aload_n 2) 1 1 := ⟨by decide +kernel, rfl⟩
theorem dc_L_belief_1 : Dc miL_belief 1 (.iconst 0) 1 2 := ⟨by decide +kernel, rfl⟩
theorem dc_L_belief_2 : Dc miL_belief 2 (.aload_n 0) 1 3 := ⟨by decide +kernel, rfl⟩
theorem dc_L_belief_3 : Dc miL_belief 3 (.iload_n 1) 1 4 := ⟨by decide +kernel, rfl⟩
theorem dc_L_belief_4 : Dc miL_belief 4 (.invokevirtual 91) 3 7 := ⟨by decide +kernel, rfl⟩
theorem dc_L_belief_7 : Dc miL_belief 7 (.i2l) 1 8 := ⟨by decide +kernel, rfl⟩
theorem dc_L_belief_8 : Dc miL_belief 8 (.lastore) 1 9 := ⟨by decide +kernel, rfl⟩
theorem dc_L_belief_9 : Dc miL_belief 9 (.goto 6) 3 12 := ⟨by decide +kernel, rfl⟩
theorem dc_L_belief_12 : Dc miL_belief 12 (.astore_n 3) 1 13 := ⟨by decide +kernel, rfl⟩
theorem dc_L_belief_13 : Dc miL_belief 13 (.iconst 1) 1 14 := ⟨by decide +kernel, rfl⟩
theorem dc_L_belief_14 : Dc miL_belief 14 (.ireturn) 1 15 := ⟨by decide +kernel, rfl⟩
theorem dc_L_belief_15 : Dc miL_belief 15 (.iconst 0) 1 16 := ⟨by decide +kernel, rfl⟩
theorem dc_L_belief_16 : Dc miL_belief 16 (.ireturn) 1 17 := ⟨by decide +kernel, rfl⟩
def fL_belief (N : Nat) (G : pG) (a0 : Nat) (a1 : Int32) (a2 : Nat) (σ : pS) : Option (Int32 × pS) := (fX11_belief N G a0 a1 σ).bind (fun q1 => q1.elim (fun zs2 => ck (inB (0 : Int32) (pN G a2)) (some ((0 : Int32), sJ zs2.2 a2 (0 : Int32) zs2.1.toInt64))) (fun e => if e.1 = "java/lang/IndexOutOfBoundsException" then (some ((1 : Int32), e.2)) else (none)))
set_option maxRecDepth 100000 in
set_option maxHeartbeats 4000000 in
theorem tL_belief {N : Nat} {G : pG} {SK : Nat → Nat} {a0 : Nat} {a1 : Int32} {a2 : Nat} {σ : pS} {r : Int32 × pS} (hW : WT G) (i0 : Is G a0 10) (i2 : Is G a2 14) (h : fL_belief N G a0 a1 a2 σ = some r) : DxH miL_belief yL_belief 9 1 6 G SK [.ref a0, .int a1, .ref a2] σ (.inl (some (.int r.1), r.2)) := by
  unfold fL_belief at h
  refine dxh_of (lv := [some (.ref a0), some (.int a1), some (.ref a2), none]) (by decide) rfl (Nat.le_of_ble_eq_true rfl) rfl ?_
  refine ev_aload_n dc_L_belief_0 rfl ?_
  refine ev_iconst (v := 0) dc_L_belief_1 (by decide) ?_
  refine ev_aload_n dc_L_belief_2 rfl ?_
  refine ev_iload_n dc_L_belief_3 rfl ?_
  obtain ⟨q1, hq1, h⟩ := Option.bind_eq_some_iff.mp h
  refine ev_callC (av := [.int a1]) (st := [.int (0 : Int32), .ref a2]) dc_L_belief_4 (tX11_belief hW i0 hq1) mw_1396 cy_X11_belief i0 (by decide) rfl rfl rfl (Nat.le_of_ble_eq_true rfl) (Nat.le_of_ble_eq_true rfl) ⟨Nat.le_of_ble_eq_true rfl, Nat.le_of_ble_eq_true rfl⟩ ?_ ?_
  · intro e he
    rcases q1 with zs2 | zs2
    · have he : (Sum.inl (some (.int zs2.1), zs2.2) : XO) = .inr e := he
      cases he
    · have he : (Sum.inr zs2 : XO) = .inr e := he
      have he := Sum.inr.inj he
      subst he
      dsimp only [Sum.elim] at h
      by_cases e0 : zs2.1 = "java/lang/IndexOutOfBoundsException"
      · rw [if_pos e0] at h
        refine ⟨[], (0, 9, 12, 24), _, "java/lang/IndexOutOfBoundsException", rfl, ?_, rfl, by decide, mw_1033, ?_, fun ax => ?_⟩
        · intro w hw
          cases hw
        · rw [e0]
          exact List.mem_of_getElem? (i := 2) rfl
        · refine ev_astore_n (lv' := [some (.ref a0), some (.int a1), some (.ref a2), some (.ref ax)]) dc_L_belief_12 rfl (by decide) rfl ?_
          refine ev_iconst (v := 1) dc_L_belief_13 (by decide) ?_
          cases h
          exact ev_iretX dc_L_belief_14 rfl ⟨Nat.le_of_ble_eq_true rfl, Nat.le_of_ble_eq_true rfl⟩ rfl rfl
      rw [if_neg e0] at h
      cases h
  intro e he
  rcases q1 with zs2 | zs2
  rotate_left
  · have he : (Sum.inr zs2 : XO) = .inl e := he
    cases he
  have he : (Sum.inl (some (.int zs2.1), zs2.2) : XO) = .inl e := he
  cases he
  dsimp only [Sum.elim] at h
  show Ev miL_belief (9, 1, 6) G (Zx G (.inl (some (.int r.1), r.2)) 1 6) SK (1, 6) 7 [some (.ref a0), some (.int a1), some (.ref a2), none] [.int zs2.1, .int (0 : Int32), .ref a2] zs2.2
  refine ev_i2l dc_L_belief_7 ?_
  refine ev_last dc_L_belief_8 i2 h (fun h => ?_)
  refine ev_goto (tgt := 15) dc_L_belief_9 (by decide) ?_
  refine ev_iconst (v := 0) dc_L_belief_15 (by decide) ?_
  cases h
  exact ev_iretX dc_L_belief_16 rfl ⟨Nat.le_of_ble_eq_true rfl, Nat.le_of_ble_eq_true rfl⟩ rfl rfl
theorem dc_L_duty_0 : Dc miL_duty 0 (.aload_n 2) 1 1 := ⟨by decide +kernel, rfl⟩
theorem dc_L_duty_1 : Dc miL_duty 1 (.iconst 0) 1 2 := ⟨by decide +kernel, rfl⟩
theorem dc_L_duty_2 : Dc miL_duty 2 (.aload_n 0) 1 3 := ⟨by decide +kernel, rfl⟩
theorem dc_L_duty_3 : Dc miL_duty 3 (.iload_n 1) 1 4 := ⟨by decide +kernel, rfl⟩
theorem dc_L_duty_4 : Dc miL_duty 4 (.invokevirtual 94) 3 7 := ⟨by decide +kernel, rfl⟩
theorem dc_L_duty_7 : Dc miL_duty 7 (.i2l) 1 8 := ⟨by decide +kernel, rfl⟩
theorem dc_L_duty_8 : Dc miL_duty 8 (.lastore) 1 9 := ⟨by decide +kernel, rfl⟩
theorem dc_L_duty_9 : Dc miL_duty 9 (.goto 6) 3 12 := ⟨by decide +kernel, rfl⟩
theorem dc_L_duty_12 : Dc miL_duty 12 (.astore_n 3) 1 13 := ⟨by decide +kernel, rfl⟩
theorem dc_L_duty_13 : Dc miL_duty 13 (.iconst 1) 1 14 := ⟨by decide +kernel, rfl⟩
theorem dc_L_duty_14 : Dc miL_duty 14 (.ireturn) 1 15 := ⟨by decide +kernel, rfl⟩
theorem dc_L_duty_15 : Dc miL_duty 15 (.iconst 0) 1 16 := ⟨by decide +kernel, rfl⟩
theorem dc_L_duty_16 : Dc miL_duty 16 (.ireturn) 1 17 := ⟨by decide +kernel, rfl⟩
def fL_duty (N : Nat) (G : pG) (a0 : Nat) (a1 : Int32) (a2 : Nat) (σ : pS) : Option (Int32 × pS) := (fX11_duty N G a0 a1 σ).bind (fun q1 => q1.elim (fun zs2 => ck (inB (0 : Int32) (pN G a2)) (some ((0 : Int32), sJ zs2.2 a2 (0 : Int32) zs2.1.toInt64))) (fun e => if e.1 = "java/lang/IndexOutOfBoundsException" then (some ((1 : Int32), e.2)) else (none)))
set_option maxRecDepth 100000 in
set_option maxHeartbeats 4000000 in
theorem tL_duty {N : Nat} {G : pG} {SK : Nat → Nat} {a0 : Nat} {a1 : Int32} {a2 : Nat} {σ : pS} {r : Int32 × pS} (hW : WT G) (i0 : Is G a0 10) (i2 : Is G a2 14) (h : fL_duty N G a0 a1 a2 σ = some r) : DxH miL_duty yL_duty 8 1 6 G SK [.ref a0, .int a1, .ref a2] σ (.inl (some (.int r.1), r.2)) := by
  unfold fL_duty at h
  refine dxh_of (lv := [some (.ref a0), some (.int a1), some (.ref a2), none]) (by decide) rfl (Nat.le_of_ble_eq_true rfl) rfl ?_
  refine ev_aload_n dc_L_duty_0 rfl ?_
  refine ev_iconst (v := 0) dc_L_duty_1 (by decide) ?_
  refine ev_aload_n dc_L_duty_2 rfl ?_
  refine ev_iload_n dc_L_duty_3 rfl ?_
  obtain ⟨q1, hq1, h⟩ := Option.bind_eq_some_iff.mp h
  refine ev_callC (av := [.int a1]) (st := [.int (0 : Int32), .ref a2]) dc_L_duty_4 (tX11_duty hW i0 hq1) mw_1403 cy_X11_duty i0 (by decide) rfl rfl rfl (Nat.le_of_ble_eq_true rfl) (Nat.le_of_ble_eq_true rfl) ⟨Nat.le_of_ble_eq_true rfl, Nat.le_of_ble_eq_true rfl⟩ ?_ ?_
  · intro e he
    rcases q1 with zs2 | zs2
    · have he : (Sum.inl (some (.int zs2.1), zs2.2) : XO) = .inr e := he
      cases he
    · have he : (Sum.inr zs2 : XO) = .inr e := he
      have he := Sum.inr.inj he
      subst he
      dsimp only [Sum.elim] at h
      by_cases e0 : zs2.1 = "java/lang/IndexOutOfBoundsException"
      · rw [if_pos e0] at h
        refine ⟨[], (0, 9, 12, 24), _, "java/lang/IndexOutOfBoundsException", rfl, ?_, rfl, by decide, mw_1033, ?_, fun ax => ?_⟩
        · intro w hw
          cases hw
        · rw [e0]
          exact List.mem_of_getElem? (i := 2) rfl
        · refine ev_astore_n (lv' := [some (.ref a0), some (.int a1), some (.ref a2), some (.ref ax)]) dc_L_duty_12 rfl (by decide) rfl ?_
          refine ev_iconst (v := 1) dc_L_duty_13 (by decide) ?_
          cases h
          exact ev_iretX dc_L_duty_14 rfl ⟨Nat.le_of_ble_eq_true rfl, Nat.le_of_ble_eq_true rfl⟩ rfl rfl
      rw [if_neg e0] at h
      cases h
  intro e he
  rcases q1 with zs2 | zs2
  rotate_left
  · have he : (Sum.inr zs2 : XO) = .inl e := he
    cases he
  have he : (Sum.inl (some (.int zs2.1), zs2.2) : XO) = .inl e := he
  cases he
  dsimp only [Sum.elim] at h
  show Ev miL_duty (8, 1, 6) G (Zx G (.inl (some (.int r.1), r.2)) 1 6) SK (1, 6) 7 [some (.ref a0), some (.int a1), some (.ref a2), none] [.int zs2.1, .int (0 : Int32), .ref a2] zs2.2
  refine ev_i2l dc_L_duty_7 ?_
  refine ev_last dc_L_duty_8 i2 h (fun h => ?_)
  refine ev_goto (tgt := 15) dc_L_duty_9 (by decide) ?_
  refine ev_iconst (v := 0) dc_L_duty_15 (by decide) ?_
  cases h
  exact ev_iretX dc_L_duty_16 rfl ⟨Nat.le_of_ble_eq_true rfl, Nat.le_of_ble_eq_true rfl⟩ rfl rfl
theorem dc_L_cheapest_0 : Dc miL_cheapest 0 (.aload_n 3) 1 1 := ⟨by decide +kernel, rfl⟩
theorem dc_L_cheapest_1 : Dc miL_cheapest 1 (.iconst 0) 1 2 := ⟨by decide +kernel, rfl⟩
theorem dc_L_cheapest_2 : Dc miL_cheapest 2 (.aload_n 0) 1 3 := ⟨by decide +kernel, rfl⟩
theorem dc_L_cheapest_3 : Dc miL_cheapest 3 (.iload_n 1) 1 4 := ⟨by decide +kernel, rfl⟩
theorem dc_L_cheapest_4 : Dc miL_cheapest 4 (.iload_n 2) 1 5 := ⟨by decide +kernel, rfl⟩
theorem dc_L_cheapest_5 : Dc miL_cheapest 5 (.invokevirtual 97) 3 8 := ⟨by decide +kernel, rfl⟩
theorem dc_L_cheapest_8 : Dc miL_cheapest 8 (.i2l) 1 9 := ⟨by decide +kernel, rfl⟩
theorem dc_L_cheapest_9 : Dc miL_cheapest 9 (.lastore) 1 10 := ⟨by decide +kernel, rfl⟩
theorem dc_L_cheapest_10 : Dc miL_cheapest 10 (.goto 7) 3 13 := ⟨by decide +kernel, rfl⟩
theorem dc_L_cheapest_13 : Dc miL_cheapest 13 (.astore 4) 2 15 := ⟨by decide +kernel, rfl⟩
theorem dc_L_cheapest_15 : Dc miL_cheapest 15 (.iconst 1) 1 16 := ⟨by decide +kernel, rfl⟩
theorem dc_L_cheapest_16 : Dc miL_cheapest 16 (.ireturn) 1 17 := ⟨by decide +kernel, rfl⟩
theorem dc_L_cheapest_17 : Dc miL_cheapest 17 (.iconst 0) 1 18 := ⟨by decide +kernel, rfl⟩
theorem dc_L_cheapest_18 : Dc miL_cheapest 18 (.ireturn) 1 19 := ⟨by decide +kernel, rfl⟩
def fL_cheapest (N : Nat) (G : pG) (a0 : Nat) (a1 : Int32) (a2 : Int32) (a3 : Nat) (σ : pS) : Option (Int32 × pS) := (fX11_cheapest N G a0 a1 a2 σ).bind (fun q1 => q1.elim (fun zs2 => ck (inB (0 : Int32) (pN G a3)) (some ((0 : Int32), sJ zs2.2 a3 (0 : Int32) zs2.1.toInt64))) (fun e => if e.1 = "java/lang/IllegalArgumentException" then (some ((1 : Int32), e.2)) else (none)))
set_option maxRecDepth 100000 in
set_option maxHeartbeats 4000000 in
theorem tL_cheapest {N : Nat} {G : pG} {SK : Nat → Nat} {a0 : Nat} {a1 : Int32} {a2 : Int32} {a3 : Nat} {σ : pS} {r : Int32 × pS} (hW : WT G) (i0 : Is G a0 10) (i3 : Is G a3 14) (h : fL_cheapest N G a0 a1 a2 a3 σ = some r) : DxH miL_cheapest yL_cheapest 9 1 6 G SK [.ref a0, .int a1, .int a2, .ref a3] σ (.inl (some (.int r.1), r.2)) := by
  unfold fL_cheapest at h
  refine dxh_of (lv := [some (.ref a0), some (.int a1), some (.int a2), some (.ref a3), none]) (by decide) rfl (Nat.le_of_ble_eq_true rfl) rfl ?_
  refine ev_aload_n dc_L_cheapest_0 rfl ?_
  refine ev_iconst (v := 0) dc_L_cheapest_1 (by decide) ?_
  refine ev_aload_n dc_L_cheapest_2 rfl ?_
  refine ev_iload_n dc_L_cheapest_3 rfl ?_
  refine ev_iload_n dc_L_cheapest_4 rfl ?_
  obtain ⟨q1, hq1, h⟩ := Option.bind_eq_some_iff.mp h
  refine ev_callC (av := [.int a1, .int a2]) (st := [.int (0 : Int32), .ref a3]) dc_L_cheapest_5 (tX11_cheapest hW i0 hq1) mw_1411 cy_X11_cheapest i0 (by decide) rfl rfl rfl (Nat.le_of_ble_eq_true rfl) (Nat.le_of_ble_eq_true rfl) ⟨Nat.le_of_ble_eq_true rfl, Nat.le_of_ble_eq_true rfl⟩ ?_ ?_
  · intro e he
    rcases q1 with zs2 | zs2
    · have he : (Sum.inl (some (.int zs2.1), zs2.2) : XO) = .inr e := he
      cases he
    · have he : (Sum.inr zs2 : XO) = .inr e := he
      have he := Sum.inr.inj he
      subst he
      dsimp only [Sum.elim] at h
      by_cases e0 : zs2.1 = "java/lang/IllegalArgumentException"
      · rw [if_pos e0] at h
        refine ⟨[], (0, 10, 13, 13), _, "java/lang/IllegalArgumentException", rfl, ?_, rfl, by decide, mw_677, ?_, fun ax => ?_⟩
        · intro w hw
          cases hw
        · rw [e0]
          exact List.mem_of_getElem? (i := 0) rfl
        · refine ev_astore (lv' := [some (.ref a0), some (.int a1), some (.int a2), some (.ref a3), some (.ref ax)]) dc_L_cheapest_13 rfl (by decide) rfl ?_
          refine ev_iconst (v := 1) dc_L_cheapest_15 (by decide) ?_
          cases h
          exact ev_iretX dc_L_cheapest_16 rfl ⟨Nat.le_of_ble_eq_true rfl, Nat.le_of_ble_eq_true rfl⟩ rfl rfl
      rw [if_neg e0] at h
      cases h
  intro e he
  rcases q1 with zs2 | zs2
  rotate_left
  · have he : (Sum.inr zs2 : XO) = .inl e := he
    cases he
  have he : (Sum.inl (some (.int zs2.1), zs2.2) : XO) = .inl e := he
  cases he
  dsimp only [Sum.elim] at h
  show Ev miL_cheapest (9, 1, 6) G (Zx G (.inl (some (.int r.1), r.2)) 1 6) SK (1, 6) 8 [some (.ref a0), some (.int a1), some (.int a2), some (.ref a3), none] [.int zs2.1, .int (0 : Int32), .ref a3] zs2.2
  refine ev_i2l dc_L_cheapest_8 ?_
  refine ev_last dc_L_cheapest_9 i3 h (fun h => ?_)
  refine ev_goto (tgt := 17) dc_L_cheapest_10 (by decide) ?_
  refine ev_iconst (v := 0) dc_L_cheapest_17 (by decide) ?_
  cases h
  exact ev_iretX dc_L_cheapest_18 rfl ⟨Nat.le_of_ble_eq_true rfl, Nat.le_of_ble_eq_true rfl⟩ rfl rfl
theorem dc_L_sharpest_0 : Dc miL_sharpest 0 (.aload_n 2) 1 1 := ⟨by decide +kernel, rfl⟩
theorem dc_L_sharpest_1 : Dc miL_sharpest 1 (.iconst 0) 1 2 := ⟨by decide +kernel, rfl⟩
theorem dc_L_sharpest_2 : Dc miL_sharpest 2 (.aload_n 0) 1 3 := ⟨by decide +kernel, rfl⟩
theorem dc_L_sharpest_3 : Dc miL_sharpest 3 (.iload_n 1) 1 4 := ⟨by decide +kernel, rfl⟩
theorem dc_L_sharpest_4 : Dc miL_sharpest 4 (.invokevirtual 100) 3 7 := ⟨by decide +kernel, rfl⟩
theorem dc_L_sharpest_7 : Dc miL_sharpest 7 (.i2l) 1 8 := ⟨by decide +kernel, rfl⟩
theorem dc_L_sharpest_8 : Dc miL_sharpest 8 (.lastore) 1 9 := ⟨by decide +kernel, rfl⟩
theorem dc_L_sharpest_9 : Dc miL_sharpest 9 (.goto 6) 3 12 := ⟨by decide +kernel, rfl⟩
theorem dc_L_sharpest_12 : Dc miL_sharpest 12 (.astore_n 3) 1 13 := ⟨by decide +kernel, rfl⟩
theorem dc_L_sharpest_13 : Dc miL_sharpest 13 (.iconst 1) 1 14 := ⟨by decide +kernel, rfl⟩
theorem dc_L_sharpest_14 : Dc miL_sharpest 14 (.ireturn) 1 15 := ⟨by decide +kernel, rfl⟩
theorem dc_L_sharpest_15 : Dc miL_sharpest 15 (.iconst 0) 1 16 := ⟨by decide +kernel, rfl⟩
theorem dc_L_sharpest_16 : Dc miL_sharpest 16 (.ireturn) 1 17 := ⟨by decide +kernel, rfl⟩
def fL_sharpest (N : Nat) (G : pG) (a0 : Nat) (a1 : Int32) (a2 : Nat) (σ : pS) : Option (Int32 × pS) := (fX11_sharpest N G a0 a1 σ).bind (fun q1 => q1.elim (fun zs2 => ck (inB (0 : Int32) (pN G a2)) (some ((0 : Int32), sJ zs2.2 a2 (0 : Int32) zs2.1.toInt64))) (fun e => if e.1 = "java/lang/IndexOutOfBoundsException" then (some ((1 : Int32), e.2)) else (none)))
set_option maxRecDepth 100000 in
set_option maxHeartbeats 4000000 in
theorem tL_sharpest {N : Nat} {G : pG} {SK : Nat → Nat} {a0 : Nat} {a1 : Int32} {a2 : Nat} {σ : pS} {r : Int32 × pS} (hW : WT G) (i0 : Is G a0 10) (i2 : Is G a2 14) (h : fL_sharpest N G a0 a1 a2 σ = some r) : DxH miL_sharpest yL_sharpest 9 1 6 G SK [.ref a0, .int a1, .ref a2] σ (.inl (some (.int r.1), r.2)) := by
  unfold fL_sharpest at h
  refine dxh_of (lv := [some (.ref a0), some (.int a1), some (.ref a2), none]) (by decide) rfl (Nat.le_of_ble_eq_true rfl) rfl ?_
  refine ev_aload_n dc_L_sharpest_0 rfl ?_
  refine ev_iconst (v := 0) dc_L_sharpest_1 (by decide) ?_
  refine ev_aload_n dc_L_sharpest_2 rfl ?_
  refine ev_iload_n dc_L_sharpest_3 rfl ?_
  obtain ⟨q1, hq1, h⟩ := Option.bind_eq_some_iff.mp h
  refine ev_callC (av := [.int a1]) (st := [.int (0 : Int32), .ref a2]) dc_L_sharpest_4 (tX11_sharpest hW i0 hq1) mw_1426 cy_X11_sharpest i0 (by decide) rfl rfl rfl (Nat.le_of_ble_eq_true rfl) (Nat.le_of_ble_eq_true rfl) ⟨Nat.le_of_ble_eq_true rfl, Nat.le_of_ble_eq_true rfl⟩ ?_ ?_
  · intro e he
    rcases q1 with zs2 | zs2
    · have he : (Sum.inl (some (.int zs2.1), zs2.2) : XO) = .inr e := he
      cases he
    · have he : (Sum.inr zs2 : XO) = .inr e := he
      have he := Sum.inr.inj he
      subst he
      dsimp only [Sum.elim] at h
      by_cases e0 : zs2.1 = "java/lang/IndexOutOfBoundsException"
      · rw [if_pos e0] at h
        refine ⟨[], (0, 9, 12, 24), _, "java/lang/IndexOutOfBoundsException", rfl, ?_, rfl, by decide, mw_1033, ?_, fun ax => ?_⟩
        · intro w hw
          cases hw
        · rw [e0]
          exact List.mem_of_getElem? (i := 2) rfl
        · refine ev_astore_n (lv' := [some (.ref a0), some (.int a1), some (.ref a2), some (.ref ax)]) dc_L_sharpest_12 rfl (by decide) rfl ?_
          refine ev_iconst (v := 1) dc_L_sharpest_13 (by decide) ?_
          cases h
          exact ev_iretX dc_L_sharpest_14 rfl ⟨Nat.le_of_ble_eq_true rfl, Nat.le_of_ble_eq_true rfl⟩ rfl rfl
      rw [if_neg e0] at h
      cases h
  intro e he
  rcases q1 with zs2 | zs2
  rotate_left
  · have he : (Sum.inr zs2 : XO) = .inl e := he
    cases he
  have he : (Sum.inl (some (.int zs2.1), zs2.2) : XO) = .inl e := he
  cases he
  dsimp only [Sum.elim] at h
  show Ev miL_sharpest (9, 1, 6) G (Zx G (.inl (some (.int r.1), r.2)) 1 6) SK (1, 6) 7 [some (.ref a0), some (.int a1), some (.ref a2), none] [.int zs2.1, .int (0 : Int32), .ref a2] zs2.2
  refine ev_i2l dc_L_sharpest_7 ?_
  refine ev_last dc_L_sharpest_8 i2 h (fun h => ?_)
  refine ev_goto (tgt := 15) dc_L_sharpest_9 (by decide) ?_
  refine ev_iconst (v := 0) dc_L_sharpest_15 (by decide) ?_
  cases h
  exact ev_iretX dc_L_sharpest_16 rfl ⟨Nat.le_of_ble_eq_true rfl, Nat.le_of_ble_eq_true rfl⟩ rfl rfl
theorem dc_L_similar_0 : Dc miL_similar 0 (.aload_n 3) 1 1 := ⟨by decide +kernel, rfl⟩
theorem dc_L_similar_1 : Dc miL_similar 1 (.iconst 0) 1 2 := ⟨by decide +kernel, rfl⟩
theorem dc_L_similar_2 : Dc miL_similar 2 (.aload_n 0) 1 3 := ⟨by decide +kernel, rfl⟩
theorem dc_L_similar_3 : Dc miL_similar 3 (.iload_n 1) 1 4 := ⟨by decide +kernel, rfl⟩
theorem dc_L_similar_4 : Dc miL_similar 4 (.iload_n 2) 1 5 := ⟨by decide +kernel, rfl⟩
theorem dc_L_similar_5 : Dc miL_similar 5 (.invokevirtual 103) 3 8 := ⟨by decide +kernel, rfl⟩
theorem dc_L_similar_8 : Dc miL_similar 8 (.i2l) 1 9 := ⟨by decide +kernel, rfl⟩
theorem dc_L_similar_9 : Dc miL_similar 9 (.lastore) 1 10 := ⟨by decide +kernel, rfl⟩
theorem dc_L_similar_10 : Dc miL_similar 10 (.goto 11) 3 13 := ⟨by decide +kernel, rfl⟩
theorem dc_L_similar_13 : Dc miL_similar 13 (.astore 4) 2 15 := ⟨by decide +kernel, rfl⟩
theorem dc_L_similar_15 : Dc miL_similar 15 (.iconst 1) 1 16 := ⟨by decide +kernel, rfl⟩
theorem dc_L_similar_16 : Dc miL_similar 16 (.ireturn) 1 17 := ⟨by decide +kernel, rfl⟩
theorem dc_L_similar_17 : Dc miL_similar 17 (.astore 4) 2 19 := ⟨by decide +kernel, rfl⟩
theorem dc_L_similar_19 : Dc miL_similar 19 (.iconst 2) 1 20 := ⟨by decide +kernel, rfl⟩
theorem dc_L_similar_20 : Dc miL_similar 20 (.ireturn) 1 21 := ⟨by decide +kernel, rfl⟩
theorem dc_L_similar_21 : Dc miL_similar 21 (.iconst 0) 1 22 := ⟨by decide +kernel, rfl⟩
theorem dc_L_similar_22 : Dc miL_similar 22 (.ireturn) 1 23 := ⟨by decide +kernel, rfl⟩
def fL_similar (N : Nat) (G : pG) (a0 : Nat) (a1 : Int32) (a2 : Int32) (a3 : Nat) (σ : pS) : Option (Int32 × pS) := (fX11_similar N G a0 a1 a2 σ).bind (fun q1 => q1.elim (fun zs2 => ck (inB (0 : Int32) (pN G a3)) (some ((0 : Int32), sJ zs2.2 a3 (0 : Int32) zs2.1.toInt64))) (fun e => if e.1 = "java/lang/IndexOutOfBoundsException" then (some ((1 : Int32), e.2)) else (if e.1 = "java/lang/IllegalArgumentException" then (some ((2 : Int32), e.2)) else (none))))
set_option maxRecDepth 100000 in
set_option maxHeartbeats 4000000 in
theorem tL_similar {N : Nat} {G : pG} {SK : Nat → Nat} {a0 : Nat} {a1 : Int32} {a2 : Int32} {a3 : Nat} {σ : pS} {r : Int32 × pS} (hW : WT G) (i0 : Is G a0 10) (i3 : Is G a3 14) (h : fL_similar N G a0 a1 a2 a3 σ = some r) : DxH miL_similar yL_similar 9 2 12 G SK [.ref a0, .int a1, .int a2, .ref a3] σ (.inl (some (.int r.1), r.2)) := by
  unfold fL_similar at h
  refine dxh_of (lv := [some (.ref a0), some (.int a1), some (.int a2), some (.ref a3), none]) (by decide) rfl (Nat.le_of_ble_eq_true rfl) rfl ?_
  refine ev_aload_n dc_L_similar_0 rfl ?_
  refine ev_iconst (v := 0) dc_L_similar_1 (by decide) ?_
  refine ev_aload_n dc_L_similar_2 rfl ?_
  refine ev_iload_n dc_L_similar_3 rfl ?_
  refine ev_iload_n dc_L_similar_4 rfl ?_
  obtain ⟨q1, hq1, h⟩ := Option.bind_eq_some_iff.mp h
  refine ev_callC (av := [.int a1, .int a2]) (st := [.int (0 : Int32), .ref a3]) dc_L_similar_5 (tX11_similar hW i0 hq1) mw_1433 cy_X11_similar i0 (by decide) rfl rfl rfl (Nat.le_of_ble_eq_true rfl) (Nat.le_of_ble_eq_true rfl) ⟨Nat.le_of_ble_eq_true rfl, Nat.le_of_ble_eq_true rfl⟩ ?_ ?_
  · intro e he
    rcases q1 with zs2 | zs2
    · have he : (Sum.inl (some (.int zs2.1), zs2.2) : XO) = .inr e := he
      cases he
    · have he : (Sum.inr zs2 : XO) = .inr e := he
      have he := Sum.inr.inj he
      subst he
      dsimp only [Sum.elim] at h
      by_cases e0 : zs2.1 = "java/lang/IndexOutOfBoundsException"
      · rw [if_pos e0] at h
        refine ⟨[], (0, 10, 13, 24), _, "java/lang/IndexOutOfBoundsException", rfl, ?_, rfl, by decide, mw_1033, ?_, fun ax => ?_⟩
        · intro w hw
          cases hw
        · rw [e0]
          exact List.mem_of_getElem? (i := 2) rfl
        · refine ev_astore (lv' := [some (.ref a0), some (.int a1), some (.int a2), some (.ref a3), some (.ref ax)]) dc_L_similar_13 rfl (by decide) rfl ?_
          refine ev_iconst (v := 1) dc_L_similar_15 (by decide) ?_
          cases h
          exact ev_iretX dc_L_similar_16 rfl ⟨Nat.le_of_ble_eq_true rfl, Nat.le_of_ble_eq_true rfl⟩ rfl rfl
      rw [if_neg e0] at h
      by_cases e1 : zs2.1 = "java/lang/IllegalArgumentException"
      · rw [if_pos e1] at h
        refine ⟨[(0, 10, 13, 24)], (0, 10, 17, 13), _, "java/lang/IllegalArgumentException", rfl, ?_, rfl, by decide, mw_677, ?_, fun ax => ?_⟩
        · intro w hw
          rcases List.mem_singleton.mp hw with rfl
          exact ⟨by decide, "java/lang/IndexOutOfBoundsException", mw_1033, by rw [e1]; exact List.mem_of_getElem? (i := 1) rfl⟩
        · rw [e1]
          exact List.mem_of_getElem? (i := 0) rfl
        · refine ev_astore (lv' := [some (.ref a0), some (.int a1), some (.int a2), some (.ref a3), some (.ref ax)]) dc_L_similar_17 rfl (by decide) rfl ?_
          refine ev_iconst (v := 2) dc_L_similar_19 (by decide) ?_
          cases h
          exact ev_iretX dc_L_similar_20 rfl ⟨Nat.le_of_ble_eq_true rfl, Nat.le_of_ble_eq_true rfl⟩ rfl rfl
      rw [if_neg e1] at h
      cases h
  intro e he
  rcases q1 with zs2 | zs2
  rotate_left
  · have he : (Sum.inr zs2 : XO) = .inl e := he
    cases he
  have he : (Sum.inl (some (.int zs2.1), zs2.2) : XO) = .inl e := he
  cases he
  dsimp only [Sum.elim] at h
  show Ev miL_similar (9, 2, 12) G (Zx G (.inl (some (.int r.1), r.2)) 2 12) SK (2, 12) 8 [some (.ref a0), some (.int a1), some (.int a2), some (.ref a3), none] [.int zs2.1, .int (0 : Int32), .ref a3] zs2.2
  refine ev_i2l dc_L_similar_8 ?_
  refine ev_last dc_L_similar_9 i3 h (fun h => ?_)
  refine ev_goto (tgt := 21) dc_L_similar_10 (by decide) ?_
  refine ev_iconst (v := 0) dc_L_similar_21 (by decide) ?_
  cases h
  exact ev_iretX dc_L_similar_22 rfl ⟨Nat.le_of_ble_eq_true rfl, Nat.le_of_ble_eq_true rfl⟩ rfl rfl
theorem dc_L_learnt_0 : Dc miL_learnt 0 (.aload_n 2) 1 1 := ⟨by decide +kernel, rfl⟩
theorem dc_L_learnt_1 : Dc miL_learnt 1 (.iconst 0) 1 2 := ⟨by decide +kernel, rfl⟩
theorem dc_L_learnt_2 : Dc miL_learnt 2 (.aload_n 0) 1 3 := ⟨by decide +kernel, rfl⟩
theorem dc_L_learnt_3 : Dc miL_learnt 3 (.iload_n 1) 1 4 := ⟨by decide +kernel, rfl⟩
theorem dc_L_learnt_4 : Dc miL_learnt 4 (.invokevirtual 106) 3 7 := ⟨by decide +kernel, rfl⟩
theorem dc_L_learnt_7 : Dc miL_learnt 7 (.i2l) 1 8 := ⟨by decide +kernel, rfl⟩
theorem dc_L_learnt_8 : Dc miL_learnt 8 (.lastore) 1 9 := ⟨by decide +kernel, rfl⟩
theorem dc_L_learnt_9 : Dc miL_learnt 9 (.goto 6) 3 12 := ⟨by decide +kernel, rfl⟩
theorem dc_L_learnt_12 : Dc miL_learnt 12 (.astore_n 3) 1 13 := ⟨by decide +kernel, rfl⟩
theorem dc_L_learnt_13 : Dc miL_learnt 13 (.iconst 1) 1 14 := ⟨by decide +kernel, rfl⟩
theorem dc_L_learnt_14 : Dc miL_learnt 14 (.ireturn) 1 15 := ⟨by decide +kernel, rfl⟩
theorem dc_L_learnt_15 : Dc miL_learnt 15 (.iconst 0) 1 16 := ⟨by decide +kernel, rfl⟩
theorem dc_L_learnt_16 : Dc miL_learnt 16 (.ireturn) 1 17 := ⟨by decide +kernel, rfl⟩
def fL_learnt (N : Nat) (G : pG) (a0 : Nat) (a1 : Int32) (a2 : Nat) (σ : pS) : Option (Int32 × pS) := (fX11_learnt N G a0 a1 σ).bind (fun q1 => q1.elim (fun zs2 => ck (inB (0 : Int32) (pN G a2)) (some ((0 : Int32), sJ zs2.2 a2 (0 : Int32) zs2.1.toInt64))) (fun e => if e.1 = "java/lang/IndexOutOfBoundsException" then (some ((1 : Int32), e.2)) else (none)))
set_option maxRecDepth 100000 in
set_option maxHeartbeats 4000000 in
theorem tL_learnt {N : Nat} {G : pG} {SK : Nat → Nat} {a0 : Nat} {a1 : Int32} {a2 : Nat} {σ : pS} {r : Int32 × pS} (hW : WT G) (i0 : Is G a0 10) (i2 : Is G a2 14) (h : fL_learnt N G a0 a1 a2 σ = some r) : DxH miL_learnt yL_learnt 10 1 6 G SK [.ref a0, .int a1, .ref a2] σ (.inl (some (.int r.1), r.2)) := by
  unfold fL_learnt at h
  refine dxh_of (lv := [some (.ref a0), some (.int a1), some (.ref a2), none]) (by decide) rfl (Nat.le_of_ble_eq_true rfl) rfl ?_
  refine ev_aload_n dc_L_learnt_0 rfl ?_
  refine ev_iconst (v := 0) dc_L_learnt_1 (by decide) ?_
  refine ev_aload_n dc_L_learnt_2 rfl ?_
  refine ev_iload_n dc_L_learnt_3 rfl ?_
  obtain ⟨q1, hq1, h⟩ := Option.bind_eq_some_iff.mp h
  refine ev_callC (av := [.int a1]) (st := [.int (0 : Int32), .ref a2]) dc_L_learnt_4 (tX11_learnt hW i0 hq1) mw_1440 cy_X11_learnt i0 (by decide) rfl rfl rfl (Nat.le_of_ble_eq_true rfl) (Nat.le_of_ble_eq_true rfl) ⟨Nat.le_of_ble_eq_true rfl, Nat.le_of_ble_eq_true rfl⟩ ?_ ?_
  · intro e he
    rcases q1 with zs2 | zs2
    · have he : (Sum.inl (some (.int zs2.1), zs2.2) : XO) = .inr e := he
      cases he
    · have he : (Sum.inr zs2 : XO) = .inr e := he
      have he := Sum.inr.inj he
      subst he
      dsimp only [Sum.elim] at h
      by_cases e0 : zs2.1 = "java/lang/IndexOutOfBoundsException"
      · rw [if_pos e0] at h
        refine ⟨[], (0, 9, 12, 24), _, "java/lang/IndexOutOfBoundsException", rfl, ?_, rfl, by decide, mw_1033, ?_, fun ax => ?_⟩
        · intro w hw
          cases hw
        · rw [e0]
          exact List.mem_of_getElem? (i := 2) rfl
        · refine ev_astore_n (lv' := [some (.ref a0), some (.int a1), some (.ref a2), some (.ref ax)]) dc_L_learnt_12 rfl (by decide) rfl ?_
          refine ev_iconst (v := 1) dc_L_learnt_13 (by decide) ?_
          cases h
          exact ev_iretX dc_L_learnt_14 rfl ⟨Nat.le_of_ble_eq_true rfl, Nat.le_of_ble_eq_true rfl⟩ rfl rfl
      rw [if_neg e0] at h
      cases h
  intro e he
  rcases q1 with zs2 | zs2
  rotate_left
  · have he : (Sum.inr zs2 : XO) = .inl e := he
    cases he
  have he : (Sum.inl (some (.int zs2.1), zs2.2) : XO) = .inl e := he
  cases he
  dsimp only [Sum.elim] at h
  show Ev miL_learnt (10, 1, 6) G (Zx G (.inl (some (.int r.1), r.2)) 1 6) SK (1, 6) 7 [some (.ref a0), some (.int a1), some (.ref a2), none] [.int zs2.1, .int (0 : Int32), .ref a2] zs2.2
  refine ev_i2l dc_L_learnt_7 ?_
  refine ev_last dc_L_learnt_8 i2 h (fun h => ?_)
  refine ev_goto (tgt := 15) dc_L_learnt_9 (by decide) ?_
  refine ev_iconst (v := 0) dc_L_learnt_15 (by decide) ?_
  cases h
  exact ev_iretX dc_L_learnt_16 rfl ⟨Nat.le_of_ble_eq_true rfl, Nat.le_of_ble_eq_true rfl⟩ rfl rfl
theorem dc_L_trial_0 : Dc miL_trial 0 (.aload_n 3) 1 1 := ⟨by decide +kernel, rfl⟩
theorem dc_L_trial_1 : Dc miL_trial 1 (.iconst 0) 1 2 := ⟨by decide +kernel, rfl⟩
theorem dc_L_trial_2 : Dc miL_trial 2 (.aload_n 0) 1 3 := ⟨by decide +kernel, rfl⟩
theorem dc_L_trial_3 : Dc miL_trial 3 (.iload_n 1) 1 4 := ⟨by decide +kernel, rfl⟩
theorem dc_L_trial_4 : Dc miL_trial 4 (.iload_n 2) 1 5 := ⟨by decide +kernel, rfl⟩
theorem dc_L_trial_5 : Dc miL_trial 5 (.invokevirtual 109) 3 8 := ⟨by decide +kernel, rfl⟩
theorem dc_L_trial_8 : Dc miL_trial 8 (.i2l) 1 9 := ⟨by decide +kernel, rfl⟩
theorem dc_L_trial_9 : Dc miL_trial 9 (.lastore) 1 10 := ⟨by decide +kernel, rfl⟩
theorem dc_L_trial_10 : Dc miL_trial 10 (.goto 7) 3 13 := ⟨by decide +kernel, rfl⟩
theorem dc_L_trial_13 : Dc miL_trial 13 (.astore 4) 2 15 := ⟨by decide +kernel, rfl⟩
theorem dc_L_trial_15 : Dc miL_trial 15 (.iconst 1) 1 16 := ⟨by decide +kernel, rfl⟩
theorem dc_L_trial_16 : Dc miL_trial 16 (.ireturn) 1 17 := ⟨by decide +kernel, rfl⟩
theorem dc_L_trial_17 : Dc miL_trial 17 (.iconst 0) 1 18 := ⟨by decide +kernel, rfl⟩
theorem dc_L_trial_18 : Dc miL_trial 18 (.ireturn) 1 19 := ⟨by decide +kernel, rfl⟩
def fL_trial (N : Nat) (G : pG) (a0 : Nat) (a1 : Int32) (a2 : Int32) (a3 : Nat) (σ : pS) : Option (Int32 × pS) := (fX11_trial N G a0 a1 a2 σ).bind (fun q1 => q1.elim (fun zs2 => ck (inB (0 : Int32) (pN G a3)) (some ((0 : Int32), sJ zs2.2 a3 (0 : Int32) zs2.1.toInt64))) (fun e => if e.1 = "java/lang/IllegalArgumentException" then (some ((1 : Int32), e.2)) else (none)))
set_option maxRecDepth 100000 in
set_option maxHeartbeats 4000000 in
theorem tL_trial {N : Nat} {G : pG} {SK : Nat → Nat} {a0 : Nat} {a1 : Int32} {a2 : Int32} {a3 : Nat} {σ : pS} {r : Int32 × pS} (hW : WT G) (i0 : Is G a0 10) (i3 : Is G a3 14) (h : fL_trial N G a0 a1 a2 a3 σ = some r) : DxH miL_trial yL_trial 9 1 6 G SK [.ref a0, .int a1, .int a2, .ref a3] σ (.inl (some (.int r.1), r.2)) := by
  unfold fL_trial at h
  refine dxh_of (lv := [some (.ref a0), some (.int a1), some (.int a2), some (.ref a3), none]) (by decide) rfl (Nat.le_of_ble_eq_true rfl) rfl ?_
  refine ev_aload_n dc_L_trial_0 rfl ?_
  refine ev_iconst (v := 0) dc_L_trial_1 (by decide) ?_
  refine ev_aload_n dc_L_trial_2 rfl ?_
  refine ev_iload_n dc_L_trial_3 rfl ?_
  refine ev_iload_n dc_L_trial_4 rfl ?_
  obtain ⟨q1, hq1, h⟩ := Option.bind_eq_some_iff.mp h
  refine ev_callC (av := [.int a1, .int a2]) (st := [.int (0 : Int32), .ref a3]) dc_L_trial_5 (tX11_trial hW i0 hq1) mw_1447 cy_X11_trial i0 (by decide) rfl rfl rfl (Nat.le_of_ble_eq_true rfl) (Nat.le_of_ble_eq_true rfl) ⟨Nat.le_of_ble_eq_true rfl, Nat.le_of_ble_eq_true rfl⟩ ?_ ?_
  · intro e he
    rcases q1 with zs2 | zs2
    · have he : (Sum.inl (some (.int zs2.1), zs2.2) : XO) = .inr e := he
      cases he
    · have he : (Sum.inr zs2 : XO) = .inr e := he
      have he := Sum.inr.inj he
      subst he
      dsimp only [Sum.elim] at h
      by_cases e0 : zs2.1 = "java/lang/IllegalArgumentException"
      · rw [if_pos e0] at h
        refine ⟨[], (0, 10, 13, 13), _, "java/lang/IllegalArgumentException", rfl, ?_, rfl, by decide, mw_677, ?_, fun ax => ?_⟩
        · intro w hw
          cases hw
        · rw [e0]
          exact List.mem_of_getElem? (i := 0) rfl
        · refine ev_astore (lv' := [some (.ref a0), some (.int a1), some (.int a2), some (.ref a3), some (.ref ax)]) dc_L_trial_13 rfl (by decide) rfl ?_
          refine ev_iconst (v := 1) dc_L_trial_15 (by decide) ?_
          cases h
          exact ev_iretX dc_L_trial_16 rfl ⟨Nat.le_of_ble_eq_true rfl, Nat.le_of_ble_eq_true rfl⟩ rfl rfl
      rw [if_neg e0] at h
      cases h
  intro e he
  rcases q1 with zs2 | zs2
  rotate_left
  · have he : (Sum.inr zs2 : XO) = .inl e := he
    cases he
  have he : (Sum.inl (some (.int zs2.1), zs2.2) : XO) = .inl e := he
  cases he
  dsimp only [Sum.elim] at h
  show Ev miL_trial (9, 1, 6) G (Zx G (.inl (some (.int r.1), r.2)) 1 6) SK (1, 6) 8 [some (.ref a0), some (.int a1), some (.int a2), some (.ref a3), none] [.int zs2.1, .int (0 : Int32), .ref a3] zs2.2
  refine ev_i2l dc_L_trial_8 ?_
  refine ev_last dc_L_trial_9 i3 h (fun h => ?_)
  refine ev_goto (tgt := 17) dc_L_trial_10 (by decide) ?_
  refine ev_iconst (v := 0) dc_L_trial_17 (by decide) ?_
  cases h
  exact ev_iretX dc_L_trial_18 rfl ⟨Nat.le_of_ble_eq_true rfl, Nat.le_of_ble_eq_true rfl⟩ rfl rfl
theorem dc_L_span_0 : Dc miL_span 0 (.aload_n 2) 1 1 := ⟨by decide +kernel, rfl⟩
theorem dc_L_span_1 : Dc miL_span 1 (.iconst 0) 1 2 := ⟨by decide +kernel, rfl⟩
theorem dc_L_span_2 : Dc miL_span 2 (.aload_n 0) 1 3 := ⟨by decide +kernel, rfl⟩
theorem dc_L_span_3 : Dc miL_span 3 (.iload_n 1) 1 4 := ⟨by decide +kernel, rfl⟩
theorem dc_L_span_4 : Dc miL_span 4 (.invokevirtual 112) 3 7 := ⟨by decide +kernel, rfl⟩
theorem dc_L_span_7 : Dc miL_span 7 (.i2l) 1 8 := ⟨by decide +kernel, rfl⟩
theorem dc_L_span_8 : Dc miL_span 8 (.lastore) 1 9 := ⟨by decide +kernel, rfl⟩
theorem dc_L_span_9 : Dc miL_span 9 (.goto 6) 3 12 := ⟨by decide +kernel, rfl⟩
theorem dc_L_span_12 : Dc miL_span 12 (.astore_n 3) 1 13 := ⟨by decide +kernel, rfl⟩
theorem dc_L_span_13 : Dc miL_span 13 (.iconst 1) 1 14 := ⟨by decide +kernel, rfl⟩
theorem dc_L_span_14 : Dc miL_span 14 (.ireturn) 1 15 := ⟨by decide +kernel, rfl⟩
theorem dc_L_span_15 : Dc miL_span 15 (.iconst 0) 1 16 := ⟨by decide +kernel, rfl⟩
theorem dc_L_span_16 : Dc miL_span 16 (.ireturn) 1 17 := ⟨by decide +kernel, rfl⟩
def fL_span (N : Nat) (G : pG) (a0 : Nat) (a1 : Int32) (a2 : Nat) (σ : pS) : Option (Int32 × pS) := (fX11_span N G a0 a1 σ).bind (fun q1 => q1.elim (fun zs2 => ck (inB (0 : Int32) (pN G a2)) (some ((0 : Int32), sJ zs2.2 a2 (0 : Int32) zs2.1.toInt64))) (fun e => if e.1 = "java/lang/IllegalArgumentException" then (some ((1 : Int32), e.2)) else (none)))
set_option maxRecDepth 100000 in
set_option maxHeartbeats 4000000 in
theorem tL_span {N : Nat} {G : pG} {SK : Nat → Nat} {a0 : Nat} {a1 : Int32} {a2 : Nat} {σ : pS} {r : Int32 × pS} (hW : WT G) (i0 : Is G a0 10) (i2 : Is G a2 14) (h : fL_span N G a0 a1 a2 σ = some r) : DxH miL_span yL_span 9 1 6 G SK [.ref a0, .int a1, .ref a2] σ (.inl (some (.int r.1), r.2)) := by
  unfold fL_span at h
  refine dxh_of (lv := [some (.ref a0), some (.int a1), some (.ref a2), none]) (by decide) rfl (Nat.le_of_ble_eq_true rfl) rfl ?_
  refine ev_aload_n dc_L_span_0 rfl ?_
  refine ev_iconst (v := 0) dc_L_span_1 (by decide) ?_
  refine ev_aload_n dc_L_span_2 rfl ?_
  refine ev_iload_n dc_L_span_3 rfl ?_
  obtain ⟨q1, hq1, h⟩ := Option.bind_eq_some_iff.mp h
  refine ev_callC (av := [.int a1]) (st := [.int (0 : Int32), .ref a2]) dc_L_span_4 (tX11_span hW i0 hq1) mw_1458 cy_X11_span i0 (by decide) rfl rfl rfl (Nat.le_of_ble_eq_true rfl) (Nat.le_of_ble_eq_true rfl) ⟨Nat.le_of_ble_eq_true rfl, Nat.le_of_ble_eq_true rfl⟩ ?_ ?_
  · intro e he
    rcases q1 with zs2 | zs2
    · have he : (Sum.inl (some (.int zs2.1), zs2.2) : XO) = .inr e := he
      cases he
    · have he : (Sum.inr zs2 : XO) = .inr e := he
      have he := Sum.inr.inj he
      subst he
      dsimp only [Sum.elim] at h
      by_cases e0 : zs2.1 = "java/lang/IllegalArgumentException"
      · rw [if_pos e0] at h
        refine ⟨[], (0, 9, 12, 13), _, "java/lang/IllegalArgumentException", rfl, ?_, rfl, by decide, mw_677, ?_, fun ax => ?_⟩
        · intro w hw
          cases hw
        · rw [e0]
          exact List.mem_of_getElem? (i := 0) rfl
        · refine ev_astore_n (lv' := [some (.ref a0), some (.int a1), some (.ref a2), some (.ref ax)]) dc_L_span_12 rfl (by decide) rfl ?_
          refine ev_iconst (v := 1) dc_L_span_13 (by decide) ?_
          cases h
          exact ev_iretX dc_L_span_14 rfl ⟨Nat.le_of_ble_eq_true rfl, Nat.le_of_ble_eq_true rfl⟩ rfl rfl
      rw [if_neg e0] at h
      cases h
  intro e he
  rcases q1 with zs2 | zs2
  rotate_left
  · have he : (Sum.inr zs2 : XO) = .inl e := he
    cases he
  have he : (Sum.inl (some (.int zs2.1), zs2.2) : XO) = .inl e := he
  cases he
  dsimp only [Sum.elim] at h
  show Ev miL_span (9, 1, 6) G (Zx G (.inl (some (.int r.1), r.2)) 1 6) SK (1, 6) 7 [some (.ref a0), some (.int a1), some (.ref a2), none] [.int zs2.1, .int (0 : Int32), .ref a2] zs2.2
  refine ev_i2l dc_L_span_7 ?_
  refine ev_last dc_L_span_8 i2 h (fun h => ?_)
  refine ev_goto (tgt := 15) dc_L_span_9 (by decide) ?_
  refine ev_iconst (v := 0) dc_L_span_15 (by decide) ?_
  cases h
  exact ev_iretX dc_L_span_16 rfl ⟨Nat.le_of_ble_eq_true rfl, Nat.le_of_ble_eq_true rfl⟩ rfl rfl
theorem dc_L_led_0 : Dc miL_led 0 (.aload_n 3) 1 1 := ⟨by decide +kernel, rfl⟩
theorem dc_L_led_1 : Dc miL_led 1 (.iconst 0) 1 2 := ⟨by decide +kernel, rfl⟩
theorem dc_L_led_2 : Dc miL_led 2 (.aload_n 0) 1 3 := ⟨by decide +kernel, rfl⟩
theorem dc_L_led_3 : Dc miL_led 3 (.iload_n 1) 1 4 := ⟨by decide +kernel, rfl⟩
theorem dc_L_led_4 : Dc miL_led 4 (.iload_n 2) 1 5 := ⟨by decide +kernel, rfl⟩
theorem dc_L_led_5 : Dc miL_led 5 (.invokevirtual 115) 3 8 := ⟨by decide +kernel, rfl⟩
theorem dc_L_led_8 : Dc miL_led 8 (.i2l) 1 9 := ⟨by decide +kernel, rfl⟩
theorem dc_L_led_9 : Dc miL_led 9 (.lastore) 1 10 := ⟨by decide +kernel, rfl⟩
theorem dc_L_led_10 : Dc miL_led 10 (.goto 7) 3 13 := ⟨by decide +kernel, rfl⟩
theorem dc_L_led_13 : Dc miL_led 13 (.astore 4) 2 15 := ⟨by decide +kernel, rfl⟩
theorem dc_L_led_15 : Dc miL_led 15 (.iconst 1) 1 16 := ⟨by decide +kernel, rfl⟩
theorem dc_L_led_16 : Dc miL_led 16 (.ireturn) 1 17 := ⟨by decide +kernel, rfl⟩
theorem dc_L_led_17 : Dc miL_led 17 (.iconst 0) 1 18 := ⟨by decide +kernel, rfl⟩
theorem dc_L_led_18 : Dc miL_led 18 (.ireturn) 1 19 := ⟨by decide +kernel, rfl⟩
def fL_led (N : Nat) (G : pG) (a0 : Nat) (a1 : Int32) (a2 : Int32) (a3 : Nat) (σ : pS) : Option (Int32 × pS) := (fX11_led N G a0 a1 a2 σ).bind (fun q1 => q1.elim (fun zs2 => ck (inB (0 : Int32) (pN G a3)) (some ((0 : Int32), sJ zs2.2 a3 (0 : Int32) zs2.1.toInt64))) (fun e => if e.1 = "java/lang/IndexOutOfBoundsException" then (some ((1 : Int32), e.2)) else (none)))
set_option maxRecDepth 100000 in
set_option maxHeartbeats 4000000 in
theorem tL_led {N : Nat} {G : pG} {SK : Nat → Nat} {a0 : Nat} {a1 : Int32} {a2 : Int32} {a3 : Nat} {σ : pS} {r : Int32 × pS} (hW : WT G) (i0 : Is G a0 10) (i3 : Is G a3 14) (h : fL_led N G a0 a1 a2 a3 σ = some r) : DxH miL_led yL_led 9 2 12 G SK [.ref a0, .int a1, .int a2, .ref a3] σ (.inl (some (.int r.1), r.2)) := by
  unfold fL_led at h
  refine dxh_of (lv := [some (.ref a0), some (.int a1), some (.int a2), some (.ref a3), none]) (by decide) rfl (Nat.le_of_ble_eq_true rfl) rfl ?_
  refine ev_aload_n dc_L_led_0 rfl ?_
  refine ev_iconst (v := 0) dc_L_led_1 (by decide) ?_
  refine ev_aload_n dc_L_led_2 rfl ?_
  refine ev_iload_n dc_L_led_3 rfl ?_
  refine ev_iload_n dc_L_led_4 rfl ?_
  obtain ⟨q1, hq1, h⟩ := Option.bind_eq_some_iff.mp h
  refine ev_callC (av := [.int a1, .int a2]) (st := [.int (0 : Int32), .ref a3]) dc_L_led_5 (tX11_led hW i0 hq1) mw_1465 cy_X11_led i0 (by decide) rfl rfl rfl (Nat.le_of_ble_eq_true rfl) (Nat.le_of_ble_eq_true rfl) ⟨Nat.le_of_ble_eq_true rfl, Nat.le_of_ble_eq_true rfl⟩ ?_ ?_
  · intro e he
    rcases q1 with zs2 | zs2
    · have he : (Sum.inl (some (.int zs2.1), zs2.2) : XO) = .inr e := he
      cases he
    · have he : (Sum.inr zs2 : XO) = .inr e := he
      have he := Sum.inr.inj he
      subst he
      dsimp only [Sum.elim] at h
      by_cases e0 : zs2.1 = "java/lang/IndexOutOfBoundsException"
      · rw [if_pos e0] at h
        refine ⟨[], (0, 10, 13, 24), _, "java/lang/IndexOutOfBoundsException", rfl, ?_, rfl, by decide, mw_1033, ?_, fun ax => ?_⟩
        · intro w hw
          cases hw
        · rw [e0]
          exact List.mem_of_getElem? (i := 2) rfl
        · refine ev_astore (lv' := [some (.ref a0), some (.int a1), some (.int a2), some (.ref a3), some (.ref ax)]) dc_L_led_13 rfl (by decide) rfl ?_
          refine ev_iconst (v := 1) dc_L_led_15 (by decide) ?_
          cases h
          exact ev_iretX dc_L_led_16 rfl ⟨Nat.le_of_ble_eq_true rfl, Nat.le_of_ble_eq_true rfl⟩ rfl rfl
      rw [if_neg e0] at h
      cases h
  intro e he
  rcases q1 with zs2 | zs2
  rotate_left
  · have he : (Sum.inr zs2 : XO) = .inl e := he
    cases he
  have he : (Sum.inl (some (.int zs2.1), zs2.2) : XO) = .inl e := he
  cases he
  dsimp only [Sum.elim] at h
  show Ev miL_led (9, 2, 12) G (Zx G (.inl (some (.int r.1), r.2)) 2 12) SK (2, 12) 8 [some (.ref a0), some (.int a1), some (.int a2), some (.ref a3), none] [.int zs2.1, .int (0 : Int32), .ref a3] zs2.2
  refine ev_i2l dc_L_led_8 ?_
  refine ev_last dc_L_led_9 i3 h (fun h => ?_)
  refine ev_goto (tgt := 17) dc_L_led_10 (by decide) ?_
  refine ev_iconst (v := 0) dc_L_led_17 (by decide) ?_
  cases h
  exact ev_iretX dc_L_led_18 rfl ⟨Nat.le_of_ble_eq_true rfl, Nat.le_of_ble_eq_true rfl⟩ rfl rfl
theorem dc_L_log_0 : Dc miL_log 0 (.aload_n 3) 1 1 := ⟨by decide +kernel, rfl⟩
theorem dc_L_log_1 : Dc miL_log 1 (.iconst 0) 1 2 := ⟨by decide +kernel, rfl⟩
theorem dc_L_log_2 : Dc miL_log 2 (.aload_n 0) 1 3 := ⟨by decide +kernel, rfl⟩
theorem dc_L_log_3 : Dc miL_log 3 (.iload_n 1) 1 4 := ⟨by decide +kernel, rfl⟩
theorem dc_L_log_4 : Dc miL_log 4 (.iload_n 2) 1 5 := ⟨by decide +kernel, rfl⟩
theorem dc_L_log_5 : Dc miL_log 5 (.invokevirtual 118) 3 8 := ⟨by decide +kernel, rfl⟩
theorem dc_L_log_8 : Dc miL_log 8 (.i2l) 1 9 := ⟨by decide +kernel, rfl⟩
theorem dc_L_log_9 : Dc miL_log 9 (.lastore) 1 10 := ⟨by decide +kernel, rfl⟩
theorem dc_L_log_10 : Dc miL_log 10 (.goto 7) 3 13 := ⟨by decide +kernel, rfl⟩
theorem dc_L_log_13 : Dc miL_log 13 (.astore 4) 2 15 := ⟨by decide +kernel, rfl⟩
theorem dc_L_log_15 : Dc miL_log 15 (.iconst 1) 1 16 := ⟨by decide +kernel, rfl⟩
theorem dc_L_log_16 : Dc miL_log 16 (.ireturn) 1 17 := ⟨by decide +kernel, rfl⟩
theorem dc_L_log_17 : Dc miL_log 17 (.iconst 0) 1 18 := ⟨by decide +kernel, rfl⟩
theorem dc_L_log_18 : Dc miL_log 18 (.ireturn) 1 19 := ⟨by decide +kernel, rfl⟩
def fL_log (N : Nat) (G : pG) (a0 : Nat) (a1 : Int32) (a2 : Int32) (a3 : Nat) (σ : pS) : Option (Int32 × pS) := (fX11_log N G a0 a1 a2 σ).bind (fun q1 => q1.elim (fun zs2 => ck (inB (0 : Int32) (pN G a3)) (some ((0 : Int32), sJ zs2.2 a3 (0 : Int32) zs2.1.toInt64))) (fun e => if e.1 = "java/util/NoSuchElementException" then (some ((1 : Int32), e.2)) else (none)))
set_option maxRecDepth 100000 in
set_option maxHeartbeats 4000000 in
theorem tL_log {N : Nat} {G : pG} {SK : Nat → Nat} {a0 : Nat} {a1 : Int32} {a2 : Int32} {a3 : Nat} {σ : pS} {r : Int32 × pS} (hW : WT G) (i0 : Is G a0 10) (i3 : Is G a3 14) (h : fL_log N G a0 a1 a2 a3 σ = some r) : DxH miL_log yL_log 8 1 6 G SK [.ref a0, .int a1, .int a2, .ref a3] σ (.inl (some (.int r.1), r.2)) := by
  unfold fL_log at h
  refine dxh_of (lv := [some (.ref a0), some (.int a1), some (.int a2), some (.ref a3), none]) (by decide) rfl (Nat.le_of_ble_eq_true rfl) rfl ?_
  refine ev_aload_n dc_L_log_0 rfl ?_
  refine ev_iconst (v := 0) dc_L_log_1 (by decide) ?_
  refine ev_aload_n dc_L_log_2 rfl ?_
  refine ev_iload_n dc_L_log_3 rfl ?_
  refine ev_iload_n dc_L_log_4 rfl ?_
  obtain ⟨q1, hq1, h⟩ := Option.bind_eq_some_iff.mp h
  refine ev_callC (av := [.int a1, .int a2]) (st := [.int (0 : Int32), .ref a3]) dc_L_log_5 (tX11_log hW i0 hq1) mw_1476 cy_X11_log i0 (by decide) rfl rfl rfl (Nat.le_of_ble_eq_true rfl) (Nat.le_of_ble_eq_true rfl) ⟨Nat.le_of_ble_eq_true rfl, Nat.le_of_ble_eq_true rfl⟩ ?_ ?_
  · intro e he
    rcases q1 with zs2 | zs2
    · have he : (Sum.inl (some (.int zs2.1), zs2.2) : XO) = .inr e := he
      cases he
    · have he : (Sum.inr zs2 : XO) = .inr e := he
      have he := Sum.inr.inj he
      subst he
      dsimp only [Sum.elim] at h
      by_cases e0 : zs2.1 = "java/util/NoSuchElementException"
      · rw [if_pos e0] at h
        refine ⟨[], (0, 10, 13, 26), _, "java/util/NoSuchElementException", rfl, ?_, rfl, by decide, mw_1034, ?_, fun ax => ?_⟩
        · intro w hw
          cases hw
        · rw [e0]
          exact List.mem_of_getElem? (i := 3) rfl
        · refine ev_astore (lv' := [some (.ref a0), some (.int a1), some (.int a2), some (.ref a3), some (.ref ax)]) dc_L_log_13 rfl (by decide) rfl ?_
          refine ev_iconst (v := 1) dc_L_log_15 (by decide) ?_
          cases h
          exact ev_iretX dc_L_log_16 rfl ⟨Nat.le_of_ble_eq_true rfl, Nat.le_of_ble_eq_true rfl⟩ rfl rfl
      rw [if_neg e0] at h
      cases h
  intro e he
  rcases q1 with zs2 | zs2
  rotate_left
  · have he : (Sum.inr zs2 : XO) = .inl e := he
    cases he
  have he : (Sum.inl (some (.int zs2.1), zs2.2) : XO) = .inl e := he
  cases he
  dsimp only [Sum.elim] at h
  show Ev miL_log (8, 1, 6) G (Zx G (.inl (some (.int r.1), r.2)) 1 6) SK (1, 6) 8 [some (.ref a0), some (.int a1), some (.int a2), some (.ref a3), none] [.int zs2.1, .int (0 : Int32), .ref a3] zs2.2
  refine ev_i2l dc_L_log_8 ?_
  refine ev_last dc_L_log_9 i3 h (fun h => ?_)
  refine ev_goto (tgt := 17) dc_L_log_10 (by decide) ?_
  refine ev_iconst (v := 0) dc_L_log_17 (by decide) ?_
  cases h
  exact ev_iretX dc_L_log_18 rfl ⟨Nat.le_of_ble_eq_true rfl, Nat.le_of_ble_eq_true rfl⟩ rfl rfl
