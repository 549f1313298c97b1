theorem lcz {x : Int64} : lg_cmp x x = 0 := by
  simp [lg_cmp]
theorem cwL_story : CW miL_story yL_story 2 := ⟨mw_675, mw_0, cw_L_story, ⟨by decide, by decide, by decide⟩, by decide⟩
theorem cwL_law : CW miL_law yL_law 2 := ⟨mw_939, mw_0, cw_L_law, ⟨by decide, by decide, by decide⟩, by decide⟩
theorem cwL_name : CW miL_name yL_name 4 := ⟨mw_1031, mw_0, cw_L_name, ⟨by decide, by decide, by decide⟩, by decide⟩
theorem cwL_court : CW miL_court yL_court 4 := ⟨mw_1084, mw_0, cw_L_court, ⟨by decide, by decide, by decide⟩, by decide⟩
theorem cwL_word : CW miL_word yL_word 4 := ⟨mw_1097, mw_0, cw_L_word, ⟨by decide, by decide, by decide⟩, by decide⟩
theorem cwL_deed : CW miL_deed yL_deed 4 := ⟨mw_1109, mw_0, cw_L_deed, ⟨by decide, by decide, by decide⟩, by decide⟩
theorem cwL_stings : CW miL_stings yL_stings 4 := ⟨mw_1126, mw_0, cw_L_stings, ⟨by decide, by decide, by decide⟩, by decide⟩
theorem cwL_say : CW miL_say yL_say 4 := ⟨mw_1133, mw_0, cw_L_say, ⟨by decide, by decide, by decide⟩, by decide⟩
theorem cwL_does : CW miL_does yL_does 3 := ⟨mw_1173, mw_0, cw_L_does, ⟨by decide, by decide, by decide⟩, by decide⟩
theorem cwL_keep : CW miL_keep yL_keep 4 := ⟨mw_1186, mw_0, cw_L_keep, ⟨by decide, by decide, by decide⟩, by decide⟩
theorem cwL_habit : CW miL_habit yL_habit 4 := ⟨mw_1193, mw_0, cw_L_habit, ⟨by decide, by decide, by decide⟩, by decide⟩
theorem cwL_his : CW miL_his yL_his 3 := ⟨mw_1201, mw_0, cw_L_his, ⟨by decide, by decide, by decide⟩, by decide⟩
theorem cwL_crumb : CW miL_crumb yL_crumb 3 := ⟨mw_1209, mw_0, cw_L_crumb, ⟨by decide, by decide, by decide⟩, by decide⟩
theorem cwL_nights : CW miL_nights yL_nights 3 := ⟨mw_1222, mw_0, cw_L_nights, ⟨by decide, by decide, by decide⟩, by decide⟩
theorem cwL_would : CW miL_would yL_would 5 := ⟨mw_1249, mw_0, cw_L_would, ⟨by decide, by decide, by decide⟩, by decide⟩
theorem cwL_ahead : CW miL_ahead yL_ahead 4 := ⟨mw_1257, mw_0, cw_L_ahead, ⟨by decide, by decide, by decide⟩, by decide⟩
theorem cwL_first : CW miL_first yL_first 3 := ⟨mw_1272, mw_0, cw_L_first, ⟨by decide, by decide, by decide⟩, by decide⟩
theorem cwL_siege : CW miL_siege yL_siege 3 := ⟨mw_1279, mw_0, cw_L_siege, ⟨by decide, by decide, by decide⟩, by decide⟩
theorem cwL_plan : CW miL_plan yL_plan 3 := ⟨mw_1323, mw_0, cw_L_plan, ⟨by decide, by decide, by decide⟩, by decide⟩
theorem cwL_keeps : CW miL_keeps yL_keeps 4 := ⟨mw_1334, mw_0, cw_L_keeps, ⟨by decide, by decide, by decide⟩, by decide⟩
theorem cwL_fewest : CW miL_fewest yL_fewest 3 := ⟨mw_1345, mw_0, cw_L_fewest, ⟨by decide, by decide, by decide⟩, by decide⟩
theorem cwL_silence : CW miL_silence yL_silence 3 := ⟨mw_1383, mw_0, cw_L_silence, ⟨by decide, by decide, by decide⟩, by decide⟩
theorem cwL_belief : CW miL_belief yL_belief 3 := ⟨mw_1394, mw_0, cw_L_belief, ⟨by decide, by decide, by decide⟩, by decide⟩
theorem cwL_duty : CW miL_duty yL_duty 3 := ⟨mw_1401, mw_0, cw_L_duty, ⟨by decide, by decide, by decide⟩, by decide⟩
theorem cwL_cheapest : CW miL_cheapest yL_cheapest 4 := ⟨mw_1409, mw_0, cw_L_cheapest, ⟨by decide, by decide, by decide⟩, by decide⟩
theorem cwL_sharpest : CW miL_sharpest yL_sharpest 3 := ⟨mw_1424, mw_0, cw_L_sharpest, ⟨by decide, by decide, by decide⟩, by decide⟩
theorem cwL_similar : CW miL_similar yL_similar 4 := ⟨mw_1431, mw_0, cw_L_similar, ⟨by decide, by decide, by decide⟩, by decide⟩
theorem cwL_learnt : CW miL_learnt yL_learnt 3 := ⟨mw_1438, mw_0, cw_L_learnt, ⟨by decide, by decide, by decide⟩, by decide⟩
theorem cwL_trial : CW miL_trial yL_trial 4 := ⟨mw_1445, mw_0, cw_L_trial, ⟨by decide, by decide, by decide⟩, by decide⟩
theorem cwL_span : CW miL_span yL_span 3 := ⟨mw_1456, mw_0, cw_L_span, ⟨by decide, by decide, by decide⟩, by decide⟩
theorem cwL_led : CW miL_led yL_led 4 := ⟨mw_1463, mw_0, cw_L_led, ⟨by decide, by decide, by decide⟩, by decide⟩
theorem cwL_log : CW miL_log yL_log 4 := ⟨mw_1474, mw_0, cw_L_log, ⟨by decide, by decide, by decide⟩, by decide⟩
def Gd_feed (N : Nat) (G1 G2 : pG) (xa ma oa : Nat) (Inv : pS → pS → Prop) : Prop := ∀ (σ1 σ2 : pS), Inv σ1 σ2 → ∀ (c1 : Int32) (c2 : Int32) (c3 : Int32) (c4 : Int32) (c5 : Int32), ∃ (v : Int32) (τ1 τ2 : pS), fX11_feed N G1 xa c1 c2 c3 c4 c5 σ1 = some (v, τ1) ∧ fX12_feed N G2 ma c1 c2 c3 c4 c5 σ2 = some (v, τ2) ∧ Inv τ1 τ2
set_option maxRecDepth 100000 in
set_option maxHeartbeats 4000000 in
theorem lc_0 {B : Nat × Nat × Nat} {bs L : Nat} {xs : Nat → Int32} {G1 G2 : pG} {SK : Nat → Nat} {u : Nat × Nat} {σ1 σ2 : pS} {N xa ma oa : Nat} {Inv : pS → pS → Prop} {x4 : Int32} (hW1 : WT G1) (hW2 : WT G2) (hx : Is G1 xa 10) (hm : Is G2 ma 11) (ho : Is G1 oa 14) (ho1 : inB 0 (pN G1 oa) = true) (hg : Gd_feed N G1 G2 xa ma oa Inv) (hI : Inv σ1 σ2) (hb1 : vp_in (x4 + (1 : Int32)) L) (hb2 : vp_in (x4 + (2 : Int32)) L) (hb3 : vp_in (x4 + (3 : Int32)) L) (hb4 : vp_in (x4 + (4 : Int32)) L) (hb5 : vp_in (x4 + (5 : Int32)) L) (hB : 1024 ≤ B.1) (hu : u.1 + 3 ≤ B.2.1 ∧ u.2 + 18 ≤ B.2.2) (K : ∀ τ1 τ2 : pS, Inv τ1 τ2 → EvL B bs L xs G1 G2 SK (u.1 + 3, u.2 + 18) 2718 [some (.ref bs), some (.ref xa), some (.ref ma), some (.ref oa), some (.int x4), none, none] [] τ1 τ2) : EvL B bs L xs G1 G2 SK u 268 [some (.ref bs), some (.ref xa), some (.ref ma), some (.ref oa), some (.int x4), none, none] [] σ1 σ2 := by
  refine el_aload_n dc_L_law__268 rfl ?_
  refine el_aload_n dc_L_law__269 rfl ?_
  refine el_iload dc_L_law__270 rfl ?_
  refine el_iconst (v := 1) dc_L_law__272 (by decide) ?_
  refine el_iadd dc_L_law__273 ?_
  refine el_sld dc_L_law__274 hb1 ?_
  refine el_aload_n dc_L_law__275 rfl ?_
  refine el_iload dc_L_law__276 rfl ?_
  refine el_iconst (v := 2) dc_L_law__278 (by decide) ?_
  refine el_iadd dc_L_law__279 ?_
  refine el_sld dc_L_law__280 hb2 ?_
  refine el_aload_n dc_L_law__281 rfl ?_
  refine el_iload dc_L_law__282 rfl ?_
  refine el_iconst (v := 3) dc_L_law__284 (by decide) ?_
  refine el_iadd dc_L_law__285 ?_
  refine el_sld dc_L_law__286 hb3 ?_
  refine el_aload_n dc_L_law__287 rfl ?_
  refine el_iload dc_L_law__288 rfl ?_
  refine el_iconst (v := 4) dc_L_law__290 (by decide) ?_
  refine el_iadd dc_L_law__291 ?_
  refine el_sld dc_L_law__292 hb4 ?_
  refine el_aload_n dc_L_law__293 rfl ?_
  refine el_iload dc_L_law__294 rfl ?_
  refine el_iconst (v := 5) dc_L_law__296 (by decide) ?_
  refine el_iadd dc_L_law__297 ?_
  refine el_sld dc_L_law__298 hb5 ?_
  obtain ⟨v9, τ1, τ2, e1, e2, hI9⟩ := hg _ _ hI (xs (x4 + (1 : Int32)).toNatClampNeg) (xs (x4 + (2 : Int32)).toNatClampNeg) (xs (x4 + (3 : Int32)).toNatClampNeg) (xs (x4 + (4 : Int32)).toNatClampNeg) (xs (x4 + (5 : Int32)).toNatClampNeg)
  refine el_call1 (av := [.int (xs (x4 + (1 : Int32)).toNatClampNeg), .int (xs (x4 + (2 : Int32)).toNatClampNeg), .int (xs (x4 + (3 : Int32)).toNatClampNeg), .int (xs (x4 + (4 : Int32)).toNatClampNeg), .int (xs (x4 + (5 : Int32)).toNatClampNeg)]) (st := []) (st1 := [.int v9]) dc_L_law__299 (tX11_feed hW1 hx e1) mw_447 cy_X11_feed hx (by decide) rfl rfl rfl rfl (Nat.le_of_ble_eq_true rfl) (Nat.le_trans (show _ ≤ 1024 from Nat.le_of_ble_eq_true rfl) hB) ⟨(show u.1 ≤ B.2.1 from by omega), (show u.2 ≤ B.2.2 from by omega)⟩ ?_
  refine el_aload_n dc_L_law__302 rfl ?_
  refine el_aload_n dc_L_law__303 rfl ?_
  refine el_iload dc_L_law__304 rfl ?_
  refine el_iconst (v := 1) dc_L_law__306 (by decide) ?_
  refine el_iadd dc_L_law__307 ?_
  refine el_sld dc_L_law__308 hb1 ?_
  refine el_aload_n dc_L_law__309 rfl ?_
  refine el_iload dc_L_law__310 rfl ?_
  refine el_iconst (v := 2) dc_L_law__312 (by decide) ?_
  refine el_iadd dc_L_law__313 ?_
  refine el_sld dc_L_law__314 hb2 ?_
  refine el_aload_n dc_L_law__315 rfl ?_
  refine el_iload dc_L_law__316 rfl ?_
  refine el_iconst (v := 3) dc_L_law__318 (by decide) ?_
  refine el_iadd dc_L_law__319 ?_
  refine el_sld dc_L_law__320 hb3 ?_
  refine el_aload_n dc_L_law__321 rfl ?_
  refine el_iload dc_L_law__322 rfl ?_
  refine el_iconst (v := 4) dc_L_law__324 (by decide) ?_
  refine el_iadd dc_L_law__325 ?_
  refine el_sld dc_L_law__326 hb4 ?_
  refine el_aload_n dc_L_law__327 rfl ?_
  refine el_iload dc_L_law__328 rfl ?_
  refine el_iconst (v := 5) dc_L_law__330 (by decide) ?_
  refine el_iadd dc_L_law__331 ?_
  refine el_sld dc_L_law__332 hb5 ?_
  refine el_call2 (av := [.int (xs (x4 + (1 : Int32)).toNatClampNeg), .int (xs (x4 + (2 : Int32)).toNatClampNeg), .int (xs (x4 + (3 : Int32)).toNatClampNeg), .int (xs (x4 + (4 : Int32)).toNatClampNeg), .int (xs (x4 + (5 : Int32)).toNatClampNeg)]) (st := [.int v9]) (st1 := [.int v9, .int v9]) dc_L_law__333 (tX12_feed hW2 hm e2) mw_1593 cy_X12_feed hm (by decide) rfl rfl rfl rfl (Nat.le_of_ble_eq_true rfl) (Nat.le_trans (show _ ≤ 1024 from Nat.le_of_ble_eq_true rfl) hB) ⟨(show u.1 ≤ B.2.1 from by omega), (show u.2 ≤ B.2.2 from by omega)⟩ ?_
  refine el_icmp_eq (tgt := 2718) dc_L_law__336 (by decide) (fun _ => ?_) (fun h => absurd rfl h)
  exact el_wid ⟨(show u.1 ≤ u.1 + 3 from by omega), (show u.2 ≤ u.2 + 18 from by omega)⟩ (el_sub (K τ1 τ2 hI9) (And.intro rfl (And.intro rfl (And.intro rfl (And.intro rfl (And.intro rfl trivial))))))
def Gd_end (N : Nat) (G1 G2 : pG) (xa ma oa : Nat) (Inv : pS → pS → Prop) : Prop := ∀ (σ1 σ2 : pS), Inv σ1 σ2 → ∀ (c1 : Int32), ∃ (v : Int32) (τ1 τ2 : pS), fX11_end N G1 xa c1 σ1 = some (v, τ1) ∧ fX12_end N G2 ma c1 σ2 = some (v, τ2) ∧ Inv τ1 τ2
set_option maxRecDepth 100000 in
set_option maxHeartbeats 4000000 in
theorem lc_1 {B : Nat × Nat × Nat} {bs L : Nat} {xs : Nat → Int32} {G1 G2 : pG} {SK : Nat → Nat} {u : Nat × Nat} {σ1 σ2 : pS} {N xa ma oa : Nat} {Inv : pS → pS → Prop} {x4 : Int32} (hW1 : WT G1) (hW2 : WT G2) (hx : Is G1 xa 10) (hm : Is G2 ma 11) (ho : Is G1 oa 14) (ho1 : inB 0 (pN G1 oa) = true) (hg : Gd_end N G1 G2 xa ma oa Inv) (hI : Inv σ1 σ2) (hb1 : vp_in (x4 + (1 : Int32)) L) (hb2 : vp_in (x4 + (2 : Int32)) L) (hb3 : vp_in (x4 + (3 : Int32)) L) (hb4 : vp_in (x4 + (4 : Int32)) L) (hb5 : vp_in (x4 + (5 : Int32)) L) (hB : 1024 ≤ B.1) (hu : u.1 + 3 ≤ B.2.1 ∧ u.2 + 18 ≤ B.2.2) (K : ∀ τ1 τ2 : pS, Inv τ1 τ2 → EvL B bs L xs G1 G2 SK (u.1 + 3, u.2 + 18) 2718 [some (.ref bs), some (.ref xa), some (.ref ma), some (.ref oa), some (.int x4), none, none] [] τ1 τ2) : EvL B bs L xs G1 G2 SK u 341 [some (.ref bs), some (.ref xa), some (.ref ma), some (.ref oa), some (.int x4), none, none] [] σ1 σ2 := by
  refine el_aload_n dc_L_law__341 rfl ?_
  refine el_aload_n dc_L_law__342 rfl ?_
  refine el_iload dc_L_law__343 rfl ?_
  refine el_iconst (v := 1) dc_L_law__345 (by decide) ?_
  refine el_iadd dc_L_law__346 ?_
  refine el_sld dc_L_law__347 hb1 ?_
  obtain ⟨v9, τ1, τ2, e1, e2, hI9⟩ := hg _ _ hI (xs (x4 + (1 : Int32)).toNatClampNeg)
  refine el_call1 (av := [.int (xs (x4 + (1 : Int32)).toNatClampNeg)]) (st := []) (st1 := [.int v9]) dc_L_law__348 (tX11_end hW1 hx e1) mw_459 cy_X11_end hx (by decide) rfl rfl rfl rfl (Nat.le_of_ble_eq_true rfl) (Nat.le_trans (show _ ≤ 1024 from Nat.le_of_ble_eq_true rfl) hB) ⟨(show u.1 ≤ B.2.1 from by omega), (show u.2 ≤ B.2.2 from by omega)⟩ ?_
  refine el_aload_n dc_L_law__351 rfl ?_
  refine el_aload_n dc_L_law__352 rfl ?_
  refine el_iload dc_L_law__353 rfl ?_
  refine el_iconst (v := 1) dc_L_law__355 (by decide) ?_
  refine el_iadd dc_L_law__356 ?_
  refine el_sld dc_L_law__357 hb1 ?_
  refine el_call2 (av := [.int (xs (x4 + (1 : Int32)).toNatClampNeg)]) (st := [.int v9]) (st1 := [.int v9, .int v9]) dc_L_law__358 (tX12_end hW2 hm e2) mw_1597 cy_X12_end hm (by decide) rfl rfl rfl rfl (Nat.le_of_ble_eq_true rfl) (Nat.le_trans (show _ ≤ 1024 from Nat.le_of_ble_eq_true rfl) hB) ⟨(show u.1 ≤ B.2.1 from by omega), (show u.2 ≤ B.2.2 from by omega)⟩ ?_
  refine el_icmp_eq (tgt := 2718) dc_L_law__361 (by decide) (fun _ => ?_) (fun h => absurd rfl h)
  exact el_wid ⟨(show u.1 ≤ u.1 + 3 from by omega), (show u.2 ≤ u.2 + 18 from by omega)⟩ (el_sub (K τ1 τ2 hI9) (And.intro rfl (And.intro rfl (And.intro rfl (And.intro rfl (And.intro rfl trivial))))))
def Gd_story (N : Nat) (G1 G2 : pG) (xa ma oa : Nat) (Inv : pS → pS → Prop) : Prop := ∀ (σ1 σ2 : pS), Inv σ1 σ2 → ∃ (k w : Int32) (τ1 τ2 : pS), fL_story N G1 xa oa σ1 = some (k, τ1) ∧ fX12_story N G2 ma σ2 = some (w, τ2) ∧ fX12_thrown N G2 ma τ2 = some k ∧ (k = 0 → gJ τ1 oa 0 = w.toInt64) ∧ Inv τ1 τ2
set_option maxRecDepth 100000 in
set_option maxHeartbeats 4000000 in
theorem lc_2 {B : Nat × Nat × Nat} {bs L : Nat} {xs : Nat → Int32} {G1 G2 : pG} {SK : Nat → Nat} {u : Nat × Nat} {σ1 σ2 : pS} {N xa ma oa : Nat} {Inv : pS → pS → Prop} {x4 : Int32} (hW1 : WT G1) (hW2 : WT G2) (hx : Is G1 xa 10) (hm : Is G2 ma 11) (ho : Is G1 oa 14) (ho1 : inB 0 (pN G1 oa) = true) (hg : Gd_story N G1 G2 xa ma oa Inv) (hI : Inv σ1 σ2) (hb1 : vp_in (x4 + (1 : Int32)) L) (hb2 : vp_in (x4 + (2 : Int32)) L) (hb3 : vp_in (x4 + (3 : Int32)) L) (hb4 : vp_in (x4 + (4 : Int32)) L) (hb5 : vp_in (x4 + (5 : Int32)) L) (hB : 1024 ≤ B.1) (hu : u.1 + 3 ≤ B.2.1 ∧ u.2 + 18 ≤ B.2.2) (K : ∀ τ1 τ2 : pS, Inv τ1 τ2 → EvL B bs L xs G1 G2 SK (u.1 + 3, u.2 + 18) 2718 [some (.ref bs), some (.ref xa), some (.ref ma), some (.ref oa), some (.int x4), none, none] [] τ1 τ2) : EvL B bs L xs G1 G2 SK u 366 [some (.ref bs), some (.ref xa), some (.ref ma), some (.ref oa), some (.int x4), none, none] [] σ1 σ2 := by
  refine el_aload_n dc_L_law__366 rfl ?_
  refine el_aload_n dc_L_law__367 rfl ?_
  obtain ⟨k9, w9, τ1, τ2, e1, e2, e3, e4, hI9⟩ := hg _ _ hI
  refine el_wrap (av := [.ref xa, .ref oa]) (st := []) dc_L_law__368 (tL_story hW1 hx ho e1) mw_674 cwL_story rfl rfl (Nat.le_of_ble_eq_true rfl) (Nat.le_trans (show _ ≤ 1024 from Nat.le_of_ble_eq_true rfl) hB) ⟨(show u.1 + 1 ≤ B.2.1 from by omega), (show u.2 + 6 ≤ B.2.2 from by omega)⟩ ?_
  refine el_istore (lv' := [some (.ref bs), some (.ref xa), some (.ref ma), some (.ref oa), some (.int x4), some (.int k9), none]) dc_L_law__371 rfl (by decide) rfl ?_
  refine el_aload_n dc_L_law__373 rfl ?_
  refine el_call2 (av := []) (st := []) (st1 := [.int w9]) dc_L_law__374 (tX12_story hW2 hm e2) mw_1605 cy_X12_story hm (by decide) rfl rfl rfl rfl (Nat.le_of_ble_eq_true rfl) (Nat.le_trans (show _ ≤ 1024 from Nat.le_of_ble_eq_true rfl) hB) ⟨(show u.1 + 1 ≤ B.2.1 from by omega), (show u.2 + 6 ≤ B.2.2 from by omega)⟩ ?_
  refine el_istore (lv' := [some (.ref bs), some (.ref xa), some (.ref ma), some (.ref oa), some (.int x4), some (.int k9), some (.int w9)]) dc_L_law__377 rfl (by decide) rfl ?_
  refine el_aload_n dc_L_law__379 rfl ?_
  refine el_call2 (av := []) (st := []) (st1 := [.int k9]) dc_L_law__380 (tX12_thrown hW2 hm e3) mw_1482 cy_X12_thrown hm (by decide) rfl rfl rfl rfl (Nat.le_of_ble_eq_true rfl) (Nat.le_trans (show _ ≤ 1024 from Nat.le_of_ble_eq_true rfl) hB) ⟨(show u.1 + 1 ≤ B.2.1 from by omega), (show u.2 + 6 ≤ B.2.2 from by omega)⟩ ?_
  refine el_iload dc_L_law__383 rfl ?_
  refine el_icmp_eq (tgt := 390) dc_L_law__385 (by decide) (fun _ => ?_) (fun h => absurd rfl h)
  refine el_iload dc_L_law__390 rfl ?_
  refine el_if_ne (tgt := 407) dc_L_law__392 (by decide) (fun hk => ?_) (fun hk => ?_)
  · refine el_goto (tgt := 2718) dc_L_law__407 (by decide) ?_
    exact el_wid ⟨(show u.1 + 1 ≤ u.1 + 3 from by omega), (show u.2 + 6 ≤ u.2 + 18 from by omega)⟩ (el_sub (K τ1 τ2 hI9) (And.intro rfl (And.intro rfl (And.intro rfl (And.intro rfl (And.intro rfl trivial))))))
  have hk : k9 = 0 := Classical.not_not.mp hk
  refine el_aload_n dc_L_law__395 rfl ?_
  refine el_iconst (v := 0) dc_L_law__396 (by decide) ?_
  refine el_lald dc_L_law__397 ho ho1 ?_
  refine el_iload dc_L_law__398 rfl ?_
  refine el_i2l dc_L_law__400 ?_
  refine el_lcmp dc_L_law__401 ?_
  refine el_if_eq (tgt := 407) dc_L_law__402 (by decide) (fun _ => ?_) (fun h => absurd (by rw [e4 hk]; exact lcz) h)
  refine el_goto (tgt := 2718) dc_L_law__407 (by decide) ?_
  exact el_wid ⟨(show u.1 + 1 ≤ u.1 + 3 from by omega), (show u.2 + 6 ≤ u.2 + 18 from by omega)⟩ (el_sub (K τ1 τ2 hI9) (And.intro rfl (And.intro rfl (And.intro rfl (And.intro rfl (And.intro rfl trivial))))))
def Gd_law (N : Nat) (G1 G2 : pG) (xa ma oa : Nat) (Inv : pS → pS → Prop) : Prop := ∀ (σ1 σ2 : pS), Inv σ1 σ2 → ∃ (k w : Int32) (τ1 τ2 : pS), fL_law N G1 xa oa σ1 = some (k, τ1) ∧ fX12_law N G2 ma σ2 = some (w, τ2) ∧ fX12_thrown N G2 ma τ2 = some k ∧ (k = 0 → gJ τ1 oa 0 = w.toInt64) ∧ Inv τ1 τ2
set_option maxRecDepth 100000 in
set_option maxHeartbeats 4000000 in
theorem lc_3 {B : Nat × Nat × Nat} {bs L : Nat} {xs : Nat → Int32} {G1 G2 : pG} {SK : Nat → Nat} {u : Nat × Nat} {σ1 σ2 : pS} {N xa ma oa : Nat} {Inv : pS → pS → Prop} {x4 : Int32} (hW1 : WT G1) (hW2 : WT G2) (hx : Is G1 xa 10) (hm : Is G2 ma 11) (ho : Is G1 oa 14) (ho1 : inB 0 (pN G1 oa) = true) (hg : Gd_law N G1 G2 xa ma oa Inv) (hI : Inv σ1 σ2) (hb1 : vp_in (x4 + (1 : Int32)) L) (hb2 : vp_in (x4 + (2 : Int32)) L) (hb3 : vp_in (x4 + (3 : Int32)) L) (hb4 : vp_in (x4 + (4 : Int32)) L) (hb5 : vp_in (x4 + (5 : Int32)) L) (hB : 1024 ≤ B.1) (hu : u.1 + 3 ≤ B.2.1 ∧ u.2 + 18 ≤ B.2.2) (K : ∀ τ1 τ2 : pS, Inv τ1 τ2 → EvL B bs L xs G1 G2 SK (u.1 + 3, u.2 + 18) 2718 [some (.ref bs), some (.ref xa), some (.ref ma), some (.ref oa), some (.int x4), none, none] [] τ1 τ2) : EvL B bs L xs G1 G2 SK u 410 [some (.ref bs), some (.ref xa), some (.ref ma), some (.ref oa), some (.int x4), none, none] [] σ1 σ2 := by
  refine el_aload_n dc_L_law__410 rfl ?_
  refine el_aload_n dc_L_law__411 rfl ?_
  obtain ⟨k9, w9, τ1, τ2, e1, e2, e3, e4, hI9⟩ := hg _ _ hI
  refine el_wrap (av := [.ref xa, .ref oa]) (st := []) dc_L_law__412 (tL_law hW1 hx ho e1) mw_938 cwL_law rfl rfl (Nat.le_of_ble_eq_true rfl) (Nat.le_trans (show _ ≤ 1024 from Nat.le_of_ble_eq_true rfl) hB) ⟨(show u.1 + 1 ≤ B.2.1 from by omega), (show u.2 + 6 ≤ B.2.2 from by omega)⟩ ?_
  refine el_istore (lv' := [some (.ref bs), some (.ref xa), some (.ref ma), some (.ref oa), some (.int x4), some (.int k9), none]) dc_L_law__415 rfl (by decide) rfl ?_
  refine el_aload_n dc_L_law__417 rfl ?_
  refine el_call2 (av := []) (st := []) (st1 := [.int w9]) dc_L_law__418 (tX12_law hW2 hm e2) mw_1788 cy_X12_law hm (by decide) rfl rfl rfl rfl (Nat.le_of_ble_eq_true rfl) (Nat.le_trans (show _ ≤ 1024 from Nat.le_of_ble_eq_true rfl) hB) ⟨(show u.1 + 1 ≤ B.2.1 from by omega), (show u.2 + 6 ≤ B.2.2 from by omega)⟩ ?_
  refine el_istore (lv' := [some (.ref bs), some (.ref xa), some (.ref ma), some (.ref oa), some (.int x4), some (.int k9), some (.int w9)]) dc_L_law__421 rfl (by decide) rfl ?_
  refine el_aload_n dc_L_law__423 rfl ?_
  refine el_call2 (av := []) (st := []) (st1 := [.int k9]) dc_L_law__424 (tX12_thrown hW2 hm e3) mw_1482 cy_X12_thrown hm (by decide) rfl rfl rfl rfl (Nat.le_of_ble_eq_true rfl) (Nat.le_trans (show _ ≤ 1024 from Nat.le_of_ble_eq_true rfl) hB) ⟨(show u.1 + 1 ≤ B.2.1 from by omega), (show u.2 + 6 ≤ B.2.2 from by omega)⟩ ?_
  refine el_iload dc_L_law__427 rfl ?_
  refine el_icmp_eq (tgt := 434) dc_L_law__429 (by decide) (fun _ => ?_) (fun h => absurd rfl h)
  refine el_iload dc_L_law__434 rfl ?_
  refine el_if_ne (tgt := 451) dc_L_law__436 (by decide) (fun hk => ?_) (fun hk => ?_)
  · refine el_goto (tgt := 2718) dc_L_law__451 (by decide) ?_
    exact el_wid ⟨(show u.1 + 1 ≤ u.1 + 3 from by omega), (show u.2 + 6 ≤ u.2 + 18 from by omega)⟩ (el_sub (K τ1 τ2 hI9) (And.intro rfl (And.intro rfl (And.intro rfl (And.intro rfl (And.intro rfl trivial))))))
  have hk : k9 = 0 := Classical.not_not.mp hk
  refine el_aload_n dc_L_law__439 rfl ?_
  refine el_iconst (v := 0) dc_L_law__440 (by decide) ?_
  refine el_lald dc_L_law__441 ho ho1 ?_
  refine el_iload dc_L_law__442 rfl ?_
  refine el_i2l dc_L_law__444 ?_
  refine el_lcmp dc_L_law__445 ?_
  refine el_if_eq (tgt := 451) dc_L_law__446 (by decide) (fun _ => ?_) (fun h => absurd (by rw [e4 hk]; exact lcz) h)
  refine el_goto (tgt := 2718) dc_L_law__451 (by decide) ?_
  exact el_wid ⟨(show u.1 + 1 ≤ u.1 + 3 from by omega), (show u.2 + 6 ≤ u.2 + 18 from by omega)⟩ (el_sub (K τ1 τ2 hI9) (And.intro rfl (And.intro rfl (And.intro rfl (And.intro rfl (And.intro rfl trivial))))))
def Gd_fault (N : Nat) (G1 G2 : pG) (xa ma oa : Nat) (Inv : pS → pS → Prop) : Prop := ∀ (σ1 σ2 : pS), Inv σ1 σ2 → ∃ (v : Int32) (τ2 : pS), fX11_fault N G1 xa σ1 = some v ∧ fX12_fault N G2 ma σ2 = some (v, τ2) ∧ Inv σ1 τ2
set_option maxRecDepth 100000 in
set_option maxHeartbeats 4000000 in
theorem lc_4 {B : Nat × Nat × Nat} {bs L : Nat} {xs : Nat → Int32} {G1 G2 : pG} {SK : Nat → Nat} {u : Nat × Nat} {σ1 σ2 : pS} {N xa ma oa : Nat} {Inv : pS → pS → Prop} {x4 : Int32} (hW1 : WT G1) (hW2 : WT G2) (hx : Is G1 xa 10) (hm : Is G2 ma 11) (ho : Is G1 oa 14) (ho1 : inB 0 (pN G1 oa) = true) (hg : Gd_fault N G1 G2 xa ma oa Inv) (hI : Inv σ1 σ2) (hb1 : vp_in (x4 + (1 : Int32)) L) (hb2 : vp_in (x4 + (2 : Int32)) L) (hb3 : vp_in (x4 + (3 : Int32)) L) (hb4 : vp_in (x4 + (4 : Int32)) L) (hb5 : vp_in (x4 + (5 : Int32)) L) (hB : 1024 ≤ B.1) (hu : u.1 + 3 ≤ B.2.1 ∧ u.2 + 18 ≤ B.2.2) (K : ∀ τ1 τ2 : pS, Inv τ1 τ2 → EvL B bs L xs G1 G2 SK (u.1 + 3, u.2 + 18) 2718 [some (.ref bs), some (.ref xa), some (.ref ma), some (.ref oa), some (.int x4), none, none] [] τ1 τ2) : EvL B bs L xs G1 G2 SK u 454 [some (.ref bs), some (.ref xa), some (.ref ma), some (.ref oa), some (.int x4), none, none] [] σ1 σ2 := by
  refine el_aload_n dc_L_law__454 rfl ?_
  obtain ⟨v9, τ2, e1, e2, hI9⟩ := hg _ _ hI
  refine el_call1 (av := []) (st := []) (st1 := [.int v9]) dc_L_law__455 (tX11_fault hW1 hx e1) mw_463 cy_X11_fault hx (by decide) rfl rfl rfl rfl (Nat.le_of_ble_eq_true rfl) (Nat.le_trans (show _ ≤ 1024 from Nat.le_of_ble_eq_true rfl) hB) ⟨(show u.1 ≤ B.2.1 from by omega), (show u.2 ≤ B.2.2 from by omega)⟩ ?_
  refine el_aload_n dc_L_law__458 rfl ?_
  refine el_call2 (av := []) (st := [.int v9]) (st1 := [.int v9, .int v9]) dc_L_law__459 (tX12_fault hW2 hm e2) mw_1601 cy_X12_fault hm (by decide) rfl rfl rfl rfl (Nat.le_of_ble_eq_true rfl) (Nat.le_trans (show _ ≤ 1024 from Nat.le_of_ble_eq_true rfl) hB) ⟨(show u.1 ≤ B.2.1 from by omega), (show u.2 ≤ B.2.2 from by omega)⟩ ?_
  refine el_icmp_eq (tgt := 2718) dc_L_law__462 (by decide) (fun _ => ?_) (fun h => absurd rfl h)
  exact el_wid ⟨(show u.1 ≤ u.1 + 3 from by omega), (show u.2 ≤ u.2 + 18 from by omega)⟩ (el_sub (K σ1 τ2 hI9) (And.intro rfl (And.intro rfl (And.intro rfl (And.intro rfl (And.intro rfl trivial))))))
def Gd_name (N : Nat) (G1 G2 : pG) (xa ma oa : Nat) (Inv : pS → pS → Prop) : Prop := ∀ (σ1 σ2 : pS), Inv σ1 σ2 → ∀ (c1 : Int32) (c2 : Int32), ∃ (k w : Int32) (τ1 τ2 : pS), fL_name N G1 xa c1 c2 oa σ1 = some (k, τ1) ∧ fX12_name N G2 ma c1 c2 σ2 = some (w, τ2) ∧ fX12_thrown N G2 ma τ2 = some k ∧ (k = 0 → gJ τ1 oa 0 = w.toInt64) ∧ Inv τ1 τ2
set_option maxRecDepth 100000 in
set_option maxHeartbeats 4000000 in
theorem lc_5 {B : Nat × Nat × Nat} {bs L : Nat} {xs : Nat → Int32} {G1 G2 : pG} {SK : Nat → Nat} {u : Nat × Nat} {σ1 σ2 : pS} {N xa ma oa : Nat} {Inv : pS → pS → Prop} {x4 : Int32} (hW1 : WT G1) (hW2 : WT G2) (hx : Is G1 xa 10) (hm : Is G2 ma 11) (ho : Is G1 oa 14) (ho1 : inB 0 (pN G1 oa) = true) (hg : Gd_name N G1 G2 xa ma oa Inv) (hI : Inv σ1 σ2) (hb1 : vp_in (x4 + (1 : Int32)) L) (hb2 : vp_in (x4 + (2 : Int32)) L) (hb3 : vp_in (x4 + (3 : Int32)) L) (hb4 : vp_in (x4 + (4 : Int32)) L) (hb5 : vp_in (x4 + (5 : Int32)) L) (hB : 1024 ≤ B.1) (hu : u.1 + 3 ≤ B.2.1 ∧ u.2 + 18 ≤ B.2.2) (K : ∀ τ1 τ2 : pS, Inv τ1 τ2 → EvL B bs L xs G1 G2 SK (u.1 + 3, u.2 + 18) 2718 [some (.ref bs), some (.ref xa), some (.ref ma), some (.ref oa), some (.int x4), none, none] [] τ1 τ2) : EvL B bs L xs G1 G2 SK u 467 [some (.ref bs), some (.ref xa), some (.ref ma), some (.ref oa), some (.int x4), none, none] [] σ1 σ2 := by
  refine el_aload_n dc_L_law__467 rfl ?_
  refine el_aload_n dc_L_law__468 rfl ?_
  refine el_iload dc_L_law__469 rfl ?_
  refine el_iconst (v := 1) dc_L_law__471 (by decide) ?_
  refine el_iadd dc_L_law__472 ?_
  refine el_sld dc_L_law__473 hb1 ?_
  refine el_aload_n dc_L_law__474 rfl ?_
  refine el_iload dc_L_law__475 rfl ?_
  refine el_iconst (v := 2) dc_L_law__477 (by decide) ?_
  refine el_iadd dc_L_law__478 ?_
  refine el_sld dc_L_law__479 hb2 ?_
  refine el_aload_n dc_L_law__480 rfl ?_
  obtain ⟨k9, w9, τ1, τ2, e1, e2, e3, e4, hI9⟩ := hg _ _ hI (xs (x4 + (1 : Int32)).toNatClampNeg) (xs (x4 + (2 : Int32)).toNatClampNeg)
  refine el_wrap (av := [.ref xa, .int (xs (x4 + (1 : Int32)).toNatClampNeg), .int (xs (x4 + (2 : Int32)).toNatClampNeg), .ref oa]) (st := []) dc_L_law__481 (tL_name hW1 hx ho e1) mw_1030 cwL_name rfl rfl (Nat.le_of_ble_eq_true rfl) (Nat.le_trans (show _ ≤ 1024 from Nat.le_of_ble_eq_true rfl) hB) ⟨(show u.1 + 2 ≤ B.2.1 from by omega), (show u.2 + 12 ≤ B.2.2 from by omega)⟩ ?_
  refine el_istore (lv' := [some (.ref bs), some (.ref xa), some (.ref ma), some (.ref oa), some (.int x4), some (.int k9), none]) dc_L_law__484 rfl (by decide) rfl ?_
  refine el_aload_n dc_L_law__486 rfl ?_
  refine el_aload_n dc_L_law__487 rfl ?_
  refine el_iload dc_L_law__488 rfl ?_
  refine el_iconst (v := 1) dc_L_law__490 (by decide) ?_
  refine el_iadd dc_L_law__491 ?_
  refine el_sld dc_L_law__492 hb1 ?_
  refine el_aload_n dc_L_law__493 rfl ?_
  refine el_iload dc_L_law__494 rfl ?_
  refine el_iconst (v := 2) dc_L_law__496 (by decide) ?_
  refine el_iadd dc_L_law__497 ?_
  refine el_sld dc_L_law__498 hb2 ?_
  refine el_call2 (av := [.int (xs (x4 + (1 : Int32)).toNatClampNeg), .int (xs (x4 + (2 : Int32)).toNatClampNeg)]) (st := []) (st1 := [.int w9]) dc_L_law__499 (tX12_name hW2 hm e2) mw_2074 cy_X12_name hm (by decide) rfl rfl rfl rfl (Nat.le_of_ble_eq_true rfl) (Nat.le_trans (show _ ≤ 1024 from Nat.le_of_ble_eq_true rfl) hB) ⟨(show u.1 + 2 ≤ B.2.1 from by omega), (show u.2 + 12 ≤ B.2.2 from by omega)⟩ ?_
  refine el_istore (lv' := [some (.ref bs), some (.ref xa), some (.ref ma), some (.ref oa), some (.int x4), some (.int k9), some (.int w9)]) dc_L_law__502 rfl (by decide) rfl ?_
  refine el_aload_n dc_L_law__504 rfl ?_
  refine el_call2 (av := []) (st := []) (st1 := [.int k9]) dc_L_law__505 (tX12_thrown hW2 hm e3) mw_1482 cy_X12_thrown hm (by decide) rfl rfl rfl rfl (Nat.le_of_ble_eq_true rfl) (Nat.le_trans (show _ ≤ 1024 from Nat.le_of_ble_eq_true rfl) hB) ⟨(show u.1 + 2 ≤ B.2.1 from by omega), (show u.2 + 12 ≤ B.2.2 from by omega)⟩ ?_
  refine el_iload dc_L_law__508 rfl ?_
  refine el_icmp_eq (tgt := 515) dc_L_law__510 (by decide) (fun _ => ?_) (fun h => absurd rfl h)
  refine el_iload dc_L_law__515 rfl ?_
  refine el_if_ne (tgt := 532) dc_L_law__517 (by decide) (fun hk => ?_) (fun hk => ?_)
  · refine el_goto (tgt := 2718) dc_L_law__532 (by decide) ?_
    exact el_wid ⟨(show u.1 + 2 ≤ u.1 + 3 from by omega), (show u.2 + 12 ≤ u.2 + 18 from by omega)⟩ (el_sub (K τ1 τ2 hI9) (And.intro rfl (And.intro rfl (And.intro rfl (And.intro rfl (And.intro rfl trivial))))))
  have hk : k9 = 0 := Classical.not_not.mp hk
  refine el_aload_n dc_L_law__520 rfl ?_
  refine el_iconst (v := 0) dc_L_law__521 (by decide) ?_
  refine el_lald dc_L_law__522 ho ho1 ?_
  refine el_iload dc_L_law__523 rfl ?_
  refine el_i2l dc_L_law__525 ?_
  refine el_lcmp dc_L_law__526 ?_
  refine el_if_eq (tgt := 532) dc_L_law__527 (by decide) (fun _ => ?_) (fun h => absurd (by rw [e4 hk]; exact lcz) h)
  refine el_goto (tgt := 2718) dc_L_law__532 (by decide) ?_
  exact el_wid ⟨(show u.1 + 2 ≤ u.1 + 3 from by omega), (show u.2 + 12 ≤ u.2 + 18 from by omega)⟩ (el_sub (K τ1 τ2 hI9) (And.intro rfl (And.intro rfl (And.intro rfl (And.intro rfl (And.intro rfl trivial))))))
def Gd_court (N : Nat) (G1 G2 : pG) (xa ma oa : Nat) (Inv : pS → pS → Prop) : Prop := ∀ (σ1 σ2 : pS), Inv σ1 σ2 → ∀ (c1 : Int32) (c2 : Int32), ∃ (k w : Int32) (τ1 τ2 : pS), fL_court N G1 xa c1 c2 oa σ1 = some (k, τ1) ∧ fX12_court N G2 ma c1 c2 σ2 = some (w, τ2) ∧ fX12_thrown N G2 ma τ2 = some k ∧ (k = 0 → gJ τ1 oa 0 = w.toInt64) ∧ Inv τ1 τ2
set_option maxRecDepth 100000 in
set_option maxHeartbeats 4000000 in
theorem lc_6 {B : Nat × Nat × Nat} {bs L : Nat} {xs : Nat → Int32} {G1 G2 : pG} {SK : Nat → Nat} {u : Nat × Nat} {σ1 σ2 : pS} {N xa ma oa : Nat} {Inv : pS → pS → Prop} {x4 : Int32} (hW1 : WT G1) (hW2 : WT G2) (hx : Is G1 xa 10) (hm : Is G2 ma 11) (ho : Is G1 oa 14) (ho1 : inB 0 (pN G1 oa) = true) (hg : Gd_court N G1 G2 xa ma oa Inv) (hI : Inv σ1 σ2) (hb1 : vp_in (x4 + (1 : Int32)) L) (hb2 : vp_in (x4 + (2 : Int32)) L) (hb3 : vp_in (x4 + (3 : Int32)) L) (hb4 : vp_in (x4 + (4 : Int32)) L) (hb5 : vp_in (x4 + (5 : Int32)) L) (hB : 1024 ≤ B.1) (hu : u.1 + 3 ≤ B.2.1 ∧ u.2 + 18 ≤ B.2.2) (K : ∀ τ1 τ2 : pS, Inv τ1 τ2 → EvL B bs L xs G1 G2 SK (u.1 + 3, u.2 + 18) 2718 [some (.ref bs), some (.ref xa), some (.ref ma), some (.ref oa), some (.int x4), none, none] [] τ1 τ2) : EvL B bs L xs G1 G2 SK u 535 [some (.ref bs), some (.ref xa), some (.ref ma), some (.ref oa), some (.int x4), none, none] [] σ1 σ2 := by
  refine el_aload_n dc_L_law__535 rfl ?_
  refine el_aload_n dc_L_law__536 rfl ?_
  refine el_iload dc_L_law__537 rfl ?_
  refine el_iconst (v := 1) dc_L_law__539 (by decide) ?_
  refine el_iadd dc_L_law__540 ?_
  refine el_sld dc_L_law__541 hb1 ?_
  refine el_aload_n dc_L_law__542 rfl ?_
  refine el_iload dc_L_law__543 rfl ?_
  refine el_iconst (v := 2) dc_L_law__545 (by decide) ?_
  refine el_iadd dc_L_law__546 ?_
  refine el_sld dc_L_law__547 hb2 ?_
  refine el_aload_n dc_L_law__548 rfl ?_
  obtain ⟨k9, w9, τ1, τ2, e1, e2, e3, e4, hI9⟩ := hg _ _ hI (xs (x4 + (1 : Int32)).toNatClampNeg) (xs (x4 + (2 : Int32)).toNatClampNeg)
  refine el_wrap (av := [.ref xa, .int (xs (x4 + (1 : Int32)).toNatClampNeg), .int (xs (x4 + (2 : Int32)).toNatClampNeg), .ref oa]) (st := []) dc_L_law__549 (tL_court hW1 hx ho e1) mw_1083 cwL_court rfl rfl (Nat.le_of_ble_eq_true rfl) (Nat.le_trans (show _ ≤ 1024 from Nat.le_of_ble_eq_true rfl) hB) ⟨(show u.1 + 2 ≤ B.2.1 from by omega), (show u.2 + 12 ≤ B.2.2 from by omega)⟩ ?_
  refine el_istore (lv' := [some (.ref bs), some (.ref xa), some (.ref ma), some (.ref oa), some (.int x4), some (.int k9), none]) dc_L_law__552 rfl (by decide) rfl ?_
  refine el_aload_n dc_L_law__554 rfl ?_
  refine el_aload_n dc_L_law__555 rfl ?_
  refine el_iload dc_L_law__556 rfl ?_
  refine el_iconst (v := 1) dc_L_law__558 (by decide) ?_
  refine el_iadd dc_L_law__559 ?_
  refine el_sld dc_L_law__560 hb1 ?_
  refine el_aload_n dc_L_law__561 rfl ?_
  refine el_iload dc_L_law__562 rfl ?_
  refine el_iconst (v := 2) dc_L_law__564 (by decide) ?_
  refine el_iadd dc_L_law__565 ?_
  refine el_sld dc_L_law__566 hb2 ?_
  refine el_call2 (av := [.int (xs (x4 + (1 : Int32)).toNatClampNeg), .int (xs (x4 + (2 : Int32)).toNatClampNeg)]) (st := []) (st1 := [.int w9]) dc_L_law__567 (tX12_court hW2 hm e2) mw_1882 cy_X12_court hm (by decide) rfl rfl rfl rfl (Nat.le_of_ble_eq_true rfl) (Nat.le_trans (show _ ≤ 1024 from Nat.le_of_ble_eq_true rfl) hB) ⟨(show u.1 + 2 ≤ B.2.1 from by omega), (show u.2 + 12 ≤ B.2.2 from by omega)⟩ ?_
  refine el_istore (lv' := [some (.ref bs), some (.ref xa), some (.ref ma), some (.ref oa), some (.int x4), some (.int k9), some (.int w9)]) dc_L_law__570 rfl (by decide) rfl ?_
  refine el_aload_n dc_L_law__572 rfl ?_
  refine el_call2 (av := []) (st := []) (st1 := [.int k9]) dc_L_law__573 (tX12_thrown hW2 hm e3) mw_1482 cy_X12_thrown hm (by decide) rfl rfl rfl rfl (Nat.le_of_ble_eq_true rfl) (Nat.le_trans (show _ ≤ 1024 from Nat.le_of_ble_eq_true rfl) hB) ⟨(show u.1 + 2 ≤ B.2.1 from by omega), (show u.2 + 12 ≤ B.2.2 from by omega)⟩ ?_
  refine el_iload dc_L_law__576 rfl ?_
  refine el_icmp_eq (tgt := 583) dc_L_law__578 (by decide) (fun _ => ?_) (fun h => absurd rfl h)
  refine el_iload dc_L_law__583 rfl ?_
  refine el_if_ne (tgt := 600) dc_L_law__585 (by decide) (fun hk => ?_) (fun hk => ?_)
  · refine el_goto (tgt := 2718) dc_L_law__600 (by decide) ?_
    exact el_wid ⟨(show u.1 + 2 ≤ u.1 + 3 from by omega), (show u.2 + 12 ≤ u.2 + 18 from by omega)⟩ (el_sub (K τ1 τ2 hI9) (And.intro rfl (And.intro rfl (And.intro rfl (And.intro rfl (And.intro rfl trivial))))))
  have hk : k9 = 0 := Classical.not_not.mp hk
  refine el_aload_n dc_L_law__588 rfl ?_
  refine el_iconst (v := 0) dc_L_law__589 (by decide) ?_
  refine el_lald dc_L_law__590 ho ho1 ?_
  refine el_iload dc_L_law__591 rfl ?_
  refine el_i2l dc_L_law__593 ?_
  refine el_lcmp dc_L_law__594 ?_
  refine el_if_eq (tgt := 600) dc_L_law__595 (by decide) (fun _ => ?_) (fun h => absurd (by rw [e4 hk]; exact lcz) h)
  refine el_goto (tgt := 2718) dc_L_law__600 (by decide) ?_
  exact el_wid ⟨(show u.1 + 2 ≤ u.1 + 3 from by omega), (show u.2 + 12 ≤ u.2 + 18 from by omega)⟩ (el_sub (K τ1 τ2 hI9) (And.intro rfl (And.intro rfl (And.intro rfl (And.intro rfl (And.intro rfl trivial))))))
def Gd_word (N : Nat) (G1 G2 : pG) (xa ma oa : Nat) (Inv : pS → pS → Prop) : Prop := ∀ (σ1 σ2 : pS), Inv σ1 σ2 → ∀ (c1 : Int32) (c2 : Int32), (isZ c2 = true) → ∃ (k w : Int32) (τ1 τ2 : pS), fL_word N G1 xa c1 c2 oa σ1 = some (k, τ1) ∧ fX12_word N G2 ma c1 c2 σ2 = some (w, τ2) ∧ fX12_thrown N G2 ma τ2 = some k ∧ (k = 0 → gJ τ1 oa 0 = w.toInt64) ∧ Inv τ1 τ2
set_option maxRecDepth 100000 in
set_option maxHeartbeats 4000000 in
theorem lc_7 {B : Nat × Nat × Nat} {bs L : Nat} {xs : Nat → Int32} {G1 G2 : pG} {SK : Nat → Nat} {u : Nat × Nat} {σ1 σ2 : pS} {N xa ma oa : Nat} {Inv : pS → pS → Prop} {x4 : Int32} (hW1 : WT G1) (hW2 : WT G2) (hx : Is G1 xa 10) (hm : Is G2 ma 11) (ho : Is G1 oa 14) (ho1 : inB 0 (pN G1 oa) = true) (hg : Gd_word N G1 G2 xa ma oa Inv) (hI : Inv σ1 σ2) (hb1 : vp_in (x4 + (1 : Int32)) L) (hb2 : vp_in (x4 + (2 : Int32)) L) (hb3 : vp_in (x4 + (3 : Int32)) L) (hb4 : vp_in (x4 + (4 : Int32)) L) (hb5 : vp_in (x4 + (5 : Int32)) L) (hB : 1024 ≤ B.1) (hu : u.1 + 3 ≤ B.2.1 ∧ u.2 + 18 ≤ B.2.2) (K : ∀ τ1 τ2 : pS, Inv τ1 τ2 → EvL B bs L xs G1 G2 SK (u.1 + 3, u.2 + 18) 2718 [some (.ref bs), some (.ref xa), some (.ref ma), some (.ref oa), some (.int x4), none, none] [] τ1 τ2) : EvL B bs L xs G1 G2 SK u 603 [some (.ref bs), some (.ref xa), some (.ref ma), some (.ref oa), some (.int x4), none, none] [] σ1 σ2 := by
  refine el_aload_n dc_L_law__603 rfl ?_
  refine el_aload_n dc_L_law__604 rfl ?_
  refine el_iload dc_L_law__605 rfl ?_
  refine el_iconst (v := 1) dc_L_law__607 (by decide) ?_
  refine el_iadd dc_L_law__608 ?_
  refine el_sld dc_L_law__609 hb1 ?_
  refine el_aload_n dc_L_law__610 rfl ?_
  refine el_iload dc_L_law__611 rfl ?_
  refine el_iconst (v := 2) dc_L_law__613 (by decide) ?_
  refine el_iadd dc_L_law__614 ?_
  refine el_sld dc_L_law__615 hb2 ?_
  refine el_if_eq (tgt := 623) dc_L_law__616 (by decide) (fun hz1 => ?_) (fun hz1 => ?_)
  · refine el_iconst (v := 0) dc_L_law__623 (by decide) ?_
    refine el_aload_n dc_L_law__624 rfl ?_
    obtain ⟨k9, w9, τ1, τ2, e1, e2, e3, e4, hI9⟩ := hg _ _ hI (xs (x4 + (1 : Int32)).toNatClampNeg) (0 : Int32) (by decide)
    refine el_wrap (av := [.ref xa, .int (xs (x4 + (1 : Int32)).toNatClampNeg), .int (0 : Int32), .ref oa]) (st := []) dc_L_law__625 (tL_word hW1 hx ho e1) mw_1096 cwL_word rfl rfl (Nat.le_of_ble_eq_true rfl) (Nat.le_trans (show _ ≤ 1024 from Nat.le_of_ble_eq_true rfl) hB) ⟨(show u.1 + 1 ≤ B.2.1 from by omega), (show u.2 + 6 ≤ B.2.2 from by omega)⟩ ?_
    refine el_istore (lv' := [some (.ref bs), some (.ref xa), some (.ref ma), some (.ref oa), some (.int x4), some (.int k9), none]) dc_L_law__628 rfl (by decide) rfl ?_
    refine el_aload_n dc_L_law__630 rfl ?_
    refine el_aload_n dc_L_law__631 rfl ?_
    refine el_iload dc_L_law__632 rfl ?_
    refine el_iconst (v := 1) dc_L_law__634 (by decide) ?_
    refine el_iadd dc_L_law__635 ?_
    refine el_sld dc_L_law__636 hb1 ?_
    refine el_aload_n dc_L_law__637 rfl ?_
    refine el_iload dc_L_law__638 rfl ?_
    refine el_iconst (v := 2) dc_L_law__640 (by decide) ?_
    refine el_iadd dc_L_law__641 ?_
    refine el_sld dc_L_law__642 hb2 ?_
    refine el_if_eq (tgt := 650) dc_L_law__643 (by decide) (fun _ => ?_) (fun h => absurd hz1 h)
    refine el_iconst (v := 0) dc_L_law__650 (by decide) ?_
    refine el_call2 (av := [.int (xs (x4 + (1 : Int32)).toNatClampNeg), .int (0 : Int32)]) (st := []) (st1 := [.int w9]) dc_L_law__651 (tX12_word hW2 hm e2) mw_1878 cy_X12_word hm (by decide) rfl rfl rfl rfl (Nat.le_of_ble_eq_true rfl) (Nat.le_trans (show _ ≤ 1024 from Nat.le_of_ble_eq_true rfl) hB) ⟨(show u.1 + 1 ≤ B.2.1 from by omega), (show u.2 + 6 ≤ B.2.2 from by omega)⟩ ?_
    refine el_istore (lv' := [some (.ref bs), some (.ref xa), some (.ref ma), some (.ref oa), some (.int x4), some (.int k9), some (.int w9)]) dc_L_law__654 rfl (by decide) rfl ?_
    refine el_aload_n dc_L_law__656 rfl ?_
    refine el_call2 (av := []) (st := []) (st1 := [.int k9]) dc_L_law__657 (tX12_thrown hW2 hm e3) mw_1482 cy_X12_thrown hm (by decide) rfl rfl rfl rfl (Nat.le_of_ble_eq_true rfl) (Nat.le_trans (show _ ≤ 1024 from Nat.le_of_ble_eq_true rfl) hB) ⟨(show u.1 + 1 ≤ B.2.1 from by omega), (show u.2 + 6 ≤ B.2.2 from by omega)⟩ ?_
    refine el_iload dc_L_law__660 rfl ?_
    refine el_icmp_eq (tgt := 667) dc_L_law__662 (by decide) (fun _ => ?_) (fun h => absurd rfl h)
    refine el_iload dc_L_law__667 rfl ?_
    refine el_if_ne (tgt := 684) dc_L_law__669 (by decide) (fun hk => ?_) (fun hk => ?_)
    · refine el_goto (tgt := 2718) dc_L_law__684 (by decide) ?_
      exact el_wid ⟨(show u.1 + 1 ≤ u.1 + 3 from by omega), (show u.2 + 6 ≤ u.2 + 18 from by omega)⟩ (el_sub (K τ1 τ2 hI9) (And.intro rfl (And.intro rfl (And.intro rfl (And.intro rfl (And.intro rfl trivial))))))
    have hk : k9 = 0 := Classical.not_not.mp hk
    refine el_aload_n dc_L_law__672 rfl ?_
    refine el_iconst (v := 0) dc_L_law__673 (by decide) ?_
    refine el_lald dc_L_law__674 ho ho1 ?_
    refine el_iload dc_L_law__675 rfl ?_
    refine el_i2l dc_L_law__677 ?_
    refine el_lcmp dc_L_law__678 ?_
    refine el_if_eq (tgt := 684) dc_L_law__679 (by decide) (fun _ => ?_) (fun h => absurd (by rw [e4 hk]; exact lcz) h)
    refine el_goto (tgt := 2718) dc_L_law__684 (by decide) ?_
    exact el_wid ⟨(show u.1 + 1 ≤ u.1 + 3 from by omega), (show u.2 + 6 ≤ u.2 + 18 from by omega)⟩ (el_sub (K τ1 τ2 hI9) (And.intro rfl (And.intro rfl (And.intro rfl (And.intro rfl (And.intro rfl trivial))))))
  refine el_iconst (v := 1) dc_L_law__619 (by decide) ?_
  refine el_goto (tgt := 624) dc_L_law__620 (by decide) ?_
  refine el_aload_n dc_L_law__624 rfl ?_
  obtain ⟨k9, w9, τ1, τ2, e1, e2, e3, e4, hI9⟩ := hg _ _ hI (xs (x4 + (1 : Int32)).toNatClampNeg) (1 : Int32) (by decide)
  refine el_wrap (av := [.ref xa, .int (xs (x4 + (1 : Int32)).toNatClampNeg), .int (1 : Int32), .ref oa]) (st := []) dc_L_law__625 (tL_word hW1 hx ho e1) mw_1096 cwL_word rfl rfl (Nat.le_of_ble_eq_true rfl) (Nat.le_trans (show _ ≤ 1024 from Nat.le_of_ble_eq_true rfl) hB) ⟨(show u.1 + 1 ≤ B.2.1 from by omega), (show u.2 + 6 ≤ B.2.2 from by omega)⟩ ?_
  refine el_istore (lv' := [some (.ref bs), some (.ref xa), some (.ref ma), some (.ref oa), some (.int x4), some (.int k9), none]) dc_L_law__628 rfl (by decide) rfl ?_
  refine el_aload_n dc_L_law__630 rfl ?_
  refine el_aload_n dc_L_law__631 rfl ?_
  refine el_iload dc_L_law__632 rfl ?_
  refine el_iconst (v := 1) dc_L_law__634 (by decide) ?_
  refine el_iadd dc_L_law__635 ?_
  refine el_sld dc_L_law__636 hb1 ?_
  refine el_aload_n dc_L_law__637 rfl ?_
  refine el_iload dc_L_law__638 rfl ?_
  refine el_iconst (v := 2) dc_L_law__640 (by decide) ?_
  refine el_iadd dc_L_law__641 ?_
  refine el_sld dc_L_law__642 hb2 ?_
  refine el_if_eq (tgt := 650) dc_L_law__643 (by decide) (fun h => absurd h hz1) (fun _ => ?_)
  refine el_iconst (v := 1) dc_L_law__646 (by decide) ?_
  refine el_goto (tgt := 651) dc_L_law__647 (by decide) ?_
  refine el_call2 (av := [.int (xs (x4 + (1 : Int32)).toNatClampNeg), .int (1 : Int32)]) (st := []) (st1 := [.int w9]) dc_L_law__651 (tX12_word hW2 hm e2) mw_1878 cy_X12_word hm (by decide) rfl rfl rfl rfl (Nat.le_of_ble_eq_true rfl) (Nat.le_trans (show _ ≤ 1024 from Nat.le_of_ble_eq_true rfl) hB) ⟨(show u.1 + 1 ≤ B.2.1 from by omega), (show u.2 + 6 ≤ B.2.2 from by omega)⟩ ?_
  refine el_istore (lv' := [some (.ref bs), some (.ref xa), some (.ref ma), some (.ref oa), some (.int x4), some (.int k9), some (.int w9)]) dc_L_law__654 rfl (by decide) rfl ?_
  refine el_aload_n dc_L_law__656 rfl ?_
  refine el_call2 (av := []) (st := []) (st1 := [.int k9]) dc_L_law__657 (tX12_thrown hW2 hm e3) mw_1482 cy_X12_thrown hm (by decide) rfl rfl rfl rfl (Nat.le_of_ble_eq_true rfl) (Nat.le_trans (show _ ≤ 1024 from Nat.le_of_ble_eq_true rfl) hB) ⟨(show u.1 + 1 ≤ B.2.1 from by omega), (show u.2 + 6 ≤ B.2.2 from by omega)⟩ ?_
  refine el_iload dc_L_law__660 rfl ?_
  refine el_icmp_eq (tgt := 667) dc_L_law__662 (by decide) (fun _ => ?_) (fun h => absurd rfl h)
  refine el_iload dc_L_law__667 rfl ?_
  refine el_if_ne (tgt := 684) dc_L_law__669 (by decide) (fun hk => ?_) (fun hk => ?_)
  · refine el_goto (tgt := 2718) dc_L_law__684 (by decide) ?_
    exact el_wid ⟨(show u.1 + 1 ≤ u.1 + 3 from by omega), (show u.2 + 6 ≤ u.2 + 18 from by omega)⟩ (el_sub (K τ1 τ2 hI9) (And.intro rfl (And.intro rfl (And.intro rfl (And.intro rfl (And.intro rfl trivial))))))
  have hk : k9 = 0 := Classical.not_not.mp hk
  refine el_aload_n dc_L_law__672 rfl ?_
  refine el_iconst (v := 0) dc_L_law__673 (by decide) ?_
  refine el_lald dc_L_law__674 ho ho1 ?_
  refine el_iload dc_L_law__675 rfl ?_
  refine el_i2l dc_L_law__677 ?_
  refine el_lcmp dc_L_law__678 ?_
  refine el_if_eq (tgt := 684) dc_L_law__679 (by decide) (fun _ => ?_) (fun h => absurd (by rw [e4 hk]; exact lcz) h)
  refine el_goto (tgt := 2718) dc_L_law__684 (by decide) ?_
  exact el_wid ⟨(show u.1 + 1 ≤ u.1 + 3 from by omega), (show u.2 + 6 ≤ u.2 + 18 from by omega)⟩ (el_sub (K τ1 τ2 hI9) (And.intro rfl (And.intro rfl (And.intro rfl (And.intro rfl (And.intro rfl trivial))))))
def Gd_deed (N : Nat) (G1 G2 : pG) (xa ma oa : Nat) (Inv : pS → pS → Prop) : Prop := ∀ (σ1 σ2 : pS), Inv σ1 σ2 → ∀ (c1 : Int32) (c2 : Int32), ∃ (k w : Int32) (τ1 τ2 : pS), fL_deed N G1 xa c1 c2 oa σ1 = some (k, τ1) ∧ fX12_deed N G2 ma c1 c2 σ2 = some (w, τ2) ∧ fX12_thrown N G2 ma τ2 = some k ∧ (k = 0 → gJ τ1 oa 0 = w.toInt64) ∧ Inv τ1 τ2
set_option maxRecDepth 100000 in
set_option maxHeartbeats 4000000 in
theorem lc_8 {B : Nat × Nat × Nat} {bs L : Nat} {xs : Nat → Int32} {G1 G2 : pG} {SK : Nat → Nat} {u : Nat × Nat} {σ1 σ2 : pS} {N xa ma oa : Nat} {Inv : pS → pS → Prop} {x4 : Int32} (hW1 : WT G1) (hW2 : WT G2) (hx : Is G1 xa 10) (hm : Is G2 ma 11) (ho : Is G1 oa 14) (ho1 : inB 0 (pN G1 oa) = true) (hg : Gd_deed N G1 G2 xa ma oa Inv) (hI : Inv σ1 σ2) (hb1 : vp_in (x4 + (1 : Int32)) L) (hb2 : vp_in (x4 + (2 : Int32)) L) (hb3 : vp_in (x4 + (3 : Int32)) L) (hb4 : vp_in (x4 + (4 : Int32)) L) (hb5 : vp_in (x4 + (5 : Int32)) L) (hB : 1024 ≤ B.1) (hu : u.1 + 3 ≤ B.2.1 ∧ u.2 + 18 ≤ B.2.2) (K : ∀ τ1 τ2 : pS, Inv τ1 τ2 → EvL B bs L xs G1 G2 SK (u.1 + 3, u.2 + 18) 2718 [some (.ref bs), some (.ref xa), some (.ref ma), some (.ref oa), some (.int x4), none, none] [] τ1 τ2) : EvL B bs L xs G1 G2 SK u 687 [some (.ref bs), some (.ref xa), some (.ref ma), some (.ref oa), some (.int x4), none, none] [] σ1 σ2 := by
  refine el_aload_n dc_L_law__687 rfl ?_
  refine el_aload_n dc_L_law__688 rfl ?_
  refine el_iload dc_L_law__689 rfl ?_
  refine el_iconst (v := 1) dc_L_law__691 (by decide) ?_
  refine el_iadd dc_L_law__692 ?_
  refine el_sld dc_L_law__693 hb1 ?_
  refine el_aload_n dc_L_law__694 rfl ?_
  refine el_iload dc_L_law__695 rfl ?_
  refine el_iconst (v := 2) dc_L_law__697 (by decide) ?_
  refine el_iadd dc_L_law__698 ?_
  refine el_sld dc_L_law__699 hb2 ?_
  refine el_aload_n dc_L_law__700 rfl ?_
  obtain ⟨k9, w9, τ1, τ2, e1, e2, e3, e4, hI9⟩ := hg _ _ hI (xs (x4 + (1 : Int32)).toNatClampNeg) (xs (x4 + (2 : Int32)).toNatClampNeg)
  refine el_wrap (av := [.ref xa, .int (xs (x4 + (1 : Int32)).toNatClampNeg), .int (xs (x4 + (2 : Int32)).toNatClampNeg), .ref oa]) (st := []) dc_L_law__701 (tL_deed hW1 hx ho e1) mw_1108 cwL_deed rfl rfl (Nat.le_of_ble_eq_true rfl) (Nat.le_trans (show _ ≤ 1024 from Nat.le_of_ble_eq_true rfl) hB) ⟨(show u.1 + 2 ≤ B.2.1 from by omega), (show u.2 + 12 ≤ B.2.2 from by omega)⟩ ?_
  refine el_istore (lv' := [some (.ref bs), some (.ref xa), some (.ref ma), some (.ref oa), some (.int x4), some (.int k9), none]) dc_L_law__704 rfl (by decide) rfl ?_
  refine el_aload_n dc_L_law__706 rfl ?_
  refine el_aload_n dc_L_law__707 rfl ?_
  refine el_iload dc_L_law__708 rfl ?_
  refine el_iconst (v := 1) dc_L_law__710 (by decide) ?_
  refine el_iadd dc_L_law__711 ?_
  refine el_sld dc_L_law__712 hb1 ?_
  refine el_aload_n dc_L_law__713 rfl ?_
  refine el_iload dc_L_law__714 rfl ?_
  refine el_iconst (v := 2) dc_L_law__716 (by decide) ?_
  refine el_iadd dc_L_law__717 ?_
  refine el_sld dc_L_law__718 hb2 ?_
  refine el_call2 (av := [.int (xs (x4 + (1 : Int32)).toNatClampNeg), .int (xs (x4 + (2 : Int32)).toNatClampNeg)]) (st := []) (st1 := [.int w9]) dc_L_law__719 (tX12_deed hW2 hm e2) mw_1862 cy_X12_deed hm (by decide) rfl rfl rfl rfl (Nat.le_of_ble_eq_true rfl) (Nat.le_trans (show _ ≤ 1024 from Nat.le_of_ble_eq_true rfl) hB) ⟨(show u.1 + 2 ≤ B.2.1 from by omega), (show u.2 + 12 ≤ B.2.2 from by omega)⟩ ?_
  refine el_istore (lv' := [some (.ref bs), some (.ref xa), some (.ref ma), some (.ref oa), some (.int x4), some (.int k9), some (.int w9)]) dc_L_law__722 rfl (by decide) rfl ?_
  refine el_aload_n dc_L_law__724 rfl ?_
  refine el_call2 (av := []) (st := []) (st1 := [.int k9]) dc_L_law__725 (tX12_thrown hW2 hm e3) mw_1482 cy_X12_thrown hm (by decide) rfl rfl rfl rfl (Nat.le_of_ble_eq_true rfl) (Nat.le_trans (show _ ≤ 1024 from Nat.le_of_ble_eq_true rfl) hB) ⟨(show u.1 + 2 ≤ B.2.1 from by omega), (show u.2 + 12 ≤ B.2.2 from by omega)⟩ ?_
  refine el_iload dc_L_law__728 rfl ?_
  refine el_icmp_eq (tgt := 735) dc_L_law__730 (by decide) (fun _ => ?_) (fun h => absurd rfl h)
  refine el_iload dc_L_law__735 rfl ?_
  refine el_if_ne (tgt := 752) dc_L_law__737 (by decide) (fun hk => ?_) (fun hk => ?_)
  · refine el_goto (tgt := 2718) dc_L_law__752 (by decide) ?_
    exact el_wid ⟨(show u.1 + 2 ≤ u.1 + 3 from by omega), (show u.2 + 12 ≤ u.2 + 18 from by omega)⟩ (el_sub (K τ1 τ2 hI9) (And.intro rfl (And.intro rfl (And.intro rfl (And.intro rfl (And.intro rfl trivial))))))
  have hk : k9 = 0 := Classical.not_not.mp hk
  refine el_aload_n dc_L_law__740 rfl ?_
  refine el_iconst (v := 0) dc_L_law__741 (by decide) ?_
  refine el_lald dc_L_law__742 ho ho1 ?_
  refine el_iload dc_L_law__743 rfl ?_
  refine el_i2l dc_L_law__745 ?_
  refine el_lcmp dc_L_law__746 ?_
  refine el_if_eq (tgt := 752) dc_L_law__747 (by decide) (fun _ => ?_) (fun h => absurd (by rw [e4 hk]; exact lcz) h)
  refine el_goto (tgt := 2718) dc_L_law__752 (by decide) ?_
  exact el_wid ⟨(show u.1 + 2 ≤ u.1 + 3 from by omega), (show u.2 + 12 ≤ u.2 + 18 from by omega)⟩ (el_sub (K τ1 τ2 hI9) (And.intro rfl (And.intro rfl (And.intro rfl (And.intro rfl (And.intro rfl trivial))))))
def Gd_stings (N : Nat) (G1 G2 : pG) (xa ma oa : Nat) (Inv : pS → pS → Prop) : Prop := ∀ (σ1 σ2 : pS), Inv σ1 σ2 → ∀ (c1 : Int32) (c2 : Int32), ∃ (k w : Int32) (τ1 τ2 : pS), fL_stings N G1 xa c1 c2 oa σ1 = some (k, τ1) ∧ fX12_stings N G2 ma c1 c2 σ2 = some (w, τ2) ∧ fX12_thrown N G2 ma τ2 = some k ∧ (k = 0 → gJ τ1 oa 0 = w.toInt64) ∧ Inv τ1 τ2
set_option maxRecDepth 100000 in
set_option maxHeartbeats 4000000 in
theorem lc_9 {B : Nat × Nat × Nat} {bs L : Nat} {xs : Nat → Int32} {G1 G2 : pG} {SK : Nat → Nat} {u : Nat × Nat} {σ1 σ2 : pS} {N xa ma oa : Nat} {Inv : pS → pS → Prop} {x4 : Int32} (hW1 : WT G1) (hW2 : WT G2) (hx : Is G1 xa 10) (hm : Is G2 ma 11) (ho : Is G1 oa 14) (ho1 : inB 0 (pN G1 oa) = true) (hg : Gd_stings N G1 G2 xa ma oa Inv) (hI : Inv σ1 σ2) (hb1 : vp_in (x4 + (1 : Int32)) L) (hb2 : vp_in (x4 + (2 : Int32)) L) (hb3 : vp_in (x4 + (3 : Int32)) L) (hb4 : vp_in (x4 + (4 : Int32)) L) (hb5 : vp_in (x4 + (5 : Int32)) L) (hB : 1024 ≤ B.1) (hu : u.1 + 3 ≤ B.2.1 ∧ u.2 + 18 ≤ B.2.2) (K : ∀ τ1 τ2 : pS, Inv τ1 τ2 → EvL B bs L xs G1 G2 SK (u.1 + 3, u.2 + 18) 2718 [some (.ref bs), some (.ref xa), some (.ref ma), some (.ref oa), some (.int x4), none, none] [] τ1 τ2) : EvL B bs L xs G1 G2 SK u 755 [some (.ref bs), some (.ref xa), some (.ref ma), some (.ref oa), some (.int x4), none, none] [] σ1 σ2 := by
  refine el_aload_n dc_L_law__755 rfl ?_
  refine el_aload_n dc_L_law__756 rfl ?_
  refine el_iload dc_L_law__757 rfl ?_
  refine el_iconst (v := 1) dc_L_law__759 (by decide) ?_
  refine el_iadd dc_L_law__760 ?_
  refine el_sld dc_L_law__761 hb1 ?_
  refine el_aload_n dc_L_law__762 rfl ?_
  refine el_iload dc_L_law__763 rfl ?_
  refine el_iconst (v := 2) dc_L_law__765 (by decide) ?_
  refine el_iadd dc_L_law__766 ?_
  refine el_sld dc_L_law__767 hb2 ?_
  refine el_aload_n dc_L_law__768 rfl ?_
  obtain ⟨k9, w9, τ1, τ2, e1, e2, e3, e4, hI9⟩ := hg _ _ hI (xs (x4 + (1 : Int32)).toNatClampNeg) (xs (x4 + (2 : Int32)).toNatClampNeg)
  refine el_wrap (av := [.ref xa, .int (xs (x4 + (1 : Int32)).toNatClampNeg), .int (xs (x4 + (2 : Int32)).toNatClampNeg), .ref oa]) (st := []) dc_L_law__769 (tL_stings hW1 hx ho e1) mw_1125 cwL_stings rfl rfl (Nat.le_of_ble_eq_true rfl) (Nat.le_trans (show _ ≤ 1024 from Nat.le_of_ble_eq_true rfl) hB) ⟨(show u.1 + 2 ≤ B.2.1 from by omega), (show u.2 + 12 ≤ B.2.2 from by omega)⟩ ?_
  refine el_istore (lv' := [some (.ref bs), some (.ref xa), some (.ref ma), some (.ref oa), some (.int x4), some (.int k9), none]) dc_L_law__772 rfl (by decide) rfl ?_
  refine el_aload_n dc_L_law__774 rfl ?_
  refine el_aload_n dc_L_law__775 rfl ?_
  refine el_iload dc_L_law__776 rfl ?_
  refine el_iconst (v := 1) dc_L_law__778 (by decide) ?_
  refine el_iadd dc_L_law__779 ?_
  refine el_sld dc_L_law__780 hb1 ?_
  refine el_aload_n dc_L_law__781 rfl ?_
  refine el_iload dc_L_law__782 rfl ?_
  refine el_iconst (v := 2) dc_L_law__784 (by decide) ?_
  refine el_iadd dc_L_law__785 ?_
  refine el_sld dc_L_law__786 hb2 ?_
  refine el_call2 (av := [.int (xs (x4 + (1 : Int32)).toNatClampNeg), .int (xs (x4 + (2 : Int32)).toNatClampNeg)]) (st := []) (st1 := [.int w9]) dc_L_law__787 (tX12_stings hW2 hm e2) mw_1792 cy_X12_stings hm (by decide) rfl rfl rfl rfl (Nat.le_of_ble_eq_true rfl) (Nat.le_trans (show _ ≤ 1024 from Nat.le_of_ble_eq_true rfl) hB) ⟨(show u.1 + 2 ≤ B.2.1 from by omega), (show u.2 + 12 ≤ B.2.2 from by omega)⟩ ?_
  refine el_istore (lv' := [some (.ref bs), some (.ref xa), some (.ref ma), some (.ref oa), some (.int x4), some (.int k9), some (.int w9)]) dc_L_law__790 rfl (by decide) rfl ?_
  refine el_aload_n dc_L_law__792 rfl ?_
  refine el_call2 (av := []) (st := []) (st1 := [.int k9]) dc_L_law__793 (tX12_thrown hW2 hm e3) mw_1482 cy_X12_thrown hm (by decide) rfl rfl rfl rfl (Nat.le_of_ble_eq_true rfl) (Nat.le_trans (show _ ≤ 1024 from Nat.le_of_ble_eq_true rfl) hB) ⟨(show u.1 + 2 ≤ B.2.1 from by omega), (show u.2 + 12 ≤ B.2.2 from by omega)⟩ ?_
  refine el_iload dc_L_law__796 rfl ?_
  refine el_icmp_eq (tgt := 803) dc_L_law__798 (by decide) (fun _ => ?_) (fun h => absurd rfl h)
  refine el_iload dc_L_law__803 rfl ?_
  refine el_if_ne (tgt := 820) dc_L_law__805 (by decide) (fun hk => ?_) (fun hk => ?_)
  · refine el_goto (tgt := 2718) dc_L_law__820 (by decide) ?_
    exact el_wid ⟨(show u.1 + 2 ≤ u.1 + 3 from by omega), (show u.2 + 12 ≤ u.2 + 18 from by omega)⟩ (el_sub (K τ1 τ2 hI9) (And.intro rfl (And.intro rfl (And.intro rfl (And.intro rfl (And.intro rfl trivial))))))
  have hk : k9 = 0 := Classical.not_not.mp hk
  refine el_aload_n dc_L_law__808 rfl ?_
  refine el_iconst (v := 0) dc_L_law__809 (by decide) ?_
  refine el_lald dc_L_law__810 ho ho1 ?_
  refine el_iload dc_L_law__811 rfl ?_
  refine el_i2l dc_L_law__813 ?_
  refine el_lcmp dc_L_law__814 ?_
  refine el_if_eq (tgt := 820) dc_L_law__815 (by decide) (fun _ => ?_) (fun h => absurd (by rw [e4 hk]; exact lcz) h)
  refine el_goto (tgt := 2718) dc_L_law__820 (by decide) ?_
  exact el_wid ⟨(show u.1 + 2 ≤ u.1 + 3 from by omega), (show u.2 + 12 ≤ u.2 + 18 from by omega)⟩ (el_sub (K τ1 τ2 hI9) (And.intro rfl (And.intro rfl (And.intro rfl (And.intro rfl (And.intro rfl trivial))))))
def Gd_say (N : Nat) (G1 G2 : pG) (xa ma oa : Nat) (Inv : pS → pS → Prop) : Prop := ∀ (σ1 σ2 : pS), Inv σ1 σ2 → ∀ (c1 : Int32) (c2 : Int32), ∃ (k w : Int32) (τ1 τ2 : pS), fL_say N G1 xa c1 c2 oa σ1 = some (k, τ1) ∧ fX12_say N G2 ma c1 c2 σ2 = some (w, τ2) ∧ fX12_thrown N G2 ma τ2 = some k ∧ (k = 0 → gJ τ1 oa 0 = w.toInt64) ∧ Inv τ1 τ2
set_option maxRecDepth 100000 in
set_option maxHeartbeats 4000000 in
theorem lc_10 {B : Nat × Nat × Nat} {bs L : Nat} {xs : Nat → Int32} {G1 G2 : pG} {SK : Nat → Nat} {u : Nat × Nat} {σ1 σ2 : pS} {N xa ma oa : Nat} {Inv : pS → pS → Prop} {x4 : Int32} (hW1 : WT G1) (hW2 : WT G2) (hx : Is G1 xa 10) (hm : Is G2 ma 11) (ho : Is G1 oa 14) (ho1 : inB 0 (pN G1 oa) = true) (hg : Gd_say N G1 G2 xa ma oa Inv) (hI : Inv σ1 σ2) (hb1 : vp_in (x4 + (1 : Int32)) L) (hb2 : vp_in (x4 + (2 : Int32)) L) (hb3 : vp_in (x4 + (3 : Int32)) L) (hb4 : vp_in (x4 + (4 : Int32)) L) (hb5 : vp_in (x4 + (5 : Int32)) L) (hB : 1024 ≤ B.1) (hu : u.1 + 3 ≤ B.2.1 ∧ u.2 + 18 ≤ B.2.2) (K : ∀ τ1 τ2 : pS, Inv τ1 τ2 → EvL B bs L xs G1 G2 SK (u.1 + 3, u.2 + 18) 2718 [some (.ref bs), some (.ref xa), some (.ref ma), some (.ref oa), some (.int x4), none, none] [] τ1 τ2) : EvL B bs L xs G1 G2 SK u 823 [some (.ref bs), some (.ref xa), some (.ref ma), some (.ref oa), some (.int x4), none, none] [] σ1 σ2 := by
  refine el_aload_n dc_L_law__823 rfl ?_
  refine el_aload_n dc_L_law__824 rfl ?_
  refine el_iload dc_L_law__825 rfl ?_
  refine el_iconst (v := 1) dc_L_law__827 (by decide) ?_
  refine el_iadd dc_L_law__828 ?_
  refine el_sld dc_L_law__829 hb1 ?_
  refine el_aload_n dc_L_law__830 rfl ?_
  refine el_iload dc_L_law__831 rfl ?_
  refine el_iconst (v := 2) dc_L_law__833 (by decide) ?_
  refine el_iadd dc_L_law__834 ?_
  refine el_sld dc_L_law__835 hb2 ?_
  refine el_aload_n dc_L_law__836 rfl ?_
  obtain ⟨k9, w9, τ1, τ2, e1, e2, e3, e4, hI9⟩ := hg _ _ hI (xs (x4 + (1 : Int32)).toNatClampNeg) (xs (x4 + (2 : Int32)).toNatClampNeg)
  refine el_wrap (av := [.ref xa, .int (xs (x4 + (1 : Int32)).toNatClampNeg), .int (xs (x4 + (2 : Int32)).toNatClampNeg), .ref oa]) (st := []) dc_L_law__837 (tL_say hW1 hx ho e1) mw_1132 cwL_say rfl rfl (Nat.le_of_ble_eq_true rfl) (Nat.le_trans (show _ ≤ 1024 from Nat.le_of_ble_eq_true rfl) hB) ⟨(show u.1 + 3 ≤ B.2.1 from by omega), (show u.2 + 18 ≤ B.2.2 from by omega)⟩ ?_
  refine el_istore (lv' := [some (.ref bs), some (.ref xa), some (.ref ma), some (.ref oa), some (.int x4), some (.int k9), none]) dc_L_law__840 rfl (by decide) rfl ?_
  refine el_aload_n dc_L_law__842 rfl ?_
  refine el_aload_n dc_L_law__843 rfl ?_
  refine el_iload dc_L_law__844 rfl ?_
  refine el_iconst (v := 1) dc_L_law__846 (by decide) ?_
  refine el_iadd dc_L_law__847 ?_
  refine el_sld dc_L_law__848 hb1 ?_
  refine el_aload_n dc_L_law__849 rfl ?_
  refine el_iload dc_L_law__850 rfl ?_
  refine el_iconst (v := 2) dc_L_law__852 (by decide) ?_
  refine el_iadd dc_L_law__853 ?_
  refine el_sld dc_L_law__854 hb2 ?_
  refine el_call2 (av := [.int (xs (x4 + (1 : Int32)).toNatClampNeg), .int (xs (x4 + (2 : Int32)).toNatClampNeg)]) (st := []) (st1 := [.int w9]) dc_L_law__855 (tX12_say hW2 hm e2) mw_1898 cy_X12_say hm (by decide) rfl rfl rfl rfl (Nat.le_of_ble_eq_true rfl) (Nat.le_trans (show _ ≤ 1024 from Nat.le_of_ble_eq_true rfl) hB) ⟨(show u.1 + 3 ≤ B.2.1 from by omega), (show u.2 + 18 ≤ B.2.2 from by omega)⟩ ?_
  refine el_istore (lv' := [some (.ref bs), some (.ref xa), some (.ref ma), some (.ref oa), some (.int x4), some (.int k9), some (.int w9)]) dc_L_law__858 rfl (by decide) rfl ?_
  refine el_aload_n dc_L_law__860 rfl ?_
  refine el_call2 (av := []) (st := []) (st1 := [.int k9]) dc_L_law__861 (tX12_thrown hW2 hm e3) mw_1482 cy_X12_thrown hm (by decide) rfl rfl rfl rfl (Nat.le_of_ble_eq_true rfl) (Nat.le_trans (show _ ≤ 1024 from Nat.le_of_ble_eq_true rfl) hB) ⟨(show u.1 + 3 ≤ B.2.1 from by omega), (show u.2 + 18 ≤ B.2.2 from by omega)⟩ ?_
  refine el_iload dc_L_law__864 rfl ?_
  refine el_icmp_eq (tgt := 871) dc_L_law__866 (by decide) (fun _ => ?_) (fun h => absurd rfl h)
  refine el_iload dc_L_law__871 rfl ?_
  refine el_if_ne (tgt := 888) dc_L_law__873 (by decide) (fun hk => ?_) (fun hk => ?_)
  · refine el_goto (tgt := 2718) dc_L_law__888 (by decide) ?_
    exact el_wid ⟨(show u.1 + 3 ≤ u.1 + 3 from by omega), (show u.2 + 18 ≤ u.2 + 18 from by omega)⟩ (el_sub (K τ1 τ2 hI9) (And.intro rfl (And.intro rfl (And.intro rfl (And.intro rfl (And.intro rfl trivial))))))
  have hk : k9 = 0 := Classical.not_not.mp hk
  refine el_aload_n dc_L_law__876 rfl ?_
  refine el_iconst (v := 0) dc_L_law__877 (by decide) ?_
  refine el_lald dc_L_law__878 ho ho1 ?_
  refine el_iload dc_L_law__879 rfl ?_
  refine el_i2l dc_L_law__881 ?_
  refine el_lcmp dc_L_law__882 ?_
  refine el_if_eq (tgt := 888) dc_L_law__883 (by decide) (fun _ => ?_) (fun h => absurd (by rw [e4 hk]; exact lcz) h)
  refine el_goto (tgt := 2718) dc_L_law__888 (by decide) ?_
  exact el_wid ⟨(show u.1 + 3 ≤ u.1 + 3 from by omega), (show u.2 + 18 ≤ u.2 + 18 from by omega)⟩ (el_sub (K τ1 τ2 hI9) (And.intro rfl (And.intro rfl (And.intro rfl (And.intro rfl (And.intro rfl trivial))))))
def Gd_does (N : Nat) (G1 G2 : pG) (xa ma oa : Nat) (Inv : pS → pS → Prop) : Prop := ∀ (σ1 σ2 : pS), Inv σ1 σ2 → ∀ (c1 : Int32), ∃ (k w : Int32) (τ1 τ2 : pS), fL_does N G1 xa c1 oa σ1 = some (k, τ1) ∧ fX12_does N G2 ma c1 σ2 = some (w, τ2) ∧ fX12_thrown N G2 ma τ2 = some k ∧ (k = 0 → gJ τ1 oa 0 = w.toInt64) ∧ Inv τ1 τ2
set_option maxRecDepth 100000 in
set_option maxHeartbeats 4000000 in
theorem lc_11 {B : Nat × Nat × Nat} {bs L : Nat} {xs : Nat → Int32} {G1 G2 : pG} {SK : Nat → Nat} {u : Nat × Nat} {σ1 σ2 : pS} {N xa ma oa : Nat} {Inv : pS → pS → Prop} {x4 : Int32} (hW1 : WT G1) (hW2 : WT G2) (hx : Is G1 xa 10) (hm : Is G2 ma 11) (ho : Is G1 oa 14) (ho1 : inB 0 (pN G1 oa) = true) (hg : Gd_does N G1 G2 xa ma oa Inv) (hI : Inv σ1 σ2) (hb1 : vp_in (x4 + (1 : Int32)) L) (hb2 : vp_in (x4 + (2 : Int32)) L) (hb3 : vp_in (x4 + (3 : Int32)) L) (hb4 : vp_in (x4 + (4 : Int32)) L) (hb5 : vp_in (x4 + (5 : Int32)) L) (hB : 1024 ≤ B.1) (hu : u.1 + 3 ≤ B.2.1 ∧ u.2 + 18 ≤ B.2.2) (K : ∀ τ1 τ2 : pS, Inv τ1 τ2 → EvL B bs L xs G1 G2 SK (u.1 + 3, u.2 + 18) 2718 [some (.ref bs), some (.ref xa), some (.ref ma), some (.ref oa), some (.int x4), none, none] [] τ1 τ2) : EvL B bs L xs G1 G2 SK u 891 [some (.ref bs), some (.ref xa), some (.ref ma), some (.ref oa), some (.int x4), none, none] [] σ1 σ2 := by
  refine el_aload_n dc_L_law__891 rfl ?_
  refine el_aload_n dc_L_law__892 rfl ?_
  refine el_iload dc_L_law__893 rfl ?_
  refine el_iconst (v := 1) dc_L_law__895 (by decide) ?_
  refine el_iadd dc_L_law__896 ?_
  refine el_sld dc_L_law__897 hb1 ?_
  refine el_aload_n dc_L_law__898 rfl ?_
  obtain ⟨k9, w9, τ1, τ2, e1, e2, e3, e4, hI9⟩ := hg _ _ hI (xs (x4 + (1 : Int32)).toNatClampNeg)
  refine el_wrap (av := [.ref xa, .int (xs (x4 + (1 : Int32)).toNatClampNeg), .ref oa]) (st := []) dc_L_law__899 (tL_does hW1 hx ho e1) mw_1172 cwL_does rfl rfl (Nat.le_of_ble_eq_true rfl) (Nat.le_trans (show _ ≤ 1024 from Nat.le_of_ble_eq_true rfl) hB) ⟨(show u.1 + 2 ≤ B.2.1 from by omega), (show u.2 + 12 ≤ B.2.2 from by omega)⟩ ?_
  refine el_istore (lv' := [some (.ref bs), some (.ref xa), some (.ref ma), some (.ref oa), some (.int x4), some (.int k9), none]) dc_L_law__902 rfl (by decide) rfl ?_
  refine el_aload_n dc_L_law__904 rfl ?_
  refine el_aload_n dc_L_law__905 rfl ?_
  refine el_iload dc_L_law__906 rfl ?_
  refine el_iconst (v := 1) dc_L_law__908 (by decide) ?_
  refine el_iadd dc_L_law__909 ?_
  refine el_sld dc_L_law__910 hb1 ?_
  refine el_call2 (av := [.int (xs (x4 + (1 : Int32)).toNatClampNeg)]) (st := []) (st1 := [.int w9]) dc_L_law__911 (tX12_does hW2 hm e2) mw_1922 cy_X12_does hm (by decide) rfl rfl rfl rfl (Nat.le_of_ble_eq_true rfl) (Nat.le_trans (show _ ≤ 1024 from Nat.le_of_ble_eq_true rfl) hB) ⟨(show u.1 + 2 ≤ B.2.1 from by omega), (show u.2 + 12 ≤ B.2.2 from by omega)⟩ ?_
  refine el_istore (lv' := [some (.ref bs), some (.ref xa), some (.ref ma), some (.ref oa), some (.int x4), some (.int k9), some (.int w9)]) dc_L_law__914 rfl (by decide) rfl ?_
  refine el_aload_n dc_L_law__916 rfl ?_
  refine el_call2 (av := []) (st := []) (st1 := [.int k9]) dc_L_law__917 (tX12_thrown hW2 hm e3) mw_1482 cy_X12_thrown hm (by decide) rfl rfl rfl rfl (Nat.le_of_ble_eq_true rfl) (Nat.le_trans (show _ ≤ 1024 from Nat.le_of_ble_eq_true rfl) hB) ⟨(show u.1 + 2 ≤ B.2.1 from by omega), (show u.2 + 12 ≤ B.2.2 from by omega)⟩ ?_
  refine el_iload dc_L_law__920 rfl ?_
  refine el_icmp_eq (tgt := 927) dc_L_law__922 (by decide) (fun _ => ?_) (fun h => absurd rfl h)
  refine el_iload dc_L_law__927 rfl ?_
  refine el_if_ne (tgt := 944) dc_L_law__929 (by decide) (fun hk => ?_) (fun hk => ?_)
  · refine el_goto (tgt := 2718) dc_L_law__944 (by decide) ?_
    exact el_wid ⟨(show u.1 + 2 ≤ u.1 + 3 from by omega), (show u.2 + 12 ≤ u.2 + 18 from by omega)⟩ (el_sub (K τ1 τ2 hI9) (And.intro rfl (And.intro rfl (And.intro rfl (And.intro rfl (And.intro rfl trivial))))))
  have hk : k9 = 0 := Classical.not_not.mp hk
  refine el_aload_n dc_L_law__932 rfl ?_
  refine el_iconst (v := 0) dc_L_law__933 (by decide) ?_
  refine el_lald dc_L_law__934 ho ho1 ?_
  refine el_iload dc_L_law__935 rfl ?_
  refine el_i2l dc_L_law__937 ?_
  refine el_lcmp dc_L_law__938 ?_
  refine el_if_eq (tgt := 944) dc_L_law__939 (by decide) (fun _ => ?_) (fun h => absurd (by rw [e4 hk]; exact lcz) h)
  refine el_goto (tgt := 2718) dc_L_law__944 (by decide) ?_
  exact el_wid ⟨(show u.1 + 2 ≤ u.1 + 3 from by omega), (show u.2 + 12 ≤ u.2 + 18 from by omega)⟩ (el_sub (K τ1 τ2 hI9) (And.intro rfl (And.intro rfl (And.intro rfl (And.intro rfl (And.intro rfl trivial))))))
def Gd_keep (N : Nat) (G1 G2 : pG) (xa ma oa : Nat) (Inv : pS → pS → Prop) : Prop := ∀ (σ1 σ2 : pS), Inv σ1 σ2 → ∀ (c1 : Int32) (c2 : Int32), (isZ c2 = true) → ∃ (k w : Int32) (τ1 τ2 : pS), fL_keep N G1 xa c1 c2 oa σ1 = some (k, τ1) ∧ fX12_keep N G2 ma c1 c2 σ2 = some (w, τ2) ∧ fX12_thrown N G2 ma τ2 = some k ∧ (k = 0 → gJ τ1 oa 0 = (if w = 0 then 0 else 1)) ∧ Inv τ1 τ2
set_option maxRecDepth 100000 in
set_option maxHeartbeats 4000000 in
theorem lc_12 {B : Nat × Nat × Nat} {bs L : Nat} {xs : Nat → Int32} {G1 G2 : pG} {SK : Nat → Nat} {u : Nat × Nat} {σ1 σ2 : pS} {N xa ma oa : Nat} {Inv : pS → pS → Prop} {x4 : Int32} (hW1 : WT G1) (hW2 : WT G2) (hx : Is G1 xa 10) (hm : Is G2 ma 11) (ho : Is G1 oa 14) (ho1 : inB 0 (pN G1 oa) = true) (hg : Gd_keep N G1 G2 xa ma oa Inv) (hI : Inv σ1 σ2) (hb1 : vp_in (x4 + (1 : Int32)) L) (hb2 : vp_in (x4 + (2 : Int32)) L) (hb3 : vp_in (x4 + (3 : Int32)) L) (hb4 : vp_in (x4 + (4 : Int32)) L) (hb5 : vp_in (x4 + (5 : Int32)) L) (hB : 1024 ≤ B.1) (hu : u.1 + 3 ≤ B.2.1 ∧ u.2 + 18 ≤ B.2.2) (K : ∀ τ1 τ2 : pS, Inv τ1 τ2 → EvL B bs L xs G1 G2 SK (u.1 + 3, u.2 + 18) 2718 [some (.ref bs), some (.ref xa), some (.ref ma), some (.ref oa), some (.int x4), none, none] [] τ1 τ2) : EvL B bs L xs G1 G2 SK u 947 [some (.ref bs), some (.ref xa), some (.ref ma), some (.ref oa), some (.int x4), none, none] [] σ1 σ2 := by
  refine el_aload_n dc_L_law__947 rfl ?_
  refine el_aload_n dc_L_law__948 rfl ?_
  refine el_iload dc_L_law__949 rfl ?_
  refine el_iconst (v := 1) dc_L_law__951 (by decide) ?_
  refine el_iadd dc_L_law__952 ?_
  refine el_sld dc_L_law__953 hb1 ?_
  refine el_aload_n dc_L_law__954 rfl ?_
  refine el_iload dc_L_law__955 rfl ?_
  refine el_iconst (v := 2) dc_L_law__957 (by decide) ?_
  refine el_iadd dc_L_law__958 ?_
  refine el_sld dc_L_law__959 hb2 ?_
  refine el_if_eq (tgt := 967) dc_L_law__960 (by decide) (fun hz1 => ?_) (fun hz1 => ?_)
  · refine el_iconst (v := 0) dc_L_law__967 (by decide) ?_
    refine el_aload_n dc_L_law__968 rfl ?_
    obtain ⟨k9, w9, τ1, τ2, e1, e2, e3, e4, hI9⟩ := hg _ _ hI (xs (x4 + (1 : Int32)).toNatClampNeg) (0 : Int32) (by decide)
    refine el_wrap (av := [.ref xa, .int (xs (x4 + (1 : Int32)).toNatClampNeg), .int (0 : Int32), .ref oa]) (st := []) dc_L_law__969 (tL_keep hW1 hx ho e1) mw_1185 cwL_keep rfl rfl (Nat.le_of_ble_eq_true rfl) (Nat.le_trans (show _ ≤ 1024 from Nat.le_of_ble_eq_true rfl) hB) ⟨(show u.1 + 1 ≤ B.2.1 from by omega), (show u.2 + 6 ≤ B.2.2 from by omega)⟩ ?_
    refine el_istore (lv' := [some (.ref bs), some (.ref xa), some (.ref ma), some (.ref oa), some (.int x4), some (.int k9), none]) dc_L_law__972 rfl (by decide) rfl ?_
    refine el_aload_n dc_L_law__974 rfl ?_
    refine el_aload_n dc_L_law__975 rfl ?_
    refine el_iload dc_L_law__976 rfl ?_
    refine el_iconst (v := 1) dc_L_law__978 (by decide) ?_
    refine el_iadd dc_L_law__979 ?_
    refine el_sld dc_L_law__980 hb1 ?_
    refine el_aload_n dc_L_law__981 rfl ?_
    refine el_iload dc_L_law__982 rfl ?_
    refine el_iconst (v := 2) dc_L_law__984 (by decide) ?_
    refine el_iadd dc_L_law__985 ?_
    refine el_sld dc_L_law__986 hb2 ?_
    refine el_if_eq (tgt := 994) dc_L_law__987 (by decide) (fun _ => ?_) (fun h => absurd hz1 h)
    refine el_iconst (v := 0) dc_L_law__994 (by decide) ?_
    refine el_call2 (av := [.int (xs (x4 + (1 : Int32)).toNatClampNeg), .int (0 : Int32)]) (st := []) (st1 := [.int w9]) dc_L_law__995 (tX12_keep hW2 hm e2) mw_1934 cy_X12_keep hm (by decide) rfl rfl rfl rfl (Nat.le_of_ble_eq_true rfl) (Nat.le_trans (show _ ≤ 1024 from Nat.le_of_ble_eq_true rfl) hB) ⟨(show u.1 + 1 ≤ B.2.1 from by omega), (show u.2 + 6 ≤ B.2.2 from by omega)⟩ ?_
    refine el_istore (lv' := [some (.ref bs), some (.ref xa), some (.ref ma), some (.ref oa), some (.int x4), some (.int k9), some (.int w9)]) dc_L_law__998 rfl (by decide) rfl ?_
    refine el_aload_n dc_L_law__1000 rfl ?_
    refine el_call2 (av := []) (st := []) (st1 := [.int k9]) dc_L_law__1001 (tX12_thrown hW2 hm e3) mw_1482 cy_X12_thrown hm (by decide) rfl rfl rfl rfl (Nat.le_of_ble_eq_true rfl) (Nat.le_trans (show _ ≤ 1024 from Nat.le_of_ble_eq_true rfl) hB) ⟨(show u.1 + 1 ≤ B.2.1 from by omega), (show u.2 + 6 ≤ B.2.2 from by omega)⟩ ?_
    refine el_iload dc_L_law__1004 rfl ?_
    refine el_icmp_eq (tgt := 1011) dc_L_law__1006 (by decide) (fun _ => ?_) (fun h => absurd rfl h)
    refine el_iload dc_L_law__1011 rfl ?_
    refine el_if_ne (tgt := 1035) dc_L_law__1013 (by decide) (fun hk => ?_) (fun hk => ?_)
    · refine el_goto (tgt := 2718) dc_L_law__1035 (by decide) ?_
      exact el_wid ⟨(show u.1 + 1 ≤ u.1 + 3 from by omega), (show u.2 + 6 ≤ u.2 + 18 from by omega)⟩ (el_sub (K τ1 τ2 hI9) (And.intro rfl (And.intro rfl (And.intro rfl (And.intro rfl (And.intro rfl trivial))))))
    have hk : k9 = 0 := Classical.not_not.mp hk
    refine el_aload_n dc_L_law__1016 rfl ?_
    refine el_iconst (v := 0) dc_L_law__1017 (by decide) ?_
    refine el_lald dc_L_law__1018 ho ho1 ?_
    refine el_iload dc_L_law__1019 rfl ?_
    refine el_if_eq (tgt := 1028) dc_L_law__1021 (by decide) (fun hw => ?_) (fun hw => ?_)
    · refine el_lconst (v := 0) dc_L_law__1028 (by decide) ?_
      refine el_lcmp dc_L_law__1029 ?_
      refine el_if_eq (tgt := 1035) dc_L_law__1030 (by decide) (fun _ => ?_) (fun h => absurd (by rw [e4 hk]; simp [hw, lcz]) h)
      refine el_goto (tgt := 2718) dc_L_law__1035 (by decide) ?_
      exact el_wid ⟨(show u.1 + 1 ≤ u.1 + 3 from by omega), (show u.2 + 6 ≤ u.2 + 18 from by omega)⟩ (el_sub (K τ1 τ2 hI9) (And.intro rfl (And.intro rfl (And.intro rfl (And.intro rfl (And.intro rfl trivial))))))
    refine el_lconst (v := 1) dc_L_law__1024 (by decide) ?_
    refine el_goto (tgt := 1029) dc_L_law__1025 (by decide) ?_
    refine el_lcmp dc_L_law__1029 ?_
    refine el_if_eq (tgt := 1035) dc_L_law__1030 (by decide) (fun _ => ?_) (fun h => absurd (by rw [e4 hk]; simp [hw, lcz]) h)
    refine el_goto (tgt := 2718) dc_L_law__1035 (by decide) ?_
    exact el_wid ⟨(show u.1 + 1 ≤ u.1 + 3 from by omega), (show u.2 + 6 ≤ u.2 + 18 from by omega)⟩ (el_sub (K τ1 τ2 hI9) (And.intro rfl (And.intro rfl (And.intro rfl (And.intro rfl (And.intro rfl trivial))))))
  refine el_iconst (v := 1) dc_L_law__963 (by decide) ?_
  refine el_goto (tgt := 968) dc_L_law__964 (by decide) ?_
  refine el_aload_n dc_L_law__968 rfl ?_
  obtain ⟨k9, w9, τ1, τ2, e1, e2, e3, e4, hI9⟩ := hg _ _ hI (xs (x4 + (1 : Int32)).toNatClampNeg) (1 : Int32) (by decide)
  refine el_wrap (av := [.ref xa, .int (xs (x4 + (1 : Int32)).toNatClampNeg), .int (1 : Int32), .ref oa]) (st := []) dc_L_law__969 (tL_keep hW1 hx ho e1) mw_1185 cwL_keep rfl rfl (Nat.le_of_ble_eq_true rfl) (Nat.le_trans (show _ ≤ 1024 from Nat.le_of_ble_eq_true rfl) hB) ⟨(show u.1 + 1 ≤ B.2.1 from by omega), (show u.2 + 6 ≤ B.2.2 from by omega)⟩ ?_
  refine el_istore (lv' := [some (.ref bs), some (.ref xa), some (.ref ma), some (.ref oa), some (.int x4), some (.int k9), none]) dc_L_law__972 rfl (by decide) rfl ?_
  refine el_aload_n dc_L_law__974 rfl ?_
  refine el_aload_n dc_L_law__975 rfl ?_
  refine el_iload dc_L_law__976 rfl ?_
  refine el_iconst (v := 1) dc_L_law__978 (by decide) ?_
  refine el_iadd dc_L_law__979 ?_
  refine el_sld dc_L_law__980 hb1 ?_
  refine el_aload_n dc_L_law__981 rfl ?_
  refine el_iload dc_L_law__982 rfl ?_
  refine el_iconst (v := 2) dc_L_law__984 (by decide) ?_
  refine el_iadd dc_L_law__985 ?_
  refine el_sld dc_L_law__986 hb2 ?_
  refine el_if_eq (tgt := 994) dc_L_law__987 (by decide) (fun h => absurd h hz1) (fun _ => ?_)
  refine el_iconst (v := 1) dc_L_law__990 (by decide) ?_
  refine el_goto (tgt := 995) dc_L_law__991 (by decide) ?_
  refine el_call2 (av := [.int (xs (x4 + (1 : Int32)).toNatClampNeg), .int (1 : Int32)]) (st := []) (st1 := [.int w9]) dc_L_law__995 (tX12_keep hW2 hm e2) mw_1934 cy_X12_keep hm (by decide) rfl rfl rfl rfl (Nat.le_of_ble_eq_true rfl) (Nat.le_trans (show _ ≤ 1024 from Nat.le_of_ble_eq_true rfl) hB) ⟨(show u.1 + 1 ≤ B.2.1 from by omega), (show u.2 + 6 ≤ B.2.2 from by omega)⟩ ?_
  refine el_istore (lv' := [some (.ref bs), some (.ref xa), some (.ref ma), some (.ref oa), some (.int x4), some (.int k9), some (.int w9)]) dc_L_law__998 rfl (by decide) rfl ?_
  refine el_aload_n dc_L_law__1000 rfl ?_
  refine el_call2 (av := []) (st := []) (st1 := [.int k9]) dc_L_law__1001 (tX12_thrown hW2 hm e3) mw_1482 cy_X12_thrown hm (by decide) rfl rfl rfl rfl (Nat.le_of_ble_eq_true rfl) (Nat.le_trans (show _ ≤ 1024 from Nat.le_of_ble_eq_true rfl) hB) ⟨(show u.1 + 1 ≤ B.2.1 from by omega), (show u.2 + 6 ≤ B.2.2 from by omega)⟩ ?_
  refine el_iload dc_L_law__1004 rfl ?_
  refine el_icmp_eq (tgt := 1011) dc_L_law__1006 (by decide) (fun _ => ?_) (fun h => absurd rfl h)
  refine el_iload dc_L_law__1011 rfl ?_
  refine el_if_ne (tgt := 1035) dc_L_law__1013 (by decide) (fun hk => ?_) (fun hk => ?_)
  · refine el_goto (tgt := 2718) dc_L_law__1035 (by decide) ?_
    exact el_wid ⟨(show u.1 + 1 ≤ u.1 + 3 from by omega), (show u.2 + 6 ≤ u.2 + 18 from by omega)⟩ (el_sub (K τ1 τ2 hI9) (And.intro rfl (And.intro rfl (And.intro rfl (And.intro rfl (And.intro rfl trivial))))))
  have hk : k9 = 0 := Classical.not_not.mp hk
  refine el_aload_n dc_L_law__1016 rfl ?_
  refine el_iconst (v := 0) dc_L_law__1017 (by decide) ?_
  refine el_lald dc_L_law__1018 ho ho1 ?_
  refine el_iload dc_L_law__1019 rfl ?_
  refine el_if_eq (tgt := 1028) dc_L_law__1021 (by decide) (fun hw => ?_) (fun hw => ?_)
  · refine el_lconst (v := 0) dc_L_law__1028 (by decide) ?_
    refine el_lcmp dc_L_law__1029 ?_
    refine el_if_eq (tgt := 1035) dc_L_law__1030 (by decide) (fun _ => ?_) (fun h => absurd (by rw [e4 hk]; simp [hw, lcz]) h)
    refine el_goto (tgt := 2718) dc_L_law__1035 (by decide) ?_
    exact el_wid ⟨(show u.1 + 1 ≤ u.1 + 3 from by omega), (show u.2 + 6 ≤ u.2 + 18 from by omega)⟩ (el_sub (K τ1 τ2 hI9) (And.intro rfl (And.intro rfl (And.intro rfl (And.intro rfl (And.intro rfl trivial))))))
  refine el_lconst (v := 1) dc_L_law__1024 (by decide) ?_
  refine el_goto (tgt := 1029) dc_L_law__1025 (by decide) ?_
  refine el_lcmp dc_L_law__1029 ?_
  refine el_if_eq (tgt := 1035) dc_L_law__1030 (by decide) (fun _ => ?_) (fun h => absurd (by rw [e4 hk]; simp [hw, lcz]) h)
  refine el_goto (tgt := 2718) dc_L_law__1035 (by decide) ?_
  exact el_wid ⟨(show u.1 + 1 ≤ u.1 + 3 from by omega), (show u.2 + 6 ≤ u.2 + 18 from by omega)⟩ (el_sub (K τ1 τ2 hI9) (And.intro rfl (And.intro rfl (And.intro rfl (And.intro rfl (And.intro rfl trivial))))))
def Gd_habit (N : Nat) (G1 G2 : pG) (xa ma oa : Nat) (Inv : pS → pS → Prop) : Prop := ∀ (σ1 σ2 : pS), Inv σ1 σ2 → ∀ (c1 : Int32) (c2 : Int32), ∃ (k w : Int32) (τ1 τ2 : pS), fL_habit N G1 xa c1 c2 oa σ1 = some (k, τ1) ∧ fX12_habit N G2 ma c1 c2 σ2 = some (w, τ2) ∧ fX12_thrown N G2 ma τ2 = some k ∧ (k = 0 → gJ τ1 oa 0 = w.toInt64) ∧ Inv τ1 τ2
set_option maxRecDepth 100000 in
set_option maxHeartbeats 4000000 in
theorem lc_13 {B : Nat × Nat × Nat} {bs L : Nat} {xs : Nat → Int32} {G1 G2 : pG} {SK : Nat → Nat} {u : Nat × Nat} {σ1 σ2 : pS} {N xa ma oa : Nat} {Inv : pS → pS → Prop} {x4 : Int32} (hW1 : WT G1) (hW2 : WT G2) (hx : Is G1 xa 10) (hm : Is G2 ma 11) (ho : Is G1 oa 14) (ho1 : inB 0 (pN G1 oa) = true) (hg : Gd_habit N G1 G2 xa ma oa Inv) (hI : Inv σ1 σ2) (hb1 : vp_in (x4 + (1 : Int32)) L) (hb2 : vp_in (x4 + (2 : Int32)) L) (hb3 : vp_in (x4 + (3 : Int32)) L) (hb4 : vp_in (x4 + (4 : Int32)) L) (hb5 : vp_in (x4 + (5 : Int32)) L) (hB : 1024 ≤ B.1) (hu : u.1 + 3 ≤ B.2.1 ∧ u.2 + 18 ≤ B.2.2) (K : ∀ τ1 τ2 : pS, Inv τ1 τ2 → EvL B bs L xs G1 G2 SK (u.1 + 3, u.2 + 18) 2718 [some (.ref bs), some (.ref xa), some (.ref ma), some (.ref oa), some (.int x4), none, none] [] τ1 τ2) : EvL B bs L xs G1 G2 SK u 1038 [some (.ref bs), some (.ref xa), some (.ref ma), some (.ref oa), some (.int x4), none, none] [] σ1 σ2 := by
  refine el_aload_n dc_L_law__1038 rfl ?_
  refine el_aload_n dc_L_law__1039 rfl ?_
  refine el_iload dc_L_law__1040 rfl ?_
  refine el_iconst (v := 1) dc_L_law__1042 (by decide) ?_
  refine el_iadd dc_L_law__1043 ?_
  refine el_sld dc_L_law__1044 hb1 ?_
  refine el_aload_n dc_L_law__1045 rfl ?_
  refine el_iload dc_L_law__1046 rfl ?_
  refine el_iconst (v := 2) dc_L_law__1048 (by decide) ?_
  refine el_iadd dc_L_law__1049 ?_
  refine el_sld dc_L_law__1050 hb2 ?_
  refine el_aload_n dc_L_law__1051 rfl ?_
  obtain ⟨k9, w9, τ1, τ2, e1, e2, e3, e4, hI9⟩ := hg _ _ hI (xs (x4 + (1 : Int32)).toNatClampNeg) (xs (x4 + (2 : Int32)).toNatClampNeg)
  refine el_wrap (av := [.ref xa, .int (xs (x4 + (1 : Int32)).toNatClampNeg), .int (xs (x4 + (2 : Int32)).toNatClampNeg), .ref oa]) (st := []) dc_L_law__1052 (tL_habit hW1 hx ho e1) mw_1192 cwL_habit rfl rfl (Nat.le_of_ble_eq_true rfl) (Nat.le_trans (show _ ≤ 1024 from Nat.le_of_ble_eq_true rfl) hB) ⟨(show u.1 + 2 ≤ B.2.1 from by omega), (show u.2 + 12 ≤ B.2.2 from by omega)⟩ ?_
  refine el_istore (lv' := [some (.ref bs), some (.ref xa), some (.ref ma), some (.ref oa), some (.int x4), some (.int k9), none]) dc_L_law__1055 rfl (by decide) rfl ?_
  refine el_aload_n dc_L_law__1057 rfl ?_
  refine el_aload_n dc_L_law__1058 rfl ?_
  refine el_iload dc_L_law__1059 rfl ?_
  refine el_iconst (v := 1) dc_L_law__1061 (by decide) ?_
  refine el_iadd dc_L_law__1062 ?_
  refine el_sld dc_L_law__1063 hb1 ?_
  refine el_aload_n dc_L_law__1064 rfl ?_
  refine el_iload dc_L_law__1065 rfl ?_
  refine el_iconst (v := 2) dc_L_law__1067 (by decide) ?_
  refine el_iadd dc_L_law__1068 ?_
  refine el_sld dc_L_law__1069 hb2 ?_
  refine el_call2 (av := [.int (xs (x4 + (1 : Int32)).toNatClampNeg), .int (xs (x4 + (2 : Int32)).toNatClampNeg)]) (st := []) (st1 := [.int w9]) dc_L_law__1070 (tX12_habit hW2 hm e2) mw_1938 cy_X12_habit hm (by decide) rfl rfl rfl rfl (Nat.le_of_ble_eq_true rfl) (Nat.le_trans (show _ ≤ 1024 from Nat.le_of_ble_eq_true rfl) hB) ⟨(show u.1 + 2 ≤ B.2.1 from by omega), (show u.2 + 12 ≤ B.2.2 from by omega)⟩ ?_
  refine el_istore (lv' := [some (.ref bs), some (.ref xa), some (.ref ma), some (.ref oa), some (.int x4), some (.int k9), some (.int w9)]) dc_L_law__1073 rfl (by decide) rfl ?_
  refine el_aload_n dc_L_law__1075 rfl ?_
  refine el_call2 (av := []) (st := []) (st1 := [.int k9]) dc_L_law__1076 (tX12_thrown hW2 hm e3) mw_1482 cy_X12_thrown hm (by decide) rfl rfl rfl rfl (Nat.le_of_ble_eq_true rfl) (Nat.le_trans (show _ ≤ 1024 from Nat.le_of_ble_eq_true rfl) hB) ⟨(show u.1 + 2 ≤ B.2.1 from by omega), (show u.2 + 12 ≤ B.2.2 from by omega)⟩ ?_
  refine el_iload dc_L_law__1079 rfl ?_
  refine el_icmp_eq (tgt := 1086) dc_L_law__1081 (by decide) (fun _ => ?_) (fun h => absurd rfl h)
  refine el_iload dc_L_law__1086 rfl ?_
  refine el_if_ne (tgt := 1103) dc_L_law__1088 (by decide) (fun hk => ?_) (fun hk => ?_)
  · refine el_goto (tgt := 2718) dc_L_law__1103 (by decide) ?_
    exact el_wid ⟨(show u.1 + 2 ≤ u.1 + 3 from by omega), (show u.2 + 12 ≤ u.2 + 18 from by omega)⟩ (el_sub (K τ1 τ2 hI9) (And.intro rfl (And.intro rfl (And.intro rfl (And.intro rfl (And.intro rfl trivial))))))
  have hk : k9 = 0 := Classical.not_not.mp hk
  refine el_aload_n dc_L_law__1091 rfl ?_
  refine el_iconst (v := 0) dc_L_law__1092 (by decide) ?_
  refine el_lald dc_L_law__1093 ho ho1 ?_
  refine el_iload dc_L_law__1094 rfl ?_
  refine el_i2l dc_L_law__1096 ?_
  refine el_lcmp dc_L_law__1097 ?_
  refine el_if_eq (tgt := 1103) dc_L_law__1098 (by decide) (fun _ => ?_) (fun h => absurd (by rw [e4 hk]; exact lcz) h)
  refine el_goto (tgt := 2718) dc_L_law__1103 (by decide) ?_
  exact el_wid ⟨(show u.1 + 2 ≤ u.1 + 3 from by omega), (show u.2 + 12 ≤ u.2 + 18 from by omega)⟩ (el_sub (K τ1 τ2 hI9) (And.intro rfl (And.intro rfl (And.intro rfl (And.intro rfl (And.intro rfl trivial))))))
def Gd_his (N : Nat) (G1 G2 : pG) (xa ma oa : Nat) (Inv : pS → pS → Prop) : Prop := ∀ (σ1 σ2 : pS), Inv σ1 σ2 → ∀ (c1 : Int32), ∃ (k w : Int32) (τ1 τ2 : pS), fL_his N G1 xa c1 oa σ1 = some (k, τ1) ∧ fX12_his N G2 ma c1 σ2 = some (w, τ2) ∧ fX12_thrown N G2 ma τ2 = some k ∧ (k = 0 → gJ τ1 oa 0 = w.toInt64) ∧ Inv τ1 τ2
set_option maxRecDepth 100000 in
set_option maxHeartbeats 4000000 in
theorem lc_14 {B : Nat × Nat × Nat} {bs L : Nat} {xs : Nat → Int32} {G1 G2 : pG} {SK : Nat → Nat} {u : Nat × Nat} {σ1 σ2 : pS} {N xa ma oa : Nat} {Inv : pS → pS → Prop} {x4 : Int32} (hW1 : WT G1) (hW2 : WT G2) (hx : Is G1 xa 10) (hm : Is G2 ma 11) (ho : Is G1 oa 14) (ho1 : inB 0 (pN G1 oa) = true) (hg : Gd_his N G1 G2 xa ma oa Inv) (hI : Inv σ1 σ2) (hb1 : vp_in (x4 + (1 : Int32)) L) (hb2 : vp_in (x4 + (2 : Int32)) L) (hb3 : vp_in (x4 + (3 : Int32)) L) (hb4 : vp_in (x4 + (4 : Int32)) L) (hb5 : vp_in (x4 + (5 : Int32)) L) (hB : 1024 ≤ B.1) (hu : u.1 + 3 ≤ B.2.1 ∧ u.2 + 18 ≤ B.2.2) (K : ∀ τ1 τ2 : pS, Inv τ1 τ2 → EvL B bs L xs G1 G2 SK (u.1 + 3, u.2 + 18) 2718 [some (.ref bs), some (.ref xa), some (.ref ma), some (.ref oa), some (.int x4), none, none] [] τ1 τ2) : EvL B bs L xs G1 G2 SK u 1106 [some (.ref bs), some (.ref xa), some (.ref ma), some (.ref oa), some (.int x4), none, none] [] σ1 σ2 := by
  refine el_aload_n dc_L_law__1106 rfl ?_
  refine el_aload_n dc_L_law__1107 rfl ?_
  refine el_iload dc_L_law__1108 rfl ?_
  refine el_iconst (v := 1) dc_L_law__1110 (by decide) ?_
  refine el_iadd dc_L_law__1111 ?_
  refine el_sld dc_L_law__1112 hb1 ?_
  refine el_aload_n dc_L_law__1113 rfl ?_
  obtain ⟨k9, w9, τ1, τ2, e1, e2, e3, e4, hI9⟩ := hg _ _ hI (xs (x4 + (1 : Int32)).toNatClampNeg)
  refine el_wrap (av := [.ref xa, .int (xs (x4 + (1 : Int32)).toNatClampNeg), .ref oa]) (st := []) dc_L_law__1114 (tL_his hW1 hx ho e1) mw_1200 cwL_his rfl rfl (Nat.le_of_ble_eq_true rfl) (Nat.le_trans (show _ ≤ 1024 from Nat.le_of_ble_eq_true rfl) hB) ⟨(show u.1 + 1 ≤ B.2.1 from by omega), (show u.2 + 6 ≤ B.2.2 from by omega)⟩ ?_
  refine el_istore (lv' := [some (.ref bs), some (.ref xa), some (.ref ma), some (.ref oa), some (.int x4), some (.int k9), none]) dc_L_law__1117 rfl (by decide) rfl ?_
  refine el_aload_n dc_L_law__1119 rfl ?_
  refine el_aload_n dc_L_law__1120 rfl ?_
  refine el_iload dc_L_law__1121 rfl ?_
  refine el_iconst (v := 1) dc_L_law__1123 (by decide) ?_
  refine el_iadd dc_L_law__1124 ?_
  refine el_sld dc_L_law__1125 hb1 ?_
  refine el_call2 (av := [.int (xs (x4 + (1 : Int32)).toNatClampNeg)]) (st := []) (st1 := [.int w9]) dc_L_law__1126 (tX12_his hW2 hm e2) mw_1942 cy_X12_his hm (by decide) rfl rfl rfl rfl (Nat.le_of_ble_eq_true rfl) (Nat.le_trans (show _ ≤ 1024 from Nat.le_of_ble_eq_true rfl) hB) ⟨(show u.1 + 1 ≤ B.2.1 from by omega), (show u.2 + 6 ≤ B.2.2 from by omega)⟩ ?_
  refine el_istore (lv' := [some (.ref bs), some (.ref xa), some (.ref ma), some (.ref oa), some (.int x4), some (.int k9), some (.int w9)]) dc_L_law__1129 rfl (by decide) rfl ?_
  refine el_aload_n dc_L_law__1131 rfl ?_
  refine el_call2 (av := []) (st := []) (st1 := [.int k9]) dc_L_law__1132 (tX12_thrown hW2 hm e3) mw_1482 cy_X12_thrown hm (by decide) rfl rfl rfl rfl (Nat.le_of_ble_eq_true rfl) (Nat.le_trans (show _ ≤ 1024 from Nat.le_of_ble_eq_true rfl) hB) ⟨(show u.1 + 1 ≤ B.2.1 from by omega), (show u.2 + 6 ≤ B.2.2 from by omega)⟩ ?_
  refine el_iload dc_L_law__1135 rfl ?_
  refine el_icmp_eq (tgt := 1142) dc_L_law__1137 (by decide) (fun _ => ?_) (fun h => absurd rfl h)
  refine el_iload dc_L_law__1142 rfl ?_
  refine el_if_ne (tgt := 1159) dc_L_law__1144 (by decide) (fun hk => ?_) (fun hk => ?_)
  · refine el_goto (tgt := 2718) dc_L_law__1159 (by decide) ?_
    exact el_wid ⟨(show u.1 + 1 ≤ u.1 + 3 from by omega), (show u.2 + 6 ≤ u.2 + 18 from by omega)⟩ (el_sub (K τ1 τ2 hI9) (And.intro rfl (And.intro rfl (And.intro rfl (And.intro rfl (And.intro rfl trivial))))))
  have hk : k9 = 0 := Classical.not_not.mp hk
  refine el_aload_n dc_L_law__1147 rfl ?_
  refine el_iconst (v := 0) dc_L_law__1148 (by decide) ?_
  refine el_lald dc_L_law__1149 ho ho1 ?_
  refine el_iload dc_L_law__1150 rfl ?_
  refine el_i2l dc_L_law__1152 ?_
  refine el_lcmp dc_L_law__1153 ?_
  refine el_if_eq (tgt := 1159) dc_L_law__1154 (by decide) (fun _ => ?_) (fun h => absurd (by rw [e4 hk]; exact lcz) h)
  refine el_goto (tgt := 2718) dc_L_law__1159 (by decide) ?_
  exact el_wid ⟨(show u.1 + 1 ≤ u.1 + 3 from by omega), (show u.2 + 6 ≤ u.2 + 18 from by omega)⟩ (el_sub (K τ1 τ2 hI9) (And.intro rfl (And.intro rfl (And.intro rfl (And.intro rfl (And.intro rfl trivial))))))
def Gd_crumb (N : Nat) (G1 G2 : pG) (xa ma oa : Nat) (Inv : pS → pS → Prop) : Prop := ∀ (σ1 σ2 : pS), Inv σ1 σ2 → ∀ (c1 : Int32), ∃ (k w : Int32) (τ1 τ2 : pS), fL_crumb N G1 xa c1 oa σ1 = some (k, τ1) ∧ fX12_crumb N G2 ma c1 σ2 = some (w, τ2) ∧ fX12_thrown N G2 ma τ2 = some k ∧ (k = 0 → gJ τ1 oa 0 = w.toInt64) ∧ Inv τ1 τ2
set_option maxRecDepth 100000 in
set_option maxHeartbeats 4000000 in
theorem lc_15 {B : Nat × Nat × Nat} {bs L : Nat} {xs : Nat → Int32} {G1 G2 : pG} {SK : Nat → Nat} {u : Nat × Nat} {σ1 σ2 : pS} {N xa ma oa : Nat} {Inv : pS → pS → Prop} {x4 : Int32} (hW1 : WT G1) (hW2 : WT G2) (hx : Is G1 xa 10) (hm : Is G2 ma 11) (ho : Is G1 oa 14) (ho1 : inB 0 (pN G1 oa) = true) (hg : Gd_crumb N G1 G2 xa ma oa Inv) (hI : Inv σ1 σ2) (hb1 : vp_in (x4 + (1 : Int32)) L) (hb2 : vp_in (x4 + (2 : Int32)) L) (hb3 : vp_in (x4 + (3 : Int32)) L) (hb4 : vp_in (x4 + (4 : Int32)) L) (hb5 : vp_in (x4 + (5 : Int32)) L) (hB : 1024 ≤ B.1) (hu : u.1 + 3 ≤ B.2.1 ∧ u.2 + 18 ≤ B.2.2) (K : ∀ τ1 τ2 : pS, Inv τ1 τ2 → EvL B bs L xs G1 G2 SK (u.1 + 3, u.2 + 18) 2718 [some (.ref bs), some (.ref xa), some (.ref ma), some (.ref oa), some (.int x4), none, none] [] τ1 τ2) : EvL B bs L xs G1 G2 SK u 1162 [some (.ref bs), some (.ref xa), some (.ref ma), some (.ref oa), some (.int x4), none, none] [] σ1 σ2 := by
  refine el_aload_n dc_L_law__1162 rfl ?_
  refine el_aload_n dc_L_law__1163 rfl ?_
  refine el_iload dc_L_law__1164 rfl ?_
  refine el_iconst (v := 1) dc_L_law__1166 (by decide) ?_
  refine el_iadd dc_L_law__1167 ?_
  refine el_sld dc_L_law__1168 hb1 ?_
  refine el_aload_n dc_L_law__1169 rfl ?_
  obtain ⟨k9, w9, τ1, τ2, e1, e2, e3, e4, hI9⟩ := hg _ _ hI (xs (x4 + (1 : Int32)).toNatClampNeg)
  refine el_wrap (av := [.ref xa, .int (xs (x4 + (1 : Int32)).toNatClampNeg), .ref oa]) (st := []) dc_L_law__1170 (tL_crumb hW1 hx ho e1) mw_1208 cwL_crumb rfl rfl (Nat.le_of_ble_eq_true rfl) (Nat.le_trans (show _ ≤ 1024 from Nat.le_of_ble_eq_true rfl) hB) ⟨(show u.1 + 2 ≤ B.2.1 from by omega), (show u.2 + 12 ≤ B.2.2 from by omega)⟩ ?_
  refine el_istore (lv' := [some (.ref bs), some (.ref xa), some (.ref ma), some (.ref oa), some (.int x4), some (.int k9), none]) dc_L_law__1173 rfl (by decide) rfl ?_
  refine el_aload_n dc_L_law__1175 rfl ?_
  refine el_aload_n dc_L_law__1176 rfl ?_
  refine el_iload dc_L_law__1177 rfl ?_
  refine el_iconst (v := 1) dc_L_law__1179 (by decide) ?_
  refine el_iadd dc_L_law__1180 ?_
  refine el_sld dc_L_law__1181 hb1 ?_
  refine el_call2 (av := [.int (xs (x4 + (1 : Int32)).toNatClampNeg)]) (st := []) (st1 := [.int w9]) dc_L_law__1182 (tX12_crumb hW2 hm e2) mw_1950 cy_X12_crumb hm (by decide) rfl rfl rfl rfl (Nat.le_of_ble_eq_true rfl) (Nat.le_trans (show _ ≤ 1024 from Nat.le_of_ble_eq_true rfl) hB) ⟨(show u.1 + 2 ≤ B.2.1 from by omega), (show u.2 + 12 ≤ B.2.2 from by omega)⟩ ?_
  refine el_istore (lv' := [some (.ref bs), some (.ref xa), some (.ref ma), some (.ref oa), some (.int x4), some (.int k9), some (.int w9)]) dc_L_law__1185 rfl (by decide) rfl ?_
  refine el_aload_n dc_L_law__1187 rfl ?_
  refine el_call2 (av := []) (st := []) (st1 := [.int k9]) dc_L_law__1188 (tX12_thrown hW2 hm e3) mw_1482 cy_X12_thrown hm (by decide) rfl rfl rfl rfl (Nat.le_of_ble_eq_true rfl) (Nat.le_trans (show _ ≤ 1024 from Nat.le_of_ble_eq_true rfl) hB) ⟨(show u.1 + 2 ≤ B.2.1 from by omega), (show u.2 + 12 ≤ B.2.2 from by omega)⟩ ?_
  refine el_iload dc_L_law__1191 rfl ?_
  refine el_icmp_eq (tgt := 1198) dc_L_law__1193 (by decide) (fun _ => ?_) (fun h => absurd rfl h)
  refine el_iload dc_L_law__1198 rfl ?_
  refine el_if_ne (tgt := 1215) dc_L_law__1200 (by decide) (fun hk => ?_) (fun hk => ?_)
  · refine el_goto (tgt := 2718) dc_L_law__1215 (by decide) ?_
    exact el_wid ⟨(show u.1 + 2 ≤ u.1 + 3 from by omega), (show u.2 + 12 ≤ u.2 + 18 from by omega)⟩ (el_sub (K τ1 τ2 hI9) (And.intro rfl (And.intro rfl (And.intro rfl (And.intro rfl (And.intro rfl trivial))))))
  have hk : k9 = 0 := Classical.not_not.mp hk
  refine el_aload_n dc_L_law__1203 rfl ?_
  refine el_iconst (v := 0) dc_L_law__1204 (by decide) ?_
  refine el_lald dc_L_law__1205 ho ho1 ?_
  refine el_iload dc_L_law__1206 rfl ?_
  refine el_i2l dc_L_law__1208 ?_
  refine el_lcmp dc_L_law__1209 ?_
  refine el_if_eq (tgt := 1215) dc_L_law__1210 (by decide) (fun _ => ?_) (fun h => absurd (by rw [e4 hk]; exact lcz) h)
  refine el_goto (tgt := 2718) dc_L_law__1215 (by decide) ?_
  exact el_wid ⟨(show u.1 + 2 ≤ u.1 + 3 from by omega), (show u.2 + 12 ≤ u.2 + 18 from by omega)⟩ (el_sub (K τ1 τ2 hI9) (And.intro rfl (And.intro rfl (And.intro rfl (And.intro rfl (And.intro rfl trivial))))))
def Gd_nights (N : Nat) (G1 G2 : pG) (xa ma oa : Nat) (Inv : pS → pS → Prop) : Prop := ∀ (σ1 σ2 : pS), Inv σ1 σ2 → ∀ (c1 : Int32), ∃ (k w : Int32) (τ1 τ2 : pS), fL_nights N G1 xa c1 oa σ1 = some (k, τ1) ∧ fX12_nights N G2 ma c1 σ2 = some (w, τ2) ∧ fX12_thrown N G2 ma τ2 = some k ∧ (k = 0 → gJ τ1 oa 0 = w.toInt64) ∧ Inv τ1 τ2
set_option maxRecDepth 100000 in
set_option maxHeartbeats 4000000 in
theorem lc_16 {B : Nat × Nat × Nat} {bs L : Nat} {xs : Nat → Int32} {G1 G2 : pG} {SK : Nat → Nat} {u : Nat × Nat} {σ1 σ2 : pS} {N xa ma oa : Nat} {Inv : pS → pS → Prop} {x4 : Int32} (hW1 : WT G1) (hW2 : WT G2) (hx : Is G1 xa 10) (hm : Is G2 ma 11) (ho : Is G1 oa 14) (ho1 : inB 0 (pN G1 oa) = true) (hg : Gd_nights N G1 G2 xa ma oa Inv) (hI : Inv σ1 σ2) (hb1 : vp_in (x4 + (1 : Int32)) L) (hb2 : vp_in (x4 + (2 : Int32)) L) (hb3 : vp_in (x4 + (3 : Int32)) L) (hb4 : vp_in (x4 + (4 : Int32)) L) (hb5 : vp_in (x4 + (5 : Int32)) L) (hB : 1024 ≤ B.1) (hu : u.1 + 3 ≤ B.2.1 ∧ u.2 + 18 ≤ B.2.2) (K : ∀ τ1 τ2 : pS, Inv τ1 τ2 → EvL B bs L xs G1 G2 SK (u.1 + 3, u.2 + 18) 2718 [some (.ref bs), some (.ref xa), some (.ref ma), some (.ref oa), some (.int x4), none, none] [] τ1 τ2) : EvL B bs L xs G1 G2 SK u 1218 [some (.ref bs), some (.ref xa), some (.ref ma), some (.ref oa), some (.int x4), none, none] [] σ1 σ2 := by
  refine el_aload_n dc_L_law__1218 rfl ?_
  refine el_aload_n dc_L_law__1219 rfl ?_
  refine el_iload dc_L_law__1220 rfl ?_
  refine el_iconst (v := 1) dc_L_law__1222 (by decide) ?_
  refine el_iadd dc_L_law__1223 ?_
  refine el_sld dc_L_law__1224 hb1 ?_
  refine el_aload_n dc_L_law__1225 rfl ?_
  obtain ⟨k9, w9, τ1, τ2, e1, e2, e3, e4, hI9⟩ := hg _ _ hI (xs (x4 + (1 : Int32)).toNatClampNeg)
  refine el_wrap (av := [.ref xa, .int (xs (x4 + (1 : Int32)).toNatClampNeg), .ref oa]) (st := []) dc_L_law__1226 (tL_nights hW1 hx ho e1) mw_1221 cwL_nights rfl rfl (Nat.le_of_ble_eq_true rfl) (Nat.le_trans (show _ ≤ 1024 from Nat.le_of_ble_eq_true rfl) hB) ⟨(show u.1 + 1 ≤ B.2.1 from by omega), (show u.2 + 6 ≤ B.2.2 from by omega)⟩ ?_
  refine el_istore (lv' := [some (.ref bs), some (.ref xa), some (.ref ma), some (.ref oa), some (.int x4), some (.int k9), none]) dc_L_law__1229 rfl (by decide) rfl ?_
  refine el_aload_n dc_L_law__1231 rfl ?_
  refine el_aload_n dc_L_law__1232 rfl ?_
  refine el_iload dc_L_law__1233 rfl ?_
  refine el_iconst (v := 1) dc_L_law__1235 (by decide) ?_
  refine el_iadd dc_L_law__1236 ?_
  refine el_sld dc_L_law__1237 hb1 ?_
  refine el_call2 (av := [.int (xs (x4 + (1 : Int32)).toNatClampNeg)]) (st := []) (st1 := [.int w9]) dc_L_law__1238 (tX12_nights hW2 hm e2) mw_1957 cy_X12_nights hm (by decide) rfl rfl rfl rfl (Nat.le_of_ble_eq_true rfl) (Nat.le_trans (show _ ≤ 1024 from Nat.le_of_ble_eq_true rfl) hB) ⟨(show u.1 + 1 ≤ B.2.1 from by omega), (show u.2 + 6 ≤ B.2.2 from by omega)⟩ ?_
  refine el_istore (lv' := [some (.ref bs), some (.ref xa), some (.ref ma), some (.ref oa), some (.int x4), some (.int k9), some (.int w9)]) dc_L_law__1241 rfl (by decide) rfl ?_
  refine el_aload_n dc_L_law__1243 rfl ?_
  refine el_call2 (av := []) (st := []) (st1 := [.int k9]) dc_L_law__1244 (tX12_thrown hW2 hm e3) mw_1482 cy_X12_thrown hm (by decide) rfl rfl rfl rfl (Nat.le_of_ble_eq_true rfl) (Nat.le_trans (show _ ≤ 1024 from Nat.le_of_ble_eq_true rfl) hB) ⟨(show u.1 + 1 ≤ B.2.1 from by omega), (show u.2 + 6 ≤ B.2.2 from by omega)⟩ ?_
  refine el_iload dc_L_law__1247 rfl ?_
  refine el_icmp_eq (tgt := 1254) dc_L_law__1249 (by decide) (fun _ => ?_) (fun h => absurd rfl h)
  refine el_iload dc_L_law__1254 rfl ?_
  refine el_if_ne (tgt := 1271) dc_L_law__1256 (by decide) (fun hk => ?_) (fun hk => ?_)
  · refine el_goto (tgt := 2718) dc_L_law__1271 (by decide) ?_
    exact el_wid ⟨(show u.1 + 1 ≤ u.1 + 3 from by omega), (show u.2 + 6 ≤ u.2 + 18 from by omega)⟩ (el_sub (K τ1 τ2 hI9) (And.intro rfl (And.intro rfl (And.intro rfl (And.intro rfl (And.intro rfl trivial))))))
  have hk : k9 = 0 := Classical.not_not.mp hk
  refine el_aload_n dc_L_law__1259 rfl ?_
  refine el_iconst (v := 0) dc_L_law__1260 (by decide) ?_
  refine el_lald dc_L_law__1261 ho ho1 ?_
  refine el_iload dc_L_law__1262 rfl ?_
  refine el_i2l dc_L_law__1264 ?_
  refine el_lcmp dc_L_law__1265 ?_
  refine el_if_eq (tgt := 1271) dc_L_law__1266 (by decide) (fun _ => ?_) (fun h => absurd (by rw [e4 hk]; exact lcz) h)
  refine el_goto (tgt := 2718) dc_L_law__1271 (by decide) ?_
  exact el_wid ⟨(show u.1 + 1 ≤ u.1 + 3 from by omega), (show u.2 + 6 ≤ u.2 + 18 from by omega)⟩ (el_sub (K τ1 τ2 hI9) (And.intro rfl (And.intro rfl (And.intro rfl (And.intro rfl (And.intro rfl trivial))))))
def Gd_would (N : Nat) (G1 G2 : pG) (xa ma oa : Nat) (Inv : pS → pS → Prop) : Prop := ∀ (σ1 σ2 : pS), Inv σ1 σ2 → ∀ (c1 : Int32) (c2 : Int32) (c3 : Int32), (isZ c3 = true) → ∃ (k w : Int32) (τ1 τ2 : pS), fL_would N G1 xa c1 c2 c3 oa σ1 = some (k, τ1) ∧ fX12_would N G2 ma c1 c2 c3 σ2 = some (w, τ2) ∧ fX12_thrown N G2 ma τ2 = some k ∧ (k = 0 → gJ τ1 oa 0 = w.toInt64) ∧ Inv τ1 τ2
set_option maxRecDepth 100000 in
set_option maxHeartbeats 4000000 in
theorem lc_17 {B : Nat × Nat × Nat} {bs L : Nat} {xs : Nat → Int32} {G1 G2 : pG} {SK : Nat → Nat} {u : Nat × Nat} {σ1 σ2 : pS} {N xa ma oa : Nat} {Inv : pS → pS → Prop} {x4 : Int32} (hW1 : WT G1) (hW2 : WT G2) (hx : Is G1 xa 10) (hm : Is G2 ma 11) (ho : Is G1 oa 14) (ho1 : inB 0 (pN G1 oa) = true) (hg : Gd_would N G1 G2 xa ma oa Inv) (hI : Inv σ1 σ2) (hb1 : vp_in (x4 + (1 : Int32)) L) (hb2 : vp_in (x4 + (2 : Int32)) L) (hb3 : vp_in (x4 + (3 : Int32)) L) (hb4 : vp_in (x4 + (4 : Int32)) L) (hb5 : vp_in (x4 + (5 : Int32)) L) (hB : 1024 ≤ B.1) (hu : u.1 + 3 ≤ B.2.1 ∧ u.2 + 18 ≤ B.2.2) (K : ∀ τ1 τ2 : pS, Inv τ1 τ2 → EvL B bs L xs G1 G2 SK (u.1 + 3, u.2 + 18) 2718 [some (.ref bs), some (.ref xa), some (.ref ma), some (.ref oa), some (.int x4), none, none] [] τ1 τ2) : EvL B bs L xs G1 G2 SK u 1274 [some (.ref bs), some (.ref xa), some (.ref ma), some (.ref oa), some (.int x4), none, none] [] σ1 σ2 := by
  refine el_aload_n dc_L_law__1274 rfl ?_
  refine el_aload_n dc_L_law__1275 rfl ?_
  refine el_iload dc_L_law__1276 rfl ?_
  refine el_iconst (v := 1) dc_L_law__1278 (by decide) ?_
  refine el_iadd dc_L_law__1279 ?_
  refine el_sld dc_L_law__1280 hb1 ?_
  refine el_aload_n dc_L_law__1281 rfl ?_
  refine el_iload dc_L_law__1282 rfl ?_
  refine el_iconst (v := 2) dc_L_law__1284 (by decide) ?_
  refine el_iadd dc_L_law__1285 ?_
  refine el_sld dc_L_law__1286 hb2 ?_
  refine el_aload_n dc_L_law__1287 rfl ?_
  refine el_iload dc_L_law__1288 rfl ?_
  refine el_iconst (v := 3) dc_L_law__1290 (by decide) ?_
  refine el_iadd dc_L_law__1291 ?_
  refine el_sld dc_L_law__1292 hb3 ?_
  refine el_if_eq (tgt := 1300) dc_L_law__1293 (by decide) (fun hz1 => ?_) (fun hz1 => ?_)
  · refine el_iconst (v := 0) dc_L_law__1300 (by decide) ?_
    refine el_aload_n dc_L_law__1301 rfl ?_
    obtain ⟨k9, w9, τ1, τ2, e1, e2, e3, e4, hI9⟩ := hg _ _ hI (xs (x4 + (1 : Int32)).toNatClampNeg) (xs (x4 + (2 : Int32)).toNatClampNeg) (0 : Int32) (by decide)
    refine el_wrap (av := [.ref xa, .int (xs (x4 + (1 : Int32)).toNatClampNeg), .int (xs (x4 + (2 : Int32)).toNatClampNeg), .int (0 : Int32), .ref oa]) (st := []) dc_L_law__1302 (tL_would hW1 hx ho e1) mw_1248 cwL_would rfl rfl (Nat.le_of_ble_eq_true rfl) (Nat.le_trans (show _ ≤ 1024 from Nat.le_of_ble_eq_true rfl) hB) ⟨(show u.1 + 2 ≤ B.2.1 from by omega), (show u.2 + 12 ≤ B.2.2 from by omega)⟩ ?_
    refine el_istore (lv' := [some (.ref bs), some (.ref xa), some (.ref ma), some (.ref oa), some (.int x4), some (.int k9), none]) dc_L_law__1305 rfl (by decide) rfl ?_
    refine el_aload_n dc_L_law__1307 rfl ?_
    refine el_aload_n dc_L_law__1308 rfl ?_
    refine el_iload dc_L_law__1309 rfl ?_
    refine el_iconst (v := 1) dc_L_law__1311 (by decide) ?_
    refine el_iadd dc_L_law__1312 ?_
    refine el_sld dc_L_law__1313 hb1 ?_
    refine el_aload_n dc_L_law__1314 rfl ?_
    refine el_iload dc_L_law__1315 rfl ?_
    refine el_iconst (v := 2) dc_L_law__1317 (by decide) ?_
    refine el_iadd dc_L_law__1318 ?_
    refine el_sld dc_L_law__1319 hb2 ?_
    refine el_aload_n dc_L_law__1320 rfl ?_
    refine el_iload dc_L_law__1321 rfl ?_
    refine el_iconst (v := 3) dc_L_law__1323 (by decide) ?_
    refine el_iadd dc_L_law__1324 ?_
    refine el_sld dc_L_law__1325 hb3 ?_
    refine el_if_eq (tgt := 1333) dc_L_law__1326 (by decide) (fun _ => ?_) (fun h => absurd hz1 h)
    refine el_iconst (v := 0) dc_L_law__1333 (by decide) ?_
    refine el_call2 (av := [.int (xs (x4 + (1 : Int32)).toNatClampNeg), .int (xs (x4 + (2 : Int32)).toNatClampNeg), .int (0 : Int32)]) (st := []) (st1 := [.int w9]) dc_L_law__1334 (tX12_would hW2 hm e2) mw_1845 cy_X12_would hm (by decide) rfl rfl rfl rfl (Nat.le_of_ble_eq_true rfl) (Nat.le_trans (show _ ≤ 1024 from Nat.le_of_ble_eq_true rfl) hB) ⟨(show u.1 + 2 ≤ B.2.1 from by omega), (show u.2 + 12 ≤ B.2.2 from by omega)⟩ ?_
    refine el_istore (lv' := [some (.ref bs), some (.ref xa), some (.ref ma), some (.ref oa), some (.int x4), some (.int k9), some (.int w9)]) dc_L_law__1337 rfl (by decide) rfl ?_
    refine el_aload_n dc_L_law__1339 rfl ?_
    refine el_call2 (av := []) (st := []) (st1 := [.int k9]) dc_L_law__1340 (tX12_thrown hW2 hm e3) mw_1482 cy_X12_thrown hm (by decide) rfl rfl rfl rfl (Nat.le_of_ble_eq_true rfl) (Nat.le_trans (show _ ≤ 1024 from Nat.le_of_ble_eq_true rfl) hB) ⟨(show u.1 + 2 ≤ B.2.1 from by omega), (show u.2 + 12 ≤ B.2.2 from by omega)⟩ ?_
    refine el_iload dc_L_law__1343 rfl ?_
    refine el_icmp_eq (tgt := 1350) dc_L_law__1345 (by decide) (fun _ => ?_) (fun h => absurd rfl h)
    refine el_iload dc_L_law__1350 rfl ?_
    refine el_if_ne (tgt := 1367) dc_L_law__1352 (by decide) (fun hk => ?_) (fun hk => ?_)
    · refine el_goto (tgt := 2718) dc_L_law__1367 (by decide) ?_
      exact el_wid ⟨(show u.1 + 2 ≤ u.1 + 3 from by omega), (show u.2 + 12 ≤ u.2 + 18 from by omega)⟩ (el_sub (K τ1 τ2 hI9) (And.intro rfl (And.intro rfl (And.intro rfl (And.intro rfl (And.intro rfl trivial))))))
    have hk : k9 = 0 := Classical.not_not.mp hk
    refine el_aload_n dc_L_law__1355 rfl ?_
    refine el_iconst (v := 0) dc_L_law__1356 (by decide) ?_
    refine el_lald dc_L_law__1357 ho ho1 ?_
    refine el_iload dc_L_law__1358 rfl ?_
    refine el_i2l dc_L_law__1360 ?_
    refine el_lcmp dc_L_law__1361 ?_
    refine el_if_eq (tgt := 1367) dc_L_law__1362 (by decide) (fun _ => ?_) (fun h => absurd (by rw [e4 hk]; exact lcz) h)
    refine el_goto (tgt := 2718) dc_L_law__1367 (by decide) ?_
    exact el_wid ⟨(show u.1 + 2 ≤ u.1 + 3 from by omega), (show u.2 + 12 ≤ u.2 + 18 from by omega)⟩ (el_sub (K τ1 τ2 hI9) (And.intro rfl (And.intro rfl (And.intro rfl (And.intro rfl (And.intro rfl trivial))))))
  refine el_iconst (v := 1) dc_L_law__1296 (by decide) ?_
  refine el_goto (tgt := 1301) dc_L_law__1297 (by decide) ?_
  refine el_aload_n dc_L_law__1301 rfl ?_
  obtain ⟨k9, w9, τ1, τ2, e1, e2, e3, e4, hI9⟩ := hg _ _ hI (xs (x4 + (1 : Int32)).toNatClampNeg) (xs (x4 + (2 : Int32)).toNatClampNeg) (1 : Int32) (by decide)
  refine el_wrap (av := [.ref xa, .int (xs (x4 + (1 : Int32)).toNatClampNeg), .int (xs (x4 + (2 : Int32)).toNatClampNeg), .int (1 : Int32), .ref oa]) (st := []) dc_L_law__1302 (tL_would hW1 hx ho e1) mw_1248 cwL_would rfl rfl (Nat.le_of_ble_eq_true rfl) (Nat.le_trans (show _ ≤ 1024 from Nat.le_of_ble_eq_true rfl) hB) ⟨(show u.1 + 2 ≤ B.2.1 from by omega), (show u.2 + 12 ≤ B.2.2 from by omega)⟩ ?_
  refine el_istore (lv' := [some (.ref bs), some (.ref xa), some (.ref ma), some (.ref oa), some (.int x4), some (.int k9), none]) dc_L_law__1305 rfl (by decide) rfl ?_
  refine el_aload_n dc_L_law__1307 rfl ?_
  refine el_aload_n dc_L_law__1308 rfl ?_
  refine el_iload dc_L_law__1309 rfl ?_
  refine el_iconst (v := 1) dc_L_law__1311 (by decide) ?_
  refine el_iadd dc_L_law__1312 ?_
  refine el_sld dc_L_law__1313 hb1 ?_
  refine el_aload_n dc_L_law__1314 rfl ?_
  refine el_iload dc_L_law__1315 rfl ?_
  refine el_iconst (v := 2) dc_L_law__1317 (by decide) ?_
  refine el_iadd dc_L_law__1318 ?_
  refine el_sld dc_L_law__1319 hb2 ?_
  refine el_aload_n dc_L_law__1320 rfl ?_
  refine el_iload dc_L_law__1321 rfl ?_
  refine el_iconst (v := 3) dc_L_law__1323 (by decide) ?_
  refine el_iadd dc_L_law__1324 ?_
  refine el_sld dc_L_law__1325 hb3 ?_
  refine el_if_eq (tgt := 1333) dc_L_law__1326 (by decide) (fun h => absurd h hz1) (fun _ => ?_)
  refine el_iconst (v := 1) dc_L_law__1329 (by decide) ?_
  refine el_goto (tgt := 1334) dc_L_law__1330 (by decide) ?_
  refine el_call2 (av := [.int (xs (x4 + (1 : Int32)).toNatClampNeg), .int (xs (x4 + (2 : Int32)).toNatClampNeg), .int (1 : Int32)]) (st := []) (st1 := [.int w9]) dc_L_law__1334 (tX12_would hW2 hm e2) mw_1845 cy_X12_would hm (by decide) rfl rfl rfl rfl (Nat.le_of_ble_eq_true rfl) (Nat.le_trans (show _ ≤ 1024 from Nat.le_of_ble_eq_true rfl) hB) ⟨(show u.1 + 2 ≤ B.2.1 from by omega), (show u.2 + 12 ≤ B.2.2 from by omega)⟩ ?_
  refine el_istore (lv' := [some (.ref bs), some (.ref xa), some (.ref ma), some (.ref oa), some (.int x4), some (.int k9), some (.int w9)]) dc_L_law__1337 rfl (by decide) rfl ?_
  refine el_aload_n dc_L_law__1339 rfl ?_
  refine el_call2 (av := []) (st := []) (st1 := [.int k9]) dc_L_law__1340 (tX12_thrown hW2 hm e3) mw_1482 cy_X12_thrown hm (by decide) rfl rfl rfl rfl (Nat.le_of_ble_eq_true rfl) (Nat.le_trans (show _ ≤ 1024 from Nat.le_of_ble_eq_true rfl) hB) ⟨(show u.1 + 2 ≤ B.2.1 from by omega), (show u.2 + 12 ≤ B.2.2 from by omega)⟩ ?_
  refine el_iload dc_L_law__1343 rfl ?_
  refine el_icmp_eq (tgt := 1350) dc_L_law__1345 (by decide) (fun _ => ?_) (fun h => absurd rfl h)
  refine el_iload dc_L_law__1350 rfl ?_
  refine el_if_ne (tgt := 1367) dc_L_law__1352 (by decide) (fun hk => ?_) (fun hk => ?_)
  · refine el_goto (tgt := 2718) dc_L_law__1367 (by decide) ?_
    exact el_wid ⟨(show u.1 + 2 ≤ u.1 + 3 from by omega), (show u.2 + 12 ≤ u.2 + 18 from by omega)⟩ (el_sub (K τ1 τ2 hI9) (And.intro rfl (And.intro rfl (And.intro rfl (And.intro rfl (And.intro rfl trivial))))))
  have hk : k9 = 0 := Classical.not_not.mp hk
  refine el_aload_n dc_L_law__1355 rfl ?_
  refine el_iconst (v := 0) dc_L_law__1356 (by decide) ?_
  refine el_lald dc_L_law__1357 ho ho1 ?_
  refine el_iload dc_L_law__1358 rfl ?_
  refine el_i2l dc_L_law__1360 ?_
  refine el_lcmp dc_L_law__1361 ?_
  refine el_if_eq (tgt := 1367) dc_L_law__1362 (by decide) (fun _ => ?_) (fun h => absurd (by rw [e4 hk]; exact lcz) h)
  refine el_goto (tgt := 2718) dc_L_law__1367 (by decide) ?_
  exact el_wid ⟨(show u.1 + 2 ≤ u.1 + 3 from by omega), (show u.2 + 12 ≤ u.2 + 18 from by omega)⟩ (el_sub (K τ1 τ2 hI9) (And.intro rfl (And.intro rfl (And.intro rfl (And.intro rfl (And.intro rfl trivial))))))
def Gd_ahead (N : Nat) (G1 G2 : pG) (xa ma oa : Nat) (Inv : pS → pS → Prop) : Prop := ∀ (σ1 σ2 : pS), Inv σ1 σ2 → ∀ (c1 : Int32) (c2 : Int32), ∃ (k w : Int32) (τ1 τ2 : pS), fL_ahead N G1 xa c1 c2 oa σ1 = some (k, τ1) ∧ fX12_ahead N G2 ma c1 c2 σ2 = some (w, τ2) ∧ fX12_thrown N G2 ma τ2 = some k ∧ (k = 0 → gJ τ1 oa 0 = w.toInt64) ∧ Inv τ1 τ2
set_option maxRecDepth 100000 in
set_option maxHeartbeats 4000000 in
theorem lc_18 {B : Nat × Nat × Nat} {bs L : Nat} {xs : Nat → Int32} {G1 G2 : pG} {SK : Nat → Nat} {u : Nat × Nat} {σ1 σ2 : pS} {N xa ma oa : Nat} {Inv : pS → pS → Prop} {x4 : Int32} (hW1 : WT G1) (hW2 : WT G2) (hx : Is G1 xa 10) (hm : Is G2 ma 11) (ho : Is G1 oa 14) (ho1 : inB 0 (pN G1 oa) = true) (hg : Gd_ahead N G1 G2 xa ma oa Inv) (hI : Inv σ1 σ2) (hb1 : vp_in (x4 + (1 : Int32)) L) (hb2 : vp_in (x4 + (2 : Int32)) L) (hb3 : vp_in (x4 + (3 : Int32)) L) (hb4 : vp_in (x4 + (4 : Int32)) L) (hb5 : vp_in (x4 + (5 : Int32)) L) (hB : 1024 ≤ B.1) (hu : u.1 + 3 ≤ B.2.1 ∧ u.2 + 18 ≤ B.2.2) (K : ∀ τ1 τ2 : pS, Inv τ1 τ2 → EvL B bs L xs G1 G2 SK (u.1 + 3, u.2 + 18) 2718 [some (.ref bs), some (.ref xa), some (.ref ma), some (.ref oa), some (.int x4), none, none] [] τ1 τ2) : EvL B bs L xs G1 G2 SK u 1370 [some (.ref bs), some (.ref xa), some (.ref ma), some (.ref oa), some (.int x4), none, none] [] σ1 σ2 := by
  refine el_aload_n dc_L_law__1370 rfl ?_
  refine el_aload_n dc_L_law__1371 rfl ?_
  refine el_iload dc_L_law__1372 rfl ?_
  refine el_iconst (v := 1) dc_L_law__1374 (by decide) ?_
  refine el_iadd dc_L_law__1375 ?_
  refine el_sld dc_L_law__1376 hb1 ?_
  refine el_aload_n dc_L_law__1377 rfl ?_
  refine el_iload dc_L_law__1378 rfl ?_
  refine el_iconst (v := 2) dc_L_law__1380 (by decide) ?_
  refine el_iadd dc_L_law__1381 ?_
  refine el_sld dc_L_law__1382 hb2 ?_
  refine el_aload_n dc_L_law__1383 rfl ?_
  obtain ⟨k9, w9, τ1, τ2, e1, e2, e3, e4, hI9⟩ := hg _ _ hI (xs (x4 + (1 : Int32)).toNatClampNeg) (xs (x4 + (2 : Int32)).toNatClampNeg)
  refine el_wrap (av := [.ref xa, .int (xs (x4 + (1 : Int32)).toNatClampNeg), .int (xs (x4 + (2 : Int32)).toNatClampNeg), .ref oa]) (st := []) dc_L_law__1384 (tL_ahead hW1 hx ho e1) mw_1256 cwL_ahead rfl rfl (Nat.le_of_ble_eq_true rfl) (Nat.le_trans (show _ ≤ 1024 from Nat.le_of_ble_eq_true rfl) hB) ⟨(show u.1 + 2 ≤ B.2.1 from by omega), (show u.2 + 12 ≤ B.2.2 from by omega)⟩ ?_
  refine el_istore (lv' := [some (.ref bs), some (.ref xa), some (.ref ma), some (.ref oa), some (.int x4), some (.int k9), none]) dc_L_law__1387 rfl (by decide) rfl ?_
  refine el_aload_n dc_L_law__1389 rfl ?_
  refine el_aload_n dc_L_law__1390 rfl ?_
  refine el_iload dc_L_law__1391 rfl ?_
  refine el_iconst (v := 1) dc_L_law__1393 (by decide) ?_
  refine el_iadd dc_L_law__1394 ?_
  refine el_sld dc_L_law__1395 hb1 ?_
  refine el_aload_n dc_L_law__1396 rfl ?_
  refine el_iload dc_L_law__1397 rfl ?_
  refine el_iconst (v := 2) dc_L_law__1399 (by decide) ?_
  refine el_iadd dc_L_law__1400 ?_
  refine el_sld dc_L_law__1401 hb2 ?_
  refine el_call2 (av := [.int (xs (x4 + (1 : Int32)).toNatClampNeg), .int (xs (x4 + (2 : Int32)).toNatClampNeg)]) (st := []) (st1 := [.int w9]) dc_L_law__1402 (tX12_ahead hW2 hm e2) mw_1978 cy_X12_ahead hm (by decide) rfl rfl rfl rfl (Nat.le_of_ble_eq_true rfl) (Nat.le_trans (show _ ≤ 1024 from Nat.le_of_ble_eq_true rfl) hB) ⟨(show u.1 + 2 ≤ B.2.1 from by omega), (show u.2 + 12 ≤ B.2.2 from by omega)⟩ ?_
  refine el_istore (lv' := [some (.ref bs), some (.ref xa), some (.ref ma), some (.ref oa), some (.int x4), some (.int k9), some (.int w9)]) dc_L_law__1405 rfl (by decide) rfl ?_
  refine el_aload_n dc_L_law__1407 rfl ?_
  refine el_call2 (av := []) (st := []) (st1 := [.int k9]) dc_L_law__1408 (tX12_thrown hW2 hm e3) mw_1482 cy_X12_thrown hm (by decide) rfl rfl rfl rfl (Nat.le_of_ble_eq_true rfl) (Nat.le_trans (show _ ≤ 1024 from Nat.le_of_ble_eq_true rfl) hB) ⟨(show u.1 + 2 ≤ B.2.1 from by omega), (show u.2 + 12 ≤ B.2.2 from by omega)⟩ ?_
  refine el_iload dc_L_law__1411 rfl ?_
  refine el_icmp_eq (tgt := 1418) dc_L_law__1413 (by decide) (fun _ => ?_) (fun h => absurd rfl h)
  refine el_iload dc_L_law__1418 rfl ?_
  refine el_if_ne (tgt := 1435) dc_L_law__1420 (by decide) (fun hk => ?_) (fun hk => ?_)
  · refine el_goto (tgt := 2718) dc_L_law__1435 (by decide) ?_
    exact el_wid ⟨(show u.1 + 2 ≤ u.1 + 3 from by omega), (show u.2 + 12 ≤ u.2 + 18 from by omega)⟩ (el_sub (K τ1 τ2 hI9) (And.intro rfl (And.intro rfl (And.intro rfl (And.intro rfl (And.intro rfl trivial))))))
  have hk : k9 = 0 := Classical.not_not.mp hk
  refine el_aload_n dc_L_law__1423 rfl ?_
  refine el_iconst (v := 0) dc_L_law__1424 (by decide) ?_
  refine el_lald dc_L_law__1425 ho ho1 ?_
  refine el_iload dc_L_law__1426 rfl ?_
  refine el_i2l dc_L_law__1428 ?_
  refine el_lcmp dc_L_law__1429 ?_
  refine el_if_eq (tgt := 1435) dc_L_law__1430 (by decide) (fun _ => ?_) (fun h => absurd (by rw [e4 hk]; exact lcz) h)
  refine el_goto (tgt := 2718) dc_L_law__1435 (by decide) ?_
  exact el_wid ⟨(show u.1 + 2 ≤ u.1 + 3 from by omega), (show u.2 + 12 ≤ u.2 + 18 from by omega)⟩ (el_sub (K τ1 τ2 hI9) (And.intro rfl (And.intro rfl (And.intro rfl (And.intro rfl (And.intro rfl trivial))))))
def Gd_first (N : Nat) (G1 G2 : pG) (xa ma oa : Nat) (Inv : pS → pS → Prop) : Prop := ∀ (σ1 σ2 : pS), Inv σ1 σ2 → ∀ (c1 : Int32), ∃ (k w : Int32) (τ1 τ2 : pS), fL_first N G1 xa c1 oa σ1 = some (k, τ1) ∧ fX12_first N G2 ma c1 σ2 = some (w, τ2) ∧ fX12_thrown N G2 ma τ2 = some k ∧ (k = 0 → gJ τ1 oa 0 = w.toInt64) ∧ Inv τ1 τ2
set_option maxRecDepth 100000 in
set_option maxHeartbeats 4000000 in
theorem lc_19 {B : Nat × Nat × Nat} {bs L : Nat} {xs : Nat → Int32} {G1 G2 : pG} {SK : Nat → Nat} {u : Nat × Nat} {σ1 σ2 : pS} {N xa ma oa : Nat} {Inv : pS → pS → Prop} {x4 : Int32} (hW1 : WT G1) (hW2 : WT G2) (hx : Is G1 xa 10) (hm : Is G2 ma 11) (ho : Is G1 oa 14) (ho1 : inB 0 (pN G1 oa) = true) (hg : Gd_first N G1 G2 xa ma oa Inv) (hI : Inv σ1 σ2) (hb1 : vp_in (x4 + (1 : Int32)) L) (hb2 : vp_in (x4 + (2 : Int32)) L) (hb3 : vp_in (x4 + (3 : Int32)) L) (hb4 : vp_in (x4 + (4 : Int32)) L) (hb5 : vp_in (x4 + (5 : Int32)) L) (hB : 1024 ≤ B.1) (hu : u.1 + 3 ≤ B.2.1 ∧ u.2 + 18 ≤ B.2.2) (K : ∀ τ1 τ2 : pS, Inv τ1 τ2 → EvL B bs L xs G1 G2 SK (u.1 + 3, u.2 + 18) 2718 [some (.ref bs), some (.ref xa), some (.ref ma), some (.ref oa), some (.int x4), none, none] [] τ1 τ2) : EvL B bs L xs G1 G2 SK u 1438 [some (.ref bs), some (.ref xa), some (.ref ma), some (.ref oa), some (.int x4), none, none] [] σ1 σ2 := by
  refine el_aload_n dc_L_law__1438 rfl ?_
  refine el_aload_n dc_L_law__1439 rfl ?_
  refine el_iload dc_L_law__1440 rfl ?_
  refine el_iconst (v := 1) dc_L_law__1442 (by decide) ?_
  refine el_iadd dc_L_law__1443 ?_
  refine el_sld dc_L_law__1444 hb1 ?_
  refine el_aload_n dc_L_law__1445 rfl ?_
  obtain ⟨k9, w9, τ1, τ2, e1, e2, e3, e4, hI9⟩ := hg _ _ hI (xs (x4 + (1 : Int32)).toNatClampNeg)
  refine el_wrap (av := [.ref xa, .int (xs (x4 + (1 : Int32)).toNatClampNeg), .ref oa]) (st := []) dc_L_law__1446 (tL_first hW1 hx ho e1) mw_1271 cwL_first rfl rfl (Nat.le_of_ble_eq_true rfl) (Nat.le_trans (show _ ≤ 1024 from Nat.le_of_ble_eq_true rfl) hB) ⟨(show u.1 + 1 ≤ B.2.1 from by omega), (show u.2 + 6 ≤ B.2.2 from by omega)⟩ ?_
  refine el_istore (lv' := [some (.ref bs), some (.ref xa), some (.ref ma), some (.ref oa), some (.int x4), some (.int k9), none]) dc_L_law__1449 rfl (by decide) rfl ?_
  refine el_aload_n dc_L_law__1451 rfl ?_
  refine el_aload_n dc_L_law__1452 rfl ?_
  refine el_iload dc_L_law__1453 rfl ?_
  refine el_iconst (v := 1) dc_L_law__1455 (by decide) ?_
  refine el_iadd dc_L_law__1456 ?_
  refine el_sld dc_L_law__1457 hb1 ?_
  refine el_call2 (av := [.int (xs (x4 + (1 : Int32)).toNatClampNeg)]) (st := []) (st1 := [.int w9]) dc_L_law__1458 (tX12_first hW2 hm e2) mw_1998 cy_X12_first hm (by decide) rfl rfl rfl rfl (Nat.le_of_ble_eq_true rfl) (Nat.le_trans (show _ ≤ 1024 from Nat.le_of_ble_eq_true rfl) hB) ⟨(show u.1 + 1 ≤ B.2.1 from by omega), (show u.2 + 6 ≤ B.2.2 from by omega)⟩ ?_
  refine el_istore (lv' := [some (.ref bs), some (.ref xa), some (.ref ma), some (.ref oa), some (.int x4), some (.int k9), some (.int w9)]) dc_L_law__1461 rfl (by decide) rfl ?_
  refine el_aload_n dc_L_law__1463 rfl ?_
  refine el_call2 (av := []) (st := []) (st1 := [.int k9]) dc_L_law__1464 (tX12_thrown hW2 hm e3) mw_1482 cy_X12_thrown hm (by decide) rfl rfl rfl rfl (Nat.le_of_ble_eq_true rfl) (Nat.le_trans (show _ ≤ 1024 from Nat.le_of_ble_eq_true rfl) hB) ⟨(show u.1 + 1 ≤ B.2.1 from by omega), (show u.2 + 6 ≤ B.2.2 from by omega)⟩ ?_
  refine el_iload dc_L_law__1467 rfl ?_
  refine el_icmp_eq (tgt := 1474) dc_L_law__1469 (by decide) (fun _ => ?_) (fun h => absurd rfl h)
  refine el_iload dc_L_law__1474 rfl ?_
  refine el_if_ne (tgt := 1491) dc_L_law__1476 (by decide) (fun hk => ?_) (fun hk => ?_)
  · refine el_goto (tgt := 2718) dc_L_law__1491 (by decide) ?_
    exact el_wid ⟨(show u.1 + 1 ≤ u.1 + 3 from by omega), (show u.2 + 6 ≤ u.2 + 18 from by omega)⟩ (el_sub (K τ1 τ2 hI9) (And.intro rfl (And.intro rfl (And.intro rfl (And.intro rfl (And.intro rfl trivial))))))
  have hk : k9 = 0 := Classical.not_not.mp hk
  refine el_aload_n dc_L_law__1479 rfl ?_
  refine el_iconst (v := 0) dc_L_law__1480 (by decide) ?_
  refine el_lald dc_L_law__1481 ho ho1 ?_
  refine el_iload dc_L_law__1482 rfl ?_
  refine el_i2l dc_L_law__1484 ?_
  refine el_lcmp dc_L_law__1485 ?_
  refine el_if_eq (tgt := 1491) dc_L_law__1486 (by decide) (fun _ => ?_) (fun h => absurd (by rw [e4 hk]; exact lcz) h)
  refine el_goto (tgt := 2718) dc_L_law__1491 (by decide) ?_
  exact el_wid ⟨(show u.1 + 1 ≤ u.1 + 3 from by omega), (show u.2 + 6 ≤ u.2 + 18 from by omega)⟩ (el_sub (K τ1 τ2 hI9) (And.intro rfl (And.intro rfl (And.intro rfl (And.intro rfl (And.intro rfl trivial))))))
def Gd_siege (N : Nat) (G1 G2 : pG) (xa ma oa : Nat) (Inv : pS → pS → Prop) : Prop := ∀ (σ1 σ2 : pS), Inv σ1 σ2 → ∀ (c1 : Int32), ∃ (k w : Int32) (τ1 τ2 : pS), fL_siege N G1 xa c1 oa σ1 = some (k, τ1) ∧ fX12_siege N G2 ma c1 σ2 = some (w, τ2) ∧ fX12_thrown N G2 ma τ2 = some k ∧ (k = 0 → gJ τ1 oa 0 = w.toInt64) ∧ Inv τ1 τ2
set_option maxRecDepth 100000 in
set_option maxHeartbeats 4000000 in
theorem lc_20 {B : Nat × Nat × Nat} {bs L : Nat} {xs : Nat → Int32} {G1 G2 : pG} {SK : Nat → Nat} {u : Nat × Nat} {σ1 σ2 : pS} {N xa ma oa : Nat} {Inv : pS → pS → Prop} {x4 : Int32} (hW1 : WT G1) (hW2 : WT G2) (hx : Is G1 xa 10) (hm : Is G2 ma 11) (ho : Is G1 oa 14) (ho1 : inB 0 (pN G1 oa) = true) (hg : Gd_siege N G1 G2 xa ma oa Inv) (hI : Inv σ1 σ2) (hb1 : vp_in (x4 + (1 : Int32)) L) (hb2 : vp_in (x4 + (2 : Int32)) L) (hb3 : vp_in (x4 + (3 : Int32)) L) (hb4 : vp_in (x4 + (4 : Int32)) L) (hb5 : vp_in (x4 + (5 : Int32)) L) (hB : 1024 ≤ B.1) (hu : u.1 + 3 ≤ B.2.1 ∧ u.2 + 18 ≤ B.2.2) (K : ∀ τ1 τ2 : pS, Inv τ1 τ2 → EvL B bs L xs G1 G2 SK (u.1 + 3, u.2 + 18) 2718 [some (.ref bs), some (.ref xa), some (.ref ma), some (.ref oa), some (.int x4), none, none] [] τ1 τ2) : EvL B bs L xs G1 G2 SK u 1494 [some (.ref bs), some (.ref xa), some (.ref ma), some (.ref oa), some (.int x4), none, none] [] σ1 σ2 := by
  refine el_aload_n dc_L_law__1494 rfl ?_
  refine el_aload_n dc_L_law__1495 rfl ?_
  refine el_iload dc_L_law__1496 rfl ?_
  refine el_iconst (v := 1) dc_L_law__1498 (by decide) ?_
  refine el_iadd dc_L_law__1499 ?_
  refine el_sld dc_L_law__1500 hb1 ?_
  refine el_aload_n dc_L_law__1501 rfl ?_
  obtain ⟨k9, w9, τ1, τ2, e1, e2, e3, e4, hI9⟩ := hg _ _ hI (xs (x4 + (1 : Int32)).toNatClampNeg)
  refine el_wrap (av := [.ref xa, .int (xs (x4 + (1 : Int32)).toNatClampNeg), .ref oa]) (st := []) dc_L_law__1502 (tL_siege hW1 hx ho e1) mw_1278 cwL_siege rfl rfl (Nat.le_of_ble_eq_true rfl) (Nat.le_trans (show _ ≤ 1024 from Nat.le_of_ble_eq_true rfl) hB) ⟨(show u.1 + 1 ≤ B.2.1 from by omega), (show u.2 + 6 ≤ B.2.2 from by omega)⟩ ?_
  refine el_istore (lv' := [some (.ref bs), some (.ref xa), some (.ref ma), some (.ref oa), some (.int x4), some (.int k9), none]) dc_L_law__1505 rfl (by decide) rfl ?_
  refine el_aload_n dc_L_law__1507 rfl ?_
  refine el_aload_n dc_L_law__1508 rfl ?_
  refine el_iload dc_L_law__1509 rfl ?_
  refine el_iconst (v := 1) dc_L_law__1511 (by decide) ?_
  refine el_iadd dc_L_law__1512 ?_
  refine el_sld dc_L_law__1513 hb1 ?_
  refine el_call2 (av := [.int (xs (x4 + (1 : Int32)).toNatClampNeg)]) (st := []) (st1 := [.int w9]) dc_L_law__1514 (tX12_siege hW2 hm e2) mw_2014 cy_X12_siege hm (by decide) rfl rfl rfl rfl (Nat.le_of_ble_eq_true rfl) (Nat.le_trans (show _ ≤ 1024 from Nat.le_of_ble_eq_true rfl) hB) ⟨(show u.1 + 1 ≤ B.2.1 from by omega), (show u.2 + 6 ≤ B.2.2 from by omega)⟩ ?_
  refine el_istore (lv' := [some (.ref bs), some (.ref xa), some (.ref ma), some (.ref oa), some (.int x4), some (.int k9), some (.int w9)]) dc_L_law__1517 rfl (by decide) rfl ?_
  refine el_aload_n dc_L_law__1519 rfl ?_
  refine el_call2 (av := []) (st := []) (st1 := [.int k9]) dc_L_law__1520 (tX12_thrown hW2 hm e3) mw_1482 cy_X12_thrown hm (by decide) rfl rfl rfl rfl (Nat.le_of_ble_eq_true rfl) (Nat.le_trans (show _ ≤ 1024 from Nat.le_of_ble_eq_true rfl) hB) ⟨(show u.1 + 1 ≤ B.2.1 from by omega), (show u.2 + 6 ≤ B.2.2 from by omega)⟩ ?_
  refine el_iload dc_L_law__1523 rfl ?_
  refine el_icmp_eq (tgt := 1530) dc_L_law__1525 (by decide) (fun _ => ?_) (fun h => absurd rfl h)
  refine el_iload dc_L_law__1530 rfl ?_
  refine el_if_ne (tgt := 1547) dc_L_law__1532 (by decide) (fun hk => ?_) (fun hk => ?_)
  · refine el_goto (tgt := 2718) dc_L_law__1547 (by decide) ?_
    exact el_wid ⟨(show u.1 + 1 ≤ u.1 + 3 from by omega), (show u.2 + 6 ≤ u.2 + 18 from by omega)⟩ (el_sub (K τ1 τ2 hI9) (And.intro rfl (And.intro rfl (And.intro rfl (And.intro rfl (And.intro rfl trivial))))))
  have hk : k9 = 0 := Classical.not_not.mp hk
  refine el_aload_n dc_L_law__1535 rfl ?_
  refine el_iconst (v := 0) dc_L_law__1536 (by decide) ?_
  refine el_lald dc_L_law__1537 ho ho1 ?_
  refine el_iload dc_L_law__1538 rfl ?_
  refine el_i2l dc_L_law__1540 ?_
  refine el_lcmp dc_L_law__1541 ?_
  refine el_if_eq (tgt := 1547) dc_L_law__1542 (by decide) (fun _ => ?_) (fun h => absurd (by rw [e4 hk]; exact lcz) h)
  refine el_goto (tgt := 2718) dc_L_law__1547 (by decide) ?_
  exact el_wid ⟨(show u.1 + 1 ≤ u.1 + 3 from by omega), (show u.2 + 6 ≤ u.2 + 18 from by omega)⟩ (el_sub (K τ1 τ2 hI9) (And.intro rfl (And.intro rfl (And.intro rfl (And.intro rfl (And.intro rfl trivial))))))
def Gd_plan (N : Nat) (G1 G2 : pG) (xa ma oa : Nat) (Inv : pS → pS → Prop) : Prop := ∀ (σ1 σ2 : pS), Inv σ1 σ2 → ∀ (c1 : Int32), ∃ (k w : Int32) (τ1 τ2 : pS), fL_plan N G1 xa c1 oa σ1 = some (k, τ1) ∧ fX12_plan N G2 ma c1 σ2 = some (w, τ2) ∧ fX12_thrown N G2 ma τ2 = some k ∧ (k = 0 → gJ τ1 oa 0 = w.toInt64) ∧ Inv τ1 τ2
set_option maxRecDepth 100000 in
set_option maxHeartbeats 4000000 in
theorem lc_21 {B : Nat × Nat × Nat} {bs L : Nat} {xs : Nat → Int32} {G1 G2 : pG} {SK : Nat → Nat} {u : Nat × Nat} {σ1 σ2 : pS} {N xa ma oa : Nat} {Inv : pS → pS → Prop} {x4 : Int32} (hW1 : WT G1) (hW2 : WT G2) (hx : Is G1 xa 10) (hm : Is G2 ma 11) (ho : Is G1 oa 14) (ho1 : inB 0 (pN G1 oa) = true) (hg : Gd_plan N G1 G2 xa ma oa Inv) (hI : Inv σ1 σ2) (hb1 : vp_in (x4 + (1 : Int32)) L) (hb2 : vp_in (x4 + (2 : Int32)) L) (hb3 : vp_in (x4 + (3 : Int32)) L) (hb4 : vp_in (x4 + (4 : Int32)) L) (hb5 : vp_in (x4 + (5 : Int32)) L) (hB : 1024 ≤ B.1) (hu : u.1 + 3 ≤ B.2.1 ∧ u.2 + 18 ≤ B.2.2) (K : ∀ τ1 τ2 : pS, Inv τ1 τ2 → EvL B bs L xs G1 G2 SK (u.1 + 3, u.2 + 18) 2718 [some (.ref bs), some (.ref xa), some (.ref ma), some (.ref oa), some (.int x4), none, none] [] τ1 τ2) : EvL B bs L xs G1 G2 SK u 1550 [some (.ref bs), some (.ref xa), some (.ref ma), some (.ref oa), some (.int x4), none, none] [] σ1 σ2 := by
  refine el_aload_n dc_L_law__1550 rfl ?_
  refine el_aload_n dc_L_law__1551 rfl ?_
  refine el_iload dc_L_law__1552 rfl ?_
  refine el_iconst (v := 1) dc_L_law__1554 (by decide) ?_
  refine el_iadd dc_L_law__1555 ?_
  refine el_sld dc_L_law__1556 hb1 ?_
  refine el_aload_n dc_L_law__1557 rfl ?_
  obtain ⟨k9, w9, τ1, τ2, e1, e2, e3, e4, hI9⟩ := hg _ _ hI (xs (x4 + (1 : Int32)).toNatClampNeg)
  refine el_wrap (av := [.ref xa, .int (xs (x4 + (1 : Int32)).toNatClampNeg), .ref oa]) (st := []) dc_L_law__1558 (tL_plan hW1 hx ho e1) mw_1322 cwL_plan rfl rfl (Nat.le_of_ble_eq_true rfl) (Nat.le_trans (show _ ≤ 1024 from Nat.le_of_ble_eq_true rfl) hB) ⟨(show u.1 + 1 ≤ B.2.1 from by omega), (show u.2 + 6 ≤ B.2.2 from by omega)⟩ ?_
  refine el_istore (lv' := [some (.ref bs), some (.ref xa), some (.ref ma), some (.ref oa), some (.int x4), some (.int k9), none]) dc_L_law__1561 rfl (by decide) rfl ?_
  refine el_aload_n dc_L_law__1563 rfl ?_
  refine el_aload_n dc_L_law__1564 rfl ?_
  refine el_iload dc_L_law__1565 rfl ?_
  refine el_iconst (v := 1) dc_L_law__1567 (by decide) ?_
  refine el_iadd dc_L_law__1568 ?_
  refine el_sld dc_L_law__1569 hb1 ?_
  refine el_call2 (av := [.int (xs (x4 + (1 : Int32)).toNatClampNeg)]) (st := []) (st1 := [.int w9]) dc_L_law__1570 (tX12_plan hW2 hm e2) mw_2050 cy_X12_plan hm (by decide) rfl rfl rfl rfl (Nat.le_of_ble_eq_true rfl) (Nat.le_trans (show _ ≤ 1024 from Nat.le_of_ble_eq_true rfl) hB) ⟨(show u.1 + 1 ≤ B.2.1 from by omega), (show u.2 + 6 ≤ B.2.2 from by omega)⟩ ?_
  refine el_istore (lv' := [some (.ref bs), some (.ref xa), some (.ref ma), some (.ref oa), some (.int x4), some (.int k9), some (.int w9)]) dc_L_law__1573 rfl (by decide) rfl ?_
  refine el_aload_n dc_L_law__1575 rfl ?_
  refine el_call2 (av := []) (st := []) (st1 := [.int k9]) dc_L_law__1576 (tX12_thrown hW2 hm e3) mw_1482 cy_X12_thrown hm (by decide) rfl rfl rfl rfl (Nat.le_of_ble_eq_true rfl) (Nat.le_trans (show _ ≤ 1024 from Nat.le_of_ble_eq_true rfl) hB) ⟨(show u.1 + 1 ≤ B.2.1 from by omega), (show u.2 + 6 ≤ B.2.2 from by omega)⟩ ?_
  refine el_iload dc_L_law__1579 rfl ?_
  refine el_icmp_eq (tgt := 1586) dc_L_law__1581 (by decide) (fun _ => ?_) (fun h => absurd rfl h)
  refine el_iload dc_L_law__1586 rfl ?_
  refine el_if_ne (tgt := 1603) dc_L_law__1588 (by decide) (fun hk => ?_) (fun hk => ?_)
  · refine el_goto (tgt := 2718) dc_L_law__1603 (by decide) ?_
    exact el_wid ⟨(show u.1 + 1 ≤ u.1 + 3 from by omega), (show u.2 + 6 ≤ u.2 + 18 from by omega)⟩ (el_sub (K τ1 τ2 hI9) (And.intro rfl (And.intro rfl (And.intro rfl (And.intro rfl (And.intro rfl trivial))))))
  have hk : k9 = 0 := Classical.not_not.mp hk
  refine el_aload_n dc_L_law__1591 rfl ?_
  refine el_iconst (v := 0) dc_L_law__1592 (by decide) ?_
  refine el_lald dc_L_law__1593 ho ho1 ?_
  refine el_iload dc_L_law__1594 rfl ?_
  refine el_i2l dc_L_law__1596 ?_
  refine el_lcmp dc_L_law__1597 ?_
  refine el_if_eq (tgt := 1603) dc_L_law__1598 (by decide) (fun _ => ?_) (fun h => absurd (by rw [e4 hk]; exact lcz) h)
  refine el_goto (tgt := 2718) dc_L_law__1603 (by decide) ?_
  exact el_wid ⟨(show u.1 + 1 ≤ u.1 + 3 from by omega), (show u.2 + 6 ≤ u.2 + 18 from by omega)⟩ (el_sub (K τ1 τ2 hI9) (And.intro rfl (And.intro rfl (And.intro rfl (And.intro rfl (And.intro rfl trivial))))))
def Gd_keeps (N : Nat) (G1 G2 : pG) (xa ma oa : Nat) (Inv : pS → pS → Prop) : Prop := ∀ (σ1 σ2 : pS), Inv σ1 σ2 → ∀ (c1 : Int32) (c2 : Int32), ∃ (k w : Int32) (τ1 τ2 : pS), fL_keeps N G1 xa c1 c2 oa σ1 = some (k, τ1) ∧ fX12_keeps N G2 ma c1 c2 σ2 = some (w, τ2) ∧ fX12_thrown N G2 ma τ2 = some k ∧ (k = 0 → gJ τ1 oa 0 = w.toInt64) ∧ Inv τ1 τ2
set_option maxRecDepth 100000 in
set_option maxHeartbeats 4000000 in
theorem lc_22 {B : Nat × Nat × Nat} {bs L : Nat} {xs : Nat → Int32} {G1 G2 : pG} {SK : Nat → Nat} {u : Nat × Nat} {σ1 σ2 : pS} {N xa ma oa : Nat} {Inv : pS → pS → Prop} {x4 : Int32} (hW1 : WT G1) (hW2 : WT G2) (hx : Is G1 xa 10) (hm : Is G2 ma 11) (ho : Is G1 oa 14) (ho1 : inB 0 (pN G1 oa) = true) (hg : Gd_keeps N G1 G2 xa ma oa Inv) (hI : Inv σ1 σ2) (hb1 : vp_in (x4 + (1 : Int32)) L) (hb2 : vp_in (x4 + (2 : Int32)) L) (hb3 : vp_in (x4 + (3 : Int32)) L) (hb4 : vp_in (x4 + (4 : Int32)) L) (hb5 : vp_in (x4 + (5 : Int32)) L) (hB : 1024 ≤ B.1) (hu : u.1 + 3 ≤ B.2.1 ∧ u.2 + 18 ≤ B.2.2) (K : ∀ τ1 τ2 : pS, Inv τ1 τ2 → EvL B bs L xs G1 G2 SK (u.1 + 3, u.2 + 18) 2718 [some (.ref bs), some (.ref xa), some (.ref ma), some (.ref oa), some (.int x4), none, none] [] τ1 τ2) : EvL B bs L xs G1 G2 SK u 1606 [some (.ref bs), some (.ref xa), some (.ref ma), some (.ref oa), some (.int x4), none, none] [] σ1 σ2 := by
  refine el_aload_n dc_L_law__1606 rfl ?_
  refine el_aload_n dc_L_law__1607 rfl ?_
  refine el_iload dc_L_law__1608 rfl ?_
  refine el_iconst (v := 1) dc_L_law__1610 (by decide) ?_
  refine el_iadd dc_L_law__1611 ?_
  refine el_sld dc_L_law__1612 hb1 ?_
  refine el_aload_n dc_L_law__1613 rfl ?_
  refine el_iload dc_L_law__1614 rfl ?_
  refine el_iconst (v := 2) dc_L_law__1616 (by decide) ?_
  refine el_iadd dc_L_law__1617 ?_
  refine el_sld dc_L_law__1618 hb2 ?_
  refine el_aload_n dc_L_law__1619 rfl ?_
  obtain ⟨k9, w9, τ1, τ2, e1, e2, e3, e4, hI9⟩ := hg _ _ hI (xs (x4 + (1 : Int32)).toNatClampNeg) (xs (x4 + (2 : Int32)).toNatClampNeg)
  refine el_wrap (av := [.ref xa, .int (xs (x4 + (1 : Int32)).toNatClampNeg), .int (xs (x4 + (2 : Int32)).toNatClampNeg), .ref oa]) (st := []) dc_L_law__1620 (tL_keeps hW1 hx ho e1) mw_1333 cwL_keeps rfl rfl (Nat.le_of_ble_eq_true rfl) (Nat.le_trans (show _ ≤ 1024 from Nat.le_of_ble_eq_true rfl) hB) ⟨(show u.1 + 1 ≤ B.2.1 from by omega), (show u.2 + 6 ≤ B.2.2 from by omega)⟩ ?_
  refine el_istore (lv' := [some (.ref bs), some (.ref xa), some (.ref ma), some (.ref oa), some (.int x4), some (.int k9), none]) dc_L_law__1623 rfl (by decide) rfl ?_
  refine el_aload_n dc_L_law__1625 rfl ?_
  refine el_aload_n dc_L_law__1626 rfl ?_
  refine el_iload dc_L_law__1627 rfl ?_
  refine el_iconst (v := 1) dc_L_law__1629 (by decide) ?_
  refine el_iadd dc_L_law__1630 ?_
  refine el_sld dc_L_law__1631 hb1 ?_
  refine el_aload_n dc_L_law__1632 rfl ?_
  refine el_iload dc_L_law__1633 rfl ?_
  refine el_iconst (v := 2) dc_L_law__1635 (by decide) ?_
  refine el_iadd dc_L_law__1636 ?_
  refine el_sld dc_L_law__1637 hb2 ?_
  refine el_call2 (av := [.int (xs (x4 + (1 : Int32)).toNatClampNeg), .int (xs (x4 + (2 : Int32)).toNatClampNeg)]) (st := []) (st1 := [.int w9]) dc_L_law__1638 (tX12_keeps hW2 hm e2) mw_2054 cy_X12_keeps hm (by decide) rfl rfl rfl rfl (Nat.le_of_ble_eq_true rfl) (Nat.le_trans (show _ ≤ 1024 from Nat.le_of_ble_eq_true rfl) hB) ⟨(show u.1 + 1 ≤ B.2.1 from by omega), (show u.2 + 6 ≤ B.2.2 from by omega)⟩ ?_
  refine el_istore (lv' := [some (.ref bs), some (.ref xa), some (.ref ma), some (.ref oa), some (.int x4), some (.int k9), some (.int w9)]) dc_L_law__1641 rfl (by decide) rfl ?_
  refine el_aload_n dc_L_law__1643 rfl ?_
  refine el_call2 (av := []) (st := []) (st1 := [.int k9]) dc_L_law__1644 (tX12_thrown hW2 hm e3) mw_1482 cy_X12_thrown hm (by decide) rfl rfl rfl rfl (Nat.le_of_ble_eq_true rfl) (Nat.le_trans (show _ ≤ 1024 from Nat.le_of_ble_eq_true rfl) hB) ⟨(show u.1 + 1 ≤ B.2.1 from by omega), (show u.2 + 6 ≤ B.2.2 from by omega)⟩ ?_
  refine el_iload dc_L_law__1647 rfl ?_
  refine el_icmp_eq (tgt := 1654) dc_L_law__1649 (by decide) (fun _ => ?_) (fun h => absurd rfl h)
  refine el_iload dc_L_law__1654 rfl ?_
  refine el_if_ne (tgt := 1671) dc_L_law__1656 (by decide) (fun hk => ?_) (fun hk => ?_)
  · refine el_goto (tgt := 2718) dc_L_law__1671 (by decide) ?_
    exact el_wid ⟨(show u.1 + 1 ≤ u.1 + 3 from by omega), (show u.2 + 6 ≤ u.2 + 18 from by omega)⟩ (el_sub (K τ1 τ2 hI9) (And.intro rfl (And.intro rfl (And.intro rfl (And.intro rfl (And.intro rfl trivial))))))
  have hk : k9 = 0 := Classical.not_not.mp hk
  refine el_aload_n dc_L_law__1659 rfl ?_
  refine el_iconst (v := 0) dc_L_law__1660 (by decide) ?_
  refine el_lald dc_L_law__1661 ho ho1 ?_
  refine el_iload dc_L_law__1662 rfl ?_
  refine el_i2l dc_L_law__1664 ?_
  refine el_lcmp dc_L_law__1665 ?_
  refine el_if_eq (tgt := 1671) dc_L_law__1666 (by decide) (fun _ => ?_) (fun h => absurd (by rw [e4 hk]; exact lcz) h)
  refine el_goto (tgt := 2718) dc_L_law__1671 (by decide) ?_
  exact el_wid ⟨(show u.1 + 1 ≤ u.1 + 3 from by omega), (show u.2 + 6 ≤ u.2 + 18 from by omega)⟩ (el_sub (K τ1 τ2 hI9) (And.intro rfl (And.intro rfl (And.intro rfl (And.intro rfl (And.intro rfl trivial))))))
def Gd_fewest (N : Nat) (G1 G2 : pG) (xa ma oa : Nat) (Inv : pS → pS → Prop) : Prop := ∀ (σ1 σ2 : pS), Inv σ1 σ2 → ∀ (c1 : Int32), ∃ (k w : Int32) (τ1 τ2 : pS), fL_fewest N G1 xa c1 oa σ1 = some (k, τ1) ∧ fX12_fewest N G2 ma c1 σ2 = some (w, τ2) ∧ fX12_thrown N G2 ma τ2 = some k ∧ (k = 0 → gJ τ1 oa 0 = w.toInt64) ∧ Inv τ1 τ2
set_option maxRecDepth 100000 in
set_option maxHeartbeats 4000000 in
theorem lc_23 {B : Nat × Nat × Nat} {bs L : Nat} {xs : Nat → Int32} {G1 G2 : pG} {SK : Nat → Nat} {u : Nat × Nat} {σ1 σ2 : pS} {N xa ma oa : Nat} {Inv : pS → pS → Prop} {x4 : Int32} (hW1 : WT G1) (hW2 : WT G2) (hx : Is G1 xa 10) (hm : Is G2 ma 11) (ho : Is G1 oa 14) (ho1 : inB 0 (pN G1 oa) = true) (hg : Gd_fewest N G1 G2 xa ma oa Inv) (hI : Inv σ1 σ2) (hb1 : vp_in (x4 + (1 : Int32)) L) (hb2 : vp_in (x4 + (2 : Int32)) L) (hb3 : vp_in (x4 + (3 : Int32)) L) (hb4 : vp_in (x4 + (4 : Int32)) L) (hb5 : vp_in (x4 + (5 : Int32)) L) (hB : 1024 ≤ B.1) (hu : u.1 + 3 ≤ B.2.1 ∧ u.2 + 18 ≤ B.2.2) (K : ∀ τ1 τ2 : pS, Inv τ1 τ2 → EvL B bs L xs G1 G2 SK (u.1 + 3, u.2 + 18) 2718 [some (.ref bs), some (.ref xa), some (.ref ma), some (.ref oa), some (.int x4), none, none] [] τ1 τ2) : EvL B bs L xs G1 G2 SK u 1674 [some (.ref bs), some (.ref xa), some (.ref ma), some (.ref oa), some (.int x4), none, none] [] σ1 σ2 := by
  refine el_aload_n dc_L_law__1674 rfl ?_
  refine el_aload_n dc_L_law__1675 rfl ?_
  refine el_iload dc_L_law__1676 rfl ?_
  refine el_iconst (v := 1) dc_L_law__1678 (by decide) ?_
  refine el_iadd dc_L_law__1679 ?_
  refine el_sld dc_L_law__1680 hb1 ?_
  refine el_aload_n dc_L_law__1681 rfl ?_
  obtain ⟨k9, w9, τ1, τ2, e1, e2, e3, e4, hI9⟩ := hg _ _ hI (xs (x4 + (1 : Int32)).toNatClampNeg)
  refine el_wrap (av := [.ref xa, .int (xs (x4 + (1 : Int32)).toNatClampNeg), .ref oa]) (st := []) dc_L_law__1682 (tL_fewest hW1 hx ho e1) mw_1344 cwL_fewest rfl rfl (Nat.le_of_ble_eq_true rfl) (Nat.le_trans (show _ ≤ 1024 from Nat.le_of_ble_eq_true rfl) hB) ⟨(show u.1 + 1 ≤ B.2.1 from by omega), (show u.2 + 6 ≤ B.2.2 from by omega)⟩ ?_
  refine el_istore (lv' := [some (.ref bs), some (.ref xa), some (.ref ma), some (.ref oa), some (.int x4), some (.int k9), none]) dc_L_law__1685 rfl (by decide) rfl ?_
  refine el_aload_n dc_L_law__1687 rfl ?_
  refine el_aload_n dc_L_law__1688 rfl ?_
  refine el_iload dc_L_law__1689 rfl ?_
  refine el_iconst (v := 1) dc_L_law__1691 (by decide) ?_
  refine el_iadd dc_L_law__1692 ?_
  refine el_sld dc_L_law__1693 hb1 ?_
  refine el_call2 (av := [.int (xs (x4 + (1 : Int32)).toNatClampNeg)]) (st := []) (st1 := [.int w9]) dc_L_law__1694 (tX12_fewest hW2 hm e2) mw_2062 cy_X12_fewest hm (by decide) rfl rfl rfl rfl (Nat.le_of_ble_eq_true rfl) (Nat.le_trans (show _ ≤ 1024 from Nat.le_of_ble_eq_true rfl) hB) ⟨(show u.1 + 1 ≤ B.2.1 from by omega), (show u.2 + 6 ≤ B.2.2 from by omega)⟩ ?_
  refine el_istore (lv' := [some (.ref bs), some (.ref xa), some (.ref ma), some (.ref oa), some (.int x4), some (.int k9), some (.int w9)]) dc_L_law__1697 rfl (by decide) rfl ?_
  refine el_aload_n dc_L_law__1699 rfl ?_
  refine el_call2 (av := []) (st := []) (st1 := [.int k9]) dc_L_law__1700 (tX12_thrown hW2 hm e3) mw_1482 cy_X12_thrown hm (by decide) rfl rfl rfl rfl (Nat.le_of_ble_eq_true rfl) (Nat.le_trans (show _ ≤ 1024 from Nat.le_of_ble_eq_true rfl) hB) ⟨(show u.1 + 1 ≤ B.2.1 from by omega), (show u.2 + 6 ≤ B.2.2 from by omega)⟩ ?_
  refine el_iload dc_L_law__1703 rfl ?_
  refine el_icmp_eq (tgt := 1710) dc_L_law__1705 (by decide) (fun _ => ?_) (fun h => absurd rfl h)
  refine el_iload dc_L_law__1710 rfl ?_
  refine el_if_ne (tgt := 1727) dc_L_law__1712 (by decide) (fun hk => ?_) (fun hk => ?_)
  · refine el_goto (tgt := 2718) dc_L_law__1727 (by decide) ?_
    exact el_wid ⟨(show u.1 + 1 ≤ u.1 + 3 from by omega), (show u.2 + 6 ≤ u.2 + 18 from by omega)⟩ (el_sub (K τ1 τ2 hI9) (And.intro rfl (And.intro rfl (And.intro rfl (And.intro rfl (And.intro rfl trivial))))))
  have hk : k9 = 0 := Classical.not_not.mp hk
  refine el_aload_n dc_L_law__1715 rfl ?_
  refine el_iconst (v := 0) dc_L_law__1716 (by decide) ?_
  refine el_lald dc_L_law__1717 ho ho1 ?_
  refine el_iload dc_L_law__1718 rfl ?_
  refine el_i2l dc_L_law__1720 ?_
  refine el_lcmp dc_L_law__1721 ?_
  refine el_if_eq (tgt := 1727) dc_L_law__1722 (by decide) (fun _ => ?_) (fun h => absurd (by rw [e4 hk]; exact lcz) h)
  refine el_goto (tgt := 2718) dc_L_law__1727 (by decide) ?_
  exact el_wid ⟨(show u.1 + 1 ≤ u.1 + 3 from by omega), (show u.2 + 6 ≤ u.2 + 18 from by omega)⟩ (el_sub (K τ1 τ2 hI9) (And.intro rfl (And.intro rfl (And.intro rfl (And.intro rfl (And.intro rfl trivial))))))
def Gd_silence (N : Nat) (G1 G2 : pG) (xa ma oa : Nat) (Inv : pS → pS → Prop) : Prop := ∀ (σ1 σ2 : pS), Inv σ1 σ2 → ∀ (c1 : Int32), ∃ (k w : Int32) (τ1 τ2 : pS), fL_silence N G1 xa c1 oa σ1 = some (k, τ1) ∧ fX12_silence N G2 ma c1 σ2 = some (w, τ2) ∧ fX12_thrown N G2 ma τ2 = some k ∧ (k = 0 → gJ τ1 oa 0 = w.toInt64) ∧ Inv τ1 τ2
set_option maxRecDepth 100000 in
set_option maxHeartbeats 4000000 in
theorem lc_24 {B : Nat × Nat × Nat} {bs L : Nat} {xs : Nat → Int32} {G1 G2 : pG} {SK : Nat → Nat} {u : Nat × Nat} {σ1 σ2 : pS} {N xa ma oa : Nat} {Inv : pS → pS → Prop} {x4 : Int32} (hW1 : WT G1) (hW2 : WT G2) (hx : Is G1 xa 10) (hm : Is G2 ma 11) (ho : Is G1 oa 14) (ho1 : inB 0 (pN G1 oa) = true) (hg : Gd_silence N G1 G2 xa ma oa Inv) (hI : Inv σ1 σ2) (hb1 : vp_in (x4 + (1 : Int32)) L) (hb2 : vp_in (x4 + (2 : Int32)) L) (hb3 : vp_in (x4 + (3 : Int32)) L) (hb4 : vp_in (x4 + (4 : Int32)) L) (hb5 : vp_in (x4 + (5 : Int32)) L) (hB : 1024 ≤ B.1) (hu : u.1 + 3 ≤ B.2.1 ∧ u.2 + 18 ≤ B.2.2) (K : ∀ τ1 τ2 : pS, Inv τ1 τ2 → EvL B bs L xs G1 G2 SK (u.1 + 3, u.2 + 18) 2718 [some (.ref bs), some (.ref xa), some (.ref ma), some (.ref oa), some (.int x4), none, none] [] τ1 τ2) : EvL B bs L xs G1 G2 SK u 1730 [some (.ref bs), some (.ref xa), some (.ref ma), some (.ref oa), some (.int x4), none, none] [] σ1 σ2 := by
  refine el_aload_n dc_L_law__1730 rfl ?_
  refine el_aload_n dc_L_law__1731 rfl ?_
  refine el_iload dc_L_law__1732 rfl ?_
  refine el_iconst (v := 1) dc_L_law__1734 (by decide) ?_
  refine el_iadd dc_L_law__1735 ?_
  refine el_sld dc_L_law__1736 hb1 ?_
  refine el_aload_n dc_L_law__1737 rfl ?_
  obtain ⟨k9, w9, τ1, τ2, e1, e2, e3, e4, hI9⟩ := hg _ _ hI (xs (x4 + (1 : Int32)).toNatClampNeg)
  refine el_wrap (av := [.ref xa, .int (xs (x4 + (1 : Int32)).toNatClampNeg), .ref oa]) (st := []) dc_L_law__1738 (tL_silence hW1 hx ho e1) mw_1382 cwL_silence rfl rfl (Nat.le_of_ble_eq_true rfl) (Nat.le_trans (show _ ≤ 1024 from Nat.le_of_ble_eq_true rfl) hB) ⟨(show u.1 + 1 ≤ B.2.1 from by omega), (show u.2 + 6 ≤ B.2.2 from by omega)⟩ ?_
  refine el_istore (lv' := [some (.ref bs), some (.ref xa), some (.ref ma), some (.ref oa), some (.int x4), some (.int k9), none]) dc_L_law__1741 rfl (by decide) rfl ?_
  refine el_aload_n dc_L_law__1743 rfl ?_
  refine el_aload_n dc_L_law__1744 rfl ?_
  refine el_iload dc_L_law__1745 rfl ?_
  refine el_iconst (v := 1) dc_L_law__1747 (by decide) ?_
  refine el_iadd dc_L_law__1748 ?_
  refine el_sld dc_L_law__1749 hb1 ?_
  refine el_call2 (av := [.int (xs (x4 + (1 : Int32)).toNatClampNeg)]) (st := []) (st1 := [.int w9]) dc_L_law__1750 (tX12_silence hW2 hm e2) mw_2006 cy_X12_silence hm (by decide) rfl rfl rfl rfl (Nat.le_of_ble_eq_true rfl) (Nat.le_trans (show _ ≤ 1024 from Nat.le_of_ble_eq_true rfl) hB) ⟨(show u.1 + 1 ≤ B.2.1 from by omega), (show u.2 + 6 ≤ B.2.2 from by omega)⟩ ?_
  refine el_istore (lv' := [some (.ref bs), some (.ref xa), some (.ref ma), some (.ref oa), some (.int x4), some (.int k9), some (.int w9)]) dc_L_law__1753 rfl (by decide) rfl ?_
  refine el_aload_n dc_L_law__1755 rfl ?_
  refine el_call2 (av := []) (st := []) (st1 := [.int k9]) dc_L_law__1756 (tX12_thrown hW2 hm e3) mw_1482 cy_X12_thrown hm (by decide) rfl rfl rfl rfl (Nat.le_of_ble_eq_true rfl) (Nat.le_trans (show _ ≤ 1024 from Nat.le_of_ble_eq_true rfl) hB) ⟨(show u.1 + 1 ≤ B.2.1 from by omega), (show u.2 + 6 ≤ B.2.2 from by omega)⟩ ?_
  refine el_iload dc_L_law__1759 rfl ?_
  refine el_icmp_eq (tgt := 1766) dc_L_law__1761 (by decide) (fun _ => ?_) (fun h => absurd rfl h)
  refine el_iload dc_L_law__1766 rfl ?_
  refine el_if_ne (tgt := 1783) dc_L_law__1768 (by decide) (fun hk => ?_) (fun hk => ?_)
  · refine el_goto (tgt := 2718) dc_L_law__1783 (by decide) ?_
    exact el_wid ⟨(show u.1 + 1 ≤ u.1 + 3 from by omega), (show u.2 + 6 ≤ u.2 + 18 from by omega)⟩ (el_sub (K τ1 τ2 hI9) (And.intro rfl (And.intro rfl (And.intro rfl (And.intro rfl (And.intro rfl trivial))))))
  have hk : k9 = 0 := Classical.not_not.mp hk
  refine el_aload_n dc_L_law__1771 rfl ?_
  refine el_iconst (v := 0) dc_L_law__1772 (by decide) ?_
  refine el_lald dc_L_law__1773 ho ho1 ?_
  refine el_iload dc_L_law__1774 rfl ?_
  refine el_i2l dc_L_law__1776 ?_
  refine el_lcmp dc_L_law__1777 ?_
  refine el_if_eq (tgt := 1783) dc_L_law__1778 (by decide) (fun _ => ?_) (fun h => absurd (by rw [e4 hk]; exact lcz) h)
  refine el_goto (tgt := 2718) dc_L_law__1783 (by decide) ?_
  exact el_wid ⟨(show u.1 + 1 ≤ u.1 + 3 from by omega), (show u.2 + 6 ≤ u.2 + 18 from by omega)⟩ (el_sub (K τ1 τ2 hI9) (And.intro rfl (And.intro rfl (And.intro rfl (And.intro rfl (And.intro rfl trivial))))))
def Gd_best (N : Nat) (G1 G2 : pG) (xa ma oa : Nat) (Inv : pS → pS → Prop) : Prop := ∀ (σ1 σ2 : pS), Inv σ1 σ2 → ∃ (v : Int32) (τ2 : pS), fX11_best N G1 xa σ1 = some v ∧ fX12_best N G2 ma σ2 = some (v, τ2) ∧ Inv σ1 τ2
set_option maxRecDepth 100000 in
set_option maxHeartbeats 4000000 in
theorem lc_25 {B : Nat × Nat × Nat} {bs L : Nat} {xs : Nat → Int32} {G1 G2 : pG} {SK : Nat → Nat} {u : Nat × Nat} {σ1 σ2 : pS} {N xa ma oa : Nat} {Inv : pS → pS → Prop} {x4 : Int32} (hW1 : WT G1) (hW2 : WT G2) (hx : Is G1 xa 10) (hm : Is G2 ma 11) (ho : Is G1 oa 14) (ho1 : inB 0 (pN G1 oa) = true) (hg : Gd_best N G1 G2 xa ma oa Inv) (hI : Inv σ1 σ2) (hb1 : vp_in (x4 + (1 : Int32)) L) (hb2 : vp_in (x4 + (2 : Int32)) L) (hb3 : vp_in (x4 + (3 : Int32)) L) (hb4 : vp_in (x4 + (4 : Int32)) L) (hb5 : vp_in (x4 + (5 : Int32)) L) (hB : 1024 ≤ B.1) (hu : u.1 + 3 ≤ B.2.1 ∧ u.2 + 18 ≤ B.2.2) (K : ∀ τ1 τ2 : pS, Inv τ1 τ2 → EvL B bs L xs G1 G2 SK (u.1 + 3, u.2 + 18) 2718 [some (.ref bs), some (.ref xa), some (.ref ma), some (.ref oa), some (.int x4), none, none] [] τ1 τ2) : EvL B bs L xs G1 G2 SK u 1786 [some (.ref bs), some (.ref xa), some (.ref ma), some (.ref oa), some (.int x4), none, none] [] σ1 σ2 := by
  refine el_aload_n dc_L_law__1786 rfl ?_
  obtain ⟨v9, τ2, e1, e2, hI9⟩ := hg _ _ hI
  refine el_call1 (av := []) (st := []) (st1 := [.int v9]) dc_L_law__1787 (tX11_best hW1 hx e1) mw_505 cy_X11_best hx (by decide) rfl rfl rfl rfl (Nat.le_of_ble_eq_true rfl) (Nat.le_trans (show _ ≤ 1024 from Nat.le_of_ble_eq_true rfl) hB) ⟨(show u.1 ≤ B.2.1 from by omega), (show u.2 ≤ B.2.2 from by omega)⟩ ?_
  refine el_aload_n dc_L_law__1790 rfl ?_
  refine el_call2 (av := []) (st := [.int v9]) (st1 := [.int v9, .int v9]) dc_L_law__1791 (tX12_best hW2 hm e2) mw_2098 cy_X12_best hm (by decide) rfl rfl rfl rfl (Nat.le_of_ble_eq_true rfl) (Nat.le_trans (show _ ≤ 1024 from Nat.le_of_ble_eq_true rfl) hB) ⟨(show u.1 ≤ B.2.1 from by omega), (show u.2 ≤ B.2.2 from by omega)⟩ ?_
  refine el_icmp_eq (tgt := 2718) dc_L_law__1794 (by decide) (fun _ => ?_) (fun h => absurd rfl h)
  exact el_wid ⟨(show u.1 ≤ u.1 + 3 from by omega), (show u.2 ≤ u.2 + 18 from by omega)⟩ (el_sub (K σ1 τ2 hI9) (And.intro rfl (And.intro rfl (And.intro rfl (And.intro rfl (And.intro rfl trivial))))))
def Gd_learns (N : Nat) (G1 G2 : pG) (xa ma oa : Nat) (Inv : pS → pS → Prop) : Prop := ∀ (σ1 σ2 : pS), Inv σ1 σ2 → ∃ (v : Int32) (τ2 : pS), fX11_learns N G1 xa σ1 = some v ∧ fX12_learns N G2 ma σ2 = some (v, τ2) ∧ Inv σ1 τ2
set_option maxRecDepth 100000 in
set_option maxHeartbeats 4000000 in
theorem lc_26 {B : Nat × Nat × Nat} {bs L : Nat} {xs : Nat → Int32} {G1 G2 : pG} {SK : Nat → Nat} {u : Nat × Nat} {σ1 σ2 : pS} {N xa ma oa : Nat} {Inv : pS → pS → Prop} {x4 : Int32} (hW1 : WT G1) (hW2 : WT G2) (hx : Is G1 xa 10) (hm : Is G2 ma 11) (ho : Is G1 oa 14) (ho1 : inB 0 (pN G1 oa) = true) (hg : Gd_learns N G1 G2 xa ma oa Inv) (hI : Inv σ1 σ2) (hb1 : vp_in (x4 + (1 : Int32)) L) (hb2 : vp_in (x4 + (2 : Int32)) L) (hb3 : vp_in (x4 + (3 : Int32)) L) (hb4 : vp_in (x4 + (4 : Int32)) L) (hb5 : vp_in (x4 + (5 : Int32)) L) (hB : 1024 ≤ B.1) (hu : u.1 + 3 ≤ B.2.1 ∧ u.2 + 18 ≤ B.2.2) (K : ∀ τ1 τ2 : pS, Inv τ1 τ2 → EvL B bs L xs G1 G2 SK (u.1 + 3, u.2 + 18) 2718 [some (.ref bs), some (.ref xa), some (.ref ma), some (.ref oa), some (.int x4), none, none] [] τ1 τ2) : EvL B bs L xs G1 G2 SK u 1799 [some (.ref bs), some (.ref xa), some (.ref ma), some (.ref oa), some (.int x4), none, none] [] σ1 σ2 := by
  refine el_aload_n dc_L_law__1799 rfl ?_
  obtain ⟨v9, τ2, e1, e2, hI9⟩ := hg _ _ hI
  refine el_call1 (av := []) (st := []) (st1 := [.int v9]) dc_L_law__1800 (tX11_learns hW1 hx e1) mw_516 cy_X11_learns hx (by decide) rfl rfl rfl rfl (Nat.le_of_ble_eq_true rfl) (Nat.le_trans (show _ ≤ 1024 from Nat.le_of_ble_eq_true rfl) hB) ⟨(show u.1 ≤ B.2.1 from by omega), (show u.2 ≤ B.2.2 from by omega)⟩ ?_
  refine el_aload_n dc_L_law__1803 rfl ?_
  refine el_call2 (av := []) (st := [.int v9]) (st1 := [.int v9, .int v9]) dc_L_law__1804 (tX12_learns hW2 hm e2) mw_2102 cy_X12_learns hm (by decide) rfl rfl rfl rfl (Nat.le_of_ble_eq_true rfl) (Nat.le_trans (show _ ≤ 1024 from Nat.le_of_ble_eq_true rfl) hB) ⟨(show u.1 ≤ B.2.1 from by omega), (show u.2 ≤ B.2.2 from by omega)⟩ ?_
  refine el_icmp_eq (tgt := 2718) dc_L_law__1807 (by decide) (fun _ => ?_) (fun h => absurd rfl h)
  exact el_wid ⟨(show u.1 ≤ u.1 + 3 from by omega), (show u.2 ≤ u.2 + 18 from by omega)⟩ (el_sub (K σ1 τ2 hI9) (And.intro rfl (And.intro rfl (And.intro rfl (And.intro rfl (And.intro rfl trivial))))))
