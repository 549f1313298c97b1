/-! the story's lines: which line it is; all lines -/
theorem lp_ck {z y L : Nat} {B : Nat → Int32} {τ1 τ2 : pS} {R1 R2 : Option (Int32 × pS)} (h : LPost z y B L τ1 τ2 R1 R2) : LPost z y B L τ1 τ2 (R1.bind (fun q => ck (isZ q.1) (some (q.1, q.2)))) (R2.bind (fun q => ck (isZ q.1) (some (q.1, q.2)))) := by
  obtain ⟨v, υ1, υ2, h1, h2, h3, h4, h5⟩ := h
  refine ⟨v, υ1, υ2, ?_, ?_, h3, h4, h5⟩
  · rw [h1, b_some]
    rcases h5 with ⟨rfl, _⟩ | ⟨rfl, _⟩ <;> rfl
  · rw [h2, b_some]
    rcases h5 with ⟨rfl, _⟩ | ⟨rfl, _⟩ <;> rfl
theorem lp_dt {z y L : Nat} {B : Nat → Int32} {τ1 τ2 : pS} {R1 R2 : Option (Int32 × pS)} (h : LPost z y B L τ1 τ2 R1 R2) : LPost z y B L τ1 τ2 (R1.bind (fun q => ck (isZ q.1) (some (q.1, q.2)))) (R2.bind (fun q => if q.1 = 0 then some ((0 : Int32), q.2) else some ((1 : Int32), q.2))) := by
  obtain ⟨v, υ1, υ2, h1, h2, h3, h4, h5⟩ := h
  refine ⟨v, υ1, υ2, ?_, ?_, h3, h4, h5⟩
  · rw [h1, b_some]
    rcases h5 with ⟨rfl, _⟩ | ⟨rfl, _⟩ <;> rfl
  · rw [h2, b_some]
    rcases h5 with ⟨rfl, _⟩ | ⟨rfl, _⟩ <;> rfl
theorem JW.pw {N z y L f s1 s2 : Nat} {B : Nat → Int32} {τ1 τ2 : pS} (hN : 20000 < N) (w : JW z y B L f τ1 τ2) (sw : sameW s1 s2) : ∃ v, fX12_isWord N (G2 y) y s2 τ2 = some v ∧ ((v = 1 ∧ en ltr B L f = f + lenS.getD s1 0 ∧ ∃ υ, fX9_passWord N (G1 z) (z + 1) s1 τ1 = some (1, υ) ∧ TF z τ1 υ ∧ JT z y B L (en ltr B L f) υ τ2) ∨ (v = 0 ∧ fX9_passWord N (G1 z) (z + 1) s1 τ1 = some (0, τ1))) := by
  obtain ⟨v, i1, i2, i3⟩ := w.is hN sw
  refine ⟨v, i2, ?_⟩
  unfold fX9_passWord
  rw [i1, b_some]
  rcases i3 with ⟨rfl, hf⟩ | rfl
  · left
    obtain ⟨υ, x1, x2, x3⟩ := w.adv hN hf
    refine ⟨rfl, ?_, υ, ?_, x2, x3⟩
    · have c1 := c_isWord (sid := s1) hN w.1 w.2.1 sw.2.1
      rcases c1 with ⟨c1, c2⟩ | ⟨c1, c2⟩
      · exact c1.1
      · rw [i1] at c2
        injection c2 with c2
        exact absurd c2 (by decide)
    · rw [if_neg (show ¬ (1 : Int32) = 0 by decide), x1, b_some]
      rfl
  · right
    refine ⟨rfl, ?_⟩
    rw [if_pos rfl]
    rfl
theorem sn_name : sameW 0 46 := by
  unfold sameW
  decide +kernel
theorem sn_word : sameW 2 48 := by
  unfold sameW
  decide +kernel
theorem sn_deed : sameW 4 50 := by
  unfold sameW
  decide +kernel
theorem sn_friend : sameW 6 52 := by
  unfold sameW
  decide +kernel
theorem sn_enemy : sameW 7 53 := by
  unfold sameW
  decide +kernel
theorem sn_duty : sameW 8 54 := by
  unfold sameW
  decide +kernel
theorem sn_limit : sameW 9 55 := by
  unfold sameW
  decide +kernel
theorem sn_year : sameW 10 56 := by
  unfold sameW
  decide +kernel
theorem sn_his : sameW 13 57 := by
  unfold sameW
  decide +kernel
theorem sn_talk : sameW 11 58 := by
  unfold sameW
  decide +kernel
theorem sn_doubt : sameW 12 59 := by
  unfold sameW
  decide +kernel
theorem j_set {N z y L f : Nat} {B : Nat → Int32} {τ1 τ2 : pS} (hN : 20000 < N) (w : JW z y B L f τ1 τ2) (g : WorldR τ1 (z + 25) (τ2.2.1 (y + 1))) : LPost z y B L τ1 τ2 ((fX7_readsSetting N (G1 z) (z + 1) (z + 24) τ1).bind (fun q7 => ck (isZ q7.1) (some (q7.1, q7.2)))) ((fX12_isWord N (G2 y) y 55 τ2).bind (fun q7 => if q7 = 0 then ((fX12_isWord N (G2 y) y 56 τ2).bind (fun q8 => if q8 = 0 then ((fX12_isWord N (G2 y) y 57 τ2).bind (fun q9 => if q9 = 0 then ((fX12_isWord N (G2 y) y 58 τ2).bind (fun q10 => if q10 = 0 then ((fX12_isWord N (G2 y) y 59 τ2).bind (fun q11 => if q11 = 0 then (some ((0 : Int32), τ2)) else ((fX12_readNumber N (G2 y) y (7 : Int32) (0 : Int32) (99 : Int32) τ2).bind (fun q12 => if q12.1 = 0 then (some ((0 : Int32), q12.2)) else (some ((1 : Int32), q12.2)))))) else ((fX12_readNumber N (G2 y) y (14 : Int32) (0 : Int32) (100 : Int32) τ2).bind (fun q13 => ck (isZ q13.1) (some (q13.1, q13.2)))))) else ((fX12_readHis N (G2 y) y τ2).bind (fun q14 => ck (isZ q14.1) (some (q14.1, q14.2)))))) else ((fX12_readNumber N (G2 y) y (10 : Int32) (1 : Int32) (400 : Int32) τ2).bind (fun q15 => ck (isZ q15.1) (some (q15.1, q15.2)))))) else ((fX12_readNumber N (G2 y) y (8 : Int32) (1 : Int32) (99 : Int32) τ2).bind (fun q16 => ck (isZ q16.1) (some (q16.1, q16.2)))))) := by
  unfold fX7_readsSetting
  simp only [g1r_0_0, g1r_0_1, g1r_0_2, g1r_0_3, g1r_0_4, g1r_0_5, g1r_0_6, g1r_0_7, g1r_0_8, g1r_1_5, g1n_2, g1r_3_0, g1r_3_1, g1r_3_2, g1r_4_9, g1r_4_10, g1r_4_11, g1r_4_12, g1r_4_13, g1r_4_14, g1r_4_15, g1r_4_16, g1r_4_17, g1n_5, g1n_6, g1n_7, g1n_8, g1n_9, g1n_10, g1n_11, g1n_12, g1n_13, g1r_14_2, g1r_14_3, g1r_14_4, g1r_14_5, g1r_14_6, g1n_15, g1n_16, g1n_17, g1n_18, g1n_19, g1r_20_7, g1r_20_8, g1n_21, g1r_22_2, g1n_23, g1r_24_0, g1r_24_1, g1r_24_2, g1r_25_9, g1r_25_10, g1r_25_11, g1r_25_12, g1r_25_13, g1r_25_14, g1r_25_15, g1r_25_16, g1r_25_17, g1n_26, g1n_27, g1n_28, g1n_29, g1n_30, g1n_31, g1n_32, g1n_33, g1n_34, g1r_35_2, g1r_35_3, g1r_35_4, g1r_35_5, g1r_35_6, g1n_36, g1n_37, g1n_38, g1n_39, g1n_40, g1r_41_7, g1r_41_8, g1n_42, g1r_43_2, g1n_44, g1r_45_0, g1r_45_1, g1r_45_2, g1r_46_9, g1r_46_10, g1r_46_11, g1r_46_12, g1r_46_13, g1r_46_14, g1r_46_15, g1r_46_16, g1r_46_17, g1n_47, g1n_48, g1n_49, g1n_50, g1n_51, g1n_52, g1n_53, g1n_54, g1n_55, g1r_56_2, g1r_56_3, g1r_56_4, g1r_56_5, g1r_56_6, g1n_57, g1n_58, g1n_59, g1n_60, g1n_61, g1r_62_7, g1r_62_8, g1n_63, g1r_64_2, g1n_65, g1r_66_2, g1n_67, g1r_68_7, g1r_68_8, g1n_69, g1r_70_2, g1n_71, g1r_72_7, g1r_72_8, g1n_73, g1r_74_2, g1n_75, g1r_76_7, g1r_76_8, g1n_77, g1r_78_2, g1n_79, g1r_80_7, g1r_80_8, g1n_81, g1r_82_2, g1n_83, g1r_84_7, g1r_84_8, g1n_85, g1r_86_2, g1n_87, g1r_88_7, g1r_88_8, g1n_89, g1r_90_2, g1n_91, g1r_92_7, g1r_92_8, g1n_93, g1r_94_2, g1n_95, g1r_96_7, g1r_96_8, g1n_97, g1r_98_2, g1n_99, g1r_100_7, g1r_100_8, g1n_101, g1r_102_2, g1n_103, g1r_104_7, g1r_104_8, g1n_105, g1r_106_2, g1n_107, g1r_108_7, g1r_108_8, g1n_109, g1r_110_2, g1n_111, g1r_112_7, g1r_112_8, g1n_113, g1r_114_2, g1n_115, g1r_116_7, g1r_116_8, g1n_117, g1r_118_2, g1n_119, g1r_120_0, g1r_120_1, g1r_120_2, g1r_121_7, g1r_121_8, g1n_122, g1r_123_2, g1n_124, g1n_125, g1n_126, g1r_127_0, g1r_127_1, g1r_127_2, g1r_127_3, g1r_128_7, g1r_128_8, g1n_129, g1r_130_2, g1n_131, g1n_132, g1n_133, g1n_134, g1r_135_7, g1n_136, g1n_150]
  obtain ⟨vl, l1, l2⟩ := w.pw hN sn_limit
  obtain ⟨vy, y1, y2⟩ := w.pw hN sn_year
  obtain ⟨vt, t1, t2⟩ := w.pw hN sn_talk
  obtain ⟨vd, d1, d2⟩ := w.pw hN sn_doubt
  obtain ⟨vh, h1, h2⟩ := w.pw hN sn_his
  have n1 : ¬ (1 : Int32) = 0 := by decide
  have e4 : lenS.getD 11 0 = 4 := by decide +kernel
  have e5 : lenS.getD 12 0 = 5 := by decide +kernel
  have e3 : lenS.getD 13 0 = 3 := by decide +kernel
  rw [l1, b_some]
  rcases l2 with ⟨rfl, _, υ, l3, l4, l5⟩ | ⟨rfl, l3⟩
  · rw [l3, b_some]
    dsimp only
    rw [if_neg n1, if_neg n1]
    exact lp_ck (j_limit hN l4 l5 (wor_TF l4 g))
  rw [l3, b_some]
  dsimp only
  rw [if_pos rfl, if_pos rfl, y1, b_some]
  rcases y2 with ⟨rfl, _, υ, l3, l4, l5⟩ | ⟨rfl, l3⟩
  · rw [l3, b_some]
    dsimp only
    rw [if_neg n1, if_neg n1]
    exact lp_ck (j_year hN l4 l5 (wor_TF l4 g))
  rw [l3, b_some]
  dsimp only
  rw [if_pos rfl, if_pos rfl, h1, b_some]
  rcases t2 with ⟨rfl, ht, υ, l3, l4, l5⟩ | ⟨rfl, l3⟩
  · rcases h2 with ⟨rfl, hh, _⟩ | ⟨rfl, _⟩
    · rw [e4] at ht
      rw [e3] at hh
      omega
    rw [if_pos rfl, t1, b_some, l3, b_some]
    dsimp only
    rw [if_neg n1, if_neg n1]
    exact lp_ck (j_talk hN l4 l5 (wor_TF l4 g))
  rw [l3, b_some]
  dsimp only
  rw [if_pos rfl]
  rcases d2 with ⟨rfl, hd, υ, l3, l4, l5⟩ | ⟨rfl, l3⟩
  · rcases h2 with ⟨rfl, hh, _⟩ | ⟨rfl, _⟩
    · rw [e5] at hd
      rw [e3] at hh
      omega
    rw [if_pos rfl, t1, b_some, if_pos rfl, d1, b_some, l3, b_some]
    dsimp only
    rw [if_neg n1, if_neg n1]
    exact lp_dt (j_doubt hN l4 l5 (wor_TF l4 g))
  rw [l3, b_some]
  dsimp only
  rw [if_pos rfl]
  rcases h2 with ⟨rfl, hh, υ, l3, l4, l5⟩ | ⟨rfl, l3⟩
  · rw [l3, b_some]
    dsimp only
    rw [if_neg n1, if_neg n1]
    exact lp_ck (j_his hN l4 l5 (wor_TF l4 g))
  rw [l3, b_some]
  dsimp only
  rw [if_pos rfl, if_pos rfl, t1, b_some, if_pos rfl, d1, b_some, if_pos rfl]
  exact lp_no rfl rfl FC.r FY.r w.2.1.2.1 w.2.2.2.2.2.1
theorem j_line {N z y L f : Nat} {B : Nat → Int32} {τ1 τ2 : pS} (hN : 20000 < N) (w : JW z y B L f τ1 τ2) (g : WorldR τ1 (z + 25) (τ2.2.1 (y + 1))) : LPost z y B L τ1 τ2 (fX7_readsLine N (G1 z) (z + 1) (z + 24) τ1) (fX12_readStoryLine N (G2 y) y τ2) := by
  unfold fX7_readsLine fX12_readStoryLine
  simp only [g1r_24_0]
  have n1 : ¬ (1 : Int32) = 0 := by decide
  obtain ⟨v, i1, i2, i3⟩ := w.is hN sn_name
  rw [i1, b_some, i2, b_some]
  rcases i3 with ⟨rfl, hf⟩ | rfl
  · rw [if_neg n1, if_neg n1]
    exact lp_ck (j_name hN w hf g)
  rw [if_pos rfl, if_pos rfl]
  clear i1 i2
  obtain ⟨v, i1, i2, i3⟩ := w.is hN sn_word
  rw [i1, b_some, i2, b_some]
  rcases i3 with ⟨rfl, hf⟩ | rfl
  · rw [if_neg n1, if_neg n1]
    exact lp_ck (j_word hN w hf g)
  rw [if_pos rfl, if_pos rfl]
  clear i1 i2
  obtain ⟨v, i1, i2, i3⟩ := w.is hN sn_deed
  rw [i1, b_some, i2, b_some]
  rcases i3 with ⟨rfl, hf⟩ | rfl
  · rw [if_neg n1, if_neg n1]
    exact lp_ck (j_deed hN w hf g)
  rw [if_pos rfl, if_pos rfl]
  clear i1 i2
  obtain ⟨v, i1, i2, i3⟩ := w.is hN sn_friend
  rw [i1, b_some, i2, b_some]
  rcases i3 with ⟨rfl, hf⟩ | rfl
  · rw [if_neg n1, if_neg n1]
    exact lp_ck (j_member hN w hf g (Or.inl rfl))
  rw [if_pos rfl, if_pos rfl]
  clear i1 i2
  obtain ⟨v, i1, i2, i3⟩ := w.is hN sn_enemy
  rw [i1, b_some, i2, b_some]
  rcases i3 with ⟨rfl, hf⟩ | rfl
  · rw [if_neg n1, if_neg n1]
    exact lp_ck (j_member hN w hf g (Or.inr rfl))
  rw [if_pos rfl, if_pos rfl]
  clear i1 i2
  obtain ⟨v, i1, i2, i3⟩ := w.is hN sn_duty
  rw [i1, b_some, i2, b_some]
  rcases i3 with ⟨rfl, hf⟩ | rfl
  · rw [if_neg n1, if_neg n1]
    exact lp_ck (j_duty hN w hf g)
  rw [if_pos rfl, if_pos rfl]
  clear i1 i2
  exact j_set hN w g
