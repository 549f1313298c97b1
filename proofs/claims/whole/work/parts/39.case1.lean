def Gd_worst (N : Nat) (G1 G2 : pG) (xa ma oa : Nat) (Inv : pS → pS → Prop) : Prop := ∀ (σ1 σ2 : pS), Inv σ1 σ2 → ∃ (v : Int32) (τ2 : pS), fX11_worst N G1 xa σ1 = some v ∧ fX12_worst N G2 ma σ2 = some (v, τ2) ∧ Inv σ1 τ2
set_option maxRecDepth 100000 in
set_option maxHeartbeats 4000000 in
theorem lc_27 {B : Nat × Nat × Nat} {bs L : Nat} {xs : Nat → Int32} {G1 G2 : pG} {SK : Nat → Nat} {u : Nat × Nat} {σ1 σ2 : pS} {N xa ma oa : Nat} {Inv : pS → pS → Prop} {x4 : Int32} (hW1 : WT G1) (hW2 : WT G2) (hx : Is G1 xa 10) (hm : Is G2 ma 11) (ho : Is G1 oa 14) (ho1 : inB 0 (pN G1 oa) = true) (hg : Gd_worst N G1 G2 xa ma oa Inv) (hI : Inv σ1 σ2) (hb1 : vp_in (x4 + (1 : Int32)) L) (hb2 : vp_in (x4 + (2 : Int32)) L) (hb3 : vp_in (x4 + (3 : Int32)) L) (hb4 : vp_in (x4 + (4 : Int32)) L) (hb5 : vp_in (x4 + (5 : Int32)) L) (hB : 1024 ≤ B.1) (hu : u.1 + 3 ≤ B.2.1 ∧ u.2 + 18 ≤ B.2.2) (K : ∀ τ1 τ2 : pS, Inv τ1 τ2 → EvL B bs L xs G1 G2 SK (u.1 + 3, u.2 + 18) 2718 [some (.ref bs), some (.ref xa), some (.ref ma), some (.ref oa), some (.int x4), none, none] [] τ1 τ2) : EvL B bs L xs G1 G2 SK u 1812 [some (.ref bs), some (.ref xa), some (.ref ma), some (.ref oa), some (.int x4), none, none] [] σ1 σ2 := by
  refine el_aload_n dc_L_law__1812 rfl ?_
  obtain ⟨v9, τ2, e1, e2, hI9⟩ := hg _ _ hI
  refine el_call1 (av := []) (st := []) (st1 := [.int v9]) dc_L_law__1813 (tX11_worst hW1 hx e1) mw_533 cy_X11_worst hx (by decide) rfl rfl rfl rfl (Nat.le_of_ble_eq_true rfl) (Nat.le_trans (show _ ≤ 1024 from Nat.le_of_ble_eq_true rfl) hB) ⟨(show u.1 ≤ B.2.1 from by omega), (show u.2 ≤ B.2.2 from by omega)⟩ ?_
  refine el_aload_n dc_L_law__1816 rfl ?_
  refine el_call2 (av := []) (st := [.int v9]) (st1 := [.int v9, .int v9]) dc_L_law__1817 (tX12_worst hW2 hm e2) mw_2106 cy_X12_worst hm (by decide) rfl rfl rfl rfl (Nat.le_of_ble_eq_true rfl) (Nat.le_trans (show _ ≤ 1024 from Nat.le_of_ble_eq_true rfl) hB) ⟨(show u.1 ≤ B.2.1 from by omega), (show u.2 ≤ B.2.2 from by omega)⟩ ?_
  refine el_icmp_eq (tgt := 2718) dc_L_law__1820 (by decide) (fun _ => ?_) (fun h => absurd rfl h)
  exact el_wid ⟨(show u.1 ≤ u.1 + 3 from by omega), (show u.2 ≤ u.2 + 18 from by omega)⟩ (el_sub (K σ1 τ2 hI9) (And.intro rfl (And.intro rfl (And.intro rfl (And.intro rfl (And.intro rfl trivial))))))
def Gd_hides (N : Nat) (G1 G2 : pG) (xa ma oa : Nat) (Inv : pS → pS → Prop) : Prop := ∀ (σ1 σ2 : pS), Inv σ1 σ2 → ∃ (v : Int32) (τ2 : pS), fX11_hides N G1 xa σ1 = some v ∧ fX12_hides N G2 ma σ2 = some (v, τ2) ∧ Inv σ1 τ2
set_option maxRecDepth 100000 in
set_option maxHeartbeats 4000000 in
theorem lc_28 {B : Nat × Nat × Nat} {bs L : Nat} {xs : Nat → Int32} {G1 G2 : pG} {SK : Nat → Nat} {u : Nat × Nat} {σ1 σ2 : pS} {N xa ma oa : Nat} {Inv : pS → pS → Prop} {x4 : Int32} (hW1 : WT G1) (hW2 : WT G2) (hx : Is G1 xa 10) (hm : Is G2 ma 11) (ho : Is G1 oa 14) (ho1 : inB 0 (pN G1 oa) = true) (hg : Gd_hides N G1 G2 xa ma oa Inv) (hI : Inv σ1 σ2) (hb1 : vp_in (x4 + (1 : Int32)) L) (hb2 : vp_in (x4 + (2 : Int32)) L) (hb3 : vp_in (x4 + (3 : Int32)) L) (hb4 : vp_in (x4 + (4 : Int32)) L) (hb5 : vp_in (x4 + (5 : Int32)) L) (hB : 1024 ≤ B.1) (hu : u.1 + 3 ≤ B.2.1 ∧ u.2 + 18 ≤ B.2.2) (K : ∀ τ1 τ2 : pS, Inv τ1 τ2 → EvL B bs L xs G1 G2 SK (u.1 + 3, u.2 + 18) 2718 [some (.ref bs), some (.ref xa), some (.ref ma), some (.ref oa), some (.int x4), none, none] [] τ1 τ2) : EvL B bs L xs G1 G2 SK u 1825 [some (.ref bs), some (.ref xa), some (.ref ma), some (.ref oa), some (.int x4), none, none] [] σ1 σ2 := by
  refine el_aload_n dc_L_law__1825 rfl ?_
  obtain ⟨v9, τ2, e1, e2, hI9⟩ := hg _ _ hI
  refine el_call1 (av := []) (st := []) (st1 := [.int v9]) dc_L_law__1826 (tX11_hides hW1 hx e1) mw_549 cy_X11_hides hx (by decide) rfl rfl rfl rfl (Nat.le_of_ble_eq_true rfl) (Nat.le_trans (show _ ≤ 1024 from Nat.le_of_ble_eq_true rfl) hB) ⟨(show u.1 ≤ B.2.1 from by omega), (show u.2 ≤ B.2.2 from by omega)⟩ ?_
  refine el_aload_n dc_L_law__1829 rfl ?_
  refine el_call2 (av := []) (st := [.int v9]) (st1 := [.int v9, .int v9]) dc_L_law__1830 (tX12_hides hW2 hm e2) mw_2114 cy_X12_hides hm (by decide) rfl rfl rfl rfl (Nat.le_of_ble_eq_true rfl) (Nat.le_trans (show _ ≤ 1024 from Nat.le_of_ble_eq_true rfl) hB) ⟨(show u.1 ≤ B.2.1 from by omega), (show u.2 ≤ B.2.2 from by omega)⟩ ?_
  refine el_icmp_eq (tgt := 2718) dc_L_law__1833 (by decide) (fun _ => ?_) (fun h => absurd rfl h)
  exact el_wid ⟨(show u.1 ≤ u.1 + 3 from by omega), (show u.2 ≤ u.2 + 18 from by omega)⟩ (el_sub (K σ1 τ2 hI9) (And.intro rfl (And.intro rfl (And.intro rfl (And.intro rfl (And.intro rfl trivial))))))
def Gd_alike (N : Nat) (G1 G2 : pG) (xa ma oa : Nat) (Inv : pS → pS → Prop) : Prop := ∀ (σ1 σ2 : pS), Inv σ1 σ2 → ∃ (v : Int32) (τ2 : pS), fX11_alike N G1 xa σ1 = some v ∧ fX12_alike N G2 ma σ2 = some (v, τ2) ∧ Inv σ1 τ2
set_option maxRecDepth 100000 in
set_option maxHeartbeats 4000000 in
theorem lc_29 {B : Nat × Nat × Nat} {bs L : Nat} {xs : Nat → Int32} {G1 G2 : pG} {SK : Nat → Nat} {u : Nat × Nat} {σ1 σ2 : pS} {N xa ma oa : Nat} {Inv : pS → pS → Prop} {x4 : Int32} (hW1 : WT G1) (hW2 : WT G2) (hx : Is G1 xa 10) (hm : Is G2 ma 11) (ho : Is G1 oa 14) (ho1 : inB 0 (pN G1 oa) = true) (hg : Gd_alike N G1 G2 xa ma oa Inv) (hI : Inv σ1 σ2) (hb1 : vp_in (x4 + (1 : Int32)) L) (hb2 : vp_in (x4 + (2 : Int32)) L) (hb3 : vp_in (x4 + (3 : Int32)) L) (hb4 : vp_in (x4 + (4 : Int32)) L) (hb5 : vp_in (x4 + (5 : Int32)) L) (hB : 1024 ≤ B.1) (hu : u.1 + 3 ≤ B.2.1 ∧ u.2 + 18 ≤ B.2.2) (K : ∀ τ1 τ2 : pS, Inv τ1 τ2 → EvL B bs L xs G1 G2 SK (u.1 + 3, u.2 + 18) 2718 [some (.ref bs), some (.ref xa), some (.ref ma), some (.ref oa), some (.int x4), none, none] [] τ1 τ2) : EvL B bs L xs G1 G2 SK u 1838 [some (.ref bs), some (.ref xa), some (.ref ma), some (.ref oa), some (.int x4), none, none] [] σ1 σ2 := by
  refine el_aload_n dc_L_law__1838 rfl ?_
  obtain ⟨v9, τ2, e1, e2, hI9⟩ := hg _ _ hI
  refine el_call1 (av := []) (st := []) (st1 := [.int v9]) dc_L_law__1839 (tX11_alike hW1 hx e1) mw_554 cy_X11_alike hx (by decide) rfl rfl rfl rfl (Nat.le_of_ble_eq_true rfl) (Nat.le_trans (show _ ≤ 1024 from Nat.le_of_ble_eq_true rfl) hB) ⟨(show u.1 ≤ B.2.1 from by omega), (show u.2 ≤ B.2.2 from by omega)⟩ ?_
  refine el_aload_n dc_L_law__1842 rfl ?_
  refine el_call2 (av := []) (st := [.int v9]) (st1 := [.int v9, .int v9]) dc_L_law__1843 (tX12_alike hW2 hm e2) mw_2118 cy_X12_alike hm (by decide) rfl rfl rfl rfl (Nat.le_of_ble_eq_true rfl) (Nat.le_trans (show _ ≤ 1024 from Nat.le_of_ble_eq_true rfl) hB) ⟨(show u.1 ≤ B.2.1 from by omega), (show u.2 ≤ B.2.2 from by omega)⟩ ?_
  refine el_icmp_eq (tgt := 2718) dc_L_law__1846 (by decide) (fun _ => ?_) (fun h => absurd rfl h)
  exact el_wid ⟨(show u.1 ≤ u.1 + 3 from by omega), (show u.2 ≤ u.2 + 18 from by omega)⟩ (el_sub (K σ1 τ2 hI9) (And.intro rfl (And.intro rfl (And.intro rfl (And.intro rfl (And.intro rfl trivial))))))
def Gd_belief (N : Nat) (G1 G2 : pG) (xa ma oa : Nat) (Inv : pS → pS → Prop) : Prop := ∀ (σ1 σ2 : pS), Inv σ1 σ2 → ∀ (c1 : Int32), ∃ (k w : Int32) (τ1 τ2 : pS), fL_belief N G1 xa c1 oa σ1 = some (k, τ1) ∧ fX12_belief N G2 ma c1 σ2 = some (w, τ2) ∧ fX12_thrown N G2 ma τ2 = some k ∧ (k = 0 → gJ τ1 oa 0 = w.toInt64) ∧ Inv τ1 τ2
set_option maxRecDepth 100000 in
set_option maxHeartbeats 4000000 in
theorem lc_30 {B : Nat × Nat × Nat} {bs L : Nat} {xs : Nat → Int32} {G1 G2 : pG} {SK : Nat → Nat} {u : Nat × Nat} {σ1 σ2 : pS} {N xa ma oa : Nat} {Inv : pS → pS → Prop} {x4 : Int32} (hW1 : WT G1) (hW2 : WT G2) (hx : Is G1 xa 10) (hm : Is G2 ma 11) (ho : Is G1 oa 14) (ho1 : inB 0 (pN G1 oa) = true) (hg : Gd_belief N G1 G2 xa ma oa Inv) (hI : Inv σ1 σ2) (hb1 : vp_in (x4 + (1 : Int32)) L) (hb2 : vp_in (x4 + (2 : Int32)) L) (hb3 : vp_in (x4 + (3 : Int32)) L) (hb4 : vp_in (x4 + (4 : Int32)) L) (hb5 : vp_in (x4 + (5 : Int32)) L) (hB : 1024 ≤ B.1) (hu : u.1 + 3 ≤ B.2.1 ∧ u.2 + 18 ≤ B.2.2) (K : ∀ τ1 τ2 : pS, Inv τ1 τ2 → EvL B bs L xs G1 G2 SK (u.1 + 3, u.2 + 18) 2718 [some (.ref bs), some (.ref xa), some (.ref ma), some (.ref oa), some (.int x4), none, none] [] τ1 τ2) : EvL B bs L xs G1 G2 SK u 1851 [some (.ref bs), some (.ref xa), some (.ref ma), some (.ref oa), some (.int x4), none, none] [] σ1 σ2 := by
  refine el_aload_n dc_L_law__1851 rfl ?_
  refine el_aload_n dc_L_law__1852 rfl ?_
  refine el_iload dc_L_law__1853 rfl ?_
  refine el_iconst (v := 1) dc_L_law__1855 (by decide) ?_
  refine el_iadd dc_L_law__1856 ?_
  refine el_sld dc_L_law__1857 hb1 ?_
  refine el_aload_n dc_L_law__1858 rfl ?_
  obtain ⟨k9, w9, τ1, τ2, e1, e2, e3, e4, hI9⟩ := hg _ _ hI (xs (x4 + (1 : Int32)).toNatClampNeg)
  refine el_wrap (av := [.ref xa, .int (xs (x4 + (1 : Int32)).toNatClampNeg), .ref oa]) (st := []) dc_L_law__1859 (tL_belief hW1 hx ho e1) mw_1393 cwL_belief rfl rfl (Nat.le_of_ble_eq_true rfl) (Nat.le_trans (show _ ≤ 1024 from Nat.le_of_ble_eq_true rfl) hB) ⟨(show u.1 + 1 ≤ B.2.1 from by omega), (show u.2 + 6 ≤ B.2.2 from by omega)⟩ ?_
  refine el_istore (lv' := [some (.ref bs), some (.ref xa), some (.ref ma), some (.ref oa), some (.int x4), some (.int k9), none]) dc_L_law__1862 rfl (by decide) rfl ?_
  refine el_aload_n dc_L_law__1864 rfl ?_
  refine el_aload_n dc_L_law__1865 rfl ?_
  refine el_iload dc_L_law__1866 rfl ?_
  refine el_iconst (v := 1) dc_L_law__1868 (by decide) ?_
  refine el_iadd dc_L_law__1869 ?_
  refine el_sld dc_L_law__1870 hb1 ?_
  refine el_call2 (av := [.int (xs (x4 + (1 : Int32)).toNatClampNeg)]) (st := []) (st1 := [.int w9]) dc_L_law__1871 (tX12_belief hW2 hm e2) mw_2086 cy_X12_belief hm (by decide) rfl rfl rfl rfl (Nat.le_of_ble_eq_true rfl) (Nat.le_trans (show _ ≤ 1024 from Nat.le_of_ble_eq_true rfl) hB) ⟨(show u.1 + 1 ≤ B.2.1 from by omega), (show u.2 + 6 ≤ B.2.2 from by omega)⟩ ?_
  refine el_istore (lv' := [some (.ref bs), some (.ref xa), some (.ref ma), some (.ref oa), some (.int x4), some (.int k9), some (.int w9)]) dc_L_law__1874 rfl (by decide) rfl ?_
  refine el_aload_n dc_L_law__1876 rfl ?_
  refine el_call2 (av := []) (st := []) (st1 := [.int k9]) dc_L_law__1877 (tX12_thrown hW2 hm e3) mw_1482 cy_X12_thrown hm (by decide) rfl rfl rfl rfl (Nat.le_of_ble_eq_true rfl) (Nat.le_trans (show _ ≤ 1024 from Nat.le_of_ble_eq_true rfl) hB) ⟨(show u.1 + 1 ≤ B.2.1 from by omega), (show u.2 + 6 ≤ B.2.2 from by omega)⟩ ?_
  refine el_iload dc_L_law__1880 rfl ?_
  refine el_icmp_eq (tgt := 1887) dc_L_law__1882 (by decide) (fun _ => ?_) (fun h => absurd rfl h)
  refine el_iload dc_L_law__1887 rfl ?_
  refine el_if_ne (tgt := 1904) dc_L_law__1889 (by decide) (fun hk => ?_) (fun hk => ?_)
  · refine el_goto (tgt := 2718) dc_L_law__1904 (by decide) ?_
    exact el_wid ⟨(show u.1 + 1 ≤ u.1 + 3 from by omega), (show u.2 + 6 ≤ u.2 + 18 from by omega)⟩ (el_sub (K τ1 τ2 hI9) (And.intro rfl (And.intro rfl (And.intro rfl (And.intro rfl (And.intro rfl trivial))))))
  have hk : k9 = 0 := Classical.not_not.mp hk
  refine el_aload_n dc_L_law__1892 rfl ?_
  refine el_iconst (v := 0) dc_L_law__1893 (by decide) ?_
  refine el_lald dc_L_law__1894 ho ho1 ?_
  refine el_iload dc_L_law__1895 rfl ?_
  refine el_i2l dc_L_law__1897 ?_
  refine el_lcmp dc_L_law__1898 ?_
  refine el_if_eq (tgt := 1904) dc_L_law__1899 (by decide) (fun _ => ?_) (fun h => absurd (by rw [e4 hk]; exact lcz) h)
  refine el_goto (tgt := 2718) dc_L_law__1904 (by decide) ?_
  exact el_wid ⟨(show u.1 + 1 ≤ u.1 + 3 from by omega), (show u.2 + 6 ≤ u.2 + 18 from by omega)⟩ (el_sub (K τ1 τ2 hI9) (And.intro rfl (And.intro rfl (And.intro rfl (And.intro rfl (And.intro rfl trivial))))))
def Gd_likeliest (N : Nat) (G1 G2 : pG) (xa ma oa : Nat) (Inv : pS → pS → Prop) : Prop := ∀ (σ1 σ2 : pS), Inv σ1 σ2 → ∃ (v : Int32) (τ2 : pS), fX11_likeliest N G1 xa σ1 = some v ∧ fX12_likeliest N G2 ma σ2 = some (v, τ2) ∧ Inv σ1 τ2
set_option maxRecDepth 100000 in
set_option maxHeartbeats 4000000 in
theorem lc_31 {B : Nat × Nat × Nat} {bs L : Nat} {xs : Nat → Int32} {G1 G2 : pG} {SK : Nat → Nat} {u : Nat × Nat} {σ1 σ2 : pS} {N xa ma oa : Nat} {Inv : pS → pS → Prop} {x4 : Int32} (hW1 : WT G1) (hW2 : WT G2) (hx : Is G1 xa 10) (hm : Is G2 ma 11) (ho : Is G1 oa 14) (ho1 : inB 0 (pN G1 oa) = true) (hg : Gd_likeliest N G1 G2 xa ma oa Inv) (hI : Inv σ1 σ2) (hb1 : vp_in (x4 + (1 : Int32)) L) (hb2 : vp_in (x4 + (2 : Int32)) L) (hb3 : vp_in (x4 + (3 : Int32)) L) (hb4 : vp_in (x4 + (4 : Int32)) L) (hb5 : vp_in (x4 + (5 : Int32)) L) (hB : 1024 ≤ B.1) (hu : u.1 + 3 ≤ B.2.1 ∧ u.2 + 18 ≤ B.2.2) (K : ∀ τ1 τ2 : pS, Inv τ1 τ2 → EvL B bs L xs G1 G2 SK (u.1 + 3, u.2 + 18) 2718 [some (.ref bs), some (.ref xa), some (.ref ma), some (.ref oa), some (.int x4), none, none] [] τ1 τ2) : EvL B bs L xs G1 G2 SK u 1907 [some (.ref bs), some (.ref xa), some (.ref ma), some (.ref oa), some (.int x4), none, none] [] σ1 σ2 := by
  refine el_aload_n dc_L_law__1907 rfl ?_
  obtain ⟨v9, τ2, e1, e2, hI9⟩ := hg _ _ hI
  refine el_call1 (av := []) (st := []) (st1 := [.int v9]) dc_L_law__1908 (tX11_likeliest hW1 hx e1) mw_562 cy_X11_likeliest hx (by decide) rfl rfl rfl rfl (Nat.le_of_ble_eq_true rfl) (Nat.le_trans (show _ ≤ 1024 from Nat.le_of_ble_eq_true rfl) hB) ⟨(show u.1 ≤ B.2.1 from by omega), (show u.2 ≤ B.2.2 from by omega)⟩ ?_
  refine el_aload_n dc_L_law__1911 rfl ?_
  refine el_call2 (av := []) (st := [.int v9]) (st1 := [.int v9, .int v9]) dc_L_law__1912 (tX12_likeliest hW2 hm e2) mw_2094 cy_X12_likeliest hm (by decide) rfl rfl rfl rfl (Nat.le_of_ble_eq_true rfl) (Nat.le_trans (show _ ≤ 1024 from Nat.le_of_ble_eq_true rfl) hB) ⟨(show u.1 ≤ B.2.1 from by omega), (show u.2 ≤ B.2.2 from by omega)⟩ ?_
  refine el_icmp_eq (tgt := 2718) dc_L_law__1915 (by decide) (fun _ => ?_) (fun h => absurd rfl h)
  exact el_wid ⟨(show u.1 ≤ u.1 + 3 from by omega), (show u.2 ≤ u.2 + 18 from by omega)⟩ (el_sub (K σ1 τ2 hI9) (And.intro rfl (And.intro rfl (And.intro rfl (And.intro rfl (And.intro rfl trivial))))))
def Gd_duty (N : Nat) (G1 G2 : pG) (xa ma oa : Nat) (Inv : pS → pS → Prop) : Prop := ∀ (σ1 σ2 : pS), Inv σ1 σ2 → ∀ (c1 : Int32), ∃ (k w : Int32) (τ1 τ2 : pS), fL_duty N G1 xa c1 oa σ1 = some (k, τ1) ∧ fX12_duty N G2 ma c1 σ2 = some (w, τ2) ∧ fX12_thrown N G2 ma τ2 = some k ∧ (k = 0 → gJ τ1 oa 0 = w.toInt64) ∧ Inv τ1 τ2
set_option maxRecDepth 100000 in
set_option maxHeartbeats 4000000 in
theorem lc_32 {B : Nat × Nat × Nat} {bs L : Nat} {xs : Nat → Int32} {G1 G2 : pG} {SK : Nat → Nat} {u : Nat × Nat} {σ1 σ2 : pS} {N xa ma oa : Nat} {Inv : pS → pS → Prop} {x4 : Int32} (hW1 : WT G1) (hW2 : WT G2) (hx : Is G1 xa 10) (hm : Is G2 ma 11) (ho : Is G1 oa 14) (ho1 : inB 0 (pN G1 oa) = true) (hg : Gd_duty N G1 G2 xa ma oa Inv) (hI : Inv σ1 σ2) (hb1 : vp_in (x4 + (1 : Int32)) L) (hb2 : vp_in (x4 + (2 : Int32)) L) (hb3 : vp_in (x4 + (3 : Int32)) L) (hb4 : vp_in (x4 + (4 : Int32)) L) (hb5 : vp_in (x4 + (5 : Int32)) L) (hB : 1024 ≤ B.1) (hu : u.1 + 3 ≤ B.2.1 ∧ u.2 + 18 ≤ B.2.2) (K : ∀ τ1 τ2 : pS, Inv τ1 τ2 → EvL B bs L xs G1 G2 SK (u.1 + 3, u.2 + 18) 2718 [some (.ref bs), some (.ref xa), some (.ref ma), some (.ref oa), some (.int x4), none, none] [] τ1 τ2) : EvL B bs L xs G1 G2 SK u 1920 [some (.ref bs), some (.ref xa), some (.ref ma), some (.ref oa), some (.int x4), none, none] [] σ1 σ2 := by
  refine el_aload_n dc_L_law__1920 rfl ?_
  refine el_aload_n dc_L_law__1921 rfl ?_
  refine el_iload dc_L_law__1922 rfl ?_
  refine el_iconst (v := 1) dc_L_law__1924 (by decide) ?_
  refine el_iadd dc_L_law__1925 ?_
  refine el_sld dc_L_law__1926 hb1 ?_
  refine el_aload_n dc_L_law__1927 rfl ?_
  obtain ⟨k9, w9, τ1, τ2, e1, e2, e3, e4, hI9⟩ := hg _ _ hI (xs (x4 + (1 : Int32)).toNatClampNeg)
  refine el_wrap (av := [.ref xa, .int (xs (x4 + (1 : Int32)).toNatClampNeg), .ref oa]) (st := []) dc_L_law__1928 (tL_duty hW1 hx ho e1) mw_1400 cwL_duty rfl rfl (Nat.le_of_ble_eq_true rfl) (Nat.le_trans (show _ ≤ 1024 from Nat.le_of_ble_eq_true rfl) hB) ⟨(show u.1 + 1 ≤ B.2.1 from by omega), (show u.2 + 6 ≤ B.2.2 from by omega)⟩ ?_
  refine el_istore (lv' := [some (.ref bs), some (.ref xa), some (.ref ma), some (.ref oa), some (.int x4), some (.int k9), none]) dc_L_law__1931 rfl (by decide) rfl ?_
  refine el_aload_n dc_L_law__1933 rfl ?_
  refine el_aload_n dc_L_law__1934 rfl ?_
  refine el_iload dc_L_law__1935 rfl ?_
  refine el_iconst (v := 1) dc_L_law__1937 (by decide) ?_
  refine el_iadd dc_L_law__1938 ?_
  refine el_sld dc_L_law__1939 hb1 ?_
  refine el_call2 (av := [.int (xs (x4 + (1 : Int32)).toNatClampNeg)]) (st := []) (st1 := [.int w9]) dc_L_law__1940 (tX12_duty hW2 hm e2) mw_2130 cy_X12_duty hm (by decide) rfl rfl rfl rfl (Nat.le_of_ble_eq_true rfl) (Nat.le_trans (show _ ≤ 1024 from Nat.le_of_ble_eq_true rfl) hB) ⟨(show u.1 + 1 ≤ B.2.1 from by omega), (show u.2 + 6 ≤ B.2.2 from by omega)⟩ ?_
  refine el_istore (lv' := [some (.ref bs), some (.ref xa), some (.ref ma), some (.ref oa), some (.int x4), some (.int k9), some (.int w9)]) dc_L_law__1943 rfl (by decide) rfl ?_
  refine el_aload_n dc_L_law__1945 rfl ?_
  refine el_call2 (av := []) (st := []) (st1 := [.int k9]) dc_L_law__1946 (tX12_thrown hW2 hm e3) mw_1482 cy_X12_thrown hm (by decide) rfl rfl rfl rfl (Nat.le_of_ble_eq_true rfl) (Nat.le_trans (show _ ≤ 1024 from Nat.le_of_ble_eq_true rfl) hB) ⟨(show u.1 + 1 ≤ B.2.1 from by omega), (show u.2 + 6 ≤ B.2.2 from by omega)⟩ ?_
  refine el_iload dc_L_law__1949 rfl ?_
  refine el_icmp_eq (tgt := 1956) dc_L_law__1951 (by decide) (fun _ => ?_) (fun h => absurd rfl h)
  refine el_iload dc_L_law__1956 rfl ?_
  refine el_if_ne (tgt := 1973) dc_L_law__1958 (by decide) (fun hk => ?_) (fun hk => ?_)
  · refine el_goto (tgt := 2718) dc_L_law__1973 (by decide) ?_
    exact el_wid ⟨(show u.1 + 1 ≤ u.1 + 3 from by omega), (show u.2 + 6 ≤ u.2 + 18 from by omega)⟩ (el_sub (K τ1 τ2 hI9) (And.intro rfl (And.intro rfl (And.intro rfl (And.intro rfl (And.intro rfl trivial))))))
  have hk : k9 = 0 := Classical.not_not.mp hk
  refine el_aload_n dc_L_law__1961 rfl ?_
  refine el_iconst (v := 0) dc_L_law__1962 (by decide) ?_
  refine el_lald dc_L_law__1963 ho ho1 ?_
  refine el_iload dc_L_law__1964 rfl ?_
  refine el_i2l dc_L_law__1966 ?_
  refine el_lcmp dc_L_law__1967 ?_
  refine el_if_eq (tgt := 1973) dc_L_law__1968 (by decide) (fun _ => ?_) (fun h => absurd (by rw [e4 hk]; exact lcz) h)
  refine el_goto (tgt := 2718) dc_L_law__1973 (by decide) ?_
  exact el_wid ⟨(show u.1 + 1 ≤ u.1 + 3 from by omega), (show u.2 + 6 ≤ u.2 + 18 from by omega)⟩ (el_sub (K τ1 τ2 hI9) (And.intro rfl (And.intro rfl (And.intro rfl (And.intro rfl (And.intro rfl trivial))))))
def Gd_cover (N : Nat) (G1 G2 : pG) (xa ma oa : Nat) (Inv : pS → pS → Prop) : Prop := ∀ (σ1 σ2 : pS), Inv σ1 σ2 → ∃ (v : Int32) (τ2 : pS), fX11_cover N G1 xa σ1 = some v ∧ fX12_cover N G2 ma σ2 = some (v, τ2) ∧ Inv σ1 τ2
set_option maxRecDepth 100000 in
set_option maxHeartbeats 4000000 in
theorem lc_33 {B : Nat × Nat × Nat} {bs L : Nat} {xs : Nat → Int32} {G1 G2 : pG} {SK : Nat → Nat} {u : Nat × Nat} {σ1 σ2 : pS} {N xa ma oa : Nat} {Inv : pS → pS → Prop} {x4 : Int32} (hW1 : WT G1) (hW2 : WT G2) (hx : Is G1 xa 10) (hm : Is G2 ma 11) (ho : Is G1 oa 14) (ho1 : inB 0 (pN G1 oa) = true) (hg : Gd_cover N G1 G2 xa ma oa Inv) (hI : Inv σ1 σ2) (hb1 : vp_in (x4 + (1 : Int32)) L) (hb2 : vp_in (x4 + (2 : Int32)) L) (hb3 : vp_in (x4 + (3 : Int32)) L) (hb4 : vp_in (x4 + (4 : Int32)) L) (hb5 : vp_in (x4 + (5 : Int32)) L) (hB : 1024 ≤ B.1) (hu : u.1 + 3 ≤ B.2.1 ∧ u.2 + 18 ≤ B.2.2) (K : ∀ τ1 τ2 : pS, Inv τ1 τ2 → EvL B bs L xs G1 G2 SK (u.1 + 3, u.2 + 18) 2718 [some (.ref bs), some (.ref xa), some (.ref ma), some (.ref oa), some (.int x4), none, none] [] τ1 τ2) : EvL B bs L xs G1 G2 SK u 1976 [some (.ref bs), some (.ref xa), some (.ref ma), some (.ref oa), some (.int x4), none, none] [] σ1 σ2 := by
  refine el_aload_n dc_L_law__1976 rfl ?_
  obtain ⟨v9, τ2, e1, e2, hI9⟩ := hg _ _ hI
  refine el_call1 (av := []) (st := []) (st1 := [.int v9]) dc_L_law__1977 (tX11_cover hW1 hx e1) mw_572 cy_X11_cover hx (by decide) rfl rfl rfl rfl (Nat.le_of_ble_eq_true rfl) (Nat.le_trans (show _ ≤ 1024 from Nat.le_of_ble_eq_true rfl) hB) ⟨(show u.1 ≤ B.2.1 from by omega), (show u.2 ≤ B.2.2 from by omega)⟩ ?_
  refine el_aload_n dc_L_law__1980 rfl ?_
  refine el_call2 (av := []) (st := [.int v9]) (st1 := [.int v9, .int v9]) dc_L_law__1981 (tX12_cover hW2 hm e2) mw_2142 cy_X12_cover hm (by decide) rfl rfl rfl rfl (Nat.le_of_ble_eq_true rfl) (Nat.le_trans (show _ ≤ 1024 from Nat.le_of_ble_eq_true rfl) hB) ⟨(show u.1 ≤ B.2.1 from by omega), (show u.2 ≤ B.2.2 from by omega)⟩ ?_
  refine el_icmp_eq (tgt := 2718) dc_L_law__1984 (by decide) (fun _ => ?_) (fun h => absurd rfl h)
  exact el_wid ⟨(show u.1 ≤ u.1 + 3 from by omega), (show u.2 ≤ u.2 + 18 from by omega)⟩ (el_sub (K σ1 τ2 hI9) (And.intro rfl (And.intro rfl (And.intro rfl (And.intro rfl (And.intro rfl trivial))))))
def Gd_alone (N : Nat) (G1 G2 : pG) (xa ma oa : Nat) (Inv : pS → pS → Prop) : Prop := ∀ (σ1 σ2 : pS), Inv σ1 σ2 → ∃ (v : Int32) (τ2 : pS), fX11_alone N G1 xa σ1 = some v ∧ fX12_alone N G2 ma σ2 = some (v, τ2) ∧ Inv σ1 τ2
set_option maxRecDepth 100000 in
set_option maxHeartbeats 4000000 in
theorem lc_34 {B : Nat × Nat × Nat} {bs L : Nat} {xs : Nat → Int32} {G1 G2 : pG} {SK : Nat → Nat} {u : Nat × Nat} {σ1 σ2 : pS} {N xa ma oa : Nat} {Inv : pS → pS → Prop} {x4 : Int32} (hW1 : WT G1) (hW2 : WT G2) (hx : Is G1 xa 10) (hm : Is G2 ma 11) (ho : Is G1 oa 14) (ho1 : inB 0 (pN G1 oa) = true) (hg : Gd_alone N G1 G2 xa ma oa Inv) (hI : Inv σ1 σ2) (hb1 : vp_in (x4 + (1 : Int32)) L) (hb2 : vp_in (x4 + (2 : Int32)) L) (hb3 : vp_in (x4 + (3 : Int32)) L) (hb4 : vp_in (x4 + (4 : Int32)) L) (hb5 : vp_in (x4 + (5 : Int32)) L) (hB : 1024 ≤ B.1) (hu : u.1 + 3 ≤ B.2.1 ∧ u.2 + 18 ≤ B.2.2) (K : ∀ τ1 τ2 : pS, Inv τ1 τ2 → EvL B bs L xs G1 G2 SK (u.1 + 3, u.2 + 18) 2718 [some (.ref bs), some (.ref xa), some (.ref ma), some (.ref oa), some (.int x4), none, none] [] τ1 τ2) : EvL B bs L xs G1 G2 SK u 1989 [some (.ref bs), some (.ref xa), some (.ref ma), some (.ref oa), some (.int x4), none, none] [] σ1 σ2 := by
  refine el_aload_n dc_L_law__1989 rfl ?_
  obtain ⟨v9, τ2, e1, e2, hI9⟩ := hg _ _ hI
  refine el_call1 (av := []) (st := []) (st1 := [.int v9]) dc_L_law__1990 (tX11_alone hW1 hx e1) mw_581 cy_X11_alone hx (by decide) rfl rfl rfl rfl (Nat.le_of_ble_eq_true rfl) (Nat.le_trans (show _ ≤ 1024 from Nat.le_of_ble_eq_true rfl) hB) ⟨(show u.1 ≤ B.2.1 from by omega), (show u.2 ≤ B.2.2 from by omega)⟩ ?_
  refine el_aload_n dc_L_law__1993 rfl ?_
  refine el_call2 (av := []) (st := [.int v9]) (st1 := [.int v9, .int v9]) dc_L_law__1994 (tX12_alone hW2 hm e2) mw_2150 cy_X12_alone hm (by decide) rfl rfl rfl rfl (Nat.le_of_ble_eq_true rfl) (Nat.le_trans (show _ ≤ 1024 from Nat.le_of_ble_eq_true rfl) hB) ⟨(show u.1 ≤ B.2.1 from by omega), (show u.2 ≤ B.2.2 from by omega)⟩ ?_
  refine el_icmp_eq (tgt := 2718) dc_L_law__1997 (by decide) (fun _ => ?_) (fun h => absurd rfl h)
  exact el_wid ⟨(show u.1 ≤ u.1 + 3 from by omega), (show u.2 ≤ u.2 + 18 from by omega)⟩ (el_sub (K σ1 τ2 hI9) (And.intro rfl (And.intro rfl (And.intro rfl (And.intro rfl (And.intro rfl trivial))))))
def Gd_seals (N : Nat) (G1 G2 : pG) (xa ma oa : Nat) (Inv : pS → pS → Prop) : Prop := ∀ (σ1 σ2 : pS), Inv σ1 σ2 → ∀ (c1 : Int32), ∃ (v : Int32) (τ2 : pS), fX11_seals N G1 xa c1 σ1 = some v ∧ fX12_seals N G2 ma c1 σ2 = some (v, τ2) ∧ Inv σ1 τ2
set_option maxRecDepth 100000 in
set_option maxHeartbeats 4000000 in
theorem lc_35 {B : Nat × Nat × Nat} {bs L : Nat} {xs : Nat → Int32} {G1 G2 : pG} {SK : Nat → Nat} {u : Nat × Nat} {σ1 σ2 : pS} {N xa ma oa : Nat} {Inv : pS → pS → Prop} {x4 : Int32} (hW1 : WT G1) (hW2 : WT G2) (hx : Is G1 xa 10) (hm : Is G2 ma 11) (ho : Is G1 oa 14) (ho1 : inB 0 (pN G1 oa) = true) (hg : Gd_seals N G1 G2 xa ma oa Inv) (hI : Inv σ1 σ2) (hb1 : vp_in (x4 + (1 : Int32)) L) (hb2 : vp_in (x4 + (2 : Int32)) L) (hb3 : vp_in (x4 + (3 : Int32)) L) (hb4 : vp_in (x4 + (4 : Int32)) L) (hb5 : vp_in (x4 + (5 : Int32)) L) (hB : 1024 ≤ B.1) (hu : u.1 + 3 ≤ B.2.1 ∧ u.2 + 18 ≤ B.2.2) (K : ∀ τ1 τ2 : pS, Inv τ1 τ2 → EvL B bs L xs G1 G2 SK (u.1 + 3, u.2 + 18) 2718 [some (.ref bs), some (.ref xa), some (.ref ma), some (.ref oa), some (.int x4), none, none] [] τ1 τ2) : EvL B bs L xs G1 G2 SK u 2002 [some (.ref bs), some (.ref xa), some (.ref ma), some (.ref oa), some (.int x4), none, none] [] σ1 σ2 := by
  refine el_aload_n dc_L_law__2002 rfl ?_
  refine el_aload_n dc_L_law__2003 rfl ?_
  refine el_iload dc_L_law__2004 rfl ?_
  refine el_iconst (v := 1) dc_L_law__2006 (by decide) ?_
  refine el_iadd dc_L_law__2007 ?_
  refine el_sld dc_L_law__2008 hb1 ?_
  obtain ⟨v9, τ2, e1, e2, hI9⟩ := hg _ _ hI (xs (x4 + (1 : Int32)).toNatClampNeg)
  refine el_call1 (av := [.int (xs (x4 + (1 : Int32)).toNatClampNeg)]) (st := []) (st1 := [.int v9]) dc_L_law__2009 (tX11_seals hW1 hx e1) mw_585 cy_X11_seals hx (by decide) rfl rfl rfl rfl (Nat.le_of_ble_eq_true rfl) (Nat.le_trans (show _ ≤ 1024 from Nat.le_of_ble_eq_true rfl) hB) ⟨(show u.1 ≤ B.2.1 from by omega), (show u.2 ≤ B.2.2 from by omega)⟩ ?_
  refine el_aload_n dc_L_law__2012 rfl ?_
  refine el_aload_n dc_L_law__2013 rfl ?_
  refine el_iload dc_L_law__2014 rfl ?_
  refine el_iconst (v := 1) dc_L_law__2016 (by decide) ?_
  refine el_iadd dc_L_law__2017 ?_
  refine el_sld dc_L_law__2018 hb1 ?_
  refine el_call2 (av := [.int (xs (x4 + (1 : Int32)).toNatClampNeg)]) (st := [.int v9]) (st1 := [.int v9, .int v9]) dc_L_law__2019 (tX12_seals hW2 hm e2) mw_2134 cy_X12_seals hm (by decide) rfl rfl rfl rfl (Nat.le_of_ble_eq_true rfl) (Nat.le_trans (show _ ≤ 1024 from Nat.le_of_ble_eq_true rfl) hB) ⟨(show u.1 ≤ B.2.1 from by omega), (show u.2 ≤ B.2.2 from by omega)⟩ ?_
  refine el_icmp_eq (tgt := 2718) dc_L_law__2022 (by decide) (fun _ => ?_) (fun h => absurd rfl h)
  exact el_wid ⟨(show u.1 ≤ u.1 + 3 from by omega), (show u.2 ≤ u.2 + 18 from by omega)⟩ (el_sub (K σ1 τ2 hI9) (And.intro rfl (And.intro rfl (And.intro rfl (And.intro rfl (And.intro rfl trivial))))))
def Gd_began (N : Nat) (G1 G2 : pG) (xa ma oa : Nat) (Inv : pS → pS → Prop) : Prop := ∀ (σ1 σ2 : pS), Inv σ1 σ2 → ∃ (v : Int32) (τ2 : pS), fX11_began N G1 xa σ1 = some v ∧ fX12_began N G2 ma σ2 = some (v, τ2) ∧ Inv σ1 τ2
set_option maxRecDepth 100000 in
set_option maxHeartbeats 4000000 in
theorem lc_36 {B : Nat × Nat × Nat} {bs L : Nat} {xs : Nat → Int32} {G1 G2 : pG} {SK : Nat → Nat} {u : Nat × Nat} {σ1 σ2 : pS} {N xa ma oa : Nat} {Inv : pS → pS → Prop} {x4 : Int32} (hW1 : WT G1) (hW2 : WT G2) (hx : Is G1 xa 10) (hm : Is G2 ma 11) (ho : Is G1 oa 14) (ho1 : inB 0 (pN G1 oa) = true) (hg : Gd_began N G1 G2 xa ma oa Inv) (hI : Inv σ1 σ2) (hb1 : vp_in (x4 + (1 : Int32)) L) (hb2 : vp_in (x4 + (2 : Int32)) L) (hb3 : vp_in (x4 + (3 : Int32)) L) (hb4 : vp_in (x4 + (4 : Int32)) L) (hb5 : vp_in (x4 + (5 : Int32)) L) (hB : 1024 ≤ B.1) (hu : u.1 + 3 ≤ B.2.1 ∧ u.2 + 18 ≤ B.2.2) (K : ∀ τ1 τ2 : pS, Inv τ1 τ2 → EvL B bs L xs G1 G2 SK (u.1 + 3, u.2 + 18) 2718 [some (.ref bs), some (.ref xa), some (.ref ma), some (.ref oa), some (.int x4), none, none] [] τ1 τ2) : EvL B bs L xs G1 G2 SK u 2027 [some (.ref bs), some (.ref xa), some (.ref ma), some (.ref oa), some (.int x4), none, none] [] σ1 σ2 := by
  refine el_aload_n dc_L_law__2027 rfl ?_
  obtain ⟨v9, τ2, e1, e2, hI9⟩ := hg _ _ hI
  refine el_call1 (av := []) (st := []) (st1 := [.int v9]) dc_L_law__2028 (tX11_began hW1 hx e1) mw_589 cy_X11_began hx (by decide) rfl rfl rfl rfl (Nat.le_of_ble_eq_true rfl) (Nat.le_trans (show _ ≤ 1024 from Nat.le_of_ble_eq_true rfl) hB) ⟨(show u.1 ≤ B.2.1 from by omega), (show u.2 ≤ B.2.2 from by omega)⟩ ?_
  refine el_aload_n dc_L_law__2031 rfl ?_
  refine el_call2 (av := []) (st := [.int v9]) (st1 := [.int v9, .int v9]) dc_L_law__2032 (tX12_began hW2 hm e2) mw_2158 cy_X12_began hm (by decide) rfl rfl rfl rfl (Nat.le_of_ble_eq_true rfl) (Nat.le_trans (show _ ≤ 1024 from Nat.le_of_ble_eq_true rfl) hB) ⟨(show u.1 ≤ B.2.1 from by omega), (show u.2 ≤ B.2.2 from by omega)⟩ ?_
  refine el_icmp_eq (tgt := 2718) dc_L_law__2035 (by decide) (fun _ => ?_) (fun h => absurd rfl h)
  exact el_wid ⟨(show u.1 ≤ u.1 + 3 from by omega), (show u.2 ≤ u.2 + 18 from by omega)⟩ (el_sub (K σ1 τ2 hI9) (And.intro rfl (And.intro rfl (And.intro rfl (And.intro rfl (And.intro rfl trivial))))))
def Gd_loudest (N : Nat) (G1 G2 : pG) (xa ma oa : Nat) (Inv : pS → pS → Prop) : Prop := ∀ (σ1 σ2 : pS), Inv σ1 σ2 → ∃ (v : Int32) (τ2 : pS), fX11_loudest N G1 xa σ1 = some v ∧ fX12_loudest N G2 ma σ2 = some (v, τ2) ∧ Inv σ1 τ2
set_option maxRecDepth 100000 in
set_option maxHeartbeats 4000000 in
theorem lc_37 {B : Nat × Nat × Nat} {bs L : Nat} {xs : Nat → Int32} {G1 G2 : pG} {SK : Nat → Nat} {u : Nat × Nat} {σ1 σ2 : pS} {N xa ma oa : Nat} {Inv : pS → pS → Prop} {x4 : Int32} (hW1 : WT G1) (hW2 : WT G2) (hx : Is G1 xa 10) (hm : Is G2 ma 11) (ho : Is G1 oa 14) (ho1 : inB 0 (pN G1 oa) = true) (hg : Gd_loudest N G1 G2 xa ma oa Inv) (hI : Inv σ1 σ2) (hb1 : vp_in (x4 + (1 : Int32)) L) (hb2 : vp_in (x4 + (2 : Int32)) L) (hb3 : vp_in (x4 + (3 : Int32)) L) (hb4 : vp_in (x4 + (4 : Int32)) L) (hb5 : vp_in (x4 + (5 : Int32)) L) (hB : 1024 ≤ B.1) (hu : u.1 + 3 ≤ B.2.1 ∧ u.2 + 18 ≤ B.2.2) (K : ∀ τ1 τ2 : pS, Inv τ1 τ2 → EvL B bs L xs G1 G2 SK (u.1 + 3, u.2 + 18) 2718 [some (.ref bs), some (.ref xa), some (.ref ma), some (.ref oa), some (.int x4), none, none] [] τ1 τ2) : EvL B bs L xs G1 G2 SK u 2040 [some (.ref bs), some (.ref xa), some (.ref ma), some (.ref oa), some (.int x4), none, none] [] σ1 σ2 := by
  refine el_aload_n dc_L_law__2040 rfl ?_
  obtain ⟨v9, τ2, e1, e2, hI9⟩ := hg _ _ hI
  refine el_call1 (av := []) (st := []) (st1 := [.int v9]) dc_L_law__2041 (tX11_loudest hW1 hx e1) mw_602 cy_X11_loudest hx (by decide) rfl rfl rfl rfl (Nat.le_of_ble_eq_true rfl) (Nat.le_trans (show _ ≤ 1024 from Nat.le_of_ble_eq_true rfl) hB) ⟨(show u.1 ≤ B.2.1 from by omega), (show u.2 ≤ B.2.2 from by omega)⟩ ?_
  refine el_aload_n dc_L_law__2044 rfl ?_
  refine el_call2 (av := []) (st := [.int v9]) (st1 := [.int v9, .int v9]) dc_L_law__2045 (tX12_loudest hW2 hm e2) mw_2166 cy_X12_loudest hm (by decide) rfl rfl rfl rfl (Nat.le_of_ble_eq_true rfl) (Nat.le_trans (show _ ≤ 1024 from Nat.le_of_ble_eq_true rfl) hB) ⟨(show u.1 ≤ B.2.1 from by omega), (show u.2 ≤ B.2.2 from by omega)⟩ ?_
  refine el_icmp_eq (tgt := 2718) dc_L_law__2048 (by decide) (fun _ => ?_) (fun h => absurd rfl h)
  exact el_wid ⟨(show u.1 ≤ u.1 + 3 from by omega), (show u.2 ≤ u.2 + 18 from by omega)⟩ (el_sub (K σ1 τ2 hI9) (And.intro rfl (And.intro rfl (And.intro rfl (And.intro rfl (And.intro rfl trivial))))))
def Gd_fits (N : Nat) (G1 G2 : pG) (xa ma oa : Nat) (Inv : pS → pS → Prop) : Prop := ∀ (σ1 σ2 : pS), Inv σ1 σ2 → ∀ (c1 : Int32), ∃ (v : Int32) (τ1 τ2 : pS), fX11_fits N G1 xa c1 σ1 = some (v, τ1) ∧ fX12_fits N G2 ma c1 σ2 = some (v, τ2) ∧ Inv τ1 τ2
set_option maxRecDepth 100000 in
set_option maxHeartbeats 4000000 in
theorem lc_38 {B : Nat × Nat × Nat} {bs L : Nat} {xs : Nat → Int32} {G1 G2 : pG} {SK : Nat → Nat} {u : Nat × Nat} {σ1 σ2 : pS} {N xa ma oa : Nat} {Inv : pS → pS → Prop} {x4 : Int32} (hW1 : WT G1) (hW2 : WT G2) (hx : Is G1 xa 10) (hm : Is G2 ma 11) (ho : Is G1 oa 14) (ho1 : inB 0 (pN G1 oa) = true) (hg : Gd_fits N G1 G2 xa ma oa Inv) (hI : Inv σ1 σ2) (hb1 : vp_in (x4 + (1 : Int32)) L) (hb2 : vp_in (x4 + (2 : Int32)) L) (hb3 : vp_in (x4 + (3 : Int32)) L) (hb4 : vp_in (x4 + (4 : Int32)) L) (hb5 : vp_in (x4 + (5 : Int32)) L) (hB : 1024 ≤ B.1) (hu : u.1 + 3 ≤ B.2.1 ∧ u.2 + 18 ≤ B.2.2) (K : ∀ τ1 τ2 : pS, Inv τ1 τ2 → EvL B bs L xs G1 G2 SK (u.1 + 3, u.2 + 18) 2718 [some (.ref bs), some (.ref xa), some (.ref ma), some (.ref oa), some (.int x4), none, none] [] τ1 τ2) : EvL B bs L xs G1 G2 SK u 2053 [some (.ref bs), some (.ref xa), some (.ref ma), some (.ref oa), some (.int x4), none, none] [] σ1 σ2 := by
  refine el_aload_n dc_L_law__2053 rfl ?_
  refine el_aload_n dc_L_law__2054 rfl ?_
  refine el_iload dc_L_law__2055 rfl ?_
  refine el_iconst (v := 1) dc_L_law__2057 (by decide) ?_
  refine el_iadd dc_L_law__2058 ?_
  refine el_sld dc_L_law__2059 hb1 ?_
  obtain ⟨v9, τ1, τ2, e1, e2, hI9⟩ := hg _ _ hI (xs (x4 + (1 : Int32)).toNatClampNeg)
  refine el_call1 (av := [.int (xs (x4 + (1 : Int32)).toNatClampNeg)]) (st := []) (st1 := [.int v9]) dc_L_law__2060 (tX11_fits hW1 hx e1) mw_467 cy_X11_fits hx (by decide) rfl rfl rfl rfl (Nat.le_of_ble_eq_true rfl) (Nat.le_trans (show _ ≤ 1024 from Nat.le_of_ble_eq_true rfl) hB) ⟨(show u.1 ≤ B.2.1 from by omega), (show u.2 ≤ B.2.2 from by omega)⟩ ?_
  refine el_aload_n dc_L_law__2063 rfl ?_
  refine el_aload_n dc_L_law__2064 rfl ?_
  refine el_iload dc_L_law__2065 rfl ?_
  refine el_iconst (v := 1) dc_L_law__2067 (by decide) ?_
  refine el_iadd dc_L_law__2068 ?_
  refine el_sld dc_L_law__2069 hb1 ?_
  refine el_call2 (av := [.int (xs (x4 + (1 : Int32)).toNatClampNeg)]) (st := [.int v9]) (st1 := [.int v9, .int v9]) dc_L_law__2070 (tX12_fits hW2 hm e2) mw_1894 cy_X12_fits hm (by decide) rfl rfl rfl rfl (Nat.le_of_ble_eq_true rfl) (Nat.le_trans (show _ ≤ 1024 from Nat.le_of_ble_eq_true rfl) hB) ⟨(show u.1 ≤ B.2.1 from by omega), (show u.2 ≤ B.2.2 from by omega)⟩ ?_
  refine el_icmp_eq (tgt := 2718) dc_L_law__2073 (by decide) (fun _ => ?_) (fun h => absurd rfl h)
  exact el_wid ⟨(show u.1 ≤ u.1 + 3 from by omega), (show u.2 ≤ u.2 + 18 from by omega)⟩ (el_sub (K τ1 τ2 hI9) (And.intro rfl (And.intro rfl (And.intro rfl (And.intro rfl (And.intro rfl trivial))))))
def Gd_cheapest (N : Nat) (G1 G2 : pG) (xa ma oa : Nat) (Inv : pS → pS → Prop) : Prop := ∀ (σ1 σ2 : pS), Inv σ1 σ2 → ∀ (c1 : Int32) (c2 : Int32), (isZ c2 = true) → ∃ (k w : Int32) (τ1 τ2 : pS), fL_cheapest N G1 xa c1 c2 oa σ1 = some (k, τ1) ∧ fX12_cheapest N G2 ma c1 c2 σ2 = some (w, τ2) ∧ fX12_thrown N G2 ma τ2 = some k ∧ (k = 0 → gJ τ1 oa 0 = w.toInt64) ∧ Inv τ1 τ2
set_option maxRecDepth 100000 in
set_option maxHeartbeats 4000000 in
theorem lc_39 {B : Nat × Nat × Nat} {bs L : Nat} {xs : Nat → Int32} {G1 G2 : pG} {SK : Nat → Nat} {u : Nat × Nat} {σ1 σ2 : pS} {N xa ma oa : Nat} {Inv : pS → pS → Prop} {x4 : Int32} (hW1 : WT G1) (hW2 : WT G2) (hx : Is G1 xa 10) (hm : Is G2 ma 11) (ho : Is G1 oa 14) (ho1 : inB 0 (pN G1 oa) = true) (hg : Gd_cheapest N G1 G2 xa ma oa Inv) (hI : Inv σ1 σ2) (hb1 : vp_in (x4 + (1 : Int32)) L) (hb2 : vp_in (x4 + (2 : Int32)) L) (hb3 : vp_in (x4 + (3 : Int32)) L) (hb4 : vp_in (x4 + (4 : Int32)) L) (hb5 : vp_in (x4 + (5 : Int32)) L) (hB : 1024 ≤ B.1) (hu : u.1 + 3 ≤ B.2.1 ∧ u.2 + 18 ≤ B.2.2) (K : ∀ τ1 τ2 : pS, Inv τ1 τ2 → EvL B bs L xs G1 G2 SK (u.1 + 3, u.2 + 18) 2718 [some (.ref bs), some (.ref xa), some (.ref ma), some (.ref oa), some (.int x4), none, none] [] τ1 τ2) : EvL B bs L xs G1 G2 SK u 2078 [some (.ref bs), some (.ref xa), some (.ref ma), some (.ref oa), some (.int x4), none, none] [] σ1 σ2 := by
  refine el_aload_n dc_L_law__2078 rfl ?_
  refine el_aload_n dc_L_law__2079 rfl ?_
  refine el_iload dc_L_law__2080 rfl ?_
  refine el_iconst (v := 1) dc_L_law__2082 (by decide) ?_
  refine el_iadd dc_L_law__2083 ?_
  refine el_sld dc_L_law__2084 hb1 ?_
  refine el_aload_n dc_L_law__2085 rfl ?_
  refine el_iload dc_L_law__2086 rfl ?_
  refine el_iconst (v := 2) dc_L_law__2088 (by decide) ?_
  refine el_iadd dc_L_law__2089 ?_
  refine el_sld dc_L_law__2090 hb2 ?_
  refine el_if_eq (tgt := 2098) dc_L_law__2091 (by decide) (fun hz1 => ?_) (fun hz1 => ?_)
  · refine el_iconst (v := 0) dc_L_law__2098 (by decide) ?_
    refine el_aload_n dc_L_law__2099 rfl ?_
    obtain ⟨k9, w9, τ1, τ2, e1, e2, e3, e4, hI9⟩ := hg _ _ hI (xs (x4 + (1 : Int32)).toNatClampNeg) (0 : Int32) (by decide)
    refine el_wrap (av := [.ref xa, .int (xs (x4 + (1 : Int32)).toNatClampNeg), .int (0 : Int32), .ref oa]) (st := []) dc_L_law__2100 (tL_cheapest hW1 hx ho e1) mw_1408 cwL_cheapest rfl rfl (Nat.le_of_ble_eq_true rfl) (Nat.le_trans (show _ ≤ 1024 from Nat.le_of_ble_eq_true rfl) hB) ⟨(show u.1 + 1 ≤ B.2.1 from by omega), (show u.2 + 6 ≤ B.2.2 from by omega)⟩ ?_
    refine el_istore (lv' := [some (.ref bs), some (.ref xa), some (.ref ma), some (.ref oa), some (.int x4), some (.int k9), none]) dc_L_law__2103 rfl (by decide) rfl ?_
    refine el_aload_n dc_L_law__2105 rfl ?_
    refine el_aload_n dc_L_law__2106 rfl ?_
    refine el_iload dc_L_law__2107 rfl ?_
    refine el_iconst (v := 1) dc_L_law__2109 (by decide) ?_
    refine el_iadd dc_L_law__2110 ?_
    refine el_sld dc_L_law__2111 hb1 ?_
    refine el_aload_n dc_L_law__2112 rfl ?_
    refine el_iload dc_L_law__2113 rfl ?_
    refine el_iconst (v := 2) dc_L_law__2115 (by decide) ?_
    refine el_iadd dc_L_law__2116 ?_
    refine el_sld dc_L_law__2117 hb2 ?_
    refine el_if_eq (tgt := 2125) dc_L_law__2118 (by decide) (fun _ => ?_) (fun h => absurd hz1 h)
    refine el_iconst (v := 0) dc_L_law__2125 (by decide) ?_
    refine el_call2 (av := [.int (xs (x4 + (1 : Int32)).toNatClampNeg), .int (0 : Int32)]) (st := []) (st1 := [.int w9]) dc_L_law__2126 (tX12_cheapest hW2 hm e2) mw_2154 cy_X12_cheapest hm (by decide) rfl rfl rfl rfl (Nat.le_of_ble_eq_true rfl) (Nat.le_trans (show _ ≤ 1024 from Nat.le_of_ble_eq_true rfl) hB) ⟨(show u.1 + 1 ≤ B.2.1 from by omega), (show u.2 + 6 ≤ B.2.2 from by omega)⟩ ?_
    refine el_istore (lv' := [some (.ref bs), some (.ref xa), some (.ref ma), some (.ref oa), some (.int x4), some (.int k9), some (.int w9)]) dc_L_law__2129 rfl (by decide) rfl ?_
    refine el_aload_n dc_L_law__2131 rfl ?_
    refine el_call2 (av := []) (st := []) (st1 := [.int k9]) dc_L_law__2132 (tX12_thrown hW2 hm e3) mw_1482 cy_X12_thrown hm (by decide) rfl rfl rfl rfl (Nat.le_of_ble_eq_true rfl) (Nat.le_trans (show _ ≤ 1024 from Nat.le_of_ble_eq_true rfl) hB) ⟨(show u.1 + 1 ≤ B.2.1 from by omega), (show u.2 + 6 ≤ B.2.2 from by omega)⟩ ?_
    refine el_iload dc_L_law__2135 rfl ?_
    refine el_icmp_eq (tgt := 2142) dc_L_law__2137 (by decide) (fun _ => ?_) (fun h => absurd rfl h)
    refine el_iload dc_L_law__2142 rfl ?_
    refine el_if_ne (tgt := 2159) dc_L_law__2144 (by decide) (fun hk => ?_) (fun hk => ?_)
    · refine el_goto (tgt := 2718) dc_L_law__2159 (by decide) ?_
      exact el_wid ⟨(show u.1 + 1 ≤ u.1 + 3 from by omega), (show u.2 + 6 ≤ u.2 + 18 from by omega)⟩ (el_sub (K τ1 τ2 hI9) (And.intro rfl (And.intro rfl (And.intro rfl (And.intro rfl (And.intro rfl trivial))))))
    have hk : k9 = 0 := Classical.not_not.mp hk
    refine el_aload_n dc_L_law__2147 rfl ?_
    refine el_iconst (v := 0) dc_L_law__2148 (by decide) ?_
    refine el_lald dc_L_law__2149 ho ho1 ?_
    refine el_iload dc_L_law__2150 rfl ?_
    refine el_i2l dc_L_law__2152 ?_
    refine el_lcmp dc_L_law__2153 ?_
    refine el_if_eq (tgt := 2159) dc_L_law__2154 (by decide) (fun _ => ?_) (fun h => absurd (by rw [e4 hk]; exact lcz) h)
    refine el_goto (tgt := 2718) dc_L_law__2159 (by decide) ?_
    exact el_wid ⟨(show u.1 + 1 ≤ u.1 + 3 from by omega), (show u.2 + 6 ≤ u.2 + 18 from by omega)⟩ (el_sub (K τ1 τ2 hI9) (And.intro rfl (And.intro rfl (And.intro rfl (And.intro rfl (And.intro rfl trivial))))))
  refine el_iconst (v := 1) dc_L_law__2094 (by decide) ?_
  refine el_goto (tgt := 2099) dc_L_law__2095 (by decide) ?_
  refine el_aload_n dc_L_law__2099 rfl ?_
  obtain ⟨k9, w9, τ1, τ2, e1, e2, e3, e4, hI9⟩ := hg _ _ hI (xs (x4 + (1 : Int32)).toNatClampNeg) (1 : Int32) (by decide)
  refine el_wrap (av := [.ref xa, .int (xs (x4 + (1 : Int32)).toNatClampNeg), .int (1 : Int32), .ref oa]) (st := []) dc_L_law__2100 (tL_cheapest hW1 hx ho e1) mw_1408 cwL_cheapest rfl rfl (Nat.le_of_ble_eq_true rfl) (Nat.le_trans (show _ ≤ 1024 from Nat.le_of_ble_eq_true rfl) hB) ⟨(show u.1 + 1 ≤ B.2.1 from by omega), (show u.2 + 6 ≤ B.2.2 from by omega)⟩ ?_
  refine el_istore (lv' := [some (.ref bs), some (.ref xa), some (.ref ma), some (.ref oa), some (.int x4), some (.int k9), none]) dc_L_law__2103 rfl (by decide) rfl ?_
  refine el_aload_n dc_L_law__2105 rfl ?_
  refine el_aload_n dc_L_law__2106 rfl ?_
  refine el_iload dc_L_law__2107 rfl ?_
  refine el_iconst (v := 1) dc_L_law__2109 (by decide) ?_
  refine el_iadd dc_L_law__2110 ?_
  refine el_sld dc_L_law__2111 hb1 ?_
  refine el_aload_n dc_L_law__2112 rfl ?_
  refine el_iload dc_L_law__2113 rfl ?_
  refine el_iconst (v := 2) dc_L_law__2115 (by decide) ?_
  refine el_iadd dc_L_law__2116 ?_
  refine el_sld dc_L_law__2117 hb2 ?_
  refine el_if_eq (tgt := 2125) dc_L_law__2118 (by decide) (fun h => absurd h hz1) (fun _ => ?_)
  refine el_iconst (v := 1) dc_L_law__2121 (by decide) ?_
  refine el_goto (tgt := 2126) dc_L_law__2122 (by decide) ?_
  refine el_call2 (av := [.int (xs (x4 + (1 : Int32)).toNatClampNeg), .int (1 : Int32)]) (st := []) (st1 := [.int w9]) dc_L_law__2126 (tX12_cheapest hW2 hm e2) mw_2154 cy_X12_cheapest hm (by decide) rfl rfl rfl rfl (Nat.le_of_ble_eq_true rfl) (Nat.le_trans (show _ ≤ 1024 from Nat.le_of_ble_eq_true rfl) hB) ⟨(show u.1 + 1 ≤ B.2.1 from by omega), (show u.2 + 6 ≤ B.2.2 from by omega)⟩ ?_
  refine el_istore (lv' := [some (.ref bs), some (.ref xa), some (.ref ma), some (.ref oa), some (.int x4), some (.int k9), some (.int w9)]) dc_L_law__2129 rfl (by decide) rfl ?_
  refine el_aload_n dc_L_law__2131 rfl ?_
  refine el_call2 (av := []) (st := []) (st1 := [.int k9]) dc_L_law__2132 (tX12_thrown hW2 hm e3) mw_1482 cy_X12_thrown hm (by decide) rfl rfl rfl rfl (Nat.le_of_ble_eq_true rfl) (Nat.le_trans (show _ ≤ 1024 from Nat.le_of_ble_eq_true rfl) hB) ⟨(show u.1 + 1 ≤ B.2.1 from by omega), (show u.2 + 6 ≤ B.2.2 from by omega)⟩ ?_
  refine el_iload dc_L_law__2135 rfl ?_
  refine el_icmp_eq (tgt := 2142) dc_L_law__2137 (by decide) (fun _ => ?_) (fun h => absurd rfl h)
  refine el_iload dc_L_law__2142 rfl ?_
  refine el_if_ne (tgt := 2159) dc_L_law__2144 (by decide) (fun hk => ?_) (fun hk => ?_)
  · refine el_goto (tgt := 2718) dc_L_law__2159 (by decide) ?_
    exact el_wid ⟨(show u.1 + 1 ≤ u.1 + 3 from by omega), (show u.2 + 6 ≤ u.2 + 18 from by omega)⟩ (el_sub (K τ1 τ2 hI9) (And.intro rfl (And.intro rfl (And.intro rfl (And.intro rfl (And.intro rfl trivial))))))
  have hk : k9 = 0 := Classical.not_not.mp hk
  refine el_aload_n dc_L_law__2147 rfl ?_
  refine el_iconst (v := 0) dc_L_law__2148 (by decide) ?_
  refine el_lald dc_L_law__2149 ho ho1 ?_
  refine el_iload dc_L_law__2150 rfl ?_
  refine el_i2l dc_L_law__2152 ?_
  refine el_lcmp dc_L_law__2153 ?_
  refine el_if_eq (tgt := 2159) dc_L_law__2154 (by decide) (fun _ => ?_) (fun h => absurd (by rw [e4 hk]; exact lcz) h)
  refine el_goto (tgt := 2718) dc_L_law__2159 (by decide) ?_
  exact el_wid ⟨(show u.1 + 1 ≤ u.1 + 3 from by omega), (show u.2 + 6 ≤ u.2 + 18 from by omega)⟩ (el_sub (K τ1 τ2 hI9) (And.intro rfl (And.intro rfl (And.intro rfl (And.intro rfl (And.intro rfl trivial))))))
def Gd_sharpest (N : Nat) (G1 G2 : pG) (xa ma oa : Nat) (Inv : pS → pS → Prop) : Prop := ∀ (σ1 σ2 : pS), Inv σ1 σ2 → ∀ (c1 : Int32), ∃ (k w : Int32) (τ1 τ2 : pS), fL_sharpest N G1 xa c1 oa σ1 = some (k, τ1) ∧ fX12_sharpest N G2 ma c1 σ2 = some (w, τ2) ∧ fX12_thrown N G2 ma τ2 = some k ∧ (k = 0 → gJ τ1 oa 0 = w.toInt64) ∧ Inv τ1 τ2
set_option maxRecDepth 100000 in
set_option maxHeartbeats 4000000 in
theorem lc_40 {B : Nat × Nat × Nat} {bs L : Nat} {xs : Nat → Int32} {G1 G2 : pG} {SK : Nat → Nat} {u : Nat × Nat} {σ1 σ2 : pS} {N xa ma oa : Nat} {Inv : pS → pS → Prop} {x4 : Int32} (hW1 : WT G1) (hW2 : WT G2) (hx : Is G1 xa 10) (hm : Is G2 ma 11) (ho : Is G1 oa 14) (ho1 : inB 0 (pN G1 oa) = true) (hg : Gd_sharpest N G1 G2 xa ma oa Inv) (hI : Inv σ1 σ2) (hb1 : vp_in (x4 + (1 : Int32)) L) (hb2 : vp_in (x4 + (2 : Int32)) L) (hb3 : vp_in (x4 + (3 : Int32)) L) (hb4 : vp_in (x4 + (4 : Int32)) L) (hb5 : vp_in (x4 + (5 : Int32)) L) (hB : 1024 ≤ B.1) (hu : u.1 + 3 ≤ B.2.1 ∧ u.2 + 18 ≤ B.2.2) (K : ∀ τ1 τ2 : pS, Inv τ1 τ2 → EvL B bs L xs G1 G2 SK (u.1 + 3, u.2 + 18) 2718 [some (.ref bs), some (.ref xa), some (.ref ma), some (.ref oa), some (.int x4), none, none] [] τ1 τ2) : EvL B bs L xs G1 G2 SK u 2162 [some (.ref bs), some (.ref xa), some (.ref ma), some (.ref oa), some (.int x4), none, none] [] σ1 σ2 := by
  refine el_aload_n dc_L_law__2162 rfl ?_
  refine el_aload_n dc_L_law__2163 rfl ?_
  refine el_iload dc_L_law__2164 rfl ?_
  refine el_iconst (v := 1) dc_L_law__2166 (by decide) ?_
  refine el_iadd dc_L_law__2167 ?_
  refine el_sld dc_L_law__2168 hb1 ?_
  refine el_aload_n dc_L_law__2169 rfl ?_
  obtain ⟨k9, w9, τ1, τ2, e1, e2, e3, e4, hI9⟩ := hg _ _ hI (xs (x4 + (1 : Int32)).toNatClampNeg)
  refine el_wrap (av := [.ref xa, .int (xs (x4 + (1 : Int32)).toNatClampNeg), .ref oa]) (st := []) dc_L_law__2170 (tL_sharpest hW1 hx ho e1) mw_1423 cwL_sharpest rfl rfl (Nat.le_of_ble_eq_true rfl) (Nat.le_trans (show _ ≤ 1024 from Nat.le_of_ble_eq_true rfl) hB) ⟨(show u.1 + 1 ≤ B.2.1 from by omega), (show u.2 + 6 ≤ B.2.2 from by omega)⟩ ?_
  refine el_istore (lv' := [some (.ref bs), some (.ref xa), some (.ref ma), some (.ref oa), some (.int x4), some (.int k9), none]) dc_L_law__2173 rfl (by decide) rfl ?_
  refine el_aload_n dc_L_law__2175 rfl ?_
  refine el_aload_n dc_L_law__2176 rfl ?_
  refine el_iload dc_L_law__2177 rfl ?_
  refine el_iconst (v := 1) dc_L_law__2179 (by decide) ?_
  refine el_iadd dc_L_law__2180 ?_
  refine el_sld dc_L_law__2181 hb1 ?_
  refine el_call2 (av := [.int (xs (x4 + (1 : Int32)).toNatClampNeg)]) (st := []) (st1 := [.int w9]) dc_L_law__2182 (tX12_sharpest hW2 hm e2) mw_1890 cy_X12_sharpest hm (by decide) rfl rfl rfl rfl (Nat.le_of_ble_eq_true rfl) (Nat.le_trans (show _ ≤ 1024 from Nat.le_of_ble_eq_true rfl) hB) ⟨(show u.1 + 1 ≤ B.2.1 from by omega), (show u.2 + 6 ≤ B.2.2 from by omega)⟩ ?_
  refine el_istore (lv' := [some (.ref bs), some (.ref xa), some (.ref ma), some (.ref oa), some (.int x4), some (.int k9), some (.int w9)]) dc_L_law__2185 rfl (by decide) rfl ?_
  refine el_aload_n dc_L_law__2187 rfl ?_
  refine el_call2 (av := []) (st := []) (st1 := [.int k9]) dc_L_law__2188 (tX12_thrown hW2 hm e3) mw_1482 cy_X12_thrown hm (by decide) rfl rfl rfl rfl (Nat.le_of_ble_eq_true rfl) (Nat.le_trans (show _ ≤ 1024 from Nat.le_of_ble_eq_true rfl) hB) ⟨(show u.1 + 1 ≤ B.2.1 from by omega), (show u.2 + 6 ≤ B.2.2 from by omega)⟩ ?_
  refine el_iload dc_L_law__2191 rfl ?_
  refine el_icmp_eq (tgt := 2198) dc_L_law__2193 (by decide) (fun _ => ?_) (fun h => absurd rfl h)
  refine el_iload dc_L_law__2198 rfl ?_
  refine el_if_ne (tgt := 2215) dc_L_law__2200 (by decide) (fun hk => ?_) (fun hk => ?_)
  · refine el_goto (tgt := 2718) dc_L_law__2215 (by decide) ?_
    exact el_wid ⟨(show u.1 + 1 ≤ u.1 + 3 from by omega), (show u.2 + 6 ≤ u.2 + 18 from by omega)⟩ (el_sub (K τ1 τ2 hI9) (And.intro rfl (And.intro rfl (And.intro rfl (And.intro rfl (And.intro rfl trivial))))))
  have hk : k9 = 0 := Classical.not_not.mp hk
  refine el_aload_n dc_L_law__2203 rfl ?_
  refine el_iconst (v := 0) dc_L_law__2204 (by decide) ?_
  refine el_lald dc_L_law__2205 ho ho1 ?_
  refine el_iload dc_L_law__2206 rfl ?_
  refine el_i2l dc_L_law__2208 ?_
  refine el_lcmp dc_L_law__2209 ?_
  refine el_if_eq (tgt := 2215) dc_L_law__2210 (by decide) (fun _ => ?_) (fun h => absurd (by rw [e4 hk]; exact lcz) h)
  refine el_goto (tgt := 2718) dc_L_law__2215 (by decide) ?_
  exact el_wid ⟨(show u.1 + 1 ≤ u.1 + 3 from by omega), (show u.2 + 6 ≤ u.2 + 18 from by omega)⟩ (el_sub (K τ1 τ2 hI9) (And.intro rfl (And.intro rfl (And.intro rfl (And.intro rfl (And.intro rfl trivial))))))
def Gd_shared (N : Nat) (G1 G2 : pG) (xa ma oa : Nat) (Inv : pS → pS → Prop) : Prop := ∀ (σ1 σ2 : pS), Inv σ1 σ2 → ∃ (v : Int32) (τ2 : pS), fX11_shared N G1 xa σ1 = some v ∧ fX12_shared N G2 ma σ2 = some (v, τ2) ∧ Inv σ1 τ2
set_option maxRecDepth 100000 in
set_option maxHeartbeats 4000000 in
theorem lc_41 {B : Nat × Nat × Nat} {bs L : Nat} {xs : Nat → Int32} {G1 G2 : pG} {SK : Nat → Nat} {u : Nat × Nat} {σ1 σ2 : pS} {N xa ma oa : Nat} {Inv : pS → pS → Prop} {x4 : Int32} (hW1 : WT G1) (hW2 : WT G2) (hx : Is G1 xa 10) (hm : Is G2 ma 11) (ho : Is G1 oa 14) (ho1 : inB 0 (pN G1 oa) = true) (hg : Gd_shared N G1 G2 xa ma oa Inv) (hI : Inv σ1 σ2) (hb1 : vp_in (x4 + (1 : Int32)) L) (hb2 : vp_in (x4 + (2 : Int32)) L) (hb3 : vp_in (x4 + (3 : Int32)) L) (hb4 : vp_in (x4 + (4 : Int32)) L) (hb5 : vp_in (x4 + (5 : Int32)) L) (hB : 1024 ≤ B.1) (hu : u.1 + 3 ≤ B.2.1 ∧ u.2 + 18 ≤ B.2.2) (K : ∀ τ1 τ2 : pS, Inv τ1 τ2 → EvL B bs L xs G1 G2 SK (u.1 + 3, u.2 + 18) 2718 [some (.ref bs), some (.ref xa), some (.ref ma), some (.ref oa), some (.int x4), none, none] [] τ1 τ2) : EvL B bs L xs G1 G2 SK u 2218 [some (.ref bs), some (.ref xa), some (.ref ma), some (.ref oa), some (.int x4), none, none] [] σ1 σ2 := by
  refine el_aload_n dc_L_law__2218 rfl ?_
  obtain ⟨v9, τ2, e1, e2, hI9⟩ := hg _ _ hI
  refine el_call1 (av := []) (st := []) (st1 := [.int v9]) dc_L_law__2219 (tX11_shared hW1 hx e1) mw_568 cy_X11_shared hx (by decide) rfl rfl rfl rfl (Nat.le_of_ble_eq_true rfl) (Nat.le_trans (show _ ≤ 1024 from Nat.le_of_ble_eq_true rfl) hB) ⟨(show u.1 ≤ B.2.1 from by omega), (show u.2 ≤ B.2.2 from by omega)⟩ ?_
  refine el_aload_n dc_L_law__2222 rfl ?_
  refine el_call2 (av := []) (st := [.int v9]) (st1 := [.int v9, .int v9]) dc_L_law__2223 (tX12_shared hW2 hm e2) mw_2122 cy_X12_shared hm (by decide) rfl rfl rfl rfl (Nat.le_of_ble_eq_true rfl) (Nat.le_trans (show _ ≤ 1024 from Nat.le_of_ble_eq_true rfl) hB) ⟨(show u.1 ≤ B.2.1 from by omega), (show u.2 ≤ B.2.2 from by omega)⟩ ?_
  refine el_icmp_eq (tgt := 2718) dc_L_law__2226 (by decide) (fun _ => ?_) (fun h => absurd rfl h)
  exact el_wid ⟨(show u.1 ≤ u.1 + 3 from by omega), (show u.2 ≤ u.2 + 18 from by omega)⟩ (el_sub (K σ1 τ2 hI9) (And.intro rfl (And.intro rfl (And.intro rfl (And.intro rfl (And.intro rfl trivial))))))
def Gd_similar (N : Nat) (G1 G2 : pG) (xa ma oa : Nat) (Inv : pS → pS → Prop) : Prop := ∀ (σ1 σ2 : pS), Inv σ1 σ2 → ∀ (c1 : Int32) (c2 : Int32), ∃ (k w : Int32) (τ1 τ2 : pS), fL_similar N G1 xa c1 c2 oa σ1 = some (k, τ1) ∧ fX12_similar N G2 ma c1 c2 σ2 = some (w, τ2) ∧ fX12_thrown N G2 ma τ2 = some k ∧ (k = 0 → gJ τ1 oa 0 = w.toInt64) ∧ Inv τ1 τ2
set_option maxRecDepth 100000 in
set_option maxHeartbeats 4000000 in
theorem lc_42 {B : Nat × Nat × Nat} {bs L : Nat} {xs : Nat → Int32} {G1 G2 : pG} {SK : Nat → Nat} {u : Nat × Nat} {σ1 σ2 : pS} {N xa ma oa : Nat} {Inv : pS → pS → Prop} {x4 : Int32} (hW1 : WT G1) (hW2 : WT G2) (hx : Is G1 xa 10) (hm : Is G2 ma 11) (ho : Is G1 oa 14) (ho1 : inB 0 (pN G1 oa) = true) (hg : Gd_similar N G1 G2 xa ma oa Inv) (hI : Inv σ1 σ2) (hb1 : vp_in (x4 + (1 : Int32)) L) (hb2 : vp_in (x4 + (2 : Int32)) L) (hb3 : vp_in (x4 + (3 : Int32)) L) (hb4 : vp_in (x4 + (4 : Int32)) L) (hb5 : vp_in (x4 + (5 : Int32)) L) (hB : 1024 ≤ B.1) (hu : u.1 + 3 ≤ B.2.1 ∧ u.2 + 18 ≤ B.2.2) (K : ∀ τ1 τ2 : pS, Inv τ1 τ2 → EvL B bs L xs G1 G2 SK (u.1 + 3, u.2 + 18) 2718 [some (.ref bs), some (.ref xa), some (.ref ma), some (.ref oa), some (.int x4), none, none] [] τ1 τ2) : EvL B bs L xs G1 G2 SK u 2231 [some (.ref bs), some (.ref xa), some (.ref ma), some (.ref oa), some (.int x4), none, none] [] σ1 σ2 := by
  refine el_aload_n dc_L_law__2231 rfl ?_
  refine el_aload_n dc_L_law__2232 rfl ?_
  refine el_iload dc_L_law__2233 rfl ?_
  refine el_iconst (v := 1) dc_L_law__2235 (by decide) ?_
  refine el_iadd dc_L_law__2236 ?_
  refine el_sld dc_L_law__2237 hb1 ?_
  refine el_aload_n dc_L_law__2238 rfl ?_
  refine el_iload dc_L_law__2239 rfl ?_
  refine el_iconst (v := 2) dc_L_law__2241 (by decide) ?_
  refine el_iadd dc_L_law__2242 ?_
  refine el_sld dc_L_law__2243 hb2 ?_
  refine el_aload_n dc_L_law__2244 rfl ?_
  obtain ⟨k9, w9, τ1, τ2, e1, e2, e3, e4, hI9⟩ := hg _ _ hI (xs (x4 + (1 : Int32)).toNatClampNeg) (xs (x4 + (2 : Int32)).toNatClampNeg)
  refine el_wrap (av := [.ref xa, .int (xs (x4 + (1 : Int32)).toNatClampNeg), .int (xs (x4 + (2 : Int32)).toNatClampNeg), .ref oa]) (st := []) dc_L_law__2245 (tL_similar hW1 hx ho e1) mw_1430 cwL_similar rfl rfl (Nat.le_of_ble_eq_true rfl) (Nat.le_trans (show _ ≤ 1024 from Nat.le_of_ble_eq_true rfl) hB) ⟨(show u.1 + 2 ≤ B.2.1 from by omega), (show u.2 + 12 ≤ B.2.2 from by omega)⟩ ?_
  refine el_istore (lv' := [some (.ref bs), some (.ref xa), some (.ref ma), some (.ref oa), some (.int x4), some (.int k9), none]) dc_L_law__2248 rfl (by decide) rfl ?_
  refine el_aload_n dc_L_law__2250 rfl ?_
  refine el_aload_n dc_L_law__2251 rfl ?_
  refine el_iload dc_L_law__2252 rfl ?_
  refine el_iconst (v := 1) dc_L_law__2254 (by decide) ?_
  refine el_iadd dc_L_law__2255 ?_
  refine el_sld dc_L_law__2256 hb1 ?_
  refine el_aload_n dc_L_law__2257 rfl ?_
  refine el_iload dc_L_law__2258 rfl ?_
  refine el_iconst (v := 2) dc_L_law__2260 (by decide) ?_
  refine el_iadd dc_L_law__2261 ?_
  refine el_sld dc_L_law__2262 hb2 ?_
  refine el_call2 (av := [.int (xs (x4 + (1 : Int32)).toNatClampNeg), .int (xs (x4 + (2 : Int32)).toNatClampNeg)]) (st := []) (st1 := [.int w9]) dc_L_law__2263 (tX12_similar hW2 hm e2) mw_2126 cy_X12_similar hm (by decide) rfl rfl rfl rfl (Nat.le_of_ble_eq_true rfl) (Nat.le_trans (show _ ≤ 1024 from Nat.le_of_ble_eq_true rfl) hB) ⟨(show u.1 + 2 ≤ B.2.1 from by omega), (show u.2 + 12 ≤ B.2.2 from by omega)⟩ ?_
  refine el_istore (lv' := [some (.ref bs), some (.ref xa), some (.ref ma), some (.ref oa), some (.int x4), some (.int k9), some (.int w9)]) dc_L_law__2266 rfl (by decide) rfl ?_
  refine el_aload_n dc_L_law__2268 rfl ?_
  refine el_call2 (av := []) (st := []) (st1 := [.int k9]) dc_L_law__2269 (tX12_thrown hW2 hm e3) mw_1482 cy_X12_thrown hm (by decide) rfl rfl rfl rfl (Nat.le_of_ble_eq_true rfl) (Nat.le_trans (show _ ≤ 1024 from Nat.le_of_ble_eq_true rfl) hB) ⟨(show u.1 + 2 ≤ B.2.1 from by omega), (show u.2 + 12 ≤ B.2.2 from by omega)⟩ ?_
  refine el_iload dc_L_law__2272 rfl ?_
  refine el_icmp_eq (tgt := 2279) dc_L_law__2274 (by decide) (fun _ => ?_) (fun h => absurd rfl h)
  refine el_iload dc_L_law__2279 rfl ?_
  refine el_if_ne (tgt := 2296) dc_L_law__2281 (by decide) (fun hk => ?_) (fun hk => ?_)
  · refine el_goto (tgt := 2718) dc_L_law__2296 (by decide) ?_
    exact el_wid ⟨(show u.1 + 2 ≤ u.1 + 3 from by omega), (show u.2 + 12 ≤ u.2 + 18 from by omega)⟩ (el_sub (K τ1 τ2 hI9) (And.intro rfl (And.intro rfl (And.intro rfl (And.intro rfl (And.intro rfl trivial))))))
  have hk : k9 = 0 := Classical.not_not.mp hk
  refine el_aload_n dc_L_law__2284 rfl ?_
  refine el_iconst (v := 0) dc_L_law__2285 (by decide) ?_
  refine el_lald dc_L_law__2286 ho ho1 ?_
  refine el_iload dc_L_law__2287 rfl ?_
  refine el_i2l dc_L_law__2289 ?_
  refine el_lcmp dc_L_law__2290 ?_
  refine el_if_eq (tgt := 2296) dc_L_law__2291 (by decide) (fun _ => ?_) (fun h => absurd (by rw [e4 hk]; exact lcz) h)
  refine el_goto (tgt := 2718) dc_L_law__2296 (by decide) ?_
  exact el_wid ⟨(show u.1 + 2 ≤ u.1 + 3 from by omega), (show u.2 + 12 ≤ u.2 + 18 from by omega)⟩ (el_sub (K τ1 τ2 hI9) (And.intro rfl (And.intro rfl (And.intro rfl (And.intro rfl (And.intro rfl trivial))))))
def Gd_learnt (N : Nat) (G1 G2 : pG) (xa ma oa : Nat) (Inv : pS → pS → Prop) : Prop := ∀ (σ1 σ2 : pS), Inv σ1 σ2 → ∀ (c1 : Int32), ∃ (k w : Int32) (τ1 τ2 : pS), fL_learnt N G1 xa c1 oa σ1 = some (k, τ1) ∧ fX12_learnt N G2 ma c1 σ2 = some (w, τ2) ∧ fX12_thrown N G2 ma τ2 = some k ∧ (k = 0 → gJ τ1 oa 0 = w.toInt64) ∧ Inv τ1 τ2
set_option maxRecDepth 100000 in
set_option maxHeartbeats 4000000 in
theorem lc_43 {B : Nat × Nat × Nat} {bs L : Nat} {xs : Nat → Int32} {G1 G2 : pG} {SK : Nat → Nat} {u : Nat × Nat} {σ1 σ2 : pS} {N xa ma oa : Nat} {Inv : pS → pS → Prop} {x4 : Int32} (hW1 : WT G1) (hW2 : WT G2) (hx : Is G1 xa 10) (hm : Is G2 ma 11) (ho : Is G1 oa 14) (ho1 : inB 0 (pN G1 oa) = true) (hg : Gd_learnt N G1 G2 xa ma oa Inv) (hI : Inv σ1 σ2) (hb1 : vp_in (x4 + (1 : Int32)) L) (hb2 : vp_in (x4 + (2 : Int32)) L) (hb3 : vp_in (x4 + (3 : Int32)) L) (hb4 : vp_in (x4 + (4 : Int32)) L) (hb5 : vp_in (x4 + (5 : Int32)) L) (hB : 1024 ≤ B.1) (hu : u.1 + 3 ≤ B.2.1 ∧ u.2 + 18 ≤ B.2.2) (K : ∀ τ1 τ2 : pS, Inv τ1 τ2 → EvL B bs L xs G1 G2 SK (u.1 + 3, u.2 + 18) 2718 [some (.ref bs), some (.ref xa), some (.ref ma), some (.ref oa), some (.int x4), none, none] [] τ1 τ2) : EvL B bs L xs G1 G2 SK u 2299 [some (.ref bs), some (.ref xa), some (.ref ma), some (.ref oa), some (.int x4), none, none] [] σ1 σ2 := by
  refine el_aload_n dc_L_law__2299 rfl ?_
  refine el_aload_n dc_L_law__2300 rfl ?_
  refine el_iload dc_L_law__2301 rfl ?_
  refine el_iconst (v := 1) dc_L_law__2303 (by decide) ?_
  refine el_iadd dc_L_law__2304 ?_
  refine el_sld dc_L_law__2305 hb1 ?_
  refine el_aload_n dc_L_law__2306 rfl ?_
  obtain ⟨k9, w9, τ1, τ2, e1, e2, e3, e4, hI9⟩ := hg _ _ hI (xs (x4 + (1 : Int32)).toNatClampNeg)
  refine el_wrap (av := [.ref xa, .int (xs (x4 + (1 : Int32)).toNatClampNeg), .ref oa]) (st := []) dc_L_law__2307 (tL_learnt hW1 hx ho e1) mw_1437 cwL_learnt rfl rfl (Nat.le_of_ble_eq_true rfl) (Nat.le_trans (show _ ≤ 1024 from Nat.le_of_ble_eq_true rfl) hB) ⟨(show u.1 + 1 ≤ B.2.1 from by omega), (show u.2 + 6 ≤ B.2.2 from by omega)⟩ ?_
  refine el_istore (lv' := [some (.ref bs), some (.ref xa), some (.ref ma), some (.ref oa), some (.int x4), some (.int k9), none]) dc_L_law__2310 rfl (by decide) rfl ?_
  refine el_aload_n dc_L_law__2312 rfl ?_
  refine el_aload_n dc_L_law__2313 rfl ?_
  refine el_iload dc_L_law__2314 rfl ?_
  refine el_iconst (v := 1) dc_L_law__2316 (by decide) ?_
  refine el_iadd dc_L_law__2317 ?_
  refine el_sld dc_L_law__2318 hb1 ?_
  refine el_call2 (av := [.int (xs (x4 + (1 : Int32)).toNatClampNeg)]) (st := []) (st1 := [.int w9]) dc_L_law__2319 (tX12_learnt hW2 hm e2) mw_2002 cy_X12_learnt hm (by decide) rfl rfl rfl rfl (Nat.le_of_ble_eq_true rfl) (Nat.le_trans (show _ ≤ 1024 from Nat.le_of_ble_eq_true rfl) hB) ⟨(show u.1 + 1 ≤ B.2.1 from by omega), (show u.2 + 6 ≤ B.2.2 from by omega)⟩ ?_
  refine el_istore (lv' := [some (.ref bs), some (.ref xa), some (.ref ma), some (.ref oa), some (.int x4), some (.int k9), some (.int w9)]) dc_L_law__2322 rfl (by decide) rfl ?_
  refine el_aload_n dc_L_law__2324 rfl ?_
  refine el_call2 (av := []) (st := []) (st1 := [.int k9]) dc_L_law__2325 (tX12_thrown hW2 hm e3) mw_1482 cy_X12_thrown hm (by decide) rfl rfl rfl rfl (Nat.le_of_ble_eq_true rfl) (Nat.le_trans (show _ ≤ 1024 from Nat.le_of_ble_eq_true rfl) hB) ⟨(show u.1 + 1 ≤ B.2.1 from by omega), (show u.2 + 6 ≤ B.2.2 from by omega)⟩ ?_
  refine el_iload dc_L_law__2328 rfl ?_
  refine el_icmp_eq (tgt := 2335) dc_L_law__2330 (by decide) (fun _ => ?_) (fun h => absurd rfl h)
  refine el_iload dc_L_law__2335 rfl ?_
  refine el_if_ne (tgt := 2352) dc_L_law__2337 (by decide) (fun hk => ?_) (fun hk => ?_)
  · refine el_goto (tgt := 2718) dc_L_law__2352 (by decide) ?_
    exact el_wid ⟨(show u.1 + 1 ≤ u.1 + 3 from by omega), (show u.2 + 6 ≤ u.2 + 18 from by omega)⟩ (el_sub (K τ1 τ2 hI9) (And.intro rfl (And.intro rfl (And.intro rfl (And.intro rfl (And.intro rfl trivial))))))
  have hk : k9 = 0 := Classical.not_not.mp hk
  refine el_aload_n dc_L_law__2340 rfl ?_
  refine el_iconst (v := 0) dc_L_law__2341 (by decide) ?_
  refine el_lald dc_L_law__2342 ho ho1 ?_
  refine el_iload dc_L_law__2343 rfl ?_
  refine el_i2l dc_L_law__2345 ?_
  refine el_lcmp dc_L_law__2346 ?_
  refine el_if_eq (tgt := 2352) dc_L_law__2347 (by decide) (fun _ => ?_) (fun h => absurd (by rw [e4 hk]; exact lcz) h)
  refine el_goto (tgt := 2718) dc_L_law__2352 (by decide) ?_
  exact el_wid ⟨(show u.1 + 1 ≤ u.1 + 3 from by omega), (show u.2 + 6 ≤ u.2 + 18 from by omega)⟩ (el_sub (K τ1 τ2 hI9) (And.intro rfl (And.intro rfl (And.intro rfl (And.intro rfl (And.intro rfl trivial))))))
def Gd_trial (N : Nat) (G1 G2 : pG) (xa ma oa : Nat) (Inv : pS → pS → Prop) : Prop := ∀ (σ1 σ2 : pS), Inv σ1 σ2 → ∀ (c1 : Int32) (c2 : Int32), (isZ c2 = true) → ∃ (k w : Int32) (τ1 τ2 : pS), fL_trial N G1 xa c1 c2 oa σ1 = some (k, τ1) ∧ fX12_trial N G2 ma c1 c2 σ2 = some (w, τ2) ∧ fX12_thrown N G2 ma τ2 = some k ∧ (k = 0 → gJ τ1 oa 0 = w.toInt64) ∧ Inv τ1 τ2
set_option maxRecDepth 100000 in
set_option maxHeartbeats 4000000 in
theorem lc_44 {B : Nat × Nat × Nat} {bs L : Nat} {xs : Nat → Int32} {G1 G2 : pG} {SK : Nat → Nat} {u : Nat × Nat} {σ1 σ2 : pS} {N xa ma oa : Nat} {Inv : pS → pS → Prop} {x4 : Int32} (hW1 : WT G1) (hW2 : WT G2) (hx : Is G1 xa 10) (hm : Is G2 ma 11) (ho : Is G1 oa 14) (ho1 : inB 0 (pN G1 oa) = true) (hg : Gd_trial N G1 G2 xa ma oa Inv) (hI : Inv σ1 σ2) (hb1 : vp_in (x4 + (1 : Int32)) L) (hb2 : vp_in (x4 + (2 : Int32)) L) (hb3 : vp_in (x4 + (3 : Int32)) L) (hb4 : vp_in (x4 + (4 : Int32)) L) (hb5 : vp_in (x4 + (5 : Int32)) L) (hB : 1024 ≤ B.1) (hu : u.1 + 3 ≤ B.2.1 ∧ u.2 + 18 ≤ B.2.2) (K : ∀ τ1 τ2 : pS, Inv τ1 τ2 → EvL B bs L xs G1 G2 SK (u.1 + 3, u.2 + 18) 2718 [some (.ref bs), some (.ref xa), some (.ref ma), some (.ref oa), some (.int x4), none, none] [] τ1 τ2) : EvL B bs L xs G1 G2 SK u 2355 [some (.ref bs), some (.ref xa), some (.ref ma), some (.ref oa), some (.int x4), none, none] [] σ1 σ2 := by
  refine el_aload_n dc_L_law__2355 rfl ?_
  refine el_aload_n dc_L_law__2356 rfl ?_
  refine el_iload dc_L_law__2357 rfl ?_
  refine el_iconst (v := 1) dc_L_law__2359 (by decide) ?_
  refine el_iadd dc_L_law__2360 ?_
  refine el_sld dc_L_law__2361 hb1 ?_
  refine el_aload_n dc_L_law__2362 rfl ?_
  refine el_iload dc_L_law__2363 rfl ?_
  refine el_iconst (v := 2) dc_L_law__2365 (by decide) ?_
  refine el_iadd dc_L_law__2366 ?_
  refine el_sld dc_L_law__2367 hb2 ?_
  refine el_if_eq (tgt := 2375) dc_L_law__2368 (by decide) (fun hz1 => ?_) (fun hz1 => ?_)
  · refine el_iconst (v := 0) dc_L_law__2375 (by decide) ?_
    refine el_aload_n dc_L_law__2376 rfl ?_
    obtain ⟨k9, w9, τ1, τ2, e1, e2, e3, e4, hI9⟩ := hg _ _ hI (xs (x4 + (1 : Int32)).toNatClampNeg) (0 : Int32) (by decide)
    refine el_wrap (av := [.ref xa, .int (xs (x4 + (1 : Int32)).toNatClampNeg), .int (0 : Int32), .ref oa]) (st := []) dc_L_law__2377 (tL_trial hW1 hx ho e1) mw_1444 cwL_trial rfl rfl (Nat.le_of_ble_eq_true rfl) (Nat.le_trans (show _ ≤ 1024 from Nat.le_of_ble_eq_true rfl) hB) ⟨(show u.1 + 1 ≤ B.2.1 from by omega), (show u.2 + 6 ≤ B.2.2 from by omega)⟩ ?_
    refine el_istore (lv' := [some (.ref bs), some (.ref xa), some (.ref ma), some (.ref oa), some (.int x4), some (.int k9), none]) dc_L_law__2380 rfl (by decide) rfl ?_
    refine el_aload_n dc_L_law__2382 rfl ?_
    refine el_aload_n dc_L_law__2383 rfl ?_
    refine el_iload dc_L_law__2384 rfl ?_
    refine el_iconst (v := 1) dc_L_law__2386 (by decide) ?_
    refine el_iadd dc_L_law__2387 ?_
    refine el_sld dc_L_law__2388 hb1 ?_
    refine el_aload_n dc_L_law__2389 rfl ?_
    refine el_iload dc_L_law__2390 rfl ?_
    refine el_iconst (v := 2) dc_L_law__2392 (by decide) ?_
    refine el_iadd dc_L_law__2393 ?_
    refine el_sld dc_L_law__2394 hb2 ?_
    refine el_if_eq (tgt := 2402) dc_L_law__2395 (by decide) (fun _ => ?_) (fun h => absurd hz1 h)
    refine el_iconst (v := 0) dc_L_law__2402 (by decide) ?_
    refine el_call2 (av := [.int (xs (x4 + (1 : Int32)).toNatClampNeg), .int (0 : Int32)]) (st := []) (st1 := [.int w9]) dc_L_law__2403 (tX12_trial hW2 hm e2) mw_2182 cy_X12_trial hm (by decide) rfl rfl rfl rfl (Nat.le_of_ble_eq_true rfl) (Nat.le_trans (show _ ≤ 1024 from Nat.le_of_ble_eq_true rfl) hB) ⟨(show u.1 + 1 ≤ B.2.1 from by omega), (show u.2 + 6 ≤ B.2.2 from by omega)⟩ ?_
    refine el_istore (lv' := [some (.ref bs), some (.ref xa), some (.ref ma), some (.ref oa), some (.int x4), some (.int k9), some (.int w9)]) dc_L_law__2406 rfl (by decide) rfl ?_
    refine el_aload_n dc_L_law__2408 rfl ?_
    refine el_call2 (av := []) (st := []) (st1 := [.int k9]) dc_L_law__2409 (tX12_thrown hW2 hm e3) mw_1482 cy_X12_thrown hm (by decide) rfl rfl rfl rfl (Nat.le_of_ble_eq_true rfl) (Nat.le_trans (show _ ≤ 1024 from Nat.le_of_ble_eq_true rfl) hB) ⟨(show u.1 + 1 ≤ B.2.1 from by omega), (show u.2 + 6 ≤ B.2.2 from by omega)⟩ ?_
    refine el_iload dc_L_law__2412 rfl ?_
    refine el_icmp_eq (tgt := 2419) dc_L_law__2414 (by decide) (fun _ => ?_) (fun h => absurd rfl h)
    refine el_iload dc_L_law__2419 rfl ?_
    refine el_if_ne (tgt := 2436) dc_L_law__2421 (by decide) (fun hk => ?_) (fun hk => ?_)
    · refine el_goto (tgt := 2718) dc_L_law__2436 (by decide) ?_
      exact el_wid ⟨(show u.1 + 1 ≤ u.1 + 3 from by omega), (show u.2 + 6 ≤ u.2 + 18 from by omega)⟩ (el_sub (K τ1 τ2 hI9) (And.intro rfl (And.intro rfl (And.intro rfl (And.intro rfl (And.intro rfl trivial))))))
    have hk : k9 = 0 := Classical.not_not.mp hk
    refine el_aload_n dc_L_law__2424 rfl ?_
    refine el_iconst (v := 0) dc_L_law__2425 (by decide) ?_
    refine el_lald dc_L_law__2426 ho ho1 ?_
    refine el_iload dc_L_law__2427 rfl ?_
    refine el_i2l dc_L_law__2429 ?_
    refine el_lcmp dc_L_law__2430 ?_
    refine el_if_eq (tgt := 2436) dc_L_law__2431 (by decide) (fun _ => ?_) (fun h => absurd (by rw [e4 hk]; exact lcz) h)
    refine el_goto (tgt := 2718) dc_L_law__2436 (by decide) ?_
    exact el_wid ⟨(show u.1 + 1 ≤ u.1 + 3 from by omega), (show u.2 + 6 ≤ u.2 + 18 from by omega)⟩ (el_sub (K τ1 τ2 hI9) (And.intro rfl (And.intro rfl (And.intro rfl (And.intro rfl (And.intro rfl trivial))))))
  refine el_iconst (v := 1) dc_L_law__2371 (by decide) ?_
  refine el_goto (tgt := 2376) dc_L_law__2372 (by decide) ?_
  refine el_aload_n dc_L_law__2376 rfl ?_
  obtain ⟨k9, w9, τ1, τ2, e1, e2, e3, e4, hI9⟩ := hg _ _ hI (xs (x4 + (1 : Int32)).toNatClampNeg) (1 : Int32) (by decide)
  refine el_wrap (av := [.ref xa, .int (xs (x4 + (1 : Int32)).toNatClampNeg), .int (1 : Int32), .ref oa]) (st := []) dc_L_law__2377 (tL_trial hW1 hx ho e1) mw_1444 cwL_trial rfl rfl (Nat.le_of_ble_eq_true rfl) (Nat.le_trans (show _ ≤ 1024 from Nat.le_of_ble_eq_true rfl) hB) ⟨(show u.1 + 1 ≤ B.2.1 from by omega), (show u.2 + 6 ≤ B.2.2 from by omega)⟩ ?_
  refine el_istore (lv' := [some (.ref bs), some (.ref xa), some (.ref ma), some (.ref oa), some (.int x4), some (.int k9), none]) dc_L_law__2380 rfl (by decide) rfl ?_
  refine el_aload_n dc_L_law__2382 rfl ?_
  refine el_aload_n dc_L_law__2383 rfl ?_
  refine el_iload dc_L_law__2384 rfl ?_
  refine el_iconst (v := 1) dc_L_law__2386 (by decide) ?_
  refine el_iadd dc_L_law__2387 ?_
  refine el_sld dc_L_law__2388 hb1 ?_
  refine el_aload_n dc_L_law__2389 rfl ?_
  refine el_iload dc_L_law__2390 rfl ?_
  refine el_iconst (v := 2) dc_L_law__2392 (by decide) ?_
  refine el_iadd dc_L_law__2393 ?_
  refine el_sld dc_L_law__2394 hb2 ?_
  refine el_if_eq (tgt := 2402) dc_L_law__2395 (by decide) (fun h => absurd h hz1) (fun _ => ?_)
  refine el_iconst (v := 1) dc_L_law__2398 (by decide) ?_
  refine el_goto (tgt := 2403) dc_L_law__2399 (by decide) ?_
  refine el_call2 (av := [.int (xs (x4 + (1 : Int32)).toNatClampNeg), .int (1 : Int32)]) (st := []) (st1 := [.int w9]) dc_L_law__2403 (tX12_trial hW2 hm e2) mw_2182 cy_X12_trial hm (by decide) rfl rfl rfl rfl (Nat.le_of_ble_eq_true rfl) (Nat.le_trans (show _ ≤ 1024 from Nat.le_of_ble_eq_true rfl) hB) ⟨(show u.1 + 1 ≤ B.2.1 from by omega), (show u.2 + 6 ≤ B.2.2 from by omega)⟩ ?_
  refine el_istore (lv' := [some (.ref bs), some (.ref xa), some (.ref ma), some (.ref oa), some (.int x4), some (.int k9), some (.int w9)]) dc_L_law__2406 rfl (by decide) rfl ?_
  refine el_aload_n dc_L_law__2408 rfl ?_
  refine el_call2 (av := []) (st := []) (st1 := [.int k9]) dc_L_law__2409 (tX12_thrown hW2 hm e3) mw_1482 cy_X12_thrown hm (by decide) rfl rfl rfl rfl (Nat.le_of_ble_eq_true rfl) (Nat.le_trans (show _ ≤ 1024 from Nat.le_of_ble_eq_true rfl) hB) ⟨(show u.1 + 1 ≤ B.2.1 from by omega), (show u.2 + 6 ≤ B.2.2 from by omega)⟩ ?_
  refine el_iload dc_L_law__2412 rfl ?_
  refine el_icmp_eq (tgt := 2419) dc_L_law__2414 (by decide) (fun _ => ?_) (fun h => absurd rfl h)
  refine el_iload dc_L_law__2419 rfl ?_
  refine el_if_ne (tgt := 2436) dc_L_law__2421 (by decide) (fun hk => ?_) (fun hk => ?_)
  · refine el_goto (tgt := 2718) dc_L_law__2436 (by decide) ?_
    exact el_wid ⟨(show u.1 + 1 ≤ u.1 + 3 from by omega), (show u.2 + 6 ≤ u.2 + 18 from by omega)⟩ (el_sub (K τ1 τ2 hI9) (And.intro rfl (And.intro rfl (And.intro rfl (And.intro rfl (And.intro rfl trivial))))))
  have hk : k9 = 0 := Classical.not_not.mp hk
  refine el_aload_n dc_L_law__2424 rfl ?_
  refine el_iconst (v := 0) dc_L_law__2425 (by decide) ?_
  refine el_lald dc_L_law__2426 ho ho1 ?_
  refine el_iload dc_L_law__2427 rfl ?_
  refine el_i2l dc_L_law__2429 ?_
  refine el_lcmp dc_L_law__2430 ?_
  refine el_if_eq (tgt := 2436) dc_L_law__2431 (by decide) (fun _ => ?_) (fun h => absurd (by rw [e4 hk]; exact lcz) h)
  refine el_goto (tgt := 2718) dc_L_law__2436 (by decide) ?_
  exact el_wid ⟨(show u.1 + 1 ≤ u.1 + 3 from by omega), (show u.2 + 6 ≤ u.2 + 18 from by omega)⟩ (el_sub (K τ1 τ2 hI9) (And.intro rfl (And.intro rfl (And.intro rfl (And.intro rfl (And.intro rfl trivial))))))
def Gd_span (N : Nat) (G1 G2 : pG) (xa ma oa : Nat) (Inv : pS → pS → Prop) : Prop := ∀ (σ1 σ2 : pS), Inv σ1 σ2 → ∀ (c1 : Int32), ∃ (k w : Int32) (τ1 τ2 : pS), fL_span N G1 xa c1 oa σ1 = some (k, τ1) ∧ fX12_span N G2 ma c1 σ2 = some (w, τ2) ∧ fX12_thrown N G2 ma τ2 = some k ∧ (k = 0 → gJ τ1 oa 0 = w.toInt64) ∧ Inv τ1 τ2
set_option maxRecDepth 100000 in
set_option maxHeartbeats 4000000 in
theorem lc_45 {B : Nat × Nat × Nat} {bs L : Nat} {xs : Nat → Int32} {G1 G2 : pG} {SK : Nat → Nat} {u : Nat × Nat} {σ1 σ2 : pS} {N xa ma oa : Nat} {Inv : pS → pS → Prop} {x4 : Int32} (hW1 : WT G1) (hW2 : WT G2) (hx : Is G1 xa 10) (hm : Is G2 ma 11) (ho : Is G1 oa 14) (ho1 : inB 0 (pN G1 oa) = true) (hg : Gd_span N G1 G2 xa ma oa Inv) (hI : Inv σ1 σ2) (hb1 : vp_in (x4 + (1 : Int32)) L) (hb2 : vp_in (x4 + (2 : Int32)) L) (hb3 : vp_in (x4 + (3 : Int32)) L) (hb4 : vp_in (x4 + (4 : Int32)) L) (hb5 : vp_in (x4 + (5 : Int32)) L) (hB : 1024 ≤ B.1) (hu : u.1 + 3 ≤ B.2.1 ∧ u.2 + 18 ≤ B.2.2) (K : ∀ τ1 τ2 : pS, Inv τ1 τ2 → EvL B bs L xs G1 G2 SK (u.1 + 3, u.2 + 18) 2718 [some (.ref bs), some (.ref xa), some (.ref ma), some (.ref oa), some (.int x4), none, none] [] τ1 τ2) : EvL B bs L xs G1 G2 SK u 2439 [some (.ref bs), some (.ref xa), some (.ref ma), some (.ref oa), some (.int x4), none, none] [] σ1 σ2 := by
  refine el_aload_n dc_L_law__2439 rfl ?_
  refine el_aload_n dc_L_law__2440 rfl ?_
  refine el_iload dc_L_law__2441 rfl ?_
  refine el_iconst (v := 1) dc_L_law__2443 (by decide) ?_
  refine el_iadd dc_L_law__2444 ?_
  refine el_sld dc_L_law__2445 hb1 ?_
  refine el_aload_n dc_L_law__2446 rfl ?_
  obtain ⟨k9, w9, τ1, τ2, e1, e2, e3, e4, hI9⟩ := hg _ _ hI (xs (x4 + (1 : Int32)).toNatClampNeg)
  refine el_wrap (av := [.ref xa, .int (xs (x4 + (1 : Int32)).toNatClampNeg), .ref oa]) (st := []) dc_L_law__2447 (tL_span hW1 hx ho e1) mw_1455 cwL_span rfl rfl (Nat.le_of_ble_eq_true rfl) (Nat.le_trans (show _ ≤ 1024 from Nat.le_of_ble_eq_true rfl) hB) ⟨(show u.1 + 1 ≤ B.2.1 from by omega), (show u.2 + 6 ≤ B.2.2 from by omega)⟩ ?_
  refine el_istore (lv' := [some (.ref bs), some (.ref xa), some (.ref ma), some (.ref oa), some (.int x4), some (.int k9), none]) dc_L_law__2450 rfl (by decide) rfl ?_
  refine el_aload_n dc_L_law__2452 rfl ?_
  refine el_aload_n dc_L_law__2453 rfl ?_
  refine el_iload dc_L_law__2454 rfl ?_
  refine el_iconst (v := 1) dc_L_law__2456 (by decide) ?_
  refine el_iadd dc_L_law__2457 ?_
  refine el_sld dc_L_law__2458 hb1 ?_
  refine el_call2 (av := [.int (xs (x4 + (1 : Int32)).toNatClampNeg)]) (st := []) (st1 := [.int w9]) dc_L_law__2459 (tX12_span hW2 hm e2) mw_2186 cy_X12_span hm (by decide) rfl rfl rfl rfl (Nat.le_of_ble_eq_true rfl) (Nat.le_trans (show _ ≤ 1024 from Nat.le_of_ble_eq_true rfl) hB) ⟨(show u.1 + 1 ≤ B.2.1 from by omega), (show u.2 + 6 ≤ B.2.2 from by omega)⟩ ?_
  refine el_istore (lv' := [some (.ref bs), some (.ref xa), some (.ref ma), some (.ref oa), some (.int x4), some (.int k9), some (.int w9)]) dc_L_law__2462 rfl (by decide) rfl ?_
  refine el_aload_n dc_L_law__2464 rfl ?_
  refine el_call2 (av := []) (st := []) (st1 := [.int k9]) dc_L_law__2465 (tX12_thrown hW2 hm e3) mw_1482 cy_X12_thrown hm (by decide) rfl rfl rfl rfl (Nat.le_of_ble_eq_true rfl) (Nat.le_trans (show _ ≤ 1024 from Nat.le_of_ble_eq_true rfl) hB) ⟨(show u.1 + 1 ≤ B.2.1 from by omega), (show u.2 + 6 ≤ B.2.2 from by omega)⟩ ?_
  refine el_iload dc_L_law__2468 rfl ?_
  refine el_icmp_eq (tgt := 2475) dc_L_law__2470 (by decide) (fun _ => ?_) (fun h => absurd rfl h)
  refine el_iload dc_L_law__2475 rfl ?_
  refine el_if_ne (tgt := 2492) dc_L_law__2477 (by decide) (fun hk => ?_) (fun hk => ?_)
  · refine el_goto (tgt := 2718) dc_L_law__2492 (by decide) ?_
    exact el_wid ⟨(show u.1 + 1 ≤ u.1 + 3 from by omega), (show u.2 + 6 ≤ u.2 + 18 from by omega)⟩ (el_sub (K τ1 τ2 hI9) (And.intro rfl (And.intro rfl (And.intro rfl (And.intro rfl (And.intro rfl trivial))))))
  have hk : k9 = 0 := Classical.not_not.mp hk
  refine el_aload_n dc_L_law__2480 rfl ?_
  refine el_iconst (v := 0) dc_L_law__2481 (by decide) ?_
  refine el_lald dc_L_law__2482 ho ho1 ?_
  refine el_iload dc_L_law__2483 rfl ?_
  refine el_i2l dc_L_law__2485 ?_
  refine el_lcmp dc_L_law__2486 ?_
  refine el_if_eq (tgt := 2492) dc_L_law__2487 (by decide) (fun _ => ?_) (fun h => absurd (by rw [e4 hk]; exact lcz) h)
  refine el_goto (tgt := 2718) dc_L_law__2492 (by decide) ?_
  exact el_wid ⟨(show u.1 + 1 ≤ u.1 + 3 from by omega), (show u.2 + 6 ≤ u.2 + 18 from by omega)⟩ (el_sub (K τ1 τ2 hI9) (And.intro rfl (And.intro rfl (And.intro rfl (And.intro rfl (And.intro rfl trivial))))))
def Gd_led (N : Nat) (G1 G2 : pG) (xa ma oa : Nat) (Inv : pS → pS → Prop) : Prop := ∀ (σ1 σ2 : pS), Inv σ1 σ2 → ∀ (c1 : Int32) (c2 : Int32), ∃ (k w : Int32) (τ1 τ2 : pS), fL_led N G1 xa c1 c2 oa σ1 = some (k, τ1) ∧ fX12_led N G2 ma c1 c2 σ2 = some (w, τ2) ∧ fX12_thrown N G2 ma τ2 = some k ∧ (k = 0 → gJ τ1 oa 0 = w.toInt64) ∧ Inv τ1 τ2
set_option maxRecDepth 100000 in
set_option maxHeartbeats 4000000 in
theorem lc_46 {B : Nat × Nat × Nat} {bs L : Nat} {xs : Nat → Int32} {G1 G2 : pG} {SK : Nat → Nat} {u : Nat × Nat} {σ1 σ2 : pS} {N xa ma oa : Nat} {Inv : pS → pS → Prop} {x4 : Int32} (hW1 : WT G1) (hW2 : WT G2) (hx : Is G1 xa 10) (hm : Is G2 ma 11) (ho : Is G1 oa 14) (ho1 : inB 0 (pN G1 oa) = true) (hg : Gd_led N G1 G2 xa ma oa Inv) (hI : Inv σ1 σ2) (hb1 : vp_in (x4 + (1 : Int32)) L) (hb2 : vp_in (x4 + (2 : Int32)) L) (hb3 : vp_in (x4 + (3 : Int32)) L) (hb4 : vp_in (x4 + (4 : Int32)) L) (hb5 : vp_in (x4 + (5 : Int32)) L) (hB : 1024 ≤ B.1) (hu : u.1 + 3 ≤ B.2.1 ∧ u.2 + 18 ≤ B.2.2) (K : ∀ τ1 τ2 : pS, Inv τ1 τ2 → EvL B bs L xs G1 G2 SK (u.1 + 3, u.2 + 18) 2718 [some (.ref bs), some (.ref xa), some (.ref ma), some (.ref oa), some (.int x4), none, none] [] τ1 τ2) : EvL B bs L xs G1 G2 SK u 2495 [some (.ref bs), some (.ref xa), some (.ref ma), some (.ref oa), some (.int x4), none, none] [] σ1 σ2 := by
  refine el_aload_n dc_L_law__2495 rfl ?_
  refine el_aload_n dc_L_law__2496 rfl ?_
  refine el_iload dc_L_law__2497 rfl ?_
  refine el_iconst (v := 1) dc_L_law__2499 (by decide) ?_
  refine el_iadd dc_L_law__2500 ?_
  refine el_sld dc_L_law__2501 hb1 ?_
  refine el_aload_n dc_L_law__2502 rfl ?_
  refine el_iload dc_L_law__2503 rfl ?_
  refine el_iconst (v := 2) dc_L_law__2505 (by decide) ?_
  refine el_iadd dc_L_law__2506 ?_
  refine el_sld dc_L_law__2507 hb2 ?_
  refine el_aload_n dc_L_law__2508 rfl ?_
  obtain ⟨k9, w9, τ1, τ2, e1, e2, e3, e4, hI9⟩ := hg _ _ hI (xs (x4 + (1 : Int32)).toNatClampNeg) (xs (x4 + (2 : Int32)).toNatClampNeg)
  refine el_wrap (av := [.ref xa, .int (xs (x4 + (1 : Int32)).toNatClampNeg), .int (xs (x4 + (2 : Int32)).toNatClampNeg), .ref oa]) (st := []) dc_L_law__2509 (tL_led hW1 hx ho e1) mw_1462 cwL_led rfl rfl (Nat.le_of_ble_eq_true rfl) (Nat.le_trans (show _ ≤ 1024 from Nat.le_of_ble_eq_true rfl) hB) ⟨(show u.1 + 2 ≤ B.2.1 from by omega), (show u.2 + 12 ≤ B.2.2 from by omega)⟩ ?_
  refine el_istore (lv' := [some (.ref bs), some (.ref xa), some (.ref ma), some (.ref oa), some (.int x4), some (.int k9), none]) dc_L_law__2512 rfl (by decide) rfl ?_
  refine el_aload_n dc_L_law__2514 rfl ?_
  refine el_aload_n dc_L_law__2515 rfl ?_
  refine el_iload dc_L_law__2516 rfl ?_
  refine el_iconst (v := 1) dc_L_law__2518 (by decide) ?_
  refine el_iadd dc_L_law__2519 ?_
  refine el_sld dc_L_law__2520 hb1 ?_
  refine el_aload_n dc_L_law__2521 rfl ?_
  refine el_iload dc_L_law__2522 rfl ?_
  refine el_iconst (v := 2) dc_L_law__2524 (by decide) ?_
  refine el_iadd dc_L_law__2525 ?_
  refine el_sld dc_L_law__2526 hb2 ?_
  refine el_call2 (av := [.int (xs (x4 + (1 : Int32)).toNatClampNeg), .int (xs (x4 + (2 : Int32)).toNatClampNeg)]) (st := []) (st1 := [.int w9]) dc_L_law__2527 (tX12_led hW2 hm e2) mw_2174 cy_X12_led hm (by decide) rfl rfl rfl rfl (Nat.le_of_ble_eq_true rfl) (Nat.le_trans (show _ ≤ 1024 from Nat.le_of_ble_eq_true rfl) hB) ⟨(show u.1 + 2 ≤ B.2.1 from by omega), (show u.2 + 12 ≤ B.2.2 from by omega)⟩ ?_
  refine el_istore (lv' := [some (.ref bs), some (.ref xa), some (.ref ma), some (.ref oa), some (.int x4), some (.int k9), some (.int w9)]) dc_L_law__2530 rfl (by decide) rfl ?_
  refine el_aload_n dc_L_law__2532 rfl ?_
  refine el_call2 (av := []) (st := []) (st1 := [.int k9]) dc_L_law__2533 (tX12_thrown hW2 hm e3) mw_1482 cy_X12_thrown hm (by decide) rfl rfl rfl rfl (Nat.le_of_ble_eq_true rfl) (Nat.le_trans (show _ ≤ 1024 from Nat.le_of_ble_eq_true rfl) hB) ⟨(show u.1 + 2 ≤ B.2.1 from by omega), (show u.2 + 12 ≤ B.2.2 from by omega)⟩ ?_
  refine el_iload dc_L_law__2536 rfl ?_
  refine el_icmp_eq (tgt := 2543) dc_L_law__2538 (by decide) (fun _ => ?_) (fun h => absurd rfl h)
  refine el_iload dc_L_law__2543 rfl ?_
  refine el_if_ne (tgt := 2560) dc_L_law__2545 (by decide) (fun hk => ?_) (fun hk => ?_)
  · refine el_goto (tgt := 2718) dc_L_law__2560 (by decide) ?_
    exact el_wid ⟨(show u.1 + 2 ≤ u.1 + 3 from by omega), (show u.2 + 12 ≤ u.2 + 18 from by omega)⟩ (el_sub (K τ1 τ2 hI9) (And.intro rfl (And.intro rfl (And.intro rfl (And.intro rfl (And.intro rfl trivial))))))
  have hk : k9 = 0 := Classical.not_not.mp hk
  refine el_aload_n dc_L_law__2548 rfl ?_
  refine el_iconst (v := 0) dc_L_law__2549 (by decide) ?_
  refine el_lald dc_L_law__2550 ho ho1 ?_
  refine el_iload dc_L_law__2551 rfl ?_
  refine el_i2l dc_L_law__2553 ?_
  refine el_lcmp dc_L_law__2554 ?_
  refine el_if_eq (tgt := 2560) dc_L_law__2555 (by decide) (fun _ => ?_) (fun h => absurd (by rw [e4 hk]; exact lcz) h)
  refine el_goto (tgt := 2718) dc_L_law__2560 (by decide) ?_
  exact el_wid ⟨(show u.1 + 2 ≤ u.1 + 3 from by omega), (show u.2 + 12 ≤ u.2 + 18 from by omega)⟩ (el_sub (K τ1 τ2 hI9) (And.intro rfl (And.intro rfl (And.intro rfl (And.intro rfl (And.intro rfl trivial))))))
def Gd_log (N : Nat) (G1 G2 : pG) (xa ma oa : Nat) (Inv : pS → pS → Prop) : Prop := ∀ (σ1 σ2 : pS), Inv σ1 σ2 → ∀ (c1 : Int32) (c2 : Int32), ∃ (k w : Int32) (τ1 τ2 : pS), fL_log N G1 xa c1 c2 oa σ1 = some (k, τ1) ∧ fX12_log N G2 ma c1 c2 σ2 = some (w, τ2) ∧ fX12_thrown N G2 ma τ2 = some k ∧ (k = 0 → gJ τ1 oa 0 = w.toInt64) ∧ Inv τ1 τ2
set_option maxRecDepth 100000 in
set_option maxHeartbeats 4000000 in
theorem lc_47 {B : Nat × Nat × Nat} {bs L : Nat} {xs : Nat → Int32} {G1 G2 : pG} {SK : Nat → Nat} {u : Nat × Nat} {σ1 σ2 : pS} {N xa ma oa : Nat} {Inv : pS → pS → Prop} {x4 : Int32} (hW1 : WT G1) (hW2 : WT G2) (hx : Is G1 xa 10) (hm : Is G2 ma 11) (ho : Is G1 oa 14) (ho1 : inB 0 (pN G1 oa) = true) (hg : Gd_log N G1 G2 xa ma oa Inv) (hI : Inv σ1 σ2) (hb1 : vp_in (x4 + (1 : Int32)) L) (hb2 : vp_in (x4 + (2 : Int32)) L) (hb3 : vp_in (x4 + (3 : Int32)) L) (hb4 : vp_in (x4 + (4 : Int32)) L) (hb5 : vp_in (x4 + (5 : Int32)) L) (hB : 1024 ≤ B.1) (hu : u.1 + 3 ≤ B.2.1 ∧ u.2 + 18 ≤ B.2.2) (K : ∀ τ1 τ2 : pS, Inv τ1 τ2 → EvL B bs L xs G1 G2 SK (u.1 + 3, u.2 + 18) 2718 [some (.ref bs), some (.ref xa), some (.ref ma), some (.ref oa), some (.int x4), none, none] [] τ1 τ2) : EvL B bs L xs G1 G2 SK u 2563 [some (.ref bs), some (.ref xa), some (.ref ma), some (.ref oa), some (.int x4), none, none] [] σ1 σ2 := by
  refine el_aload_n dc_L_law__2563 rfl ?_
  refine el_aload_n dc_L_law__2564 rfl ?_
  refine el_iload dc_L_law__2565 rfl ?_
  refine el_iconst (v := 1) dc_L_law__2567 (by decide) ?_
  refine el_iadd dc_L_law__2568 ?_
  refine el_sld dc_L_law__2569 hb1 ?_
  refine el_aload_n dc_L_law__2570 rfl ?_
  refine el_iload dc_L_law__2571 rfl ?_
  refine el_iconst (v := 2) dc_L_law__2573 (by decide) ?_
  refine el_iadd dc_L_law__2574 ?_
  refine el_sld dc_L_law__2575 hb2 ?_
  refine el_aload_n dc_L_law__2576 rfl ?_
  obtain ⟨k9, w9, τ1, τ2, e1, e2, e3, e4, hI9⟩ := hg _ _ hI (xs (x4 + (1 : Int32)).toNatClampNeg) (xs (x4 + (2 : Int32)).toNatClampNeg)
  refine el_wrap (av := [.ref xa, .int (xs (x4 + (1 : Int32)).toNatClampNeg), .int (xs (x4 + (2 : Int32)).toNatClampNeg), .ref oa]) (st := []) dc_L_law__2577 (tL_log hW1 hx ho e1) mw_1473 cwL_log rfl rfl (Nat.le_of_ble_eq_true rfl) (Nat.le_trans (show _ ≤ 1024 from Nat.le_of_ble_eq_true rfl) hB) ⟨(show u.1 + 1 ≤ B.2.1 from by omega), (show u.2 + 6 ≤ B.2.2 from by omega)⟩ ?_
  refine el_istore (lv' := [some (.ref bs), some (.ref xa), some (.ref ma), some (.ref oa), some (.int x4), some (.int k9), none]) dc_L_law__2580 rfl (by decide) rfl ?_
  refine el_aload_n dc_L_law__2582 rfl ?_
  refine el_aload_n dc_L_law__2583 rfl ?_
  refine el_iload dc_L_law__2584 rfl ?_
  refine el_iconst (v := 1) dc_L_law__2586 (by decide) ?_
  refine el_iadd dc_L_law__2587 ?_
  refine el_sld dc_L_law__2588 hb1 ?_
  refine el_aload_n dc_L_law__2589 rfl ?_
  refine el_iload dc_L_law__2590 rfl ?_
  refine el_iconst (v := 2) dc_L_law__2592 (by decide) ?_
  refine el_iadd dc_L_law__2593 ?_
  refine el_sld dc_L_law__2594 hb2 ?_
  refine el_call2 (av := [.int (xs (x4 + (1 : Int32)).toNatClampNeg), .int (xs (x4 + (2 : Int32)).toNatClampNeg)]) (st := []) (st1 := [.int w9]) dc_L_law__2595 (tX12_log hW2 hm e2) mw_2178 cy_X12_log hm (by decide) rfl rfl rfl rfl (Nat.le_of_ble_eq_true rfl) (Nat.le_trans (show _ ≤ 1024 from Nat.le_of_ble_eq_true rfl) hB) ⟨(show u.1 + 1 ≤ B.2.1 from by omega), (show u.2 + 6 ≤ B.2.2 from by omega)⟩ ?_
  refine el_istore (lv' := [some (.ref bs), some (.ref xa), some (.ref ma), some (.ref oa), some (.int x4), some (.int k9), some (.int w9)]) dc_L_law__2598 rfl (by decide) rfl ?_
  refine el_aload_n dc_L_law__2600 rfl ?_
  refine el_call2 (av := []) (st := []) (st1 := [.int k9]) dc_L_law__2601 (tX12_thrown hW2 hm e3) mw_1482 cy_X12_thrown hm (by decide) rfl rfl rfl rfl (Nat.le_of_ble_eq_true rfl) (Nat.le_trans (show _ ≤ 1024 from Nat.le_of_ble_eq_true rfl) hB) ⟨(show u.1 + 1 ≤ B.2.1 from by omega), (show u.2 + 6 ≤ B.2.2 from by omega)⟩ ?_
  refine el_iload dc_L_law__2604 rfl ?_
  refine el_icmp_eq (tgt := 2611) dc_L_law__2606 (by decide) (fun _ => ?_) (fun h => absurd rfl h)
  refine el_iload dc_L_law__2611 rfl ?_
  refine el_if_ne (tgt := 2628) dc_L_law__2613 (by decide) (fun hk => ?_) (fun hk => ?_)
  · refine el_goto (tgt := 2718) dc_L_law__2628 (by decide) ?_
    exact el_wid ⟨(show u.1 + 1 ≤ u.1 + 3 from by omega), (show u.2 + 6 ≤ u.2 + 18 from by omega)⟩ (el_sub (K τ1 τ2 hI9) (And.intro rfl (And.intro rfl (And.intro rfl (And.intro rfl (And.intro rfl trivial))))))
  have hk : k9 = 0 := Classical.not_not.mp hk
  refine el_aload_n dc_L_law__2616 rfl ?_
  refine el_iconst (v := 0) dc_L_law__2617 (by decide) ?_
  refine el_lald dc_L_law__2618 ho ho1 ?_
  refine el_iload dc_L_law__2619 rfl ?_
  refine el_i2l dc_L_law__2621 ?_
  refine el_lcmp dc_L_law__2622 ?_
  refine el_if_eq (tgt := 2628) dc_L_law__2623 (by decide) (fun _ => ?_) (fun h => absurd (by rw [e4 hk]; exact lcz) h)
  refine el_goto (tgt := 2718) dc_L_law__2628 (by decide) ?_
  exact el_wid ⟨(show u.1 + 1 ≤ u.1 + 3 from by omega), (show u.2 + 6 ≤ u.2 + 18 from by omega)⟩ (el_sub (K τ1 τ2 hI9) (And.intro rfl (And.intro rfl (And.intro rfl (And.intro rfl (And.intro rfl trivial))))))
def Gd_seed (N : Nat) (G1 G2 : pG) (xa ma oa : Nat) (Inv : pS → pS → Prop) : Prop := ∀ (σ1 σ2 : pS), Inv σ1 σ2 → ∀ (c1 : Int32), ∃ (v : Int32) (τ1 τ2 : pS), fX11_seed N G1 xa c1 σ1 = some (v, τ1) ∧ fX12_seed N G2 ma c1 σ2 = some (v, τ2) ∧ Inv τ1 τ2
set_option maxRecDepth 100000 in
set_option maxHeartbeats 4000000 in
theorem lc_48 {B : Nat × Nat × Nat} {bs L : Nat} {xs : Nat → Int32} {G1 G2 : pG} {SK : Nat → Nat} {u : Nat × Nat} {σ1 σ2 : pS} {N xa ma oa : Nat} {Inv : pS → pS → Prop} {x4 : Int32} (hW1 : WT G1) (hW2 : WT G2) (hx : Is G1 xa 10) (hm : Is G2 ma 11) (ho : Is G1 oa 14) (ho1 : inB 0 (pN G1 oa) = true) (hg : Gd_seed N G1 G2 xa ma oa Inv) (hI : Inv σ1 σ2) (hb1 : vp_in (x4 + (1 : Int32)) L) (hb2 : vp_in (x4 + (2 : Int32)) L) (hb3 : vp_in (x4 + (3 : Int32)) L) (hb4 : vp_in (x4 + (4 : Int32)) L) (hb5 : vp_in (x4 + (5 : Int32)) L) (hB : 1024 ≤ B.1) (hu : u.1 + 3 ≤ B.2.1 ∧ u.2 + 18 ≤ B.2.2) (K : ∀ τ1 τ2 : pS, Inv τ1 τ2 → EvL B bs L xs G1 G2 SK (u.1 + 3, u.2 + 18) 2718 [some (.ref bs), some (.ref xa), some (.ref ma), some (.ref oa), some (.int x4), none, none] [] τ1 τ2) : EvL B bs L xs G1 G2 SK u 2631 [some (.ref bs), some (.ref xa), some (.ref ma), some (.ref oa), some (.int x4), none, none] [] σ1 σ2 := by
  refine el_aload_n dc_L_law__2631 rfl ?_
  refine el_aload_n dc_L_law__2632 rfl ?_
  refine el_iload dc_L_law__2633 rfl ?_
  refine el_iconst (v := 1) dc_L_law__2635 (by decide) ?_
  refine el_iadd dc_L_law__2636 ?_
  refine el_sld dc_L_law__2637 hb1 ?_
  obtain ⟨v9, τ1, τ2, e1, e2, hI9⟩ := hg _ _ hI (xs (x4 + (1 : Int32)).toNatClampNeg)
  refine el_call1 (av := [.int (xs (x4 + (1 : Int32)).toNatClampNeg)]) (st := []) (st1 := [.int v9]) dc_L_law__2638 (tX11_seed hW1 hx e1) mw_610 cy_X11_seed hx (by decide) rfl rfl rfl rfl (Nat.le_of_ble_eq_true rfl) (Nat.le_trans (show _ ≤ 1024 from Nat.le_of_ble_eq_true rfl) hB) ⟨(show u.1 ≤ B.2.1 from by omega), (show u.2 ≤ B.2.2 from by omega)⟩ ?_
  refine el_aload_n dc_L_law__2641 rfl ?_
  refine el_aload_n dc_L_law__2642 rfl ?_
  refine el_iload dc_L_law__2643 rfl ?_
  refine el_iconst (v := 1) dc_L_law__2645 (by decide) ?_
  refine el_iadd dc_L_law__2646 ?_
  refine el_sld dc_L_law__2647 hb1 ?_
  refine el_call2 (av := [.int (xs (x4 + (1 : Int32)).toNatClampNeg)]) (st := [.int v9]) (st1 := [.int v9, .int v9]) dc_L_law__2648 (tX12_seed hW2 hm e2) mw_2190 cy_X12_seed hm (by decide) rfl rfl rfl rfl (Nat.le_of_ble_eq_true rfl) (Nat.le_trans (show _ ≤ 1024 from Nat.le_of_ble_eq_true rfl) hB) ⟨(show u.1 ≤ B.2.1 from by omega), (show u.2 ≤ B.2.2 from by omega)⟩ ?_
  refine el_icmp_eq (tgt := 2718) dc_L_law__2651 (by decide) (fun _ => ?_) (fun h => absurd rfl h)
  exact el_wid ⟨(show u.1 ≤ u.1 + 3 from by omega), (show u.2 ≤ u.2 + 18 from by omega)⟩ (el_sub (K τ1 τ2 hI9) (And.intro rfl (And.intro rfl (And.intro rfl (And.intro rfl (And.intro rfl trivial))))))
def Gd_undo (N : Nat) (G1 G2 : pG) (xa ma oa : Nat) (Inv : pS → pS → Prop) : Prop := ∀ (σ1 σ2 : pS), Inv σ1 σ2 → ∃ (v : Int32) (τ1 τ2 : pS), fX11_undo N G1 xa σ1 = some (v, τ1) ∧ fX12_undo N G2 ma σ2 = some (v, τ2) ∧ Inv τ1 τ2
set_option maxRecDepth 100000 in
set_option maxHeartbeats 4000000 in
theorem lc_49 {B : Nat × Nat × Nat} {bs L : Nat} {xs : Nat → Int32} {G1 G2 : pG} {SK : Nat → Nat} {u : Nat × Nat} {σ1 σ2 : pS} {N xa ma oa : Nat} {Inv : pS → pS → Prop} {x4 : Int32} (hW1 : WT G1) (hW2 : WT G2) (hx : Is G1 xa 10) (hm : Is G2 ma 11) (ho : Is G1 oa 14) (ho1 : inB 0 (pN G1 oa) = true) (hg : Gd_undo N G1 G2 xa ma oa Inv) (hI : Inv σ1 σ2) (hb1 : vp_in (x4 + (1 : Int32)) L) (hb2 : vp_in (x4 + (2 : Int32)) L) (hb3 : vp_in (x4 + (3 : Int32)) L) (hb4 : vp_in (x4 + (4 : Int32)) L) (hb5 : vp_in (x4 + (5 : Int32)) L) (hB : 1024 ≤ B.1) (hu : u.1 + 3 ≤ B.2.1 ∧ u.2 + 18 ≤ B.2.2) (K : ∀ τ1 τ2 : pS, Inv τ1 τ2 → EvL B bs L xs G1 G2 SK (u.1 + 3, u.2 + 18) 2718 [some (.ref bs), some (.ref xa), some (.ref ma), some (.ref oa), some (.int x4), none, none] [] τ1 τ2) : EvL B bs L xs G1 G2 SK u 2656 [some (.ref bs), some (.ref xa), some (.ref ma), some (.ref oa), some (.int x4), none, none] [] σ1 σ2 := by
  refine el_aload_n dc_L_law__2656 rfl ?_
  obtain ⟨v9, τ1, τ2, e1, e2, hI9⟩ := hg _ _ hI
  refine el_call1 (av := []) (st := []) (st1 := [.int v9]) dc_L_law__2657 (tX11_undo hW1 hx e1) mw_614 cy_X11_undo hx (by decide) rfl rfl rfl rfl (Nat.le_of_ble_eq_true rfl) (Nat.le_trans (show _ ≤ 1024 from Nat.le_of_ble_eq_true rfl) hB) ⟨(show u.1 ≤ B.2.1 from by omega), (show u.2 ≤ B.2.2 from by omega)⟩ ?_
  refine el_aload_n dc_L_law__2660 rfl ?_
  refine el_call2 (av := []) (st := [.int v9]) (st1 := [.int v9, .int v9]) dc_L_law__2661 (tX12_undo hW2 hm e2) mw_1589 cy_X12_undo hm (by decide) rfl rfl rfl rfl (Nat.le_of_ble_eq_true rfl) (Nat.le_trans (show _ ≤ 1024 from Nat.le_of_ble_eq_true rfl) hB) ⟨(show u.1 ≤ B.2.1 from by omega), (show u.2 ≤ B.2.2 from by omega)⟩ ?_
  refine el_icmp_eq (tgt := 2718) dc_L_law__2664 (by decide) (fun _ => ?_) (fun h => absurd rfl h)
  exact el_wid ⟨(show u.1 ≤ u.1 + 3 from by omega), (show u.2 ≤ u.2 + 18 from by omega)⟩ (el_sub (K τ1 τ2 hI9) (And.intro rfl (And.intro rfl (And.intro rfl (And.intro rfl (And.intro rfl trivial))))))
def Gd_image (N : Nat) (G1 G2 : pG) (xa ma oa : Nat) (Inv : pS → pS → Prop) : Prop := ∀ (σ1 σ2 : pS), Inv σ1 σ2 → ∃ (τ1 τ2 : pS), fX11_image N G1 xa σ1 = some τ1 ∧ fX12_image N G2 ma σ2 = some τ2 ∧ Inv τ1 τ2
set_option maxRecDepth 100000 in
set_option maxHeartbeats 4000000 in
theorem lc_50 {B : Nat × Nat × Nat} {bs L : Nat} {xs : Nat → Int32} {G1 G2 : pG} {SK : Nat → Nat} {u : Nat × Nat} {σ1 σ2 : pS} {N xa ma oa : Nat} {Inv : pS → pS → Prop} {x4 : Int32} (hW1 : WT G1) (hW2 : WT G2) (hx : Is G1 xa 10) (hm : Is G2 ma 11) (ho : Is G1 oa 14) (ho1 : inB 0 (pN G1 oa) = true) (hg : Gd_image N G1 G2 xa ma oa Inv) (hI : Inv σ1 σ2) (hb1 : vp_in (x4 + (1 : Int32)) L) (hb2 : vp_in (x4 + (2 : Int32)) L) (hb3 : vp_in (x4 + (3 : Int32)) L) (hb4 : vp_in (x4 + (4 : Int32)) L) (hb5 : vp_in (x4 + (5 : Int32)) L) (hB : 1024 ≤ B.1) (hu : u.1 + 3 ≤ B.2.1 ∧ u.2 + 18 ≤ B.2.2) (K : ∀ τ1 τ2 : pS, Inv τ1 τ2 → EvL B bs L xs G1 G2 SK (u.1 + 3, u.2 + 18) 2718 [some (.ref bs), some (.ref xa), some (.ref ma), some (.ref oa), some (.int x4), none, none] [] τ1 τ2) : EvL B bs L xs G1 G2 SK u 2669 [some (.ref bs), some (.ref xa), some (.ref ma), some (.ref oa), some (.int x4), none, none] [] σ1 σ2 := by
  refine el_aload_n dc_L_law__2669 rfl ?_
  obtain ⟨τ1, τ2, e1, e2, hI9⟩ := hg _ _ hI
  refine el_call1 (av := []) (st := []) (st1 := []) dc_L_law__2670 (tX11_image hW1 hx e1) mw_642 cy_X11_image hx (by decide) rfl rfl rfl rfl (Nat.le_of_ble_eq_true rfl) (Nat.le_trans (show _ ≤ 1024 from Nat.le_of_ble_eq_true rfl) hB) ⟨(show u.1 ≤ B.2.1 from by omega), (show u.2 ≤ B.2.2 from by omega)⟩ ?_
  refine el_aload_n dc_L_law__2673 rfl ?_
  refine el_call2 (av := []) (st := []) (st1 := []) dc_L_law__2674 (tX12_image hW2 hm e2) mw_1581 cy_X12_image hm (by decide) rfl rfl rfl rfl (Nat.le_of_ble_eq_true rfl) (Nat.le_trans (show _ ≤ 1024 from Nat.le_of_ble_eq_true rfl) hB) ⟨(show u.1 ≤ B.2.1 from by omega), (show u.2 ≤ B.2.2 from by omega)⟩ ?_
  refine el_goto (tgt := 2718) dc_L_law__2677 (by decide) ?_
  exact el_wid ⟨(show u.1 ≤ u.1 + 3 from by omega), (show u.2 ≤ u.2 + 18 from by omega)⟩ (el_sub (K τ1 τ2 hI9) (And.intro rfl (And.intro rfl (And.intro rfl (And.intro rfl (And.intro rfl trivial))))))
def Gd_back (N : Nat) (G1 G2 : pG) (xa ma oa : Nat) (Inv : pS → pS → Prop) : Prop := ∀ (σ1 σ2 : pS), Inv σ1 σ2 → ∃ (v : Int32) (τ1 τ2 : pS), fX11_back N G1 xa σ1 = some (v, τ1) ∧ fX12_back N G2 ma σ2 = some (v, τ2) ∧ Inv τ1 τ2
set_option maxRecDepth 100000 in
set_option maxHeartbeats 4000000 in
theorem lc_51 {B : Nat × Nat × Nat} {bs L : Nat} {xs : Nat → Int32} {G1 G2 : pG} {SK : Nat → Nat} {u : Nat × Nat} {σ1 σ2 : pS} {N xa ma oa : Nat} {Inv : pS → pS → Prop} {x4 : Int32} (hW1 : WT G1) (hW2 : WT G2) (hx : Is G1 xa 10) (hm : Is G2 ma 11) (ho : Is G1 oa 14) (ho1 : inB 0 (pN G1 oa) = true) (hg : Gd_back N G1 G2 xa ma oa Inv) (hI : Inv σ1 σ2) (hb1 : vp_in (x4 + (1 : Int32)) L) (hb2 : vp_in (x4 + (2 : Int32)) L) (hb3 : vp_in (x4 + (3 : Int32)) L) (hb4 : vp_in (x4 + (4 : Int32)) L) (hb5 : vp_in (x4 + (5 : Int32)) L) (hB : 1024 ≤ B.1) (hu : u.1 + 3 ≤ B.2.1 ∧ u.2 + 18 ≤ B.2.2) (K : ∀ τ1 τ2 : pS, Inv τ1 τ2 → EvL B bs L xs G1 G2 SK (u.1 + 3, u.2 + 18) 2718 [some (.ref bs), some (.ref xa), some (.ref ma), some (.ref oa), some (.int x4), none, none] [] τ1 τ2) : EvL B bs L xs G1 G2 SK u 2680 [some (.ref bs), some (.ref xa), some (.ref ma), some (.ref oa), some (.int x4), none, none] [] σ1 σ2 := by
  refine el_aload_n dc_L_law__2680 rfl ?_
  obtain ⟨v9, τ1, τ2, e1, e2, hI9⟩ := hg _ _ hI
  refine el_call1 (av := []) (st := []) (st1 := [.int v9]) dc_L_law__2681 (tX11_back hW1 hx e1) mw_661 cy_X11_back hx (by decide) rfl rfl rfl rfl (Nat.le_of_ble_eq_true rfl) (Nat.le_trans (show _ ≤ 1024 from Nat.le_of_ble_eq_true rfl) hB) ⟨(show u.1 ≤ B.2.1 from by omega), (show u.2 ≤ B.2.2 from by omega)⟩ ?_
  refine el_aload_n dc_L_law__2684 rfl ?_
  refine el_call2 (av := []) (st := [.int v9]) (st1 := [.int v9, .int v9]) dc_L_law__2685 (tX12_back hW2 hm e2) mw_1585 cy_X12_back hm (by decide) rfl rfl rfl rfl (Nat.le_of_ble_eq_true rfl) (Nat.le_trans (show _ ≤ 1024 from Nat.le_of_ble_eq_true rfl) hB) ⟨(show u.1 ≤ B.2.1 from by omega), (show u.2 ≤ B.2.2 from by omega)⟩ ?_
  refine el_icmp_eq (tgt := 2718) dc_L_law__2688 (by decide) (fun _ => ?_) (fun h => absurd rfl h)
  exact el_wid ⟨(show u.1 ≤ u.1 + 3 from by omega), (show u.2 ≤ u.2 + 18 from by omega)⟩ (el_sub (K τ1 τ2 hI9) (And.intro rfl (And.intro rfl (And.intro rfl (And.intro rfl (And.intro rfl trivial))))))
def Gd_count (N : Nat) (G1 G2 : pG) (xa ma oa : Nat) (Inv : pS → pS → Prop) : Prop := ∀ (σ1 σ2 : pS), Inv σ1 σ2 → ∀ (c1 : Int32), ∃ (v : Int32) (τ2 : pS), fX11_count N G1 xa c1 σ1 = some v ∧ fX12_count N G2 ma c1 σ2 = some (v, τ2) ∧ Inv σ1 τ2
set_option maxRecDepth 100000 in
set_option maxHeartbeats 4000000 in
theorem lc_52 {B : Nat × Nat × Nat} {bs L : Nat} {xs : Nat → Int32} {G1 G2 : pG} {SK : Nat → Nat} {u : Nat × Nat} {σ1 σ2 : pS} {N xa ma oa : Nat} {Inv : pS → pS → Prop} {x4 : Int32} (hW1 : WT G1) (hW2 : WT G2) (hx : Is G1 xa 10) (hm : Is G2 ma 11) (ho : Is G1 oa 14) (ho1 : inB 0 (pN G1 oa) = true) (hg : Gd_count N G1 G2 xa ma oa Inv) (hI : Inv σ1 σ2) (hb1 : vp_in (x4 + (1 : Int32)) L) (hb2 : vp_in (x4 + (2 : Int32)) L) (hb3 : vp_in (x4 + (3 : Int32)) L) (hb4 : vp_in (x4 + (4 : Int32)) L) (hb5 : vp_in (x4 + (5 : Int32)) L) (hB : 1024 ≤ B.1) (hu : u.1 + 3 ≤ B.2.1 ∧ u.2 + 18 ≤ B.2.2) (K : ∀ τ1 τ2 : pS, Inv τ1 τ2 → EvL B bs L xs G1 G2 SK (u.1 + 3, u.2 + 18) 2718 [some (.ref bs), some (.ref xa), some (.ref ma), some (.ref oa), some (.int x4), none, none] [] τ1 τ2) : EvL B bs L xs G1 G2 SK u 2693 [some (.ref bs), some (.ref xa), some (.ref ma), some (.ref oa), some (.int x4), none, none] [] σ1 σ2 := by
  refine el_aload_n dc_L_law__2693 rfl ?_
  refine el_aload_n dc_L_law__2694 rfl ?_
  refine el_iload dc_L_law__2695 rfl ?_
  refine el_iconst (v := 1) dc_L_law__2697 (by decide) ?_
  refine el_iadd dc_L_law__2698 ?_
  refine el_sld dc_L_law__2699 hb1 ?_
  obtain ⟨v9, τ2, e1, e2, hI9⟩ := hg _ _ hI (xs (x4 + (1 : Int32)).toNatClampNeg)
  refine el_call1 (av := [.int (xs (x4 + (1 : Int32)).toNatClampNeg)]) (st := []) (st1 := [.int v9]) dc_L_law__2700 (tX11_count hW1 hx e1) mw_669 cy_X11_count hx (by decide) rfl rfl rfl rfl (Nat.le_of_ble_eq_true rfl) (Nat.le_trans (show _ ≤ 1024 from Nat.le_of_ble_eq_true rfl) hB) ⟨(show u.1 ≤ B.2.1 from by omega), (show u.2 ≤ B.2.2 from by omega)⟩ ?_
  refine el_aload_n dc_L_law__2703 rfl ?_
  refine el_aload_n dc_L_law__2704 rfl ?_
  refine el_iload dc_L_law__2705 rfl ?_
  refine el_iconst (v := 1) dc_L_law__2707 (by decide) ?_
  refine el_iadd dc_L_law__2708 ?_
  refine el_sld dc_L_law__2709 hb1 ?_
  refine el_call2 (av := [.int (xs (x4 + (1 : Int32)).toNatClampNeg)]) (st := [.int v9]) (st1 := [.int v9, .int v9]) dc_L_law__2710 (tX12_count hW2 hm e2) mw_2194 cy_X12_count hm (by decide) rfl rfl rfl rfl (Nat.le_of_ble_eq_true rfl) (Nat.le_trans (show _ ≤ 1024 from Nat.le_of_ble_eq_true rfl) hB) ⟨(show u.1 ≤ B.2.1 from by omega), (show u.2 ≤ B.2.2 from by omega)⟩ ?_
  refine el_icmp_eq (tgt := 2718) dc_L_law__2713 (by decide) (fun _ => ?_) (fun h => absurd rfl h)
  exact el_wid ⟨(show u.1 ≤ u.1 + 3 from by omega), (show u.2 ≤ u.2 + 18 from by omega)⟩ (el_sub (K σ1 τ2 hI9) (And.intro rfl (And.intro rfl (And.intro rfl (And.intro rfl (And.intro rfl trivial))))))
