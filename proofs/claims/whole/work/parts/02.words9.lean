theorem mw_max1 : Cond.static Lib.Math.max.name ∈ Gw := mw_500
theorem mw_max2 : Cond.initialized "java/lang/Math" ∈ Gw := mw_19
theorem mw_max3 : Cond.code Lib.Math.max.name Lib.Math.max.code 2 (some .int) ∈ Gw := mw_501
theorem mw_min1 : Cond.static Lib.Math.min.name ∈ Gw := mw_503
theorem mw_min3 : Cond.code Lib.Math.min.name Lib.Math.min.code 2 (some .int) ∈ Gw := mw_504
theorem mw_cp1 : Cond.native arraycopyName ∈ Gw := mw_636
theorem mw_cp2 : Cond.static arraycopyName ∈ Gw := mw_635
theorem mw_cp3 : Cond.initialized "java/lang/System" ∈ Gw := mw_13
