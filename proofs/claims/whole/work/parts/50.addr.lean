theorem g1r_0_0 {z : Nat} : pR (G1 z) z 0 = z + 1 := by
  show z + (k1R.getD (z - z) []).getD 0 0 = _
  rw [Nat.sub_self]
  rfl
theorem g1r_0_1 {z : Nat} : pR (G1 z) z 1 = z + 3 := by
  show z + (k1R.getD (z - z) []).getD 1 0 = _
  rw [Nat.sub_self]
  rfl
theorem g1r_0_2 {z : Nat} : pR (G1 z) z 2 = z + 24 := by
  show z + (k1R.getD (z - z) []).getD 2 0 = _
  rw [Nat.sub_self]
  rfl
theorem g1r_0_3 {z : Nat} : pR (G1 z) z 3 = z + 45 := by
  show z + (k1R.getD (z - z) []).getD 3 0 = _
  rw [Nat.sub_self]
  rfl
theorem g1r_0_4 {z : Nat} : pR (G1 z) z 4 = z + 66 := by
  show z + (k1R.getD (z - z) []).getD 4 0 = _
  rw [Nat.sub_self]
  rfl
theorem g1r_0_5 {z : Nat} : pR (G1 z) z 5 = z + 116 := by
  show z + (k1R.getD (z - z) []).getD 5 0 = _
  rw [Nat.sub_self]
  rfl
theorem g1r_0_6 {z : Nat} : pR (G1 z) z 6 = z + 120 := by
  show z + (k1R.getD (z - z) []).getD 6 0 = _
  rw [Nat.sub_self]
  rfl
theorem g1r_0_7 {z : Nat} : pR (G1 z) z 7 = z + 127 := by
  show z + (k1R.getD (z - z) []).getD 7 0 = _
  rw [Nat.sub_self]
  rfl
theorem g1r_0_8 {z : Nat} : pR (G1 z) z 8 = z + 135 := by
  show z + (k1R.getD (z - z) []).getD 8 0 = _
  rw [Nat.sub_self]
  rfl
theorem g1r_1_5 {z : Nat} : pR (G1 z) (z + 1) 5 = z + 2 := by
  show z + (k1R.getD ((z + 1) - z) []).getD 5 0 = _
  rw [Nat.add_sub_cancel_left]
  rfl
theorem g1n_2 {z : Nat} : pN (G1 z) (z + 2) = 400 := by
  show k1N.getD ((z + 2) - z) 0 = _
  rw [Nat.add_sub_cancel_left]
  rfl
theorem g1r_3_0 {z : Nat} : pR (G1 z) (z + 3) 0 = z + 4 := by
  show z + (k1R.getD ((z + 3) - z) []).getD 0 0 = _
  rw [Nat.add_sub_cancel_left]
  rfl
theorem g1r_3_1 {z : Nat} : pR (G1 z) (z + 3) 1 = z + 14 := by
  show z + (k1R.getD ((z + 3) - z) []).getD 1 0 = _
  rw [Nat.add_sub_cancel_left]
  rfl
theorem g1r_3_2 {z : Nat} : pR (G1 z) (z + 3) 2 = z + 20 := by
  show z + (k1R.getD ((z + 3) - z) []).getD 2 0 = _
  rw [Nat.add_sub_cancel_left]
  rfl
theorem g1r_4_9 {z : Nat} : pR (G1 z) (z + 4) 9 = z + 5 := by
  show z + (k1R.getD ((z + 4) - z) []).getD 9 0 = _
  rw [Nat.add_sub_cancel_left]
  rfl
theorem g1r_4_10 {z : Nat} : pR (G1 z) (z + 4) 10 = z + 6 := by
  show z + (k1R.getD ((z + 4) - z) []).getD 10 0 = _
  rw [Nat.add_sub_cancel_left]
  rfl
theorem g1r_4_11 {z : Nat} : pR (G1 z) (z + 4) 11 = z + 7 := by
  show z + (k1R.getD ((z + 4) - z) []).getD 11 0 = _
  rw [Nat.add_sub_cancel_left]
  rfl
theorem g1r_4_12 {z : Nat} : pR (G1 z) (z + 4) 12 = z + 8 := by
  show z + (k1R.getD ((z + 4) - z) []).getD 12 0 = _
  rw [Nat.add_sub_cancel_left]
  rfl
theorem g1r_4_13 {z : Nat} : pR (G1 z) (z + 4) 13 = z + 9 := by
  show z + (k1R.getD ((z + 4) - z) []).getD 13 0 = _
  rw [Nat.add_sub_cancel_left]
  rfl
theorem g1r_4_14 {z : Nat} : pR (G1 z) (z + 4) 14 = z + 10 := by
  show z + (k1R.getD ((z + 4) - z) []).getD 14 0 = _
  rw [Nat.add_sub_cancel_left]
  rfl
theorem g1r_4_15 {z : Nat} : pR (G1 z) (z + 4) 15 = z + 11 := by
  show z + (k1R.getD ((z + 4) - z) []).getD 15 0 = _
  rw [Nat.add_sub_cancel_left]
  rfl
theorem g1r_4_16 {z : Nat} : pR (G1 z) (z + 4) 16 = z + 12 := by
  show z + (k1R.getD ((z + 4) - z) []).getD 16 0 = _
  rw [Nat.add_sub_cancel_left]
  rfl
theorem g1r_4_17 {z : Nat} : pR (G1 z) (z + 4) 17 = z + 13 := by
  show z + (k1R.getD ((z + 4) - z) []).getD 17 0 = _
  rw [Nat.add_sub_cancel_left]
  rfl
theorem g1n_5 {z : Nat} : pN (G1 z) (z + 5) = 10 := by
  show k1N.getD ((z + 5) - z) 0 = _
  rw [Nat.add_sub_cancel_left]
  rfl
theorem g1n_6 {z : Nat} : pN (G1 z) (z + 6) = 10 := by
  show k1N.getD ((z + 6) - z) 0 = _
  rw [Nat.add_sub_cancel_left]
  rfl
theorem g1n_7 {z : Nat} : pN (G1 z) (z + 7) = 6 := by
  show k1N.getD ((z + 7) - z) 0 = _
  rw [Nat.add_sub_cancel_left]
  rfl
theorem g1n_8 {z : Nat} : pN (G1 z) (z + 8) = 6 := by
  show k1N.getD ((z + 8) - z) 0 = _
  rw [Nat.add_sub_cancel_left]
  rfl
theorem g1n_9 {z : Nat} : pN (G1 z) (z + 9) = 6 := by
  show k1N.getD ((z + 9) - z) 0 = _
  rw [Nat.add_sub_cancel_left]
  rfl
theorem g1n_10 {z : Nat} : pN (G1 z) (z + 10) = 4 := by
  show k1N.getD ((z + 10) - z) 0 = _
  rw [Nat.add_sub_cancel_left]
  rfl
theorem g1n_11 {z : Nat} : pN (G1 z) (z + 11) = 4 := by
  show k1N.getD ((z + 11) - z) 0 = _
  rw [Nat.add_sub_cancel_left]
  rfl
theorem g1n_12 {z : Nat} : pN (G1 z) (z + 12) = 6 := by
  show k1N.getD ((z + 12) - z) 0 = _
  rw [Nat.add_sub_cancel_left]
  rfl
theorem g1n_13 {z : Nat} : pN (G1 z) (z + 13) = 8 := by
  show k1N.getD ((z + 13) - z) 0 = _
  rw [Nat.add_sub_cancel_left]
  rfl
theorem g1r_14_2 {z : Nat} : pR (G1 z) (z + 14) 2 = z + 15 := by
  show z + (k1R.getD ((z + 14) - z) []).getD 2 0 = _
  rw [Nat.add_sub_cancel_left]
  rfl
theorem g1r_14_3 {z : Nat} : pR (G1 z) (z + 14) 3 = z + 16 := by
  show z + (k1R.getD ((z + 14) - z) []).getD 3 0 = _
  rw [Nat.add_sub_cancel_left]
  rfl
theorem g1r_14_4 {z : Nat} : pR (G1 z) (z + 14) 4 = z + 17 := by
  show z + (k1R.getD ((z + 14) - z) []).getD 4 0 = _
  rw [Nat.add_sub_cancel_left]
  rfl
theorem g1r_14_5 {z : Nat} : pR (G1 z) (z + 14) 5 = z + 18 := by
  show z + (k1R.getD ((z + 14) - z) []).getD 5 0 = _
  rw [Nat.add_sub_cancel_left]
  rfl
theorem g1r_14_6 {z : Nat} : pR (G1 z) (z + 14) 6 = z + 19 := by
  show z + (k1R.getD ((z + 14) - z) []).getD 6 0 = _
  rw [Nat.add_sub_cancel_left]
  rfl
theorem g1n_15 {z : Nat} : pN (G1 z) (z + 15) = 12 := by
  show k1N.getD ((z + 15) - z) 0 = _
  rw [Nat.add_sub_cancel_left]
  rfl
theorem g1n_16 {z : Nat} : pN (G1 z) (z + 16) = 12 := by
  show k1N.getD ((z + 16) - z) 0 = _
  rw [Nat.add_sub_cancel_left]
  rfl
theorem g1n_17 {z : Nat} : pN (G1 z) (z + 17) = 12 := by
  show k1N.getD ((z + 17) - z) 0 = _
  rw [Nat.add_sub_cancel_left]
  rfl
theorem g1n_18 {z : Nat} : pN (G1 z) (z + 18) = 400 := by
  show k1N.getD ((z + 18) - z) 0 = _
  rw [Nat.add_sub_cancel_left]
  rfl
theorem g1n_19 {z : Nat} : pN (G1 z) (z + 19) = 6 := by
  show k1N.getD ((z + 19) - z) 0 = _
  rw [Nat.add_sub_cancel_left]
  rfl
theorem g1r_20_7 {z : Nat} : pR (G1 z) (z + 20) 7 = z + 21 := by
  show z + (k1R.getD ((z + 20) - z) []).getD 7 0 = _
  rw [Nat.add_sub_cancel_left]
  rfl
theorem g1r_20_8 {z : Nat} : pR (G1 z) (z + 20) 8 = z + 22 := by
  show z + (k1R.getD ((z + 20) - z) []).getD 8 0 = _
  rw [Nat.add_sub_cancel_left]
  rfl
theorem g1n_21 {z : Nat} : pN (G1 z) (z + 21) = 6 := by
  show k1N.getD ((z + 21) - z) 0 = _
  rw [Nat.add_sub_cancel_left]
  rfl
theorem g1r_22_2 {z : Nat} : pR (G1 z) (z + 22) 2 = z + 23 := by
  show z + (k1R.getD ((z + 22) - z) []).getD 2 0 = _
  rw [Nat.add_sub_cancel_left]
  rfl
theorem g1n_23 {z : Nat} : pN (G1 z) (z + 23) = 60 := by
  show k1N.getD ((z + 23) - z) 0 = _
  rw [Nat.add_sub_cancel_left]
  rfl
theorem g1r_24_0 {z : Nat} : pR (G1 z) (z + 24) 0 = z + 25 := by
  show z + (k1R.getD ((z + 24) - z) []).getD 0 0 = _
  rw [Nat.add_sub_cancel_left]
  rfl
theorem g1r_24_1 {z : Nat} : pR (G1 z) (z + 24) 1 = z + 35 := by
  show z + (k1R.getD ((z + 24) - z) []).getD 1 0 = _
  rw [Nat.add_sub_cancel_left]
  rfl
theorem g1r_24_2 {z : Nat} : pR (G1 z) (z + 24) 2 = z + 41 := by
  show z + (k1R.getD ((z + 24) - z) []).getD 2 0 = _
  rw [Nat.add_sub_cancel_left]
  rfl
theorem g1r_25_9 {z : Nat} : pR (G1 z) (z + 25) 9 = z + 26 := by
  show z + (k1R.getD ((z + 25) - z) []).getD 9 0 = _
  rw [Nat.add_sub_cancel_left]
  rfl
theorem g1r_25_10 {z : Nat} : pR (G1 z) (z + 25) 10 = z + 27 := by
  show z + (k1R.getD ((z + 25) - z) []).getD 10 0 = _
  rw [Nat.add_sub_cancel_left]
  rfl
theorem g1r_25_11 {z : Nat} : pR (G1 z) (z + 25) 11 = z + 28 := by
  show z + (k1R.getD ((z + 25) - z) []).getD 11 0 = _
  rw [Nat.add_sub_cancel_left]
  rfl
theorem g1r_25_12 {z : Nat} : pR (G1 z) (z + 25) 12 = z + 29 := by
  show z + (k1R.getD ((z + 25) - z) []).getD 12 0 = _
  rw [Nat.add_sub_cancel_left]
  rfl
theorem g1r_25_13 {z : Nat} : pR (G1 z) (z + 25) 13 = z + 30 := by
  show z + (k1R.getD ((z + 25) - z) []).getD 13 0 = _
  rw [Nat.add_sub_cancel_left]
  rfl
theorem g1r_25_14 {z : Nat} : pR (G1 z) (z + 25) 14 = z + 31 := by
  show z + (k1R.getD ((z + 25) - z) []).getD 14 0 = _
  rw [Nat.add_sub_cancel_left]
  rfl
theorem g1r_25_15 {z : Nat} : pR (G1 z) (z + 25) 15 = z + 32 := by
  show z + (k1R.getD ((z + 25) - z) []).getD 15 0 = _
  rw [Nat.add_sub_cancel_left]
  rfl
theorem g1r_25_16 {z : Nat} : pR (G1 z) (z + 25) 16 = z + 33 := by
  show z + (k1R.getD ((z + 25) - z) []).getD 16 0 = _
  rw [Nat.add_sub_cancel_left]
  rfl
theorem g1r_25_17 {z : Nat} : pR (G1 z) (z + 25) 17 = z + 34 := by
  show z + (k1R.getD ((z + 25) - z) []).getD 17 0 = _
  rw [Nat.add_sub_cancel_left]
  rfl
theorem g1n_26 {z : Nat} : pN (G1 z) (z + 26) = 10 := by
  show k1N.getD ((z + 26) - z) 0 = _
  rw [Nat.add_sub_cancel_left]
  rfl
theorem g1n_27 {z : Nat} : pN (G1 z) (z + 27) = 10 := by
  show k1N.getD ((z + 27) - z) 0 = _
  rw [Nat.add_sub_cancel_left]
  rfl
theorem g1n_28 {z : Nat} : pN (G1 z) (z + 28) = 6 := by
  show k1N.getD ((z + 28) - z) 0 = _
  rw [Nat.add_sub_cancel_left]
  rfl
theorem g1n_29 {z : Nat} : pN (G1 z) (z + 29) = 6 := by
  show k1N.getD ((z + 29) - z) 0 = _
  rw [Nat.add_sub_cancel_left]
  rfl
theorem g1n_30 {z : Nat} : pN (G1 z) (z + 30) = 6 := by
  show k1N.getD ((z + 30) - z) 0 = _
  rw [Nat.add_sub_cancel_left]
  rfl
theorem g1n_31 {z : Nat} : pN (G1 z) (z + 31) = 4 := by
  show k1N.getD ((z + 31) - z) 0 = _
  rw [Nat.add_sub_cancel_left]
  rfl
theorem g1n_32 {z : Nat} : pN (G1 z) (z + 32) = 4 := by
  show k1N.getD ((z + 32) - z) 0 = _
  rw [Nat.add_sub_cancel_left]
  rfl
theorem g1n_33 {z : Nat} : pN (G1 z) (z + 33) = 6 := by
  show k1N.getD ((z + 33) - z) 0 = _
  rw [Nat.add_sub_cancel_left]
  rfl
theorem g1n_34 {z : Nat} : pN (G1 z) (z + 34) = 8 := by
  show k1N.getD ((z + 34) - z) 0 = _
  rw [Nat.add_sub_cancel_left]
  rfl
theorem g1r_35_2 {z : Nat} : pR (G1 z) (z + 35) 2 = z + 36 := by
  show z + (k1R.getD ((z + 35) - z) []).getD 2 0 = _
  rw [Nat.add_sub_cancel_left]
  rfl
theorem g1r_35_3 {z : Nat} : pR (G1 z) (z + 35) 3 = z + 37 := by
  show z + (k1R.getD ((z + 35) - z) []).getD 3 0 = _
  rw [Nat.add_sub_cancel_left]
  rfl
theorem g1r_35_4 {z : Nat} : pR (G1 z) (z + 35) 4 = z + 38 := by
  show z + (k1R.getD ((z + 35) - z) []).getD 4 0 = _
  rw [Nat.add_sub_cancel_left]
  rfl
theorem g1r_35_5 {z : Nat} : pR (G1 z) (z + 35) 5 = z + 39 := by
  show z + (k1R.getD ((z + 35) - z) []).getD 5 0 = _
  rw [Nat.add_sub_cancel_left]
  rfl
theorem g1r_35_6 {z : Nat} : pR (G1 z) (z + 35) 6 = z + 40 := by
  show z + (k1R.getD ((z + 35) - z) []).getD 6 0 = _
  rw [Nat.add_sub_cancel_left]
  rfl
theorem g1n_36 {z : Nat} : pN (G1 z) (z + 36) = 12 := by
  show k1N.getD ((z + 36) - z) 0 = _
  rw [Nat.add_sub_cancel_left]
  rfl
theorem g1n_37 {z : Nat} : pN (G1 z) (z + 37) = 12 := by
  show k1N.getD ((z + 37) - z) 0 = _
  rw [Nat.add_sub_cancel_left]
  rfl
theorem g1n_38 {z : Nat} : pN (G1 z) (z + 38) = 12 := by
  show k1N.getD ((z + 38) - z) 0 = _
  rw [Nat.add_sub_cancel_left]
  rfl
theorem g1n_39 {z : Nat} : pN (G1 z) (z + 39) = 400 := by
  show k1N.getD ((z + 39) - z) 0 = _
  rw [Nat.add_sub_cancel_left]
  rfl
theorem g1n_40 {z : Nat} : pN (G1 z) (z + 40) = 6 := by
  show k1N.getD ((z + 40) - z) 0 = _
  rw [Nat.add_sub_cancel_left]
  rfl
theorem g1r_41_7 {z : Nat} : pR (G1 z) (z + 41) 7 = z + 42 := by
  show z + (k1R.getD ((z + 41) - z) []).getD 7 0 = _
  rw [Nat.add_sub_cancel_left]
  rfl
theorem g1r_41_8 {z : Nat} : pR (G1 z) (z + 41) 8 = z + 43 := by
  show z + (k1R.getD ((z + 41) - z) []).getD 8 0 = _
  rw [Nat.add_sub_cancel_left]
  rfl
theorem g1n_42 {z : Nat} : pN (G1 z) (z + 42) = 6 := by
  show k1N.getD ((z + 42) - z) 0 = _
  rw [Nat.add_sub_cancel_left]
  rfl
theorem g1r_43_2 {z : Nat} : pR (G1 z) (z + 43) 2 = z + 44 := by
  show z + (k1R.getD ((z + 43) - z) []).getD 2 0 = _
  rw [Nat.add_sub_cancel_left]
  rfl
theorem g1n_44 {z : Nat} : pN (G1 z) (z + 44) = 60 := by
  show k1N.getD ((z + 44) - z) 0 = _
  rw [Nat.add_sub_cancel_left]
  rfl
theorem g1r_45_0 {z : Nat} : pR (G1 z) (z + 45) 0 = z + 46 := by
  show z + (k1R.getD ((z + 45) - z) []).getD 0 0 = _
  rw [Nat.add_sub_cancel_left]
  rfl
theorem g1r_45_1 {z : Nat} : pR (G1 z) (z + 45) 1 = z + 56 := by
  show z + (k1R.getD ((z + 45) - z) []).getD 1 0 = _
  rw [Nat.add_sub_cancel_left]
  rfl
theorem g1r_45_2 {z : Nat} : pR (G1 z) (z + 45) 2 = z + 62 := by
  show z + (k1R.getD ((z + 45) - z) []).getD 2 0 = _
  rw [Nat.add_sub_cancel_left]
  rfl
theorem g1r_46_9 {z : Nat} : pR (G1 z) (z + 46) 9 = z + 47 := by
  show z + (k1R.getD ((z + 46) - z) []).getD 9 0 = _
  rw [Nat.add_sub_cancel_left]
  rfl
theorem g1r_46_10 {z : Nat} : pR (G1 z) (z + 46) 10 = z + 48 := by
  show z + (k1R.getD ((z + 46) - z) []).getD 10 0 = _
  rw [Nat.add_sub_cancel_left]
  rfl
theorem g1r_46_11 {z : Nat} : pR (G1 z) (z + 46) 11 = z + 49 := by
  show z + (k1R.getD ((z + 46) - z) []).getD 11 0 = _
  rw [Nat.add_sub_cancel_left]
  rfl
theorem g1r_46_12 {z : Nat} : pR (G1 z) (z + 46) 12 = z + 50 := by
  show z + (k1R.getD ((z + 46) - z) []).getD 12 0 = _
  rw [Nat.add_sub_cancel_left]
  rfl
theorem g1r_46_13 {z : Nat} : pR (G1 z) (z + 46) 13 = z + 51 := by
  show z + (k1R.getD ((z + 46) - z) []).getD 13 0 = _
  rw [Nat.add_sub_cancel_left]
  rfl
theorem g1r_46_14 {z : Nat} : pR (G1 z) (z + 46) 14 = z + 52 := by
  show z + (k1R.getD ((z + 46) - z) []).getD 14 0 = _
  rw [Nat.add_sub_cancel_left]
  rfl
theorem g1r_46_15 {z : Nat} : pR (G1 z) (z + 46) 15 = z + 53 := by
  show z + (k1R.getD ((z + 46) - z) []).getD 15 0 = _
  rw [Nat.add_sub_cancel_left]
  rfl
theorem g1r_46_16 {z : Nat} : pR (G1 z) (z + 46) 16 = z + 54 := by
  show z + (k1R.getD ((z + 46) - z) []).getD 16 0 = _
  rw [Nat.add_sub_cancel_left]
  rfl
theorem g1r_46_17 {z : Nat} : pR (G1 z) (z + 46) 17 = z + 55 := by
  show z + (k1R.getD ((z + 46) - z) []).getD 17 0 = _
  rw [Nat.add_sub_cancel_left]
  rfl
theorem g1n_47 {z : Nat} : pN (G1 z) (z + 47) = 10 := by
  show k1N.getD ((z + 47) - z) 0 = _
  rw [Nat.add_sub_cancel_left]
  rfl
theorem g1n_48 {z : Nat} : pN (G1 z) (z + 48) = 10 := by
  show k1N.getD ((z + 48) - z) 0 = _
  rw [Nat.add_sub_cancel_left]
  rfl
theorem g1n_49 {z : Nat} : pN (G1 z) (z + 49) = 6 := by
  show k1N.getD ((z + 49) - z) 0 = _
  rw [Nat.add_sub_cancel_left]
  rfl
theorem g1n_50 {z : Nat} : pN (G1 z) (z + 50) = 6 := by
  show k1N.getD ((z + 50) - z) 0 = _
  rw [Nat.add_sub_cancel_left]
  rfl
theorem g1n_51 {z : Nat} : pN (G1 z) (z + 51) = 6 := by
  show k1N.getD ((z + 51) - z) 0 = _
  rw [Nat.add_sub_cancel_left]
  rfl
theorem g1n_52 {z : Nat} : pN (G1 z) (z + 52) = 4 := by
  show k1N.getD ((z + 52) - z) 0 = _
  rw [Nat.add_sub_cancel_left]
  rfl
theorem g1n_53 {z : Nat} : pN (G1 z) (z + 53) = 4 := by
  show k1N.getD ((z + 53) - z) 0 = _
  rw [Nat.add_sub_cancel_left]
  rfl
theorem g1n_54 {z : Nat} : pN (G1 z) (z + 54) = 6 := by
  show k1N.getD ((z + 54) - z) 0 = _
  rw [Nat.add_sub_cancel_left]
  rfl
theorem g1n_55 {z : Nat} : pN (G1 z) (z + 55) = 8 := by
  show k1N.getD ((z + 55) - z) 0 = _
  rw [Nat.add_sub_cancel_left]
  rfl
theorem g1r_56_2 {z : Nat} : pR (G1 z) (z + 56) 2 = z + 57 := by
  show z + (k1R.getD ((z + 56) - z) []).getD 2 0 = _
  rw [Nat.add_sub_cancel_left]
  rfl
theorem g1r_56_3 {z : Nat} : pR (G1 z) (z + 56) 3 = z + 58 := by
  show z + (k1R.getD ((z + 56) - z) []).getD 3 0 = _
  rw [Nat.add_sub_cancel_left]
  rfl
theorem g1r_56_4 {z : Nat} : pR (G1 z) (z + 56) 4 = z + 59 := by
  show z + (k1R.getD ((z + 56) - z) []).getD 4 0 = _
  rw [Nat.add_sub_cancel_left]
  rfl
theorem g1r_56_5 {z : Nat} : pR (G1 z) (z + 56) 5 = z + 60 := by
  show z + (k1R.getD ((z + 56) - z) []).getD 5 0 = _
  rw [Nat.add_sub_cancel_left]
  rfl
theorem g1r_56_6 {z : Nat} : pR (G1 z) (z + 56) 6 = z + 61 := by
  show z + (k1R.getD ((z + 56) - z) []).getD 6 0 = _
  rw [Nat.add_sub_cancel_left]
  rfl
theorem g1n_57 {z : Nat} : pN (G1 z) (z + 57) = 12 := by
  show k1N.getD ((z + 57) - z) 0 = _
  rw [Nat.add_sub_cancel_left]
  rfl
theorem g1n_58 {z : Nat} : pN (G1 z) (z + 58) = 12 := by
  show k1N.getD ((z + 58) - z) 0 = _
  rw [Nat.add_sub_cancel_left]
  rfl
theorem g1n_59 {z : Nat} : pN (G1 z) (z + 59) = 12 := by
  show k1N.getD ((z + 59) - z) 0 = _
  rw [Nat.add_sub_cancel_left]
  rfl
theorem g1n_60 {z : Nat} : pN (G1 z) (z + 60) = 400 := by
  show k1N.getD ((z + 60) - z) 0 = _
  rw [Nat.add_sub_cancel_left]
  rfl
theorem g1n_61 {z : Nat} : pN (G1 z) (z + 61) = 6 := by
  show k1N.getD ((z + 61) - z) 0 = _
  rw [Nat.add_sub_cancel_left]
  rfl
theorem g1r_62_7 {z : Nat} : pR (G1 z) (z + 62) 7 = z + 63 := by
  show z + (k1R.getD ((z + 62) - z) []).getD 7 0 = _
  rw [Nat.add_sub_cancel_left]
  rfl
theorem g1r_62_8 {z : Nat} : pR (G1 z) (z + 62) 8 = z + 64 := by
  show z + (k1R.getD ((z + 62) - z) []).getD 8 0 = _
  rw [Nat.add_sub_cancel_left]
  rfl
theorem g1n_63 {z : Nat} : pN (G1 z) (z + 63) = 6 := by
  show k1N.getD ((z + 63) - z) 0 = _
  rw [Nat.add_sub_cancel_left]
  rfl
theorem g1r_64_2 {z : Nat} : pR (G1 z) (z + 64) 2 = z + 65 := by
  show z + (k1R.getD ((z + 64) - z) []).getD 2 0 = _
  rw [Nat.add_sub_cancel_left]
  rfl
theorem g1n_65 {z : Nat} : pN (G1 z) (z + 65) = 60 := by
  show k1N.getD ((z + 65) - z) 0 = _
  rw [Nat.add_sub_cancel_left]
  rfl
theorem g1r_66_2 {z : Nat} : pR (G1 z) (z + 66) 2 = z + 67 := by
  show z + (k1R.getD ((z + 66) - z) []).getD 2 0 = _
  rw [Nat.add_sub_cancel_left]
  rfl
theorem g1n_67 {z : Nat} : pN (G1 z) (z + 67) = 12 := by
  show k1N.getD ((z + 67) - z) 0 = _
  rw [Nat.add_sub_cancel_left]
  rfl
theorem g1r_68_7 {z : Nat} : pR (G1 z) (z + 68) 7 = z + 69 := by
  show z + (k1R.getD ((z + 68) - z) []).getD 7 0 = _
  rw [Nat.add_sub_cancel_left]
  rfl
theorem g1r_68_8 {z : Nat} : pR (G1 z) (z + 68) 8 = z + 70 := by
  show z + (k1R.getD ((z + 68) - z) []).getD 8 0 = _
  rw [Nat.add_sub_cancel_left]
  rfl
theorem g1n_69 {z : Nat} : pN (G1 z) (z + 69) = 6 := by
  show k1N.getD ((z + 69) - z) 0 = _
  rw [Nat.add_sub_cancel_left]
  rfl
theorem g1r_70_2 {z : Nat} : pR (G1 z) (z + 70) 2 = z + 71 := by
  show z + (k1R.getD ((z + 70) - z) []).getD 2 0 = _
  rw [Nat.add_sub_cancel_left]
  rfl
theorem g1n_71 {z : Nat} : pN (G1 z) (z + 71) = 60 := by
  show k1N.getD ((z + 71) - z) 0 = _
  rw [Nat.add_sub_cancel_left]
  rfl
theorem g1r_72_7 {z : Nat} : pR (G1 z) (z + 72) 7 = z + 73 := by
  show z + (k1R.getD ((z + 72) - z) []).getD 7 0 = _
  rw [Nat.add_sub_cancel_left]
  rfl
theorem g1r_72_8 {z : Nat} : pR (G1 z) (z + 72) 8 = z + 74 := by
  show z + (k1R.getD ((z + 72) - z) []).getD 8 0 = _
  rw [Nat.add_sub_cancel_left]
  rfl
theorem g1n_73 {z : Nat} : pN (G1 z) (z + 73) = 6 := by
  show k1N.getD ((z + 73) - z) 0 = _
  rw [Nat.add_sub_cancel_left]
  rfl
theorem g1r_74_2 {z : Nat} : pR (G1 z) (z + 74) 2 = z + 75 := by
  show z + (k1R.getD ((z + 74) - z) []).getD 2 0 = _
  rw [Nat.add_sub_cancel_left]
  rfl
theorem g1n_75 {z : Nat} : pN (G1 z) (z + 75) = 60 := by
  show k1N.getD ((z + 75) - z) 0 = _
  rw [Nat.add_sub_cancel_left]
  rfl
theorem g1r_76_7 {z : Nat} : pR (G1 z) (z + 76) 7 = z + 77 := by
  show z + (k1R.getD ((z + 76) - z) []).getD 7 0 = _
  rw [Nat.add_sub_cancel_left]
  rfl
theorem g1r_76_8 {z : Nat} : pR (G1 z) (z + 76) 8 = z + 78 := by
  show z + (k1R.getD ((z + 76) - z) []).getD 8 0 = _
  rw [Nat.add_sub_cancel_left]
  rfl
theorem g1n_77 {z : Nat} : pN (G1 z) (z + 77) = 6 := by
  show k1N.getD ((z + 77) - z) 0 = _
  rw [Nat.add_sub_cancel_left]
  rfl
theorem g1r_78_2 {z : Nat} : pR (G1 z) (z + 78) 2 = z + 79 := by
  show z + (k1R.getD ((z + 78) - z) []).getD 2 0 = _
  rw [Nat.add_sub_cancel_left]
  rfl
theorem g1n_79 {z : Nat} : pN (G1 z) (z + 79) = 60 := by
  show k1N.getD ((z + 79) - z) 0 = _
  rw [Nat.add_sub_cancel_left]
  rfl
theorem g1r_80_7 {z : Nat} : pR (G1 z) (z + 80) 7 = z + 81 := by
  show z + (k1R.getD ((z + 80) - z) []).getD 7 0 = _
  rw [Nat.add_sub_cancel_left]
  rfl
theorem g1r_80_8 {z : Nat} : pR (G1 z) (z + 80) 8 = z + 82 := by
  show z + (k1R.getD ((z + 80) - z) []).getD 8 0 = _
  rw [Nat.add_sub_cancel_left]
  rfl
theorem g1n_81 {z : Nat} : pN (G1 z) (z + 81) = 6 := by
  show k1N.getD ((z + 81) - z) 0 = _
  rw [Nat.add_sub_cancel_left]
  rfl
theorem g1r_82_2 {z : Nat} : pR (G1 z) (z + 82) 2 = z + 83 := by
  show z + (k1R.getD ((z + 82) - z) []).getD 2 0 = _
  rw [Nat.add_sub_cancel_left]
  rfl
theorem g1n_83 {z : Nat} : pN (G1 z) (z + 83) = 60 := by
  show k1N.getD ((z + 83) - z) 0 = _
  rw [Nat.add_sub_cancel_left]
  rfl
theorem g1r_84_7 {z : Nat} : pR (G1 z) (z + 84) 7 = z + 85 := by
  show z + (k1R.getD ((z + 84) - z) []).getD 7 0 = _
  rw [Nat.add_sub_cancel_left]
  rfl
theorem g1r_84_8 {z : Nat} : pR (G1 z) (z + 84) 8 = z + 86 := by
  show z + (k1R.getD ((z + 84) - z) []).getD 8 0 = _
  rw [Nat.add_sub_cancel_left]
  rfl
theorem g1n_85 {z : Nat} : pN (G1 z) (z + 85) = 6 := by
  show k1N.getD ((z + 85) - z) 0 = _
  rw [Nat.add_sub_cancel_left]
  rfl
theorem g1r_86_2 {z : Nat} : pR (G1 z) (z + 86) 2 = z + 87 := by
  show z + (k1R.getD ((z + 86) - z) []).getD 2 0 = _
  rw [Nat.add_sub_cancel_left]
  rfl
theorem g1n_87 {z : Nat} : pN (G1 z) (z + 87) = 60 := by
  show k1N.getD ((z + 87) - z) 0 = _
  rw [Nat.add_sub_cancel_left]
  rfl
theorem g1r_88_7 {z : Nat} : pR (G1 z) (z + 88) 7 = z + 89 := by
  show z + (k1R.getD ((z + 88) - z) []).getD 7 0 = _
  rw [Nat.add_sub_cancel_left]
  rfl
theorem g1r_88_8 {z : Nat} : pR (G1 z) (z + 88) 8 = z + 90 := by
  show z + (k1R.getD ((z + 88) - z) []).getD 8 0 = _
  rw [Nat.add_sub_cancel_left]
  rfl
theorem g1n_89 {z : Nat} : pN (G1 z) (z + 89) = 6 := by
  show k1N.getD ((z + 89) - z) 0 = _
  rw [Nat.add_sub_cancel_left]
  rfl
theorem g1r_90_2 {z : Nat} : pR (G1 z) (z + 90) 2 = z + 91 := by
  show z + (k1R.getD ((z + 90) - z) []).getD 2 0 = _
  rw [Nat.add_sub_cancel_left]
  rfl
theorem g1n_91 {z : Nat} : pN (G1 z) (z + 91) = 60 := by
  show k1N.getD ((z + 91) - z) 0 = _
  rw [Nat.add_sub_cancel_left]
  rfl
theorem g1r_92_7 {z : Nat} : pR (G1 z) (z + 92) 7 = z + 93 := by
  show z + (k1R.getD ((z + 92) - z) []).getD 7 0 = _
  rw [Nat.add_sub_cancel_left]
  rfl
theorem g1r_92_8 {z : Nat} : pR (G1 z) (z + 92) 8 = z + 94 := by
  show z + (k1R.getD ((z + 92) - z) []).getD 8 0 = _
  rw [Nat.add_sub_cancel_left]
  rfl
theorem g1n_93 {z : Nat} : pN (G1 z) (z + 93) = 6 := by
  show k1N.getD ((z + 93) - z) 0 = _
  rw [Nat.add_sub_cancel_left]
  rfl
theorem g1r_94_2 {z : Nat} : pR (G1 z) (z + 94) 2 = z + 95 := by
  show z + (k1R.getD ((z + 94) - z) []).getD 2 0 = _
  rw [Nat.add_sub_cancel_left]
  rfl
theorem g1n_95 {z : Nat} : pN (G1 z) (z + 95) = 60 := by
  show k1N.getD ((z + 95) - z) 0 = _
  rw [Nat.add_sub_cancel_left]
  rfl
theorem g1r_96_7 {z : Nat} : pR (G1 z) (z + 96) 7 = z + 97 := by
  show z + (k1R.getD ((z + 96) - z) []).getD 7 0 = _
  rw [Nat.add_sub_cancel_left]
  rfl
theorem g1r_96_8 {z : Nat} : pR (G1 z) (z + 96) 8 = z + 98 := by
  show z + (k1R.getD ((z + 96) - z) []).getD 8 0 = _
  rw [Nat.add_sub_cancel_left]
  rfl
theorem g1n_97 {z : Nat} : pN (G1 z) (z + 97) = 6 := by
  show k1N.getD ((z + 97) - z) 0 = _
  rw [Nat.add_sub_cancel_left]
  rfl
theorem g1r_98_2 {z : Nat} : pR (G1 z) (z + 98) 2 = z + 99 := by
  show z + (k1R.getD ((z + 98) - z) []).getD 2 0 = _
  rw [Nat.add_sub_cancel_left]
  rfl
theorem g1n_99 {z : Nat} : pN (G1 z) (z + 99) = 60 := by
  show k1N.getD ((z + 99) - z) 0 = _
  rw [Nat.add_sub_cancel_left]
  rfl
theorem g1r_100_7 {z : Nat} : pR (G1 z) (z + 100) 7 = z + 101 := by
  show z + (k1R.getD ((z + 100) - z) []).getD 7 0 = _
  rw [Nat.add_sub_cancel_left]
  rfl
theorem g1r_100_8 {z : Nat} : pR (G1 z) (z + 100) 8 = z + 102 := by
  show z + (k1R.getD ((z + 100) - z) []).getD 8 0 = _
  rw [Nat.add_sub_cancel_left]
  rfl
theorem g1n_101 {z : Nat} : pN (G1 z) (z + 101) = 6 := by
  show k1N.getD ((z + 101) - z) 0 = _
  rw [Nat.add_sub_cancel_left]
  rfl
theorem g1r_102_2 {z : Nat} : pR (G1 z) (z + 102) 2 = z + 103 := by
  show z + (k1R.getD ((z + 102) - z) []).getD 2 0 = _
  rw [Nat.add_sub_cancel_left]
  rfl
theorem g1n_103 {z : Nat} : pN (G1 z) (z + 103) = 60 := by
  show k1N.getD ((z + 103) - z) 0 = _
  rw [Nat.add_sub_cancel_left]
  rfl
theorem g1r_104_7 {z : Nat} : pR (G1 z) (z + 104) 7 = z + 105 := by
  show z + (k1R.getD ((z + 104) - z) []).getD 7 0 = _
  rw [Nat.add_sub_cancel_left]
  rfl
theorem g1r_104_8 {z : Nat} : pR (G1 z) (z + 104) 8 = z + 106 := by
  show z + (k1R.getD ((z + 104) - z) []).getD 8 0 = _
  rw [Nat.add_sub_cancel_left]
  rfl
theorem g1n_105 {z : Nat} : pN (G1 z) (z + 105) = 6 := by
  show k1N.getD ((z + 105) - z) 0 = _
  rw [Nat.add_sub_cancel_left]
  rfl
theorem g1r_106_2 {z : Nat} : pR (G1 z) (z + 106) 2 = z + 107 := by
  show z + (k1R.getD ((z + 106) - z) []).getD 2 0 = _
  rw [Nat.add_sub_cancel_left]
  rfl
theorem g1n_107 {z : Nat} : pN (G1 z) (z + 107) = 60 := by
  show k1N.getD ((z + 107) - z) 0 = _
  rw [Nat.add_sub_cancel_left]
  rfl
theorem g1r_108_7 {z : Nat} : pR (G1 z) (z + 108) 7 = z + 109 := by
  show z + (k1R.getD ((z + 108) - z) []).getD 7 0 = _
  rw [Nat.add_sub_cancel_left]
  rfl
theorem g1r_108_8 {z : Nat} : pR (G1 z) (z + 108) 8 = z + 110 := by
  show z + (k1R.getD ((z + 108) - z) []).getD 8 0 = _
  rw [Nat.add_sub_cancel_left]
  rfl
theorem g1n_109 {z : Nat} : pN (G1 z) (z + 109) = 6 := by
  show k1N.getD ((z + 109) - z) 0 = _
  rw [Nat.add_sub_cancel_left]
  rfl
theorem g1r_110_2 {z : Nat} : pR (G1 z) (z + 110) 2 = z + 111 := by
  show z + (k1R.getD ((z + 110) - z) []).getD 2 0 = _
  rw [Nat.add_sub_cancel_left]
  rfl
theorem g1n_111 {z : Nat} : pN (G1 z) (z + 111) = 60 := by
  show k1N.getD ((z + 111) - z) 0 = _
  rw [Nat.add_sub_cancel_left]
  rfl
theorem g1r_112_7 {z : Nat} : pR (G1 z) (z + 112) 7 = z + 113 := by
  show z + (k1R.getD ((z + 112) - z) []).getD 7 0 = _
  rw [Nat.add_sub_cancel_left]
  rfl
theorem g1r_112_8 {z : Nat} : pR (G1 z) (z + 112) 8 = z + 114 := by
  show z + (k1R.getD ((z + 112) - z) []).getD 8 0 = _
  rw [Nat.add_sub_cancel_left]
  rfl
theorem g1n_113 {z : Nat} : pN (G1 z) (z + 113) = 6 := by
  show k1N.getD ((z + 113) - z) 0 = _
  rw [Nat.add_sub_cancel_left]
  rfl
theorem g1r_114_2 {z : Nat} : pR (G1 z) (z + 114) 2 = z + 115 := by
  show z + (k1R.getD ((z + 114) - z) []).getD 2 0 = _
  rw [Nat.add_sub_cancel_left]
  rfl
theorem g1n_115 {z : Nat} : pN (G1 z) (z + 115) = 60 := by
  show k1N.getD ((z + 115) - z) 0 = _
  rw [Nat.add_sub_cancel_left]
  rfl
theorem g1r_116_7 {z : Nat} : pR (G1 z) (z + 116) 7 = z + 117 := by
  show z + (k1R.getD ((z + 116) - z) []).getD 7 0 = _
  rw [Nat.add_sub_cancel_left]
  rfl
theorem g1r_116_8 {z : Nat} : pR (G1 z) (z + 116) 8 = z + 118 := by
  show z + (k1R.getD ((z + 116) - z) []).getD 8 0 = _
  rw [Nat.add_sub_cancel_left]
  rfl
theorem g1n_117 {z : Nat} : pN (G1 z) (z + 117) = 6 := by
  show k1N.getD ((z + 117) - z) 0 = _
  rw [Nat.add_sub_cancel_left]
  rfl
theorem g1r_118_2 {z : Nat} : pR (G1 z) (z + 118) 2 = z + 119 := by
  show z + (k1R.getD ((z + 118) - z) []).getD 2 0 = _
  rw [Nat.add_sub_cancel_left]
  rfl
theorem g1n_119 {z : Nat} : pN (G1 z) (z + 119) = 60 := by
  show k1N.getD ((z + 119) - z) 0 = _
  rw [Nat.add_sub_cancel_left]
  rfl
theorem g1r_120_0 {z : Nat} : pR (G1 z) (z + 120) 0 = z + 121 := by
  show z + (k1R.getD ((z + 120) - z) []).getD 0 0 = _
  rw [Nat.add_sub_cancel_left]
  rfl
theorem g1r_120_1 {z : Nat} : pR (G1 z) (z + 120) 1 = z + 125 := by
  show z + (k1R.getD ((z + 120) - z) []).getD 1 0 = _
  rw [Nat.add_sub_cancel_left]
  rfl
theorem g1r_120_2 {z : Nat} : pR (G1 z) (z + 120) 2 = z + 126 := by
  show z + (k1R.getD ((z + 120) - z) []).getD 2 0 = _
  rw [Nat.add_sub_cancel_left]
  rfl
theorem g1r_121_7 {z : Nat} : pR (G1 z) (z + 121) 7 = z + 122 := by
  show z + (k1R.getD ((z + 121) - z) []).getD 7 0 = _
  rw [Nat.add_sub_cancel_left]
  rfl
theorem g1r_121_8 {z : Nat} : pR (G1 z) (z + 121) 8 = z + 123 := by
  show z + (k1R.getD ((z + 121) - z) []).getD 8 0 = _
  rw [Nat.add_sub_cancel_left]
  rfl
theorem g1n_122 {z : Nat} : pN (G1 z) (z + 122) = 6 := by
  show k1N.getD ((z + 122) - z) 0 = _
  rw [Nat.add_sub_cancel_left]
  rfl
theorem g1r_123_2 {z : Nat} : pR (G1 z) (z + 123) 2 = z + 124 := by
  show z + (k1R.getD ((z + 123) - z) []).getD 2 0 = _
  rw [Nat.add_sub_cancel_left]
  rfl
theorem g1n_124 {z : Nat} : pN (G1 z) (z + 124) = 60 := by
  show k1N.getD ((z + 124) - z) 0 = _
  rw [Nat.add_sub_cancel_left]
  rfl
theorem g1n_125 {z : Nat} : pN (G1 z) (z + 125) = 1200 := by
  show k1N.getD ((z + 125) - z) 0 = _
  rw [Nat.add_sub_cancel_left]
  rfl
theorem g1n_126 {z : Nat} : pN (G1 z) (z + 126) = 1200 := by
  show k1N.getD ((z + 126) - z) 0 = _
  rw [Nat.add_sub_cancel_left]
  rfl
theorem g1r_127_0 {z : Nat} : pR (G1 z) (z + 127) 0 = z + 128 := by
  show z + (k1R.getD ((z + 127) - z) []).getD 0 0 = _
  rw [Nat.add_sub_cancel_left]
  rfl
theorem g1r_127_1 {z : Nat} : pR (G1 z) (z + 127) 1 = z + 132 := by
  show z + (k1R.getD ((z + 127) - z) []).getD 1 0 = _
  rw [Nat.add_sub_cancel_left]
  rfl
theorem g1r_127_2 {z : Nat} : pR (G1 z) (z + 127) 2 = z + 133 := by
  show z + (k1R.getD ((z + 127) - z) []).getD 2 0 = _
  rw [Nat.add_sub_cancel_left]
  rfl
theorem g1r_127_3 {z : Nat} : pR (G1 z) (z + 127) 3 = z + 134 := by
  show z + (k1R.getD ((z + 127) - z) []).getD 3 0 = _
  rw [Nat.add_sub_cancel_left]
  rfl
theorem g1r_128_7 {z : Nat} : pR (G1 z) (z + 128) 7 = z + 129 := by
  show z + (k1R.getD ((z + 128) - z) []).getD 7 0 = _
  rw [Nat.add_sub_cancel_left]
  rfl
theorem g1r_128_8 {z : Nat} : pR (G1 z) (z + 128) 8 = z + 130 := by
  show z + (k1R.getD ((z + 128) - z) []).getD 8 0 = _
  rw [Nat.add_sub_cancel_left]
  rfl
theorem g1n_129 {z : Nat} : pN (G1 z) (z + 129) = 6 := by
  show k1N.getD ((z + 129) - z) 0 = _
  rw [Nat.add_sub_cancel_left]
  rfl
theorem g1r_130_2 {z : Nat} : pR (G1 z) (z + 130) 2 = z + 131 := by
  show z + (k1R.getD ((z + 130) - z) []).getD 2 0 = _
  rw [Nat.add_sub_cancel_left]
  rfl
theorem g1n_131 {z : Nat} : pN (G1 z) (z + 131) = 60 := by
  show k1N.getD ((z + 131) - z) 0 = _
  rw [Nat.add_sub_cancel_left]
  rfl
theorem g1n_132 {z : Nat} : pN (G1 z) (z + 132) = 100 := by
  show k1N.getD ((z + 132) - z) 0 = _
  rw [Nat.add_sub_cancel_left]
  rfl
theorem g1n_133 {z : Nat} : pN (G1 z) (z + 133) = 100 := by
  show k1N.getD ((z + 133) - z) 0 = _
  rw [Nat.add_sub_cancel_left]
  rfl
theorem g1n_134 {z : Nat} : pN (G1 z) (z + 134) = 100 := by
  show k1N.getD ((z + 134) - z) 0 = _
  rw [Nat.add_sub_cancel_left]
  rfl
theorem g1r_135_7 {z : Nat} : pR (G1 z) (z + 135) 7 = z + 136 := by
  show z + (k1R.getD ((z + 135) - z) []).getD 7 0 = _
  rw [Nat.add_sub_cancel_left]
  rfl
theorem g1n_136 {z : Nat} : pN (G1 z) (z + 136) = 20 := by
  show k1N.getD ((z + 136) - z) 0 = _
  rw [Nat.add_sub_cancel_left]
  rfl
theorem g1n_150 {z : Nat} : pN (G1 z) (z + 150) = 1 := by
  show k1N.getD (z + 150 - z) 0 = _
  rw [Nat.add_sub_cancel_left]
  rfl
theorem g2r_0_1 {y : Nat} : pR (G2 y) y 1 = y + 1 := by
  show y + (k2R.getD (y - y) []).getD 1 0 = _
  rw [Nat.sub_self]
  rfl
theorem g2r_0_2 {y : Nat} : pR (G2 y) y 2 = y + 2 := by
  show y + (k2R.getD (y - y) []).getD 2 0 = _
  rw [Nat.sub_self]
  rfl
theorem g2r_0_3 {y : Nat} : pR (G2 y) y 3 = y + 3 := by
  show y + (k2R.getD (y - y) []).getD 3 0 = _
  rw [Nat.sub_self]
  rfl
theorem g2r_0_4 {y : Nat} : pR (G2 y) y 4 = y + 4 := by
  show y + (k2R.getD (y - y) []).getD 4 0 = _
  rw [Nat.sub_self]
  rfl
theorem g2r_0_5 {y : Nat} : pR (G2 y) y 5 = y + 5 := by
  show y + (k2R.getD (y - y) []).getD 5 0 = _
  rw [Nat.sub_self]
  rfl
theorem g2r_0_8 {y : Nat} : pR (G2 y) y 8 = y + 6 := by
  show y + (k2R.getD (y - y) []).getD 8 0 = _
  rw [Nat.sub_self]
  rfl
theorem g2r_0_15 {y : Nat} : pR (G2 y) y 15 = y + 7 := by
  show y + (k2R.getD (y - y) []).getD 15 0 = _
  rw [Nat.sub_self]
  rfl
theorem g2r_0_17 {y : Nat} : pR (G2 y) y 17 = y + 8 := by
  show y + (k2R.getD (y - y) []).getD 17 0 = _
  rw [Nat.sub_self]
  rfl
theorem g2r_0_25 {y : Nat} : pR (G2 y) y 25 = y + 9 := by
  show y + (k2R.getD (y - y) []).getD 25 0 = _
  rw [Nat.sub_self]
  rfl
theorem g2r_0_26 {y : Nat} : pR (G2 y) y 26 = y + 10 := by
  show y + (k2R.getD (y - y) []).getD 26 0 = _
  rw [Nat.sub_self]
  rfl
theorem g2r_0_27 {y : Nat} : pR (G2 y) y 27 = y + 11 := by
  show y + (k2R.getD (y - y) []).getD 27 0 = _
  rw [Nat.sub_self]
  rfl
theorem g2r_0_28 {y : Nat} : pR (G2 y) y 28 = y + 12 := by
  show y + (k2R.getD (y - y) []).getD 28 0 = _
  rw [Nat.sub_self]
  rfl
theorem g2n_1 {y : Nat} : pN (G2 y) (y + 1) = 2081 := by
  show k2N.getD ((y + 1) - y) 0 = _
  rw [Nat.add_sub_cancel_left]
  rfl
theorem g2n_2 {y : Nat} : pN (G2 y) (y + 2) = 1232 := by
  show k2N.getD ((y + 2) - y) 0 = _
  rw [Nat.add_sub_cancel_left]
  rfl
theorem g2n_3 {y : Nat} : pN (G2 y) (y + 3) = 1232 := by
  show k2N.getD ((y + 3) - y) 0 = _
  rw [Nat.add_sub_cancel_left]
  rfl
theorem g2n_4 {y : Nat} : pN (G2 y) (y + 4) = 383 := by
  show k2N.getD ((y + 4) - y) 0 = _
  rw [Nat.add_sub_cancel_left]
  rfl
theorem g2n_5 {y : Nat} : pN (G2 y) (y + 5) = 4596 := by
  show k2N.getD ((y + 5) - y) 0 = _
  rw [Nat.add_sub_cancel_left]
  rfl
theorem g2n_6 {y : Nat} : pN (G2 y) (y + 6) = 400 := by
  show k2N.getD ((y + 6) - y) 0 = _
  rw [Nat.add_sub_cancel_left]
  rfl
theorem g2n_7 {y : Nat} : pN (G2 y) (y + 7) = 5 := by
  show k2N.getD ((y + 7) - y) 0 = _
  rw [Nat.add_sub_cancel_left]
  rfl
theorem g2n_8 {y : Nat} : pN (G2 y) (y + 8) = 400 := by
  show k2N.getD ((y + 8) - y) 0 = _
  rw [Nat.add_sub_cancel_left]
  rfl
theorem g2n_9 {y : Nat} : pN (G2 y) (y + 9) = 1300 := by
  show k2N.getD ((y + 9) - y) 0 = _
  rw [Nat.add_sub_cancel_left]
  rfl
theorem g2n_10 {y : Nat} : pN (G2 y) (y + 10) = 6400 := by
  show k2N.getD ((y + 10) - y) 0 = _
  rw [Nat.add_sub_cancel_left]
  rfl
theorem g2n_11 {y : Nat} : pN (G2 y) (y + 11) = 6400 := by
  show k2N.getD ((y + 11) - y) 0 = _
  rw [Nat.add_sub_cancel_left]
  rfl
theorem g2n_12 {y : Nat} : pN (G2 y) (y + 12) = 1024 := by
  show k2N.getD ((y + 12) - y) 0 = _
  rw [Nat.add_sub_cancel_left]
  rfl
