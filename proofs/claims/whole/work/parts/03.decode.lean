theorem ab_d0_0 : (ab_c0_0.all fun q => decide (decode prog_1_method_1_code q.1 = .ok (q.2.1, q.2.2))) = true := by decide +kernel
theorem ab_d0 : (ab_c0.all fun q => decide (decode prog_1_method_1_code q.1 = .ok (q.2.1, q.2.2))) = true := by
  rw [ab_c0]; simp only [List.all_append, ab_d0_0, Bool.and_self]
theorem ab_d1_0 : (ab_c1_0.all fun q => decide (decode object_method_1_code q.1 = .ok (q.2.1, q.2.2))) = true := by decide +kernel
theorem ab_d1 : (ab_c1.all fun q => decide (decode object_method_1_code q.1 = .ok (q.2.1, q.2.2))) = true := by
  rw [ab_c1]; simp only [List.all_append, ab_d1_0, Bool.and_self]
theorem ab_d2_0 : (ab_c2_0.all fun q => decide (decode prog_10_method_103_code q.1 = .ok (q.2.1, q.2.2))) = true := by decide +kernel
theorem ab_d2 : (ab_c2.all fun q => decide (decode prog_10_method_103_code q.1 = .ok (q.2.1, q.2.2))) = true := by
  rw [ab_c2]; simp only [List.all_append, ab_d2_0, Bool.and_self]
theorem ab_d3_0 : (ab_c3_0.all fun q => decide (decode prog_2_method_1_code q.1 = .ok (q.2.1, q.2.2))) = true := by decide +kernel
theorem ab_d3 : (ab_c3.all fun q => decide (decode prog_2_method_1_code q.1 = .ok (q.2.1, q.2.2))) = true := by
  rw [ab_c3]; simp only [List.all_append, ab_d3_0, Bool.and_self]
theorem ab_d4_0 : (ab_c4_0.all fun q => decide (decode prog_3_method_1_code q.1 = .ok (q.2.1, q.2.2))) = true := by decide +kernel
theorem ab_d4 : (ab_c4.all fun q => decide (decode prog_3_method_1_code q.1 = .ok (q.2.1, q.2.2))) = true := by
  rw [ab_c4]; simp only [List.all_append, ab_d4_0, Bool.and_self]
theorem ab_d5_0 : (ab_c5_0.all fun q => decide (decode prog_4_method_1_code q.1 = .ok (q.2.1, q.2.2))) = true := by decide +kernel
theorem ab_d5 : (ab_c5.all fun q => decide (decode prog_4_method_1_code q.1 = .ok (q.2.1, q.2.2))) = true := by
  rw [ab_c5]; simp only [List.all_append, ab_d5_0, Bool.and_self]
theorem ab_d6_0 : (ab_c6_0.all fun q => decide (decode prog_1_method_2_code q.1 = .ok (q.2.1, q.2.2))) = true := by decide +kernel
theorem ab_d6 : (ab_c6.all fun q => decide (decode prog_1_method_2_code q.1 = .ok (q.2.1, q.2.2))) = true := by
  rw [ab_c6]; simp only [List.all_append, ab_d6_0, Bool.and_self]
theorem ab_d7_0 : (ab_c7_0.all fun q => decide (decode prog_1_method_43_code q.1 = .ok (q.2.1, q.2.2))) = true := by decide +kernel
theorem ab_d7 : (ab_c7.all fun q => decide (decode prog_1_method_43_code q.1 = .ok (q.2.1, q.2.2))) = true := by
  rw [ab_c7]; simp only [List.all_append, ab_d7_0, Bool.and_self]
theorem ab_d8_0 : (ab_c8_0.all fun q => decide (decode prog_1_method_49_code q.1 = .ok (q.2.1, q.2.2))) = true := by decide +kernel
theorem ab_d8 : (ab_c8.all fun q => decide (decode prog_1_method_49_code q.1 = .ok (q.2.1, q.2.2))) = true := by
  rw [ab_c8]; simp only [List.all_append, ab_d8_0, Bool.and_self]
theorem ab_d9_0 : (ab_c9_0.all fun q => decide (decode prog_1_method_3_code q.1 = .ok (q.2.1, q.2.2))) = true := by decide +kernel
theorem ab_d9 : (ab_c9.all fun q => decide (decode prog_1_method_3_code q.1 = .ok (q.2.1, q.2.2))) = true := by
  rw [ab_c9]; simp only [List.all_append, ab_d9_0, Bool.and_self]
theorem ab_d10_0 : (ab_c10_0.all fun q => decide (decode prog_1_method_50_code q.1 = .ok (q.2.1, q.2.2))) = true := by decide +kernel
theorem ab_d10 : (ab_c10.all fun q => decide (decode prog_1_method_50_code q.1 = .ok (q.2.1, q.2.2))) = true := by
  rw [ab_c10]; simp only [List.all_append, ab_d10_0, Bool.and_self]
theorem ab_d11_0 : (ab_c11_0.all fun q => decide (decode prog_1_method_4_code q.1 = .ok (q.2.1, q.2.2))) = true := by decide +kernel
theorem ab_d11 : (ab_c11.all fun q => decide (decode prog_1_method_4_code q.1 = .ok (q.2.1, q.2.2))) = true := by
  rw [ab_c11]; simp only [List.all_append, ab_d11_0, Bool.and_self]
theorem ab_d12_0 : (ab_c12_0.all fun q => decide (decode prog_1_method_5_code q.1 = .ok (q.2.1, q.2.2))) = true := by decide +kernel
theorem ab_d12 : (ab_c12.all fun q => decide (decode prog_1_method_5_code q.1 = .ok (q.2.1, q.2.2))) = true := by
  rw [ab_c12]; simp only [List.all_append, ab_d12_0, Bool.and_self]
theorem ab_d13_0 : (ab_c13_0.all fun q => decide (decode prog_1_method_6_code q.1 = .ok (q.2.1, q.2.2))) = true := by decide +kernel
theorem ab_d13_1 : (ab_c13_1.all fun q => decide (decode prog_1_method_6_code q.1 = .ok (q.2.1, q.2.2))) = true := by decide +kernel
theorem ab_d13 : (ab_c13.all fun q => decide (decode prog_1_method_6_code q.1 = .ok (q.2.1, q.2.2))) = true := by
  rw [ab_c13]; simp only [List.all_append, ab_d13_0, ab_d13_1, Bool.and_self]
theorem ab_d14_0 : (ab_c14_0.all fun q => decide (decode prog_1_method_48_code q.1 = .ok (q.2.1, q.2.2))) = true := by decide +kernel
theorem ab_d14 : (ab_c14.all fun q => decide (decode prog_1_method_48_code q.1 = .ok (q.2.1, q.2.2))) = true := by
  rw [ab_c14]; simp only [List.all_append, ab_d14_0, Bool.and_self]
theorem ab_d15_0 : (ab_c15_0.all fun q => decide (decode prog_1_method_7_code q.1 = .ok (q.2.1, q.2.2))) = true := by decide +kernel
theorem ab_d15_1 : (ab_c15_1.all fun q => decide (decode prog_1_method_7_code q.1 = .ok (q.2.1, q.2.2))) = true := by decide +kernel
theorem ab_d15 : (ab_c15.all fun q => decide (decode prog_1_method_7_code q.1 = .ok (q.2.1, q.2.2))) = true := by
  rw [ab_c15]; simp only [List.all_append, ab_d15_0, ab_d15_1, Bool.and_self]
theorem ab_d16_0 : (ab_c16_0.all fun q => decide (decode prog_1_method_8_code q.1 = .ok (q.2.1, q.2.2))) = true := by decide +kernel
theorem ab_d16 : (ab_c16.all fun q => decide (decode prog_1_method_8_code q.1 = .ok (q.2.1, q.2.2))) = true := by
  rw [ab_c16]; simp only [List.all_append, ab_d16_0, Bool.and_self]
theorem ab_d17_0 : (ab_c17_0.all fun q => decide (decode prog_1_method_44_code q.1 = .ok (q.2.1, q.2.2))) = true := by decide +kernel
theorem ab_d17 : (ab_c17.all fun q => decide (decode prog_1_method_44_code q.1 = .ok (q.2.1, q.2.2))) = true := by
  rw [ab_c17]; simp only [List.all_append, ab_d17_0, Bool.and_self]
theorem ab_d18_0 : (ab_c18_0.all fun q => decide (decode prog_10_method_109_code q.1 = .ok (q.2.1, q.2.2))) = true := by decide +kernel
theorem ab_d18 : (ab_c18.all fun q => decide (decode prog_10_method_109_code q.1 = .ok (q.2.1, q.2.2))) = true := by
  rw [ab_c18]; simp only [List.all_append, ab_d18_0, Bool.and_self]
theorem ab_d19_0 : (ab_c19_0.all fun q => decide (decode prog_1_method_9_code q.1 = .ok (q.2.1, q.2.2))) = true := by decide +kernel
theorem ab_d19_1 : (ab_c19_1.all fun q => decide (decode prog_1_method_9_code q.1 = .ok (q.2.1, q.2.2))) = true := by decide +kernel
theorem ab_d19 : (ab_c19.all fun q => decide (decode prog_1_method_9_code q.1 = .ok (q.2.1, q.2.2))) = true := by
  rw [ab_c19]; simp only [List.all_append, ab_d19_0, ab_d19_1, Bool.and_self]
theorem ab_d20_0 : (ab_c20_0.all fun q => decide (decode prog_1_method_10_code q.1 = .ok (q.2.1, q.2.2))) = true := by decide +kernel
theorem ab_d20 : (ab_c20.all fun q => decide (decode prog_1_method_10_code q.1 = .ok (q.2.1, q.2.2))) = true := by
  rw [ab_c20]; simp only [List.all_append, ab_d20_0, Bool.and_self]
theorem ab_d21_0 : (ab_c21_0.all fun q => decide (decode prog_1_method_55_code q.1 = .ok (q.2.1, q.2.2))) = true := by decide +kernel
theorem ab_d21_1 : (ab_c21_1.all fun q => decide (decode prog_1_method_55_code q.1 = .ok (q.2.1, q.2.2))) = true := by decide +kernel
theorem ab_d21 : (ab_c21.all fun q => decide (decode prog_1_method_55_code q.1 = .ok (q.2.1, q.2.2))) = true := by
  rw [ab_c21]; simp only [List.all_append, ab_d21_0, ab_d21_1, Bool.and_self]
theorem ab_d22_0 : (ab_c22_0.all fun q => decide (decode prog_1_method_53_code q.1 = .ok (q.2.1, q.2.2))) = true := by decide +kernel
theorem ab_d22 : (ab_c22.all fun q => decide (decode prog_1_method_53_code q.1 = .ok (q.2.1, q.2.2))) = true := by
  rw [ab_c22]; simp only [List.all_append, ab_d22_0, Bool.and_self]
theorem ab_d23_0 : (ab_c23_0.all fun q => decide (decode prog_1_method_54_code q.1 = .ok (q.2.1, q.2.2))) = true := by decide +kernel
theorem ab_d23 : (ab_c23.all fun q => decide (decode prog_1_method_54_code q.1 = .ok (q.2.1, q.2.2))) = true := by
  rw [ab_c23]; simp only [List.all_append, ab_d23_0, Bool.and_self]
theorem ab_d24_0 : (ab_c24_0.all fun q => decide (decode prog_1_method_11_code q.1 = .ok (q.2.1, q.2.2))) = true := by decide +kernel
theorem ab_d24_1 : (ab_c24_1.all fun q => decide (decode prog_1_method_11_code q.1 = .ok (q.2.1, q.2.2))) = true := by decide +kernel
theorem ab_d24 : (ab_c24.all fun q => decide (decode prog_1_method_11_code q.1 = .ok (q.2.1, q.2.2))) = true := by
  rw [ab_c24]; simp only [List.all_append, ab_d24_0, ab_d24_1, Bool.and_self]
theorem ab_d25_0 : (ab_c25_0.all fun q => decide (decode prog_2_method_2_code q.1 = .ok (q.2.1, q.2.2))) = true := by decide +kernel
theorem ab_d25_1 : (ab_c25_1.all fun q => decide (decode prog_2_method_2_code q.1 = .ok (q.2.1, q.2.2))) = true := by decide +kernel
theorem ab_d25_2 : (ab_c25_2.all fun q => decide (decode prog_2_method_2_code q.1 = .ok (q.2.1, q.2.2))) = true := by decide +kernel
theorem ab_d25 : (ab_c25.all fun q => decide (decode prog_2_method_2_code q.1 = .ok (q.2.1, q.2.2))) = true := by
  rw [ab_c25]; simp only [List.all_append, ab_d25_0, ab_d25_1, ab_d25_2, Bool.and_self]
theorem ab_d26_0 : (ab_c26_0.all fun q => decide (decode prog_1_method_58_code q.1 = .ok (q.2.1, q.2.2))) = true := by decide +kernel
theorem ab_d26 : (ab_c26.all fun q => decide (decode prog_1_method_58_code q.1 = .ok (q.2.1, q.2.2))) = true := by
  rw [ab_c26]; simp only [List.all_append, ab_d26_0, Bool.and_self]
theorem ab_d27_0 : (ab_c27_0.all fun q => decide (decode prog_2_method_3_code q.1 = .ok (q.2.1, q.2.2))) = true := by decide +kernel
theorem ab_d27 : (ab_c27.all fun q => decide (decode prog_2_method_3_code q.1 = .ok (q.2.1, q.2.2))) = true := by
  rw [ab_c27]; simp only [List.all_append, ab_d27_0, Bool.and_self]
theorem ab_d28_0 : (ab_c28_0.all fun q => decide (decode prog_1_method_12_code q.1 = .ok (q.2.1, q.2.2))) = true := by decide +kernel
theorem ab_d28 : (ab_c28.all fun q => decide (decode prog_1_method_12_code q.1 = .ok (q.2.1, q.2.2))) = true := by
  rw [ab_c28]; simp only [List.all_append, ab_d28_0, Bool.and_self]
theorem ab_d29_0 : (ab_c29_0.all fun q => decide (decode prog_1_method_47_code q.1 = .ok (q.2.1, q.2.2))) = true := by decide +kernel
theorem ab_d29 : (ab_c29.all fun q => decide (decode prog_1_method_47_code q.1 = .ok (q.2.1, q.2.2))) = true := by
  rw [ab_c29]; simp only [List.all_append, ab_d29_0, Bool.and_self]
theorem ab_d30_0 : (ab_c30_0.all fun q => decide (decode prog_2_method_10_code q.1 = .ok (q.2.1, q.2.2))) = true := by decide +kernel
theorem ab_d30 : (ab_c30.all fun q => decide (decode prog_2_method_10_code q.1 = .ok (q.2.1, q.2.2))) = true := by
  rw [ab_c30]; simp only [List.all_append, ab_d30_0, Bool.and_self]
theorem ab_d31_0 : (ab_c31_0.all fun q => decide (decode prog_2_method_5_code q.1 = .ok (q.2.1, q.2.2))) = true := by decide +kernel
theorem ab_d31 : (ab_c31.all fun q => decide (decode prog_2_method_5_code q.1 = .ok (q.2.1, q.2.2))) = true := by
  rw [ab_c31]; simp only [List.all_append, ab_d31_0, Bool.and_self]
theorem ab_d32_0 : (ab_c32_0.all fun q => decide (decode prog_2_method_6_code q.1 = .ok (q.2.1, q.2.2))) = true := by decide +kernel
theorem ab_d32 : (ab_c32.all fun q => decide (decode prog_2_method_6_code q.1 = .ok (q.2.1, q.2.2))) = true := by
  rw [ab_c32]; simp only [List.all_append, ab_d32_0, Bool.and_self]
theorem ab_d33_0 : (ab_c33_0.all fun q => decide (decode prog_1_method_60_code q.1 = .ok (q.2.1, q.2.2))) = true := by decide +kernel
theorem ab_d33 : (ab_c33.all fun q => decide (decode prog_1_method_60_code q.1 = .ok (q.2.1, q.2.2))) = true := by
  rw [ab_c33]; simp only [List.all_append, ab_d33_0, Bool.and_self]
theorem ab_d34_0 : (ab_c34_0.all fun q => decide (decode prog_1_method_13_code q.1 = .ok (q.2.1, q.2.2))) = true := by decide +kernel
theorem ab_d34_1 : (ab_c34_1.all fun q => decide (decode prog_1_method_13_code q.1 = .ok (q.2.1, q.2.2))) = true := by decide +kernel
theorem ab_d34 : (ab_c34.all fun q => decide (decode prog_1_method_13_code q.1 = .ok (q.2.1, q.2.2))) = true := by
  rw [ab_c34]; simp only [List.all_append, ab_d34_0, ab_d34_1, Bool.and_self]
theorem ab_d35_0 : (ab_c35_0.all fun q => decide (decode prog_1_method_59_code q.1 = .ok (q.2.1, q.2.2))) = true := by decide +kernel
theorem ab_d35 : (ab_c35.all fun q => decide (decode prog_1_method_59_code q.1 = .ok (q.2.1, q.2.2))) = true := by
  rw [ab_c35]; simp only [List.all_append, ab_d35_0, Bool.and_self]
theorem ab_d36_0 : (ab_c36_0.all fun q => decide (decode prog_2_method_11_code q.1 = .ok (q.2.1, q.2.2))) = true := by decide +kernel
theorem ab_d36 : (ab_c36.all fun q => decide (decode prog_2_method_11_code q.1 = .ok (q.2.1, q.2.2))) = true := by
  rw [ab_c36]; simp only [List.all_append, ab_d36_0, Bool.and_self]
theorem ab_d37_0 : (ab_c37_0.all fun q => decide (decode prog_7_method_49_code q.1 = .ok (q.2.1, q.2.2))) = true := by decide +kernel
theorem ab_d37_1 : (ab_c37_1.all fun q => decide (decode prog_7_method_49_code q.1 = .ok (q.2.1, q.2.2))) = true := by decide +kernel
theorem ab_d37 : (ab_c37.all fun q => decide (decode prog_7_method_49_code q.1 = .ok (q.2.1, q.2.2))) = true := by
  rw [ab_c37]; simp only [List.all_append, ab_d37_0, ab_d37_1, Bool.and_self]
theorem ab_d38_0 : (ab_c38_0.all fun q => decide (decode prog_1_method_57_code q.1 = .ok (q.2.1, q.2.2))) = true := by decide +kernel
theorem ab_d38 : (ab_c38.all fun q => decide (decode prog_1_method_57_code q.1 = .ok (q.2.1, q.2.2))) = true := by
  rw [ab_c38]; simp only [List.all_append, ab_d38_0, Bool.and_self]
theorem ab_d39_0 : (ab_c39_0.all fun q => decide (decode prog_1_method_56_code q.1 = .ok (q.2.1, q.2.2))) = true := by decide +kernel
theorem ab_d39 : (ab_c39.all fun q => decide (decode prog_1_method_56_code q.1 = .ok (q.2.1, q.2.2))) = true := by
  rw [ab_c39]; simp only [List.all_append, ab_d39_0, Bool.and_self]
theorem ab_d40_0 : (ab_c40_0.all fun q => decide (decode prog_1_method_14_code q.1 = .ok (q.2.1, q.2.2))) = true := by decide +kernel
theorem ab_d40 : (ab_c40.all fun q => decide (decode prog_1_method_14_code q.1 = .ok (q.2.1, q.2.2))) = true := by
  rw [ab_c40]; simp only [List.all_append, ab_d40_0, Bool.and_self]
theorem ab_d41_0 : (ab_c41_0.all fun q => decide (decode prog_1_method_46_code q.1 = .ok (q.2.1, q.2.2))) = true := by decide +kernel
theorem ab_d41 : (ab_c41.all fun q => decide (decode prog_1_method_46_code q.1 = .ok (q.2.1, q.2.2))) = true := by
  rw [ab_c41]; simp only [List.all_append, ab_d41_0, Bool.and_self]
theorem ab_d42_0 : (ab_c42_0.all fun q => decide (decode prog_2_method_15_code q.1 = .ok (q.2.1, q.2.2))) = true := by decide +kernel
theorem ab_d42 : (ab_c42.all fun q => decide (decode prog_2_method_15_code q.1 = .ok (q.2.1, q.2.2))) = true := by
  rw [ab_c42]; simp only [List.all_append, ab_d42_0, Bool.and_self]
theorem ab_d43_0 : (ab_c43_0.all fun q => decide (decode prog_1_method_15_code q.1 = .ok (q.2.1, q.2.2))) = true := by decide +kernel
theorem ab_d43 : (ab_c43.all fun q => decide (decode prog_1_method_15_code q.1 = .ok (q.2.1, q.2.2))) = true := by
  rw [ab_c43]; simp only [List.all_append, ab_d43_0, Bool.and_self]
theorem ab_d44_0 : (ab_c44_0.all fun q => decide (decode prog_1_method_51_code q.1 = .ok (q.2.1, q.2.2))) = true := by decide +kernel
theorem ab_d44_1 : (ab_c44_1.all fun q => decide (decode prog_1_method_51_code q.1 = .ok (q.2.1, q.2.2))) = true := by decide +kernel
theorem ab_d44 : (ab_c44.all fun q => decide (decode prog_1_method_51_code q.1 = .ok (q.2.1, q.2.2))) = true := by
  rw [ab_c44]; simp only [List.all_append, ab_d44_0, ab_d44_1, Bool.and_self]
theorem ab_d45_0 : (ab_c45_0.all fun q => decide (decode prog_3_method_2_code q.1 = .ok (q.2.1, q.2.2))) = true := by decide +kernel
theorem ab_d45 : (ab_c45.all fun q => decide (decode prog_3_method_2_code q.1 = .ok (q.2.1, q.2.2))) = true := by
  rw [ab_c45]; simp only [List.all_append, ab_d45_0, Bool.and_self]
theorem ab_d46_0 : (ab_c46_0.all fun q => decide (decode prog_8_method_69_code q.1 = .ok (q.2.1, q.2.2))) = true := by decide +kernel
theorem ab_d46 : (ab_c46.all fun q => decide (decode prog_8_method_69_code q.1 = .ok (q.2.1, q.2.2))) = true := by
  rw [ab_c46]; simp only [List.all_append, ab_d46_0, Bool.and_self]
theorem ab_d47_0 : (ab_c47_0.all fun q => decide (decode prog_2_method_16_code q.1 = .ok (q.2.1, q.2.2))) = true := by decide +kernel
theorem ab_d47_1 : (ab_c47_1.all fun q => decide (decode prog_2_method_16_code q.1 = .ok (q.2.1, q.2.2))) = true := by decide +kernel
theorem ab_d47 : (ab_c47.all fun q => decide (decode prog_2_method_16_code q.1 = .ok (q.2.1, q.2.2))) = true := by
  rw [ab_c47]; simp only [List.all_append, ab_d47_0, ab_d47_1, Bool.and_self]
theorem ab_d48_0 : (ab_c48_0.all fun q => decide (decode prog_2_method_8_code q.1 = .ok (q.2.1, q.2.2))) = true := by decide +kernel
theorem ab_d48 : (ab_c48.all fun q => decide (decode prog_2_method_8_code q.1 = .ok (q.2.1, q.2.2))) = true := by
  rw [ab_c48]; simp only [List.all_append, ab_d48_0, Bool.and_self]
theorem ab_d49_0 : (ab_c49_0.all fun q => decide (decode prog_3_method_5_code q.1 = .ok (q.2.1, q.2.2))) = true := by decide +kernel
theorem ab_d49_1 : (ab_c49_1.all fun q => decide (decode prog_3_method_5_code q.1 = .ok (q.2.1, q.2.2))) = true := by decide +kernel
theorem ab_d49 : (ab_c49.all fun q => decide (decode prog_3_method_5_code q.1 = .ok (q.2.1, q.2.2))) = true := by
  rw [ab_c49]; simp only [List.all_append, ab_d49_0, ab_d49_1, Bool.and_self]
theorem ab_d50_0 : (ab_c50_0.all fun q => decide (decode prog_8_method_59_code q.1 = .ok (q.2.1, q.2.2))) = true := by decide +kernel
theorem ab_d50 : (ab_c50.all fun q => decide (decode prog_8_method_59_code q.1 = .ok (q.2.1, q.2.2))) = true := by
  rw [ab_c50]; simp only [List.all_append, ab_d50_0, Bool.and_self]
theorem ab_d51_0 : (ab_c51_0.all fun q => decide (decode prog_2_method_14_code q.1 = .ok (q.2.1, q.2.2))) = true := by decide +kernel
theorem ab_d51 : (ab_c51.all fun q => decide (decode prog_2_method_14_code q.1 = .ok (q.2.1, q.2.2))) = true := by
  rw [ab_c51]; simp only [List.all_append, ab_d51_0, Bool.and_self]
theorem ab_d52_0 : (ab_c52_0.all fun q => decide (decode prog_3_method_7_code q.1 = .ok (q.2.1, q.2.2))) = true := by decide +kernel
theorem ab_d52 : (ab_c52.all fun q => decide (decode prog_3_method_7_code q.1 = .ok (q.2.1, q.2.2))) = true := by
  rw [ab_c52]; simp only [List.all_append, ab_d52_0, Bool.and_self]
theorem ab_d53_0 : (ab_c53_0.all fun q => decide (decode prog_1_method_16_code q.1 = .ok (q.2.1, q.2.2))) = true := by decide +kernel
theorem ab_d53 : (ab_c53.all fun q => decide (decode prog_1_method_16_code q.1 = .ok (q.2.1, q.2.2))) = true := by
  rw [ab_c53]; simp only [List.all_append, ab_d53_0, Bool.and_self]
theorem ab_d54_0 : (ab_c54_0.all fun q => decide (decode prog_2_method_18_code q.1 = .ok (q.2.1, q.2.2))) = true := by decide +kernel
theorem ab_d54_1 : (ab_c54_1.all fun q => decide (decode prog_2_method_18_code q.1 = .ok (q.2.1, q.2.2))) = true := by decide +kernel
theorem ab_d54 : (ab_c54.all fun q => decide (decode prog_2_method_18_code q.1 = .ok (q.2.1, q.2.2))) = true := by
  rw [ab_c54]; simp only [List.all_append, ab_d54_0, ab_d54_1, Bool.and_self]
theorem ab_d55_0 : (ab_c55_0.all fun q => decide (decode prog_3_method_8_code q.1 = .ok (q.2.1, q.2.2))) = true := by decide +kernel
theorem ab_d55 : (ab_c55.all fun q => decide (decode prog_3_method_8_code q.1 = .ok (q.2.1, q.2.2))) = true := by
  rw [ab_c55]; simp only [List.all_append, ab_d55_0, Bool.and_self]
theorem ab_d56_0 : (ab_c56_0.all fun q => decide (decode prog_8_method_65_code q.1 = .ok (q.2.1, q.2.2))) = true := by decide +kernel
theorem ab_d56 : (ab_c56.all fun q => decide (decode prog_8_method_65_code q.1 = .ok (q.2.1, q.2.2))) = true := by
  rw [ab_c56]; simp only [List.all_append, ab_d56_0, Bool.and_self]
theorem ab_d57_0 : (ab_c57_0.all fun q => decide (decode prog_1_method_17_code q.1 = .ok (q.2.1, q.2.2))) = true := by decide +kernel
theorem ab_d57 : (ab_c57.all fun q => decide (decode prog_1_method_17_code q.1 = .ok (q.2.1, q.2.2))) = true := by
  rw [ab_c57]; simp only [List.all_append, ab_d57_0, Bool.and_self]
theorem ab_d58_0 : (ab_c58_0.all fun q => decide (decode prog_1_method_45_code q.1 = .ok (q.2.1, q.2.2))) = true := by decide +kernel
theorem ab_d58 : (ab_c58.all fun q => decide (decode prog_1_method_45_code q.1 = .ok (q.2.1, q.2.2))) = true := by
  rw [ab_c58]; simp only [List.all_append, ab_d58_0, Bool.and_self]
theorem ab_d59_0 : (ab_c59_0.all fun q => decide (decode prog_2_method_4_code q.1 = .ok (q.2.1, q.2.2))) = true := by decide +kernel
theorem ab_d59_1 : (ab_c59_1.all fun q => decide (decode prog_2_method_4_code q.1 = .ok (q.2.1, q.2.2))) = true := by decide +kernel
theorem ab_d59 : (ab_c59.all fun q => decide (decode prog_2_method_4_code q.1 = .ok (q.2.1, q.2.2))) = true := by
  rw [ab_c59]; simp only [List.all_append, ab_d59_0, ab_d59_1, Bool.and_self]
theorem ab_d60_0 : (ab_c60_0.all fun q => decide (decode prog_1_method_18_code q.1 = .ok (q.2.1, q.2.2))) = true := by decide +kernel
theorem ab_d60 : (ab_c60.all fun q => decide (decode prog_1_method_18_code q.1 = .ok (q.2.1, q.2.2))) = true := by
  rw [ab_c60]; simp only [List.all_append, ab_d60_0, Bool.and_self]
theorem ab_d61_0 : (ab_c61_0.all fun q => decide (decode prog_1_method_19_code q.1 = .ok (q.2.1, q.2.2))) = true := by decide +kernel
theorem ab_d61 : (ab_c61.all fun q => decide (decode prog_1_method_19_code q.1 = .ok (q.2.1, q.2.2))) = true := by
  rw [ab_c61]; simp only [List.all_append, ab_d61_0, Bool.and_self]
theorem ab_d62_0 : (ab_c62_0.all fun q => decide (decode prog_1_method_20_code q.1 = .ok (q.2.1, q.2.2))) = true := by decide +kernel
theorem ab_d62 : (ab_c62.all fun q => decide (decode prog_1_method_20_code q.1 = .ok (q.2.1, q.2.2))) = true := by
  rw [ab_c62]; simp only [List.all_append, ab_d62_0, Bool.and_self]
theorem ab_d63_0 : (ab_c63_0.all fun q => decide (decode prog_3_method_4_code q.1 = .ok (q.2.1, q.2.2))) = true := by decide +kernel
theorem ab_d63 : (ab_c63.all fun q => decide (decode prog_3_method_4_code q.1 = .ok (q.2.1, q.2.2))) = true := by
  rw [ab_c63]; simp only [List.all_append, ab_d63_0, Bool.and_self]
theorem ab_d64_0 : (ab_c64_0.all fun q => decide (decode prog_1_method_21_code q.1 = .ok (q.2.1, q.2.2))) = true := by decide +kernel
theorem ab_d64 : (ab_c64.all fun q => decide (decode prog_1_method_21_code q.1 = .ok (q.2.1, q.2.2))) = true := by
  rw [ab_c64]; simp only [List.all_append, ab_d64_0, Bool.and_self]
theorem ab_d65_0 : (ab_c65_0.all fun q => decide (decode prog_1_method_62_code q.1 = .ok (q.2.1, q.2.2))) = true := by decide +kernel
theorem ab_d65 : (ab_c65.all fun q => decide (decode prog_1_method_62_code q.1 = .ok (q.2.1, q.2.2))) = true := by
  rw [ab_c65]; simp only [List.all_append, ab_d65_0, Bool.and_self]
theorem ab_d66_0 : (ab_c66_0.all fun q => decide (decode prog_1_method_22_code q.1 = .ok (q.2.1, q.2.2))) = true := by decide +kernel
theorem ab_d66_1 : (ab_c66_1.all fun q => decide (decode prog_1_method_22_code q.1 = .ok (q.2.1, q.2.2))) = true := by decide +kernel
theorem ab_d66 : (ab_c66.all fun q => decide (decode prog_1_method_22_code q.1 = .ok (q.2.1, q.2.2))) = true := by
  rw [ab_c66]; simp only [List.all_append, ab_d66_0, ab_d66_1, Bool.and_self]
theorem ab_d67_0 : (ab_c67_0.all fun q => decide (decode prog_3_method_6_code q.1 = .ok (q.2.1, q.2.2))) = true := by decide +kernel
theorem ab_d67 : (ab_c67.all fun q => decide (decode prog_3_method_6_code q.1 = .ok (q.2.1, q.2.2))) = true := by
  rw [ab_c67]; simp only [List.all_append, ab_d67_0, Bool.and_self]
theorem ab_d68_0 : (ab_c68_0.all fun q => decide (decode prog_2_method_7_code q.1 = .ok (q.2.1, q.2.2))) = true := by decide +kernel
theorem ab_d68 : (ab_c68.all fun q => decide (decode prog_2_method_7_code q.1 = .ok (q.2.1, q.2.2))) = true := by
  rw [ab_c68]; simp only [List.all_append, ab_d68_0, Bool.and_self]
theorem ab_d69_0 : (ab_c69_0.all fun q => decide (decode prog_1_method_23_code q.1 = .ok (q.2.1, q.2.2))) = true := by decide +kernel
theorem ab_d69 : (ab_c69.all fun q => decide (decode prog_1_method_23_code q.1 = .ok (q.2.1, q.2.2))) = true := by
  rw [ab_c69]; simp only [List.all_append, ab_d69_0, Bool.and_self]
theorem ab_d70_0 : (ab_c70_0.all fun q => decide (decode prog_1_method_24_code q.1 = .ok (q.2.1, q.2.2))) = true := by decide +kernel
theorem ab_d70_1 : (ab_c70_1.all fun q => decide (decode prog_1_method_24_code q.1 = .ok (q.2.1, q.2.2))) = true := by decide +kernel
theorem ab_d70 : (ab_c70.all fun q => decide (decode prog_1_method_24_code q.1 = .ok (q.2.1, q.2.2))) = true := by
  rw [ab_c70]; simp only [List.all_append, ab_d70_0, ab_d70_1, Bool.and_self]
theorem ab_d71_0 : (ab_c71_0.all fun q => decide (decode prog_4_method_2_code q.1 = .ok (q.2.1, q.2.2))) = true := by decide +kernel
theorem ab_d71 : (ab_c71.all fun q => decide (decode prog_4_method_2_code q.1 = .ok (q.2.1, q.2.2))) = true := by
  rw [ab_c71]; simp only [List.all_append, ab_d71_0, Bool.and_self]
theorem ab_d72_0 : (ab_c72_0.all fun q => decide (decode prog_4_method_3_code q.1 = .ok (q.2.1, q.2.2))) = true := by decide +kernel
theorem ab_d72 : (ab_c72.all fun q => decide (decode prog_4_method_3_code q.1 = .ok (q.2.1, q.2.2))) = true := by
  rw [ab_c72]; simp only [List.all_append, ab_d72_0, Bool.and_self]
theorem ab_d73_0 : (ab_c73_0.all fun q => decide (decode prog_4_method_5_code q.1 = .ok (q.2.1, q.2.2))) = true := by decide +kernel
theorem ab_d73_1 : (ab_c73_1.all fun q => decide (decode prog_4_method_5_code q.1 = .ok (q.2.1, q.2.2))) = true := by decide +kernel
theorem ab_d73 : (ab_c73.all fun q => decide (decode prog_4_method_5_code q.1 = .ok (q.2.1, q.2.2))) = true := by
  rw [ab_c73]; simp only [List.all_append, ab_d73_0, ab_d73_1, Bool.and_self]
theorem ab_d74_0 : (ab_c74_0.all fun q => decide (decode prog_4_method_4_code q.1 = .ok (q.2.1, q.2.2))) = true := by decide +kernel
theorem ab_d74_1 : (ab_c74_1.all fun q => decide (decode prog_4_method_4_code q.1 = .ok (q.2.1, q.2.2))) = true := by decide +kernel
theorem ab_d74_2 : (ab_c74_2.all fun q => decide (decode prog_4_method_4_code q.1 = .ok (q.2.1, q.2.2))) = true := by decide +kernel
theorem ab_d74 : (ab_c74.all fun q => decide (decode prog_4_method_4_code q.1 = .ok (q.2.1, q.2.2))) = true := by
  rw [ab_c74]; simp only [List.all_append, ab_d74_0, ab_d74_1, ab_d74_2, Bool.and_self]
theorem ab_d75_0 : (ab_c75_0.all fun q => decide (decode prog_1_method_25_code q.1 = .ok (q.2.1, q.2.2))) = true := by decide +kernel
theorem ab_d75 : (ab_c75.all fun q => decide (decode prog_1_method_25_code q.1 = .ok (q.2.1, q.2.2))) = true := by
  rw [ab_c75]; simp only [List.all_append, ab_d75_0, Bool.and_self]
theorem ab_d76_0 : (ab_c76_0.all fun q => decide (decode prog_1_method_26_code q.1 = .ok (q.2.1, q.2.2))) = true := by decide +kernel
theorem ab_d76 : (ab_c76.all fun q => decide (decode prog_1_method_26_code q.1 = .ok (q.2.1, q.2.2))) = true := by
  rw [ab_c76]; simp only [List.all_append, ab_d76_0, Bool.and_self]
theorem ab_d77_0 : (ab_c77_0.all fun q => decide (decode prog_1_method_27_code q.1 = .ok (q.2.1, q.2.2))) = true := by decide +kernel
theorem ab_d77_1 : (ab_c77_1.all fun q => decide (decode prog_1_method_27_code q.1 = .ok (q.2.1, q.2.2))) = true := by decide +kernel
theorem ab_d77 : (ab_c77.all fun q => decide (decode prog_1_method_27_code q.1 = .ok (q.2.1, q.2.2))) = true := by
  rw [ab_c77]; simp only [List.all_append, ab_d77_0, ab_d77_1, Bool.and_self]
theorem ab_d78_0 : (ab_c78_0.all fun q => decide (decode prog_2_method_9_code q.1 = .ok (q.2.1, q.2.2))) = true := by decide +kernel
theorem ab_d78_1 : (ab_c78_1.all fun q => decide (decode prog_2_method_9_code q.1 = .ok (q.2.1, q.2.2))) = true := by decide +kernel
theorem ab_d78 : (ab_c78.all fun q => decide (decode prog_2_method_9_code q.1 = .ok (q.2.1, q.2.2))) = true := by
  rw [ab_c78]; simp only [List.all_append, ab_d78_0, ab_d78_1, Bool.and_self]
theorem ab_d79_0 : (ab_c79_0.all fun q => decide (decode prog_1_method_28_code q.1 = .ok (q.2.1, q.2.2))) = true := by decide +kernel
theorem ab_d79_1 : (ab_c79_1.all fun q => decide (decode prog_1_method_28_code q.1 = .ok (q.2.1, q.2.2))) = true := by decide +kernel
theorem ab_d79 : (ab_c79.all fun q => decide (decode prog_1_method_28_code q.1 = .ok (q.2.1, q.2.2))) = true := by
  rw [ab_c79]; simp only [List.all_append, ab_d79_0, ab_d79_1, Bool.and_self]
theorem ab_d80_0 : (ab_c80_0.all fun q => decide (decode prog_1_method_52_code q.1 = .ok (q.2.1, q.2.2))) = true := by decide +kernel
theorem ab_d80_1 : (ab_c80_1.all fun q => decide (decode prog_1_method_52_code q.1 = .ok (q.2.1, q.2.2))) = true := by decide +kernel
theorem ab_d80 : (ab_c80.all fun q => decide (decode prog_1_method_52_code q.1 = .ok (q.2.1, q.2.2))) = true := by
  rw [ab_c80]; simp only [List.all_append, ab_d80_0, ab_d80_1, Bool.and_self]
theorem ab_d81_0 : (ab_c81_0.all fun q => decide (decode prog_1_method_61_code q.1 = .ok (q.2.1, q.2.2))) = true := by decide +kernel
theorem ab_d81 : (ab_c81.all fun q => decide (decode prog_1_method_61_code q.1 = .ok (q.2.1, q.2.2))) = true := by
  rw [ab_c81]; simp only [List.all_append, ab_d81_0, Bool.and_self]
theorem ab_d82_0 : (ab_c82_0.all fun q => decide (decode prog_1_method_29_code q.1 = .ok (q.2.1, q.2.2))) = true := by decide +kernel
theorem ab_d82_1 : (ab_c82_1.all fun q => decide (decode prog_1_method_29_code q.1 = .ok (q.2.1, q.2.2))) = true := by decide +kernel
theorem ab_d82 : (ab_c82.all fun q => decide (decode prog_1_method_29_code q.1 = .ok (q.2.1, q.2.2))) = true := by
  rw [ab_c82]; simp only [List.all_append, ab_d82_0, ab_d82_1, Bool.and_self]
theorem ab_d83_0 : (ab_c83_0.all fun q => decide (decode prog_1_method_30_code q.1 = .ok (q.2.1, q.2.2))) = true := by decide +kernel
theorem ab_d83 : (ab_c83.all fun q => decide (decode prog_1_method_30_code q.1 = .ok (q.2.1, q.2.2))) = true := by
  rw [ab_c83]; simp only [List.all_append, ab_d83_0, Bool.and_self]
theorem ab_d84_0 : (ab_c84_0.all fun q => decide (decode prog_1_method_31_code q.1 = .ok (q.2.1, q.2.2))) = true := by decide +kernel
theorem ab_d84_1 : (ab_c84_1.all fun q => decide (decode prog_1_method_31_code q.1 = .ok (q.2.1, q.2.2))) = true := by decide +kernel
theorem ab_d84 : (ab_c84.all fun q => decide (decode prog_1_method_31_code q.1 = .ok (q.2.1, q.2.2))) = true := by
  rw [ab_c84]; simp only [List.all_append, ab_d84_0, ab_d84_1, Bool.and_self]
theorem ab_d85_0 : (ab_c85_0.all fun q => decide (decode prog_2_method_12_code q.1 = .ok (q.2.1, q.2.2))) = true := by decide +kernel
theorem ab_d85 : (ab_c85.all fun q => decide (decode prog_2_method_12_code q.1 = .ok (q.2.1, q.2.2))) = true := by
  rw [ab_c85]; simp only [List.all_append, ab_d85_0, Bool.and_self]
theorem ab_d86_0 : (ab_c86_0.all fun q => decide (decode prog_1_method_32_code q.1 = .ok (q.2.1, q.2.2))) = true := by decide +kernel
theorem ab_d86 : (ab_c86.all fun q => decide (decode prog_1_method_32_code q.1 = .ok (q.2.1, q.2.2))) = true := by
  rw [ab_c86]; simp only [List.all_append, ab_d86_0, Bool.and_self]
theorem ab_d87_0 : (ab_c87_0.all fun q => decide (decode prog_1_method_63_code q.1 = .ok (q.2.1, q.2.2))) = true := by decide +kernel
theorem ab_d87_1 : (ab_c87_1.all fun q => decide (decode prog_1_method_63_code q.1 = .ok (q.2.1, q.2.2))) = true := by decide +kernel
theorem ab_d87 : (ab_c87.all fun q => decide (decode prog_1_method_63_code q.1 = .ok (q.2.1, q.2.2))) = true := by
  rw [ab_c87]; simp only [List.all_append, ab_d87_0, ab_d87_1, Bool.and_self]
theorem ab_d88_0 : (ab_c88_0.all fun q => decide (decode prog_1_method_64_code q.1 = .ok (q.2.1, q.2.2))) = true := by decide +kernel
theorem ab_d88_1 : (ab_c88_1.all fun q => decide (decode prog_1_method_64_code q.1 = .ok (q.2.1, q.2.2))) = true := by decide +kernel
theorem ab_d88 : (ab_c88.all fun q => decide (decode prog_1_method_64_code q.1 = .ok (q.2.1, q.2.2))) = true := by
  rw [ab_c88]; simp only [List.all_append, ab_d88_0, ab_d88_1, Bool.and_self]
theorem ab_d89_0 : (ab_c89_0.all fun q => decide (decode prog_1_method_33_code q.1 = .ok (q.2.1, q.2.2))) = true := by decide +kernel
theorem ab_d89 : (ab_c89.all fun q => decide (decode prog_1_method_33_code q.1 = .ok (q.2.1, q.2.2))) = true := by
  rw [ab_c89]; simp only [List.all_append, ab_d89_0, Bool.and_self]
theorem ab_d90_0 : (ab_c90_0.all fun q => decide (decode prog_1_method_65_code q.1 = .ok (q.2.1, q.2.2))) = true := by decide +kernel
theorem ab_d90 : (ab_c90.all fun q => decide (decode prog_1_method_65_code q.1 = .ok (q.2.1, q.2.2))) = true := by
  rw [ab_c90]; simp only [List.all_append, ab_d90_0, Bool.and_self]
theorem ab_d91_0 : (ab_c91_0.all fun q => decide (decode prog_1_method_34_code q.1 = .ok (q.2.1, q.2.2))) = true := by decide +kernel
theorem ab_d91_1 : (ab_c91_1.all fun q => decide (decode prog_1_method_34_code q.1 = .ok (q.2.1, q.2.2))) = true := by decide +kernel
theorem ab_d91 : (ab_c91.all fun q => decide (decode prog_1_method_34_code q.1 = .ok (q.2.1, q.2.2))) = true := by
  rw [ab_c91]; simp only [List.all_append, ab_d91_0, ab_d91_1, Bool.and_self]
theorem ab_d92_0 : (ab_c92_0.all fun q => decide (decode prog_1_method_35_code q.1 = .ok (q.2.1, q.2.2))) = true := by decide +kernel
theorem ab_d92_1 : (ab_c92_1.all fun q => decide (decode prog_1_method_35_code q.1 = .ok (q.2.1, q.2.2))) = true := by decide +kernel
theorem ab_d92 : (ab_c92.all fun q => decide (decode prog_1_method_35_code q.1 = .ok (q.2.1, q.2.2))) = true := by
  rw [ab_c92]; simp only [List.all_append, ab_d92_0, ab_d92_1, Bool.and_self]
theorem ab_d93_0 : (ab_c93_0.all fun q => decide (decode prog_3_method_3_code q.1 = .ok (q.2.1, q.2.2))) = true := by decide +kernel
theorem ab_d93 : (ab_c93.all fun q => decide (decode prog_3_method_3_code q.1 = .ok (q.2.1, q.2.2))) = true := by
  rw [ab_c93]; simp only [List.all_append, ab_d93_0, Bool.and_self]
theorem ab_d94_0 : (ab_c94_0.all fun q => decide (decode prog_1_method_36_code q.1 = .ok (q.2.1, q.2.2))) = true := by decide +kernel
theorem ab_d94 : (ab_c94.all fun q => decide (decode prog_1_method_36_code q.1 = .ok (q.2.1, q.2.2))) = true := by
  rw [ab_c94]; simp only [List.all_append, ab_d94_0, Bool.and_self]
theorem ab_d95_0 : (ab_c95_0.all fun q => decide (decode prog_1_method_37_code q.1 = .ok (q.2.1, q.2.2))) = true := by decide +kernel
theorem ab_d95 : (ab_c95.all fun q => decide (decode prog_1_method_37_code q.1 = .ok (q.2.1, q.2.2))) = true := by
  rw [ab_c95]; simp only [List.all_append, ab_d95_0, Bool.and_self]
theorem ab_d96_0 : (ab_c96_0.all fun q => decide (decode prog_1_method_38_code q.1 = .ok (q.2.1, q.2.2))) = true := by decide +kernel
theorem ab_d96 : (ab_c96.all fun q => decide (decode prog_1_method_38_code q.1 = .ok (q.2.1, q.2.2))) = true := by
  rw [ab_c96]; simp only [List.all_append, ab_d96_0, Bool.and_self]
theorem ab_d97_0 : (ab_c97_0.all fun q => decide (decode prog_1_method_39_code q.1 = .ok (q.2.1, q.2.2))) = true := by decide +kernel
theorem ab_d97_1 : (ab_c97_1.all fun q => decide (decode prog_1_method_39_code q.1 = .ok (q.2.1, q.2.2))) = true := by decide +kernel
theorem ab_d97 : (ab_c97.all fun q => decide (decode prog_1_method_39_code q.1 = .ok (q.2.1, q.2.2))) = true := by
  rw [ab_c97]; simp only [List.all_append, ab_d97_0, ab_d97_1, Bool.and_self]
theorem ab_d98_0 : (ab_c98_0.all fun q => decide (decode prog_2_method_13_code q.1 = .ok (q.2.1, q.2.2))) = true := by decide +kernel
theorem ab_d98 : (ab_c98.all fun q => decide (decode prog_2_method_13_code q.1 = .ok (q.2.1, q.2.2))) = true := by
  rw [ab_c98]; simp only [List.all_append, ab_d98_0, Bool.and_self]
theorem ab_d99_0 : (ab_c99_0.all fun q => decide (decode prog_1_method_66_code q.1 = .ok (q.2.1, q.2.2))) = true := by decide +kernel
theorem ab_d99 : (ab_c99.all fun q => decide (decode prog_1_method_66_code q.1 = .ok (q.2.1, q.2.2))) = true := by
  rw [ab_c99]; simp only [List.all_append, ab_d99_0, Bool.and_self]
theorem ab_d100_0 : (ab_c100_0.all fun q => decide (decode prog_1_method_67_code q.1 = .ok (q.2.1, q.2.2))) = true := by decide +kernel
theorem ab_d100 : (ab_c100.all fun q => decide (decode prog_1_method_67_code q.1 = .ok (q.2.1, q.2.2))) = true := by
  rw [ab_c100]; simp only [List.all_append, ab_d100_0, Bool.and_self]
theorem ab_d101_0 : (ab_c101_0.all fun q => decide (decode prog_1_method_40_code q.1 = .ok (q.2.1, q.2.2))) = true := by decide +kernel
theorem ab_d101 : (ab_c101.all fun q => decide (decode prog_1_method_40_code q.1 = .ok (q.2.1, q.2.2))) = true := by
  rw [ab_c101]; simp only [List.all_append, ab_d101_0, Bool.and_self]
theorem ab_d102_0 : (ab_c102_0.all fun q => decide (decode prog_1_method_41_code q.1 = .ok (q.2.1, q.2.2))) = true := by decide +kernel
theorem ab_d102 : (ab_c102.all fun q => decide (decode prog_1_method_41_code q.1 = .ok (q.2.1, q.2.2))) = true := by
  rw [ab_c102]; simp only [List.all_append, ab_d102_0, Bool.and_self]
theorem ab_d103_0 : (ab_c103_0.all fun q => decide (decode prog_1_method_42_code q.1 = .ok (q.2.1, q.2.2))) = true := by decide +kernel
theorem ab_d103_1 : (ab_c103_1.all fun q => decide (decode prog_1_method_42_code q.1 = .ok (q.2.1, q.2.2))) = true := by decide +kernel
theorem ab_d103_2 : (ab_c103_2.all fun q => decide (decode prog_1_method_42_code q.1 = .ok (q.2.1, q.2.2))) = true := by decide +kernel
theorem ab_d103_3 : (ab_c103_3.all fun q => decide (decode prog_1_method_42_code q.1 = .ok (q.2.1, q.2.2))) = true := by decide +kernel
theorem ab_d103 : (ab_c103.all fun q => decide (decode prog_1_method_42_code q.1 = .ok (q.2.1, q.2.2))) = true := by
  rw [ab_c103]; simp only [List.all_append, ab_d103_0, ab_d103_1, ab_d103_2, ab_d103_3, Bool.and_self]
theorem ab_d104_0 : (ab_c104_0.all fun q => decide (decode prog_6_method_1_code q.1 = .ok (q.2.1, q.2.2))) = true := by decide +kernel
theorem ab_d104 : (ab_c104.all fun q => decide (decode prog_6_method_1_code q.1 = .ok (q.2.1, q.2.2))) = true := by
  rw [ab_c104]; simp only [List.all_append, ab_d104_0, Bool.and_self]
theorem ab_d105_0 : (ab_c105_0.all fun q => decide (decode prog_6_method_13_code q.1 = .ok (q.2.1, q.2.2))) = true := by decide +kernel
theorem ab_d105 : (ab_c105.all fun q => decide (decode prog_6_method_13_code q.1 = .ok (q.2.1, q.2.2))) = true := by
  rw [ab_c105]; simp only [List.all_append, ab_d105_0, Bool.and_self]
theorem ab_d106_0 : (ab_c106_0.all fun q => decide (decode prog_6_method_10_code q.1 = .ok (q.2.1, q.2.2))) = true := by decide +kernel
theorem ab_d106 : (ab_c106.all fun q => decide (decode prog_6_method_10_code q.1 = .ok (q.2.1, q.2.2))) = true := by
  rw [ab_c106]; simp only [List.all_append, ab_d106_0, Bool.and_self]
theorem ab_d107_0 : (ab_c107_0.all fun q => decide (decode prog_6_method_3_code q.1 = .ok (q.2.1, q.2.2))) = true := by decide +kernel
theorem ab_d107 : (ab_c107.all fun q => decide (decode prog_6_method_3_code q.1 = .ok (q.2.1, q.2.2))) = true := by
  rw [ab_c107]; simp only [List.all_append, ab_d107_0, Bool.and_self]
theorem ab_d108_0 : (ab_c108_0.all fun q => decide (decode prog_6_method_7_code q.1 = .ok (q.2.1, q.2.2))) = true := by decide +kernel
theorem ab_d108 : (ab_c108.all fun q => decide (decode prog_6_method_7_code q.1 = .ok (q.2.1, q.2.2))) = true := by
  rw [ab_c108]; simp only [List.all_append, ab_d108_0, Bool.and_self]
theorem ab_d109_0 : (ab_c109_0.all fun q => decide (decode prog_6_method_12_code q.1 = .ok (q.2.1, q.2.2))) = true := by decide +kernel
theorem ab_d109 : (ab_c109.all fun q => decide (decode prog_6_method_12_code q.1 = .ok (q.2.1, q.2.2))) = true := by
  rw [ab_c109]; simp only [List.all_append, ab_d109_0, Bool.and_self]
theorem ab_d110_0 : (ab_c110_0.all fun q => decide (decode prog_6_method_14_code q.1 = .ok (q.2.1, q.2.2))) = true := by decide +kernel
theorem ab_d110 : (ab_c110.all fun q => decide (decode prog_6_method_14_code q.1 = .ok (q.2.1, q.2.2))) = true := by
  rw [ab_c110]; simp only [List.all_append, ab_d110_0, Bool.and_self]
theorem ab_d111_0 : (ab_c111_0.all fun q => decide (decode prog_6_method_15_code q.1 = .ok (q.2.1, q.2.2))) = true := by decide +kernel
theorem ab_d111_1 : (ab_c111_1.all fun q => decide (decode prog_6_method_15_code q.1 = .ok (q.2.1, q.2.2))) = true := by decide +kernel
theorem ab_d111 : (ab_c111.all fun q => decide (decode prog_6_method_15_code q.1 = .ok (q.2.1, q.2.2))) = true := by
  rw [ab_c111]; simp only [List.all_append, ab_d111_0, ab_d111_1, Bool.and_self]
theorem ab_d112_0 : (ab_c112_0.all fun q => decide (decode prog_6_method_8_code q.1 = .ok (q.2.1, q.2.2))) = true := by decide +kernel
theorem ab_d112 : (ab_c112.all fun q => decide (decode prog_6_method_8_code q.1 = .ok (q.2.1, q.2.2))) = true := by
  rw [ab_c112]; simp only [List.all_append, ab_d112_0, Bool.and_self]
theorem ab_d113_0 : (ab_c113_0.all fun q => decide (decode prog_6_method_16_code q.1 = .ok (q.2.1, q.2.2))) = true := by decide +kernel
theorem ab_d113 : (ab_c113.all fun q => decide (decode prog_6_method_16_code q.1 = .ok (q.2.1, q.2.2))) = true := by
  rw [ab_c113]; simp only [List.all_append, ab_d113_0, Bool.and_self]
theorem ab_d114_0 : (ab_c114_0.all fun q => decide (decode prog_6_method_18_code q.1 = .ok (q.2.1, q.2.2))) = true := by decide +kernel
theorem ab_d114_1 : (ab_c114_1.all fun q => decide (decode prog_6_method_18_code q.1 = .ok (q.2.1, q.2.2))) = true := by decide +kernel
theorem ab_d114_2 : (ab_c114_2.all fun q => decide (decode prog_6_method_18_code q.1 = .ok (q.2.1, q.2.2))) = true := by decide +kernel
theorem ab_d114 : (ab_c114.all fun q => decide (decode prog_6_method_18_code q.1 = .ok (q.2.1, q.2.2))) = true := by
  rw [ab_c114]; simp only [List.all_append, ab_d114_0, ab_d114_1, ab_d114_2, Bool.and_self]
theorem ab_d115_0 : (ab_c115_0.all fun q => decide (decode prog_6_method_17_code q.1 = .ok (q.2.1, q.2.2))) = true := by decide +kernel
theorem ab_d115 : (ab_c115.all fun q => decide (decode prog_6_method_17_code q.1 = .ok (q.2.1, q.2.2))) = true := by
  rw [ab_c115]; simp only [List.all_append, ab_d115_0, Bool.and_self]
theorem ab_d116_0 : (ab_c116_0.all fun q => decide (decode prog_6_method_19_code q.1 = .ok (q.2.1, q.2.2))) = true := by decide +kernel
theorem ab_d116_1 : (ab_c116_1.all fun q => decide (decode prog_6_method_19_code q.1 = .ok (q.2.1, q.2.2))) = true := by decide +kernel
theorem ab_d116 : (ab_c116.all fun q => decide (decode prog_6_method_19_code q.1 = .ok (q.2.1, q.2.2))) = true := by
  rw [ab_c116]; simp only [List.all_append, ab_d116_0, ab_d116_1, Bool.and_self]
theorem ab_d117_0 : (ab_c117_0.all fun q => decide (decode prog_6_method_20_code q.1 = .ok (q.2.1, q.2.2))) = true := by decide +kernel
theorem ab_d117 : (ab_c117.all fun q => decide (decode prog_6_method_20_code q.1 = .ok (q.2.1, q.2.2))) = true := by
  rw [ab_c117]; simp only [List.all_append, ab_d117_0, Bool.and_self]
theorem ab_d118_0 : (ab_c118_0.all fun q => decide (decode prog_6_method_11_code q.1 = .ok (q.2.1, q.2.2))) = true := by decide +kernel
theorem ab_d118 : (ab_c118.all fun q => decide (decode prog_6_method_11_code q.1 = .ok (q.2.1, q.2.2))) = true := by
  rw [ab_c118]; simp only [List.all_append, ab_d118_0, Bool.and_self]
theorem ab_d119_0 : (ab_c119_0.all fun q => decide (decode prog_6_method_21_code q.1 = .ok (q.2.1, q.2.2))) = true := by decide +kernel
theorem ab_d119_1 : (ab_c119_1.all fun q => decide (decode prog_6_method_21_code q.1 = .ok (q.2.1, q.2.2))) = true := by decide +kernel
theorem ab_d119 : (ab_c119.all fun q => decide (decode prog_6_method_21_code q.1 = .ok (q.2.1, q.2.2))) = true := by
  rw [ab_c119]; simp only [List.all_append, ab_d119_0, ab_d119_1, Bool.and_self]
theorem ab_d120_0 : (ab_c120_0.all fun q => decide (decode prog_6_method_29_code q.1 = .ok (q.2.1, q.2.2))) = true := by decide +kernel
theorem ab_d120 : (ab_c120.all fun q => decide (decode prog_6_method_29_code q.1 = .ok (q.2.1, q.2.2))) = true := by
  rw [ab_c120]; simp only [List.all_append, ab_d120_0, Bool.and_self]
theorem ab_d121_0 : (ab_c121_0.all fun q => decide (decode prog_6_method_28_code q.1 = .ok (q.2.1, q.2.2))) = true := by decide +kernel
theorem ab_d121_1 : (ab_c121_1.all fun q => decide (decode prog_6_method_28_code q.1 = .ok (q.2.1, q.2.2))) = true := by decide +kernel
theorem ab_d121 : (ab_c121.all fun q => decide (decode prog_6_method_28_code q.1 = .ok (q.2.1, q.2.2))) = true := by
  rw [ab_c121]; simp only [List.all_append, ab_d121_0, ab_d121_1, Bool.and_self]
theorem ab_d122_0 : (ab_c122_0.all fun q => decide (decode prog_6_method_24_code q.1 = .ok (q.2.1, q.2.2))) = true := by decide +kernel
theorem ab_d122 : (ab_c122.all fun q => decide (decode prog_6_method_24_code q.1 = .ok (q.2.1, q.2.2))) = true := by
  rw [ab_c122]; simp only [List.all_append, ab_d122_0, Bool.and_self]
theorem ab_d123_0 : (ab_c123_0.all fun q => decide (decode prog_6_method_23_code q.1 = .ok (q.2.1, q.2.2))) = true := by decide +kernel
theorem ab_d123 : (ab_c123.all fun q => decide (decode prog_6_method_23_code q.1 = .ok (q.2.1, q.2.2))) = true := by
  rw [ab_c123]; simp only [List.all_append, ab_d123_0, Bool.and_self]
theorem ab_d124_0 : (ab_c124_0.all fun q => decide (decode prog_6_method_27_code q.1 = .ok (q.2.1, q.2.2))) = true := by decide +kernel
theorem ab_d124_1 : (ab_c124_1.all fun q => decide (decode prog_6_method_27_code q.1 = .ok (q.2.1, q.2.2))) = true := by decide +kernel
theorem ab_d124_2 : (ab_c124_2.all fun q => decide (decode prog_6_method_27_code q.1 = .ok (q.2.1, q.2.2))) = true := by decide +kernel
theorem ab_d124 : (ab_c124.all fun q => decide (decode prog_6_method_27_code q.1 = .ok (q.2.1, q.2.2))) = true := by
  rw [ab_c124]; simp only [List.all_append, ab_d124_0, ab_d124_1, ab_d124_2, Bool.and_self]
theorem ab_d125_0 : (ab_c125_0.all fun q => decide (decode prog_6_method_22_code q.1 = .ok (q.2.1, q.2.2))) = true := by decide +kernel
theorem ab_d125 : (ab_c125.all fun q => decide (decode prog_6_method_22_code q.1 = .ok (q.2.1, q.2.2))) = true := by
  rw [ab_c125]; simp only [List.all_append, ab_d125_0, Bool.and_self]
theorem ab_d126_0 : (ab_c126_0.all fun q => decide (decode prog_6_method_25_code q.1 = .ok (q.2.1, q.2.2))) = true := by decide +kernel
theorem ab_d126 : (ab_c126.all fun q => decide (decode prog_6_method_25_code q.1 = .ok (q.2.1, q.2.2))) = true := by
  rw [ab_c126]; simp only [List.all_append, ab_d126_0, Bool.and_self]
theorem ab_d127_0 : (ab_c127_0.all fun q => decide (decode prog_6_method_26_code q.1 = .ok (q.2.1, q.2.2))) = true := by decide +kernel
theorem ab_d127 : (ab_c127.all fun q => decide (decode prog_6_method_26_code q.1 = .ok (q.2.1, q.2.2))) = true := by
  rw [ab_c127]; simp only [List.all_append, ab_d127_0, Bool.and_self]
theorem ab_d128_0 : (ab_c128_0.all fun q => decide (decode prog_6_method_30_code q.1 = .ok (q.2.1, q.2.2))) = true := by decide +kernel
theorem ab_d128_1 : (ab_c128_1.all fun q => decide (decode prog_6_method_30_code q.1 = .ok (q.2.1, q.2.2))) = true := by decide +kernel
theorem ab_d128 : (ab_c128.all fun q => decide (decode prog_6_method_30_code q.1 = .ok (q.2.1, q.2.2))) = true := by
  rw [ab_c128]; simp only [List.all_append, ab_d128_0, ab_d128_1, Bool.and_self]
theorem ab_d129_0 : (ab_c129_0.all fun q => decide (decode prog_6_method_9_code q.1 = .ok (q.2.1, q.2.2))) = true := by decide +kernel
theorem ab_d129 : (ab_c129.all fun q => decide (decode prog_6_method_9_code q.1 = .ok (q.2.1, q.2.2))) = true := by
  rw [ab_c129]; simp only [List.all_append, ab_d129_0, Bool.and_self]
theorem ab_d130_0 : (ab_c130_0.all fun q => decide (decode prog_6_method_37_code q.1 = .ok (q.2.1, q.2.2))) = true := by decide +kernel
theorem ab_d130 : (ab_c130.all fun q => decide (decode prog_6_method_37_code q.1 = .ok (q.2.1, q.2.2))) = true := by
  rw [ab_c130]; simp only [List.all_append, ab_d130_0, Bool.and_self]
theorem ab_d131_0 : (ab_c131_0.all fun q => decide (decode prog_6_method_31_code q.1 = .ok (q.2.1, q.2.2))) = true := by decide +kernel
theorem ab_d131 : (ab_c131.all fun q => decide (decode prog_6_method_31_code q.1 = .ok (q.2.1, q.2.2))) = true := by
  rw [ab_c131]; simp only [List.all_append, ab_d131_0, Bool.and_self]
theorem ab_d132_0 : (ab_c132_0.all fun q => decide (decode prog_6_method_36_code q.1 = .ok (q.2.1, q.2.2))) = true := by decide +kernel
theorem ab_d132 : (ab_c132.all fun q => decide (decode prog_6_method_36_code q.1 = .ok (q.2.1, q.2.2))) = true := by
  rw [ab_c132]; simp only [List.all_append, ab_d132_0, Bool.and_self]
theorem ab_d133_0 : (ab_c133_0.all fun q => decide (decode prog_6_method_34_code q.1 = .ok (q.2.1, q.2.2))) = true := by decide +kernel
theorem ab_d133 : (ab_c133.all fun q => decide (decode prog_6_method_34_code q.1 = .ok (q.2.1, q.2.2))) = true := by
  rw [ab_c133]; simp only [List.all_append, ab_d133_0, Bool.and_self]
theorem ab_d134_0 : (ab_c134_0.all fun q => decide (decode prog_6_method_35_code q.1 = .ok (q.2.1, q.2.2))) = true := by decide +kernel
theorem ab_d134 : (ab_c134.all fun q => decide (decode prog_6_method_35_code q.1 = .ok (q.2.1, q.2.2))) = true := by
  rw [ab_c134]; simp only [List.all_append, ab_d134_0, Bool.and_self]
theorem ab_d135_0 : (ab_c135_0.all fun q => decide (decode prog_6_method_33_code q.1 = .ok (q.2.1, q.2.2))) = true := by decide +kernel
theorem ab_d135 : (ab_c135.all fun q => decide (decode prog_6_method_33_code q.1 = .ok (q.2.1, q.2.2))) = true := by
  rw [ab_c135]; simp only [List.all_append, ab_d135_0, Bool.and_self]
theorem ab_d136_0 : (ab_c136_0.all fun q => decide (decode prog_6_method_39_code q.1 = .ok (q.2.1, q.2.2))) = true := by decide +kernel
theorem ab_d136_1 : (ab_c136_1.all fun q => decide (decode prog_6_method_39_code q.1 = .ok (q.2.1, q.2.2))) = true := by decide +kernel
theorem ab_d136_2 : (ab_c136_2.all fun q => decide (decode prog_6_method_39_code q.1 = .ok (q.2.1, q.2.2))) = true := by decide +kernel
theorem ab_d136 : (ab_c136.all fun q => decide (decode prog_6_method_39_code q.1 = .ok (q.2.1, q.2.2))) = true := by
  rw [ab_c136]; simp only [List.all_append, ab_d136_0, ab_d136_1, ab_d136_2, Bool.and_self]
theorem ab_d137_0 : (ab_c137_0.all fun q => decide (decode prog_6_method_38_code q.1 = .ok (q.2.1, q.2.2))) = true := by decide +kernel
theorem ab_d137 : (ab_c137.all fun q => decide (decode prog_6_method_38_code q.1 = .ok (q.2.1, q.2.2))) = true := by
  rw [ab_c137]; simp only [List.all_append, ab_d137_0, Bool.and_self]
theorem ab_d138_0 : (ab_c138_0.all fun q => decide (decode prog_6_method_5_code q.1 = .ok (q.2.1, q.2.2))) = true := by decide +kernel
theorem ab_d138 : (ab_c138.all fun q => decide (decode prog_6_method_5_code q.1 = .ok (q.2.1, q.2.2))) = true := by
  rw [ab_c138]; simp only [List.all_append, ab_d138_0, Bool.and_self]
theorem ab_d139_0 : (ab_c139_0.all fun q => decide (decode prog_6_method_4_code q.1 = .ok (q.2.1, q.2.2))) = true := by decide +kernel
theorem ab_d139 : (ab_c139.all fun q => decide (decode prog_6_method_4_code q.1 = .ok (q.2.1, q.2.2))) = true := by
  rw [ab_c139]; simp only [List.all_append, ab_d139_0, Bool.and_self]
theorem ab_d140_0 : (ab_c140_0.all fun q => decide (decode prog_6_method_41_code q.1 = .ok (q.2.1, q.2.2))) = true := by decide +kernel
theorem ab_d140_1 : (ab_c140_1.all fun q => decide (decode prog_6_method_41_code q.1 = .ok (q.2.1, q.2.2))) = true := by decide +kernel
theorem ab_d140 : (ab_c140.all fun q => decide (decode prog_6_method_41_code q.1 = .ok (q.2.1, q.2.2))) = true := by
  rw [ab_c140]; simp only [List.all_append, ab_d140_0, ab_d140_1, Bool.and_self]
theorem ab_d141_0 : (ab_c141_0.all fun q => decide (decode prog_6_method_32_code q.1 = .ok (q.2.1, q.2.2))) = true := by decide +kernel
theorem ab_d141 : (ab_c141.all fun q => decide (decode prog_6_method_32_code q.1 = .ok (q.2.1, q.2.2))) = true := by
  rw [ab_c141]; simp only [List.all_append, ab_d141_0, Bool.and_self]
theorem ab_d142_0 : (ab_c142_0.all fun q => decide (decode prog_6_method_40_code q.1 = .ok (q.2.1, q.2.2))) = true := by decide +kernel
theorem ab_d142 : (ab_c142.all fun q => decide (decode prog_6_method_40_code q.1 = .ok (q.2.1, q.2.2))) = true := by
  rw [ab_c142]; simp only [List.all_append, ab_d142_0, Bool.and_self]
theorem ab_d143_0 : (ab_c143_0.all fun q => decide (decode prog_6_method_48_code q.1 = .ok (q.2.1, q.2.2))) = true := by decide +kernel
theorem ab_d143 : (ab_c143.all fun q => decide (decode prog_6_method_48_code q.1 = .ok (q.2.1, q.2.2))) = true := by
  rw [ab_c143]; simp only [List.all_append, ab_d143_0, Bool.and_self]
theorem ab_d144_0 : (ab_c144_0.all fun q => decide (decode prog_6_method_46_code q.1 = .ok (q.2.1, q.2.2))) = true := by decide +kernel
theorem ab_d144_1 : (ab_c144_1.all fun q => decide (decode prog_6_method_46_code q.1 = .ok (q.2.1, q.2.2))) = true := by decide +kernel
theorem ab_d144 : (ab_c144.all fun q => decide (decode prog_6_method_46_code q.1 = .ok (q.2.1, q.2.2))) = true := by
  rw [ab_c144]; simp only [List.all_append, ab_d144_0, ab_d144_1, Bool.and_self]
theorem ab_d145_0 : (ab_c145_0.all fun q => decide (decode prog_6_method_42_code q.1 = .ok (q.2.1, q.2.2))) = true := by decide +kernel
theorem ab_d145 : (ab_c145.all fun q => decide (decode prog_6_method_42_code q.1 = .ok (q.2.1, q.2.2))) = true := by
  rw [ab_c145]; simp only [List.all_append, ab_d145_0, Bool.and_self]
theorem ab_d146_0 : (ab_c146_0.all fun q => decide (decode prog_6_method_43_code q.1 = .ok (q.2.1, q.2.2))) = true := by decide +kernel
theorem ab_d146 : (ab_c146.all fun q => decide (decode prog_6_method_43_code q.1 = .ok (q.2.1, q.2.2))) = true := by
  rw [ab_c146]; simp only [List.all_append, ab_d146_0, Bool.and_self]
theorem ab_d147_0 : (ab_c147_0.all fun q => decide (decode prog_6_method_45_code q.1 = .ok (q.2.1, q.2.2))) = true := by decide +kernel
theorem ab_d147 : (ab_c147.all fun q => decide (decode prog_6_method_45_code q.1 = .ok (q.2.1, q.2.2))) = true := by
  rw [ab_c147]; simp only [List.all_append, ab_d147_0, Bool.and_self]
theorem ab_d148_0 : (ab_c148_0.all fun q => decide (decode prog_6_method_44_code q.1 = .ok (q.2.1, q.2.2))) = true := by decide +kernel
theorem ab_d148_1 : (ab_c148_1.all fun q => decide (decode prog_6_method_44_code q.1 = .ok (q.2.1, q.2.2))) = true := by decide +kernel
theorem ab_d148 : (ab_c148.all fun q => decide (decode prog_6_method_44_code q.1 = .ok (q.2.1, q.2.2))) = true := by
  rw [ab_c148]; simp only [List.all_append, ab_d148_0, ab_d148_1, Bool.and_self]
theorem ab_d149_0 : (ab_c149_0.all fun q => decide (decode prog_6_method_6_code q.1 = .ok (q.2.1, q.2.2))) = true := by decide +kernel
theorem ab_d149 : (ab_c149.all fun q => decide (decode prog_6_method_6_code q.1 = .ok (q.2.1, q.2.2))) = true := by
  rw [ab_c149]; simp only [List.all_append, ab_d149_0, Bool.and_self]
theorem ab_d150_0 : (ab_c150_0.all fun q => decide (decode prog_6_method_47_code q.1 = .ok (q.2.1, q.2.2))) = true := by decide +kernel
theorem ab_d150_1 : (ab_c150_1.all fun q => decide (decode prog_6_method_47_code q.1 = .ok (q.2.1, q.2.2))) = true := by decide +kernel
theorem ab_d150 : (ab_c150.all fun q => decide (decode prog_6_method_47_code q.1 = .ok (q.2.1, q.2.2))) = true := by
  rw [ab_c150]; simp only [List.all_append, ab_d150_0, ab_d150_1, Bool.and_self]
theorem ab_d151_0 : (ab_c151_0.all fun q => decide (decode prog_6_method_49_code q.1 = .ok (q.2.1, q.2.2))) = true := by decide +kernel
theorem ab_d151 : (ab_c151.all fun q => decide (decode prog_6_method_49_code q.1 = .ok (q.2.1, q.2.2))) = true := by
  rw [ab_c151]; simp only [List.all_append, ab_d151_0, Bool.and_self]
theorem ab_d152_0 : (ab_c152_0.all fun q => decide (decode prog_6_method_50_code q.1 = .ok (q.2.1, q.2.2))) = true := by decide +kernel
theorem ab_d152 : (ab_c152.all fun q => decide (decode prog_6_method_50_code q.1 = .ok (q.2.1, q.2.2))) = true := by
  rw [ab_c152]; simp only [List.all_append, ab_d152_0, Bool.and_self]
theorem ab_d153_0 : (ab_c153_0.all fun q => decide (decode prog_6_method_51_code q.1 = .ok (q.2.1, q.2.2))) = true := by decide +kernel
theorem ab_d153 : (ab_c153.all fun q => decide (decode prog_6_method_51_code q.1 = .ok (q.2.1, q.2.2))) = true := by
  rw [ab_c153]; simp only [List.all_append, ab_d153_0, Bool.and_self]
theorem ab_d154_0 : (ab_c154_0.all fun q => decide (decode prog_6_method_52_code q.1 = .ok (q.2.1, q.2.2))) = true := by decide +kernel
theorem ab_d154 : (ab_c154.all fun q => decide (decode prog_6_method_52_code q.1 = .ok (q.2.1, q.2.2))) = true := by
  rw [ab_c154]; simp only [List.all_append, ab_d154_0, Bool.and_self]
theorem ab_d155_0 : (ab_c155_0.all fun q => decide (decode prog_6_method_53_code q.1 = .ok (q.2.1, q.2.2))) = true := by decide +kernel
theorem ab_d155_1 : (ab_c155_1.all fun q => decide (decode prog_6_method_53_code q.1 = .ok (q.2.1, q.2.2))) = true := by decide +kernel
theorem ab_d155 : (ab_c155.all fun q => decide (decode prog_6_method_53_code q.1 = .ok (q.2.1, q.2.2))) = true := by
  rw [ab_c155]; simp only [List.all_append, ab_d155_0, ab_d155_1, Bool.and_self]
theorem ab_d156_0 : (ab_c156_0.all fun q => decide (decode prog_6_method_54_code q.1 = .ok (q.2.1, q.2.2))) = true := by decide +kernel
theorem ab_d156_1 : (ab_c156_1.all fun q => decide (decode prog_6_method_54_code q.1 = .ok (q.2.1, q.2.2))) = true := by decide +kernel
theorem ab_d156 : (ab_c156.all fun q => decide (decode prog_6_method_54_code q.1 = .ok (q.2.1, q.2.2))) = true := by
  rw [ab_c156]; simp only [List.all_append, ab_d156_0, ab_d156_1, Bool.and_self]
theorem ab_d157_0 : (ab_c157_0.all fun q => decide (decode prog_6_method_55_code q.1 = .ok (q.2.1, q.2.2))) = true := by decide +kernel
theorem ab_d157_1 : (ab_c157_1.all fun q => decide (decode prog_6_method_55_code q.1 = .ok (q.2.1, q.2.2))) = true := by decide +kernel
theorem ab_d157_2 : (ab_c157_2.all fun q => decide (decode prog_6_method_55_code q.1 = .ok (q.2.1, q.2.2))) = true := by decide +kernel
theorem ab_d157 : (ab_c157.all fun q => decide (decode prog_6_method_55_code q.1 = .ok (q.2.1, q.2.2))) = true := by
  rw [ab_c157]; simp only [List.all_append, ab_d157_0, ab_d157_1, ab_d157_2, Bool.and_self]
theorem ab_d158_0 : (ab_c158_0.all fun q => decide (decode prog_6_method_56_code q.1 = .ok (q.2.1, q.2.2))) = true := by decide +kernel
theorem ab_d158 : (ab_c158.all fun q => decide (decode prog_6_method_56_code q.1 = .ok (q.2.1, q.2.2))) = true := by
  rw [ab_c158]; simp only [List.all_append, ab_d158_0, Bool.and_self]
theorem ab_d159_0 : (ab_c159_0.all fun q => decide (decode prog_6_method_61_code q.1 = .ok (q.2.1, q.2.2))) = true := by decide +kernel
theorem ab_d159_1 : (ab_c159_1.all fun q => decide (decode prog_6_method_61_code q.1 = .ok (q.2.1, q.2.2))) = true := by decide +kernel
theorem ab_d159 : (ab_c159.all fun q => decide (decode prog_6_method_61_code q.1 = .ok (q.2.1, q.2.2))) = true := by
  rw [ab_c159]; simp only [List.all_append, ab_d159_0, ab_d159_1, Bool.and_self]
theorem ab_d160_0 : (ab_c160_0.all fun q => decide (decode prog_6_method_60_code q.1 = .ok (q.2.1, q.2.2))) = true := by decide +kernel
theorem ab_d160 : (ab_c160.all fun q => decide (decode prog_6_method_60_code q.1 = .ok (q.2.1, q.2.2))) = true := by
  rw [ab_c160]; simp only [List.all_append, ab_d160_0, Bool.and_self]
theorem ab_d161_0 : (ab_c161_0.all fun q => decide (decode prog_6_method_57_code q.1 = .ok (q.2.1, q.2.2))) = true := by decide +kernel
theorem ab_d161 : (ab_c161.all fun q => decide (decode prog_6_method_57_code q.1 = .ok (q.2.1, q.2.2))) = true := by
  rw [ab_c161]; simp only [List.all_append, ab_d161_0, Bool.and_self]
theorem ab_d162_0 : (ab_c162_0.all fun q => decide (decode prog_6_method_58_code q.1 = .ok (q.2.1, q.2.2))) = true := by decide +kernel
theorem ab_d162_1 : (ab_c162_1.all fun q => decide (decode prog_6_method_58_code q.1 = .ok (q.2.1, q.2.2))) = true := by decide +kernel
theorem ab_d162_2 : (ab_c162_2.all fun q => decide (decode prog_6_method_58_code q.1 = .ok (q.2.1, q.2.2))) = true := by decide +kernel
theorem ab_d162 : (ab_c162.all fun q => decide (decode prog_6_method_58_code q.1 = .ok (q.2.1, q.2.2))) = true := by
  rw [ab_c162]; simp only [List.all_append, ab_d162_0, ab_d162_1, ab_d162_2, Bool.and_self]
theorem ab_d163_0 : (ab_c163_0.all fun q => decide (decode prog_6_method_59_code q.1 = .ok (q.2.1, q.2.2))) = true := by decide +kernel
theorem ab_d163 : (ab_c163.all fun q => decide (decode prog_6_method_59_code q.1 = .ok (q.2.1, q.2.2))) = true := by
  rw [ab_c163]; simp only [List.all_append, ab_d163_0, Bool.and_self]
theorem ab_d164_0 : (ab_c164_0.all fun q => decide (decode prog_6_method_62_code q.1 = .ok (q.2.1, q.2.2))) = true := by decide +kernel
theorem ab_d164_1 : (ab_c164_1.all fun q => decide (decode prog_6_method_62_code q.1 = .ok (q.2.1, q.2.2))) = true := by decide +kernel
theorem ab_d164 : (ab_c164.all fun q => decide (decode prog_6_method_62_code q.1 = .ok (q.2.1, q.2.2))) = true := by
  rw [ab_c164]; simp only [List.all_append, ab_d164_0, ab_d164_1, Bool.and_self]
theorem ab_d165_0 : (ab_c165_0.all fun q => decide (decode prog_6_method_63_code q.1 = .ok (q.2.1, q.2.2))) = true := by decide +kernel
theorem ab_d165 : (ab_c165.all fun q => decide (decode prog_6_method_63_code q.1 = .ok (q.2.1, q.2.2))) = true := by
  rw [ab_c165]; simp only [List.all_append, ab_d165_0, Bool.and_self]
theorem ab_d166_0 : (ab_c166_0.all fun q => decide (decode prog_6_method_65_code q.1 = .ok (q.2.1, q.2.2))) = true := by decide +kernel
theorem ab_d166_1 : (ab_c166_1.all fun q => decide (decode prog_6_method_65_code q.1 = .ok (q.2.1, q.2.2))) = true := by decide +kernel
theorem ab_d166 : (ab_c166.all fun q => decide (decode prog_6_method_65_code q.1 = .ok (q.2.1, q.2.2))) = true := by
  rw [ab_c166]; simp only [List.all_append, ab_d166_0, ab_d166_1, Bool.and_self]
theorem ab_d167_0 : (ab_c167_0.all fun q => decide (decode prog_6_method_64_code q.1 = .ok (q.2.1, q.2.2))) = true := by decide +kernel
theorem ab_d167_1 : (ab_c167_1.all fun q => decide (decode prog_6_method_64_code q.1 = .ok (q.2.1, q.2.2))) = true := by decide +kernel
theorem ab_d167_2 : (ab_c167_2.all fun q => decide (decode prog_6_method_64_code q.1 = .ok (q.2.1, q.2.2))) = true := by decide +kernel
theorem ab_d167 : (ab_c167.all fun q => decide (decode prog_6_method_64_code q.1 = .ok (q.2.1, q.2.2))) = true := by
  rw [ab_c167]; simp only [List.all_append, ab_d167_0, ab_d167_1, ab_d167_2, Bool.and_self]
theorem ab_d168_0 : (ab_c168_0.all fun q => decide (decode prog_6_method_68_code q.1 = .ok (q.2.1, q.2.2))) = true := by decide +kernel
theorem ab_d168_1 : (ab_c168_1.all fun q => decide (decode prog_6_method_68_code q.1 = .ok (q.2.1, q.2.2))) = true := by decide +kernel
theorem ab_d168 : (ab_c168.all fun q => decide (decode prog_6_method_68_code q.1 = .ok (q.2.1, q.2.2))) = true := by
  rw [ab_c168]; simp only [List.all_append, ab_d168_0, ab_d168_1, Bool.and_self]
theorem ab_d169_0 : (ab_c169_0.all fun q => decide (decode prog_6_method_66_code q.1 = .ok (q.2.1, q.2.2))) = true := by decide +kernel
theorem ab_d169_1 : (ab_c169_1.all fun q => decide (decode prog_6_method_66_code q.1 = .ok (q.2.1, q.2.2))) = true := by decide +kernel
theorem ab_d169 : (ab_c169.all fun q => decide (decode prog_6_method_66_code q.1 = .ok (q.2.1, q.2.2))) = true := by
  rw [ab_c169]; simp only [List.all_append, ab_d169_0, ab_d169_1, Bool.and_self]
theorem ab_d170_0 : (ab_c170_0.all fun q => decide (decode prog_6_method_67_code q.1 = .ok (q.2.1, q.2.2))) = true := by decide +kernel
theorem ab_d170_1 : (ab_c170_1.all fun q => decide (decode prog_6_method_67_code q.1 = .ok (q.2.1, q.2.2))) = true := by decide +kernel
theorem ab_d170 : (ab_c170.all fun q => decide (decode prog_6_method_67_code q.1 = .ok (q.2.1, q.2.2))) = true := by
  rw [ab_c170]; simp only [List.all_append, ab_d170_0, ab_d170_1, Bool.and_self]
theorem ab_d171_0 : (ab_c171_0.all fun q => decide (decode prog_6_method_69_code q.1 = .ok (q.2.1, q.2.2))) = true := by decide +kernel
theorem ab_d171_1 : (ab_c171_1.all fun q => decide (decode prog_6_method_69_code q.1 = .ok (q.2.1, q.2.2))) = true := by decide +kernel
theorem ab_d171 : (ab_c171.all fun q => decide (decode prog_6_method_69_code q.1 = .ok (q.2.1, q.2.2))) = true := by
  rw [ab_c171]; simp only [List.all_append, ab_d171_0, ab_d171_1, Bool.and_self]
theorem ab_d172_0 : (ab_c172_0.all fun q => decide (decode prog_6_method_70_code q.1 = .ok (q.2.1, q.2.2))) = true := by decide +kernel
theorem ab_d172 : (ab_c172.all fun q => decide (decode prog_6_method_70_code q.1 = .ok (q.2.1, q.2.2))) = true := by
  rw [ab_c172]; simp only [List.all_append, ab_d172_0, Bool.and_self]
theorem ab_d173_0 : (ab_c173_0.all fun q => decide (decode prog_6_method_71_code q.1 = .ok (q.2.1, q.2.2))) = true := by decide +kernel
theorem ab_d173_1 : (ab_c173_1.all fun q => decide (decode prog_6_method_71_code q.1 = .ok (q.2.1, q.2.2))) = true := by decide +kernel
theorem ab_d173_2 : (ab_c173_2.all fun q => decide (decode prog_6_method_71_code q.1 = .ok (q.2.1, q.2.2))) = true := by decide +kernel
theorem ab_d173 : (ab_c173.all fun q => decide (decode prog_6_method_71_code q.1 = .ok (q.2.1, q.2.2))) = true := by
  rw [ab_c173]; simp only [List.all_append, ab_d173_0, ab_d173_1, ab_d173_2, Bool.and_self]
theorem ab_d174_0 : (ab_c174_0.all fun q => decide (decode prog_6_method_74_code q.1 = .ok (q.2.1, q.2.2))) = true := by decide +kernel
theorem ab_d174_1 : (ab_c174_1.all fun q => decide (decode prog_6_method_74_code q.1 = .ok (q.2.1, q.2.2))) = true := by decide +kernel
theorem ab_d174_2 : (ab_c174_2.all fun q => decide (decode prog_6_method_74_code q.1 = .ok (q.2.1, q.2.2))) = true := by decide +kernel
theorem ab_d174 : (ab_c174.all fun q => decide (decode prog_6_method_74_code q.1 = .ok (q.2.1, q.2.2))) = true := by
  rw [ab_c174]; simp only [List.all_append, ab_d174_0, ab_d174_1, ab_d174_2, Bool.and_self]
theorem ab_d175_0 : (ab_c175_0.all fun q => decide (decode prog_6_method_73_code q.1 = .ok (q.2.1, q.2.2))) = true := by decide +kernel
theorem ab_d175 : (ab_c175.all fun q => decide (decode prog_6_method_73_code q.1 = .ok (q.2.1, q.2.2))) = true := by
  rw [ab_c175]; simp only [List.all_append, ab_d175_0, Bool.and_self]
theorem ab_d176_0 : (ab_c176_0.all fun q => decide (decode prog_6_method_72_code q.1 = .ok (q.2.1, q.2.2))) = true := by decide +kernel
theorem ab_d176 : (ab_c176.all fun q => decide (decode prog_6_method_72_code q.1 = .ok (q.2.1, q.2.2))) = true := by
  rw [ab_c176]; simp only [List.all_append, ab_d176_0, Bool.and_self]
theorem ab_d177_0 : (ab_c177_0.all fun q => decide (decode prog_6_method_76_code q.1 = .ok (q.2.1, q.2.2))) = true := by decide +kernel
theorem ab_d177 : (ab_c177.all fun q => decide (decode prog_6_method_76_code q.1 = .ok (q.2.1, q.2.2))) = true := by
  rw [ab_c177]; simp only [List.all_append, ab_d177_0, Bool.and_self]
theorem ab_d178_0 : (ab_c178_0.all fun q => decide (decode prog_6_method_75_code q.1 = .ok (q.2.1, q.2.2))) = true := by decide +kernel
theorem ab_d178 : (ab_c178.all fun q => decide (decode prog_6_method_75_code q.1 = .ok (q.2.1, q.2.2))) = true := by
  rw [ab_c178]; simp only [List.all_append, ab_d178_0, Bool.and_self]
theorem ab_d179_0 : (ab_c179_0.all fun q => decide (decode prog_6_method_77_code q.1 = .ok (q.2.1, q.2.2))) = true := by decide +kernel
theorem ab_d179_1 : (ab_c179_1.all fun q => decide (decode prog_6_method_77_code q.1 = .ok (q.2.1, q.2.2))) = true := by decide +kernel
theorem ab_d179 : (ab_c179.all fun q => decide (decode prog_6_method_77_code q.1 = .ok (q.2.1, q.2.2))) = true := by
  rw [ab_c179]; simp only [List.all_append, ab_d179_0, ab_d179_1, Bool.and_self]
theorem ab_d180_0 : (ab_c180_0.all fun q => decide (decode prog_6_method_78_code q.1 = .ok (q.2.1, q.2.2))) = true := by decide +kernel
theorem ab_d180_1 : (ab_c180_1.all fun q => decide (decode prog_6_method_78_code q.1 = .ok (q.2.1, q.2.2))) = true := by decide +kernel
theorem ab_d180 : (ab_c180.all fun q => decide (decode prog_6_method_78_code q.1 = .ok (q.2.1, q.2.2))) = true := by
  rw [ab_c180]; simp only [List.all_append, ab_d180_0, ab_d180_1, Bool.and_self]
theorem ab_d181_0 : (ab_c181_0.all fun q => decide (decode prog_6_method_79_code q.1 = .ok (q.2.1, q.2.2))) = true := by decide +kernel
theorem ab_d181 : (ab_c181.all fun q => decide (decode prog_6_method_79_code q.1 = .ok (q.2.1, q.2.2))) = true := by
  rw [ab_c181]; simp only [List.all_append, ab_d181_0, Bool.and_self]
theorem ab_d182_0 : (ab_c182_0.all fun q => decide (decode prog_6_method_80_code q.1 = .ok (q.2.1, q.2.2))) = true := by decide +kernel
theorem ab_d182 : (ab_c182.all fun q => decide (decode prog_6_method_80_code q.1 = .ok (q.2.1, q.2.2))) = true := by
  rw [ab_c182]; simp only [List.all_append, ab_d182_0, Bool.and_self]
theorem ab_d183_0 : (ab_c183_0.all fun q => decide (decode prog_6_method_81_code q.1 = .ok (q.2.1, q.2.2))) = true := by decide +kernel
theorem ab_d183 : (ab_c183.all fun q => decide (decode prog_6_method_81_code q.1 = .ok (q.2.1, q.2.2))) = true := by
  rw [ab_c183]; simp only [List.all_append, ab_d183_0, Bool.and_self]
theorem ab_d184_0 : (ab_c184_0.all fun q => decide (decode prog_6_method_85_code q.1 = .ok (q.2.1, q.2.2))) = true := by decide +kernel
theorem ab_d184_1 : (ab_c184_1.all fun q => decide (decode prog_6_method_85_code q.1 = .ok (q.2.1, q.2.2))) = true := by decide +kernel
theorem ab_d184 : (ab_c184.all fun q => decide (decode prog_6_method_85_code q.1 = .ok (q.2.1, q.2.2))) = true := by
  rw [ab_c184]; simp only [List.all_append, ab_d184_0, ab_d184_1, Bool.and_self]
theorem ab_d185_0 : (ab_c185_0.all fun q => decide (decode prog_6_method_84_code q.1 = .ok (q.2.1, q.2.2))) = true := by decide +kernel
theorem ab_d185 : (ab_c185.all fun q => decide (decode prog_6_method_84_code q.1 = .ok (q.2.1, q.2.2))) = true := by
  rw [ab_c185]; simp only [List.all_append, ab_d185_0, Bool.and_self]
theorem ab_d186_0 : (ab_c186_0.all fun q => decide (decode prog_6_method_83_code q.1 = .ok (q.2.1, q.2.2))) = true := by decide +kernel
theorem ab_d186 : (ab_c186.all fun q => decide (decode prog_6_method_83_code q.1 = .ok (q.2.1, q.2.2))) = true := by
  rw [ab_c186]; simp only [List.all_append, ab_d186_0, Bool.and_self]
theorem ab_d187_0 : (ab_c187_0.all fun q => decide (decode prog_6_method_82_code q.1 = .ok (q.2.1, q.2.2))) = true := by decide +kernel
theorem ab_d187 : (ab_c187.all fun q => decide (decode prog_6_method_82_code q.1 = .ok (q.2.1, q.2.2))) = true := by
  rw [ab_c187]; simp only [List.all_append, ab_d187_0, Bool.and_self]
theorem ab_d188_0 : (ab_c188_0.all fun q => decide (decode prog_6_method_86_code q.1 = .ok (q.2.1, q.2.2))) = true := by decide +kernel
theorem ab_d188 : (ab_c188.all fun q => decide (decode prog_6_method_86_code q.1 = .ok (q.2.1, q.2.2))) = true := by
  rw [ab_c188]; simp only [List.all_append, ab_d188_0, Bool.and_self]
theorem ab_d189_0 : (ab_c189_0.all fun q => decide (decode prog_6_method_87_code q.1 = .ok (q.2.1, q.2.2))) = true := by decide +kernel
theorem ab_d189 : (ab_c189.all fun q => decide (decode prog_6_method_87_code q.1 = .ok (q.2.1, q.2.2))) = true := by
  rw [ab_c189]; simp only [List.all_append, ab_d189_0, Bool.and_self]
theorem ab_d190_0 : (ab_c190_0.all fun q => decide (decode prog_6_method_89_code q.1 = .ok (q.2.1, q.2.2))) = true := by decide +kernel
theorem ab_d190_1 : (ab_c190_1.all fun q => decide (decode prog_6_method_89_code q.1 = .ok (q.2.1, q.2.2))) = true := by decide +kernel
theorem ab_d190_2 : (ab_c190_2.all fun q => decide (decode prog_6_method_89_code q.1 = .ok (q.2.1, q.2.2))) = true := by decide +kernel
theorem ab_d190_3 : (ab_c190_3.all fun q => decide (decode prog_6_method_89_code q.1 = .ok (q.2.1, q.2.2))) = true := by decide +kernel
theorem ab_d190 : (ab_c190.all fun q => decide (decode prog_6_method_89_code q.1 = .ok (q.2.1, q.2.2))) = true := by
  rw [ab_c190]; simp only [List.all_append, ab_d190_0, ab_d190_1, ab_d190_2, ab_d190_3, Bool.and_self]
theorem ab_d191_0 : (ab_c191_0.all fun q => decide (decode prog_6_method_88_code q.1 = .ok (q.2.1, q.2.2))) = true := by decide +kernel
theorem ab_d191 : (ab_c191.all fun q => decide (decode prog_6_method_88_code q.1 = .ok (q.2.1, q.2.2))) = true := by
  rw [ab_c191]; simp only [List.all_append, ab_d191_0, Bool.and_self]
theorem ab_d192_0 : (ab_c192_0.all fun q => decide (decode prog_2_method_17_code q.1 = .ok (q.2.1, q.2.2))) = true := by decide +kernel
theorem ab_d192 : (ab_c192.all fun q => decide (decode prog_2_method_17_code q.1 = .ok (q.2.1, q.2.2))) = true := by
  rw [ab_c192]; simp only [List.all_append, ab_d192_0, Bool.and_self]
theorem ab_d193_0 : (ab_c193_0.all fun q => decide (decode code q.1 = .ok (q.2.1, q.2.2))) = true := by decide +kernel
theorem ab_d193_1 : (ab_c193_1.all fun q => decide (decode code q.1 = .ok (q.2.1, q.2.2))) = true := by decide +kernel
theorem ab_d193_2 : (ab_c193_2.all fun q => decide (decode code q.1 = .ok (q.2.1, q.2.2))) = true := by decide +kernel
theorem ab_d193_3 : (ab_c193_3.all fun q => decide (decode code q.1 = .ok (q.2.1, q.2.2))) = true := by decide +kernel
theorem ab_d193_4 : (ab_c193_4.all fun q => decide (decode code q.1 = .ok (q.2.1, q.2.2))) = true := by decide +kernel
theorem ab_d193_5 : (ab_c193_5.all fun q => decide (decode code q.1 = .ok (q.2.1, q.2.2))) = true := by decide +kernel
theorem ab_d193_6 : (ab_c193_6.all fun q => decide (decode code q.1 = .ok (q.2.1, q.2.2))) = true := by decide +kernel
theorem ab_d193_7 : (ab_c193_7.all fun q => decide (decode code q.1 = .ok (q.2.1, q.2.2))) = true := by decide +kernel
theorem ab_d193_8 : (ab_c193_8.all fun q => decide (decode code q.1 = .ok (q.2.1, q.2.2))) = true := by decide +kernel
theorem ab_d193_9 : (ab_c193_9.all fun q => decide (decode code q.1 = .ok (q.2.1, q.2.2))) = true := by decide +kernel
theorem ab_d193_10 : (ab_c193_10.all fun q => decide (decode code q.1 = .ok (q.2.1, q.2.2))) = true := by decide +kernel
theorem ab_d193_11 : (ab_c193_11.all fun q => decide (decode code q.1 = .ok (q.2.1, q.2.2))) = true := by decide +kernel
theorem ab_d193_12 : (ab_c193_12.all fun q => decide (decode code q.1 = .ok (q.2.1, q.2.2))) = true := by decide +kernel
theorem ab_d193_13 : (ab_c193_13.all fun q => decide (decode code q.1 = .ok (q.2.1, q.2.2))) = true := by decide +kernel
theorem ab_d193_14 : (ab_c193_14.all fun q => decide (decode code q.1 = .ok (q.2.1, q.2.2))) = true := by decide +kernel
theorem ab_d193_15 : (ab_c193_15.all fun q => decide (decode code q.1 = .ok (q.2.1, q.2.2))) = true := by decide +kernel
theorem ab_d193_16 : (ab_c193_16.all fun q => decide (decode code q.1 = .ok (q.2.1, q.2.2))) = true := by decide +kernel
theorem ab_d193_17 : (ab_c193_17.all fun q => decide (decode code q.1 = .ok (q.2.1, q.2.2))) = true := by decide +kernel
theorem ab_d193_18 : (ab_c193_18.all fun q => decide (decode code q.1 = .ok (q.2.1, q.2.2))) = true := by decide +kernel
theorem ab_d193_19 : (ab_c193_19.all fun q => decide (decode code q.1 = .ok (q.2.1, q.2.2))) = true := by decide +kernel
theorem ab_d193_20 : (ab_c193_20.all fun q => decide (decode code q.1 = .ok (q.2.1, q.2.2))) = true := by decide +kernel
theorem ab_d193_21 : (ab_c193_21.all fun q => decide (decode code q.1 = .ok (q.2.1, q.2.2))) = true := by decide +kernel
theorem ab_d193 : (ab_c193.all fun q => decide (decode code q.1 = .ok (q.2.1, q.2.2))) = true := by
  rw [ab_c193]; simp only [List.all_append, ab_d193_0, ab_d193_1, ab_d193_2, ab_d193_3, ab_d193_4, ab_d193_5, ab_d193_6, ab_d193_7, ab_d193_8, ab_d193_9, ab_d193_10, ab_d193_11, ab_d193_12, ab_d193_13, ab_d193_14, ab_d193_15, ab_d193_16, ab_d193_17, ab_d193_18, ab_d193_19, ab_d193_20, ab_d193_21, Bool.and_self]
