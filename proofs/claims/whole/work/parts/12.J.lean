theorem dJ6_bitCount_0f7a4_0 : decode cJ6_bitCount_0f7a4 0 = .ok (.iload_n 0, 1) := by decide +kernel
theorem dJ6_bitCount_0f7a4_1 : decode cJ6_bitCount_0f7a4 1 = .ok (.iload_n 0, 1) := by decide +kernel
theorem dJ6_bitCount_0f7a4_2 : decode cJ6_bitCount_0f7a4 2 = .ok (.iconst 1, 1) := by decide +kernel
theorem dJ6_bitCount_0f7a4_3 : decode cJ6_bitCount_0f7a4 3 = .ok (.iushr, 1) := by decide +kernel
theorem dJ6_bitCount_0f7a4_4 : decode cJ6_bitCount_0f7a4 4 = .ok (.ldc_w 265, 3) := by decide +kernel
theorem dJ6_bitCount_0f7a4_7 : decode cJ6_bitCount_0f7a4 7 = .ok (.iand, 1) := by decide +kernel
theorem dJ6_bitCount_0f7a4_8 : decode cJ6_bitCount_0f7a4 8 = .ok (.isub, 1) := by decide +kernel
theorem dJ6_bitCount_0f7a4_9 : decode cJ6_bitCount_0f7a4 9 = .ok (.istore_n 0, 1) := by decide +kernel
theorem dJ6_bitCount_0f7a4_10 : decode cJ6_bitCount_0f7a4 10 = .ok (.iload_n 0, 1) := by decide +kernel
theorem dJ6_bitCount_0f7a4_11 : decode cJ6_bitCount_0f7a4 11 = .ok (.ldc_w 266, 3) := by decide +kernel
theorem dJ6_bitCount_0f7a4_14 : decode cJ6_bitCount_0f7a4 14 = .ok (.iand, 1) := by decide +kernel
theorem dJ6_bitCount_0f7a4_15 : decode cJ6_bitCount_0f7a4 15 = .ok (.iload_n 0, 1) := by decide +kernel
theorem dJ6_bitCount_0f7a4_16 : decode cJ6_bitCount_0f7a4 16 = .ok (.iconst 2, 1) := by decide +kernel
theorem dJ6_bitCount_0f7a4_17 : decode cJ6_bitCount_0f7a4 17 = .ok (.iushr, 1) := by decide +kernel
theorem dJ6_bitCount_0f7a4_18 : decode cJ6_bitCount_0f7a4 18 = .ok (.ldc_w 266, 3) := by decide +kernel
theorem dJ6_bitCount_0f7a4_21 : decode cJ6_bitCount_0f7a4 21 = .ok (.iand, 1) := by decide +kernel
theorem dJ6_bitCount_0f7a4_22 : decode cJ6_bitCount_0f7a4 22 = .ok (.iadd, 1) := by decide +kernel
theorem dJ6_bitCount_0f7a4_23 : decode cJ6_bitCount_0f7a4 23 = .ok (.istore_n 0, 1) := by decide +kernel
theorem dJ6_bitCount_0f7a4_24 : decode cJ6_bitCount_0f7a4 24 = .ok (.iload_n 0, 1) := by decide +kernel
theorem dJ6_bitCount_0f7a4_25 : decode cJ6_bitCount_0f7a4 25 = .ok (.iload_n 0, 1) := by decide +kernel
theorem dJ6_bitCount_0f7a4_26 : decode cJ6_bitCount_0f7a4 26 = .ok (.iconst 4, 1) := by decide +kernel
theorem dJ6_bitCount_0f7a4_27 : decode cJ6_bitCount_0f7a4 27 = .ok (.iushr, 1) := by decide +kernel
theorem dJ6_bitCount_0f7a4_28 : decode cJ6_bitCount_0f7a4 28 = .ok (.iadd, 1) := by decide +kernel
theorem dJ6_bitCount_0f7a4_29 : decode cJ6_bitCount_0f7a4 29 = .ok (.ldc_w 267, 3) := by decide +kernel
theorem dJ6_bitCount_0f7a4_32 : decode cJ6_bitCount_0f7a4 32 = .ok (.iand, 1) := by decide +kernel
theorem dJ6_bitCount_0f7a4_33 : decode cJ6_bitCount_0f7a4 33 = .ok (.istore_n 0, 1) := by decide +kernel
theorem dJ6_bitCount_0f7a4_34 : decode cJ6_bitCount_0f7a4 34 = .ok (.iload_n 0, 1) := by decide +kernel
theorem dJ6_bitCount_0f7a4_35 : decode cJ6_bitCount_0f7a4 35 = .ok (.iload_n 0, 1) := by decide +kernel
theorem dJ6_bitCount_0f7a4_36 : decode cJ6_bitCount_0f7a4 36 = .ok (.bipush 8, 2) := by decide +kernel
theorem dJ6_bitCount_0f7a4_38 : decode cJ6_bitCount_0f7a4 38 = .ok (.iushr, 1) := by decide +kernel
theorem dJ6_bitCount_0f7a4_39 : decode cJ6_bitCount_0f7a4 39 = .ok (.iadd, 1) := by decide +kernel
theorem dJ6_bitCount_0f7a4_40 : decode cJ6_bitCount_0f7a4 40 = .ok (.istore_n 0, 1) := by decide +kernel
theorem dJ6_bitCount_0f7a4_41 : decode cJ6_bitCount_0f7a4 41 = .ok (.iload_n 0, 1) := by decide +kernel
theorem dJ6_bitCount_0f7a4_42 : decode cJ6_bitCount_0f7a4 42 = .ok (.iload_n 0, 1) := by decide +kernel
theorem dJ6_bitCount_0f7a4_43 : decode cJ6_bitCount_0f7a4 43 = .ok (.bipush 16, 2) := by decide +kernel
theorem dJ6_bitCount_0f7a4_45 : decode cJ6_bitCount_0f7a4 45 = .ok (.iushr, 1) := by decide +kernel
theorem dJ6_bitCount_0f7a4_46 : decode cJ6_bitCount_0f7a4 46 = .ok (.iadd, 1) := by decide +kernel
theorem dJ6_bitCount_0f7a4_47 : decode cJ6_bitCount_0f7a4 47 = .ok (.istore_n 0, 1) := by decide +kernel
theorem dJ6_bitCount_0f7a4_48 : decode cJ6_bitCount_0f7a4 48 = .ok (.iload_n 0, 1) := by decide +kernel
theorem dJ6_bitCount_0f7a4_49 : decode cJ6_bitCount_0f7a4 49 = .ok (.bipush 63, 2) := by decide +kernel
theorem dJ6_bitCount_0f7a4_51 : decode cJ6_bitCount_0f7a4 51 = .ok (.iand, 1) := by decide +kernel
theorem dJ6_bitCount_0f7a4_52 : decode cJ6_bitCount_0f7a4 52 = .ok (.ireturn, 1) := by decide +kernel
def f_J6_bitCount_0f7a4 (w : Nat) (x0 : Int32) (M : mM) : Option (Int32 × mM) := lt (x0 - (((x0.toUInt32 >>> ((1 : Int32).toUInt32 &&& Int32.toUInt32 31)).toInt32) &&& 1431655765)) fun y1 => lt ((y1 &&& 858993459) + (((y1.toUInt32 >>> ((2 : Int32).toUInt32 &&& Int32.toUInt32 31)).toInt32) &&& 858993459)) fun y2 => lt ((y2 + ((y2.toUInt32 >>> ((4 : Int32).toUInt32 &&& Int32.toUInt32 31)).toInt32)) &&& 252645135) fun y3 => lt (y3 + ((y3.toUInt32 >>> ((8 : Int32).toUInt32 &&& Int32.toUInt32 31)).toInt32)) fun y4 => lt (y4 + ((y4.toUInt32 >>> ((16 : Int32).toUInt32 &&& Int32.toUInt32 31)).toInt32)) fun y5 => some ((y5 &&& 63), M)
set_option maxHeartbeats 4000000 in
set_option maxRecDepth 100000 in
theorem s_J6_bitCount_0f7a4 {l : Launch} {G : mG} {sk : List mS} (w : Nat) (x0 : Int32) (M : mM) : Go muJ6_bitCount_0f7a4 (rm 0) 0 0 l G sk (mFin G sk eI) (f_J6_bitCount_0f7a4 w x0 M) 0 [(0, .int x0)] [] M := by
  unfold f_J6_bitCount_0f7a4
  refine go_iload_n 0 1 dJ6_bitCount_0f7a4_0 rfl rfl ?_
  refine go_iload_n 0 2 dJ6_bitCount_0f7a4_1 rfl rfl ?_
  refine go_iconst 1 3 dJ6_bitCount_0f7a4_2 rfl (by decide) ?_
  refine go_iushr 4 dJ6_bitCount_0f7a4_3 rfl ?_
  refine go_ldcw kiJ6_265 7 dJ6_bitCount_0f7a4_4 rfl ?_
  refine go_iand 8 dJ6_bitCount_0f7a4_7 rfl ?_
  refine go_isub 9 dJ6_bitCount_0f7a4_8 rfl ?_
  refine go_nmI (fun y1 => ?_)
  refine go_istore_n [(0, .int y1)] 10 dJ6_bitCount_0f7a4_9 rfl rfl (by decide) rfl ?_
  refine go_iload_n 0 11 dJ6_bitCount_0f7a4_10 rfl rfl ?_
  refine go_ldcw kiJ6_266 14 dJ6_bitCount_0f7a4_11 rfl ?_
  refine go_iand 15 dJ6_bitCount_0f7a4_14 rfl ?_
  refine go_iload_n 0 16 dJ6_bitCount_0f7a4_15 rfl rfl ?_
  refine go_iconst 2 17 dJ6_bitCount_0f7a4_16 rfl (by decide) ?_
  refine go_iushr 18 dJ6_bitCount_0f7a4_17 rfl ?_
  refine go_ldcw kiJ6_266 21 dJ6_bitCount_0f7a4_18 rfl ?_
  refine go_iand 22 dJ6_bitCount_0f7a4_21 rfl ?_
  refine go_iadd 23 dJ6_bitCount_0f7a4_22 rfl ?_
  refine go_nmI (fun y2 => ?_)
  refine go_istore_n [(0, .int y2)] 24 dJ6_bitCount_0f7a4_23 rfl rfl (by decide) rfl ?_
  refine go_iload_n 0 25 dJ6_bitCount_0f7a4_24 rfl rfl ?_
  refine go_iload_n 0 26 dJ6_bitCount_0f7a4_25 rfl rfl ?_
  refine go_iconst 4 27 dJ6_bitCount_0f7a4_26 rfl (by decide) ?_
  refine go_iushr 28 dJ6_bitCount_0f7a4_27 rfl ?_
  refine go_iadd 29 dJ6_bitCount_0f7a4_28 rfl ?_
  refine go_ldcw kiJ6_267 32 dJ6_bitCount_0f7a4_29 rfl ?_
  refine go_iand 33 dJ6_bitCount_0f7a4_32 rfl ?_
  refine go_nmI (fun y3 => ?_)
  refine go_istore_n [(0, .int y3)] 34 dJ6_bitCount_0f7a4_33 rfl rfl (by decide) rfl ?_
  refine go_iload_n 0 35 dJ6_bitCount_0f7a4_34 rfl rfl ?_
  refine go_iload_n 0 36 dJ6_bitCount_0f7a4_35 rfl rfl ?_
  refine go_bipush 8 38 dJ6_bitCount_0f7a4_36 rfl (by decide) ?_
  refine go_iushr 39 dJ6_bitCount_0f7a4_38 rfl ?_
  refine go_iadd 40 dJ6_bitCount_0f7a4_39 rfl ?_
  refine go_nmI (fun y4 => ?_)
  refine go_istore_n [(0, .int y4)] 41 dJ6_bitCount_0f7a4_40 rfl rfl (by decide) rfl ?_
  refine go_iload_n 0 42 dJ6_bitCount_0f7a4_41 rfl rfl ?_
  refine go_iload_n 0 43 dJ6_bitCount_0f7a4_42 rfl rfl ?_
  refine go_bipush 16 45 dJ6_bitCount_0f7a4_43 rfl (by decide) ?_
  refine go_iushr 46 dJ6_bitCount_0f7a4_45 rfl ?_
  refine go_iadd 47 dJ6_bitCount_0f7a4_46 rfl ?_
  refine go_nmI (fun y5 => ?_)
  refine go_istore_n [(0, .int y5)] 48 dJ6_bitCount_0f7a4_47 rfl rfl (by decide) rfl ?_
  refine go_iload_n 0 49 dJ6_bitCount_0f7a4_48 rfl rfl ?_
  refine go_bipush 63 51 dJ6_bitCount_0f7a4_49 rfl (by decide) ?_
  refine go_iand 52 dJ6_bitCount_0f7a4_51 rfl ?_
  exact go_iret rfl dJ6_bitCount_0f7a4_52
theorem m_J6_bitCount_0f7a4 {l : Launch} {G : mG} {sk : List mS} (w : Nat) (x0 : Int32) (M : mM) : Mt l G sk yJ6_bitCount_0f7a4 muJ6_bitCount_0f7a4 0 [.int x0] M eI (f_J6_bitCount_0f7a4 w x0 M) := Mt.of (by decide) rfl (Nat.le_of_ble_eq_true rfl) (s_J6_bitCount_0f7a4 w x0 M)
