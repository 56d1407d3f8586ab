theorem dX6_clear_0 : decode cX6_clear 0 = .ok (.aload_n 0, 1) := by decide +kernel
theorem dX6_clear_1 : decode cX6_clear 1 = .ok (.iconst 0, 1) := by decide +kernel
theorem dX6_clear_2 : decode cX6_clear 2 = .ok (.putfield 44, 3) := by decide +kernel
theorem dX6_clear_5 : decode cX6_clear 5 = .ok (.aload_n 0, 1) := by decide +kernel
theorem dX6_clear_6 : decode cX6_clear 6 = .ok (.iconst 0, 1) := by decide +kernel
theorem dX6_clear_7 : decode cX6_clear 7 = .ok (.putfield 48, 3) := by decide +kernel
theorem dX6_clear_10 : decode cX6_clear 10 = .ok (.aload_n 0, 1) := by decide +kernel
theorem dX6_clear_11 : decode cX6_clear 11 = .ok (.iconst 0, 1) := by decide +kernel
theorem dX6_clear_12 : decode cX6_clear 12 = .ok (.putfield 51, 3) := by decide +kernel
theorem dX6_clear_15 : decode cX6_clear 15 = .ok (.aload_n 0, 1) := by decide +kernel
theorem dX6_clear_16 : decode cX6_clear 16 = .ok (.iconst 0, 1) := by decide +kernel
theorem dX6_clear_17 : decode cX6_clear 17 = .ok (.putfield 54, 3) := by decide +kernel
theorem dX6_clear_20 : decode cX6_clear 20 = .ok (.aload_n 0, 1) := by decide +kernel
theorem dX6_clear_21 : decode cX6_clear 21 = .ok (.getfield 40, 3) := by decide +kernel
theorem dX6_clear_24 : decode cX6_clear 24 = .ok (.iconst 0, 1) := by decide +kernel
theorem dX6_clear_25 : decode cX6_clear 25 = .ok (.putfield 57, 3) := by decide +kernel
theorem dX6_clear_28 : decode cX6_clear 28 = .ok (.return_, 1) := by decide +kernel
def f_X6_clear (w : Nat) (o0 : Nat) (M : mM) : Option mM := lt (wI M o0 0 0) fun M1 => lt (wI M1 o0 1 0) fun M2 => lt (wI M2 o0 2 0) fun M3 => lt (wI M3 o0 3 0) fun M4 => lt (wI M4 (rF o0 12) 2 0) fun M5 => some M5
set_option maxHeartbeats 4000000 in
set_option maxRecDepth 100000 in
theorem s_X6_clear {l : Launch} {G : mG} {sk : List mS} (w : Nat) (o0 : Nat) (h0 : isK o0 16) (M : mM) : Go muX6_clear (rm 0) 0 0 l G sk (mFin G sk eV) (f_X6_clear w o0 M) 0 [(0, .ref (gB G + o0))] [] M := by
  unfold f_X6_clear
  refine go_aload_n 0 1 dX6_clear_0 rfl rfl ?_
  refine go_iconst 0 2 dX6_clear_1 rfl (by decide) ?_
  refine go_putI flX6_44 rfl rfl h0 5 dX6_clear_2 rfl ?_
  refine go_nmM (fun M1 => ?_)
  refine go_aload_n 0 6 dX6_clear_5 rfl rfl ?_
  refine go_iconst 0 7 dX6_clear_6 rfl (by decide) ?_
  refine go_putI flX6_48 rfl rfl h0 10 dX6_clear_7 rfl ?_
  refine go_nmM (fun M2 => ?_)
  refine go_aload_n 0 11 dX6_clear_10 rfl rfl ?_
  refine go_iconst 0 12 dX6_clear_11 rfl (by decide) ?_
  refine go_putI flX6_51 rfl rfl h0 15 dX6_clear_12 rfl ?_
  refine go_nmM (fun M3 => ?_)
  refine go_aload_n 0 16 dX6_clear_15 rfl rfl ?_
  refine go_iconst 0 17 dX6_clear_16 rfl (by decide) ?_
  refine go_putI flX6_54 rfl rfl h0 20 dX6_clear_17 rfl ?_
  refine go_nmM (fun M4 => ?_)
  refine go_aload_n 0 21 dX6_clear_20 rfl rfl ?_
  refine go_getR flX6_40 h0 24 dX6_clear_21 rfl ?_
  refine go_iconst 0 25 dX6_clear_24 rfl (by decide) ?_
  refine go_putI flX6_57 rfl rfl (rk6_12 h0) 28 dX6_clear_25 rfl ?_
  refine go_nmM (fun M5 => ?_)
  exact go_vret rfl dX6_clear_28
theorem m_X6_clear {l : Launch} {G : mG} {sk : List mS} (w : Nat) (o0 : Nat) (h0 : isK o0 16) (M : mM) : Mt l G sk yX6_clear muX6_clear 0 [.ref (gB G + o0)] M eV (f_X6_clear w o0 M) := Mt.of (by decide) rfl (Nat.le_of_ble_eq_true rfl) (s_X6_clear w o0 h0 M)
theorem dX6_copyFrom_0 : decode cX6_copyFrom 0 = .ok (.aload_n 0, 1) := by decide +kernel
theorem dX6_copyFrom_1 : decode cX6_copyFrom 1 = .ok (.aload_n 1, 1) := by decide +kernel
theorem dX6_copyFrom_2 : decode cX6_copyFrom 2 = .ok (.getfield 44, 3) := by decide +kernel
theorem dX6_copyFrom_5 : decode cX6_copyFrom 5 = .ok (.putfield 44, 3) := by decide +kernel
theorem dX6_copyFrom_8 : decode cX6_copyFrom 8 = .ok (.aload_n 0, 1) := by decide +kernel
theorem dX6_copyFrom_9 : decode cX6_copyFrom 9 = .ok (.aload_n 1, 1) := by decide +kernel
theorem dX6_copyFrom_10 : decode cX6_copyFrom 10 = .ok (.getfield 48, 3) := by decide +kernel
theorem dX6_copyFrom_13 : decode cX6_copyFrom 13 = .ok (.putfield 48, 3) := by decide +kernel
theorem dX6_copyFrom_16 : decode cX6_copyFrom 16 = .ok (.aload_n 0, 1) := by decide +kernel
theorem dX6_copyFrom_17 : decode cX6_copyFrom 17 = .ok (.aload_n 1, 1) := by decide +kernel
theorem dX6_copyFrom_18 : decode cX6_copyFrom 18 = .ok (.getfield 51, 3) := by decide +kernel
theorem dX6_copyFrom_21 : decode cX6_copyFrom 21 = .ok (.putfield 51, 3) := by decide +kernel
theorem dX6_copyFrom_24 : decode cX6_copyFrom 24 = .ok (.aload_n 0, 1) := by decide +kernel
theorem dX6_copyFrom_25 : decode cX6_copyFrom 25 = .ok (.aload_n 1, 1) := by decide +kernel
theorem dX6_copyFrom_26 : decode cX6_copyFrom 26 = .ok (.getfield 54, 3) := by decide +kernel
theorem dX6_copyFrom_29 : decode cX6_copyFrom 29 = .ok (.putfield 54, 3) := by decide +kernel
theorem dX6_copyFrom_32 : decode cX6_copyFrom 32 = .ok (.aload_n 1, 1) := by decide +kernel
theorem dX6_copyFrom_33 : decode cX6_copyFrom 33 = .ok (.getfield 15, 3) := by decide +kernel
theorem dX6_copyFrom_36 : decode cX6_copyFrom 36 = .ok (.iconst 0, 1) := by decide +kernel
theorem dX6_copyFrom_37 : decode cX6_copyFrom 37 = .ok (.aload_n 0, 1) := by decide +kernel
theorem dX6_copyFrom_38 : decode cX6_copyFrom 38 = .ok (.getfield 15, 3) := by decide +kernel
theorem dX6_copyFrom_41 : decode cX6_copyFrom 41 = .ok (.iconst 0, 1) := by decide +kernel
theorem dX6_copyFrom_42 : decode cX6_copyFrom 42 = .ok (.iconst 5, 1) := by decide +kernel
theorem dX6_copyFrom_43 : decode cX6_copyFrom 43 = .ok (.invokestatic 60, 3) := by decide +kernel
theorem dX6_copyFrom_46 : decode cX6_copyFrom 46 = .ok (.aload_n 1, 1) := by decide +kernel
theorem dX6_copyFrom_47 : decode cX6_copyFrom 47 = .ok (.getfield 18, 3) := by decide +kernel
theorem dX6_copyFrom_50 : decode cX6_copyFrom 50 = .ok (.iconst 0, 1) := by decide +kernel
theorem dX6_copyFrom_51 : decode cX6_copyFrom 51 = .ok (.aload_n 0, 1) := by decide +kernel
theorem dX6_copyFrom_52 : decode cX6_copyFrom 52 = .ok (.getfield 18, 3) := by decide +kernel
theorem dX6_copyFrom_55 : decode cX6_copyFrom 55 = .ok (.iconst 0, 1) := by decide +kernel
theorem dX6_copyFrom_56 : decode cX6_copyFrom 56 = .ok (.iconst 5, 1) := by decide +kernel
theorem dX6_copyFrom_57 : decode cX6_copyFrom 57 = .ok (.invokestatic 60, 3) := by decide +kernel
theorem dX6_copyFrom_60 : decode cX6_copyFrom 60 = .ok (.aload_n 1, 1) := by decide +kernel
theorem dX6_copyFrom_61 : decode cX6_copyFrom 61 = .ok (.getfield 22, 3) := by decide +kernel
theorem dX6_copyFrom_64 : decode cX6_copyFrom 64 = .ok (.iconst 0, 1) := by decide +kernel
theorem dX6_copyFrom_65 : decode cX6_copyFrom 65 = .ok (.aload_n 0, 1) := by decide +kernel
theorem dX6_copyFrom_66 : decode cX6_copyFrom 66 = .ok (.getfield 22, 3) := by decide +kernel
theorem dX6_copyFrom_69 : decode cX6_copyFrom 69 = .ok (.iconst 0, 1) := by decide +kernel
theorem dX6_copyFrom_70 : decode cX6_copyFrom 70 = .ok (.bipush 8, 2) := by decide +kernel
theorem dX6_copyFrom_72 : decode cX6_copyFrom 72 = .ok (.invokestatic 60, 3) := by decide +kernel
theorem dX6_copyFrom_75 : decode cX6_copyFrom 75 = .ok (.aload_n 1, 1) := by decide +kernel
theorem dX6_copyFrom_76 : decode cX6_copyFrom 76 = .ok (.getfield 25, 3) := by decide +kernel
theorem dX6_copyFrom_79 : decode cX6_copyFrom 79 = .ok (.iconst 0, 1) := by decide +kernel
theorem dX6_copyFrom_80 : decode cX6_copyFrom 80 = .ok (.aload_n 0, 1) := by decide +kernel
theorem dX6_copyFrom_81 : decode cX6_copyFrom 81 = .ok (.getfield 25, 3) := by decide +kernel
theorem dX6_copyFrom_84 : decode cX6_copyFrom 84 = .ok (.iconst 0, 1) := by decide +kernel
theorem dX6_copyFrom_85 : decode cX6_copyFrom 85 = .ok (.bipush 8, 2) := by decide +kernel
theorem dX6_copyFrom_87 : decode cX6_copyFrom 87 = .ok (.invokestatic 60, 3) := by decide +kernel
theorem dX6_copyFrom_90 : decode cX6_copyFrom 90 = .ok (.aload_n 1, 1) := by decide +kernel
theorem dX6_copyFrom_91 : decode cX6_copyFrom 91 = .ok (.getfield 28, 3) := by decide +kernel
theorem dX6_copyFrom_94 : decode cX6_copyFrom 94 = .ok (.iconst 0, 1) := by decide +kernel
theorem dX6_copyFrom_95 : decode cX6_copyFrom 95 = .ok (.aload_n 0, 1) := by decide +kernel
theorem dX6_copyFrom_96 : decode cX6_copyFrom 96 = .ok (.getfield 28, 3) := by decide +kernel
theorem dX6_copyFrom_99 : decode cX6_copyFrom 99 = .ok (.iconst 0, 1) := by decide +kernel
theorem dX6_copyFrom_100 : decode cX6_copyFrom 100 = .ok (.bipush 8, 2) := by decide +kernel
theorem dX6_copyFrom_102 : decode cX6_copyFrom 102 = .ok (.invokestatic 60, 3) := by decide +kernel
theorem dX6_copyFrom_105 : decode cX6_copyFrom 105 = .ok (.aload_n 1, 1) := by decide +kernel
theorem dX6_copyFrom_106 : decode cX6_copyFrom 106 = .ok (.getfield 31, 3) := by decide +kernel
theorem dX6_copyFrom_109 : decode cX6_copyFrom 109 = .ok (.iconst 0, 1) := by decide +kernel
theorem dX6_copyFrom_110 : decode cX6_copyFrom 110 = .ok (.aload_n 0, 1) := by decide +kernel
theorem dX6_copyFrom_111 : decode cX6_copyFrom 111 = .ok (.getfield 31, 3) := by decide +kernel
theorem dX6_copyFrom_114 : decode cX6_copyFrom 114 = .ok (.iconst 0, 1) := by decide +kernel
theorem dX6_copyFrom_115 : decode cX6_copyFrom 115 = .ok (.bipush 8, 2) := by decide +kernel
theorem dX6_copyFrom_117 : decode cX6_copyFrom 117 = .ok (.invokestatic 60, 3) := by decide +kernel
theorem dX6_copyFrom_120 : decode cX6_copyFrom 120 = .ok (.aload_n 1, 1) := by decide +kernel
theorem dX6_copyFrom_121 : decode cX6_copyFrom 121 = .ok (.getfield 34, 3) := by decide +kernel
theorem dX6_copyFrom_124 : decode cX6_copyFrom 124 = .ok (.iconst 0, 1) := by decide +kernel
theorem dX6_copyFrom_125 : decode cX6_copyFrom 125 = .ok (.aload_n 0, 1) := by decide +kernel
theorem dX6_copyFrom_126 : decode cX6_copyFrom 126 = .ok (.getfield 34, 3) := by decide +kernel
theorem dX6_copyFrom_129 : decode cX6_copyFrom 129 = .ok (.iconst 0, 1) := by decide +kernel
theorem dX6_copyFrom_130 : decode cX6_copyFrom 130 = .ok (.bipush 12, 2) := by decide +kernel
theorem dX6_copyFrom_132 : decode cX6_copyFrom 132 = .ok (.invokestatic 60, 3) := by decide +kernel
theorem dX6_copyFrom_135 : decode cX6_copyFrom 135 = .ok (.aload_n 0, 1) := by decide +kernel
theorem dX6_copyFrom_136 : decode cX6_copyFrom 136 = .ok (.getfield 40, 3) := by decide +kernel
theorem dX6_copyFrom_139 : decode cX6_copyFrom 139 = .ok (.aload_n 1, 1) := by decide +kernel
theorem dX6_copyFrom_140 : decode cX6_copyFrom 140 = .ok (.getfield 40, 3) := by decide +kernel
theorem dX6_copyFrom_143 : decode cX6_copyFrom 143 = .ok (.invokevirtual 66, 3) := by decide +kernel
theorem dX6_copyFrom_146 : decode cX6_copyFrom 146 = .ok (.return_, 1) := by decide +kernel
def f_X6_copyFrom (w : Nat) (o0 : Nat) (o1 : Nat) (M : mM) : Option mM := lt (wI M o0 0 (M.1 o1 0)) fun M1 => lt (wI M1 o0 1 (M1.1 o1 1)) fun M2 => lt (wI M2 o0 2 (M2.1 o1 2)) fun M3 => lt (wI M3 o0 3 (M3.1 o1 3)) fun M4 => cpk 0 0 5 (sL (rF o1 5)) (sL (rF o0 5)) (lt (cL M4 (rF o1 5) (0 : Int32).toNatClampNeg (rF o0 5) (0 : Int32).toNatClampNeg (5 : Int32).toNatClampNeg) fun M5 => cpk 0 0 5 (sL (rF o1 6)) (sL (rF o0 6)) (lt (cI M5 (rF o1 6) (0 : Int32).toNatClampNeg (rF o0 6) (0 : Int32).toNatClampNeg (5 : Int32).toNatClampNeg) fun M6 => cpk 0 0 8 (sL (rF o1 7)) (sL (rF o0 7)) (lt (cI M6 (rF o1 7) (0 : Int32).toNatClampNeg (rF o0 7) (0 : Int32).toNatClampNeg (8 : Int32).toNatClampNeg) fun M7 => cpk 0 0 8 (sL (rF o1 8)) (sL (rF o0 8)) (lt (cI M7 (rF o1 8) (0 : Int32).toNatClampNeg (rF o0 8) (0 : Int32).toNatClampNeg (8 : Int32).toNatClampNeg) fun M8 => cpk 0 0 8 (sL (rF o1 9)) (sL (rF o0 9)) (lt (cI M8 (rF o1 9) (0 : Int32).toNatClampNeg (rF o0 9) (0 : Int32).toNatClampNeg (8 : Int32).toNatClampNeg) fun M9 => cpk 0 0 8 (sL (rF o1 10)) (sL (rF o0 10)) (lt (cI M9 (rF o1 10) (0 : Int32).toNatClampNeg (rF o0 10) (0 : Int32).toNatClampNeg (8 : Int32).toNatClampNeg) fun M10 => cpk 0 0 12 (sL (rF o1 11)) (sL (rF o0 11)) (lt (cI M10 (rF o1 11) (0 : Int32).toNatClampNeg (rF o0 11) (0 : Int32).toNatClampNeg (12 : Int32).toNatClampNeg) fun M11 => bV (f_X3_copyFrom w (rF o0 12) (rF o1 12) M11) fun M12 => some M12)))))))
set_option maxHeartbeats 4000000 in
set_option maxRecDepth 100000 in
theorem s_X6_copyFrom {l : Launch} {G : mG} {sk : List mS} (w : Nat) (o0 : Nat) (h0 : isK o0 16) (o1 : Nat) (h1 : isK o1 16) (M : mM) : Go muX6_copyFrom (rm 2) 0 0 l G sk (mFin G sk eV) (f_X6_copyFrom w o0 o1 M) 0 [(0, .ref (gB G + o0)), (1, .ref (gB G + o1))] [] M := by
  unfold f_X6_copyFrom
  refine go_aload_n 0 1 dX6_copyFrom_0 rfl rfl ?_
  refine go_aload_n 1 2 dX6_copyFrom_1 rfl rfl ?_
  refine go_getI flX6_44 (by decide) h1 5 dX6_copyFrom_2 rfl ?_
  refine go_putI flX6_44 rfl rfl h0 8 dX6_copyFrom_5 rfl ?_
  refine go_nmM (fun M1 => ?_)
  refine go_aload_n 0 9 dX6_copyFrom_8 rfl rfl ?_
  refine go_aload_n 1 10 dX6_copyFrom_9 rfl rfl ?_
  refine go_getI flX6_48 (by decide) h1 13 dX6_copyFrom_10 rfl ?_
  refine go_putI flX6_48 rfl rfl h0 16 dX6_copyFrom_13 rfl ?_
  refine go_nmM (fun M2 => ?_)
  refine go_aload_n 0 17 dX6_copyFrom_16 rfl rfl ?_
  refine go_aload_n 1 18 dX6_copyFrom_17 rfl rfl ?_
  refine go_getI flX6_51 (by decide) h1 21 dX6_copyFrom_18 rfl ?_
  refine go_putI flX6_51 rfl rfl h0 24 dX6_copyFrom_21 rfl ?_
  refine go_nmM (fun M3 => ?_)
  refine go_aload_n 0 25 dX6_copyFrom_24 rfl rfl ?_
  refine go_aload_n 1 26 dX6_copyFrom_25 rfl rfl ?_
  refine go_getI flX6_54 (by decide) h1 29 dX6_copyFrom_26 rfl ?_
  refine go_putI flX6_54 rfl rfl h0 32 dX6_copyFrom_29 rfl ?_
  refine go_nmM (fun M4 => ?_)
  refine go_aload_n 1 33 dX6_copyFrom_32 rfl rfl ?_
  refine go_getR flX6_15 h1 36 dX6_copyFrom_33 rfl ?_
  refine go_iconst 0 37 dX6_copyFrom_36 rfl (by decide) ?_
  refine go_aload_n 0 38 dX6_copyFrom_37 rfl rfl ?_
  refine go_getR flX6_15 h0 41 dX6_copyFrom_38 rfl ?_
  refine go_iconst 0 42 dX6_copyFrom_41 rfl (by decide) ?_
  refine go_iconst 5 43 dX6_copyFrom_42 rfl (by decide) ?_
  refine go_copyl acX6_60 (rk6_5 h1) (rk6_5 h0) 46 dX6_copyFrom_43 rfl (Nat.le_of_ble_eq_true rfl) (Nat.le_of_ble_eq_true rfl) ?_
  refine go_nmM (fun M5 => ?_)
  refine go_aload_n 1 47 dX6_copyFrom_46 rfl rfl ?_
  refine go_getR flX6_18 h1 50 dX6_copyFrom_47 rfl ?_
  refine go_iconst 0 51 dX6_copyFrom_50 rfl (by decide) ?_
  refine go_aload_n 0 52 dX6_copyFrom_51 rfl rfl ?_
  refine go_getR flX6_18 h0 55 dX6_copyFrom_52 rfl ?_
  refine go_iconst 0 56 dX6_copyFrom_55 rfl (by decide) ?_
  refine go_iconst 5 57 dX6_copyFrom_56 rfl (by decide) ?_
  refine go_copyi acX6_60 (rk6_6 h1) (rk6_6 h0) 60 dX6_copyFrom_57 rfl (Nat.le_of_ble_eq_true rfl) (Nat.le_of_ble_eq_true rfl) ?_
  refine go_nmM (fun M6 => ?_)
  refine go_aload_n 1 61 dX6_copyFrom_60 rfl rfl ?_
  refine go_getR flX6_22 h1 64 dX6_copyFrom_61 rfl ?_
  refine go_iconst 0 65 dX6_copyFrom_64 rfl (by decide) ?_
  refine go_aload_n 0 66 dX6_copyFrom_65 rfl rfl ?_
  refine go_getR flX6_22 h0 69 dX6_copyFrom_66 rfl ?_
  refine go_iconst 0 70 dX6_copyFrom_69 rfl (by decide) ?_
  refine go_bipush 8 72 dX6_copyFrom_70 rfl (by decide) ?_
  refine go_copyi acX6_60 (rk6_7 h1) (rk6_7 h0) 75 dX6_copyFrom_72 rfl (Nat.le_of_ble_eq_true rfl) (Nat.le_of_ble_eq_true rfl) ?_
  refine go_nmM (fun M7 => ?_)
  refine go_aload_n 1 76 dX6_copyFrom_75 rfl rfl ?_
  refine go_getR flX6_25 h1 79 dX6_copyFrom_76 rfl ?_
  refine go_iconst 0 80 dX6_copyFrom_79 rfl (by decide) ?_
  refine go_aload_n 0 81 dX6_copyFrom_80 rfl rfl ?_
  refine go_getR flX6_25 h0 84 dX6_copyFrom_81 rfl ?_
  refine go_iconst 0 85 dX6_copyFrom_84 rfl (by decide) ?_
  refine go_bipush 8 87 dX6_copyFrom_85 rfl (by decide) ?_
  refine go_copyi acX6_60 (rk6_8 h1) (rk6_8 h0) 90 dX6_copyFrom_87 rfl (Nat.le_of_ble_eq_true rfl) (Nat.le_of_ble_eq_true rfl) ?_
  refine go_nmM (fun M8 => ?_)
  refine go_aload_n 1 91 dX6_copyFrom_90 rfl rfl ?_
  refine go_getR flX6_28 h1 94 dX6_copyFrom_91 rfl ?_
  refine go_iconst 0 95 dX6_copyFrom_94 rfl (by decide) ?_
  refine go_aload_n 0 96 dX6_copyFrom_95 rfl rfl ?_
  refine go_getR flX6_28 h0 99 dX6_copyFrom_96 rfl ?_
  refine go_iconst 0 100 dX6_copyFrom_99 rfl (by decide) ?_
  refine go_bipush 8 102 dX6_copyFrom_100 rfl (by decide) ?_
  refine go_copyi acX6_60 (rk6_9 h1) (rk6_9 h0) 105 dX6_copyFrom_102 rfl (Nat.le_of_ble_eq_true rfl) (Nat.le_of_ble_eq_true rfl) ?_
  refine go_nmM (fun M9 => ?_)
  refine go_aload_n 1 106 dX6_copyFrom_105 rfl rfl ?_
  refine go_getR flX6_31 h1 109 dX6_copyFrom_106 rfl ?_
  refine go_iconst 0 110 dX6_copyFrom_109 rfl (by decide) ?_
  refine go_aload_n 0 111 dX6_copyFrom_110 rfl rfl ?_
  refine go_getR flX6_31 h0 114 dX6_copyFrom_111 rfl ?_
  refine go_iconst 0 115 dX6_copyFrom_114 rfl (by decide) ?_
  refine go_bipush 8 117 dX6_copyFrom_115 rfl (by decide) ?_
  refine go_copyi acX6_60 (rk6_10 h1) (rk6_10 h0) 120 dX6_copyFrom_117 rfl (Nat.le_of_ble_eq_true rfl) (Nat.le_of_ble_eq_true rfl) ?_
  refine go_nmM (fun M10 => ?_)
  refine go_aload_n 1 121 dX6_copyFrom_120 rfl rfl ?_
  refine go_getR flX6_34 h1 124 dX6_copyFrom_121 rfl ?_
  refine go_iconst 0 125 dX6_copyFrom_124 rfl (by decide) ?_
  refine go_aload_n 0 126 dX6_copyFrom_125 rfl rfl ?_
  refine go_getR flX6_34 h0 129 dX6_copyFrom_126 rfl ?_
  refine go_iconst 0 130 dX6_copyFrom_129 rfl (by decide) ?_
  refine go_bipush 12 132 dX6_copyFrom_130 rfl (by decide) ?_
  refine go_copyi acX6_60 (rk6_11 h1) (rk6_11 h0) 135 dX6_copyFrom_132 rfl (Nat.le_of_ble_eq_true rfl) (Nat.le_of_ble_eq_true rfl) ?_
  refine go_nmM (fun M11 => ?_)
  refine go_aload_n 0 136 dX6_copyFrom_135 rfl rfl ?_
  refine go_getR flX6_40 h0 139 dX6_copyFrom_136 rfl ?_
  refine go_aload_n 1 140 dX6_copyFrom_139 rfl rfl ?_
  refine go_getR flX6_40 h1 143 dX6_copyFrom_140 rfl ?_
  refine go_cVV1 1 clX3 cwX6_66 (m_X3_copyFrom w (rF o0 12) (rk6_12 h0) (rF o1 12) (rk6_12 h1) M11) (rk6_12 h0) 146 dX6_copyFrom_143 rfl ⟨Nat.le_of_ble_eq_true rfl, Nat.le_of_ble_eq_true rfl⟩ ⟨Nat.zero_le _, Nat.zero_le _⟩ (Nat.le_of_ble_eq_true rfl) (fun M12 _ => ?_)
  exact go_vret rfl dX6_copyFrom_146
theorem m_X6_copyFrom {l : Launch} {G : mG} {sk : List mS} (w : Nat) (o0 : Nat) (h0 : isK o0 16) (o1 : Nat) (h1 : isK o1 16) (M : mM) : Mt l G sk yX6_copyFrom muX6_copyFrom 2 [.ref (gB G + o0), .ref (gB G + o1)] M eV (f_X6_copyFrom w o0 o1 M) := Mt.of (by decide) rfl (Nat.le_of_ble_eq_true rfl) (s_X6_copyFrom w o0 h0 o1 h1 M)
theorem dX6_addRoom_0 : decode cX6_addRoom 0 = .ok (.aload_n 0, 1) := by decide +kernel
theorem dX6_addRoom_1 : decode cX6_addRoom 1 = .ok (.getfield 44, 3) := by decide +kernel
theorem dX6_addRoom_4 : decode cX6_addRoom 4 = .ok (.bipush 7, 2) := by decide +kernel
theorem dX6_addRoom_6 : decode cX6_addRoom 6 = .ok (.if_icmp .ge 23, 3) := by decide +kernel
theorem dX6_addRoom_9 : decode cX6_addRoom 9 = .ok (.aload_n 0, 1) := by decide +kernel
theorem dX6_addRoom_10 : decode cX6_addRoom 10 = .ok (.getfield 9, 3) := by decide +kernel
theorem dX6_addRoom_13 : decode cX6_addRoom 13 = .ok (.aload_n 0, 1) := by decide +kernel
theorem dX6_addRoom_14 : decode cX6_addRoom 14 = .ok (.getfield 44, 3) := by decide +kernel
theorem dX6_addRoom_17 : decode cX6_addRoom 17 = .ok (.lload_n 1, 1) := by decide +kernel
theorem dX6_addRoom_18 : decode cX6_addRoom 18 = .ok (.lastore, 1) := by decide +kernel
theorem dX6_addRoom_19 : decode cX6_addRoom 19 = .ok (.aload_n 0, 1) := by decide +kernel
theorem dX6_addRoom_20 : decode cX6_addRoom 20 = .ok (.dup, 1) := by decide +kernel
theorem dX6_addRoom_21 : decode cX6_addRoom 21 = .ok (.getfield 44, 3) := by decide +kernel
theorem dX6_addRoom_24 : decode cX6_addRoom 24 = .ok (.iconst 1, 1) := by decide +kernel
theorem dX6_addRoom_25 : decode cX6_addRoom 25 = .ok (.iadd, 1) := by decide +kernel
theorem dX6_addRoom_26 : decode cX6_addRoom 26 = .ok (.putfield 44, 3) := by decide +kernel
theorem dX6_addRoom_29 : decode cX6_addRoom 29 = .ok (.return_, 1) := by decide +kernel
def f_X6_addRoom (w : Nat) (o0 : Nat) (x1 : Int64) (M : mM) : Option mM := (if 7 ≤ (M.1 o0 0) then some M else chk (M.1 o0 0) (sL (rF o0 4)) (lt (wL M (rF o0 4) (M.1 o0 0).toNatClampNeg x1) fun M1 => lt (wI M1 o0 0 ((M1.1 o0 0) + 1)) fun M2 => some M2))
set_option maxHeartbeats 4000000 in
set_option maxRecDepth 100000 in
theorem s_X6_addRoom {l : Launch} {G : mG} {sk : List mS} (w : Nat) (o0 : Nat) (h0 : isK o0 16) (x1 : Int64) (M : mM) : Go muX6_addRoom (rm 0) 0 0 l G sk (mFin G sk eV) (f_X6_addRoom w o0 x1 M) 0 [(0, .ref (gB G + o0)), (1, .long x1)] [] M := by
  unfold f_X6_addRoom
  refine go_aload_n 0 1 dX6_addRoom_0 rfl rfl ?_
  refine go_getI flX6_44 (by decide) h0 4 dX6_addRoom_1 rfl ?_
  refine go_bipush 7 6 dX6_addRoom_4 rfl (by decide) ?_
  refine go_icmp_ge 29 9 dX6_addRoom_6 rfl (by decide) (fun _ => ?_) (fun _ => ?_)
  · exact go_vret rfl dX6_addRoom_29
  · refine go_aload_n 0 10 dX6_addRoom_9 rfl rfl ?_
    refine go_getR flX6_9 h0 13 dX6_addRoom_10 rfl ?_
    refine go_aload_n 0 14 dX6_addRoom_13 rfl rfl ?_
    refine go_getI flX6_44 (by decide) h0 17 dX6_addRoom_14 rfl ?_
    refine go_lload_n 1 18 dX6_addRoom_17 rfl rfl ?_
    refine go_last (rk6_4 h0) 19 dX6_addRoom_18 rfl ?_
    refine go_nmM (fun M1 => ?_)
    refine go_aload_n 0 20 dX6_addRoom_19 rfl rfl ?_
    refine go_dup 21 dX6_addRoom_20 rfl rfl ?_
    refine go_getI flX6_44 (by decide) h0 24 dX6_addRoom_21 rfl ?_
    refine go_iconst 1 25 dX6_addRoom_24 rfl (by decide) ?_
    refine go_iadd 26 dX6_addRoom_25 rfl ?_
    refine go_putI flX6_44 rfl rfl h0 29 dX6_addRoom_26 rfl ?_
    refine go_nmM (fun M2 => ?_)
    exact go_vret rfl dX6_addRoom_29
theorem m_X6_addRoom {l : Launch} {G : mG} {sk : List mS} (w : Nat) (o0 : Nat) (h0 : isK o0 16) (x1 : Int64) (M : mM) : Mt l G sk yX6_addRoom muX6_addRoom 0 [.ref (gB G + o0), .long x1] M eV (f_X6_addRoom w o0 x1 M) := Mt.of (by decide) rfl (Nat.le_of_ble_eq_true rfl) (s_X6_addRoom w o0 h0 x1 M)
theorem dX6_addDoor_0 : decode cX6_addDoor 0 = .ok (.aload_n 0, 1) := by decide +kernel
theorem dX6_addDoor_1 : decode cX6_addDoor 1 = .ok (.getfield 48, 3) := by decide +kernel
theorem dX6_addDoor_4 : decode cX6_addDoor 4 = .ok (.bipush 8, 2) := by decide +kernel
theorem dX6_addDoor_6 : decode cX6_addDoor 6 = .ok (.if_icmp .ge 54, 3) := by decide +kernel
theorem dX6_addDoor_9 : decode cX6_addDoor 9 = .ok (.aload_n 0, 1) := by decide +kernel
theorem dX6_addDoor_10 : decode cX6_addDoor 10 = .ok (.getfield 22, 3) := by decide +kernel
theorem dX6_addDoor_13 : decode cX6_addDoor 13 = .ok (.aload_n 0, 1) := by decide +kernel
theorem dX6_addDoor_14 : decode cX6_addDoor 14 = .ok (.getfield 48, 3) := by decide +kernel
theorem dX6_addDoor_17 : decode cX6_addDoor 17 = .ok (.iload_n 1, 1) := by decide +kernel
theorem dX6_addDoor_18 : decode cX6_addDoor 18 = .ok (.iastore, 1) := by decide +kernel
theorem dX6_addDoor_19 : decode cX6_addDoor 19 = .ok (.aload_n 0, 1) := by decide +kernel
theorem dX6_addDoor_20 : decode cX6_addDoor 20 = .ok (.getfield 25, 3) := by decide +kernel
theorem dX6_addDoor_23 : decode cX6_addDoor 23 = .ok (.aload_n 0, 1) := by decide +kernel
theorem dX6_addDoor_24 : decode cX6_addDoor 24 = .ok (.getfield 48, 3) := by decide +kernel
theorem dX6_addDoor_27 : decode cX6_addDoor 27 = .ok (.iload_n 2, 1) := by decide +kernel
theorem dX6_addDoor_28 : decode cX6_addDoor 28 = .ok (.iastore, 1) := by decide +kernel
theorem dX6_addDoor_29 : decode cX6_addDoor 29 = .ok (.aload_n 0, 1) := by decide +kernel
theorem dX6_addDoor_30 : decode cX6_addDoor 30 = .ok (.getfield 28, 3) := by decide +kernel
theorem dX6_addDoor_33 : decode cX6_addDoor 33 = .ok (.aload_n 0, 1) := by decide +kernel
theorem dX6_addDoor_34 : decode cX6_addDoor 34 = .ok (.getfield 48, 3) := by decide +kernel
theorem dX6_addDoor_37 : decode cX6_addDoor 37 = .ok (.iload_n 3, 1) := by decide +kernel
theorem dX6_addDoor_38 : decode cX6_addDoor 38 = .ok (.iastore, 1) := by decide +kernel
theorem dX6_addDoor_39 : decode cX6_addDoor 39 = .ok (.aload_n 0, 1) := by decide +kernel
theorem dX6_addDoor_40 : decode cX6_addDoor 40 = .ok (.getfield 31, 3) := by decide +kernel
theorem dX6_addDoor_43 : decode cX6_addDoor 43 = .ok (.aload_n 0, 1) := by decide +kernel
theorem dX6_addDoor_44 : decode cX6_addDoor 44 = .ok (.getfield 48, 3) := by decide +kernel
theorem dX6_addDoor_47 : decode cX6_addDoor 47 = .ok (.iload 4, 2) := by decide +kernel
theorem dX6_addDoor_49 : decode cX6_addDoor 49 = .ok (.iastore, 1) := by decide +kernel
theorem dX6_addDoor_50 : decode cX6_addDoor 50 = .ok (.aload_n 0, 1) := by decide +kernel
theorem dX6_addDoor_51 : decode cX6_addDoor 51 = .ok (.dup, 1) := by decide +kernel
theorem dX6_addDoor_52 : decode cX6_addDoor 52 = .ok (.getfield 48, 3) := by decide +kernel
theorem dX6_addDoor_55 : decode cX6_addDoor 55 = .ok (.iconst 1, 1) := by decide +kernel
theorem dX6_addDoor_56 : decode cX6_addDoor 56 = .ok (.iadd, 1) := by decide +kernel
theorem dX6_addDoor_57 : decode cX6_addDoor 57 = .ok (.putfield 48, 3) := by decide +kernel
theorem dX6_addDoor_60 : decode cX6_addDoor 60 = .ok (.return_, 1) := by decide +kernel
def f_X6_addDoor (w : Nat) (o0 : Nat) (x1 : Int32) (x2 : Int32) (x3 : Int32) (x4 : Int32) (M : mM) : Option mM := (if 8 ≤ (M.1 o0 1) then some M else chk (M.1 o0 1) (sL (rF o0 7)) (lt (wI M (rF o0 7) (M.1 o0 1).toNatClampNeg x1) fun M1 => chk (M1.1 o0 1) (sL (rF o0 8)) (lt (wI M1 (rF o0 8) (M1.1 o0 1).toNatClampNeg x2) fun M2 => chk (M2.1 o0 1) (sL (rF o0 9)) (lt (wI M2 (rF o0 9) (M2.1 o0 1).toNatClampNeg x3) fun M3 => chk (M3.1 o0 1) (sL (rF o0 10)) (lt (wI M3 (rF o0 10) (M3.1 o0 1).toNatClampNeg x4) fun M4 => lt (wI M4 o0 1 ((M4.1 o0 1) + 1)) fun M5 => some M5)))))
set_option maxHeartbeats 4000000 in
set_option maxRecDepth 100000 in
theorem s_X6_addDoor {l : Launch} {G : mG} {sk : List mS} (w : Nat) (o0 : Nat) (h0 : isK o0 16) (x1 : Int32) (x2 : Int32) (x3 : Int32) (x4 : Int32) (M : mM) : Go muX6_addDoor (rm 0) 0 0 l G sk (mFin G sk eV) (f_X6_addDoor w o0 x1 x2 x3 x4 M) 0 [(0, .ref (gB G + o0)), (1, .int x1), (2, .int x2), (3, .int x3), (4, .int x4)] [] M := by
  unfold f_X6_addDoor
  refine go_aload_n 0 1 dX6_addDoor_0 rfl rfl ?_
  refine go_getI flX6_48 (by decide) h0 4 dX6_addDoor_1 rfl ?_
  refine go_bipush 8 6 dX6_addDoor_4 rfl (by decide) ?_
  refine go_icmp_ge 60 9 dX6_addDoor_6 rfl (by decide) (fun _ => ?_) (fun _ => ?_)
  · exact go_vret rfl dX6_addDoor_60
  · refine go_aload_n 0 10 dX6_addDoor_9 rfl rfl ?_
    refine go_getR flX6_22 h0 13 dX6_addDoor_10 rfl ?_
    refine go_aload_n 0 14 dX6_addDoor_13 rfl rfl ?_
    refine go_getI flX6_48 (by decide) h0 17 dX6_addDoor_14 rfl ?_
    refine go_iload_n 1 18 dX6_addDoor_17 rfl rfl ?_
    refine go_iast (rk6_7 h0) 19 dX6_addDoor_18 rfl ?_
    refine go_nmM (fun M1 => ?_)
    refine go_aload_n 0 20 dX6_addDoor_19 rfl rfl ?_
    refine go_getR flX6_25 h0 23 dX6_addDoor_20 rfl ?_
    refine go_aload_n 0 24 dX6_addDoor_23 rfl rfl ?_
    refine go_getI flX6_48 (by decide) h0 27 dX6_addDoor_24 rfl ?_
    refine go_iload_n 2 28 dX6_addDoor_27 rfl rfl ?_
    refine go_iast (rk6_8 h0) 29 dX6_addDoor_28 rfl ?_
    refine go_nmM (fun M2 => ?_)
    refine go_aload_n 0 30 dX6_addDoor_29 rfl rfl ?_
    refine go_getR flX6_28 h0 33 dX6_addDoor_30 rfl ?_
    refine go_aload_n 0 34 dX6_addDoor_33 rfl rfl ?_
    refine go_getI flX6_48 (by decide) h0 37 dX6_addDoor_34 rfl ?_
    refine go_iload_n 3 38 dX6_addDoor_37 rfl rfl ?_
    refine go_iast (rk6_9 h0) 39 dX6_addDoor_38 rfl ?_
    refine go_nmM (fun M3 => ?_)
    refine go_aload_n 0 40 dX6_addDoor_39 rfl rfl ?_
    refine go_getR flX6_31 h0 43 dX6_addDoor_40 rfl ?_
    refine go_aload_n 0 44 dX6_addDoor_43 rfl rfl ?_
    refine go_getI flX6_48 (by decide) h0 47 dX6_addDoor_44 rfl ?_
    refine go_iload 4 49 dX6_addDoor_47 rfl rfl ?_
    refine go_iast (rk6_10 h0) 50 dX6_addDoor_49 rfl ?_
    refine go_nmM (fun M4 => ?_)
    refine go_aload_n 0 51 dX6_addDoor_50 rfl rfl ?_
    refine go_dup 52 dX6_addDoor_51 rfl rfl ?_
    refine go_getI flX6_48 (by decide) h0 55 dX6_addDoor_52 rfl ?_
    refine go_iconst 1 56 dX6_addDoor_55 rfl (by decide) ?_
    refine go_iadd 57 dX6_addDoor_56 rfl ?_
    refine go_putI flX6_48 rfl rfl h0 60 dX6_addDoor_57 rfl ?_
    refine go_nmM (fun M5 => ?_)
    exact go_vret rfl dX6_addDoor_60
theorem m_X6_addDoor {l : Launch} {G : mG} {sk : List mS} (w : Nat) (o0 : Nat) (h0 : isK o0 16) (x1 : Int32) (x2 : Int32) (x3 : Int32) (x4 : Int32) (M : mM) : Mt l G sk yX6_addDoor muX6_addDoor 0 [.ref (gB G + o0), .int x1, .int x2, .int x3, .int x4] M eV (f_X6_addDoor w o0 x1 x2 x3 x4 M) := Mt.of (by decide) rfl (Nat.le_of_ble_eq_true rfl) (s_X6_addDoor w o0 h0 x1 x2 x3 x4 M)
theorem dX6_addPerson_0 : decode cX6_addPerson 0 = .ok (.aload_n 0, 1) := by decide +kernel
theorem dX6_addPerson_1 : decode cX6_addPerson 1 = .ok (.getfield 51, 3) := by decide +kernel
theorem dX6_addPerson_4 : decode cX6_addPerson 4 = .ok (.iconst 5, 1) := by decide +kernel
theorem dX6_addPerson_5 : decode cX6_addPerson 5 = .ok (.if_icmp .ge 33, 3) := by decide +kernel
theorem dX6_addPerson_8 : decode cX6_addPerson 8 = .ok (.aload_n 0, 1) := by decide +kernel
theorem dX6_addPerson_9 : decode cX6_addPerson 9 = .ok (.getfield 15, 3) := by decide +kernel
theorem dX6_addPerson_12 : decode cX6_addPerson 12 = .ok (.aload_n 0, 1) := by decide +kernel
theorem dX6_addPerson_13 : decode cX6_addPerson 13 = .ok (.getfield 51, 3) := by decide +kernel
theorem dX6_addPerson_16 : decode cX6_addPerson 16 = .ok (.lload_n 1, 1) := by decide +kernel
theorem dX6_addPerson_17 : decode cX6_addPerson 17 = .ok (.lastore, 1) := by decide +kernel
theorem dX6_addPerson_18 : decode cX6_addPerson 18 = .ok (.aload_n 0, 1) := by decide +kernel
theorem dX6_addPerson_19 : decode cX6_addPerson 19 = .ok (.getfield 18, 3) := by decide +kernel
theorem dX6_addPerson_22 : decode cX6_addPerson 22 = .ok (.aload_n 0, 1) := by decide +kernel
theorem dX6_addPerson_23 : decode cX6_addPerson 23 = .ok (.getfield 51, 3) := by decide +kernel
theorem dX6_addPerson_26 : decode cX6_addPerson 26 = .ok (.iload_n 3, 1) := by decide +kernel
theorem dX6_addPerson_27 : decode cX6_addPerson 27 = .ok (.iastore, 1) := by decide +kernel
theorem dX6_addPerson_28 : decode cX6_addPerson 28 = .ok (.aload_n 0, 1) := by decide +kernel
theorem dX6_addPerson_29 : decode cX6_addPerson 29 = .ok (.dup, 1) := by decide +kernel
theorem dX6_addPerson_30 : decode cX6_addPerson 30 = .ok (.getfield 51, 3) := by decide +kernel
theorem dX6_addPerson_33 : decode cX6_addPerson 33 = .ok (.iconst 1, 1) := by decide +kernel
theorem dX6_addPerson_34 : decode cX6_addPerson 34 = .ok (.iadd, 1) := by decide +kernel
theorem dX6_addPerson_35 : decode cX6_addPerson 35 = .ok (.putfield 51, 3) := by decide +kernel
theorem dX6_addPerson_38 : decode cX6_addPerson 38 = .ok (.return_, 1) := by decide +kernel
def f_X6_addPerson (w : Nat) (o0 : Nat) (x1 : Int64) (x3 : Int32) (M : mM) : Option mM := (if 5 ≤ (M.1 o0 2) then some M else chk (M.1 o0 2) (sL (rF o0 5)) (lt (wL M (rF o0 5) (M.1 o0 2).toNatClampNeg x1) fun M1 => chk (M1.1 o0 2) (sL (rF o0 6)) (lt (wI M1 (rF o0 6) (M1.1 o0 2).toNatClampNeg x3) fun M2 => lt (wI M2 o0 2 ((M2.1 o0 2) + 1)) fun M3 => some M3)))
set_option maxHeartbeats 4000000 in
set_option maxRecDepth 100000 in
theorem s_X6_addPerson {l : Launch} {G : mG} {sk : List mS} (w : Nat) (o0 : Nat) (h0 : isK o0 16) (x1 : Int64) (x3 : Int32) (M : mM) : Go muX6_addPerson (rm 0) 0 0 l G sk (mFin G sk eV) (f_X6_addPerson w o0 x1 x3 M) 0 [(0, .ref (gB G + o0)), (1, .long x1), (3, .int x3)] [] M := by
  unfold f_X6_addPerson
  refine go_aload_n 0 1 dX6_addPerson_0 rfl rfl ?_
  refine go_getI flX6_51 (by decide) h0 4 dX6_addPerson_1 rfl ?_
  refine go_iconst 5 5 dX6_addPerson_4 rfl (by decide) ?_
  refine go_icmp_ge 38 8 dX6_addPerson_5 rfl (by decide) (fun _ => ?_) (fun _ => ?_)
  · exact go_vret rfl dX6_addPerson_38
  · refine go_aload_n 0 9 dX6_addPerson_8 rfl rfl ?_
    refine go_getR flX6_15 h0 12 dX6_addPerson_9 rfl ?_
    refine go_aload_n 0 13 dX6_addPerson_12 rfl rfl ?_
    refine go_getI flX6_51 (by decide) h0 16 dX6_addPerson_13 rfl ?_
    refine go_lload_n 1 17 dX6_addPerson_16 rfl rfl ?_
    refine go_last (rk6_5 h0) 18 dX6_addPerson_17 rfl ?_
    refine go_nmM (fun M1 => ?_)
    refine go_aload_n 0 19 dX6_addPerson_18 rfl rfl ?_
    refine go_getR flX6_18 h0 22 dX6_addPerson_19 rfl ?_
    refine go_aload_n 0 23 dX6_addPerson_22 rfl rfl ?_
    refine go_getI flX6_51 (by decide) h0 26 dX6_addPerson_23 rfl ?_
    refine go_iload_n 2 27 dX6_addPerson_26 rfl rfl ?_
    refine go_iast (rk6_6 h0) 28 dX6_addPerson_27 rfl ?_
    refine go_nmM (fun M2 => ?_)
    refine go_aload_n 0 29 dX6_addPerson_28 rfl rfl ?_
    refine go_dup 30 dX6_addPerson_29 rfl rfl ?_
    refine go_getI flX6_51 (by decide) h0 33 dX6_addPerson_30 rfl ?_
    refine go_iconst 1 34 dX6_addPerson_33 rfl (by decide) ?_
    refine go_iadd 35 dX6_addPerson_34 rfl ?_
    refine go_putI flX6_51 rfl rfl h0 38 dX6_addPerson_35 rfl ?_
    refine go_nmM (fun M3 => ?_)
    exact go_vret rfl dX6_addPerson_38
theorem m_X6_addPerson {l : Launch} {G : mG} {sk : List mS} (w : Nat) (o0 : Nat) (h0 : isK o0 16) (x1 : Int64) (x3 : Int32) (M : mM) : Mt l G sk yX6_addPerson muX6_addPerson 0 [.ref (gB G + o0), .long x1, .int x3] M eV (f_X6_addPerson w o0 x1 x3 M) := Mt.of (by decide) rfl (Nat.le_of_ble_eq_true rfl) (s_X6_addPerson w o0 h0 x1 x3 M)
theorem dX6_addDamp_0 : decode cX6_addDamp 0 = .ok (.aload_n 0, 1) := by decide +kernel
theorem dX6_addDamp_1 : decode cX6_addDamp 1 = .ok (.getfield 54, 3) := by decide +kernel
theorem dX6_addDamp_4 : decode cX6_addDamp 4 = .ok (.bipush 12, 2) := by decide +kernel
theorem dX6_addDamp_6 : decode cX6_addDamp 6 = .ok (.if_icmp .ge 23, 3) := by decide +kernel
theorem dX6_addDamp_9 : decode cX6_addDamp 9 = .ok (.aload_n 0, 1) := by decide +kernel
theorem dX6_addDamp_10 : decode cX6_addDamp 10 = .ok (.getfield 34, 3) := by decide +kernel
theorem dX6_addDamp_13 : decode cX6_addDamp 13 = .ok (.aload_n 0, 1) := by decide +kernel
theorem dX6_addDamp_14 : decode cX6_addDamp 14 = .ok (.getfield 54, 3) := by decide +kernel
theorem dX6_addDamp_17 : decode cX6_addDamp 17 = .ok (.iload_n 1, 1) := by decide +kernel
theorem dX6_addDamp_18 : decode cX6_addDamp 18 = .ok (.iastore, 1) := by decide +kernel
theorem dX6_addDamp_19 : decode cX6_addDamp 19 = .ok (.aload_n 0, 1) := by decide +kernel
theorem dX6_addDamp_20 : decode cX6_addDamp 20 = .ok (.dup, 1) := by decide +kernel
theorem dX6_addDamp_21 : decode cX6_addDamp 21 = .ok (.getfield 54, 3) := by decide +kernel
theorem dX6_addDamp_24 : decode cX6_addDamp 24 = .ok (.iconst 1, 1) := by decide +kernel
theorem dX6_addDamp_25 : decode cX6_addDamp 25 = .ok (.iadd, 1) := by decide +kernel
theorem dX6_addDamp_26 : decode cX6_addDamp 26 = .ok (.putfield 54, 3) := by decide +kernel
theorem dX6_addDamp_29 : decode cX6_addDamp 29 = .ok (.return_, 1) := by decide +kernel
def f_X6_addDamp (w : Nat) (o0 : Nat) (x1 : Int32) (M : mM) : Option mM := (if 12 ≤ (M.1 o0 3) then some M else chk (M.1 o0 3) (sL (rF o0 11)) (lt (wI M (rF o0 11) (M.1 o0 3).toNatClampNeg x1) fun M1 => lt (wI M1 o0 3 ((M1.1 o0 3) + 1)) fun M2 => some M2))
set_option maxHeartbeats 4000000 in
set_option maxRecDepth 100000 in
theorem s_X6_addDamp {l : Launch} {G : mG} {sk : List mS} (w : Nat) (o0 : Nat) (h0 : isK o0 16) (x1 : Int32) (M : mM) : Go muX6_addDamp (rm 0) 0 0 l G sk (mFin G sk eV) (f_X6_addDamp w o0 x1 M) 0 [(0, .ref (gB G + o0)), (1, .int x1)] [] M := by
  unfold f_X6_addDamp
  refine go_aload_n 0 1 dX6_addDamp_0 rfl rfl ?_
  refine go_getI flX6_54 (by decide) h0 4 dX6_addDamp_1 rfl ?_
  refine go_bipush 12 6 dX6_addDamp_4 rfl (by decide) ?_
  refine go_icmp_ge 29 9 dX6_addDamp_6 rfl (by decide) (fun _ => ?_) (fun _ => ?_)
  · exact go_vret rfl dX6_addDamp_29
  · refine go_aload_n 0 10 dX6_addDamp_9 rfl rfl ?_
    refine go_getR flX6_34 h0 13 dX6_addDamp_10 rfl ?_
    refine go_aload_n 0 14 dX6_addDamp_13 rfl rfl ?_
    refine go_getI flX6_54 (by decide) h0 17 dX6_addDamp_14 rfl ?_
    refine go_iload_n 1 18 dX6_addDamp_17 rfl rfl ?_
    refine go_iast (rk6_11 h0) 19 dX6_addDamp_18 rfl ?_
    refine go_nmM (fun M1 => ?_)
    refine go_aload_n 0 20 dX6_addDamp_19 rfl rfl ?_
    refine go_dup 21 dX6_addDamp_20 rfl rfl ?_
    refine go_getI flX6_54 (by decide) h0 24 dX6_addDamp_21 rfl ?_
    refine go_iconst 1 25 dX6_addDamp_24 rfl (by decide) ?_
    refine go_iadd 26 dX6_addDamp_25 rfl ?_
    refine go_putI flX6_54 rfl rfl h0 29 dX6_addDamp_26 rfl ?_
    refine go_nmM (fun M2 => ?_)
    exact go_vret rfl dX6_addDamp_29
theorem m_X6_addDamp {l : Launch} {G : mG} {sk : List mS} (w : Nat) (o0 : Nat) (h0 : isK o0 16) (x1 : Int32) (M : mM) : Mt l G sk yX6_addDamp muX6_addDamp 0 [.ref (gB G + o0), .int x1] M eV (f_X6_addDamp w o0 x1 M) := Mt.of (by decide) rfl (Nat.le_of_ble_eq_true rfl) (s_X6_addDamp w o0 h0 x1 M)
theorem dX6_hasRoom_0 : decode cX6_hasRoom 0 = .ok (.iload_n 1, 1) := by decide +kernel
theorem dX6_hasRoom_1 : decode cX6_hasRoom 1 = .ok (.ifCond .lt 15, 3) := by decide +kernel
theorem dX6_hasRoom_4 : decode cX6_hasRoom 4 = .ok (.iload_n 1, 1) := by decide +kernel
theorem dX6_hasRoom_5 : decode cX6_hasRoom 5 = .ok (.aload_n 0, 1) := by decide +kernel
theorem dX6_hasRoom_6 : decode cX6_hasRoom 6 = .ok (.getfield 44, 3) := by decide +kernel
theorem dX6_hasRoom_9 : decode cX6_hasRoom 9 = .ok (.if_icmp .ge 7, 3) := by decide +kernel
theorem dX6_hasRoom_12 : decode cX6_hasRoom 12 = .ok (.iconst 1, 1) := by decide +kernel
theorem dX6_hasRoom_13 : decode cX6_hasRoom 13 = .ok (.goto 4, 3) := by decide +kernel
theorem dX6_hasRoom_16 : decode cX6_hasRoom 16 = .ok (.iconst 0, 1) := by decide +kernel
theorem dX6_hasRoom_17 : decode cX6_hasRoom 17 = .ok (.ireturn, 1) := by decide +kernel
def f_X6_hasRoom (w : Nat) (o0 : Nat) (x1 : Int32) (M : mM) : Option (Int32 × mM) := (if x1 < 0 then rtB 0 M else (if (M.1 o0 0) ≤ x1 then rtB 0 M else rtB 1 M))
set_option maxHeartbeats 4000000 in
set_option maxRecDepth 100000 in
theorem s_X6_hasRoom {l : Launch} {G : mG} {sk : List mS} (w : Nat) (o0 : Nat) (h0 : isK o0 16) (x1 : Int32) (M : mM) : Go muX6_hasRoom (rm 0) 0 0 l G sk (mFin G sk eI) (f_X6_hasRoom w o0 x1 M) 0 [(0, .ref (gB G + o0)), (1, .int x1)] [] M := by
  unfold f_X6_hasRoom
  refine go_iload_n 1 1 dX6_hasRoom_0 rfl rfl ?_
  refine go_if_lt 16 4 dX6_hasRoom_1 rfl (by decide) (fun _ => ?_) (fun _ => ?_)
  · refine go_iconst 0 17 dX6_hasRoom_16 rfl (by decide) ?_
    exact go_zret rfl dX6_hasRoom_17
  · refine go_iload_n 1 5 dX6_hasRoom_4 rfl rfl ?_
    refine go_aload_n 0 6 dX6_hasRoom_5 rfl rfl ?_
    refine go_getI flX6_44 (by decide) h0 9 dX6_hasRoom_6 rfl ?_
    refine go_icmp_ge 16 12 dX6_hasRoom_9 rfl (by decide) (fun _ => ?_) (fun _ => ?_)
    · refine go_iconst 0 17 dX6_hasRoom_16 rfl (by decide) ?_
      exact go_zret rfl dX6_hasRoom_17
    · refine go_iconst 1 13 dX6_hasRoom_12 rfl (by decide) ?_
      refine go_goto 17 dX6_hasRoom_13 (by decide) ?_
      exact go_zret rfl dX6_hasRoom_17
theorem m_X6_hasRoom {l : Launch} {G : mG} {sk : List mS} (w : Nat) (o0 : Nat) (h0 : isK o0 16) (x1 : Int32) (M : mM) : Mt l G sk yX6_hasRoom muX6_hasRoom 0 [.ref (gB G + o0), .int x1] M eI (f_X6_hasRoom w o0 x1 M) := Mt.of (by decide) rfl (Nat.le_of_ble_eq_true rfl) (s_X6_hasRoom w o0 h0 x1 M)
theorem dX6_hasDoor_0 : decode cX6_hasDoor 0 = .ok (.iload_n 1, 1) := by decide +kernel
theorem dX6_hasDoor_1 : decode cX6_hasDoor 1 = .ok (.ifCond .lt 15, 3) := by decide +kernel
theorem dX6_hasDoor_4 : decode cX6_hasDoor 4 = .ok (.iload_n 1, 1) := by decide +kernel
theorem dX6_hasDoor_5 : decode cX6_hasDoor 5 = .ok (.aload_n 0, 1) := by decide +kernel
theorem dX6_hasDoor_6 : decode cX6_hasDoor 6 = .ok (.getfield 48, 3) := by decide +kernel
theorem dX6_hasDoor_9 : decode cX6_hasDoor 9 = .ok (.if_icmp .ge 7, 3) := by decide +kernel
theorem dX6_hasDoor_12 : decode cX6_hasDoor 12 = .ok (.iconst 1, 1) := by decide +kernel
theorem dX6_hasDoor_13 : decode cX6_hasDoor 13 = .ok (.goto 4, 3) := by decide +kernel
theorem dX6_hasDoor_16 : decode cX6_hasDoor 16 = .ok (.iconst 0, 1) := by decide +kernel
theorem dX6_hasDoor_17 : decode cX6_hasDoor 17 = .ok (.ireturn, 1) := by decide +kernel
def f_X6_hasDoor (w : Nat) (o0 : Nat) (x1 : Int32) (M : mM) : Option (Int32 × mM) := (if x1 < 0 then rtB 0 M else (if (M.1 o0 1) ≤ x1 then rtB 0 M else rtB 1 M))
set_option maxHeartbeats 4000000 in
set_option maxRecDepth 100000 in
theorem s_X6_hasDoor {l : Launch} {G : mG} {sk : List mS} (w : Nat) (o0 : Nat) (h0 : isK o0 16) (x1 : Int32) (M : mM) : Go muX6_hasDoor (rm 0) 0 0 l G sk (mFin G sk eI) (f_X6_hasDoor w o0 x1 M) 0 [(0, .ref (gB G + o0)), (1, .int x1)] [] M := by
  unfold f_X6_hasDoor
  refine go_iload_n 1 1 dX6_hasDoor_0 rfl rfl ?_
  refine go_if_lt 16 4 dX6_hasDoor_1 rfl (by decide) (fun _ => ?_) (fun _ => ?_)
  · refine go_iconst 0 17 dX6_hasDoor_16 rfl (by decide) ?_
    exact go_zret rfl dX6_hasDoor_17
  · refine go_iload_n 1 5 dX6_hasDoor_4 rfl rfl ?_
    refine go_aload_n 0 6 dX6_hasDoor_5 rfl rfl ?_
    refine go_getI flX6_48 (by decide) h0 9 dX6_hasDoor_6 rfl ?_
    refine go_icmp_ge 16 12 dX6_hasDoor_9 rfl (by decide) (fun _ => ?_) (fun _ => ?_)
    · refine go_iconst 0 17 dX6_hasDoor_16 rfl (by decide) ?_
      exact go_zret rfl dX6_hasDoor_17
    · refine go_iconst 1 13 dX6_hasDoor_12 rfl (by decide) ?_
      refine go_goto 17 dX6_hasDoor_13 (by decide) ?_
      exact go_zret rfl dX6_hasDoor_17
theorem m_X6_hasDoor {l : Launch} {G : mG} {sk : List mS} (w : Nat) (o0 : Nat) (h0 : isK o0 16) (x1 : Int32) (M : mM) : Mt l G sk yX6_hasDoor muX6_hasDoor 0 [.ref (gB G + o0), .int x1] M eI (f_X6_hasDoor w o0 x1 M) := Mt.of (by decide) rfl (Nat.le_of_ble_eq_true rfl) (s_X6_hasDoor w o0 h0 x1 M)
theorem dX6_hasPerson_0 : decode cX6_hasPerson 0 = .ok (.iload_n 1, 1) := by decide +kernel
theorem dX6_hasPerson_1 : decode cX6_hasPerson 1 = .ok (.ifCond .lt 15, 3) := by decide +kernel
theorem dX6_hasPerson_4 : decode cX6_hasPerson 4 = .ok (.iload_n 1, 1) := by decide +kernel
theorem dX6_hasPerson_5 : decode cX6_hasPerson 5 = .ok (.aload_n 0, 1) := by decide +kernel
theorem dX6_hasPerson_6 : decode cX6_hasPerson 6 = .ok (.getfield 51, 3) := by decide +kernel
theorem dX6_hasPerson_9 : decode cX6_hasPerson 9 = .ok (.if_icmp .ge 7, 3) := by decide +kernel
theorem dX6_hasPerson_12 : decode cX6_hasPerson 12 = .ok (.iconst 1, 1) := by decide +kernel
theorem dX6_hasPerson_13 : decode cX6_hasPerson 13 = .ok (.goto 4, 3) := by decide +kernel
theorem dX6_hasPerson_16 : decode cX6_hasPerson 16 = .ok (.iconst 0, 1) := by decide +kernel
theorem dX6_hasPerson_17 : decode cX6_hasPerson 17 = .ok (.ireturn, 1) := by decide +kernel
def f_X6_hasPerson (w : Nat) (o0 : Nat) (x1 : Int32) (M : mM) : Option (Int32 × mM) := (if x1 < 0 then rtB 0 M else (if (M.1 o0 2) ≤ x1 then rtB 0 M else rtB 1 M))
set_option maxHeartbeats 4000000 in
set_option maxRecDepth 100000 in
theorem s_X6_hasPerson {l : Launch} {G : mG} {sk : List mS} (w : Nat) (o0 : Nat) (h0 : isK o0 16) (x1 : Int32) (M : mM) : Go muX6_hasPerson (rm 0) 0 0 l G sk (mFin G sk eI) (f_X6_hasPerson w o0 x1 M) 0 [(0, .ref (gB G + o0)), (1, .int x1)] [] M := by
  unfold f_X6_hasPerson
  refine go_iload_n 1 1 dX6_hasPerson_0 rfl rfl ?_
  refine go_if_lt 16 4 dX6_hasPerson_1 rfl (by decide) (fun _ => ?_) (fun _ => ?_)
  · refine go_iconst 0 17 dX6_hasPerson_16 rfl (by decide) ?_
    exact go_zret rfl dX6_hasPerson_17
  · refine go_iload_n 1 5 dX6_hasPerson_4 rfl rfl ?_
    refine go_aload_n 0 6 dX6_hasPerson_5 rfl rfl ?_
    refine go_getI flX6_51 (by decide) h0 9 dX6_hasPerson_6 rfl ?_
    refine go_icmp_ge 16 12 dX6_hasPerson_9 rfl (by decide) (fun _ => ?_) (fun _ => ?_)
    · refine go_iconst 0 17 dX6_hasPerson_16 rfl (by decide) ?_
      exact go_zret rfl dX6_hasPerson_17
    · refine go_iconst 1 13 dX6_hasPerson_12 rfl (by decide) ?_
      refine go_goto 17 dX6_hasPerson_13 (by decide) ?_
      exact go_zret rfl dX6_hasPerson_17
theorem m_X6_hasPerson {l : Launch} {G : mG} {sk : List mS} (w : Nat) (o0 : Nat) (h0 : isK o0 16) (x1 : Int32) (M : mM) : Mt l G sk yX6_hasPerson muX6_hasPerson 0 [.ref (gB G + o0), .int x1] M eI (f_X6_hasPerson w o0 x1 M) := Mt.of (by decide) rfl (Nat.le_of_ble_eq_true rfl) (s_X6_hasPerson w o0 h0 x1 M)
theorem dX6_allRooms_0 : decode cX6_allRooms 0 = .ok (.iconst 1, 1) := by decide +kernel
theorem dX6_allRooms_1 : decode cX6_allRooms 1 = .ok (.aload_n 0, 1) := by decide +kernel
theorem dX6_allRooms_2 : decode cX6_allRooms 2 = .ok (.getfield 44, 3) := by decide +kernel
theorem dX6_allRooms_5 : decode cX6_allRooms 5 = .ok (.ishl, 1) := by decide +kernel
theorem dX6_allRooms_6 : decode cX6_allRooms 6 = .ok (.iconst 1, 1) := by decide +kernel
theorem dX6_allRooms_7 : decode cX6_allRooms 7 = .ok (.isub, 1) := by decide +kernel
theorem dX6_allRooms_8 : decode cX6_allRooms 8 = .ok (.ireturn, 1) := by decide +kernel
def f_X6_allRooms (w : Nat) (o0 : Nat) (M : mM) : Option (Int32 × mM) := some ((((1 : Int32) <<< ((M.1 o0 0) &&& 31)) - 1), M)
set_option maxHeartbeats 4000000 in
set_option maxRecDepth 100000 in
theorem s_X6_allRooms {l : Launch} {G : mG} {sk : List mS} (w : Nat) (o0 : Nat) (h0 : isK o0 16) (M : mM) : Go muX6_allRooms (rm 0) 0 0 l G sk (mFin G sk eI) (f_X6_allRooms w o0 M) 0 [(0, .ref (gB G + o0))] [] M := by
  unfold f_X6_allRooms
  refine go_iconst 1 1 dX6_allRooms_0 rfl (by decide) ?_
  refine go_aload_n 0 2 dX6_allRooms_1 rfl rfl ?_
  refine go_getI flX6_44 (by decide) h0 5 dX6_allRooms_2 rfl ?_
  refine go_ishl 6 dX6_allRooms_5 rfl ?_
  refine go_iconst 1 7 dX6_allRooms_6 rfl (by decide) ?_
  refine go_isub 8 dX6_allRooms_7 rfl ?_
  exact go_iret rfl dX6_allRooms_8
theorem m_X6_allRooms {l : Launch} {G : mG} {sk : List mS} (w : Nat) (o0 : Nat) (h0 : isK o0 16) (M : mM) : Mt l G sk yX6_allRooms muX6_allRooms 0 [.ref (gB G + o0)] M eI (f_X6_allRooms w o0 M) := Mt.of (by decide) rfl (Nat.le_of_ble_eq_true rfl) (s_X6_allRooms w o0 h0 M)
theorem dX6_allDoors_0 : decode cX6_allDoors 0 = .ok (.iconst 1, 1) := by decide +kernel
theorem dX6_allDoors_1 : decode cX6_allDoors 1 = .ok (.aload_n 0, 1) := by decide +kernel
theorem dX6_allDoors_2 : decode cX6_allDoors 2 = .ok (.getfield 48, 3) := by decide +kernel
theorem dX6_allDoors_5 : decode cX6_allDoors 5 = .ok (.ishl, 1) := by decide +kernel
theorem dX6_allDoors_6 : decode cX6_allDoors 6 = .ok (.iconst 1, 1) := by decide +kernel
theorem dX6_allDoors_7 : decode cX6_allDoors 7 = .ok (.isub, 1) := by decide +kernel
theorem dX6_allDoors_8 : decode cX6_allDoors 8 = .ok (.ireturn, 1) := by decide +kernel
def f_X6_allDoors (w : Nat) (o0 : Nat) (M : mM) : Option (Int32 × mM) := some ((((1 : Int32) <<< ((M.1 o0 1) &&& 31)) - 1), M)
set_option maxHeartbeats 4000000 in
set_option maxRecDepth 100000 in
theorem s_X6_allDoors {l : Launch} {G : mG} {sk : List mS} (w : Nat) (o0 : Nat) (h0 : isK o0 16) (M : mM) : Go muX6_allDoors (rm 0) 0 0 l G sk (mFin G sk eI) (f_X6_allDoors w o0 M) 0 [(0, .ref (gB G + o0))] [] M := by
  unfold f_X6_allDoors
  refine go_iconst 1 1 dX6_allDoors_0 rfl (by decide) ?_
  refine go_aload_n 0 2 dX6_allDoors_1 rfl rfl ?_
  refine go_getI flX6_48 (by decide) h0 5 dX6_allDoors_2 rfl ?_
  refine go_ishl 6 dX6_allDoors_5 rfl ?_
  refine go_iconst 1 7 dX6_allDoors_6 rfl (by decide) ?_
  refine go_isub 8 dX6_allDoors_7 rfl ?_
  exact go_iret rfl dX6_allDoors_8
theorem m_X6_allDoors {l : Launch} {G : mG} {sk : List mS} (w : Nat) (o0 : Nat) (h0 : isK o0 16) (M : mM) : Mt l G sk yX6_allDoors muX6_allDoors 0 [.ref (gB G + o0)] M eI (f_X6_allDoors w o0 M) := Mt.of (by decide) rfl (Nat.le_of_ble_eq_true rfl) (s_X6_allDoors w o0 h0 M)
theorem dX6_roomNamed_0 : decode cX6_roomNamed 0 = .ok (.iconst 0, 1) := by decide +kernel
theorem dX6_roomNamed_1 : decode cX6_roomNamed 1 = .ok (.istore_n 3, 1) := by decide +kernel
theorem dX6_roomNamed_2 : decode cX6_roomNamed 2 = .ok (.iload_n 3, 1) := by decide +kernel
theorem dX6_roomNamed_3 : decode cX6_roomNamed 3 = .ok (.aload_n 0, 1) := by decide +kernel
theorem dX6_roomNamed_4 : decode cX6_roomNamed 4 = .ok (.getfield 44, 3) := by decide +kernel
theorem dX6_roomNamed_7 : decode cX6_roomNamed 7 = .ok (.if_icmp .ge 22, 3) := by decide +kernel
theorem dX6_roomNamed_10 : decode cX6_roomNamed 10 = .ok (.aload_n 0, 1) := by decide +kernel
theorem dX6_roomNamed_11 : decode cX6_roomNamed 11 = .ok (.getfield 9, 3) := by decide +kernel
theorem dX6_roomNamed_14 : decode cX6_roomNamed 14 = .ok (.iload_n 3, 1) := by decide +kernel
theorem dX6_roomNamed_15 : decode cX6_roomNamed 15 = .ok (.laload, 1) := by decide +kernel
theorem dX6_roomNamed_16 : decode cX6_roomNamed 16 = .ok (.lload_n 1, 1) := by decide +kernel
theorem dX6_roomNamed_17 : decode cX6_roomNamed 17 = .ok (.lcmp, 1) := by decide +kernel
theorem dX6_roomNamed_18 : decode cX6_roomNamed 18 = .ok (.ifCond .ne 5, 3) := by decide +kernel
theorem dX6_roomNamed_21 : decode cX6_roomNamed 21 = .ok (.iload_n 3, 1) := by decide +kernel
theorem dX6_roomNamed_22 : decode cX6_roomNamed 22 = .ok (.ireturn, 1) := by decide +kernel
theorem dX6_roomNamed_23 : decode cX6_roomNamed 23 = .ok (.iinc 3 1, 3) := by decide +kernel
theorem dX6_roomNamed_26 : decode cX6_roomNamed 26 = .ok (.goto (-24), 3) := by decide +kernel
theorem dX6_roomNamed_29 : decode cX6_roomNamed 29 = .ok (.iconst (-1), 1) := by decide +kernel
theorem dX6_roomNamed_30 : decode cX6_roomNamed 30 = .ok (.ireturn, 1) := by decide +kernel
def f_X6_roomNamed_2 (w : Nat) : Nat → Nat → Int64 → Int32 → mM → Option (Int32 × mM)
  | 0, _, _, _, _ => none
  | n + 1, o0, x1, x3, M => (if (M.1 o0 0) ≤ x3 then some ((-1), M) else chk x3 (sL (rF o0 4)) ((if (lg_cmp (M.2 (rF o0 4) x3.toNatClampNeg) x1) = 0 then some (x3, M) else (f_X6_roomNamed_2 w n o0 x1 (x3 + 1) M))))
set_option maxHeartbeats 4000000 in
set_option maxRecDepth 100000 in
theorem s_X6_roomNamed_2 {l : Launch} {G : mG} {sk : List mS} (w : Nat) : ∀ (n : Nat) (o0 : Nat) (h0 : isK o0 16) (x1 : Int64) (x3 : Int32) (M : mM), Go muX6_roomNamed (rm 0) 0 0 l G sk (mFin G sk eI) (f_X6_roomNamed_2 w n o0 x1 x3 M) 2 [(0, .ref (gB G + o0)), (1, .long x1), (3, .int x3)] [] M := by
  intro n
  induction n with
  | zero =>
    intros
    exact go_none
  | succ n ih =>
    intro o0 h0 x1 x3 M
    rw [f_X6_roomNamed_2]
    refine go_iload_n 2 3 dX6_roomNamed_2 rfl rfl ?_
    refine go_aload_n 0 4 dX6_roomNamed_3 rfl rfl ?_
    refine go_getI flX6_44 (by decide) h0 7 dX6_roomNamed_4 rfl ?_
    refine go_icmp_ge 29 10 dX6_roomNamed_7 rfl (by decide) (fun _ => ?_) (fun _ => ?_)
    · refine go_iconst (-1) 30 dX6_roomNamed_29 rfl (by decide) ?_
      exact go_iret rfl dX6_roomNamed_30
    · refine go_aload_n 0 11 dX6_roomNamed_10 rfl rfl ?_
      refine go_getR flX6_9 h0 14 dX6_roomNamed_11 rfl ?_
      refine go_iload_n 2 15 dX6_roomNamed_14 rfl rfl ?_
      refine go_lald (rk6_4 h0) 16 dX6_roomNamed_15 rfl ?_
      refine go_lload_n 1 17 dX6_roomNamed_16 rfl rfl ?_
      refine go_lcmp 18 dX6_roomNamed_17 rfl ?_
      refine go_if_ne 23 21 dX6_roomNamed_18 rfl (by decide) (fun _ => ?_) (fun _ => ?_)
      · refine go_iinc (x3 + 1) 2 [(3, .int (x3 + 1)), (0, .ref (gB G + o0)), (1, .long x1)] 26 dX6_roomNamed_23 rfl rfl rfl (by decide) rfl ?_
        refine go_goto 2 dX6_roomNamed_26 (by decide) ?_
        exact go_lv [1, 2, 0] rfl (ih o0 h0 x1 (x3 + 1) M)
      · refine go_iload_n 2 22 dX6_roomNamed_21 rfl rfl ?_
        exact go_iret rfl dX6_roomNamed_22
def f_X6_roomNamed (w : Nat) (o0 : Nat) (x1 : Int64) (M : mM) : Option (Int32 × mM) := (f_X6_roomNamed_2 w w o0 x1 0 M)
set_option maxHeartbeats 4000000 in
set_option maxRecDepth 100000 in
theorem s_X6_roomNamed {l : Launch} {G : mG} {sk : List mS} (w : Nat) (o0 : Nat) (h0 : isK o0 16) (x1 : Int64) (M : mM) : Go muX6_roomNamed (rm 0) 0 0 l G sk (mFin G sk eI) (f_X6_roomNamed w o0 x1 M) 0 [(0, .ref (gB G + o0)), (1, .long x1)] [] M := by
  unfold f_X6_roomNamed
  refine go_iconst 0 1 dX6_roomNamed_0 rfl (by decide) ?_
  refine go_istore_n [(3, .int 0), (0, .ref (gB G + o0)), (1, .long x1)] 2 dX6_roomNamed_1 rfl rfl (by decide) rfl ?_
  exact go_lv [1, 2, 0] rfl (s_X6_roomNamed_2 w w o0 h0 x1 0 M)
theorem m_X6_roomNamed {l : Launch} {G : mG} {sk : List mS} (w : Nat) (o0 : Nat) (h0 : isK o0 16) (x1 : Int64) (M : mM) : Mt l G sk yX6_roomNamed muX6_roomNamed 0 [.ref (gB G + o0), .long x1] M eI (f_X6_roomNamed w o0 x1 M) := Mt.of (by decide) rfl (Nat.le_of_ble_eq_true rfl) (s_X6_roomNamed w o0 h0 x1 M)
theorem dX6_personNamed_0 : decode cX6_personNamed 0 = .ok (.iconst 0, 1) := by decide +kernel
theorem dX6_personNamed_1 : decode cX6_personNamed 1 = .ok (.istore_n 3, 1) := by decide +kernel
theorem dX6_personNamed_2 : decode cX6_personNamed 2 = .ok (.iload_n 3, 1) := by decide +kernel
theorem dX6_personNamed_3 : decode cX6_personNamed 3 = .ok (.aload_n 0, 1) := by decide +kernel
theorem dX6_personNamed_4 : decode cX6_personNamed 4 = .ok (.getfield 51, 3) := by decide +kernel
theorem dX6_personNamed_7 : decode cX6_personNamed 7 = .ok (.if_icmp .ge 22, 3) := by decide +kernel
theorem dX6_personNamed_10 : decode cX6_personNamed 10 = .ok (.aload_n 0, 1) := by decide +kernel
theorem dX6_personNamed_11 : decode cX6_personNamed 11 = .ok (.getfield 15, 3) := by decide +kernel
theorem dX6_personNamed_14 : decode cX6_personNamed 14 = .ok (.iload_n 3, 1) := by decide +kernel
theorem dX6_personNamed_15 : decode cX6_personNamed 15 = .ok (.laload, 1) := by decide +kernel
theorem dX6_personNamed_16 : decode cX6_personNamed 16 = .ok (.lload_n 1, 1) := by decide +kernel
theorem dX6_personNamed_17 : decode cX6_personNamed 17 = .ok (.lcmp, 1) := by decide +kernel
theorem dX6_personNamed_18 : decode cX6_personNamed 18 = .ok (.ifCond .ne 5, 3) := by decide +kernel
theorem dX6_personNamed_21 : decode cX6_personNamed 21 = .ok (.iload_n 3, 1) := by decide +kernel
theorem dX6_personNamed_22 : decode cX6_personNamed 22 = .ok (.ireturn, 1) := by decide +kernel
theorem dX6_personNamed_23 : decode cX6_personNamed 23 = .ok (.iinc 3 1, 3) := by decide +kernel
theorem dX6_personNamed_26 : decode cX6_personNamed 26 = .ok (.goto (-24), 3) := by decide +kernel
theorem dX6_personNamed_29 : decode cX6_personNamed 29 = .ok (.iconst (-1), 1) := by decide +kernel
theorem dX6_personNamed_30 : decode cX6_personNamed 30 = .ok (.ireturn, 1) := by decide +kernel
def f_X6_personNamed_2 (w : Nat) : Nat → Nat → Int64 → Int32 → mM → Option (Int32 × mM)
  | 0, _, _, _, _ => none
  | n + 1, o0, x1, x3, M => (if (M.1 o0 2) ≤ x3 then some ((-1), M) else chk x3 (sL (rF o0 5)) ((if (lg_cmp (M.2 (rF o0 5) x3.toNatClampNeg) x1) = 0 then some (x3, M) else (f_X6_personNamed_2 w n o0 x1 (x3 + 1) M))))
set_option maxHeartbeats 4000000 in
set_option maxRecDepth 100000 in
theorem s_X6_personNamed_2 {l : Launch} {G : mG} {sk : List mS} (w : Nat) : ∀ (n : Nat) (o0 : Nat) (h0 : isK o0 16) (x1 : Int64) (x3 : Int32) (M : mM), Go muX6_personNamed (rm 0) 0 0 l G sk (mFin G sk eI) (f_X6_personNamed_2 w n o0 x1 x3 M) 2 [(0, .ref (gB G + o0)), (1, .long x1), (3, .int x3)] [] M := by
  intro n
  induction n with
  | zero =>
    intros
    exact go_none
  | succ n ih =>
    intro o0 h0 x1 x3 M
    rw [f_X6_personNamed_2]
    refine go_iload_n 2 3 dX6_personNamed_2 rfl rfl ?_
    refine go_aload_n 0 4 dX6_personNamed_3 rfl rfl ?_
    refine go_getI flX6_51 (by decide) h0 7 dX6_personNamed_4 rfl ?_
    refine go_icmp_ge 29 10 dX6_personNamed_7 rfl (by decide) (fun _ => ?_) (fun _ => ?_)
    · refine go_iconst (-1) 30 dX6_personNamed_29 rfl (by decide) ?_
      exact go_iret rfl dX6_personNamed_30
    · refine go_aload_n 0 11 dX6_personNamed_10 rfl rfl ?_
      refine go_getR flX6_15 h0 14 dX6_personNamed_11 rfl ?_
      refine go_iload_n 2 15 dX6_personNamed_14 rfl rfl ?_
      refine go_lald (rk6_5 h0) 16 dX6_personNamed_15 rfl ?_
      refine go_lload_n 1 17 dX6_personNamed_16 rfl rfl ?_
      refine go_lcmp 18 dX6_personNamed_17 rfl ?_
      refine go_if_ne 23 21 dX6_personNamed_18 rfl (by decide) (fun _ => ?_) (fun _ => ?_)
      · refine go_iinc (x3 + 1) 2 [(3, .int (x3 + 1)), (0, .ref (gB G + o0)), (1, .long x1)] 26 dX6_personNamed_23 rfl rfl rfl (by decide) rfl ?_
        refine go_goto 2 dX6_personNamed_26 (by decide) ?_
        exact go_lv [1, 2, 0] rfl (ih o0 h0 x1 (x3 + 1) M)
      · refine go_iload_n 2 22 dX6_personNamed_21 rfl rfl ?_
        exact go_iret rfl dX6_personNamed_22
def f_X6_personNamed (w : Nat) (o0 : Nat) (x1 : Int64) (M : mM) : Option (Int32 × mM) := (f_X6_personNamed_2 w w o0 x1 0 M)
set_option maxHeartbeats 4000000 in
set_option maxRecDepth 100000 in
theorem s_X6_personNamed {l : Launch} {G : mG} {sk : List mS} (w : Nat) (o0 : Nat) (h0 : isK o0 16) (x1 : Int64) (M : mM) : Go muX6_personNamed (rm 0) 0 0 l G sk (mFin G sk eI) (f_X6_personNamed w o0 x1 M) 0 [(0, .ref (gB G + o0)), (1, .long x1)] [] M := by
  unfold f_X6_personNamed
  refine go_iconst 0 1 dX6_personNamed_0 rfl (by decide) ?_
  refine go_istore_n [(3, .int 0), (0, .ref (gB G + o0)), (1, .long x1)] 2 dX6_personNamed_1 rfl rfl (by decide) rfl ?_
  exact go_lv [1, 2, 0] rfl (s_X6_personNamed_2 w w o0 h0 x1 0 M)
theorem m_X6_personNamed {l : Launch} {G : mG} {sk : List mS} (w : Nat) (o0 : Nat) (h0 : isK o0 16) (x1 : Int64) (M : mM) : Mt l G sk yX6_personNamed muX6_personNamed 0 [.ref (gB G + o0), .long x1] M eI (f_X6_personNamed w o0 x1 M) := Mt.of (by decide) rfl (Nat.le_of_ble_eq_true rfl) (s_X6_personNamed w o0 h0 x1 M)
theorem dX6_roomBehind_0 : decode cX6_roomBehind 0 = .ok (.aload_n 0, 1) := by decide +kernel
theorem dX6_roomBehind_1 : decode cX6_roomBehind 1 = .ok (.getfield 22, 3) := by decide +kernel
theorem dX6_roomBehind_4 : decode cX6_roomBehind 4 = .ok (.iload_n 1, 1) := by decide +kernel
theorem dX6_roomBehind_5 : decode cX6_roomBehind 5 = .ok (.iaload, 1) := by decide +kernel
theorem dX6_roomBehind_6 : decode cX6_roomBehind 6 = .ok (.iload_n 2, 1) := by decide +kernel
theorem dX6_roomBehind_7 : decode cX6_roomBehind 7 = .ok (.if_icmp .ne 10, 3) := by decide +kernel
theorem dX6_roomBehind_10 : decode cX6_roomBehind 10 = .ok (.aload_n 0, 1) := by decide +kernel
theorem dX6_roomBehind_11 : decode cX6_roomBehind 11 = .ok (.getfield 25, 3) := by decide +kernel
theorem dX6_roomBehind_14 : decode cX6_roomBehind 14 = .ok (.iload_n 1, 1) := by decide +kernel
theorem dX6_roomBehind_15 : decode cX6_roomBehind 15 = .ok (.iaload, 1) := by decide +kernel
theorem dX6_roomBehind_16 : decode cX6_roomBehind 16 = .ok (.ireturn, 1) := by decide +kernel
theorem dX6_roomBehind_17 : decode cX6_roomBehind 17 = .ok (.aload_n 0, 1) := by decide +kernel
theorem dX6_roomBehind_18 : decode cX6_roomBehind 18 = .ok (.getfield 25, 3) := by decide +kernel
theorem dX6_roomBehind_21 : decode cX6_roomBehind 21 = .ok (.iload_n 1, 1) := by decide +kernel
theorem dX6_roomBehind_22 : decode cX6_roomBehind 22 = .ok (.iaload, 1) := by decide +kernel
theorem dX6_roomBehind_23 : decode cX6_roomBehind 23 = .ok (.iload_n 2, 1) := by decide +kernel
theorem dX6_roomBehind_24 : decode cX6_roomBehind 24 = .ok (.if_icmp .ne 12, 3) := by decide +kernel
theorem dX6_roomBehind_27 : decode cX6_roomBehind 27 = .ok (.aload_n 0, 1) := by decide +kernel
theorem dX6_roomBehind_28 : decode cX6_roomBehind 28 = .ok (.getfield 22, 3) := by decide +kernel
theorem dX6_roomBehind_31 : decode cX6_roomBehind 31 = .ok (.iload_n 1, 1) := by decide +kernel
theorem dX6_roomBehind_32 : decode cX6_roomBehind 32 = .ok (.iaload, 1) := by decide +kernel
theorem dX6_roomBehind_33 : decode cX6_roomBehind 33 = .ok (.goto 4, 3) := by decide +kernel
theorem dX6_roomBehind_36 : decode cX6_roomBehind 36 = .ok (.iconst (-1), 1) := by decide +kernel
theorem dX6_roomBehind_37 : decode cX6_roomBehind 37 = .ok (.ireturn, 1) := by decide +kernel
def f_X6_roomBehind (w : Nat) (o0 : Nat) (x1 : Int32) (x2 : Int32) (M : mM) : Option (Int32 × mM) := chk x1 (sL (rF o0 7)) ((if (M.1 (rF o0 7) x1.toNatClampNeg) = x2 then chk x1 (sL (rF o0 8)) (some ((M.1 (rF o0 8) x1.toNatClampNeg), M)) else chk x1 (sL (rF o0 8)) ((if (M.1 (rF o0 8) x1.toNatClampNeg) = x2 then chk x1 (sL (rF o0 7)) (some ((M.1 (rF o0 7) x1.toNatClampNeg), M)) else some ((-1), M)))))
set_option maxHeartbeats 4000000 in
set_option maxRecDepth 100000 in
theorem s_X6_roomBehind {l : Launch} {G : mG} {sk : List mS} (w : Nat) (o0 : Nat) (h0 : isK o0 16) (x1 : Int32) (x2 : Int32) (M : mM) : Go muX6_roomBehind (rm 0) 0 0 l G sk (mFin G sk eI) (f_X6_roomBehind w o0 x1 x2 M) 0 [(0, .ref (gB G + o0)), (1, .int x1), (2, .int x2)] [] M := by
  unfold f_X6_roomBehind
  refine go_aload_n 0 1 dX6_roomBehind_0 rfl rfl ?_
  refine go_getR flX6_22 h0 4 dX6_roomBehind_1 rfl ?_
  refine go_iload_n 1 5 dX6_roomBehind_4 rfl rfl ?_
  refine go_iald (rk6_7 h0) 6 dX6_roomBehind_5 rfl ?_
  refine go_iload_n 2 7 dX6_roomBehind_6 rfl rfl ?_
  refine go_icmp_ne 17 10 dX6_roomBehind_7 rfl (by decide) (fun _ => ?_) (fun _ => ?_)
  · refine go_aload_n 0 18 dX6_roomBehind_17 rfl rfl ?_
    refine go_getR flX6_25 h0 21 dX6_roomBehind_18 rfl ?_
    refine go_iload_n 1 22 dX6_roomBehind_21 rfl rfl ?_
    refine go_iald (rk6_8 h0) 23 dX6_roomBehind_22 rfl ?_
    refine go_iload_n 2 24 dX6_roomBehind_23 rfl rfl ?_
    refine go_icmp_ne 36 27 dX6_roomBehind_24 rfl (by decide) (fun _ => ?_) (fun _ => ?_)
    · refine go_iconst (-1) 37 dX6_roomBehind_36 rfl (by decide) ?_
      exact go_iret rfl dX6_roomBehind_37
    · refine go_aload_n 0 28 dX6_roomBehind_27 rfl rfl ?_
      refine go_getR flX6_22 h0 31 dX6_roomBehind_28 rfl ?_
      refine go_iload_n 1 32 dX6_roomBehind_31 rfl rfl ?_
      refine go_iald (rk6_7 h0) 33 dX6_roomBehind_32 rfl ?_
      refine go_goto 37 dX6_roomBehind_33 (by decide) ?_
      exact go_iret rfl dX6_roomBehind_37
  · refine go_aload_n 0 11 dX6_roomBehind_10 rfl rfl ?_
    refine go_getR flX6_25 h0 14 dX6_roomBehind_11 rfl ?_
    refine go_iload_n 1 15 dX6_roomBehind_14 rfl rfl ?_
    refine go_iald (rk6_8 h0) 16 dX6_roomBehind_15 rfl ?_
    exact go_iret rfl dX6_roomBehind_16
theorem m_X6_roomBehind {l : Launch} {G : mG} {sk : List mS} (w : Nat) (o0 : Nat) (h0 : isK o0 16) (x1 : Int32) (x2 : Int32) (M : mM) : Mt l G sk yX6_roomBehind muX6_roomBehind 0 [.ref (gB G + o0), .int x1, .int x2] M eI (f_X6_roomBehind w o0 x1 x2 M) := Mt.of (by decide) rfl (Nat.le_of_ble_eq_true rfl) (s_X6_roomBehind w o0 h0 x1 x2 M)
theorem dX6_hasDoorBetween_0 : decode cX6_hasDoorBetween 0 = .ok (.iconst 0, 1) := by decide +kernel
theorem dX6_hasDoorBetween_1 : decode cX6_hasDoorBetween 1 = .ok (.istore_n 3, 1) := by decide +kernel
theorem dX6_hasDoorBetween_2 : decode cX6_hasDoorBetween 2 = .ok (.iload_n 3, 1) := by decide +kernel
theorem dX6_hasDoorBetween_3 : decode cX6_hasDoorBetween 3 = .ok (.aload_n 0, 1) := by decide +kernel
theorem dX6_hasDoorBetween_4 : decode cX6_hasDoorBetween 4 = .ok (.getfield 48, 3) := by decide +kernel
theorem dX6_hasDoorBetween_7 : decode cX6_hasDoorBetween 7 = .ok (.if_icmp .ge 21, 3) := by decide +kernel
theorem dX6_hasDoorBetween_10 : decode cX6_hasDoorBetween 10 = .ok (.aload_n 0, 1) := by decide +kernel
theorem dX6_hasDoorBetween_11 : decode cX6_hasDoorBetween 11 = .ok (.iload_n 3, 1) := by decide +kernel
theorem dX6_hasDoorBetween_12 : decode cX6_hasDoorBetween 12 = .ok (.iload_n 1, 1) := by decide +kernel
theorem dX6_hasDoorBetween_13 : decode cX6_hasDoorBetween 13 = .ok (.invokevirtual 70, 3) := by decide +kernel
theorem dX6_hasDoorBetween_16 : decode cX6_hasDoorBetween 16 = .ok (.iload_n 2, 1) := by decide +kernel
theorem dX6_hasDoorBetween_17 : decode cX6_hasDoorBetween 17 = .ok (.if_icmp .ne 5, 3) := by decide +kernel
theorem dX6_hasDoorBetween_20 : decode cX6_hasDoorBetween 20 = .ok (.iconst 1, 1) := by decide +kernel
theorem dX6_hasDoorBetween_21 : decode cX6_hasDoorBetween 21 = .ok (.ireturn, 1) := by decide +kernel
theorem dX6_hasDoorBetween_22 : decode cX6_hasDoorBetween 22 = .ok (.iinc 3 1, 3) := by decide +kernel
theorem dX6_hasDoorBetween_25 : decode cX6_hasDoorBetween 25 = .ok (.goto (-23), 3) := by decide +kernel
theorem dX6_hasDoorBetween_28 : decode cX6_hasDoorBetween 28 = .ok (.iconst 0, 1) := by decide +kernel
theorem dX6_hasDoorBetween_29 : decode cX6_hasDoorBetween 29 = .ok (.ireturn, 1) := by decide +kernel
def f_X6_hasDoorBetween_2 (w : Nat) : Nat → Nat → Int32 → Int32 → Int32 → mM → Option (Int32 × mM)
  | 0, _, _, _, _, _ => none
  | n + 1, o0, x1, x2, x3, M => (if (M.1 o0 1) ≤ x3 then rtB 0 M else bI (f_X6_roomBehind w o0 x3 x1 M) fun q2 M1 => (if q2 = x2 then rtB 1 M1 else (f_X6_hasDoorBetween_2 w n o0 x1 x2 (x3 + 1) M1)))
set_option maxHeartbeats 4000000 in
set_option maxRecDepth 100000 in
theorem s_X6_hasDoorBetween_2 {l : Launch} {G : mG} {sk : List mS} (w : Nat) : ∀ (n : Nat) (o0 : Nat) (h0 : isK o0 16) (x1 : Int32) (x2 : Int32) (x3 : Int32) (M : mM), Go muX6_hasDoorBetween (rm 1) 0 0 l G sk (mFin G sk eI) (f_X6_hasDoorBetween_2 w n o0 x1 x2 x3 M) 2 [(0, .ref (gB G + o0)), (1, .int x1), (2, .int x2), (3, .int x3)] [] M := by
  intro n
  induction n with
  | zero =>
    intros
    exact go_none
  | succ n ih =>
    intro o0 h0 x1 x2 x3 M
    rw [f_X6_hasDoorBetween_2]
    refine go_iload_n 3 3 dX6_hasDoorBetween_2 rfl rfl ?_
    refine go_aload_n 0 4 dX6_hasDoorBetween_3 rfl rfl ?_
    refine go_getI flX6_48 (by decide) h0 7 dX6_hasDoorBetween_4 rfl ?_
    refine go_icmp_ge 28 10 dX6_hasDoorBetween_7 rfl (by decide) (fun _ => ?_) (fun _ => ?_)
    · refine go_iconst 0 29 dX6_hasDoorBetween_28 rfl (by decide) ?_
      exact go_zret rfl dX6_hasDoorBetween_29
    · refine go_aload_n 0 11 dX6_hasDoorBetween_10 rfl rfl ?_
      refine go_iload_n 3 12 dX6_hasDoorBetween_11 rfl rfl ?_
      refine go_iload_n 1 13 dX6_hasDoorBetween_12 rfl rfl ?_
      refine go_cVI2 0 clX6 cwX6_70 (m_X6_roomBehind w o0 h0 x3 x1 M) h0 16 dX6_hasDoorBetween_13 rfl ⟨Nat.le_of_ble_eq_true rfl, Nat.le_of_ble_eq_true rfl⟩ ⟨Nat.zero_le _, Nat.zero_le _⟩ (Nat.le_of_ble_eq_true rfl) (fun q2 M1 _ => ?_)
      refine go_iload_n 2 17 dX6_hasDoorBetween_16 rfl rfl ?_
      refine go_icmp_ne 22 20 dX6_hasDoorBetween_17 rfl (by decide) (fun _ => ?_) (fun _ => ?_)
      · refine go_iinc (x3 + 1) 3 [(3, .int (x3 + 1)), (0, .ref (gB G + o0)), (1, .int x1), (2, .int x2)] 25 dX6_hasDoorBetween_22 rfl rfl rfl (by decide) rfl ?_
        refine go_goto 2 dX6_hasDoorBetween_25 (by decide) ?_
        exact go_lv [1, 2, 3, 0] rfl (ih o0 h0 x1 x2 (x3 + 1) M1)
      · refine go_iconst 1 21 dX6_hasDoorBetween_20 rfl (by decide) ?_
        exact go_zret rfl dX6_hasDoorBetween_21
def f_X6_hasDoorBetween (w : Nat) (o0 : Nat) (x1 : Int32) (x2 : Int32) (M : mM) : Option (Int32 × mM) := (f_X6_hasDoorBetween_2 w w o0 x1 x2 0 M)
set_option maxHeartbeats 4000000 in
set_option maxRecDepth 100000 in
theorem s_X6_hasDoorBetween {l : Launch} {G : mG} {sk : List mS} (w : Nat) (o0 : Nat) (h0 : isK o0 16) (x1 : Int32) (x2 : Int32) (M : mM) : Go muX6_hasDoorBetween (rm 1) 0 0 l G sk (mFin G sk eI) (f_X6_hasDoorBetween w o0 x1 x2 M) 0 [(0, .ref (gB G + o0)), (1, .int x1), (2, .int x2)] [] M := by
  unfold f_X6_hasDoorBetween
  refine go_iconst 0 1 dX6_hasDoorBetween_0 rfl (by decide) ?_
  refine go_istore_n [(3, .int 0), (0, .ref (gB G + o0)), (1, .int x1), (2, .int x2)] 2 dX6_hasDoorBetween_1 rfl rfl (by decide) rfl ?_
  exact go_lv [1, 2, 3, 0] rfl (s_X6_hasDoorBetween_2 w w o0 h0 x1 x2 0 M)
theorem m_X6_hasDoorBetween {l : Launch} {G : mG} {sk : List mS} (w : Nat) (o0 : Nat) (h0 : isK o0 16) (x1 : Int32) (x2 : Int32) (M : mM) : Mt l G sk yX6_hasDoorBetween muX6_hasDoorBetween 1 [.ref (gB G + o0), .int x1, .int x2] M eI (f_X6_hasDoorBetween w o0 x1 x2 M) := Mt.of (by decide) rfl (Nat.le_of_ble_eq_true rfl) (s_X6_hasDoorBetween w o0 h0 x1 x2 M)
theorem dX6_dampOn_0 : decode cX6_dampOn 0 = .ok (.aload_n 0, 1) := by decide +kernel
theorem dX6_dampOn_1 : decode cX6_dampOn 1 = .ok (.getfield 54, 3) := by decide +kernel
theorem dX6_dampOn_4 : decode cX6_dampOn 4 = .ok (.ifCond .le 21, 3) := by decide +kernel
theorem dX6_dampOn_7 : decode cX6_dampOn 7 = .ok (.iload_n 1, 1) := by decide +kernel
theorem dX6_dampOn_8 : decode cX6_dampOn 8 = .ok (.ifCond .lt 17, 3) := by decide +kernel
theorem dX6_dampOn_11 : decode cX6_dampOn 11 = .ok (.aload_n 0, 1) := by decide +kernel
theorem dX6_dampOn_12 : decode cX6_dampOn 12 = .ok (.getfield 34, 3) := by decide +kernel
theorem dX6_dampOn_15 : decode cX6_dampOn 15 = .ok (.iload_n 1, 1) := by decide +kernel
theorem dX6_dampOn_16 : decode cX6_dampOn 16 = .ok (.aload_n 0, 1) := by decide +kernel
theorem dX6_dampOn_17 : decode cX6_dampOn 17 = .ok (.getfield 54, 3) := by decide +kernel
theorem dX6_dampOn_20 : decode cX6_dampOn 20 = .ok (.irem, 1) := by decide +kernel
theorem dX6_dampOn_21 : decode cX6_dampOn 21 = .ok (.iaload, 1) := by decide +kernel
theorem dX6_dampOn_22 : decode cX6_dampOn 22 = .ok (.goto 4, 3) := by decide +kernel
theorem dX6_dampOn_25 : decode cX6_dampOn 25 = .ok (.iconst 0, 1) := by decide +kernel
theorem dX6_dampOn_26 : decode cX6_dampOn 26 = .ok (.ireturn, 1) := by decide +kernel
def f_X6_dampOn (w : Nat) (o0 : Nat) (x1 : Int32) (M : mM) : Option (Int32 × mM) := (if (M.1 o0 3) ≤ 0 then some (0, M) else (if x1 < 0 then some (0, M) else if (M.1 o0 3) = 0 then none else (chk (x1 - x1 / (M.1 o0 3) * (M.1 o0 3)) (sL (rF o0 11)) (some ((M.1 (rF o0 11) (x1 - x1 / (M.1 o0 3) * (M.1 o0 3)).toNatClampNeg), M)))))
set_option maxHeartbeats 4000000 in
set_option maxRecDepth 100000 in
theorem s_X6_dampOn {l : Launch} {G : mG} {sk : List mS} (w : Nat) (o0 : Nat) (h0 : isK o0 16) (x1 : Int32) (M : mM) : Go muX6_dampOn (rm 0) 0 0 l G sk (mFin G sk eI) (f_X6_dampOn w o0 x1 M) 0 [(0, .ref (gB G + o0)), (1, .int x1)] [] M := by
  unfold f_X6_dampOn
  refine go_aload_n 0 1 dX6_dampOn_0 rfl rfl ?_
  refine go_getI flX6_54 (by decide) h0 4 dX6_dampOn_1 rfl ?_
  refine go_if_le 25 7 dX6_dampOn_4 rfl (by decide) (fun _ => ?_) (fun _ => ?_)
  · refine go_iconst 0 26 dX6_dampOn_25 rfl (by decide) ?_
    exact go_iret rfl dX6_dampOn_26
  · refine go_iload_n 1 8 dX6_dampOn_7 rfl rfl ?_
    refine go_if_lt 25 11 dX6_dampOn_8 rfl (by decide) (fun _ => ?_) (fun _ => ?_)
    · refine go_iconst 0 26 dX6_dampOn_25 rfl (by decide) ?_
      exact go_iret rfl dX6_dampOn_26
    · refine go_aload_n 0 12 dX6_dampOn_11 rfl rfl ?_
      refine go_getR flX6_34 h0 15 dX6_dampOn_12 rfl ?_
      refine go_iload_n 1 16 dX6_dampOn_15 rfl rfl ?_
      refine go_aload_n 0 17 dX6_dampOn_16 rfl rfl ?_
      refine go_getI flX6_54 (by decide) h0 20 dX6_dampOn_17 rfl ?_
      refine go_irem 21 dX6_dampOn_20 rfl ?_
      refine go_iald (rk6_11 h0) 22 dX6_dampOn_21 rfl ?_
      refine go_goto 26 dX6_dampOn_22 (by decide) ?_
      exact go_iret rfl dX6_dampOn_26
theorem m_X6_dampOn {l : Launch} {G : mG} {sk : List mS} (w : Nat) (o0 : Nat) (h0 : isK o0 16) (x1 : Int32) (M : mM) : Mt l G sk yX6_dampOn muX6_dampOn 0 [.ref (gB G + o0), .int x1] M eI (f_X6_dampOn w o0 x1 M) := Mt.of (by decide) rfl (Nat.le_of_ble_eq_true rfl) (s_X6_dampOn w o0 h0 x1 M)
theorem dX6_swollenNext_0 : decode cX6_swollenNext 0 = .ok (.aload_n 0, 1) := by decide +kernel
theorem dX6_swollenNext_1 : decode cX6_swollenNext 1 = .ok (.getfield 28, 3) := by decide +kernel
theorem dX6_swollenNext_4 : decode cX6_swollenNext 4 = .ok (.iload_n 1, 1) := by decide +kernel
theorem dX6_swollenNext_5 : decode cX6_swollenNext 5 = .ok (.iaload, 1) := by decide +kernel
theorem dX6_swollenNext_6 : decode cX6_swollenNext 6 = .ok (.istore 6, 2) := by decide +kernel
theorem dX6_swollenNext_8 : decode cX6_swollenNext 8 = .ok (.iload 4, 2) := by decide +kernel
theorem dX6_swollenNext_10 : decode cX6_swollenNext 10 = .ok (.getstatic 74, 3) := by decide +kernel
theorem dX6_swollenNext_13 : decode cX6_swollenNext 13 = .ok (.iload 6, 2) := by decide +kernel
theorem dX6_swollenNext_15 : decode cX6_swollenNext 15 = .ok (.iaload, 1) := by decide +kernel
theorem dX6_swollenNext_16 : decode cX6_swollenNext 16 = .ok (.if_icmp .le 41, 3) := by decide +kernel
theorem dX6_swollenNext_19 : decode cX6_swollenNext 19 = .ok (.aload_n 0, 1) := by decide +kernel
theorem dX6_swollenNext_20 : decode cX6_swollenNext 20 = .ok (.getfield 40, 3) := by decide +kernel
theorem dX6_swollenNext_23 : decode cX6_swollenNext 23 = .ok (.iload 4, 2) := by decide +kernel
theorem dX6_swollenNext_25 : decode cX6_swollenNext 25 = .ok (.iload_n 2, 1) := by decide +kernel
theorem dX6_swollenNext_26 : decode cX6_swollenNext 26 = .ok (.iload_n 3, 1) := by decide +kernel
theorem dX6_swollenNext_27 : decode cX6_swollenNext 27 = .ok (.iload 5, 2) := by decide +kernel
theorem dX6_swollenNext_29 : decode cX6_swollenNext 29 = .ok (.invokevirtual 77, 3) := by decide +kernel
theorem dX6_swollenNext_32 : decode cX6_swollenNext 32 = .ok (.istore 7, 2) := by decide +kernel
theorem dX6_swollenNext_34 : decode cX6_swollenNext 34 = .ok (.iconst 0, 1) := by decide +kernel
theorem dX6_swollenNext_35 : decode cX6_swollenNext 35 = .ok (.bipush 9, 2) := by decide +kernel
theorem dX6_swollenNext_37 : decode cX6_swollenNext 37 = .ok (.iload 7, 2) := by decide +kernel
theorem dX6_swollenNext_39 : decode cX6_swollenNext 39 = .ok (.invokestatic 81, 3) := by decide +kernel
theorem dX6_swollenNext_42 : decode cX6_swollenNext 42 = .ok (.invokestatic 86, 3) := by decide +kernel
theorem dX6_swollenNext_45 : decode cX6_swollenNext 45 = .ok (.istore 7, 2) := by decide +kernel
theorem dX6_swollenNext_47 : decode cX6_swollenNext 47 = .ok (.bipush 30, 2) := by decide +kernel
theorem dX6_swollenNext_49 : decode cX6_swollenNext 49 = .ok (.iload_n 2, 1) := by decide +kernel
theorem dX6_swollenNext_50 : decode cX6_swollenNext 50 = .ok (.iload 7, 2) := by decide +kernel
theorem dX6_swollenNext_52 : decode cX6_swollenNext 52 = .ok (.iadd, 1) := by decide +kernel
theorem dX6_swollenNext_53 : decode cX6_swollenNext 53 = .ok (.invokestatic 81, 3) := by decide +kernel
theorem dX6_swollenNext_56 : decode cX6_swollenNext 56 = .ok (.ireturn, 1) := by decide +kernel
theorem dX6_swollenNext_57 : decode cX6_swollenNext 57 = .ok (.iload 4, 2) := by decide +kernel
theorem dX6_swollenNext_59 : decode cX6_swollenNext 59 = .ok (.getstatic 89, 3) := by decide +kernel
theorem dX6_swollenNext_62 : decode cX6_swollenNext 62 = .ok (.iload 6, 2) := by decide +kernel
theorem dX6_swollenNext_64 : decode cX6_swollenNext 64 = .ok (.iaload, 1) := by decide +kernel
theorem dX6_swollenNext_65 : decode cX6_swollenNext 65 = .ok (.if_icmp .ge 18, 3) := by decide +kernel
theorem dX6_swollenNext_68 : decode cX6_swollenNext 68 = .ok (.iconst 0, 1) := by decide +kernel
theorem dX6_swollenNext_69 : decode cX6_swollenNext 69 = .ok (.iload_n 2, 1) := by decide +kernel
theorem dX6_swollenNext_70 : decode cX6_swollenNext 70 = .ok (.getstatic 92, 3) := by decide +kernel
theorem dX6_swollenNext_73 : decode cX6_swollenNext 73 = .ok (.iload 6, 2) := by decide +kernel
theorem dX6_swollenNext_75 : decode cX6_swollenNext 75 = .ok (.iaload, 1) := by decide +kernel
theorem dX6_swollenNext_76 : decode cX6_swollenNext 76 = .ok (.isub, 1) := by decide +kernel
theorem dX6_swollenNext_77 : decode cX6_swollenNext 77 = .ok (.invokestatic 86, 3) := by decide +kernel
theorem dX6_swollenNext_80 : decode cX6_swollenNext 80 = .ok (.goto 4, 3) := by decide +kernel
theorem dX6_swollenNext_83 : decode cX6_swollenNext 83 = .ok (.iload_n 2, 1) := by decide +kernel
theorem dX6_swollenNext_84 : decode cX6_swollenNext 84 = .ok (.ireturn, 1) := by decide +kernel
def f_X6_swollenNext (w : Nat) (o0 : Nat) (x1 : Int32) (x2 : Int32) (x3 : Int32) (x4 : Int32) (x5 : Int32) (M : mM) : Option (Int32 × mM) := chk x1 (sL (rF o0 9)) (lt (M.1 (rF o0 9) x1.toNatClampNeg) fun y1 => chk y1 st1.length ((if x4 ≤ (st1.getD y1.toNatClampNeg 0) then chk y1 st2.length ((if (st2.getD y1.toNatClampNeg 0) ≤ x4 then some (x2, M) else chk y1 st3.length (some ((mxI 0 (x2 - (st3.getD y1.toNatClampNeg 0))), M)))) else bI (f_X3_valueBy w (rF o0 12) x4 x2 x3 x5 M) fun q3 M2 => lt (mxI 0 (mnI 9 q3)) fun y4 => some ((mnI 30 (x2 + y4)), M2))))
set_option maxHeartbeats 4000000 in
set_option maxRecDepth 100000 in
theorem s_X6_swollenNext {l : Launch} {G : mG} {sk : List mS} (w : Nat) (o0 : Nat) (h0 : isK o0 16) (x1 : Int32) (x2 : Int32) (x3 : Int32) (x4 : Int32) (x5 : Int32) (M : mM) : Go muX6_swollenNext (rm 2) 0 0 l G sk (mFin G sk eI) (f_X6_swollenNext w o0 x1 x2 x3 x4 x5 M) 0 [(0, .ref (gB G + o0)), (1, .int x1), (2, .int x2), (3, .int x3), (4, .int x4), (5, .int x5)] [] M := by
  unfold f_X6_swollenNext
  refine go_aload_n 0 1 dX6_swollenNext_0 rfl rfl ?_
  refine go_getR flX6_28 h0 4 dX6_swollenNext_1 rfl ?_
  refine go_iload_n 1 5 dX6_swollenNext_4 rfl rfl ?_
  refine go_iald (rk6_9 h0) 6 dX6_swollenNext_5 rfl ?_
  refine go_nmI (fun y1 => ?_)
  refine go_istore [(6, .int y1), (0, .ref (gB G + o0)), (1, .int x1), (2, .int x2), (3, .int x3), (4, .int x4), (5, .int x5)] 8 dX6_swollenNext_6 rfl (by decide) rfl ?_
  refine go_iload 5 10 dX6_swollenNext_8 rfl rfl ?_
  refine go_gets 1 ss1 gsX6_74 13 dX6_swollenNext_10 rfl ?_
  refine go_iload 0 15 dX6_swollenNext_13 rfl rfl ?_
  refine go_tald 1 ss1 16 dX6_swollenNext_15 rfl ?_
  refine go_icmp_le 57 19 dX6_swollenNext_16 rfl (by decide) (fun _ => ?_) (fun _ => ?_)
  · refine go_iload 5 59 dX6_swollenNext_57 rfl rfl ?_
    refine go_gets 2 ss2 gsX6_89 62 dX6_swollenNext_59 rfl ?_
    refine go_iload 0 64 dX6_swollenNext_62 rfl rfl ?_
    refine go_tald 2 ss2 65 dX6_swollenNext_64 rfl ?_
    refine go_icmp_ge 83 68 dX6_swollenNext_65 rfl (by decide) (fun _ => ?_) (fun _ => ?_)
    · refine go_iload_n 3 84 dX6_swollenNext_83 rfl rfl ?_
      exact go_iret rfl dX6_swollenNext_84
    · refine go_iconst 0 69 dX6_swollenNext_68 rfl (by decide) ?_
      refine go_iload_n 3 70 dX6_swollenNext_69 rfl rfl ?_
      refine go_gets 3 ss3 gsX6_92 73 dX6_swollenNext_70 rfl ?_
      refine go_iload 0 75 dX6_swollenNext_73 rfl rfl ?_
      refine go_tald 3 ss3 76 dX6_swollenNext_75 rfl ?_
      refine go_isub 77 dX6_swollenNext_76 rfl ?_
      refine go_max maX6_86 80 dX6_swollenNext_77 rfl (Nat.le_of_ble_eq_true rfl) (Nat.le_of_ble_eq_true rfl) ⟨Nat.zero_le _, Nat.zero_le _⟩ ?_
      refine go_goto 84 dX6_swollenNext_80 (by decide) ?_
      exact go_iret rfl dX6_swollenNext_84
  · refine go_aload_n 1 20 dX6_swollenNext_19 rfl rfl ?_
    refine go_getR flX6_40 h0 23 dX6_swollenNext_20 rfl ?_
    refine go_iload 5 25 dX6_swollenNext_23 rfl rfl ?_
    refine go_iload_n 3 26 dX6_swollenNext_25 rfl rfl ?_
    refine go_iload_n 4 27 dX6_swollenNext_26 rfl rfl ?_
    refine go_iload 6 29 dX6_swollenNext_27 rfl rfl ?_
    refine go_cVI4 1 clX3 cwX6_77 (m_X3_valueBy w (rF o0 12) (rk6_12 h0) x4 x2 x3 x5 M) (rk6_12 h0) 32 dX6_swollenNext_29 rfl ⟨Nat.le_of_ble_eq_true rfl, Nat.le_of_ble_eq_true rfl⟩ ⟨Nat.zero_le _, Nat.zero_le _⟩ (Nat.le_of_ble_eq_true rfl) (fun q3 M2 _ => ?_)
    refine go_istore [(7, .int q3), (6, .int y1), (0, .ref (gB G + o0)), (1, .int x1), (2, .int x2), (3, .int x3), (4, .int x4), (5, .int x5)] 34 dX6_swollenNext_32 rfl (by decide) rfl ?_
    refine go_iconst 0 35 dX6_swollenNext_34 rfl (by decide) ?_
    refine go_bipush 9 37 dX6_swollenNext_35 rfl (by decide) ?_
    refine go_iload 0 39 dX6_swollenNext_37 rfl rfl ?_
    refine go_min miX6_81 42 dX6_swollenNext_39 rfl (Nat.le_of_ble_eq_true rfl) (Nat.le_of_ble_eq_true rfl) ⟨Nat.zero_le _, Nat.zero_le _⟩ ?_
    refine go_max maX6_86 45 dX6_swollenNext_42 rfl (Nat.le_of_ble_eq_true rfl) (Nat.le_of_ble_eq_true rfl) ⟨Nat.zero_le _, Nat.zero_le _⟩ ?_
    refine go_nmI (fun y4 => ?_)
    refine go_istore [(7, .int y4), (6, .int y1), (0, .ref (gB G + o0)), (1, .int x1), (2, .int x2), (3, .int x3), (4, .int x4), (5, .int x5)] 47 dX6_swollenNext_45 rfl (by decide) rfl ?_
    refine go_bipush 30 49 dX6_swollenNext_47 rfl (by decide) ?_
    refine go_iload_n 4 50 dX6_swollenNext_49 rfl rfl ?_
    refine go_iload 0 52 dX6_swollenNext_50 rfl rfl ?_
    refine go_iadd 53 dX6_swollenNext_52 rfl ?_
    refine go_min miX6_81 56 dX6_swollenNext_53 rfl (Nat.le_of_ble_eq_true rfl) (Nat.le_of_ble_eq_true rfl) ⟨Nat.zero_le _, Nat.zero_le _⟩ ?_
    exact go_iret rfl dX6_swollenNext_56
theorem m_X6_swollenNext {l : Launch} {G : mG} {sk : List mS} (w : Nat) (o0 : Nat) (h0 : isK o0 16) (x1 : Int32) (x2 : Int32) (x3 : Int32) (x4 : Int32) (x5 : Int32) (M : mM) : Mt l G sk yX6_swollenNext muX6_swollenNext 2 [.ref (gB G + o0), .int x1, .int x2, .int x3, .int x4, .int x5] M eI (f_X6_swollenNext w o0 x1 x2 x3 x4 x5 M) := Mt.of (by decide) rfl (Nat.le_of_ble_eq_true rfl) (s_X6_swollenNext w o0 h0 x1 x2 x3 x4 x5 M)
theorem dX6_oneDoorOn_0 : decode cX6_oneDoorOn 0 = .ok (.iload_n 1, 1) := by decide +kernel
theorem dX6_oneDoorOn_1 : decode cX6_oneDoorOn 1 = .ok (.istore_n 3, 1) := by decide +kernel
theorem dX6_oneDoorOn_2 : decode cX6_oneDoorOn 2 = .ok (.iconst 0, 1) := by decide +kernel
theorem dX6_oneDoorOn_3 : decode cX6_oneDoorOn 3 = .ok (.istore 4, 2) := by decide +kernel
theorem dX6_oneDoorOn_5 : decode cX6_oneDoorOn 5 = .ok (.iload 4, 2) := by decide +kernel
theorem dX6_oneDoorOn_7 : decode cX6_oneDoorOn 7 = .ok (.aload_n 0, 1) := by decide +kernel
theorem dX6_oneDoorOn_8 : decode cX6_oneDoorOn 8 = .ok (.getfield 48, 3) := by decide +kernel
theorem dX6_oneDoorOn_11 : decode cX6_oneDoorOn 11 = .ok (.if_icmp .ge 51, 3) := by decide +kernel
theorem dX6_oneDoorOn_14 : decode cX6_oneDoorOn 14 = .ok (.iconst 1, 1) := by decide +kernel
theorem dX6_oneDoorOn_15 : decode cX6_oneDoorOn 15 = .ok (.aload_n 0, 1) := by decide +kernel
theorem dX6_oneDoorOn_16 : decode cX6_oneDoorOn 16 = .ok (.getfield 22, 3) := by decide +kernel
theorem dX6_oneDoorOn_19 : decode cX6_oneDoorOn 19 = .ok (.iload 4, 2) := by decide +kernel
theorem dX6_oneDoorOn_21 : decode cX6_oneDoorOn 21 = .ok (.iaload, 1) := by decide +kernel
theorem dX6_oneDoorOn_22 : decode cX6_oneDoorOn 22 = .ok (.ishl, 1) := by decide +kernel
theorem dX6_oneDoorOn_23 : decode cX6_oneDoorOn 23 = .ok (.iconst 1, 1) := by decide +kernel
theorem dX6_oneDoorOn_24 : decode cX6_oneDoorOn 24 = .ok (.aload_n 0, 1) := by decide +kernel
theorem dX6_oneDoorOn_25 : decode cX6_oneDoorOn 25 = .ok (.getfield 25, 3) := by decide +kernel
theorem dX6_oneDoorOn_28 : decode cX6_oneDoorOn 28 = .ok (.iload 4, 2) := by decide +kernel
theorem dX6_oneDoorOn_30 : decode cX6_oneDoorOn 30 = .ok (.iaload, 1) := by decide +kernel
theorem dX6_oneDoorOn_31 : decode cX6_oneDoorOn 31 = .ok (.ishl, 1) := by decide +kernel
theorem dX6_oneDoorOn_32 : decode cX6_oneDoorOn 32 = .ok (.ior, 1) := by decide +kernel
theorem dX6_oneDoorOn_33 : decode cX6_oneDoorOn 33 = .ok (.istore 5, 2) := by decide +kernel
theorem dX6_oneDoorOn_35 : decode cX6_oneDoorOn 35 = .ok (.iload_n 2, 1) := by decide +kernel
theorem dX6_oneDoorOn_36 : decode cX6_oneDoorOn 36 = .ok (.iload 4, 2) := by decide +kernel
theorem dX6_oneDoorOn_38 : decode cX6_oneDoorOn 38 = .ok (.ishr, 1) := by decide +kernel
theorem dX6_oneDoorOn_39 : decode cX6_oneDoorOn 39 = .ok (.iconst 1, 1) := by decide +kernel
theorem dX6_oneDoorOn_40 : decode cX6_oneDoorOn 40 = .ok (.iand, 1) := by decide +kernel
theorem dX6_oneDoorOn_41 : decode cX6_oneDoorOn 41 = .ok (.ifCond .eq 15, 3) := by decide +kernel
theorem dX6_oneDoorOn_44 : decode cX6_oneDoorOn 44 = .ok (.iload_n 1, 1) := by decide +kernel
theorem dX6_oneDoorOn_45 : decode cX6_oneDoorOn 45 = .ok (.iload 5, 2) := by decide +kernel
theorem dX6_oneDoorOn_47 : decode cX6_oneDoorOn 47 = .ok (.iand, 1) := by decide +kernel
theorem dX6_oneDoorOn_48 : decode cX6_oneDoorOn 48 = .ok (.ifCond .eq 8, 3) := by decide +kernel
theorem dX6_oneDoorOn_51 : decode cX6_oneDoorOn 51 = .ok (.iload_n 3, 1) := by decide +kernel
theorem dX6_oneDoorOn_52 : decode cX6_oneDoorOn 52 = .ok (.iload 5, 2) := by decide +kernel
theorem dX6_oneDoorOn_54 : decode cX6_oneDoorOn 54 = .ok (.ior, 1) := by decide +kernel
theorem dX6_oneDoorOn_55 : decode cX6_oneDoorOn 55 = .ok (.istore_n 3, 1) := by decide +kernel
theorem dX6_oneDoorOn_56 : decode cX6_oneDoorOn 56 = .ok (.iinc 4 1, 3) := by decide +kernel
theorem dX6_oneDoorOn_59 : decode cX6_oneDoorOn 59 = .ok (.goto (-54), 3) := by decide +kernel
theorem dX6_oneDoorOn_62 : decode cX6_oneDoorOn 62 = .ok (.iload_n 3, 1) := by decide +kernel
theorem dX6_oneDoorOn_63 : decode cX6_oneDoorOn 63 = .ok (.ireturn, 1) := by decide +kernel
def f_X6_oneDoorOn_5 (w : Nat) : Nat → Nat → Int32 → Int32 → Int32 → Int32 → mM → Option (Int32 × mM)
  | 0, _, _, _, _, _, _ => none
  | n + 1, o0, x1, x2, x3, x4, M => (if (M.1 o0 1) ≤ x4 then some (x3, M) else chk x4 (sL (rF o0 7)) (chk x4 (sL (rF o0 8)) (lt (((1 : Int32) <<< ((M.1 (rF o0 7) x4.toNatClampNeg) &&& 31)) ||| ((1 : Int32) <<< ((M.1 (rF o0 8) x4.toNatClampNeg) &&& 31))) fun y1 => (if ((x2 >>> (x4 &&& 31)) &&& 1) = 0 then (f_X6_oneDoorOn_5 w n o0 x1 x2 x3 (x4 + 1) M) else (if (x1 &&& y1) = 0 then (f_X6_oneDoorOn_5 w n o0 x1 x2 x3 (x4 + 1) M) else lt (x3 ||| y1) fun y2 => (f_X6_oneDoorOn_5 w n o0 x1 x2 y2 (x4 + 1) M))))))
set_option maxHeartbeats 4000000 in
set_option maxRecDepth 100000 in
theorem s_X6_oneDoorOn_5 {l : Launch} {G : mG} {sk : List mS} (w : Nat) : ∀ (n : Nat) (o0 : Nat) (h0 : isK o0 16) (x1 : Int32) (x2 : Int32) (x3 : Int32) (x4 : Int32) (M : mM), Go muX6_oneDoorOn (rm 0) 0 0 l G sk (mFin G sk eI) (f_X6_oneDoorOn_5 w n o0 x1 x2 x3 x4 M) 5 [(0, .ref (gB G + o0)), (1, .int x1), (2, .int x2), (3, .int x3), (4, .int x4)] [] M := by
  intro n
  induction n with
  | zero =>
    intros
    exact go_none
  | succ n ih =>
    intro o0 h0 x1 x2 x3 x4 M
    rw [f_X6_oneDoorOn_5]
    refine go_iload 4 7 dX6_oneDoorOn_5 rfl rfl ?_
    refine go_aload_n 0 8 dX6_oneDoorOn_7 rfl rfl ?_
    refine go_getI flX6_48 (by decide) h0 11 dX6_oneDoorOn_8 rfl ?_
    refine go_icmp_ge 62 14 dX6_oneDoorOn_11 rfl (by decide) (fun _ => ?_) (fun _ => ?_)
    · refine go_iload_n 3 63 dX6_oneDoorOn_62 rfl rfl ?_
      exact go_iret rfl dX6_oneDoorOn_63
    · refine go_iconst 1 15 dX6_oneDoorOn_14 rfl (by decide) ?_
      refine go_aload_n 0 16 dX6_oneDoorOn_15 rfl rfl ?_
      refine go_getR flX6_22 h0 19 dX6_oneDoorOn_16 rfl ?_
      refine go_iload 4 21 dX6_oneDoorOn_19 rfl rfl ?_
      refine go_iald (rk6_7 h0) 22 dX6_oneDoorOn_21 rfl ?_
      refine go_ishl 23 dX6_oneDoorOn_22 rfl ?_
      refine go_iconst 1 24 dX6_oneDoorOn_23 rfl (by decide) ?_
      refine go_aload_n 0 25 dX6_oneDoorOn_24 rfl rfl ?_
      refine go_getR flX6_25 h0 28 dX6_oneDoorOn_25 rfl ?_
      refine go_iload 4 30 dX6_oneDoorOn_28 rfl rfl ?_
      refine go_iald (rk6_8 h0) 31 dX6_oneDoorOn_30 rfl ?_
      refine go_ishl 32 dX6_oneDoorOn_31 rfl ?_
      refine go_ior 33 dX6_oneDoorOn_32 rfl ?_
      refine go_nmI (fun y1 => ?_)
      refine go_istore [(5, .int y1), (0, .ref (gB G + o0)), (1, .int x1), (2, .int x2), (3, .int x3), (4, .int x4)] 35 dX6_oneDoorOn_33 rfl (by decide) rfl ?_
      refine go_iload_n 3 36 dX6_oneDoorOn_35 rfl rfl ?_
      refine go_iload 5 38 dX6_oneDoorOn_36 rfl rfl ?_
      refine go_ishr 39 dX6_oneDoorOn_38 rfl ?_
      refine go_iconst 1 40 dX6_oneDoorOn_39 rfl (by decide) ?_
      refine go_iand 41 dX6_oneDoorOn_40 rfl ?_
      refine go_if_eq 56 44 dX6_oneDoorOn_41 rfl (by decide) (fun _ => ?_) (fun _ => ?_)
      · refine go_iinc (x4 + 1) 5 [(4, .int (x4 + 1)), (5, .int y1), (0, .ref (gB G + o0)), (1, .int x1), (2, .int x2), (3, .int x3)] 59 dX6_oneDoorOn_56 rfl rfl rfl (by decide) rfl ?_
        refine go_goto 5 dX6_oneDoorOn_59 (by decide) ?_
        exact go_lv [2, 3, 4, 5, 0] rfl (ih o0 h0 x1 x2 x3 (x4 + 1) M)
      · refine go_iload_n 2 45 dX6_oneDoorOn_44 rfl rfl ?_
        refine go_iload 0 47 dX6_oneDoorOn_45 rfl rfl ?_
        refine go_iand 48 dX6_oneDoorOn_47 rfl ?_
        refine go_if_eq 56 51 dX6_oneDoorOn_48 rfl (by decide) (fun _ => ?_) (fun _ => ?_)
        · refine go_iinc (x4 + 1) 5 [(4, .int (x4 + 1)), (5, .int y1), (0, .ref (gB G + o0)), (1, .int x1), (2, .int x2), (3, .int x3)] 59 dX6_oneDoorOn_56 rfl rfl rfl (by decide) rfl ?_
          refine go_goto 5 dX6_oneDoorOn_59 (by decide) ?_
          exact go_lv [2, 3, 4, 5, 0] rfl (ih o0 h0 x1 x2 x3 (x4 + 1) M)
        · refine go_iload_n 4 52 dX6_oneDoorOn_51 rfl rfl ?_
          refine go_iload 0 54 dX6_oneDoorOn_52 rfl rfl ?_
          refine go_ior 55 dX6_oneDoorOn_54 rfl ?_
          refine go_nmI (fun y2 => ?_)
          refine go_istore_n [(3, .int y2), (5, .int y1), (0, .ref (gB G + o0)), (1, .int x1), (2, .int x2), (4, .int x4)] 56 dX6_oneDoorOn_55 rfl rfl (by decide) rfl ?_
          refine go_iinc (x4 + 1) 5 [(4, .int (x4 + 1)), (3, .int y2), (5, .int y1), (0, .ref (gB G + o0)), (1, .int x1), (2, .int x2)] 59 dX6_oneDoorOn_56 rfl rfl rfl (by decide) rfl ?_
          refine go_goto 5 dX6_oneDoorOn_59 (by decide) ?_
          exact go_lv [3, 4, 5, 1, 0] rfl (ih o0 h0 x1 x2 y2 (x4 + 1) M)
def f_X6_oneDoorOn (w : Nat) (o0 : Nat) (x1 : Int32) (x2 : Int32) (M : mM) : Option (Int32 × mM) := (f_X6_oneDoorOn_5 w w o0 x1 x2 x1 0 M)
set_option maxHeartbeats 4000000 in
set_option maxRecDepth 100000 in
theorem s_X6_oneDoorOn {l : Launch} {G : mG} {sk : List mS} (w : Nat) (o0 : Nat) (h0 : isK o0 16) (x1 : Int32) (x2 : Int32) (M : mM) : Go muX6_oneDoorOn (rm 0) 0 0 l G sk (mFin G sk eI) (f_X6_oneDoorOn w o0 x1 x2 M) 0 [(0, .ref (gB G + o0)), (1, .int x1), (2, .int x2)] [] M := by
  unfold f_X6_oneDoorOn
  refine go_iload_n 1 1 dX6_oneDoorOn_0 rfl rfl ?_
  refine go_istore_n [(3, .int x1), (0, .ref (gB G + o0)), (1, .int x1), (2, .int x2)] 2 dX6_oneDoorOn_1 rfl rfl (by decide) rfl ?_
  refine go_iconst 0 3 dX6_oneDoorOn_2 rfl (by decide) ?_
  refine go_istore [(4, .int 0), (3, .int x1), (0, .ref (gB G + o0)), (1, .int x1), (2, .int x2)] 5 dX6_oneDoorOn_3 rfl (by decide) rfl ?_
  exact go_lv [2, 3, 4, 1, 0] rfl (s_X6_oneDoorOn_5 w w o0 h0 x1 x2 x1 0 M)
theorem m_X6_oneDoorOn {l : Launch} {G : mG} {sk : List mS} (w : Nat) (o0 : Nat) (h0 : isK o0 16) (x1 : Int32) (x2 : Int32) (M : mM) : Mt l G sk yX6_oneDoorOn muX6_oneDoorOn 0 [.ref (gB G + o0), .int x1, .int x2] M eI (f_X6_oneDoorOn w o0 x1 x2 M) := Mt.of (by decide) rfl (Nat.le_of_ble_eq_true rfl) (s_X6_oneDoorOn w o0 h0 x1 x2 M)
theorem dX6_roomsReached_0 : decode cX6_roomsReached 0 = .ok (.iconst 1, 1) := by decide +kernel
theorem dX6_roomsReached_1 : decode cX6_roomsReached 1 = .ok (.iload_n 1, 1) := by decide +kernel
theorem dX6_roomsReached_2 : decode cX6_roomsReached 2 = .ok (.ishl, 1) := by decide +kernel
theorem dX6_roomsReached_3 : decode cX6_roomsReached 3 = .ok (.istore_n 3, 1) := by decide +kernel
theorem dX6_roomsReached_4 : decode cX6_roomsReached 4 = .ok (.iconst 1, 1) := by decide +kernel
theorem dX6_roomsReached_5 : decode cX6_roomsReached 5 = .ok (.istore 4, 2) := by decide +kernel
theorem dX6_roomsReached_7 : decode cX6_roomsReached 7 = .ok (.iload 4, 2) := by decide +kernel
theorem dX6_roomsReached_9 : decode cX6_roomsReached 9 = .ok (.aload_n 0, 1) := by decide +kernel
theorem dX6_roomsReached_10 : decode cX6_roomsReached 10 = .ok (.getfield 44, 3) := by decide +kernel
theorem dX6_roomsReached_13 : decode cX6_roomsReached 13 = .ok (.if_icmp .ge 29, 3) := by decide +kernel
theorem dX6_roomsReached_16 : decode cX6_roomsReached 16 = .ok (.aload_n 0, 1) := by decide +kernel
theorem dX6_roomsReached_17 : decode cX6_roomsReached 17 = .ok (.iload_n 3, 1) := by decide +kernel
theorem dX6_roomsReached_18 : decode cX6_roomsReached 18 = .ok (.iload_n 2, 1) := by decide +kernel
theorem dX6_roomsReached_19 : decode cX6_roomsReached 19 = .ok (.invokevirtual 95, 3) := by decide +kernel
theorem dX6_roomsReached_22 : decode cX6_roomsReached 22 = .ok (.istore 5, 2) := by decide +kernel
theorem dX6_roomsReached_24 : decode cX6_roomsReached 24 = .ok (.iload 5, 2) := by decide +kernel
theorem dX6_roomsReached_26 : decode cX6_roomsReached 26 = .ok (.iload_n 3, 1) := by decide +kernel
theorem dX6_roomsReached_27 : decode cX6_roomsReached 27 = .ok (.if_icmp .ne 6, 3) := by decide +kernel
theorem dX6_roomsReached_30 : decode cX6_roomsReached 30 = .ok (.goto 12, 3) := by decide +kernel
theorem dX6_roomsReached_33 : decode cX6_roomsReached 33 = .ok (.iload 5, 2) := by decide +kernel
theorem dX6_roomsReached_35 : decode cX6_roomsReached 35 = .ok (.istore_n 3, 1) := by decide +kernel
theorem dX6_roomsReached_36 : decode cX6_roomsReached 36 = .ok (.iinc 4 1, 3) := by decide +kernel
theorem dX6_roomsReached_39 : decode cX6_roomsReached 39 = .ok (.goto (-32), 3) := by decide +kernel
theorem dX6_roomsReached_42 : decode cX6_roomsReached 42 = .ok (.iload_n 3, 1) := by decide +kernel
theorem dX6_roomsReached_43 : decode cX6_roomsReached 43 = .ok (.ireturn, 1) := by decide +kernel
def f_X6_roomsReached_30 (w : Nat) (x3 : Int32) (M : mM) : Option (Int32 × mM) := some (x3, M)
set_option maxHeartbeats 4000000 in
set_option maxRecDepth 100000 in
theorem s_X6_roomsReached_30 {l : Launch} {G : mG} {sk : List mS} (w : Nat) (x3 : Int32) (M : mM) : Go muX6_roomsReached (rm 1) 0 0 l G sk (mFin G sk eI) (f_X6_roomsReached_30 w x3 M) 30 [(3, .int x3)] [] M := by
  unfold f_X6_roomsReached_30
  refine go_goto 42 dX6_roomsReached_30 (by decide) ?_
  refine go_iload_n 0 43 dX6_roomsReached_42 rfl rfl ?_
  exact go_iret rfl dX6_roomsReached_43
def f_X6_roomsReached_7 (w : Nat) : Nat → Nat → Int32 → Int32 → Int32 → mM → Option (Int32 × mM)
  | 0, _, _, _, _, _ => none
  | n + 1, o0, x2, x3, x4, M => (if (M.1 o0 0) ≤ x4 then some (x3, M) else bI (f_X6_oneDoorOn w o0 x3 x2 M) fun q2 M1 => (if q2 = x3 then (f_X6_roomsReached_30 w x3 M1) else (f_X6_roomsReached_7 w n o0 x2 q2 (x4 + 1) M1)))
set_option maxHeartbeats 4000000 in
set_option maxRecDepth 100000 in
theorem s_X6_roomsReached_7 {l : Launch} {G : mG} {sk : List mS} (w : Nat) : ∀ (n : Nat) (o0 : Nat) (h0 : isK o0 16) (x2 : Int32) (x3 : Int32) (x4 : Int32) (M : mM), Go muX6_roomsReached (rm 1) 0 0 l G sk (mFin G sk eI) (f_X6_roomsReached_7 w n o0 x2 x3 x4 M) 7 [(0, .ref (gB G + o0)), (2, .int x2), (3, .int x3), (4, .int x4)] [] M := by
  intro n
  induction n with
  | zero =>
    intros
    exact go_none
  | succ n ih =>
    intro o0 h0 x2 x3 x4 M
    rw [f_X6_roomsReached_7]
    refine go_iload 3 9 dX6_roomsReached_7 rfl rfl ?_
    refine go_aload_n 0 10 dX6_roomsReached_9 rfl rfl ?_
    refine go_getI flX6_44 (by decide) h0 13 dX6_roomsReached_10 rfl ?_
    refine go_icmp_ge 42 16 dX6_roomsReached_13 rfl (by decide) (fun _ => ?_) (fun _ => ?_)
    · refine go_iload_n 2 43 dX6_roomsReached_42 rfl rfl ?_
      exact go_iret rfl dX6_roomsReached_43
    · refine go_aload_n 0 17 dX6_roomsReached_16 rfl rfl ?_
      refine go_iload_n 2 18 dX6_roomsReached_17 rfl rfl ?_
      refine go_iload_n 1 19 dX6_roomsReached_18 rfl rfl ?_
      refine go_cVI2 0 clX6 cwX6_95 (m_X6_oneDoorOn w o0 h0 x3 x2 M) h0 22 dX6_roomsReached_19 rfl ⟨Nat.le_of_ble_eq_true rfl, Nat.le_of_ble_eq_true rfl⟩ ⟨Nat.zero_le _, Nat.zero_le _⟩ (Nat.le_of_ble_eq_true rfl) (fun q2 M1 _ => ?_)
      refine go_istore [(5, .int q2), (0, .ref (gB G + o0)), (2, .int x2), (3, .int x3), (4, .int x4)] 24 dX6_roomsReached_22 rfl (by decide) rfl ?_
      refine go_iload 0 26 dX6_roomsReached_24 rfl rfl ?_
      refine go_iload_n 3 27 dX6_roomsReached_26 rfl rfl ?_
      refine go_icmp_ne 33 30 dX6_roomsReached_27 rfl (by decide) (fun _ => ?_) (fun _ => ?_)
      · refine go_iload 0 35 dX6_roomsReached_33 rfl rfl ?_
        refine go_istore_n [(3, .int q2), (5, .int q2), (0, .ref (gB G + o0)), (2, .int x2), (4, .int x4)] 36 dX6_roomsReached_35 rfl rfl (by decide) rfl ?_
        refine go_iinc (x4 + 1) 4 [(4, .int (x4 + 1)), (3, .int q2), (5, .int q2), (0, .ref (gB G + o0)), (2, .int x2)] 39 dX6_roomsReached_36 rfl rfl rfl (by decide) rfl ?_
        refine go_goto 7 dX6_roomsReached_39 (by decide) ?_
        exact go_lv [3, 4, 1, 0] rfl (ih o0 h0 x2 q2 (x4 + 1) M1)
      · exact go_lv [3] rfl (s_X6_roomsReached_30 w x3 M1)
def f_X6_roomsReached (w : Nat) (o0 : Nat) (x1 : Int32) (x2 : Int32) (M : mM) : Option (Int32 × mM) := lt ((1 : Int32) <<< (x1 &&& 31)) fun y1 => (f_X6_roomsReached_7 w w o0 x2 y1 1 M)
set_option maxHeartbeats 4000000 in
set_option maxRecDepth 100000 in
theorem s_X6_roomsReached {l : Launch} {G : mG} {sk : List mS} (w : Nat) (o0 : Nat) (h0 : isK o0 16) (x1 : Int32) (x2 : Int32) (M : mM) : Go muX6_roomsReached (rm 1) 0 0 l G sk (mFin G sk eI) (f_X6_roomsReached w o0 x1 x2 M) 0 [(0, .ref (gB G + o0)), (1, .int x1), (2, .int x2)] [] M := by
  unfold f_X6_roomsReached
  refine go_iconst 1 1 dX6_roomsReached_0 rfl (by decide) ?_
  refine go_iload_n 1 2 dX6_roomsReached_1 rfl rfl ?_
  refine go_ishl 3 dX6_roomsReached_2 rfl ?_
  refine go_nmI (fun y1 => ?_)
  refine go_istore_n [(3, .int y1), (0, .ref (gB G + o0)), (1, .int x1), (2, .int x2)] 4 dX6_roomsReached_3 rfl rfl (by decide) rfl ?_
  refine go_iconst 1 5 dX6_roomsReached_4 rfl (by decide) ?_
  refine go_istore [(4, .int 1), (3, .int y1), (0, .ref (gB G + o0)), (1, .int x1), (2, .int x2)] 7 dX6_roomsReached_5 rfl (by decide) rfl ?_
  exact go_lv [2, 4, 1, 0] rfl (s_X6_roomsReached_7 w w o0 h0 x2 y1 1 M)
theorem m_X6_roomsReached {l : Launch} {G : mG} {sk : List mS} (w : Nat) (o0 : Nat) (h0 : isK o0 16) (x1 : Int32) (x2 : Int32) (M : mM) : Mt l G sk yX6_roomsReached muX6_roomsReached 1 [.ref (gB G + o0), .int x1, .int x2] M eI (f_X6_roomsReached w o0 x1 x2 M) := Mt.of (by decide) rfl (Nat.le_of_ble_eq_true rfl) (s_X6_roomsReached w o0 h0 x1 x2 M)
theorem dX6_isJoined_0 : decode cX6_isJoined 0 = .ok (.aload_n 0, 1) := by decide +kernel
theorem dX6_isJoined_1 : decode cX6_isJoined 1 = .ok (.iload_n 1, 1) := by decide +kernel
theorem dX6_isJoined_2 : decode cX6_isJoined 2 = .ok (.iload_n 3, 1) := by decide +kernel
theorem dX6_isJoined_3 : decode cX6_isJoined 3 = .ok (.invokevirtual 98, 3) := by decide +kernel
theorem dX6_isJoined_6 : decode cX6_isJoined 6 = .ok (.iload_n 2, 1) := by decide +kernel
theorem dX6_isJoined_7 : decode cX6_isJoined 7 = .ok (.ishr, 1) := by decide +kernel
theorem dX6_isJoined_8 : decode cX6_isJoined 8 = .ok (.iconst 1, 1) := by decide +kernel
theorem dX6_isJoined_9 : decode cX6_isJoined 9 = .ok (.iand, 1) := by decide +kernel
theorem dX6_isJoined_10 : decode cX6_isJoined 10 = .ok (.ifCond .eq 7, 3) := by decide +kernel
theorem dX6_isJoined_13 : decode cX6_isJoined 13 = .ok (.iconst 1, 1) := by decide +kernel
theorem dX6_isJoined_14 : decode cX6_isJoined 14 = .ok (.goto 4, 3) := by decide +kernel
theorem dX6_isJoined_17 : decode cX6_isJoined 17 = .ok (.iconst 0, 1) := by decide +kernel
theorem dX6_isJoined_18 : decode cX6_isJoined 18 = .ok (.ireturn, 1) := by decide +kernel
def f_X6_isJoined (w : Nat) (o0 : Nat) (x1 : Int32) (x2 : Int32) (x3 : Int32) (M : mM) : Option (Int32 × mM) := bI (f_X6_roomsReached w o0 x1 x3 M) fun q2 M1 => (if ((q2 >>> (x2 &&& 31)) &&& 1) = 0 then rtB 0 M1 else rtB 1 M1)
set_option maxHeartbeats 4000000 in
set_option maxRecDepth 100000 in
theorem s_X6_isJoined {l : Launch} {G : mG} {sk : List mS} (w : Nat) (o0 : Nat) (h0 : isK o0 16) (x1 : Int32) (x2 : Int32) (x3 : Int32) (M : mM) : Go muX6_isJoined (rm 2) 0 0 l G sk (mFin G sk eI) (f_X6_isJoined w o0 x1 x2 x3 M) 0 [(0, .ref (gB G + o0)), (1, .int x1), (2, .int x2), (3, .int x3)] [] M := by
  unfold f_X6_isJoined
  refine go_aload_n 0 1 dX6_isJoined_0 rfl rfl ?_
  refine go_iload_n 1 2 dX6_isJoined_1 rfl rfl ?_
  refine go_iload_n 3 3 dX6_isJoined_2 rfl rfl ?_
  refine go_cVI2 1 clX6 cwX6_98 (m_X6_roomsReached w o0 h0 x1 x3 M) h0 6 dX6_isJoined_3 rfl ⟨Nat.le_of_ble_eq_true rfl, Nat.le_of_ble_eq_true rfl⟩ ⟨Nat.zero_le _, Nat.zero_le _⟩ (Nat.le_of_ble_eq_true rfl) (fun q2 M1 _ => ?_)
  refine go_iload_n 2 7 dX6_isJoined_6 rfl rfl ?_
  refine go_ishr 8 dX6_isJoined_7 rfl ?_
  refine go_iconst 1 9 dX6_isJoined_8 rfl (by decide) ?_
  refine go_iand 10 dX6_isJoined_9 rfl ?_
  refine go_if_eq 17 13 dX6_isJoined_10 rfl (by decide) (fun _ => ?_) (fun _ => ?_)
  · refine go_iconst 0 18 dX6_isJoined_17 rfl (by decide) ?_
    exact go_zret rfl dX6_isJoined_18
  · refine go_iconst 1 14 dX6_isJoined_13 rfl (by decide) ?_
    refine go_goto 18 dX6_isJoined_14 (by decide) ?_
    exact go_zret rfl dX6_isJoined_18
theorem m_X6_isJoined {l : Launch} {G : mG} {sk : List mS} (w : Nat) (o0 : Nat) (h0 : isK o0 16) (x1 : Int32) (x2 : Int32) (x3 : Int32) (M : mM) : Mt l G sk yX6_isJoined muX6_isJoined 2 [.ref (gB G + o0), .int x1, .int x2, .int x3] M eI (f_X6_isJoined w o0 x1 x2 x3 M) := Mt.of (by decide) rfl (Nat.le_of_ble_eq_true rfl) (s_X6_isJoined w o0 h0 x1 x2 x3 M)
