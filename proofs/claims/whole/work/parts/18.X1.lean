theorem dX1_keep_0 : decode cX1_keep 0 = .ok (.aload_n 0, 1) := by decide +kernel
theorem dX1_keep_1 : decode cX1_keep 1 = .ok (.aload_n 0, 1) := by decide +kernel
theorem dX1_keep_2 : decode cX1_keep 2 = .ok (.getfield 20, 3) := by decide +kernel
theorem dX1_keep_5 : decode cX1_keep 5 = .ok (.iconst 1, 1) := by decide +kernel
theorem dX1_keep_6 : decode cX1_keep 6 = .ok (.iadd, 1) := by decide +kernel
theorem dX1_keep_7 : decode cX1_keep 7 = .ok (.bipush 16, 2) := by decide +kernel
theorem dX1_keep_9 : decode cX1_keep 9 = .ok (.irem, 1) := by decide +kernel
theorem dX1_keep_10 : decode cX1_keep 10 = .ok (.putfield 20, 3) := by decide +kernel
theorem dX1_keep_13 : decode cX1_keep 13 = .ok (.aload_n 0, 1) := by decide +kernel
theorem dX1_keep_14 : decode cX1_keep 14 = .ok (.getfield 11, 3) := by decide +kernel
theorem dX1_keep_17 : decode cX1_keep 17 = .ok (.aload_n 0, 1) := by decide +kernel
theorem dX1_keep_18 : decode cX1_keep 18 = .ok (.getfield 20, 3) := by decide +kernel
theorem dX1_keep_21 : decode cX1_keep 21 = .ok (.aaload, 1) := by decide +kernel
theorem dX1_keep_22 : decode cX1_keep 22 = .ok (.aload_n 1, 1) := by decide +kernel
theorem dX1_keep_23 : decode cX1_keep 23 = .ok (.invokevirtual 24, 3) := by decide +kernel
theorem dX1_keep_26 : decode cX1_keep 26 = .ok (.aload_n 0, 1) := by decide +kernel
theorem dX1_keep_27 : decode cX1_keep 27 = .ok (.bipush 16, 2) := by decide +kernel
theorem dX1_keep_29 : decode cX1_keep 29 = .ok (.aload_n 0, 1) := by decide +kernel
theorem dX1_keep_30 : decode cX1_keep 30 = .ok (.getfield 28, 3) := by decide +kernel
theorem dX1_keep_33 : decode cX1_keep 33 = .ok (.iconst 1, 1) := by decide +kernel
theorem dX1_keep_34 : decode cX1_keep 34 = .ok (.iadd, 1) := by decide +kernel
theorem dX1_keep_35 : decode cX1_keep 35 = .ok (.invokestatic 31, 3) := by decide +kernel
theorem dX1_keep_38 : decode cX1_keep 38 = .ok (.putfield 28, 3) := by decide +kernel
theorem dX1_keep_41 : decode cX1_keep 41 = .ok (.return_, 1) := by decide +kernel
def f_X1_keep (w : Nat) (o0 : Nat) (o1 : Nat) (M : mM) : Option mM := if (16 : Int32) = 0 then none else (lt (wI M o0 1 (((M.1 o0 1) + 1) - ((M.1 o0 1) + 1) / 16 * 16)) fun M1 => chk (M1.1 o0 1) (sL (rF o0 0)) (bV (f_X9_copyFrom w (rA (rF o0 0) (M1.1 o0 1).toNatClampNeg) o1 M1) fun M3 => lt (wI M3 o0 2 (mnI 16 ((M3.1 o0 2) + 1))) fun M4 => some M4))
set_option maxHeartbeats 4000000 in
set_option maxRecDepth 100000 in
theorem s_X1_keep {l : Launch} {G : mG} {sk : List mS} (w : Nat) (o0 : Nat) (h0 : isK o0 11) (o1 : Nat) (h1 : isK o1 19) (M : mM) : Go muX1_keep (rm 2) 0 0 l G sk (mFin G sk eV) (f_X1_keep w o0 o1 M) 0 [(0, .ref (gB G + o0)), (1, .ref (gB G + o1))] [] M := by
  unfold f_X1_keep
  refine go_aload_n 0 1 dX1_keep_0 rfl rfl ?_
  refine go_aload_n 0 2 dX1_keep_1 rfl rfl ?_
  refine go_getI flX1_20 (by decide) h0 5 dX1_keep_2 rfl ?_
  refine go_iconst 1 6 dX1_keep_5 rfl (by decide) ?_
  refine go_iadd 7 dX1_keep_6 rfl ?_
  refine go_bipush 16 9 dX1_keep_7 rfl (by decide) ?_
  refine go_irem 10 dX1_keep_9 rfl ?_
  refine go_putI flX1_20 rfl rfl h0 13 dX1_keep_10 rfl ?_
  refine go_nmM (fun M1 => ?_)
  refine go_aload_n 0 14 dX1_keep_13 rfl rfl ?_
  refine go_getR flX1_11 h0 17 dX1_keep_14 rfl ?_
  refine go_aload_n 0 18 dX1_keep_17 rfl rfl ?_
  refine go_getI flX1_20 (by decide) h0 21 dX1_keep_18 rfl ?_
  refine go_aald (rk1_0 h0) (by decide) 22 dX1_keep_21 rfl (fun j2 => ?_)
  refine go_aload_n 1 23 dX1_keep_22 rfl rfl ?_
  refine go_cVV1 1 clX9 cwX1_24 (m_X9_copyFrom w (rA (rF o0 0) (M1.1 o0 1).toNatClampNeg) (re4 (rk1_0 h0) j2) o1 h1 M1) (re4 (rk1_0 h0) j2) 26 dX1_keep_23 rfl ⟨Nat.le_of_ble_eq_true rfl, Nat.le_of_ble_eq_true rfl⟩ ⟨Nat.zero_le _, Nat.zero_le _⟩ (Nat.le_of_ble_eq_true rfl) (fun M3 _ => ?_)
  refine go_aload_n 0 27 dX1_keep_26 rfl rfl ?_
  refine go_bipush 16 29 dX1_keep_27 rfl (by decide) ?_
  refine go_aload_n 0 30 dX1_keep_29 rfl rfl ?_
  refine go_getI flX1_28 (by decide) h0 33 dX1_keep_30 rfl ?_
  refine go_iconst 1 34 dX1_keep_33 rfl (by decide) ?_
  refine go_iadd 35 dX1_keep_34 rfl ?_
  refine go_min miX1_31 38 dX1_keep_35 rfl (Nat.le_of_ble_eq_true rfl) (Nat.le_of_ble_eq_true rfl) ⟨Nat.zero_le _, Nat.zero_le _⟩ ?_
  refine go_putI flX1_28 rfl rfl h0 41 dX1_keep_38 rfl ?_
  refine go_nmM (fun M4 => ?_)
  exact go_vret rfl dX1_keep_41
theorem m_X1_keep {l : Launch} {G : mG} {sk : List mS} (w : Nat) (o0 : Nat) (h0 : isK o0 11) (o1 : Nat) (h1 : isK o1 19) (M : mM) : Mt l G sk yX1_keep muX1_keep 2 [.ref (gB G + o0), .ref (gB G + o1)] M eV (f_X1_keep w o0 o1 M) := Mt.of (by decide) rfl (Nat.le_of_ble_eq_true rfl) (s_X1_keep w o0 h0 o1 h1 M)
theorem dX1_bringBack_0 : decode cX1_bringBack 0 = .ok (.aload_n 0, 1) := by decide +kernel
theorem dX1_bringBack_1 : decode cX1_bringBack 1 = .ok (.getfield 28, 3) := by decide +kernel
theorem dX1_bringBack_4 : decode cX1_bringBack 4 = .ok (.ifCond .ne 5, 3) := by decide +kernel
theorem dX1_bringBack_7 : decode cX1_bringBack 7 = .ok (.iconst 0, 1) := by decide +kernel
theorem dX1_bringBack_8 : decode cX1_bringBack 8 = .ok (.ireturn, 1) := by decide +kernel
theorem dX1_bringBack_9 : decode cX1_bringBack 9 = .ok (.aload_n 1, 1) := by decide +kernel
theorem dX1_bringBack_10 : decode cX1_bringBack 10 = .ok (.aload_n 0, 1) := by decide +kernel
theorem dX1_bringBack_11 : decode cX1_bringBack 11 = .ok (.getfield 11, 3) := by decide +kernel
theorem dX1_bringBack_14 : decode cX1_bringBack 14 = .ok (.aload_n 0, 1) := by decide +kernel
theorem dX1_bringBack_15 : decode cX1_bringBack 15 = .ok (.getfield 20, 3) := by decide +kernel
theorem dX1_bringBack_18 : decode cX1_bringBack 18 = .ok (.aaload, 1) := by decide +kernel
theorem dX1_bringBack_19 : decode cX1_bringBack 19 = .ok (.invokevirtual 24, 3) := by decide +kernel
theorem dX1_bringBack_22 : decode cX1_bringBack 22 = .ok (.aload_n 0, 1) := by decide +kernel
theorem dX1_bringBack_23 : decode cX1_bringBack 23 = .ok (.aload_n 0, 1) := by decide +kernel
theorem dX1_bringBack_24 : decode cX1_bringBack 24 = .ok (.getfield 20, 3) := by decide +kernel
theorem dX1_bringBack_27 : decode cX1_bringBack 27 = .ok (.bipush 16, 2) := by decide +kernel
theorem dX1_bringBack_29 : decode cX1_bringBack 29 = .ok (.iadd, 1) := by decide +kernel
theorem dX1_bringBack_30 : decode cX1_bringBack 30 = .ok (.iconst 1, 1) := by decide +kernel
theorem dX1_bringBack_31 : decode cX1_bringBack 31 = .ok (.isub, 1) := by decide +kernel
theorem dX1_bringBack_32 : decode cX1_bringBack 32 = .ok (.bipush 16, 2) := by decide +kernel
theorem dX1_bringBack_34 : decode cX1_bringBack 34 = .ok (.irem, 1) := by decide +kernel
theorem dX1_bringBack_35 : decode cX1_bringBack 35 = .ok (.putfield 20, 3) := by decide +kernel
theorem dX1_bringBack_38 : decode cX1_bringBack 38 = .ok (.aload_n 0, 1) := by decide +kernel
theorem dX1_bringBack_39 : decode cX1_bringBack 39 = .ok (.dup, 1) := by decide +kernel
theorem dX1_bringBack_40 : decode cX1_bringBack 40 = .ok (.getfield 28, 3) := by decide +kernel
theorem dX1_bringBack_43 : decode cX1_bringBack 43 = .ok (.iconst 1, 1) := by decide +kernel
theorem dX1_bringBack_44 : decode cX1_bringBack 44 = .ok (.isub, 1) := by decide +kernel
theorem dX1_bringBack_45 : decode cX1_bringBack 45 = .ok (.putfield 28, 3) := by decide +kernel
theorem dX1_bringBack_48 : decode cX1_bringBack 48 = .ok (.iconst 1, 1) := by decide +kernel
theorem dX1_bringBack_49 : decode cX1_bringBack 49 = .ok (.ireturn, 1) := by decide +kernel
def f_X1_bringBack (w : Nat) (o0 : Nat) (o1 : Nat) (M : mM) : Option (Int32 × mM) := (if (M.1 o0 2) = 0 then rtB 0 M else chk (M.1 o0 1) (sL (rF o0 0)) (bV (f_X9_copyFrom w o1 (rA (rF o0 0) (M.1 o0 1).toNatClampNeg) M) fun M2 => if (16 : Int32) = 0 then none else (lt (wI M2 o0 1 ((((M2.1 o0 1) + 16) - 1) - (((M2.1 o0 1) + 16) - 1) / 16 * 16)) fun M3 => lt (wI M3 o0 2 ((M3.1 o0 2) - 1)) fun M4 => rtB 1 M4)))
set_option maxHeartbeats 4000000 in
set_option maxRecDepth 100000 in
theorem s_X1_bringBack {l : Launch} {G : mG} {sk : List mS} (w : Nat) (o0 : Nat) (h0 : isK o0 11) (o1 : Nat) (h1 : isK o1 19) (M : mM) : Go muX1_bringBack (rm 2) 0 0 l G sk (mFin G sk eI) (f_X1_bringBack w o0 o1 M) 0 [(0, .ref (gB G + o0)), (1, .ref (gB G + o1))] [] M := by
  unfold f_X1_bringBack
  refine go_aload_n 0 1 dX1_bringBack_0 rfl rfl ?_
  refine go_getI flX1_28 (by decide) h0 4 dX1_bringBack_1 rfl ?_
  refine go_if_ne 9 7 dX1_bringBack_4 rfl (by decide) (fun _ => ?_) (fun _ => ?_)
  · refine go_aload_n 1 10 dX1_bringBack_9 rfl rfl ?_
    refine go_aload_n 0 11 dX1_bringBack_10 rfl rfl ?_
    refine go_getR flX1_11 h0 14 dX1_bringBack_11 rfl ?_
    refine go_aload_n 0 15 dX1_bringBack_14 rfl rfl ?_
    refine go_getI flX1_20 (by decide) h0 18 dX1_bringBack_15 rfl ?_
    refine go_aald (rk1_0 h0) (by decide) 19 dX1_bringBack_18 rfl (fun j1 => ?_)
    refine go_cVV1 1 clX9 cwX1_24 (m_X9_copyFrom w o1 h1 (rA (rF o0 0) (M.1 o0 1).toNatClampNeg) (re4 (rk1_0 h0) j1) M) h1 22 dX1_bringBack_19 rfl ⟨Nat.le_of_ble_eq_true rfl, Nat.le_of_ble_eq_true rfl⟩ ⟨Nat.zero_le _, Nat.zero_le _⟩ (Nat.le_of_ble_eq_true rfl) (fun M2 _ => ?_)
    refine go_aload_n 0 23 dX1_bringBack_22 rfl rfl ?_
    refine go_aload_n 0 24 dX1_bringBack_23 rfl rfl ?_
    refine go_getI flX1_20 (by decide) h0 27 dX1_bringBack_24 rfl ?_
    refine go_bipush 16 29 dX1_bringBack_27 rfl (by decide) ?_
    refine go_iadd 30 dX1_bringBack_29 rfl ?_
    refine go_iconst 1 31 dX1_bringBack_30 rfl (by decide) ?_
    refine go_isub 32 dX1_bringBack_31 rfl ?_
    refine go_bipush 16 34 dX1_bringBack_32 rfl (by decide) ?_
    refine go_irem 35 dX1_bringBack_34 rfl ?_
    refine go_putI flX1_20 rfl rfl h0 38 dX1_bringBack_35 rfl ?_
    refine go_nmM (fun M3 => ?_)
    refine go_aload_n 0 39 dX1_bringBack_38 rfl rfl ?_
    refine go_dup 40 dX1_bringBack_39 rfl rfl ?_
    refine go_getI flX1_28 (by decide) h0 43 dX1_bringBack_40 rfl ?_
    refine go_iconst 1 44 dX1_bringBack_43 rfl (by decide) ?_
    refine go_isub 45 dX1_bringBack_44 rfl ?_
    refine go_putI flX1_28 rfl rfl h0 48 dX1_bringBack_45 rfl ?_
    refine go_nmM (fun M4 => ?_)
    refine go_iconst 1 49 dX1_bringBack_48 rfl (by decide) ?_
    exact go_zret rfl dX1_bringBack_49
  · refine go_iconst 0 8 dX1_bringBack_7 rfl (by decide) ?_
    exact go_zret rfl dX1_bringBack_8
theorem m_X1_bringBack {l : Launch} {G : mG} {sk : List mS} (w : Nat) (o0 : Nat) (h0 : isK o0 11) (o1 : Nat) (h1 : isK o1 19) (M : mM) : Mt l G sk yX1_bringBack muX1_bringBack 2 [.ref (gB G + o0), .ref (gB G + o1)] M eI (f_X1_bringBack w o0 o1 M) := Mt.of (by decide) rfl (Nat.le_of_ble_eq_true rfl) (s_X1_bringBack w o0 h0 o1 h1 M)
