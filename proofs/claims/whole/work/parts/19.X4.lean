theorem dX4_lay_0 : decode cX4_lay 0 = .ok (.aload_n 0, 1) := by decide +kernel
theorem dX4_lay_1 : decode cX4_lay 1 = .ok (.getfield 21, 3) := by decide +kernel
theorem dX4_lay_4 : decode cX4_lay 4 = .ok (.aload_n 1, 1) := by decide +kernel
theorem dX4_lay_5 : decode cX4_lay 5 = .ok (.invokevirtual 25, 3) := by decide +kernel
theorem dX4_lay_8 : decode cX4_lay 8 = .ok (.aload_n 0, 1) := by decide +kernel
theorem dX4_lay_9 : decode cX4_lay 9 = .ok (.getfield 10, 3) := by decide +kernel
theorem dX4_lay_12 : decode cX4_lay 12 = .ok (.aload_n 2, 1) := by decide +kernel
theorem dX4_lay_13 : decode cX4_lay 13 = .ok (.invokevirtual 29, 3) := by decide +kernel
theorem dX4_lay_16 : decode cX4_lay 16 = .ok (.aload_n 0, 1) := by decide +kernel
theorem dX4_lay_17 : decode cX4_lay 17 = .ok (.iconst 1, 1) := by decide +kernel
theorem dX4_lay_18 : decode cX4_lay 18 = .ok (.putfield 32, 3) := by decide +kernel
theorem dX4_lay_21 : decode cX4_lay 21 = .ok (.return_, 1) := by decide +kernel
def f_X4_lay (w : Nat) (o0 : Nat) (o1 : Nat) (o2 : Nat) (M : mM) : Option mM := bV (f_X9_copyFrom w (rF o0 0) o1 M) fun M1 => bV (f_X8_copyFrom w (rF o0 1) o2 M1) fun M2 => if (1 : Int32) = 0 ∨ (1 : Int32) = 1 then (lt (wI M2 o0 2 1) fun M3 => some M3) else none
set_option maxHeartbeats 4000000 in
set_option maxRecDepth 100000 in
theorem s_X4_lay {l : Launch} {G : mG} {sk : List mS} (w : Nat) (o0 : Nat) (h0 : isK o0 14) (o1 : Nat) (h1 : isK o1 19) (o2 : Nat) (h2 : isK o2 18) (M : mM) : Go muX4_lay (rm 2) 0 0 l G sk (mFin G sk eV) (f_X4_lay w o0 o1 o2 M) 0 [(0, .ref (gB G + o0)), (1, .ref (gB G + o1)), (2, .ref (gB G + o2))] [] M := by
  unfold f_X4_lay
  refine go_aload_n 0 1 dX4_lay_0 rfl rfl ?_
  refine go_getR flX4_21 h0 4 dX4_lay_1 rfl ?_
  refine go_aload_n 1 5 dX4_lay_4 rfl rfl ?_
  refine go_cVV1 1 clX9 cwX4_25 (m_X9_copyFrom w (rF o0 0) (rk4_0 h0) o1 h1 M) (rk4_0 h0) 8 dX4_lay_5 rfl ⟨Nat.le_of_ble_eq_true rfl, Nat.le_of_ble_eq_true rfl⟩ ⟨Nat.zero_le _, Nat.zero_le _⟩ (Nat.le_of_ble_eq_true rfl) (fun M1 _ => ?_)
  refine go_aload_n 0 9 dX4_lay_8 rfl rfl ?_
  refine go_getR flX4_10 h0 12 dX4_lay_9 rfl ?_
  refine go_aload_n 2 13 dX4_lay_12 rfl rfl ?_
  refine go_cVV1 1 clX8 cwX4_29 (m_X8_copyFrom w (rF o0 1) (rk4_1 h0) o2 h2 M1) (rk4_1 h0) 16 dX4_lay_13 rfl ⟨Nat.le_of_ble_eq_true rfl, Nat.le_of_ble_eq_true rfl⟩ ⟨Nat.zero_le _, Nat.zero_le _⟩ (Nat.le_of_ble_eq_true rfl) (fun M2 _ => ?_)
  refine go_aload_n 0 17 dX4_lay_16 rfl rfl ?_
  refine go_iconst 1 18 dX4_lay_17 rfl (by decide) ?_
  refine go_putZ flX4_32 rfl rfl h0 21 dX4_lay_18 rfl ?_
  refine go_nmM (fun M3 => ?_)
  exact go_vret rfl dX4_lay_21
theorem m_X4_lay {l : Launch} {G : mG} {sk : List mS} (w : Nat) (o0 : Nat) (h0 : isK o0 14) (o1 : Nat) (h1 : isK o1 19) (o2 : Nat) (h2 : isK o2 18) (M : mM) : Mt l G sk yX4_lay muX4_lay 2 [.ref (gB G + o0), .ref (gB G + o1), .ref (gB G + o2)] M eV (f_X4_lay w o0 o1 o2 M) := Mt.of (by decide) rfl (Nat.le_of_ble_eq_true rfl) (s_X4_lay w o0 h0 o1 h1 o2 h2 M)
theorem dX4_bringBack_0 : decode cX4_bringBack 0 = .ok (.aload_n 1, 1) := by decide +kernel
theorem dX4_bringBack_1 : decode cX4_bringBack 1 = .ok (.aload_n 0, 1) := by decide +kernel
theorem dX4_bringBack_2 : decode cX4_bringBack 2 = .ok (.getfield 21, 3) := by decide +kernel
theorem dX4_bringBack_5 : decode cX4_bringBack 5 = .ok (.invokevirtual 25, 3) := by decide +kernel
theorem dX4_bringBack_8 : decode cX4_bringBack 8 = .ok (.aload_n 2, 1) := by decide +kernel
theorem dX4_bringBack_9 : decode cX4_bringBack 9 = .ok (.aload_n 0, 1) := by decide +kernel
theorem dX4_bringBack_10 : decode cX4_bringBack 10 = .ok (.getfield 10, 3) := by decide +kernel
theorem dX4_bringBack_13 : decode cX4_bringBack 13 = .ok (.invokevirtual 29, 3) := by decide +kernel
theorem dX4_bringBack_16 : decode cX4_bringBack 16 = .ok (.return_, 1) := by decide +kernel
def f_X4_bringBack (w : Nat) (o0 : Nat) (o1 : Nat) (o2 : Nat) (M : mM) : Option mM := bV (f_X9_copyFrom w o1 (rF o0 0) M) fun M1 => bV (f_X8_copyFrom w o2 (rF o0 1) M1) fun M2 => some M2
set_option maxHeartbeats 4000000 in
set_option maxRecDepth 100000 in
theorem s_X4_bringBack {l : Launch} {G : mG} {sk : List mS} (w : Nat) (o0 : Nat) (h0 : isK o0 14) (o1 : Nat) (h1 : isK o1 19) (o2 : Nat) (h2 : isK o2 18) (M : mM) : Go muX4_bringBack (rm 2) 0 0 l G sk (mFin G sk eV) (f_X4_bringBack w o0 o1 o2 M) 0 [(0, .ref (gB G + o0)), (1, .ref (gB G + o1)), (2, .ref (gB G + o2))] [] M := by
  unfold f_X4_bringBack
  refine go_aload_n 1 1 dX4_bringBack_0 rfl rfl ?_
  refine go_aload_n 0 2 dX4_bringBack_1 rfl rfl ?_
  refine go_getR flX4_21 h0 5 dX4_bringBack_2 rfl ?_
  refine go_cVV1 1 clX9 cwX4_25 (m_X9_copyFrom w o1 h1 (rF o0 0) (rk4_0 h0) M) h1 8 dX4_bringBack_5 rfl ⟨Nat.le_of_ble_eq_true rfl, Nat.le_of_ble_eq_true rfl⟩ ⟨Nat.zero_le _, Nat.zero_le _⟩ (Nat.le_of_ble_eq_true rfl) (fun M1 _ => ?_)
  refine go_aload_n 2 9 dX4_bringBack_8 rfl rfl ?_
  refine go_aload_n 0 10 dX4_bringBack_9 rfl rfl ?_
  refine go_getR flX4_10 h0 13 dX4_bringBack_10 rfl ?_
  refine go_cVV1 1 clX8 cwX4_29 (m_X8_copyFrom w o2 h2 (rF o0 1) (rk4_1 h0) M1) h2 16 dX4_bringBack_13 rfl ⟨Nat.le_of_ble_eq_true rfl, Nat.le_of_ble_eq_true rfl⟩ ⟨Nat.zero_le _, Nat.zero_le _⟩ (Nat.le_of_ble_eq_true rfl) (fun M2 _ => ?_)
  exact go_vret rfl dX4_bringBack_16
theorem m_X4_bringBack {l : Launch} {G : mG} {sk : List mS} (w : Nat) (o0 : Nat) (h0 : isK o0 14) (o1 : Nat) (h1 : isK o1 19) (o2 : Nat) (h2 : isK o2 18) (M : mM) : Mt l G sk yX4_bringBack muX4_bringBack 2 [.ref (gB G + o0), .ref (gB G + o1), .ref (gB G + o2)] M eV (f_X4_bringBack w o0 o1 o2 M) := Mt.of (by decide) rfl (Nat.le_of_ble_eq_true rfl) (s_X4_bringBack w o0 h0 o1 h1 o2 h2 M)
