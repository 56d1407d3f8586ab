theorem dX2_isNewName_0 : decode cX2_isNewName 0 = .ok (.aload_n 0, 1) := by decide +kernel
theorem dX2_isNewName_1 : decode cX2_isNewName 1 = .ok (.getfield 9, 3) := by decide +kernel
theorem dX2_isNewName_4 : decode cX2_isNewName 4 = .ok (.invokevirtual 151, 3) := by decide +kernel
theorem dX2_isNewName_7 : decode cX2_isNewName 7 = .ok (.ifCond .ne 12, 3) := by decide +kernel
theorem dX2_isNewName_10 : decode cX2_isNewName 10 = .ok (.aload_n 0, 1) := by decide +kernel
theorem dX2_isNewName_11 : decode cX2_isNewName 11 = .ok (.getfield 9, 3) := by decide +kernel
theorem dX2_isNewName_14 : decode cX2_isNewName 14 = .ok (.iconst 1, 1) := by decide +kernel
theorem dX2_isNewName_15 : decode cX2_isNewName 15 = .ok (.invokevirtual 65, 3) := by decide +kernel
theorem dX2_isNewName_18 : decode cX2_isNewName 18 = .ok (.ireturn, 1) := by decide +kernel
theorem dX2_isNewName_19 : decode cX2_isNewName 19 = .ok (.aload_n 1, 1) := by decide +kernel
theorem dX2_isNewName_20 : decode cX2_isNewName 20 = .ok (.aload_n 0, 1) := by decide +kernel
theorem dX2_isNewName_21 : decode cX2_isNewName 21 = .ok (.getfield 9, 3) := by decide +kernel
theorem dX2_isNewName_24 : decode cX2_isNewName 24 = .ok (.getfield 78, 3) := by decide +kernel
theorem dX2_isNewName_27 : decode cX2_isNewName 27 = .ok (.invokevirtual 155, 3) := by decide +kernel
theorem dX2_isNewName_30 : decode cX2_isNewName 30 = .ok (.iconst (-1), 1) := by decide +kernel
theorem dX2_isNewName_31 : decode cX2_isNewName 31 = .ok (.if_icmp .ne 18, 3) := by decide +kernel
theorem dX2_isNewName_34 : decode cX2_isNewName 34 = .ok (.aload_n 1, 1) := by decide +kernel
theorem dX2_isNewName_35 : decode cX2_isNewName 35 = .ok (.aload_n 0, 1) := by decide +kernel
theorem dX2_isNewName_36 : decode cX2_isNewName 36 = .ok (.getfield 9, 3) := by decide +kernel
theorem dX2_isNewName_39 : decode cX2_isNewName 39 = .ok (.getfield 78, 3) := by decide +kernel
theorem dX2_isNewName_42 : decode cX2_isNewName 42 = .ok (.invokevirtual 159, 3) := by decide +kernel
theorem dX2_isNewName_45 : decode cX2_isNewName 45 = .ok (.iconst (-1), 1) := by decide +kernel
theorem dX2_isNewName_46 : decode cX2_isNewName 46 = .ok (.if_icmp .eq 12, 3) := by decide +kernel
theorem dX2_isNewName_49 : decode cX2_isNewName 49 = .ok (.aload_n 0, 1) := by decide +kernel
theorem dX2_isNewName_50 : decode cX2_isNewName 50 = .ok (.getfield 9, 3) := by decide +kernel
theorem dX2_isNewName_53 : decode cX2_isNewName 53 = .ok (.iconst 3, 1) := by decide +kernel
theorem dX2_isNewName_54 : decode cX2_isNewName 54 = .ok (.invokevirtual 65, 3) := by decide +kernel
theorem dX2_isNewName_57 : decode cX2_isNewName 57 = .ok (.ireturn, 1) := by decide +kernel
theorem dX2_isNewName_58 : decode cX2_isNewName 58 = .ok (.iconst 1, 1) := by decide +kernel
theorem dX2_isNewName_59 : decode cX2_isNewName 59 = .ok (.ireturn, 1) := by decide +kernel
def f_X2_isNewName_49 (w : Nat) (o0 : Nat) (M : mM) : Option (Int32 × mM) := bI (f_X10_refuse w (rF o0 0) 3 M) fun q2 M1 => rtB q2 M1
set_option maxHeartbeats 4000000 in
set_option maxRecDepth 100000 in
theorem s_X2_isNewName_49 {l : Launch} {G : mG} {sk : List mS} (w : Nat) (o0 : Nat) (h0 : isK o0 12) (M : mM) : Go muX2_isNewName (rm 1) 0 0 l G sk (mFin G sk eI) (f_X2_isNewName_49 w o0 M) 49 [(0, .ref (gB G + o0))] [] M := by
  unfold f_X2_isNewName_49
  refine go_aload_n 0 50 dX2_isNewName_49 rfl rfl ?_
  refine go_getR flX2_9 h0 53 dX2_isNewName_50 rfl ?_
  refine go_iconst 3 54 dX2_isNewName_53 rfl (by decide) ?_
  refine go_cVI1 0 clX10 cwX2_65 (m_X10_refuse w (rF o0 0) (rk2_0 h0) 3 M) (rk2_0 h0) 57 dX2_isNewName_54 rfl ⟨Nat.le_of_ble_eq_true rfl, Nat.le_of_ble_eq_true rfl⟩ ⟨Nat.zero_le _, Nat.zero_le _⟩ (Nat.le_of_ble_eq_true rfl) (fun q2 M1 _ => ?_)
  exact go_zret rfl dX2_isNewName_57
def f_X2_isNewName (w : Nat) (o0 : Nat) (o1 : Nat) (M : mM) : Option (Int32 × mM) := bI (f_X10_isName w (rF o0 0) M) fun q2 M1 => (if q2 = 0 then bI (f_X10_refuse w (rF o0 0) 1 M1) fun q8 M7 => rtB q8 M7 else bI (f_X6_roomNamed w o1 (M1.2 (rF o0 0) 5) M1) fun q4 M3 => (if q4 = (-1) then bI (f_X6_personNamed w o1 (M3.2 (rF o0 0) 5) M3) fun q6 M5 => (if q6 = (-1) then rtB 1 M5 else (f_X2_isNewName_49 w o0 M5)) else (f_X2_isNewName_49 w o0 M3)))
set_option maxHeartbeats 4000000 in
set_option maxRecDepth 100000 in
theorem s_X2_isNewName {l : Launch} {G : mG} {sk : List mS} (w : Nat) (o0 : Nat) (h0 : isK o0 12) (o1 : Nat) (h1 : isK o1 16) (M : mM) : Go muX2_isNewName (rm 1) 0 0 l G sk (mFin G sk eI) (f_X2_isNewName w o0 o1 M) 0 [(0, .ref (gB G + o0)), (1, .ref (gB G + o1))] [] M := by
  unfold f_X2_isNewName
  refine go_aload_n 0 1 dX2_isNewName_0 rfl rfl ?_
  refine go_getR flX2_9 h0 4 dX2_isNewName_1 rfl ?_
  refine go_cVI0 0 clX10 cwX2_151 (m_X10_isName w (rF o0 0) (rk2_0 h0) M) (rk2_0 h0) 7 dX2_isNewName_4 rfl ⟨Nat.le_of_ble_eq_true rfl, Nat.le_of_ble_eq_true rfl⟩ ⟨Nat.zero_le _, Nat.zero_le _⟩ (Nat.le_of_ble_eq_true rfl) (fun q2 M1 _ => ?_)
  refine go_if_ne 19 10 dX2_isNewName_7 rfl (by decide) (fun _ => ?_) (fun _ => ?_)
  · refine go_aload_n 1 20 dX2_isNewName_19 rfl rfl ?_
    refine go_aload_n 0 21 dX2_isNewName_20 rfl rfl ?_
    refine go_getR flX2_9 h0 24 dX2_isNewName_21 rfl ?_
    refine go_getL flX2_78 (rk2_0 h0) 27 dX2_isNewName_24 rfl ?_
    refine go_cVI1 0 clX6 cwX2_155 (m_X6_roomNamed w o1 h1 (M1.2 (rF o0 0) 5) M1) h1 30 dX2_isNewName_27 rfl ⟨Nat.le_of_ble_eq_true rfl, Nat.le_of_ble_eq_true rfl⟩ ⟨Nat.zero_le _, Nat.zero_le _⟩ (Nat.le_of_ble_eq_true rfl) (fun q4 M3 _ => ?_)
    refine go_iconst (-1) 31 dX2_isNewName_30 rfl (by decide) ?_
    refine go_icmp_ne 49 34 dX2_isNewName_31 rfl (by decide) (fun _ => ?_) (fun _ => ?_)
    · exact go_lv [0] rfl (s_X2_isNewName_49 w o0 h0 M3)
    · refine go_aload_n 1 35 dX2_isNewName_34 rfl rfl ?_
      refine go_aload_n 0 36 dX2_isNewName_35 rfl rfl ?_
      refine go_getR flX2_9 h0 39 dX2_isNewName_36 rfl ?_
      refine go_getL flX2_78 (rk2_0 h0) 42 dX2_isNewName_39 rfl ?_
      refine go_cVI1 0 clX6 cwX2_159 (m_X6_personNamed w o1 h1 (M3.2 (rF o0 0) 5) M3) h1 45 dX2_isNewName_42 rfl ⟨Nat.le_of_ble_eq_true rfl, Nat.le_of_ble_eq_true rfl⟩ ⟨Nat.zero_le _, Nat.zero_le _⟩ (Nat.le_of_ble_eq_true rfl) (fun q6 M5 _ => ?_)
      refine go_iconst (-1) 46 dX2_isNewName_45 rfl (by decide) ?_
      refine go_icmp_eq 58 49 dX2_isNewName_46 rfl (by decide) (fun _ => ?_) (fun _ => ?_)
      · refine go_iconst 1 59 dX2_isNewName_58 rfl (by decide) ?_
        exact go_zret rfl dX2_isNewName_59
      · exact go_lv [0] rfl (s_X2_isNewName_49 w o0 h0 M5)
  · refine go_aload_n 0 11 dX2_isNewName_10 rfl rfl ?_
    refine go_getR flX2_9 h0 14 dX2_isNewName_11 rfl ?_
    refine go_iconst 1 15 dX2_isNewName_14 rfl (by decide) ?_
    refine go_cVI1 0 clX10 cwX2_65 (m_X10_refuse w (rF o0 0) (rk2_0 h0) 1 M1) (rk2_0 h0) 18 dX2_isNewName_15 rfl ⟨Nat.le_of_ble_eq_true rfl, Nat.le_of_ble_eq_true rfl⟩ ⟨Nat.zero_le _, Nat.zero_le _⟩ (Nat.le_of_ble_eq_true rfl) (fun q8 M7 _ => ?_)
    exact go_zret rfl dX2_isNewName_18
theorem m_X2_isNewName {l : Launch} {G : mG} {sk : List mS} (w : Nat) (o0 : Nat) (h0 : isK o0 12) (o1 : Nat) (h1 : isK o1 16) (M : mM) : Mt l G sk yX2_isNewName muX2_isNewName 1 [.ref (gB G + o0), .ref (gB G + o1)] M eI (f_X2_isNewName w o0 o1 M) := Mt.of (by decide) rfl (Nat.le_of_ble_eq_true rfl) (s_X2_isNewName w o0 h0 o1 h1 M)
theorem dX2_readRoom_0 : decode cX2_readRoom 0 = .ok (.aload_n 1, 1) := by decide +kernel
theorem dX2_readRoom_1 : decode cX2_readRoom 1 = .ok (.getfield 69, 3) := by decide +kernel
theorem dX2_readRoom_4 : decode cX2_readRoom 4 = .ok (.bipush 7, 2) := by decide +kernel
theorem dX2_readRoom_6 : decode cX2_readRoom 6 = .ok (.if_icmp .lt 12, 3) := by decide +kernel
theorem dX2_readRoom_9 : decode cX2_readRoom 9 = .ok (.aload_n 0, 1) := by decide +kernel
theorem dX2_readRoom_10 : decode cX2_readRoom 10 = .ok (.getfield 9, 3) := by decide +kernel
theorem dX2_readRoom_13 : decode cX2_readRoom 13 = .ok (.iconst 5, 1) := by decide +kernel
theorem dX2_readRoom_14 : decode cX2_readRoom 14 = .ok (.invokevirtual 65, 3) := by decide +kernel
theorem dX2_readRoom_17 : decode cX2_readRoom 17 = .ok (.ireturn, 1) := by decide +kernel
theorem dX2_readRoom_18 : decode cX2_readRoom 18 = .ok (.aload_n 0, 1) := by decide +kernel
theorem dX2_readRoom_19 : decode cX2_readRoom 19 = .ok (.getfield 9, 3) := by decide +kernel
theorem dX2_readRoom_22 : decode cX2_readRoom 22 = .ok (.invokevirtual 72, 3) := by decide +kernel
theorem dX2_readRoom_25 : decode cX2_readRoom 25 = .ok (.aload_n 0, 1) := by decide +kernel
theorem dX2_readRoom_26 : decode cX2_readRoom 26 = .ok (.aload_n 1, 1) := by decide +kernel
theorem dX2_readRoom_27 : decode cX2_readRoom 27 = .ok (.invokevirtual 75, 3) := by decide +kernel
theorem dX2_readRoom_30 : decode cX2_readRoom 30 = .ok (.ifCond .ne 5, 3) := by decide +kernel
theorem dX2_readRoom_33 : decode cX2_readRoom 33 = .ok (.iconst 0, 1) := by decide +kernel
theorem dX2_readRoom_34 : decode cX2_readRoom 34 = .ok (.ireturn, 1) := by decide +kernel
theorem dX2_readRoom_35 : decode cX2_readRoom 35 = .ok (.aload_n 1, 1) := by decide +kernel
theorem dX2_readRoom_36 : decode cX2_readRoom 36 = .ok (.aload_n 0, 1) := by decide +kernel
theorem dX2_readRoom_37 : decode cX2_readRoom 37 = .ok (.getfield 9, 3) := by decide +kernel
theorem dX2_readRoom_40 : decode cX2_readRoom 40 = .ok (.getfield 78, 3) := by decide +kernel
theorem dX2_readRoom_43 : decode cX2_readRoom 43 = .ok (.invokevirtual 82, 3) := by decide +kernel
theorem dX2_readRoom_46 : decode cX2_readRoom 46 = .ok (.aload_n 0, 1) := by decide +kernel
theorem dX2_readRoom_47 : decode cX2_readRoom 47 = .ok (.getfield 9, 3) := by decide +kernel
theorem dX2_readRoom_50 : decode cX2_readRoom 50 = .ok (.invokevirtual 72, 3) := by decide +kernel
theorem dX2_readRoom_53 : decode cX2_readRoom 53 = .ok (.aload_n 0, 1) := by decide +kernel
theorem dX2_readRoom_54 : decode cX2_readRoom 54 = .ok (.getfield 9, 3) := by decide +kernel
theorem dX2_readRoom_57 : decode cX2_readRoom 57 = .ok (.bipush 59, 2) := by decide +kernel
theorem dX2_readRoom_59 : decode cX2_readRoom 59 = .ok (.invokevirtual 86, 3) := by decide +kernel
theorem dX2_readRoom_62 : decode cX2_readRoom 62 = .ok (.ireturn, 1) := by decide +kernel
def f_X2_readRoom (w : Nat) (o0 : Nat) (o1 : Nat) (M : mM) : Option (Int32 × mM) := (if (M.1 o1 0) < 7 then bV (f_X10_advance w (rF o0 0) M) fun M1 => bI (f_X2_isNewName w o0 o1 M1) fun q3 M2 => (if q3 = 0 then rtB 0 M2 else bV (f_X6_addRoom w o1 (M2.2 (rF o0 0) 5) M2) fun M4 => bV (f_X10_advance w (rF o0 0) M4) fun M5 => bI (f_X10_takeSign w (rF o0 0) 59 M5) fun q7 M6 => rtB q7 M6) else bI (f_X10_refuse w (rF o0 0) 5 M) fun q9 M8 => rtB q9 M8)
set_option maxHeartbeats 4000000 in
set_option maxRecDepth 100000 in
theorem s_X2_readRoom {l : Launch} {G : mG} {sk : List mS} (w : Nat) (o0 : Nat) (h0 : isK o0 12) (o1 : Nat) (h1 : isK o1 16) (M : mM) : Go muX2_readRoom (rm 4) 0 0 l G sk (mFin G sk eI) (f_X2_readRoom w o0 o1 M) 0 [(0, .ref (gB G + o0)), (1, .ref (gB G + o1))] [] M := by
  unfold f_X2_readRoom
  refine go_aload_n 1 1 dX2_readRoom_0 rfl rfl ?_
  refine go_getI flX2_69 (by decide) h1 4 dX2_readRoom_1 rfl ?_
  refine go_bipush 7 6 dX2_readRoom_4 rfl (by decide) ?_
  refine go_icmp_lt 18 9 dX2_readRoom_6 rfl (by decide) (fun _ => ?_) (fun _ => ?_)
  · refine go_aload_n 0 19 dX2_readRoom_18 rfl rfl ?_
    refine go_getR flX2_9 h0 22 dX2_readRoom_19 rfl ?_
    refine go_cVV0 2 clX10 cwX2_72 (m_X10_advance w (rF o0 0) (rk2_0 h0) M) (rk2_0 h0) 25 dX2_readRoom_22 rfl ⟨Nat.le_of_ble_eq_true rfl, Nat.le_of_ble_eq_true rfl⟩ ⟨Nat.zero_le _, Nat.zero_le _⟩ (Nat.le_of_ble_eq_true rfl) (fun M1 _ => ?_)
    refine go_aload_n 0 26 dX2_readRoom_25 rfl rfl ?_
    refine go_aload_n 1 27 dX2_readRoom_26 rfl rfl ?_
    refine go_cVI1 1 clX2 cwX2_75 (m_X2_isNewName w o0 h0 o1 h1 M1) h0 30 dX2_readRoom_27 rfl ⟨Nat.le_of_ble_eq_true rfl, Nat.le_of_ble_eq_true rfl⟩ ⟨Nat.zero_le _, Nat.zero_le _⟩ (Nat.le_of_ble_eq_true rfl) (fun q3 M2 _ => ?_)
    refine go_if_ne 35 33 dX2_readRoom_30 rfl (by decide) (fun _ => ?_) (fun _ => ?_)
    · refine go_aload_n 1 36 dX2_readRoom_35 rfl rfl ?_
      refine go_aload_n 0 37 dX2_readRoom_36 rfl rfl ?_
      refine go_getR flX2_9 h0 40 dX2_readRoom_37 rfl ?_
      refine go_getL flX2_78 (rk2_0 h0) 43 dX2_readRoom_40 rfl ?_
      refine go_cVV1 0 clX6 cwX2_82 (m_X6_addRoom w o1 h1 (M2.2 (rF o0 0) 5) M2) h1 46 dX2_readRoom_43 rfl ⟨Nat.le_of_ble_eq_true rfl, Nat.le_of_ble_eq_true rfl⟩ ⟨Nat.zero_le _, Nat.zero_le _⟩ (Nat.le_of_ble_eq_true rfl) (fun M4 _ => ?_)
      refine go_aload_n 0 47 dX2_readRoom_46 rfl rfl ?_
      refine go_getR flX2_9 h0 50 dX2_readRoom_47 rfl ?_
      refine go_cVV0 2 clX10 cwX2_72 (m_X10_advance w (rF o0 0) (rk2_0 h0) M4) (rk2_0 h0) 53 dX2_readRoom_50 rfl ⟨Nat.le_of_ble_eq_true rfl, Nat.le_of_ble_eq_true rfl⟩ ⟨Nat.zero_le _, Nat.zero_le _⟩ (Nat.le_of_ble_eq_true rfl) (fun M5 _ => ?_)
      refine go_aload_n 0 54 dX2_readRoom_53 rfl rfl ?_
      refine go_getR flX2_9 h0 57 dX2_readRoom_54 rfl ?_
      refine go_bipush 59 59 dX2_readRoom_57 rfl (by decide) ?_
      refine go_cVI1 3 clX10 cwX2_86 (m_X10_takeSign w (rF o0 0) (rk2_0 h0) 59 M5) (rk2_0 h0) 62 dX2_readRoom_59 rfl ⟨Nat.le_of_ble_eq_true rfl, Nat.le_of_ble_eq_true rfl⟩ ⟨Nat.zero_le _, Nat.zero_le _⟩ (Nat.le_of_ble_eq_true rfl) (fun q7 M6 _ => ?_)
      exact go_zret rfl dX2_readRoom_62
    · refine go_iconst 0 34 dX2_readRoom_33 rfl (by decide) ?_
      exact go_zret rfl dX2_readRoom_34
  · refine go_aload_n 0 10 dX2_readRoom_9 rfl rfl ?_
    refine go_getR flX2_9 h0 13 dX2_readRoom_10 rfl ?_
    refine go_iconst 5 14 dX2_readRoom_13 rfl (by decide) ?_
    refine go_cVI1 0 clX10 cwX2_65 (m_X10_refuse w (rF o0 0) (rk2_0 h0) 5 M) (rk2_0 h0) 17 dX2_readRoom_14 rfl ⟨Nat.le_of_ble_eq_true rfl, Nat.le_of_ble_eq_true rfl⟩ ⟨Nat.zero_le _, Nat.zero_le _⟩ (Nat.le_of_ble_eq_true rfl) (fun q9 M8 _ => ?_)
    exact go_zret rfl dX2_readRoom_17
theorem m_X2_readRoom {l : Launch} {G : mG} {sk : List mS} (w : Nat) (o0 : Nat) (h0 : isK o0 12) (o1 : Nat) (h1 : isK o1 16) (M : mM) : Mt l G sk yX2_readRoom muX2_readRoom 4 [.ref (gB G + o0), .ref (gB G + o1)] M eI (f_X2_readRoom w o0 o1 M) := Mt.of (by decide) rfl (Nat.le_of_ble_eq_true rfl) (s_X2_readRoom w o0 h0 o1 h1 M)
theorem dX2_roomTold_0 : decode cX2_roomTold 0 = .ok (.aload_n 0, 1) := by decide +kernel
theorem dX2_roomTold_1 : decode cX2_roomTold 1 = .ok (.getfield 9, 3) := by decide +kernel
theorem dX2_roomTold_4 : decode cX2_roomTold 4 = .ok (.invokevirtual 151, 3) := by decide +kernel
theorem dX2_roomTold_7 : decode cX2_roomTold 7 = .ok (.ifCond .eq 17, 3) := by decide +kernel
theorem dX2_roomTold_10 : decode cX2_roomTold 10 = .ok (.aload_n 1, 1) := by decide +kernel
theorem dX2_roomTold_11 : decode cX2_roomTold 11 = .ok (.aload_n 0, 1) := by decide +kernel
theorem dX2_roomTold_12 : decode cX2_roomTold 12 = .ok (.getfield 9, 3) := by decide +kernel
theorem dX2_roomTold_15 : decode cX2_roomTold 15 = .ok (.getfield 78, 3) := by decide +kernel
theorem dX2_roomTold_18 : decode cX2_roomTold 18 = .ok (.invokevirtual 155, 3) := by decide +kernel
theorem dX2_roomTold_21 : decode cX2_roomTold 21 = .ok (.goto 4, 3) := by decide +kernel
theorem dX2_roomTold_24 : decode cX2_roomTold 24 = .ok (.iconst (-1), 1) := by decide +kernel
theorem dX2_roomTold_25 : decode cX2_roomTold 25 = .ok (.istore_n 2, 1) := by decide +kernel
theorem dX2_roomTold_26 : decode cX2_roomTold 26 = .ok (.iload_n 2, 1) := by decide +kernel
theorem dX2_roomTold_27 : decode cX2_roomTold 27 = .ok (.iconst (-1), 1) := by decide +kernel
theorem dX2_roomTold_28 : decode cX2_roomTold 28 = .ok (.if_icmp .ne 26, 3) := by decide +kernel
theorem dX2_roomTold_31 : decode cX2_roomTold 31 = .ok (.aload_n 0, 1) := by decide +kernel
theorem dX2_roomTold_32 : decode cX2_roomTold 32 = .ok (.getfield 9, 3) := by decide +kernel
theorem dX2_roomTold_35 : decode cX2_roomTold 35 = .ok (.aload_n 0, 1) := by decide +kernel
theorem dX2_roomTold_36 : decode cX2_roomTold 36 = .ok (.getfield 9, 3) := by decide +kernel
theorem dX2_roomTold_39 : decode cX2_roomTold 39 = .ok (.invokevirtual 151, 3) := by decide +kernel
theorem dX2_roomTold_42 : decode cX2_roomTold 42 = .ok (.ifCond .eq 7, 3) := by decide +kernel
theorem dX2_roomTold_45 : decode cX2_roomTold 45 = .ok (.iconst 2, 1) := by decide +kernel
theorem dX2_roomTold_46 : decode cX2_roomTold 46 = .ok (.goto 4, 3) := by decide +kernel
theorem dX2_roomTold_49 : decode cX2_roomTold 49 = .ok (.iconst 1, 1) := by decide +kernel
theorem dX2_roomTold_50 : decode cX2_roomTold 50 = .ok (.invokevirtual 65, 3) := by decide +kernel
theorem dX2_roomTold_53 : decode cX2_roomTold 53 = .ok (.pop, 1) := by decide +kernel
theorem dX2_roomTold_54 : decode cX2_roomTold 54 = .ok (.iload_n 2, 1) := by decide +kernel
theorem dX2_roomTold_55 : decode cX2_roomTold 55 = .ok (.ireturn, 1) := by decide +kernel
def f_X2_roomTold_50 (w : Nat) (x2 : Int32) (xs0 : Int32) (os1 : Nat) (M : mM) : Option (Int32 × mM) := bI (f_X10_refuse w os1 xs0 M) fun q2 M1 => some (x2, M1)
set_option maxHeartbeats 4000000 in
set_option maxRecDepth 100000 in
theorem s_X2_roomTold_50 {l : Launch} {G : mG} {sk : List mS} (w : Nat) (x2 : Int32) (xs0 : Int32) (os1 : Nat) (hs1 : isK os1 20) (M : mM) : Go muX2_roomTold (rm 1) 0 0 l G sk (mFin G sk eI) (f_X2_roomTold_50 w x2 xs0 os1 M) 50 [(2, .int x2)] [.int xs0, .ref (gB G + os1)] M := by
  unfold f_X2_roomTold_50
  refine go_cVI1 0 clX10 cwX2_65 (m_X10_refuse w os1 hs1 xs0 M) hs1 53 dX2_roomTold_50 rfl ⟨Nat.le_of_ble_eq_true rfl, Nat.le_of_ble_eq_true rfl⟩ ⟨Nat.zero_le _, Nat.zero_le _⟩ (Nat.le_of_ble_eq_true rfl) (fun q2 M1 _ => ?_)
  refine go_pop 54 dX2_roomTold_53 rfl rfl ?_
  refine go_iload_n 0 55 dX2_roomTold_54 rfl rfl ?_
  exact go_iret rfl dX2_roomTold_55
def f_X2_roomTold_25 (w : Nat) (o0 : Nat) (xs0 : Int32) (M : mM) : Option (Int32 × mM) := (if xs0 = (-1) then bI (f_X10_isName w (rF o0 0) M) fun q2 M1 => (if q2 = 0 then (f_X2_roomTold_50 w xs0 1 (rF o0 0) M1) else (f_X2_roomTold_50 w xs0 2 (rF o0 0) M1)) else some (xs0, M))
set_option maxHeartbeats 4000000 in
set_option maxRecDepth 100000 in
theorem s_X2_roomTold_25 {l : Launch} {G : mG} {sk : List mS} (w : Nat) (o0 : Nat) (h0 : isK o0 12) (xs0 : Int32) (M : mM) : Go muX2_roomTold (rm 1) 0 0 l G sk (mFin G sk eI) (f_X2_roomTold_25 w o0 xs0 M) 25 [(0, .ref (gB G + o0))] [.int xs0] M := by
  unfold f_X2_roomTold_25
  refine go_istore_n [(2, .int xs0), (0, .ref (gB G + o0))] 26 dX2_roomTold_25 rfl rfl (by decide) rfl ?_
  refine go_iload_n 0 27 dX2_roomTold_26 rfl rfl ?_
  refine go_iconst (-1) 28 dX2_roomTold_27 rfl (by decide) ?_
  refine go_icmp_ne 54 31 dX2_roomTold_28 rfl (by decide) (fun _ => ?_) (fun _ => ?_)
  · refine go_iload_n 0 55 dX2_roomTold_54 rfl rfl ?_
    exact go_iret rfl dX2_roomTold_55
  · refine go_aload_n 1 32 dX2_roomTold_31 rfl rfl ?_
    refine go_getR flX2_9 h0 35 dX2_roomTold_32 rfl ?_
    refine go_aload_n 1 36 dX2_roomTold_35 rfl rfl ?_
    refine go_getR flX2_9 h0 39 dX2_roomTold_36 rfl ?_
    refine go_cVI0 0 clX10 cwX2_151 (m_X10_isName w (rF o0 0) (rk2_0 h0) M) (rk2_0 h0) 42 dX2_roomTold_39 rfl ⟨Nat.le_of_ble_eq_true rfl, Nat.le_of_ble_eq_true rfl⟩ ⟨Nat.zero_le _, Nat.zero_le _⟩ (Nat.le_of_ble_eq_true rfl) (fun q2 M1 _ => ?_)
    refine go_if_eq 49 45 dX2_roomTold_42 rfl (by decide) (fun _ => ?_) (fun _ => ?_)
    · refine go_iconst 1 50 dX2_roomTold_49 rfl (by decide) ?_
      exact go_lv [0] rfl (s_X2_roomTold_50 w xs0 1 (rF o0 0) (rk2_0 h0) M1)
    · refine go_iconst 2 46 dX2_roomTold_45 rfl (by decide) ?_
      refine go_goto 50 dX2_roomTold_46 (by decide) ?_
      exact go_lv [0] rfl (s_X2_roomTold_50 w xs0 2 (rF o0 0) (rk2_0 h0) M1)
def f_X2_roomTold (w : Nat) (o0 : Nat) (o1 : Nat) (M : mM) : Option (Int32 × mM) := bI (f_X10_isName w (rF o0 0) M) fun q2 M1 => (if q2 = 0 then (f_X2_roomTold_25 w o0 (-1) M1) else bI (f_X6_roomNamed w o1 (M1.2 (rF o0 0) 5) M1) fun q4 M3 => (f_X2_roomTold_25 w o0 q4 M3))
set_option maxHeartbeats 4000000 in
set_option maxRecDepth 100000 in
theorem s_X2_roomTold {l : Launch} {G : mG} {sk : List mS} (w : Nat) (o0 : Nat) (h0 : isK o0 12) (o1 : Nat) (h1 : isK o1 16) (M : mM) : Go muX2_roomTold (rm 1) 0 0 l G sk (mFin G sk eI) (f_X2_roomTold w o0 o1 M) 0 [(0, .ref (gB G + o0)), (1, .ref (gB G + o1))] [] M := by
  unfold f_X2_roomTold
  refine go_aload_n 0 1 dX2_roomTold_0 rfl rfl ?_
  refine go_getR flX2_9 h0 4 dX2_roomTold_1 rfl ?_
  refine go_cVI0 0 clX10 cwX2_151 (m_X10_isName w (rF o0 0) (rk2_0 h0) M) (rk2_0 h0) 7 dX2_roomTold_4 rfl ⟨Nat.le_of_ble_eq_true rfl, Nat.le_of_ble_eq_true rfl⟩ ⟨Nat.zero_le _, Nat.zero_le _⟩ (Nat.le_of_ble_eq_true rfl) (fun q2 M1 _ => ?_)
  refine go_if_eq 24 10 dX2_roomTold_7 rfl (by decide) (fun _ => ?_) (fun _ => ?_)
  · refine go_iconst (-1) 25 dX2_roomTold_24 rfl (by decide) ?_
    exact go_lv [0] rfl (s_X2_roomTold_25 w o0 h0 (-1) M1)
  · refine go_aload_n 1 11 dX2_roomTold_10 rfl rfl ?_
    refine go_aload_n 0 12 dX2_roomTold_11 rfl rfl ?_
    refine go_getR flX2_9 h0 15 dX2_roomTold_12 rfl ?_
    refine go_getL flX2_78 (rk2_0 h0) 18 dX2_roomTold_15 rfl ?_
    refine go_cVI1 0 clX6 cwX2_155 (m_X6_roomNamed w o1 h1 (M1.2 (rF o0 0) 5) M1) h1 21 dX2_roomTold_18 rfl ⟨Nat.le_of_ble_eq_true rfl, Nat.le_of_ble_eq_true rfl⟩ ⟨Nat.zero_le _, Nat.zero_le _⟩ (Nat.le_of_ble_eq_true rfl) (fun q4 M3 _ => ?_)
    refine go_goto 25 dX2_roomTold_21 (by decide) ?_
    exact go_lv [0] rfl (s_X2_roomTold_25 w o0 h0 q4 M3)
theorem m_X2_roomTold {l : Launch} {G : mG} {sk : List mS} (w : Nat) (o0 : Nat) (h0 : isK o0 12) (o1 : Nat) (h1 : isK o1 16) (M : mM) : Mt l G sk yX2_roomTold muX2_roomTold 1 [.ref (gB G + o0), .ref (gB G + o1)] M eI (f_X2_roomTold w o0 o1 M) := Mt.of (by decide) rfl (Nat.le_of_ble_eq_true rfl) (s_X2_roomTold w o0 h0 o1 h1 M)
theorem dX2_woodTold_0 : decode cX2_woodTold 0 = .ok (.aload_n 0, 1) := by decide +kernel
theorem dX2_woodTold_1 : decode cX2_woodTold 1 = .ok (.getfield 9, 3) := by decide +kernel
theorem dX2_woodTold_4 : decode cX2_woodTold 4 = .ok (.ldc2_w 162, 3) := by decide +kernel
theorem dX2_woodTold_7 : decode cX2_woodTold 7 = .ok (.invokevirtual 38, 3) := by decide +kernel
theorem dX2_woodTold_10 : decode cX2_woodTold 10 = .ok (.ifCond .eq 5, 3) := by decide +kernel
theorem dX2_woodTold_13 : decode cX2_woodTold 13 = .ok (.iconst 0, 1) := by decide +kernel
theorem dX2_woodTold_14 : decode cX2_woodTold 14 = .ok (.ireturn, 1) := by decide +kernel
theorem dX2_woodTold_15 : decode cX2_woodTold 15 = .ok (.aload_n 0, 1) := by decide +kernel
theorem dX2_woodTold_16 : decode cX2_woodTold 16 = .ok (.getfield 9, 3) := by decide +kernel
theorem dX2_woodTold_19 : decode cX2_woodTold 19 = .ok (.ldc2_w 164, 3) := by decide +kernel
theorem dX2_woodTold_22 : decode cX2_woodTold 22 = .ok (.invokevirtual 38, 3) := by decide +kernel
theorem dX2_woodTold_25 : decode cX2_woodTold 25 = .ok (.ifCond .eq 5, 3) := by decide +kernel
theorem dX2_woodTold_28 : decode cX2_woodTold 28 = .ok (.iconst 1, 1) := by decide +kernel
theorem dX2_woodTold_29 : decode cX2_woodTold 29 = .ok (.ireturn, 1) := by decide +kernel
theorem dX2_woodTold_30 : decode cX2_woodTold 30 = .ok (.aload_n 0, 1) := by decide +kernel
theorem dX2_woodTold_31 : decode cX2_woodTold 31 = .ok (.getfield 9, 3) := by decide +kernel
theorem dX2_woodTold_34 : decode cX2_woodTold 34 = .ok (.ldc2_w 166, 3) := by decide +kernel
theorem dX2_woodTold_37 : decode cX2_woodTold 37 = .ok (.invokevirtual 38, 3) := by decide +kernel
theorem dX2_woodTold_40 : decode cX2_woodTold 40 = .ok (.ifCond .eq 5, 3) := by decide +kernel
theorem dX2_woodTold_43 : decode cX2_woodTold 43 = .ok (.iconst 2, 1) := by decide +kernel
theorem dX2_woodTold_44 : decode cX2_woodTold 44 = .ok (.ireturn, 1) := by decide +kernel
theorem dX2_woodTold_45 : decode cX2_woodTold 45 = .ok (.aload_n 0, 1) := by decide +kernel
theorem dX2_woodTold_46 : decode cX2_woodTold 46 = .ok (.getfield 9, 3) := by decide +kernel
theorem dX2_woodTold_49 : decode cX2_woodTold 49 = .ok (.ldc2_w 168, 3) := by decide +kernel
theorem dX2_woodTold_52 : decode cX2_woodTold 52 = .ok (.invokevirtual 38, 3) := by decide +kernel
theorem dX2_woodTold_55 : decode cX2_woodTold 55 = .ok (.ifCond .eq 7, 3) := by decide +kernel
theorem dX2_woodTold_58 : decode cX2_woodTold 58 = .ok (.iconst 3, 1) := by decide +kernel
theorem dX2_woodTold_59 : decode cX2_woodTold 59 = .ok (.goto 4, 3) := by decide +kernel
theorem dX2_woodTold_62 : decode cX2_woodTold 62 = .ok (.iconst (-1), 1) := by decide +kernel
theorem dX2_woodTold_63 : decode cX2_woodTold 63 = .ok (.ireturn, 1) := by decide +kernel
def f_X2_woodTold (w : Nat) (o0 : Nat) (M : mM) : Option (Int32 × mM) := bI (f_X10_isWord w (rF o0 0) 7299435 M) fun q2 M1 => (if q2 = 0 then bI (f_X10_isWord w (rF o0 0) 1885957733 M1) fun q4 M3 => (if q4 = 0 then bI (f_X10_isWord w (rF o0 0) 6646893 M3) fun q6 M5 => (if q6 = 0 then bI (f_X10_isWord w (rF o0 0) 1818848613 M5) fun q8 M7 => (if q8 = 0 then some ((-1), M7) else some (3, M7)) else some (2, M5)) else some (1, M3)) else some (0, M1))
set_option maxHeartbeats 4000000 in
set_option maxRecDepth 100000 in
theorem s_X2_woodTold {l : Launch} {G : mG} {sk : List mS} (w : Nat) (o0 : Nat) (h0 : isK o0 12) (M : mM) : Go muX2_woodTold (rm 1) 0 0 l G sk (mFin G sk eI) (f_X2_woodTold w o0 M) 0 [(0, .ref (gB G + o0))] [] M := by
  unfold f_X2_woodTold
  refine go_aload_n 0 1 dX2_woodTold_0 rfl rfl ?_
  refine go_getR flX2_9 h0 4 dX2_woodTold_1 rfl ?_
  refine go_ldc2 klX2_162 7 dX2_woodTold_4 rfl ?_
  refine go_cVI1 0 clX10 cwX2_38 (m_X10_isWord w (rF o0 0) (rk2_0 h0) 7299435 M) (rk2_0 h0) 10 dX2_woodTold_7 rfl ⟨Nat.le_of_ble_eq_true rfl, Nat.le_of_ble_eq_true rfl⟩ ⟨Nat.zero_le _, Nat.zero_le _⟩ (Nat.le_of_ble_eq_true rfl) (fun q2 M1 _ => ?_)
  refine go_if_eq 15 13 dX2_woodTold_10 rfl (by decide) (fun _ => ?_) (fun _ => ?_)
  · refine go_aload_n 0 16 dX2_woodTold_15 rfl rfl ?_
    refine go_getR flX2_9 h0 19 dX2_woodTold_16 rfl ?_
    refine go_ldc2 klX2_164 22 dX2_woodTold_19 rfl ?_
    refine go_cVI1 0 clX10 cwX2_38 (m_X10_isWord w (rF o0 0) (rk2_0 h0) 1885957733 M1) (rk2_0 h0) 25 dX2_woodTold_22 rfl ⟨Nat.le_of_ble_eq_true rfl, Nat.le_of_ble_eq_true rfl⟩ ⟨Nat.zero_le _, Nat.zero_le _⟩ (Nat.le_of_ble_eq_true rfl) (fun q4 M3 _ => ?_)
    refine go_if_eq 30 28 dX2_woodTold_25 rfl (by decide) (fun _ => ?_) (fun _ => ?_)
    · refine go_aload_n 0 31 dX2_woodTold_30 rfl rfl ?_
      refine go_getR flX2_9 h0 34 dX2_woodTold_31 rfl ?_
      refine go_ldc2 klX2_166 37 dX2_woodTold_34 rfl ?_
      refine go_cVI1 0 clX10 cwX2_38 (m_X10_isWord w (rF o0 0) (rk2_0 h0) 6646893 M3) (rk2_0 h0) 40 dX2_woodTold_37 rfl ⟨Nat.le_of_ble_eq_true rfl, Nat.le_of_ble_eq_true rfl⟩ ⟨Nat.zero_le _, Nat.zero_le _⟩ (Nat.le_of_ble_eq_true rfl) (fun q6 M5 _ => ?_)
      refine go_if_eq 45 43 dX2_woodTold_40 rfl (by decide) (fun _ => ?_) (fun _ => ?_)
      · refine go_aload_n 0 46 dX2_woodTold_45 rfl rfl ?_
        refine go_getR flX2_9 h0 49 dX2_woodTold_46 rfl ?_
        refine go_ldc2 klX2_168 52 dX2_woodTold_49 rfl ?_
        refine go_cVI1 0 clX10 cwX2_38 (m_X10_isWord w (rF o0 0) (rk2_0 h0) 1818848613 M5) (rk2_0 h0) 55 dX2_woodTold_52 rfl ⟨Nat.le_of_ble_eq_true rfl, Nat.le_of_ble_eq_true rfl⟩ ⟨Nat.zero_le _, Nat.zero_le _⟩ (Nat.le_of_ble_eq_true rfl) (fun q8 M7 _ => ?_)
        refine go_if_eq 62 58 dX2_woodTold_55 rfl (by decide) (fun _ => ?_) (fun _ => ?_)
        · refine go_iconst (-1) 63 dX2_woodTold_62 rfl (by decide) ?_
          exact go_iret rfl dX2_woodTold_63
        · refine go_iconst 3 59 dX2_woodTold_58 rfl (by decide) ?_
          refine go_goto 63 dX2_woodTold_59 (by decide) ?_
          exact go_iret rfl dX2_woodTold_63
      · refine go_iconst 2 44 dX2_woodTold_43 rfl (by decide) ?_
        exact go_iret rfl dX2_woodTold_44
    · refine go_iconst 1 29 dX2_woodTold_28 rfl (by decide) ?_
      exact go_iret rfl dX2_woodTold_29
  · refine go_iconst 0 14 dX2_woodTold_13 rfl (by decide) ?_
    exact go_iret rfl dX2_woodTold_14
theorem m_X2_woodTold {l : Launch} {G : mG} {sk : List mS} (w : Nat) (o0 : Nat) (h0 : isK o0 12) (M : mM) : Mt l G sk yX2_woodTold muX2_woodTold 1 [.ref (gB G + o0)] M eI (f_X2_woodTold w o0 M) := Mt.of (by decide) rfl (Nat.le_of_ble_eq_true rfl) (s_X2_woodTold w o0 h0 M)
theorem dX2_readDoor_0 : decode cX2_readDoor 0 = .ok (.aload_n 1, 1) := by decide +kernel
theorem dX2_readDoor_1 : decode cX2_readDoor 1 = .ok (.getfield 89, 3) := by decide +kernel
theorem dX2_readDoor_4 : decode cX2_readDoor 4 = .ok (.bipush 8, 2) := by decide +kernel
theorem dX2_readDoor_6 : decode cX2_readDoor 6 = .ok (.if_icmp .lt 12, 3) := by decide +kernel
theorem dX2_readDoor_9 : decode cX2_readDoor 9 = .ok (.aload_n 0, 1) := by decide +kernel
theorem dX2_readDoor_10 : decode cX2_readDoor 10 = .ok (.getfield 9, 3) := by decide +kernel
theorem dX2_readDoor_13 : decode cX2_readDoor 13 = .ok (.iconst 5, 1) := by decide +kernel
theorem dX2_readDoor_14 : decode cX2_readDoor 14 = .ok (.invokevirtual 65, 3) := by decide +kernel
theorem dX2_readDoor_17 : decode cX2_readDoor 17 = .ok (.ireturn, 1) := by decide +kernel
theorem dX2_readDoor_18 : decode cX2_readDoor 18 = .ok (.aload_n 0, 1) := by decide +kernel
theorem dX2_readDoor_19 : decode cX2_readDoor 19 = .ok (.getfield 9, 3) := by decide +kernel
theorem dX2_readDoor_22 : decode cX2_readDoor 22 = .ok (.invokevirtual 72, 3) := by decide +kernel
theorem dX2_readDoor_25 : decode cX2_readDoor 25 = .ok (.aload_n 0, 1) := by decide +kernel
theorem dX2_readDoor_26 : decode cX2_readDoor 26 = .ok (.aload_n 1, 1) := by decide +kernel
theorem dX2_readDoor_27 : decode cX2_readDoor 27 = .ok (.invokevirtual 92, 3) := by decide +kernel
theorem dX2_readDoor_30 : decode cX2_readDoor 30 = .ok (.istore_n 2, 1) := by decide +kernel
theorem dX2_readDoor_31 : decode cX2_readDoor 31 = .ok (.iload_n 2, 1) := by decide +kernel
theorem dX2_readDoor_32 : decode cX2_readDoor 32 = .ok (.iconst (-1), 1) := by decide +kernel
theorem dX2_readDoor_33 : decode cX2_readDoor 33 = .ok (.if_icmp .ne 5, 3) := by decide +kernel
theorem dX2_readDoor_36 : decode cX2_readDoor 36 = .ok (.iconst 0, 1) := by decide +kernel
theorem dX2_readDoor_37 : decode cX2_readDoor 37 = .ok (.ireturn, 1) := by decide +kernel
theorem dX2_readDoor_38 : decode cX2_readDoor 38 = .ok (.aload_n 0, 1) := by decide +kernel
theorem dX2_readDoor_39 : decode cX2_readDoor 39 = .ok (.getfield 9, 3) := by decide +kernel
theorem dX2_readDoor_42 : decode cX2_readDoor 42 = .ok (.invokevirtual 72, 3) := by decide +kernel
theorem dX2_readDoor_45 : decode cX2_readDoor 45 = .ok (.aload_n 0, 1) := by decide +kernel
theorem dX2_readDoor_46 : decode cX2_readDoor 46 = .ok (.aload_n 1, 1) := by decide +kernel
theorem dX2_readDoor_47 : decode cX2_readDoor 47 = .ok (.invokevirtual 92, 3) := by decide +kernel
theorem dX2_readDoor_50 : decode cX2_readDoor 50 = .ok (.istore_n 3, 1) := by decide +kernel
theorem dX2_readDoor_51 : decode cX2_readDoor 51 = .ok (.iload_n 3, 1) := by decide +kernel
theorem dX2_readDoor_52 : decode cX2_readDoor 52 = .ok (.iconst (-1), 1) := by decide +kernel
theorem dX2_readDoor_53 : decode cX2_readDoor 53 = .ok (.if_icmp .ne 5, 3) := by decide +kernel
theorem dX2_readDoor_56 : decode cX2_readDoor 56 = .ok (.iconst 0, 1) := by decide +kernel
theorem dX2_readDoor_57 : decode cX2_readDoor 57 = .ok (.ireturn, 1) := by decide +kernel
theorem dX2_readDoor_58 : decode cX2_readDoor 58 = .ok (.iload_n 3, 1) := by decide +kernel
theorem dX2_readDoor_59 : decode cX2_readDoor 59 = .ok (.iload_n 2, 1) := by decide +kernel
theorem dX2_readDoor_60 : decode cX2_readDoor 60 = .ok (.if_icmp .eq 12, 3) := by decide +kernel
theorem dX2_readDoor_63 : decode cX2_readDoor 63 = .ok (.aload_n 1, 1) := by decide +kernel
theorem dX2_readDoor_64 : decode cX2_readDoor 64 = .ok (.iload_n 2, 1) := by decide +kernel
theorem dX2_readDoor_65 : decode cX2_readDoor 65 = .ok (.iload_n 3, 1) := by decide +kernel
theorem dX2_readDoor_66 : decode cX2_readDoor 66 = .ok (.invokevirtual 96, 3) := by decide +kernel
theorem dX2_readDoor_69 : decode cX2_readDoor 69 = .ok (.ifCond .eq 12, 3) := by decide +kernel
theorem dX2_readDoor_72 : decode cX2_readDoor 72 = .ok (.aload_n 0, 1) := by decide +kernel
theorem dX2_readDoor_73 : decode cX2_readDoor 73 = .ok (.getfield 9, 3) := by decide +kernel
theorem dX2_readDoor_76 : decode cX2_readDoor 76 = .ok (.iconst 3, 1) := by decide +kernel
theorem dX2_readDoor_77 : decode cX2_readDoor 77 = .ok (.invokevirtual 65, 3) := by decide +kernel
theorem dX2_readDoor_80 : decode cX2_readDoor 80 = .ok (.ireturn, 1) := by decide +kernel
theorem dX2_readDoor_81 : decode cX2_readDoor 81 = .ok (.aload_n 0, 1) := by decide +kernel
theorem dX2_readDoor_82 : decode cX2_readDoor 82 = .ok (.getfield 9, 3) := by decide +kernel
theorem dX2_readDoor_85 : decode cX2_readDoor 85 = .ok (.invokevirtual 72, 3) := by decide +kernel
theorem dX2_readDoor_88 : decode cX2_readDoor 88 = .ok (.aload_n 0, 1) := by decide +kernel
theorem dX2_readDoor_89 : decode cX2_readDoor 89 = .ok (.invokevirtual 100, 3) := by decide +kernel
theorem dX2_readDoor_92 : decode cX2_readDoor 92 = .ok (.istore 4, 2) := by decide +kernel
theorem dX2_readDoor_94 : decode cX2_readDoor 94 = .ok (.iload 4, 2) := by decide +kernel
theorem dX2_readDoor_96 : decode cX2_readDoor 96 = .ok (.iconst (-1), 1) := by decide +kernel
theorem dX2_readDoor_97 : decode cX2_readDoor 97 = .ok (.if_icmp .ne 12, 3) := by decide +kernel
theorem dX2_readDoor_100 : decode cX2_readDoor 100 = .ok (.aload_n 0, 1) := by decide +kernel
theorem dX2_readDoor_101 : decode cX2_readDoor 101 = .ok (.getfield 9, 3) := by decide +kernel
theorem dX2_readDoor_104 : decode cX2_readDoor 104 = .ok (.iconst 1, 1) := by decide +kernel
theorem dX2_readDoor_105 : decode cX2_readDoor 105 = .ok (.invokevirtual 65, 3) := by decide +kernel
theorem dX2_readDoor_108 : decode cX2_readDoor 108 = .ok (.ireturn, 1) := by decide +kernel
theorem dX2_readDoor_109 : decode cX2_readDoor 109 = .ok (.aload_n 0, 1) := by decide +kernel
theorem dX2_readDoor_110 : decode cX2_readDoor 110 = .ok (.getfield 9, 3) := by decide +kernel
theorem dX2_readDoor_113 : decode cX2_readDoor 113 = .ok (.invokevirtual 72, 3) := by decide +kernel
theorem dX2_readDoor_116 : decode cX2_readDoor 116 = .ok (.aload_n 0, 1) := by decide +kernel
theorem dX2_readDoor_117 : decode cX2_readDoor 117 = .ok (.getfield 9, 3) := by decide +kernel
theorem dX2_readDoor_120 : decode cX2_readDoor 120 = .ok (.ldc2_w 104, 3) := by decide +kernel
theorem dX2_readDoor_123 : decode cX2_readDoor 123 = .ok (.invokevirtual 106, 3) := by decide +kernel
theorem dX2_readDoor_126 : decode cX2_readDoor 126 = .ok (.ifCond .ne 5, 3) := by decide +kernel
theorem dX2_readDoor_129 : decode cX2_readDoor 129 = .ok (.iconst 0, 1) := by decide +kernel
theorem dX2_readDoor_130 : decode cX2_readDoor 130 = .ok (.ireturn, 1) := by decide +kernel
theorem dX2_readDoor_131 : decode cX2_readDoor 131 = .ok (.aload_n 0, 1) := by decide +kernel
theorem dX2_readDoor_132 : decode cX2_readDoor 132 = .ok (.getfield 9, 3) := by decide +kernel
theorem dX2_readDoor_135 : decode cX2_readDoor 135 = .ok (.bipush 12, 2) := by decide +kernel
theorem dX2_readDoor_137 : decode cX2_readDoor 137 = .ok (.invokevirtual 109, 3) := by decide +kernel
theorem dX2_readDoor_140 : decode cX2_readDoor 140 = .ok (.istore 5, 2) := by decide +kernel
theorem dX2_readDoor_142 : decode cX2_readDoor 142 = .ok (.iload 5, 2) := by decide +kernel
theorem dX2_readDoor_144 : decode cX2_readDoor 144 = .ok (.iconst (-1), 1) := by decide +kernel
theorem dX2_readDoor_145 : decode cX2_readDoor 145 = .ok (.if_icmp .ne 5, 3) := by decide +kernel
theorem dX2_readDoor_148 : decode cX2_readDoor 148 = .ok (.iconst 0, 1) := by decide +kernel
theorem dX2_readDoor_149 : decode cX2_readDoor 149 = .ok (.ireturn, 1) := by decide +kernel
theorem dX2_readDoor_150 : decode cX2_readDoor 150 = .ok (.aload_n 1, 1) := by decide +kernel
theorem dX2_readDoor_151 : decode cX2_readDoor 151 = .ok (.iload_n 2, 1) := by decide +kernel
theorem dX2_readDoor_152 : decode cX2_readDoor 152 = .ok (.iload_n 3, 1) := by decide +kernel
theorem dX2_readDoor_153 : decode cX2_readDoor 153 = .ok (.iload 4, 2) := by decide +kernel
theorem dX2_readDoor_155 : decode cX2_readDoor 155 = .ok (.iload 5, 2) := by decide +kernel
theorem dX2_readDoor_157 : decode cX2_readDoor 157 = .ok (.invokevirtual 113, 3) := by decide +kernel
theorem dX2_readDoor_160 : decode cX2_readDoor 160 = .ok (.aload_n 0, 1) := by decide +kernel
theorem dX2_readDoor_161 : decode cX2_readDoor 161 = .ok (.getfield 9, 3) := by decide +kernel
theorem dX2_readDoor_164 : decode cX2_readDoor 164 = .ok (.bipush 59, 2) := by decide +kernel
theorem dX2_readDoor_166 : decode cX2_readDoor 166 = .ok (.invokevirtual 86, 3) := by decide +kernel
theorem dX2_readDoor_169 : decode cX2_readDoor 169 = .ok (.ireturn, 1) := by decide +kernel
def f_X2_readDoor_72 (w : Nat) (o0 : Nat) (M : mM) : Option (Int32 × mM) := bI (f_X10_refuse w (rF o0 0) 3 M) fun q2 M1 => rtB q2 M1
set_option maxHeartbeats 4000000 in
set_option maxRecDepth 100000 in
theorem s_X2_readDoor_72 {l : Launch} {G : mG} {sk : List mS} (w : Nat) (o0 : Nat) (h0 : isK o0 12) (M : mM) : Go muX2_readDoor (rm 4) 0 0 l G sk (mFin G sk eI) (f_X2_readDoor_72 w o0 M) 72 [(0, .ref (gB G + o0))] [] M := by
  unfold f_X2_readDoor_72
  refine go_aload_n 0 73 dX2_readDoor_72 rfl rfl ?_
  refine go_getR flX2_9 h0 76 dX2_readDoor_73 rfl ?_
  refine go_iconst 3 77 dX2_readDoor_76 rfl (by decide) ?_
  refine go_cVI1 0 clX10 cwX2_65 (m_X10_refuse w (rF o0 0) (rk2_0 h0) 3 M) (rk2_0 h0) 80 dX2_readDoor_77 rfl ⟨Nat.le_of_ble_eq_true rfl, Nat.le_of_ble_eq_true rfl⟩ ⟨Nat.zero_le _, Nat.zero_le _⟩ (Nat.le_of_ble_eq_true rfl) (fun q2 M1 _ => ?_)
  exact go_zret rfl dX2_readDoor_80
def f_X2_readDoor (w : Nat) (o0 : Nat) (o1 : Nat) (M : mM) : Option (Int32 × mM) := (if (M.1 o1 1) < 8 then bV (f_X10_advance w (rF o0 0) M) fun M1 => bI (f_X2_roomTold w o0 o1 M1) fun q3 M2 => (if q3 = (-1) then rtB 0 M2 else bV (f_X10_advance w (rF o0 0) M2) fun M4 => bI (f_X2_roomTold w o0 o1 M4) fun q6 M5 => (if q6 = (-1) then rtB 0 M5 else (if q6 = q3 then (f_X2_readDoor_72 w o0 M5) else bI (f_X6_hasDoorBetween w o1 q3 q6 M5) fun q8 M7 => (if q8 = 0 then bV (f_X10_advance w (rF o0 0) M7) fun M9 => bI (f_X2_woodTold w o0 M9) fun q11 M10 => (if q11 = (-1) then bI (f_X10_refuse w (rF o0 0) 1 M10) fun q21 M20 => rtB q21 M20 else bV (f_X10_advance w (rF o0 0) M10) fun M12 => bI (f_X10_takeWord w (rF o0 0) 6775152 M12) fun q14 M13 => (if q14 = 0 then rtB 0 M13 else bI (f_X10_takeNumber w (rF o0 0) 12 M13) fun q16 M15 => (if q16 = (-1) then rtB 0 M15 else bV (f_X6_addDoor w o1 q3 q6 q11 q16 M15) fun M17 => bI (f_X10_takeSign w (rF o0 0) 59 M17) fun q19 M18 => rtB q19 M18))) else (f_X2_readDoor_72 w o0 M7))))) else bI (f_X10_refuse w (rF o0 0) 5 M) fun q23 M22 => rtB q23 M22)
set_option maxHeartbeats 4000000 in
set_option maxRecDepth 100000 in
theorem s_X2_readDoor {l : Launch} {G : mG} {sk : List mS} (w : Nat) (o0 : Nat) (h0 : isK o0 12) (o1 : Nat) (h1 : isK o1 16) (M : mM) : Go muX2_readDoor (rm 4) 0 0 l G sk (mFin G sk eI) (f_X2_readDoor w o0 o1 M) 0 [(0, .ref (gB G + o0)), (1, .ref (gB G + o1))] [] M := by
  unfold f_X2_readDoor
  refine go_aload_n 1 1 dX2_readDoor_0 rfl rfl ?_
  refine go_getI flX2_89 (by decide) h1 4 dX2_readDoor_1 rfl ?_
  refine go_bipush 8 6 dX2_readDoor_4 rfl (by decide) ?_
  refine go_icmp_lt 18 9 dX2_readDoor_6 rfl (by decide) (fun _ => ?_) (fun _ => ?_)
  · refine go_aload_n 0 19 dX2_readDoor_18 rfl rfl ?_
    refine go_getR flX2_9 h0 22 dX2_readDoor_19 rfl ?_
    refine go_cVV0 2 clX10 cwX2_72 (m_X10_advance w (rF o0 0) (rk2_0 h0) M) (rk2_0 h0) 25 dX2_readDoor_22 rfl ⟨Nat.le_of_ble_eq_true rfl, Nat.le_of_ble_eq_true rfl⟩ ⟨Nat.zero_le _, Nat.zero_le _⟩ (Nat.le_of_ble_eq_true rfl) (fun M1 _ => ?_)
    refine go_aload_n 0 26 dX2_readDoor_25 rfl rfl ?_
    refine go_aload_n 1 27 dX2_readDoor_26 rfl rfl ?_
    refine go_cVI1 1 clX2 cwX2_92 (m_X2_roomTold w o0 h0 o1 h1 M1) h0 30 dX2_readDoor_27 rfl ⟨Nat.le_of_ble_eq_true rfl, Nat.le_of_ble_eq_true rfl⟩ ⟨Nat.zero_le _, Nat.zero_le _⟩ (Nat.le_of_ble_eq_true rfl) (fun q3 M2 _ => ?_)
    refine go_istore_n [(2, .int q3), (0, .ref (gB G + o0)), (1, .ref (gB G + o1))] 31 dX2_readDoor_30 rfl rfl (by decide) rfl ?_
    refine go_iload_n 0 32 dX2_readDoor_31 rfl rfl ?_
    refine go_iconst (-1) 33 dX2_readDoor_32 rfl (by decide) ?_
    refine go_icmp_ne 38 36 dX2_readDoor_33 rfl (by decide) (fun _ => ?_) (fun _ => ?_)
    · refine go_aload_n 1 39 dX2_readDoor_38 rfl rfl ?_
      refine go_getR flX2_9 h0 42 dX2_readDoor_39 rfl ?_
      refine go_cVV0 2 clX10 cwX2_72 (m_X10_advance w (rF o0 0) (rk2_0 h0) M2) (rk2_0 h0) 45 dX2_readDoor_42 rfl ⟨Nat.le_of_ble_eq_true rfl, Nat.le_of_ble_eq_true rfl⟩ ⟨Nat.zero_le _, Nat.zero_le _⟩ (Nat.le_of_ble_eq_true rfl) (fun M4 _ => ?_)
      refine go_aload_n 1 46 dX2_readDoor_45 rfl rfl ?_
      refine go_aload_n 2 47 dX2_readDoor_46 rfl rfl ?_
      refine go_cVI1 1 clX2 cwX2_92 (m_X2_roomTold w o0 h0 o1 h1 M4) h0 50 dX2_readDoor_47 rfl ⟨Nat.le_of_ble_eq_true rfl, Nat.le_of_ble_eq_true rfl⟩ ⟨Nat.zero_le _, Nat.zero_le _⟩ (Nat.le_of_ble_eq_true rfl) (fun q6 M5 _ => ?_)
      refine go_istore_n [(3, .int q6), (2, .int q3), (0, .ref (gB G + o0)), (1, .ref (gB G + o1))] 51 dX2_readDoor_50 rfl rfl (by decide) rfl ?_
      refine go_iload_n 0 52 dX2_readDoor_51 rfl rfl ?_
      refine go_iconst (-1) 53 dX2_readDoor_52 rfl (by decide) ?_
      refine go_icmp_ne 58 56 dX2_readDoor_53 rfl (by decide) (fun _ => ?_) (fun _ => ?_)
      · refine go_iload_n 0 59 dX2_readDoor_58 rfl rfl ?_
        refine go_iload_n 1 60 dX2_readDoor_59 rfl rfl ?_
        refine go_icmp_eq 72 63 dX2_readDoor_60 rfl (by decide) (fun _ => ?_) (fun _ => ?_)
        · exact go_lv [2] rfl (s_X2_readDoor_72 w o0 h0 M5)
        · refine go_aload_n 3 64 dX2_readDoor_63 rfl rfl ?_
          refine go_iload_n 1 65 dX2_readDoor_64 rfl rfl ?_
          refine go_iload_n 0 66 dX2_readDoor_65 rfl rfl ?_
          refine go_cVI2 1 clX6 cwX2_96 (m_X6_hasDoorBetween w o1 h1 q3 q6 M5) h1 69 dX2_readDoor_66 rfl ⟨Nat.le_of_ble_eq_true rfl, Nat.le_of_ble_eq_true rfl⟩ ⟨Nat.zero_le _, Nat.zero_le _⟩ (Nat.le_of_ble_eq_true rfl) (fun q8 M7 _ => ?_)
          refine go_if_eq 81 72 dX2_readDoor_69 rfl (by decide) (fun _ => ?_) (fun _ => ?_)
          · refine go_aload_n 2 82 dX2_readDoor_81 rfl rfl ?_
            refine go_getR flX2_9 h0 85 dX2_readDoor_82 rfl ?_
            refine go_cVV0 2 clX10 cwX2_72 (m_X10_advance w (rF o0 0) (rk2_0 h0) M7) (rk2_0 h0) 88 dX2_readDoor_85 rfl ⟨Nat.le_of_ble_eq_true rfl, Nat.le_of_ble_eq_true rfl⟩ ⟨Nat.zero_le _, Nat.zero_le _⟩ (Nat.le_of_ble_eq_true rfl) (fun M9 _ => ?_)
            refine go_aload_n 2 89 dX2_readDoor_88 rfl rfl ?_
            refine go_cVI0 1 clX2 cwX2_100 (m_X2_woodTold w o0 h0 M9) h0 92 dX2_readDoor_89 rfl ⟨Nat.le_of_ble_eq_true rfl, Nat.le_of_ble_eq_true rfl⟩ ⟨Nat.zero_le _, Nat.zero_le _⟩ (Nat.le_of_ble_eq_true rfl) (fun q11 M10 _ => ?_)
            refine go_istore [(4, .int q11), (3, .int q6), (2, .int q3), (0, .ref (gB G + o0)), (1, .ref (gB G + o1))] 94 dX2_readDoor_92 rfl (by decide) rfl ?_
            refine go_iload 0 96 dX2_readDoor_94 rfl rfl ?_
            refine go_iconst (-1) 97 dX2_readDoor_96 rfl (by decide) ?_
            refine go_icmp_ne 109 100 dX2_readDoor_97 rfl (by decide) (fun _ => ?_) (fun _ => ?_)
            · refine go_aload_n 3 110 dX2_readDoor_109 rfl rfl ?_
              refine go_getR flX2_9 h0 113 dX2_readDoor_110 rfl ?_
              refine go_cVV0 2 clX10 cwX2_72 (m_X10_advance w (rF o0 0) (rk2_0 h0) M10) (rk2_0 h0) 116 dX2_readDoor_113 rfl ⟨Nat.le_of_ble_eq_true rfl, Nat.le_of_ble_eq_true rfl⟩ ⟨Nat.zero_le _, Nat.zero_le _⟩ (Nat.le_of_ble_eq_true rfl) (fun M12 _ => ?_)
              refine go_aload_n 3 117 dX2_readDoor_116 rfl rfl ?_
              refine go_getR flX2_9 h0 120 dX2_readDoor_117 rfl ?_
              refine go_ldc2 klX2_104 123 dX2_readDoor_120 rfl ?_
              refine go_cVI1 3 clX10 cwX2_106 (m_X10_takeWord w (rF o0 0) (rk2_0 h0) 6775152 M12) (rk2_0 h0) 126 dX2_readDoor_123 rfl ⟨Nat.le_of_ble_eq_true rfl, Nat.le_of_ble_eq_true rfl⟩ ⟨Nat.zero_le _, Nat.zero_le _⟩ (Nat.le_of_ble_eq_true rfl) (fun q14 M13 _ => ?_)
              refine go_if_ne 131 129 dX2_readDoor_126 rfl (by decide) (fun _ => ?_) (fun _ => ?_)
              · refine go_aload_n 3 132 dX2_readDoor_131 rfl rfl ?_
                refine go_getR flX2_9 h0 135 dX2_readDoor_132 rfl ?_
                refine go_bipush 12 137 dX2_readDoor_135 rfl (by decide) ?_
                refine go_cVI1 3 clX10 cwX2_109 (m_X10_takeNumber w (rF o0 0) (rk2_0 h0) 12 M13) (rk2_0 h0) 140 dX2_readDoor_137 rfl ⟨Nat.le_of_ble_eq_true rfl, Nat.le_of_ble_eq_true rfl⟩ ⟨Nat.zero_le _, Nat.zero_le _⟩ (Nat.le_of_ble_eq_true rfl) (fun q16 M15 _ => ?_)
                refine go_istore [(5, .int q16), (4, .int q11), (3, .int q6), (2, .int q3), (0, .ref (gB G + o0)), (1, .ref (gB G + o1))] 142 dX2_readDoor_140 rfl (by decide) rfl ?_
                refine go_iload 0 144 dX2_readDoor_142 rfl rfl ?_
                refine go_iconst (-1) 145 dX2_readDoor_144 rfl (by decide) ?_
                refine go_icmp_ne 150 148 dX2_readDoor_145 rfl (by decide) (fun _ => ?_) (fun _ => ?_)
                · refine go_aload_n 5 151 dX2_readDoor_150 rfl rfl ?_
                  refine go_iload_n 3 152 dX2_readDoor_151 rfl rfl ?_
                  refine go_iload_n 2 153 dX2_readDoor_152 rfl rfl ?_
                  refine go_iload 1 155 dX2_readDoor_153 rfl rfl ?_
                  refine go_iload 0 157 dX2_readDoor_155 rfl rfl ?_
                  refine go_cVV4 0 clX6 cwX2_113 (m_X6_addDoor w o1 h1 q3 q6 q11 q16 M15) h1 160 dX2_readDoor_157 rfl ⟨Nat.le_of_ble_eq_true rfl, Nat.le_of_ble_eq_true rfl⟩ ⟨Nat.zero_le _, Nat.zero_le _⟩ (Nat.le_of_ble_eq_true rfl) (fun M17 _ => ?_)
                  refine go_aload_n 4 161 dX2_readDoor_160 rfl rfl ?_
                  refine go_getR flX2_9 h0 164 dX2_readDoor_161 rfl ?_
                  refine go_bipush 59 166 dX2_readDoor_164 rfl (by decide) ?_
                  refine go_cVI1 3 clX10 cwX2_86 (m_X10_takeSign w (rF o0 0) (rk2_0 h0) 59 M17) (rk2_0 h0) 169 dX2_readDoor_166 rfl ⟨Nat.le_of_ble_eq_true rfl, Nat.le_of_ble_eq_true rfl⟩ ⟨Nat.zero_le _, Nat.zero_le _⟩ (Nat.le_of_ble_eq_true rfl) (fun q19 M18 _ => ?_)
                  exact go_zret rfl dX2_readDoor_169
                · refine go_iconst 0 149 dX2_readDoor_148 rfl (by decide) ?_
                  exact go_zret rfl dX2_readDoor_149
              · refine go_iconst 0 130 dX2_readDoor_129 rfl (by decide) ?_
                exact go_zret rfl dX2_readDoor_130
            · refine go_aload_n 3 101 dX2_readDoor_100 rfl rfl ?_
              refine go_getR flX2_9 h0 104 dX2_readDoor_101 rfl ?_
              refine go_iconst 1 105 dX2_readDoor_104 rfl (by decide) ?_
              refine go_cVI1 0 clX10 cwX2_65 (m_X10_refuse w (rF o0 0) (rk2_0 h0) 1 M10) (rk2_0 h0) 108 dX2_readDoor_105 rfl ⟨Nat.le_of_ble_eq_true rfl, Nat.le_of_ble_eq_true rfl⟩ ⟨Nat.zero_le _, Nat.zero_le _⟩ (Nat.le_of_ble_eq_true rfl) (fun q21 M20 _ => ?_)
              exact go_zret rfl dX2_readDoor_108
          · exact go_lv [2] rfl (s_X2_readDoor_72 w o0 h0 M7)
      · refine go_iconst 0 57 dX2_readDoor_56 rfl (by decide) ?_
        exact go_zret rfl dX2_readDoor_57
    · refine go_iconst 0 37 dX2_readDoor_36 rfl (by decide) ?_
      exact go_zret rfl dX2_readDoor_37
  · refine go_aload_n 0 10 dX2_readDoor_9 rfl rfl ?_
    refine go_getR flX2_9 h0 13 dX2_readDoor_10 rfl ?_
    refine go_iconst 5 14 dX2_readDoor_13 rfl (by decide) ?_
    refine go_cVI1 0 clX10 cwX2_65 (m_X10_refuse w (rF o0 0) (rk2_0 h0) 5 M) (rk2_0 h0) 17 dX2_readDoor_14 rfl ⟨Nat.le_of_ble_eq_true rfl, Nat.le_of_ble_eq_true rfl⟩ ⟨Nat.zero_le _, Nat.zero_le _⟩ (Nat.le_of_ble_eq_true rfl) (fun q23 M22 _ => ?_)
    exact go_zret rfl dX2_readDoor_17
theorem m_X2_readDoor {l : Launch} {G : mG} {sk : List mS} (w : Nat) (o0 : Nat) (h0 : isK o0 12) (o1 : Nat) (h1 : isK o1 16) (M : mM) : Mt l G sk yX2_readDoor muX2_readDoor 4 [.ref (gB G + o0), .ref (gB G + o1)] M eI (f_X2_readDoor w o0 o1 M) := Mt.of (by decide) rfl (Nat.le_of_ble_eq_true rfl) (s_X2_readDoor w o0 h0 o1 h1 M)
theorem dX2_readPerson_0 : decode cX2_readPerson 0 = .ok (.aload_n 1, 1) := by decide +kernel
theorem dX2_readPerson_1 : decode cX2_readPerson 1 = .ok (.getfield 117, 3) := by decide +kernel
theorem dX2_readPerson_4 : decode cX2_readPerson 4 = .ok (.iconst 5, 1) := by decide +kernel
theorem dX2_readPerson_5 : decode cX2_readPerson 5 = .ok (.if_icmp .lt 12, 3) := by decide +kernel
theorem dX2_readPerson_8 : decode cX2_readPerson 8 = .ok (.aload_n 0, 1) := by decide +kernel
theorem dX2_readPerson_9 : decode cX2_readPerson 9 = .ok (.getfield 9, 3) := by decide +kernel
theorem dX2_readPerson_12 : decode cX2_readPerson 12 = .ok (.iconst 5, 1) := by decide +kernel
theorem dX2_readPerson_13 : decode cX2_readPerson 13 = .ok (.invokevirtual 65, 3) := by decide +kernel
theorem dX2_readPerson_16 : decode cX2_readPerson 16 = .ok (.ireturn, 1) := by decide +kernel
theorem dX2_readPerson_17 : decode cX2_readPerson 17 = .ok (.aload_n 0, 1) := by decide +kernel
theorem dX2_readPerson_18 : decode cX2_readPerson 18 = .ok (.getfield 9, 3) := by decide +kernel
theorem dX2_readPerson_21 : decode cX2_readPerson 21 = .ok (.invokevirtual 72, 3) := by decide +kernel
theorem dX2_readPerson_24 : decode cX2_readPerson 24 = .ok (.aload_n 0, 1) := by decide +kernel
theorem dX2_readPerson_25 : decode cX2_readPerson 25 = .ok (.aload_n 1, 1) := by decide +kernel
theorem dX2_readPerson_26 : decode cX2_readPerson 26 = .ok (.invokevirtual 75, 3) := by decide +kernel
theorem dX2_readPerson_29 : decode cX2_readPerson 29 = .ok (.ifCond .ne 5, 3) := by decide +kernel
theorem dX2_readPerson_32 : decode cX2_readPerson 32 = .ok (.iconst 0, 1) := by decide +kernel
theorem dX2_readPerson_33 : decode cX2_readPerson 33 = .ok (.ireturn, 1) := by decide +kernel
theorem dX2_readPerson_34 : decode cX2_readPerson 34 = .ok (.aload_n 0, 1) := by decide +kernel
theorem dX2_readPerson_35 : decode cX2_readPerson 35 = .ok (.getfield 9, 3) := by decide +kernel
theorem dX2_readPerson_38 : decode cX2_readPerson 38 = .ok (.getfield 78, 3) := by decide +kernel
theorem dX2_readPerson_41 : decode cX2_readPerson 41 = .ok (.lstore_n 2, 1) := by decide +kernel
theorem dX2_readPerson_42 : decode cX2_readPerson 42 = .ok (.aload_n 0, 1) := by decide +kernel
theorem dX2_readPerson_43 : decode cX2_readPerson 43 = .ok (.getfield 9, 3) := by decide +kernel
theorem dX2_readPerson_46 : decode cX2_readPerson 46 = .ok (.invokevirtual 72, 3) := by decide +kernel
theorem dX2_readPerson_49 : decode cX2_readPerson 49 = .ok (.aload_n 0, 1) := by decide +kernel
theorem dX2_readPerson_50 : decode cX2_readPerson 50 = .ok (.getfield 9, 3) := by decide +kernel
theorem dX2_readPerson_53 : decode cX2_readPerson 53 = .ok (.ldc2_w 120, 3) := by decide +kernel
theorem dX2_readPerson_56 : decode cX2_readPerson 56 = .ok (.invokevirtual 106, 3) := by decide +kernel
theorem dX2_readPerson_59 : decode cX2_readPerson 59 = .ok (.ifCond .ne 5, 3) := by decide +kernel
theorem dX2_readPerson_62 : decode cX2_readPerson 62 = .ok (.iconst 0, 1) := by decide +kernel
theorem dX2_readPerson_63 : decode cX2_readPerson 63 = .ok (.ireturn, 1) := by decide +kernel
theorem dX2_readPerson_64 : decode cX2_readPerson 64 = .ok (.aload_n 0, 1) := by decide +kernel
theorem dX2_readPerson_65 : decode cX2_readPerson 65 = .ok (.aload_n 1, 1) := by decide +kernel
theorem dX2_readPerson_66 : decode cX2_readPerson 66 = .ok (.invokevirtual 92, 3) := by decide +kernel
theorem dX2_readPerson_69 : decode cX2_readPerson 69 = .ok (.istore 4, 2) := by decide +kernel
theorem dX2_readPerson_71 : decode cX2_readPerson 71 = .ok (.iload 4, 2) := by decide +kernel
theorem dX2_readPerson_73 : decode cX2_readPerson 73 = .ok (.iconst (-1), 1) := by decide +kernel
theorem dX2_readPerson_74 : decode cX2_readPerson 74 = .ok (.if_icmp .ne 5, 3) := by decide +kernel
theorem dX2_readPerson_77 : decode cX2_readPerson 77 = .ok (.iconst 0, 1) := by decide +kernel
theorem dX2_readPerson_78 : decode cX2_readPerson 78 = .ok (.ireturn, 1) := by decide +kernel
theorem dX2_readPerson_79 : decode cX2_readPerson 79 = .ok (.aload_n 1, 1) := by decide +kernel
theorem dX2_readPerson_80 : decode cX2_readPerson 80 = .ok (.lload_n 2, 1) := by decide +kernel
theorem dX2_readPerson_81 : decode cX2_readPerson 81 = .ok (.iload 4, 2) := by decide +kernel
theorem dX2_readPerson_83 : decode cX2_readPerson 83 = .ok (.invokevirtual 122, 3) := by decide +kernel
theorem dX2_readPerson_86 : decode cX2_readPerson 86 = .ok (.aload_n 0, 1) := by decide +kernel
theorem dX2_readPerson_87 : decode cX2_readPerson 87 = .ok (.getfield 9, 3) := by decide +kernel
theorem dX2_readPerson_90 : decode cX2_readPerson 90 = .ok (.invokevirtual 72, 3) := by decide +kernel
theorem dX2_readPerson_93 : decode cX2_readPerson 93 = .ok (.aload_n 0, 1) := by decide +kernel
theorem dX2_readPerson_94 : decode cX2_readPerson 94 = .ok (.getfield 9, 3) := by decide +kernel
theorem dX2_readPerson_97 : decode cX2_readPerson 97 = .ok (.bipush 59, 2) := by decide +kernel
theorem dX2_readPerson_99 : decode cX2_readPerson 99 = .ok (.invokevirtual 86, 3) := by decide +kernel
theorem dX2_readPerson_102 : decode cX2_readPerson 102 = .ok (.ireturn, 1) := by decide +kernel
def f_X2_readPerson (w : Nat) (o0 : Nat) (o1 : Nat) (M : mM) : Option (Int32 × mM) := (if (M.1 o1 2) < 5 then bV (f_X10_advance w (rF o0 0) M) fun M1 => bI (f_X2_isNewName w o0 o1 M1) fun q3 M2 => (if q3 = 0 then rtB 0 M2 else lt (M2.2 (rF o0 0) 5) fun y4 => bV (f_X10_advance w (rF o0 0) M2) fun M5 => bI (f_X10_takeWord w (rF o0 0) 26990 M5) fun q7 M6 => (if q7 = 0 then rtB 0 M6 else bI (f_X2_roomTold w o0 o1 M6) fun q9 M8 => (if q9 = (-1) then rtB 0 M8 else bV (f_X6_addPerson w o1 y4 q9 M8) fun M10 => bV (f_X10_advance w (rF o0 0) M10) fun M11 => bI (f_X10_takeSign w (rF o0 0) 59 M11) fun q13 M12 => rtB q13 M12))) else bI (f_X10_refuse w (rF o0 0) 5 M) fun q15 M14 => rtB q15 M14)
set_option maxHeartbeats 4000000 in
set_option maxRecDepth 100000 in
theorem s_X2_readPerson {l : Launch} {G : mG} {sk : List mS} (w : Nat) (o0 : Nat) (h0 : isK o0 12) (o1 : Nat) (h1 : isK o1 16) (M : mM) : Go muX2_readPerson (rm 4) 0 0 l G sk (mFin G sk eI) (f_X2_readPerson w o0 o1 M) 0 [(0, .ref (gB G + o0)), (1, .ref (gB G + o1))] [] M := by
  unfold f_X2_readPerson
  refine go_aload_n 1 1 dX2_readPerson_0 rfl rfl ?_
  refine go_getI flX2_117 (by decide) h1 4 dX2_readPerson_1 rfl ?_
  refine go_iconst 5 5 dX2_readPerson_4 rfl (by decide) ?_
  refine go_icmp_lt 17 8 dX2_readPerson_5 rfl (by decide) (fun _ => ?_) (fun _ => ?_)
  · refine go_aload_n 0 18 dX2_readPerson_17 rfl rfl ?_
    refine go_getR flX2_9 h0 21 dX2_readPerson_18 rfl ?_
    refine go_cVV0 2 clX10 cwX2_72 (m_X10_advance w (rF o0 0) (rk2_0 h0) M) (rk2_0 h0) 24 dX2_readPerson_21 rfl ⟨Nat.le_of_ble_eq_true rfl, Nat.le_of_ble_eq_true rfl⟩ ⟨Nat.zero_le _, Nat.zero_le _⟩ (Nat.le_of_ble_eq_true rfl) (fun M1 _ => ?_)
    refine go_aload_n 0 25 dX2_readPerson_24 rfl rfl ?_
    refine go_aload_n 1 26 dX2_readPerson_25 rfl rfl ?_
    refine go_cVI1 1 clX2 cwX2_75 (m_X2_isNewName w o0 h0 o1 h1 M1) h0 29 dX2_readPerson_26 rfl ⟨Nat.le_of_ble_eq_true rfl, Nat.le_of_ble_eq_true rfl⟩ ⟨Nat.zero_le _, Nat.zero_le _⟩ (Nat.le_of_ble_eq_true rfl) (fun q3 M2 _ => ?_)
    refine go_if_ne 34 32 dX2_readPerson_29 rfl (by decide) (fun _ => ?_) (fun _ => ?_)
    · refine go_aload_n 0 35 dX2_readPerson_34 rfl rfl ?_
      refine go_getR flX2_9 h0 38 dX2_readPerson_35 rfl ?_
      refine go_getL flX2_78 (rk2_0 h0) 41 dX2_readPerson_38 rfl ?_
      refine go_nmL (fun y4 => ?_)
      refine go_lstore_n [(2, .long y4), (0, .ref (gB G + o0)), (1, .ref (gB G + o1))] 42 dX2_readPerson_41 rfl rfl (by decide) rfl ?_
      refine go_aload_n 1 43 dX2_readPerson_42 rfl rfl ?_
      refine go_getR flX2_9 h0 46 dX2_readPerson_43 rfl ?_
      refine go_cVV0 2 clX10 cwX2_72 (m_X10_advance w (rF o0 0) (rk2_0 h0) M2) (rk2_0 h0) 49 dX2_readPerson_46 rfl ⟨Nat.le_of_ble_eq_true rfl, Nat.le_of_ble_eq_true rfl⟩ ⟨Nat.zero_le _, Nat.zero_le _⟩ (Nat.le_of_ble_eq_true rfl) (fun M5 _ => ?_)
      refine go_aload_n 1 50 dX2_readPerson_49 rfl rfl ?_
      refine go_getR flX2_9 h0 53 dX2_readPerson_50 rfl ?_
      refine go_ldc2 klX2_120 56 dX2_readPerson_53 rfl ?_
      refine go_cVI1 3 clX10 cwX2_106 (m_X10_takeWord w (rF o0 0) (rk2_0 h0) 26990 M5) (rk2_0 h0) 59 dX2_readPerson_56 rfl ⟨Nat.le_of_ble_eq_true rfl, Nat.le_of_ble_eq_true rfl⟩ ⟨Nat.zero_le _, Nat.zero_le _⟩ (Nat.le_of_ble_eq_true rfl) (fun q7 M6 _ => ?_)
      refine go_if_ne 64 62 dX2_readPerson_59 rfl (by decide) (fun _ => ?_) (fun _ => ?_)
      · refine go_aload_n 1 65 dX2_readPerson_64 rfl rfl ?_
        refine go_aload_n 2 66 dX2_readPerson_65 rfl rfl ?_
        refine go_cVI1 1 clX2 cwX2_92 (m_X2_roomTold w o0 h0 o1 h1 M6) h0 69 dX2_readPerson_66 rfl ⟨Nat.le_of_ble_eq_true rfl, Nat.le_of_ble_eq_true rfl⟩ ⟨Nat.zero_le _, Nat.zero_le _⟩ (Nat.le_of_ble_eq_true rfl) (fun q9 M8 _ => ?_)
        refine go_istore [(4, .int q9), (2, .long y4), (0, .ref (gB G + o0)), (1, .ref (gB G + o1))] 71 dX2_readPerson_69 rfl (by decide) rfl ?_
        refine go_iload 0 73 dX2_readPerson_71 rfl rfl ?_
        refine go_iconst (-1) 74 dX2_readPerson_73 rfl (by decide) ?_
        refine go_icmp_ne 79 77 dX2_readPerson_74 rfl (by decide) (fun _ => ?_) (fun _ => ?_)
        · refine go_aload_n 3 80 dX2_readPerson_79 rfl rfl ?_
          refine go_lload_n 1 81 dX2_readPerson_80 rfl rfl ?_
          refine go_iload 0 83 dX2_readPerson_81 rfl rfl ?_
          refine go_cVV2 0 clX6 cwX2_122 (m_X6_addPerson w o1 h1 y4 q9 M8) h1 86 dX2_readPerson_83 rfl ⟨Nat.le_of_ble_eq_true rfl, Nat.le_of_ble_eq_true rfl⟩ ⟨Nat.zero_le _, Nat.zero_le _⟩ (Nat.le_of_ble_eq_true rfl) (fun M10 _ => ?_)
          refine go_aload_n 2 87 dX2_readPerson_86 rfl rfl ?_
          refine go_getR flX2_9 h0 90 dX2_readPerson_87 rfl ?_
          refine go_cVV0 2 clX10 cwX2_72 (m_X10_advance w (rF o0 0) (rk2_0 h0) M10) (rk2_0 h0) 93 dX2_readPerson_90 rfl ⟨Nat.le_of_ble_eq_true rfl, Nat.le_of_ble_eq_true rfl⟩ ⟨Nat.zero_le _, Nat.zero_le _⟩ (Nat.le_of_ble_eq_true rfl) (fun M11 _ => ?_)
          refine go_aload_n 2 94 dX2_readPerson_93 rfl rfl ?_
          refine go_getR flX2_9 h0 97 dX2_readPerson_94 rfl ?_
          refine go_bipush 59 99 dX2_readPerson_97 rfl (by decide) ?_
          refine go_cVI1 3 clX10 cwX2_86 (m_X10_takeSign w (rF o0 0) (rk2_0 h0) 59 M11) (rk2_0 h0) 102 dX2_readPerson_99 rfl ⟨Nat.le_of_ble_eq_true rfl, Nat.le_of_ble_eq_true rfl⟩ ⟨Nat.zero_le _, Nat.zero_le _⟩ (Nat.le_of_ble_eq_true rfl) (fun q13 M12 _ => ?_)
          exact go_zret rfl dX2_readPerson_102
        · refine go_iconst 0 78 dX2_readPerson_77 rfl (by decide) ?_
          exact go_zret rfl dX2_readPerson_78
      · refine go_iconst 0 63 dX2_readPerson_62 rfl (by decide) ?_
        exact go_zret rfl dX2_readPerson_63
    · refine go_iconst 0 33 dX2_readPerson_32 rfl (by decide) ?_
      exact go_zret rfl dX2_readPerson_33
  · refine go_aload_n 0 9 dX2_readPerson_8 rfl rfl ?_
    refine go_getR flX2_9 h0 12 dX2_readPerson_9 rfl ?_
    refine go_iconst 5 13 dX2_readPerson_12 rfl (by decide) ?_
    refine go_cVI1 0 clX10 cwX2_65 (m_X10_refuse w (rF o0 0) (rk2_0 h0) 5 M) (rk2_0 h0) 16 dX2_readPerson_13 rfl ⟨Nat.le_of_ble_eq_true rfl, Nat.le_of_ble_eq_true rfl⟩ ⟨Nat.zero_le _, Nat.zero_le _⟩ (Nat.le_of_ble_eq_true rfl) (fun q15 M14 _ => ?_)
    exact go_zret rfl dX2_readPerson_16
theorem m_X2_readPerson {l : Launch} {G : mG} {sk : List mS} (w : Nat) (o0 : Nat) (h0 : isK o0 12) (o1 : Nat) (h1 : isK o1 16) (M : mM) : Mt l G sk yX2_readPerson muX2_readPerson 4 [.ref (gB G + o0), .ref (gB G + o1)] M eI (f_X2_readPerson w o0 o1 M) := Mt.of (by decide) rfl (Nat.le_of_ble_eq_true rfl) (s_X2_readPerson w o0 h0 o1 h1 M)
theorem dX2_readDamp_0 : decode cX2_readDamp 0 = .ok (.aload_n 1, 1) := by decide +kernel
theorem dX2_readDamp_1 : decode cX2_readDamp 1 = .ok (.getfield 126, 3) := by decide +kernel
theorem dX2_readDamp_4 : decode cX2_readDamp 4 = .ok (.ifCond .le 12, 3) := by decide +kernel
theorem dX2_readDamp_7 : decode cX2_readDamp 7 = .ok (.aload_n 0, 1) := by decide +kernel
theorem dX2_readDamp_8 : decode cX2_readDamp 8 = .ok (.getfield 9, 3) := by decide +kernel
theorem dX2_readDamp_11 : decode cX2_readDamp 11 = .ok (.iconst 3, 1) := by decide +kernel
theorem dX2_readDamp_12 : decode cX2_readDamp 12 = .ok (.invokevirtual 65, 3) := by decide +kernel
theorem dX2_readDamp_15 : decode cX2_readDamp 15 = .ok (.ireturn, 1) := by decide +kernel
theorem dX2_readDamp_16 : decode cX2_readDamp 16 = .ok (.aload_n 0, 1) := by decide +kernel
theorem dX2_readDamp_17 : decode cX2_readDamp 17 = .ok (.getfield 9, 3) := by decide +kernel
theorem dX2_readDamp_20 : decode cX2_readDamp 20 = .ok (.invokevirtual 72, 3) := by decide +kernel
theorem dX2_readDamp_23 : decode cX2_readDamp 23 = .ok (.iconst 0, 1) := by decide +kernel
theorem dX2_readDamp_24 : decode cX2_readDamp 24 = .ok (.istore_n 2, 1) := by decide +kernel
theorem dX2_readDamp_25 : decode cX2_readDamp 25 = .ok (.iload_n 2, 1) := by decide +kernel
theorem dX2_readDamp_26 : decode cX2_readDamp 26 = .ok (.bipush 12, 2) := by decide +kernel
theorem dX2_readDamp_28 : decode cX2_readDamp 28 = .ok (.if_icmp .gt 90, 3) := by decide +kernel
theorem dX2_readDamp_31 : decode cX2_readDamp 31 = .ok (.iload_n 2, 1) := by decide +kernel
theorem dX2_readDamp_32 : decode cX2_readDamp 32 = .ok (.ifCond .le 18, 3) := by decide +kernel
theorem dX2_readDamp_35 : decode cX2_readDamp 35 = .ok (.aload_n 0, 1) := by decide +kernel
theorem dX2_readDamp_36 : decode cX2_readDamp 36 = .ok (.getfield 9, 3) := by decide +kernel
theorem dX2_readDamp_39 : decode cX2_readDamp 39 = .ok (.bipush 59, 2) := by decide +kernel
theorem dX2_readDamp_41 : decode cX2_readDamp 41 = .ok (.invokevirtual 129, 3) := by decide +kernel
theorem dX2_readDamp_44 : decode cX2_readDamp 44 = .ok (.ifCond .eq 6, 3) := by decide +kernel
theorem dX2_readDamp_47 : decode cX2_readDamp 47 = .ok (.goto 71, 3) := by decide +kernel
theorem dX2_readDamp_50 : decode cX2_readDamp 50 = .ok (.iload_n 2, 1) := by decide +kernel
theorem dX2_readDamp_51 : decode cX2_readDamp 51 = .ok (.bipush 12, 2) := by decide +kernel
theorem dX2_readDamp_53 : decode cX2_readDamp 53 = .ok (.if_icmp .ne 37, 3) := by decide +kernel
theorem dX2_readDamp_56 : decode cX2_readDamp 56 = .ok (.aload_n 0, 1) := by decide +kernel
theorem dX2_readDamp_57 : decode cX2_readDamp 57 = .ok (.getfield 9, 3) := by decide +kernel
theorem dX2_readDamp_60 : decode cX2_readDamp 60 = .ok (.getfield 25, 3) := by decide +kernel
theorem dX2_readDamp_63 : decode cX2_readDamp 63 = .ok (.iconst 2, 1) := by decide +kernel
theorem dX2_readDamp_64 : decode cX2_readDamp 64 = .ok (.if_icmp .ne 26, 3) := by decide +kernel
theorem dX2_readDamp_67 : decode cX2_readDamp 67 = .ok (.aload_n 0, 1) := by decide +kernel
theorem dX2_readDamp_68 : decode cX2_readDamp 68 = .ok (.getfield 9, 3) := by decide +kernel
theorem dX2_readDamp_71 : decode cX2_readDamp 71 = .ok (.getfield 78, 3) := by decide +kernel
theorem dX2_readDamp_74 : decode cX2_readDamp 74 = .ok (.ldc2_w 132, 3) := by decide +kernel
theorem dX2_readDamp_77 : decode cX2_readDamp 77 = .ok (.lcmp, 1) := by decide +kernel
theorem dX2_readDamp_78 : decode cX2_readDamp 78 = .ok (.ifCond .gt 12, 3) := by decide +kernel
theorem dX2_readDamp_81 : decode cX2_readDamp 81 = .ok (.aload_n 0, 1) := by decide +kernel
theorem dX2_readDamp_82 : decode cX2_readDamp 82 = .ok (.getfield 9, 3) := by decide +kernel
theorem dX2_readDamp_85 : decode cX2_readDamp 85 = .ok (.iconst 5, 1) := by decide +kernel
theorem dX2_readDamp_86 : decode cX2_readDamp 86 = .ok (.invokevirtual 65, 3) := by decide +kernel
theorem dX2_readDamp_89 : decode cX2_readDamp 89 = .ok (.ireturn, 1) := by decide +kernel
theorem dX2_readDamp_90 : decode cX2_readDamp 90 = .ok (.aload_n 0, 1) := by decide +kernel
theorem dX2_readDamp_91 : decode cX2_readDamp 91 = .ok (.getfield 9, 3) := by decide +kernel
theorem dX2_readDamp_94 : decode cX2_readDamp 94 = .ok (.bipush 9, 2) := by decide +kernel
theorem dX2_readDamp_96 : decode cX2_readDamp 96 = .ok (.invokevirtual 109, 3) := by decide +kernel
theorem dX2_readDamp_99 : decode cX2_readDamp 99 = .ok (.istore_n 3, 1) := by decide +kernel
theorem dX2_readDamp_100 : decode cX2_readDamp 100 = .ok (.iload_n 3, 1) := by decide +kernel
theorem dX2_readDamp_101 : decode cX2_readDamp 101 = .ok (.iconst (-1), 1) := by decide +kernel
theorem dX2_readDamp_102 : decode cX2_readDamp 102 = .ok (.if_icmp .ne 5, 3) := by decide +kernel
theorem dX2_readDamp_105 : decode cX2_readDamp 105 = .ok (.iconst 0, 1) := by decide +kernel
theorem dX2_readDamp_106 : decode cX2_readDamp 106 = .ok (.ireturn, 1) := by decide +kernel
theorem dX2_readDamp_107 : decode cX2_readDamp 107 = .ok (.aload_n 1, 1) := by decide +kernel
theorem dX2_readDamp_108 : decode cX2_readDamp 108 = .ok (.iload_n 3, 1) := by decide +kernel
theorem dX2_readDamp_109 : decode cX2_readDamp 109 = .ok (.invokevirtual 134, 3) := by decide +kernel
theorem dX2_readDamp_112 : decode cX2_readDamp 112 = .ok (.iinc 2 1, 3) := by decide +kernel
theorem dX2_readDamp_115 : decode cX2_readDamp 115 = .ok (.goto (-90), 3) := by decide +kernel
theorem dX2_readDamp_118 : decode cX2_readDamp 118 = .ok (.aload_n 0, 1) := by decide +kernel
theorem dX2_readDamp_119 : decode cX2_readDamp 119 = .ok (.getfield 9, 3) := by decide +kernel
theorem dX2_readDamp_122 : decode cX2_readDamp 122 = .ok (.bipush 59, 2) := by decide +kernel
theorem dX2_readDamp_124 : decode cX2_readDamp 124 = .ok (.invokevirtual 86, 3) := by decide +kernel
theorem dX2_readDamp_127 : decode cX2_readDamp 127 = .ok (.ireturn, 1) := by decide +kernel
def f_X2_readDamp_118 (w : Nat) (o0 : Nat) (M : mM) : Option (Int32 × mM) := bI (f_X10_takeSign w (rF o0 0) 59 M) fun q2 M1 => rtB q2 M1
set_option maxHeartbeats 4000000 in
set_option maxRecDepth 100000 in
theorem s_X2_readDamp_118 {l : Launch} {G : mG} {sk : List mS} (w : Nat) (o0 : Nat) (h0 : isK o0 12) (M : mM) : Go muX2_readDamp (rm 4) 0 0 l G sk (mFin G sk eI) (f_X2_readDamp_118 w o0 M) 118 [(0, .ref (gB G + o0))] [] M := by
  unfold f_X2_readDamp_118
  refine go_aload_n 0 119 dX2_readDamp_118 rfl rfl ?_
  refine go_getR flX2_9 h0 122 dX2_readDamp_119 rfl ?_
  refine go_bipush 59 124 dX2_readDamp_122 rfl (by decide) ?_
  refine go_cVI1 3 clX10 cwX2_86 (m_X10_takeSign w (rF o0 0) (rk2_0 h0) 59 M) (rk2_0 h0) 127 dX2_readDamp_124 rfl ⟨Nat.le_of_ble_eq_true rfl, Nat.le_of_ble_eq_true rfl⟩ ⟨Nat.zero_le _, Nat.zero_le _⟩ (Nat.le_of_ble_eq_true rfl) (fun q2 M1 _ => ?_)
  exact go_zret rfl dX2_readDamp_127
def f_X2_readDamp_47 (w : Nat) (o0 : Nat) (M : mM) : Option (Int32 × mM) := (f_X2_readDamp_118 w o0 M)
set_option maxHeartbeats 4000000 in
set_option maxRecDepth 100000 in
theorem s_X2_readDamp_47 {l : Launch} {G : mG} {sk : List mS} (w : Nat) (o0 : Nat) (h0 : isK o0 12) (M : mM) : Go muX2_readDamp (rm 4) 0 0 l G sk (mFin G sk eI) (f_X2_readDamp_47 w o0 M) 47 [(0, .ref (gB G + o0))] [] M := by
  unfold f_X2_readDamp_47
  refine go_goto 118 dX2_readDamp_47 (by decide) ?_
  exact go_lv [0] rfl (s_X2_readDamp_118 w o0 h0 M)
def f_X2_readDamp_81 (w : Nat) (o0 : Nat) (M : mM) : Option (Int32 × mM) := bI (f_X10_refuse w (rF o0 0) 5 M) fun q2 M1 => rtB q2 M1
set_option maxHeartbeats 4000000 in
set_option maxRecDepth 100000 in
theorem s_X2_readDamp_81 {l : Launch} {G : mG} {sk : List mS} (w : Nat) (o0 : Nat) (h0 : isK o0 12) (M : mM) : Go muX2_readDamp (rm 4) 0 0 l G sk (mFin G sk eI) (f_X2_readDamp_81 w o0 M) 81 [(0, .ref (gB G + o0))] [] M := by
  unfold f_X2_readDamp_81
  refine go_aload_n 0 82 dX2_readDamp_81 rfl rfl ?_
  refine go_getR flX2_9 h0 85 dX2_readDamp_82 rfl ?_
  refine go_iconst 5 86 dX2_readDamp_85 rfl (by decide) ?_
  refine go_cVI1 0 clX10 cwX2_65 (m_X10_refuse w (rF o0 0) (rk2_0 h0) 5 M) (rk2_0 h0) 89 dX2_readDamp_86 rfl ⟨Nat.le_of_ble_eq_true rfl, Nat.le_of_ble_eq_true rfl⟩ ⟨Nat.zero_le _, Nat.zero_le _⟩ (Nat.le_of_ble_eq_true rfl) (fun q2 M1 _ => ?_)
  exact go_zret rfl dX2_readDamp_89
def f_X2_readDamp_90 (w : Nat) (k25 : Nat → Nat → Int32 → mM → Option (Int32 × mM)) (o0 : Nat) (o1 : Nat) (x2 : Int32) (M : mM) : Option (Int32 × mM) := bI (f_X10_takeNumber w (rF o0 0) 9 M) fun q2 M1 => (if q2 = (-1) then rtB 0 M1 else bV (f_X6_addDamp w o1 q2 M1) fun M3 => (k25 o0 o1 (x2 + 1) M3))
set_option maxHeartbeats 4000000 in
set_option maxRecDepth 100000 in
theorem s_X2_readDamp_90 {l : Launch} {G : mG} {sk : List mS} (w : Nat) (k25 : Nat → Nat → Int32 → mM → Option (Int32 × mM)) (hk25 : ∀ (o0 : Nat) (h0 : isK o0 12) (o1 : Nat) (h1 : isK o1 16) (x2 : Int32) (M : mM), Go muX2_readDamp (rm 4) 0 0 l G sk (mFin G sk eI) (k25 o0 o1 x2 M) 25 [(0, .ref (gB G + o0)), (1, .ref (gB G + o1)), (2, .int x2)] [] M) (o0 : Nat) (h0 : isK o0 12) (o1 : Nat) (h1 : isK o1 16) (x2 : Int32) (M : mM) : Go muX2_readDamp (rm 4) 0 0 l G sk (mFin G sk eI) (f_X2_readDamp_90 w k25 o0 o1 x2 M) 90 [(0, .ref (gB G + o0)), (1, .ref (gB G + o1)), (2, .int x2)] [] M := by
  unfold f_X2_readDamp_90
  refine go_aload_n 0 91 dX2_readDamp_90 rfl rfl ?_
  refine go_getR flX2_9 h0 94 dX2_readDamp_91 rfl ?_
  refine go_bipush 9 96 dX2_readDamp_94 rfl (by decide) ?_
  refine go_cVI1 3 clX10 cwX2_109 (m_X10_takeNumber w (rF o0 0) (rk2_0 h0) 9 M) (rk2_0 h0) 99 dX2_readDamp_96 rfl ⟨Nat.le_of_ble_eq_true rfl, Nat.le_of_ble_eq_true rfl⟩ ⟨Nat.zero_le _, Nat.zero_le _⟩ (Nat.le_of_ble_eq_true rfl) (fun q2 M1 _ => ?_)
  refine go_istore_n [(3, .int q2), (0, .ref (gB G + o0)), (1, .ref (gB G + o1)), (2, .int x2)] 100 dX2_readDamp_99 rfl rfl (by decide) rfl ?_
  refine go_iload_n 0 101 dX2_readDamp_100 rfl rfl ?_
  refine go_iconst (-1) 102 dX2_readDamp_101 rfl (by decide) ?_
  refine go_icmp_ne 107 105 dX2_readDamp_102 rfl (by decide) (fun _ => ?_) (fun _ => ?_)
  · refine go_aload_n 2 108 dX2_readDamp_107 rfl rfl ?_
    refine go_iload_n 0 109 dX2_readDamp_108 rfl rfl ?_
    refine go_cVV1 0 clX6 cwX2_134 (m_X6_addDamp w o1 h1 q2 M1) h1 112 dX2_readDamp_109 rfl ⟨Nat.le_of_ble_eq_true rfl, Nat.le_of_ble_eq_true rfl⟩ ⟨Nat.zero_le _, Nat.zero_le _⟩ (Nat.le_of_ble_eq_true rfl) (fun M3 _ => ?_)
    refine go_iinc (x2 + 1) 3 [(2, .int (x2 + 1)), (3, .int q2), (0, .ref (gB G + o0)), (1, .ref (gB G + o1))] 115 dX2_readDamp_112 rfl rfl rfl (by decide) rfl ?_
    refine go_goto 25 dX2_readDamp_115 (by decide) ?_
    exact go_lv [2, 3, 0] rfl (hk25 o0 h0 o1 h1 (x2 + 1) M3)
  · refine go_iconst 0 106 dX2_readDamp_105 rfl (by decide) ?_
    exact go_zret rfl dX2_readDamp_106
def f_X2_readDamp_50 (w : Nat) (k25 : Nat → Nat → Int32 → mM → Option (Int32 × mM)) (o0 : Nat) (o1 : Nat) (x2 : Int32) (M : mM) : Option (Int32 × mM) := (if x2 = 12 then (if (M.1 (rF o0 0) 3) = 2 then (if 0 < (lg_cmp (M.2 (rF o0 0) 5) 9) then (f_X2_readDamp_90 w k25 o0 o1 x2 M) else (f_X2_readDamp_81 w o0 M)) else (f_X2_readDamp_90 w k25 o0 o1 x2 M)) else (f_X2_readDamp_90 w k25 o0 o1 x2 M))
set_option maxHeartbeats 4000000 in
set_option maxRecDepth 100000 in
theorem s_X2_readDamp_50 {l : Launch} {G : mG} {sk : List mS} (w : Nat) (k25 : Nat → Nat → Int32 → mM → Option (Int32 × mM)) (hk25 : ∀ (o0 : Nat) (h0 : isK o0 12) (o1 : Nat) (h1 : isK o1 16) (x2 : Int32) (M : mM), Go muX2_readDamp (rm 4) 0 0 l G sk (mFin G sk eI) (k25 o0 o1 x2 M) 25 [(0, .ref (gB G + o0)), (1, .ref (gB G + o1)), (2, .int x2)] [] M) (o0 : Nat) (h0 : isK o0 12) (o1 : Nat) (h1 : isK o1 16) (x2 : Int32) (M : mM) : Go muX2_readDamp (rm 4) 0 0 l G sk (mFin G sk eI) (f_X2_readDamp_50 w k25 o0 o1 x2 M) 50 [(0, .ref (gB G + o0)), (1, .ref (gB G + o1)), (2, .int x2)] [] M := by
  unfold f_X2_readDamp_50
  refine go_iload_n 2 51 dX2_readDamp_50 rfl rfl ?_
  refine go_bipush 12 53 dX2_readDamp_51 rfl (by decide) ?_
  refine go_icmp_ne 90 56 dX2_readDamp_53 rfl (by decide) (fun _ => ?_) (fun _ => ?_)
  · exact go_lv [0, 1, 2] rfl (s_X2_readDamp_90 w k25 hk25 o0 h0 o1 h1 x2 M)
  · refine go_aload_n 0 57 dX2_readDamp_56 rfl rfl ?_
    refine go_getR flX2_9 h0 60 dX2_readDamp_57 rfl ?_
    refine go_getI flX2_25 (by decide) (rk2_0 h0) 63 dX2_readDamp_60 rfl ?_
    refine go_iconst 2 64 dX2_readDamp_63 rfl (by decide) ?_
    refine go_icmp_ne 90 67 dX2_readDamp_64 rfl (by decide) (fun _ => ?_) (fun _ => ?_)
    · exact go_lv [0, 1, 2] rfl (s_X2_readDamp_90 w k25 hk25 o0 h0 o1 h1 x2 M)
    · refine go_aload_n 0 68 dX2_readDamp_67 rfl rfl ?_
      refine go_getR flX2_9 h0 71 dX2_readDamp_68 rfl ?_
      refine go_getL flX2_78 (rk2_0 h0) 74 dX2_readDamp_71 rfl ?_
      refine go_ldc2 klX2_132 77 dX2_readDamp_74 rfl ?_
      refine go_lcmp 78 dX2_readDamp_77 rfl ?_
      refine go_if_gt 90 81 dX2_readDamp_78 rfl (by decide) (fun _ => ?_) (fun _ => ?_)
      · exact go_lv [0, 1, 2] rfl (s_X2_readDamp_90 w k25 hk25 o0 h0 o1 h1 x2 M)
      · exact go_lv [0] rfl (s_X2_readDamp_81 w o0 h0 M)
def f_X2_readDamp_25 (w : Nat) : Nat → Nat → Nat → Int32 → mM → Option (Int32 × mM)
  | 0, _, _, _, _ => none
  | n + 1, o0, o1, x2, M => (if 12 < x2 then (f_X2_readDamp_118 w o0 M) else (if x2 ≤ 0 then (f_X2_readDamp_50 w (f_X2_readDamp_25 w n) o0 o1 x2 M) else bI (f_X10_isSign w (rF o0 0) 59 M) fun q2 M1 => (if q2 = 0 then (f_X2_readDamp_50 w (f_X2_readDamp_25 w n) o0 o1 x2 M1) else (f_X2_readDamp_47 w o0 M1))))
set_option maxHeartbeats 4000000 in
set_option maxRecDepth 100000 in
theorem s_X2_readDamp_25 {l : Launch} {G : mG} {sk : List mS} (w : Nat) : ∀ (n : Nat) (o0 : Nat) (h0 : isK o0 12) (o1 : Nat) (h1 : isK o1 16) (x2 : Int32) (M : mM), Go muX2_readDamp (rm 4) 0 0 l G sk (mFin G sk eI) (f_X2_readDamp_25 w n o0 o1 x2 M) 25 [(0, .ref (gB G + o0)), (1, .ref (gB G + o1)), (2, .int x2)] [] M := by
  intro n
  induction n with
  | zero =>
    intros
    exact go_none
  | succ n ih =>
    intro o0 h0 o1 h1 x2 M
    rw [f_X2_readDamp_25]
    refine go_iload_n 2 26 dX2_readDamp_25 rfl rfl ?_
    refine go_bipush 12 28 dX2_readDamp_26 rfl (by decide) ?_
    refine go_icmp_gt 118 31 dX2_readDamp_28 rfl (by decide) (fun _ => ?_) (fun _ => ?_)
    · exact go_lv [0] rfl (s_X2_readDamp_118 w o0 h0 M)
    · refine go_iload_n 2 32 dX2_readDamp_31 rfl rfl ?_
      refine go_if_le 50 35 dX2_readDamp_32 rfl (by decide) (fun _ => ?_) (fun _ => ?_)
      · exact go_lv [0, 1, 2] rfl (s_X2_readDamp_50 w (f_X2_readDamp_25 w n) (fun o0 h0 o1 h1 x2 M => ih o0 h0 o1 h1 x2 M) o0 h0 o1 h1 x2 M)
      · refine go_aload_n 0 36 dX2_readDamp_35 rfl rfl ?_
        refine go_getR flX2_9 h0 39 dX2_readDamp_36 rfl ?_
        refine go_bipush 59 41 dX2_readDamp_39 rfl (by decide) ?_
        refine go_cVI1 0 clX10 cwX2_129 (m_X10_isSign w (rF o0 0) (rk2_0 h0) 59 M) (rk2_0 h0) 44 dX2_readDamp_41 rfl ⟨Nat.le_of_ble_eq_true rfl, Nat.le_of_ble_eq_true rfl⟩ ⟨Nat.zero_le _, Nat.zero_le _⟩ (Nat.le_of_ble_eq_true rfl) (fun q2 M1 _ => ?_)
        refine go_if_eq 50 47 dX2_readDamp_44 rfl (by decide) (fun _ => ?_) (fun _ => ?_)
        · exact go_lv [0, 1, 2] rfl (s_X2_readDamp_50 w (f_X2_readDamp_25 w n) (fun o0 h0 o1 h1 x2 M => ih o0 h0 o1 h1 x2 M) o0 h0 o1 h1 x2 M1)
        · exact go_lv [0] rfl (s_X2_readDamp_47 w o0 h0 M1)
def f_X2_readDamp (w : Nat) (o0 : Nat) (o1 : Nat) (M : mM) : Option (Int32 × mM) := (if (M.1 o1 3) ≤ 0 then bV (f_X10_advance w (rF o0 0) M) fun M1 => (f_X2_readDamp_25 w w o0 o1 0 M1) else bI (f_X10_refuse w (rF o0 0) 3 M) fun q3 M2 => rtB q3 M2)
set_option maxHeartbeats 4000000 in
set_option maxRecDepth 100000 in
theorem s_X2_readDamp {l : Launch} {G : mG} {sk : List mS} (w : Nat) (o0 : Nat) (h0 : isK o0 12) (o1 : Nat) (h1 : isK o1 16) (M : mM) : Go muX2_readDamp (rm 4) 0 0 l G sk (mFin G sk eI) (f_X2_readDamp w o0 o1 M) 0 [(0, .ref (gB G + o0)), (1, .ref (gB G + o1))] [] M := by
  unfold f_X2_readDamp
  refine go_aload_n 1 1 dX2_readDamp_0 rfl rfl ?_
  refine go_getI flX2_126 (by decide) h1 4 dX2_readDamp_1 rfl ?_
  refine go_if_le 16 7 dX2_readDamp_4 rfl (by decide) (fun _ => ?_) (fun _ => ?_)
  · refine go_aload_n 0 17 dX2_readDamp_16 rfl rfl ?_
    refine go_getR flX2_9 h0 20 dX2_readDamp_17 rfl ?_
    refine go_cVV0 2 clX10 cwX2_72 (m_X10_advance w (rF o0 0) (rk2_0 h0) M) (rk2_0 h0) 23 dX2_readDamp_20 rfl ⟨Nat.le_of_ble_eq_true rfl, Nat.le_of_ble_eq_true rfl⟩ ⟨Nat.zero_le _, Nat.zero_le _⟩ (Nat.le_of_ble_eq_true rfl) (fun M1 _ => ?_)
    refine go_iconst 0 24 dX2_readDamp_23 rfl (by decide) ?_
    refine go_istore_n [(2, .int 0), (0, .ref (gB G + o0)), (1, .ref (gB G + o1))] 25 dX2_readDamp_24 rfl rfl (by decide) rfl ?_
    exact go_lv [1, 2, 0] rfl (s_X2_readDamp_25 w w o0 h0 o1 h1 0 M1)
  · refine go_aload_n 0 8 dX2_readDamp_7 rfl rfl ?_
    refine go_getR flX2_9 h0 11 dX2_readDamp_8 rfl ?_
    refine go_iconst 3 12 dX2_readDamp_11 rfl (by decide) ?_
    refine go_cVI1 0 clX10 cwX2_65 (m_X10_refuse w (rF o0 0) (rk2_0 h0) 3 M) (rk2_0 h0) 15 dX2_readDamp_12 rfl ⟨Nat.le_of_ble_eq_true rfl, Nat.le_of_ble_eq_true rfl⟩ ⟨Nat.zero_le _, Nat.zero_le _⟩ (Nat.le_of_ble_eq_true rfl) (fun q3 M2 _ => ?_)
    exact go_zret rfl dX2_readDamp_15
theorem m_X2_readDamp {l : Launch} {G : mG} {sk : List mS} (w : Nat) (o0 : Nat) (h0 : isK o0 12) (o1 : Nat) (h1 : isK o1 16) (M : mM) : Mt l G sk yX2_readDamp muX2_readDamp 4 [.ref (gB G + o0), .ref (gB G + o1)] M eI (f_X2_readDamp w o0 o1 M) := Mt.of (by decide) rfl (Nat.le_of_ble_eq_true rfl) (s_X2_readDamp w o0 h0 o1 h1 M)
theorem dX2_joinOn_0 : decode cX2_joinOn 0 = .ok (.iload_n 1, 1) := by decide +kernel
theorem dX2_joinOn_1 : decode cX2_joinOn 1 = .ok (.ifCond .ne 35, 3) := by decide +kernel
theorem dX2_joinOn_4 : decode cX2_joinOn 4 = .ok (.aload_n 0, 1) := by decide +kernel
theorem dX2_joinOn_5 : decode cX2_joinOn 5 = .ok (.ldc2_w 181, 3) := by decide +kernel
theorem dX2_joinOn_8 : decode cX2_joinOn 8 = .ok (.invokevirtual 38, 3) := by decide +kernel
theorem dX2_joinOn_11 : decode cX2_joinOn 11 = .ok (.ifCond .eq 8, 3) := by decide +kernel
theorem dX2_joinOn_14 : decode cX2_joinOn 14 = .ok (.bipush (-6), 2) := by decide +kernel
theorem dX2_joinOn_16 : decode cX2_joinOn 16 = .ok (.goto 19, 3) := by decide +kernel
theorem dX2_joinOn_19 : decode cX2_joinOn 19 = .ok (.aload_n 0, 1) := by decide +kernel
theorem dX2_joinOn_20 : decode cX2_joinOn 20 = .ok (.ldc2_w 183, 3) := by decide +kernel
theorem dX2_joinOn_23 : decode cX2_joinOn 23 = .ok (.invokevirtual 38, 3) := by decide +kernel
theorem dX2_joinOn_26 : decode cX2_joinOn 26 = .ok (.ifCond .eq 8, 3) := by decide +kernel
theorem dX2_joinOn_29 : decode cX2_joinOn 29 = .ok (.bipush (-7), 2) := by decide +kernel
theorem dX2_joinOn_31 : decode cX2_joinOn 31 = .ok (.goto 4, 3) := by decide +kernel
theorem dX2_joinOn_34 : decode cX2_joinOn 34 = .ok (.iconst 0, 1) := by decide +kernel
theorem dX2_joinOn_35 : decode cX2_joinOn 35 = .ok (.ireturn, 1) := by decide +kernel
theorem dX2_joinOn_36 : decode cX2_joinOn 36 = .ok (.iload_n 1, 1) := by decide +kernel
theorem dX2_joinOn_37 : decode cX2_joinOn 37 = .ok (.iconst 1, 1) := by decide +kernel
theorem dX2_joinOn_38 : decode cX2_joinOn 38 = .ok (.if_icmp .ne 33, 3) := by decide +kernel
theorem dX2_joinOn_41 : decode cX2_joinOn 41 = .ok (.aload_n 0, 1) := by decide +kernel
theorem dX2_joinOn_42 : decode cX2_joinOn 42 = .ok (.bipush 60, 2) := by decide +kernel
theorem dX2_joinOn_44 : decode cX2_joinOn 44 = .ok (.invokevirtual 129, 3) := by decide +kernel
theorem dX2_joinOn_47 : decode cX2_joinOn 47 = .ok (.ifCond .eq 8, 3) := by decide +kernel
theorem dX2_joinOn_50 : decode cX2_joinOn 50 = .ok (.bipush (-8), 2) := by decide +kernel
theorem dX2_joinOn_52 : decode cX2_joinOn 52 = .ok (.goto 18, 3) := by decide +kernel
theorem dX2_joinOn_55 : decode cX2_joinOn 55 = .ok (.aload_n 0, 1) := by decide +kernel
theorem dX2_joinOn_56 : decode cX2_joinOn 56 = .ok (.bipush 61, 2) := by decide +kernel
theorem dX2_joinOn_58 : decode cX2_joinOn 58 = .ok (.invokevirtual 129, 3) := by decide +kernel
theorem dX2_joinOn_61 : decode cX2_joinOn 61 = .ok (.ifCond .eq 8, 3) := by decide +kernel
theorem dX2_joinOn_64 : decode cX2_joinOn 64 = .ok (.bipush (-9), 2) := by decide +kernel
theorem dX2_joinOn_66 : decode cX2_joinOn 66 = .ok (.goto 4, 3) := by decide +kernel
theorem dX2_joinOn_69 : decode cX2_joinOn 69 = .ok (.iconst 0, 1) := by decide +kernel
theorem dX2_joinOn_70 : decode cX2_joinOn 70 = .ok (.ireturn, 1) := by decide +kernel
theorem dX2_joinOn_71 : decode cX2_joinOn 71 = .ok (.iload_n 1, 1) := by decide +kernel
theorem dX2_joinOn_72 : decode cX2_joinOn 72 = .ok (.iconst 3, 1) := by decide +kernel
theorem dX2_joinOn_73 : decode cX2_joinOn 73 = .ok (.if_icmp .ne 19, 3) := by decide +kernel
theorem dX2_joinOn_76 : decode cX2_joinOn 76 = .ok (.aload_n 0, 1) := by decide +kernel
theorem dX2_joinOn_77 : decode cX2_joinOn 77 = .ok (.bipush 42, 2) := by decide +kernel
theorem dX2_joinOn_79 : decode cX2_joinOn 79 = .ok (.invokevirtual 129, 3) := by decide +kernel
theorem dX2_joinOn_82 : decode cX2_joinOn 82 = .ok (.ifCond .eq 8, 3) := by decide +kernel
theorem dX2_joinOn_85 : decode cX2_joinOn 85 = .ok (.bipush (-12), 2) := by decide +kernel
theorem dX2_joinOn_87 : decode cX2_joinOn 87 = .ok (.goto 4, 3) := by decide +kernel
theorem dX2_joinOn_90 : decode cX2_joinOn 90 = .ok (.iconst 0, 1) := by decide +kernel
theorem dX2_joinOn_91 : decode cX2_joinOn 91 = .ok (.ireturn, 1) := by decide +kernel
theorem dX2_joinOn_92 : decode cX2_joinOn 92 = .ok (.aload_n 0, 1) := by decide +kernel
theorem dX2_joinOn_93 : decode cX2_joinOn 93 = .ok (.bipush 43, 2) := by decide +kernel
theorem dX2_joinOn_95 : decode cX2_joinOn 95 = .ok (.invokevirtual 129, 3) := by decide +kernel
theorem dX2_joinOn_98 : decode cX2_joinOn 98 = .ok (.ifCond .eq 8, 3) := by decide +kernel
theorem dX2_joinOn_101 : decode cX2_joinOn 101 = .ok (.bipush (-10), 2) := by decide +kernel
theorem dX2_joinOn_103 : decode cX2_joinOn 103 = .ok (.goto 18, 3) := by decide +kernel
theorem dX2_joinOn_106 : decode cX2_joinOn 106 = .ok (.aload_n 0, 1) := by decide +kernel
theorem dX2_joinOn_107 : decode cX2_joinOn 107 = .ok (.bipush 45, 2) := by decide +kernel
theorem dX2_joinOn_109 : decode cX2_joinOn 109 = .ok (.invokevirtual 129, 3) := by decide +kernel
theorem dX2_joinOn_112 : decode cX2_joinOn 112 = .ok (.ifCond .eq 8, 3) := by decide +kernel
theorem dX2_joinOn_115 : decode cX2_joinOn 115 = .ok (.bipush (-11), 2) := by decide +kernel
theorem dX2_joinOn_117 : decode cX2_joinOn 117 = .ok (.goto 4, 3) := by decide +kernel
theorem dX2_joinOn_120 : decode cX2_joinOn 120 = .ok (.iconst 0, 1) := by decide +kernel
theorem dX2_joinOn_121 : decode cX2_joinOn 121 = .ok (.ireturn, 1) := by decide +kernel
def f_X2_joinOn (w : Nat) (o0 : Nat) (x1 : Int32) (M : mM) : Option (Int32 × mM) := (if x1 = 0 then bI (f_X10_isWord w o0 6385252 M) fun q12 M11 => (if q12 = 0 then bI (f_X10_isWord w o0 28530 M11) fun q14 M13 => (if q14 = 0 then some (0, M13) else some ((-7), M13)) else some ((-6), M11)) else (if x1 = 1 then bI (f_X10_isSign w o0 60 M) fun q8 M7 => (if q8 = 0 then bI (f_X10_isSign w o0 61 M7) fun q10 M9 => (if q10 = 0 then some (0, M9) else some ((-9), M9)) else some ((-8), M7)) else (if x1 = 3 then bI (f_X10_isSign w o0 42 M) fun q6 M5 => (if q6 = 0 then some (0, M5) else some ((-12), M5)) else bI (f_X10_isSign w o0 43 M) fun q2 M1 => (if q2 = 0 then bI (f_X10_isSign w o0 45 M1) fun q4 M3 => (if q4 = 0 then some (0, M3) else some ((-11), M3)) else some ((-10), M1)))))
set_option maxHeartbeats 4000000 in
set_option maxRecDepth 100000 in
theorem s_X2_joinOn {l : Launch} {G : mG} {sk : List mS} (w : Nat) (o0 : Nat) (h0 : isK o0 20) (x1 : Int32) (M : mM) : Go muX2_joinOn (rm 1) 0 0 l G sk (mFin G sk eI) (f_X2_joinOn w o0 x1 M) 0 [(0, .ref (gB G + o0)), (1, .int x1)] [] M := by
  unfold f_X2_joinOn
  refine go_iload_n 1 1 dX2_joinOn_0 rfl rfl ?_
  refine go_if_ne 36 4 dX2_joinOn_1 rfl (by decide) (fun _ => ?_) (fun _ => ?_)
  · refine go_iload_n 1 37 dX2_joinOn_36 rfl rfl ?_
    refine go_iconst 1 38 dX2_joinOn_37 rfl (by decide) ?_
    refine go_icmp_ne 71 41 dX2_joinOn_38 rfl (by decide) (fun _ => ?_) (fun _ => ?_)
    · refine go_iload_n 1 72 dX2_joinOn_71 rfl rfl ?_
      refine go_iconst 3 73 dX2_joinOn_72 rfl (by decide) ?_
      refine go_icmp_ne 92 76 dX2_joinOn_73 rfl (by decide) (fun _ => ?_) (fun _ => ?_)
      · refine go_aload_n 0 93 dX2_joinOn_92 rfl rfl ?_
        refine go_bipush 43 95 dX2_joinOn_93 rfl (by decide) ?_
        refine go_cVI1 0 clX10 cwX2_129 (m_X10_isSign w o0 h0 43 M) h0 98 dX2_joinOn_95 rfl ⟨Nat.le_of_ble_eq_true rfl, Nat.le_of_ble_eq_true rfl⟩ ⟨Nat.zero_le _, Nat.zero_le _⟩ (Nat.le_of_ble_eq_true rfl) (fun q2 M1 _ => ?_)
        refine go_if_eq 106 101 dX2_joinOn_98 rfl (by decide) (fun _ => ?_) (fun _ => ?_)
        · refine go_aload_n 0 107 dX2_joinOn_106 rfl rfl ?_
          refine go_bipush 45 109 dX2_joinOn_107 rfl (by decide) ?_
          refine go_cVI1 0 clX10 cwX2_129 (m_X10_isSign w o0 h0 45 M1) h0 112 dX2_joinOn_109 rfl ⟨Nat.le_of_ble_eq_true rfl, Nat.le_of_ble_eq_true rfl⟩ ⟨Nat.zero_le _, Nat.zero_le _⟩ (Nat.le_of_ble_eq_true rfl) (fun q4 M3 _ => ?_)
          refine go_if_eq 120 115 dX2_joinOn_112 rfl (by decide) (fun _ => ?_) (fun _ => ?_)
          · refine go_iconst 0 121 dX2_joinOn_120 rfl (by decide) ?_
            exact go_iret rfl dX2_joinOn_121
          · refine go_bipush (-11) 117 dX2_joinOn_115 rfl (by decide) ?_
            refine go_goto 121 dX2_joinOn_117 (by decide) ?_
            exact go_iret rfl dX2_joinOn_121
        · refine go_bipush (-10) 103 dX2_joinOn_101 rfl (by decide) ?_
          refine go_goto 121 dX2_joinOn_103 (by decide) ?_
          exact go_iret rfl dX2_joinOn_121
      · refine go_aload_n 0 77 dX2_joinOn_76 rfl rfl ?_
        refine go_bipush 42 79 dX2_joinOn_77 rfl (by decide) ?_
        refine go_cVI1 0 clX10 cwX2_129 (m_X10_isSign w o0 h0 42 M) h0 82 dX2_joinOn_79 rfl ⟨Nat.le_of_ble_eq_true rfl, Nat.le_of_ble_eq_true rfl⟩ ⟨Nat.zero_le _, Nat.zero_le _⟩ (Nat.le_of_ble_eq_true rfl) (fun q6 M5 _ => ?_)
        refine go_if_eq 90 85 dX2_joinOn_82 rfl (by decide) (fun _ => ?_) (fun _ => ?_)
        · refine go_iconst 0 91 dX2_joinOn_90 rfl (by decide) ?_
          exact go_iret rfl dX2_joinOn_91
        · refine go_bipush (-12) 87 dX2_joinOn_85 rfl (by decide) ?_
          refine go_goto 91 dX2_joinOn_87 (by decide) ?_
          exact go_iret rfl dX2_joinOn_91
    · refine go_aload_n 0 42 dX2_joinOn_41 rfl rfl ?_
      refine go_bipush 60 44 dX2_joinOn_42 rfl (by decide) ?_
      refine go_cVI1 0 clX10 cwX2_129 (m_X10_isSign w o0 h0 60 M) h0 47 dX2_joinOn_44 rfl ⟨Nat.le_of_ble_eq_true rfl, Nat.le_of_ble_eq_true rfl⟩ ⟨Nat.zero_le _, Nat.zero_le _⟩ (Nat.le_of_ble_eq_true rfl) (fun q8 M7 _ => ?_)
      refine go_if_eq 55 50 dX2_joinOn_47 rfl (by decide) (fun _ => ?_) (fun _ => ?_)
      · refine go_aload_n 0 56 dX2_joinOn_55 rfl rfl ?_
        refine go_bipush 61 58 dX2_joinOn_56 rfl (by decide) ?_
        refine go_cVI1 0 clX10 cwX2_129 (m_X10_isSign w o0 h0 61 M7) h0 61 dX2_joinOn_58 rfl ⟨Nat.le_of_ble_eq_true rfl, Nat.le_of_ble_eq_true rfl⟩ ⟨Nat.zero_le _, Nat.zero_le _⟩ (Nat.le_of_ble_eq_true rfl) (fun q10 M9 _ => ?_)
        refine go_if_eq 69 64 dX2_joinOn_61 rfl (by decide) (fun _ => ?_) (fun _ => ?_)
        · refine go_iconst 0 70 dX2_joinOn_69 rfl (by decide) ?_
          exact go_iret rfl dX2_joinOn_70
        · refine go_bipush (-9) 66 dX2_joinOn_64 rfl (by decide) ?_
          refine go_goto 70 dX2_joinOn_66 (by decide) ?_
          exact go_iret rfl dX2_joinOn_70
      · refine go_bipush (-8) 52 dX2_joinOn_50 rfl (by decide) ?_
        refine go_goto 70 dX2_joinOn_52 (by decide) ?_
        exact go_iret rfl dX2_joinOn_70
  · refine go_aload_n 0 5 dX2_joinOn_4 rfl rfl ?_
    refine go_ldc2 klX2_181 8 dX2_joinOn_5 rfl ?_
    refine go_cVI1 0 clX10 cwX2_38 (m_X10_isWord w o0 h0 6385252 M) h0 11 dX2_joinOn_8 rfl ⟨Nat.le_of_ble_eq_true rfl, Nat.le_of_ble_eq_true rfl⟩ ⟨Nat.zero_le _, Nat.zero_le _⟩ (Nat.le_of_ble_eq_true rfl) (fun q12 M11 _ => ?_)
    refine go_if_eq 19 14 dX2_joinOn_11 rfl (by decide) (fun _ => ?_) (fun _ => ?_)
    · refine go_aload_n 0 20 dX2_joinOn_19 rfl rfl ?_
      refine go_ldc2 klX2_183 23 dX2_joinOn_20 rfl ?_
      refine go_cVI1 0 clX10 cwX2_38 (m_X10_isWord w o0 h0 28530 M11) h0 26 dX2_joinOn_23 rfl ⟨Nat.le_of_ble_eq_true rfl, Nat.le_of_ble_eq_true rfl⟩ ⟨Nat.zero_le _, Nat.zero_le _⟩ (Nat.le_of_ble_eq_true rfl) (fun q14 M13 _ => ?_)
      refine go_if_eq 34 29 dX2_joinOn_26 rfl (by decide) (fun _ => ?_) (fun _ => ?_)
      · refine go_iconst 0 35 dX2_joinOn_34 rfl (by decide) ?_
        exact go_iret rfl dX2_joinOn_35
      · refine go_bipush (-7) 31 dX2_joinOn_29 rfl (by decide) ?_
        refine go_goto 35 dX2_joinOn_31 (by decide) ?_
        exact go_iret rfl dX2_joinOn_35
    · refine go_bipush (-6) 16 dX2_joinOn_14 rfl (by decide) ?_
      refine go_goto 35 dX2_joinOn_16 (by decide) ?_
      exact go_iret rfl dX2_joinOn_35
theorem m_X2_joinOn {l : Launch} {G : mG} {sk : List mS} (w : Nat) (o0 : Nat) (h0 : isK o0 20) (x1 : Int32) (M : mM) : Mt l G sk yX2_joinOn muX2_joinOn 1 [.ref (gB G + o0), .int x1] M eI (f_X2_joinOn w o0 x1 M) := Mt.of (by decide) rfl (Nat.le_of_ble_eq_true rfl) (s_X2_joinOn w o0 h0 x1 M)
theorem dX2_factTold_0 : decode cX2_factTold 0 = .ok (.aload_n 0, 1) := by decide +kernel
theorem dX2_factTold_1 : decode cX2_factTold 1 = .ok (.ldc2_w 191, 3) := by decide +kernel
theorem dX2_factTold_4 : decode cX2_factTold 4 = .ok (.invokevirtual 38, 3) := by decide +kernel
theorem dX2_factTold_7 : decode cX2_factTold 7 = .ok (.ifCond .eq 5, 3) := by decide +kernel
theorem dX2_factTold_10 : decode cX2_factTold 10 = .ok (.iconst (-1), 1) := by decide +kernel
theorem dX2_factTold_11 : decode cX2_factTold 11 = .ok (.ireturn, 1) := by decide +kernel
theorem dX2_factTold_12 : decode cX2_factTold 12 = .ok (.aload_n 0, 1) := by decide +kernel
theorem dX2_factTold_13 : decode cX2_factTold 13 = .ok (.ldc2_w 193, 3) := by decide +kernel
theorem dX2_factTold_16 : decode cX2_factTold 16 = .ok (.invokevirtual 38, 3) := by decide +kernel
theorem dX2_factTold_19 : decode cX2_factTold 19 = .ok (.ifCond .eq 6, 3) := by decide +kernel
theorem dX2_factTold_22 : decode cX2_factTold 22 = .ok (.bipush (-2), 2) := by decide +kernel
theorem dX2_factTold_24 : decode cX2_factTold 24 = .ok (.ireturn, 1) := by decide +kernel
theorem dX2_factTold_25 : decode cX2_factTold 25 = .ok (.aload_n 0, 1) := by decide +kernel
theorem dX2_factTold_26 : decode cX2_factTold 26 = .ok (.ldc2_w 195, 3) := by decide +kernel
theorem dX2_factTold_29 : decode cX2_factTold 29 = .ok (.invokevirtual 38, 3) := by decide +kernel
theorem dX2_factTold_32 : decode cX2_factTold 32 = .ok (.ifCond .eq 6, 3) := by decide +kernel
theorem dX2_factTold_35 : decode cX2_factTold 35 = .ok (.bipush (-3), 2) := by decide +kernel
theorem dX2_factTold_37 : decode cX2_factTold 37 = .ok (.ireturn, 1) := by decide +kernel
theorem dX2_factTold_38 : decode cX2_factTold 38 = .ok (.aload_n 0, 1) := by decide +kernel
theorem dX2_factTold_39 : decode cX2_factTold 39 = .ok (.ldc2_w 197, 3) := by decide +kernel
theorem dX2_factTold_42 : decode cX2_factTold 42 = .ok (.invokevirtual 38, 3) := by decide +kernel
theorem dX2_factTold_45 : decode cX2_factTold 45 = .ok (.ifCond .eq 8, 3) := by decide +kernel
theorem dX2_factTold_48 : decode cX2_factTold 48 = .ok (.bipush (-4), 2) := by decide +kernel
theorem dX2_factTold_50 : decode cX2_factTold 50 = .ok (.goto 4, 3) := by decide +kernel
theorem dX2_factTold_53 : decode cX2_factTold 53 = .ok (.iconst 0, 1) := by decide +kernel
theorem dX2_factTold_54 : decode cX2_factTold 54 = .ok (.ireturn, 1) := by decide +kernel
def f_X2_factTold (w : Nat) (o0 : Nat) (M : mM) : Option (Int32 × mM) := bI (f_X10_isWord w o0 7824756 M) fun q2 M1 => (if q2 = 0 then bI (f_X10_isWord w o0 495924374636 M1) fun q4 M3 => (if q4 = 0 then bI (f_X10_isWord w o0 495806669669 M3) fun q6 M5 => (if q6 = 0 then bI (f_X10_isWord w o0 1684108389 M5) fun q8 M7 => (if q8 = 0 then some (0, M7) else some ((-4), M7)) else some ((-3), M5)) else some ((-2), M3)) else some ((-1), M1))
set_option maxHeartbeats 4000000 in
set_option maxRecDepth 100000 in
theorem s_X2_factTold {l : Launch} {G : mG} {sk : List mS} (w : Nat) (o0 : Nat) (h0 : isK o0 20) (M : mM) : Go muX2_factTold (rm 1) 0 0 l G sk (mFin G sk eI) (f_X2_factTold w o0 M) 0 [(0, .ref (gB G + o0))] [] M := by
  unfold f_X2_factTold
  refine go_aload_n 0 1 dX2_factTold_0 rfl rfl ?_
  refine go_ldc2 klX2_191 4 dX2_factTold_1 rfl ?_
  refine go_cVI1 0 clX10 cwX2_38 (m_X10_isWord w o0 h0 7824756 M) h0 7 dX2_factTold_4 rfl ⟨Nat.le_of_ble_eq_true rfl, Nat.le_of_ble_eq_true rfl⟩ ⟨Nat.zero_le _, Nat.zero_le _⟩ (Nat.le_of_ble_eq_true rfl) (fun q2 M1 _ => ?_)
  refine go_if_eq 12 10 dX2_factTold_7 rfl (by decide) (fun _ => ?_) (fun _ => ?_)
  · refine go_aload_n 0 13 dX2_factTold_12 rfl rfl ?_
    refine go_ldc2 klX2_193 16 dX2_factTold_13 rfl ?_
    refine go_cVI1 0 clX10 cwX2_38 (m_X10_isWord w o0 h0 495924374636 M1) h0 19 dX2_factTold_16 rfl ⟨Nat.le_of_ble_eq_true rfl, Nat.le_of_ble_eq_true rfl⟩ ⟨Nat.zero_le _, Nat.zero_le _⟩ (Nat.le_of_ble_eq_true rfl) (fun q4 M3 _ => ?_)
    refine go_if_eq 25 22 dX2_factTold_19 rfl (by decide) (fun _ => ?_) (fun _ => ?_)
    · refine go_aload_n 0 26 dX2_factTold_25 rfl rfl ?_
      refine go_ldc2 klX2_195 29 dX2_factTold_26 rfl ?_
      refine go_cVI1 0 clX10 cwX2_38 (m_X10_isWord w o0 h0 495806669669 M3) h0 32 dX2_factTold_29 rfl ⟨Nat.le_of_ble_eq_true rfl, Nat.le_of_ble_eq_true rfl⟩ ⟨Nat.zero_le _, Nat.zero_le _⟩ (Nat.le_of_ble_eq_true rfl) (fun q6 M5 _ => ?_)
      refine go_if_eq 38 35 dX2_factTold_32 rfl (by decide) (fun _ => ?_) (fun _ => ?_)
      · refine go_aload_n 0 39 dX2_factTold_38 rfl rfl ?_
        refine go_ldc2 klX2_197 42 dX2_factTold_39 rfl ?_
        refine go_cVI1 0 clX10 cwX2_38 (m_X10_isWord w o0 h0 1684108389 M5) h0 45 dX2_factTold_42 rfl ⟨Nat.le_of_ble_eq_true rfl, Nat.le_of_ble_eq_true rfl⟩ ⟨Nat.zero_le _, Nat.zero_le _⟩ (Nat.le_of_ble_eq_true rfl) (fun q8 M7 _ => ?_)
        refine go_if_eq 53 48 dX2_factTold_45 rfl (by decide) (fun _ => ?_) (fun _ => ?_)
        · refine go_iconst 0 54 dX2_factTold_53 rfl (by decide) ?_
          exact go_iret rfl dX2_factTold_54
        · refine go_bipush (-4) 50 dX2_factTold_48 rfl (by decide) ?_
          refine go_goto 54 dX2_factTold_50 (by decide) ?_
          exact go_iret rfl dX2_factTold_54
      · refine go_bipush (-3) 37 dX2_factTold_35 rfl (by decide) ?_
        exact go_iret rfl dX2_factTold_37
    · refine go_bipush (-2) 24 dX2_factTold_22 rfl (by decide) ?_
      exact go_iret rfl dX2_factTold_24
  · refine go_iconst (-1) 11 dX2_factTold_10 rfl (by decide) ?_
    exact go_iret rfl dX2_factTold_11
theorem m_X2_factTold {l : Launch} {G : mG} {sk : List mS} (w : Nat) (o0 : Nat) (h0 : isK o0 20) (M : mM) : Mt l G sk yX2_factTold muX2_factTold 1 [.ref (gB G + o0)] M eI (f_X2_factTold w o0 M) := Mt.of (by decide) rfl (Nat.le_of_ble_eq_true rfl) (s_X2_factTold w o0 h0 M)
theorem dX2_readTerm_0 : decode cX2_readTerm 0 = .ok (.iload_n 2, 1) := by decide +kernel
theorem dX2_readTerm_1 : decode cX2_readTerm 1 = .ok (.iconst 4, 1) := by decide +kernel
theorem dX2_readTerm_2 : decode cX2_readTerm 2 = .ok (.if_icmp .lt 10, 3) := by decide +kernel
theorem dX2_readTerm_5 : decode cX2_readTerm 5 = .ok (.aload_n 0, 1) := by decide +kernel
theorem dX2_readTerm_6 : decode cX2_readTerm 6 = .ok (.aload_n 1, 1) := by decide +kernel
theorem dX2_readTerm_7 : decode cX2_readTerm 7 = .ok (.iload_n 3, 1) := by decide +kernel
theorem dX2_readTerm_8 : decode cX2_readTerm 8 = .ok (.invokestatic 170, 3) := by decide +kernel
theorem dX2_readTerm_11 : decode cX2_readTerm 11 = .ok (.ireturn, 1) := by decide +kernel
theorem dX2_readTerm_12 : decode cX2_readTerm 12 = .ok (.aload_n 0, 1) := by decide +kernel
theorem dX2_readTerm_13 : decode cX2_readTerm 13 = .ok (.aload_n 1, 1) := by decide +kernel
theorem dX2_readTerm_14 : decode cX2_readTerm 14 = .ok (.iload_n 2, 1) := by decide +kernel
theorem dX2_readTerm_15 : decode cX2_readTerm 15 = .ok (.iconst 1, 1) := by decide +kernel
theorem dX2_readTerm_16 : decode cX2_readTerm 16 = .ok (.iadd, 1) := by decide +kernel
theorem dX2_readTerm_17 : decode cX2_readTerm 17 = .ok (.iload_n 3, 1) := by decide +kernel
theorem dX2_readTerm_18 : decode cX2_readTerm 18 = .ok (.invokestatic 147, 3) := by decide +kernel
theorem dX2_readTerm_21 : decode cX2_readTerm 21 = .ok (.ifCond .ne 5, 3) := by decide +kernel
theorem dX2_readTerm_24 : decode cX2_readTerm 24 = .ok (.iconst 0, 1) := by decide +kernel
theorem dX2_readTerm_25 : decode cX2_readTerm 25 = .ok (.ireturn, 1) := by decide +kernel
theorem dX2_readTerm_26 : decode cX2_readTerm 26 = .ok (.iload_n 2, 1) := by decide +kernel
theorem dX2_readTerm_27 : decode cX2_readTerm 27 = .ok (.iconst 1, 1) := by decide +kernel
theorem dX2_readTerm_28 : decode cX2_readTerm 28 = .ok (.if_icmp .ne 7, 3) := by decide +kernel
theorem dX2_readTerm_31 : decode cX2_readTerm 31 = .ok (.iconst 1, 1) := by decide +kernel
theorem dX2_readTerm_32 : decode cX2_readTerm 32 = .ok (.goto 6, 3) := by decide +kernel
theorem dX2_readTerm_35 : decode cX2_readTerm 35 = .ok (.sipush 1000, 3) := by decide +kernel
theorem dX2_readTerm_38 : decode cX2_readTerm 38 = .ok (.istore 4, 2) := by decide +kernel
theorem dX2_readTerm_40 : decode cX2_readTerm 40 = .ok (.iconst 0, 1) := by decide +kernel
theorem dX2_readTerm_41 : decode cX2_readTerm 41 = .ok (.istore 5, 2) := by decide +kernel
theorem dX2_readTerm_43 : decode cX2_readTerm 43 = .ok (.iload 5, 2) := by decide +kernel
theorem dX2_readTerm_45 : decode cX2_readTerm 45 = .ok (.iload 4, 2) := by decide +kernel
theorem dX2_readTerm_47 : decode cX2_readTerm 47 = .ok (.if_icmp .ge 48, 3) := by decide +kernel
theorem dX2_readTerm_50 : decode cX2_readTerm 50 = .ok (.aload_n 0, 1) := by decide +kernel
theorem dX2_readTerm_51 : decode cX2_readTerm 51 = .ok (.iload_n 2, 1) := by decide +kernel
theorem dX2_readTerm_52 : decode cX2_readTerm 52 = .ok (.invokestatic 174, 3) := by decide +kernel
theorem dX2_readTerm_55 : decode cX2_readTerm 55 = .ok (.istore 6, 2) := by decide +kernel
theorem dX2_readTerm_57 : decode cX2_readTerm 57 = .ok (.iload 6, 2) := by decide +kernel
theorem dX2_readTerm_59 : decode cX2_readTerm 59 = .ok (.ifCond .ne 6, 3) := by decide +kernel
theorem dX2_readTerm_62 : decode cX2_readTerm 62 = .ok (.goto 33, 3) := by decide +kernel
theorem dX2_readTerm_65 : decode cX2_readTerm 65 = .ok (.aload_n 0, 1) := by decide +kernel
theorem dX2_readTerm_66 : decode cX2_readTerm 66 = .ok (.invokevirtual 72, 3) := by decide +kernel
theorem dX2_readTerm_69 : decode cX2_readTerm 69 = .ok (.aload_n 0, 1) := by decide +kernel
theorem dX2_readTerm_70 : decode cX2_readTerm 70 = .ok (.aload_n 1, 1) := by decide +kernel
theorem dX2_readTerm_71 : decode cX2_readTerm 71 = .ok (.iload_n 2, 1) := by decide +kernel
theorem dX2_readTerm_72 : decode cX2_readTerm 72 = .ok (.iconst 1, 1) := by decide +kernel
theorem dX2_readTerm_73 : decode cX2_readTerm 73 = .ok (.iadd, 1) := by decide +kernel
theorem dX2_readTerm_74 : decode cX2_readTerm 74 = .ok (.iload_n 3, 1) := by decide +kernel
theorem dX2_readTerm_75 : decode cX2_readTerm 75 = .ok (.invokestatic 147, 3) := by decide +kernel
theorem dX2_readTerm_78 : decode cX2_readTerm 78 = .ok (.ifCond .ne 5, 3) := by decide +kernel
theorem dX2_readTerm_81 : decode cX2_readTerm 81 = .ok (.iconst 0, 1) := by decide +kernel
theorem dX2_readTerm_82 : decode cX2_readTerm 82 = .ok (.ireturn, 1) := by decide +kernel
theorem dX2_readTerm_83 : decode cX2_readTerm 83 = .ok (.aload_n 1, 1) := by decide +kernel
theorem dX2_readTerm_84 : decode cX2_readTerm 84 = .ok (.iload 6, 2) := by decide +kernel
theorem dX2_readTerm_86 : decode cX2_readTerm 86 = .ok (.invokevirtual 178, 3) := by decide +kernel
theorem dX2_readTerm_89 : decode cX2_readTerm 89 = .ok (.iinc 5 1, 3) := by decide +kernel
theorem dX2_readTerm_92 : decode cX2_readTerm 92 = .ok (.goto (-49), 3) := by decide +kernel
theorem dX2_readTerm_95 : decode cX2_readTerm 95 = .ok (.iconst 1, 1) := by decide +kernel
theorem dX2_readTerm_96 : decode cX2_readTerm 96 = .ok (.ireturn, 1) := by decide +kernel
theorem dX2_readPart_0 : decode cX2_readPart 0 = .ok (.aload_n 0, 1) := by decide +kernel
theorem dX2_readPart_1 : decode cX2_readPart 1 = .ok (.bipush 40, 2) := by decide +kernel
theorem dX2_readPart_3 : decode cX2_readPart 3 = .ok (.invokevirtual 129, 3) := by decide +kernel
theorem dX2_readPart_6 : decode cX2_readPart 6 = .ok (.istore_n 3, 1) := by decide +kernel
theorem dX2_readPart_7 : decode cX2_readPart 7 = .ok (.aload_n 0, 1) := by decide +kernel
theorem dX2_readPart_8 : decode cX2_readPart 8 = .ok (.ldc2_w 185, 3) := by decide +kernel
theorem dX2_readPart_11 : decode cX2_readPart 11 = .ok (.invokevirtual 38, 3) := by decide +kernel
theorem dX2_readPart_14 : decode cX2_readPart 14 = .ok (.istore 4, 2) := by decide +kernel
theorem dX2_readPart_16 : decode cX2_readPart 16 = .ok (.aload_n 0, 1) := by decide +kernel
theorem dX2_readPart_17 : decode cX2_readPart 17 = .ok (.invokestatic 187, 3) := by decide +kernel
theorem dX2_readPart_20 : decode cX2_readPart 20 = .ok (.istore 5, 2) := by decide +kernel
theorem dX2_readPart_22 : decode cX2_readPart 22 = .ok (.iload_n 3, 1) := by decide +kernel
theorem dX2_readPart_23 : decode cX2_readPart 23 = .ok (.ifCond .ne 27, 3) := by decide +kernel
theorem dX2_readPart_26 : decode cX2_readPart 26 = .ok (.iload 4, 2) := by decide +kernel
theorem dX2_readPart_28 : decode cX2_readPart 28 = .ok (.ifCond .ne 22, 3) := by decide +kernel
theorem dX2_readPart_31 : decode cX2_readPart 31 = .ok (.iload 5, 2) := by decide +kernel
theorem dX2_readPart_33 : decode cX2_readPart 33 = .ok (.ifCond .ne 17, 3) := by decide +kernel
theorem dX2_readPart_36 : decode cX2_readPart 36 = .ok (.aload_n 0, 1) := by decide +kernel
theorem dX2_readPart_37 : decode cX2_readPart 37 = .ok (.getfield 25, 3) := by decide +kernel
theorem dX2_readPart_40 : decode cX2_readPart 40 = .ok (.iconst 2, 1) := by decide +kernel
theorem dX2_readPart_41 : decode cX2_readPart 41 = .ok (.if_icmp .eq 9, 3) := by decide +kernel
theorem dX2_readPart_44 : decode cX2_readPart 44 = .ok (.aload_n 0, 1) := by decide +kernel
theorem dX2_readPart_45 : decode cX2_readPart 45 = .ok (.iconst 1, 1) := by decide +kernel
theorem dX2_readPart_46 : decode cX2_readPart 46 = .ok (.invokevirtual 65, 3) := by decide +kernel
theorem dX2_readPart_49 : decode cX2_readPart 49 = .ok (.ireturn, 1) := by decide +kernel
theorem dX2_readPart_50 : decode cX2_readPart 50 = .ok (.iload_n 2, 1) := by decide +kernel
theorem dX2_readPart_51 : decode cX2_readPart 51 = .ok (.iconst 5, 1) := by decide +kernel
theorem dX2_readPart_52 : decode cX2_readPart 52 = .ok (.if_icmp .lt 9, 3) := by decide +kernel
theorem dX2_readPart_55 : decode cX2_readPart 55 = .ok (.aload_n 0, 1) := by decide +kernel
theorem dX2_readPart_56 : decode cX2_readPart 56 = .ok (.iconst 5, 1) := by decide +kernel
theorem dX2_readPart_57 : decode cX2_readPart 57 = .ok (.invokevirtual 65, 3) := by decide +kernel
theorem dX2_readPart_60 : decode cX2_readPart 60 = .ok (.ireturn, 1) := by decide +kernel
theorem dX2_readPart_61 : decode cX2_readPart 61 = .ok (.aload_n 0, 1) := by decide +kernel
theorem dX2_readPart_62 : decode cX2_readPart 62 = .ok (.getfield 78, 3) := by decide +kernel
theorem dX2_readPart_65 : decode cX2_readPart 65 = .ok (.l2i, 1) := by decide +kernel
theorem dX2_readPart_66 : decode cX2_readPart 66 = .ok (.istore 6, 2) := by decide +kernel
theorem dX2_readPart_68 : decode cX2_readPart 68 = .ok (.aload_n 0, 1) := by decide +kernel
theorem dX2_readPart_69 : decode cX2_readPart 69 = .ok (.invokevirtual 72, 3) := by decide +kernel
theorem dX2_readPart_72 : decode cX2_readPart 72 = .ok (.iload_n 3, 1) := by decide +kernel
theorem dX2_readPart_73 : decode cX2_readPart 73 = .ok (.ifCond .eq 30, 3) := by decide +kernel
theorem dX2_readPart_76 : decode cX2_readPart 76 = .ok (.aload_n 0, 1) := by decide +kernel
theorem dX2_readPart_77 : decode cX2_readPart 77 = .ok (.aload_n 1, 1) := by decide +kernel
theorem dX2_readPart_78 : decode cX2_readPart 78 = .ok (.iconst 0, 1) := by decide +kernel
theorem dX2_readPart_79 : decode cX2_readPart 79 = .ok (.iload_n 2, 1) := by decide +kernel
theorem dX2_readPart_80 : decode cX2_readPart 80 = .ok (.iconst 1, 1) := by decide +kernel
theorem dX2_readPart_81 : decode cX2_readPart 81 = .ok (.iadd, 1) := by decide +kernel
theorem dX2_readPart_82 : decode cX2_readPart 82 = .ok (.invokestatic 147, 3) := by decide +kernel
theorem dX2_readPart_85 : decode cX2_readPart 85 = .ok (.ifCond .eq 16, 3) := by decide +kernel
theorem dX2_readPart_88 : decode cX2_readPart 88 = .ok (.aload_n 0, 1) := by decide +kernel
theorem dX2_readPart_89 : decode cX2_readPart 89 = .ok (.bipush 41, 2) := by decide +kernel
theorem dX2_readPart_91 : decode cX2_readPart 91 = .ok (.invokevirtual 86, 3) := by decide +kernel
theorem dX2_readPart_94 : decode cX2_readPart 94 = .ok (.ifCond .eq 7, 3) := by decide +kernel
theorem dX2_readPart_97 : decode cX2_readPart 97 = .ok (.iconst 1, 1) := by decide +kernel
theorem dX2_readPart_98 : decode cX2_readPart 98 = .ok (.goto 4, 3) := by decide +kernel
theorem dX2_readPart_101 : decode cX2_readPart 101 = .ok (.iconst 0, 1) := by decide +kernel
theorem dX2_readPart_102 : decode cX2_readPart 102 = .ok (.ireturn, 1) := by decide +kernel
theorem dX2_readPart_103 : decode cX2_readPart 103 = .ok (.iload 4, 2) := by decide +kernel
theorem dX2_readPart_105 : decode cX2_readPart 105 = .ok (.ifCond .eq 24, 3) := by decide +kernel
theorem dX2_readPart_108 : decode cX2_readPart 108 = .ok (.aload_n 0, 1) := by decide +kernel
theorem dX2_readPart_109 : decode cX2_readPart 109 = .ok (.aload_n 1, 1) := by decide +kernel
theorem dX2_readPart_110 : decode cX2_readPart 110 = .ok (.iload_n 2, 1) := by decide +kernel
theorem dX2_readPart_111 : decode cX2_readPart 111 = .ok (.iconst 1, 1) := by decide +kernel
theorem dX2_readPart_112 : decode cX2_readPart 112 = .ok (.iadd, 1) := by decide +kernel
theorem dX2_readPart_113 : decode cX2_readPart 113 = .ok (.invokestatic 170, 3) := by decide +kernel
theorem dX2_readPart_116 : decode cX2_readPart 116 = .ok (.ifCond .ne 5, 3) := by decide +kernel
theorem dX2_readPart_119 : decode cX2_readPart 119 = .ok (.iconst 0, 1) := by decide +kernel
theorem dX2_readPart_120 : decode cX2_readPart 120 = .ok (.ireturn, 1) := by decide +kernel
theorem dX2_readPart_121 : decode cX2_readPart 121 = .ok (.aload_n 1, 1) := by decide +kernel
theorem dX2_readPart_122 : decode cX2_readPart 122 = .ok (.bipush (-5), 2) := by decide +kernel
theorem dX2_readPart_124 : decode cX2_readPart 124 = .ok (.invokevirtual 178, 3) := by decide +kernel
theorem dX2_readPart_127 : decode cX2_readPart 127 = .ok (.iconst 1, 1) := by decide +kernel
theorem dX2_readPart_128 : decode cX2_readPart 128 = .ok (.ireturn, 1) := by decide +kernel
theorem dX2_readPart_129 : decode cX2_readPart 129 = .ok (.aload_n 1, 1) := by decide +kernel
theorem dX2_readPart_130 : decode cX2_readPart 130 = .ok (.iload 5, 2) := by decide +kernel
theorem dX2_readPart_132 : decode cX2_readPart 132 = .ok (.ifCond .ne 8, 3) := by decide +kernel
theorem dX2_readPart_135 : decode cX2_readPart 135 = .ok (.iload 6, 2) := by decide +kernel
theorem dX2_readPart_137 : decode cX2_readPart 137 = .ok (.goto 5, 3) := by decide +kernel
theorem dX2_readPart_140 : decode cX2_readPart 140 = .ok (.iload 5, 2) := by decide +kernel
theorem dX2_readPart_142 : decode cX2_readPart 142 = .ok (.invokevirtual 178, 3) := by decide +kernel
theorem dX2_readPart_145 : decode cX2_readPart 145 = .ok (.iconst 1, 1) := by decide +kernel
theorem dX2_readPart_146 : decode cX2_readPart 146 = .ok (.ireturn, 1) := by decide +kernel
def f_X2_readTerm_62 (w : Nat) (r0 : Nat → Nat → Int32 → Int32 → mM → Option (Int32 × mM)) (r1 : Nat → Nat → Int32 → mM → Option (Int32 × mM)) (M : mM) : Option (Int32 × mM) := rtB 1 M
set_option maxHeartbeats 4000000 in
set_option maxRecDepth 100000 in
theorem s_X2_readTerm_62 {l : Launch} {G : mG} {sk : List mS} (w : Nat) (d : Nat) (r0 : Nat → Nat → Int32 → Int32 → mM → Option (Int32 × mM)) (r1 : Nat → Nat → Int32 → mM → Option (Int32 × mM)) (hr0 : ∀ (o0 : Nat) (h0 : isK o0 20) (o1 : Nat) (h1 : isK o1 13) (x2 : Int32) (x3 : Int32) (M : mM), Mt l G sk yX2_readTerm muX2_readTerm d [.ref (gB G + o0), .ref (gB G + o1), .int x2, .int x3] M eI (r0 o0 o1 x2 x3 M)) (hr1 : ∀ (o0 : Nat) (h0 : isK o0 20) (o1 : Nat) (h1 : isK o1 13) (x2 : Int32) (M : mM), Mt l G sk yX2_readPart muX2_readPart d [.ref (gB G + o0), .ref (gB G + o1), .int x2] M eI (r1 o0 o1 x2 M)) (hdd : 4 ≤ d + 1) (M : mM) : Go muX2_readTerm (rm (d + 1)) 0 0 l G sk (mFin G sk eI) (f_X2_readTerm_62 w r0 r1 M) 62 [] [] M := by
  unfold f_X2_readTerm_62
  refine go_goto 95 dX2_readTerm_62 (by decide) ?_
  refine go_iconst 1 96 dX2_readTerm_95 rfl (by decide) ?_
  exact go_zret rfl dX2_readTerm_96
def f_X2_readTerm_43 (w : Nat) (r0 : Nat → Nat → Int32 → Int32 → mM → Option (Int32 × mM)) (r1 : Nat → Nat → Int32 → mM → Option (Int32 × mM)) : Nat → Nat → Nat → Int32 → Int32 → Int32 → Int32 → mM → Option (Int32 × mM)
  | 0, _, _, _, _, _, _, _ => none
  | n + 1, o0, o1, x2, x3, x4, x5, M => (if x4 ≤ x5 then rtB 1 M else bI (f_X2_joinOn w o0 x2 M) fun q2 M1 => (if q2 = 0 then (f_X2_readTerm_62 w r0 r1 M1) else bV (f_X10_advance w o0 M1) fun M3 => bI (r0 o0 o1 (x2 + 1) x3 M3) fun q5 M4 => (if q5 = 0 then rtB 0 M4 else bV (f_X3_put w o1 q2 M4) fun M6 => (f_X2_readTerm_43 w r0 r1 n o0 o1 x2 x3 x4 (x5 + 1) M6))))
set_option maxHeartbeats 4000000 in
set_option maxRecDepth 100000 in
theorem s_X2_readTerm_43 {l : Launch} {G : mG} {sk : List mS} (w : Nat) (d : Nat) (r0 : Nat → Nat → Int32 → Int32 → mM → Option (Int32 × mM)) (r1 : Nat → Nat → Int32 → mM → Option (Int32 × mM)) (hr0 : ∀ (o0 : Nat) (h0 : isK o0 20) (o1 : Nat) (h1 : isK o1 13) (x2 : Int32) (x3 : Int32) (M : mM), Mt l G sk yX2_readTerm muX2_readTerm d [.ref (gB G + o0), .ref (gB G + o1), .int x2, .int x3] M eI (r0 o0 o1 x2 x3 M)) (hr1 : ∀ (o0 : Nat) (h0 : isK o0 20) (o1 : Nat) (h1 : isK o1 13) (x2 : Int32) (M : mM), Mt l G sk yX2_readPart muX2_readPart d [.ref (gB G + o0), .ref (gB G + o1), .int x2] M eI (r1 o0 o1 x2 M)) (hdd : 4 ≤ d + 1) : ∀ (n : Nat) (o0 : Nat) (h0 : isK o0 20) (o1 : Nat) (h1 : isK o1 13) (x2 : Int32) (x3 : Int32) (x4 : Int32) (x5 : Int32) (M : mM), Go muX2_readTerm (rm (d + 1)) 0 0 l G sk (mFin G sk eI) (f_X2_readTerm_43 w r0 r1 n o0 o1 x2 x3 x4 x5 M) 43 [(0, .ref (gB G + o0)), (1, .ref (gB G + o1)), (2, .int x2), (3, .int x3), (4, .int x4), (5, .int x5)] [] M := by
  intro n
  induction n with
  | zero =>
    intros
    exact go_none
  | succ n ih =>
    intro o0 h0 o1 h1 x2 x3 x4 x5 M
    rw [f_X2_readTerm_43]
    refine go_iload 5 45 dX2_readTerm_43 rfl rfl ?_
    refine go_iload 4 47 dX2_readTerm_45 rfl rfl ?_
    refine go_icmp_ge 95 50 dX2_readTerm_47 rfl (by decide) (fun _ => ?_) (fun _ => ?_)
    · refine go_iconst 1 96 dX2_readTerm_95 rfl (by decide) ?_
      exact go_zret rfl dX2_readTerm_96
    · refine go_aload_n 0 51 dX2_readTerm_50 rfl rfl ?_
      refine go_iload_n 2 52 dX2_readTerm_51 rfl rfl ?_
      refine go_cSI2 1 cwX2_174 (m_X2_joinOn w o0 h0 x2 M) 55 dX2_readTerm_52 rfl ⟨Nat.le_trans (Nat.le_of_ble_eq_true rfl) hdd, Nat.mul_le_mul_left 64 (Nat.le_trans (Nat.le_of_ble_eq_true rfl) hdd)⟩ ⟨Nat.zero_le _, Nat.zero_le _⟩ (Nat.le_of_ble_eq_true rfl) (fun q2 M1 _ => ?_)
      refine go_istore [(6, .int q2), (0, .ref (gB G + o0)), (1, .ref (gB G + o1)), (2, .int x2), (3, .int x3), (4, .int x4), (5, .int x5)] 57 dX2_readTerm_55 rfl (by decide) rfl ?_
      refine go_iload 0 59 dX2_readTerm_57 rfl rfl ?_
      refine go_if_ne 65 62 dX2_readTerm_59 rfl (by decide) (fun _ => ?_) (fun _ => ?_)
      · refine go_aload_n 1 66 dX2_readTerm_65 rfl rfl ?_
        refine go_cVV0 2 clX10 cwX2_72 (m_X10_advance w o0 h0 M1) h0 69 dX2_readTerm_66 rfl ⟨Nat.le_trans (Nat.le_of_ble_eq_true rfl) hdd, Nat.mul_le_mul_left 64 (Nat.le_trans (Nat.le_of_ble_eq_true rfl) hdd)⟩ ⟨Nat.zero_le _, Nat.zero_le _⟩ (Nat.le_of_ble_eq_true rfl) (fun M3 _ => ?_)
        refine go_aload_n 1 70 dX2_readTerm_69 rfl rfl ?_
        refine go_aload_n 2 71 dX2_readTerm_70 rfl rfl ?_
        refine go_iload_n 3 72 dX2_readTerm_71 rfl rfl ?_
        refine go_iconst 1 73 dX2_readTerm_72 rfl (by decide) ?_
        refine go_iadd 74 dX2_readTerm_73 rfl ?_
        refine go_iload_n 4 75 dX2_readTerm_74 rfl rfl ?_
        refine go_cSI4 d cwX2_147 (hr0 o0 h0 o1 h1 (x2 + 1) x3 M3) 78 dX2_readTerm_75 rfl ⟨Nat.le_refl _, Nat.le_refl _⟩ ⟨Nat.zero_le _, Nat.zero_le _⟩ (Nat.le_of_ble_eq_true rfl) (fun q5 M4 _ => ?_)
        refine go_if_ne 83 81 dX2_readTerm_78 rfl (by decide) (fun _ => ?_) (fun _ => ?_)
        · refine go_aload_n 2 84 dX2_readTerm_83 rfl rfl ?_
          refine go_iload 0 86 dX2_readTerm_84 rfl rfl ?_
          refine go_cVV1 0 clX3 cwX2_178 (m_X3_put w o1 h1 q2 M4) h1 89 dX2_readTerm_86 rfl ⟨Nat.le_trans (Nat.le_of_ble_eq_true rfl) hdd, Nat.mul_le_mul_left 64 (Nat.le_trans (Nat.le_of_ble_eq_true rfl) hdd)⟩ ⟨Nat.zero_le _, Nat.zero_le _⟩ (Nat.le_of_ble_eq_true rfl) (fun M6 _ => ?_)
          refine go_iinc (x5 + 1) 6 [(5, .int (x5 + 1)), (6, .int q2), (0, .ref (gB G + o0)), (1, .ref (gB G + o1)), (2, .int x2), (3, .int x3), (4, .int x4)] 92 dX2_readTerm_89 rfl rfl rfl (by decide) rfl ?_
          refine go_goto 43 dX2_readTerm_92 (by decide) ?_
          exact go_lv [2, 3, 4, 5, 6, 0] rfl (ih o0 h0 o1 h1 x2 x3 x4 (x5 + 1) M6)
        · refine go_iconst 0 82 dX2_readTerm_81 rfl (by decide) ?_
          exact go_zret rfl dX2_readTerm_82
      · exact go_lv [] rfl (s_X2_readTerm_62 w d r0 r1 hr0 hr1 hdd M1)
def f_X2_readTerm_38 (w : Nat) (r0 : Nat → Nat → Int32 → Int32 → mM → Option (Int32 × mM)) (r1 : Nat → Nat → Int32 → mM → Option (Int32 × mM)) (o0 : Nat) (o1 : Nat) (x2 : Int32) (x3 : Int32) (xs0 : Int32) (M : mM) : Option (Int32 × mM) := (f_X2_readTerm_43 w r0 r1 w o0 o1 x2 x3 xs0 0 M)
set_option maxHeartbeats 4000000 in
set_option maxRecDepth 100000 in
theorem s_X2_readTerm_38 {l : Launch} {G : mG} {sk : List mS} (w : Nat) (d : Nat) (r0 : Nat → Nat → Int32 → Int32 → mM → Option (Int32 × mM)) (r1 : Nat → Nat → Int32 → mM → Option (Int32 × mM)) (hr0 : ∀ (o0 : Nat) (h0 : isK o0 20) (o1 : Nat) (h1 : isK o1 13) (x2 : Int32) (x3 : Int32) (M : mM), Mt l G sk yX2_readTerm muX2_readTerm d [.ref (gB G + o0), .ref (gB G + o1), .int x2, .int x3] M eI (r0 o0 o1 x2 x3 M)) (hr1 : ∀ (o0 : Nat) (h0 : isK o0 20) (o1 : Nat) (h1 : isK o1 13) (x2 : Int32) (M : mM), Mt l G sk yX2_readPart muX2_readPart d [.ref (gB G + o0), .ref (gB G + o1), .int x2] M eI (r1 o0 o1 x2 M)) (hdd : 4 ≤ d + 1) (o0 : Nat) (h0 : isK o0 20) (o1 : Nat) (h1 : isK o1 13) (x2 : Int32) (x3 : Int32) (xs0 : Int32) (M : mM) : Go muX2_readTerm (rm (d + 1)) 0 0 l G sk (mFin G sk eI) (f_X2_readTerm_38 w r0 r1 o0 o1 x2 x3 xs0 M) 38 [(0, .ref (gB G + o0)), (1, .ref (gB G + o1)), (2, .int x2), (3, .int x3)] [.int xs0] M := by
  unfold f_X2_readTerm_38
  refine go_istore [(4, .int xs0), (0, .ref (gB G + o0)), (1, .ref (gB G + o1)), (2, .int x2), (3, .int x3)] 40 dX2_readTerm_38 rfl (by decide) rfl ?_
  refine go_iconst 0 41 dX2_readTerm_40 rfl (by decide) ?_
  refine go_istore [(5, .int 0), (4, .int xs0), (0, .ref (gB G + o0)), (1, .ref (gB G + o1)), (2, .int x2), (3, .int x3)] 43 dX2_readTerm_41 rfl (by decide) rfl ?_
  exact go_lv [2, 3, 4, 5, 1, 0] rfl (s_X2_readTerm_43 w d r0 r1 hr0 hr1 hdd w o0 h0 o1 h1 x2 x3 xs0 0 M)
def f_X2_readTerm_b (w : Nat) (r0 : Nat → Nat → Int32 → Int32 → mM → Option (Int32 × mM)) (r1 : Nat → Nat → Int32 → mM → Option (Int32 × mM)) (o0 : Nat) (o1 : Nat) (x2 : Int32) (x3 : Int32) (M : mM) : Option (Int32 × mM) := (if x2 < 4 then bI (r0 o0 o1 (x2 + 1) x3 M) fun q2 M1 => (if q2 = 0 then rtB 0 M1 else (if x2 = 1 then (f_X2_readTerm_38 w r0 r1 o0 o1 x2 x3 1 M1) else (f_X2_readTerm_38 w r0 r1 o0 o1 x2 x3 1000 M1))) else bI (r1 o0 o1 x3 M) fun q4 M3 => rtB q4 M3)
set_option maxHeartbeats 4000000 in
set_option maxRecDepth 100000 in
theorem s_X2_readTerm_b {l : Launch} {G : mG} {sk : List mS} (w : Nat) (d : Nat) (r0 : Nat → Nat → Int32 → Int32 → mM → Option (Int32 × mM)) (r1 : Nat → Nat → Int32 → mM → Option (Int32 × mM)) (hr0 : ∀ (o0 : Nat) (h0 : isK o0 20) (o1 : Nat) (h1 : isK o1 13) (x2 : Int32) (x3 : Int32) (M : mM), Mt l G sk yX2_readTerm muX2_readTerm d [.ref (gB G + o0), .ref (gB G + o1), .int x2, .int x3] M eI (r0 o0 o1 x2 x3 M)) (hr1 : ∀ (o0 : Nat) (h0 : isK o0 20) (o1 : Nat) (h1 : isK o1 13) (x2 : Int32) (M : mM), Mt l G sk yX2_readPart muX2_readPart d [.ref (gB G + o0), .ref (gB G + o1), .int x2] M eI (r1 o0 o1 x2 M)) (hdd : 4 ≤ d + 1) (o0 : Nat) (h0 : isK o0 20) (o1 : Nat) (h1 : isK o1 13) (x2 : Int32) (x3 : Int32) (M : mM) : Go muX2_readTerm (rm (d + 1)) 0 0 l G sk (mFin G sk eI) (f_X2_readTerm_b w r0 r1 o0 o1 x2 x3 M) 0 [(0, .ref (gB G + o0)), (1, .ref (gB G + o1)), (2, .int x2), (3, .int x3)] [] M := by
  unfold f_X2_readTerm_b
  refine go_iload_n 2 1 dX2_readTerm_0 rfl rfl ?_
  refine go_iconst 4 2 dX2_readTerm_1 rfl (by decide) ?_
  refine go_icmp_lt 12 5 dX2_readTerm_2 rfl (by decide) (fun _ => ?_) (fun _ => ?_)
  · refine go_aload_n 0 13 dX2_readTerm_12 rfl rfl ?_
    refine go_aload_n 1 14 dX2_readTerm_13 rfl rfl ?_
    refine go_iload_n 2 15 dX2_readTerm_14 rfl rfl ?_
    refine go_iconst 1 16 dX2_readTerm_15 rfl (by decide) ?_
    refine go_iadd 17 dX2_readTerm_16 rfl ?_
    refine go_iload_n 3 18 dX2_readTerm_17 rfl rfl ?_
    refine go_cSI4 d cwX2_147 (hr0 o0 h0 o1 h1 (x2 + 1) x3 M) 21 dX2_readTerm_18 rfl ⟨Nat.le_refl _, Nat.le_refl _⟩ ⟨Nat.zero_le _, Nat.zero_le _⟩ (Nat.le_of_ble_eq_true rfl) (fun q2 M1 _ => ?_)
    refine go_if_ne 26 24 dX2_readTerm_21 rfl (by decide) (fun _ => ?_) (fun _ => ?_)
    · refine go_iload_n 2 27 dX2_readTerm_26 rfl rfl ?_
      refine go_iconst 1 28 dX2_readTerm_27 rfl (by decide) ?_
      refine go_icmp_ne 35 31 dX2_readTerm_28 rfl (by decide) (fun _ => ?_) (fun _ => ?_)
      · refine go_sipush 1000 38 dX2_readTerm_35 rfl (by decide) ?_
        exact go_lv [0, 1, 2, 3] rfl (s_X2_readTerm_38 w d r0 r1 hr0 hr1 hdd o0 h0 o1 h1 x2 x3 1000 M1)
      · refine go_iconst 1 32 dX2_readTerm_31 rfl (by decide) ?_
        refine go_goto 38 dX2_readTerm_32 (by decide) ?_
        exact go_lv [0, 1, 2, 3] rfl (s_X2_readTerm_38 w d r0 r1 hr0 hr1 hdd o0 h0 o1 h1 x2 x3 1 M1)
    · refine go_iconst 0 25 dX2_readTerm_24 rfl (by decide) ?_
      exact go_zret rfl dX2_readTerm_25
  · refine go_aload_n 0 6 dX2_readTerm_5 rfl rfl ?_
    refine go_aload_n 1 7 dX2_readTerm_6 rfl rfl ?_
    refine go_iload_n 3 8 dX2_readTerm_7 rfl rfl ?_
    refine go_cSI3 d cwX2_170 (hr1 o0 h0 o1 h1 x3 M) 11 dX2_readTerm_8 rfl ⟨Nat.le_refl _, Nat.le_refl _⟩ ⟨Nat.zero_le _, Nat.zero_le _⟩ (Nat.le_of_ble_eq_true rfl) (fun q4 M3 _ => ?_)
    exact go_zret rfl dX2_readTerm_11
def f_X2_readPart_142 (w : Nat) (r0 : Nat → Nat → Int32 → Int32 → mM → Option (Int32 × mM)) (r1 : Nat → Nat → Int32 → mM → Option (Int32 × mM)) (xs0 : Int32) (os1 : Nat) (M : mM) : Option (Int32 × mM) := bV (f_X3_put w os1 xs0 M) fun M1 => rtB 1 M1
set_option maxHeartbeats 4000000 in
set_option maxRecDepth 100000 in
theorem s_X2_readPart_142 {l : Launch} {G : mG} {sk : List mS} (w : Nat) (d : Nat) (r0 : Nat → Nat → Int32 → Int32 → mM → Option (Int32 × mM)) (r1 : Nat → Nat → Int32 → mM → Option (Int32 × mM)) (hr0 : ∀ (o0 : Nat) (h0 : isK o0 20) (o1 : Nat) (h1 : isK o1 13) (x2 : Int32) (x3 : Int32) (M : mM), Mt l G sk yX2_readTerm muX2_readTerm d [.ref (gB G + o0), .ref (gB G + o1), .int x2, .int x3] M eI (r0 o0 o1 x2 x3 M)) (hr1 : ∀ (o0 : Nat) (h0 : isK o0 20) (o1 : Nat) (h1 : isK o1 13) (x2 : Int32) (M : mM), Mt l G sk yX2_readPart muX2_readPart d [.ref (gB G + o0), .ref (gB G + o1), .int x2] M eI (r1 o0 o1 x2 M)) (hdd : 4 ≤ d + 1) (xs0 : Int32) (os1 : Nat) (hs1 : isK os1 13) (M : mM) : Go muX2_readPart (rm (d + 1)) 0 0 l G sk (mFin G sk eI) (f_X2_readPart_142 w r0 r1 xs0 os1 M) 142 [] [.int xs0, .ref (gB G + os1)] M := by
  unfold f_X2_readPart_142
  refine go_cVV1 0 clX3 cwX2_178 (m_X3_put w os1 hs1 xs0 M) hs1 145 dX2_readPart_142 rfl ⟨Nat.le_trans (Nat.le_of_ble_eq_true rfl) hdd, Nat.mul_le_mul_left 64 (Nat.le_trans (Nat.le_of_ble_eq_true rfl) hdd)⟩ ⟨Nat.zero_le _, Nat.zero_le _⟩ (Nat.le_of_ble_eq_true rfl) (fun M1 _ => ?_)
  refine go_iconst 1 146 dX2_readPart_145 rfl (by decide) ?_
  exact go_zret rfl dX2_readPart_146
def f_X2_readPart_50 (w : Nat) (r0 : Nat → Nat → Int32 → Int32 → mM → Option (Int32 × mM)) (r1 : Nat → Nat → Int32 → mM → Option (Int32 × mM)) (o0 : Nat) (o1 : Nat) (x2 : Int32) (x3 : Int32) (x4 : Int32) (x5 : Int32) (M : mM) : Option (Int32 × mM) := (if x2 < 5 then lt ((M.2 o0 5).toInt32) fun y1 => bV (f_X10_advance w o0 M) fun M2 => (if x3 = 0 then (if x4 = 0 then (if x5 = 0 then (f_X2_readPart_142 w r0 r1 y1 o1 M2) else (f_X2_readPart_142 w r0 r1 x5 o1 M2)) else bI (r1 o0 o1 (x2 + 1) M2) fun q4 M3 => (if q4 = 0 then rtB 0 M3 else bV (f_X3_put w o1 (-5) M3) fun M5 => rtB 1 M5)) else bI (r0 o0 o1 0 (x2 + 1) M2) fun q7 M6 => (if q7 = 0 then rtB 0 M6 else bI (f_X10_takeSign w o0 41 M6) fun q9 M8 => (if q9 = 0 then rtB 0 M8 else rtB 1 M8))) else bI (f_X10_refuse w o0 5 M) fun q11 M10 => rtB q11 M10)
set_option maxHeartbeats 4000000 in
set_option maxRecDepth 100000 in
theorem s_X2_readPart_50 {l : Launch} {G : mG} {sk : List mS} (w : Nat) (d : Nat) (r0 : Nat → Nat → Int32 → Int32 → mM → Option (Int32 × mM)) (r1 : Nat → Nat → Int32 → mM → Option (Int32 × mM)) (hr0 : ∀ (o0 : Nat) (h0 : isK o0 20) (o1 : Nat) (h1 : isK o1 13) (x2 : Int32) (x3 : Int32) (M : mM), Mt l G sk yX2_readTerm muX2_readTerm d [.ref (gB G + o0), .ref (gB G + o1), .int x2, .int x3] M eI (r0 o0 o1 x2 x3 M)) (hr1 : ∀ (o0 : Nat) (h0 : isK o0 20) (o1 : Nat) (h1 : isK o1 13) (x2 : Int32) (M : mM), Mt l G sk yX2_readPart muX2_readPart d [.ref (gB G + o0), .ref (gB G + o1), .int x2] M eI (r1 o0 o1 x2 M)) (hdd : 4 ≤ d + 1) (o0 : Nat) (h0 : isK o0 20) (o1 : Nat) (h1 : isK o1 13) (x2 : Int32) (x3 : Int32) (x4 : Int32) (x5 : Int32) (M : mM) : Go muX2_readPart (rm (d + 1)) 0 0 l G sk (mFin G sk eI) (f_X2_readPart_50 w r0 r1 o0 o1 x2 x3 x4 x5 M) 50 [(0, .ref (gB G + o0)), (1, .ref (gB G + o1)), (2, .int x2), (3, .int x3), (4, .int x4), (5, .int x5)] [] M := by
  unfold f_X2_readPart_50
  refine go_iload_n 2 51 dX2_readPart_50 rfl rfl ?_
  refine go_iconst 5 52 dX2_readPart_51 rfl (by decide) ?_
  refine go_icmp_lt 61 55 dX2_readPart_52 rfl (by decide) (fun _ => ?_) (fun _ => ?_)
  · refine go_aload_n 0 62 dX2_readPart_61 rfl rfl ?_
    refine go_getL flX2_78 h0 65 dX2_readPart_62 rfl ?_
    refine go_l2i 66 dX2_readPart_65 rfl ?_
    refine go_nmI (fun y1 => ?_)
    refine go_istore [(6, .int y1), (0, .ref (gB G + o0)), (1, .ref (gB G + o1)), (2, .int x2), (3, .int x3), (4, .int x4), (5, .int x5)] 68 dX2_readPart_66 rfl (by decide) rfl ?_
    refine go_aload_n 1 69 dX2_readPart_68 rfl rfl ?_
    refine go_cVV0 2 clX10 cwX2_72 (m_X10_advance w o0 h0 M) h0 72 dX2_readPart_69 rfl ⟨Nat.le_trans (Nat.le_of_ble_eq_true rfl) hdd, Nat.mul_le_mul_left 64 (Nat.le_trans (Nat.le_of_ble_eq_true rfl) hdd)⟩ ⟨Nat.zero_le _, Nat.zero_le _⟩ (Nat.le_of_ble_eq_true rfl) (fun M2 _ => ?_)
    refine go_iload_n 4 73 dX2_readPart_72 rfl rfl ?_
    refine go_if_eq 103 76 dX2_readPart_73 rfl (by decide) (fun _ => ?_) (fun _ => ?_)
    · refine go_iload 5 105 dX2_readPart_103 rfl rfl ?_
      refine go_if_eq 129 108 dX2_readPart_105 rfl (by decide) (fun _ => ?_) (fun _ => ?_)
      · refine go_aload_n 2 130 dX2_readPart_129 rfl rfl ?_
        refine go_iload 6 132 dX2_readPart_130 rfl rfl ?_
        refine go_if_ne 140 135 dX2_readPart_132 rfl (by decide) (fun _ => ?_) (fun _ => ?_)
        · refine go_iload 6 142 dX2_readPart_140 rfl rfl ?_
          exact go_lv [] rfl (s_X2_readPart_142 w d r0 r1 hr0 hr1 hdd x5 o1 h1 M2)
        · refine go_iload 0 137 dX2_readPart_135 rfl rfl ?_
          refine go_goto 142 dX2_readPart_137 (by decide) ?_
          exact go_lv [] rfl (s_X2_readPart_142 w d r0 r1 hr0 hr1 hdd y1 o1 h1 M2)
      · refine go_aload_n 1 109 dX2_readPart_108 rfl rfl ?_
        refine go_aload_n 2 110 dX2_readPart_109 rfl rfl ?_
        refine go_iload_n 3 111 dX2_readPart_110 rfl rfl ?_
        refine go_iconst 1 112 dX2_readPart_111 rfl (by decide) ?_
        refine go_iadd 113 dX2_readPart_112 rfl ?_
        refine go_cSI3 d cwX2_170 (hr1 o0 h0 o1 h1 (x2 + 1) M2) 116 dX2_readPart_113 rfl ⟨Nat.le_refl _, Nat.le_refl _⟩ ⟨Nat.zero_le _, Nat.zero_le _⟩ (Nat.le_of_ble_eq_true rfl) (fun q4 M3 _ => ?_)
        refine go_if_ne 121 119 dX2_readPart_116 rfl (by decide) (fun _ => ?_) (fun _ => ?_)
        · refine go_aload_n 2 122 dX2_readPart_121 rfl rfl ?_
          refine go_bipush (-5) 124 dX2_readPart_122 rfl (by decide) ?_
          refine go_cVV1 0 clX3 cwX2_178 (m_X3_put w o1 h1 (-5) M3) h1 127 dX2_readPart_124 rfl ⟨Nat.le_trans (Nat.le_of_ble_eq_true rfl) hdd, Nat.mul_le_mul_left 64 (Nat.le_trans (Nat.le_of_ble_eq_true rfl) hdd)⟩ ⟨Nat.zero_le _, Nat.zero_le _⟩ (Nat.le_of_ble_eq_true rfl) (fun M5 _ => ?_)
          refine go_iconst 1 128 dX2_readPart_127 rfl (by decide) ?_
          exact go_zret rfl dX2_readPart_128
        · refine go_iconst 0 120 dX2_readPart_119 rfl (by decide) ?_
          exact go_zret rfl dX2_readPart_120
    · refine go_aload_n 1 77 dX2_readPart_76 rfl rfl ?_
      refine go_aload_n 2 78 dX2_readPart_77 rfl rfl ?_
      refine go_iconst 0 79 dX2_readPart_78 rfl (by decide) ?_
      refine go_iload_n 3 80 dX2_readPart_79 rfl rfl ?_
      refine go_iconst 1 81 dX2_readPart_80 rfl (by decide) ?_
      refine go_iadd 82 dX2_readPart_81 rfl ?_
      refine go_cSI4 d cwX2_147 (hr0 o0 h0 o1 h1 0 (x2 + 1) M2) 85 dX2_readPart_82 rfl ⟨Nat.le_refl _, Nat.le_refl _⟩ ⟨Nat.zero_le _, Nat.zero_le _⟩ (Nat.le_of_ble_eq_true rfl) (fun q7 M6 _ => ?_)
      refine go_if_eq 101 88 dX2_readPart_85 rfl (by decide) (fun _ => ?_) (fun _ => ?_)
      · refine go_iconst 0 102 dX2_readPart_101 rfl (by decide) ?_
        exact go_zret rfl dX2_readPart_102
      · refine go_aload_n 1 89 dX2_readPart_88 rfl rfl ?_
        refine go_bipush 41 91 dX2_readPart_89 rfl (by decide) ?_
        refine go_cVI1 3 clX10 cwX2_86 (m_X10_takeSign w o0 h0 41 M6) h0 94 dX2_readPart_91 rfl ⟨Nat.le_trans (Nat.le_of_ble_eq_true rfl) hdd, Nat.mul_le_mul_left 64 (Nat.le_trans (Nat.le_of_ble_eq_true rfl) hdd)⟩ ⟨Nat.zero_le _, Nat.zero_le _⟩ (Nat.le_of_ble_eq_true rfl) (fun q9 M8 _ => ?_)
        refine go_if_eq 101 97 dX2_readPart_94 rfl (by decide) (fun _ => ?_) (fun _ => ?_)
        · refine go_iconst 0 102 dX2_readPart_101 rfl (by decide) ?_
          exact go_zret rfl dX2_readPart_102
        · refine go_iconst 1 98 dX2_readPart_97 rfl (by decide) ?_
          refine go_goto 102 dX2_readPart_98 (by decide) ?_
          exact go_zret rfl dX2_readPart_102
  · refine go_aload_n 0 56 dX2_readPart_55 rfl rfl ?_
    refine go_iconst 5 57 dX2_readPart_56 rfl (by decide) ?_
    refine go_cVI1 0 clX10 cwX2_65 (m_X10_refuse w o0 h0 5 M) h0 60 dX2_readPart_57 rfl ⟨Nat.le_trans (Nat.le_of_ble_eq_true rfl) hdd, Nat.mul_le_mul_left 64 (Nat.le_trans (Nat.le_of_ble_eq_true rfl) hdd)⟩ ⟨Nat.zero_le _, Nat.zero_le _⟩ (Nat.le_of_ble_eq_true rfl) (fun q11 M10 _ => ?_)
    exact go_zret rfl dX2_readPart_60
def f_X2_readPart_b (w : Nat) (r0 : Nat → Nat → Int32 → Int32 → mM → Option (Int32 × mM)) (r1 : Nat → Nat → Int32 → mM → Option (Int32 × mM)) (o0 : Nat) (o1 : Nat) (x2 : Int32) (M : mM) : Option (Int32 × mM) := bI (f_X10_isSign w o0 40 M) fun q2 M1 => bI (f_X10_isWord w o0 7237492 M1) fun q4 M3 => bI (f_X2_factTold w o0 M3) fun q6 M5 => (if q2 = 0 then (if q4 = 0 then (if q6 = 0 then (if (M5.1 o0 3) = 2 then (f_X2_readPart_50 w r0 r1 o0 o1 x2 q2 q4 q6 M5) else bI (f_X10_refuse w o0 1 M5) fun q8 M7 => rtB q8 M7) else (f_X2_readPart_50 w r0 r1 o0 o1 x2 q2 q4 q6 M5)) else (f_X2_readPart_50 w r0 r1 o0 o1 x2 q2 q4 q6 M5)) else (f_X2_readPart_50 w r0 r1 o0 o1 x2 q2 q4 q6 M5))
set_option maxHeartbeats 4000000 in
set_option maxRecDepth 100000 in
theorem s_X2_readPart_b {l : Launch} {G : mG} {sk : List mS} (w : Nat) (d : Nat) (r0 : Nat → Nat → Int32 → Int32 → mM → Option (Int32 × mM)) (r1 : Nat → Nat → Int32 → mM → Option (Int32 × mM)) (hr0 : ∀ (o0 : Nat) (h0 : isK o0 20) (o1 : Nat) (h1 : isK o1 13) (x2 : Int32) (x3 : Int32) (M : mM), Mt l G sk yX2_readTerm muX2_readTerm d [.ref (gB G + o0), .ref (gB G + o1), .int x2, .int x3] M eI (r0 o0 o1 x2 x3 M)) (hr1 : ∀ (o0 : Nat) (h0 : isK o0 20) (o1 : Nat) (h1 : isK o1 13) (x2 : Int32) (M : mM), Mt l G sk yX2_readPart muX2_readPart d [.ref (gB G + o0), .ref (gB G + o1), .int x2] M eI (r1 o0 o1 x2 M)) (hdd : 4 ≤ d + 1) (o0 : Nat) (h0 : isK o0 20) (o1 : Nat) (h1 : isK o1 13) (x2 : Int32) (M : mM) : Go muX2_readPart (rm (d + 1)) 0 0 l G sk (mFin G sk eI) (f_X2_readPart_b w r0 r1 o0 o1 x2 M) 0 [(0, .ref (gB G + o0)), (1, .ref (gB G + o1)), (2, .int x2)] [] M := by
  unfold f_X2_readPart_b
  refine go_aload_n 0 1 dX2_readPart_0 rfl rfl ?_
  refine go_bipush 40 3 dX2_readPart_1 rfl (by decide) ?_
  refine go_cVI1 0 clX10 cwX2_129 (m_X10_isSign w o0 h0 40 M) h0 6 dX2_readPart_3 rfl ⟨Nat.le_trans (Nat.le_of_ble_eq_true rfl) hdd, Nat.mul_le_mul_left 64 (Nat.le_trans (Nat.le_of_ble_eq_true rfl) hdd)⟩ ⟨Nat.zero_le _, Nat.zero_le _⟩ (Nat.le_of_ble_eq_true rfl) (fun q2 M1 _ => ?_)
  refine go_istore_n [(3, .int q2), (0, .ref (gB G + o0)), (1, .ref (gB G + o1)), (2, .int x2)] 7 dX2_readPart_6 rfl rfl (by decide) rfl ?_
  refine go_aload_n 1 8 dX2_readPart_7 rfl rfl ?_
  refine go_ldc2 klX2_185 11 dX2_readPart_8 rfl ?_
  refine go_cVI1 0 clX10 cwX2_38 (m_X10_isWord w o0 h0 7237492 M1) h0 14 dX2_readPart_11 rfl ⟨Nat.le_trans (Nat.le_of_ble_eq_true rfl) hdd, Nat.mul_le_mul_left 64 (Nat.le_trans (Nat.le_of_ble_eq_true rfl) hdd)⟩ ⟨Nat.zero_le _, Nat.zero_le _⟩ (Nat.le_of_ble_eq_true rfl) (fun q4 M3 _ => ?_)
  refine go_istore [(4, .int q4), (3, .int q2), (0, .ref (gB G + o0)), (1, .ref (gB G + o1)), (2, .int x2)] 16 dX2_readPart_14 rfl (by decide) rfl ?_
  refine go_aload_n 2 17 dX2_readPart_16 rfl rfl ?_
  refine go_cSI1 1 cwX2_187 (m_X2_factTold w o0 h0 M3) 20 dX2_readPart_17 rfl ⟨Nat.le_trans (Nat.le_of_ble_eq_true rfl) hdd, Nat.mul_le_mul_left 64 (Nat.le_trans (Nat.le_of_ble_eq_true rfl) hdd)⟩ ⟨Nat.zero_le _, Nat.zero_le _⟩ (Nat.le_of_ble_eq_true rfl) (fun q6 M5 _ => ?_)
  refine go_istore [(5, .int q6), (4, .int q4), (3, .int q2), (0, .ref (gB G + o0)), (1, .ref (gB G + o1)), (2, .int x2)] 22 dX2_readPart_20 rfl (by decide) rfl ?_
  refine go_iload_n 2 23 dX2_readPart_22 rfl rfl ?_
  refine go_if_ne 50 26 dX2_readPart_23 rfl (by decide) (fun _ => ?_) (fun _ => ?_)
  · exact go_lv [3, 4, 5, 2, 1, 0] rfl (s_X2_readPart_50 w d r0 r1 hr0 hr1 hdd o0 h0 o1 h1 x2 q2 q4 q6 M5)
  · refine go_iload 1 28 dX2_readPart_26 rfl rfl ?_
    refine go_if_ne 50 31 dX2_readPart_28 rfl (by decide) (fun _ => ?_) (fun _ => ?_)
    · exact go_lv [3, 4, 5, 2, 1, 0] rfl (s_X2_readPart_50 w d r0 r1 hr0 hr1 hdd o0 h0 o1 h1 x2 q2 q4 q6 M5)
    · refine go_iload 0 33 dX2_readPart_31 rfl rfl ?_
      refine go_if_ne 50 36 dX2_readPart_33 rfl (by decide) (fun _ => ?_) (fun _ => ?_)
      · exact go_lv [3, 4, 5, 2, 1, 0] rfl (s_X2_readPart_50 w d r0 r1 hr0 hr1 hdd o0 h0 o1 h1 x2 q2 q4 q6 M5)
      · refine go_aload_n 3 37 dX2_readPart_36 rfl rfl ?_
        refine go_getI flX2_25 (by decide) h0 40 dX2_readPart_37 rfl ?_
        refine go_iconst 2 41 dX2_readPart_40 rfl (by decide) ?_
        refine go_icmp_eq 50 44 dX2_readPart_41 rfl (by decide) (fun _ => ?_) (fun _ => ?_)
        · exact go_lv [3, 4, 5, 2, 1, 0] rfl (s_X2_readPart_50 w d r0 r1 hr0 hr1 hdd o0 h0 o1 h1 x2 q2 q4 q6 M5)
        · refine go_aload_n 3 45 dX2_readPart_44 rfl rfl ?_
          refine go_iconst 1 46 dX2_readPart_45 rfl (by decide) ?_
          refine go_cVI1 0 clX10 cwX2_65 (m_X10_refuse w o0 h0 1 M5) h0 49 dX2_readPart_46 rfl ⟨Nat.le_trans (Nat.le_of_ble_eq_true rfl) hdd, Nat.mul_le_mul_left 64 (Nat.le_trans (Nat.le_of_ble_eq_true rfl) hdd)⟩ ⟨Nat.zero_le _, Nat.zero_le _⟩ (Nat.le_of_ble_eq_true rfl) (fun q8 M7 _ => ?_)
          exact go_zret rfl dX2_readPart_49
def fS2 (w : Nat) : Nat → (Nat → Nat → Int32 → Int32 → mM → Option (Int32 × mM)) × (Nat → Nat → Int32 → mM → Option (Int32 × mM))
  | 0 => (fun _ _ _ _ _ => none, fun _ _ _ _ => none)
  | d + 1 => (f_X2_readTerm_b w (fS2 w d).1 (fS2 w d).2, f_X2_readPart_b w (fS2 w d).1 (fS2 w d).2)
theorem fS2_s (w d : Nat) : fS2 w (d + 1) = (f_X2_readTerm_b w (fS2 w d).1 (fS2 w d).2, f_X2_readPart_b w (fS2 w d).1 (fS2 w d).2) := rfl
abbrev f_X2_readTerm (w d : Nat) : Nat → Nat → Int32 → Int32 → mM → Option (Int32 × mM) := (fS2 w d).1
abbrev f_X2_readPart (w d : Nat) : Nat → Nat → Int32 → mM → Option (Int32 × mM) := (fS2 w d).2
theorem fS2_m {l : Launch} {G : mG} {sk : List mS} (w : Nat) : ∀ d : Nat, (∀ (o0 : Nat) (h0 : isK o0 20) (o1 : Nat) (h1 : isK o1 13) (x2 : Int32) (x3 : Int32) (M : mM), Mt l G sk yX2_readTerm muX2_readTerm (4 + d) [.ref (gB G + o0), .ref (gB G + o1), .int x2, .int x3] M eI ((fS2 w d).1 o0 o1 x2 x3 M)) ∧ (∀ (o0 : Nat) (h0 : isK o0 20) (o1 : Nat) (h1 : isK o1 13) (x2 : Int32) (M : mM), Mt l G sk yX2_readPart muX2_readPart (4 + d) [.ref (gB G + o0), .ref (gB G + o1), .int x2] M eI ((fS2 w d).2 o0 o1 x2 M)) := by
  intro d
  induction d with
  | zero => exact ⟨(by intros; intro _ x h; cases h), (by intros; intro _ x h; cases h)⟩
  | succ d ih =>
    rw [fS2_s]
    exact ⟨fun o0 h0 o1 h1 x2 x3 M => Mt.of (by decide) rfl (Nat.le_of_ble_eq_true rfl) (s_X2_readTerm_b w (4 + d) (fS2 w d).1 (fS2 w d).2 ih.1 ih.2 (by omega) o0 h0 o1 h1 x2 x3 M), fun o0 h0 o1 h1 x2 M => Mt.of (by decide) rfl (Nat.le_of_ble_eq_true rfl) (s_X2_readPart_b w (4 + d) (fS2 w d).1 (fS2 w d).2 ih.1 ih.2 (by omega) o0 h0 o1 h1 x2 M)⟩
theorem m_X2_readTerm {l : Launch} {G : mG} {sk : List mS} (w d : Nat) (o0 : Nat) (h0 : isK o0 20) (o1 : Nat) (h1 : isK o1 13) (x2 : Int32) (x3 : Int32) (M : mM) : Mt l G sk yX2_readTerm muX2_readTerm (4 + d) [.ref (gB G + o0), .ref (gB G + o1), .int x2, .int x3] M eI (f_X2_readTerm w d o0 o1 x2 x3 M) := (fS2_m w d).1 o0 h0 o1 h1 x2 x3 M
theorem m_X2_readPart {l : Launch} {G : mG} {sk : List mS} (w d : Nat) (o0 : Nat) (h0 : isK o0 20) (o1 : Nat) (h1 : isK o1 13) (x2 : Int32) (M : mM) : Mt l G sk yX2_readPart muX2_readPart (4 + d) [.ref (gB G + o0), .ref (gB G + o1), .int x2] M eI (f_X2_readPart w d o0 o1 x2 M) := (fS2_m w d).2 o0 h0 o1 h1 x2 M
theorem dX2_readSwells_0 : decode cX2_readSwells 0 = .ok (.aload_n 1, 1) := by decide +kernel
theorem dX2_readSwells_1 : decode cX2_readSwells 1 = .ok (.getfield 138, 3) := by decide +kernel
theorem dX2_readSwells_4 : decode cX2_readSwells 4 = .ok (.getfield 142, 3) := by decide +kernel
theorem dX2_readSwells_7 : decode cX2_readSwells 7 = .ok (.ifCond .le 12, 3) := by decide +kernel
theorem dX2_readSwells_10 : decode cX2_readSwells 10 = .ok (.aload_n 0, 1) := by decide +kernel
theorem dX2_readSwells_11 : decode cX2_readSwells 11 = .ok (.getfield 9, 3) := by decide +kernel
theorem dX2_readSwells_14 : decode cX2_readSwells 14 = .ok (.iconst 3, 1) := by decide +kernel
theorem dX2_readSwells_15 : decode cX2_readSwells 15 = .ok (.invokevirtual 65, 3) := by decide +kernel
theorem dX2_readSwells_18 : decode cX2_readSwells 18 = .ok (.ireturn, 1) := by decide +kernel
theorem dX2_readSwells_19 : decode cX2_readSwells 19 = .ok (.aload_n 0, 1) := by decide +kernel
theorem dX2_readSwells_20 : decode cX2_readSwells 20 = .ok (.getfield 9, 3) := by decide +kernel
theorem dX2_readSwells_23 : decode cX2_readSwells 23 = .ok (.invokevirtual 72, 3) := by decide +kernel
theorem dX2_readSwells_26 : decode cX2_readSwells 26 = .ok (.aload_n 0, 1) := by decide +kernel
theorem dX2_readSwells_27 : decode cX2_readSwells 27 = .ok (.getfield 9, 3) := by decide +kernel
theorem dX2_readSwells_30 : decode cX2_readSwells 30 = .ok (.aload_n 1, 1) := by decide +kernel
theorem dX2_readSwells_31 : decode cX2_readSwells 31 = .ok (.getfield 138, 3) := by decide +kernel
theorem dX2_readSwells_34 : decode cX2_readSwells 34 = .ok (.iconst 0, 1) := by decide +kernel
theorem dX2_readSwells_35 : decode cX2_readSwells 35 = .ok (.iconst 0, 1) := by decide +kernel
theorem dX2_readSwells_36 : decode cX2_readSwells 36 = .ok (.invokestatic 147, 3) := by decide +kernel
theorem dX2_readSwells_39 : decode cX2_readSwells 39 = .ok (.ifCond .eq 19, 3) := by decide +kernel
theorem dX2_readSwells_42 : decode cX2_readSwells 42 = .ok (.aload_n 0, 1) := by decide +kernel
theorem dX2_readSwells_43 : decode cX2_readSwells 43 = .ok (.getfield 9, 3) := by decide +kernel
theorem dX2_readSwells_46 : decode cX2_readSwells 46 = .ok (.bipush 59, 2) := by decide +kernel
theorem dX2_readSwells_48 : decode cX2_readSwells 48 = .ok (.invokevirtual 86, 3) := by decide +kernel
theorem dX2_readSwells_51 : decode cX2_readSwells 51 = .ok (.ifCond .eq 7, 3) := by decide +kernel
theorem dX2_readSwells_54 : decode cX2_readSwells 54 = .ok (.iconst 1, 1) := by decide +kernel
theorem dX2_readSwells_55 : decode cX2_readSwells 55 = .ok (.goto 4, 3) := by decide +kernel
theorem dX2_readSwells_58 : decode cX2_readSwells 58 = .ok (.iconst 0, 1) := by decide +kernel
theorem dX2_readSwells_59 : decode cX2_readSwells 59 = .ok (.ireturn, 1) := by decide +kernel
def f_X2_readSwells (w : Nat) (o0 : Nat) (o1 : Nat) (M : mM) : Option (Int32 × mM) := (if (M.1 (rF o1 12) 2) ≤ 0 then bV (f_X10_advance w (rF o0 0) M) fun M1 => bI (f_X2_readTerm w 60 (rF o0 0) (rF o1 12) 0 0 M1) fun q3 M2 => (if q3 = 0 then rtB 0 M2 else bI (f_X10_takeSign w (rF o0 0) 59 M2) fun q5 M4 => (if q5 = 0 then rtB 0 M4 else rtB 1 M4)) else bI (f_X10_refuse w (rF o0 0) 3 M) fun q7 M6 => rtB q7 M6)
set_option maxHeartbeats 4000000 in
set_option maxRecDepth 100000 in
theorem s_X2_readSwells {l : Launch} {G : mG} {sk : List mS} (w : Nat) (o0 : Nat) (h0 : isK o0 12) (o1 : Nat) (h1 : isK o1 16) (M : mM) : Go muX2_readSwells (rm 65) 0 0 l G sk (mFin G sk eI) (f_X2_readSwells w o0 o1 M) 0 [(0, .ref (gB G + o0)), (1, .ref (gB G + o1))] [] M := by
  unfold f_X2_readSwells
  refine go_aload_n 1 1 dX2_readSwells_0 rfl rfl ?_
  refine go_getR flX2_138 h1 4 dX2_readSwells_1 rfl ?_
  refine go_getI flX2_142 (by decide) (rk6_12 h1) 7 dX2_readSwells_4 rfl ?_
  refine go_if_le 19 10 dX2_readSwells_7 rfl (by decide) (fun _ => ?_) (fun _ => ?_)
  · refine go_aload_n 0 20 dX2_readSwells_19 rfl rfl ?_
    refine go_getR flX2_9 h0 23 dX2_readSwells_20 rfl ?_
    refine go_cVV0 2 clX10 cwX2_72 (m_X10_advance w (rF o0 0) (rk2_0 h0) M) (rk2_0 h0) 26 dX2_readSwells_23 rfl ⟨Nat.le_of_ble_eq_true rfl, Nat.le_of_ble_eq_true rfl⟩ ⟨Nat.zero_le _, Nat.zero_le _⟩ (Nat.le_of_ble_eq_true rfl) (fun M1 _ => ?_)
    refine go_aload_n 0 27 dX2_readSwells_26 rfl rfl ?_
    refine go_getR flX2_9 h0 30 dX2_readSwells_27 rfl ?_
    refine go_aload_n 1 31 dX2_readSwells_30 rfl rfl ?_
    refine go_getR flX2_138 h1 34 dX2_readSwells_31 rfl ?_
    refine go_iconst 0 35 dX2_readSwells_34 rfl (by decide) ?_
    refine go_iconst 0 36 dX2_readSwells_35 rfl (by decide) ?_
    refine go_cSI4 64 cwX2_147 (m_X2_readTerm w 60 (rF o0 0) (rk2_0 h0) (rF o1 12) (rk6_12 h1) 0 0 M1) 39 dX2_readSwells_36 rfl ⟨Nat.le_of_ble_eq_true rfl, Nat.le_of_ble_eq_true rfl⟩ ⟨Nat.zero_le _, Nat.zero_le _⟩ (Nat.le_of_ble_eq_true rfl) (fun q3 M2 _ => ?_)
    refine go_if_eq 58 42 dX2_readSwells_39 rfl (by decide) (fun _ => ?_) (fun _ => ?_)
    · refine go_iconst 0 59 dX2_readSwells_58 rfl (by decide) ?_
      exact go_zret rfl dX2_readSwells_59
    · refine go_aload_n 0 43 dX2_readSwells_42 rfl rfl ?_
      refine go_getR flX2_9 h0 46 dX2_readSwells_43 rfl ?_
      refine go_bipush 59 48 dX2_readSwells_46 rfl (by decide) ?_
      refine go_cVI1 3 clX10 cwX2_86 (m_X10_takeSign w (rF o0 0) (rk2_0 h0) 59 M2) (rk2_0 h0) 51 dX2_readSwells_48 rfl ⟨Nat.le_of_ble_eq_true rfl, Nat.le_of_ble_eq_true rfl⟩ ⟨Nat.zero_le _, Nat.zero_le _⟩ (Nat.le_of_ble_eq_true rfl) (fun q5 M4 _ => ?_)
      refine go_if_eq 58 54 dX2_readSwells_51 rfl (by decide) (fun _ => ?_) (fun _ => ?_)
      · refine go_iconst 0 59 dX2_readSwells_58 rfl (by decide) ?_
        exact go_zret rfl dX2_readSwells_59
      · refine go_iconst 1 55 dX2_readSwells_54 rfl (by decide) ?_
        refine go_goto 59 dX2_readSwells_55 (by decide) ?_
        exact go_zret rfl dX2_readSwells_59
  · refine go_aload_n 0 11 dX2_readSwells_10 rfl rfl ?_
    refine go_getR flX2_9 h0 14 dX2_readSwells_11 rfl ?_
    refine go_iconst 3 15 dX2_readSwells_14 rfl (by decide) ?_
    refine go_cVI1 0 clX10 cwX2_65 (m_X10_refuse w (rF o0 0) (rk2_0 h0) 3 M) (rk2_0 h0) 18 dX2_readSwells_15 rfl ⟨Nat.le_of_ble_eq_true rfl, Nat.le_of_ble_eq_true rfl⟩ ⟨Nat.zero_le _, Nat.zero_le _⟩ (Nat.le_of_ble_eq_true rfl) (fun q7 M6 _ => ?_)
    exact go_zret rfl dX2_readSwells_18
theorem m_X2_readSwells {l : Launch} {G : mG} {sk : List mS} (w : Nat) (o0 : Nat) (h0 : isK o0 12) (o1 : Nat) (h1 : isK o1 16) (M : mM) : Mt l G sk yX2_readSwells muX2_readSwells 65 [.ref (gB G + o0), .ref (gB G + o1)] M eI (f_X2_readSwells w o0 o1 M) := Mt.of (by decide) rfl (Nat.le_of_ble_eq_true rfl) (s_X2_readSwells w o0 h0 o1 h1 M)
theorem dX2_readLine_0 : decode cX2_readLine 0 = .ok (.aload_n 0, 1) := by decide +kernel
theorem dX2_readLine_1 : decode cX2_readLine 1 = .ok (.getfield 9, 3) := by decide +kernel
theorem dX2_readLine_4 : decode cX2_readLine 4 = .ok (.ldc2_w 36, 3) := by decide +kernel
theorem dX2_readLine_7 : decode cX2_readLine 7 = .ok (.invokevirtual 38, 3) := by decide +kernel
theorem dX2_readLine_10 : decode cX2_readLine 10 = .ok (.ifCond .eq 9, 3) := by decide +kernel
theorem dX2_readLine_13 : decode cX2_readLine 13 = .ok (.aload_n 0, 1) := by decide +kernel
theorem dX2_readLine_14 : decode cX2_readLine 14 = .ok (.aload_n 1, 1) := by decide +kernel
theorem dX2_readLine_15 : decode cX2_readLine 15 = .ok (.invokevirtual 42, 3) := by decide +kernel
theorem dX2_readLine_18 : decode cX2_readLine 18 = .ok (.ireturn, 1) := by decide +kernel
theorem dX2_readLine_19 : decode cX2_readLine 19 = .ok (.aload_n 0, 1) := by decide +kernel
theorem dX2_readLine_20 : decode cX2_readLine 20 = .ok (.getfield 9, 3) := by decide +kernel
theorem dX2_readLine_23 : decode cX2_readLine 23 = .ok (.ldc2_w 45, 3) := by decide +kernel
theorem dX2_readLine_26 : decode cX2_readLine 26 = .ok (.invokevirtual 38, 3) := by decide +kernel
theorem dX2_readLine_29 : decode cX2_readLine 29 = .ok (.ifCond .eq 9, 3) := by decide +kernel
theorem dX2_readLine_32 : decode cX2_readLine 32 = .ok (.aload_n 0, 1) := by decide +kernel
theorem dX2_readLine_33 : decode cX2_readLine 33 = .ok (.aload_n 1, 1) := by decide +kernel
theorem dX2_readLine_34 : decode cX2_readLine 34 = .ok (.invokevirtual 47, 3) := by decide +kernel
theorem dX2_readLine_37 : decode cX2_readLine 37 = .ok (.ireturn, 1) := by decide +kernel
theorem dX2_readLine_38 : decode cX2_readLine 38 = .ok (.aload_n 0, 1) := by decide +kernel
theorem dX2_readLine_39 : decode cX2_readLine 39 = .ok (.getfield 9, 3) := by decide +kernel
theorem dX2_readLine_42 : decode cX2_readLine 42 = .ok (.ldc2_w 50, 3) := by decide +kernel
theorem dX2_readLine_45 : decode cX2_readLine 45 = .ok (.invokevirtual 38, 3) := by decide +kernel
theorem dX2_readLine_48 : decode cX2_readLine 48 = .ok (.ifCond .eq 9, 3) := by decide +kernel
theorem dX2_readLine_51 : decode cX2_readLine 51 = .ok (.aload_n 0, 1) := by decide +kernel
theorem dX2_readLine_52 : decode cX2_readLine 52 = .ok (.aload_n 1, 1) := by decide +kernel
theorem dX2_readLine_53 : decode cX2_readLine 53 = .ok (.invokevirtual 52, 3) := by decide +kernel
theorem dX2_readLine_56 : decode cX2_readLine 56 = .ok (.ireturn, 1) := by decide +kernel
theorem dX2_readLine_57 : decode cX2_readLine 57 = .ok (.aload_n 0, 1) := by decide +kernel
theorem dX2_readLine_58 : decode cX2_readLine 58 = .ok (.getfield 9, 3) := by decide +kernel
theorem dX2_readLine_61 : decode cX2_readLine 61 = .ok (.ldc2_w 55, 3) := by decide +kernel
theorem dX2_readLine_64 : decode cX2_readLine 64 = .ok (.invokevirtual 38, 3) := by decide +kernel
theorem dX2_readLine_67 : decode cX2_readLine 67 = .ok (.ifCond .eq 9, 3) := by decide +kernel
theorem dX2_readLine_70 : decode cX2_readLine 70 = .ok (.aload_n 0, 1) := by decide +kernel
theorem dX2_readLine_71 : decode cX2_readLine 71 = .ok (.aload_n 1, 1) := by decide +kernel
theorem dX2_readLine_72 : decode cX2_readLine 72 = .ok (.invokevirtual 57, 3) := by decide +kernel
theorem dX2_readLine_75 : decode cX2_readLine 75 = .ok (.ireturn, 1) := by decide +kernel
theorem dX2_readLine_76 : decode cX2_readLine 76 = .ok (.aload_n 0, 1) := by decide +kernel
theorem dX2_readLine_77 : decode cX2_readLine 77 = .ok (.getfield 9, 3) := by decide +kernel
theorem dX2_readLine_80 : decode cX2_readLine 80 = .ok (.ldc2_w 60, 3) := by decide +kernel
theorem dX2_readLine_83 : decode cX2_readLine 83 = .ok (.invokevirtual 38, 3) := by decide +kernel
theorem dX2_readLine_86 : decode cX2_readLine 86 = .ok (.ifCond .eq 9, 3) := by decide +kernel
theorem dX2_readLine_89 : decode cX2_readLine 89 = .ok (.aload_n 0, 1) := by decide +kernel
theorem dX2_readLine_90 : decode cX2_readLine 90 = .ok (.aload_n 1, 1) := by decide +kernel
theorem dX2_readLine_91 : decode cX2_readLine 91 = .ok (.invokevirtual 62, 3) := by decide +kernel
theorem dX2_readLine_94 : decode cX2_readLine 94 = .ok (.ireturn, 1) := by decide +kernel
theorem dX2_readLine_95 : decode cX2_readLine 95 = .ok (.aload_n 0, 1) := by decide +kernel
theorem dX2_readLine_96 : decode cX2_readLine 96 = .ok (.getfield 9, 3) := by decide +kernel
theorem dX2_readLine_99 : decode cX2_readLine 99 = .ok (.iconst 1, 1) := by decide +kernel
theorem dX2_readLine_100 : decode cX2_readLine 100 = .ok (.invokevirtual 65, 3) := by decide +kernel
theorem dX2_readLine_103 : decode cX2_readLine 103 = .ok (.ireturn, 1) := by decide +kernel
def f_X2_readLine (w : Nat) (o0 : Nat) (o1 : Nat) (M : mM) : Option (Int32 × mM) := bI (f_X10_isWord w (rF o0 0) 1919905645 M) fun q2 M1 => (if q2 = 0 then bI (f_X10_isWord w (rF o0 0) 1685024626 M1) fun q4 M3 => (if q4 = 0 then bI (f_X10_isWord w (rF o0 0) 123581014175598 M3) fun q6 M5 => (if q6 = 0 then bI (f_X10_isWord w (rF o0 0) 1684106608 M5) fun q8 M7 => (if q8 = 0 then bI (f_X10_isWord w (rF o0 0) 126956639906931 M7) fun q10 M9 => (if q10 = 0 then bI (f_X10_refuse w (rF o0 0) 1 M9) fun q12 M11 => rtB q12 M11 else bI (f_X2_readSwells w o0 o1 M9) fun q14 M13 => rtB q14 M13) else bI (f_X2_readDamp w o0 o1 M7) fun q16 M15 => rtB q16 M15) else bI (f_X2_readPerson w o0 o1 M5) fun q18 M17 => rtB q18 M17) else bI (f_X2_readDoor w o0 o1 M3) fun q20 M19 => rtB q20 M19) else bI (f_X2_readRoom w o0 o1 M1) fun q22 M21 => rtB q22 M21)
set_option maxHeartbeats 4000000 in
set_option maxRecDepth 100000 in
theorem s_X2_readLine {l : Launch} {G : mG} {sk : List mS} (w : Nat) (o0 : Nat) (h0 : isK o0 12) (o1 : Nat) (h1 : isK o1 16) (M : mM) : Go muX2_readLine (rm 66) 0 0 l G sk (mFin G sk eI) (f_X2_readLine w o0 o1 M) 0 [(0, .ref (gB G + o0)), (1, .ref (gB G + o1))] [] M := by
  unfold f_X2_readLine
  refine go_aload_n 0 1 dX2_readLine_0 rfl rfl ?_
  refine go_getR flX2_9 h0 4 dX2_readLine_1 rfl ?_
  refine go_ldc2 klX2_36 7 dX2_readLine_4 rfl ?_
  refine go_cVI1 0 clX10 cwX2_38 (m_X10_isWord w (rF o0 0) (rk2_0 h0) 1919905645 M) (rk2_0 h0) 10 dX2_readLine_7 rfl ⟨Nat.le_of_ble_eq_true rfl, Nat.le_of_ble_eq_true rfl⟩ ⟨Nat.zero_le _, Nat.zero_le _⟩ (Nat.le_of_ble_eq_true rfl) (fun q2 M1 _ => ?_)
  refine go_if_eq 19 13 dX2_readLine_10 rfl (by decide) (fun _ => ?_) (fun _ => ?_)
  · refine go_aload_n 0 20 dX2_readLine_19 rfl rfl ?_
    refine go_getR flX2_9 h0 23 dX2_readLine_20 rfl ?_
    refine go_ldc2 klX2_45 26 dX2_readLine_23 rfl ?_
    refine go_cVI1 0 clX10 cwX2_38 (m_X10_isWord w (rF o0 0) (rk2_0 h0) 1685024626 M1) (rk2_0 h0) 29 dX2_readLine_26 rfl ⟨Nat.le_of_ble_eq_true rfl, Nat.le_of_ble_eq_true rfl⟩ ⟨Nat.zero_le _, Nat.zero_le _⟩ (Nat.le_of_ble_eq_true rfl) (fun q4 M3 _ => ?_)
    refine go_if_eq 38 32 dX2_readLine_29 rfl (by decide) (fun _ => ?_) (fun _ => ?_)
    · refine go_aload_n 0 39 dX2_readLine_38 rfl rfl ?_
      refine go_getR flX2_9 h0 42 dX2_readLine_39 rfl ?_
      refine go_ldc2 klX2_50 45 dX2_readLine_42 rfl ?_
      refine go_cVI1 0 clX10 cwX2_38 (m_X10_isWord w (rF o0 0) (rk2_0 h0) 123581014175598 M3) (rk2_0 h0) 48 dX2_readLine_45 rfl ⟨Nat.le_of_ble_eq_true rfl, Nat.le_of_ble_eq_true rfl⟩ ⟨Nat.zero_le _, Nat.zero_le _⟩ (Nat.le_of_ble_eq_true rfl) (fun q6 M5 _ => ?_)
      refine go_if_eq 57 51 dX2_readLine_48 rfl (by decide) (fun _ => ?_) (fun _ => ?_)
      · refine go_aload_n 0 58 dX2_readLine_57 rfl rfl ?_
        refine go_getR flX2_9 h0 61 dX2_readLine_58 rfl ?_
        refine go_ldc2 klX2_55 64 dX2_readLine_61 rfl ?_
        refine go_cVI1 0 clX10 cwX2_38 (m_X10_isWord w (rF o0 0) (rk2_0 h0) 1684106608 M5) (rk2_0 h0) 67 dX2_readLine_64 rfl ⟨Nat.le_of_ble_eq_true rfl, Nat.le_of_ble_eq_true rfl⟩ ⟨Nat.zero_le _, Nat.zero_le _⟩ (Nat.le_of_ble_eq_true rfl) (fun q8 M7 _ => ?_)
        refine go_if_eq 76 70 dX2_readLine_67 rfl (by decide) (fun _ => ?_) (fun _ => ?_)
        · refine go_aload_n 0 77 dX2_readLine_76 rfl rfl ?_
          refine go_getR flX2_9 h0 80 dX2_readLine_77 rfl ?_
          refine go_ldc2 klX2_60 83 dX2_readLine_80 rfl ?_
          refine go_cVI1 0 clX10 cwX2_38 (m_X10_isWord w (rF o0 0) (rk2_0 h0) 126956639906931 M7) (rk2_0 h0) 86 dX2_readLine_83 rfl ⟨Nat.le_of_ble_eq_true rfl, Nat.le_of_ble_eq_true rfl⟩ ⟨Nat.zero_le _, Nat.zero_le _⟩ (Nat.le_of_ble_eq_true rfl) (fun q10 M9 _ => ?_)
          refine go_if_eq 95 89 dX2_readLine_86 rfl (by decide) (fun _ => ?_) (fun _ => ?_)
          · refine go_aload_n 0 96 dX2_readLine_95 rfl rfl ?_
            refine go_getR flX2_9 h0 99 dX2_readLine_96 rfl ?_
            refine go_iconst 1 100 dX2_readLine_99 rfl (by decide) ?_
            refine go_cVI1 0 clX10 cwX2_65 (m_X10_refuse w (rF o0 0) (rk2_0 h0) 1 M9) (rk2_0 h0) 103 dX2_readLine_100 rfl ⟨Nat.le_of_ble_eq_true rfl, Nat.le_of_ble_eq_true rfl⟩ ⟨Nat.zero_le _, Nat.zero_le _⟩ (Nat.le_of_ble_eq_true rfl) (fun q12 M11 _ => ?_)
            exact go_zret rfl dX2_readLine_103
          · refine go_aload_n 0 90 dX2_readLine_89 rfl rfl ?_
            refine go_aload_n 1 91 dX2_readLine_90 rfl rfl ?_
            refine go_cVI1 65 clX2 cwX2_62 (m_X2_readSwells w o0 h0 o1 h1 M9) h0 94 dX2_readLine_91 rfl ⟨Nat.le_of_ble_eq_true rfl, Nat.le_of_ble_eq_true rfl⟩ ⟨Nat.zero_le _, Nat.zero_le _⟩ (Nat.le_of_ble_eq_true rfl) (fun q14 M13 _ => ?_)
            exact go_zret rfl dX2_readLine_94
        · refine go_aload_n 0 71 dX2_readLine_70 rfl rfl ?_
          refine go_aload_n 1 72 dX2_readLine_71 rfl rfl ?_
          refine go_cVI1 4 clX2 cwX2_57 (m_X2_readDamp w o0 h0 o1 h1 M7) h0 75 dX2_readLine_72 rfl ⟨Nat.le_of_ble_eq_true rfl, Nat.le_of_ble_eq_true rfl⟩ ⟨Nat.zero_le _, Nat.zero_le _⟩ (Nat.le_of_ble_eq_true rfl) (fun q16 M15 _ => ?_)
          exact go_zret rfl dX2_readLine_75
      · refine go_aload_n 0 52 dX2_readLine_51 rfl rfl ?_
        refine go_aload_n 1 53 dX2_readLine_52 rfl rfl ?_
        refine go_cVI1 4 clX2 cwX2_52 (m_X2_readPerson w o0 h0 o1 h1 M5) h0 56 dX2_readLine_53 rfl ⟨Nat.le_of_ble_eq_true rfl, Nat.le_of_ble_eq_true rfl⟩ ⟨Nat.zero_le _, Nat.zero_le _⟩ (Nat.le_of_ble_eq_true rfl) (fun q18 M17 _ => ?_)
        exact go_zret rfl dX2_readLine_56
    · refine go_aload_n 0 33 dX2_readLine_32 rfl rfl ?_
      refine go_aload_n 1 34 dX2_readLine_33 rfl rfl ?_
      refine go_cVI1 4 clX2 cwX2_47 (m_X2_readDoor w o0 h0 o1 h1 M3) h0 37 dX2_readLine_34 rfl ⟨Nat.le_of_ble_eq_true rfl, Nat.le_of_ble_eq_true rfl⟩ ⟨Nat.zero_le _, Nat.zero_le _⟩ (Nat.le_of_ble_eq_true rfl) (fun q20 M19 _ => ?_)
      exact go_zret rfl dX2_readLine_37
  · refine go_aload_n 0 14 dX2_readLine_13 rfl rfl ?_
    refine go_aload_n 1 15 dX2_readLine_14 rfl rfl ?_
    refine go_cVI1 4 clX2 cwX2_42 (m_X2_readRoom w o0 h0 o1 h1 M1) h0 18 dX2_readLine_15 rfl ⟨Nat.le_of_ble_eq_true rfl, Nat.le_of_ble_eq_true rfl⟩ ⟨Nat.zero_le _, Nat.zero_le _⟩ (Nat.le_of_ble_eq_true rfl) (fun q22 M21 _ => ?_)
    exact go_zret rfl dX2_readLine_18
theorem m_X2_readLine {l : Launch} {G : mG} {sk : List mS} (w : Nat) (o0 : Nat) (h0 : isK o0 12) (o1 : Nat) (h1 : isK o1 16) (M : mM) : Mt l G sk yX2_readLine muX2_readLine 66 [.ref (gB G + o0), .ref (gB G + o1)] M eI (f_X2_readLine w o0 o1 M) := Mt.of (by decide) rfl (Nat.le_of_ble_eq_true rfl) (s_X2_readLine w o0 h0 o1 h1 M)
theorem dX2_read_0 : decode cX2_read 0 = .ok (.aload_n 1, 1) := by decide +kernel
theorem dX2_read_1 : decode cX2_read 1 = .ok (.invokevirtual 15, 3) := by decide +kernel
theorem dX2_read_4 : decode cX2_read 4 = .ok (.aload_n 0, 1) := by decide +kernel
theorem dX2_read_5 : decode cX2_read 5 = .ok (.getfield 9, 3) := by decide +kernel
theorem dX2_read_8 : decode cX2_read 8 = .ok (.invokevirtual 20, 3) := by decide +kernel
theorem dX2_read_11 : decode cX2_read 11 = .ok (.iconst 0, 1) := by decide +kernel
theorem dX2_read_12 : decode cX2_read 12 = .ok (.istore_n 2, 1) := by decide +kernel
theorem dX2_read_13 : decode cX2_read 13 = .ok (.iload_n 2, 1) := by decide +kernel
theorem dX2_read_14 : decode cX2_read 14 = .ok (.sipush 1000, 3) := by decide +kernel
theorem dX2_read_17 : decode cX2_read 17 = .ok (.if_icmp .ge 35, 3) := by decide +kernel
theorem dX2_read_20 : decode cX2_read 20 = .ok (.aload_n 0, 1) := by decide +kernel
theorem dX2_read_21 : decode cX2_read 21 = .ok (.getfield 9, 3) := by decide +kernel
theorem dX2_read_24 : decode cX2_read 24 = .ok (.getfield 25, 3) := by decide +kernel
theorem dX2_read_27 : decode cX2_read 27 = .ok (.ifCond .eq 25, 3) := by decide +kernel
theorem dX2_read_30 : decode cX2_read 30 = .ok (.aload_n 0, 1) := by decide +kernel
theorem dX2_read_31 : decode cX2_read 31 = .ok (.aload_n 1, 1) := by decide +kernel
theorem dX2_read_32 : decode cX2_read 32 = .ok (.invokevirtual 29, 3) := by decide +kernel
theorem dX2_read_35 : decode cX2_read 35 = .ok (.ifCond .ne 11, 3) := by decide +kernel
theorem dX2_read_38 : decode cX2_read 38 = .ok (.aload_n 0, 1) := by decide +kernel
theorem dX2_read_39 : decode cX2_read 39 = .ok (.getfield 9, 3) := by decide +kernel
theorem dX2_read_42 : decode cX2_read 42 = .ok (.getfield 33, 3) := by decide +kernel
theorem dX2_read_45 : decode cX2_read 45 = .ok (.ireturn, 1) := by decide +kernel
theorem dX2_read_46 : decode cX2_read 46 = .ok (.iinc 2 1, 3) := by decide +kernel
theorem dX2_read_49 : decode cX2_read 49 = .ok (.goto (-36), 3) := by decide +kernel
theorem dX2_read_52 : decode cX2_read 52 = .ok (.iconst 0, 1) := by decide +kernel
theorem dX2_read_53 : decode cX2_read 53 = .ok (.ireturn, 1) := by decide +kernel
def f_X2_read_13 (w : Nat) : Nat → Nat → Nat → Int32 → mM → Option (Int32 × mM)
  | 0, _, _, _, _ => none
  | n + 1, o0, o1, x2, M => (if 1000 ≤ x2 then some (0, M) else (if (M.1 (rF o0 0) 3) = 0 then some (0, M) else bI (f_X2_readLine w o0 o1 M) fun q2 M1 => (if q2 = 0 then some ((M1.1 (rF o0 0) 6), M1) else (f_X2_read_13 w n o0 o1 (x2 + 1) M1))))
set_option maxHeartbeats 4000000 in
set_option maxRecDepth 100000 in
theorem s_X2_read_13 {l : Launch} {G : mG} {sk : List mS} (w : Nat) : ∀ (n : Nat) (o0 : Nat) (h0 : isK o0 12) (o1 : Nat) (h1 : isK o1 16) (x2 : Int32) (M : mM), Go muX2_read (rm 67) 0 0 l G sk (mFin G sk eI) (f_X2_read_13 w n o0 o1 x2 M) 13 [(0, .ref (gB G + o0)), (1, .ref (gB G + o1)), (2, .int x2)] [] M := by
  intro n
  induction n with
  | zero =>
    intros
    exact go_none
  | succ n ih =>
    intro o0 h0 o1 h1 x2 M
    rw [f_X2_read_13]
    refine go_iload_n 2 14 dX2_read_13 rfl rfl ?_
    refine go_sipush 1000 17 dX2_read_14 rfl (by decide) ?_
    refine go_icmp_ge 52 20 dX2_read_17 rfl (by decide) (fun _ => ?_) (fun _ => ?_)
    · refine go_iconst 0 53 dX2_read_52 rfl (by decide) ?_
      exact go_iret rfl dX2_read_53
    · refine go_aload_n 0 21 dX2_read_20 rfl rfl ?_
      refine go_getR flX2_9 h0 24 dX2_read_21 rfl ?_
      refine go_getI flX2_25 (by decide) (rk2_0 h0) 27 dX2_read_24 rfl ?_
      refine go_if_eq 52 30 dX2_read_27 rfl (by decide) (fun _ => ?_) (fun _ => ?_)
      · refine go_iconst 0 53 dX2_read_52 rfl (by decide) ?_
        exact go_iret rfl dX2_read_53
      · refine go_aload_n 0 31 dX2_read_30 rfl rfl ?_
        refine go_aload_n 1 32 dX2_read_31 rfl rfl ?_
        refine go_cVI1 66 clX2 cwX2_29 (m_X2_readLine w o0 h0 o1 h1 M) h0 35 dX2_read_32 rfl ⟨Nat.le_of_ble_eq_true rfl, Nat.le_of_ble_eq_true rfl⟩ ⟨Nat.zero_le _, Nat.zero_le _⟩ (Nat.le_of_ble_eq_true rfl) (fun q2 M1 _ => ?_)
        refine go_if_ne 46 38 dX2_read_35 rfl (by decide) (fun _ => ?_) (fun _ => ?_)
        · refine go_iinc (x2 + 1) 2 [(2, .int (x2 + 1)), (0, .ref (gB G + o0)), (1, .ref (gB G + o1))] 49 dX2_read_46 rfl rfl rfl (by decide) rfl ?_
          refine go_goto 13 dX2_read_49 (by decide) ?_
          exact go_lv [1, 2, 0] rfl (ih o0 h0 o1 h1 (x2 + 1) M1)
        · refine go_aload_n 0 39 dX2_read_38 rfl rfl ?_
          refine go_getR flX2_9 h0 42 dX2_read_39 rfl ?_
          refine go_getI flX2_33 (by decide) (rk2_0 h0) 45 dX2_read_42 rfl ?_
          exact go_iret rfl dX2_read_45
def f_X2_read (w : Nat) (o0 : Nat) (o1 : Nat) (M : mM) : Option (Int32 × mM) := bV (f_X6_clear w o1 M) fun M1 => bV (f_X10_rewind w (rF o0 0) M1) fun M2 => (f_X2_read_13 w w o0 o1 0 M2)
set_option maxHeartbeats 4000000 in
set_option maxRecDepth 100000 in
theorem s_X2_read {l : Launch} {G : mG} {sk : List mS} (w : Nat) (o0 : Nat) (h0 : isK o0 12) (o1 : Nat) (h1 : isK o1 16) (M : mM) : Go muX2_read (rm 67) 0 0 l G sk (mFin G sk eI) (f_X2_read w o0 o1 M) 0 [(0, .ref (gB G + o0)), (1, .ref (gB G + o1))] [] M := by
  unfold f_X2_read
  refine go_aload_n 1 1 dX2_read_0 rfl rfl ?_
  refine go_cVV0 0 clX6 cwX2_15 (m_X6_clear w o1 h1 M) h1 4 dX2_read_1 rfl ⟨Nat.le_of_ble_eq_true rfl, Nat.le_of_ble_eq_true rfl⟩ ⟨Nat.zero_le _, Nat.zero_le _⟩ (Nat.le_of_ble_eq_true rfl) (fun M1 _ => ?_)
  refine go_aload_n 0 5 dX2_read_4 rfl rfl ?_
  refine go_getR flX2_9 h0 8 dX2_read_5 rfl ?_
  refine go_cVV0 3 clX10 cwX2_20 (m_X10_rewind w (rF o0 0) (rk2_0 h0) M1) (rk2_0 h0) 11 dX2_read_8 rfl ⟨Nat.le_of_ble_eq_true rfl, Nat.le_of_ble_eq_true rfl⟩ ⟨Nat.zero_le _, Nat.zero_le _⟩ (Nat.le_of_ble_eq_true rfl) (fun M2 _ => ?_)
  refine go_iconst 0 12 dX2_read_11 rfl (by decide) ?_
  refine go_istore_n [(2, .int 0), (0, .ref (gB G + o0)), (1, .ref (gB G + o1))] 13 dX2_read_12 rfl rfl (by decide) rfl ?_
  exact go_lv [1, 2, 0] rfl (s_X2_read_13 w w o0 h0 o1 h1 0 M2)
theorem m_X2_read {l : Launch} {G : mG} {sk : List mS} (w : Nat) (o0 : Nat) (h0 : isK o0 12) (o1 : Nat) (h1 : isK o1 16) (M : mM) : Mt l G sk yX2_read muX2_read 67 [.ref (gB G + o0), .ref (gB G + o1)] M eI (f_X2_read w o0 o1 M) := Mt.of (by decide) rfl (Nat.le_of_ble_eq_true rfl) (s_X2_read w o0 h0 o1 h1 M)
