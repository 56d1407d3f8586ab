theorem dX0_deedTold_0 : decode cX0_deedTold 0 = .ok (.aload_n 0, 1) := by decide +kernel
theorem dX0_deedTold_1 : decode cX0_deedTold 1 = .ok (.getfield 15, 3) := by decide +kernel
theorem dX0_deedTold_4 : decode cX0_deedTold 4 = .ok (.ldc2_w 66, 3) := by decide +kernel
theorem dX0_deedTold_7 : decode cX0_deedTold 7 = .ok (.invokevirtual 68, 3) := by decide +kernel
theorem dX0_deedTold_10 : decode cX0_deedTold 10 = .ok (.ifCond .eq 5, 3) := by decide +kernel
theorem dX0_deedTold_13 : decode cX0_deedTold 13 = .ok (.iconst 0, 1) := by decide +kernel
theorem dX0_deedTold_14 : decode cX0_deedTold 14 = .ok (.ireturn, 1) := by decide +kernel
theorem dX0_deedTold_15 : decode cX0_deedTold 15 = .ok (.aload_n 0, 1) := by decide +kernel
theorem dX0_deedTold_16 : decode cX0_deedTold 16 = .ok (.getfield 15, 3) := by decide +kernel
theorem dX0_deedTold_19 : decode cX0_deedTold 19 = .ok (.ldc2_w 72, 3) := by decide +kernel
theorem dX0_deedTold_22 : decode cX0_deedTold 22 = .ok (.invokevirtual 68, 3) := by decide +kernel
theorem dX0_deedTold_25 : decode cX0_deedTold 25 = .ok (.ifCond .eq 5, 3) := by decide +kernel
theorem dX0_deedTold_28 : decode cX0_deedTold 28 = .ok (.iconst 1, 1) := by decide +kernel
theorem dX0_deedTold_29 : decode cX0_deedTold 29 = .ok (.ireturn, 1) := by decide +kernel
theorem dX0_deedTold_30 : decode cX0_deedTold 30 = .ok (.aload_n 0, 1) := by decide +kernel
theorem dX0_deedTold_31 : decode cX0_deedTold 31 = .ok (.getfield 15, 3) := by decide +kernel
theorem dX0_deedTold_34 : decode cX0_deedTold 34 = .ok (.ldc2_w 74, 3) := by decide +kernel
theorem dX0_deedTold_37 : decode cX0_deedTold 37 = .ok (.invokevirtual 68, 3) := by decide +kernel
theorem dX0_deedTold_40 : decode cX0_deedTold 40 = .ok (.ifCond .eq 5, 3) := by decide +kernel
theorem dX0_deedTold_43 : decode cX0_deedTold 43 = .ok (.iconst 2, 1) := by decide +kernel
theorem dX0_deedTold_44 : decode cX0_deedTold 44 = .ok (.ireturn, 1) := by decide +kernel
theorem dX0_deedTold_45 : decode cX0_deedTold 45 = .ok (.aload_n 0, 1) := by decide +kernel
theorem dX0_deedTold_46 : decode cX0_deedTold 46 = .ok (.getfield 15, 3) := by decide +kernel
theorem dX0_deedTold_49 : decode cX0_deedTold 49 = .ok (.ldc2_w 76, 3) := by decide +kernel
theorem dX0_deedTold_52 : decode cX0_deedTold 52 = .ok (.invokevirtual 68, 3) := by decide +kernel
theorem dX0_deedTold_55 : decode cX0_deedTold 55 = .ok (.ifCond .eq 5, 3) := by decide +kernel
theorem dX0_deedTold_58 : decode cX0_deedTold 58 = .ok (.iconst 3, 1) := by decide +kernel
theorem dX0_deedTold_59 : decode cX0_deedTold 59 = .ok (.ireturn, 1) := by decide +kernel
theorem dX0_deedTold_60 : decode cX0_deedTold 60 = .ok (.aload_n 0, 1) := by decide +kernel
theorem dX0_deedTold_61 : decode cX0_deedTold 61 = .ok (.getfield 15, 3) := by decide +kernel
theorem dX0_deedTold_64 : decode cX0_deedTold 64 = .ok (.ldc2_w 78, 3) := by decide +kernel
theorem dX0_deedTold_67 : decode cX0_deedTold 67 = .ok (.invokevirtual 68, 3) := by decide +kernel
theorem dX0_deedTold_70 : decode cX0_deedTold 70 = .ok (.ifCond .eq 7, 3) := by decide +kernel
theorem dX0_deedTold_73 : decode cX0_deedTold 73 = .ok (.iconst 4, 1) := by decide +kernel
theorem dX0_deedTold_74 : decode cX0_deedTold 74 = .ok (.goto 4, 3) := by decide +kernel
theorem dX0_deedTold_77 : decode cX0_deedTold 77 = .ok (.iconst (-1), 1) := by decide +kernel
theorem dX0_deedTold_78 : decode cX0_deedTold 78 = .ok (.ireturn, 1) := by decide +kernel
def f_X0_deedTold (w : Nat) (o0 : Nat) (M : mM) : Option (Int32 × mM) := bI (f_X10_isWord w (rF o0 0) 6578553 M) fun q2 M1 => (if q2 = 0 then bI (f_X10_isWord w (rF o0 0) 2002873451 M1) fun q4 M3 => (if q4 = 0 then bI (f_X10_isWord w (rF o0 0) 482854661733 M3) fun q6 M5 => (if q6 = 0 then bI (f_X10_isWord w (rF o0 0) 512802187109 M5) fun q8 M7 => (if q8 = 0 then bI (f_X10_isWord w (rF o0 0) 439956431717 M7) fun q10 M9 => (if q10 = 0 then some ((-1), M9) else some (4, M9)) else some (3, M7)) else some (2, M5)) else some (1, M3)) else some (0, M1))
set_option maxHeartbeats 4000000 in
set_option maxRecDepth 100000 in
theorem s_X0_deedTold {l : Launch} {G : mG} {sk : List mS} (w : Nat) (o0 : Nat) (h0 : isK o0 10) (M : mM) : Go muX0_deedTold (rm 1) 0 0 l G sk (mFin G sk eI) (f_X0_deedTold w o0 M) 0 [(0, .ref (gB G + o0))] [] M := by
  unfold f_X0_deedTold
  refine go_aload_n 0 1 dX0_deedTold_0 rfl rfl ?_
  refine go_getR flX0_15 h0 4 dX0_deedTold_1 rfl ?_
  refine go_ldc2 klX0_66 7 dX0_deedTold_4 rfl ?_
  refine go_cVI1 0 clX10 cwX0_68 (m_X10_isWord w (rF o0 0) (rk0_0 h0) 6578553 M) (rk0_0 h0) 10 dX0_deedTold_7 rfl ⟨Nat.le_of_ble_eq_true rfl, Nat.le_of_ble_eq_true rfl⟩ ⟨Nat.zero_le _, Nat.zero_le _⟩ (Nat.le_of_ble_eq_true rfl) (fun q2 M1 _ => ?_)
  refine go_if_eq 15 13 dX0_deedTold_10 rfl (by decide) (fun _ => ?_) (fun _ => ?_)
  · refine go_aload_n 0 16 dX0_deedTold_15 rfl rfl ?_
    refine go_getR flX0_15 h0 19 dX0_deedTold_16 rfl ?_
    refine go_ldc2 klX0_72 22 dX0_deedTold_19 rfl ?_
    refine go_cVI1 0 clX10 cwX0_68 (m_X10_isWord w (rF o0 0) (rk0_0 h0) 2002873451 M1) (rk0_0 h0) 25 dX0_deedTold_22 rfl ⟨Nat.le_of_ble_eq_true rfl, Nat.le_of_ble_eq_true rfl⟩ ⟨Nat.zero_le _, Nat.zero_le _⟩ (Nat.le_of_ble_eq_true rfl) (fun q4 M3 _ => ?_)
    refine go_if_eq 30 28 dX0_deedTold_25 rfl (by decide) (fun _ => ?_) (fun _ => ?_)
    · refine go_aload_n 0 31 dX0_deedTold_30 rfl rfl ?_
      refine go_getR flX0_15 h0 34 dX0_deedTold_31 rfl ?_
      refine go_ldc2 klX0_74 37 dX0_deedTold_34 rfl ?_
      refine go_cVI1 0 clX10 cwX0_68 (m_X10_isWord w (rF o0 0) (rk0_0 h0) 482854661733 M3) (rk0_0 h0) 40 dX0_deedTold_37 rfl ⟨Nat.le_of_ble_eq_true rfl, Nat.le_of_ble_eq_true rfl⟩ ⟨Nat.zero_le _, Nat.zero_le _⟩ (Nat.le_of_ble_eq_true rfl) (fun q6 M5 _ => ?_)
      refine go_if_eq 45 43 dX0_deedTold_40 rfl (by decide) (fun _ => ?_) (fun _ => ?_)
      · refine go_aload_n 0 46 dX0_deedTold_45 rfl rfl ?_
        refine go_getR flX0_15 h0 49 dX0_deedTold_46 rfl ?_
        refine go_ldc2 klX0_76 52 dX0_deedTold_49 rfl ?_
        refine go_cVI1 0 clX10 cwX0_68 (m_X10_isWord w (rF o0 0) (rk0_0 h0) 512802187109 M5) (rk0_0 h0) 55 dX0_deedTold_52 rfl ⟨Nat.le_of_ble_eq_true rfl, Nat.le_of_ble_eq_true rfl⟩ ⟨Nat.zero_le _, Nat.zero_le _⟩ (Nat.le_of_ble_eq_true rfl) (fun q8 M7 _ => ?_)
        refine go_if_eq 60 58 dX0_deedTold_55 rfl (by decide) (fun _ => ?_) (fun _ => ?_)
        · refine go_aload_n 0 61 dX0_deedTold_60 rfl rfl ?_
          refine go_getR flX0_15 h0 64 dX0_deedTold_61 rfl ?_
          refine go_ldc2 klX0_78 67 dX0_deedTold_64 rfl ?_
          refine go_cVI1 0 clX10 cwX0_68 (m_X10_isWord w (rF o0 0) (rk0_0 h0) 439956431717 M7) (rk0_0 h0) 70 dX0_deedTold_67 rfl ⟨Nat.le_of_ble_eq_true rfl, Nat.le_of_ble_eq_true rfl⟩ ⟨Nat.zero_le _, Nat.zero_le _⟩ (Nat.le_of_ble_eq_true rfl) (fun q10 M9 _ => ?_)
          refine go_if_eq 77 73 dX0_deedTold_70 rfl (by decide) (fun _ => ?_) (fun _ => ?_)
          · refine go_iconst (-1) 78 dX0_deedTold_77 rfl (by decide) ?_
            exact go_iret rfl dX0_deedTold_78
          · refine go_iconst 4 74 dX0_deedTold_73 rfl (by decide) ?_
            refine go_goto 78 dX0_deedTold_74 (by decide) ?_
            exact go_iret rfl dX0_deedTold_78
        · refine go_iconst 3 59 dX0_deedTold_58 rfl (by decide) ?_
          exact go_iret rfl dX0_deedTold_59
      · refine go_iconst 2 44 dX0_deedTold_43 rfl (by decide) ?_
        exact go_iret rfl dX0_deedTold_44
    · refine go_iconst 1 29 dX0_deedTold_28 rfl (by decide) ?_
      exact go_iret rfl dX0_deedTold_29
  · refine go_iconst 0 14 dX0_deedTold_13 rfl (by decide) ?_
    exact go_iret rfl dX0_deedTold_14
theorem m_X0_deedTold {l : Launch} {G : mG} {sk : List mS} (w : Nat) (o0 : Nat) (h0 : isK o0 10) (M : mM) : Mt l G sk yX0_deedTold muX0_deedTold 1 [.ref (gB G + o0)] M eI (f_X0_deedTold w o0 M) := Mt.of (by decide) rfl (Nat.le_of_ble_eq_true rfl) (s_X0_deedTold w o0 h0 M)
theorem dX0_walkerTold_0 : decode cX0_walkerTold 0 = .ok (.aload_n 0, 1) := by decide +kernel
theorem dX0_walkerTold_1 : decode cX0_walkerTold 1 = .ok (.getfield 15, 3) := by decide +kernel
theorem dX0_walkerTold_4 : decode cX0_walkerTold 4 = .ok (.invokevirtual 80, 3) := by decide +kernel
theorem dX0_walkerTold_7 : decode cX0_walkerTold 7 = .ok (.ifCond .eq 17, 3) := by decide +kernel
theorem dX0_walkerTold_10 : decode cX0_walkerTold 10 = .ok (.aload_n 1, 1) := by decide +kernel
theorem dX0_walkerTold_11 : decode cX0_walkerTold 11 = .ok (.aload_n 0, 1) := by decide +kernel
theorem dX0_walkerTold_12 : decode cX0_walkerTold 12 = .ok (.getfield 15, 3) := by decide +kernel
theorem dX0_walkerTold_15 : decode cX0_walkerTold 15 = .ok (.getfield 84, 3) := by decide +kernel
theorem dX0_walkerTold_18 : decode cX0_walkerTold 18 = .ok (.invokevirtual 88, 3) := by decide +kernel
theorem dX0_walkerTold_21 : decode cX0_walkerTold 21 = .ok (.goto 4, 3) := by decide +kernel
theorem dX0_walkerTold_24 : decode cX0_walkerTold 24 = .ok (.iconst (-1), 1) := by decide +kernel
theorem dX0_walkerTold_25 : decode cX0_walkerTold 25 = .ok (.istore_n 2, 1) := by decide +kernel
theorem dX0_walkerTold_26 : decode cX0_walkerTold 26 = .ok (.iload_n 2, 1) := by decide +kernel
theorem dX0_walkerTold_27 : decode cX0_walkerTold 27 = .ok (.iconst (-1), 1) := by decide +kernel
theorem dX0_walkerTold_28 : decode cX0_walkerTold 28 = .ok (.if_icmp .ne 26, 3) := by decide +kernel
theorem dX0_walkerTold_31 : decode cX0_walkerTold 31 = .ok (.aload_n 0, 1) := by decide +kernel
theorem dX0_walkerTold_32 : decode cX0_walkerTold 32 = .ok (.getfield 15, 3) := by decide +kernel
theorem dX0_walkerTold_35 : decode cX0_walkerTold 35 = .ok (.aload_n 0, 1) := by decide +kernel
theorem dX0_walkerTold_36 : decode cX0_walkerTold 36 = .ok (.getfield 15, 3) := by decide +kernel
theorem dX0_walkerTold_39 : decode cX0_walkerTold 39 = .ok (.invokevirtual 80, 3) := by decide +kernel
theorem dX0_walkerTold_42 : decode cX0_walkerTold 42 = .ok (.ifCond .eq 7, 3) := by decide +kernel
theorem dX0_walkerTold_45 : decode cX0_walkerTold 45 = .ok (.iconst 2, 1) := by decide +kernel
theorem dX0_walkerTold_46 : decode cX0_walkerTold 46 = .ok (.goto 4, 3) := by decide +kernel
theorem dX0_walkerTold_49 : decode cX0_walkerTold 49 = .ok (.iconst 1, 1) := by decide +kernel
theorem dX0_walkerTold_50 : decode cX0_walkerTold 50 = .ok (.invokevirtual 42, 3) := by decide +kernel
theorem dX0_walkerTold_53 : decode cX0_walkerTold 53 = .ok (.pop, 1) := by decide +kernel
theorem dX0_walkerTold_54 : decode cX0_walkerTold 54 = .ok (.iload_n 2, 1) := by decide +kernel
theorem dX0_walkerTold_55 : decode cX0_walkerTold 55 = .ok (.ireturn, 1) := by decide +kernel
def f_X0_walkerTold_50 (w : Nat) (x2 : Int32) (xs0 : Int32) (os1 : Nat) (M : mM) : Option (Int32 × mM) := bI (f_X10_refuse w os1 xs0 M) fun q2 M1 => some (x2, M1)
set_option maxHeartbeats 4000000 in
set_option maxRecDepth 100000 in
theorem s_X0_walkerTold_50 {l : Launch} {G : mG} {sk : List mS} (w : Nat) (x2 : Int32) (xs0 : Int32) (os1 : Nat) (hs1 : isK os1 20) (M : mM) : Go muX0_walkerTold (rm 1) 0 0 l G sk (mFin G sk eI) (f_X0_walkerTold_50 w x2 xs0 os1 M) 50 [(2, .int x2)] [.int xs0, .ref (gB G + os1)] M := by
  unfold f_X0_walkerTold_50
  refine go_cVI1 0 clX10 cwX0_42 (m_X10_refuse w os1 hs1 xs0 M) hs1 53 dX0_walkerTold_50 rfl ⟨Nat.le_of_ble_eq_true rfl, Nat.le_of_ble_eq_true rfl⟩ ⟨Nat.zero_le _, Nat.zero_le _⟩ (Nat.le_of_ble_eq_true rfl) (fun q2 M1 _ => ?_)
  refine go_pop 54 dX0_walkerTold_53 rfl rfl ?_
  refine go_iload_n 0 55 dX0_walkerTold_54 rfl rfl ?_
  exact go_iret rfl dX0_walkerTold_55
def f_X0_walkerTold_25 (w : Nat) (o0 : Nat) (xs0 : Int32) (M : mM) : Option (Int32 × mM) := (if xs0 = (-1) then bI (f_X10_isName w (rF o0 0) M) fun q2 M1 => (if q2 = 0 then (f_X0_walkerTold_50 w xs0 1 (rF o0 0) M1) else (f_X0_walkerTold_50 w xs0 2 (rF o0 0) M1)) else some (xs0, M))
set_option maxHeartbeats 4000000 in
set_option maxRecDepth 100000 in
theorem s_X0_walkerTold_25 {l : Launch} {G : mG} {sk : List mS} (w : Nat) (o0 : Nat) (h0 : isK o0 10) (xs0 : Int32) (M : mM) : Go muX0_walkerTold (rm 1) 0 0 l G sk (mFin G sk eI) (f_X0_walkerTold_25 w o0 xs0 M) 25 [(0, .ref (gB G + o0))] [.int xs0] M := by
  unfold f_X0_walkerTold_25
  refine go_istore_n [(2, .int xs0), (0, .ref (gB G + o0))] 26 dX0_walkerTold_25 rfl rfl (by decide) rfl ?_
  refine go_iload_n 0 27 dX0_walkerTold_26 rfl rfl ?_
  refine go_iconst (-1) 28 dX0_walkerTold_27 rfl (by decide) ?_
  refine go_icmp_ne 54 31 dX0_walkerTold_28 rfl (by decide) (fun _ => ?_) (fun _ => ?_)
  · refine go_iload_n 0 55 dX0_walkerTold_54 rfl rfl ?_
    exact go_iret rfl dX0_walkerTold_55
  · refine go_aload_n 1 32 dX0_walkerTold_31 rfl rfl ?_
    refine go_getR flX0_15 h0 35 dX0_walkerTold_32 rfl ?_
    refine go_aload_n 1 36 dX0_walkerTold_35 rfl rfl ?_
    refine go_getR flX0_15 h0 39 dX0_walkerTold_36 rfl ?_
    refine go_cVI0 0 clX10 cwX0_80 (m_X10_isName w (rF o0 0) (rk0_0 h0) M) (rk0_0 h0) 42 dX0_walkerTold_39 rfl ⟨Nat.le_of_ble_eq_true rfl, Nat.le_of_ble_eq_true rfl⟩ ⟨Nat.zero_le _, Nat.zero_le _⟩ (Nat.le_of_ble_eq_true rfl) (fun q2 M1 _ => ?_)
    refine go_if_eq 49 45 dX0_walkerTold_42 rfl (by decide) (fun _ => ?_) (fun _ => ?_)
    · refine go_iconst 1 50 dX0_walkerTold_49 rfl (by decide) ?_
      exact go_lv [0] rfl (s_X0_walkerTold_50 w xs0 1 (rF o0 0) (rk0_0 h0) M1)
    · refine go_iconst 2 46 dX0_walkerTold_45 rfl (by decide) ?_
      refine go_goto 50 dX0_walkerTold_46 (by decide) ?_
      exact go_lv [0] rfl (s_X0_walkerTold_50 w xs0 2 (rF o0 0) (rk0_0 h0) M1)
def f_X0_walkerTold (w : Nat) (o0 : Nat) (o1 : Nat) (M : mM) : Option (Int32 × mM) := bI (f_X10_isName w (rF o0 0) M) fun q2 M1 => (if q2 = 0 then (f_X0_walkerTold_25 w o0 (-1) M1) else bI (f_X6_personNamed w o1 (M1.2 (rF o0 0) 5) M1) fun q4 M3 => (f_X0_walkerTold_25 w o0 q4 M3))
set_option maxHeartbeats 4000000 in
set_option maxRecDepth 100000 in
theorem s_X0_walkerTold {l : Launch} {G : mG} {sk : List mS} (w : Nat) (o0 : Nat) (h0 : isK o0 10) (o1 : Nat) (h1 : isK o1 16) (M : mM) : Go muX0_walkerTold (rm 1) 0 0 l G sk (mFin G sk eI) (f_X0_walkerTold w o0 o1 M) 0 [(0, .ref (gB G + o0)), (1, .ref (gB G + o1))] [] M := by
  unfold f_X0_walkerTold
  refine go_aload_n 0 1 dX0_walkerTold_0 rfl rfl ?_
  refine go_getR flX0_15 h0 4 dX0_walkerTold_1 rfl ?_
  refine go_cVI0 0 clX10 cwX0_80 (m_X10_isName w (rF o0 0) (rk0_0 h0) M) (rk0_0 h0) 7 dX0_walkerTold_4 rfl ⟨Nat.le_of_ble_eq_true rfl, Nat.le_of_ble_eq_true rfl⟩ ⟨Nat.zero_le _, Nat.zero_le _⟩ (Nat.le_of_ble_eq_true rfl) (fun q2 M1 _ => ?_)
  refine go_if_eq 24 10 dX0_walkerTold_7 rfl (by decide) (fun _ => ?_) (fun _ => ?_)
  · refine go_iconst (-1) 25 dX0_walkerTold_24 rfl (by decide) ?_
    exact go_lv [0] rfl (s_X0_walkerTold_25 w o0 h0 (-1) M1)
  · refine go_aload_n 1 11 dX0_walkerTold_10 rfl rfl ?_
    refine go_aload_n 0 12 dX0_walkerTold_11 rfl rfl ?_
    refine go_getR flX0_15 h0 15 dX0_walkerTold_12 rfl ?_
    refine go_getL flX0_84 (rk0_0 h0) 18 dX0_walkerTold_15 rfl ?_
    refine go_cVI1 0 clX6 cwX0_88 (m_X6_personNamed w o1 h1 (M1.2 (rF o0 0) 5) M1) h1 21 dX0_walkerTold_18 rfl ⟨Nat.le_of_ble_eq_true rfl, Nat.le_of_ble_eq_true rfl⟩ ⟨Nat.zero_le _, Nat.zero_le _⟩ (Nat.le_of_ble_eq_true rfl) (fun q4 M3 _ => ?_)
    refine go_goto 25 dX0_walkerTold_21 (by decide) ?_
    exact go_lv [0] rfl (s_X0_walkerTold_25 w o0 h0 q4 M3)
theorem m_X0_walkerTold {l : Launch} {G : mG} {sk : List mS} (w : Nat) (o0 : Nat) (h0 : isK o0 10) (o1 : Nat) (h1 : isK o1 16) (M : mM) : Mt l G sk yX0_walkerTold muX0_walkerTold 1 [.ref (gB G + o0), .ref (gB G + o1)] M eI (f_X0_walkerTold w o0 o1 M) := Mt.of (by decide) rfl (Nat.le_of_ble_eq_true rfl) (s_X0_walkerTold w o0 h0 o1 h1 M)
theorem dX0_readLine_0 : decode cX0_readLine 0 = .ok (.aload_n 0, 1) := by decide +kernel
theorem dX0_readLine_1 : decode cX0_readLine 1 = .ok (.invokevirtual 38, 3) := by decide +kernel
theorem dX0_readLine_4 : decode cX0_readLine 4 = .ok (.istore_n 2, 1) := by decide +kernel
theorem dX0_readLine_5 : decode cX0_readLine 5 = .ok (.iload_n 2, 1) := by decide +kernel
theorem dX0_readLine_6 : decode cX0_readLine 6 = .ok (.iconst (-1), 1) := by decide +kernel
theorem dX0_readLine_7 : decode cX0_readLine 7 = .ok (.if_icmp .ne 12, 3) := by decide +kernel
theorem dX0_readLine_10 : decode cX0_readLine 10 = .ok (.aload_n 0, 1) := by decide +kernel
theorem dX0_readLine_11 : decode cX0_readLine 11 = .ok (.getfield 15, 3) := by decide +kernel
theorem dX0_readLine_14 : decode cX0_readLine 14 = .ok (.iconst 1, 1) := by decide +kernel
theorem dX0_readLine_15 : decode cX0_readLine 15 = .ok (.invokevirtual 42, 3) := by decide +kernel
theorem dX0_readLine_18 : decode cX0_readLine 18 = .ok (.ireturn, 1) := by decide +kernel
theorem dX0_readLine_19 : decode cX0_readLine 19 = .ok (.aload_n 0, 1) := by decide +kernel
theorem dX0_readLine_20 : decode cX0_readLine 20 = .ok (.getfield 19, 3) := by decide +kernel
theorem dX0_readLine_23 : decode cX0_readLine 23 = .ok (.bipush 40, 2) := by decide +kernel
theorem dX0_readLine_25 : decode cX0_readLine 25 = .ok (.if_icmp .lt 12, 3) := by decide +kernel
theorem dX0_readLine_28 : decode cX0_readLine 28 = .ok (.aload_n 0, 1) := by decide +kernel
theorem dX0_readLine_29 : decode cX0_readLine 29 = .ok (.getfield 15, 3) := by decide +kernel
theorem dX0_readLine_32 : decode cX0_readLine 32 = .ok (.iconst 5, 1) := by decide +kernel
theorem dX0_readLine_33 : decode cX0_readLine 33 = .ok (.invokevirtual 42, 3) := by decide +kernel
theorem dX0_readLine_36 : decode cX0_readLine 36 = .ok (.ireturn, 1) := by decide +kernel
theorem dX0_readLine_37 : decode cX0_readLine 37 = .ok (.aload_n 0, 1) := by decide +kernel
theorem dX0_readLine_38 : decode cX0_readLine 38 = .ok (.getfield 15, 3) := by decide +kernel
theorem dX0_readLine_41 : decode cX0_readLine 41 = .ok (.invokevirtual 46, 3) := by decide +kernel
theorem dX0_readLine_44 : decode cX0_readLine 44 = .ok (.iconst 0, 1) := by decide +kernel
theorem dX0_readLine_45 : decode cX0_readLine 45 = .ok (.istore_n 3, 1) := by decide +kernel
theorem dX0_readLine_46 : decode cX0_readLine 46 = .ok (.iload_n 2, 1) := by decide +kernel
theorem dX0_readLine_47 : decode cX0_readLine 47 = .ok (.iconst 1, 1) := by decide +kernel
theorem dX0_readLine_48 : decode cX0_readLine 48 = .ok (.if_icmp .ne 23, 3) := by decide +kernel
theorem dX0_readLine_51 : decode cX0_readLine 51 = .ok (.aload_n 0, 1) := by decide +kernel
theorem dX0_readLine_52 : decode cX0_readLine 52 = .ok (.aload_n 1, 1) := by decide +kernel
theorem dX0_readLine_53 : decode cX0_readLine 53 = .ok (.invokevirtual 49, 3) := by decide +kernel
theorem dX0_readLine_56 : decode cX0_readLine 56 = .ok (.istore_n 3, 1) := by decide +kernel
theorem dX0_readLine_57 : decode cX0_readLine 57 = .ok (.iload_n 3, 1) := by decide +kernel
theorem dX0_readLine_58 : decode cX0_readLine 58 = .ok (.iconst (-1), 1) := by decide +kernel
theorem dX0_readLine_59 : decode cX0_readLine 59 = .ok (.if_icmp .ne 5, 3) := by decide +kernel
theorem dX0_readLine_62 : decode cX0_readLine 62 = .ok (.iconst 0, 1) := by decide +kernel
theorem dX0_readLine_63 : decode cX0_readLine 63 = .ok (.ireturn, 1) := by decide +kernel
theorem dX0_readLine_64 : decode cX0_readLine 64 = .ok (.aload_n 0, 1) := by decide +kernel
theorem dX0_readLine_65 : decode cX0_readLine 65 = .ok (.getfield 15, 3) := by decide +kernel
theorem dX0_readLine_68 : decode cX0_readLine 68 = .ok (.invokevirtual 46, 3) := by decide +kernel
theorem dX0_readLine_71 : decode cX0_readLine 71 = .ok (.iload_n 2, 1) := by decide +kernel
theorem dX0_readLine_72 : decode cX0_readLine 72 = .ok (.ifCond .ne 7, 3) := by decide +kernel
theorem dX0_readLine_75 : decode cX0_readLine 75 = .ok (.iconst 0, 1) := by decide +kernel
theorem dX0_readLine_76 : decode cX0_readLine 76 = .ok (.goto 12, 3) := by decide +kernel
theorem dX0_readLine_79 : decode cX0_readLine 79 = .ok (.aload_n 0, 1) := by decide +kernel
theorem dX0_readLine_80 : decode cX0_readLine 80 = .ok (.getfield 15, 3) := by decide +kernel
theorem dX0_readLine_83 : decode cX0_readLine 83 = .ok (.bipush 7, 2) := by decide +kernel
theorem dX0_readLine_85 : decode cX0_readLine 85 = .ok (.invokevirtual 53, 3) := by decide +kernel
theorem dX0_readLine_88 : decode cX0_readLine 88 = .ok (.istore 4, 2) := by decide +kernel
theorem dX0_readLine_90 : decode cX0_readLine 90 = .ok (.iload 4, 2) := by decide +kernel
theorem dX0_readLine_92 : decode cX0_readLine 92 = .ok (.iconst (-1), 1) := by decide +kernel
theorem dX0_readLine_93 : decode cX0_readLine 93 = .ok (.if_icmp .ne 5, 3) := by decide +kernel
theorem dX0_readLine_96 : decode cX0_readLine 96 = .ok (.iconst 0, 1) := by decide +kernel
theorem dX0_readLine_97 : decode cX0_readLine 97 = .ok (.ireturn, 1) := by decide +kernel
theorem dX0_readLine_98 : decode cX0_readLine 98 = .ok (.aload_n 0, 1) := by decide +kernel
theorem dX0_readLine_99 : decode cX0_readLine 99 = .ok (.getfield 9, 3) := by decide +kernel
theorem dX0_readLine_102 : decode cX0_readLine 102 = .ok (.aload_n 0, 1) := by decide +kernel
theorem dX0_readLine_103 : decode cX0_readLine 103 = .ok (.getfield 19, 3) := by decide +kernel
theorem dX0_readLine_106 : decode cX0_readLine 106 = .ok (.iload_n 2, 1) := by decide +kernel
theorem dX0_readLine_107 : decode cX0_readLine 107 = .ok (.iload 4, 2) := by decide +kernel
theorem dX0_readLine_109 : decode cX0_readLine 109 = .ok (.iload_n 3, 1) := by decide +kernel
theorem dX0_readLine_110 : decode cX0_readLine 110 = .ok (.invokestatic 57, 3) := by decide +kernel
theorem dX0_readLine_113 : decode cX0_readLine 113 = .ok (.iastore, 1) := by decide +kernel
theorem dX0_readLine_114 : decode cX0_readLine 114 = .ok (.aload_n 0, 1) := by decide +kernel
theorem dX0_readLine_115 : decode cX0_readLine 115 = .ok (.dup, 1) := by decide +kernel
theorem dX0_readLine_116 : decode cX0_readLine 116 = .ok (.getfield 19, 3) := by decide +kernel
theorem dX0_readLine_119 : decode cX0_readLine 119 = .ok (.iconst 1, 1) := by decide +kernel
theorem dX0_readLine_120 : decode cX0_readLine 120 = .ok (.iadd, 1) := by decide +kernel
theorem dX0_readLine_121 : decode cX0_readLine 121 = .ok (.putfield 19, 3) := by decide +kernel
theorem dX0_readLine_124 : decode cX0_readLine 124 = .ok (.aload_n 0, 1) := by decide +kernel
theorem dX0_readLine_125 : decode cX0_readLine 125 = .ok (.getfield 15, 3) := by decide +kernel
theorem dX0_readLine_128 : decode cX0_readLine 128 = .ok (.bipush 59, 2) := by decide +kernel
theorem dX0_readLine_130 : decode cX0_readLine 130 = .ok (.invokevirtual 63, 3) := by decide +kernel
theorem dX0_readLine_133 : decode cX0_readLine 133 = .ok (.ireturn, 1) := by decide +kernel
def f_X0_readLine_88 (w : Nat) (o0 : Nat) (x2 : Int32) (x3 : Int32) (xs0 : Int32) (M : mM) : Option (Int32 × mM) := (if xs0 = (-1) then rtB 0 M else bI (f_X9_line w x2 xs0 x3 M) fun q2 M1 => chk (M.1 o0 2) (sL (rF o0 1)) (lt (wI M1 (rF o0 1) (M.1 o0 2).toNatClampNeg q2) fun M3 => lt (wI M3 o0 2 ((M3.1 o0 2) + 1)) fun M4 => bI (f_X10_takeSign w (rF o0 0) 59 M4) fun q6 M5 => rtB q6 M5))
set_option maxHeartbeats 4000000 in
set_option maxRecDepth 100000 in
theorem s_X0_readLine_88 {l : Launch} {G : mG} {sk : List mS} (w : Nat) (o0 : Nat) (h0 : isK o0 10) (x2 : Int32) (x3 : Int32) (xs0 : Int32) (M : mM) : Go muX0_readLine (rm 4) 0 0 l G sk (mFin G sk eI) (f_X0_readLine_88 w o0 x2 x3 xs0 M) 88 [(0, .ref (gB G + o0)), (2, .int x2), (3, .int x3)] [.int xs0] M := by
  unfold f_X0_readLine_88
  refine go_istore [(4, .int xs0), (0, .ref (gB G + o0)), (2, .int x2), (3, .int x3)] 90 dX0_readLine_88 rfl (by decide) rfl ?_
  refine go_iload 0 92 dX0_readLine_90 rfl rfl ?_
  refine go_iconst (-1) 93 dX0_readLine_92 rfl (by decide) ?_
  refine go_icmp_ne 98 96 dX0_readLine_93 rfl (by decide) (fun _ => ?_) (fun _ => ?_)
  · refine go_aload_n 1 99 dX0_readLine_98 rfl rfl ?_
    refine go_getR flX0_9 h0 102 dX0_readLine_99 rfl ?_
    refine go_aload_n 1 103 dX0_readLine_102 rfl rfl ?_
    refine go_getI flX0_19 (by decide) h0 106 dX0_readLine_103 rfl ?_
    refine go_iload_n 2 107 dX0_readLine_106 rfl rfl ?_
    refine go_iload 0 109 dX0_readLine_107 rfl rfl ?_
    refine go_iload_n 3 110 dX0_readLine_109 rfl rfl ?_
    refine go_cSI3 0 cwX0_57 (m_X9_line w x2 xs0 x3 M) 113 dX0_readLine_110 rfl ⟨Nat.le_of_ble_eq_true rfl, Nat.le_of_ble_eq_true rfl⟩ ⟨Nat.zero_le _, Nat.zero_le _⟩ (Nat.le_of_ble_eq_true rfl) (fun q2 M1 _ => ?_)
    refine go_iast (rk0_1 h0) 114 dX0_readLine_113 rfl ?_
    refine go_nmM (fun M3 => ?_)
    refine go_aload_n 1 115 dX0_readLine_114 rfl rfl ?_
    refine go_dup 116 dX0_readLine_115 rfl rfl ?_
    refine go_getI flX0_19 (by decide) h0 119 dX0_readLine_116 rfl ?_
    refine go_iconst 1 120 dX0_readLine_119 rfl (by decide) ?_
    refine go_iadd 121 dX0_readLine_120 rfl ?_
    refine go_putI flX0_19 rfl rfl h0 124 dX0_readLine_121 rfl ?_
    refine go_nmM (fun M4 => ?_)
    refine go_aload_n 1 125 dX0_readLine_124 rfl rfl ?_
    refine go_getR flX0_15 h0 128 dX0_readLine_125 rfl ?_
    refine go_bipush 59 130 dX0_readLine_128 rfl (by decide) ?_
    refine go_cVI1 3 clX10 cwX0_63 (m_X10_takeSign w (rF o0 0) (rk0_0 h0) 59 M4) (rk0_0 h0) 133 dX0_readLine_130 rfl ⟨Nat.le_of_ble_eq_true rfl, Nat.le_of_ble_eq_true rfl⟩ ⟨Nat.zero_le _, Nat.zero_le _⟩ (Nat.le_of_ble_eq_true rfl) (fun q6 M5 _ => ?_)
    exact go_zret rfl dX0_readLine_133
  · refine go_iconst 0 97 dX0_readLine_96 rfl (by decide) ?_
    exact go_zret rfl dX0_readLine_97
def f_X0_readLine_71 (w : Nat) (o0 : Nat) (x2 : Int32) (x3 : Int32) (M : mM) : Option (Int32 × mM) := (if x2 = 0 then (f_X0_readLine_88 w o0 x2 x3 0 M) else bI (f_X10_takeNumber w (rF o0 0) 7 M) fun q2 M1 => (f_X0_readLine_88 w o0 x2 x3 q2 M1))
set_option maxHeartbeats 4000000 in
set_option maxRecDepth 100000 in
theorem s_X0_readLine_71 {l : Launch} {G : mG} {sk : List mS} (w : Nat) (o0 : Nat) (h0 : isK o0 10) (x2 : Int32) (x3 : Int32) (M : mM) : Go muX0_readLine (rm 4) 0 0 l G sk (mFin G sk eI) (f_X0_readLine_71 w o0 x2 x3 M) 71 [(0, .ref (gB G + o0)), (2, .int x2), (3, .int x3)] [] M := by
  unfold f_X0_readLine_71
  refine go_iload_n 1 72 dX0_readLine_71 rfl rfl ?_
  refine go_if_ne 79 75 dX0_readLine_72 rfl (by decide) (fun _ => ?_) (fun _ => ?_)
  · refine go_aload_n 0 80 dX0_readLine_79 rfl rfl ?_
    refine go_getR flX0_15 h0 83 dX0_readLine_80 rfl ?_
    refine go_bipush 7 85 dX0_readLine_83 rfl (by decide) ?_
    refine go_cVI1 3 clX10 cwX0_53 (m_X10_takeNumber w (rF o0 0) (rk0_0 h0) 7 M) (rk0_0 h0) 88 dX0_readLine_85 rfl ⟨Nat.le_of_ble_eq_true rfl, Nat.le_of_ble_eq_true rfl⟩ ⟨Nat.zero_le _, Nat.zero_le _⟩ (Nat.le_of_ble_eq_true rfl) (fun q2 M1 _ => ?_)
    exact go_lv [0, 1, 2] rfl (s_X0_readLine_88 w o0 h0 x2 x3 q2 M1)
  · refine go_iconst 0 76 dX0_readLine_75 rfl (by decide) ?_
    refine go_goto 88 dX0_readLine_76 (by decide) ?_
    exact go_lv [0, 1, 2] rfl (s_X0_readLine_88 w o0 h0 x2 x3 0 M)
def f_X0_readLine (w : Nat) (o0 : Nat) (o1 : Nat) (M : mM) : Option (Int32 × mM) := bI (f_X0_deedTold w o0 M) fun q2 M1 => (if q2 = (-1) then bI (f_X10_refuse w (rF o0 0) 1 M1) fun q10 M9 => rtB q10 M9 else (if (M1.1 o0 2) < 40 then bV (f_X10_advance w (rF o0 0) M1) fun M3 => (if q2 = 1 then bI (f_X0_walkerTold w o0 o1 M3) fun q5 M4 => (if q5 = (-1) then rtB 0 M4 else bV (f_X10_advance w (rF o0 0) M4) fun M6 => (f_X0_readLine_71 w o0 q2 q5 M6)) else (f_X0_readLine_71 w o0 q2 0 M3)) else bI (f_X10_refuse w (rF o0 0) 5 M1) fun q8 M7 => rtB q8 M7))
set_option maxHeartbeats 4000000 in
set_option maxRecDepth 100000 in
theorem s_X0_readLine {l : Launch} {G : mG} {sk : List mS} (w : Nat) (o0 : Nat) (h0 : isK o0 10) (o1 : Nat) (h1 : isK o1 16) (M : mM) : Go muX0_readLine (rm 4) 0 0 l G sk (mFin G sk eI) (f_X0_readLine w o0 o1 M) 0 [(0, .ref (gB G + o0)), (1, .ref (gB G + o1))] [] M := by
  unfold f_X0_readLine
  refine go_aload_n 0 1 dX0_readLine_0 rfl rfl ?_
  refine go_cVI0 1 clX0 cwX0_38 (m_X0_deedTold w o0 h0 M) h0 4 dX0_readLine_1 rfl ⟨Nat.le_of_ble_eq_true rfl, Nat.le_of_ble_eq_true rfl⟩ ⟨Nat.zero_le _, Nat.zero_le _⟩ (Nat.le_of_ble_eq_true rfl) (fun q2 M1 _ => ?_)
  refine go_istore_n [(2, .int q2), (0, .ref (gB G + o0)), (1, .ref (gB G + o1))] 5 dX0_readLine_4 rfl rfl (by decide) rfl ?_
  refine go_iload_n 0 6 dX0_readLine_5 rfl rfl ?_
  refine go_iconst (-1) 7 dX0_readLine_6 rfl (by decide) ?_
  refine go_icmp_ne 19 10 dX0_readLine_7 rfl (by decide) (fun _ => ?_) (fun _ => ?_)
  · refine go_aload_n 1 20 dX0_readLine_19 rfl rfl ?_
    refine go_getI flX0_19 (by decide) h0 23 dX0_readLine_20 rfl ?_
    refine go_bipush 40 25 dX0_readLine_23 rfl (by decide) ?_
    refine go_icmp_lt 37 28 dX0_readLine_25 rfl (by decide) (fun _ => ?_) (fun _ => ?_)
    · refine go_aload_n 1 38 dX0_readLine_37 rfl rfl ?_
      refine go_getR flX0_15 h0 41 dX0_readLine_38 rfl ?_
      refine go_cVV0 2 clX10 cwX0_46 (m_X10_advance w (rF o0 0) (rk0_0 h0) M1) (rk0_0 h0) 44 dX0_readLine_41 rfl ⟨Nat.le_of_ble_eq_true rfl, Nat.le_of_ble_eq_true rfl⟩ ⟨Nat.zero_le _, Nat.zero_le _⟩ (Nat.le_of_ble_eq_true rfl) (fun M3 _ => ?_)
      refine go_iconst 0 45 dX0_readLine_44 rfl (by decide) ?_
      refine go_istore_n [(3, .int 0), (2, .int q2), (0, .ref (gB G + o0)), (1, .ref (gB G + o1))] 46 dX0_readLine_45 rfl rfl (by decide) rfl ?_
      refine go_iload_n 1 47 dX0_readLine_46 rfl rfl ?_
      refine go_iconst 1 48 dX0_readLine_47 rfl (by decide) ?_
      refine go_icmp_ne 71 51 dX0_readLine_48 rfl (by decide) (fun _ => ?_) (fun _ => ?_)
      · exact go_lv [2, 1, 0] rfl (s_X0_readLine_71 w o0 h0 q2 0 M3)
      · refine go_aload_n 2 52 dX0_readLine_51 rfl rfl ?_
        refine go_aload_n 3 53 dX0_readLine_52 rfl rfl ?_
        refine go_cVI1 1 clX0 cwX0_49 (m_X0_walkerTold w o0 h0 o1 h1 M3) h0 56 dX0_readLine_53 rfl ⟨Nat.le_of_ble_eq_true rfl, Nat.le_of_ble_eq_true rfl⟩ ⟨Nat.zero_le _, Nat.zero_le _⟩ (Nat.le_of_ble_eq_true rfl) (fun q5 M4 _ => ?_)
        refine go_istore_n [(3, .int q5), (2, .int q2), (0, .ref (gB G + o0)), (1, .ref (gB G + o1))] 57 dX0_readLine_56 rfl rfl (by decide) rfl ?_
        refine go_iload_n 0 58 dX0_readLine_57 rfl rfl ?_
        refine go_iconst (-1) 59 dX0_readLine_58 rfl (by decide) ?_
        refine go_icmp_ne 64 62 dX0_readLine_59 rfl (by decide) (fun _ => ?_) (fun _ => ?_)
        · refine go_aload_n 2 65 dX0_readLine_64 rfl rfl ?_
          refine go_getR flX0_15 h0 68 dX0_readLine_65 rfl ?_
          refine go_cVV0 2 clX10 cwX0_46 (m_X10_advance w (rF o0 0) (rk0_0 h0) M4) (rk0_0 h0) 71 dX0_readLine_68 rfl ⟨Nat.le_of_ble_eq_true rfl, Nat.le_of_ble_eq_true rfl⟩ ⟨Nat.zero_le _, Nat.zero_le _⟩ (Nat.le_of_ble_eq_true rfl) (fun M6 _ => ?_)
          exact go_lv [2, 1, 0] rfl (s_X0_readLine_71 w o0 h0 q2 q5 M6)
        · refine go_iconst 0 63 dX0_readLine_62 rfl (by decide) ?_
          exact go_zret rfl dX0_readLine_63
    · refine go_aload_n 1 29 dX0_readLine_28 rfl rfl ?_
      refine go_getR flX0_15 h0 32 dX0_readLine_29 rfl ?_
      refine go_iconst 5 33 dX0_readLine_32 rfl (by decide) ?_
      refine go_cVI1 0 clX10 cwX0_42 (m_X10_refuse w (rF o0 0) (rk0_0 h0) 5 M1) (rk0_0 h0) 36 dX0_readLine_33 rfl ⟨Nat.le_of_ble_eq_true rfl, Nat.le_of_ble_eq_true rfl⟩ ⟨Nat.zero_le _, Nat.zero_le _⟩ (Nat.le_of_ble_eq_true rfl) (fun q8 M7 _ => ?_)
      exact go_zret rfl dX0_readLine_36
  · refine go_aload_n 1 11 dX0_readLine_10 rfl rfl ?_
    refine go_getR flX0_15 h0 14 dX0_readLine_11 rfl ?_
    refine go_iconst 1 15 dX0_readLine_14 rfl (by decide) ?_
    refine go_cVI1 0 clX10 cwX0_42 (m_X10_refuse w (rF o0 0) (rk0_0 h0) 1 M1) (rk0_0 h0) 18 dX0_readLine_15 rfl ⟨Nat.le_of_ble_eq_true rfl, Nat.le_of_ble_eq_true rfl⟩ ⟨Nat.zero_le _, Nat.zero_le _⟩ (Nat.le_of_ble_eq_true rfl) (fun q10 M9 _ => ?_)
    exact go_zret rfl dX0_readLine_18
theorem m_X0_readLine {l : Launch} {G : mG} {sk : List mS} (w : Nat) (o0 : Nat) (h0 : isK o0 10) (o1 : Nat) (h1 : isK o1 16) (M : mM) : Mt l G sk yX0_readLine muX0_readLine 4 [.ref (gB G + o0), .ref (gB G + o1)] M eI (f_X0_readLine w o0 o1 M) := Mt.of (by decide) rfl (Nat.le_of_ble_eq_true rfl) (s_X0_readLine w o0 h0 o1 h1 M)
theorem dX0_read_0 : decode cX0_read 0 = .ok (.aload_n 0, 1) := by decide +kernel
theorem dX0_read_1 : decode cX0_read 1 = .ok (.iconst 0, 1) := by decide +kernel
theorem dX0_read_2 : decode cX0_read 2 = .ok (.putfield 19, 3) := by decide +kernel
theorem dX0_read_5 : decode cX0_read 5 = .ok (.aload_n 0, 1) := by decide +kernel
theorem dX0_read_6 : decode cX0_read 6 = .ok (.getfield 15, 3) := by decide +kernel
theorem dX0_read_9 : decode cX0_read 9 = .ok (.invokevirtual 23, 3) := by decide +kernel
theorem dX0_read_12 : decode cX0_read 12 = .ok (.iconst 0, 1) := by decide +kernel
theorem dX0_read_13 : decode cX0_read 13 = .ok (.istore_n 2, 1) := by decide +kernel
theorem dX0_read_14 : decode cX0_read 14 = .ok (.iload_n 2, 1) := by decide +kernel
theorem dX0_read_15 : decode cX0_read 15 = .ok (.sipush 1000, 3) := by decide +kernel
theorem dX0_read_18 : decode cX0_read 18 = .ok (.if_icmp .ge 35, 3) := by decide +kernel
theorem dX0_read_21 : decode cX0_read 21 = .ok (.aload_n 0, 1) := by decide +kernel
theorem dX0_read_22 : decode cX0_read 22 = .ok (.getfield 15, 3) := by decide +kernel
theorem dX0_read_25 : decode cX0_read 25 = .ok (.getfield 28, 3) := by decide +kernel
theorem dX0_read_28 : decode cX0_read 28 = .ok (.ifCond .eq 25, 3) := by decide +kernel
theorem dX0_read_31 : decode cX0_read 31 = .ok (.aload_n 0, 1) := by decide +kernel
theorem dX0_read_32 : decode cX0_read 32 = .ok (.aload_n 1, 1) := by decide +kernel
theorem dX0_read_33 : decode cX0_read 33 = .ok (.invokevirtual 31, 3) := by decide +kernel
theorem dX0_read_36 : decode cX0_read 36 = .ok (.ifCond .ne 11, 3) := by decide +kernel
theorem dX0_read_39 : decode cX0_read 39 = .ok (.aload_n 0, 1) := by decide +kernel
theorem dX0_read_40 : decode cX0_read 40 = .ok (.getfield 15, 3) := by decide +kernel
theorem dX0_read_43 : decode cX0_read 43 = .ok (.getfield 35, 3) := by decide +kernel
theorem dX0_read_46 : decode cX0_read 46 = .ok (.ireturn, 1) := by decide +kernel
theorem dX0_read_47 : decode cX0_read 47 = .ok (.iinc 2 1, 3) := by decide +kernel
theorem dX0_read_50 : decode cX0_read 50 = .ok (.goto (-36), 3) := by decide +kernel
theorem dX0_read_53 : decode cX0_read 53 = .ok (.iconst 0, 1) := by decide +kernel
theorem dX0_read_54 : decode cX0_read 54 = .ok (.ireturn, 1) := by decide +kernel
def f_X0_read_14 (w : Nat) : Nat → Nat → Nat → Int32 → mM → Option (Int32 × mM)
  | 0, _, _, _, _ => none
  | n + 1, o0, o1, x2, M => (if 1000 ≤ x2 then some (0, M) else (if (M.1 (rF o0 0) 3) = 0 then some (0, M) else bI (f_X0_readLine w o0 o1 M) fun q2 M1 => (if q2 = 0 then some ((M1.1 (rF o0 0) 6), M1) else (f_X0_read_14 w n o0 o1 (x2 + 1) M1))))
set_option maxHeartbeats 4000000 in
set_option maxRecDepth 100000 in
theorem s_X0_read_14 {l : Launch} {G : mG} {sk : List mS} (w : Nat) : ∀ (n : Nat) (o0 : Nat) (h0 : isK o0 10) (o1 : Nat) (h1 : isK o1 16) (x2 : Int32) (M : mM), Go muX0_read (rm 5) 0 0 l G sk (mFin G sk eI) (f_X0_read_14 w n o0 o1 x2 M) 14 [(0, .ref (gB G + o0)), (1, .ref (gB G + o1)), (2, .int x2)] [] M := by
  intro n
  induction n with
  | zero =>
    intros
    exact go_none
  | succ n ih =>
    intro o0 h0 o1 h1 x2 M
    rw [f_X0_read_14]
    refine go_iload_n 2 15 dX0_read_14 rfl rfl ?_
    refine go_sipush 1000 18 dX0_read_15 rfl (by decide) ?_
    refine go_icmp_ge 53 21 dX0_read_18 rfl (by decide) (fun _ => ?_) (fun _ => ?_)
    · refine go_iconst 0 54 dX0_read_53 rfl (by decide) ?_
      exact go_iret rfl dX0_read_54
    · refine go_aload_n 0 22 dX0_read_21 rfl rfl ?_
      refine go_getR flX0_15 h0 25 dX0_read_22 rfl ?_
      refine go_getI flX0_28 (by decide) (rk0_0 h0) 28 dX0_read_25 rfl ?_
      refine go_if_eq 53 31 dX0_read_28 rfl (by decide) (fun _ => ?_) (fun _ => ?_)
      · refine go_iconst 0 54 dX0_read_53 rfl (by decide) ?_
        exact go_iret rfl dX0_read_54
      · refine go_aload_n 0 32 dX0_read_31 rfl rfl ?_
        refine go_aload_n 1 33 dX0_read_32 rfl rfl ?_
        refine go_cVI1 4 clX0 cwX0_31 (m_X0_readLine w o0 h0 o1 h1 M) h0 36 dX0_read_33 rfl ⟨Nat.le_of_ble_eq_true rfl, Nat.le_of_ble_eq_true rfl⟩ ⟨Nat.zero_le _, Nat.zero_le _⟩ (Nat.le_of_ble_eq_true rfl) (fun q2 M1 _ => ?_)
        refine go_if_ne 47 39 dX0_read_36 rfl (by decide) (fun _ => ?_) (fun _ => ?_)
        · refine go_iinc (x2 + 1) 2 [(2, .int (x2 + 1)), (0, .ref (gB G + o0)), (1, .ref (gB G + o1))] 50 dX0_read_47 rfl rfl rfl (by decide) rfl ?_
          refine go_goto 14 dX0_read_50 (by decide) ?_
          exact go_lv [1, 2, 0] rfl (ih o0 h0 o1 h1 (x2 + 1) M1)
        · refine go_aload_n 0 40 dX0_read_39 rfl rfl ?_
          refine go_getR flX0_15 h0 43 dX0_read_40 rfl ?_
          refine go_getI flX0_35 (by decide) (rk0_0 h0) 46 dX0_read_43 rfl ?_
          exact go_iret rfl dX0_read_46
def f_X0_read (w : Nat) (o0 : Nat) (o1 : Nat) (M : mM) : Option (Int32 × mM) := lt (wI M o0 2 0) fun M1 => bV (f_X10_rewind w (rF o0 0) M1) fun M2 => (f_X0_read_14 w w o0 o1 0 M2)
set_option maxHeartbeats 4000000 in
set_option maxRecDepth 100000 in
theorem s_X0_read {l : Launch} {G : mG} {sk : List mS} (w : Nat) (o0 : Nat) (h0 : isK o0 10) (o1 : Nat) (h1 : isK o1 16) (M : mM) : Go muX0_read (rm 5) 0 0 l G sk (mFin G sk eI) (f_X0_read w o0 o1 M) 0 [(0, .ref (gB G + o0)), (1, .ref (gB G + o1))] [] M := by
  unfold f_X0_read
  refine go_aload_n 0 1 dX0_read_0 rfl rfl ?_
  refine go_iconst 0 2 dX0_read_1 rfl (by decide) ?_
  refine go_putI flX0_19 rfl rfl h0 5 dX0_read_2 rfl ?_
  refine go_nmM (fun M1 => ?_)
  refine go_aload_n 0 6 dX0_read_5 rfl rfl ?_
  refine go_getR flX0_15 h0 9 dX0_read_6 rfl ?_
  refine go_cVV0 3 clX10 cwX0_23 (m_X10_rewind w (rF o0 0) (rk0_0 h0) M1) (rk0_0 h0) 12 dX0_read_9 rfl ⟨Nat.le_of_ble_eq_true rfl, Nat.le_of_ble_eq_true rfl⟩ ⟨Nat.zero_le _, Nat.zero_le _⟩ (Nat.le_of_ble_eq_true rfl) (fun M2 _ => ?_)
  refine go_iconst 0 13 dX0_read_12 rfl (by decide) ?_
  refine go_istore_n [(2, .int 0), (0, .ref (gB G + o0)), (1, .ref (gB G + o1))] 14 dX0_read_13 rfl rfl (by decide) rfl ?_
  exact go_lv [1, 2, 0] rfl (s_X0_read_14 w w o0 h0 o1 h1 0 M2)
theorem m_X0_read {l : Launch} {G : mG} {sk : List mS} (w : Nat) (o0 : Nat) (h0 : isK o0 10) (o1 : Nat) (h1 : isK o1 16) (M : mM) : Mt l G sk yX0_read muX0_read 5 [.ref (gB G + o0), .ref (gB G + o1)] M eI (f_X0_read w o0 o1 M) := Mt.of (by decide) rfl (Nat.le_of_ble_eq_true rfl) (s_X0_read w o0 h0 o1 h1 M)
