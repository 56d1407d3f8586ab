theorem dX11_feed_0 : decode cX11_feed 0 = .ok (.aload_n 0, 1) := by decide +kernel
theorem dX11_feed_1 : decode cX11_feed 1 = .ok (.getfield 22, 3) := by decide +kernel
theorem dX11_feed_4 : decode cX11_feed 4 = .ok (.lload_n 1, 1) := by decide +kernel
theorem dX11_feed_5 : decode cX11_feed 5 = .ok (.invokevirtual 97, 3) := by decide +kernel
theorem dX11_feed_8 : decode cX11_feed 8 = .ok (.aload_n 0, 1) := by decide +kernel
theorem dX11_feed_9 : decode cX11_feed 9 = .ok (.getfield 22, 3) := by decide +kernel
theorem dX11_feed_12 : decode cX11_feed 12 = .ok (.lload_n 3, 1) := by decide +kernel
theorem dX11_feed_13 : decode cX11_feed 13 = .ok (.invokevirtual 97, 3) := by decide +kernel
theorem dX11_feed_16 : decode cX11_feed 16 = .ok (.aload_n 0, 1) := by decide +kernel
theorem dX11_feed_17 : decode cX11_feed 17 = .ok (.getfield 22, 3) := by decide +kernel
theorem dX11_feed_20 : decode cX11_feed 20 = .ok (.lload 5, 2) := by decide +kernel
theorem dX11_feed_22 : decode cX11_feed 22 = .ok (.invokevirtual 97, 3) := by decide +kernel
theorem dX11_feed_25 : decode cX11_feed 25 = .ok (.aload_n 0, 1) := by decide +kernel
theorem dX11_feed_26 : decode cX11_feed 26 = .ok (.getfield 22, 3) := by decide +kernel
theorem dX11_feed_29 : decode cX11_feed 29 = .ok (.getfield 101, 3) := by decide +kernel
theorem dX11_feed_32 : decode cX11_feed 32 = .ok (.ireturn, 1) := by decide +kernel
def f_X11_feed (w : Nat) (o0 : Nat) (x1 : Int64) (x3 : Int64) (x5 : Int64) (M : mM) : Option (Int32 × mM) := bV (f_X10_putBytes w (rF o0 2) x1 M) fun M1 => bV (f_X10_putBytes w (rF o0 2) x3 M1) fun M2 => bV (f_X10_putBytes w (rF o0 2) x5 M2) fun M3 => some ((M3.1 (rF o0 2) 1), M3)
set_option maxHeartbeats 4000000 in
set_option maxRecDepth 100000 in
theorem s_X11_feed {l : Launch} {G : mG} {sk : List mS} (w : Nat) (o0 : Nat) (h0 : isK o0 21) (x1 : Int64) (x3 : Int64) (x5 : Int64) (M : mM) : Go muX11_feed (rm 2) 0 0 l G sk (mFin G sk eI) (f_X11_feed w o0 x1 x3 x5 M) 0 [(0, .ref (gB G + o0)), (1, .long x1), (3, .long x3), (5, .long x5)] [] M := by
  unfold f_X11_feed
  refine go_aload_n 0 1 dX11_feed_0 rfl rfl ?_
  refine go_getR flX11_22 h0 4 dX11_feed_1 rfl ?_
  refine go_lload_n 1 5 dX11_feed_4 rfl rfl ?_
  refine go_cVV1 1 clX10 cwX11_97 (m_X10_putBytes w (rF o0 2) (rk11_2 h0) x1 M) (rk11_2 h0) 8 dX11_feed_5 rfl ⟨Nat.le_of_ble_eq_true rfl, Nat.le_of_ble_eq_true rfl⟩ ⟨Nat.zero_le _, Nat.zero_le _⟩ (Nat.le_of_ble_eq_true rfl) (fun M1 _ => ?_)
  refine go_aload_n 0 9 dX11_feed_8 rfl rfl ?_
  refine go_getR flX11_22 h0 12 dX11_feed_9 rfl ?_
  refine go_lload_n 2 13 dX11_feed_12 rfl rfl ?_
  refine go_cVV1 1 clX10 cwX11_97 (m_X10_putBytes w (rF o0 2) (rk11_2 h0) x3 M1) (rk11_2 h0) 16 dX11_feed_13 rfl ⟨Nat.le_of_ble_eq_true rfl, Nat.le_of_ble_eq_true rfl⟩ ⟨Nat.zero_le _, Nat.zero_le _⟩ (Nat.le_of_ble_eq_true rfl) (fun M2 _ => ?_)
  refine go_aload_n 0 17 dX11_feed_16 rfl rfl ?_
  refine go_getR flX11_22 h0 20 dX11_feed_17 rfl ?_
  refine go_lload 3 22 dX11_feed_20 rfl rfl ?_
  refine go_cVV1 1 clX10 cwX11_97 (m_X10_putBytes w (rF o0 2) (rk11_2 h0) x5 M2) (rk11_2 h0) 25 dX11_feed_22 rfl ⟨Nat.le_of_ble_eq_true rfl, Nat.le_of_ble_eq_true rfl⟩ ⟨Nat.zero_le _, Nat.zero_le _⟩ (Nat.le_of_ble_eq_true rfl) (fun M3 _ => ?_)
  refine go_aload_n 0 26 dX11_feed_25 rfl rfl ?_
  refine go_getR flX11_22 h0 29 dX11_feed_26 rfl ?_
  refine go_getI flX11_101 (by decide) (rk11_2 h0) 32 dX11_feed_29 rfl ?_
  exact go_iret rfl dX11_feed_32
theorem m_X11_feed {l : Launch} {G : mG} {sk : List mS} (w : Nat) (o0 : Nat) (h0 : isK o0 21) (x1 : Int64) (x3 : Int64) (x5 : Int64) (M : mM) : Mt l G sk yX11_feed muX11_feed 2 [.ref (gB G + o0), .long x1, .long x3, .long x5] M eI (f_X11_feed w o0 x1 x3 x5 M) := Mt.of (by decide) rfl (Nat.le_of_ble_eq_true rfl) (s_X11_feed w o0 h0 x1 x3 x5 M)
theorem dX11_startAnew_0 : decode cX11_startAnew 0 = .ok (.aload_n 0, 1) := by decide +kernel
theorem dX11_startAnew_1 : decode cX11_startAnew 1 = .ok (.getfield 51, 3) := by decide +kernel
theorem dX11_startAnew_4 : decode cX11_startAnew 4 = .ok (.invokevirtual 115, 3) := by decide +kernel
theorem dX11_startAnew_7 : decode cX11_startAnew 7 = .ok (.aload_n 0, 1) := by decide +kernel
theorem dX11_startAnew_8 : decode cX11_startAnew 8 = .ok (.iconst 0, 1) := by decide +kernel
theorem dX11_startAnew_9 : decode cX11_startAnew 9 = .ok (.putfield 118, 3) := by decide +kernel
theorem dX11_startAnew_12 : decode cX11_startAnew 12 = .ok (.aload_n 0, 1) := by decide +kernel
theorem dX11_startAnew_13 : decode cX11_startAnew 13 = .ok (.getfield 61, 3) := by decide +kernel
theorem dX11_startAnew_16 : decode cX11_startAnew 16 = .ok (.iconst 0, 1) := by decide +kernel
theorem dX11_startAnew_17 : decode cX11_startAnew 17 = .ok (.putfield 121, 3) := by decide +kernel
theorem dX11_startAnew_20 : decode cX11_startAnew 20 = .ok (.aload_n 0, 1) := by decide +kernel
theorem dX11_startAnew_21 : decode cX11_startAnew 21 = .ok (.getfield 68, 3) := by decide +kernel
theorem dX11_startAnew_24 : decode cX11_startAnew 24 = .ok (.iconst 0, 1) := by decide +kernel
theorem dX11_startAnew_25 : decode cX11_startAnew 25 = .ok (.putfield 124, 3) := by decide +kernel
theorem dX11_startAnew_28 : decode cX11_startAnew 28 = .ok (.aload_n 0, 1) := by decide +kernel
theorem dX11_startAnew_29 : decode cX11_startAnew 29 = .ok (.getfield 68, 3) := by decide +kernel
theorem dX11_startAnew_32 : decode cX11_startAnew 32 = .ok (.iconst 0, 1) := by decide +kernel
theorem dX11_startAnew_33 : decode cX11_startAnew 33 = .ok (.putfield 127, 3) := by decide +kernel
theorem dX11_startAnew_36 : decode cX11_startAnew 36 = .ok (.iconst 0, 1) := by decide +kernel
theorem dX11_startAnew_37 : decode cX11_startAnew 37 = .ok (.istore_n 1, 1) := by decide +kernel
theorem dX11_startAnew_38 : decode cX11_startAnew 38 = .ok (.iload_n 1, 1) := by decide +kernel
theorem dX11_startAnew_39 : decode cX11_startAnew 39 = .ok (.iconst 4, 1) := by decide +kernel
theorem dX11_startAnew_40 : decode cX11_startAnew 40 = .ok (.if_icmp .ge 19, 3) := by decide +kernel
theorem dX11_startAnew_43 : decode cX11_startAnew 43 = .ok (.aload_n 0, 1) := by decide +kernel
theorem dX11_startAnew_44 : decode cX11_startAnew 44 = .ok (.getfield 74, 3) := by decide +kernel
theorem dX11_startAnew_47 : decode cX11_startAnew 47 = .ok (.iload_n 1, 1) := by decide +kernel
theorem dX11_startAnew_48 : decode cX11_startAnew 48 = .ok (.aaload, 1) := by decide +kernel
theorem dX11_startAnew_49 : decode cX11_startAnew 49 = .ok (.iconst 0, 1) := by decide +kernel
theorem dX11_startAnew_50 : decode cX11_startAnew 50 = .ok (.putfield 130, 3) := by decide +kernel
theorem dX11_startAnew_53 : decode cX11_startAnew 53 = .ok (.iinc 1 1, 3) := by decide +kernel
theorem dX11_startAnew_56 : decode cX11_startAnew 56 = .ok (.goto (-18), 3) := by decide +kernel
theorem dX11_startAnew_59 : decode cX11_startAnew 59 = .ok (.return_, 1) := by decide +kernel
def f_X11_startAnew_38 (w : Nat) : Nat → Nat → Int32 → mM → Option mM
  | 0, _, _, _ => none
  | n + 1, o0, x1, M => (if 4 ≤ x1 then some M else chk x1 (sL (rF o0 10)) (if (0 : Int32) = 0 ∨ (0 : Int32) = 1 then (lt (wI M (rA (rF o0 10) x1.toNatClampNeg) 2 0) fun M2 => (f_X11_startAnew_38 w n o0 (x1 + 1) M2)) else none))
set_option maxHeartbeats 4000000 in
set_option maxRecDepth 100000 in
theorem s_X11_startAnew_38 {l : Launch} {G : mG} {sk : List mS} (w : Nat) : ∀ (n : Nat) (o0 : Nat) (h0 : isK o0 21) (x1 : Int32) (M : mM), Go muX11_startAnew (rm 2) 0 0 l G sk (mFin G sk eV) (f_X11_startAnew_38 w n o0 x1 M) 38 [(0, .ref (gB G + o0)), (1, .int x1)] [] M := by
  intro n
  induction n with
  | zero =>
    intros
    exact go_none
  | succ n ih =>
    intro o0 h0 x1 M
    rw [f_X11_startAnew_38]
    refine go_iload_n 1 39 dX11_startAnew_38 rfl rfl ?_
    refine go_iconst 4 40 dX11_startAnew_39 rfl (by decide) ?_
    refine go_icmp_ge 59 43 dX11_startAnew_40 rfl (by decide) (fun _ => ?_) (fun _ => ?_)
    · exact go_vret rfl dX11_startAnew_59
    · refine go_aload_n 0 44 dX11_startAnew_43 rfl rfl ?_
      refine go_getR flX11_74 h0 47 dX11_startAnew_44 rfl ?_
      refine go_iload_n 1 48 dX11_startAnew_47 rfl rfl ?_
      refine go_aald (rk11_10 h0) (by decide) 49 dX11_startAnew_48 rfl (fun j1 => ?_)
      refine go_iconst 0 50 dX11_startAnew_49 rfl (by decide) ?_
      refine go_putZ flX11_130 rfl rfl (re5 (rk11_10 h0) j1) 53 dX11_startAnew_50 rfl ?_
      refine go_nmM (fun M2 => ?_)
      refine go_iinc (x1 + 1) 1 [(1, .int (x1 + 1)), (0, .ref (gB G + o0))] 56 dX11_startAnew_53 rfl rfl rfl (by decide) rfl ?_
      refine go_goto 38 dX11_startAnew_56 (by decide) ?_
      exact go_lv [1, 0] rfl (ih o0 h0 (x1 + 1) M2)
def f_X11_startAnew (w : Nat) (o0 : Nat) (M : mM) : Option mM := bV (f_X9_begin w (rF o0 6) M) fun M1 => lt (wI M1 o0 13 0) fun M2 => lt (wI M2 (rF o0 8) 2 0) fun M3 => lt (wI M3 (rF o0 9) 0 0) fun M4 => lt (wI M4 (rF o0 9) 1 0) fun M5 => (f_X11_startAnew_38 w w o0 0 M5)
set_option maxHeartbeats 4000000 in
set_option maxRecDepth 100000 in
theorem s_X11_startAnew {l : Launch} {G : mG} {sk : List mS} (w : Nat) (o0 : Nat) (h0 : isK o0 21) (M : mM) : Go muX11_startAnew (rm 2) 0 0 l G sk (mFin G sk eV) (f_X11_startAnew w o0 M) 0 [(0, .ref (gB G + o0))] [] M := by
  unfold f_X11_startAnew
  refine go_aload_n 0 1 dX11_startAnew_0 rfl rfl ?_
  refine go_getR flX11_51 h0 4 dX11_startAnew_1 rfl ?_
  refine go_cVV0 1 clX9 cwX11_115 (m_X9_begin w (rF o0 6) (rk11_6 h0) M) (rk11_6 h0) 7 dX11_startAnew_4 rfl ⟨Nat.le_of_ble_eq_true rfl, Nat.le_of_ble_eq_true rfl⟩ ⟨Nat.zero_le _, Nat.zero_le _⟩ (Nat.le_of_ble_eq_true rfl) (fun M1 _ => ?_)
  refine go_aload_n 0 8 dX11_startAnew_7 rfl rfl ?_
  refine go_iconst 0 9 dX11_startAnew_8 rfl (by decide) ?_
  refine go_putI flX11_118 rfl rfl h0 12 dX11_startAnew_9 rfl ?_
  refine go_nmM (fun M2 => ?_)
  refine go_aload_n 0 13 dX11_startAnew_12 rfl rfl ?_
  refine go_getR flX11_61 h0 16 dX11_startAnew_13 rfl ?_
  refine go_iconst 0 17 dX11_startAnew_16 rfl (by decide) ?_
  refine go_putI flX11_121 rfl rfl (rk11_8 h0) 20 dX11_startAnew_17 rfl ?_
  refine go_nmM (fun M3 => ?_)
  refine go_aload_n 0 21 dX11_startAnew_20 rfl rfl ?_
  refine go_getR flX11_68 h0 24 dX11_startAnew_21 rfl ?_
  refine go_iconst 0 25 dX11_startAnew_24 rfl (by decide) ?_
  refine go_putI flX11_124 rfl rfl (rk11_9 h0) 28 dX11_startAnew_25 rfl ?_
  refine go_nmM (fun M4 => ?_)
  refine go_aload_n 0 29 dX11_startAnew_28 rfl rfl ?_
  refine go_getR flX11_68 h0 32 dX11_startAnew_29 rfl ?_
  refine go_iconst 0 33 dX11_startAnew_32 rfl (by decide) ?_
  refine go_putI flX11_127 rfl rfl (rk11_9 h0) 36 dX11_startAnew_33 rfl ?_
  refine go_nmM (fun M5 => ?_)
  refine go_iconst 0 37 dX11_startAnew_36 rfl (by decide) ?_
  refine go_istore_n [(1, .int 0), (0, .ref (gB G + o0))] 38 dX11_startAnew_37 rfl rfl (by decide) rfl ?_
  exact go_lv [1, 0] rfl (s_X11_startAnew_38 w w o0 h0 0 M5)
theorem m_X11_startAnew {l : Launch} {G : mG} {sk : List mS} (w : Nat) (o0 : Nat) (h0 : isK o0 21) (M : mM) : Mt l G sk yX11_startAnew muX11_startAnew 2 [.ref (gB G + o0)] M eV (f_X11_startAnew w o0 M) := Mt.of (by decide) rfl (Nat.le_of_ble_eq_true rfl) (s_X11_startAnew w o0 h0 M)
theorem dX11_house_0 : decode cX11_house 0 = .ok (.aload_n 0, 1) := by decide +kernel
theorem dX11_house_1 : decode cX11_house 1 = .ok (.getfield 31, 3) := by decide +kernel
theorem dX11_house_4 : decode cX11_house 4 = .ok (.aload_n 0, 1) := by decide +kernel
theorem dX11_house_5 : decode cX11_house 5 = .ok (.getfield 16, 3) := by decide +kernel
theorem dX11_house_8 : decode cX11_house 8 = .ok (.invokevirtual 105, 3) := by decide +kernel
theorem dX11_house_11 : decode cX11_house 11 = .ok (.istore_n 1, 1) := by decide +kernel
theorem dX11_house_12 : decode cX11_house 12 = .ok (.aload_n 0, 1) := by decide +kernel
theorem dX11_house_13 : decode cX11_house 13 = .ok (.getfield 22, 3) := by decide +kernel
theorem dX11_house_16 : decode cX11_house 16 = .ok (.iconst 0, 1) := by decide +kernel
theorem dX11_house_17 : decode cX11_house 17 = .ok (.putfield 101, 3) := by decide +kernel
theorem dX11_house_20 : decode cX11_house 20 = .ok (.iload_n 1, 1) := by decide +kernel
theorem dX11_house_21 : decode cX11_house 21 = .ok (.ifCond .ne 18, 3) := by decide +kernel
theorem dX11_house_24 : decode cX11_house 24 = .ok (.aload_n 0, 1) := by decide +kernel
theorem dX11_house_25 : decode cX11_house 25 = .ok (.getfield 10, 3) := by decide +kernel
theorem dX11_house_28 : decode cX11_house 28 = .ok (.aload_n 0, 1) := by decide +kernel
theorem dX11_house_29 : decode cX11_house 29 = .ok (.getfield 16, 3) := by decide +kernel
theorem dX11_house_32 : decode cX11_house 32 = .ok (.invokevirtual 109, 3) := by decide +kernel
theorem dX11_house_35 : decode cX11_house 35 = .ok (.aload_n 0, 1) := by decide +kernel
theorem dX11_house_36 : decode cX11_house 36 = .ok (.invokevirtual 112, 3) := by decide +kernel
theorem dX11_house_39 : decode cX11_house 39 = .ok (.iload_n 1, 1) := by decide +kernel
theorem dX11_house_40 : decode cX11_house 40 = .ok (.ireturn, 1) := by decide +kernel
def f_X11_house (w : Nat) (o0 : Nat) (M : mM) : Option (Int32 × mM) := bI (f_X2_read w (rF o0 3) (rF o0 1) M) fun q2 M1 => lt (wI M1 (rF o0 2) 1 0) fun M3 => (if q2 = 0 then bV (f_X6_copyFrom w (rF o0 0) (rF o0 1) M3) fun M4 => bV (f_X11_startAnew w o0 M4) fun M5 => some (q2, M5) else some (q2, M3))
set_option maxHeartbeats 4000000 in
set_option maxRecDepth 100000 in
theorem s_X11_house {l : Launch} {G : mG} {sk : List mS} (w : Nat) (o0 : Nat) (h0 : isK o0 21) (M : mM) : Go muX11_house (rm 68) 0 0 l G sk (mFin G sk eI) (f_X11_house w o0 M) 0 [(0, .ref (gB G + o0))] [] M := by
  unfold f_X11_house
  refine go_aload_n 0 1 dX11_house_0 rfl rfl ?_
  refine go_getR flX11_31 h0 4 dX11_house_1 rfl ?_
  refine go_aload_n 0 5 dX11_house_4 rfl rfl ?_
  refine go_getR flX11_16 h0 8 dX11_house_5 rfl ?_
  refine go_cVI1 67 clX2 cwX11_105 (m_X2_read w (rF o0 3) (rk11_3 h0) (rF o0 1) (rk11_1 h0) M) (rk11_3 h0) 11 dX11_house_8 rfl ⟨Nat.le_of_ble_eq_true rfl, Nat.le_of_ble_eq_true rfl⟩ ⟨Nat.zero_le _, Nat.zero_le _⟩ (Nat.le_of_ble_eq_true rfl) (fun q2 M1 _ => ?_)
  refine go_istore_n [(1, .int q2), (0, .ref (gB G + o0))] 12 dX11_house_11 rfl rfl (by decide) rfl ?_
  refine go_aload_n 1 13 dX11_house_12 rfl rfl ?_
  refine go_getR flX11_22 h0 16 dX11_house_13 rfl ?_
  refine go_iconst 0 17 dX11_house_16 rfl (by decide) ?_
  refine go_putI flX11_101 rfl rfl (rk11_2 h0) 20 dX11_house_17 rfl ?_
  refine go_nmM (fun M3 => ?_)
  refine go_iload_n 0 21 dX11_house_20 rfl rfl ?_
  refine go_if_ne 39 24 dX11_house_21 rfl (by decide) (fun _ => ?_) (fun _ => ?_)
  · refine go_iload_n 0 40 dX11_house_39 rfl rfl ?_
    exact go_iret rfl dX11_house_40
  · refine go_aload_n 1 25 dX11_house_24 rfl rfl ?_
    refine go_getR flX11_10 h0 28 dX11_house_25 rfl ?_
    refine go_aload_n 1 29 dX11_house_28 rfl rfl ?_
    refine go_getR flX11_16 h0 32 dX11_house_29 rfl ?_
    refine go_cVV1 2 clX6 cwX11_109 (m_X6_copyFrom w (rF o0 0) (rk11_0 h0) (rF o0 1) (rk11_1 h0) M3) (rk11_0 h0) 35 dX11_house_32 rfl ⟨Nat.le_of_ble_eq_true rfl, Nat.le_of_ble_eq_true rfl⟩ ⟨Nat.zero_le _, Nat.zero_le _⟩ (Nat.le_of_ble_eq_true rfl) (fun M4 _ => ?_)
    refine go_aload_n 1 36 dX11_house_35 rfl rfl ?_
    refine go_cVV0 2 clX11 cwX11_112 (m_X11_startAnew w o0 h0 M4) h0 39 dX11_house_36 rfl ⟨Nat.le_of_ble_eq_true rfl, Nat.le_of_ble_eq_true rfl⟩ ⟨Nat.zero_le _, Nat.zero_le _⟩ (Nat.le_of_ble_eq_true rfl) (fun M5 _ => ?_)
    refine go_iload_n 0 40 dX11_house_39 rfl rfl ?_
    exact go_iret rfl dX11_house_40
theorem m_X11_house {l : Launch} {G : mG} {sk : List mS} (w : Nat) (o0 : Nat) (h0 : isK o0 21) (M : mM) : Mt l G sk yX11_house muX11_house 68 [.ref (gB G + o0)] M eI (f_X11_house w o0 M) := Mt.of (by decide) rfl (Nat.le_of_ble_eq_true rfl) (s_X11_house w o0 h0 M)
theorem dX11_days_0 : decode cX11_days 0 = .ok (.aload_n 0, 1) := by decide +kernel
theorem dX11_days_1 : decode cX11_days 1 = .ok (.getfield 38, 3) := by decide +kernel
theorem dX11_days_4 : decode cX11_days 4 = .ok (.aload_n 0, 1) := by decide +kernel
theorem dX11_days_5 : decode cX11_days 5 = .ok (.getfield 10, 3) := by decide +kernel
theorem dX11_days_8 : decode cX11_days 8 = .ok (.invokevirtual 134, 3) := by decide +kernel
theorem dX11_days_11 : decode cX11_days 11 = .ok (.istore_n 1, 1) := by decide +kernel
theorem dX11_days_12 : decode cX11_days 12 = .ok (.aload_n 0, 1) := by decide +kernel
theorem dX11_days_13 : decode cX11_days 13 = .ok (.getfield 22, 3) := by decide +kernel
theorem dX11_days_16 : decode cX11_days 16 = .ok (.iconst 0, 1) := by decide +kernel
theorem dX11_days_17 : decode cX11_days 17 = .ok (.putfield 101, 3) := by decide +kernel
theorem dX11_days_20 : decode cX11_days 20 = .ok (.iload_n 1, 1) := by decide +kernel
theorem dX11_days_21 : decode cX11_days 21 = .ok (.ifCond .ne 32, 3) := by decide +kernel
theorem dX11_days_24 : decode cX11_days 24 = .ok (.aload_n 0, 1) := by decide +kernel
theorem dX11_days_25 : decode cX11_days 25 = .ok (.aload_n 0, 1) := by decide +kernel
theorem dX11_days_26 : decode cX11_days 26 = .ok (.getfield 38, 3) := by decide +kernel
theorem dX11_days_29 : decode cX11_days 29 = .ok (.getfield 135, 3) := by decide +kernel
theorem dX11_days_32 : decode cX11_days 32 = .ok (.putfield 118, 3) := by decide +kernel
theorem dX11_days_35 : decode cX11_days 35 = .ok (.aload_n 0, 1) := by decide +kernel
theorem dX11_days_36 : decode cX11_days 36 = .ok (.getfield 38, 3) := by decide +kernel
theorem dX11_days_39 : decode cX11_days 39 = .ok (.getfield 138, 3) := by decide +kernel
theorem dX11_days_42 : decode cX11_days 42 = .ok (.iconst 0, 1) := by decide +kernel
theorem dX11_days_43 : decode cX11_days 43 = .ok (.aload_n 0, 1) := by decide +kernel
theorem dX11_days_44 : decode cX11_days 44 = .ok (.getfield 42, 3) := by decide +kernel
theorem dX11_days_47 : decode cX11_days 47 = .ok (.iconst 0, 1) := by decide +kernel
theorem dX11_days_48 : decode cX11_days 48 = .ok (.bipush 40, 2) := by decide +kernel
theorem dX11_days_50 : decode cX11_days 50 = .ok (.invokestatic 139, 3) := by decide +kernel
theorem dX11_days_53 : decode cX11_days 53 = .ok (.iload_n 1, 1) := by decide +kernel
theorem dX11_days_54 : decode cX11_days 54 = .ok (.ireturn, 1) := by decide +kernel
def f_X11_days (w : Nat) (o0 : Nat) (M : mM) : Option (Int32 × mM) := bI (f_X0_read w (rF o0 4) (rF o0 0) M) fun q2 M1 => lt (wI M1 (rF o0 2) 1 0) fun M3 => (if q2 = 0 then lt (wI M3 o0 13 (M3.1 (rF o0 4) 2)) fun M4 => cpk 0 0 40 (sL (rF (rF o0 4) 1)) (sL (rF o0 5)) (lt (cI M4 (rF (rF o0 4) 1) (0 : Int32).toNatClampNeg (rF o0 5) (0 : Int32).toNatClampNeg (40 : Int32).toNatClampNeg) fun M5 => some (q2, M5)) else some (q2, M3))
set_option maxHeartbeats 4000000 in
set_option maxRecDepth 100000 in
theorem s_X11_days {l : Launch} {G : mG} {sk : List mS} (w : Nat) (o0 : Nat) (h0 : isK o0 21) (M : mM) : Go muX11_days (rm 6) 0 0 l G sk (mFin G sk eI) (f_X11_days w o0 M) 0 [(0, .ref (gB G + o0))] [] M := by
  unfold f_X11_days
  refine go_aload_n 0 1 dX11_days_0 rfl rfl ?_
  refine go_getR flX11_38 h0 4 dX11_days_1 rfl ?_
  refine go_aload_n 0 5 dX11_days_4 rfl rfl ?_
  refine go_getR flX11_10 h0 8 dX11_days_5 rfl ?_
  refine go_cVI1 5 clX0 cwX11_134 (m_X0_read w (rF o0 4) (rk11_4 h0) (rF o0 0) (rk11_0 h0) M) (rk11_4 h0) 11 dX11_days_8 rfl ⟨Nat.le_of_ble_eq_true rfl, Nat.le_of_ble_eq_true rfl⟩ ⟨Nat.zero_le _, Nat.zero_le _⟩ (Nat.le_of_ble_eq_true rfl) (fun q2 M1 _ => ?_)
  refine go_istore_n [(1, .int q2), (0, .ref (gB G + o0))] 12 dX11_days_11 rfl rfl (by decide) rfl ?_
  refine go_aload_n 1 13 dX11_days_12 rfl rfl ?_
  refine go_getR flX11_22 h0 16 dX11_days_13 rfl ?_
  refine go_iconst 0 17 dX11_days_16 rfl (by decide) ?_
  refine go_putI flX11_101 rfl rfl (rk11_2 h0) 20 dX11_days_17 rfl ?_
  refine go_nmM (fun M3 => ?_)
  refine go_iload_n 0 21 dX11_days_20 rfl rfl ?_
  refine go_if_ne 53 24 dX11_days_21 rfl (by decide) (fun _ => ?_) (fun _ => ?_)
  · refine go_iload_n 0 54 dX11_days_53 rfl rfl ?_
    exact go_iret rfl dX11_days_54
  · refine go_aload_n 1 25 dX11_days_24 rfl rfl ?_
    refine go_aload_n 1 26 dX11_days_25 rfl rfl ?_
    refine go_getR flX11_38 h0 29 dX11_days_26 rfl ?_
    refine go_getI flX11_135 (by decide) (rk11_4 h0) 32 dX11_days_29 rfl ?_
    refine go_putI flX11_118 rfl rfl h0 35 dX11_days_32 rfl ?_
    refine go_nmM (fun M4 => ?_)
    refine go_aload_n 1 36 dX11_days_35 rfl rfl ?_
    refine go_getR flX11_38 h0 39 dX11_days_36 rfl ?_
    refine go_getR flX11_138 (rk11_4 h0) 42 dX11_days_39 rfl ?_
    refine go_iconst 0 43 dX11_days_42 rfl (by decide) ?_
    refine go_aload_n 1 44 dX11_days_43 rfl rfl ?_
    refine go_getR flX11_42 h0 47 dX11_days_44 rfl ?_
    refine go_iconst 0 48 dX11_days_47 rfl (by decide) ?_
    refine go_bipush 40 50 dX11_days_48 rfl (by decide) ?_
    refine go_copyi acX11_139 (rk0_1 (rk11_4 h0)) (rk11_5 h0) 53 dX11_days_50 rfl (Nat.le_of_ble_eq_true rfl) (Nat.le_of_ble_eq_true rfl) ?_
    refine go_nmM (fun M5 => ?_)
    refine go_iload_n 0 54 dX11_days_53 rfl rfl ?_
    exact go_iret rfl dX11_days_54
theorem m_X11_days {l : Launch} {G : mG} {sk : List mS} (w : Nat) (o0 : Nat) (h0 : isK o0 21) (M : mM) : Mt l G sk yX11_days muX11_days 6 [.ref (gB G + o0)] M eI (f_X11_days w o0 M) := Mt.of (by decide) rfl (Nat.le_of_ble_eq_true rfl) (s_X11_days w o0 h0 M)
theorem dX11_door_0 : decode cX11_door 0 = .ok (.aload_n 0, 1) := by decide +kernel
theorem dX11_door_1 : decode cX11_door 1 = .ok (.getfield 10, 3) := by decide +kernel
theorem dX11_door_4 : decode cX11_door 4 = .ok (.iload_n 1, 1) := by decide +kernel
theorem dX11_door_5 : decode cX11_door 5 = .ok (.invokevirtual 145, 3) := by decide +kernel
theorem dX11_door_8 : decode cX11_door 8 = .ok (.ifCond .ne 6, 3) := by decide +kernel
theorem dX11_door_11 : decode cX11_door 11 = .ok (.bipush (-2), 2) := by decide +kernel
theorem dX11_door_13 : decode cX11_door 13 = .ok (.ireturn, 1) := by decide +kernel
theorem dX11_door_14 : decode cX11_door 14 = .ok (.iload_n 2, 1) := by decide +kernel
theorem dX11_door_15 : decode cX11_door 15 = .ok (.tableswitch 125 0 6 #[41, 51, 61, 71, 81, 91, 108], 41) := by decide +kernel
theorem dX11_door_56 : decode cX11_door 56 = .ok (.aload_n 0, 1) := by decide +kernel
theorem dX11_door_57 : decode cX11_door 57 = .ok (.getfield 10, 3) := by decide +kernel
theorem dX11_door_60 : decode cX11_door 60 = .ok (.getfield 149, 3) := by decide +kernel
theorem dX11_door_63 : decode cX11_door 63 = .ok (.iload_n 1, 1) := by decide +kernel
theorem dX11_door_64 : decode cX11_door 64 = .ok (.iaload, 1) := by decide +kernel
theorem dX11_door_65 : decode cX11_door 65 = .ok (.ireturn, 1) := by decide +kernel
theorem dX11_door_66 : decode cX11_door 66 = .ok (.aload_n 0, 1) := by decide +kernel
theorem dX11_door_67 : decode cX11_door 67 = .ok (.getfield 10, 3) := by decide +kernel
theorem dX11_door_70 : decode cX11_door 70 = .ok (.getfield 152, 3) := by decide +kernel
theorem dX11_door_73 : decode cX11_door 73 = .ok (.iload_n 1, 1) := by decide +kernel
theorem dX11_door_74 : decode cX11_door 74 = .ok (.iaload, 1) := by decide +kernel
theorem dX11_door_75 : decode cX11_door 75 = .ok (.ireturn, 1) := by decide +kernel
theorem dX11_door_76 : decode cX11_door 76 = .ok (.aload_n 0, 1) := by decide +kernel
theorem dX11_door_77 : decode cX11_door 77 = .ok (.getfield 10, 3) := by decide +kernel
theorem dX11_door_80 : decode cX11_door 80 = .ok (.getfield 155, 3) := by decide +kernel
theorem dX11_door_83 : decode cX11_door 83 = .ok (.iload_n 1, 1) := by decide +kernel
theorem dX11_door_84 : decode cX11_door 84 = .ok (.iaload, 1) := by decide +kernel
theorem dX11_door_85 : decode cX11_door 85 = .ok (.ireturn, 1) := by decide +kernel
theorem dX11_door_86 : decode cX11_door 86 = .ok (.aload_n 0, 1) := by decide +kernel
theorem dX11_door_87 : decode cX11_door 87 = .ok (.getfield 51, 3) := by decide +kernel
theorem dX11_door_90 : decode cX11_door 90 = .ok (.getfield 158, 3) := by decide +kernel
theorem dX11_door_93 : decode cX11_door 93 = .ok (.iload_n 1, 1) := by decide +kernel
theorem dX11_door_94 : decode cX11_door 94 = .ok (.iaload, 1) := by decide +kernel
theorem dX11_door_95 : decode cX11_door 95 = .ok (.ireturn, 1) := by decide +kernel
theorem dX11_door_96 : decode cX11_door 96 = .ok (.aload_n 0, 1) := by decide +kernel
theorem dX11_door_97 : decode cX11_door 97 = .ok (.getfield 51, 3) := by decide +kernel
theorem dX11_door_100 : decode cX11_door 100 = .ok (.getfield 161, 3) := by decide +kernel
theorem dX11_door_103 : decode cX11_door 103 = .ok (.iload_n 1, 1) := by decide +kernel
theorem dX11_door_104 : decode cX11_door 104 = .ok (.iaload, 1) := by decide +kernel
theorem dX11_door_105 : decode cX11_door 105 = .ok (.ireturn, 1) := by decide +kernel
theorem dX11_door_106 : decode cX11_door 106 = .ok (.aload_n 0, 1) := by decide +kernel
theorem dX11_door_107 : decode cX11_door 107 = .ok (.getfield 51, 3) := by decide +kernel
theorem dX11_door_110 : decode cX11_door 110 = .ok (.iload_n 1, 1) := by decide +kernel
theorem dX11_door_111 : decode cX11_door 111 = .ok (.invokevirtual 164, 3) := by decide +kernel
theorem dX11_door_114 : decode cX11_door 114 = .ok (.ifCond .eq 7, 3) := by decide +kernel
theorem dX11_door_117 : decode cX11_door 117 = .ok (.iconst 1, 1) := by decide +kernel
theorem dX11_door_118 : decode cX11_door 118 = .ok (.goto 4, 3) := by decide +kernel
theorem dX11_door_121 : decode cX11_door 121 = .ok (.iconst 0, 1) := by decide +kernel
theorem dX11_door_122 : decode cX11_door 122 = .ok (.ireturn, 1) := by decide +kernel
theorem dX11_door_123 : decode cX11_door 123 = .ok (.aload_n 0, 1) := by decide +kernel
theorem dX11_door_124 : decode cX11_door 124 = .ok (.getfield 51, 3) := by decide +kernel
theorem dX11_door_127 : decode cX11_door 127 = .ok (.iload_n 1, 1) := by decide +kernel
theorem dX11_door_128 : decode cX11_door 128 = .ok (.invokevirtual 167, 3) := by decide +kernel
theorem dX11_door_131 : decode cX11_door 131 = .ok (.ifCond .eq 7, 3) := by decide +kernel
theorem dX11_door_134 : decode cX11_door 134 = .ok (.iconst 1, 1) := by decide +kernel
theorem dX11_door_135 : decode cX11_door 135 = .ok (.goto 4, 3) := by decide +kernel
theorem dX11_door_138 : decode cX11_door 138 = .ok (.iconst 0, 1) := by decide +kernel
theorem dX11_door_139 : decode cX11_door 139 = .ok (.ireturn, 1) := by decide +kernel
theorem dX11_door_140 : decode cX11_door 140 = .ok (.bipush (-2), 2) := by decide +kernel
theorem dX11_door_142 : decode cX11_door 142 = .ok (.ireturn, 1) := by decide +kernel
def f_X11_door (w : Nat) (o0 : Nat) (x1 : Int32) (x2 : Int32) (M : mM) : Option (Int32 × mM) := bI (f_X6_hasDoor w (rF o0 0) x1 M) fun q2 M1 => (if q2 = 0 then some ((-2), M1) else (if x2.toInt < 0 ∨ 6 < x2.toInt then some ((-2), M1) else (fun z : Int => if z = 0 then chk x1 (sL (rF (rF o0 0) 7)) (some ((M1.1 (rF (rF o0 0) 7) x1.toNatClampNeg), M1)) else if z = 1 then chk x1 (sL (rF (rF o0 0) 8)) (some ((M1.1 (rF (rF o0 0) 8) x1.toNatClampNeg), M1)) else if z = 2 then chk x1 (sL (rF (rF o0 0) 9)) (some ((M1.1 (rF (rF o0 0) 9) x1.toNatClampNeg), M1)) else if z = 3 then chk x1 (sL (rF (rF o0 6) 3)) (some ((M1.1 (rF (rF o0 6) 3) x1.toNatClampNeg), M1)) else if z = 4 then chk x1 (sL (rF (rF o0 6) 4)) (some ((M1.1 (rF (rF o0 6) 4) x1.toNatClampNeg), M1)) else if z = 5 then bI (f_X9_hasWedge w (rF o0 6) x1 M1) fun q4 M3 => (if q4 = 0 then some (0, M3) else some (1, M3)) else bI (f_X9_isStuck w (rF o0 6) x1 M1) fun q6 M5 => (if q6 = 0 then some (0, M5) else some (1, M5))) x2.toInt))
set_option maxHeartbeats 4000000 in
set_option maxRecDepth 100000 in
theorem s_X11_door {l : Launch} {G : mG} {sk : List mS} (w : Nat) (o0 : Nat) (h0 : isK o0 21) (x1 : Int32) (x2 : Int32) (M : mM) : Go muX11_door (rm 2) 0 0 l G sk (mFin G sk eI) (f_X11_door w o0 x1 x2 M) 0 [(0, .ref (gB G + o0)), (1, .int x1), (2, .int x2)] [] M := by
  unfold f_X11_door
  refine go_aload_n 0 1 dX11_door_0 rfl rfl ?_
  refine go_getR flX11_10 h0 4 dX11_door_1 rfl ?_
  refine go_iload_n 1 5 dX11_door_4 rfl rfl ?_
  refine go_cVI1 0 clX6 cwX11_145 (m_X6_hasDoor w (rF o0 0) (rk11_0 h0) x1 M) (rk11_0 h0) 8 dX11_door_5 rfl ⟨Nat.le_of_ble_eq_true rfl, Nat.le_of_ble_eq_true rfl⟩ ⟨Nat.zero_le _, Nat.zero_le _⟩ (Nat.le_of_ble_eq_true rfl) (fun q2 M1 _ => ?_)
  refine go_if_ne 14 11 dX11_door_8 rfl (by decide) (fun _ => ?_) (fun _ => ?_)
  · refine go_iload_n 2 15 dX11_door_14 rfl rfl ?_
    refine go_tsw (dflt := 125) (lo := 0) (hi := 6) (offs := #[41, 51, 61, 71, 81, 91, 108]) (len := 41) ?_ (fun z : Int => if z = 0 then chk x1 (sL (rF (rF o0 0) 7)) (some ((M1.1 (rF (rF o0 0) 7) x1.toNatClampNeg), M1)) else if z = 1 then chk x1 (sL (rF (rF o0 0) 8)) (some ((M1.1 (rF (rF o0 0) 8) x1.toNatClampNeg), M1)) else if z = 2 then chk x1 (sL (rF (rF o0 0) 9)) (some ((M1.1 (rF (rF o0 0) 9) x1.toNatClampNeg), M1)) else if z = 3 then chk x1 (sL (rF (rF o0 6) 3)) (some ((M1.1 (rF (rF o0 6) 3) x1.toNatClampNeg), M1)) else if z = 4 then chk x1 (sL (rF (rF o0 6) 4)) (some ((M1.1 (rF (rF o0 6) 4) x1.toNatClampNeg), M1)) else if z = 5 then bI (f_X9_hasWedge w (rF o0 6) x1 M1) fun q4 M3 => (if q4 = 0 then some (0, M3) else some (1, M3)) else bI (f_X9_isStuck w (rF o0 6) x1 M1) fun q6 M5 => (if q6 = 0 then some (0, M5) else some (1, M5))) (some ((-2), M1)) 140 (by decide) (fun _ => ?_) (fun g1 g2 => ?_)
    · exact dX11_door_15
    · refine go_bipush (-2) 142 dX11_door_140 rfl (by decide) ?_
      exact go_iret rfl dX11_door_142
    · rcases (show x2.toInt = 0 ∨ x2.toInt = 1 ∨ x2.toInt = 2 ∨ x2.toInt = 3 ∨ x2.toInt = 4 ∨ x2.toInt = 5 ∨ x2.toInt = 6 by omega) with g | g | g | g | g | g | g
      · refine ⟨41, 56, by rw [g]; rfl, by decide, ?_⟩
        rw [g]
        simp only [if_pos, reduceIte, Int.reduceEq, Int.reduceNeg]
        refine go_aload_n 0 57 dX11_door_56 rfl rfl ?_
        refine go_getR flX11_10 h0 60 dX11_door_57 rfl ?_
        refine go_getR flX11_149 (rk11_0 h0) 63 dX11_door_60 rfl ?_
        refine go_iload_n 1 64 dX11_door_63 rfl rfl ?_
        refine go_iald (rk6_7 (rk11_0 h0)) 65 dX11_door_64 rfl ?_
        exact go_iret rfl dX11_door_65
      · refine ⟨51, 66, by rw [g]; rfl, by decide, ?_⟩
        rw [g]
        simp only [if_pos, reduceIte, Int.reduceEq, Int.reduceNeg]
        refine go_aload_n 0 67 dX11_door_66 rfl rfl ?_
        refine go_getR flX11_10 h0 70 dX11_door_67 rfl ?_
        refine go_getR flX11_152 (rk11_0 h0) 73 dX11_door_70 rfl ?_
        refine go_iload_n 1 74 dX11_door_73 rfl rfl ?_
        refine go_iald (rk6_8 (rk11_0 h0)) 75 dX11_door_74 rfl ?_
        exact go_iret rfl dX11_door_75
      · refine ⟨61, 76, by rw [g]; rfl, by decide, ?_⟩
        rw [g]
        simp only [if_pos, reduceIte, Int.reduceEq, Int.reduceNeg]
        refine go_aload_n 0 77 dX11_door_76 rfl rfl ?_
        refine go_getR flX11_10 h0 80 dX11_door_77 rfl ?_
        refine go_getR flX11_155 (rk11_0 h0) 83 dX11_door_80 rfl ?_
        refine go_iload_n 1 84 dX11_door_83 rfl rfl ?_
        refine go_iald (rk6_9 (rk11_0 h0)) 85 dX11_door_84 rfl ?_
        exact go_iret rfl dX11_door_85
      · refine ⟨71, 86, by rw [g]; rfl, by decide, ?_⟩
        rw [g]
        simp only [if_pos, reduceIte, Int.reduceEq, Int.reduceNeg]
        refine go_aload_n 0 87 dX11_door_86 rfl rfl ?_
        refine go_getR flX11_51 h0 90 dX11_door_87 rfl ?_
        refine go_getR flX11_158 (rk11_6 h0) 93 dX11_door_90 rfl ?_
        refine go_iload_n 1 94 dX11_door_93 rfl rfl ?_
        refine go_iald (rk9_3 (rk11_6 h0)) 95 dX11_door_94 rfl ?_
        exact go_iret rfl dX11_door_95
      · refine ⟨81, 96, by rw [g]; rfl, by decide, ?_⟩
        rw [g]
        simp only [if_pos, reduceIte, Int.reduceEq, Int.reduceNeg]
        refine go_aload_n 0 97 dX11_door_96 rfl rfl ?_
        refine go_getR flX11_51 h0 100 dX11_door_97 rfl ?_
        refine go_getR flX11_161 (rk11_6 h0) 103 dX11_door_100 rfl ?_
        refine go_iload_n 1 104 dX11_door_103 rfl rfl ?_
        refine go_iald (rk9_4 (rk11_6 h0)) 105 dX11_door_104 rfl ?_
        exact go_iret rfl dX11_door_105
      · refine ⟨91, 106, by rw [g]; rfl, by decide, ?_⟩
        rw [g]
        simp only [if_pos, reduceIte, Int.reduceEq, Int.reduceNeg]
        refine go_aload_n 0 107 dX11_door_106 rfl rfl ?_
        refine go_getR flX11_51 h0 110 dX11_door_107 rfl ?_
        refine go_iload_n 1 111 dX11_door_110 rfl rfl ?_
        refine go_cVI1 0 clX9 cwX11_164 (m_X9_hasWedge w (rF o0 6) (rk11_6 h0) x1 M1) (rk11_6 h0) 114 dX11_door_111 rfl ⟨Nat.le_of_ble_eq_true rfl, Nat.le_of_ble_eq_true rfl⟩ ⟨Nat.zero_le _, Nat.zero_le _⟩ (Nat.le_of_ble_eq_true rfl) (fun q4 M3 _ => ?_)
        refine go_if_eq 121 117 dX11_door_114 rfl (by decide) (fun _ => ?_) (fun _ => ?_)
        · refine go_iconst 0 122 dX11_door_121 rfl (by decide) ?_
          exact go_iret rfl dX11_door_122
        · refine go_iconst 1 118 dX11_door_117 rfl (by decide) ?_
          refine go_goto 122 dX11_door_118 (by decide) ?_
          exact go_iret rfl dX11_door_122
      · refine ⟨108, 123, by rw [g]; rfl, by decide, ?_⟩
        rw [g]
        simp only [if_pos, reduceIte, Int.reduceEq, Int.reduceNeg]
        refine go_aload_n 0 124 dX11_door_123 rfl rfl ?_
        refine go_getR flX11_51 h0 127 dX11_door_124 rfl ?_
        refine go_iload_n 1 128 dX11_door_127 rfl rfl ?_
        refine go_cVI1 1 clX9 cwX11_167 (m_X9_isStuck w (rF o0 6) (rk11_6 h0) x1 M1) (rk11_6 h0) 131 dX11_door_128 rfl ⟨Nat.le_of_ble_eq_true rfl, Nat.le_of_ble_eq_true rfl⟩ ⟨Nat.zero_le _, Nat.zero_le _⟩ (Nat.le_of_ble_eq_true rfl) (fun q6 M5 _ => ?_)
        refine go_if_eq 138 134 dX11_door_131 rfl (by decide) (fun _ => ?_) (fun _ => ?_)
        · refine go_iconst 0 139 dX11_door_138 rfl (by decide) ?_
          exact go_iret rfl dX11_door_139
        · refine go_iconst 1 135 dX11_door_134 rfl (by decide) ?_
          refine go_goto 139 dX11_door_135 (by decide) ?_
          exact go_iret rfl dX11_door_139
  · refine go_bipush (-2) 13 dX11_door_11 rfl (by decide) ?_
    exact go_iret rfl dX11_door_13
theorem m_X11_door {l : Launch} {G : mG} {sk : List mS} (w : Nat) (o0 : Nat) (h0 : isK o0 21) (x1 : Int32) (x2 : Int32) (M : mM) : Mt l G sk yX11_door muX11_door 2 [.ref (gB G + o0), .int x1, .int x2] M eI (f_X11_door w o0 x1 x2 M) := Mt.of (by decide) rfl (Nat.le_of_ble_eq_true rfl) (s_X11_door w o0 h0 x1 x2 M)
theorem dX11_person_0 : decode cX11_person 0 = .ok (.aload_n 0, 1) := by decide +kernel
theorem dX11_person_1 : decode cX11_person 1 = .ok (.getfield 10, 3) := by decide +kernel
theorem dX11_person_4 : decode cX11_person 4 = .ok (.iload_n 1, 1) := by decide +kernel
theorem dX11_person_5 : decode cX11_person 5 = .ok (.invokevirtual 170, 3) := by decide +kernel
theorem dX11_person_8 : decode cX11_person 8 = .ok (.ifCond .eq 15, 3) := by decide +kernel
theorem dX11_person_11 : decode cX11_person 11 = .ok (.aload_n 0, 1) := by decide +kernel
theorem dX11_person_12 : decode cX11_person 12 = .ok (.getfield 51, 3) := by decide +kernel
theorem dX11_person_15 : decode cX11_person 15 = .ok (.getfield 173, 3) := by decide +kernel
theorem dX11_person_18 : decode cX11_person 18 = .ok (.iload_n 1, 1) := by decide +kernel
theorem dX11_person_19 : decode cX11_person 19 = .ok (.iaload, 1) := by decide +kernel
theorem dX11_person_20 : decode cX11_person 20 = .ok (.goto 4, 3) := by decide +kernel
theorem dX11_person_23 : decode cX11_person 23 = .ok (.iconst (-1), 1) := by decide +kernel
theorem dX11_person_24 : decode cX11_person 24 = .ok (.ireturn, 1) := by decide +kernel
def f_X11_person (w : Nat) (o0 : Nat) (x1 : Int32) (M : mM) : Option (Int32 × mM) := bI (f_X6_hasPerson w (rF o0 0) x1 M) fun q2 M1 => (if q2 = 0 then some ((-1), M1) else chk x1 (sL (rF (rF o0 6) 5)) (some ((M1.1 (rF (rF o0 6) 5) x1.toNatClampNeg), M1)))
set_option maxHeartbeats 4000000 in
set_option maxRecDepth 100000 in
theorem s_X11_person {l : Launch} {G : mG} {sk : List mS} (w : Nat) (o0 : Nat) (h0 : isK o0 21) (x1 : Int32) (M : mM) : Go muX11_person (rm 1) 0 0 l G sk (mFin G sk eI) (f_X11_person w o0 x1 M) 0 [(0, .ref (gB G + o0)), (1, .int x1)] [] M := by
  unfold f_X11_person
  refine go_aload_n 0 1 dX11_person_0 rfl rfl ?_
  refine go_getR flX11_10 h0 4 dX11_person_1 rfl ?_
  refine go_iload_n 1 5 dX11_person_4 rfl rfl ?_
  refine go_cVI1 0 clX6 cwX11_170 (m_X6_hasPerson w (rF o0 0) (rk11_0 h0) x1 M) (rk11_0 h0) 8 dX11_person_5 rfl ⟨Nat.le_of_ble_eq_true rfl, Nat.le_of_ble_eq_true rfl⟩ ⟨Nat.zero_le _, Nat.zero_le _⟩ (Nat.le_of_ble_eq_true rfl) (fun q2 M1 _ => ?_)
  refine go_if_eq 23 11 dX11_person_8 rfl (by decide) (fun _ => ?_) (fun _ => ?_)
  · refine go_iconst (-1) 24 dX11_person_23 rfl (by decide) ?_
    exact go_iret rfl dX11_person_24
  · refine go_aload_n 0 12 dX11_person_11 rfl rfl ?_
    refine go_getR flX11_51 h0 15 dX11_person_12 rfl ?_
    refine go_getR flX11_173 (rk11_6 h0) 18 dX11_person_15 rfl ?_
    refine go_iload_n 1 19 dX11_person_18 rfl rfl ?_
    refine go_iald (rk9_5 (rk11_6 h0)) 20 dX11_person_19 rfl ?_
    refine go_goto 24 dX11_person_20 (by decide) ?_
    exact go_iret rfl dX11_person_24
theorem m_X11_person {l : Launch} {G : mG} {sk : List mS} (w : Nat) (o0 : Nat) (h0 : isK o0 21) (x1 : Int32) (M : mM) : Mt l G sk yX11_person muX11_person 1 [.ref (gB G + o0), .int x1] M eI (f_X11_person w o0 x1 M) := Mt.of (by decide) rfl (Nat.le_of_ble_eq_true rfl) (s_X11_person w o0 h0 x1 M)
theorem dX11_count_0 : decode cX11_count 0 = .ok (.iload_n 1, 1) := by decide +kernel
theorem dX11_count_1 : decode cX11_count 1 = .ok (.tableswitch 175 0 12 #[67, 75, 83, 91, 99, 114, 122, 130, 138, 143, 151, 159, 167], 67) := by decide +kernel
theorem dX11_count_68 : decode cX11_count 68 = .ok (.aload_n 0, 1) := by decide +kernel
theorem dX11_count_69 : decode cX11_count 69 = .ok (.getfield 10, 3) := by decide +kernel
theorem dX11_count_72 : decode cX11_count 72 = .ok (.getfield 176, 3) := by decide +kernel
theorem dX11_count_75 : decode cX11_count 75 = .ok (.ireturn, 1) := by decide +kernel
theorem dX11_count_76 : decode cX11_count 76 = .ok (.aload_n 0, 1) := by decide +kernel
theorem dX11_count_77 : decode cX11_count 77 = .ok (.getfield 10, 3) := by decide +kernel
theorem dX11_count_80 : decode cX11_count 80 = .ok (.getfield 179, 3) := by decide +kernel
theorem dX11_count_83 : decode cX11_count 83 = .ok (.ireturn, 1) := by decide +kernel
theorem dX11_count_84 : decode cX11_count 84 = .ok (.aload_n 0, 1) := by decide +kernel
theorem dX11_count_85 : decode cX11_count 85 = .ok (.getfield 10, 3) := by decide +kernel
theorem dX11_count_88 : decode cX11_count 88 = .ok (.getfield 182, 3) := by decide +kernel
theorem dX11_count_91 : decode cX11_count 91 = .ok (.ireturn, 1) := by decide +kernel
theorem dX11_count_92 : decode cX11_count 92 = .ok (.aload_n 0, 1) := by decide +kernel
theorem dX11_count_93 : decode cX11_count 93 = .ok (.getfield 51, 3) := by decide +kernel
theorem dX11_count_96 : decode cX11_count 96 = .ok (.getfield 185, 3) := by decide +kernel
theorem dX11_count_99 : decode cX11_count 99 = .ok (.ireturn, 1) := by decide +kernel
theorem dX11_count_100 : decode cX11_count 100 = .ok (.aload_n 0, 1) := by decide +kernel
theorem dX11_count_101 : decode cX11_count 101 = .ok (.getfield 10, 3) := by decide +kernel
theorem dX11_count_104 : decode cX11_count 104 = .ok (.aload_n 0, 1) := by decide +kernel
theorem dX11_count_105 : decode cX11_count 105 = .ok (.getfield 51, 3) := by decide +kernel
theorem dX11_count_108 : decode cX11_count 108 = .ok (.getfield 185, 3) := by decide +kernel
theorem dX11_count_111 : decode cX11_count 111 = .ok (.invokevirtual 188, 3) := by decide +kernel
theorem dX11_count_114 : decode cX11_count 114 = .ok (.ireturn, 1) := by decide +kernel
theorem dX11_count_115 : decode cX11_count 115 = .ok (.aload_n 0, 1) := by decide +kernel
theorem dX11_count_116 : decode cX11_count 116 = .ok (.getfield 51, 3) := by decide +kernel
theorem dX11_count_119 : decode cX11_count 119 = .ok (.invokevirtual 192, 3) := by decide +kernel
theorem dX11_count_122 : decode cX11_count 122 = .ok (.ireturn, 1) := by decide +kernel
theorem dX11_count_123 : decode cX11_count 123 = .ok (.aload_n 0, 1) := by decide +kernel
theorem dX11_count_124 : decode cX11_count 124 = .ok (.getfield 51, 3) := by decide +kernel
theorem dX11_count_127 : decode cX11_count 127 = .ok (.getfield 196, 3) := by decide +kernel
theorem dX11_count_130 : decode cX11_count 130 = .ok (.ireturn, 1) := by decide +kernel
theorem dX11_count_131 : decode cX11_count 131 = .ok (.aload_n 0, 1) := by decide +kernel
theorem dX11_count_132 : decode cX11_count 132 = .ok (.getfield 51, 3) := by decide +kernel
theorem dX11_count_135 : decode cX11_count 135 = .ok (.invokevirtual 199, 3) := by decide +kernel
theorem dX11_count_138 : decode cX11_count 138 = .ok (.ireturn, 1) := by decide +kernel
theorem dX11_count_139 : decode cX11_count 139 = .ok (.aload_n 0, 1) := by decide +kernel
theorem dX11_count_140 : decode cX11_count 140 = .ok (.getfield 118, 3) := by decide +kernel
theorem dX11_count_143 : decode cX11_count 143 = .ok (.ireturn, 1) := by decide +kernel
theorem dX11_count_144 : decode cX11_count 144 = .ok (.aload_n 0, 1) := by decide +kernel
theorem dX11_count_145 : decode cX11_count 145 = .ok (.getfield 68, 3) := by decide +kernel
theorem dX11_count_148 : decode cX11_count 148 = .ok (.getfield 124, 3) := by decide +kernel
theorem dX11_count_151 : decode cX11_count 151 = .ok (.ireturn, 1) := by decide +kernel
theorem dX11_count_152 : decode cX11_count 152 = .ok (.aload_n 0, 1) := by decide +kernel
theorem dX11_count_153 : decode cX11_count 153 = .ok (.getfield 68, 3) := by decide +kernel
theorem dX11_count_156 : decode cX11_count 156 = .ok (.getfield 127, 3) := by decide +kernel
theorem dX11_count_159 : decode cX11_count 159 = .ok (.ireturn, 1) := by decide +kernel
theorem dX11_count_160 : decode cX11_count 160 = .ok (.aload_n 0, 1) := by decide +kernel
theorem dX11_count_161 : decode cX11_count 161 = .ok (.getfield 61, 3) := by decide +kernel
theorem dX11_count_164 : decode cX11_count 164 = .ok (.getfield 121, 3) := by decide +kernel
theorem dX11_count_167 : decode cX11_count 167 = .ok (.ireturn, 1) := by decide +kernel
theorem dX11_count_168 : decode cX11_count 168 = .ok (.aload_n 0, 1) := by decide +kernel
theorem dX11_count_169 : decode cX11_count 169 = .ok (.getfield 22, 3) := by decide +kernel
theorem dX11_count_172 : decode cX11_count 172 = .ok (.getfield 101, 3) := by decide +kernel
theorem dX11_count_175 : decode cX11_count 175 = .ok (.ireturn, 1) := by decide +kernel
theorem dX11_count_176 : decode cX11_count 176 = .ok (.iconst (-1), 1) := by decide +kernel
theorem dX11_count_177 : decode cX11_count 177 = .ok (.ireturn, 1) := by decide +kernel
def f_X11_count (w : Nat) (o0 : Nat) (x1 : Int32) (M : mM) : Option (Int32 × mM) := (if x1.toInt < 0 ∨ 12 < x1.toInt then some ((-1), M) else (fun z : Int => if z = 0 then some ((M.1 (rF o0 0) 0), M) else if z = 1 then some ((M.1 (rF o0 0) 1), M) else if z = 2 then some ((M.1 (rF o0 0) 2), M) else if z = 3 then some ((M.1 (rF o0 6) 1), M) else if z = 4 then bI (f_X6_dampOn w (rF o0 0) (M.1 (rF o0 6) 1) M) fun q2 M1 => some (q2, M1) else if z = 5 then bI (f_X9_stuckDoors w (rF o0 6) M) fun q4 M3 => some (q4, M3) else if z = 6 then some ((M.1 (rF o0 6) 2), M) else if z = 7 then bI (f_X9_swollenTogether w (rF o0 6) M) fun q6 M5 => some (q6, M5) else if z = 8 then some ((M.1 o0 13), M) else if z = 9 then some ((M.1 (rF o0 9) 0), M) else if z = 10 then some ((M.1 (rF o0 9) 1), M) else if z = 11 then some ((M.1 (rF o0 8) 2), M) else some ((M.1 (rF o0 2) 1), M)) x1.toInt)
set_option maxHeartbeats 4000000 in
set_option maxRecDepth 100000 in
theorem s_X11_count {l : Launch} {G : mG} {sk : List mS} (w : Nat) (o0 : Nat) (h0 : isK o0 21) (x1 : Int32) (M : mM) : Go muX11_count (rm 3) 0 0 l G sk (mFin G sk eI) (f_X11_count w o0 x1 M) 0 [(0, .ref (gB G + o0)), (1, .int x1)] [] M := by
  unfold f_X11_count
  refine go_iload_n 1 1 dX11_count_0 rfl rfl ?_
  refine go_tsw (dflt := 175) (lo := 0) (hi := 12) (offs := #[67, 75, 83, 91, 99, 114, 122, 130, 138, 143, 151, 159, 167]) (len := 67) ?_ (fun z : Int => if z = 0 then some ((M.1 (rF o0 0) 0), M) else if z = 1 then some ((M.1 (rF o0 0) 1), M) else if z = 2 then some ((M.1 (rF o0 0) 2), M) else if z = 3 then some ((M.1 (rF o0 6) 1), M) else if z = 4 then bI (f_X6_dampOn w (rF o0 0) (M.1 (rF o0 6) 1) M) fun q2 M1 => some (q2, M1) else if z = 5 then bI (f_X9_stuckDoors w (rF o0 6) M) fun q4 M3 => some (q4, M3) else if z = 6 then some ((M.1 (rF o0 6) 2), M) else if z = 7 then bI (f_X9_swollenTogether w (rF o0 6) M) fun q6 M5 => some (q6, M5) else if z = 8 then some ((M.1 o0 13), M) else if z = 9 then some ((M.1 (rF o0 9) 0), M) else if z = 10 then some ((M.1 (rF o0 9) 1), M) else if z = 11 then some ((M.1 (rF o0 8) 2), M) else some ((M.1 (rF o0 2) 1), M)) (some ((-1), M)) 176 (by decide) (fun _ => ?_) (fun g1 g2 => ?_)
  · exact dX11_count_1
  · refine go_iconst (-1) 177 dX11_count_176 rfl (by decide) ?_
    exact go_iret rfl dX11_count_177
  · rcases (show x1.toInt = 0 ∨ x1.toInt = 1 ∨ x1.toInt = 2 ∨ x1.toInt = 3 ∨ x1.toInt = 4 ∨ x1.toInt = 5 ∨ x1.toInt = 6 ∨ x1.toInt = 7 ∨ x1.toInt = 8 ∨ x1.toInt = 9 ∨ x1.toInt = 10 ∨ x1.toInt = 11 ∨ x1.toInt = 12 by omega) with g | g | g | g | g | g | g | g | g | g | g | g | g
    · refine ⟨67, 68, by rw [g]; rfl, by decide, ?_⟩
      rw [g]
      simp only [if_pos, reduceIte, Int.reduceEq, Int.reduceNeg]
      refine go_aload_n 0 69 dX11_count_68 rfl rfl ?_
      refine go_getR flX11_10 h0 72 dX11_count_69 rfl ?_
      refine go_getI flX11_176 (by decide) (rk11_0 h0) 75 dX11_count_72 rfl ?_
      exact go_iret rfl dX11_count_75
    · refine ⟨75, 76, by rw [g]; rfl, by decide, ?_⟩
      rw [g]
      simp only [if_pos, reduceIte, Int.reduceEq, Int.reduceNeg]
      refine go_aload_n 0 77 dX11_count_76 rfl rfl ?_
      refine go_getR flX11_10 h0 80 dX11_count_77 rfl ?_
      refine go_getI flX11_179 (by decide) (rk11_0 h0) 83 dX11_count_80 rfl ?_
      exact go_iret rfl dX11_count_83
    · refine ⟨83, 84, by rw [g]; rfl, by decide, ?_⟩
      rw [g]
      simp only [if_pos, reduceIte, Int.reduceEq, Int.reduceNeg]
      refine go_aload_n 0 85 dX11_count_84 rfl rfl ?_
      refine go_getR flX11_10 h0 88 dX11_count_85 rfl ?_
      refine go_getI flX11_182 (by decide) (rk11_0 h0) 91 dX11_count_88 rfl ?_
      exact go_iret rfl dX11_count_91
    · refine ⟨91, 92, by rw [g]; rfl, by decide, ?_⟩
      rw [g]
      simp only [if_pos, reduceIte, Int.reduceEq, Int.reduceNeg]
      refine go_aload_n 0 93 dX11_count_92 rfl rfl ?_
      refine go_getR flX11_51 h0 96 dX11_count_93 rfl ?_
      refine go_getI flX11_185 (by decide) (rk11_6 h0) 99 dX11_count_96 rfl ?_
      exact go_iret rfl dX11_count_99
    · refine ⟨99, 100, by rw [g]; rfl, by decide, ?_⟩
      rw [g]
      simp only [if_pos, reduceIte, Int.reduceEq, Int.reduceNeg]
      refine go_aload_n 0 101 dX11_count_100 rfl rfl ?_
      refine go_getR flX11_10 h0 104 dX11_count_101 rfl ?_
      refine go_aload_n 0 105 dX11_count_104 rfl rfl ?_
      refine go_getR flX11_51 h0 108 dX11_count_105 rfl ?_
      refine go_getI flX11_185 (by decide) (rk11_6 h0) 111 dX11_count_108 rfl ?_
      refine go_cVI1 0 clX6 cwX11_188 (m_X6_dampOn w (rF o0 0) (rk11_0 h0) (M.1 (rF o0 6) 1) M) (rk11_0 h0) 114 dX11_count_111 rfl ⟨Nat.le_of_ble_eq_true rfl, Nat.le_of_ble_eq_true rfl⟩ ⟨Nat.zero_le _, Nat.zero_le _⟩ (Nat.le_of_ble_eq_true rfl) (fun q2 M1 _ => ?_)
      exact go_iret rfl dX11_count_114
    · refine ⟨114, 115, by rw [g]; rfl, by decide, ?_⟩
      rw [g]
      simp only [if_pos, reduceIte, Int.reduceEq, Int.reduceNeg]
      refine go_aload_n 0 116 dX11_count_115 rfl rfl ?_
      refine go_getR flX11_51 h0 119 dX11_count_116 rfl ?_
      refine go_cVI0 2 clX9 cwX11_192 (m_X9_stuckDoors w (rF o0 6) (rk11_6 h0) M) (rk11_6 h0) 122 dX11_count_119 rfl ⟨Nat.le_of_ble_eq_true rfl, Nat.le_of_ble_eq_true rfl⟩ ⟨Nat.zero_le _, Nat.zero_le _⟩ (Nat.le_of_ble_eq_true rfl) (fun q4 M3 _ => ?_)
      exact go_iret rfl dX11_count_122
    · refine ⟨122, 123, by rw [g]; rfl, by decide, ?_⟩
      rw [g]
      simp only [if_pos, reduceIte, Int.reduceEq, Int.reduceNeg]
      refine go_aload_n 0 124 dX11_count_123 rfl rfl ?_
      refine go_getR flX11_51 h0 127 dX11_count_124 rfl ?_
      refine go_getI flX11_196 (by decide) (rk11_6 h0) 130 dX11_count_127 rfl ?_
      exact go_iret rfl dX11_count_130
    · refine ⟨130, 131, by rw [g]; rfl, by decide, ?_⟩
      rw [g]
      simp only [if_pos, reduceIte, Int.reduceEq, Int.reduceNeg]
      refine go_aload_n 0 132 dX11_count_131 rfl rfl ?_
      refine go_getR flX11_51 h0 135 dX11_count_132 rfl ?_
      refine go_cVI0 0 clX9 cwX11_199 (m_X9_swollenTogether w (rF o0 6) (rk11_6 h0) M) (rk11_6 h0) 138 dX11_count_135 rfl ⟨Nat.le_of_ble_eq_true rfl, Nat.le_of_ble_eq_true rfl⟩ ⟨Nat.zero_le _, Nat.zero_le _⟩ (Nat.le_of_ble_eq_true rfl) (fun q6 M5 _ => ?_)
      exact go_iret rfl dX11_count_138
    · refine ⟨138, 139, by rw [g]; rfl, by decide, ?_⟩
      rw [g]
      simp only [if_pos, reduceIte, Int.reduceEq, Int.reduceNeg]
      refine go_aload_n 0 140 dX11_count_139 rfl rfl ?_
      refine go_getI flX11_118 (by decide) h0 143 dX11_count_140 rfl ?_
      exact go_iret rfl dX11_count_143
    · refine ⟨143, 144, by rw [g]; rfl, by decide, ?_⟩
      rw [g]
      simp only [if_pos, reduceIte, Int.reduceEq, Int.reduceNeg]
      refine go_aload_n 0 145 dX11_count_144 rfl rfl ?_
      refine go_getR flX11_68 h0 148 dX11_count_145 rfl ?_
      refine go_getI flX11_124 (by decide) (rk11_9 h0) 151 dX11_count_148 rfl ?_
      exact go_iret rfl dX11_count_151
    · refine ⟨151, 152, by rw [g]; rfl, by decide, ?_⟩
      rw [g]
      simp only [if_pos, reduceIte, Int.reduceEq, Int.reduceNeg]
      refine go_aload_n 0 153 dX11_count_152 rfl rfl ?_
      refine go_getR flX11_68 h0 156 dX11_count_153 rfl ?_
      refine go_getI flX11_127 (by decide) (rk11_9 h0) 159 dX11_count_156 rfl ?_
      exact go_iret rfl dX11_count_159
    · refine ⟨159, 160, by rw [g]; rfl, by decide, ?_⟩
      rw [g]
      simp only [if_pos, reduceIte, Int.reduceEq, Int.reduceNeg]
      refine go_aload_n 0 161 dX11_count_160 rfl rfl ?_
      refine go_getR flX11_61 h0 164 dX11_count_161 rfl ?_
      refine go_getI flX11_121 (by decide) (rk11_8 h0) 167 dX11_count_164 rfl ?_
      exact go_iret rfl dX11_count_167
    · refine ⟨167, 168, by rw [g]; rfl, by decide, ?_⟩
      rw [g]
      simp only [if_pos, reduceIte, Int.reduceEq, Int.reduceNeg]
      refine go_aload_n 0 169 dX11_count_168 rfl rfl ?_
      refine go_getR flX11_22 h0 172 dX11_count_169 rfl ?_
      refine go_getI flX11_101 (by decide) (rk11_2 h0) 175 dX11_count_172 rfl ?_
      exact go_iret rfl dX11_count_175
theorem m_X11_count {l : Launch} {G : mG} {sk : List mS} (w : Nat) (o0 : Nat) (h0 : isK o0 21) (x1 : Int32) (M : mM) : Mt l G sk yX11_count muX11_count 3 [.ref (gB G + o0), .int x1] M eI (f_X11_count w o0 x1 M) := Mt.of (by decide) rfl (Nat.le_of_ble_eq_true rfl) (s_X11_count w o0 h0 x1 M)
theorem dX11_day_0 : decode cX11_day 0 = .ok (.aload_n 0, 1) := by decide +kernel
theorem dX11_day_1 : decode cX11_day 1 = .ok (.getfield 61, 3) := by decide +kernel
theorem dX11_day_4 : decode cX11_day 4 = .ok (.aload_n 0, 1) := by decide +kernel
theorem dX11_day_5 : decode cX11_day 5 = .ok (.getfield 51, 3) := by decide +kernel
theorem dX11_day_8 : decode cX11_day 8 = .ok (.invokevirtual 202, 3) := by decide +kernel
theorem dX11_day_11 : decode cX11_day 11 = .ok (.aload_n 0, 1) := by decide +kernel
theorem dX11_day_12 : decode cX11_day 12 = .ok (.getfield 51, 3) := by decide +kernel
theorem dX11_day_15 : decode cX11_day 15 = .ok (.invokevirtual 205, 3) := by decide +kernel
theorem dX11_day_18 : decode cX11_day 18 = .ok (.aload_n 0, 1) := by decide +kernel
theorem dX11_day_19 : decode cX11_day 19 = .ok (.getfield 51, 3) := by decide +kernel
theorem dX11_day_22 : decode cX11_day 22 = .ok (.invokevirtual 192, 3) := by decide +kernel
theorem dX11_day_25 : decode cX11_day 25 = .ok (.ireturn, 1) := by decide +kernel
def f_X11_day (w : Nat) (o0 : Nat) (M : mM) : Option (Int32 × mM) := bV (f_X1_keep w (rF o0 8) (rF o0 6) M) fun M1 => bV (f_X9_passDay w (rF o0 6) M1) fun M2 => bI (f_X9_stuckDoors w (rF o0 6) M2) fun q4 M3 => some (q4, M3)
set_option maxHeartbeats 4000000 in
set_option maxRecDepth 100000 in
theorem s_X11_day {l : Launch} {G : mG} {sk : List mS} (w : Nat) (o0 : Nat) (h0 : isK o0 21) (M : mM) : Go muX11_day (rm 4) 0 0 l G sk (mFin G sk eI) (f_X11_day w o0 M) 0 [(0, .ref (gB G + o0))] [] M := by
  unfold f_X11_day
  refine go_aload_n 0 1 dX11_day_0 rfl rfl ?_
  refine go_getR flX11_61 h0 4 dX11_day_1 rfl ?_
  refine go_aload_n 0 5 dX11_day_4 rfl rfl ?_
  refine go_getR flX11_51 h0 8 dX11_day_5 rfl ?_
  refine go_cVV1 2 clX1 cwX11_202 (m_X1_keep w (rF o0 8) (rk11_8 h0) (rF o0 6) (rk11_6 h0) M) (rk11_8 h0) 11 dX11_day_8 rfl ⟨Nat.le_of_ble_eq_true rfl, Nat.le_of_ble_eq_true rfl⟩ ⟨Nat.zero_le _, Nat.zero_le _⟩ (Nat.le_of_ble_eq_true rfl) (fun M1 _ => ?_)
  refine go_aload_n 0 12 dX11_day_11 rfl rfl ?_
  refine go_getR flX11_51 h0 15 dX11_day_12 rfl ?_
  refine go_cVV0 3 clX9 cwX11_205 (m_X9_passDay w (rF o0 6) (rk11_6 h0) M1) (rk11_6 h0) 18 dX11_day_15 rfl ⟨Nat.le_of_ble_eq_true rfl, Nat.le_of_ble_eq_true rfl⟩ ⟨Nat.zero_le _, Nat.zero_le _⟩ (Nat.le_of_ble_eq_true rfl) (fun M2 _ => ?_)
  refine go_aload_n 0 19 dX11_day_18 rfl rfl ?_
  refine go_getR flX11_51 h0 22 dX11_day_19 rfl ?_
  refine go_cVI0 2 clX9 cwX11_192 (m_X9_stuckDoors w (rF o0 6) (rk11_6 h0) M2) (rk11_6 h0) 25 dX11_day_22 rfl ⟨Nat.le_of_ble_eq_true rfl, Nat.le_of_ble_eq_true rfl⟩ ⟨Nat.zero_le _, Nat.zero_le _⟩ (Nat.le_of_ble_eq_true rfl) (fun q4 M3 _ => ?_)
  exact go_iret rfl dX11_day_25
theorem m_X11_day {l : Launch} {G : mG} {sk : List mS} (w : Nat) (o0 : Nat) (h0 : isK o0 21) (M : mM) : Mt l G sk yX11_day muX11_day 4 [.ref (gB G + o0)] M eI (f_X11_day w o0 M) := Mt.of (by decide) rfl (Nat.le_of_ble_eq_true rfl) (s_X11_day w o0 h0 M)
theorem dX11_walk_0 : decode cX11_walk 0 = .ok (.aload_n 0, 1) := by decide +kernel
theorem dX11_walk_1 : decode cX11_walk 1 = .ok (.getfield 51, 3) := by decide +kernel
theorem dX11_walk_4 : decode cX11_walk 4 = .ok (.iload_n 1, 1) := by decide +kernel
theorem dX11_walk_5 : decode cX11_walk 5 = .ok (.iload_n 2, 1) := by decide +kernel
theorem dX11_walk_6 : decode cX11_walk 6 = .ok (.invokevirtual 208, 3) := by decide +kernel
theorem dX11_walk_9 : decode cX11_walk 9 = .ok (.ifCond .ne 5, 3) := by decide +kernel
theorem dX11_walk_12 : decode cX11_walk 12 = .ok (.iconst (-1), 1) := by decide +kernel
theorem dX11_walk_13 : decode cX11_walk 13 = .ok (.ireturn, 1) := by decide +kernel
theorem dX11_walk_14 : decode cX11_walk 14 = .ok (.aload_n 0, 1) := by decide +kernel
theorem dX11_walk_15 : decode cX11_walk 15 = .ok (.getfield 61, 3) := by decide +kernel
theorem dX11_walk_18 : decode cX11_walk 18 = .ok (.aload_n 0, 1) := by decide +kernel
theorem dX11_walk_19 : decode cX11_walk 19 = .ok (.getfield 51, 3) := by decide +kernel
theorem dX11_walk_22 : decode cX11_walk 22 = .ok (.invokevirtual 202, 3) := by decide +kernel
theorem dX11_walk_25 : decode cX11_walk 25 = .ok (.aload_n 0, 1) := by decide +kernel
theorem dX11_walk_26 : decode cX11_walk 26 = .ok (.getfield 51, 3) := by decide +kernel
theorem dX11_walk_29 : decode cX11_walk 29 = .ok (.iload_n 1, 1) := by decide +kernel
theorem dX11_walk_30 : decode cX11_walk 30 = .ok (.iload_n 2, 1) := by decide +kernel
theorem dX11_walk_31 : decode cX11_walk 31 = .ok (.invokevirtual 212, 3) := by decide +kernel
theorem dX11_walk_34 : decode cX11_walk 34 = .ok (.aload_n 0, 1) := by decide +kernel
theorem dX11_walk_35 : decode cX11_walk 35 = .ok (.getfield 51, 3) := by decide +kernel
theorem dX11_walk_38 : decode cX11_walk 38 = .ok (.getfield 173, 3) := by decide +kernel
theorem dX11_walk_41 : decode cX11_walk 41 = .ok (.iload_n 1, 1) := by decide +kernel
theorem dX11_walk_42 : decode cX11_walk 42 = .ok (.iaload, 1) := by decide +kernel
theorem dX11_walk_43 : decode cX11_walk 43 = .ok (.ireturn, 1) := by decide +kernel
def f_X11_walk (w : Nat) (o0 : Nat) (x1 : Int32) (x2 : Int32) (M : mM) : Option (Int32 × mM) := bI (f_X9_canWalk w (rF o0 6) x1 x2 M) fun q2 M1 => (if q2 = 0 then some ((-1), M1) else bV (f_X1_keep w (rF o0 8) (rF o0 6) M1) fun M3 => bV (f_X9_makeWalk w (rF o0 6) x1 x2 M3) fun M4 => chk x1 (sL (rF (rF o0 6) 5)) (some ((M4.1 (rF (rF o0 6) 5) x1.toNatClampNeg), M4)))
set_option maxHeartbeats 4000000 in
set_option maxRecDepth 100000 in
theorem s_X11_walk {l : Launch} {G : mG} {sk : List mS} (w : Nat) (o0 : Nat) (h0 : isK o0 21) (x1 : Int32) (x2 : Int32) (M : mM) : Go muX11_walk (rm 3) 0 0 l G sk (mFin G sk eI) (f_X11_walk w o0 x1 x2 M) 0 [(0, .ref (gB G + o0)), (1, .int x1), (2, .int x2)] [] M := by
  unfold f_X11_walk
  refine go_aload_n 0 1 dX11_walk_0 rfl rfl ?_
  refine go_getR flX11_51 h0 4 dX11_walk_1 rfl ?_
  refine go_iload_n 1 5 dX11_walk_4 rfl rfl ?_
  refine go_iload_n 2 6 dX11_walk_5 rfl rfl ?_
  refine go_cVI2 2 clX9 cwX11_208 (m_X9_canWalk w (rF o0 6) (rk11_6 h0) x1 x2 M) (rk11_6 h0) 9 dX11_walk_6 rfl ⟨Nat.le_of_ble_eq_true rfl, Nat.le_of_ble_eq_true rfl⟩ ⟨Nat.zero_le _, Nat.zero_le _⟩ (Nat.le_of_ble_eq_true rfl) (fun q2 M1 _ => ?_)
  refine go_if_ne 14 12 dX11_walk_9 rfl (by decide) (fun _ => ?_) (fun _ => ?_)
  · refine go_aload_n 0 15 dX11_walk_14 rfl rfl ?_
    refine go_getR flX11_61 h0 18 dX11_walk_15 rfl ?_
    refine go_aload_n 0 19 dX11_walk_18 rfl rfl ?_
    refine go_getR flX11_51 h0 22 dX11_walk_19 rfl ?_
    refine go_cVV1 2 clX1 cwX11_202 (m_X1_keep w (rF o0 8) (rk11_8 h0) (rF o0 6) (rk11_6 h0) M1) (rk11_8 h0) 25 dX11_walk_22 rfl ⟨Nat.le_of_ble_eq_true rfl, Nat.le_of_ble_eq_true rfl⟩ ⟨Nat.zero_le _, Nat.zero_le _⟩ (Nat.le_of_ble_eq_true rfl) (fun M3 _ => ?_)
    refine go_aload_n 0 26 dX11_walk_25 rfl rfl ?_
    refine go_getR flX11_51 h0 29 dX11_walk_26 rfl ?_
    refine go_iload_n 1 30 dX11_walk_29 rfl rfl ?_
    refine go_iload_n 2 31 dX11_walk_30 rfl rfl ?_
    refine go_cVV2 1 clX9 cwX11_212 (m_X9_makeWalk w (rF o0 6) (rk11_6 h0) x1 x2 M3) (rk11_6 h0) 34 dX11_walk_31 rfl ⟨Nat.le_of_ble_eq_true rfl, Nat.le_of_ble_eq_true rfl⟩ ⟨Nat.zero_le _, Nat.zero_le _⟩ (Nat.le_of_ble_eq_true rfl) (fun M4 _ => ?_)
    refine go_aload_n 0 35 dX11_walk_34 rfl rfl ?_
    refine go_getR flX11_51 h0 38 dX11_walk_35 rfl ?_
    refine go_getR flX11_173 (rk11_6 h0) 41 dX11_walk_38 rfl ?_
    refine go_iload_n 1 42 dX11_walk_41 rfl rfl ?_
    refine go_iald (rk9_5 (rk11_6 h0)) 43 dX11_walk_42 rfl ?_
    exact go_iret rfl dX11_walk_43
  · refine go_iconst (-1) 13 dX11_walk_12 rfl (by decide) ?_
    exact go_iret rfl dX11_walk_13
theorem m_X11_walk {l : Launch} {G : mG} {sk : List mS} (w : Nat) (o0 : Nat) (h0 : isK o0 21) (x1 : Int32) (x2 : Int32) (M : mM) : Mt l G sk yX11_walk muX11_walk 3 [.ref (gB G + o0), .int x1, .int x2] M eI (f_X11_walk w o0 x1 x2 M) := Mt.of (by decide) rfl (Nat.le_of_ble_eq_true rfl) (s_X11_walk w o0 h0 x1 x2 M)
theorem dX11_plane_0 : decode cX11_plane 0 = .ok (.aload_n 0, 1) := by decide +kernel
theorem dX11_plane_1 : decode cX11_plane 1 = .ok (.getfield 51, 3) := by decide +kernel
theorem dX11_plane_4 : decode cX11_plane 4 = .ok (.iload_n 1, 1) := by decide +kernel
theorem dX11_plane_5 : decode cX11_plane 5 = .ok (.invokevirtual 216, 3) := by decide +kernel
theorem dX11_plane_8 : decode cX11_plane 8 = .ok (.ifCond .ne 5, 3) := by decide +kernel
theorem dX11_plane_11 : decode cX11_plane 11 = .ok (.iconst (-1), 1) := by decide +kernel
theorem dX11_plane_12 : decode cX11_plane 12 = .ok (.ireturn, 1) := by decide +kernel
theorem dX11_plane_13 : decode cX11_plane 13 = .ok (.aload_n 0, 1) := by decide +kernel
theorem dX11_plane_14 : decode cX11_plane 14 = .ok (.getfield 61, 3) := by decide +kernel
theorem dX11_plane_17 : decode cX11_plane 17 = .ok (.aload_n 0, 1) := by decide +kernel
theorem dX11_plane_18 : decode cX11_plane 18 = .ok (.getfield 51, 3) := by decide +kernel
theorem dX11_plane_21 : decode cX11_plane 21 = .ok (.invokevirtual 202, 3) := by decide +kernel
theorem dX11_plane_24 : decode cX11_plane 24 = .ok (.aload_n 0, 1) := by decide +kernel
theorem dX11_plane_25 : decode cX11_plane 25 = .ok (.getfield 51, 3) := by decide +kernel
theorem dX11_plane_28 : decode cX11_plane 28 = .ok (.iload_n 1, 1) := by decide +kernel
theorem dX11_plane_29 : decode cX11_plane 29 = .ok (.invokevirtual 219, 3) := by decide +kernel
theorem dX11_plane_32 : decode cX11_plane 32 = .ok (.aload_n 0, 1) := by decide +kernel
theorem dX11_plane_33 : decode cX11_plane 33 = .ok (.getfield 51, 3) := by decide +kernel
theorem dX11_plane_36 : decode cX11_plane 36 = .ok (.getfield 158, 3) := by decide +kernel
theorem dX11_plane_39 : decode cX11_plane 39 = .ok (.iload_n 1, 1) := by decide +kernel
theorem dX11_plane_40 : decode cX11_plane 40 = .ok (.iaload, 1) := by decide +kernel
theorem dX11_plane_41 : decode cX11_plane 41 = .ok (.ireturn, 1) := by decide +kernel
def f_X11_plane (w : Nat) (o0 : Nat) (x1 : Int32) (M : mM) : Option (Int32 × mM) := bI (f_X9_canPlane w (rF o0 6) x1 M) fun q2 M1 => (if q2 = 0 then some ((-1), M1) else bV (f_X1_keep w (rF o0 8) (rF o0 6) M1) fun M3 => bV (f_X9_makePlaning w (rF o0 6) x1 M3) fun M4 => chk x1 (sL (rF (rF o0 6) 3)) (some ((M4.1 (rF (rF o0 6) 3) x1.toNatClampNeg), M4)))
set_option maxHeartbeats 4000000 in
set_option maxRecDepth 100000 in
theorem s_X11_plane {l : Launch} {G : mG} {sk : List mS} (w : Nat) (o0 : Nat) (h0 : isK o0 21) (x1 : Int32) (M : mM) : Go muX11_plane (rm 3) 0 0 l G sk (mFin G sk eI) (f_X11_plane w o0 x1 M) 0 [(0, .ref (gB G + o0)), (1, .int x1)] [] M := by
  unfold f_X11_plane
  refine go_aload_n 0 1 dX11_plane_0 rfl rfl ?_
  refine go_getR flX11_51 h0 4 dX11_plane_1 rfl ?_
  refine go_iload_n 1 5 dX11_plane_4 rfl rfl ?_
  refine go_cVI1 1 clX9 cwX11_216 (m_X9_canPlane w (rF o0 6) (rk11_6 h0) x1 M) (rk11_6 h0) 8 dX11_plane_5 rfl ⟨Nat.le_of_ble_eq_true rfl, Nat.le_of_ble_eq_true rfl⟩ ⟨Nat.zero_le _, Nat.zero_le _⟩ (Nat.le_of_ble_eq_true rfl) (fun q2 M1 _ => ?_)
  refine go_if_ne 13 11 dX11_plane_8 rfl (by decide) (fun _ => ?_) (fun _ => ?_)
  · refine go_aload_n 0 14 dX11_plane_13 rfl rfl ?_
    refine go_getR flX11_61 h0 17 dX11_plane_14 rfl ?_
    refine go_aload_n 0 18 dX11_plane_17 rfl rfl ?_
    refine go_getR flX11_51 h0 21 dX11_plane_18 rfl ?_
    refine go_cVV1 2 clX1 cwX11_202 (m_X1_keep w (rF o0 8) (rk11_8 h0) (rF o0 6) (rk11_6 h0) M1) (rk11_8 h0) 24 dX11_plane_21 rfl ⟨Nat.le_of_ble_eq_true rfl, Nat.le_of_ble_eq_true rfl⟩ ⟨Nat.zero_le _, Nat.zero_le _⟩ (Nat.le_of_ble_eq_true rfl) (fun M3 _ => ?_)
    refine go_aload_n 0 25 dX11_plane_24 rfl rfl ?_
    refine go_getR flX11_51 h0 28 dX11_plane_25 rfl ?_
    refine go_iload_n 1 29 dX11_plane_28 rfl rfl ?_
    refine go_cVV1 0 clX9 cwX11_219 (m_X9_makePlaning w (rF o0 6) (rk11_6 h0) x1 M3) (rk11_6 h0) 32 dX11_plane_29 rfl ⟨Nat.le_of_ble_eq_true rfl, Nat.le_of_ble_eq_true rfl⟩ ⟨Nat.zero_le _, Nat.zero_le _⟩ (Nat.le_of_ble_eq_true rfl) (fun M4 _ => ?_)
    refine go_aload_n 0 33 dX11_plane_32 rfl rfl ?_
    refine go_getR flX11_51 h0 36 dX11_plane_33 rfl ?_
    refine go_getR flX11_158 (rk11_6 h0) 39 dX11_plane_36 rfl ?_
    refine go_iload_n 1 40 dX11_plane_39 rfl rfl ?_
    refine go_iald (rk9_3 (rk11_6 h0)) 41 dX11_plane_40 rfl ?_
    exact go_iret rfl dX11_plane_41
  · refine go_iconst (-1) 12 dX11_plane_11 rfl (by decide) ?_
    exact go_iret rfl dX11_plane_12
theorem m_X11_plane {l : Launch} {G : mG} {sk : List mS} (w : Nat) (o0 : Nat) (h0 : isK o0 21) (x1 : Int32) (M : mM) : Mt l G sk yX11_plane muX11_plane 3 [.ref (gB G + o0), .int x1] M eI (f_X11_plane w o0 x1 M) := Mt.of (by decide) rfl (Nat.le_of_ble_eq_true rfl) (s_X11_plane w o0 h0 x1 M)
theorem dX11_wedge_0 : decode cX11_wedge 0 = .ok (.aload_n 0, 1) := by decide +kernel
theorem dX11_wedge_1 : decode cX11_wedge 1 = .ok (.getfield 51, 3) := by decide +kernel
theorem dX11_wedge_4 : decode cX11_wedge 4 = .ok (.iload_n 1, 1) := by decide +kernel
theorem dX11_wedge_5 : decode cX11_wedge 5 = .ok (.invokevirtual 223, 3) := by decide +kernel
theorem dX11_wedge_8 : decode cX11_wedge 8 = .ok (.ifCond .ne 5, 3) := by decide +kernel
theorem dX11_wedge_11 : decode cX11_wedge 11 = .ok (.iconst (-1), 1) := by decide +kernel
theorem dX11_wedge_12 : decode cX11_wedge 12 = .ok (.ireturn, 1) := by decide +kernel
theorem dX11_wedge_13 : decode cX11_wedge 13 = .ok (.aload_n 0, 1) := by decide +kernel
theorem dX11_wedge_14 : decode cX11_wedge 14 = .ok (.getfield 61, 3) := by decide +kernel
theorem dX11_wedge_17 : decode cX11_wedge 17 = .ok (.aload_n 0, 1) := by decide +kernel
theorem dX11_wedge_18 : decode cX11_wedge 18 = .ok (.getfield 51, 3) := by decide +kernel
theorem dX11_wedge_21 : decode cX11_wedge 21 = .ok (.invokevirtual 202, 3) := by decide +kernel
theorem dX11_wedge_24 : decode cX11_wedge 24 = .ok (.aload_n 0, 1) := by decide +kernel
theorem dX11_wedge_25 : decode cX11_wedge 25 = .ok (.getfield 51, 3) := by decide +kernel
theorem dX11_wedge_28 : decode cX11_wedge 28 = .ok (.iload_n 1, 1) := by decide +kernel
theorem dX11_wedge_29 : decode cX11_wedge 29 = .ok (.invokevirtual 226, 3) := by decide +kernel
theorem dX11_wedge_32 : decode cX11_wedge 32 = .ok (.aload_n 0, 1) := by decide +kernel
theorem dX11_wedge_33 : decode cX11_wedge 33 = .ok (.getfield 51, 3) := by decide +kernel
theorem dX11_wedge_36 : decode cX11_wedge 36 = .ok (.iload_n 1, 1) := by decide +kernel
theorem dX11_wedge_37 : decode cX11_wedge 37 = .ok (.invokevirtual 164, 3) := by decide +kernel
theorem dX11_wedge_40 : decode cX11_wedge 40 = .ok (.ifCond .eq 7, 3) := by decide +kernel
theorem dX11_wedge_43 : decode cX11_wedge 43 = .ok (.iconst 1, 1) := by decide +kernel
theorem dX11_wedge_44 : decode cX11_wedge 44 = .ok (.goto 4, 3) := by decide +kernel
theorem dX11_wedge_47 : decode cX11_wedge 47 = .ok (.iconst 0, 1) := by decide +kernel
theorem dX11_wedge_48 : decode cX11_wedge 48 = .ok (.ireturn, 1) := by decide +kernel
def f_X11_wedge (w : Nat) (o0 : Nat) (x1 : Int32) (M : mM) : Option (Int32 × mM) := bI (f_X9_canWedge w (rF o0 6) x1 M) fun q2 M1 => (if q2 = 0 then some ((-1), M1) else bV (f_X1_keep w (rF o0 8) (rF o0 6) M1) fun M3 => bV (f_X9_turnWedge w (rF o0 6) x1 M3) fun M4 => bI (f_X9_hasWedge w (rF o0 6) x1 M4) fun q6 M5 => (if q6 = 0 then some (0, M5) else some (1, M5)))
set_option maxHeartbeats 4000000 in
set_option maxRecDepth 100000 in
theorem s_X11_wedge {l : Launch} {G : mG} {sk : List mS} (w : Nat) (o0 : Nat) (h0 : isK o0 21) (x1 : Int32) (M : mM) : Go muX11_wedge (rm 3) 0 0 l G sk (mFin G sk eI) (f_X11_wedge w o0 x1 M) 0 [(0, .ref (gB G + o0)), (1, .int x1)] [] M := by
  unfold f_X11_wedge
  refine go_aload_n 0 1 dX11_wedge_0 rfl rfl ?_
  refine go_getR flX11_51 h0 4 dX11_wedge_1 rfl ?_
  refine go_iload_n 1 5 dX11_wedge_4 rfl rfl ?_
  refine go_cVI1 2 clX9 cwX11_223 (m_X9_canWedge w (rF o0 6) (rk11_6 h0) x1 M) (rk11_6 h0) 8 dX11_wedge_5 rfl ⟨Nat.le_of_ble_eq_true rfl, Nat.le_of_ble_eq_true rfl⟩ ⟨Nat.zero_le _, Nat.zero_le _⟩ (Nat.le_of_ble_eq_true rfl) (fun q2 M1 _ => ?_)
  refine go_if_ne 13 11 dX11_wedge_8 rfl (by decide) (fun _ => ?_) (fun _ => ?_)
  · refine go_aload_n 0 14 dX11_wedge_13 rfl rfl ?_
    refine go_getR flX11_61 h0 17 dX11_wedge_14 rfl ?_
    refine go_aload_n 0 18 dX11_wedge_17 rfl rfl ?_
    refine go_getR flX11_51 h0 21 dX11_wedge_18 rfl ?_
    refine go_cVV1 2 clX1 cwX11_202 (m_X1_keep w (rF o0 8) (rk11_8 h0) (rF o0 6) (rk11_6 h0) M1) (rk11_8 h0) 24 dX11_wedge_21 rfl ⟨Nat.le_of_ble_eq_true rfl, Nat.le_of_ble_eq_true rfl⟩ ⟨Nat.zero_le _, Nat.zero_le _⟩ (Nat.le_of_ble_eq_true rfl) (fun M3 _ => ?_)
    refine go_aload_n 0 25 dX11_wedge_24 rfl rfl ?_
    refine go_getR flX11_51 h0 28 dX11_wedge_25 rfl ?_
    refine go_iload_n 1 29 dX11_wedge_28 rfl rfl ?_
    refine go_cVV1 0 clX9 cwX11_226 (m_X9_turnWedge w (rF o0 6) (rk11_6 h0) x1 M3) (rk11_6 h0) 32 dX11_wedge_29 rfl ⟨Nat.le_of_ble_eq_true rfl, Nat.le_of_ble_eq_true rfl⟩ ⟨Nat.zero_le _, Nat.zero_le _⟩ (Nat.le_of_ble_eq_true rfl) (fun M4 _ => ?_)
    refine go_aload_n 0 33 dX11_wedge_32 rfl rfl ?_
    refine go_getR flX11_51 h0 36 dX11_wedge_33 rfl ?_
    refine go_iload_n 1 37 dX11_wedge_36 rfl rfl ?_
    refine go_cVI1 0 clX9 cwX11_164 (m_X9_hasWedge w (rF o0 6) (rk11_6 h0) x1 M4) (rk11_6 h0) 40 dX11_wedge_37 rfl ⟨Nat.le_of_ble_eq_true rfl, Nat.le_of_ble_eq_true rfl⟩ ⟨Nat.zero_le _, Nat.zero_le _⟩ (Nat.le_of_ble_eq_true rfl) (fun q6 M5 _ => ?_)
    refine go_if_eq 47 43 dX11_wedge_40 rfl (by decide) (fun _ => ?_) (fun _ => ?_)
    · refine go_iconst 0 48 dX11_wedge_47 rfl (by decide) ?_
      exact go_iret rfl dX11_wedge_48
    · refine go_iconst 1 44 dX11_wedge_43 rfl (by decide) ?_
      refine go_goto 48 dX11_wedge_44 (by decide) ?_
      exact go_iret rfl dX11_wedge_48
  · refine go_iconst (-1) 12 dX11_wedge_11 rfl (by decide) ?_
    exact go_iret rfl dX11_wedge_12
theorem m_X11_wedge {l : Launch} {G : mG} {sk : List mS} (w : Nat) (o0 : Nat) (h0 : isK o0 21) (x1 : Int32) (M : mM) : Mt l G sk yX11_wedge muX11_wedge 3 [.ref (gB G + o0), .int x1] M eI (f_X11_wedge w o0 x1 M) := Mt.of (by decide) rfl (Nat.le_of_ble_eq_true rfl) (s_X11_wedge w o0 h0 x1 M)
theorem dX11_force_0 : decode cX11_force 0 = .ok (.aload_n 0, 1) := by decide +kernel
theorem dX11_force_1 : decode cX11_force 1 = .ok (.getfield 51, 3) := by decide +kernel
theorem dX11_force_4 : decode cX11_force 4 = .ok (.iload_n 1, 1) := by decide +kernel
theorem dX11_force_5 : decode cX11_force 5 = .ok (.invokevirtual 229, 3) := by decide +kernel
theorem dX11_force_8 : decode cX11_force 8 = .ok (.ifCond .ne 5, 3) := by decide +kernel
theorem dX11_force_11 : decode cX11_force 11 = .ok (.iconst (-1), 1) := by decide +kernel
theorem dX11_force_12 : decode cX11_force 12 = .ok (.ireturn, 1) := by decide +kernel
theorem dX11_force_13 : decode cX11_force 13 = .ok (.aload_n 0, 1) := by decide +kernel
theorem dX11_force_14 : decode cX11_force 14 = .ok (.getfield 61, 3) := by decide +kernel
theorem dX11_force_17 : decode cX11_force 17 = .ok (.aload_n 0, 1) := by decide +kernel
theorem dX11_force_18 : decode cX11_force 18 = .ok (.getfield 51, 3) := by decide +kernel
theorem dX11_force_21 : decode cX11_force 21 = .ok (.invokevirtual 202, 3) := by decide +kernel
theorem dX11_force_24 : decode cX11_force 24 = .ok (.aload_n 0, 1) := by decide +kernel
theorem dX11_force_25 : decode cX11_force 25 = .ok (.getfield 51, 3) := by decide +kernel
theorem dX11_force_28 : decode cX11_force 28 = .ok (.iload_n 1, 1) := by decide +kernel
theorem dX11_force_29 : decode cX11_force 29 = .ok (.invokevirtual 232, 3) := by decide +kernel
theorem dX11_force_32 : decode cX11_force 32 = .ok (.aload_n 0, 1) := by decide +kernel
theorem dX11_force_33 : decode cX11_force 33 = .ok (.getfield 51, 3) := by decide +kernel
theorem dX11_force_36 : decode cX11_force 36 = .ok (.getfield 158, 3) := by decide +kernel
theorem dX11_force_39 : decode cX11_force 39 = .ok (.iload_n 1, 1) := by decide +kernel
theorem dX11_force_40 : decode cX11_force 40 = .ok (.iaload, 1) := by decide +kernel
theorem dX11_force_41 : decode cX11_force 41 = .ok (.ireturn, 1) := by decide +kernel
def f_X11_force (w : Nat) (o0 : Nat) (x1 : Int32) (M : mM) : Option (Int32 × mM) := bI (f_X9_canForce w (rF o0 6) x1 M) fun q2 M1 => (if q2 = 0 then some ((-1), M1) else bV (f_X1_keep w (rF o0 8) (rF o0 6) M1) fun M3 => bV (f_X9_makeForcing w (rF o0 6) x1 M3) fun M4 => chk x1 (sL (rF (rF o0 6) 3)) (some ((M4.1 (rF (rF o0 6) 3) x1.toNatClampNeg), M4)))
set_option maxHeartbeats 4000000 in
set_option maxRecDepth 100000 in
theorem s_X11_force {l : Launch} {G : mG} {sk : List mS} (w : Nat) (o0 : Nat) (h0 : isK o0 21) (x1 : Int32) (M : mM) : Go muX11_force (rm 3) 0 0 l G sk (mFin G sk eI) (f_X11_force w o0 x1 M) 0 [(0, .ref (gB G + o0)), (1, .int x1)] [] M := by
  unfold f_X11_force
  refine go_aload_n 0 1 dX11_force_0 rfl rfl ?_
  refine go_getR flX11_51 h0 4 dX11_force_1 rfl ?_
  refine go_iload_n 1 5 dX11_force_4 rfl rfl ?_
  refine go_cVI1 2 clX9 cwX11_229 (m_X9_canForce w (rF o0 6) (rk11_6 h0) x1 M) (rk11_6 h0) 8 dX11_force_5 rfl ⟨Nat.le_of_ble_eq_true rfl, Nat.le_of_ble_eq_true rfl⟩ ⟨Nat.zero_le _, Nat.zero_le _⟩ (Nat.le_of_ble_eq_true rfl) (fun q2 M1 _ => ?_)
  refine go_if_ne 13 11 dX11_force_8 rfl (by decide) (fun _ => ?_) (fun _ => ?_)
  · refine go_aload_n 0 14 dX11_force_13 rfl rfl ?_
    refine go_getR flX11_61 h0 17 dX11_force_14 rfl ?_
    refine go_aload_n 0 18 dX11_force_17 rfl rfl ?_
    refine go_getR flX11_51 h0 21 dX11_force_18 rfl ?_
    refine go_cVV1 2 clX1 cwX11_202 (m_X1_keep w (rF o0 8) (rk11_8 h0) (rF o0 6) (rk11_6 h0) M1) (rk11_8 h0) 24 dX11_force_21 rfl ⟨Nat.le_of_ble_eq_true rfl, Nat.le_of_ble_eq_true rfl⟩ ⟨Nat.zero_le _, Nat.zero_le _⟩ (Nat.le_of_ble_eq_true rfl) (fun M3 _ => ?_)
    refine go_aload_n 0 25 dX11_force_24 rfl rfl ?_
    refine go_getR flX11_51 h0 28 dX11_force_25 rfl ?_
    refine go_iload_n 1 29 dX11_force_28 rfl rfl ?_
    refine go_cVV1 0 clX9 cwX11_232 (m_X9_makeForcing w (rF o0 6) (rk11_6 h0) x1 M3) (rk11_6 h0) 32 dX11_force_29 rfl ⟨Nat.le_of_ble_eq_true rfl, Nat.le_of_ble_eq_true rfl⟩ ⟨Nat.zero_le _, Nat.zero_le _⟩ (Nat.le_of_ble_eq_true rfl) (fun M4 _ => ?_)
    refine go_aload_n 0 33 dX11_force_32 rfl rfl ?_
    refine go_getR flX11_51 h0 36 dX11_force_33 rfl ?_
    refine go_getR flX11_158 (rk11_6 h0) 39 dX11_force_36 rfl ?_
    refine go_iload_n 1 40 dX11_force_39 rfl rfl ?_
    refine go_iald (rk9_3 (rk11_6 h0)) 41 dX11_force_40 rfl ?_
    exact go_iret rfl dX11_force_41
  · refine go_iconst (-1) 12 dX11_force_11 rfl (by decide) ?_
    exact go_iret rfl dX11_force_12
theorem m_X11_force {l : Launch} {G : mG} {sk : List mS} (w : Nat) (o0 : Nat) (h0 : isK o0 21) (x1 : Int32) (M : mM) : Mt l G sk yX11_force muX11_force 3 [.ref (gB G + o0), .int x1] M eI (f_X11_force w o0 x1 M) := Mt.of (by decide) rfl (Nat.le_of_ble_eq_true rfl) (s_X11_force w o0 h0 x1 M)
theorem dX11_undo_0 : decode cX11_undo 0 = .ok (.aload_n 0, 1) := by decide +kernel
theorem dX11_undo_1 : decode cX11_undo 1 = .ok (.getfield 61, 3) := by decide +kernel
theorem dX11_undo_4 : decode cX11_undo 4 = .ok (.aload_n 0, 1) := by decide +kernel
theorem dX11_undo_5 : decode cX11_undo 5 = .ok (.getfield 51, 3) := by decide +kernel
theorem dX11_undo_8 : decode cX11_undo 8 = .ok (.invokevirtual 235, 3) := by decide +kernel
theorem dX11_undo_11 : decode cX11_undo 11 = .ok (.ireturn, 1) := by decide +kernel
def f_X11_undo (w : Nat) (o0 : Nat) (M : mM) : Option (Int32 × mM) := bI (f_X1_bringBack w (rF o0 8) (rF o0 6) M) fun q2 M1 => rtB q2 M1
set_option maxHeartbeats 4000000 in
set_option maxRecDepth 100000 in
theorem s_X11_undo {l : Launch} {G : mG} {sk : List mS} (w : Nat) (o0 : Nat) (h0 : isK o0 21) (M : mM) : Go muX11_undo (rm 3) 0 0 l G sk (mFin G sk eI) (f_X11_undo w o0 M) 0 [(0, .ref (gB G + o0))] [] M := by
  unfold f_X11_undo
  refine go_aload_n 0 1 dX11_undo_0 rfl rfl ?_
  refine go_getR flX11_61 h0 4 dX11_undo_1 rfl ?_
  refine go_aload_n 0 5 dX11_undo_4 rfl rfl ?_
  refine go_getR flX11_51 h0 8 dX11_undo_5 rfl ?_
  refine go_cVI1 2 clX1 cwX11_235 (m_X1_bringBack w (rF o0 8) (rk11_8 h0) (rF o0 6) (rk11_6 h0) M) (rk11_8 h0) 11 dX11_undo_8 rfl ⟨Nat.le_of_ble_eq_true rfl, Nat.le_of_ble_eq_true rfl⟩ ⟨Nat.zero_le _, Nat.zero_le _⟩ (Nat.le_of_ble_eq_true rfl) (fun q2 M1 _ => ?_)
  exact go_zret rfl dX11_undo_11
theorem m_X11_undo {l : Launch} {G : mG} {sk : List mS} (w : Nat) (o0 : Nat) (h0 : isK o0 21) (M : mM) : Mt l G sk yX11_undo muX11_undo 3 [.ref (gB G + o0)] M eI (f_X11_undo w o0 M) := Mt.of (by decide) rfl (Nat.le_of_ble_eq_true rfl) (s_X11_undo w o0 h0 M)
theorem dX11_mark_0 : decode cX11_mark 0 = .ok (.iload_n 1, 1) := by decide +kernel
theorem dX11_mark_1 : decode cX11_mark 1 = .ok (.ifCond .lt 8, 3) := by decide +kernel
theorem dX11_mark_4 : decode cX11_mark 4 = .ok (.iload_n 1, 1) := by decide +kernel
theorem dX11_mark_5 : decode cX11_mark 5 = .ok (.iconst 4, 1) := by decide +kernel
theorem dX11_mark_6 : decode cX11_mark 6 = .ok (.if_icmp .lt 5, 3) := by decide +kernel
theorem dX11_mark_9 : decode cX11_mark 9 = .ok (.iconst 0, 1) := by decide +kernel
theorem dX11_mark_10 : decode cX11_mark 10 = .ok (.ireturn, 1) := by decide +kernel
theorem dX11_mark_11 : decode cX11_mark 11 = .ok (.aload_n 0, 1) := by decide +kernel
theorem dX11_mark_12 : decode cX11_mark 12 = .ok (.getfield 74, 3) := by decide +kernel
theorem dX11_mark_15 : decode cX11_mark 15 = .ok (.iload_n 1, 1) := by decide +kernel
theorem dX11_mark_16 : decode cX11_mark 16 = .ok (.aaload, 1) := by decide +kernel
theorem dX11_mark_17 : decode cX11_mark 17 = .ok (.astore_n 3, 1) := by decide +kernel
theorem dX11_mark_18 : decode cX11_mark 18 = .ok (.iload_n 2, 1) := by decide +kernel
theorem dX11_mark_19 : decode cX11_mark 19 = .ok (.ifCond .ne 17, 3) := by decide +kernel
theorem dX11_mark_22 : decode cX11_mark 22 = .ok (.aload_n 3, 1) := by decide +kernel
theorem dX11_mark_23 : decode cX11_mark 23 = .ok (.aload_n 0, 1) := by decide +kernel
theorem dX11_mark_24 : decode cX11_mark 24 = .ok (.getfield 51, 3) := by decide +kernel
theorem dX11_mark_27 : decode cX11_mark 27 = .ok (.aload_n 0, 1) := by decide +kernel
theorem dX11_mark_28 : decode cX11_mark 28 = .ok (.getfield 68, 3) := by decide +kernel
theorem dX11_mark_31 : decode cX11_mark 31 = .ok (.invokevirtual 239, 3) := by decide +kernel
theorem dX11_mark_34 : decode cX11_mark 34 = .ok (.iconst 1, 1) := by decide +kernel
theorem dX11_mark_35 : decode cX11_mark 35 = .ok (.ireturn, 1) := by decide +kernel
theorem dX11_mark_36 : decode cX11_mark 36 = .ok (.aload_n 3, 1) := by decide +kernel
theorem dX11_mark_37 : decode cX11_mark 37 = .ok (.getfield 130, 3) := by decide +kernel
theorem dX11_mark_40 : decode cX11_mark 40 = .ok (.ifCond .ne 5, 3) := by decide +kernel
theorem dX11_mark_43 : decode cX11_mark 43 = .ok (.iconst 0, 1) := by decide +kernel
theorem dX11_mark_44 : decode cX11_mark 44 = .ok (.ireturn, 1) := by decide +kernel
theorem dX11_mark_45 : decode cX11_mark 45 = .ok (.aload_n 3, 1) := by decide +kernel
theorem dX11_mark_46 : decode cX11_mark 46 = .ok (.aload_n 0, 1) := by decide +kernel
theorem dX11_mark_47 : decode cX11_mark 47 = .ok (.getfield 51, 3) := by decide +kernel
theorem dX11_mark_50 : decode cX11_mark 50 = .ok (.aload_n 0, 1) := by decide +kernel
theorem dX11_mark_51 : decode cX11_mark 51 = .ok (.getfield 68, 3) := by decide +kernel
theorem dX11_mark_54 : decode cX11_mark 54 = .ok (.invokevirtual 243, 3) := by decide +kernel
theorem dX11_mark_57 : decode cX11_mark 57 = .ok (.aload_n 0, 1) := by decide +kernel
theorem dX11_mark_58 : decode cX11_mark 58 = .ok (.getfield 61, 3) := by decide +kernel
theorem dX11_mark_61 : decode cX11_mark 61 = .ok (.iconst 0, 1) := by decide +kernel
theorem dX11_mark_62 : decode cX11_mark 62 = .ok (.putfield 121, 3) := by decide +kernel
theorem dX11_mark_65 : decode cX11_mark 65 = .ok (.iconst 1, 1) := by decide +kernel
theorem dX11_mark_66 : decode cX11_mark 66 = .ok (.ireturn, 1) := by decide +kernel
def f_X11_mark (w : Nat) (o0 : Nat) (x1 : Int32) (x2 : Int32) (M : mM) : Option (Int32 × mM) := (if x1 < 0 then rtB 0 M else (if x1 < 4 then chk x1 (sL (rF o0 10)) ((if x2 = 0 then bV (f_X4_lay w (rA (rF o0 10) x1.toNatClampNeg) (rF o0 6) (rF o0 9) M) fun M4 => rtB 1 M4 else (if (M.1 (rA (rF o0 10) x1.toNatClampNeg) 2) = 0 then rtB 0 M else bV (f_X4_bringBack w (rA (rF o0 10) x1.toNatClampNeg) (rF o0 6) (rF o0 9) M) fun M2 => lt (wI M2 (rF o0 8) 2 0) fun M3 => rtB 1 M3))) else rtB 0 M))
set_option maxHeartbeats 4000000 in
set_option maxRecDepth 100000 in
theorem s_X11_mark {l : Launch} {G : mG} {sk : List mS} (w : Nat) (o0 : Nat) (h0 : isK o0 21) (x1 : Int32) (x2 : Int32) (M : mM) : Go muX11_mark (rm 3) 0 0 l G sk (mFin G sk eI) (f_X11_mark w o0 x1 x2 M) 0 [(0, .ref (gB G + o0)), (1, .int x1), (2, .int x2)] [] M := by
  unfold f_X11_mark
  refine go_iload_n 1 1 dX11_mark_0 rfl rfl ?_
  refine go_if_lt 9 4 dX11_mark_1 rfl (by decide) (fun _ => ?_) (fun _ => ?_)
  · refine go_iconst 0 10 dX11_mark_9 rfl (by decide) ?_
    exact go_zret rfl dX11_mark_10
  · refine go_iload_n 1 5 dX11_mark_4 rfl rfl ?_
    refine go_iconst 4 6 dX11_mark_5 rfl (by decide) ?_
    refine go_icmp_lt 11 9 dX11_mark_6 rfl (by decide) (fun _ => ?_) (fun _ => ?_)
    · refine go_aload_n 0 12 dX11_mark_11 rfl rfl ?_
      refine go_getR flX11_74 h0 15 dX11_mark_12 rfl ?_
      refine go_iload_n 1 16 dX11_mark_15 rfl rfl ?_
      refine go_aald (rk11_10 h0) (by decide) 17 dX11_mark_16 rfl (fun j1 => ?_)
      refine go_astore_n [(3, .ref (gB G + (rA (rF o0 10) x1.toNatClampNeg))), (0, .ref (gB G + o0)), (1, .int x1), (2, .int x2)] 18 dX11_mark_17 rfl rfl (by decide) rfl ?_
      refine go_iload_n 3 19 dX11_mark_18 rfl rfl ?_
      refine go_if_ne 36 22 dX11_mark_19 rfl (by decide) (fun _ => ?_) (fun _ => ?_)
      · refine go_aload_n 0 37 dX11_mark_36 rfl rfl ?_
        refine go_getI flX11_130 (by decide) (re5 (rk11_10 h0) j1) 40 dX11_mark_37 rfl ?_
        refine go_if_ne 45 43 dX11_mark_40 rfl (by decide) (fun _ => ?_) (fun _ => ?_)
        · refine go_aload_n 0 46 dX11_mark_45 rfl rfl ?_
          refine go_aload_n 1 47 dX11_mark_46 rfl rfl ?_
          refine go_getR flX11_51 h0 50 dX11_mark_47 rfl ?_
          refine go_aload_n 1 51 dX11_mark_50 rfl rfl ?_
          refine go_getR flX11_68 h0 54 dX11_mark_51 rfl ?_
          refine go_cVV2 2 clX4 cwX11_243 (m_X4_bringBack w (rA (rF o0 10) x1.toNatClampNeg) (re5 (rk11_10 h0) j1) (rF o0 6) (rk11_6 h0) (rF o0 9) (rk11_9 h0) M) (re5 (rk11_10 h0) j1) 57 dX11_mark_54 rfl ⟨Nat.le_of_ble_eq_true rfl, Nat.le_of_ble_eq_true rfl⟩ ⟨Nat.zero_le _, Nat.zero_le _⟩ (Nat.le_of_ble_eq_true rfl) (fun M2 _ => ?_)
          refine go_aload_n 1 58 dX11_mark_57 rfl rfl ?_
          refine go_getR flX11_61 h0 61 dX11_mark_58 rfl ?_
          refine go_iconst 0 62 dX11_mark_61 rfl (by decide) ?_
          refine go_putI flX11_121 rfl rfl (rk11_8 h0) 65 dX11_mark_62 rfl ?_
          refine go_nmM (fun M3 => ?_)
          refine go_iconst 1 66 dX11_mark_65 rfl (by decide) ?_
          exact go_zret rfl dX11_mark_66
        · refine go_iconst 0 44 dX11_mark_43 rfl (by decide) ?_
          exact go_zret rfl dX11_mark_44
      · refine go_aload_n 0 23 dX11_mark_22 rfl rfl ?_
        refine go_aload_n 1 24 dX11_mark_23 rfl rfl ?_
        refine go_getR flX11_51 h0 27 dX11_mark_24 rfl ?_
        refine go_aload_n 1 28 dX11_mark_27 rfl rfl ?_
        refine go_getR flX11_68 h0 31 dX11_mark_28 rfl ?_
        refine go_cVV2 2 clX4 cwX11_239 (m_X4_lay w (rA (rF o0 10) x1.toNatClampNeg) (re5 (rk11_10 h0) j1) (rF o0 6) (rk11_6 h0) (rF o0 9) (rk11_9 h0) M) (re5 (rk11_10 h0) j1) 34 dX11_mark_31 rfl ⟨Nat.le_of_ble_eq_true rfl, Nat.le_of_ble_eq_true rfl⟩ ⟨Nat.zero_le _, Nat.zero_le _⟩ (Nat.le_of_ble_eq_true rfl) (fun M4 _ => ?_)
        refine go_iconst 1 35 dX11_mark_34 rfl (by decide) ?_
        exact go_zret rfl dX11_mark_35
    · refine go_iconst 0 10 dX11_mark_9 rfl (by decide) ?_
      exact go_zret rfl dX11_mark_10
theorem m_X11_mark {l : Launch} {G : mG} {sk : List mS} (w : Nat) (o0 : Nat) (h0 : isK o0 21) (x1 : Int32) (x2 : Int32) (M : mM) : Mt l G sk yX11_mark muX11_mark 3 [.ref (gB G + o0), .int x1, .int x2] M eI (f_X11_mark w o0 x1 x2 M) := Mt.of (by decide) rfl (Nat.le_of_ble_eq_true rfl) (s_X11_mark w o0 h0 x1 x2 M)
theorem dX11_judged_0 : decode cX11_judged 0 = .ok (.iload_n 1, 1) := by decide +kernel
theorem dX11_judged_1 : decode cX11_judged 1 = .ok (.ifCond .lt 8, 3) := by decide +kernel
theorem dX11_judged_4 : decode cX11_judged 4 = .ok (.iload_n 1, 1) := by decide +kernel
theorem dX11_judged_5 : decode cX11_judged 5 = .ok (.iconst 2, 1) := by decide +kernel
theorem dX11_judged_6 : decode cX11_judged 6 = .ok (.if_icmp .le 6, 3) := by decide +kernel
theorem dX11_judged_9 : decode cX11_judged 9 = .ok (.bipush (-2), 2) := by decide +kernel
theorem dX11_judged_11 : decode cX11_judged 11 = .ok (.ireturn, 1) := by decide +kernel
theorem dX11_judged_12 : decode cX11_judged 12 = .ok (.iconst (-1), 1) := by decide +kernel
theorem dX11_judged_13 : decode cX11_judged 13 = .ok (.istore_n 2, 1) := by decide +kernel
theorem dX11_judged_14 : decode cX11_judged 14 = .ok (.iconst (-1), 1) := by decide +kernel
theorem dX11_judged_15 : decode cX11_judged 15 = .ok (.istore_n 3, 1) := by decide +kernel
theorem dX11_judged_16 : decode cX11_judged 16 = .ok (.aload_n 0, 1) := by decide +kernel
theorem dX11_judged_17 : decode cX11_judged 17 = .ok (.getfield 55, 3) := by decide +kernel
theorem dX11_judged_20 : decode cX11_judged 20 = .ok (.invokevirtual 115, 3) := by decide +kernel
theorem dX11_judged_23 : decode cX11_judged 23 = .ok (.iconst 0, 1) := by decide +kernel
theorem dX11_judged_24 : decode cX11_judged 24 = .ok (.istore 4, 2) := by decide +kernel
theorem dX11_judged_26 : decode cX11_judged 26 = .ok (.iload 4, 2) := by decide +kernel
theorem dX11_judged_28 : decode cX11_judged 28 = .ok (.aload_n 0, 1) := by decide +kernel
theorem dX11_judged_29 : decode cX11_judged 29 = .ok (.getfield 118, 3) := by decide +kernel
theorem dX11_judged_32 : decode cX11_judged 32 = .ok (.if_icmp .ge 63, 3) := by decide +kernel
theorem dX11_judged_35 : decode cX11_judged 35 = .ok (.iload 4, 2) := by decide +kernel
theorem dX11_judged_37 : decode cX11_judged 37 = .ok (.bipush 40, 2) := by decide +kernel
theorem dX11_judged_39 : decode cX11_judged 39 = .ok (.if_icmp .ge 56, 3) := by decide +kernel
theorem dX11_judged_42 : decode cX11_judged 42 = .ok (.aload_n 0, 1) := by decide +kernel
theorem dX11_judged_43 : decode cX11_judged 43 = .ok (.getfield 55, 3) := by decide +kernel
theorem dX11_judged_46 : decode cX11_judged 46 = .ok (.aload_n 0, 1) := by decide +kernel
theorem dX11_judged_47 : decode cX11_judged 47 = .ok (.getfield 42, 3) := by decide +kernel
theorem dX11_judged_50 : decode cX11_judged 50 = .ok (.iload 4, 2) := by decide +kernel
theorem dX11_judged_52 : decode cX11_judged 52 = .ok (.iaload, 1) := by decide +kernel
theorem dX11_judged_53 : decode cX11_judged 53 = .ok (.invokevirtual 245, 3) := by decide +kernel
theorem dX11_judged_56 : decode cX11_judged 56 = .ok (.istore 5, 2) := by decide +kernel
theorem dX11_judged_58 : decode cX11_judged 58 = .ok (.iload 5, 2) := by decide +kernel
theorem dX11_judged_60 : decode cX11_judged 60 = .ok (.ifCond .ne 11, 3) := by decide +kernel
theorem dX11_judged_63 : decode cX11_judged 63 = .ok (.iload_n 2, 1) := by decide +kernel
theorem dX11_judged_64 : decode cX11_judged 64 = .ok (.iconst (-1), 1) := by decide +kernel
theorem dX11_judged_65 : decode cX11_judged 65 = .ok (.if_icmp .ne 6, 3) := by decide +kernel
theorem dX11_judged_68 : decode cX11_judged 68 = .ok (.iload 4, 2) := by decide +kernel
theorem dX11_judged_70 : decode cX11_judged 70 = .ok (.istore_n 2, 1) := by decide +kernel
theorem dX11_judged_71 : decode cX11_judged 71 = .ok (.iload_n 3, 1) := by decide +kernel
theorem dX11_judged_72 : decode cX11_judged 72 = .ok (.iconst (-1), 1) := by decide +kernel
theorem dX11_judged_73 : decode cX11_judged 73 = .ok (.if_icmp .ne 16, 3) := by decide +kernel
theorem dX11_judged_76 : decode cX11_judged 76 = .ok (.aload_n 0, 1) := by decide +kernel
theorem dX11_judged_77 : decode cX11_judged 77 = .ok (.getfield 55, 3) := by decide +kernel
theorem dX11_judged_80 : decode cX11_judged 80 = .ok (.invokevirtual 248, 3) := by decide +kernel
theorem dX11_judged_83 : decode cX11_judged 83 = .ok (.ifCond .eq 6, 3) := by decide +kernel
theorem dX11_judged_86 : decode cX11_judged 86 = .ok (.iload 4, 2) := by decide +kernel
theorem dX11_judged_88 : decode cX11_judged 88 = .ok (.istore_n 3, 1) := by decide +kernel
theorem dX11_judged_89 : decode cX11_judged 89 = .ok (.iinc 4 1, 3) := by decide +kernel
theorem dX11_judged_92 : decode cX11_judged 92 = .ok (.goto (-66), 3) := by decide +kernel
theorem dX11_judged_95 : decode cX11_judged 95 = .ok (.iload_n 1, 1) := by decide +kernel
theorem dX11_judged_96 : decode cX11_judged 96 = .ok (.ifCond .ne 5, 3) := by decide +kernel
theorem dX11_judged_99 : decode cX11_judged 99 = .ok (.iload_n 2, 1) := by decide +kernel
theorem dX11_judged_100 : decode cX11_judged 100 = .ok (.ireturn, 1) := by decide +kernel
theorem dX11_judged_101 : decode cX11_judged 101 = .ok (.iload_n 1, 1) := by decide +kernel
theorem dX11_judged_102 : decode cX11_judged 102 = .ok (.iconst 1, 1) := by decide +kernel
theorem dX11_judged_103 : decode cX11_judged 103 = .ok (.if_icmp .ne 7, 3) := by decide +kernel
theorem dX11_judged_106 : decode cX11_judged 106 = .ok (.iload_n 3, 1) := by decide +kernel
theorem dX11_judged_107 : decode cX11_judged 107 = .ok (.goto 13, 3) := by decide +kernel
theorem dX11_judged_110 : decode cX11_judged 110 = .ok (.aload_n 0, 1) := by decide +kernel
theorem dX11_judged_111 : decode cX11_judged 111 = .ok (.getfield 55, 3) := by decide +kernel
theorem dX11_judged_114 : decode cX11_judged 114 = .ok (.invokevirtual 192, 3) := by decide +kernel
theorem dX11_judged_117 : decode cX11_judged 117 = .ok (.invokestatic 251, 3) := by decide +kernel
theorem dX11_judged_120 : decode cX11_judged 120 = .ok (.ireturn, 1) := by decide +kernel
def f_X11_judged_71 (w : Nat) (k26 : Nat → Int32 → Int32 → Int32 → Int32 → mM → Option (Int32 × mM)) (o0 : Nat) (x1 : Int32) (x2 : Int32) (x3 : Int32) (x4 : Int32) (M : mM) : Option (Int32 × mM) := (if x3 = (-1) then bI (f_X9_shutPersons w (rF o0 7) M) fun q2 M1 => (if q2 = 0 then (k26 o0 x1 x2 x3 (x4 + 1) M1) else (k26 o0 x1 x2 x4 (x4 + 1) M1)) else (k26 o0 x1 x2 x3 (x4 + 1) M))
set_option maxHeartbeats 4000000 in
set_option maxRecDepth 100000 in
theorem s_X11_judged_71 {l : Launch} {G : mG} {sk : List mS} (w : Nat) (k26 : Nat → Int32 → Int32 → Int32 → Int32 → mM → Option (Int32 × mM)) (hk26 : ∀ (o0 : Nat) (h0 : isK o0 21) (x1 : Int32) (x2 : Int32) (x3 : Int32) (x4 : Int32) (M : mM), Go muX11_judged (rm 5) 0 0 l G sk (mFin G sk eI) (k26 o0 x1 x2 x3 x4 M) 26 [(0, .ref (gB G + o0)), (1, .int x1), (2, .int x2), (3, .int x3), (4, .int x4)] [] M) (o0 : Nat) (h0 : isK o0 21) (x1 : Int32) (x2 : Int32) (x3 : Int32) (x4 : Int32) (M : mM) : Go muX11_judged (rm 5) 0 0 l G sk (mFin G sk eI) (f_X11_judged_71 w k26 o0 x1 x2 x3 x4 M) 71 [(0, .ref (gB G + o0)), (1, .int x1), (2, .int x2), (3, .int x3), (4, .int x4)] [] M := by
  unfold f_X11_judged_71
  refine go_iload_n 3 72 dX11_judged_71 rfl rfl ?_
  refine go_iconst (-1) 73 dX11_judged_72 rfl (by decide) ?_
  refine go_icmp_ne 89 76 dX11_judged_73 rfl (by decide) (fun _ => ?_) (fun _ => ?_)
  · refine go_iinc (x4 + 1) 4 [(4, .int (x4 + 1)), (0, .ref (gB G + o0)), (1, .int x1), (2, .int x2), (3, .int x3)] 92 dX11_judged_89 rfl rfl rfl (by decide) rfl ?_
    refine go_goto 26 dX11_judged_92 (by decide) ?_
    exact go_lv [1, 2, 3, 4, 0] rfl (hk26 o0 h0 x1 x2 x3 (x4 + 1) M)
  · refine go_aload_n 0 77 dX11_judged_76 rfl rfl ?_
    refine go_getR flX11_55 h0 80 dX11_judged_77 rfl ?_
    refine go_cVI0 3 clX9 cwX11_248 (m_X9_shutPersons w (rF o0 7) (rk11_7 h0) M) (rk11_7 h0) 83 dX11_judged_80 rfl ⟨Nat.le_of_ble_eq_true rfl, Nat.le_of_ble_eq_true rfl⟩ ⟨Nat.zero_le _, Nat.zero_le _⟩ (Nat.le_of_ble_eq_true rfl) (fun q2 M1 _ => ?_)
    refine go_if_eq 89 86 dX11_judged_83 rfl (by decide) (fun _ => ?_) (fun _ => ?_)
    · refine go_iinc (x4 + 1) 4 [(4, .int (x4 + 1)), (0, .ref (gB G + o0)), (1, .int x1), (2, .int x2), (3, .int x3)] 92 dX11_judged_89 rfl rfl rfl (by decide) rfl ?_
      refine go_goto 26 dX11_judged_92 (by decide) ?_
      exact go_lv [1, 2, 3, 4, 0] rfl (hk26 o0 h0 x1 x2 x3 (x4 + 1) M1)
    · refine go_iload 4 88 dX11_judged_86 rfl rfl ?_
      refine go_istore_n [(3, .int x4), (0, .ref (gB G + o0)), (1, .int x1), (2, .int x2), (4, .int x4)] 89 dX11_judged_88 rfl rfl (by decide) rfl ?_
      refine go_iinc (x4 + 1) 4 [(4, .int (x4 + 1)), (3, .int x4), (0, .ref (gB G + o0)), (1, .int x1), (2, .int x2)] 92 dX11_judged_89 rfl rfl rfl (by decide) rfl ?_
      refine go_goto 26 dX11_judged_92 (by decide) ?_
      exact go_lv [2, 3, 4, 1, 0] rfl (hk26 o0 h0 x1 x2 x4 (x4 + 1) M1)
def f_X11_judged_95 (w : Nat) (o0 : Nat) (x1 : Int32) (x2 : Int32) (x3 : Int32) (M : mM) : Option (Int32 × mM) := (if x1 = 0 then some (x2, M) else (if x1 = 1 then some (x3, M) else bI (f_X9_stuckDoors w (rF o0 7) M) fun q2 M1 => bI (f_J6_bitCount_0f7a4 w q2 M1) fun q4 M3 => some (q4, M3)))
set_option maxHeartbeats 4000000 in
set_option maxRecDepth 100000 in
theorem s_X11_judged_95 {l : Launch} {G : mG} {sk : List mS} (w : Nat) (o0 : Nat) (h0 : isK o0 21) (x1 : Int32) (x2 : Int32) (x3 : Int32) (M : mM) : Go muX11_judged (rm 5) 0 0 l G sk (mFin G sk eI) (f_X11_judged_95 w o0 x1 x2 x3 M) 95 [(0, .ref (gB G + o0)), (1, .int x1), (2, .int x2), (3, .int x3)] [] M := by
  unfold f_X11_judged_95
  refine go_iload_n 1 96 dX11_judged_95 rfl rfl ?_
  refine go_if_ne 101 99 dX11_judged_96 rfl (by decide) (fun _ => ?_) (fun _ => ?_)
  · refine go_iload_n 1 102 dX11_judged_101 rfl rfl ?_
    refine go_iconst 1 103 dX11_judged_102 rfl (by decide) ?_
    refine go_icmp_ne 110 106 dX11_judged_103 rfl (by decide) (fun _ => ?_) (fun _ => ?_)
    · refine go_aload_n 0 111 dX11_judged_110 rfl rfl ?_
      refine go_getR flX11_55 h0 114 dX11_judged_111 rfl ?_
      refine go_cVI0 2 clX9 cwX11_192 (m_X9_stuckDoors w (rF o0 7) (rk11_7 h0) M) (rk11_7 h0) 117 dX11_judged_114 rfl ⟨Nat.le_of_ble_eq_true rfl, Nat.le_of_ble_eq_true rfl⟩ ⟨Nat.zero_le _, Nat.zero_le _⟩ (Nat.le_of_ble_eq_true rfl) (fun q2 M1 _ => ?_)
      refine go_cSI1 0 cwX11_251 (m_J6_bitCount_0f7a4 w q2 M1) 120 dX11_judged_117 rfl ⟨Nat.le_of_ble_eq_true rfl, Nat.le_of_ble_eq_true rfl⟩ ⟨Nat.zero_le _, Nat.zero_le _⟩ (Nat.le_of_ble_eq_true rfl) (fun q4 M3 _ => ?_)
      exact go_iret rfl dX11_judged_120
    · refine go_iload_n 3 107 dX11_judged_106 rfl rfl ?_
      refine go_goto 120 dX11_judged_107 (by decide) ?_
      exact go_iret rfl dX11_judged_120
  · refine go_iload_n 2 100 dX11_judged_99 rfl rfl ?_
    exact go_iret rfl dX11_judged_100
def f_X11_judged_26 (w : Nat) : Nat → Nat → Int32 → Int32 → Int32 → Int32 → mM → Option (Int32 × mM)
  | 0, _, _, _, _, _, _ => none
  | n + 1, o0, x1, x2, x3, x4, M => (if (M.1 o0 13) ≤ x4 then (f_X11_judged_95 w o0 x1 x2 x3 M) else (if 40 ≤ x4 then (f_X11_judged_95 w o0 x1 x2 x3 M) else chk x4 (sL (rF o0 5)) (bI (f_X9_followLine w (rF o0 7) (M.1 (rF o0 5) x4.toNatClampNeg) M) fun q2 M1 => (if q2 = 0 then (if x2 = (-1) then (f_X11_judged_71 w (f_X11_judged_26 w n) o0 x1 x4 x3 x4 M1) else (f_X11_judged_71 w (f_X11_judged_26 w n) o0 x1 x2 x3 x4 M1)) else (f_X11_judged_71 w (f_X11_judged_26 w n) o0 x1 x2 x3 x4 M1)))))
set_option maxHeartbeats 4000000 in
set_option maxRecDepth 100000 in
theorem s_X11_judged_26 {l : Launch} {G : mG} {sk : List mS} (w : Nat) : ∀ (n : Nat) (o0 : Nat) (h0 : isK o0 21) (x1 : Int32) (x2 : Int32) (x3 : Int32) (x4 : Int32) (M : mM), Go muX11_judged (rm 5) 0 0 l G sk (mFin G sk eI) (f_X11_judged_26 w n o0 x1 x2 x3 x4 M) 26 [(0, .ref (gB G + o0)), (1, .int x1), (2, .int x2), (3, .int x3), (4, .int x4)] [] M := by
  intro n
  induction n with
  | zero =>
    intros
    exact go_none
  | succ n ih =>
    intro o0 h0 x1 x2 x3 x4 M
    rw [f_X11_judged_26]
    refine go_iload 4 28 dX11_judged_26 rfl rfl ?_
    refine go_aload_n 0 29 dX11_judged_28 rfl rfl ?_
    refine go_getI flX11_118 (by decide) h0 32 dX11_judged_29 rfl ?_
    refine go_icmp_ge 95 35 dX11_judged_32 rfl (by decide) (fun _ => ?_) (fun _ => ?_)
    · exact go_lv [0, 1, 2, 3] rfl (s_X11_judged_95 w o0 h0 x1 x2 x3 M)
    · refine go_iload 4 37 dX11_judged_35 rfl rfl ?_
      refine go_bipush 40 39 dX11_judged_37 rfl (by decide) ?_
      refine go_icmp_ge 95 42 dX11_judged_39 rfl (by decide) (fun _ => ?_) (fun _ => ?_)
      · exact go_lv [0, 1, 2, 3] rfl (s_X11_judged_95 w o0 h0 x1 x2 x3 M)
      · refine go_aload_n 0 43 dX11_judged_42 rfl rfl ?_
        refine go_getR flX11_55 h0 46 dX11_judged_43 rfl ?_
        refine go_aload_n 0 47 dX11_judged_46 rfl rfl ?_
        refine go_getR flX11_42 h0 50 dX11_judged_47 rfl ?_
        refine go_iload 4 52 dX11_judged_50 rfl rfl ?_
        refine go_iald (rk11_5 h0) 53 dX11_judged_52 rfl ?_
        refine go_cVI1 4 clX9 cwX11_245 (m_X9_followLine w (rF o0 7) (rk11_7 h0) (M.1 (rF o0 5) x4.toNatClampNeg) M) (rk11_7 h0) 56 dX11_judged_53 rfl ⟨Nat.le_of_ble_eq_true rfl, Nat.le_of_ble_eq_true rfl⟩ ⟨Nat.zero_le _, Nat.zero_le _⟩ (Nat.le_of_ble_eq_true rfl) (fun q2 M1 _ => ?_)
        refine go_istore [(5, .int q2), (0, .ref (gB G + o0)), (1, .int x1), (2, .int x2), (3, .int x3), (4, .int x4)] 58 dX11_judged_56 rfl (by decide) rfl ?_
        refine go_iload 0 60 dX11_judged_58 rfl rfl ?_
        refine go_if_ne 71 63 dX11_judged_60 rfl (by decide) (fun _ => ?_) (fun _ => ?_)
        · exact go_lv [1, 2, 3, 4, 5] rfl (s_X11_judged_71 w (f_X11_judged_26 w n) (fun o0 h0 x1 x2 x3 x4 M => ih o0 h0 x1 x2 x3 x4 M) o0 h0 x1 x2 x3 x4 M1)
        · refine go_iload_n 3 64 dX11_judged_63 rfl rfl ?_
          refine go_iconst (-1) 65 dX11_judged_64 rfl (by decide) ?_
          refine go_icmp_ne 71 68 dX11_judged_65 rfl (by decide) (fun _ => ?_) (fun _ => ?_)
          · exact go_lv [1, 2, 3, 4, 5] rfl (s_X11_judged_71 w (f_X11_judged_26 w n) (fun o0 h0 x1 x2 x3 x4 M => ih o0 h0 x1 x2 x3 x4 M) o0 h0 x1 x2 x3 x4 M1)
          · refine go_iload 5 70 dX11_judged_68 rfl rfl ?_
            refine go_istore_n [(2, .int x4), (5, .int q2), (0, .ref (gB G + o0)), (1, .int x1), (3, .int x3), (4, .int x4)] 71 dX11_judged_70 rfl rfl (by decide) rfl ?_
            exact go_lv [2, 3, 0, 4, 5] rfl (s_X11_judged_71 w (f_X11_judged_26 w n) (fun o0 h0 x1 x2 x3 x4 M => ih o0 h0 x1 x2 x3 x4 M) o0 h0 x1 x4 x3 x4 M1)
def f_X11_judged (w : Nat) (o0 : Nat) (x1 : Int32) (M : mM) : Option (Int32 × mM) := (if x1 < 0 then some ((-2), M) else (if x1 ≤ 2 then bV (f_X9_begin w (rF o0 7) M) fun M1 => (f_X11_judged_26 w w o0 x1 (-1) (-1) 0 M1) else some ((-2), M)))
set_option maxHeartbeats 4000000 in
set_option maxRecDepth 100000 in
theorem s_X11_judged {l : Launch} {G : mG} {sk : List mS} (w : Nat) (o0 : Nat) (h0 : isK o0 21) (x1 : Int32) (M : mM) : Go muX11_judged (rm 5) 0 0 l G sk (mFin G sk eI) (f_X11_judged w o0 x1 M) 0 [(0, .ref (gB G + o0)), (1, .int x1)] [] M := by
  unfold f_X11_judged
  refine go_iload_n 1 1 dX11_judged_0 rfl rfl ?_
  refine go_if_lt 9 4 dX11_judged_1 rfl (by decide) (fun _ => ?_) (fun _ => ?_)
  · refine go_bipush (-2) 11 dX11_judged_9 rfl (by decide) ?_
    exact go_iret rfl dX11_judged_11
  · refine go_iload_n 1 5 dX11_judged_4 rfl rfl ?_
    refine go_iconst 2 6 dX11_judged_5 rfl (by decide) ?_
    refine go_icmp_le 12 9 dX11_judged_6 rfl (by decide) (fun _ => ?_) (fun _ => ?_)
    · refine go_iconst (-1) 13 dX11_judged_12 rfl (by decide) ?_
      refine go_istore_n [(2, .int (-1)), (0, .ref (gB G + o0)), (1, .int x1)] 14 dX11_judged_13 rfl rfl (by decide) rfl ?_
      refine go_iconst (-1) 15 dX11_judged_14 rfl (by decide) ?_
      refine go_istore_n [(3, .int (-1)), (2, .int (-1)), (0, .ref (gB G + o0)), (1, .int x1)] 16 dX11_judged_15 rfl rfl (by decide) rfl ?_
      refine go_aload_n 2 17 dX11_judged_16 rfl rfl ?_
      refine go_getR flX11_55 h0 20 dX11_judged_17 rfl ?_
      refine go_cVV0 1 clX9 cwX11_115 (m_X9_begin w (rF o0 7) (rk11_7 h0) M) (rk11_7 h0) 23 dX11_judged_20 rfl ⟨Nat.le_of_ble_eq_true rfl, Nat.le_of_ble_eq_true rfl⟩ ⟨Nat.zero_le _, Nat.zero_le _⟩ (Nat.le_of_ble_eq_true rfl) (fun M1 _ => ?_)
      refine go_iconst 0 24 dX11_judged_23 rfl (by decide) ?_
      refine go_istore [(4, .int 0), (3, .int (-1)), (2, .int (-1)), (0, .ref (gB G + o0)), (1, .int x1)] 26 dX11_judged_24 rfl (by decide) rfl ?_
      exact go_lv [3, 4, 2, 1, 0] rfl (s_X11_judged_26 w w o0 h0 x1 (-1) (-1) 0 M1)
    · refine go_bipush (-2) 11 dX11_judged_9 rfl (by decide) ?_
      exact go_iret rfl dX11_judged_11
theorem m_X11_judged {l : Launch} {G : mG} {sk : List mS} (w : Nat) (o0 : Nat) (h0 : isK o0 21) (x1 : Int32) (M : mM) : Mt l G sk yX11_judged muX11_judged 5 [.ref (gB G + o0), .int x1] M eI (f_X11_judged w o0 x1 M) := Mt.of (by decide) rfl (Nat.le_of_ble_eq_true rfl) (s_X11_judged w o0 h0 x1 M)
theorem dX11_shut_0 : decode cX11_shut 0 = .ok (.aload_n 0, 1) := by decide +kernel
theorem dX11_shut_1 : decode cX11_shut 1 = .ok (.getfield 51, 3) := by decide +kernel
theorem dX11_shut_4 : decode cX11_shut 4 = .ok (.invokevirtual 248, 3) := by decide +kernel
theorem dX11_shut_7 : decode cX11_shut 7 = .ok (.ireturn, 1) := by decide +kernel
def f_X11_shut (w : Nat) (o0 : Nat) (M : mM) : Option (Int32 × mM) := bI (f_X9_shutPersons w (rF o0 6) M) fun q2 M1 => some (q2, M1)
set_option maxHeartbeats 4000000 in
set_option maxRecDepth 100000 in
theorem s_X11_shut {l : Launch} {G : mG} {sk : List mS} (w : Nat) (o0 : Nat) (h0 : isK o0 21) (M : mM) : Go muX11_shut (rm 4) 0 0 l G sk (mFin G sk eI) (f_X11_shut w o0 M) 0 [(0, .ref (gB G + o0))] [] M := by
  unfold f_X11_shut
  refine go_aload_n 0 1 dX11_shut_0 rfl rfl ?_
  refine go_getR flX11_51 h0 4 dX11_shut_1 rfl ?_
  refine go_cVI0 3 clX9 cwX11_248 (m_X9_shutPersons w (rF o0 6) (rk11_6 h0) M) (rk11_6 h0) 7 dX11_shut_4 rfl ⟨Nat.le_of_ble_eq_true rfl, Nat.le_of_ble_eq_true rfl⟩ ⟨Nat.zero_le _, Nat.zero_le _⟩ (Nat.le_of_ble_eq_true rfl) (fun q2 M1 _ => ?_)
  exact go_iret rfl dX11_shut_7
theorem m_X11_shut {l : Launch} {G : mG} {sk : List mS} (w : Nat) (o0 : Nat) (h0 : isK o0 21) (M : mM) : Mt l G sk yX11_shut muX11_shut 4 [.ref (gB G + o0)] M eI (f_X11_shut w o0 M) := Mt.of (by decide) rfl (Nat.le_of_ble_eq_true rfl) (s_X11_shut w o0 h0 M)
theorem dX11_range_0 : decode cX11_range 0 = .ok (.aload_n 0, 1) := by decide +kernel
theorem dX11_range_1 : decode cX11_range 1 = .ok (.getfield 10, 3) := by decide +kernel
theorem dX11_range_4 : decode cX11_range 4 = .ok (.iload_n 1, 1) := by decide +kernel
theorem dX11_range_5 : decode cX11_range 5 = .ok (.invokevirtual 256, 3) := by decide +kernel
theorem dX11_range_8 : decode cX11_range 8 = .ok (.ifCond .eq 21, 3) := by decide +kernel
theorem dX11_range_11 : decode cX11_range 11 = .ok (.aload_n 0, 1) := by decide +kernel
theorem dX11_range_12 : decode cX11_range 12 = .ok (.getfield 10, 3) := by decide +kernel
theorem dX11_range_15 : decode cX11_range 15 = .ok (.iload_n 1, 1) := by decide +kernel
theorem dX11_range_16 : decode cX11_range 16 = .ok (.aload_n 0, 1) := by decide +kernel
theorem dX11_range_17 : decode cX11_range 17 = .ok (.getfield 51, 3) := by decide +kernel
theorem dX11_range_20 : decode cX11_range 20 = .ok (.invokevirtual 259, 3) := by decide +kernel
theorem dX11_range_23 : decode cX11_range 23 = .ok (.invokevirtual 262, 3) := by decide +kernel
theorem dX11_range_26 : decode cX11_range 26 = .ok (.goto 4, 3) := by decide +kernel
theorem dX11_range_29 : decode cX11_range 29 = .ok (.iconst (-1), 1) := by decide +kernel
theorem dX11_range_30 : decode cX11_range 30 = .ok (.ireturn, 1) := by decide +kernel
def f_X11_range (w : Nat) (o0 : Nat) (x1 : Int32) (M : mM) : Option (Int32 × mM) := bI (f_X6_hasRoom w (rF o0 0) x1 M) fun q2 M1 => (if q2 = 0 then some ((-1), M1) else bI (f_X9_openDoors w (rF o0 6) M1) fun q4 M3 => bI (f_X6_roomsReached w (rF o0 0) x1 q4 M3) fun q6 M5 => some (q6, M5))
set_option maxHeartbeats 4000000 in
set_option maxRecDepth 100000 in
theorem s_X11_range {l : Launch} {G : mG} {sk : List mS} (w : Nat) (o0 : Nat) (h0 : isK o0 21) (x1 : Int32) (M : mM) : Go muX11_range (rm 4) 0 0 l G sk (mFin G sk eI) (f_X11_range w o0 x1 M) 0 [(0, .ref (gB G + o0)), (1, .int x1)] [] M := by
  unfold f_X11_range
  refine go_aload_n 0 1 dX11_range_0 rfl rfl ?_
  refine go_getR flX11_10 h0 4 dX11_range_1 rfl ?_
  refine go_iload_n 1 5 dX11_range_4 rfl rfl ?_
  refine go_cVI1 0 clX6 cwX11_256 (m_X6_hasRoom w (rF o0 0) (rk11_0 h0) x1 M) (rk11_0 h0) 8 dX11_range_5 rfl ⟨Nat.le_of_ble_eq_true rfl, Nat.le_of_ble_eq_true rfl⟩ ⟨Nat.zero_le _, Nat.zero_le _⟩ (Nat.le_of_ble_eq_true rfl) (fun q2 M1 _ => ?_)
  refine go_if_eq 29 11 dX11_range_8 rfl (by decide) (fun _ => ?_) (fun _ => ?_)
  · refine go_iconst (-1) 30 dX11_range_29 rfl (by decide) ?_
    exact go_iret rfl dX11_range_30
  · refine go_aload_n 0 12 dX11_range_11 rfl rfl ?_
    refine go_getR flX11_10 h0 15 dX11_range_12 rfl ?_
    refine go_iload_n 1 16 dX11_range_15 rfl rfl ?_
    refine go_aload_n 0 17 dX11_range_16 rfl rfl ?_
    refine go_getR flX11_51 h0 20 dX11_range_17 rfl ?_
    refine go_cVI0 3 clX9 cwX11_259 (m_X9_openDoors w (rF o0 6) (rk11_6 h0) M1) (rk11_6 h0) 23 dX11_range_20 rfl ⟨Nat.le_of_ble_eq_true rfl, Nat.le_of_ble_eq_true rfl⟩ ⟨Nat.zero_le _, Nat.zero_le _⟩ (Nat.le_of_ble_eq_true rfl) (fun q4 M3 _ => ?_)
    refine go_cVI2 1 clX6 cwX11_262 (m_X6_roomsReached w (rF o0 0) (rk11_0 h0) x1 q4 M3) (rk11_0 h0) 26 dX11_range_23 rfl ⟨Nat.le_of_ble_eq_true rfl, Nat.le_of_ble_eq_true rfl⟩ ⟨Nat.zero_le _, Nat.zero_le _⟩ (Nat.le_of_ble_eq_true rfl) (fun q6 M5 _ => ?_)
    refine go_goto 30 dX11_range_26 (by decide) ?_
    exact go_iret rfl dX11_range_30
theorem m_X11_range {l : Launch} {G : mG} {sk : List mS} (w : Nat) (o0 : Nat) (h0 : isK o0 21) (x1 : Int32) (M : mM) : Mt l G sk yX11_range muX11_range 4 [.ref (gB G + o0), .int x1] M eI (f_X11_range w o0 x1 M) := Mt.of (by decide) rfl (Nat.le_of_ble_eq_true rfl) (s_X11_range w o0 h0 x1 M)
theorem dX11_company_0 : decode cX11_company 0 = .ok (.aload_n 0, 1) := by decide +kernel
theorem dX11_company_1 : decode cX11_company 1 = .ok (.getfield 10, 3) := by decide +kernel
theorem dX11_company_4 : decode cX11_company 4 = .ok (.iload_n 1, 1) := by decide +kernel
theorem dX11_company_5 : decode cX11_company 5 = .ok (.invokevirtual 170, 3) := by decide +kernel
theorem dX11_company_8 : decode cX11_company 8 = .ok (.ifCond .eq 21, 3) := by decide +kernel
theorem dX11_company_11 : decode cX11_company 11 = .ok (.aload_n 0, 1) := by decide +kernel
theorem dX11_company_12 : decode cX11_company 12 = .ok (.getfield 51, 3) := by decide +kernel
theorem dX11_company_15 : decode cX11_company 15 = .ok (.iload_n 1, 1) := by decide +kernel
theorem dX11_company_16 : decode cX11_company 16 = .ok (.aload_n 0, 1) := by decide +kernel
theorem dX11_company_17 : decode cX11_company 17 = .ok (.getfield 51, 3) := by decide +kernel
theorem dX11_company_20 : decode cX11_company 20 = .ok (.invokevirtual 259, 3) := by decide +kernel
theorem dX11_company_23 : decode cX11_company 23 = .ok (.invokevirtual 266, 3) := by decide +kernel
theorem dX11_company_26 : decode cX11_company 26 = .ok (.goto 4, 3) := by decide +kernel
theorem dX11_company_29 : decode cX11_company 29 = .ok (.iconst (-1), 1) := by decide +kernel
theorem dX11_company_30 : decode cX11_company 30 = .ok (.ireturn, 1) := by decide +kernel
def f_X11_company (w : Nat) (o0 : Nat) (x1 : Int32) (M : mM) : Option (Int32 × mM) := bI (f_X6_hasPerson w (rF o0 0) x1 M) fun q2 M1 => (if q2 = 0 then some ((-1), M1) else bI (f_X9_openDoors w (rF o0 6) M1) fun q4 M3 => bI (f_X9_companyOf w (rF o0 6) x1 q4 M3) fun q6 M5 => some (q6, M5))
set_option maxHeartbeats 4000000 in
set_option maxRecDepth 100000 in
theorem s_X11_company {l : Launch} {G : mG} {sk : List mS} (w : Nat) (o0 : Nat) (h0 : isK o0 21) (x1 : Int32) (M : mM) : Go muX11_company (rm 4) 0 0 l G sk (mFin G sk eI) (f_X11_company w o0 x1 M) 0 [(0, .ref (gB G + o0)), (1, .int x1)] [] M := by
  unfold f_X11_company
  refine go_aload_n 0 1 dX11_company_0 rfl rfl ?_
  refine go_getR flX11_10 h0 4 dX11_company_1 rfl ?_
  refine go_iload_n 1 5 dX11_company_4 rfl rfl ?_
  refine go_cVI1 0 clX6 cwX11_170 (m_X6_hasPerson w (rF o0 0) (rk11_0 h0) x1 M) (rk11_0 h0) 8 dX11_company_5 rfl ⟨Nat.le_of_ble_eq_true rfl, Nat.le_of_ble_eq_true rfl⟩ ⟨Nat.zero_le _, Nat.zero_le _⟩ (Nat.le_of_ble_eq_true rfl) (fun q2 M1 _ => ?_)
  refine go_if_eq 29 11 dX11_company_8 rfl (by decide) (fun _ => ?_) (fun _ => ?_)
  · refine go_iconst (-1) 30 dX11_company_29 rfl (by decide) ?_
    exact go_iret rfl dX11_company_30
  · refine go_aload_n 0 12 dX11_company_11 rfl rfl ?_
    refine go_getR flX11_51 h0 15 dX11_company_12 rfl ?_
    refine go_iload_n 1 16 dX11_company_15 rfl rfl ?_
    refine go_aload_n 0 17 dX11_company_16 rfl rfl ?_
    refine go_getR flX11_51 h0 20 dX11_company_17 rfl ?_
    refine go_cVI0 3 clX9 cwX11_259 (m_X9_openDoors w (rF o0 6) (rk11_6 h0) M1) (rk11_6 h0) 23 dX11_company_20 rfl ⟨Nat.le_of_ble_eq_true rfl, Nat.le_of_ble_eq_true rfl⟩ ⟨Nat.zero_le _, Nat.zero_le _⟩ (Nat.le_of_ble_eq_true rfl) (fun q4 M3 _ => ?_)
    refine go_cVI2 2 clX9 cwX11_266 (m_X9_companyOf w (rF o0 6) (rk11_6 h0) x1 q4 M3) (rk11_6 h0) 26 dX11_company_23 rfl ⟨Nat.le_of_ble_eq_true rfl, Nat.le_of_ble_eq_true rfl⟩ ⟨Nat.zero_le _, Nat.zero_le _⟩ (Nat.le_of_ble_eq_true rfl) (fun q6 M5 _ => ?_)
    refine go_goto 30 dX11_company_26 (by decide) ?_
    exact go_iret rfl dX11_company_30
theorem m_X11_company {l : Launch} {G : mG} {sk : List mS} (w : Nat) (o0 : Nat) (h0 : isK o0 21) (x1 : Int32) (M : mM) : Mt l G sk yX11_company muX11_company 4 [.ref (gB G + o0), .int x1] M eI (f_X11_company w o0 x1 M) := Mt.of (by decide) rfl (Nat.le_of_ble_eq_true rfl) (s_X11_company w o0 h0 x1 M)
theorem dX11_alone_0 : decode cX11_alone 0 = .ok (.aload_n 0, 1) := by decide +kernel
theorem dX11_alone_1 : decode cX11_alone 1 = .ok (.getfield 51, 3) := by decide +kernel
theorem dX11_alone_4 : decode cX11_alone 4 = .ok (.invokevirtual 259, 3) := by decide +kernel
theorem dX11_alone_7 : decode cX11_alone 7 = .ok (.istore_n 1, 1) := by decide +kernel
theorem dX11_alone_8 : decode cX11_alone 8 = .ok (.iconst 0, 1) := by decide +kernel
theorem dX11_alone_9 : decode cX11_alone 9 = .ok (.istore_n 2, 1) := by decide +kernel
theorem dX11_alone_10 : decode cX11_alone 10 = .ok (.iconst 0, 1) := by decide +kernel
theorem dX11_alone_11 : decode cX11_alone 11 = .ok (.istore_n 3, 1) := by decide +kernel
theorem dX11_alone_12 : decode cX11_alone 12 = .ok (.iload_n 3, 1) := by decide +kernel
theorem dX11_alone_13 : decode cX11_alone 13 = .ok (.aload_n 0, 1) := by decide +kernel
theorem dX11_alone_14 : decode cX11_alone 14 = .ok (.getfield 10, 3) := by decide +kernel
theorem dX11_alone_17 : decode cX11_alone 17 = .ok (.getfield 182, 3) := by decide +kernel
theorem dX11_alone_20 : decode cX11_alone 20 = .ok (.if_icmp .ge 27, 3) := by decide +kernel
theorem dX11_alone_23 : decode cX11_alone 23 = .ok (.aload_n 0, 1) := by decide +kernel
theorem dX11_alone_24 : decode cX11_alone 24 = .ok (.getfield 51, 3) := by decide +kernel
theorem dX11_alone_27 : decode cX11_alone 27 = .ok (.iload_n 3, 1) := by decide +kernel
theorem dX11_alone_28 : decode cX11_alone 28 = .ok (.iload_n 1, 1) := by decide +kernel
theorem dX11_alone_29 : decode cX11_alone 29 = .ok (.invokevirtual 266, 3) := by decide +kernel
theorem dX11_alone_32 : decode cX11_alone 32 = .ok (.ifCond .ne 9, 3) := by decide +kernel
theorem dX11_alone_35 : decode cX11_alone 35 = .ok (.iload_n 2, 1) := by decide +kernel
theorem dX11_alone_36 : decode cX11_alone 36 = .ok (.iconst 1, 1) := by decide +kernel
theorem dX11_alone_37 : decode cX11_alone 37 = .ok (.iload_n 3, 1) := by decide +kernel
theorem dX11_alone_38 : decode cX11_alone 38 = .ok (.ishl, 1) := by decide +kernel
theorem dX11_alone_39 : decode cX11_alone 39 = .ok (.ior, 1) := by decide +kernel
theorem dX11_alone_40 : decode cX11_alone 40 = .ok (.istore_n 2, 1) := by decide +kernel
theorem dX11_alone_41 : decode cX11_alone 41 = .ok (.iinc 3 1, 3) := by decide +kernel
theorem dX11_alone_44 : decode cX11_alone 44 = .ok (.goto (-32), 3) := by decide +kernel
theorem dX11_alone_47 : decode cX11_alone 47 = .ok (.iload_n 2, 1) := by decide +kernel
theorem dX11_alone_48 : decode cX11_alone 48 = .ok (.ireturn, 1) := by decide +kernel
def f_X11_alone_12 (w : Nat) : Nat → Nat → Int32 → Int32 → Int32 → mM → Option (Int32 × mM)
  | 0, _, _, _, _, _ => none
  | n + 1, o0, x1, x2, x3, M => (if (M.1 (rF o0 0) 2) ≤ x3 then some (x2, M) else bI (f_X9_companyOf w (rF o0 6) x3 x1 M) fun q2 M1 => (if q2 = 0 then lt (x2 ||| ((1 : Int32) <<< (x3 &&& 31))) fun y3 => (f_X11_alone_12 w n o0 x1 y3 (x3 + 1) M1) else (f_X11_alone_12 w n o0 x1 x2 (x3 + 1) M1)))
set_option maxHeartbeats 4000000 in
set_option maxRecDepth 100000 in
theorem s_X11_alone_12 {l : Launch} {G : mG} {sk : List mS} (w : Nat) : ∀ (n : Nat) (o0 : Nat) (h0 : isK o0 21) (x1 : Int32) (x2 : Int32) (x3 : Int32) (M : mM), Go muX11_alone (rm 4) 0 0 l G sk (mFin G sk eI) (f_X11_alone_12 w n o0 x1 x2 x3 M) 12 [(0, .ref (gB G + o0)), (1, .int x1), (2, .int x2), (3, .int x3)] [] M := by
  intro n
  induction n with
  | zero =>
    intros
    exact go_none
  | succ n ih =>
    intro o0 h0 x1 x2 x3 M
    rw [f_X11_alone_12]
    refine go_iload_n 3 13 dX11_alone_12 rfl rfl ?_
    refine go_aload_n 0 14 dX11_alone_13 rfl rfl ?_
    refine go_getR flX11_10 h0 17 dX11_alone_14 rfl ?_
    refine go_getI flX11_182 (by decide) (rk11_0 h0) 20 dX11_alone_17 rfl ?_
    refine go_icmp_ge 47 23 dX11_alone_20 rfl (by decide) (fun _ => ?_) (fun _ => ?_)
    · refine go_iload_n 2 48 dX11_alone_47 rfl rfl ?_
      exact go_iret rfl dX11_alone_48
    · refine go_aload_n 0 24 dX11_alone_23 rfl rfl ?_
      refine go_getR flX11_51 h0 27 dX11_alone_24 rfl ?_
      refine go_iload_n 3 28 dX11_alone_27 rfl rfl ?_
      refine go_iload_n 1 29 dX11_alone_28 rfl rfl ?_
      refine go_cVI2 2 clX9 cwX11_266 (m_X9_companyOf w (rF o0 6) (rk11_6 h0) x3 x1 M) (rk11_6 h0) 32 dX11_alone_29 rfl ⟨Nat.le_of_ble_eq_true rfl, Nat.le_of_ble_eq_true rfl⟩ ⟨Nat.zero_le _, Nat.zero_le _⟩ (Nat.le_of_ble_eq_true rfl) (fun q2 M1 _ => ?_)
      refine go_if_ne 41 35 dX11_alone_32 rfl (by decide) (fun _ => ?_) (fun _ => ?_)
      · refine go_iinc (x3 + 1) 3 [(3, .int (x3 + 1)), (0, .ref (gB G + o0)), (1, .int x1), (2, .int x2)] 44 dX11_alone_41 rfl rfl rfl (by decide) rfl ?_
        refine go_goto 12 dX11_alone_44 (by decide) ?_
        exact go_lv [1, 2, 3, 0] rfl (ih o0 h0 x1 x2 (x3 + 1) M1)
      · refine go_iload_n 2 36 dX11_alone_35 rfl rfl ?_
        refine go_iconst 1 37 dX11_alone_36 rfl (by decide) ?_
        refine go_iload_n 3 38 dX11_alone_37 rfl rfl ?_
        refine go_ishl 39 dX11_alone_38 rfl ?_
        refine go_ior 40 dX11_alone_39 rfl ?_
        refine go_nmI (fun y3 => ?_)
        refine go_istore_n [(2, .int y3), (0, .ref (gB G + o0)), (1, .int x1), (3, .int x3)] 41 dX11_alone_40 rfl rfl (by decide) rfl ?_
        refine go_iinc (x3 + 1) 3 [(3, .int (x3 + 1)), (2, .int y3), (0, .ref (gB G + o0)), (1, .int x1)] 44 dX11_alone_41 rfl rfl rfl (by decide) rfl ?_
        refine go_goto 12 dX11_alone_44 (by decide) ?_
        exact go_lv [2, 3, 1, 0] rfl (ih o0 h0 x1 y3 (x3 + 1) M1)
def f_X11_alone (w : Nat) (o0 : Nat) (M : mM) : Option (Int32 × mM) := bI (f_X9_openDoors w (rF o0 6) M) fun q2 M1 => (f_X11_alone_12 w w o0 q2 0 0 M1)
set_option maxHeartbeats 4000000 in
set_option maxRecDepth 100000 in
theorem s_X11_alone {l : Launch} {G : mG} {sk : List mS} (w : Nat) (o0 : Nat) (h0 : isK o0 21) (M : mM) : Go muX11_alone (rm 4) 0 0 l G sk (mFin G sk eI) (f_X11_alone w o0 M) 0 [(0, .ref (gB G + o0))] [] M := by
  unfold f_X11_alone
  refine go_aload_n 0 1 dX11_alone_0 rfl rfl ?_
  refine go_getR flX11_51 h0 4 dX11_alone_1 rfl ?_
  refine go_cVI0 3 clX9 cwX11_259 (m_X9_openDoors w (rF o0 6) (rk11_6 h0) M) (rk11_6 h0) 7 dX11_alone_4 rfl ⟨Nat.le_of_ble_eq_true rfl, Nat.le_of_ble_eq_true rfl⟩ ⟨Nat.zero_le _, Nat.zero_le _⟩ (Nat.le_of_ble_eq_true rfl) (fun q2 M1 _ => ?_)
  refine go_istore_n [(1, .int q2), (0, .ref (gB G + o0))] 8 dX11_alone_7 rfl rfl (by decide) rfl ?_
  refine go_iconst 0 9 dX11_alone_8 rfl (by decide) ?_
  refine go_istore_n [(2, .int 0), (1, .int q2), (0, .ref (gB G + o0))] 10 dX11_alone_9 rfl rfl (by decide) rfl ?_
  refine go_iconst 0 11 dX11_alone_10 rfl (by decide) ?_
  refine go_istore_n [(3, .int 0), (2, .int 0), (1, .int q2), (0, .ref (gB G + o0))] 12 dX11_alone_11 rfl rfl (by decide) rfl ?_
  exact go_lv [3, 2, 1, 0] rfl (s_X11_alone_12 w w o0 h0 q2 0 0 M1)
theorem m_X11_alone {l : Launch} {G : mG} {sk : List mS} (w : Nat) (o0 : Nat) (h0 : isK o0 21) (M : mM) : Mt l G sk yX11_alone muX11_alone 4 [.ref (gB G + o0)] M eI (f_X11_alone w o0 M) := Mt.of (by decide) rfl (Nat.le_of_ble_eq_true rfl) (s_X11_alone w o0 h0 M)
theorem dX11_rattles_0 : decode cX11_rattles 0 = .ok (.iconst 0, 1) := by decide +kernel
theorem dX11_rattles_1 : decode cX11_rattles 1 = .ok (.istore_n 1, 1) := by decide +kernel
theorem dX11_rattles_2 : decode cX11_rattles 2 = .ok (.iconst 0, 1) := by decide +kernel
theorem dX11_rattles_3 : decode cX11_rattles 3 = .ok (.istore_n 2, 1) := by decide +kernel
theorem dX11_rattles_4 : decode cX11_rattles 4 = .ok (.iload_n 2, 1) := by decide +kernel
theorem dX11_rattles_5 : decode cX11_rattles 5 = .ok (.aload_n 0, 1) := by decide +kernel
theorem dX11_rattles_6 : decode cX11_rattles 6 = .ok (.getfield 10, 3) := by decide +kernel
theorem dX11_rattles_9 : decode cX11_rattles 9 = .ok (.getfield 179, 3) := by decide +kernel
theorem dX11_rattles_12 : decode cX11_rattles 12 = .ok (.if_icmp .ge 39, 3) := by decide +kernel
theorem dX11_rattles_15 : decode cX11_rattles 15 = .ok (.aload_n 0, 1) := by decide +kernel
theorem dX11_rattles_16 : decode cX11_rattles 16 = .ok (.getfield 51, 3) := by decide +kernel
theorem dX11_rattles_19 : decode cX11_rattles 19 = .ok (.getfield 158, 3) := by decide +kernel
theorem dX11_rattles_22 : decode cX11_rattles 22 = .ok (.iload_n 2, 1) := by decide +kernel
theorem dX11_rattles_23 : decode cX11_rattles 23 = .ok (.iaload, 1) := by decide +kernel
theorem dX11_rattles_24 : decode cX11_rattles 24 = .ok (.aload_n 0, 1) := by decide +kernel
theorem dX11_rattles_25 : decode cX11_rattles 25 = .ok (.getfield 51, 3) := by decide +kernel
theorem dX11_rattles_28 : decode cX11_rattles 28 = .ok (.getfield 161, 3) := by decide +kernel
theorem dX11_rattles_31 : decode cX11_rattles 31 = .ok (.iload_n 2, 1) := by decide +kernel
theorem dX11_rattles_32 : decode cX11_rattles 32 = .ok (.iaload, 1) := by decide +kernel
theorem dX11_rattles_33 : decode cX11_rattles 33 = .ok (.bipush 6, 2) := by decide +kernel
theorem dX11_rattles_35 : decode cX11_rattles 35 = .ok (.iadd, 1) := by decide +kernel
theorem dX11_rattles_36 : decode cX11_rattles 36 = .ok (.if_icmp .lt 9, 3) := by decide +kernel
theorem dX11_rattles_39 : decode cX11_rattles 39 = .ok (.iload_n 1, 1) := by decide +kernel
theorem dX11_rattles_40 : decode cX11_rattles 40 = .ok (.iconst 1, 1) := by decide +kernel
theorem dX11_rattles_41 : decode cX11_rattles 41 = .ok (.iload_n 2, 1) := by decide +kernel
theorem dX11_rattles_42 : decode cX11_rattles 42 = .ok (.ishl, 1) := by decide +kernel
theorem dX11_rattles_43 : decode cX11_rattles 43 = .ok (.ior, 1) := by decide +kernel
theorem dX11_rattles_44 : decode cX11_rattles 44 = .ok (.istore_n 1, 1) := by decide +kernel
theorem dX11_rattles_45 : decode cX11_rattles 45 = .ok (.iinc 2 1, 3) := by decide +kernel
theorem dX11_rattles_48 : decode cX11_rattles 48 = .ok (.goto (-44), 3) := by decide +kernel
theorem dX11_rattles_51 : decode cX11_rattles 51 = .ok (.iload_n 1, 1) := by decide +kernel
theorem dX11_rattles_52 : decode cX11_rattles 52 = .ok (.ireturn, 1) := by decide +kernel
def f_X11_rattles_4 (w : Nat) : Nat → Nat → Int32 → Int32 → mM → Option (Int32 × mM)
  | 0, _, _, _, _ => none
  | n + 1, o0, x1, x2, M => (if (M.1 (rF o0 0) 1) ≤ x2 then some (x1, M) else chk x2 (sL (rF (rF o0 6) 3)) (chk x2 (sL (rF (rF o0 6) 4)) ((if (M.1 (rF (rF o0 6) 3) x2.toNatClampNeg) < ((M.1 (rF (rF o0 6) 4) x2.toNatClampNeg) + 6) then (f_X11_rattles_4 w n o0 x1 (x2 + 1) M) else lt (x1 ||| ((1 : Int32) <<< (x2 &&& 31))) fun y1 => (f_X11_rattles_4 w n o0 y1 (x2 + 1) M)))))
set_option maxHeartbeats 4000000 in
set_option maxRecDepth 100000 in
theorem s_X11_rattles_4 {l : Launch} {G : mG} {sk : List mS} (w : Nat) : ∀ (n : Nat) (o0 : Nat) (h0 : isK o0 21) (x1 : Int32) (x2 : Int32) (M : mM), Go muX11_rattles (rm 0) 0 0 l G sk (mFin G sk eI) (f_X11_rattles_4 w n o0 x1 x2 M) 4 [(0, .ref (gB G + o0)), (1, .int x1), (2, .int x2)] [] M := by
  intro n
  induction n with
  | zero =>
    intros
    exact go_none
  | succ n ih =>
    intro o0 h0 x1 x2 M
    rw [f_X11_rattles_4]
    refine go_iload_n 2 5 dX11_rattles_4 rfl rfl ?_
    refine go_aload_n 0 6 dX11_rattles_5 rfl rfl ?_
    refine go_getR flX11_10 h0 9 dX11_rattles_6 rfl ?_
    refine go_getI flX11_179 (by decide) (rk11_0 h0) 12 dX11_rattles_9 rfl ?_
    refine go_icmp_ge 51 15 dX11_rattles_12 rfl (by decide) (fun _ => ?_) (fun _ => ?_)
    · refine go_iload_n 1 52 dX11_rattles_51 rfl rfl ?_
      exact go_iret rfl dX11_rattles_52
    · refine go_aload_n 0 16 dX11_rattles_15 rfl rfl ?_
      refine go_getR flX11_51 h0 19 dX11_rattles_16 rfl ?_
      refine go_getR flX11_158 (rk11_6 h0) 22 dX11_rattles_19 rfl ?_
      refine go_iload_n 2 23 dX11_rattles_22 rfl rfl ?_
      refine go_iald (rk9_3 (rk11_6 h0)) 24 dX11_rattles_23 rfl ?_
      refine go_aload_n 0 25 dX11_rattles_24 rfl rfl ?_
      refine go_getR flX11_51 h0 28 dX11_rattles_25 rfl ?_
      refine go_getR flX11_161 (rk11_6 h0) 31 dX11_rattles_28 rfl ?_
      refine go_iload_n 2 32 dX11_rattles_31 rfl rfl ?_
      refine go_iald (rk9_4 (rk11_6 h0)) 33 dX11_rattles_32 rfl ?_
      refine go_bipush 6 35 dX11_rattles_33 rfl (by decide) ?_
      refine go_iadd 36 dX11_rattles_35 rfl ?_
      refine go_icmp_lt 45 39 dX11_rattles_36 rfl (by decide) (fun _ => ?_) (fun _ => ?_)
      · refine go_iinc (x2 + 1) 2 [(2, .int (x2 + 1)), (0, .ref (gB G + o0)), (1, .int x1)] 48 dX11_rattles_45 rfl rfl rfl (by decide) rfl ?_
        refine go_goto 4 dX11_rattles_48 (by decide) ?_
        exact go_lv [1, 2, 0] rfl (ih o0 h0 x1 (x2 + 1) M)
      · refine go_iload_n 1 40 dX11_rattles_39 rfl rfl ?_
        refine go_iconst 1 41 dX11_rattles_40 rfl (by decide) ?_
        refine go_iload_n 2 42 dX11_rattles_41 rfl rfl ?_
        refine go_ishl 43 dX11_rattles_42 rfl ?_
        refine go_ior 44 dX11_rattles_43 rfl ?_
        refine go_nmI (fun y1 => ?_)
        refine go_istore_n [(1, .int y1), (0, .ref (gB G + o0)), (2, .int x2)] 45 dX11_rattles_44 rfl rfl (by decide) rfl ?_
        refine go_iinc (x2 + 1) 2 [(2, .int (x2 + 1)), (1, .int y1), (0, .ref (gB G + o0))] 48 dX11_rattles_45 rfl rfl rfl (by decide) rfl ?_
        refine go_goto 4 dX11_rattles_48 (by decide) ?_
        exact go_lv [2, 1, 0] rfl (ih o0 h0 y1 (x2 + 1) M)
def f_X11_rattles (w : Nat) (o0 : Nat) (M : mM) : Option (Int32 × mM) := (f_X11_rattles_4 w w o0 0 0 M)
set_option maxHeartbeats 4000000 in
set_option maxRecDepth 100000 in
theorem s_X11_rattles {l : Launch} {G : mG} {sk : List mS} (w : Nat) (o0 : Nat) (h0 : isK o0 21) (M : mM) : Go muX11_rattles (rm 0) 0 0 l G sk (mFin G sk eI) (f_X11_rattles w o0 M) 0 [(0, .ref (gB G + o0))] [] M := by
  unfold f_X11_rattles
  refine go_iconst 0 1 dX11_rattles_0 rfl (by decide) ?_
  refine go_istore_n [(1, .int 0), (0, .ref (gB G + o0))] 2 dX11_rattles_1 rfl rfl (by decide) rfl ?_
  refine go_iconst 0 3 dX11_rattles_2 rfl (by decide) ?_
  refine go_istore_n [(2, .int 0), (1, .int 0), (0, .ref (gB G + o0))] 4 dX11_rattles_3 rfl rfl (by decide) rfl ?_
  exact go_lv [2, 1, 0] rfl (s_X11_rattles_4 w w o0 h0 0 0 M)
theorem m_X11_rattles {l : Launch} {G : mG} {sk : List mS} (w : Nat) (o0 : Nat) (h0 : isK o0 21) (M : mM) : Mt l G sk yX11_rattles muX11_rattles 0 [.ref (gB G + o0)] M eI (f_X11_rattles w o0 M) := Mt.of (by decide) rfl (Nat.le_of_ble_eq_true rfl) (s_X11_rattles w o0 h0 M)
theorem dX11_parts_0 : decode cX11_parts 0 = .ok (.aload_n 0, 1) := by decide +kernel
theorem dX11_parts_1 : decode cX11_parts 1 = .ok (.getfield 51, 3) := by decide +kernel
theorem dX11_parts_4 : decode cX11_parts 4 = .ok (.invokevirtual 259, 3) := by decide +kernel
theorem dX11_parts_7 : decode cX11_parts 7 = .ok (.istore_n 1, 1) := by decide +kernel
theorem dX11_parts_8 : decode cX11_parts 8 = .ok (.iconst 0, 1) := by decide +kernel
theorem dX11_parts_9 : decode cX11_parts 9 = .ok (.istore_n 2, 1) := by decide +kernel
theorem dX11_parts_10 : decode cX11_parts 10 = .ok (.iconst 0, 1) := by decide +kernel
theorem dX11_parts_11 : decode cX11_parts 11 = .ok (.istore_n 3, 1) := by decide +kernel
theorem dX11_parts_12 : decode cX11_parts 12 = .ok (.iconst 0, 1) := by decide +kernel
theorem dX11_parts_13 : decode cX11_parts 13 = .ok (.istore 4, 2) := by decide +kernel
theorem dX11_parts_15 : decode cX11_parts 15 = .ok (.iload 4, 2) := by decide +kernel
theorem dX11_parts_17 : decode cX11_parts 17 = .ok (.aload_n 0, 1) := by decide +kernel
theorem dX11_parts_18 : decode cX11_parts 18 = .ok (.getfield 10, 3) := by decide +kernel
theorem dX11_parts_21 : decode cX11_parts 21 = .ok (.getfield 176, 3) := by decide +kernel
theorem dX11_parts_24 : decode cX11_parts 24 = .ok (.if_icmp .ge 34, 3) := by decide +kernel
theorem dX11_parts_27 : decode cX11_parts 27 = .ok (.iload_n 2, 1) := by decide +kernel
theorem dX11_parts_28 : decode cX11_parts 28 = .ok (.iload 4, 2) := by decide +kernel
theorem dX11_parts_30 : decode cX11_parts 30 = .ok (.ishr, 1) := by decide +kernel
theorem dX11_parts_31 : decode cX11_parts 31 = .ok (.iconst 1, 1) := by decide +kernel
theorem dX11_parts_32 : decode cX11_parts 32 = .ok (.iand, 1) := by decide +kernel
theorem dX11_parts_33 : decode cX11_parts 33 = .ok (.ifCond .ne 19, 3) := by decide +kernel
theorem dX11_parts_36 : decode cX11_parts 36 = .ok (.iload_n 2, 1) := by decide +kernel
theorem dX11_parts_37 : decode cX11_parts 37 = .ok (.aload_n 0, 1) := by decide +kernel
theorem dX11_parts_38 : decode cX11_parts 38 = .ok (.getfield 10, 3) := by decide +kernel
theorem dX11_parts_41 : decode cX11_parts 41 = .ok (.iload 4, 2) := by decide +kernel
theorem dX11_parts_43 : decode cX11_parts 43 = .ok (.iload_n 1, 1) := by decide +kernel
theorem dX11_parts_44 : decode cX11_parts 44 = .ok (.invokevirtual 262, 3) := by decide +kernel
theorem dX11_parts_47 : decode cX11_parts 47 = .ok (.ior, 1) := by decide +kernel
theorem dX11_parts_48 : decode cX11_parts 48 = .ok (.istore_n 2, 1) := by decide +kernel
theorem dX11_parts_49 : decode cX11_parts 49 = .ok (.iinc 3 1, 3) := by decide +kernel
theorem dX11_parts_52 : decode cX11_parts 52 = .ok (.iinc 4 1, 3) := by decide +kernel
theorem dX11_parts_55 : decode cX11_parts 55 = .ok (.goto (-40), 3) := by decide +kernel
theorem dX11_parts_58 : decode cX11_parts 58 = .ok (.iload_n 3, 1) := by decide +kernel
theorem dX11_parts_59 : decode cX11_parts 59 = .ok (.ireturn, 1) := by decide +kernel
def f_X11_parts_15 (w : Nat) : Nat → Nat → Int32 → Int32 → Int32 → Int32 → mM → Option (Int32 × mM)
  | 0, _, _, _, _, _, _ => none
  | n + 1, o0, x1, x2, x3, x4, M => (if (M.1 (rF o0 0) 0) ≤ x4 then some (x3, M) else (if ((x2 >>> (x4 &&& 31)) &&& 1) = 0 then bI (f_X6_roomsReached w (rF o0 0) x4 x1 M) fun q2 M1 => lt (x2 ||| q2) fun y3 => (f_X11_parts_15 w n o0 x1 y3 (x3 + 1) (x4 + 1) M1) else (f_X11_parts_15 w n o0 x1 x2 x3 (x4 + 1) M)))
set_option maxHeartbeats 4000000 in
set_option maxRecDepth 100000 in
theorem s_X11_parts_15 {l : Launch} {G : mG} {sk : List mS} (w : Nat) : ∀ (n : Nat) (o0 : Nat) (h0 : isK o0 21) (x1 : Int32) (x2 : Int32) (x3 : Int32) (x4 : Int32) (M : mM), Go muX11_parts (rm 4) 0 0 l G sk (mFin G sk eI) (f_X11_parts_15 w n o0 x1 x2 x3 x4 M) 15 [(0, .ref (gB G + o0)), (1, .int x1), (2, .int x2), (3, .int x3), (4, .int x4)] [] M := by
  intro n
  induction n with
  | zero =>
    intros
    exact go_none
  | succ n ih =>
    intro o0 h0 x1 x2 x3 x4 M
    rw [f_X11_parts_15]
    refine go_iload 4 17 dX11_parts_15 rfl rfl ?_
    refine go_aload_n 0 18 dX11_parts_17 rfl rfl ?_
    refine go_getR flX11_10 h0 21 dX11_parts_18 rfl ?_
    refine go_getI flX11_176 (by decide) (rk11_0 h0) 24 dX11_parts_21 rfl ?_
    refine go_icmp_ge 58 27 dX11_parts_24 rfl (by decide) (fun _ => ?_) (fun _ => ?_)
    · refine go_iload_n 3 59 dX11_parts_58 rfl rfl ?_
      exact go_iret rfl dX11_parts_59
    · refine go_iload_n 2 28 dX11_parts_27 rfl rfl ?_
      refine go_iload 4 30 dX11_parts_28 rfl rfl ?_
      refine go_ishr 31 dX11_parts_30 rfl ?_
      refine go_iconst 1 32 dX11_parts_31 rfl (by decide) ?_
      refine go_iand 33 dX11_parts_32 rfl ?_
      refine go_if_ne 52 36 dX11_parts_33 rfl (by decide) (fun _ => ?_) (fun _ => ?_)
      · refine go_iinc (x4 + 1) 4 [(4, .int (x4 + 1)), (0, .ref (gB G + o0)), (1, .int x1), (2, .int x2), (3, .int x3)] 55 dX11_parts_52 rfl rfl rfl (by decide) rfl ?_
        refine go_goto 15 dX11_parts_55 (by decide) ?_
        exact go_lv [1, 2, 3, 4, 0] rfl (ih o0 h0 x1 x2 x3 (x4 + 1) M)
      · refine go_iload_n 2 37 dX11_parts_36 rfl rfl ?_
        refine go_aload_n 0 38 dX11_parts_37 rfl rfl ?_
        refine go_getR flX11_10 h0 41 dX11_parts_38 rfl ?_
        refine go_iload 4 43 dX11_parts_41 rfl rfl ?_
        refine go_iload_n 1 44 dX11_parts_43 rfl rfl ?_
        refine go_cVI2 1 clX6 cwX11_262 (m_X6_roomsReached w (rF o0 0) (rk11_0 h0) x4 x1 M) (rk11_0 h0) 47 dX11_parts_44 rfl ⟨Nat.le_of_ble_eq_true rfl, Nat.le_of_ble_eq_true rfl⟩ ⟨Nat.zero_le _, Nat.zero_le _⟩ (Nat.le_of_ble_eq_true rfl) (fun q2 M1 _ => ?_)
        refine go_ior 48 dX11_parts_47 rfl ?_
        refine go_nmI (fun y3 => ?_)
        refine go_istore_n [(2, .int y3), (0, .ref (gB G + o0)), (1, .int x1), (3, .int x3), (4, .int x4)] 49 dX11_parts_48 rfl rfl (by decide) rfl ?_
        refine go_iinc (x3 + 1) 3 [(3, .int (x3 + 1)), (2, .int y3), (0, .ref (gB G + o0)), (1, .int x1), (4, .int x4)] 52 dX11_parts_49 rfl rfl rfl (by decide) rfl ?_
        refine go_iinc (x4 + 1) 4 [(4, .int (x4 + 1)), (3, .int (x3 + 1)), (2, .int y3), (0, .ref (gB G + o0)), (1, .int x1)] 55 dX11_parts_52 rfl rfl rfl (by decide) rfl ?_
        refine go_goto 15 dX11_parts_55 (by decide) ?_
        exact go_lv [3, 4, 2, 1, 0] rfl (ih o0 h0 x1 y3 (x3 + 1) (x4 + 1) M1)
def f_X11_parts (w : Nat) (o0 : Nat) (M : mM) : Option (Int32 × mM) := bI (f_X9_openDoors w (rF o0 6) M) fun q2 M1 => (f_X11_parts_15 w w o0 q2 0 0 0 M1)
set_option maxHeartbeats 4000000 in
set_option maxRecDepth 100000 in
theorem s_X11_parts {l : Launch} {G : mG} {sk : List mS} (w : Nat) (o0 : Nat) (h0 : isK o0 21) (M : mM) : Go muX11_parts (rm 4) 0 0 l G sk (mFin G sk eI) (f_X11_parts w o0 M) 0 [(0, .ref (gB G + o0))] [] M := by
  unfold f_X11_parts
  refine go_aload_n 0 1 dX11_parts_0 rfl rfl ?_
  refine go_getR flX11_51 h0 4 dX11_parts_1 rfl ?_
  refine go_cVI0 3 clX9 cwX11_259 (m_X9_openDoors w (rF o0 6) (rk11_6 h0) M) (rk11_6 h0) 7 dX11_parts_4 rfl ⟨Nat.le_of_ble_eq_true rfl, Nat.le_of_ble_eq_true rfl⟩ ⟨Nat.zero_le _, Nat.zero_le _⟩ (Nat.le_of_ble_eq_true rfl) (fun q2 M1 _ => ?_)
  refine go_istore_n [(1, .int q2), (0, .ref (gB G + o0))] 8 dX11_parts_7 rfl rfl (by decide) rfl ?_
  refine go_iconst 0 9 dX11_parts_8 rfl (by decide) ?_
  refine go_istore_n [(2, .int 0), (1, .int q2), (0, .ref (gB G + o0))] 10 dX11_parts_9 rfl rfl (by decide) rfl ?_
  refine go_iconst 0 11 dX11_parts_10 rfl (by decide) ?_
  refine go_istore_n [(3, .int 0), (2, .int 0), (1, .int q2), (0, .ref (gB G + o0))] 12 dX11_parts_11 rfl rfl (by decide) rfl ?_
  refine go_iconst 0 13 dX11_parts_12 rfl (by decide) ?_
  refine go_istore [(4, .int 0), (3, .int 0), (2, .int 0), (1, .int q2), (0, .ref (gB G + o0))] 15 dX11_parts_13 rfl (by decide) rfl ?_
  exact go_lv [4, 3, 2, 1, 0] rfl (s_X11_parts_15 w w o0 h0 q2 0 0 0 M1)
theorem m_X11_parts {l : Launch} {G : mG} {sk : List mS} (w : Nat) (o0 : Nat) (h0 : isK o0 21) (M : mM) : Mt l G sk yX11_parts muX11_parts 4 [.ref (gB G + o0)] M eI (f_X11_parts w o0 M) := Mt.of (by decide) rfl (Nat.le_of_ble_eq_true rfl) (s_X11_parts w o0 h0 M)
theorem dX11_bride_0 : decode cX11_bride 0 = .ok (.aload_n 0, 1) := by decide +kernel
theorem dX11_bride_1 : decode cX11_bride 1 = .ok (.getfield 51, 3) := by decide +kernel
theorem dX11_bride_4 : decode cX11_bride 4 = .ok (.invokevirtual 259, 3) := by decide +kernel
theorem dX11_bride_7 : decode cX11_bride 7 = .ok (.istore_n 1, 1) := by decide +kernel
theorem dX11_bride_8 : decode cX11_bride 8 = .ok (.iconst (-1), 1) := by decide +kernel
theorem dX11_bride_9 : decode cX11_bride 9 = .ok (.istore_n 2, 1) := by decide +kernel
theorem dX11_bride_10 : decode cX11_bride 10 = .ok (.bipush 8, 2) := by decide +kernel
theorem dX11_bride_12 : decode cX11_bride 12 = .ok (.istore_n 3, 1) := by decide +kernel
theorem dX11_bride_13 : decode cX11_bride 13 = .ok (.iconst 0, 1) := by decide +kernel
theorem dX11_bride_14 : decode cX11_bride 14 = .ok (.istore 4, 2) := by decide +kernel
theorem dX11_bride_16 : decode cX11_bride 16 = .ok (.iload 4, 2) := by decide +kernel
theorem dX11_bride_18 : decode cX11_bride 18 = .ok (.aload_n 0, 1) := by decide +kernel
theorem dX11_bride_19 : decode cX11_bride 19 = .ok (.getfield 10, 3) := by decide +kernel
theorem dX11_bride_22 : decode cX11_bride 22 = .ok (.getfield 182, 3) := by decide +kernel
theorem dX11_bride_25 : decode cX11_bride 25 = .ok (.if_icmp .ge 44, 3) := by decide +kernel
theorem dX11_bride_28 : decode cX11_bride 28 = .ok (.aload_n 0, 1) := by decide +kernel
theorem dX11_bride_29 : decode cX11_bride 29 = .ok (.getfield 10, 3) := by decide +kernel
theorem dX11_bride_32 : decode cX11_bride 32 = .ok (.aload_n 0, 1) := by decide +kernel
theorem dX11_bride_33 : decode cX11_bride 33 = .ok (.getfield 51, 3) := by decide +kernel
theorem dX11_bride_36 : decode cX11_bride 36 = .ok (.getfield 173, 3) := by decide +kernel
theorem dX11_bride_39 : decode cX11_bride 39 = .ok (.iload 4, 2) := by decide +kernel
theorem dX11_bride_41 : decode cX11_bride 41 = .ok (.iaload, 1) := by decide +kernel
theorem dX11_bride_42 : decode cX11_bride 42 = .ok (.iload_n 1, 1) := by decide +kernel
theorem dX11_bride_43 : decode cX11_bride 43 = .ok (.invokevirtual 262, 3) := by decide +kernel
theorem dX11_bride_46 : decode cX11_bride 46 = .ok (.invokestatic 251, 3) := by decide +kernel
theorem dX11_bride_49 : decode cX11_bride 49 = .ok (.istore 5, 2) := by decide +kernel
theorem dX11_bride_51 : decode cX11_bride 51 = .ok (.iload 5, 2) := by decide +kernel
theorem dX11_bride_53 : decode cX11_bride 53 = .ok (.iload_n 3, 1) := by decide +kernel
theorem dX11_bride_54 : decode cX11_bride 54 = .ok (.if_icmp .ge 9, 3) := by decide +kernel
theorem dX11_bride_57 : decode cX11_bride 57 = .ok (.iload 5, 2) := by decide +kernel
theorem dX11_bride_59 : decode cX11_bride 59 = .ok (.istore_n 3, 1) := by decide +kernel
theorem dX11_bride_60 : decode cX11_bride 60 = .ok (.iload 4, 2) := by decide +kernel
theorem dX11_bride_62 : decode cX11_bride 62 = .ok (.istore_n 2, 1) := by decide +kernel
theorem dX11_bride_63 : decode cX11_bride 63 = .ok (.iinc 4 1, 3) := by decide +kernel
theorem dX11_bride_66 : decode cX11_bride 66 = .ok (.goto (-50), 3) := by decide +kernel
theorem dX11_bride_69 : decode cX11_bride 69 = .ok (.iload_n 2, 1) := by decide +kernel
theorem dX11_bride_70 : decode cX11_bride 70 = .ok (.ireturn, 1) := by decide +kernel
def f_X11_bride_16 (w : Nat) : Nat → Nat → Int32 → Int32 → Int32 → Int32 → mM → Option (Int32 × mM)
  | 0, _, _, _, _, _, _ => none
  | n + 1, o0, x1, x2, x3, x4, M => (if (M.1 (rF o0 0) 2) ≤ x4 then some (x2, M) else chk x4 (sL (rF (rF o0 6) 5)) (bI (f_X6_roomsReached w (rF o0 0) (M.1 (rF (rF o0 6) 5) x4.toNatClampNeg) x1 M) fun q2 M1 => bI (f_J6_bitCount_0f7a4 w q2 M1) fun q4 M3 => (if x3 ≤ q4 then (f_X11_bride_16 w n o0 x1 x2 x3 (x4 + 1) M3) else (f_X11_bride_16 w n o0 x1 x4 q4 (x4 + 1) M3))))
set_option maxHeartbeats 4000000 in
set_option maxRecDepth 100000 in
theorem s_X11_bride_16 {l : Launch} {G : mG} {sk : List mS} (w : Nat) : ∀ (n : Nat) (o0 : Nat) (h0 : isK o0 21) (x1 : Int32) (x2 : Int32) (x3 : Int32) (x4 : Int32) (M : mM), Go muX11_bride (rm 4) 0 0 l G sk (mFin G sk eI) (f_X11_bride_16 w n o0 x1 x2 x3 x4 M) 16 [(0, .ref (gB G + o0)), (1, .int x1), (2, .int x2), (3, .int x3), (4, .int x4)] [] M := by
  intro n
  induction n with
  | zero =>
    intros
    exact go_none
  | succ n ih =>
    intro o0 h0 x1 x2 x3 x4 M
    rw [f_X11_bride_16]
    refine go_iload 4 18 dX11_bride_16 rfl rfl ?_
    refine go_aload_n 0 19 dX11_bride_18 rfl rfl ?_
    refine go_getR flX11_10 h0 22 dX11_bride_19 rfl ?_
    refine go_getI flX11_182 (by decide) (rk11_0 h0) 25 dX11_bride_22 rfl ?_
    refine go_icmp_ge 69 28 dX11_bride_25 rfl (by decide) (fun _ => ?_) (fun _ => ?_)
    · refine go_iload_n 2 70 dX11_bride_69 rfl rfl ?_
      exact go_iret rfl dX11_bride_70
    · refine go_aload_n 0 29 dX11_bride_28 rfl rfl ?_
      refine go_getR flX11_10 h0 32 dX11_bride_29 rfl ?_
      refine go_aload_n 0 33 dX11_bride_32 rfl rfl ?_
      refine go_getR flX11_51 h0 36 dX11_bride_33 rfl ?_
      refine go_getR flX11_173 (rk11_6 h0) 39 dX11_bride_36 rfl ?_
      refine go_iload 4 41 dX11_bride_39 rfl rfl ?_
      refine go_iald (rk9_5 (rk11_6 h0)) 42 dX11_bride_41 rfl ?_
      refine go_iload_n 1 43 dX11_bride_42 rfl rfl ?_
      refine go_cVI2 1 clX6 cwX11_262 (m_X6_roomsReached w (rF o0 0) (rk11_0 h0) (M.1 (rF (rF o0 6) 5) x4.toNatClampNeg) x1 M) (rk11_0 h0) 46 dX11_bride_43 rfl ⟨Nat.le_of_ble_eq_true rfl, Nat.le_of_ble_eq_true rfl⟩ ⟨Nat.zero_le _, Nat.zero_le _⟩ (Nat.le_of_ble_eq_true rfl) (fun q2 M1 _ => ?_)
      refine go_cSI1 0 cwX11_251 (m_J6_bitCount_0f7a4 w q2 M1) 49 dX11_bride_46 rfl ⟨Nat.le_of_ble_eq_true rfl, Nat.le_of_ble_eq_true rfl⟩ ⟨Nat.zero_le _, Nat.zero_le _⟩ (Nat.le_of_ble_eq_true rfl) (fun q4 M3 _ => ?_)
      refine go_istore [(5, .int q4), (0, .ref (gB G + o0)), (1, .int x1), (2, .int x2), (3, .int x3), (4, .int x4)] 51 dX11_bride_49 rfl (by decide) rfl ?_
      refine go_iload 0 53 dX11_bride_51 rfl rfl ?_
      refine go_iload_n 4 54 dX11_bride_53 rfl rfl ?_
      refine go_icmp_ge 63 57 dX11_bride_54 rfl (by decide) (fun _ => ?_) (fun _ => ?_)
      · refine go_iinc (x4 + 1) 5 [(4, .int (x4 + 1)), (5, .int q4), (0, .ref (gB G + o0)), (1, .int x1), (2, .int x2), (3, .int x3)] 66 dX11_bride_63 rfl rfl rfl (by decide) rfl ?_
        refine go_goto 16 dX11_bride_66 (by decide) ?_
        exact go_lv [2, 3, 4, 5, 0] rfl (ih o0 h0 x1 x2 x3 (x4 + 1) M3)
      · refine go_iload 0 59 dX11_bride_57 rfl rfl ?_
        refine go_istore_n [(3, .int q4), (5, .int q4), (0, .ref (gB G + o0)), (1, .int x1), (2, .int x2), (4, .int x4)] 60 dX11_bride_59 rfl rfl (by decide) rfl ?_
        refine go_iload 5 62 dX11_bride_60 rfl rfl ?_
        refine go_istore_n [(2, .int x4), (3, .int q4), (5, .int q4), (0, .ref (gB G + o0)), (1, .int x1), (4, .int x4)] 63 dX11_bride_62 rfl rfl (by decide) rfl ?_
        refine go_iinc (x4 + 1) 5 [(4, .int (x4 + 1)), (2, .int x4), (3, .int q4), (5, .int q4), (0, .ref (gB G + o0)), (1, .int x1)] 66 dX11_bride_63 rfl rfl rfl (by decide) rfl ?_
        refine go_goto 16 dX11_bride_66 (by decide) ?_
        exact go_lv [4, 5, 1, 2, 0] rfl (ih o0 h0 x1 x4 q4 (x4 + 1) M3)
def f_X11_bride (w : Nat) (o0 : Nat) (M : mM) : Option (Int32 × mM) := bI (f_X9_openDoors w (rF o0 6) M) fun q2 M1 => (f_X11_bride_16 w w o0 q2 (-1) 8 0 M1)
set_option maxHeartbeats 4000000 in
set_option maxRecDepth 100000 in
theorem s_X11_bride {l : Launch} {G : mG} {sk : List mS} (w : Nat) (o0 : Nat) (h0 : isK o0 21) (M : mM) : Go muX11_bride (rm 4) 0 0 l G sk (mFin G sk eI) (f_X11_bride w o0 M) 0 [(0, .ref (gB G + o0))] [] M := by
  unfold f_X11_bride
  refine go_aload_n 0 1 dX11_bride_0 rfl rfl ?_
  refine go_getR flX11_51 h0 4 dX11_bride_1 rfl ?_
  refine go_cVI0 3 clX9 cwX11_259 (m_X9_openDoors w (rF o0 6) (rk11_6 h0) M) (rk11_6 h0) 7 dX11_bride_4 rfl ⟨Nat.le_of_ble_eq_true rfl, Nat.le_of_ble_eq_true rfl⟩ ⟨Nat.zero_le _, Nat.zero_le _⟩ (Nat.le_of_ble_eq_true rfl) (fun q2 M1 _ => ?_)
  refine go_istore_n [(1, .int q2), (0, .ref (gB G + o0))] 8 dX11_bride_7 rfl rfl (by decide) rfl ?_
  refine go_iconst (-1) 9 dX11_bride_8 rfl (by decide) ?_
  refine go_istore_n [(2, .int (-1)), (1, .int q2), (0, .ref (gB G + o0))] 10 dX11_bride_9 rfl rfl (by decide) rfl ?_
  refine go_bipush 8 12 dX11_bride_10 rfl (by decide) ?_
  refine go_istore_n [(3, .int 8), (2, .int (-1)), (1, .int q2), (0, .ref (gB G + o0))] 13 dX11_bride_12 rfl rfl (by decide) rfl ?_
  refine go_iconst 0 14 dX11_bride_13 rfl (by decide) ?_
  refine go_istore [(4, .int 0), (3, .int 8), (2, .int (-1)), (1, .int q2), (0, .ref (gB G + o0))] 16 dX11_bride_14 rfl (by decide) rfl ?_
  exact go_lv [4, 3, 2, 1, 0] rfl (s_X11_bride_16 w w o0 h0 q2 (-1) 8 0 M1)
theorem m_X11_bride {l : Launch} {G : mG} {sk : List mS} (w : Nat) (o0 : Nat) (h0 : isK o0 21) (M : mM) : Mt l G sk yX11_bride muX11_bride 4 [.ref (gB G + o0)] M eI (f_X11_bride w o0 M) := Mt.of (by decide) rfl (Nat.le_of_ble_eq_true rfl) (s_X11_bride w o0 h0 M)
theorem dX11_worst_0 : decode cX11_worst 0 = .ok (.iconst (-1), 1) := by decide +kernel
theorem dX11_worst_1 : decode cX11_worst 1 = .ok (.istore_n 1, 1) := by decide +kernel
theorem dX11_worst_2 : decode cX11_worst 2 = .ok (.iconst 0, 1) := by decide +kernel
theorem dX11_worst_3 : decode cX11_worst 3 = .ok (.istore_n 2, 1) := by decide +kernel
theorem dX11_worst_4 : decode cX11_worst 4 = .ok (.iconst 0, 1) := by decide +kernel
theorem dX11_worst_5 : decode cX11_worst 5 = .ok (.istore_n 3, 1) := by decide +kernel
theorem dX11_worst_6 : decode cX11_worst 6 = .ok (.iload_n 3, 1) := by decide +kernel
theorem dX11_worst_7 : decode cX11_worst 7 = .ok (.aload_n 0, 1) := by decide +kernel
theorem dX11_worst_8 : decode cX11_worst 8 = .ok (.getfield 10, 3) := by decide +kernel
theorem dX11_worst_11 : decode cX11_worst 11 = .ok (.getfield 179, 3) := by decide +kernel
theorem dX11_worst_14 : decode cX11_worst 14 = .ok (.if_icmp .ge 52, 3) := by decide +kernel
theorem dX11_worst_17 : decode cX11_worst 17 = .ok (.aload_n 0, 1) := by decide +kernel
theorem dX11_worst_18 : decode cX11_worst 18 = .ok (.getfield 51, 3) := by decide +kernel
theorem dX11_worst_21 : decode cX11_worst 21 = .ok (.getfield 161, 3) := by decide +kernel
theorem dX11_worst_24 : decode cX11_worst 24 = .ok (.iload_n 3, 1) := by decide +kernel
theorem dX11_worst_25 : decode cX11_worst 25 = .ok (.iaload, 1) := by decide +kernel
theorem dX11_worst_26 : decode cX11_worst 26 = .ok (.aload_n 0, 1) := by decide +kernel
theorem dX11_worst_27 : decode cX11_worst 27 = .ok (.getfield 51, 3) := by decide +kernel
theorem dX11_worst_30 : decode cX11_worst 30 = .ok (.getfield 158, 3) := by decide +kernel
theorem dX11_worst_33 : decode cX11_worst 33 = .ok (.iload_n 3, 1) := by decide +kernel
theorem dX11_worst_34 : decode cX11_worst 34 = .ok (.iaload, 1) := by decide +kernel
theorem dX11_worst_35 : decode cX11_worst 35 = .ok (.isub, 1) := by decide +kernel
theorem dX11_worst_36 : decode cX11_worst 36 = .ok (.istore 4, 2) := by decide +kernel
theorem dX11_worst_38 : decode cX11_worst 38 = .ok (.aload_n 0, 1) := by decide +kernel
theorem dX11_worst_39 : decode cX11_worst 39 = .ok (.getfield 51, 3) := by decide +kernel
theorem dX11_worst_42 : decode cX11_worst 42 = .ok (.iload_n 3, 1) := by decide +kernel
theorem dX11_worst_43 : decode cX11_worst 43 = .ok (.invokevirtual 167, 3) := by decide +kernel
theorem dX11_worst_46 : decode cX11_worst 46 = .ok (.ifCond .eq 14, 3) := by decide +kernel
theorem dX11_worst_49 : decode cX11_worst 49 = .ok (.iload 4, 2) := by decide +kernel
theorem dX11_worst_51 : decode cX11_worst 51 = .ok (.iload_n 2, 1) := by decide +kernel
theorem dX11_worst_52 : decode cX11_worst 52 = .ok (.if_icmp .le 8, 3) := by decide +kernel
theorem dX11_worst_55 : decode cX11_worst 55 = .ok (.iload 4, 2) := by decide +kernel
theorem dX11_worst_57 : decode cX11_worst 57 = .ok (.istore_n 2, 1) := by decide +kernel
theorem dX11_worst_58 : decode cX11_worst 58 = .ok (.iload_n 3, 1) := by decide +kernel
theorem dX11_worst_59 : decode cX11_worst 59 = .ok (.istore_n 1, 1) := by decide +kernel
theorem dX11_worst_60 : decode cX11_worst 60 = .ok (.iinc 3 1, 3) := by decide +kernel
theorem dX11_worst_63 : decode cX11_worst 63 = .ok (.goto (-57), 3) := by decide +kernel
theorem dX11_worst_66 : decode cX11_worst 66 = .ok (.iload_n 1, 1) := by decide +kernel
theorem dX11_worst_67 : decode cX11_worst 67 = .ok (.ireturn, 1) := by decide +kernel
def f_X11_worst_6 (w : Nat) : Nat → Nat → Int32 → Int32 → Int32 → mM → Option (Int32 × mM)
  | 0, _, _, _, _, _ => none
  | n + 1, o0, x1, x2, x3, M => (if (M.1 (rF o0 0) 1) ≤ x3 then some (x1, M) else chk x3 (sL (rF (rF o0 6) 4)) (chk x3 (sL (rF (rF o0 6) 3)) (lt ((M.1 (rF (rF o0 6) 4) x3.toNatClampNeg) - (M.1 (rF (rF o0 6) 3) x3.toNatClampNeg)) fun y1 => bI (f_X9_isStuck w (rF o0 6) x3 M) fun q3 M2 => (if q3 = 0 then (f_X11_worst_6 w n o0 x1 x2 (x3 + 1) M2) else (if y1 ≤ x2 then (f_X11_worst_6 w n o0 x1 x2 (x3 + 1) M2) else (f_X11_worst_6 w n o0 x3 y1 (x3 + 1) M2))))))
set_option maxHeartbeats 4000000 in
set_option maxRecDepth 100000 in
theorem s_X11_worst_6 {l : Launch} {G : mG} {sk : List mS} (w : Nat) : ∀ (n : Nat) (o0 : Nat) (h0 : isK o0 21) (x1 : Int32) (x2 : Int32) (x3 : Int32) (M : mM), Go muX11_worst (rm 2) 0 0 l G sk (mFin G sk eI) (f_X11_worst_6 w n o0 x1 x2 x3 M) 6 [(0, .ref (gB G + o0)), (1, .int x1), (2, .int x2), (3, .int x3)] [] M := by
  intro n
  induction n with
  | zero =>
    intros
    exact go_none
  | succ n ih =>
    intro o0 h0 x1 x2 x3 M
    rw [f_X11_worst_6]
    refine go_iload_n 3 7 dX11_worst_6 rfl rfl ?_
    refine go_aload_n 0 8 dX11_worst_7 rfl rfl ?_
    refine go_getR flX11_10 h0 11 dX11_worst_8 rfl ?_
    refine go_getI flX11_179 (by decide) (rk11_0 h0) 14 dX11_worst_11 rfl ?_
    refine go_icmp_ge 66 17 dX11_worst_14 rfl (by decide) (fun _ => ?_) (fun _ => ?_)
    · refine go_iload_n 1 67 dX11_worst_66 rfl rfl ?_
      exact go_iret rfl dX11_worst_67
    · refine go_aload_n 0 18 dX11_worst_17 rfl rfl ?_
      refine go_getR flX11_51 h0 21 dX11_worst_18 rfl ?_
      refine go_getR flX11_161 (rk11_6 h0) 24 dX11_worst_21 rfl ?_
      refine go_iload_n 3 25 dX11_worst_24 rfl rfl ?_
      refine go_iald (rk9_4 (rk11_6 h0)) 26 dX11_worst_25 rfl ?_
      refine go_aload_n 0 27 dX11_worst_26 rfl rfl ?_
      refine go_getR flX11_51 h0 30 dX11_worst_27 rfl ?_
      refine go_getR flX11_158 (rk11_6 h0) 33 dX11_worst_30 rfl ?_
      refine go_iload_n 3 34 dX11_worst_33 rfl rfl ?_
      refine go_iald (rk9_3 (rk11_6 h0)) 35 dX11_worst_34 rfl ?_
      refine go_isub 36 dX11_worst_35 rfl ?_
      refine go_nmI (fun y1 => ?_)
      refine go_istore [(4, .int y1), (0, .ref (gB G + o0)), (1, .int x1), (2, .int x2), (3, .int x3)] 38 dX11_worst_36 rfl (by decide) rfl ?_
      refine go_aload_n 1 39 dX11_worst_38 rfl rfl ?_
      refine go_getR flX11_51 h0 42 dX11_worst_39 rfl ?_
      refine go_iload_n 4 43 dX11_worst_42 rfl rfl ?_
      refine go_cVI1 1 clX9 cwX11_167 (m_X9_isStuck w (rF o0 6) (rk11_6 h0) x3 M) (rk11_6 h0) 46 dX11_worst_43 rfl ⟨Nat.le_of_ble_eq_true rfl, Nat.le_of_ble_eq_true rfl⟩ ⟨Nat.zero_le _, Nat.zero_le _⟩ (Nat.le_of_ble_eq_true rfl) (fun q3 M2 _ => ?_)
      refine go_if_eq 60 49 dX11_worst_46 rfl (by decide) (fun _ => ?_) (fun _ => ?_)
      · refine go_iinc (x3 + 1) 4 [(3, .int (x3 + 1)), (4, .int y1), (0, .ref (gB G + o0)), (1, .int x1), (2, .int x2)] 63 dX11_worst_60 rfl rfl rfl (by decide) rfl ?_
        refine go_goto 6 dX11_worst_63 (by decide) ?_
        exact go_lv [2, 3, 4, 0] rfl (ih o0 h0 x1 x2 (x3 + 1) M2)
      · refine go_iload 0 51 dX11_worst_49 rfl rfl ?_
        refine go_iload_n 3 52 dX11_worst_51 rfl rfl ?_
        refine go_icmp_le 60 55 dX11_worst_52 rfl (by decide) (fun _ => ?_) (fun _ => ?_)
        · refine go_iinc (x3 + 1) 4 [(3, .int (x3 + 1)), (4, .int y1), (0, .ref (gB G + o0)), (1, .int x1), (2, .int x2)] 63 dX11_worst_60 rfl rfl rfl (by decide) rfl ?_
          refine go_goto 6 dX11_worst_63 (by decide) ?_
          exact go_lv [2, 3, 4, 0] rfl (ih o0 h0 x1 x2 (x3 + 1) M2)
        · refine go_iload 0 57 dX11_worst_55 rfl rfl ?_
          refine go_istore_n [(2, .int y1), (4, .int y1), (0, .ref (gB G + o0)), (1, .int x1), (3, .int x3)] 58 dX11_worst_57 rfl rfl (by decide) rfl ?_
          refine go_iload_n 4 59 dX11_worst_58 rfl rfl ?_
          refine go_istore_n [(1, .int x3), (2, .int y1), (4, .int y1), (0, .ref (gB G + o0)), (3, .int x3)] 60 dX11_worst_59 rfl rfl (by decide) rfl ?_
          refine go_iinc (x3 + 1) 4 [(3, .int (x3 + 1)), (1, .int x3), (2, .int y1), (4, .int y1), (0, .ref (gB G + o0))] 63 dX11_worst_60 rfl rfl rfl (by decide) rfl ?_
          refine go_goto 6 dX11_worst_63 (by decide) ?_
          exact go_lv [4, 1, 2, 0] rfl (ih o0 h0 x3 y1 (x3 + 1) M2)
def f_X11_worst (w : Nat) (o0 : Nat) (M : mM) : Option (Int32 × mM) := (f_X11_worst_6 w w o0 (-1) 0 0 M)
set_option maxHeartbeats 4000000 in
set_option maxRecDepth 100000 in
theorem s_X11_worst {l : Launch} {G : mG} {sk : List mS} (w : Nat) (o0 : Nat) (h0 : isK o0 21) (M : mM) : Go muX11_worst (rm 2) 0 0 l G sk (mFin G sk eI) (f_X11_worst w o0 M) 0 [(0, .ref (gB G + o0))] [] M := by
  unfold f_X11_worst
  refine go_iconst (-1) 1 dX11_worst_0 rfl (by decide) ?_
  refine go_istore_n [(1, .int (-1)), (0, .ref (gB G + o0))] 2 dX11_worst_1 rfl rfl (by decide) rfl ?_
  refine go_iconst 0 3 dX11_worst_2 rfl (by decide) ?_
  refine go_istore_n [(2, .int 0), (1, .int (-1)), (0, .ref (gB G + o0))] 4 dX11_worst_3 rfl rfl (by decide) rfl ?_
  refine go_iconst 0 5 dX11_worst_4 rfl (by decide) ?_
  refine go_istore_n [(3, .int 0), (2, .int 0), (1, .int (-1)), (0, .ref (gB G + o0))] 6 dX11_worst_5 rfl rfl (by decide) rfl ?_
  exact go_lv [3, 2, 1, 0] rfl (s_X11_worst_6 w w o0 h0 (-1) 0 0 M)
theorem m_X11_worst {l : Launch} {G : mG} {sk : List mS} (w : Nat) (o0 : Nat) (h0 : isK o0 21) (M : mM) : Mt l G sk yX11_worst muX11_worst 2 [.ref (gB G + o0)] M eI (f_X11_worst w o0 M) := Mt.of (by decide) rfl (Nat.le_of_ble_eq_true rfl) (s_X11_worst w o0 h0 M)
theorem dX11_spared_0 : decode cX11_spared 0 = .ok (.aload_n 0, 1) := by decide +kernel
theorem dX11_spared_1 : decode cX11_spared 1 = .ok (.getfield 51, 3) := by decide +kernel
theorem dX11_spared_4 : decode cX11_spared 4 = .ok (.invokevirtual 259, 3) := by decide +kernel
theorem dX11_spared_7 : decode cX11_spared 7 = .ok (.istore_n 1, 1) := by decide +kernel
theorem dX11_spared_8 : decode cX11_spared 8 = .ok (.iconst 0, 1) := by decide +kernel
theorem dX11_spared_9 : decode cX11_spared 9 = .ok (.istore_n 2, 1) := by decide +kernel
theorem dX11_spared_10 : decode cX11_spared 10 = .ok (.iconst 0, 1) := by decide +kernel
theorem dX11_spared_11 : decode cX11_spared 11 = .ok (.istore_n 3, 1) := by decide +kernel
theorem dX11_spared_12 : decode cX11_spared 12 = .ok (.iload_n 3, 1) := by decide +kernel
theorem dX11_spared_13 : decode cX11_spared 13 = .ok (.aload_n 0, 1) := by decide +kernel
theorem dX11_spared_14 : decode cX11_spared 14 = .ok (.getfield 10, 3) := by decide +kernel
theorem dX11_spared_17 : decode cX11_spared 17 = .ok (.getfield 179, 3) := by decide +kernel
theorem dX11_spared_20 : decode cX11_spared 20 = .ok (.if_icmp .ge 60, 3) := by decide +kernel
theorem dX11_spared_23 : decode cX11_spared 23 = .ok (.iconst 1, 1) := by decide +kernel
theorem dX11_spared_24 : decode cX11_spared 24 = .ok (.iload_n 3, 1) := by decide +kernel
theorem dX11_spared_25 : decode cX11_spared 25 = .ok (.ishl, 1) := by decide +kernel
theorem dX11_spared_26 : decode cX11_spared 26 = .ok (.istore 4, 2) := by decide +kernel
theorem dX11_spared_28 : decode cX11_spared 28 = .ok (.iload_n 1, 1) := by decide +kernel
theorem dX11_spared_29 : decode cX11_spared 29 = .ok (.iload 4, 2) := by decide +kernel
theorem dX11_spared_31 : decode cX11_spared 31 = .ok (.iand, 1) := by decide +kernel
theorem dX11_spared_32 : decode cX11_spared 32 = .ok (.ifCond .eq 42, 3) := by decide +kernel
theorem dX11_spared_35 : decode cX11_spared 35 = .ok (.aload_n 0, 1) := by decide +kernel
theorem dX11_spared_36 : decode cX11_spared 36 = .ok (.getfield 10, 3) := by decide +kernel
theorem dX11_spared_39 : decode cX11_spared 39 = .ok (.aload_n 0, 1) := by decide +kernel
theorem dX11_spared_40 : decode cX11_spared 40 = .ok (.getfield 10, 3) := by decide +kernel
theorem dX11_spared_43 : decode cX11_spared 43 = .ok (.getfield 149, 3) := by decide +kernel
theorem dX11_spared_46 : decode cX11_spared 46 = .ok (.iload_n 3, 1) := by decide +kernel
theorem dX11_spared_47 : decode cX11_spared 47 = .ok (.iaload, 1) := by decide +kernel
theorem dX11_spared_48 : decode cX11_spared 48 = .ok (.aload_n 0, 1) := by decide +kernel
theorem dX11_spared_49 : decode cX11_spared 49 = .ok (.getfield 10, 3) := by decide +kernel
theorem dX11_spared_52 : decode cX11_spared 52 = .ok (.getfield 152, 3) := by decide +kernel
theorem dX11_spared_55 : decode cX11_spared 55 = .ok (.iload_n 3, 1) := by decide +kernel
theorem dX11_spared_56 : decode cX11_spared 56 = .ok (.iaload, 1) := by decide +kernel
theorem dX11_spared_57 : decode cX11_spared 57 = .ok (.iload_n 1, 1) := by decide +kernel
theorem dX11_spared_58 : decode cX11_spared 58 = .ok (.iload 4, 2) := by decide +kernel
theorem dX11_spared_60 : decode cX11_spared 60 = .ok (.iconst (-1), 1) := by decide +kernel
theorem dX11_spared_61 : decode cX11_spared 61 = .ok (.ixor, 1) := by decide +kernel
theorem dX11_spared_62 : decode cX11_spared 62 = .ok (.iand, 1) := by decide +kernel
theorem dX11_spared_63 : decode cX11_spared 63 = .ok (.invokevirtual 269, 3) := by decide +kernel
theorem dX11_spared_66 : decode cX11_spared 66 = .ok (.ifCond .eq 8, 3) := by decide +kernel
theorem dX11_spared_69 : decode cX11_spared 69 = .ok (.iload_n 2, 1) := by decide +kernel
theorem dX11_spared_70 : decode cX11_spared 70 = .ok (.iload 4, 2) := by decide +kernel
theorem dX11_spared_72 : decode cX11_spared 72 = .ok (.ior, 1) := by decide +kernel
theorem dX11_spared_73 : decode cX11_spared 73 = .ok (.istore_n 2, 1) := by decide +kernel
theorem dX11_spared_74 : decode cX11_spared 74 = .ok (.iinc 3 1, 3) := by decide +kernel
theorem dX11_spared_77 : decode cX11_spared 77 = .ok (.goto (-65), 3) := by decide +kernel
theorem dX11_spared_80 : decode cX11_spared 80 = .ok (.iload_n 2, 1) := by decide +kernel
theorem dX11_spared_81 : decode cX11_spared 81 = .ok (.ireturn, 1) := by decide +kernel
def f_X11_spared_12 (w : Nat) : Nat → Nat → Int32 → Int32 → Int32 → mM → Option (Int32 × mM)
  | 0, _, _, _, _, _ => none
  | n + 1, o0, x1, x2, x3, M => (if (M.1 (rF o0 0) 1) ≤ x3 then some (x2, M) else lt ((1 : Int32) <<< (x3 &&& 31)) fun y1 => (if (x1 &&& y1) = 0 then (f_X11_spared_12 w n o0 x1 x2 (x3 + 1) M) else chk x3 (sL (rF (rF o0 0) 7)) (chk x3 (sL (rF (rF o0 0) 8)) (bI (f_X6_isJoined w (rF o0 0) (M.1 (rF (rF o0 0) 7) x3.toNatClampNeg) (M.1 (rF (rF o0 0) 8) x3.toNatClampNeg) (x1 &&& (y1 ^^^ (-1))) M) fun q3 M2 => (if q3 = 0 then (f_X11_spared_12 w n o0 x1 x2 (x3 + 1) M2) else lt (x2 ||| y1) fun y4 => (f_X11_spared_12 w n o0 x1 y4 (x3 + 1) M2))))))
set_option maxHeartbeats 4000000 in
set_option maxRecDepth 100000 in
theorem s_X11_spared_12 {l : Launch} {G : mG} {sk : List mS} (w : Nat) : ∀ (n : Nat) (o0 : Nat) (h0 : isK o0 21) (x1 : Int32) (x2 : Int32) (x3 : Int32) (M : mM), Go muX11_spared (rm 4) 0 0 l G sk (mFin G sk eI) (f_X11_spared_12 w n o0 x1 x2 x3 M) 12 [(0, .ref (gB G + o0)), (1, .int x1), (2, .int x2), (3, .int x3)] [] M := by
  intro n
  induction n with
  | zero =>
    intros
    exact go_none
  | succ n ih =>
    intro o0 h0 x1 x2 x3 M
    rw [f_X11_spared_12]
    refine go_iload_n 3 13 dX11_spared_12 rfl rfl ?_
    refine go_aload_n 0 14 dX11_spared_13 rfl rfl ?_
    refine go_getR flX11_10 h0 17 dX11_spared_14 rfl ?_
    refine go_getI flX11_179 (by decide) (rk11_0 h0) 20 dX11_spared_17 rfl ?_
    refine go_icmp_ge 80 23 dX11_spared_20 rfl (by decide) (fun _ => ?_) (fun _ => ?_)
    · refine go_iload_n 2 81 dX11_spared_80 rfl rfl ?_
      exact go_iret rfl dX11_spared_81
    · refine go_iconst 1 24 dX11_spared_23 rfl (by decide) ?_
      refine go_iload_n 3 25 dX11_spared_24 rfl rfl ?_
      refine go_ishl 26 dX11_spared_25 rfl ?_
      refine go_nmI (fun y1 => ?_)
      refine go_istore [(4, .int y1), (0, .ref (gB G + o0)), (1, .int x1), (2, .int x2), (3, .int x3)] 28 dX11_spared_26 rfl (by decide) rfl ?_
      refine go_iload_n 2 29 dX11_spared_28 rfl rfl ?_
      refine go_iload 0 31 dX11_spared_29 rfl rfl ?_
      refine go_iand 32 dX11_spared_31 rfl ?_
      refine go_if_eq 74 35 dX11_spared_32 rfl (by decide) (fun _ => ?_) (fun _ => ?_)
      · refine go_iinc (x3 + 1) 4 [(3, .int (x3 + 1)), (4, .int y1), (0, .ref (gB G + o0)), (1, .int x1), (2, .int x2)] 77 dX11_spared_74 rfl rfl rfl (by decide) rfl ?_
        refine go_goto 12 dX11_spared_77 (by decide) ?_
        exact go_lv [2, 3, 4, 0] rfl (ih o0 h0 x1 x2 (x3 + 1) M)
      · refine go_aload_n 1 36 dX11_spared_35 rfl rfl ?_
        refine go_getR flX11_10 h0 39 dX11_spared_36 rfl ?_
        refine go_aload_n 1 40 dX11_spared_39 rfl rfl ?_
        refine go_getR flX11_10 h0 43 dX11_spared_40 rfl ?_
        refine go_getR flX11_149 (rk11_0 h0) 46 dX11_spared_43 rfl ?_
        refine go_iload_n 4 47 dX11_spared_46 rfl rfl ?_
        refine go_iald (rk6_7 (rk11_0 h0)) 48 dX11_spared_47 rfl ?_
        refine go_aload_n 1 49 dX11_spared_48 rfl rfl ?_
        refine go_getR flX11_10 h0 52 dX11_spared_49 rfl ?_
        refine go_getR flX11_152 (rk11_0 h0) 55 dX11_spared_52 rfl ?_
        refine go_iload_n 4 56 dX11_spared_55 rfl rfl ?_
        refine go_iald (rk6_8 (rk11_0 h0)) 57 dX11_spared_56 rfl ?_
        refine go_iload_n 2 58 dX11_spared_57 rfl rfl ?_
        refine go_iload 0 60 dX11_spared_58 rfl rfl ?_
        refine go_iconst (-1) 61 dX11_spared_60 rfl (by decide) ?_
        refine go_ixor 62 dX11_spared_61 rfl ?_
        refine go_iand 63 dX11_spared_62 rfl ?_
        refine go_cVI3 2 clX6 cwX11_269 (m_X6_isJoined w (rF o0 0) (rk11_0 h0) (M.1 (rF (rF o0 0) 7) x3.toNatClampNeg) (M.1 (rF (rF o0 0) 8) x3.toNatClampNeg) (x1 &&& (y1 ^^^ (-1))) M) (rk11_0 h0) 66 dX11_spared_63 rfl ⟨Nat.le_of_ble_eq_true rfl, Nat.le_of_ble_eq_true rfl⟩ ⟨Nat.zero_le _, Nat.zero_le _⟩ (Nat.le_of_ble_eq_true rfl) (fun q3 M2 _ => ?_)
        refine go_if_eq 74 69 dX11_spared_66 rfl (by decide) (fun _ => ?_) (fun _ => ?_)
        · refine go_iinc (x3 + 1) 4 [(3, .int (x3 + 1)), (4, .int y1), (0, .ref (gB G + o0)), (1, .int x1), (2, .int x2)] 77 dX11_spared_74 rfl rfl rfl (by decide) rfl ?_
          refine go_goto 12 dX11_spared_77 (by decide) ?_
          exact go_lv [2, 3, 4, 0] rfl (ih o0 h0 x1 x2 (x3 + 1) M2)
        · refine go_iload_n 3 70 dX11_spared_69 rfl rfl ?_
          refine go_iload 0 72 dX11_spared_70 rfl rfl ?_
          refine go_ior 73 dX11_spared_72 rfl ?_
          refine go_nmI (fun y4 => ?_)
          refine go_istore_n [(2, .int y4), (4, .int y1), (0, .ref (gB G + o0)), (1, .int x1), (3, .int x3)] 74 dX11_spared_73 rfl rfl (by decide) rfl ?_
          refine go_iinc (x3 + 1) 4 [(3, .int (x3 + 1)), (2, .int y4), (4, .int y1), (0, .ref (gB G + o0)), (1, .int x1)] 77 dX11_spared_74 rfl rfl rfl (by decide) rfl ?_
          refine go_goto 12 dX11_spared_77 (by decide) ?_
          exact go_lv [3, 4, 1, 0] rfl (ih o0 h0 x1 y4 (x3 + 1) M2)
def f_X11_spared (w : Nat) (o0 : Nat) (M : mM) : Option (Int32 × mM) := bI (f_X9_openDoors w (rF o0 6) M) fun q2 M1 => (f_X11_spared_12 w w o0 q2 0 0 M1)
set_option maxHeartbeats 4000000 in
set_option maxRecDepth 100000 in
theorem s_X11_spared {l : Launch} {G : mG} {sk : List mS} (w : Nat) (o0 : Nat) (h0 : isK o0 21) (M : mM) : Go muX11_spared (rm 4) 0 0 l G sk (mFin G sk eI) (f_X11_spared w o0 M) 0 [(0, .ref (gB G + o0))] [] M := by
  unfold f_X11_spared
  refine go_aload_n 0 1 dX11_spared_0 rfl rfl ?_
  refine go_getR flX11_51 h0 4 dX11_spared_1 rfl ?_
  refine go_cVI0 3 clX9 cwX11_259 (m_X9_openDoors w (rF o0 6) (rk11_6 h0) M) (rk11_6 h0) 7 dX11_spared_4 rfl ⟨Nat.le_of_ble_eq_true rfl, Nat.le_of_ble_eq_true rfl⟩ ⟨Nat.zero_le _, Nat.zero_le _⟩ (Nat.le_of_ble_eq_true rfl) (fun q2 M1 _ => ?_)
  refine go_istore_n [(1, .int q2), (0, .ref (gB G + o0))] 8 dX11_spared_7 rfl rfl (by decide) rfl ?_
  refine go_iconst 0 9 dX11_spared_8 rfl (by decide) ?_
  refine go_istore_n [(2, .int 0), (1, .int q2), (0, .ref (gB G + o0))] 10 dX11_spared_9 rfl rfl (by decide) rfl ?_
  refine go_iconst 0 11 dX11_spared_10 rfl (by decide) ?_
  refine go_istore_n [(3, .int 0), (2, .int 0), (1, .int q2), (0, .ref (gB G + o0))] 12 dX11_spared_11 rfl rfl (by decide) rfl ?_
  exact go_lv [3, 2, 1, 0] rfl (s_X11_spared_12 w w o0 h0 q2 0 0 M1)
theorem m_X11_spared {l : Launch} {G : mG} {sk : List mS} (w : Nat) (o0 : Nat) (h0 : isK o0 21) (M : mM) : Mt l G sk yX11_spared muX11_spared 4 [.ref (gB G + o0)] M eI (f_X11_spared w o0 M) := Mt.of (by decide) rfl (Nat.le_of_ble_eq_true rfl) (s_X11_spared w o0 h0 M)
theorem dX11_opened_0 : decode cX11_opened 0 = .ok (.aload_n 0, 1) := by decide +kernel
theorem dX11_opened_1 : decode cX11_opened 1 = .ok (.getfield 51, 3) := by decide +kernel
theorem dX11_opened_4 : decode cX11_opened 4 = .ok (.invokevirtual 259, 3) := by decide +kernel
theorem dX11_opened_7 : decode cX11_opened 7 = .ok (.istore_n 1, 1) := by decide +kernel
theorem dX11_opened_8 : decode cX11_opened 8 = .ok (.aload_n 0, 1) := by decide +kernel
theorem dX11_opened_9 : decode cX11_opened 9 = .ok (.getfield 51, 3) := by decide +kernel
theorem dX11_opened_12 : decode cX11_opened 12 = .ok (.iload_n 1, 1) := by decide +kernel
theorem dX11_opened_13 : decode cX11_opened 13 = .ok (.invokevirtual 273, 3) := by decide +kernel
theorem dX11_opened_16 : decode cX11_opened 16 = .ok (.istore_n 2, 1) := by decide +kernel
theorem dX11_opened_17 : decode cX11_opened 17 = .ok (.iconst (-1), 1) := by decide +kernel
theorem dX11_opened_18 : decode cX11_opened 18 = .ok (.istore_n 3, 1) := by decide +kernel
theorem dX11_opened_19 : decode cX11_opened 19 = .ok (.iconst 0, 1) := by decide +kernel
theorem dX11_opened_20 : decode cX11_opened 20 = .ok (.istore 4, 2) := by decide +kernel
theorem dX11_opened_22 : decode cX11_opened 22 = .ok (.iload 4, 2) := by decide +kernel
theorem dX11_opened_24 : decode cX11_opened 24 = .ok (.aload_n 0, 1) := by decide +kernel
theorem dX11_opened_25 : decode cX11_opened 25 = .ok (.getfield 10, 3) := by decide +kernel
theorem dX11_opened_28 : decode cX11_opened 28 = .ok (.getfield 179, 3) := by decide +kernel
theorem dX11_opened_31 : decode cX11_opened 31 = .ok (.if_icmp .ge 51, 3) := by decide +kernel
theorem dX11_opened_34 : decode cX11_opened 34 = .ok (.aload_n 0, 1) := by decide +kernel
theorem dX11_opened_35 : decode cX11_opened 35 = .ok (.getfield 51, 3) := by decide +kernel
theorem dX11_opened_38 : decode cX11_opened 38 = .ok (.iload 4, 2) := by decide +kernel
theorem dX11_opened_40 : decode cX11_opened 40 = .ok (.invokevirtual 167, 3) := by decide +kernel
theorem dX11_opened_43 : decode cX11_opened 43 = .ok (.ifCond .ne 6, 3) := by decide +kernel
theorem dX11_opened_46 : decode cX11_opened 46 = .ok (.goto 30, 3) := by decide +kernel
theorem dX11_opened_49 : decode cX11_opened 49 = .ok (.aload_n 0, 1) := by decide +kernel
theorem dX11_opened_50 : decode cX11_opened 50 = .ok (.getfield 51, 3) := by decide +kernel
theorem dX11_opened_53 : decode cX11_opened 53 = .ok (.iload_n 1, 1) := by decide +kernel
theorem dX11_opened_54 : decode cX11_opened 54 = .ok (.iconst 1, 1) := by decide +kernel
theorem dX11_opened_55 : decode cX11_opened 55 = .ok (.iload 4, 2) := by decide +kernel
theorem dX11_opened_57 : decode cX11_opened 57 = .ok (.ishl, 1) := by decide +kernel
theorem dX11_opened_58 : decode cX11_opened 58 = .ok (.ior, 1) := by decide +kernel
theorem dX11_opened_59 : decode cX11_opened 59 = .ok (.invokevirtual 273, 3) := by decide +kernel
theorem dX11_opened_62 : decode cX11_opened 62 = .ok (.istore 5, 2) := by decide +kernel
theorem dX11_opened_64 : decode cX11_opened 64 = .ok (.iload 5, 2) := by decide +kernel
theorem dX11_opened_66 : decode cX11_opened 66 = .ok (.iload_n 2, 1) := by decide +kernel
theorem dX11_opened_67 : decode cX11_opened 67 = .ok (.if_icmp .le 9, 3) := by decide +kernel
theorem dX11_opened_70 : decode cX11_opened 70 = .ok (.iload 5, 2) := by decide +kernel
theorem dX11_opened_72 : decode cX11_opened 72 = .ok (.istore_n 2, 1) := by decide +kernel
theorem dX11_opened_73 : decode cX11_opened 73 = .ok (.iload 4, 2) := by decide +kernel
theorem dX11_opened_75 : decode cX11_opened 75 = .ok (.istore_n 3, 1) := by decide +kernel
theorem dX11_opened_76 : decode cX11_opened 76 = .ok (.iinc 4 1, 3) := by decide +kernel
theorem dX11_opened_79 : decode cX11_opened 79 = .ok (.goto (-57), 3) := by decide +kernel
theorem dX11_opened_82 : decode cX11_opened 82 = .ok (.iload_n 3, 1) := by decide +kernel
theorem dX11_opened_83 : decode cX11_opened 83 = .ok (.ireturn, 1) := by decide +kernel
def f_X11_opened_22 (w : Nat) : Nat → Nat → Int32 → Int32 → Int32 → Int32 → mM → Option (Int32 × mM)
  | 0, _, _, _, _, _, _ => none
  | n + 1, o0, x1, x2, x3, x4, M => (if (M.1 (rF o0 0) 1) ≤ x4 then some (x3, M) else bI (f_X9_isStuck w (rF o0 6) x4 M) fun q2 M1 => (if q2 = 0 then (f_X11_opened_22 w n o0 x1 x2 x3 (x4 + 1) M1) else bI (f_X9_pairsTogether w (rF o0 6) (x1 ||| ((1 : Int32) <<< (x4 &&& 31))) M1) fun q4 M3 => (if q4 ≤ x2 then (f_X11_opened_22 w n o0 x1 x2 x3 (x4 + 1) M3) else (f_X11_opened_22 w n o0 x1 q4 x4 (x4 + 1) M3))))
set_option maxHeartbeats 4000000 in
set_option maxRecDepth 100000 in
theorem s_X11_opened_22 {l : Launch} {G : mG} {sk : List mS} (w : Nat) : ∀ (n : Nat) (o0 : Nat) (h0 : isK o0 21) (x1 : Int32) (x2 : Int32) (x3 : Int32) (x4 : Int32) (M : mM), Go muX11_opened (rm 4) 0 0 l G sk (mFin G sk eI) (f_X11_opened_22 w n o0 x1 x2 x3 x4 M) 22 [(0, .ref (gB G + o0)), (1, .int x1), (2, .int x2), (3, .int x3), (4, .int x4)] [] M := by
  intro n
  induction n with
  | zero =>
    intros
    exact go_none
  | succ n ih =>
    intro o0 h0 x1 x2 x3 x4 M
    rw [f_X11_opened_22]
    refine go_iload 4 24 dX11_opened_22 rfl rfl ?_
    refine go_aload_n 0 25 dX11_opened_24 rfl rfl ?_
    refine go_getR flX11_10 h0 28 dX11_opened_25 rfl ?_
    refine go_getI flX11_179 (by decide) (rk11_0 h0) 31 dX11_opened_28 rfl ?_
    refine go_icmp_ge 82 34 dX11_opened_31 rfl (by decide) (fun _ => ?_) (fun _ => ?_)
    · refine go_iload_n 3 83 dX11_opened_82 rfl rfl ?_
      exact go_iret rfl dX11_opened_83
    · refine go_aload_n 0 35 dX11_opened_34 rfl rfl ?_
      refine go_getR flX11_51 h0 38 dX11_opened_35 rfl ?_
      refine go_iload 4 40 dX11_opened_38 rfl rfl ?_
      refine go_cVI1 1 clX9 cwX11_167 (m_X9_isStuck w (rF o0 6) (rk11_6 h0) x4 M) (rk11_6 h0) 43 dX11_opened_40 rfl ⟨Nat.le_of_ble_eq_true rfl, Nat.le_of_ble_eq_true rfl⟩ ⟨Nat.zero_le _, Nat.zero_le _⟩ (Nat.le_of_ble_eq_true rfl) (fun q2 M1 _ => ?_)
      refine go_if_ne 49 46 dX11_opened_43 rfl (by decide) (fun _ => ?_) (fun _ => ?_)
      · refine go_aload_n 0 50 dX11_opened_49 rfl rfl ?_
        refine go_getR flX11_51 h0 53 dX11_opened_50 rfl ?_
        refine go_iload_n 1 54 dX11_opened_53 rfl rfl ?_
        refine go_iconst 1 55 dX11_opened_54 rfl (by decide) ?_
        refine go_iload 4 57 dX11_opened_55 rfl rfl ?_
        refine go_ishl 58 dX11_opened_57 rfl ?_
        refine go_ior 59 dX11_opened_58 rfl ?_
        refine go_cVI1 3 clX9 cwX11_273 (m_X9_pairsTogether w (rF o0 6) (rk11_6 h0) (x1 ||| ((1 : Int32) <<< (x4 &&& 31))) M1) (rk11_6 h0) 62 dX11_opened_59 rfl ⟨Nat.le_of_ble_eq_true rfl, Nat.le_of_ble_eq_true rfl⟩ ⟨Nat.zero_le _, Nat.zero_le _⟩ (Nat.le_of_ble_eq_true rfl) (fun q4 M3 _ => ?_)
        refine go_istore [(5, .int q4), (0, .ref (gB G + o0)), (1, .int x1), (2, .int x2), (3, .int x3), (4, .int x4)] 64 dX11_opened_62 rfl (by decide) rfl ?_
        refine go_iload 0 66 dX11_opened_64 rfl rfl ?_
        refine go_iload_n 3 67 dX11_opened_66 rfl rfl ?_
        refine go_icmp_le 76 70 dX11_opened_67 rfl (by decide) (fun _ => ?_) (fun _ => ?_)
        · refine go_iinc (x4 + 1) 5 [(4, .int (x4 + 1)), (5, .int q4), (0, .ref (gB G + o0)), (1, .int x1), (2, .int x2), (3, .int x3)] 79 dX11_opened_76 rfl rfl rfl (by decide) rfl ?_
          refine go_goto 22 dX11_opened_79 (by decide) ?_
          exact go_lv [2, 3, 4, 5, 0] rfl (ih o0 h0 x1 x2 x3 (x4 + 1) M3)
        · refine go_iload 0 72 dX11_opened_70 rfl rfl ?_
          refine go_istore_n [(2, .int q4), (5, .int q4), (0, .ref (gB G + o0)), (1, .int x1), (3, .int x3), (4, .int x4)] 73 dX11_opened_72 rfl rfl (by decide) rfl ?_
          refine go_iload 5 75 dX11_opened_73 rfl rfl ?_
          refine go_istore_n [(3, .int x4), (2, .int q4), (5, .int q4), (0, .ref (gB G + o0)), (1, .int x1), (4, .int x4)] 76 dX11_opened_75 rfl rfl (by decide) rfl ?_
          refine go_iinc (x4 + 1) 5 [(4, .int (x4 + 1)), (3, .int x4), (2, .int q4), (5, .int q4), (0, .ref (gB G + o0)), (1, .int x1)] 79 dX11_opened_76 rfl rfl rfl (by decide) rfl ?_
          refine go_goto 22 dX11_opened_79 (by decide) ?_
          exact go_lv [4, 5, 2, 1, 0] rfl (ih o0 h0 x1 q4 x4 (x4 + 1) M3)
      · refine go_goto 76 dX11_opened_46 (by decide) ?_
        refine go_iinc (x4 + 1) 4 [(4, .int (x4 + 1)), (0, .ref (gB G + o0)), (1, .int x1), (2, .int x2), (3, .int x3)] 79 dX11_opened_76 rfl rfl rfl (by decide) rfl ?_
        refine go_goto 22 dX11_opened_79 (by decide) ?_
        exact go_lv [1, 2, 3, 4, 0] rfl (ih o0 h0 x1 x2 x3 (x4 + 1) M1)
def f_X11_opened (w : Nat) (o0 : Nat) (M : mM) : Option (Int32 × mM) := bI (f_X9_openDoors w (rF o0 6) M) fun q2 M1 => bI (f_X9_pairsTogether w (rF o0 6) q2 M1) fun q4 M3 => (f_X11_opened_22 w w o0 q2 q4 (-1) 0 M3)
set_option maxHeartbeats 4000000 in
set_option maxRecDepth 100000 in
theorem s_X11_opened {l : Launch} {G : mG} {sk : List mS} (w : Nat) (o0 : Nat) (h0 : isK o0 21) (M : mM) : Go muX11_opened (rm 4) 0 0 l G sk (mFin G sk eI) (f_X11_opened w o0 M) 0 [(0, .ref (gB G + o0))] [] M := by
  unfold f_X11_opened
  refine go_aload_n 0 1 dX11_opened_0 rfl rfl ?_
  refine go_getR flX11_51 h0 4 dX11_opened_1 rfl ?_
  refine go_cVI0 3 clX9 cwX11_259 (m_X9_openDoors w (rF o0 6) (rk11_6 h0) M) (rk11_6 h0) 7 dX11_opened_4 rfl ⟨Nat.le_of_ble_eq_true rfl, Nat.le_of_ble_eq_true rfl⟩ ⟨Nat.zero_le _, Nat.zero_le _⟩ (Nat.le_of_ble_eq_true rfl) (fun q2 M1 _ => ?_)
  refine go_istore_n [(1, .int q2), (0, .ref (gB G + o0))] 8 dX11_opened_7 rfl rfl (by decide) rfl ?_
  refine go_aload_n 1 9 dX11_opened_8 rfl rfl ?_
  refine go_getR flX11_51 h0 12 dX11_opened_9 rfl ?_
  refine go_iload_n 0 13 dX11_opened_12 rfl rfl ?_
  refine go_cVI1 3 clX9 cwX11_273 (m_X9_pairsTogether w (rF o0 6) (rk11_6 h0) q2 M1) (rk11_6 h0) 16 dX11_opened_13 rfl ⟨Nat.le_of_ble_eq_true rfl, Nat.le_of_ble_eq_true rfl⟩ ⟨Nat.zero_le _, Nat.zero_le _⟩ (Nat.le_of_ble_eq_true rfl) (fun q4 M3 _ => ?_)
  refine go_istore_n [(2, .int q4), (1, .int q2), (0, .ref (gB G + o0))] 17 dX11_opened_16 rfl rfl (by decide) rfl ?_
  refine go_iconst (-1) 18 dX11_opened_17 rfl (by decide) ?_
  refine go_istore_n [(3, .int (-1)), (2, .int q4), (1, .int q2), (0, .ref (gB G + o0))] 19 dX11_opened_18 rfl rfl (by decide) rfl ?_
  refine go_iconst 0 20 dX11_opened_19 rfl (by decide) ?_
  refine go_istore [(4, .int 0), (3, .int (-1)), (2, .int q4), (1, .int q2), (0, .ref (gB G + o0))] 22 dX11_opened_20 rfl (by decide) rfl ?_
  exact go_lv [4, 3, 2, 1, 0] rfl (s_X11_opened_22 w w o0 h0 q2 q4 (-1) 0 M3)
theorem m_X11_opened {l : Launch} {G : mG} {sk : List mS} (w : Nat) (o0 : Nat) (h0 : isK o0 21) (M : mM) : Mt l G sk yX11_opened muX11_opened 4 [.ref (gB G + o0)] M eI (f_X11_opened w o0 M) := Mt.of (by decide) rfl (Nat.le_of_ble_eq_true rfl) (s_X11_opened w o0 h0 M)
theorem dX11_deep_0 : decode cX11_deep 0 = .ok (.aload_n 0, 1) := by decide +kernel
theorem dX11_deep_1 : decode cX11_deep 1 = .ok (.getfield 10, 3) := by decide +kernel
theorem dX11_deep_4 : decode cX11_deep 4 = .ok (.iload_n 1, 1) := by decide +kernel
theorem dX11_deep_5 : decode cX11_deep 5 = .ok (.invokevirtual 256, 3) := by decide +kernel
theorem dX11_deep_8 : decode cX11_deep 8 = .ok (.ifCond .ne 5, 3) := by decide +kernel
theorem dX11_deep_11 : decode cX11_deep 11 = .ok (.iconst (-1), 1) := by decide +kernel
theorem dX11_deep_12 : decode cX11_deep 12 = .ok (.ireturn, 1) := by decide +kernel
theorem dX11_deep_13 : decode cX11_deep 13 = .ok (.aload_n 0, 1) := by decide +kernel
theorem dX11_deep_14 : decode cX11_deep 14 = .ok (.getfield 51, 3) := by decide +kernel
theorem dX11_deep_17 : decode cX11_deep 17 = .ok (.invokevirtual 259, 3) := by decide +kernel
theorem dX11_deep_20 : decode cX11_deep 20 = .ok (.istore_n 2, 1) := by decide +kernel
theorem dX11_deep_21 : decode cX11_deep 21 = .ok (.iconst 1, 1) := by decide +kernel
theorem dX11_deep_22 : decode cX11_deep 22 = .ok (.iload_n 1, 1) := by decide +kernel
theorem dX11_deep_23 : decode cX11_deep 23 = .ok (.ishl, 1) := by decide +kernel
theorem dX11_deep_24 : decode cX11_deep 24 = .ok (.istore_n 3, 1) := by decide +kernel
theorem dX11_deep_25 : decode cX11_deep 25 = .ok (.iconst 0, 1) := by decide +kernel
theorem dX11_deep_26 : decode cX11_deep 26 = .ok (.istore 4, 2) := by decide +kernel
theorem dX11_deep_28 : decode cX11_deep 28 = .ok (.iconst 0, 1) := by decide +kernel
theorem dX11_deep_29 : decode cX11_deep 29 = .ok (.istore 5, 2) := by decide +kernel
theorem dX11_deep_31 : decode cX11_deep 31 = .ok (.iload 5, 2) := by decide +kernel
theorem dX11_deep_33 : decode cX11_deep 33 = .ok (.bipush 7, 2) := by decide +kernel
theorem dX11_deep_35 : decode cX11_deep 35 = .ok (.if_icmp .ge 32, 3) := by decide +kernel
theorem dX11_deep_38 : decode cX11_deep 38 = .ok (.aload_n 0, 1) := by decide +kernel
theorem dX11_deep_39 : decode cX11_deep 39 = .ok (.getfield 10, 3) := by decide +kernel
theorem dX11_deep_42 : decode cX11_deep 42 = .ok (.iload_n 3, 1) := by decide +kernel
theorem dX11_deep_43 : decode cX11_deep 43 = .ok (.iload_n 2, 1) := by decide +kernel
theorem dX11_deep_44 : decode cX11_deep 44 = .ok (.invokevirtual 276, 3) := by decide +kernel
theorem dX11_deep_47 : decode cX11_deep 47 = .ok (.istore 6, 2) := by decide +kernel
theorem dX11_deep_49 : decode cX11_deep 49 = .ok (.iload 6, 2) := by decide +kernel
theorem dX11_deep_51 : decode cX11_deep 51 = .ok (.iload_n 3, 1) := by decide +kernel
theorem dX11_deep_52 : decode cX11_deep 52 = .ok (.if_icmp .eq 6, 3) := by decide +kernel
theorem dX11_deep_55 : decode cX11_deep 55 = .ok (.iinc 4 1, 3) := by decide +kernel
theorem dX11_deep_58 : decode cX11_deep 58 = .ok (.iload 6, 2) := by decide +kernel
theorem dX11_deep_60 : decode cX11_deep 60 = .ok (.istore_n 3, 1) := by decide +kernel
theorem dX11_deep_61 : decode cX11_deep 61 = .ok (.iinc 5 1, 3) := by decide +kernel
theorem dX11_deep_64 : decode cX11_deep 64 = .ok (.goto (-33), 3) := by decide +kernel
theorem dX11_deep_67 : decode cX11_deep 67 = .ok (.iload 4, 2) := by decide +kernel
theorem dX11_deep_69 : decode cX11_deep 69 = .ok (.ireturn, 1) := by decide +kernel
def f_X11_deep_31 (w : Nat) : Nat → Nat → Int32 → Int32 → Int32 → Int32 → mM → Option (Int32 × mM)
  | 0, _, _, _, _, _, _ => none
  | n + 1, o0, x2, x3, x4, x5, M => (if 7 ≤ x5 then some (x4, M) else bI (f_X6_oneDoorOn w (rF o0 0) x3 x2 M) fun q2 M1 => (if q2 = x3 then (f_X11_deep_31 w n o0 x2 q2 x4 (x5 + 1) M1) else (f_X11_deep_31 w n o0 x2 q2 (x4 + 1) (x5 + 1) M1)))
set_option maxHeartbeats 4000000 in
set_option maxRecDepth 100000 in
theorem s_X11_deep_31 {l : Launch} {G : mG} {sk : List mS} (w : Nat) : ∀ (n : Nat) (o0 : Nat) (h0 : isK o0 21) (x2 : Int32) (x3 : Int32) (x4 : Int32) (x5 : Int32) (M : mM), Go muX11_deep (rm 4) 0 0 l G sk (mFin G sk eI) (f_X11_deep_31 w n o0 x2 x3 x4 x5 M) 31 [(0, .ref (gB G + o0)), (2, .int x2), (3, .int x3), (4, .int x4), (5, .int x5)] [] M := by
  intro n
  induction n with
  | zero =>
    intros
    exact go_none
  | succ n ih =>
    intro o0 h0 x2 x3 x4 x5 M
    rw [f_X11_deep_31]
    refine go_iload 4 33 dX11_deep_31 rfl rfl ?_
    refine go_bipush 7 35 dX11_deep_33 rfl (by decide) ?_
    refine go_icmp_ge 67 38 dX11_deep_35 rfl (by decide) (fun _ => ?_) (fun _ => ?_)
    · refine go_iload 3 69 dX11_deep_67 rfl rfl ?_
      exact go_iret rfl dX11_deep_69
    · refine go_aload_n 0 39 dX11_deep_38 rfl rfl ?_
      refine go_getR flX11_10 h0 42 dX11_deep_39 rfl ?_
      refine go_iload_n 2 43 dX11_deep_42 rfl rfl ?_
      refine go_iload_n 1 44 dX11_deep_43 rfl rfl ?_
      refine go_cVI2 0 clX6 cwX11_276 (m_X6_oneDoorOn w (rF o0 0) (rk11_0 h0) x3 x2 M) (rk11_0 h0) 47 dX11_deep_44 rfl ⟨Nat.le_of_ble_eq_true rfl, Nat.le_of_ble_eq_true rfl⟩ ⟨Nat.zero_le _, Nat.zero_le _⟩ (Nat.le_of_ble_eq_true rfl) (fun q2 M1 _ => ?_)
      refine go_istore [(6, .int q2), (0, .ref (gB G + o0)), (2, .int x2), (3, .int x3), (4, .int x4), (5, .int x5)] 49 dX11_deep_47 rfl (by decide) rfl ?_
      refine go_iload 0 51 dX11_deep_49 rfl rfl ?_
      refine go_iload_n 3 52 dX11_deep_51 rfl rfl ?_
      refine go_icmp_eq 58 55 dX11_deep_52 rfl (by decide) (fun _ => ?_) (fun _ => ?_)
      · refine go_iload 0 60 dX11_deep_58 rfl rfl ?_
        refine go_istore_n [(3, .int q2), (6, .int q2), (0, .ref (gB G + o0)), (2, .int x2), (4, .int x4), (5, .int x5)] 61 dX11_deep_60 rfl rfl (by decide) rfl ?_
        refine go_iinc (x5 + 1) 5 [(5, .int (x5 + 1)), (3, .int q2), (6, .int q2), (0, .ref (gB G + o0)), (2, .int x2), (4, .int x4)] 64 dX11_deep_61 rfl rfl rfl (by decide) rfl ?_
        refine go_goto 31 dX11_deep_64 (by decide) ?_
        exact go_lv [3, 4, 1, 5, 0] rfl (ih o0 h0 x2 q2 x4 (x5 + 1) M1)
      · refine go_iinc (x4 + 1) 4 [(4, .int (x4 + 1)), (6, .int q2), (0, .ref (gB G + o0)), (2, .int x2), (3, .int x3), (5, .int x5)] 58 dX11_deep_55 rfl rfl rfl (by decide) rfl ?_
        refine go_iload 1 60 dX11_deep_58 rfl rfl ?_
        refine go_istore_n [(3, .int q2), (4, .int (x4 + 1)), (6, .int q2), (0, .ref (gB G + o0)), (2, .int x2), (5, .int x5)] 61 dX11_deep_60 rfl rfl (by decide) rfl ?_
        refine go_iinc (x5 + 1) 5 [(5, .int (x5 + 1)), (3, .int q2), (4, .int (x4 + 1)), (6, .int q2), (0, .ref (gB G + o0)), (2, .int x2)] 64 dX11_deep_61 rfl rfl rfl (by decide) rfl ?_
        refine go_goto 31 dX11_deep_64 (by decide) ?_
        exact go_lv [4, 5, 1, 2, 0] rfl (ih o0 h0 x2 q2 (x4 + 1) (x5 + 1) M1)
def f_X11_deep (w : Nat) (o0 : Nat) (x1 : Int32) (M : mM) : Option (Int32 × mM) := bI (f_X6_hasRoom w (rF o0 0) x1 M) fun q2 M1 => (if q2 = 0 then some ((-1), M1) else bI (f_X9_openDoors w (rF o0 6) M1) fun q4 M3 => lt ((1 : Int32) <<< (x1 &&& 31)) fun y5 => (f_X11_deep_31 w w o0 q4 y5 0 0 M3))
set_option maxHeartbeats 4000000 in
set_option maxRecDepth 100000 in
theorem s_X11_deep {l : Launch} {G : mG} {sk : List mS} (w : Nat) (o0 : Nat) (h0 : isK o0 21) (x1 : Int32) (M : mM) : Go muX11_deep (rm 4) 0 0 l G sk (mFin G sk eI) (f_X11_deep w o0 x1 M) 0 [(0, .ref (gB G + o0)), (1, .int x1)] [] M := by
  unfold f_X11_deep
  refine go_aload_n 0 1 dX11_deep_0 rfl rfl ?_
  refine go_getR flX11_10 h0 4 dX11_deep_1 rfl ?_
  refine go_iload_n 1 5 dX11_deep_4 rfl rfl ?_
  refine go_cVI1 0 clX6 cwX11_256 (m_X6_hasRoom w (rF o0 0) (rk11_0 h0) x1 M) (rk11_0 h0) 8 dX11_deep_5 rfl ⟨Nat.le_of_ble_eq_true rfl, Nat.le_of_ble_eq_true rfl⟩ ⟨Nat.zero_le _, Nat.zero_le _⟩ (Nat.le_of_ble_eq_true rfl) (fun q2 M1 _ => ?_)
  refine go_if_ne 13 11 dX11_deep_8 rfl (by decide) (fun _ => ?_) (fun _ => ?_)
  · refine go_aload_n 0 14 dX11_deep_13 rfl rfl ?_
    refine go_getR flX11_51 h0 17 dX11_deep_14 rfl ?_
    refine go_cVI0 3 clX9 cwX11_259 (m_X9_openDoors w (rF o0 6) (rk11_6 h0) M1) (rk11_6 h0) 20 dX11_deep_17 rfl ⟨Nat.le_of_ble_eq_true rfl, Nat.le_of_ble_eq_true rfl⟩ ⟨Nat.zero_le _, Nat.zero_le _⟩ (Nat.le_of_ble_eq_true rfl) (fun q4 M3 _ => ?_)
    refine go_istore_n [(2, .int q4), (0, .ref (gB G + o0)), (1, .int x1)] 21 dX11_deep_20 rfl rfl (by decide) rfl ?_
    refine go_iconst 1 22 dX11_deep_21 rfl (by decide) ?_
    refine go_iload_n 2 23 dX11_deep_22 rfl rfl ?_
    refine go_ishl 24 dX11_deep_23 rfl ?_
    refine go_nmI (fun y5 => ?_)
    refine go_istore_n [(3, .int y5), (2, .int q4), (0, .ref (gB G + o0)), (1, .int x1)] 25 dX11_deep_24 rfl rfl (by decide) rfl ?_
    refine go_iconst 0 26 dX11_deep_25 rfl (by decide) ?_
    refine go_istore [(4, .int 0), (3, .int y5), (2, .int q4), (0, .ref (gB G + o0)), (1, .int x1)] 28 dX11_deep_26 rfl (by decide) rfl ?_
    refine go_iconst 0 29 dX11_deep_28 rfl (by decide) ?_
    refine go_istore [(5, .int 0), (4, .int 0), (3, .int y5), (2, .int q4), (0, .ref (gB G + o0)), (1, .int x1)] 31 dX11_deep_29 rfl (by decide) rfl ?_
    exact go_lv [4, 3, 2, 1, 0] rfl (s_X11_deep_31 w w o0 h0 q4 y5 0 0 M3)
  · refine go_iconst (-1) 12 dX11_deep_11 rfl (by decide) ?_
    exact go_iret rfl dX11_deep_12
theorem m_X11_deep {l : Launch} {G : mG} {sk : List mS} (w : Nat) (o0 : Nat) (h0 : isK o0 21) (x1 : Int32) (M : mM) : Mt l G sk yX11_deep muX11_deep 4 [.ref (gB G + o0), .int x1] M eI (f_X11_deep w o0 x1 M) := Mt.of (by decide) rfl (Nat.le_of_ble_eq_true rfl) (s_X11_deep w o0 h0 x1 M)
theorem dX11_cut_0 : decode cX11_cut 0 = .ok (.aload_n 0, 1) := by decide +kernel
theorem dX11_cut_1 : decode cX11_cut 1 = .ok (.getfield 10, 3) := by decide +kernel
theorem dX11_cut_4 : decode cX11_cut 4 = .ok (.iload_n 1, 1) := by decide +kernel
theorem dX11_cut_5 : decode cX11_cut 5 = .ok (.invokevirtual 256, 3) := by decide +kernel
theorem dX11_cut_8 : decode cX11_cut 8 = .ok (.ifCond .eq 19, 3) := by decide +kernel
theorem dX11_cut_11 : decode cX11_cut 11 = .ok (.aload_n 0, 1) := by decide +kernel
theorem dX11_cut_12 : decode cX11_cut 12 = .ok (.getfield 10, 3) := by decide +kernel
theorem dX11_cut_15 : decode cX11_cut 15 = .ok (.iload_n 2, 1) := by decide +kernel
theorem dX11_cut_16 : decode cX11_cut 16 = .ok (.invokevirtual 256, 3) := by decide +kernel
theorem dX11_cut_19 : decode cX11_cut 19 = .ok (.ifCond .eq 8, 3) := by decide +kernel
theorem dX11_cut_22 : decode cX11_cut 22 = .ok (.iload_n 1, 1) := by decide +kernel
theorem dX11_cut_23 : decode cX11_cut 23 = .ok (.iload_n 2, 1) := by decide +kernel
theorem dX11_cut_24 : decode cX11_cut 24 = .ok (.if_icmp .ne 5, 3) := by decide +kernel
theorem dX11_cut_27 : decode cX11_cut 27 = .ok (.iconst (-1), 1) := by decide +kernel
theorem dX11_cut_28 : decode cX11_cut 28 = .ok (.ireturn, 1) := by decide +kernel
theorem dX11_cut_29 : decode cX11_cut 29 = .ok (.aload_n 0, 1) := by decide +kernel
theorem dX11_cut_30 : decode cX11_cut 30 = .ok (.getfield 51, 3) := by decide +kernel
theorem dX11_cut_33 : decode cX11_cut 33 = .ok (.invokevirtual 259, 3) := by decide +kernel
theorem dX11_cut_36 : decode cX11_cut 36 = .ok (.istore_n 3, 1) := by decide +kernel
theorem dX11_cut_37 : decode cX11_cut 37 = .ok (.iload_n 3, 1) := by decide +kernel
theorem dX11_cut_38 : decode cX11_cut 38 = .ok (.istore 4, 2) := by decide +kernel
theorem dX11_cut_40 : decode cX11_cut 40 = .ok (.iconst 0, 1) := by decide +kernel
theorem dX11_cut_41 : decode cX11_cut 41 = .ok (.istore 5, 2) := by decide +kernel
theorem dX11_cut_43 : decode cX11_cut 43 = .ok (.iload 5, 2) := by decide +kernel
theorem dX11_cut_45 : decode cX11_cut 45 = .ok (.sipush 256, 3) := by decide +kernel
theorem dX11_cut_48 : decode cX11_cut 48 = .ok (.if_icmp .ge 65, 3) := by decide +kernel
theorem dX11_cut_51 : decode cX11_cut 51 = .ok (.iload 5, 2) := by decide +kernel
theorem dX11_cut_53 : decode cX11_cut 53 = .ok (.invokestatic 251, 3) := by decide +kernel
theorem dX11_cut_56 : decode cX11_cut 56 = .ok (.iload 4, 2) := by decide +kernel
theorem dX11_cut_58 : decode cX11_cut 58 = .ok (.invokestatic 251, 3) := by decide +kernel
theorem dX11_cut_61 : decode cX11_cut 61 = .ok (.if_icmp .ge 16, 3) := by decide +kernel
theorem dX11_cut_64 : decode cX11_cut 64 = .ok (.iload 5, 2) := by decide +kernel
theorem dX11_cut_66 : decode cX11_cut 66 = .ok (.iload_n 3, 1) := by decide +kernel
theorem dX11_cut_67 : decode cX11_cut 67 = .ok (.iconst (-1), 1) := by decide +kernel
theorem dX11_cut_68 : decode cX11_cut 68 = .ok (.ixor, 1) := by decide +kernel
theorem dX11_cut_69 : decode cX11_cut 69 = .ok (.iand, 1) := by decide +kernel
theorem dX11_cut_70 : decode cX11_cut 70 = .ok (.ifCond .ne 7, 3) := by decide +kernel
theorem dX11_cut_73 : decode cX11_cut 73 = .ok (.iconst 1, 1) := by decide +kernel
theorem dX11_cut_74 : decode cX11_cut 74 = .ok (.goto 4, 3) := by decide +kernel
theorem dX11_cut_77 : decode cX11_cut 77 = .ok (.iconst 0, 1) := by decide +kernel
theorem dX11_cut_78 : decode cX11_cut 78 = .ok (.istore 6, 2) := by decide +kernel
theorem dX11_cut_80 : decode cX11_cut 80 = .ok (.iload 6, 2) := by decide +kernel
theorem dX11_cut_82 : decode cX11_cut 82 = .ok (.ifCond .eq 25, 3) := by decide +kernel
theorem dX11_cut_85 : decode cX11_cut 85 = .ok (.aload_n 0, 1) := by decide +kernel
theorem dX11_cut_86 : decode cX11_cut 86 = .ok (.getfield 10, 3) := by decide +kernel
theorem dX11_cut_89 : decode cX11_cut 89 = .ok (.iload_n 1, 1) := by decide +kernel
theorem dX11_cut_90 : decode cX11_cut 90 = .ok (.iload_n 2, 1) := by decide +kernel
theorem dX11_cut_91 : decode cX11_cut 91 = .ok (.iload_n 3, 1) := by decide +kernel
theorem dX11_cut_92 : decode cX11_cut 92 = .ok (.iload 5, 2) := by decide +kernel
theorem dX11_cut_94 : decode cX11_cut 94 = .ok (.iconst (-1), 1) := by decide +kernel
theorem dX11_cut_95 : decode cX11_cut 95 = .ok (.ixor, 1) := by decide +kernel
theorem dX11_cut_96 : decode cX11_cut 96 = .ok (.iand, 1) := by decide +kernel
theorem dX11_cut_97 : decode cX11_cut 97 = .ok (.invokevirtual 269, 3) := by decide +kernel
theorem dX11_cut_100 : decode cX11_cut 100 = .ok (.ifCond .ne 7, 3) := by decide +kernel
theorem dX11_cut_103 : decode cX11_cut 103 = .ok (.iload 5, 2) := by decide +kernel
theorem dX11_cut_105 : decode cX11_cut 105 = .ok (.istore 4, 2) := by decide +kernel
theorem dX11_cut_107 : decode cX11_cut 107 = .ok (.iinc 5 1, 3) := by decide +kernel
theorem dX11_cut_110 : decode cX11_cut 110 = .ok (.goto (-67), 3) := by decide +kernel
theorem dX11_cut_113 : decode cX11_cut 113 = .ok (.iload 4, 2) := by decide +kernel
theorem dX11_cut_115 : decode cX11_cut 115 = .ok (.ireturn, 1) := by decide +kernel
def f_X11_cut_78 (w : Nat) (k43 : Nat → Int32 → Int32 → Int32 → Int32 → Int32 → mM → Option (Int32 × mM)) (o0 : Nat) (x1 : Int32) (x2 : Int32) (x3 : Int32) (x4 : Int32) (x5 : Int32) (xs0 : Int32) (M : mM) : Option (Int32 × mM) := (if xs0 = 0 then (k43 o0 x1 x2 x3 x4 (x5 + 1) M) else bI (f_X6_isJoined w (rF o0 0) x1 x2 (x3 &&& (x5 ^^^ (-1))) M) fun q2 M1 => (if q2 = 0 then (k43 o0 x1 x2 x3 x5 (x5 + 1) M1) else (k43 o0 x1 x2 x3 x4 (x5 + 1) M1)))
set_option maxHeartbeats 4000000 in
set_option maxRecDepth 100000 in
theorem s_X11_cut_78 {l : Launch} {G : mG} {sk : List mS} (w : Nat) (k43 : Nat → Int32 → Int32 → Int32 → Int32 → Int32 → mM → Option (Int32 × mM)) (hk43 : ∀ (o0 : Nat) (h0 : isK o0 21) (x1 : Int32) (x2 : Int32) (x3 : Int32) (x4 : Int32) (x5 : Int32) (M : mM), Go muX11_cut (rm 4) 0 0 l G sk (mFin G sk eI) (k43 o0 x1 x2 x3 x4 x5 M) 43 [(0, .ref (gB G + o0)), (1, .int x1), (2, .int x2), (3, .int x3), (4, .int x4), (5, .int x5)] [] M) (o0 : Nat) (h0 : isK o0 21) (x1 : Int32) (x2 : Int32) (x3 : Int32) (x4 : Int32) (x5 : Int32) (xs0 : Int32) (M : mM) : Go muX11_cut (rm 4) 0 0 l G sk (mFin G sk eI) (f_X11_cut_78 w k43 o0 x1 x2 x3 x4 x5 xs0 M) 78 [(0, .ref (gB G + o0)), (1, .int x1), (2, .int x2), (3, .int x3), (4, .int x4), (5, .int x5)] [.int xs0] M := by
  unfold f_X11_cut_78
  refine go_istore [(6, .int xs0), (0, .ref (gB G + o0)), (1, .int x1), (2, .int x2), (3, .int x3), (4, .int x4), (5, .int x5)] 80 dX11_cut_78 rfl (by decide) rfl ?_
  refine go_iload 0 82 dX11_cut_80 rfl rfl ?_
  refine go_if_eq 107 85 dX11_cut_82 rfl (by decide) (fun _ => ?_) (fun _ => ?_)
  · refine go_iinc (x5 + 1) 6 [(5, .int (x5 + 1)), (6, .int xs0), (0, .ref (gB G + o0)), (1, .int x1), (2, .int x2), (3, .int x3), (4, .int x4)] 110 dX11_cut_107 rfl rfl rfl (by decide) rfl ?_
    refine go_goto 43 dX11_cut_110 (by decide) ?_
    exact go_lv [2, 3, 4, 5, 6, 0] rfl (hk43 o0 h0 x1 x2 x3 x4 (x5 + 1) M)
  · refine go_aload_n 1 86 dX11_cut_85 rfl rfl ?_
    refine go_getR flX11_10 h0 89 dX11_cut_86 rfl ?_
    refine go_iload_n 2 90 dX11_cut_89 rfl rfl ?_
    refine go_iload_n 3 91 dX11_cut_90 rfl rfl ?_
    refine go_iload_n 4 92 dX11_cut_91 rfl rfl ?_
    refine go_iload 6 94 dX11_cut_92 rfl rfl ?_
    refine go_iconst (-1) 95 dX11_cut_94 rfl (by decide) ?_
    refine go_ixor 96 dX11_cut_95 rfl ?_
    refine go_iand 97 dX11_cut_96 rfl ?_
    refine go_cVI3 2 clX6 cwX11_269 (m_X6_isJoined w (rF o0 0) (rk11_0 h0) x1 x2 (x3 &&& (x5 ^^^ (-1))) M) (rk11_0 h0) 100 dX11_cut_97 rfl ⟨Nat.le_of_ble_eq_true rfl, Nat.le_of_ble_eq_true rfl⟩ ⟨Nat.zero_le _, Nat.zero_le _⟩ (Nat.le_of_ble_eq_true rfl) (fun q2 M1 _ => ?_)
    refine go_if_ne 107 103 dX11_cut_100 rfl (by decide) (fun _ => ?_) (fun _ => ?_)
    · refine go_iinc (x5 + 1) 6 [(5, .int (x5 + 1)), (6, .int xs0), (0, .ref (gB G + o0)), (1, .int x1), (2, .int x2), (3, .int x3), (4, .int x4)] 110 dX11_cut_107 rfl rfl rfl (by decide) rfl ?_
      refine go_goto 43 dX11_cut_110 (by decide) ?_
      exact go_lv [2, 3, 4, 5, 6, 0] rfl (hk43 o0 h0 x1 x2 x3 x4 (x5 + 1) M1)
    · refine go_iload 6 105 dX11_cut_103 rfl rfl ?_
      refine go_istore [(4, .int x5), (6, .int xs0), (0, .ref (gB G + o0)), (1, .int x1), (2, .int x2), (3, .int x3), (5, .int x5)] 107 dX11_cut_105 rfl (by decide) rfl ?_
      refine go_iinc (x5 + 1) 6 [(5, .int (x5 + 1)), (4, .int x5), (6, .int xs0), (0, .ref (gB G + o0)), (1, .int x1), (2, .int x2), (3, .int x3)] 110 dX11_cut_107 rfl rfl rfl (by decide) rfl ?_
      refine go_goto 43 dX11_cut_110 (by decide) ?_
      exact go_lv [3, 4, 5, 6, 1, 0] rfl (hk43 o0 h0 x1 x2 x3 x5 (x5 + 1) M1)
def f_X11_cut_77 (w : Nat) (k43 : Nat → Int32 → Int32 → Int32 → Int32 → Int32 → mM → Option (Int32 × mM)) (o0 : Nat) (x1 : Int32) (x2 : Int32) (x3 : Int32) (x4 : Int32) (x5 : Int32) (M : mM) : Option (Int32 × mM) := (f_X11_cut_78 w k43 o0 x1 x2 x3 x4 x5 0 M)
set_option maxHeartbeats 4000000 in
set_option maxRecDepth 100000 in
theorem s_X11_cut_77 {l : Launch} {G : mG} {sk : List mS} (w : Nat) (k43 : Nat → Int32 → Int32 → Int32 → Int32 → Int32 → mM → Option (Int32 × mM)) (hk43 : ∀ (o0 : Nat) (h0 : isK o0 21) (x1 : Int32) (x2 : Int32) (x3 : Int32) (x4 : Int32) (x5 : Int32) (M : mM), Go muX11_cut (rm 4) 0 0 l G sk (mFin G sk eI) (k43 o0 x1 x2 x3 x4 x5 M) 43 [(0, .ref (gB G + o0)), (1, .int x1), (2, .int x2), (3, .int x3), (4, .int x4), (5, .int x5)] [] M) (o0 : Nat) (h0 : isK o0 21) (x1 : Int32) (x2 : Int32) (x3 : Int32) (x4 : Int32) (x5 : Int32) (M : mM) : Go muX11_cut (rm 4) 0 0 l G sk (mFin G sk eI) (f_X11_cut_77 w k43 o0 x1 x2 x3 x4 x5 M) 77 [(0, .ref (gB G + o0)), (1, .int x1), (2, .int x2), (3, .int x3), (4, .int x4), (5, .int x5)] [] M := by
  unfold f_X11_cut_77
  refine go_iconst 0 78 dX11_cut_77 rfl (by decide) ?_
  exact go_lv [0, 1, 2, 3, 4, 5] rfl (s_X11_cut_78 w k43 hk43 o0 h0 x1 x2 x3 x4 x5 0 M)
def f_X11_cut_43 (w : Nat) : Nat → Nat → Int32 → Int32 → Int32 → Int32 → Int32 → mM → Option (Int32 × mM)
  | 0, _, _, _, _, _, _, _ => none
  | n + 1, o0, x1, x2, x3, x4, x5, M => (if 256 ≤ x5 then some (x4, M) else bI (f_J6_bitCount_0f7a4 w x5 M) fun q2 M1 => bI (f_J6_bitCount_0f7a4 w x4 M1) fun q4 M3 => (if q4 ≤ q2 then (f_X11_cut_77 w (f_X11_cut_43 w n) o0 x1 x2 x3 x4 x5 M3) else (if (x5 &&& (x3 ^^^ (-1))) = 0 then (f_X11_cut_78 w (f_X11_cut_43 w n) o0 x1 x2 x3 x4 x5 1 M3) else (f_X11_cut_77 w (f_X11_cut_43 w n) o0 x1 x2 x3 x4 x5 M3))))
set_option maxHeartbeats 4000000 in
set_option maxRecDepth 100000 in
theorem s_X11_cut_43 {l : Launch} {G : mG} {sk : List mS} (w : Nat) : ∀ (n : Nat) (o0 : Nat) (h0 : isK o0 21) (x1 : Int32) (x2 : Int32) (x3 : Int32) (x4 : Int32) (x5 : Int32) (M : mM), Go muX11_cut (rm 4) 0 0 l G sk (mFin G sk eI) (f_X11_cut_43 w n o0 x1 x2 x3 x4 x5 M) 43 [(0, .ref (gB G + o0)), (1, .int x1), (2, .int x2), (3, .int x3), (4, .int x4), (5, .int x5)] [] M := by
  intro n
  induction n with
  | zero =>
    intros
    exact go_none
  | succ n ih =>
    intro o0 h0 x1 x2 x3 x4 x5 M
    rw [f_X11_cut_43]
    refine go_iload 5 45 dX11_cut_43 rfl rfl ?_
    refine go_sipush 256 48 dX11_cut_45 rfl (by decide) ?_
    refine go_icmp_ge 113 51 dX11_cut_48 rfl (by decide) (fun _ => ?_) (fun _ => ?_)
    · refine go_iload 4 115 dX11_cut_113 rfl rfl ?_
      exact go_iret rfl dX11_cut_115
    · refine go_iload 5 53 dX11_cut_51 rfl rfl ?_
      refine go_cSI1 0 cwX11_251 (m_J6_bitCount_0f7a4 w x5 M) 56 dX11_cut_53 rfl ⟨Nat.le_of_ble_eq_true rfl, Nat.le_of_ble_eq_true rfl⟩ ⟨Nat.zero_le _, Nat.zero_le _⟩ (Nat.le_of_ble_eq_true rfl) (fun q2 M1 _ => ?_)
      refine go_iload 4 58 dX11_cut_56 rfl rfl ?_
      refine go_cSI1 0 cwX11_251 (m_J6_bitCount_0f7a4 w x4 M1) 61 dX11_cut_58 rfl ⟨Nat.le_of_ble_eq_true rfl, Nat.le_of_ble_eq_true rfl⟩ ⟨Nat.zero_le _, Nat.zero_le _⟩ (Nat.le_of_ble_eq_true rfl) (fun q4 M3 _ => ?_)
      refine go_icmp_ge 77 64 dX11_cut_61 rfl (by decide) (fun _ => ?_) (fun _ => ?_)
      · exact go_lv [0, 1, 2, 3, 4, 5] rfl (s_X11_cut_77 w (f_X11_cut_43 w n) (fun o0 h0 x1 x2 x3 x4 x5 M => ih o0 h0 x1 x2 x3 x4 x5 M) o0 h0 x1 x2 x3 x4 x5 M3)
      · refine go_iload 5 66 dX11_cut_64 rfl rfl ?_
        refine go_iload_n 3 67 dX11_cut_66 rfl rfl ?_
        refine go_iconst (-1) 68 dX11_cut_67 rfl (by decide) ?_
        refine go_ixor 69 dX11_cut_68 rfl ?_
        refine go_iand 70 dX11_cut_69 rfl ?_
        refine go_if_ne 77 73 dX11_cut_70 rfl (by decide) (fun _ => ?_) (fun _ => ?_)
        · exact go_lv [0, 1, 2, 3, 4, 5] rfl (s_X11_cut_77 w (f_X11_cut_43 w n) (fun o0 h0 x1 x2 x3 x4 x5 M => ih o0 h0 x1 x2 x3 x4 x5 M) o0 h0 x1 x2 x3 x4 x5 M3)
        · refine go_iconst 1 74 dX11_cut_73 rfl (by decide) ?_
          refine go_goto 78 dX11_cut_74 (by decide) ?_
          exact go_lv [0, 1, 2, 3, 4, 5] rfl (s_X11_cut_78 w (f_X11_cut_43 w n) (fun o0 h0 x1 x2 x3 x4 x5 M => ih o0 h0 x1 x2 x3 x4 x5 M) o0 h0 x1 x2 x3 x4 x5 1 M3)
def f_X11_cut (w : Nat) (o0 : Nat) (x1 : Int32) (x2 : Int32) (M : mM) : Option (Int32 × mM) := bI (f_X6_hasRoom w (rF o0 0) x1 M) fun q2 M1 => (if q2 = 0 then some ((-1), M1) else bI (f_X6_hasRoom w (rF o0 0) x2 M1) fun q4 M3 => (if q4 = 0 then some ((-1), M3) else (if x1 = x2 then some ((-1), M3) else bI (f_X9_openDoors w (rF o0 6) M3) fun q6 M5 => (f_X11_cut_43 w w o0 x1 x2 q6 q6 0 M5))))
set_option maxHeartbeats 4000000 in
set_option maxRecDepth 100000 in
theorem s_X11_cut {l : Launch} {G : mG} {sk : List mS} (w : Nat) (o0 : Nat) (h0 : isK o0 21) (x1 : Int32) (x2 : Int32) (M : mM) : Go muX11_cut (rm 4) 0 0 l G sk (mFin G sk eI) (f_X11_cut w o0 x1 x2 M) 0 [(0, .ref (gB G + o0)), (1, .int x1), (2, .int x2)] [] M := by
  unfold f_X11_cut
  refine go_aload_n 0 1 dX11_cut_0 rfl rfl ?_
  refine go_getR flX11_10 h0 4 dX11_cut_1 rfl ?_
  refine go_iload_n 1 5 dX11_cut_4 rfl rfl ?_
  refine go_cVI1 0 clX6 cwX11_256 (m_X6_hasRoom w (rF o0 0) (rk11_0 h0) x1 M) (rk11_0 h0) 8 dX11_cut_5 rfl ⟨Nat.le_of_ble_eq_true rfl, Nat.le_of_ble_eq_true rfl⟩ ⟨Nat.zero_le _, Nat.zero_le _⟩ (Nat.le_of_ble_eq_true rfl) (fun q2 M1 _ => ?_)
  refine go_if_eq 27 11 dX11_cut_8 rfl (by decide) (fun _ => ?_) (fun _ => ?_)
  · refine go_iconst (-1) 28 dX11_cut_27 rfl (by decide) ?_
    exact go_iret rfl dX11_cut_28
  · refine go_aload_n 0 12 dX11_cut_11 rfl rfl ?_
    refine go_getR flX11_10 h0 15 dX11_cut_12 rfl ?_
    refine go_iload_n 2 16 dX11_cut_15 rfl rfl ?_
    refine go_cVI1 0 clX6 cwX11_256 (m_X6_hasRoom w (rF o0 0) (rk11_0 h0) x2 M1) (rk11_0 h0) 19 dX11_cut_16 rfl ⟨Nat.le_of_ble_eq_true rfl, Nat.le_of_ble_eq_true rfl⟩ ⟨Nat.zero_le _, Nat.zero_le _⟩ (Nat.le_of_ble_eq_true rfl) (fun q4 M3 _ => ?_)
    refine go_if_eq 27 22 dX11_cut_19 rfl (by decide) (fun _ => ?_) (fun _ => ?_)
    · refine go_iconst (-1) 28 dX11_cut_27 rfl (by decide) ?_
      exact go_iret rfl dX11_cut_28
    · refine go_iload_n 1 23 dX11_cut_22 rfl rfl ?_
      refine go_iload_n 2 24 dX11_cut_23 rfl rfl ?_
      refine go_icmp_ne 29 27 dX11_cut_24 rfl (by decide) (fun _ => ?_) (fun _ => ?_)
      · refine go_aload_n 0 30 dX11_cut_29 rfl rfl ?_
        refine go_getR flX11_51 h0 33 dX11_cut_30 rfl ?_
        refine go_cVI0 3 clX9 cwX11_259 (m_X9_openDoors w (rF o0 6) (rk11_6 h0) M3) (rk11_6 h0) 36 dX11_cut_33 rfl ⟨Nat.le_of_ble_eq_true rfl, Nat.le_of_ble_eq_true rfl⟩ ⟨Nat.zero_le _, Nat.zero_le _⟩ (Nat.le_of_ble_eq_true rfl) (fun q6 M5 _ => ?_)
        refine go_istore_n [(3, .int q6), (0, .ref (gB G + o0)), (1, .int x1), (2, .int x2)] 37 dX11_cut_36 rfl rfl (by decide) rfl ?_
        refine go_iload_n 0 38 dX11_cut_37 rfl rfl ?_
        refine go_istore [(4, .int q6), (3, .int q6), (0, .ref (gB G + o0)), (1, .int x1), (2, .int x2)] 40 dX11_cut_38 rfl (by decide) rfl ?_
        refine go_iconst 0 41 dX11_cut_40 rfl (by decide) ?_
        refine go_istore [(5, .int 0), (4, .int q6), (3, .int q6), (0, .ref (gB G + o0)), (1, .int x1), (2, .int x2)] 43 dX11_cut_41 rfl (by decide) rfl ?_
        exact go_lv [3, 4, 5, 2, 1, 0] rfl (s_X11_cut_43 w w o0 h0 x1 x2 q6 q6 0 M5)
      · refine go_iconst (-1) 28 dX11_cut_27 rfl (by decide) ?_
        exact go_iret rfl dX11_cut_28
theorem m_X11_cut {l : Launch} {G : mG} {sk : List mS} (w : Nat) (o0 : Nat) (h0 : isK o0 21) (x1 : Int32) (x2 : Int32) (M : mM) : Mt l G sk yX11_cut muX11_cut 4 [.ref (gB G + o0), .int x1, .int x2] M eI (f_X11_cut w o0 x1 x2 M) := Mt.of (by decide) rfl (Nat.le_of_ble_eq_true rfl) (s_X11_cut w o0 h0 x1 x2 M)
theorem dX11_later_0 : decode cX11_later 0 = .ok (.aload_n 0, 1) := by decide +kernel
theorem dX11_later_1 : decode cX11_later 1 = .ok (.getfield 10, 3) := by decide +kernel
theorem dX11_later_4 : decode cX11_later 4 = .ok (.iload_n 1, 1) := by decide +kernel
theorem dX11_later_5 : decode cX11_later 5 = .ok (.invokevirtual 145, 3) := by decide +kernel
theorem dX11_later_8 : decode cX11_later 8 = .ok (.ifCond .eq 13, 3) := by decide +kernel
theorem dX11_later_11 : decode cX11_later 11 = .ok (.iload_n 2, 1) := by decide +kernel
theorem dX11_later_12 : decode cX11_later 12 = .ok (.ifCond .lt 9, 3) := by decide +kernel
theorem dX11_later_15 : decode cX11_later 15 = .ok (.iload_n 2, 1) := by decide +kernel
theorem dX11_later_16 : decode cX11_later 16 = .ok (.bipush 60, 2) := by decide +kernel
theorem dX11_later_18 : decode cX11_later 18 = .ok (.if_icmp .le 5, 3) := by decide +kernel
theorem dX11_later_21 : decode cX11_later 21 = .ok (.iconst (-1), 1) := by decide +kernel
theorem dX11_later_22 : decode cX11_later 22 = .ok (.ireturn, 1) := by decide +kernel
theorem dX11_later_23 : decode cX11_later 23 = .ok (.aload_n 0, 1) := by decide +kernel
theorem dX11_later_24 : decode cX11_later 24 = .ok (.getfield 84, 3) := by decide +kernel
theorem dX11_later_27 : decode cX11_later 27 = .ok (.iload_n 1, 1) := by decide +kernel
theorem dX11_later_28 : decode cX11_later 28 = .ok (.aload_n 0, 1) := by decide +kernel
theorem dX11_later_29 : decode cX11_later 29 = .ok (.getfield 51, 3) := by decide +kernel
theorem dX11_later_32 : decode cX11_later 32 = .ok (.getfield 158, 3) := by decide +kernel
theorem dX11_later_35 : decode cX11_later 35 = .ok (.iload_n 1, 1) := by decide +kernel
theorem dX11_later_36 : decode cX11_later 36 = .ok (.iaload, 1) := by decide +kernel
theorem dX11_later_37 : decode cX11_later 37 = .ok (.iload_n 2, 1) := by decide +kernel
theorem dX11_later_38 : decode cX11_later 38 = .ok (.iconst (-1), 1) := by decide +kernel
theorem dX11_later_39 : decode cX11_later 39 = .ok (.invokevirtual 279, 3) := by decide +kernel
theorem dX11_later_42 : decode cX11_later 42 = .ok (.ireturn, 1) := by decide +kernel
def f_X11_later (w : Nat) (o0 : Nat) (x1 : Int32) (x2 : Int32) (M : mM) : Option (Int32 × mM) := bI (f_X6_hasDoor w (rF o0 0) x1 M) fun q2 M1 => (if q2 = 0 then some ((-1), M1) else (if x2 < 0 then some ((-1), M1) else (if x2 ≤ 60 then chk x1 (sL (rF (rF o0 6) 3)) (bI (f_X5_swollenBehind w (rF o0 11) x1 (M1.1 (rF (rF o0 6) 3) x1.toNatClampNeg) x2 (-1) M1) fun q4 M3 => some (q4, M3)) else some ((-1), M1))))
set_option maxHeartbeats 4000000 in
set_option maxRecDepth 100000 in
theorem s_X11_later {l : Launch} {G : mG} {sk : List mS} (w : Nat) (o0 : Nat) (h0 : isK o0 21) (x1 : Int32) (x2 : Int32) (M : mM) : Go muX11_later (rm 4) 0 0 l G sk (mFin G sk eI) (f_X11_later w o0 x1 x2 M) 0 [(0, .ref (gB G + o0)), (1, .int x1), (2, .int x2)] [] M := by
  unfold f_X11_later
  refine go_aload_n 0 1 dX11_later_0 rfl rfl ?_
  refine go_getR flX11_10 h0 4 dX11_later_1 rfl ?_
  refine go_iload_n 1 5 dX11_later_4 rfl rfl ?_
  refine go_cVI1 0 clX6 cwX11_145 (m_X6_hasDoor w (rF o0 0) (rk11_0 h0) x1 M) (rk11_0 h0) 8 dX11_later_5 rfl ⟨Nat.le_of_ble_eq_true rfl, Nat.le_of_ble_eq_true rfl⟩ ⟨Nat.zero_le _, Nat.zero_le _⟩ (Nat.le_of_ble_eq_true rfl) (fun q2 M1 _ => ?_)
  refine go_if_eq 21 11 dX11_later_8 rfl (by decide) (fun _ => ?_) (fun _ => ?_)
  · refine go_iconst (-1) 22 dX11_later_21 rfl (by decide) ?_
    exact go_iret rfl dX11_later_22
  · refine go_iload_n 2 12 dX11_later_11 rfl rfl ?_
    refine go_if_lt 21 15 dX11_later_12 rfl (by decide) (fun _ => ?_) (fun _ => ?_)
    · refine go_iconst (-1) 22 dX11_later_21 rfl (by decide) ?_
      exact go_iret rfl dX11_later_22
    · refine go_iload_n 2 16 dX11_later_15 rfl rfl ?_
      refine go_bipush 60 18 dX11_later_16 rfl (by decide) ?_
      refine go_icmp_le 23 21 dX11_later_18 rfl (by decide) (fun _ => ?_) (fun _ => ?_)
      · refine go_aload_n 0 24 dX11_later_23 rfl rfl ?_
        refine go_getR flX11_84 h0 27 dX11_later_24 rfl ?_
        refine go_iload_n 1 28 dX11_later_27 rfl rfl ?_
        refine go_aload_n 0 29 dX11_later_28 rfl rfl ?_
        refine go_getR flX11_51 h0 32 dX11_later_29 rfl ?_
        refine go_getR flX11_158 (rk11_6 h0) 35 dX11_later_32 rfl ?_
        refine go_iload_n 1 36 dX11_later_35 rfl rfl ?_
        refine go_iald (rk9_3 (rk11_6 h0)) 37 dX11_later_36 rfl ?_
        refine go_iload_n 2 38 dX11_later_37 rfl rfl ?_
        refine go_iconst (-1) 39 dX11_later_38 rfl (by decide) ?_
        refine go_cVI4 3 clX5 cwX11_279 (m_X5_swollenBehind w (rF o0 11) (rk11_11 h0) x1 (M1.1 (rF (rF o0 6) 3) x1.toNatClampNeg) x2 (-1) M1) (rk11_11 h0) 42 dX11_later_39 rfl ⟨Nat.le_of_ble_eq_true rfl, Nat.le_of_ble_eq_true rfl⟩ ⟨Nat.zero_le _, Nat.zero_le _⟩ (Nat.le_of_ble_eq_true rfl) (fun q4 M3 _ => ?_)
        exact go_iret rfl dX11_later_42
      · refine go_iconst (-1) 22 dX11_later_21 rfl (by decide) ?_
        exact go_iret rfl dX11_later_22
theorem m_X11_later {l : Launch} {G : mG} {sk : List mS} (w : Nat) (o0 : Nat) (h0 : isK o0 21) (x1 : Int32) (x2 : Int32) (M : mM) : Mt l G sk yX11_later muX11_later 4 [.ref (gB G + o0), .int x1, .int x2] M eI (f_X11_later w o0 x1 x2 M) := Mt.of (by decide) rfl (Nat.le_of_ble_eq_true rfl) (s_X11_later w o0 h0 x1 x2 M)
theorem dX11_closes_0 : decode cX11_closes 0 = .ok (.aload_n 0, 1) := by decide +kernel
theorem dX11_closes_1 : decode cX11_closes 1 = .ok (.getfield 10, 3) := by decide +kernel
theorem dX11_closes_4 : decode cX11_closes 4 = .ok (.iload_n 1, 1) := by decide +kernel
theorem dX11_closes_5 : decode cX11_closes 5 = .ok (.invokevirtual 145, 3) := by decide +kernel
theorem dX11_closes_8 : decode cX11_closes 8 = .ok (.ifCond .eq 17, 3) := by decide +kernel
theorem dX11_closes_11 : decode cX11_closes 11 = .ok (.aload_n 0, 1) := by decide +kernel
theorem dX11_closes_12 : decode cX11_closes 12 = .ok (.getfield 84, 3) := by decide +kernel
theorem dX11_closes_15 : decode cX11_closes 15 = .ok (.iconst 1, 1) := by decide +kernel
theorem dX11_closes_16 : decode cX11_closes 16 = .ok (.iload_n 1, 1) := by decide +kernel
theorem dX11_closes_17 : decode cX11_closes 17 = .ok (.ishl, 1) := by decide +kernel
theorem dX11_closes_18 : decode cX11_closes 18 = .ok (.iconst 0, 1) := by decide +kernel
theorem dX11_closes_19 : decode cX11_closes 19 = .ok (.invokevirtual 283, 3) := by decide +kernel
theorem dX11_closes_22 : decode cX11_closes 22 = .ok (.goto 4, 3) := by decide +kernel
theorem dX11_closes_25 : decode cX11_closes 25 = .ok (.iconst (-1), 1) := by decide +kernel
theorem dX11_closes_26 : decode cX11_closes 26 = .ok (.ireturn, 1) := by decide +kernel
def f_X11_closes (w : Nat) (o0 : Nat) (x1 : Int32) (M : mM) : Option (Int32 × mM) := bI (f_X6_hasDoor w (rF o0 0) x1 M) fun q2 M1 => (if q2 = 0 then some ((-1), M1) else bI (f_X5_firstDay w (rF o0 11) ((1 : Int32) <<< (x1 &&& 31)) 0 M1) fun q4 M3 => some (q4, M3))
set_option maxHeartbeats 4000000 in
set_option maxRecDepth 100000 in
theorem s_X11_closes {l : Launch} {G : mG} {sk : List mS} (w : Nat) (o0 : Nat) (h0 : isK o0 21) (x1 : Int32) (M : mM) : Go muX11_closes (rm 6) 0 0 l G sk (mFin G sk eI) (f_X11_closes w o0 x1 M) 0 [(0, .ref (gB G + o0)), (1, .int x1)] [] M := by
  unfold f_X11_closes
  refine go_aload_n 0 1 dX11_closes_0 rfl rfl ?_
  refine go_getR flX11_10 h0 4 dX11_closes_1 rfl ?_
  refine go_iload_n 1 5 dX11_closes_4 rfl rfl ?_
  refine go_cVI1 0 clX6 cwX11_145 (m_X6_hasDoor w (rF o0 0) (rk11_0 h0) x1 M) (rk11_0 h0) 8 dX11_closes_5 rfl ⟨Nat.le_of_ble_eq_true rfl, Nat.le_of_ble_eq_true rfl⟩ ⟨Nat.zero_le _, Nat.zero_le _⟩ (Nat.le_of_ble_eq_true rfl) (fun q2 M1 _ => ?_)
  refine go_if_eq 25 11 dX11_closes_8 rfl (by decide) (fun _ => ?_) (fun _ => ?_)
  · refine go_iconst (-1) 26 dX11_closes_25 rfl (by decide) ?_
    exact go_iret rfl dX11_closes_26
  · refine go_aload_n 0 12 dX11_closes_11 rfl rfl ?_
    refine go_getR flX11_84 h0 15 dX11_closes_12 rfl ?_
    refine go_iconst 1 16 dX11_closes_15 rfl (by decide) ?_
    refine go_iload_n 1 17 dX11_closes_16 rfl rfl ?_
    refine go_ishl 18 dX11_closes_17 rfl ?_
    refine go_iconst 0 19 dX11_closes_18 rfl (by decide) ?_
    refine go_cVI2 5 clX5 cwX11_283 (m_X5_firstDay w (rF o0 11) (rk11_11 h0) ((1 : Int32) <<< (x1 &&& 31)) 0 M1) (rk11_11 h0) 22 dX11_closes_19 rfl ⟨Nat.le_of_ble_eq_true rfl, Nat.le_of_ble_eq_true rfl⟩ ⟨Nat.zero_le _, Nat.zero_le _⟩ (Nat.le_of_ble_eq_true rfl) (fun q4 M3 _ => ?_)
    refine go_goto 26 dX11_closes_22 (by decide) ?_
    exact go_iret rfl dX11_closes_26
theorem m_X11_closes {l : Launch} {G : mG} {sk : List mS} (w : Nat) (o0 : Nat) (h0 : isK o0 21) (x1 : Int32) (M : mM) : Mt l G sk yX11_closes muX11_closes 6 [.ref (gB G + o0), .int x1] M eI (f_X11_closes w o0 x1 M) := Mt.of (by decide) rfl (Nat.le_of_ble_eq_true rfl) (s_X11_closes w o0 h0 x1 M)
theorem dX11_gives_0 : decode cX11_gives 0 = .ok (.aload_n 0, 1) := by decide +kernel
theorem dX11_gives_1 : decode cX11_gives 1 = .ok (.getfield 10, 3) := by decide +kernel
theorem dX11_gives_4 : decode cX11_gives 4 = .ok (.iload_n 1, 1) := by decide +kernel
theorem dX11_gives_5 : decode cX11_gives 5 = .ok (.invokevirtual 145, 3) := by decide +kernel
theorem dX11_gives_8 : decode cX11_gives 8 = .ok (.ifCond .eq 19, 3) := by decide +kernel
theorem dX11_gives_11 : decode cX11_gives 11 = .ok (.aload_n 0, 1) := by decide +kernel
theorem dX11_gives_12 : decode cX11_gives 12 = .ok (.getfield 84, 3) := by decide +kernel
theorem dX11_gives_15 : decode cX11_gives 15 = .ok (.iconst 1, 1) := by decide +kernel
theorem dX11_gives_16 : decode cX11_gives 16 = .ok (.iload_n 1, 1) := by decide +kernel
theorem dX11_gives_17 : decode cX11_gives 17 = .ok (.ishl, 1) := by decide +kernel
theorem dX11_gives_18 : decode cX11_gives 18 = .ok (.iconst 1, 1) := by decide +kernel
theorem dX11_gives_19 : decode cX11_gives 19 = .ok (.iload_n 1, 1) := by decide +kernel
theorem dX11_gives_20 : decode cX11_gives 20 = .ok (.ishl, 1) := by decide +kernel
theorem dX11_gives_21 : decode cX11_gives 21 = .ok (.invokevirtual 283, 3) := by decide +kernel
theorem dX11_gives_24 : decode cX11_gives 24 = .ok (.goto 4, 3) := by decide +kernel
theorem dX11_gives_27 : decode cX11_gives 27 = .ok (.iconst (-1), 1) := by decide +kernel
theorem dX11_gives_28 : decode cX11_gives 28 = .ok (.ireturn, 1) := by decide +kernel
def f_X11_gives (w : Nat) (o0 : Nat) (x1 : Int32) (M : mM) : Option (Int32 × mM) := bI (f_X6_hasDoor w (rF o0 0) x1 M) fun q2 M1 => (if q2 = 0 then some ((-1), M1) else bI (f_X5_firstDay w (rF o0 11) ((1 : Int32) <<< (x1 &&& 31)) ((1 : Int32) <<< (x1 &&& 31)) M1) fun q4 M3 => some (q4, M3))
set_option maxHeartbeats 4000000 in
set_option maxRecDepth 100000 in
theorem s_X11_gives {l : Launch} {G : mG} {sk : List mS} (w : Nat) (o0 : Nat) (h0 : isK o0 21) (x1 : Int32) (M : mM) : Go muX11_gives (rm 6) 0 0 l G sk (mFin G sk eI) (f_X11_gives w o0 x1 M) 0 [(0, .ref (gB G + o0)), (1, .int x1)] [] M := by
  unfold f_X11_gives
  refine go_aload_n 0 1 dX11_gives_0 rfl rfl ?_
  refine go_getR flX11_10 h0 4 dX11_gives_1 rfl ?_
  refine go_iload_n 1 5 dX11_gives_4 rfl rfl ?_
  refine go_cVI1 0 clX6 cwX11_145 (m_X6_hasDoor w (rF o0 0) (rk11_0 h0) x1 M) (rk11_0 h0) 8 dX11_gives_5 rfl ⟨Nat.le_of_ble_eq_true rfl, Nat.le_of_ble_eq_true rfl⟩ ⟨Nat.zero_le _, Nat.zero_le _⟩ (Nat.le_of_ble_eq_true rfl) (fun q2 M1 _ => ?_)
  refine go_if_eq 27 11 dX11_gives_8 rfl (by decide) (fun _ => ?_) (fun _ => ?_)
  · refine go_iconst (-1) 28 dX11_gives_27 rfl (by decide) ?_
    exact go_iret rfl dX11_gives_28
  · refine go_aload_n 0 12 dX11_gives_11 rfl rfl ?_
    refine go_getR flX11_84 h0 15 dX11_gives_12 rfl ?_
    refine go_iconst 1 16 dX11_gives_15 rfl (by decide) ?_
    refine go_iload_n 1 17 dX11_gives_16 rfl rfl ?_
    refine go_ishl 18 dX11_gives_17 rfl ?_
    refine go_iconst 1 19 dX11_gives_18 rfl (by decide) ?_
    refine go_iload_n 1 20 dX11_gives_19 rfl rfl ?_
    refine go_ishl 21 dX11_gives_20 rfl ?_
    refine go_cVI2 5 clX5 cwX11_283 (m_X5_firstDay w (rF o0 11) (rk11_11 h0) ((1 : Int32) <<< (x1 &&& 31)) ((1 : Int32) <<< (x1 &&& 31)) M1) (rk11_11 h0) 24 dX11_gives_21 rfl ⟨Nat.le_of_ble_eq_true rfl, Nat.le_of_ble_eq_true rfl⟩ ⟨Nat.zero_le _, Nat.zero_le _⟩ (Nat.le_of_ble_eq_true rfl) (fun q4 M3 _ => ?_)
    refine go_goto 28 dX11_gives_24 (by decide) ?_
    exact go_iret rfl dX11_gives_28
theorem m_X11_gives {l : Launch} {G : mG} {sk : List mS} (w : Nat) (o0 : Nat) (h0 : isK o0 21) (x1 : Int32) (M : mM) : Mt l G sk yX11_gives muX11_gives 6 [.ref (gB G + o0), .int x1] M eI (f_X11_gives w o0 x1 M) := Mt.of (by decide) rfl (Nat.le_of_ble_eq_true rfl) (s_X11_gives w o0 h0 x1 M)
theorem dX11_calm_0 : decode cX11_calm 0 = .ok (.aload_n 0, 1) := by decide +kernel
theorem dX11_calm_1 : decode cX11_calm 1 = .ok (.getfield 10, 3) := by decide +kernel
theorem dX11_calm_4 : decode cX11_calm 4 = .ok (.invokevirtual 286, 3) := by decide +kernel
theorem dX11_calm_7 : decode cX11_calm 7 = .ok (.istore_n 1, 1) := by decide +kernel
theorem dX11_calm_8 : decode cX11_calm 8 = .ok (.aload_n 0, 1) := by decide +kernel
theorem dX11_calm_9 : decode cX11_calm 9 = .ok (.getfield 84, 3) := by decide +kernel
theorem dX11_calm_12 : decode cX11_calm 12 = .ok (.iload_n 1, 1) := by decide +kernel
theorem dX11_calm_13 : decode cX11_calm 13 = .ok (.iload_n 1, 1) := by decide +kernel
theorem dX11_calm_14 : decode cX11_calm 14 = .ok (.invokevirtual 283, 3) := by decide +kernel
theorem dX11_calm_17 : decode cX11_calm 17 = .ok (.ireturn, 1) := by decide +kernel
def f_X11_calm (w : Nat) (o0 : Nat) (M : mM) : Option (Int32 × mM) := bI (f_X6_allDoors w (rF o0 0) M) fun q2 M1 => bI (f_X5_firstDay w (rF o0 11) q2 q2 M1) fun q4 M3 => some (q4, M3)
set_option maxHeartbeats 4000000 in
set_option maxRecDepth 100000 in
theorem s_X11_calm {l : Launch} {G : mG} {sk : List mS} (w : Nat) (o0 : Nat) (h0 : isK o0 21) (M : mM) : Go muX11_calm (rm 6) 0 0 l G sk (mFin G sk eI) (f_X11_calm w o0 M) 0 [(0, .ref (gB G + o0))] [] M := by
  unfold f_X11_calm
  refine go_aload_n 0 1 dX11_calm_0 rfl rfl ?_
  refine go_getR flX11_10 h0 4 dX11_calm_1 rfl ?_
  refine go_cVI0 0 clX6 cwX11_286 (m_X6_allDoors w (rF o0 0) (rk11_0 h0) M) (rk11_0 h0) 7 dX11_calm_4 rfl ⟨Nat.le_of_ble_eq_true rfl, Nat.le_of_ble_eq_true rfl⟩ ⟨Nat.zero_le _, Nat.zero_le _⟩ (Nat.le_of_ble_eq_true rfl) (fun q2 M1 _ => ?_)
  refine go_istore_n [(1, .int q2), (0, .ref (gB G + o0))] 8 dX11_calm_7 rfl rfl (by decide) rfl ?_
  refine go_aload_n 1 9 dX11_calm_8 rfl rfl ?_
  refine go_getR flX11_84 h0 12 dX11_calm_9 rfl ?_
  refine go_iload_n 0 13 dX11_calm_12 rfl rfl ?_
  refine go_iload_n 0 14 dX11_calm_13 rfl rfl ?_
  refine go_cVI2 5 clX5 cwX11_283 (m_X5_firstDay w (rF o0 11) (rk11_11 h0) q2 q2 M1) (rk11_11 h0) 17 dX11_calm_14 rfl ⟨Nat.le_of_ble_eq_true rfl, Nat.le_of_ble_eq_true rfl⟩ ⟨Nat.zero_le _, Nat.zero_le _⟩ (Nat.le_of_ble_eq_true rfl) (fun q4 M3 _ => ?_)
  exact go_iret rfl dX11_calm_17
theorem m_X11_calm {l : Launch} {G : mG} {sk : List mS} (w : Nat) (o0 : Nat) (h0 : isK o0 21) (M : mM) : Mt l G sk yX11_calm muX11_calm 6 [.ref (gB G + o0)] M eI (f_X11_calm w o0 M) := Mt.of (by decide) rfl (Nat.le_of_ble_eq_true rfl) (s_X11_calm w o0 h0 M)
theorem dX11_hard_0 : decode cX11_hard 0 = .ok (.aload_n 0, 1) := by decide +kernel
theorem dX11_hard_1 : decode cX11_hard 1 = .ok (.getfield 84, 3) := by decide +kernel
theorem dX11_hard_4 : decode cX11_hard 4 = .ok (.bipush 60, 2) := by decide +kernel
theorem dX11_hard_6 : decode cX11_hard 6 = .ok (.invokevirtual 289, 3) := by decide +kernel
theorem dX11_hard_9 : decode cX11_hard 9 = .ok (.iconst 0, 1) := by decide +kernel
theorem dX11_hard_10 : decode cX11_hard 10 = .ok (.istore_n 1, 1) := by decide +kernel
theorem dX11_hard_11 : decode cX11_hard 11 = .ok (.iconst 1, 1) := by decide +kernel
theorem dX11_hard_12 : decode cX11_hard 12 = .ok (.istore_n 2, 1) := by decide +kernel
theorem dX11_hard_13 : decode cX11_hard 13 = .ok (.iload_n 2, 1) := by decide +kernel
theorem dX11_hard_14 : decode cX11_hard 14 = .ok (.bipush 60, 2) := by decide +kernel
theorem dX11_hard_16 : decode cX11_hard 16 = .ok (.if_icmp .gt 38, 3) := by decide +kernel
theorem dX11_hard_19 : decode cX11_hard 19 = .ok (.aload_n 0, 1) := by decide +kernel
theorem dX11_hard_20 : decode cX11_hard 20 = .ok (.getfield 84, 3) := by decide +kernel
theorem dX11_hard_23 : decode cX11_hard 23 = .ok (.getfield 292, 3) := by decide +kernel
theorem dX11_hard_26 : decode cX11_hard 26 = .ok (.iload_n 2, 1) := by decide +kernel
theorem dX11_hard_27 : decode cX11_hard 27 = .ok (.iaload, 1) := by decide +kernel
theorem dX11_hard_28 : decode cX11_hard 28 = .ok (.invokestatic 251, 3) := by decide +kernel
theorem dX11_hard_31 : decode cX11_hard 31 = .ok (.aload_n 0, 1) := by decide +kernel
theorem dX11_hard_32 : decode cX11_hard 32 = .ok (.getfield 84, 3) := by decide +kernel
theorem dX11_hard_35 : decode cX11_hard 35 = .ok (.getfield 292, 3) := by decide +kernel
theorem dX11_hard_38 : decode cX11_hard 38 = .ok (.iload_n 1, 1) := by decide +kernel
theorem dX11_hard_39 : decode cX11_hard 39 = .ok (.iaload, 1) := by decide +kernel
theorem dX11_hard_40 : decode cX11_hard 40 = .ok (.invokestatic 251, 3) := by decide +kernel
theorem dX11_hard_43 : decode cX11_hard 43 = .ok (.if_icmp .ge 5, 3) := by decide +kernel
theorem dX11_hard_46 : decode cX11_hard 46 = .ok (.iload_n 2, 1) := by decide +kernel
theorem dX11_hard_47 : decode cX11_hard 47 = .ok (.istore_n 1, 1) := by decide +kernel
theorem dX11_hard_48 : decode cX11_hard 48 = .ok (.iinc 2 1, 3) := by decide +kernel
theorem dX11_hard_51 : decode cX11_hard 51 = .ok (.goto (-38), 3) := by decide +kernel
theorem dX11_hard_54 : decode cX11_hard 54 = .ok (.iload_n 1, 1) := by decide +kernel
theorem dX11_hard_55 : decode cX11_hard 55 = .ok (.ireturn, 1) := by decide +kernel
def f_X11_hard_13 (w : Nat) : Nat → Nat → Int32 → Int32 → mM → Option (Int32 × mM)
  | 0, _, _, _, _ => none
  | n + 1, o0, x1, x2, M => (if 60 < x2 then some (x1, M) else chk x2 (sL (rF (rF o0 11) 2)) (bI (f_J6_bitCount_0f7a4 w (M.1 (rF (rF o0 11) 2) x2.toNatClampNeg) M) fun q2 M1 => chk x1 (sL (rF (rF o0 11) 2)) (bI (f_J6_bitCount_0f7a4 w (M1.1 (rF (rF o0 11) 2) x1.toNatClampNeg) M1) fun q4 M3 => (if q4 ≤ q2 then (f_X11_hard_13 w n o0 x1 (x2 + 1) M3) else (f_X11_hard_13 w n o0 x2 (x2 + 1) M3)))))
set_option maxHeartbeats 4000000 in
set_option maxRecDepth 100000 in
theorem s_X11_hard_13 {l : Launch} {G : mG} {sk : List mS} (w : Nat) : ∀ (n : Nat) (o0 : Nat) (h0 : isK o0 21) (x1 : Int32) (x2 : Int32) (M : mM), Go muX11_hard (rm 6) 0 0 l G sk (mFin G sk eI) (f_X11_hard_13 w n o0 x1 x2 M) 13 [(0, .ref (gB G + o0)), (1, .int x1), (2, .int x2)] [] M := by
  intro n
  induction n with
  | zero =>
    intros
    exact go_none
  | succ n ih =>
    intro o0 h0 x1 x2 M
    rw [f_X11_hard_13]
    refine go_iload_n 2 14 dX11_hard_13 rfl rfl ?_
    refine go_bipush 60 16 dX11_hard_14 rfl (by decide) ?_
    refine go_icmp_gt 54 19 dX11_hard_16 rfl (by decide) (fun _ => ?_) (fun _ => ?_)
    · refine go_iload_n 1 55 dX11_hard_54 rfl rfl ?_
      exact go_iret rfl dX11_hard_55
    · refine go_aload_n 0 20 dX11_hard_19 rfl rfl ?_
      refine go_getR flX11_84 h0 23 dX11_hard_20 rfl ?_
      refine go_getR flX11_292 (rk11_11 h0) 26 dX11_hard_23 rfl ?_
      refine go_iload_n 2 27 dX11_hard_26 rfl rfl ?_
      refine go_iald (rk5_2 (rk11_11 h0)) 28 dX11_hard_27 rfl ?_
      refine go_cSI1 0 cwX11_251 (m_J6_bitCount_0f7a4 w (M.1 (rF (rF o0 11) 2) x2.toNatClampNeg) M) 31 dX11_hard_28 rfl ⟨Nat.le_of_ble_eq_true rfl, Nat.le_of_ble_eq_true rfl⟩ ⟨Nat.zero_le _, Nat.zero_le _⟩ (Nat.le_of_ble_eq_true rfl) (fun q2 M1 _ => ?_)
      refine go_aload_n 0 32 dX11_hard_31 rfl rfl ?_
      refine go_getR flX11_84 h0 35 dX11_hard_32 rfl ?_
      refine go_getR flX11_292 (rk11_11 h0) 38 dX11_hard_35 rfl ?_
      refine go_iload_n 1 39 dX11_hard_38 rfl rfl ?_
      refine go_iald (rk5_2 (rk11_11 h0)) 40 dX11_hard_39 rfl ?_
      refine go_cSI1 0 cwX11_251 (m_J6_bitCount_0f7a4 w (M1.1 (rF (rF o0 11) 2) x1.toNatClampNeg) M1) 43 dX11_hard_40 rfl ⟨Nat.le_of_ble_eq_true rfl, Nat.le_of_ble_eq_true rfl⟩ ⟨Nat.zero_le _, Nat.zero_le _⟩ (Nat.le_of_ble_eq_true rfl) (fun q4 M3 _ => ?_)
      refine go_icmp_ge 48 46 dX11_hard_43 rfl (by decide) (fun _ => ?_) (fun _ => ?_)
      · refine go_iinc (x2 + 1) 2 [(2, .int (x2 + 1)), (0, .ref (gB G + o0)), (1, .int x1)] 51 dX11_hard_48 rfl rfl rfl (by decide) rfl ?_
        refine go_goto 13 dX11_hard_51 (by decide) ?_
        exact go_lv [1, 2, 0] rfl (ih o0 h0 x1 (x2 + 1) M3)
      · refine go_iload_n 2 47 dX11_hard_46 rfl rfl ?_
        refine go_istore_n [(1, .int x2), (0, .ref (gB G + o0)), (2, .int x2)] 48 dX11_hard_47 rfl rfl (by decide) rfl ?_
        refine go_iinc (x2 + 1) 2 [(2, .int (x2 + 1)), (1, .int x2), (0, .ref (gB G + o0))] 51 dX11_hard_48 rfl rfl rfl (by decide) rfl ?_
        refine go_goto 13 dX11_hard_51 (by decide) ?_
        exact go_lv [2, 1, 0] rfl (ih o0 h0 x2 (x2 + 1) M3)
def f_X11_hard (w : Nat) (o0 : Nat) (M : mM) : Option (Int32 × mM) := bV (f_X5_look w (rF o0 11) 60 M) fun M1 => (f_X11_hard_13 w w o0 0 1 M1)
set_option maxHeartbeats 4000000 in
set_option maxRecDepth 100000 in
theorem s_X11_hard {l : Launch} {G : mG} {sk : List mS} (w : Nat) (o0 : Nat) (h0 : isK o0 21) (M : mM) : Go muX11_hard (rm 6) 0 0 l G sk (mFin G sk eI) (f_X11_hard w o0 M) 0 [(0, .ref (gB G + o0))] [] M := by
  unfold f_X11_hard
  refine go_aload_n 0 1 dX11_hard_0 rfl rfl ?_
  refine go_getR flX11_84 h0 4 dX11_hard_1 rfl ?_
  refine go_bipush 60 6 dX11_hard_4 rfl (by decide) ?_
  refine go_cVV1 5 clX5 cwX11_289 (m_X5_look w (rF o0 11) (rk11_11 h0) 60 M) (rk11_11 h0) 9 dX11_hard_6 rfl ⟨Nat.le_of_ble_eq_true rfl, Nat.le_of_ble_eq_true rfl⟩ ⟨Nat.zero_le _, Nat.zero_le _⟩ (Nat.le_of_ble_eq_true rfl) (fun M1 _ => ?_)
  refine go_iconst 0 10 dX11_hard_9 rfl (by decide) ?_
  refine go_istore_n [(1, .int 0), (0, .ref (gB G + o0))] 11 dX11_hard_10 rfl rfl (by decide) rfl ?_
  refine go_iconst 1 12 dX11_hard_11 rfl (by decide) ?_
  refine go_istore_n [(2, .int 1), (1, .int 0), (0, .ref (gB G + o0))] 13 dX11_hard_12 rfl rfl (by decide) rfl ?_
  exact go_lv [2, 1, 0] rfl (s_X11_hard_13 w w o0 h0 0 1 M1)
theorem m_X11_hard {l : Launch} {G : mG} {sk : List mS} (w : Nat) (o0 : Nat) (h0 : isK o0 21) (M : mM) : Mt l G sk yX11_hard muX11_hard 6 [.ref (gB G + o0)] M eI (f_X11_hard w o0 M) := Mt.of (by decide) rfl (Nat.le_of_ble_eq_true rfl) (s_X11_hard w o0 h0 M)
theorem dX11_arrives_0 : decode cX11_arrives 0 = .ok (.aload_n 0, 1) := by decide +kernel
theorem dX11_arrives_1 : decode cX11_arrives 1 = .ok (.getfield 10, 3) := by decide +kernel
theorem dX11_arrives_4 : decode cX11_arrives 4 = .ok (.iload_n 1, 1) := by decide +kernel
theorem dX11_arrives_5 : decode cX11_arrives 5 = .ok (.invokevirtual 170, 3) := by decide +kernel
theorem dX11_arrives_8 : decode cX11_arrives 8 = .ok (.ifCond .eq 14, 3) := by decide +kernel
theorem dX11_arrives_11 : decode cX11_arrives 11 = .ok (.aload_n 0, 1) := by decide +kernel
theorem dX11_arrives_12 : decode cX11_arrives 12 = .ok (.getfield 10, 3) := by decide +kernel
theorem dX11_arrives_15 : decode cX11_arrives 15 = .ok (.iload_n 2, 1) := by decide +kernel
theorem dX11_arrives_16 : decode cX11_arrives 16 = .ok (.invokevirtual 256, 3) := by decide +kernel
theorem dX11_arrives_19 : decode cX11_arrives 19 = .ok (.ifCond .ne 5, 3) := by decide +kernel
theorem dX11_arrives_22 : decode cX11_arrives 22 = .ok (.iconst (-1), 1) := by decide +kernel
theorem dX11_arrives_23 : decode cX11_arrives 23 = .ok (.ireturn, 1) := by decide +kernel
theorem dX11_arrives_24 : decode cX11_arrives 24 = .ok (.aload_n 0, 1) := by decide +kernel
theorem dX11_arrives_25 : decode cX11_arrives 25 = .ok (.getfield 84, 3) := by decide +kernel
theorem dX11_arrives_28 : decode cX11_arrives 28 = .ok (.iconst 1, 1) := by decide +kernel
theorem dX11_arrives_29 : decode cX11_arrives 29 = .ok (.aload_n 0, 1) := by decide +kernel
theorem dX11_arrives_30 : decode cX11_arrives 30 = .ok (.getfield 51, 3) := by decide +kernel
theorem dX11_arrives_33 : decode cX11_arrives 33 = .ok (.getfield 173, 3) := by decide +kernel
theorem dX11_arrives_36 : decode cX11_arrives 36 = .ok (.iload_n 1, 1) := by decide +kernel
theorem dX11_arrives_37 : decode cX11_arrives 37 = .ok (.iaload, 1) := by decide +kernel
theorem dX11_arrives_38 : decode cX11_arrives 38 = .ok (.ishl, 1) := by decide +kernel
theorem dX11_arrives_39 : decode cX11_arrives 39 = .ok (.iconst 1, 1) := by decide +kernel
theorem dX11_arrives_40 : decode cX11_arrives 40 = .ok (.iload_n 2, 1) := by decide +kernel
theorem dX11_arrives_41 : decode cX11_arrives 41 = .ok (.ishl, 1) := by decide +kernel
theorem dX11_arrives_42 : decode cX11_arrives 42 = .ok (.iconst 0, 1) := by decide +kernel
theorem dX11_arrives_43 : decode cX11_arrives 43 = .ok (.invokevirtual 295, 3) := by decide +kernel
theorem dX11_arrives_46 : decode cX11_arrives 46 = .ok (.ireturn, 1) := by decide +kernel
def f_X11_arrives (w : Nat) (o0 : Nat) (x1 : Int32) (x2 : Int32) (M : mM) : Option (Int32 × mM) := bI (f_X6_hasPerson w (rF o0 0) x1 M) fun q2 M1 => (if q2 = 0 then some ((-1), M1) else bI (f_X6_hasRoom w (rF o0 0) x2 M1) fun q4 M3 => (if q4 = 0 then some ((-1), M3) else chk x1 (sL (rF (rF o0 6) 5)) (bI (f_X5_meetingDay w (rF o0 11) ((1 : Int32) <<< ((M3.1 (rF (rF o0 6) 5) x1.toNatClampNeg) &&& 31)) ((1 : Int32) <<< (x2 &&& 31)) 0 M3) fun q6 M5 => some (q6, M5))))
set_option maxHeartbeats 4000000 in
set_option maxRecDepth 100000 in
theorem s_X11_arrives {l : Launch} {G : mG} {sk : List mS} (w : Nat) (o0 : Nat) (h0 : isK o0 21) (x1 : Int32) (x2 : Int32) (M : mM) : Go muX11_arrives (rm 6) 0 0 l G sk (mFin G sk eI) (f_X11_arrives w o0 x1 x2 M) 0 [(0, .ref (gB G + o0)), (1, .int x1), (2, .int x2)] [] M := by
  unfold f_X11_arrives
  refine go_aload_n 0 1 dX11_arrives_0 rfl rfl ?_
  refine go_getR flX11_10 h0 4 dX11_arrives_1 rfl ?_
  refine go_iload_n 1 5 dX11_arrives_4 rfl rfl ?_
  refine go_cVI1 0 clX6 cwX11_170 (m_X6_hasPerson w (rF o0 0) (rk11_0 h0) x1 M) (rk11_0 h0) 8 dX11_arrives_5 rfl ⟨Nat.le_of_ble_eq_true rfl, Nat.le_of_ble_eq_true rfl⟩ ⟨Nat.zero_le _, Nat.zero_le _⟩ (Nat.le_of_ble_eq_true rfl) (fun q2 M1 _ => ?_)
  refine go_if_eq 22 11 dX11_arrives_8 rfl (by decide) (fun _ => ?_) (fun _ => ?_)
  · refine go_iconst (-1) 23 dX11_arrives_22 rfl (by decide) ?_
    exact go_iret rfl dX11_arrives_23
  · refine go_aload_n 0 12 dX11_arrives_11 rfl rfl ?_
    refine go_getR flX11_10 h0 15 dX11_arrives_12 rfl ?_
    refine go_iload_n 2 16 dX11_arrives_15 rfl rfl ?_
    refine go_cVI1 0 clX6 cwX11_256 (m_X6_hasRoom w (rF o0 0) (rk11_0 h0) x2 M1) (rk11_0 h0) 19 dX11_arrives_16 rfl ⟨Nat.le_of_ble_eq_true rfl, Nat.le_of_ble_eq_true rfl⟩ ⟨Nat.zero_le _, Nat.zero_le _⟩ (Nat.le_of_ble_eq_true rfl) (fun q4 M3 _ => ?_)
    refine go_if_ne 24 22 dX11_arrives_19 rfl (by decide) (fun _ => ?_) (fun _ => ?_)
    · refine go_aload_n 0 25 dX11_arrives_24 rfl rfl ?_
      refine go_getR flX11_84 h0 28 dX11_arrives_25 rfl ?_
      refine go_iconst 1 29 dX11_arrives_28 rfl (by decide) ?_
      refine go_aload_n 0 30 dX11_arrives_29 rfl rfl ?_
      refine go_getR flX11_51 h0 33 dX11_arrives_30 rfl ?_
      refine go_getR flX11_173 (rk11_6 h0) 36 dX11_arrives_33 rfl ?_
      refine go_iload_n 1 37 dX11_arrives_36 rfl rfl ?_
      refine go_iald (rk9_5 (rk11_6 h0)) 38 dX11_arrives_37 rfl ?_
      refine go_ishl 39 dX11_arrives_38 rfl ?_
      refine go_iconst 1 40 dX11_arrives_39 rfl (by decide) ?_
      refine go_iload_n 2 41 dX11_arrives_40 rfl rfl ?_
      refine go_ishl 42 dX11_arrives_41 rfl ?_
      refine go_iconst 0 43 dX11_arrives_42 rfl (by decide) ?_
      refine go_cVI3 5 clX5 cwX11_295 (m_X5_meetingDay w (rF o0 11) (rk11_11 h0) ((1 : Int32) <<< ((M3.1 (rF (rF o0 6) 5) x1.toNatClampNeg) &&& 31)) ((1 : Int32) <<< (x2 &&& 31)) 0 M3) (rk11_11 h0) 46 dX11_arrives_43 rfl ⟨Nat.le_of_ble_eq_true rfl, Nat.le_of_ble_eq_true rfl⟩ ⟨Nat.zero_le _, Nat.zero_le _⟩ (Nat.le_of_ble_eq_true rfl) (fun q6 M5 _ => ?_)
      exact go_iret rfl dX11_arrives_46
    · refine go_iconst (-1) 23 dX11_arrives_22 rfl (by decide) ?_
      exact go_iret rfl dX11_arrives_23
theorem m_X11_arrives {l : Launch} {G : mG} {sk : List mS} (w : Nat) (o0 : Nat) (h0 : isK o0 21) (x1 : Int32) (x2 : Int32) (M : mM) : Mt l G sk yX11_arrives muX11_arrives 6 [.ref (gB G + o0), .int x1, .int x2] M eI (f_X11_arrives w o0 x1 x2 M) := Mt.of (by decide) rfl (Nat.le_of_ble_eq_true rfl) (s_X11_arrives w o0 h0 x1 x2 M)
theorem dX11_both_0 : decode cX11_both 0 = .ok (.aload_n 0, 1) := by decide +kernel
theorem dX11_both_1 : decode cX11_both 1 = .ok (.getfield 10, 3) := by decide +kernel
theorem dX11_both_4 : decode cX11_both 4 = .ok (.iload_n 1, 1) := by decide +kernel
theorem dX11_both_5 : decode cX11_both 5 = .ok (.invokevirtual 170, 3) := by decide +kernel
theorem dX11_both_8 : decode cX11_both 8 = .ok (.ifCond .eq 19, 3) := by decide +kernel
theorem dX11_both_11 : decode cX11_both 11 = .ok (.aload_n 0, 1) := by decide +kernel
theorem dX11_both_12 : decode cX11_both 12 = .ok (.getfield 10, 3) := by decide +kernel
theorem dX11_both_15 : decode cX11_both 15 = .ok (.iload_n 2, 1) := by decide +kernel
theorem dX11_both_16 : decode cX11_both 16 = .ok (.invokevirtual 170, 3) := by decide +kernel
theorem dX11_both_19 : decode cX11_both 19 = .ok (.ifCond .eq 8, 3) := by decide +kernel
theorem dX11_both_22 : decode cX11_both 22 = .ok (.iload_n 1, 1) := by decide +kernel
theorem dX11_both_23 : decode cX11_both 23 = .ok (.iload_n 2, 1) := by decide +kernel
theorem dX11_both_24 : decode cX11_both 24 = .ok (.if_icmp .ne 5, 3) := by decide +kernel
theorem dX11_both_27 : decode cX11_both 27 = .ok (.iconst (-1), 1) := by decide +kernel
theorem dX11_both_28 : decode cX11_both 28 = .ok (.ireturn, 1) := by decide +kernel
theorem dX11_both_29 : decode cX11_both 29 = .ok (.aload_n 0, 1) := by decide +kernel
theorem dX11_both_30 : decode cX11_both 30 = .ok (.getfield 84, 3) := by decide +kernel
theorem dX11_both_33 : decode cX11_both 33 = .ok (.iconst 1, 1) := by decide +kernel
theorem dX11_both_34 : decode cX11_both 34 = .ok (.aload_n 0, 1) := by decide +kernel
theorem dX11_both_35 : decode cX11_both 35 = .ok (.getfield 51, 3) := by decide +kernel
theorem dX11_both_38 : decode cX11_both 38 = .ok (.getfield 173, 3) := by decide +kernel
theorem dX11_both_41 : decode cX11_both 41 = .ok (.iload_n 1, 1) := by decide +kernel
theorem dX11_both_42 : decode cX11_both 42 = .ok (.iaload, 1) := by decide +kernel
theorem dX11_both_43 : decode cX11_both 43 = .ok (.ishl, 1) := by decide +kernel
theorem dX11_both_44 : decode cX11_both 44 = .ok (.iconst 1, 1) := by decide +kernel
theorem dX11_both_45 : decode cX11_both 45 = .ok (.aload_n 0, 1) := by decide +kernel
theorem dX11_both_46 : decode cX11_both 46 = .ok (.getfield 51, 3) := by decide +kernel
theorem dX11_both_49 : decode cX11_both 49 = .ok (.getfield 173, 3) := by decide +kernel
theorem dX11_both_52 : decode cX11_both 52 = .ok (.iload_n 2, 1) := by decide +kernel
theorem dX11_both_53 : decode cX11_both 53 = .ok (.iaload, 1) := by decide +kernel
theorem dX11_both_54 : decode cX11_both 54 = .ok (.ishl, 1) := by decide +kernel
theorem dX11_both_55 : decode cX11_both 55 = .ok (.iconst 1, 1) := by decide +kernel
theorem dX11_both_56 : decode cX11_both 56 = .ok (.invokevirtual 295, 3) := by decide +kernel
theorem dX11_both_59 : decode cX11_both 59 = .ok (.ireturn, 1) := by decide +kernel
def f_X11_both (w : Nat) (o0 : Nat) (x1 : Int32) (x2 : Int32) (M : mM) : Option (Int32 × mM) := bI (f_X6_hasPerson w (rF o0 0) x1 M) fun q2 M1 => (if q2 = 0 then some ((-1), M1) else bI (f_X6_hasPerson w (rF o0 0) x2 M1) fun q4 M3 => (if q4 = 0 then some ((-1), M3) else (if x1 = x2 then some ((-1), M3) else chk x1 (sL (rF (rF o0 6) 5)) (chk x2 (sL (rF (rF o0 6) 5)) (bI (f_X5_meetingDay w (rF o0 11) ((1 : Int32) <<< ((M3.1 (rF (rF o0 6) 5) x1.toNatClampNeg) &&& 31)) ((1 : Int32) <<< ((M3.1 (rF (rF o0 6) 5) x2.toNatClampNeg) &&& 31)) 1 M3) fun q6 M5 => some (q6, M5))))))
set_option maxHeartbeats 4000000 in
set_option maxRecDepth 100000 in
theorem s_X11_both {l : Launch} {G : mG} {sk : List mS} (w : Nat) (o0 : Nat) (h0 : isK o0 21) (x1 : Int32) (x2 : Int32) (M : mM) : Go muX11_both (rm 6) 0 0 l G sk (mFin G sk eI) (f_X11_both w o0 x1 x2 M) 0 [(0, .ref (gB G + o0)), (1, .int x1), (2, .int x2)] [] M := by
  unfold f_X11_both
  refine go_aload_n 0 1 dX11_both_0 rfl rfl ?_
  refine go_getR flX11_10 h0 4 dX11_both_1 rfl ?_
  refine go_iload_n 1 5 dX11_both_4 rfl rfl ?_
  refine go_cVI1 0 clX6 cwX11_170 (m_X6_hasPerson w (rF o0 0) (rk11_0 h0) x1 M) (rk11_0 h0) 8 dX11_both_5 rfl ⟨Nat.le_of_ble_eq_true rfl, Nat.le_of_ble_eq_true rfl⟩ ⟨Nat.zero_le _, Nat.zero_le _⟩ (Nat.le_of_ble_eq_true rfl) (fun q2 M1 _ => ?_)
  refine go_if_eq 27 11 dX11_both_8 rfl (by decide) (fun _ => ?_) (fun _ => ?_)
  · refine go_iconst (-1) 28 dX11_both_27 rfl (by decide) ?_
    exact go_iret rfl dX11_both_28
  · refine go_aload_n 0 12 dX11_both_11 rfl rfl ?_
    refine go_getR flX11_10 h0 15 dX11_both_12 rfl ?_
    refine go_iload_n 2 16 dX11_both_15 rfl rfl ?_
    refine go_cVI1 0 clX6 cwX11_170 (m_X6_hasPerson w (rF o0 0) (rk11_0 h0) x2 M1) (rk11_0 h0) 19 dX11_both_16 rfl ⟨Nat.le_of_ble_eq_true rfl, Nat.le_of_ble_eq_true rfl⟩ ⟨Nat.zero_le _, Nat.zero_le _⟩ (Nat.le_of_ble_eq_true rfl) (fun q4 M3 _ => ?_)
    refine go_if_eq 27 22 dX11_both_19 rfl (by decide) (fun _ => ?_) (fun _ => ?_)
    · refine go_iconst (-1) 28 dX11_both_27 rfl (by decide) ?_
      exact go_iret rfl dX11_both_28
    · refine go_iload_n 1 23 dX11_both_22 rfl rfl ?_
      refine go_iload_n 2 24 dX11_both_23 rfl rfl ?_
      refine go_icmp_ne 29 27 dX11_both_24 rfl (by decide) (fun _ => ?_) (fun _ => ?_)
      · refine go_aload_n 0 30 dX11_both_29 rfl rfl ?_
        refine go_getR flX11_84 h0 33 dX11_both_30 rfl ?_
        refine go_iconst 1 34 dX11_both_33 rfl (by decide) ?_
        refine go_aload_n 0 35 dX11_both_34 rfl rfl ?_
        refine go_getR flX11_51 h0 38 dX11_both_35 rfl ?_
        refine go_getR flX11_173 (rk11_6 h0) 41 dX11_both_38 rfl ?_
        refine go_iload_n 1 42 dX11_both_41 rfl rfl ?_
        refine go_iald (rk9_5 (rk11_6 h0)) 43 dX11_both_42 rfl ?_
        refine go_ishl 44 dX11_both_43 rfl ?_
        refine go_iconst 1 45 dX11_both_44 rfl (by decide) ?_
        refine go_aload_n 0 46 dX11_both_45 rfl rfl ?_
        refine go_getR flX11_51 h0 49 dX11_both_46 rfl ?_
        refine go_getR flX11_173 (rk11_6 h0) 52 dX11_both_49 rfl ?_
        refine go_iload_n 2 53 dX11_both_52 rfl rfl ?_
        refine go_iald (rk9_5 (rk11_6 h0)) 54 dX11_both_53 rfl ?_
        refine go_ishl 55 dX11_both_54 rfl ?_
        refine go_iconst 1 56 dX11_both_55 rfl (by decide) ?_
        refine go_cVI3 5 clX5 cwX11_295 (m_X5_meetingDay w (rF o0 11) (rk11_11 h0) ((1 : Int32) <<< ((M3.1 (rF (rF o0 6) 5) x1.toNatClampNeg) &&& 31)) ((1 : Int32) <<< ((M3.1 (rF (rF o0 6) 5) x2.toNatClampNeg) &&& 31)) 1 M3) (rk11_11 h0) 59 dX11_both_56 rfl ⟨Nat.le_of_ble_eq_true rfl, Nat.le_of_ble_eq_true rfl⟩ ⟨Nat.zero_le _, Nat.zero_le _⟩ (Nat.le_of_ble_eq_true rfl) (fun q6 M5 _ => ?_)
        exact go_iret rfl dX11_both_59
      · refine go_iconst (-1) 28 dX11_both_27 rfl (by decide) ?_
        exact go_iret rfl dX11_both_28
theorem m_X11_both {l : Launch} {G : mG} {sk : List mS} (w : Nat) (o0 : Nat) (h0 : isK o0 21) (x1 : Int32) (x2 : Int32) (M : mM) : Mt l G sk yX11_both muX11_both 6 [.ref (gB G + o0), .int x1, .int x2] M eI (f_X11_both w o0 x1 x2 M) := Mt.of (by decide) rfl (Nat.le_of_ble_eq_true rfl) (s_X11_both w o0 h0 x1 x2 M)
theorem dX11_from_0 : decode cX11_from 0 = .ok (.aload_n 0, 1) := by decide +kernel
theorem dX11_from_1 : decode cX11_from 1 = .ok (.getfield 10, 3) := by decide +kernel
theorem dX11_from_4 : decode cX11_from 4 = .ok (.iload_n 1, 1) := by decide +kernel
theorem dX11_from_5 : decode cX11_from 5 = .ok (.invokevirtual 256, 3) := by decide +kernel
theorem dX11_from_8 : decode cX11_from 8 = .ok (.ifCond .eq 13, 3) := by decide +kernel
theorem dX11_from_11 : decode cX11_from 11 = .ok (.iload_n 2, 1) := by decide +kernel
theorem dX11_from_12 : decode cX11_from 12 = .ok (.ifCond .lt 9, 3) := by decide +kernel
theorem dX11_from_15 : decode cX11_from 15 = .ok (.iload_n 2, 1) := by decide +kernel
theorem dX11_from_16 : decode cX11_from 16 = .ok (.bipush 40, 2) := by decide +kernel
theorem dX11_from_18 : decode cX11_from 18 = .ok (.if_icmp .le 5, 3) := by decide +kernel
theorem dX11_from_21 : decode cX11_from 21 = .ok (.iconst (-1), 1) := by decide +kernel
theorem dX11_from_22 : decode cX11_from 22 = .ok (.ireturn, 1) := by decide +kernel
theorem dX11_from_23 : decode cX11_from 23 = .ok (.aload_n 0, 1) := by decide +kernel
theorem dX11_from_24 : decode cX11_from 24 = .ok (.getfield 84, 3) := by decide +kernel
theorem dX11_from_27 : decode cX11_from 27 = .ok (.iload_n 2, 1) := by decide +kernel
theorem dX11_from_28 : decode cX11_from 28 = .ok (.invokevirtual 289, 3) := by decide +kernel
theorem dX11_from_31 : decode cX11_from 31 = .ok (.aload_n 0, 1) := by decide +kernel
theorem dX11_from_32 : decode cX11_from 32 = .ok (.getfield 84, 3) := by decide +kernel
theorem dX11_from_35 : decode cX11_from 35 = .ok (.iload_n 1, 1) := by decide +kernel
theorem dX11_from_36 : decode cX11_from 36 = .ok (.iload_n 2, 1) := by decide +kernel
theorem dX11_from_37 : decode cX11_from 37 = .ok (.invokevirtual 299, 3) := by decide +kernel
theorem dX11_from_40 : decode cX11_from 40 = .ok (.ireturn, 1) := by decide +kernel
def f_X11_from (w : Nat) (o0 : Nat) (x1 : Int32) (x2 : Int32) (M : mM) : Option (Int32 × mM) := bI (f_X6_hasRoom w (rF o0 0) x1 M) fun q2 M1 => (if q2 = 0 then some ((-1), M1) else (if x2 < 0 then some ((-1), M1) else (if x2 ≤ 40 then bV (f_X5_look w (rF o0 11) x2 M1) fun M3 => bI (f_X5_roomsBehind w (rF o0 11) x1 x2 M3) fun q5 M4 => some (q5, M4) else some ((-1), M1))))
set_option maxHeartbeats 4000000 in
set_option maxRecDepth 100000 in
theorem s_X11_from {l : Launch} {G : mG} {sk : List mS} (w : Nat) (o0 : Nat) (h0 : isK o0 21) (x1 : Int32) (x2 : Int32) (M : mM) : Go muX11_from (rm 6) 0 0 l G sk (mFin G sk eI) (f_X11_from w o0 x1 x2 M) 0 [(0, .ref (gB G + o0)), (1, .int x1), (2, .int x2)] [] M := by
  unfold f_X11_from
  refine go_aload_n 0 1 dX11_from_0 rfl rfl ?_
  refine go_getR flX11_10 h0 4 dX11_from_1 rfl ?_
  refine go_iload_n 1 5 dX11_from_4 rfl rfl ?_
  refine go_cVI1 0 clX6 cwX11_256 (m_X6_hasRoom w (rF o0 0) (rk11_0 h0) x1 M) (rk11_0 h0) 8 dX11_from_5 rfl ⟨Nat.le_of_ble_eq_true rfl, Nat.le_of_ble_eq_true rfl⟩ ⟨Nat.zero_le _, Nat.zero_le _⟩ (Nat.le_of_ble_eq_true rfl) (fun q2 M1 _ => ?_)
  refine go_if_eq 21 11 dX11_from_8 rfl (by decide) (fun _ => ?_) (fun _ => ?_)
  · refine go_iconst (-1) 22 dX11_from_21 rfl (by decide) ?_
    exact go_iret rfl dX11_from_22
  · refine go_iload_n 2 12 dX11_from_11 rfl rfl ?_
    refine go_if_lt 21 15 dX11_from_12 rfl (by decide) (fun _ => ?_) (fun _ => ?_)
    · refine go_iconst (-1) 22 dX11_from_21 rfl (by decide) ?_
      exact go_iret rfl dX11_from_22
    · refine go_iload_n 2 16 dX11_from_15 rfl rfl ?_
      refine go_bipush 40 18 dX11_from_16 rfl (by decide) ?_
      refine go_icmp_le 23 21 dX11_from_18 rfl (by decide) (fun _ => ?_) (fun _ => ?_)
      · refine go_aload_n 0 24 dX11_from_23 rfl rfl ?_
        refine go_getR flX11_84 h0 27 dX11_from_24 rfl ?_
        refine go_iload_n 2 28 dX11_from_27 rfl rfl ?_
        refine go_cVV1 5 clX5 cwX11_289 (m_X5_look w (rF o0 11) (rk11_11 h0) x2 M1) (rk11_11 h0) 31 dX11_from_28 rfl ⟨Nat.le_of_ble_eq_true rfl, Nat.le_of_ble_eq_true rfl⟩ ⟨Nat.zero_le _, Nat.zero_le _⟩ (Nat.le_of_ble_eq_true rfl) (fun M3 _ => ?_)
        refine go_aload_n 0 32 dX11_from_31 rfl rfl ?_
        refine go_getR flX11_84 h0 35 dX11_from_32 rfl ?_
        refine go_iload_n 1 36 dX11_from_35 rfl rfl ?_
        refine go_iload_n 2 37 dX11_from_36 rfl rfl ?_
        refine go_cVI2 1 clX5 cwX11_299 (m_X5_roomsBehind w (rF o0 11) (rk11_11 h0) x1 x2 M3) (rk11_11 h0) 40 dX11_from_37 rfl ⟨Nat.le_of_ble_eq_true rfl, Nat.le_of_ble_eq_true rfl⟩ ⟨Nat.zero_le _, Nat.zero_le _⟩ (Nat.le_of_ble_eq_true rfl) (fun q5 M4 _ => ?_)
        exact go_iret rfl dX11_from_40
      · refine go_iconst (-1) 22 dX11_from_21 rfl (by decide) ?_
        exact go_iret rfl dX11_from_22
theorem m_X11_from {l : Launch} {G : mG} {sk : List mS} (w : Nat) (o0 : Nat) (h0 : isK o0 21) (x1 : Int32) (x2 : Int32) (M : mM) : Mt l G sk yX11_from muX11_from 6 [.ref (gB G + o0), .int x1, .int x2] M eI (f_X11_from w o0 x1 x2 M) := Mt.of (by decide) rfl (Nat.le_of_ble_eq_true rfl) (s_X11_from w o0 h0 x1 x2 M)
theorem dX11_planed_0 : decode cX11_planed 0 = .ok (.iload_n 1, 1) := by decide +kernel
theorem dX11_planed_1 : decode cX11_planed 1 = .ok (.ifCond .lt 14, 3) := by decide +kernel
theorem dX11_planed_4 : decode cX11_planed 4 = .ok (.iload_n 1, 1) := by decide +kernel
theorem dX11_planed_5 : decode cX11_planed 5 = .ok (.bipush 30, 2) := by decide +kernel
theorem dX11_planed_7 : decode cX11_planed 7 = .ok (.if_icmp .gt 8, 3) := by decide +kernel
theorem dX11_planed_10 : decode cX11_planed 10 = .ok (.iload_n 2, 1) := by decide +kernel
theorem dX11_planed_11 : decode cX11_planed 11 = .ok (.iconst (-1), 1) := by decide +kernel
theorem dX11_planed_12 : decode cX11_planed 12 = .ok (.if_icmp .ge 6, 3) := by decide +kernel
theorem dX11_planed_15 : decode cX11_planed 15 = .ok (.bipush (-2), 2) := by decide +kernel
theorem dX11_planed_17 : decode cX11_planed 17 = .ok (.ireturn, 1) := by decide +kernel
theorem dX11_planed_18 : decode cX11_planed 18 = .ok (.aload_n 0, 1) := by decide +kernel
theorem dX11_planed_19 : decode cX11_planed 19 = .ok (.getfield 93, 3) := by decide +kernel
theorem dX11_planed_22 : decode cX11_planed 22 = .ok (.iload_n 1, 1) := by decide +kernel
theorem dX11_planed_23 : decode cX11_planed 23 = .ok (.invokevirtual 302, 3) := by decide +kernel
theorem dX11_planed_26 : decode cX11_planed 26 = .ok (.istore_n 3, 1) := by decide +kernel
theorem dX11_planed_27 : decode cX11_planed 27 = .ok (.iload_n 3, 1) := by decide +kernel
theorem dX11_planed_28 : decode cX11_planed 28 = .ok (.iconst (-1), 1) := by decide +kernel
theorem dX11_planed_29 : decode cX11_planed 29 = .ok (.if_icmp .ne 6, 3) := by decide +kernel
theorem dX11_planed_32 : decode cX11_planed 32 = .ok (.bipush (-2), 2) := by decide +kernel
theorem dX11_planed_34 : decode cX11_planed 34 = .ok (.ireturn, 1) := by decide +kernel
theorem dX11_planed_35 : decode cX11_planed 35 = .ok (.iload_n 2, 1) := by decide +kernel
theorem dX11_planed_36 : decode cX11_planed 36 = .ok (.iconst (-1), 1) := by decide +kernel
theorem dX11_planed_37 : decode cX11_planed 37 = .ok (.if_icmp .ne 5, 3) := by decide +kernel
theorem dX11_planed_40 : decode cX11_planed 40 = .ok (.iload_n 3, 1) := by decide +kernel
theorem dX11_planed_41 : decode cX11_planed 41 = .ok (.ireturn, 1) := by decide +kernel
theorem dX11_planed_42 : decode cX11_planed 42 = .ok (.iload_n 2, 1) := by decide +kernel
theorem dX11_planed_43 : decode cX11_planed 43 = .ok (.iload_n 3, 1) := by decide +kernel
theorem dX11_planed_44 : decode cX11_planed 44 = .ok (.if_icmp .ge 20, 3) := by decide +kernel
theorem dX11_planed_47 : decode cX11_planed 47 = .ok (.iload_n 2, 1) := by decide +kernel
theorem dX11_planed_48 : decode cX11_planed 48 = .ok (.iconst 3, 1) := by decide +kernel
theorem dX11_planed_49 : decode cX11_planed 49 = .ok (.if_icmp .ge 15, 3) := by decide +kernel
theorem dX11_planed_52 : decode cX11_planed 52 = .ok (.aload_n 0, 1) := by decide +kernel
theorem dX11_planed_53 : decode cX11_planed 53 = .ok (.getfield 93, 3) := by decide +kernel
theorem dX11_planed_56 : decode cX11_planed 56 = .ok (.getfield 305, 3) := by decide +kernel
theorem dX11_planed_59 : decode cX11_planed 59 = .ok (.iload_n 2, 1) := by decide +kernel
theorem dX11_planed_60 : decode cX11_planed 60 = .ok (.iaload, 1) := by decide +kernel
theorem dX11_planed_61 : decode cX11_planed 61 = .ok (.goto 5, 3) := by decide +kernel
theorem dX11_planed_64 : decode cX11_planed 64 = .ok (.bipush (-2), 2) := by decide +kernel
theorem dX11_planed_66 : decode cX11_planed 66 = .ok (.ireturn, 1) := by decide +kernel
def f_X11_planed (w : Nat) (o0 : Nat) (x1 : Int32) (x2 : Int32) (M : mM) : Option (Int32 × mM) := (if x1 < 0 then some ((-2), M) else (if 30 < x1 then some ((-2), M) else (if (-1) ≤ x2 then bI (f_X7_fewest w (rF o0 12) x1 M) fun q2 M1 => (if q2 = (-1) then some ((-2), M1) else (if x2 = (-1) then some (q2, M1) else (if q2 ≤ x2 then some ((-2), M1) else (if 3 ≤ x2 then some ((-2), M1) else chk x2 (sL (rF (rF o0 12) 3)) (some ((M1.1 (rF (rF o0 12) 3) x2.toNatClampNeg), M1)))))) else some ((-2), M))))
set_option maxHeartbeats 4000000 in
set_option maxRecDepth 100000 in
theorem s_X11_planed {l : Launch} {G : mG} {sk : List mS} (w : Nat) (o0 : Nat) (h0 : isK o0 21) (x1 : Int32) (x2 : Int32) (M : mM) : Go muX11_planed (rm 6) 0 0 l G sk (mFin G sk eI) (f_X11_planed w o0 x1 x2 M) 0 [(0, .ref (gB G + o0)), (1, .int x1), (2, .int x2)] [] M := by
  unfold f_X11_planed
  refine go_iload_n 1 1 dX11_planed_0 rfl rfl ?_
  refine go_if_lt 15 4 dX11_planed_1 rfl (by decide) (fun _ => ?_) (fun _ => ?_)
  · refine go_bipush (-2) 17 dX11_planed_15 rfl (by decide) ?_
    exact go_iret rfl dX11_planed_17
  · refine go_iload_n 1 5 dX11_planed_4 rfl rfl ?_
    refine go_bipush 30 7 dX11_planed_5 rfl (by decide) ?_
    refine go_icmp_gt 15 10 dX11_planed_7 rfl (by decide) (fun _ => ?_) (fun _ => ?_)
    · refine go_bipush (-2) 17 dX11_planed_15 rfl (by decide) ?_
      exact go_iret rfl dX11_planed_17
    · refine go_iload_n 2 11 dX11_planed_10 rfl rfl ?_
      refine go_iconst (-1) 12 dX11_planed_11 rfl (by decide) ?_
      refine go_icmp_ge 18 15 dX11_planed_12 rfl (by decide) (fun _ => ?_) (fun _ => ?_)
      · refine go_aload_n 0 19 dX11_planed_18 rfl rfl ?_
        refine go_getR flX11_93 h0 22 dX11_planed_19 rfl ?_
        refine go_iload_n 1 23 dX11_planed_22 rfl rfl ?_
        refine go_cVI1 5 clX7 cwX11_302 (m_X7_fewest w (rF o0 12) (rk11_12 h0) x1 M) (rk11_12 h0) 26 dX11_planed_23 rfl ⟨Nat.le_of_ble_eq_true rfl, Nat.le_of_ble_eq_true rfl⟩ ⟨Nat.zero_le _, Nat.zero_le _⟩ (Nat.le_of_ble_eq_true rfl) (fun q2 M1 _ => ?_)
        refine go_istore_n [(3, .int q2), (0, .ref (gB G + o0)), (1, .int x1), (2, .int x2)] 27 dX11_planed_26 rfl rfl (by decide) rfl ?_
        refine go_iload_n 0 28 dX11_planed_27 rfl rfl ?_
        refine go_iconst (-1) 29 dX11_planed_28 rfl (by decide) ?_
        refine go_icmp_ne 35 32 dX11_planed_29 rfl (by decide) (fun _ => ?_) (fun _ => ?_)
        · refine go_iload_n 3 36 dX11_planed_35 rfl rfl ?_
          refine go_iconst (-1) 37 dX11_planed_36 rfl (by decide) ?_
          refine go_icmp_ne 42 40 dX11_planed_37 rfl (by decide) (fun _ => ?_) (fun _ => ?_)
          · refine go_iload_n 3 43 dX11_planed_42 rfl rfl ?_
            refine go_iload_n 0 44 dX11_planed_43 rfl rfl ?_
            refine go_icmp_ge 64 47 dX11_planed_44 rfl (by decide) (fun _ => ?_) (fun _ => ?_)
            · refine go_bipush (-2) 66 dX11_planed_64 rfl (by decide) ?_
              exact go_iret rfl dX11_planed_66
            · refine go_iload_n 3 48 dX11_planed_47 rfl rfl ?_
              refine go_iconst 3 49 dX11_planed_48 rfl (by decide) ?_
              refine go_icmp_ge 64 52 dX11_planed_49 rfl (by decide) (fun _ => ?_) (fun _ => ?_)
              · refine go_bipush (-2) 66 dX11_planed_64 rfl (by decide) ?_
                exact go_iret rfl dX11_planed_66
              · refine go_aload_n 1 53 dX11_planed_52 rfl rfl ?_
                refine go_getR flX11_93 h0 56 dX11_planed_53 rfl ?_
                refine go_getR flX11_305 (rk11_12 h0) 59 dX11_planed_56 rfl ?_
                refine go_iload_n 3 60 dX11_planed_59 rfl rfl ?_
                refine go_iald (rk7_3 (rk11_12 h0)) 61 dX11_planed_60 rfl ?_
                refine go_goto 66 dX11_planed_61 (by decide) ?_
                exact go_iret rfl dX11_planed_66
          · refine go_iload_n 0 41 dX11_planed_40 rfl rfl ?_
            exact go_iret rfl dX11_planed_41
        · refine go_bipush (-2) 34 dX11_planed_32 rfl (by decide) ?_
          exact go_iret rfl dX11_planed_34
      · refine go_bipush (-2) 17 dX11_planed_15 rfl (by decide) ?_
        exact go_iret rfl dX11_planed_17
theorem m_X11_planed {l : Launch} {G : mG} {sk : List mS} (w : Nat) (o0 : Nat) (h0 : isK o0 21) (x1 : Int32) (x2 : Int32) (M : mM) : Mt l G sk yX11_planed muX11_planed 6 [.ref (gB G + o0), .int x1, .int x2] M eI (f_X11_planed w o0 x1 x2 M) := Mt.of (by decide) rfl (Nat.le_of_ble_eq_true rfl) (s_X11_planed w o0 h0 x1 x2 M)
theorem dX11_feel_0 : decode cX11_feel 0 = .ok (.aload_n 0, 1) := by decide +kernel
theorem dX11_feel_1 : decode cX11_feel 1 = .ok (.getfield 10, 3) := by decide +kernel
theorem dX11_feel_4 : decode cX11_feel 4 = .ok (.iload_n 1, 1) := by decide +kernel
theorem dX11_feel_5 : decode cX11_feel 5 = .ok (.invokevirtual 145, 3) := by decide +kernel
theorem dX11_feel_8 : decode cX11_feel 8 = .ok (.ifCond .eq 14, 3) := by decide +kernel
theorem dX11_feel_11 : decode cX11_feel 11 = .ok (.iload_n 2, 1) := by decide +kernel
theorem dX11_feel_12 : decode cX11_feel 12 = .ok (.iconst 1, 1) := by decide +kernel
theorem dX11_feel_13 : decode cX11_feel 13 = .ok (.if_icmp .lt 9, 3) := by decide +kernel
theorem dX11_feel_16 : decode cX11_feel 16 = .ok (.iload_n 2, 1) := by decide +kernel
theorem dX11_feel_17 : decode cX11_feel 17 = .ok (.bipush 30, 2) := by decide +kernel
theorem dX11_feel_19 : decode cX11_feel 19 = .ok (.if_icmp .le 5, 3) := by decide +kernel
theorem dX11_feel_22 : decode cX11_feel 22 = .ok (.iconst 0, 1) := by decide +kernel
theorem dX11_feel_23 : decode cX11_feel 23 = .ok (.ireturn, 1) := by decide +kernel
theorem dX11_feel_24 : decode cX11_feel 24 = .ok (.aload_n 0, 1) := by decide +kernel
theorem dX11_feel_25 : decode cX11_feel 25 = .ok (.getfield 68, 3) := by decide +kernel
theorem dX11_feel_28 : decode cX11_feel 28 = .ok (.iload_n 1, 1) := by decide +kernel
theorem dX11_feel_29 : decode cX11_feel 29 = .ok (.iload_n 2, 1) := by decide +kernel
theorem dX11_feel_30 : decode cX11_feel 30 = .ok (.iload_n 3, 1) := by decide +kernel
theorem dX11_feel_31 : decode cX11_feel 31 = .ok (.invokevirtual 308, 3) := by decide +kernel
theorem dX11_feel_34 : decode cX11_feel 34 = .ok (.ireturn, 1) := by decide +kernel
def f_X11_feel (w : Nat) (o0 : Nat) (x1 : Int32) (x2 : Int32) (x3 : Int32) (M : mM) : Option (Int32 × mM) := bI (f_X6_hasDoor w (rF o0 0) x1 M) fun q2 M1 => (if q2 = 0 then rtB 0 M1 else (if x2 < 1 then rtB 0 M1 else (if x2 ≤ 30 then bI (f_X8_addFelt w (rF o0 9) x1 x2 x3 M1) fun q4 M3 => rtB q4 M3 else rtB 0 M1)))
set_option maxHeartbeats 4000000 in
set_option maxRecDepth 100000 in
theorem s_X11_feel {l : Launch} {G : mG} {sk : List mS} (w : Nat) (o0 : Nat) (h0 : isK o0 21) (x1 : Int32) (x2 : Int32) (x3 : Int32) (M : mM) : Go muX11_feel (rm 1) 0 0 l G sk (mFin G sk eI) (f_X11_feel w o0 x1 x2 x3 M) 0 [(0, .ref (gB G + o0)), (1, .int x1), (2, .int x2), (3, .int x3)] [] M := by
  unfold f_X11_feel
  refine go_aload_n 0 1 dX11_feel_0 rfl rfl ?_
  refine go_getR flX11_10 h0 4 dX11_feel_1 rfl ?_
  refine go_iload_n 1 5 dX11_feel_4 rfl rfl ?_
  refine go_cVI1 0 clX6 cwX11_145 (m_X6_hasDoor w (rF o0 0) (rk11_0 h0) x1 M) (rk11_0 h0) 8 dX11_feel_5 rfl ⟨Nat.le_of_ble_eq_true rfl, Nat.le_of_ble_eq_true rfl⟩ ⟨Nat.zero_le _, Nat.zero_le _⟩ (Nat.le_of_ble_eq_true rfl) (fun q2 M1 _ => ?_)
  refine go_if_eq 22 11 dX11_feel_8 rfl (by decide) (fun _ => ?_) (fun _ => ?_)
  · refine go_iconst 0 23 dX11_feel_22 rfl (by decide) ?_
    exact go_zret rfl dX11_feel_23
  · refine go_iload_n 2 12 dX11_feel_11 rfl rfl ?_
    refine go_iconst 1 13 dX11_feel_12 rfl (by decide) ?_
    refine go_icmp_lt 22 16 dX11_feel_13 rfl (by decide) (fun _ => ?_) (fun _ => ?_)
    · refine go_iconst 0 23 dX11_feel_22 rfl (by decide) ?_
      exact go_zret rfl dX11_feel_23
    · refine go_iload_n 2 17 dX11_feel_16 rfl rfl ?_
      refine go_bipush 30 19 dX11_feel_17 rfl (by decide) ?_
      refine go_icmp_le 24 22 dX11_feel_19 rfl (by decide) (fun _ => ?_) (fun _ => ?_)
      · refine go_aload_n 0 25 dX11_feel_24 rfl rfl ?_
        refine go_getR flX11_68 h0 28 dX11_feel_25 rfl ?_
        refine go_iload_n 1 29 dX11_feel_28 rfl rfl ?_
        refine go_iload_n 2 30 dX11_feel_29 rfl rfl ?_
        refine go_iload_n 3 31 dX11_feel_30 rfl rfl ?_
        refine go_cVI3 0 clX8 cwX11_308 (m_X8_addFelt w (rF o0 9) (rk11_9 h0) x1 x2 x3 M1) (rk11_9 h0) 34 dX11_feel_31 rfl ⟨Nat.le_of_ble_eq_true rfl, Nat.le_of_ble_eq_true rfl⟩ ⟨Nat.zero_le _, Nat.zero_le _⟩ (Nat.le_of_ble_eq_true rfl) (fun q4 M3 _ => ?_)
        exact go_zret rfl dX11_feel_34
      · refine go_iconst 0 23 dX11_feel_22 rfl (by decide) ?_
        exact go_zret rfl dX11_feel_23
theorem m_X11_feel {l : Launch} {G : mG} {sk : List mS} (w : Nat) (o0 : Nat) (h0 : isK o0 21) (x1 : Int32) (x2 : Int32) (x3 : Int32) (M : mM) : Mt l G sk yX11_feel muX11_feel 1 [.ref (gB G + o0), .int x1, .int x2, .int x3] M eI (f_X11_feel w o0 x1 x2 x3 M) := Mt.of (by decide) rfl (Nat.le_of_ble_eq_true rfl) (s_X11_feel w o0 h0 x1 x2 x3 M)
theorem dX11_wets_0 : decode cX11_wets 0 = .ok (.aload_n 0, 1) := by decide +kernel
theorem dX11_wets_1 : decode cX11_wets 1 = .ok (.getfield 84, 3) := by decide +kernel
theorem dX11_wets_4 : decode cX11_wets 4 = .ok (.aload_n 0, 1) := by decide +kernel
theorem dX11_wets_5 : decode cX11_wets 5 = .ok (.getfield 68, 3) := by decide +kernel
theorem dX11_wets_8 : decode cX11_wets 8 = .ok (.invokevirtual 312, 3) := by decide +kernel
theorem dX11_wets_11 : decode cX11_wets 11 = .ok (.ireturn, 1) := by decide +kernel
def f_X11_wets (w : Nat) (o0 : Nat) (M : mM) : Option (Int32 × mM) := bI (f_X5_wetsBy w (rF o0 11) (rF o0 9) M) fun q2 M1 => some (q2, M1)
set_option maxHeartbeats 4000000 in
set_option maxRecDepth 100000 in
theorem s_X11_wets {l : Launch} {G : mG} {sk : List mS} (w : Nat) (o0 : Nat) (h0 : isK o0 21) (M : mM) : Go muX11_wets (rm 6) 0 0 l G sk (mFin G sk eI) (f_X11_wets w o0 M) 0 [(0, .ref (gB G + o0))] [] M := by
  unfold f_X11_wets
  refine go_aload_n 0 1 dX11_wets_0 rfl rfl ?_
  refine go_getR flX11_84 h0 4 dX11_wets_1 rfl ?_
  refine go_aload_n 0 5 dX11_wets_4 rfl rfl ?_
  refine go_getR flX11_68 h0 8 dX11_wets_5 rfl ?_
  refine go_cVI1 5 clX5 cwX11_312 (m_X5_wetsBy w (rF o0 11) (rk11_11 h0) (rF o0 9) (rk11_9 h0) M) (rk11_11 h0) 11 dX11_wets_8 rfl ⟨Nat.le_of_ble_eq_true rfl, Nat.le_of_ble_eq_true rfl⟩ ⟨Nat.zero_le _, Nat.zero_le _⟩ (Nat.le_of_ble_eq_true rfl) (fun q2 M1 _ => ?_)
  exact go_iret rfl dX11_wets_11
theorem m_X11_wets {l : Launch} {G : mG} {sk : List mS} (w : Nat) (o0 : Nat) (h0 : isK o0 21) (M : mM) : Mt l G sk yX11_wets muX11_wets 6 [.ref (gB G + o0)] M eI (f_X11_wets w o0 M) := Mt.of (by decide) rfl (Nat.le_of_ble_eq_true rfl) (s_X11_wets w o0 h0 M)
theorem dX11_tries_0 : decode cX11_tries 0 = .ok (.aload_n 0, 1) := by decide +kernel
theorem dX11_tries_1 : decode cX11_tries 1 = .ok (.getfield 84, 3) := by decide +kernel
theorem dX11_tries_4 : decode cX11_tries 4 = .ok (.aload_n 0, 1) := by decide +kernel
theorem dX11_tries_5 : decode cX11_tries 5 = .ok (.getfield 84, 3) := by decide +kernel
theorem dX11_tries_8 : decode cX11_tries 8 = .ok (.aload_n 0, 1) := by decide +kernel
theorem dX11_tries_9 : decode cX11_tries 9 = .ok (.getfield 68, 3) := by decide +kernel
theorem dX11_tries_12 : decode cX11_tries 12 = .ok (.invokevirtual 312, 3) := by decide +kernel
theorem dX11_tries_15 : decode cX11_tries 15 = .ok (.invokevirtual 316, 3) := by decide +kernel
theorem dX11_tries_18 : decode cX11_tries 18 = .ok (.ireturn, 1) := by decide +kernel
def f_X11_tries (w : Nat) (o0 : Nat) (M : mM) : Option (Int32 × mM) := bI (f_X5_wetsBy w (rF o0 11) (rF o0 9) M) fun q2 M1 => bI (f_X5_bestTry w (rF o0 11) q2 M1) fun q4 M3 => some (q4, M3)
set_option maxHeartbeats 4000000 in
set_option maxRecDepth 100000 in
theorem s_X11_tries {l : Launch} {G : mG} {sk : List mS} (w : Nat) (o0 : Nat) (h0 : isK o0 21) (M : mM) : Go muX11_tries (rm 6) 0 0 l G sk (mFin G sk eI) (f_X11_tries w o0 M) 0 [(0, .ref (gB G + o0))] [] M := by
  unfold f_X11_tries
  refine go_aload_n 0 1 dX11_tries_0 rfl rfl ?_
  refine go_getR flX11_84 h0 4 dX11_tries_1 rfl ?_
  refine go_aload_n 0 5 dX11_tries_4 rfl rfl ?_
  refine go_getR flX11_84 h0 8 dX11_tries_5 rfl ?_
  refine go_aload_n 0 9 dX11_tries_8 rfl rfl ?_
  refine go_getR flX11_68 h0 12 dX11_tries_9 rfl ?_
  refine go_cVI1 5 clX5 cwX11_312 (m_X5_wetsBy w (rF o0 11) (rk11_11 h0) (rF o0 9) (rk11_9 h0) M) (rk11_11 h0) 15 dX11_tries_12 rfl ⟨Nat.le_of_ble_eq_true rfl, Nat.le_of_ble_eq_true rfl⟩ ⟨Nat.zero_le _, Nat.zero_le _⟩ (Nat.le_of_ble_eq_true rfl) (fun q2 M1 _ => ?_)
  refine go_cVI1 4 clX5 cwX11_316 (m_X5_bestTry w (rF o0 11) (rk11_11 h0) q2 M1) (rk11_11 h0) 18 dX11_tries_15 rfl ⟨Nat.le_of_ble_eq_true rfl, Nat.le_of_ble_eq_true rfl⟩ ⟨Nat.zero_le _, Nat.zero_le _⟩ (Nat.le_of_ble_eq_true rfl) (fun q4 M3 _ => ?_)
  exact go_iret rfl dX11_tries_18
theorem m_X11_tries {l : Launch} {G : mG} {sk : List mS} (w : Nat) (o0 : Nat) (h0 : isK o0 21) (M : mM) : Mt l G sk yX11_tries muX11_tries 6 [.ref (gB G + o0)] M eI (f_X11_tries w o0 M) := Mt.of (by decide) rfl (Nat.le_of_ble_eq_true rfl) (s_X11_tries w o0 h0 M)
theorem dX11_say_0 : decode cX11_say 0 = .ok (.aload_n 0, 1) := by decide +kernel
theorem dX11_say_1 : decode cX11_say 1 = .ok (.getfield 10, 3) := by decide +kernel
theorem dX11_say_4 : decode cX11_say 4 = .ok (.iload_n 1, 1) := by decide +kernel
theorem dX11_say_5 : decode cX11_say 5 = .ok (.invokevirtual 256, 3) := by decide +kernel
theorem dX11_say_8 : decode cX11_say 8 = .ok (.ifCond .eq 13, 3) := by decide +kernel
theorem dX11_say_11 : decode cX11_say 11 = .ok (.iload_n 2, 1) := by decide +kernel
theorem dX11_say_12 : decode cX11_say 12 = .ok (.ifCond .lt 9, 3) := by decide +kernel
theorem dX11_say_15 : decode cX11_say 15 = .ok (.iload_n 2, 1) := by decide +kernel
theorem dX11_say_16 : decode cX11_say 16 = .ok (.bipush 40, 2) := by decide +kernel
theorem dX11_say_18 : decode cX11_say 18 = .ok (.if_icmp .le 5, 3) := by decide +kernel
theorem dX11_say_21 : decode cX11_say 21 = .ok (.iconst 0, 1) := by decide +kernel
theorem dX11_say_22 : decode cX11_say 22 = .ok (.ireturn, 1) := by decide +kernel
theorem dX11_say_23 : decode cX11_say 23 = .ok (.aload_n 0, 1) := by decide +kernel
theorem dX11_say_24 : decode cX11_say 24 = .ok (.getfield 68, 3) := by decide +kernel
theorem dX11_say_27 : decode cX11_say 27 = .ok (.iload_n 1, 1) := by decide +kernel
theorem dX11_say_28 : decode cX11_say 28 = .ok (.iload_n 2, 1) := by decide +kernel
theorem dX11_say_29 : decode cX11_say 29 = .ok (.invokevirtual 319, 3) := by decide +kernel
theorem dX11_say_32 : decode cX11_say 32 = .ok (.ireturn, 1) := by decide +kernel
def f_X11_say (w : Nat) (o0 : Nat) (x1 : Int32) (x2 : Int32) (M : mM) : Option (Int32 × mM) := bI (f_X6_hasRoom w (rF o0 0) x1 M) fun q2 M1 => (if q2 = 0 then rtB 0 M1 else (if x2 < 0 then rtB 0 M1 else (if x2 ≤ 40 then bI (f_X8_addSaid w (rF o0 9) x1 x2 M1) fun q4 M3 => rtB q4 M3 else rtB 0 M1)))
set_option maxHeartbeats 4000000 in
set_option maxRecDepth 100000 in
theorem s_X11_say {l : Launch} {G : mG} {sk : List mS} (w : Nat) (o0 : Nat) (h0 : isK o0 21) (x1 : Int32) (x2 : Int32) (M : mM) : Go muX11_say (rm 1) 0 0 l G sk (mFin G sk eI) (f_X11_say w o0 x1 x2 M) 0 [(0, .ref (gB G + o0)), (1, .int x1), (2, .int x2)] [] M := by
  unfold f_X11_say
  refine go_aload_n 0 1 dX11_say_0 rfl rfl ?_
  refine go_getR flX11_10 h0 4 dX11_say_1 rfl ?_
  refine go_iload_n 1 5 dX11_say_4 rfl rfl ?_
  refine go_cVI1 0 clX6 cwX11_256 (m_X6_hasRoom w (rF o0 0) (rk11_0 h0) x1 M) (rk11_0 h0) 8 dX11_say_5 rfl ⟨Nat.le_of_ble_eq_true rfl, Nat.le_of_ble_eq_true rfl⟩ ⟨Nat.zero_le _, Nat.zero_le _⟩ (Nat.le_of_ble_eq_true rfl) (fun q2 M1 _ => ?_)
  refine go_if_eq 21 11 dX11_say_8 rfl (by decide) (fun _ => ?_) (fun _ => ?_)
  · refine go_iconst 0 22 dX11_say_21 rfl (by decide) ?_
    exact go_zret rfl dX11_say_22
  · refine go_iload_n 2 12 dX11_say_11 rfl rfl ?_
    refine go_if_lt 21 15 dX11_say_12 rfl (by decide) (fun _ => ?_) (fun _ => ?_)
    · refine go_iconst 0 22 dX11_say_21 rfl (by decide) ?_
      exact go_zret rfl dX11_say_22
    · refine go_iload_n 2 16 dX11_say_15 rfl rfl ?_
      refine go_bipush 40 18 dX11_say_16 rfl (by decide) ?_
      refine go_icmp_le 23 21 dX11_say_18 rfl (by decide) (fun _ => ?_) (fun _ => ?_)
      · refine go_aload_n 0 24 dX11_say_23 rfl rfl ?_
        refine go_getR flX11_68 h0 27 dX11_say_24 rfl ?_
        refine go_iload_n 1 28 dX11_say_27 rfl rfl ?_
        refine go_iload_n 2 29 dX11_say_28 rfl rfl ?_
        refine go_cVI2 0 clX8 cwX11_319 (m_X8_addSaid w (rF o0 9) (rk11_9 h0) x1 x2 M1) (rk11_9 h0) 32 dX11_say_29 rfl ⟨Nat.le_of_ble_eq_true rfl, Nat.le_of_ble_eq_true rfl⟩ ⟨Nat.zero_le _, Nat.zero_le _⟩ (Nat.le_of_ble_eq_true rfl) (fun q4 M3 _ => ?_)
        exact go_zret rfl dX11_say_32
      · refine go_iconst 0 22 dX11_say_21 rfl (by decide) ?_
        exact go_zret rfl dX11_say_22
theorem m_X11_say {l : Launch} {G : mG} {sk : List mS} (w : Nat) (o0 : Nat) (h0 : isK o0 21) (x1 : Int32) (x2 : Int32) (M : mM) : Mt l G sk yX11_say muX11_say 1 [.ref (gB G + o0), .int x1, .int x2] M eI (f_X11_say w o0 x1 x2 M) := Mt.of (by decide) rfl (Nat.le_of_ble_eq_true rfl) (s_X11_say w o0 h0 x1 x2 M)
theorem dX11_who_0 : decode cX11_who 0 = .ok (.aload_n 0, 1) := by decide +kernel
theorem dX11_who_1 : decode cX11_who 1 = .ok (.getfield 10, 3) := by decide +kernel
theorem dX11_who_4 : decode cX11_who 4 = .ok (.invokevirtual 322, 3) := by decide +kernel
theorem dX11_who_7 : decode cX11_who 7 = .ok (.istore_n 1, 1) := by decide +kernel
theorem dX11_who_8 : decode cX11_who 8 = .ok (.aload_n 0, 1) := by decide +kernel
theorem dX11_who_9 : decode cX11_who 9 = .ok (.getfield 84, 3) := by decide +kernel
theorem dX11_who_12 : decode cX11_who 12 = .ok (.bipush 40, 2) := by decide +kernel
theorem dX11_who_14 : decode cX11_who 14 = .ok (.invokevirtual 289, 3) := by decide +kernel
theorem dX11_who_17 : decode cX11_who 17 = .ok (.iconst 0, 1) := by decide +kernel
theorem dX11_who_18 : decode cX11_who 18 = .ok (.istore_n 2, 1) := by decide +kernel
theorem dX11_who_19 : decode cX11_who 19 = .ok (.iload_n 2, 1) := by decide +kernel
theorem dX11_who_20 : decode cX11_who 20 = .ok (.aload_n 0, 1) := by decide +kernel
theorem dX11_who_21 : decode cX11_who 21 = .ok (.getfield 68, 3) := by decide +kernel
theorem dX11_who_24 : decode cX11_who 24 = .ok (.getfield 127, 3) := by decide +kernel
theorem dX11_who_27 : decode cX11_who 27 = .ok (.if_icmp .ge 43, 3) := by decide +kernel
theorem dX11_who_30 : decode cX11_who 30 = .ok (.iload_n 2, 1) := by decide +kernel
theorem dX11_who_31 : decode cX11_who 31 = .ok (.bipush 8, 2) := by decide +kernel
theorem dX11_who_33 : decode cX11_who 33 = .ok (.if_icmp .ge 37, 3) := by decide +kernel
theorem dX11_who_36 : decode cX11_who 36 = .ok (.iload_n 1, 1) := by decide +kernel
theorem dX11_who_37 : decode cX11_who 37 = .ok (.aload_n 0, 1) := by decide +kernel
theorem dX11_who_38 : decode cX11_who 38 = .ok (.getfield 84, 3) := by decide +kernel
theorem dX11_who_41 : decode cX11_who 41 = .ok (.aload_n 0, 1) := by decide +kernel
theorem dX11_who_42 : decode cX11_who 42 = .ok (.getfield 68, 3) := by decide +kernel
theorem dX11_who_45 : decode cX11_who 45 = .ok (.getfield 325, 3) := by decide +kernel
theorem dX11_who_48 : decode cX11_who 48 = .ok (.iload_n 2, 1) := by decide +kernel
theorem dX11_who_49 : decode cX11_who 49 = .ok (.iaload, 1) := by decide +kernel
theorem dX11_who_50 : decode cX11_who 50 = .ok (.aload_n 0, 1) := by decide +kernel
theorem dX11_who_51 : decode cX11_who 51 = .ok (.getfield 68, 3) := by decide +kernel
theorem dX11_who_54 : decode cX11_who 54 = .ok (.getfield 328, 3) := by decide +kernel
theorem dX11_who_57 : decode cX11_who 57 = .ok (.iload_n 2, 1) := by decide +kernel
theorem dX11_who_58 : decode cX11_who 58 = .ok (.iaload, 1) := by decide +kernel
theorem dX11_who_59 : decode cX11_who 59 = .ok (.invokevirtual 299, 3) := by decide +kernel
theorem dX11_who_62 : decode cX11_who 62 = .ok (.iand, 1) := by decide +kernel
theorem dX11_who_63 : decode cX11_who 63 = .ok (.istore_n 1, 1) := by decide +kernel
theorem dX11_who_64 : decode cX11_who 64 = .ok (.iinc 2 1, 3) := by decide +kernel
theorem dX11_who_67 : decode cX11_who 67 = .ok (.goto (-48), 3) := by decide +kernel
theorem dX11_who_70 : decode cX11_who 70 = .ok (.aload_n 0, 1) := by decide +kernel
theorem dX11_who_71 : decode cX11_who 71 = .ok (.getfield 51, 3) := by decide +kernel
theorem dX11_who_74 : decode cX11_who 74 = .ok (.iload_n 1, 1) := by decide +kernel
theorem dX11_who_75 : decode cX11_who 75 = .ok (.invokevirtual 331, 3) := by decide +kernel
theorem dX11_who_78 : decode cX11_who 78 = .ok (.ireturn, 1) := by decide +kernel
def f_X11_who_70 (w : Nat) (o0 : Nat) (x1 : Int32) (M : mM) : Option (Int32 × mM) := bI (f_X9_personsIn w (rF o0 6) x1 M) fun q2 M1 => some (q2, M1)
set_option maxHeartbeats 4000000 in
set_option maxRecDepth 100000 in
theorem s_X11_who_70 {l : Launch} {G : mG} {sk : List mS} (w : Nat) (o0 : Nat) (h0 : isK o0 21) (x1 : Int32) (M : mM) : Go muX11_who (rm 6) 0 0 l G sk (mFin G sk eI) (f_X11_who_70 w o0 x1 M) 70 [(0, .ref (gB G + o0)), (1, .int x1)] [] M := by
  unfold f_X11_who_70
  refine go_aload_n 0 71 dX11_who_70 rfl rfl ?_
  refine go_getR flX11_51 h0 74 dX11_who_71 rfl ?_
  refine go_iload_n 1 75 dX11_who_74 rfl rfl ?_
  refine go_cVI1 0 clX9 cwX11_331 (m_X9_personsIn w (rF o0 6) (rk11_6 h0) x1 M) (rk11_6 h0) 78 dX11_who_75 rfl ⟨Nat.le_of_ble_eq_true rfl, Nat.le_of_ble_eq_true rfl⟩ ⟨Nat.zero_le _, Nat.zero_le _⟩ (Nat.le_of_ble_eq_true rfl) (fun q2 M1 _ => ?_)
  exact go_iret rfl dX11_who_78
def f_X11_who_19 (w : Nat) : Nat → Nat → Int32 → Int32 → mM → Option (Int32 × mM)
  | 0, _, _, _, _ => none
  | n + 1, o0, x1, x2, M => (if (M.1 (rF o0 9) 1) ≤ x2 then (f_X11_who_70 w o0 x1 M) else (if 8 ≤ x2 then (f_X11_who_70 w o0 x1 M) else chk x2 (sL (rF (rF o0 9) 5)) (chk x2 (sL (rF (rF o0 9) 6)) (bI (f_X5_roomsBehind w (rF o0 11) (M.1 (rF (rF o0 9) 5) x2.toNatClampNeg) (M.1 (rF (rF o0 9) 6) x2.toNatClampNeg) M) fun q2 M1 => lt (x1 &&& q2) fun y3 => (f_X11_who_19 w n o0 y3 (x2 + 1) M1)))))
set_option maxHeartbeats 4000000 in
set_option maxRecDepth 100000 in
theorem s_X11_who_19 {l : Launch} {G : mG} {sk : List mS} (w : Nat) : ∀ (n : Nat) (o0 : Nat) (h0 : isK o0 21) (x1 : Int32) (x2 : Int32) (M : mM), Go muX11_who (rm 6) 0 0 l G sk (mFin G sk eI) (f_X11_who_19 w n o0 x1 x2 M) 19 [(0, .ref (gB G + o0)), (1, .int x1), (2, .int x2)] [] M := by
  intro n
  induction n with
  | zero =>
    intros
    exact go_none
  | succ n ih =>
    intro o0 h0 x1 x2 M
    rw [f_X11_who_19]
    refine go_iload_n 2 20 dX11_who_19 rfl rfl ?_
    refine go_aload_n 0 21 dX11_who_20 rfl rfl ?_
    refine go_getR flX11_68 h0 24 dX11_who_21 rfl ?_
    refine go_getI flX11_127 (by decide) (rk11_9 h0) 27 dX11_who_24 rfl ?_
    refine go_icmp_ge 70 30 dX11_who_27 rfl (by decide) (fun _ => ?_) (fun _ => ?_)
    · exact go_lv [0, 1] rfl (s_X11_who_70 w o0 h0 x1 M)
    · refine go_iload_n 2 31 dX11_who_30 rfl rfl ?_
      refine go_bipush 8 33 dX11_who_31 rfl (by decide) ?_
      refine go_icmp_ge 70 36 dX11_who_33 rfl (by decide) (fun _ => ?_) (fun _ => ?_)
      · exact go_lv [0, 1] rfl (s_X11_who_70 w o0 h0 x1 M)
      · refine go_iload_n 1 37 dX11_who_36 rfl rfl ?_
        refine go_aload_n 0 38 dX11_who_37 rfl rfl ?_
        refine go_getR flX11_84 h0 41 dX11_who_38 rfl ?_
        refine go_aload_n 0 42 dX11_who_41 rfl rfl ?_
        refine go_getR flX11_68 h0 45 dX11_who_42 rfl ?_
        refine go_getR flX11_325 (rk11_9 h0) 48 dX11_who_45 rfl ?_
        refine go_iload_n 2 49 dX11_who_48 rfl rfl ?_
        refine go_iald (rk8_5 (rk11_9 h0)) 50 dX11_who_49 rfl ?_
        refine go_aload_n 0 51 dX11_who_50 rfl rfl ?_
        refine go_getR flX11_68 h0 54 dX11_who_51 rfl ?_
        refine go_getR flX11_328 (rk11_9 h0) 57 dX11_who_54 rfl ?_
        refine go_iload_n 2 58 dX11_who_57 rfl rfl ?_
        refine go_iald (rk8_6 (rk11_9 h0)) 59 dX11_who_58 rfl ?_
        refine go_cVI2 1 clX5 cwX11_299 (m_X5_roomsBehind w (rF o0 11) (rk11_11 h0) (M.1 (rF (rF o0 9) 5) x2.toNatClampNeg) (M.1 (rF (rF o0 9) 6) x2.toNatClampNeg) M) (rk11_11 h0) 62 dX11_who_59 rfl ⟨Nat.le_of_ble_eq_true rfl, Nat.le_of_ble_eq_true rfl⟩ ⟨Nat.zero_le _, Nat.zero_le _⟩ (Nat.le_of_ble_eq_true rfl) (fun q2 M1 _ => ?_)
        refine go_iand 63 dX11_who_62 rfl ?_
        refine go_nmI (fun y3 => ?_)
        refine go_istore_n [(1, .int y3), (0, .ref (gB G + o0)), (2, .int x2)] 64 dX11_who_63 rfl rfl (by decide) rfl ?_
        refine go_iinc (x2 + 1) 2 [(2, .int (x2 + 1)), (1, .int y3), (0, .ref (gB G + o0))] 67 dX11_who_64 rfl rfl rfl (by decide) rfl ?_
        refine go_goto 19 dX11_who_67 (by decide) ?_
        exact go_lv [2, 1, 0] rfl (ih o0 h0 y3 (x2 + 1) M1)
def f_X11_who (w : Nat) (o0 : Nat) (M : mM) : Option (Int32 × mM) := bI (f_X6_allRooms w (rF o0 0) M) fun q2 M1 => bV (f_X5_look w (rF o0 11) 40 M1) fun M3 => (f_X11_who_19 w w o0 q2 0 M3)
set_option maxHeartbeats 4000000 in
set_option maxRecDepth 100000 in
theorem s_X11_who {l : Launch} {G : mG} {sk : List mS} (w : Nat) (o0 : Nat) (h0 : isK o0 21) (M : mM) : Go muX11_who (rm 6) 0 0 l G sk (mFin G sk eI) (f_X11_who w o0 M) 0 [(0, .ref (gB G + o0))] [] M := by
  unfold f_X11_who
  refine go_aload_n 0 1 dX11_who_0 rfl rfl ?_
  refine go_getR flX11_10 h0 4 dX11_who_1 rfl ?_
  refine go_cVI0 0 clX6 cwX11_322 (m_X6_allRooms w (rF o0 0) (rk11_0 h0) M) (rk11_0 h0) 7 dX11_who_4 rfl ⟨Nat.le_of_ble_eq_true rfl, Nat.le_of_ble_eq_true rfl⟩ ⟨Nat.zero_le _, Nat.zero_le _⟩ (Nat.le_of_ble_eq_true rfl) (fun q2 M1 _ => ?_)
  refine go_istore_n [(1, .int q2), (0, .ref (gB G + o0))] 8 dX11_who_7 rfl rfl (by decide) rfl ?_
  refine go_aload_n 1 9 dX11_who_8 rfl rfl ?_
  refine go_getR flX11_84 h0 12 dX11_who_9 rfl ?_
  refine go_bipush 40 14 dX11_who_12 rfl (by decide) ?_
  refine go_cVV1 5 clX5 cwX11_289 (m_X5_look w (rF o0 11) (rk11_11 h0) 40 M1) (rk11_11 h0) 17 dX11_who_14 rfl ⟨Nat.le_of_ble_eq_true rfl, Nat.le_of_ble_eq_true rfl⟩ ⟨Nat.zero_le _, Nat.zero_le _⟩ (Nat.le_of_ble_eq_true rfl) (fun M3 _ => ?_)
  refine go_iconst 0 18 dX11_who_17 rfl (by decide) ?_
  refine go_istore_n [(2, .int 0), (1, .int q2), (0, .ref (gB G + o0))] 19 dX11_who_18 rfl rfl (by decide) rfl ?_
  exact go_lv [2, 1, 0] rfl (s_X11_who_19 w w o0 h0 q2 0 M3)
theorem m_X11_who {l : Launch} {G : mG} {sk : List mS} (w : Nat) (o0 : Nat) (h0 : isK o0 21) (M : mM) : Mt l G sk yX11_who muX11_who 6 [.ref (gB G + o0)] M eI (f_X11_who w o0 M) := Mt.of (by decide) rfl (Nat.le_of_ble_eq_true rfl) (s_X11_who w o0 h0 M)
theorem dX11_chance_0 : decode cX11_chance 0 = .ok (.iload_n 2, 1) := by decide +kernel
theorem dX11_chance_1 : decode cX11_chance 1 = .ok (.iconst 1, 1) := by decide +kernel
theorem dX11_chance_2 : decode cX11_chance 2 = .ok (.if_icmp .lt 23, 3) := by decide +kernel
theorem dX11_chance_5 : decode cX11_chance 5 = .ok (.iload_n 2, 1) := by decide +kernel
theorem dX11_chance_6 : decode cX11_chance 6 = .ok (.bipush 6, 2) := by decide +kernel
theorem dX11_chance_8 : decode cX11_chance 8 = .ok (.if_icmp .gt 17, 3) := by decide +kernel
theorem dX11_chance_11 : decode cX11_chance 11 = .ok (.iload_n 3, 1) := by decide +kernel
theorem dX11_chance_12 : decode cX11_chance 12 = .ok (.ifCond .lt 13, 3) := by decide +kernel
theorem dX11_chance_15 : decode cX11_chance 15 = .ok (.iload_n 3, 1) := by decide +kernel
theorem dX11_chance_16 : decode cX11_chance 16 = .ok (.bipush 10, 2) := by decide +kernel
theorem dX11_chance_18 : decode cX11_chance 18 = .ok (.if_icmp .gt 7, 3) := by decide +kernel
theorem dX11_chance_21 : decode cX11_chance 21 = .ok (.iconst 1, 1) := by decide +kernel
theorem dX11_chance_22 : decode cX11_chance 22 = .ok (.goto 4, 3) := by decide +kernel
theorem dX11_chance_25 : decode cX11_chance 25 = .ok (.iconst 0, 1) := by decide +kernel
theorem dX11_chance_26 : decode cX11_chance 26 = .ok (.istore 4, 2) := by decide +kernel
theorem dX11_chance_28 : decode cX11_chance 28 = .ok (.aload_n 0, 1) := by decide +kernel
theorem dX11_chance_29 : decode cX11_chance 29 = .ok (.getfield 10, 3) := by decide +kernel
theorem dX11_chance_32 : decode cX11_chance 32 = .ok (.iload_n 1, 1) := by decide +kernel
theorem dX11_chance_33 : decode cX11_chance 33 = .ok (.invokevirtual 145, 3) := by decide +kernel
theorem dX11_chance_36 : decode cX11_chance 36 = .ok (.ifCond .eq 21, 3) := by decide +kernel
theorem dX11_chance_39 : decode cX11_chance 39 = .ok (.iload 4, 2) := by decide +kernel
theorem dX11_chance_41 : decode cX11_chance 41 = .ok (.ifCond .eq 16, 3) := by decide +kernel
theorem dX11_chance_44 : decode cX11_chance 44 = .ok (.aload_n 0, 1) := by decide +kernel
theorem dX11_chance_45 : decode cX11_chance 45 = .ok (.getfield 84, 3) := by decide +kernel
theorem dX11_chance_48 : decode cX11_chance 48 = .ok (.iload_n 1, 1) := by decide +kernel
theorem dX11_chance_49 : decode cX11_chance 49 = .ok (.iload_n 2, 1) := by decide +kernel
theorem dX11_chance_50 : decode cX11_chance 50 = .ok (.iload_n 3, 1) := by decide +kernel
theorem dX11_chance_51 : decode cX11_chance 51 = .ok (.invokevirtual 334, 3) := by decide +kernel
theorem dX11_chance_54 : decode cX11_chance 54 = .ok (.goto 4, 3) := by decide +kernel
theorem dX11_chance_57 : decode cX11_chance 57 = .ok (.iconst (-1), 1) := by decide +kernel
theorem dX11_chance_58 : decode cX11_chance 58 = .ok (.ireturn, 1) := by decide +kernel
def f_X11_chance_26 (w : Nat) (o0 : Nat) (x1 : Int32) (x2 : Int32) (x3 : Int32) (xs0 : Int32) (M : mM) : Option (Int32 × mM) := bI (f_X6_hasDoor w (rF o0 0) x1 M) fun q2 M1 => (if q2 = 0 then some ((-1), M1) else (if xs0 = 0 then some ((-1), M1) else bI (f_X5_millionths w (rF o0 11) x1 x2 x3 M1) fun q4 M3 => some (q4, M3)))
set_option maxHeartbeats 4000000 in
set_option maxRecDepth 100000 in
theorem s_X11_chance_26 {l : Launch} {G : mG} {sk : List mS} (w : Nat) (o0 : Nat) (h0 : isK o0 21) (x1 : Int32) (x2 : Int32) (x3 : Int32) (xs0 : Int32) (M : mM) : Go muX11_chance (rm 4) 0 0 l G sk (mFin G sk eI) (f_X11_chance_26 w o0 x1 x2 x3 xs0 M) 26 [(0, .ref (gB G + o0)), (1, .int x1), (2, .int x2), (3, .int x3)] [.int xs0] M := by
  unfold f_X11_chance_26
  refine go_istore [(4, .int xs0), (0, .ref (gB G + o0)), (1, .int x1), (2, .int x2), (3, .int x3)] 28 dX11_chance_26 rfl (by decide) rfl ?_
  refine go_aload_n 1 29 dX11_chance_28 rfl rfl ?_
  refine go_getR flX11_10 h0 32 dX11_chance_29 rfl ?_
  refine go_iload_n 2 33 dX11_chance_32 rfl rfl ?_
  refine go_cVI1 0 clX6 cwX11_145 (m_X6_hasDoor w (rF o0 0) (rk11_0 h0) x1 M) (rk11_0 h0) 36 dX11_chance_33 rfl ⟨Nat.le_of_ble_eq_true rfl, Nat.le_of_ble_eq_true rfl⟩ ⟨Nat.zero_le _, Nat.zero_le _⟩ (Nat.le_of_ble_eq_true rfl) (fun q2 M1 _ => ?_)
  refine go_if_eq 57 39 dX11_chance_36 rfl (by decide) (fun _ => ?_) (fun _ => ?_)
  · refine go_iconst (-1) 58 dX11_chance_57 rfl (by decide) ?_
    exact go_iret rfl dX11_chance_58
  · refine go_iload 0 41 dX11_chance_39 rfl rfl ?_
    refine go_if_eq 57 44 dX11_chance_41 rfl (by decide) (fun _ => ?_) (fun _ => ?_)
    · refine go_iconst (-1) 58 dX11_chance_57 rfl (by decide) ?_
      exact go_iret rfl dX11_chance_58
    · refine go_aload_n 1 45 dX11_chance_44 rfl rfl ?_
      refine go_getR flX11_84 h0 48 dX11_chance_45 rfl ?_
      refine go_iload_n 2 49 dX11_chance_48 rfl rfl ?_
      refine go_iload_n 3 50 dX11_chance_49 rfl rfl ?_
      refine go_iload_n 4 51 dX11_chance_50 rfl rfl ?_
      refine go_cVI3 3 clX5 cwX11_334 (m_X5_millionths w (rF o0 11) (rk11_11 h0) x1 x2 x3 M1) (rk11_11 h0) 54 dX11_chance_51 rfl ⟨Nat.le_of_ble_eq_true rfl, Nat.le_of_ble_eq_true rfl⟩ ⟨Nat.zero_le _, Nat.zero_le _⟩ (Nat.le_of_ble_eq_true rfl) (fun q4 M3 _ => ?_)
      refine go_goto 58 dX11_chance_54 (by decide) ?_
      exact go_iret rfl dX11_chance_58
def f_X11_chance_25 (w : Nat) (o0 : Nat) (x1 : Int32) (x2 : Int32) (x3 : Int32) (M : mM) : Option (Int32 × mM) := (f_X11_chance_26 w o0 x1 x2 x3 0 M)
set_option maxHeartbeats 4000000 in
set_option maxRecDepth 100000 in
theorem s_X11_chance_25 {l : Launch} {G : mG} {sk : List mS} (w : Nat) (o0 : Nat) (h0 : isK o0 21) (x1 : Int32) (x2 : Int32) (x3 : Int32) (M : mM) : Go muX11_chance (rm 4) 0 0 l G sk (mFin G sk eI) (f_X11_chance_25 w o0 x1 x2 x3 M) 25 [(0, .ref (gB G + o0)), (1, .int x1), (2, .int x2), (3, .int x3)] [] M := by
  unfold f_X11_chance_25
  refine go_iconst 0 26 dX11_chance_25 rfl (by decide) ?_
  exact go_lv [0, 1, 2, 3] rfl (s_X11_chance_26 w o0 h0 x1 x2 x3 0 M)
def f_X11_chance (w : Nat) (o0 : Nat) (x1 : Int32) (x2 : Int32) (x3 : Int32) (M : mM) : Option (Int32 × mM) := (if x2 < 1 then (f_X11_chance_25 w o0 x1 x2 x3 M) else (if 6 < x2 then (f_X11_chance_25 w o0 x1 x2 x3 M) else (if x3 < 0 then (f_X11_chance_25 w o0 x1 x2 x3 M) else (if 10 < x3 then (f_X11_chance_25 w o0 x1 x2 x3 M) else (f_X11_chance_26 w o0 x1 x2 x3 1 M)))))
set_option maxHeartbeats 4000000 in
set_option maxRecDepth 100000 in
theorem s_X11_chance {l : Launch} {G : mG} {sk : List mS} (w : Nat) (o0 : Nat) (h0 : isK o0 21) (x1 : Int32) (x2 : Int32) (x3 : Int32) (M : mM) : Go muX11_chance (rm 4) 0 0 l G sk (mFin G sk eI) (f_X11_chance w o0 x1 x2 x3 M) 0 [(0, .ref (gB G + o0)), (1, .int x1), (2, .int x2), (3, .int x3)] [] M := by
  unfold f_X11_chance
  refine go_iload_n 2 1 dX11_chance_0 rfl rfl ?_
  refine go_iconst 1 2 dX11_chance_1 rfl (by decide) ?_
  refine go_icmp_lt 25 5 dX11_chance_2 rfl (by decide) (fun _ => ?_) (fun _ => ?_)
  · exact go_lv [0, 1, 2, 3] rfl (s_X11_chance_25 w o0 h0 x1 x2 x3 M)
  · refine go_iload_n 2 6 dX11_chance_5 rfl rfl ?_
    refine go_bipush 6 8 dX11_chance_6 rfl (by decide) ?_
    refine go_icmp_gt 25 11 dX11_chance_8 rfl (by decide) (fun _ => ?_) (fun _ => ?_)
    · exact go_lv [0, 1, 2, 3] rfl (s_X11_chance_25 w o0 h0 x1 x2 x3 M)
    · refine go_iload_n 3 12 dX11_chance_11 rfl rfl ?_
      refine go_if_lt 25 15 dX11_chance_12 rfl (by decide) (fun _ => ?_) (fun _ => ?_)
      · exact go_lv [0, 1, 2, 3] rfl (s_X11_chance_25 w o0 h0 x1 x2 x3 M)
      · refine go_iload_n 3 16 dX11_chance_15 rfl rfl ?_
        refine go_bipush 10 18 dX11_chance_16 rfl (by decide) ?_
        refine go_icmp_gt 25 21 dX11_chance_18 rfl (by decide) (fun _ => ?_) (fun _ => ?_)
        · exact go_lv [0, 1, 2, 3] rfl (s_X11_chance_25 w o0 h0 x1 x2 x3 M)
        · refine go_iconst 1 22 dX11_chance_21 rfl (by decide) ?_
          refine go_goto 26 dX11_chance_22 (by decide) ?_
          exact go_lv [0, 1, 2, 3] rfl (s_X11_chance_26 w o0 h0 x1 x2 x3 1 M)
theorem m_X11_chance {l : Launch} {G : mG} {sk : List mS} (w : Nat) (o0 : Nat) (h0 : isK o0 21) (x1 : Int32) (x2 : Int32) (x3 : Int32) (M : mM) : Mt l G sk yX11_chance muX11_chance 4 [.ref (gB G + o0), .int x1, .int x2, .int x3] M eI (f_X11_chance w o0 x1 x2 x3 M) := Mt.of (by decide) rfl (Nat.le_of_ble_eq_true rfl) (s_X11_chance w o0 h0 x1 x2 x3 M)
theorem dX11_isStake_0 : decode cX11_isStake 0 = .ok (.iload_n 0, 1) := by decide +kernel
theorem dX11_isStake_1 : decode cX11_isStake 1 = .ok (.ifCond .lt 13, 3) := by decide +kernel
theorem dX11_isStake_4 : decode cX11_isStake 4 = .ok (.iload_n 0, 1) := by decide +kernel
theorem dX11_isStake_5 : decode cX11_isStake 5 = .ok (.bipush 9, 2) := by decide +kernel
theorem dX11_isStake_7 : decode cX11_isStake 7 = .ok (.if_icmp .gt 7, 3) := by decide +kernel
theorem dX11_isStake_10 : decode cX11_isStake 10 = .ok (.iconst 1, 1) := by decide +kernel
theorem dX11_isStake_11 : decode cX11_isStake 11 = .ok (.goto 4, 3) := by decide +kernel
theorem dX11_isStake_14 : decode cX11_isStake 14 = .ok (.iconst 0, 1) := by decide +kernel
theorem dX11_isStake_15 : decode cX11_isStake 15 = .ok (.ireturn, 1) := by decide +kernel
def f_X11_isStake (w : Nat) (x0 : Int32) (M : mM) : Option (Int32 × mM) := (if x0 < 0 then rtB 0 M else (if 9 < x0 then rtB 0 M else rtB 1 M))
set_option maxHeartbeats 4000000 in
set_option maxRecDepth 100000 in
theorem s_X11_isStake {l : Launch} {G : mG} {sk : List mS} (w : Nat) (x0 : Int32) (M : mM) : Go muX11_isStake (rm 0) 0 0 l G sk (mFin G sk eI) (f_X11_isStake w x0 M) 0 [(0, .int x0)] [] M := by
  unfold f_X11_isStake
  refine go_iload_n 0 1 dX11_isStake_0 rfl rfl ?_
  refine go_if_lt 14 4 dX11_isStake_1 rfl (by decide) (fun _ => ?_) (fun _ => ?_)
  · refine go_iconst 0 15 dX11_isStake_14 rfl (by decide) ?_
    exact go_zret rfl dX11_isStake_15
  · refine go_iload_n 0 5 dX11_isStake_4 rfl rfl ?_
    refine go_bipush 9 7 dX11_isStake_5 rfl (by decide) ?_
    refine go_icmp_gt 14 10 dX11_isStake_7 rfl (by decide) (fun _ => ?_) (fun _ => ?_)
    · refine go_iconst 0 15 dX11_isStake_14 rfl (by decide) ?_
      exact go_zret rfl dX11_isStake_15
    · refine go_iconst 1 11 dX11_isStake_10 rfl (by decide) ?_
      refine go_goto 15 dX11_isStake_11 (by decide) ?_
      exact go_zret rfl dX11_isStake_15
theorem m_X11_isStake {l : Launch} {G : mG} {sk : List mS} (w : Nat) (x0 : Int32) (M : mM) : Mt l G sk yX11_isStake muX11_isStake 0 [.int x0] M eI (f_X11_isStake w x0 M) := Mt.of (by decide) rfl (Nat.le_of_ble_eq_true rfl) (s_X11_isStake w x0 M)
theorem dX11_gain_0 : decode cX11_gain 0 = .ok (.iload_n 0, 1) := by decide +kernel
theorem dX11_gain_1 : decode cX11_gain 1 = .ok (.iconst 1, 1) := by decide +kernel
theorem dX11_gain_2 : decode cX11_gain 2 = .ok (.if_icmp .ne 15, 3) := by decide +kernel
theorem dX11_gain_5 : decode cX11_gain 5 = .ok (.iload_n 1, 1) := by decide +kernel
theorem dX11_gain_6 : decode cX11_gain 6 = .ok (.iconst 1, 1) := by decide +kernel
theorem dX11_gain_7 : decode cX11_gain 7 = .ok (.if_icmp .ne 8, 3) := by decide +kernel
theorem dX11_gain_10 : decode cX11_gain 10 = .ok (.iload_n 2, 1) := by decide +kernel
theorem dX11_gain_11 : decode cX11_gain 11 = .ok (.ineg, 1) := by decide +kernel
theorem dX11_gain_12 : decode cX11_gain 12 = .ok (.goto 4, 3) := by decide +kernel
theorem dX11_gain_15 : decode cX11_gain 15 = .ok (.iload_n 3, 1) := by decide +kernel
theorem dX11_gain_16 : decode cX11_gain 16 = .ok (.ireturn, 1) := by decide +kernel
theorem dX11_gain_17 : decode cX11_gain 17 = .ok (.iload_n 1, 1) := by decide +kernel
theorem dX11_gain_18 : decode cX11_gain 18 = .ok (.iconst 1, 1) := by decide +kernel
theorem dX11_gain_19 : decode cX11_gain 19 = .ok (.if_icmp .ne 8, 3) := by decide +kernel
theorem dX11_gain_22 : decode cX11_gain 22 = .ok (.iload 4, 2) := by decide +kernel
theorem dX11_gain_24 : decode cX11_gain 24 = .ok (.goto 4, 3) := by decide +kernel
theorem dX11_gain_27 : decode cX11_gain 27 = .ok (.iconst 0, 1) := by decide +kernel
theorem dX11_gain_28 : decode cX11_gain 28 = .ok (.ireturn, 1) := by decide +kernel
def f_X11_gain (w : Nat) (x0 : Int32) (x1 : Int32) (x2 : Int32) (x3 : Int32) (x4 : Int32) (M : mM) : Option (Int32 × mM) := (if x0 = 1 then (if x1 = 1 then some ((-x2), M) else some (x3, M)) else (if x1 = 1 then some (x4, M) else some (0, M)))
set_option maxHeartbeats 4000000 in
set_option maxRecDepth 100000 in
theorem s_X11_gain {l : Launch} {G : mG} {sk : List mS} (w : Nat) (x0 : Int32) (x1 : Int32) (x2 : Int32) (x3 : Int32) (x4 : Int32) (M : mM) : Go muX11_gain (rm 0) 0 0 l G sk (mFin G sk eI) (f_X11_gain w x0 x1 x2 x3 x4 M) 0 [(0, .int x0), (1, .int x1), (2, .int x2), (3, .int x3), (4, .int x4)] [] M := by
  unfold f_X11_gain
  refine go_iload_n 0 1 dX11_gain_0 rfl rfl ?_
  refine go_iconst 1 2 dX11_gain_1 rfl (by decide) ?_
  refine go_icmp_ne 17 5 dX11_gain_2 rfl (by decide) (fun _ => ?_) (fun _ => ?_)
  · refine go_iload_n 1 18 dX11_gain_17 rfl rfl ?_
    refine go_iconst 1 19 dX11_gain_18 rfl (by decide) ?_
    refine go_icmp_ne 27 22 dX11_gain_19 rfl (by decide) (fun _ => ?_) (fun _ => ?_)
    · refine go_iconst 0 28 dX11_gain_27 rfl (by decide) ?_
      exact go_iret rfl dX11_gain_28
    · refine go_iload 4 24 dX11_gain_22 rfl rfl ?_
      refine go_goto 28 dX11_gain_24 (by decide) ?_
      exact go_iret rfl dX11_gain_28
  · refine go_iload_n 1 6 dX11_gain_5 rfl rfl ?_
    refine go_iconst 1 7 dX11_gain_6 rfl (by decide) ?_
    refine go_icmp_ne 15 10 dX11_gain_7 rfl (by decide) (fun _ => ?_) (fun _ => ?_)
    · refine go_iload_n 3 16 dX11_gain_15 rfl rfl ?_
      exact go_iret rfl dX11_gain_16
    · refine go_iload_n 2 11 dX11_gain_10 rfl rfl ?_
      refine go_ineg 12 dX11_gain_11 rfl ?_
      refine go_goto 16 dX11_gain_12 (by decide) ?_
      exact go_iret rfl dX11_gain_16
theorem m_X11_gain {l : Launch} {G : mG} {sk : List mS} (w : Nat) (x0 : Int32) (x1 : Int32) (x2 : Int32) (x3 : Int32) (x4 : Int32) (M : mM) : Mt l G sk yX11_gain muX11_gain 0 [.int x0, .int x1, .int x2, .int x3, .int x4] M eI (f_X11_gain w x0 x1 x2 x3 x4 M) := Mt.of (by decide) rfl (Nat.le_of_ble_eq_true rfl) (s_X11_gain w x0 x1 x2 x3 x4 M)
theorem dX11_isRest_0 : decode cX11_isRest 0 = .ok (.iload_n 0, 1) := by decide +kernel
theorem dX11_isRest_1 : decode cX11_isRest 1 = .ok (.iload_n 1, 1) := by decide +kernel
theorem dX11_isRest_2 : decode cX11_isRest 2 = .ok (.iload_n 2, 1) := by decide +kernel
theorem dX11_isRest_3 : decode cX11_isRest 3 = .ok (.iload_n 3, 1) := by decide +kernel
theorem dX11_isRest_4 : decode cX11_isRest 4 = .ok (.iload 4, 2) := by decide +kernel
theorem dX11_isRest_6 : decode cX11_isRest 6 = .ok (.invokestatic 354, 3) := by decide +kernel
theorem dX11_isRest_9 : decode cX11_isRest 9 = .ok (.iconst 1, 1) := by decide +kernel
theorem dX11_isRest_10 : decode cX11_isRest 10 = .ok (.iload_n 0, 1) := by decide +kernel
theorem dX11_isRest_11 : decode cX11_isRest 11 = .ok (.isub, 1) := by decide +kernel
theorem dX11_isRest_12 : decode cX11_isRest 12 = .ok (.iload_n 1, 1) := by decide +kernel
theorem dX11_isRest_13 : decode cX11_isRest 13 = .ok (.iload_n 2, 1) := by decide +kernel
theorem dX11_isRest_14 : decode cX11_isRest 14 = .ok (.iload_n 3, 1) := by decide +kernel
theorem dX11_isRest_15 : decode cX11_isRest 15 = .ok (.iload 4, 2) := by decide +kernel
theorem dX11_isRest_17 : decode cX11_isRest 17 = .ok (.invokestatic 354, 3) := by decide +kernel
theorem dX11_isRest_20 : decode cX11_isRest 20 = .ok (.if_icmp .lt 30, 3) := by decide +kernel
theorem dX11_isRest_23 : decode cX11_isRest 23 = .ok (.iload_n 1, 1) := by decide +kernel
theorem dX11_isRest_24 : decode cX11_isRest 24 = .ok (.iload_n 0, 1) := by decide +kernel
theorem dX11_isRest_25 : decode cX11_isRest 25 = .ok (.iload_n 2, 1) := by decide +kernel
theorem dX11_isRest_26 : decode cX11_isRest 26 = .ok (.iload_n 3, 1) := by decide +kernel
theorem dX11_isRest_27 : decode cX11_isRest 27 = .ok (.iload 4, 2) := by decide +kernel
theorem dX11_isRest_29 : decode cX11_isRest 29 = .ok (.invokestatic 354, 3) := by decide +kernel
theorem dX11_isRest_32 : decode cX11_isRest 32 = .ok (.iconst 1, 1) := by decide +kernel
theorem dX11_isRest_33 : decode cX11_isRest 33 = .ok (.iload_n 1, 1) := by decide +kernel
theorem dX11_isRest_34 : decode cX11_isRest 34 = .ok (.isub, 1) := by decide +kernel
theorem dX11_isRest_35 : decode cX11_isRest 35 = .ok (.iload_n 0, 1) := by decide +kernel
theorem dX11_isRest_36 : decode cX11_isRest 36 = .ok (.iload_n 2, 1) := by decide +kernel
theorem dX11_isRest_37 : decode cX11_isRest 37 = .ok (.iload_n 3, 1) := by decide +kernel
theorem dX11_isRest_38 : decode cX11_isRest 38 = .ok (.iload 4, 2) := by decide +kernel
theorem dX11_isRest_40 : decode cX11_isRest 40 = .ok (.invokestatic 354, 3) := by decide +kernel
theorem dX11_isRest_43 : decode cX11_isRest 43 = .ok (.if_icmp .lt 7, 3) := by decide +kernel
theorem dX11_isRest_46 : decode cX11_isRest 46 = .ok (.iconst 1, 1) := by decide +kernel
theorem dX11_isRest_47 : decode cX11_isRest 47 = .ok (.goto 4, 3) := by decide +kernel
theorem dX11_isRest_50 : decode cX11_isRest 50 = .ok (.iconst 0, 1) := by decide +kernel
theorem dX11_isRest_51 : decode cX11_isRest 51 = .ok (.ireturn, 1) := by decide +kernel
def f_X11_isRest (w : Nat) (x0 : Int32) (x1 : Int32) (x2 : Int32) (x3 : Int32) (x4 : Int32) (M : mM) : Option (Int32 × mM) := bI (f_X11_gain w x0 x1 x2 x3 x4 M) fun q2 M1 => bI (f_X11_gain w (1 - x0) x1 x2 x3 x4 M1) fun q4 M3 => (if q2 < q4 then rtB 0 M3 else bI (f_X11_gain w x1 x0 x2 x3 x4 M3) fun q6 M5 => bI (f_X11_gain w (1 - x1) x0 x2 x3 x4 M5) fun q8 M7 => (if q6 < q8 then rtB 0 M7 else rtB 1 M7))
set_option maxHeartbeats 4000000 in
set_option maxRecDepth 100000 in
theorem s_X11_isRest {l : Launch} {G : mG} {sk : List mS} (w : Nat) (x0 : Int32) (x1 : Int32) (x2 : Int32) (x3 : Int32) (x4 : Int32) (M : mM) : Go muX11_isRest (rm 1) 0 0 l G sk (mFin G sk eI) (f_X11_isRest w x0 x1 x2 x3 x4 M) 0 [(0, .int x0), (1, .int x1), (2, .int x2), (3, .int x3), (4, .int x4)] [] M := by
  unfold f_X11_isRest
  refine go_iload_n 0 1 dX11_isRest_0 rfl rfl ?_
  refine go_iload_n 1 2 dX11_isRest_1 rfl rfl ?_
  refine go_iload_n 2 3 dX11_isRest_2 rfl rfl ?_
  refine go_iload_n 3 4 dX11_isRest_3 rfl rfl ?_
  refine go_iload 4 6 dX11_isRest_4 rfl rfl ?_
  refine go_cSI5 0 cwX11_354 (m_X11_gain w x0 x1 x2 x3 x4 M) 9 dX11_isRest_6 rfl ⟨Nat.le_of_ble_eq_true rfl, Nat.le_of_ble_eq_true rfl⟩ ⟨Nat.zero_le _, Nat.zero_le _⟩ (Nat.le_of_ble_eq_true rfl) (fun q2 M1 _ => ?_)
  refine go_iconst 1 10 dX11_isRest_9 rfl (by decide) ?_
  refine go_iload_n 0 11 dX11_isRest_10 rfl rfl ?_
  refine go_isub 12 dX11_isRest_11 rfl ?_
  refine go_iload_n 1 13 dX11_isRest_12 rfl rfl ?_
  refine go_iload_n 2 14 dX11_isRest_13 rfl rfl ?_
  refine go_iload_n 3 15 dX11_isRest_14 rfl rfl ?_
  refine go_iload 4 17 dX11_isRest_15 rfl rfl ?_
  refine go_cSI5 0 cwX11_354 (m_X11_gain w (1 - x0) x1 x2 x3 x4 M1) 20 dX11_isRest_17 rfl ⟨Nat.le_of_ble_eq_true rfl, Nat.le_of_ble_eq_true rfl⟩ ⟨Nat.zero_le _, Nat.zero_le _⟩ (Nat.le_of_ble_eq_true rfl) (fun q4 M3 _ => ?_)
  refine go_icmp_lt 50 23 dX11_isRest_20 rfl (by decide) (fun _ => ?_) (fun _ => ?_)
  · refine go_iconst 0 51 dX11_isRest_50 rfl (by decide) ?_
    exact go_zret rfl dX11_isRest_51
  · refine go_iload_n 1 24 dX11_isRest_23 rfl rfl ?_
    refine go_iload_n 0 25 dX11_isRest_24 rfl rfl ?_
    refine go_iload_n 2 26 dX11_isRest_25 rfl rfl ?_
    refine go_iload_n 3 27 dX11_isRest_26 rfl rfl ?_
    refine go_iload 4 29 dX11_isRest_27 rfl rfl ?_
    refine go_cSI5 0 cwX11_354 (m_X11_gain w x1 x0 x2 x3 x4 M3) 32 dX11_isRest_29 rfl ⟨Nat.le_of_ble_eq_true rfl, Nat.le_of_ble_eq_true rfl⟩ ⟨Nat.zero_le _, Nat.zero_le _⟩ (Nat.le_of_ble_eq_true rfl) (fun q6 M5 _ => ?_)
    refine go_iconst 1 33 dX11_isRest_32 rfl (by decide) ?_
    refine go_iload_n 1 34 dX11_isRest_33 rfl rfl ?_
    refine go_isub 35 dX11_isRest_34 rfl ?_
    refine go_iload_n 0 36 dX11_isRest_35 rfl rfl ?_
    refine go_iload_n 2 37 dX11_isRest_36 rfl rfl ?_
    refine go_iload_n 3 38 dX11_isRest_37 rfl rfl ?_
    refine go_iload 4 40 dX11_isRest_38 rfl rfl ?_
    refine go_cSI5 0 cwX11_354 (m_X11_gain w (1 - x1) x0 x2 x3 x4 M5) 43 dX11_isRest_40 rfl ⟨Nat.le_of_ble_eq_true rfl, Nat.le_of_ble_eq_true rfl⟩ ⟨Nat.zero_le _, Nat.zero_le _⟩ (Nat.le_of_ble_eq_true rfl) (fun q8 M7 _ => ?_)
    refine go_icmp_lt 50 46 dX11_isRest_43 rfl (by decide) (fun _ => ?_) (fun _ => ?_)
    · refine go_iconst 0 51 dX11_isRest_50 rfl (by decide) ?_
      exact go_zret rfl dX11_isRest_51
    · refine go_iconst 1 47 dX11_isRest_46 rfl (by decide) ?_
      refine go_goto 51 dX11_isRest_47 (by decide) ?_
      exact go_zret rfl dX11_isRest_51
theorem m_X11_isRest {l : Launch} {G : mG} {sk : List mS} (w : Nat) (x0 : Int32) (x1 : Int32) (x2 : Int32) (x3 : Int32) (x4 : Int32) (M : mM) : Mt l G sk yX11_isRest muX11_isRest 1 [.int x0, .int x1, .int x2, .int x3, .int x4] M eI (f_X11_isRest w x0 x1 x2 x3 x4 M) := Mt.of (by decide) rfl (Nat.le_of_ble_eq_true rfl) (s_X11_isRest w x0 x1 x2 x3 x4 M)
theorem dX11_drawBelow_0 : decode cX11_drawBelow 0 = .ok (.aload_n 0, 1) := by decide +kernel
theorem dX11_drawBelow_1 : decode cX11_drawBelow 1 = .ok (.aload_n 0, 1) := by decide +kernel
theorem dX11_drawBelow_2 : decode cX11_drawBelow 2 = .ok (.getfield 360, 3) := by decide +kernel
theorem dX11_drawBelow_5 : decode cX11_drawBelow 5 = .ok (.ldc2_w 380, 3) := by decide +kernel
theorem dX11_drawBelow_8 : decode cX11_drawBelow 8 = .ok (.lmul, 1) := by decide +kernel
theorem dX11_drawBelow_9 : decode cX11_drawBelow 9 = .ok (.ldc2_w 382, 3) := by decide +kernel
theorem dX11_drawBelow_12 : decode cX11_drawBelow 12 = .ok (.ladd, 1) := by decide +kernel
theorem dX11_drawBelow_13 : decode cX11_drawBelow 13 = .ok (.ldc2_w 384, 3) := by decide +kernel
theorem dX11_drawBelow_16 : decode cX11_drawBelow 16 = .ok (.lrem, 1) := by decide +kernel
theorem dX11_drawBelow_17 : decode cX11_drawBelow 17 = .ok (.putfield 360, 3) := by decide +kernel
theorem dX11_drawBelow_20 : decode cX11_drawBelow 20 = .ok (.iload_n 1, 1) := by decide +kernel
theorem dX11_drawBelow_21 : decode cX11_drawBelow 21 = .ok (.ifCond .le 18, 3) := by decide +kernel
theorem dX11_drawBelow_24 : decode cX11_drawBelow 24 = .ok (.aload_n 0, 1) := by decide +kernel
theorem dX11_drawBelow_25 : decode cX11_drawBelow 25 = .ok (.getfield 360, 3) := by decide +kernel
theorem dX11_drawBelow_28 : decode cX11_drawBelow 28 = .ok (.ldc2_w 386, 3) := by decide +kernel
theorem dX11_drawBelow_31 : decode cX11_drawBelow 31 = .ok (.ldiv, 1) := by decide +kernel
theorem dX11_drawBelow_32 : decode cX11_drawBelow 32 = .ok (.iload_n 1, 1) := by decide +kernel
theorem dX11_drawBelow_33 : decode cX11_drawBelow 33 = .ok (.i2l, 1) := by decide +kernel
theorem dX11_drawBelow_34 : decode cX11_drawBelow 34 = .ok (.lrem, 1) := by decide +kernel
theorem dX11_drawBelow_35 : decode cX11_drawBelow 35 = .ok (.l2i, 1) := by decide +kernel
theorem dX11_drawBelow_36 : decode cX11_drawBelow 36 = .ok (.goto 4, 3) := by decide +kernel
theorem dX11_drawBelow_39 : decode cX11_drawBelow 39 = .ok (.iconst 0, 1) := by decide +kernel
theorem dX11_drawBelow_40 : decode cX11_drawBelow 40 = .ok (.ireturn, 1) := by decide +kernel
def f_X11_drawBelow (w : Nat) (o0 : Nat) (x1 : Int32) (M : mM) : Option (Int32 × mM) := if (2147483648 : Int64) = 0 then none else (lt (wL M o0 14 ((((M.2 o0 14) * 1103515245) + 12345) - (((M.2 o0 14) * 1103515245) + 12345) / 2147483648 * 2147483648)) fun M1 => (if x1 ≤ 0 then some (0, M1) else if (65536 : Int64) = 0 then none else (if (x1.toInt64) = 0 then none else (some (((((M1.2 o0 14) / 65536) - ((M1.2 o0 14) / 65536) / (x1.toInt64) * (x1.toInt64)).toInt32), M1)))))
set_option maxHeartbeats 4000000 in
set_option maxRecDepth 100000 in
theorem s_X11_drawBelow {l : Launch} {G : mG} {sk : List mS} (w : Nat) (o0 : Nat) (h0 : isK o0 21) (x1 : Int32) (M : mM) : Go muX11_drawBelow (rm 0) 0 0 l G sk (mFin G sk eI) (f_X11_drawBelow w o0 x1 M) 0 [(0, .ref (gB G + o0)), (1, .int x1)] [] M := by
  unfold f_X11_drawBelow
  refine go_aload_n 0 1 dX11_drawBelow_0 rfl rfl ?_
  refine go_aload_n 0 2 dX11_drawBelow_1 rfl rfl ?_
  refine go_getL flX11_360 h0 5 dX11_drawBelow_2 rfl ?_
  refine go_ldc2 klX11_380 8 dX11_drawBelow_5 rfl ?_
  refine go_lmul 9 dX11_drawBelow_8 rfl ?_
  refine go_ldc2 klX11_382 12 dX11_drawBelow_9 rfl ?_
  refine go_ladd 13 dX11_drawBelow_12 rfl ?_
  refine go_ldc2 klX11_384 16 dX11_drawBelow_13 rfl ?_
  refine go_lrem 17 dX11_drawBelow_16 rfl ?_
  refine go_putL flX11_360 rfl rfl h0 20 dX11_drawBelow_17 rfl ?_
  refine go_nmM (fun M1 => ?_)
  refine go_iload_n 1 21 dX11_drawBelow_20 rfl rfl ?_
  refine go_if_le 39 24 dX11_drawBelow_21 rfl (by decide) (fun _ => ?_) (fun _ => ?_)
  · refine go_iconst 0 40 dX11_drawBelow_39 rfl (by decide) ?_
    exact go_iret rfl dX11_drawBelow_40
  · refine go_aload_n 0 25 dX11_drawBelow_24 rfl rfl ?_
    refine go_getL flX11_360 h0 28 dX11_drawBelow_25 rfl ?_
    refine go_ldc2 klX11_386 31 dX11_drawBelow_28 rfl ?_
    refine go_ldiv 32 dX11_drawBelow_31 rfl ?_
    refine go_iload_n 1 33 dX11_drawBelow_32 rfl rfl ?_
    refine go_i2l 34 dX11_drawBelow_33 rfl ?_
    refine go_lrem 35 dX11_drawBelow_34 rfl ?_
    refine go_l2i 36 dX11_drawBelow_35 rfl ?_
    refine go_goto 40 dX11_drawBelow_36 (by decide) ?_
    exact go_iret rfl dX11_drawBelow_40
theorem m_X11_drawBelow {l : Launch} {G : mG} {sk : List mS} (w : Nat) (o0 : Nat) (h0 : isK o0 21) (x1 : Int32) (M : mM) : Mt l G sk yX11_drawBelow muX11_drawBelow 0 [.ref (gB G + o0), .int x1] M eI (f_X11_drawBelow w o0 x1 M) := Mt.of (by decide) rfl (Nat.le_of_ble_eq_true rfl) (s_X11_drawBelow w o0 h0 x1 M)
theorem dX11_makeDrawnDeed_0 : decode cX11_makeDrawnDeed 0 = .ok (.aload_n 0, 1) := by decide +kernel
theorem dX11_makeDrawnDeed_1 : decode cX11_makeDrawnDeed 1 = .ok (.iconst 5, 1) := by decide +kernel
theorem dX11_makeDrawnDeed_2 : decode cX11_makeDrawnDeed 2 = .ok (.invokevirtual 368, 3) := by decide +kernel
theorem dX11_makeDrawnDeed_5 : decode cX11_makeDrawnDeed 5 = .ok (.istore_n 1, 1) := by decide +kernel
theorem dX11_makeDrawnDeed_6 : decode cX11_makeDrawnDeed 6 = .ok (.iload_n 1, 1) := by decide +kernel
theorem dX11_makeDrawnDeed_7 : decode cX11_makeDrawnDeed 7 = .ok (.ifCond .ne 25, 3) := by decide +kernel
theorem dX11_makeDrawnDeed_10 : decode cX11_makeDrawnDeed 10 = .ok (.aload_n 0, 1) := by decide +kernel
theorem dX11_makeDrawnDeed_11 : decode cX11_makeDrawnDeed 11 = .ok (.getfield 55, 3) := by decide +kernel
theorem dX11_makeDrawnDeed_14 : decode cX11_makeDrawnDeed 14 = .ok (.aload_n 0, 1) := by decide +kernel
theorem dX11_makeDrawnDeed_15 : decode cX11_makeDrawnDeed 15 = .ok (.aload_n 0, 1) := by decide +kernel
theorem dX11_makeDrawnDeed_16 : decode cX11_makeDrawnDeed 16 = .ok (.getfield 10, 3) := by decide +kernel
theorem dX11_makeDrawnDeed_19 : decode cX11_makeDrawnDeed 19 = .ok (.getfield 179, 3) := by decide +kernel
theorem dX11_makeDrawnDeed_22 : decode cX11_makeDrawnDeed 22 = .ok (.invokevirtual 368, 3) := by decide +kernel
theorem dX11_makeDrawnDeed_25 : decode cX11_makeDrawnDeed 25 = .ok (.invokevirtual 371, 3) := by decide +kernel
theorem dX11_makeDrawnDeed_28 : decode cX11_makeDrawnDeed 28 = .ok (.pop, 1) := by decide +kernel
theorem dX11_makeDrawnDeed_29 : decode cX11_makeDrawnDeed 29 = .ok (.goto 74, 3) := by decide +kernel
theorem dX11_makeDrawnDeed_32 : decode cX11_makeDrawnDeed 32 = .ok (.iload_n 1, 1) := by decide +kernel
theorem dX11_makeDrawnDeed_33 : decode cX11_makeDrawnDeed 33 = .ok (.iconst 1, 1) := by decide +kernel
theorem dX11_makeDrawnDeed_34 : decode cX11_makeDrawnDeed 34 = .ok (.if_icmp .ne 45, 3) := by decide +kernel
theorem dX11_makeDrawnDeed_37 : decode cX11_makeDrawnDeed 37 = .ok (.aload_n 0, 1) := by decide +kernel
theorem dX11_makeDrawnDeed_38 : decode cX11_makeDrawnDeed 38 = .ok (.getfield 10, 3) := by decide +kernel
theorem dX11_makeDrawnDeed_41 : decode cX11_makeDrawnDeed 41 = .ok (.getfield 182, 3) := by decide +kernel
theorem dX11_makeDrawnDeed_44 : decode cX11_makeDrawnDeed 44 = .ok (.ifCond .le 35, 3) := by decide +kernel
theorem dX11_makeDrawnDeed_47 : decode cX11_makeDrawnDeed 47 = .ok (.aload_n 0, 1) := by decide +kernel
theorem dX11_makeDrawnDeed_48 : decode cX11_makeDrawnDeed 48 = .ok (.aload_n 0, 1) := by decide +kernel
theorem dX11_makeDrawnDeed_49 : decode cX11_makeDrawnDeed 49 = .ok (.getfield 10, 3) := by decide +kernel
theorem dX11_makeDrawnDeed_52 : decode cX11_makeDrawnDeed 52 = .ok (.getfield 182, 3) := by decide +kernel
theorem dX11_makeDrawnDeed_55 : decode cX11_makeDrawnDeed 55 = .ok (.invokevirtual 368, 3) := by decide +kernel
theorem dX11_makeDrawnDeed_58 : decode cX11_makeDrawnDeed 58 = .ok (.istore_n 2, 1) := by decide +kernel
theorem dX11_makeDrawnDeed_59 : decode cX11_makeDrawnDeed 59 = .ok (.aload_n 0, 1) := by decide +kernel
theorem dX11_makeDrawnDeed_60 : decode cX11_makeDrawnDeed 60 = .ok (.getfield 55, 3) := by decide +kernel
theorem dX11_makeDrawnDeed_63 : decode cX11_makeDrawnDeed 63 = .ok (.iload_n 2, 1) := by decide +kernel
theorem dX11_makeDrawnDeed_64 : decode cX11_makeDrawnDeed 64 = .ok (.aload_n 0, 1) := by decide +kernel
theorem dX11_makeDrawnDeed_65 : decode cX11_makeDrawnDeed 65 = .ok (.aload_n 0, 1) := by decide +kernel
theorem dX11_makeDrawnDeed_66 : decode cX11_makeDrawnDeed 66 = .ok (.getfield 10, 3) := by decide +kernel
theorem dX11_makeDrawnDeed_69 : decode cX11_makeDrawnDeed 69 = .ok (.getfield 179, 3) := by decide +kernel
theorem dX11_makeDrawnDeed_72 : decode cX11_makeDrawnDeed 72 = .ok (.invokevirtual 368, 3) := by decide +kernel
theorem dX11_makeDrawnDeed_75 : decode cX11_makeDrawnDeed 75 = .ok (.invokevirtual 374, 3) := by decide +kernel
theorem dX11_makeDrawnDeed_78 : decode cX11_makeDrawnDeed 78 = .ok (.ireturn, 1) := by decide +kernel
theorem dX11_makeDrawnDeed_79 : decode cX11_makeDrawnDeed 79 = .ok (.iload_n 1, 1) := by decide +kernel
theorem dX11_makeDrawnDeed_80 : decode cX11_makeDrawnDeed 80 = .ok (.iconst 2, 1) := by decide +kernel
theorem dX11_makeDrawnDeed_81 : decode cX11_makeDrawnDeed 81 = .ok (.if_icmp .ne 22, 3) := by decide +kernel
theorem dX11_makeDrawnDeed_84 : decode cX11_makeDrawnDeed 84 = .ok (.aload_n 0, 1) := by decide +kernel
theorem dX11_makeDrawnDeed_85 : decode cX11_makeDrawnDeed 85 = .ok (.getfield 55, 3) := by decide +kernel
theorem dX11_makeDrawnDeed_88 : decode cX11_makeDrawnDeed 88 = .ok (.aload_n 0, 1) := by decide +kernel
theorem dX11_makeDrawnDeed_89 : decode cX11_makeDrawnDeed 89 = .ok (.aload_n 0, 1) := by decide +kernel
theorem dX11_makeDrawnDeed_90 : decode cX11_makeDrawnDeed 90 = .ok (.getfield 10, 3) := by decide +kernel
theorem dX11_makeDrawnDeed_93 : decode cX11_makeDrawnDeed 93 = .ok (.getfield 179, 3) := by decide +kernel
theorem dX11_makeDrawnDeed_96 : decode cX11_makeDrawnDeed 96 = .ok (.invokevirtual 368, 3) := by decide +kernel
theorem dX11_makeDrawnDeed_99 : decode cX11_makeDrawnDeed 99 = .ok (.invokevirtual 377, 3) := by decide +kernel
theorem dX11_makeDrawnDeed_102 : decode cX11_makeDrawnDeed 102 = .ok (.pop, 1) := by decide +kernel
theorem dX11_makeDrawnDeed_103 : decode cX11_makeDrawnDeed 103 = .ok (.iconst 0, 1) := by decide +kernel
theorem dX11_makeDrawnDeed_104 : decode cX11_makeDrawnDeed 104 = .ok (.ireturn, 1) := by decide +kernel
def f_X11_makeDrawnDeed_79 (w : Nat) (o0 : Nat) (x1 : Int32) (M : mM) : Option (Int32 × mM) := (if x1 = 2 then bI (f_X11_drawBelow w o0 (M.1 (rF o0 0) 1) M) fun q2 M1 => bI (f_X9_forceIfCan w (rF o0 7) q2 M1) fun q4 M3 => rtB 0 M3 else rtB 0 M)
set_option maxHeartbeats 4000000 in
set_option maxRecDepth 100000 in
theorem s_X11_makeDrawnDeed_79 {l : Launch} {G : mG} {sk : List mS} (w : Nat) (o0 : Nat) (h0 : isK o0 21) (x1 : Int32) (M : mM) : Go muX11_makeDrawnDeed (rm 4) 0 0 l G sk (mFin G sk eI) (f_X11_makeDrawnDeed_79 w o0 x1 M) 79 [(0, .ref (gB G + o0)), (1, .int x1)] [] M := by
  unfold f_X11_makeDrawnDeed_79
  refine go_iload_n 1 80 dX11_makeDrawnDeed_79 rfl rfl ?_
  refine go_iconst 2 81 dX11_makeDrawnDeed_80 rfl (by decide) ?_
  refine go_icmp_ne 103 84 dX11_makeDrawnDeed_81 rfl (by decide) (fun _ => ?_) (fun _ => ?_)
  · refine go_iconst 0 104 dX11_makeDrawnDeed_103 rfl (by decide) ?_
    exact go_zret rfl dX11_makeDrawnDeed_104
  · refine go_aload_n 0 85 dX11_makeDrawnDeed_84 rfl rfl ?_
    refine go_getR flX11_55 h0 88 dX11_makeDrawnDeed_85 rfl ?_
    refine go_aload_n 0 89 dX11_makeDrawnDeed_88 rfl rfl ?_
    refine go_aload_n 0 90 dX11_makeDrawnDeed_89 rfl rfl ?_
    refine go_getR flX11_10 h0 93 dX11_makeDrawnDeed_90 rfl ?_
    refine go_getI flX11_179 (by decide) (rk11_0 h0) 96 dX11_makeDrawnDeed_93 rfl ?_
    refine go_cVI1 0 clX11 cwX11_368 (m_X11_drawBelow w o0 h0 (M.1 (rF o0 0) 1) M) h0 99 dX11_makeDrawnDeed_96 rfl ⟨Nat.le_of_ble_eq_true rfl, Nat.le_of_ble_eq_true rfl⟩ ⟨Nat.zero_le _, Nat.zero_le _⟩ (Nat.le_of_ble_eq_true rfl) (fun q2 M1 _ => ?_)
    refine go_cVI1 3 clX9 cwX11_377 (m_X9_forceIfCan w (rF o0 7) (rk11_7 h0) q2 M1) (rk11_7 h0) 102 dX11_makeDrawnDeed_99 rfl ⟨Nat.le_of_ble_eq_true rfl, Nat.le_of_ble_eq_true rfl⟩ ⟨Nat.zero_le _, Nat.zero_le _⟩ (Nat.le_of_ble_eq_true rfl) (fun q4 M3 _ => ?_)
    refine go_pop 103 dX11_makeDrawnDeed_102 rfl rfl ?_
    refine go_iconst 0 104 dX11_makeDrawnDeed_103 rfl (by decide) ?_
    exact go_zret rfl dX11_makeDrawnDeed_104
def f_X11_makeDrawnDeed (w : Nat) (o0 : Nat) (M : mM) : Option (Int32 × mM) := bI (f_X11_drawBelow w o0 5 M) fun q2 M1 => (if q2 = 0 then bI (f_X11_drawBelow w o0 (M1.1 (rF o0 0) 1) M1) fun q10 M9 => bI (f_X9_planeIfCan w (rF o0 7) q10 M9) fun q12 M11 => rtB 0 M11 else (if q2 = 1 then (if (M1.1 (rF o0 0) 2) ≤ 0 then (f_X11_makeDrawnDeed_79 w o0 q2 M1) else bI (f_X11_drawBelow w o0 (M1.1 (rF o0 0) 2) M1) fun q4 M3 => bI (f_X11_drawBelow w o0 (M3.1 (rF o0 0) 1) M3) fun q6 M5 => bI (f_X9_walkIfCan w (rF o0 7) q4 q6 M5) fun q8 M7 => rtB q8 M7) else (f_X11_makeDrawnDeed_79 w o0 q2 M1)))
set_option maxHeartbeats 4000000 in
set_option maxRecDepth 100000 in
theorem s_X11_makeDrawnDeed {l : Launch} {G : mG} {sk : List mS} (w : Nat) (o0 : Nat) (h0 : isK o0 21) (M : mM) : Go muX11_makeDrawnDeed (rm 4) 0 0 l G sk (mFin G sk eI) (f_X11_makeDrawnDeed w o0 M) 0 [(0, .ref (gB G + o0))] [] M := by
  unfold f_X11_makeDrawnDeed
  refine go_aload_n 0 1 dX11_makeDrawnDeed_0 rfl rfl ?_
  refine go_iconst 5 2 dX11_makeDrawnDeed_1 rfl (by decide) ?_
  refine go_cVI1 0 clX11 cwX11_368 (m_X11_drawBelow w o0 h0 5 M) h0 5 dX11_makeDrawnDeed_2 rfl ⟨Nat.le_of_ble_eq_true rfl, Nat.le_of_ble_eq_true rfl⟩ ⟨Nat.zero_le _, Nat.zero_le _⟩ (Nat.le_of_ble_eq_true rfl) (fun q2 M1 _ => ?_)
  refine go_istore_n [(1, .int q2), (0, .ref (gB G + o0))] 6 dX11_makeDrawnDeed_5 rfl rfl (by decide) rfl ?_
  refine go_iload_n 0 7 dX11_makeDrawnDeed_6 rfl rfl ?_
  refine go_if_ne 32 10 dX11_makeDrawnDeed_7 rfl (by decide) (fun _ => ?_) (fun _ => ?_)
  · refine go_iload_n 0 33 dX11_makeDrawnDeed_32 rfl rfl ?_
    refine go_iconst 1 34 dX11_makeDrawnDeed_33 rfl (by decide) ?_
    refine go_icmp_ne 79 37 dX11_makeDrawnDeed_34 rfl (by decide) (fun _ => ?_) (fun _ => ?_)
    · exact go_lv [1, 0] rfl (s_X11_makeDrawnDeed_79 w o0 h0 q2 M1)
    · refine go_aload_n 1 38 dX11_makeDrawnDeed_37 rfl rfl ?_
      refine go_getR flX11_10 h0 41 dX11_makeDrawnDeed_38 rfl ?_
      refine go_getI flX11_182 (by decide) (rk11_0 h0) 44 dX11_makeDrawnDeed_41 rfl ?_
      refine go_if_le 79 47 dX11_makeDrawnDeed_44 rfl (by decide) (fun _ => ?_) (fun _ => ?_)
      · exact go_lv [1, 0] rfl (s_X11_makeDrawnDeed_79 w o0 h0 q2 M1)
      · refine go_aload_n 1 48 dX11_makeDrawnDeed_47 rfl rfl ?_
        refine go_aload_n 1 49 dX11_makeDrawnDeed_48 rfl rfl ?_
        refine go_getR flX11_10 h0 52 dX11_makeDrawnDeed_49 rfl ?_
        refine go_getI flX11_182 (by decide) (rk11_0 h0) 55 dX11_makeDrawnDeed_52 rfl ?_
        refine go_cVI1 0 clX11 cwX11_368 (m_X11_drawBelow w o0 h0 (M1.1 (rF o0 0) 2) M1) h0 58 dX11_makeDrawnDeed_55 rfl ⟨Nat.le_of_ble_eq_true rfl, Nat.le_of_ble_eq_true rfl⟩ ⟨Nat.zero_le _, Nat.zero_le _⟩ (Nat.le_of_ble_eq_true rfl) (fun q4 M3 _ => ?_)
        refine go_istore_n [(2, .int q4), (1, .int q2), (0, .ref (gB G + o0))] 59 dX11_makeDrawnDeed_58 rfl rfl (by decide) rfl ?_
        refine go_aload_n 2 60 dX11_makeDrawnDeed_59 rfl rfl ?_
        refine go_getR flX11_55 h0 63 dX11_makeDrawnDeed_60 rfl ?_
        refine go_iload_n 0 64 dX11_makeDrawnDeed_63 rfl rfl ?_
        refine go_aload_n 2 65 dX11_makeDrawnDeed_64 rfl rfl ?_
        refine go_aload_n 2 66 dX11_makeDrawnDeed_65 rfl rfl ?_
        refine go_getR flX11_10 h0 69 dX11_makeDrawnDeed_66 rfl ?_
        refine go_getI flX11_179 (by decide) (rk11_0 h0) 72 dX11_makeDrawnDeed_69 rfl ?_
        refine go_cVI1 0 clX11 cwX11_368 (m_X11_drawBelow w o0 h0 (M3.1 (rF o0 0) 1) M3) h0 75 dX11_makeDrawnDeed_72 rfl ⟨Nat.le_of_ble_eq_true rfl, Nat.le_of_ble_eq_true rfl⟩ ⟨Nat.zero_le _, Nat.zero_le _⟩ (Nat.le_of_ble_eq_true rfl) (fun q6 M5 _ => ?_)
        refine go_cVI2 3 clX9 cwX11_374 (m_X9_walkIfCan w (rF o0 7) (rk11_7 h0) q4 q6 M5) (rk11_7 h0) 78 dX11_makeDrawnDeed_75 rfl ⟨Nat.le_of_ble_eq_true rfl, Nat.le_of_ble_eq_true rfl⟩ ⟨Nat.zero_le _, Nat.zero_le _⟩ (Nat.le_of_ble_eq_true rfl) (fun q8 M7 _ => ?_)
        exact go_zret rfl dX11_makeDrawnDeed_78
  · refine go_aload_n 1 11 dX11_makeDrawnDeed_10 rfl rfl ?_
    refine go_getR flX11_55 h0 14 dX11_makeDrawnDeed_11 rfl ?_
    refine go_aload_n 1 15 dX11_makeDrawnDeed_14 rfl rfl ?_
    refine go_aload_n 1 16 dX11_makeDrawnDeed_15 rfl rfl ?_
    refine go_getR flX11_10 h0 19 dX11_makeDrawnDeed_16 rfl ?_
    refine go_getI flX11_179 (by decide) (rk11_0 h0) 22 dX11_makeDrawnDeed_19 rfl ?_
    refine go_cVI1 0 clX11 cwX11_368 (m_X11_drawBelow w o0 h0 (M1.1 (rF o0 0) 1) M1) h0 25 dX11_makeDrawnDeed_22 rfl ⟨Nat.le_of_ble_eq_true rfl, Nat.le_of_ble_eq_true rfl⟩ ⟨Nat.zero_le _, Nat.zero_le _⟩ (Nat.le_of_ble_eq_true rfl) (fun q10 M9 _ => ?_)
    refine go_cVI1 2 clX9 cwX11_371 (m_X9_planeIfCan w (rF o0 7) (rk11_7 h0) q10 M9) (rk11_7 h0) 28 dX11_makeDrawnDeed_25 rfl ⟨Nat.le_of_ble_eq_true rfl, Nat.le_of_ble_eq_true rfl⟩ ⟨Nat.zero_le _, Nat.zero_le _⟩ (Nat.le_of_ble_eq_true rfl) (fun q12 M11 _ => ?_)
    refine go_pop 29 dX11_makeDrawnDeed_28 rfl rfl ?_
    refine go_goto 103 dX11_makeDrawnDeed_29 (by decide) ?_
    refine go_iconst 0 104 dX11_makeDrawnDeed_103 rfl (by decide) ?_
    exact go_zret rfl dX11_makeDrawnDeed_104
theorem m_X11_makeDrawnDeed {l : Launch} {G : mG} {sk : List mS} (w : Nat) (o0 : Nat) (h0 : isK o0 21) (M : mM) : Mt l G sk yX11_makeDrawnDeed muX11_makeDrawnDeed 4 [.ref (gB G + o0)] M eI (f_X11_makeDrawnDeed w o0 M) := Mt.of (by decide) rfl (Nat.le_of_ble_eq_true rfl) (s_X11_makeDrawnDeed w o0 h0 M)
theorem dX11_years_0 : decode cX11_years 0 = .ok (.iload_n 1, 1) := by decide +kernel
theorem dX11_years_1 : decode cX11_years 1 = .ok (.ifCond .lt 25, 3) := by decide +kernel
theorem dX11_years_4 : decode cX11_years 4 = .ok (.iload_n 1, 1) := by decide +kernel
theorem dX11_years_5 : decode cX11_years 5 = .ok (.sipush 9999, 3) := by decide +kernel
theorem dX11_years_8 : decode cX11_years 8 = .ok (.if_icmp .gt 18, 3) := by decide +kernel
theorem dX11_years_11 : decode cX11_years 11 = .ok (.iload_n 2, 1) := by decide +kernel
theorem dX11_years_12 : decode cX11_years 12 = .ok (.iconst 1, 1) := by decide +kernel
theorem dX11_years_13 : decode cX11_years 13 = .ok (.if_icmp .lt 13, 3) := by decide +kernel
theorem dX11_years_16 : decode cX11_years 16 = .ok (.iload_n 2, 1) := by decide +kernel
theorem dX11_years_17 : decode cX11_years 17 = .ok (.bipush 99, 2) := by decide +kernel
theorem dX11_years_19 : decode cX11_years 19 = .ok (.if_icmp .gt 7, 3) := by decide +kernel
theorem dX11_years_22 : decode cX11_years 22 = .ok (.iconst 1, 1) := by decide +kernel
theorem dX11_years_23 : decode cX11_years 23 = .ok (.goto 4, 3) := by decide +kernel
theorem dX11_years_26 : decode cX11_years 26 = .ok (.iconst 0, 1) := by decide +kernel
theorem dX11_years_27 : decode cX11_years 27 = .ok (.istore 4, 2) := by decide +kernel
theorem dX11_years_29 : decode cX11_years 29 = .ok (.iload 4, 2) := by decide +kernel
theorem dX11_years_31 : decode cX11_years 31 = .ok (.ifCond .eq 12, 3) := by decide +kernel
theorem dX11_years_34 : decode cX11_years 34 = .ok (.iload_n 3, 1) := by decide +kernel
theorem dX11_years_35 : decode cX11_years 35 = .ok (.ifCond .lt 8, 3) := by decide +kernel
theorem dX11_years_38 : decode cX11_years 38 = .ok (.iload_n 3, 1) := by decide +kernel
theorem dX11_years_39 : decode cX11_years 39 = .ok (.iconst 2, 1) := by decide +kernel
theorem dX11_years_40 : decode cX11_years 40 = .ok (.if_icmp .le 5, 3) := by decide +kernel
theorem dX11_years_43 : decode cX11_years 43 = .ok (.iconst (-1), 1) := by decide +kernel
theorem dX11_years_44 : decode cX11_years 44 = .ok (.ireturn, 1) := by decide +kernel
theorem dX11_years_45 : decode cX11_years 45 = .ok (.aload_n 0, 1) := by decide +kernel
theorem dX11_years_46 : decode cX11_years 46 = .ok (.getfield 55, 3) := by decide +kernel
theorem dX11_years_49 : decode cX11_years 49 = .ok (.aload_n 0, 1) := by decide +kernel
theorem dX11_years_50 : decode cX11_years 50 = .ok (.getfield 51, 3) := by decide +kernel
theorem dX11_years_53 : decode cX11_years 53 = .ok (.invokevirtual 358, 3) := by decide +kernel
theorem dX11_years_56 : decode cX11_years 56 = .ok (.aload_n 0, 1) := by decide +kernel
theorem dX11_years_57 : decode cX11_years 57 = .ok (.iload_n 1, 1) := by decide +kernel
theorem dX11_years_58 : decode cX11_years 58 = .ok (.i2l, 1) := by decide +kernel
theorem dX11_years_59 : decode cX11_years 59 = .ok (.putfield 360, 3) := by decide +kernel
theorem dX11_years_62 : decode cX11_years 62 = .ok (.iconst 0, 1) := by decide +kernel
theorem dX11_years_63 : decode cX11_years 63 = .ok (.istore 5, 2) := by decide +kernel
theorem dX11_years_65 : decode cX11_years 65 = .ok (.iconst 0, 1) := by decide +kernel
theorem dX11_years_66 : decode cX11_years 66 = .ok (.istore 6, 2) := by decide +kernel
theorem dX11_years_68 : decode cX11_years 68 = .ok (.iload 6, 2) := by decide +kernel
theorem dX11_years_70 : decode cX11_years 70 = .ok (.iload_n 2, 1) := by decide +kernel
theorem dX11_years_71 : decode cX11_years 71 = .ok (.if_icmp .ge 36, 3) := by decide +kernel
theorem dX11_years_74 : decode cX11_years 74 = .ok (.aload_n 0, 1) := by decide +kernel
theorem dX11_years_75 : decode cX11_years 75 = .ok (.getfield 10, 3) := by decide +kernel
theorem dX11_years_78 : decode cX11_years 78 = .ok (.getfield 179, 3) := by decide +kernel
theorem dX11_years_81 : decode cX11_years 81 = .ok (.ifCond .le 13, 3) := by decide +kernel
theorem dX11_years_84 : decode cX11_years 84 = .ok (.aload_n 0, 1) := by decide +kernel
theorem dX11_years_85 : decode cX11_years 85 = .ok (.invokevirtual 364, 3) := by decide +kernel
theorem dX11_years_88 : decode cX11_years 88 = .ok (.ifCond .eq 6, 3) := by decide +kernel
theorem dX11_years_91 : decode cX11_years 91 = .ok (.iinc 5 1, 3) := by decide +kernel
theorem dX11_years_94 : decode cX11_years 94 = .ok (.aload_n 0, 1) := by decide +kernel
theorem dX11_years_95 : decode cX11_years 95 = .ok (.getfield 55, 3) := by decide +kernel
theorem dX11_years_98 : decode cX11_years 98 = .ok (.invokevirtual 205, 3) := by decide +kernel
theorem dX11_years_101 : decode cX11_years 101 = .ok (.iinc 6 1, 3) := by decide +kernel
theorem dX11_years_104 : decode cX11_years 104 = .ok (.goto (-36), 3) := by decide +kernel
theorem dX11_years_107 : decode cX11_years 107 = .ok (.iload_n 3, 1) := by decide +kernel
theorem dX11_years_108 : decode cX11_years 108 = .ok (.ifCond .ne 6, 3) := by decide +kernel
theorem dX11_years_111 : decode cX11_years 111 = .ok (.iload 5, 2) := by decide +kernel
theorem dX11_years_113 : decode cX11_years 113 = .ok (.ireturn, 1) := by decide +kernel
theorem dX11_years_114 : decode cX11_years 114 = .ok (.iload_n 3, 1) := by decide +kernel
theorem dX11_years_115 : decode cX11_years 115 = .ok (.iconst 1, 1) := by decide +kernel
theorem dX11_years_116 : decode cX11_years 116 = .ok (.if_icmp .ne 16, 3) := by decide +kernel
theorem dX11_years_119 : decode cX11_years 119 = .ok (.aload_n 0, 1) := by decide +kernel
theorem dX11_years_120 : decode cX11_years 120 = .ok (.getfield 55, 3) := by decide +kernel
theorem dX11_years_123 : decode cX11_years 123 = .ok (.invokevirtual 192, 3) := by decide +kernel
theorem dX11_years_126 : decode cX11_years 126 = .ok (.invokestatic 251, 3) := by decide +kernel
theorem dX11_years_129 : decode cX11_years 129 = .ok (.goto 10, 3) := by decide +kernel
theorem dX11_years_132 : decode cX11_years 132 = .ok (.aload_n 0, 1) := by decide +kernel
theorem dX11_years_133 : decode cX11_years 133 = .ok (.getfield 55, 3) := by decide +kernel
theorem dX11_years_136 : decode cX11_years 136 = .ok (.invokevirtual 199, 3) := by decide +kernel
theorem dX11_years_139 : decode cX11_years 139 = .ok (.ireturn, 1) := by decide +kernel
def f_X11_years_94 (w : Nat) (k68 : Nat → Int32 → Int32 → Int32 → Int32 → mM → Option (Int32 × mM)) (o0 : Nat) (x2 : Int32) (x3 : Int32) (x5 : Int32) (x6 : Int32) (M : mM) : Option (Int32 × mM) := bV (f_X9_passDay w (rF o0 7) M) fun M1 => (k68 o0 x2 x3 x5 (x6 + 1) M1)
set_option maxHeartbeats 4000000 in
set_option maxRecDepth 100000 in
theorem s_X11_years_94 {l : Launch} {G : mG} {sk : List mS} (w : Nat) (k68 : Nat → Int32 → Int32 → Int32 → Int32 → mM → Option (Int32 × mM)) (hk68 : ∀ (o0 : Nat) (h0 : isK o0 21) (x2 : Int32) (x3 : Int32) (x5 : Int32) (x6 : Int32) (M : mM), Go muX11_years (rm 5) 0 0 l G sk (mFin G sk eI) (k68 o0 x2 x3 x5 x6 M) 68 [(0, .ref (gB G + o0)), (2, .int x2), (3, .int x3), (5, .int x5), (6, .int x6)] [] M) (o0 : Nat) (h0 : isK o0 21) (x2 : Int32) (x3 : Int32) (x5 : Int32) (x6 : Int32) (M : mM) : Go muX11_years (rm 5) 0 0 l G sk (mFin G sk eI) (f_X11_years_94 w k68 o0 x2 x3 x5 x6 M) 94 [(0, .ref (gB G + o0)), (2, .int x2), (3, .int x3), (5, .int x5), (6, .int x6)] [] M := by
  unfold f_X11_years_94
  refine go_aload_n 0 95 dX11_years_94 rfl rfl ?_
  refine go_getR flX11_55 h0 98 dX11_years_95 rfl ?_
  refine go_cVV0 3 clX9 cwX11_205 (m_X9_passDay w (rF o0 7) (rk11_7 h0) M) (rk11_7 h0) 101 dX11_years_98 rfl ⟨Nat.le_of_ble_eq_true rfl, Nat.le_of_ble_eq_true rfl⟩ ⟨Nat.zero_le _, Nat.zero_le _⟩ (Nat.le_of_ble_eq_true rfl) (fun M1 _ => ?_)
  refine go_iinc (x6 + 1) 4 [(6, .int (x6 + 1)), (0, .ref (gB G + o0)), (2, .int x2), (3, .int x3), (5, .int x5)] 104 dX11_years_101 rfl rfl rfl (by decide) rfl ?_
  refine go_goto 68 dX11_years_104 (by decide) ?_
  exact go_lv [1, 2, 3, 4, 0] rfl (hk68 o0 h0 x2 x3 x5 (x6 + 1) M1)
def f_X11_years_107 (w : Nat) (o0 : Nat) (x3 : Int32) (x5 : Int32) (M : mM) : Option (Int32 × mM) := (if x3 = 0 then some (x5, M) else (if x3 = 1 then bI (f_X9_stuckDoors w (rF o0 7) M) fun q4 M3 => bI (f_J6_bitCount_0f7a4 w q4 M3) fun q6 M5 => some (q6, M5) else bI (f_X9_swollenTogether w (rF o0 7) M) fun q2 M1 => some (q2, M1)))
set_option maxHeartbeats 4000000 in
set_option maxRecDepth 100000 in
theorem s_X11_years_107 {l : Launch} {G : mG} {sk : List mS} (w : Nat) (o0 : Nat) (h0 : isK o0 21) (x3 : Int32) (x5 : Int32) (M : mM) : Go muX11_years (rm 5) 0 0 l G sk (mFin G sk eI) (f_X11_years_107 w o0 x3 x5 M) 107 [(0, .ref (gB G + o0)), (3, .int x3), (5, .int x5)] [] M := by
  unfold f_X11_years_107
  refine go_iload_n 1 108 dX11_years_107 rfl rfl ?_
  refine go_if_ne 114 111 dX11_years_108 rfl (by decide) (fun _ => ?_) (fun _ => ?_)
  · refine go_iload_n 1 115 dX11_years_114 rfl rfl ?_
    refine go_iconst 1 116 dX11_years_115 rfl (by decide) ?_
    refine go_icmp_ne 132 119 dX11_years_116 rfl (by decide) (fun _ => ?_) (fun _ => ?_)
    · refine go_aload_n 0 133 dX11_years_132 rfl rfl ?_
      refine go_getR flX11_55 h0 136 dX11_years_133 rfl ?_
      refine go_cVI0 0 clX9 cwX11_199 (m_X9_swollenTogether w (rF o0 7) (rk11_7 h0) M) (rk11_7 h0) 139 dX11_years_136 rfl ⟨Nat.le_of_ble_eq_true rfl, Nat.le_of_ble_eq_true rfl⟩ ⟨Nat.zero_le _, Nat.zero_le _⟩ (Nat.le_of_ble_eq_true rfl) (fun q2 M1 _ => ?_)
      exact go_iret rfl dX11_years_139
    · refine go_aload_n 0 120 dX11_years_119 rfl rfl ?_
      refine go_getR flX11_55 h0 123 dX11_years_120 rfl ?_
      refine go_cVI0 2 clX9 cwX11_192 (m_X9_stuckDoors w (rF o0 7) (rk11_7 h0) M) (rk11_7 h0) 126 dX11_years_123 rfl ⟨Nat.le_of_ble_eq_true rfl, Nat.le_of_ble_eq_true rfl⟩ ⟨Nat.zero_le _, Nat.zero_le _⟩ (Nat.le_of_ble_eq_true rfl) (fun q4 M3 _ => ?_)
      refine go_cSI1 0 cwX11_251 (m_J6_bitCount_0f7a4 w q4 M3) 129 dX11_years_126 rfl ⟨Nat.le_of_ble_eq_true rfl, Nat.le_of_ble_eq_true rfl⟩ ⟨Nat.zero_le _, Nat.zero_le _⟩ (Nat.le_of_ble_eq_true rfl) (fun q6 M5 _ => ?_)
      refine go_goto 139 dX11_years_129 (by decide) ?_
      exact go_iret rfl dX11_years_139
  · refine go_iload 2 113 dX11_years_111 rfl rfl ?_
    exact go_iret rfl dX11_years_113
def f_X11_years_68 (w : Nat) : Nat → Nat → Int32 → Int32 → Int32 → Int32 → mM → Option (Int32 × mM)
  | 0, _, _, _, _, _, _ => none
  | n + 1, o0, x2, x3, x5, x6, M => (if x2 ≤ x6 then (f_X11_years_107 w o0 x3 x5 M) else (if (M.1 (rF o0 0) 1) ≤ 0 then (f_X11_years_94 w (f_X11_years_68 w n) o0 x2 x3 x5 x6 M) else bI (f_X11_makeDrawnDeed w o0 M) fun q2 M1 => (if q2 = 0 then (f_X11_years_94 w (f_X11_years_68 w n) o0 x2 x3 x5 x6 M1) else (f_X11_years_94 w (f_X11_years_68 w n) o0 x2 x3 (x5 + 1) x6 M1))))
set_option maxHeartbeats 4000000 in
set_option maxRecDepth 100000 in
theorem s_X11_years_68 {l : Launch} {G : mG} {sk : List mS} (w : Nat) : ∀ (n : Nat) (o0 : Nat) (h0 : isK o0 21) (x2 : Int32) (x3 : Int32) (x5 : Int32) (x6 : Int32) (M : mM), Go muX11_years (rm 5) 0 0 l G sk (mFin G sk eI) (f_X11_years_68 w n o0 x2 x3 x5 x6 M) 68 [(0, .ref (gB G + o0)), (2, .int x2), (3, .int x3), (5, .int x5), (6, .int x6)] [] M := by
  intro n
  induction n with
  | zero =>
    intros
    exact go_none
  | succ n ih =>
    intro o0 h0 x2 x3 x5 x6 M
    rw [f_X11_years_68]
    refine go_iload 4 70 dX11_years_68 rfl rfl ?_
    refine go_iload_n 1 71 dX11_years_70 rfl rfl ?_
    refine go_icmp_ge 107 74 dX11_years_71 rfl (by decide) (fun _ => ?_) (fun _ => ?_)
    · exact go_lv [0, 2, 3] rfl (s_X11_years_107 w o0 h0 x3 x5 M)
    · refine go_aload_n 0 75 dX11_years_74 rfl rfl ?_
      refine go_getR flX11_10 h0 78 dX11_years_75 rfl ?_
      refine go_getI flX11_179 (by decide) (rk11_0 h0) 81 dX11_years_78 rfl ?_
      refine go_if_le 94 84 dX11_years_81 rfl (by decide) (fun _ => ?_) (fun _ => ?_)
      · exact go_lv [0, 1, 2, 3, 4] rfl (s_X11_years_94 w (f_X11_years_68 w n) (fun o0 h0 x2 x3 x5 x6 M => ih o0 h0 x2 x3 x5 x6 M) o0 h0 x2 x3 x5 x6 M)
      · refine go_aload_n 0 85 dX11_years_84 rfl rfl ?_
        refine go_cVI0 4 clX11 cwX11_364 (m_X11_makeDrawnDeed w o0 h0 M) h0 88 dX11_years_85 rfl ⟨Nat.le_of_ble_eq_true rfl, Nat.le_of_ble_eq_true rfl⟩ ⟨Nat.zero_le _, Nat.zero_le _⟩ (Nat.le_of_ble_eq_true rfl) (fun q2 M1 _ => ?_)
        refine go_if_eq 94 91 dX11_years_88 rfl (by decide) (fun _ => ?_) (fun _ => ?_)
        · exact go_lv [0, 1, 2, 3, 4] rfl (s_X11_years_94 w (f_X11_years_68 w n) (fun o0 h0 x2 x3 x5 x6 M => ih o0 h0 x2 x3 x5 x6 M) o0 h0 x2 x3 x5 x6 M1)
        · refine go_iinc (x5 + 1) 3 [(5, .int (x5 + 1)), (0, .ref (gB G + o0)), (2, .int x2), (3, .int x3), (6, .int x6)] 94 dX11_years_91 rfl rfl rfl (by decide) rfl ?_
          exact go_lv [1, 2, 3, 0, 4] rfl (s_X11_years_94 w (f_X11_years_68 w n) (fun o0 h0 x2 x3 x5 x6 M => ih o0 h0 x2 x3 x5 x6 M) o0 h0 x2 x3 (x5 + 1) x6 M1)
def f_X11_years_27 (w : Nat) (o0 : Nat) (x1 : Int32) (x2 : Int32) (x3 : Int32) (xs0 : Int32) (M : mM) : Option (Int32 × mM) := (if xs0 = 0 then some ((-1), M) else (if x3 < 0 then some ((-1), M) else (if x3 ≤ 2 then bV (f_X9_copyFrom w (rF o0 7) (rF o0 6) M) fun M1 => lt (wL M1 o0 14 (x1.toInt64)) fun M2 => (f_X11_years_68 w w o0 x2 x3 0 0 M2) else some ((-1), M))))
set_option maxHeartbeats 4000000 in
set_option maxRecDepth 100000 in
theorem s_X11_years_27 {l : Launch} {G : mG} {sk : List mS} (w : Nat) (o0 : Nat) (h0 : isK o0 21) (x1 : Int32) (x2 : Int32) (x3 : Int32) (xs0 : Int32) (M : mM) : Go muX11_years (rm 5) 0 0 l G sk (mFin G sk eI) (f_X11_years_27 w o0 x1 x2 x3 xs0 M) 27 [(0, .ref (gB G + o0)), (1, .int x1), (2, .int x2), (3, .int x3)] [.int xs0] M := by
  unfold f_X11_years_27
  refine go_istore [(4, .int xs0), (0, .ref (gB G + o0)), (1, .int x1), (2, .int x2), (3, .int x3)] 29 dX11_years_27 rfl (by decide) rfl ?_
  refine go_iload 0 31 dX11_years_29 rfl rfl ?_
  refine go_if_eq 43 34 dX11_years_31 rfl (by decide) (fun _ => ?_) (fun _ => ?_)
  · refine go_iconst (-1) 44 dX11_years_43 rfl (by decide) ?_
    exact go_iret rfl dX11_years_44
  · refine go_iload_n 4 35 dX11_years_34 rfl rfl ?_
    refine go_if_lt 43 38 dX11_years_35 rfl (by decide) (fun _ => ?_) (fun _ => ?_)
    · refine go_iconst (-1) 44 dX11_years_43 rfl (by decide) ?_
      exact go_iret rfl dX11_years_44
    · refine go_iload_n 4 39 dX11_years_38 rfl rfl ?_
      refine go_iconst 2 40 dX11_years_39 rfl (by decide) ?_
      refine go_icmp_le 45 43 dX11_years_40 rfl (by decide) (fun _ => ?_) (fun _ => ?_)
      · refine go_aload_n 1 46 dX11_years_45 rfl rfl ?_
        refine go_getR flX11_55 h0 49 dX11_years_46 rfl ?_
        refine go_aload_n 1 50 dX11_years_49 rfl rfl ?_
        refine go_getR flX11_51 h0 53 dX11_years_50 rfl ?_
        refine go_cVV1 1 clX9 cwX11_358 (m_X9_copyFrom w (rF o0 7) (rk11_7 h0) (rF o0 6) (rk11_6 h0) M) (rk11_7 h0) 56 dX11_years_53 rfl ⟨Nat.le_of_ble_eq_true rfl, Nat.le_of_ble_eq_true rfl⟩ ⟨Nat.zero_le _, Nat.zero_le _⟩ (Nat.le_of_ble_eq_true rfl) (fun M1 _ => ?_)
        refine go_aload_n 1 57 dX11_years_56 rfl rfl ?_
        refine go_iload_n 2 58 dX11_years_57 rfl rfl ?_
        refine go_i2l 59 dX11_years_58 rfl ?_
        refine go_putL flX11_360 rfl rfl h0 62 dX11_years_59 rfl ?_
        refine go_nmM (fun M2 => ?_)
        refine go_iconst 0 63 dX11_years_62 rfl (by decide) ?_
        refine go_istore [(5, .int 0), (4, .int xs0), (0, .ref (gB G + o0)), (1, .int x1), (2, .int x2), (3, .int x3)] 65 dX11_years_63 rfl (by decide) rfl ?_
        refine go_iconst 0 66 dX11_years_65 rfl (by decide) ?_
        refine go_istore [(6, .int 0), (5, .int 0), (4, .int xs0), (0, .ref (gB G + o0)), (1, .int x1), (2, .int x2), (3, .int x3)] 68 dX11_years_66 rfl (by decide) rfl ?_
        exact go_lv [3, 5, 6, 1, 0] rfl (s_X11_years_68 w w o0 h0 x2 x3 0 0 M2)
      · refine go_iconst (-1) 44 dX11_years_43 rfl (by decide) ?_
        exact go_iret rfl dX11_years_44
def f_X11_years_26 (w : Nat) (o0 : Nat) (x1 : Int32) (x2 : Int32) (x3 : Int32) (M : mM) : Option (Int32 × mM) := (f_X11_years_27 w o0 x1 x2 x3 0 M)
set_option maxHeartbeats 4000000 in
set_option maxRecDepth 100000 in
theorem s_X11_years_26 {l : Launch} {G : mG} {sk : List mS} (w : Nat) (o0 : Nat) (h0 : isK o0 21) (x1 : Int32) (x2 : Int32) (x3 : Int32) (M : mM) : Go muX11_years (rm 5) 0 0 l G sk (mFin G sk eI) (f_X11_years_26 w o0 x1 x2 x3 M) 26 [(0, .ref (gB G + o0)), (1, .int x1), (2, .int x2), (3, .int x3)] [] M := by
  unfold f_X11_years_26
  refine go_iconst 0 27 dX11_years_26 rfl (by decide) ?_
  exact go_lv [0, 1, 2, 3] rfl (s_X11_years_27 w o0 h0 x1 x2 x3 0 M)
def f_X11_years (w : Nat) (o0 : Nat) (x1 : Int32) (x2 : Int32) (x3 : Int32) (M : mM) : Option (Int32 × mM) := (if x1 < 0 then (f_X11_years_26 w o0 x1 x2 x3 M) else (if 9999 < x1 then (f_X11_years_26 w o0 x1 x2 x3 M) else (if x2 < 1 then (f_X11_years_26 w o0 x1 x2 x3 M) else (if 99 < x2 then (f_X11_years_26 w o0 x1 x2 x3 M) else (f_X11_years_27 w o0 x1 x2 x3 1 M)))))
set_option maxHeartbeats 4000000 in
set_option maxRecDepth 100000 in
theorem s_X11_years {l : Launch} {G : mG} {sk : List mS} (w : Nat) (o0 : Nat) (h0 : isK o0 21) (x1 : Int32) (x2 : Int32) (x3 : Int32) (M : mM) : Go muX11_years (rm 5) 0 0 l G sk (mFin G sk eI) (f_X11_years w o0 x1 x2 x3 M) 0 [(0, .ref (gB G + o0)), (1, .int x1), (2, .int x2), (3, .int x3)] [] M := by
  unfold f_X11_years
  refine go_iload_n 1 1 dX11_years_0 rfl rfl ?_
  refine go_if_lt 26 4 dX11_years_1 rfl (by decide) (fun _ => ?_) (fun _ => ?_)
  · exact go_lv [0, 1, 2, 3] rfl (s_X11_years_26 w o0 h0 x1 x2 x3 M)
  · refine go_iload_n 1 5 dX11_years_4 rfl rfl ?_
    refine go_sipush 9999 8 dX11_years_5 rfl (by decide) ?_
    refine go_icmp_gt 26 11 dX11_years_8 rfl (by decide) (fun _ => ?_) (fun _ => ?_)
    · exact go_lv [0, 1, 2, 3] rfl (s_X11_years_26 w o0 h0 x1 x2 x3 M)
    · refine go_iload_n 2 12 dX11_years_11 rfl rfl ?_
      refine go_iconst 1 13 dX11_years_12 rfl (by decide) ?_
      refine go_icmp_lt 26 16 dX11_years_13 rfl (by decide) (fun _ => ?_) (fun _ => ?_)
      · exact go_lv [0, 1, 2, 3] rfl (s_X11_years_26 w o0 h0 x1 x2 x3 M)
      · refine go_iload_n 2 17 dX11_years_16 rfl rfl ?_
        refine go_bipush 99 19 dX11_years_17 rfl (by decide) ?_
        refine go_icmp_gt 26 22 dX11_years_19 rfl (by decide) (fun _ => ?_) (fun _ => ?_)
        · exact go_lv [0, 1, 2, 3] rfl (s_X11_years_26 w o0 h0 x1 x2 x3 M)
        · refine go_iconst 1 23 dX11_years_22 rfl (by decide) ?_
          refine go_goto 27 dX11_years_23 (by decide) ?_
          exact go_lv [0, 1, 2, 3] rfl (s_X11_years_27 w o0 h0 x1 x2 x3 1 M)
theorem m_X11_years {l : Launch} {G : mG} {sk : List mS} (w : Nat) (o0 : Nat) (h0 : isK o0 21) (x1 : Int32) (x2 : Int32) (x3 : Int32) (M : mM) : Mt l G sk yX11_years muX11_years 5 [.ref (gB G + o0), .int x1, .int x2, .int x3] M eI (f_X11_years w o0 x1 x2 x3 M) := Mt.of (by decide) rfl (Nat.le_of_ble_eq_true rfl) (s_X11_years w o0 h0 x1 x2 x3 M)
