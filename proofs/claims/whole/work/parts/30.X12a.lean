theorem dX12_thrown_0 : decode cX12_thrown 0 = .ok (.aload_n 0, 1) := by decide +kernel
theorem dX12_thrown_1 : decode cX12_thrown 1 = .ok (.getfield 1, 3) := by decide +kernel
theorem dX12_thrown_4 : decode cX12_thrown 4 = .ok (.ireturn, 1) := by decide +kernel
def f_X12_thrown (w : Nat) (o0 : Nat) (M : mM) : Option (Int32 × mM) := some ((M.1 o0 0), M)
set_option maxHeartbeats 4000000 in
set_option maxRecDepth 100000 in
theorem s_X12_thrown {l : Launch} {G : mG} {sk : List mS} (w : Nat) (o0 : Nat) (h0 : isK o0 22) (M : mM) : Go muX12_thrown (rm 0) 0 0 l G sk (mFin G sk eI) (f_X12_thrown w o0 M) 0 [(0, .ref (gB G + o0))] [] M := by
  unfold f_X12_thrown
  refine go_aload_n 0 1 dX12_thrown_0 rfl rfl ?_
  refine go_getI flX12_1 (by decide) h0 4 dX12_thrown_1 rfl ?_
  exact go_iret rfl dX12_thrown_4
theorem m_X12_thrown {l : Launch} {G : mG} {sk : List mS} (w : Nat) (o0 : Nat) (h0 : isK o0 22) (M : mM) : Mt l G sk yX12_thrown muX12_thrown 0 [.ref (gB G + o0)] M eI (f_X12_thrown w o0 M) := Mt.of (by decide) rfl (Nat.le_of_ble_eq_true rfl) (s_X12_thrown w o0 h0 M)
theorem dX12_lay_0 : decode cX12_lay 0 = .ok (.bipush 56, 2) := by decide +kernel
theorem dX12_lay_2 : decode cX12_lay 2 = .ok (.istore_n 3, 1) := by decide +kernel
theorem dX12_lay_3 : decode cX12_lay 3 = .ok (.iload_n 3, 1) := by decide +kernel
theorem dX12_lay_4 : decode cX12_lay 4 = .ok (.ifCond .lt 71, 3) := by decide +kernel
theorem dX12_lay_7 : decode cX12_lay 7 = .ok (.lload_n 1, 1) := by decide +kernel
theorem dX12_lay_8 : decode cX12_lay 8 = .ok (.iload_n 3, 1) := by decide +kernel
theorem dX12_lay_9 : decode cX12_lay 9 = .ok (.lshr, 1) := by decide +kernel
theorem dX12_lay_10 : decode cX12_lay 10 = .ok (.l2i, 1) := by decide +kernel
theorem dX12_lay_11 : decode cX12_lay 11 = .ok (.sipush 255, 3) := by decide +kernel
theorem dX12_lay_14 : decode cX12_lay 14 = .ok (.iand, 1) := by decide +kernel
theorem dX12_lay_15 : decode cX12_lay 15 = .ok (.istore 4, 2) := by decide +kernel
theorem dX12_lay_17 : decode cX12_lay 17 = .ok (.iload 4, 2) := by decide +kernel
theorem dX12_lay_19 : decode cX12_lay 19 = .ok (.bipush 10, 2) := by decide +kernel
theorem dX12_lay_21 : decode cX12_lay 21 = .ok (.if_icmp .eq 17, 3) := by decide +kernel
theorem dX12_lay_24 : decode cX12_lay 24 = .ok (.iload 4, 2) := by decide +kernel
theorem dX12_lay_26 : decode cX12_lay 26 = .ok (.bipush 32, 2) := by decide +kernel
theorem dX12_lay_28 : decode cX12_lay 28 = .ok (.if_icmp .lt 41, 3) := by decide +kernel
theorem dX12_lay_31 : decode cX12_lay 31 = .ok (.iload 4, 2) := by decide +kernel
theorem dX12_lay_33 : decode cX12_lay 33 = .ok (.bipush 126, 2) := by decide +kernel
theorem dX12_lay_35 : decode cX12_lay 35 = .ok (.if_icmp .gt 34, 3) := by decide +kernel
theorem dX12_lay_38 : decode cX12_lay 38 = .ok (.aload_n 0, 1) := by decide +kernel
theorem dX12_lay_39 : decode cX12_lay 39 = .ok (.getfield 11, 3) := by decide +kernel
theorem dX12_lay_42 : decode cX12_lay 42 = .ok (.sipush 1000, 3) := by decide +kernel
theorem dX12_lay_45 : decode cX12_lay 45 = .ok (.if_icmp .ge 24, 3) := by decide +kernel
theorem dX12_lay_48 : decode cX12_lay 48 = .ok (.aload_n 0, 1) := by decide +kernel
theorem dX12_lay_49 : decode cX12_lay 49 = .ok (.getfield 14, 3) := by decide +kernel
theorem dX12_lay_52 : decode cX12_lay 52 = .ok (.aload_n 0, 1) := by decide +kernel
theorem dX12_lay_53 : decode cX12_lay 53 = .ok (.getfield 11, 3) := by decide +kernel
theorem dX12_lay_56 : decode cX12_lay 56 = .ok (.iload 4, 2) := by decide +kernel
theorem dX12_lay_58 : decode cX12_lay 58 = .ok (.iastore, 1) := by decide +kernel
theorem dX12_lay_59 : decode cX12_lay 59 = .ok (.aload_n 0, 1) := by decide +kernel
theorem dX12_lay_60 : decode cX12_lay 60 = .ok (.dup, 1) := by decide +kernel
theorem dX12_lay_61 : decode cX12_lay 61 = .ok (.getfield 11, 3) := by decide +kernel
theorem dX12_lay_64 : decode cX12_lay 64 = .ok (.iconst 1, 1) := by decide +kernel
theorem dX12_lay_65 : decode cX12_lay 65 = .ok (.iadd, 1) := by decide +kernel
theorem dX12_lay_66 : decode cX12_lay 66 = .ok (.putfield 11, 3) := by decide +kernel
theorem dX12_lay_69 : decode cX12_lay 69 = .ok (.iinc 3 (-8), 3) := by decide +kernel
theorem dX12_lay_72 : decode cX12_lay 72 = .ok (.goto (-69), 3) := by decide +kernel
theorem dX12_lay_75 : decode cX12_lay 75 = .ok (.return_, 1) := by decide +kernel
def f_X12_lay_38 (w : Nat) (k3 : Nat → Int64 → Int32 → mM → Option mM) (o0 : Nat) (x1 : Int64) (x3 : Int32) (x4 : Int32) (M : mM) : Option mM := (if 1000 ≤ (M.1 o0 2) then (k3 o0 x1 (x3 + (-8)) M) else chk (M.1 o0 2) (sL (rF o0 1)) (lt (wI M (rF o0 1) (M.1 o0 2).toNatClampNeg x4) fun M1 => lt (wI M1 o0 2 ((M1.1 o0 2) + 1)) fun M2 => (k3 o0 x1 (x3 + (-8)) M2)))
set_option maxHeartbeats 4000000 in
set_option maxRecDepth 100000 in
theorem s_X12_lay_38 {l : Launch} {G : mG} {sk : List mS} (w : Nat) (k3 : Nat → Int64 → Int32 → mM → Option mM) (hk3 : ∀ (o0 : Nat) (h0 : isK o0 22) (x1 : Int64) (x3 : Int32) (M : mM), Go muX12_lay (rm 0) 0 0 l G sk (mFin G sk eV) (k3 o0 x1 x3 M) 3 [(0, .ref (gB G + o0)), (1, .long x1), (3, .int x3)] [] M) (o0 : Nat) (h0 : isK o0 22) (x1 : Int64) (x3 : Int32) (x4 : Int32) (M : mM) : Go muX12_lay (rm 0) 0 0 l G sk (mFin G sk eV) (f_X12_lay_38 w k3 o0 x1 x3 x4 M) 38 [(0, .ref (gB G + o0)), (1, .long x1), (3, .int x3), (4, .int x4)] [] M := by
  unfold f_X12_lay_38
  refine go_aload_n 0 39 dX12_lay_38 rfl rfl ?_
  refine go_getI flX12_11 (by decide) h0 42 dX12_lay_39 rfl ?_
  refine go_sipush 1000 45 dX12_lay_42 rfl (by decide) ?_
  refine go_icmp_ge 69 48 dX12_lay_45 rfl (by decide) (fun _ => ?_) (fun _ => ?_)
  · refine go_iinc (x3 + (-8)) 2 [(3, .int (x3 + (-8))), (0, .ref (gB G + o0)), (1, .long x1), (4, .int x4)] 72 dX12_lay_69 rfl rfl rfl (by decide) rfl ?_
    refine go_goto 3 dX12_lay_72 (by decide) ?_
    exact go_lv [1, 2, 0] rfl (hk3 o0 h0 x1 (x3 + (-8)) M)
  · refine go_aload_n 0 49 dX12_lay_48 rfl rfl ?_
    refine go_getR flX12_14 h0 52 dX12_lay_49 rfl ?_
    refine go_aload_n 0 53 dX12_lay_52 rfl rfl ?_
    refine go_getI flX12_11 (by decide) h0 56 dX12_lay_53 rfl ?_
    refine go_iload 3 58 dX12_lay_56 rfl rfl ?_
    refine go_iast (rk12_1 h0) 59 dX12_lay_58 rfl ?_
    refine go_nmM (fun M1 => ?_)
    refine go_aload_n 0 60 dX12_lay_59 rfl rfl ?_
    refine go_dup 61 dX12_lay_60 rfl rfl ?_
    refine go_getI flX12_11 (by decide) h0 64 dX12_lay_61 rfl ?_
    refine go_iconst 1 65 dX12_lay_64 rfl (by decide) ?_
    refine go_iadd 66 dX12_lay_65 rfl ?_
    refine go_putI flX12_11 rfl rfl h0 69 dX12_lay_66 rfl ?_
    refine go_nmM (fun M2 => ?_)
    refine go_iinc (x3 + (-8)) 2 [(3, .int (x3 + (-8))), (0, .ref (gB G + o0)), (1, .long x1), (4, .int x4)] 72 dX12_lay_69 rfl rfl rfl (by decide) rfl ?_
    refine go_goto 3 dX12_lay_72 (by decide) ?_
    exact go_lv [1, 2, 0] rfl (hk3 o0 h0 x1 (x3 + (-8)) M2)
def f_X12_lay_3 (w : Nat) : Nat → Nat → Int64 → Int32 → mM → Option mM
  | 0, _, _, _, _ => none
  | n + 1, o0, x1, x3, M => (if x3 < 0 then some M else lt (((x1 >>> (x3.toInt64 &&& 63)).toInt32) &&& 255) fun y1 => (if y1 = 10 then (f_X12_lay_38 w (f_X12_lay_3 w n) o0 x1 x3 y1 M) else (if y1 < 32 then (f_X12_lay_3 w n o0 x1 (x3 + (-8)) M) else (if 126 < y1 then (f_X12_lay_3 w n o0 x1 (x3 + (-8)) M) else (f_X12_lay_38 w (f_X12_lay_3 w n) o0 x1 x3 y1 M)))))
set_option maxHeartbeats 4000000 in
set_option maxRecDepth 100000 in
theorem s_X12_lay_3 {l : Launch} {G : mG} {sk : List mS} (w : Nat) : ∀ (n : Nat) (o0 : Nat) (h0 : isK o0 22) (x1 : Int64) (x3 : Int32) (M : mM), Go muX12_lay (rm 0) 0 0 l G sk (mFin G sk eV) (f_X12_lay_3 w n o0 x1 x3 M) 3 [(0, .ref (gB G + o0)), (1, .long x1), (3, .int x3)] [] M := by
  intro n
  induction n with
  | zero =>
    intros
    exact go_none
  | succ n ih =>
    intro o0 h0 x1 x3 M
    rw [f_X12_lay_3]
    refine go_iload_n 2 4 dX12_lay_3 rfl rfl ?_
    refine go_if_lt 75 7 dX12_lay_4 rfl (by decide) (fun _ => ?_) (fun _ => ?_)
    · exact go_vret rfl dX12_lay_75
    · refine go_lload_n 1 8 dX12_lay_7 rfl rfl ?_
      refine go_iload_n 2 9 dX12_lay_8 rfl rfl ?_
      refine go_lshr 10 dX12_lay_9 rfl ?_
      refine go_l2i 11 dX12_lay_10 rfl ?_
      refine go_sipush 255 14 dX12_lay_11 rfl (by decide) ?_
      refine go_iand 15 dX12_lay_14 rfl ?_
      refine go_nmI (fun y1 => ?_)
      refine go_istore [(4, .int y1), (0, .ref (gB G + o0)), (1, .long x1), (3, .int x3)] 17 dX12_lay_15 rfl (by decide) rfl ?_
      refine go_iload 0 19 dX12_lay_17 rfl rfl ?_
      refine go_bipush 10 21 dX12_lay_19 rfl (by decide) ?_
      refine go_icmp_eq 38 24 dX12_lay_21 rfl (by decide) (fun _ => ?_) (fun _ => ?_)
      · exact go_lv [1, 2, 3, 0] rfl (s_X12_lay_38 w (f_X12_lay_3 w n) (fun o0 h0 x1 x3 M => ih o0 h0 x1 x3 M) o0 h0 x1 x3 y1 M)
      · refine go_iload 0 26 dX12_lay_24 rfl rfl ?_
        refine go_bipush 32 28 dX12_lay_26 rfl (by decide) ?_
        refine go_icmp_lt 69 31 dX12_lay_28 rfl (by decide) (fun _ => ?_) (fun _ => ?_)
        · refine go_iinc (x3 + (-8)) 3 [(3, .int (x3 + (-8))), (4, .int y1), (0, .ref (gB G + o0)), (1, .long x1)] 72 dX12_lay_69 rfl rfl rfl (by decide) rfl ?_
          refine go_goto 3 dX12_lay_72 (by decide) ?_
          exact go_lv [2, 3, 0] rfl (ih o0 h0 x1 (x3 + (-8)) M)
        · refine go_iload 0 33 dX12_lay_31 rfl rfl ?_
          refine go_bipush 126 35 dX12_lay_33 rfl (by decide) ?_
          refine go_icmp_gt 69 38 dX12_lay_35 rfl (by decide) (fun _ => ?_) (fun _ => ?_)
          · refine go_iinc (x3 + (-8)) 3 [(3, .int (x3 + (-8))), (4, .int y1), (0, .ref (gB G + o0)), (1, .long x1)] 72 dX12_lay_69 rfl rfl rfl (by decide) rfl ?_
            refine go_goto 3 dX12_lay_72 (by decide) ?_
            exact go_lv [2, 3, 0] rfl (ih o0 h0 x1 (x3 + (-8)) M)
          · exact go_lv [1, 2, 3, 0] rfl (s_X12_lay_38 w (f_X12_lay_3 w n) (fun o0 h0 x1 x3 M => ih o0 h0 x1 x3 M) o0 h0 x1 x3 y1 M)
def f_X12_lay (w : Nat) (o0 : Nat) (x1 : Int64) (M : mM) : Option mM := (f_X12_lay_3 w w o0 x1 56 M)
set_option maxHeartbeats 4000000 in
set_option maxRecDepth 100000 in
theorem s_X12_lay {l : Launch} {G : mG} {sk : List mS} (w : Nat) (o0 : Nat) (h0 : isK o0 22) (x1 : Int64) (M : mM) : Go muX12_lay (rm 0) 0 0 l G sk (mFin G sk eV) (f_X12_lay w o0 x1 M) 0 [(0, .ref (gB G + o0)), (1, .long x1)] [] M := by
  unfold f_X12_lay
  refine go_bipush 56 2 dX12_lay_0 rfl (by decide) ?_
  refine go_istore_n [(3, .int 56), (0, .ref (gB G + o0)), (1, .long x1)] 3 dX12_lay_2 rfl rfl (by decide) rfl ?_
  exact go_lv [1, 2, 0] rfl (s_X12_lay_3 w w o0 h0 x1 56 M)
theorem m_X12_lay {l : Launch} {G : mG} {sk : List mS} (w : Nat) (o0 : Nat) (h0 : isK o0 22) (x1 : Int64) (M : mM) : Mt l G sk yX12_lay muX12_lay 0 [.ref (gB G + o0), .long x1] M eV (f_X12_lay w o0 x1 M) := Mt.of (by decide) rfl (Nat.le_of_ble_eq_true rfl) (s_X12_lay w o0 h0 x1 M)
theorem dX12_feed_0 : decode cX12_feed 0 = .ok (.aload_n 0, 1) := by decide +kernel
theorem dX12_feed_1 : decode cX12_feed 1 = .ok (.iconst 0, 1) := by decide +kernel
theorem dX12_feed_2 : decode cX12_feed 2 = .ok (.putfield 1, 3) := by decide +kernel
theorem dX12_feed_5 : decode cX12_feed 5 = .ok (.aload_n 0, 1) := by decide +kernel
theorem dX12_feed_6 : decode cX12_feed 6 = .ok (.lload_n 1, 1) := by decide +kernel
theorem dX12_feed_7 : decode cX12_feed 7 = .ok (.invokevirtual 7, 3) := by decide +kernel
theorem dX12_feed_10 : decode cX12_feed 10 = .ok (.aload_n 0, 1) := by decide +kernel
theorem dX12_feed_11 : decode cX12_feed 11 = .ok (.lload_n 3, 1) := by decide +kernel
theorem dX12_feed_12 : decode cX12_feed 12 = .ok (.invokevirtual 7, 3) := by decide +kernel
theorem dX12_feed_15 : decode cX12_feed 15 = .ok (.aload_n 0, 1) := by decide +kernel
theorem dX12_feed_16 : decode cX12_feed 16 = .ok (.lload 5, 2) := by decide +kernel
theorem dX12_feed_18 : decode cX12_feed 18 = .ok (.invokevirtual 7, 3) := by decide +kernel
theorem dX12_feed_21 : decode cX12_feed 21 = .ok (.aload_n 0, 1) := by decide +kernel
theorem dX12_feed_22 : decode cX12_feed 22 = .ok (.getfield 11, 3) := by decide +kernel
theorem dX12_feed_25 : decode cX12_feed 25 = .ok (.ireturn, 1) := by decide +kernel
def f_X12_feed (w : Nat) (o0 : Nat) (x1 : Int64) (x3 : Int64) (x5 : Int64) (M : mM) : Option (Int32 × mM) := lt (wI M o0 0 0) fun M1 => bV (f_X12_lay w o0 x1 M1) fun M2 => bV (f_X12_lay w o0 x3 M2) fun M3 => bV (f_X12_lay w o0 x5 M3) fun M4 => some ((M4.1 o0 2), M4)
set_option maxHeartbeats 4000000 in
set_option maxRecDepth 100000 in
theorem s_X12_feed {l : Launch} {G : mG} {sk : List mS} (w : Nat) (o0 : Nat) (h0 : isK o0 22) (x1 : Int64) (x3 : Int64) (x5 : Int64) (M : mM) : Go muX12_feed (rm 1) 0 0 l G sk (mFin G sk eI) (f_X12_feed w o0 x1 x3 x5 M) 0 [(0, .ref (gB G + o0)), (1, .long x1), (3, .long x3), (5, .long x5)] [] M := by
  unfold f_X12_feed
  refine go_aload_n 0 1 dX12_feed_0 rfl rfl ?_
  refine go_iconst 0 2 dX12_feed_1 rfl (by decide) ?_
  refine go_putI flX12_1 rfl rfl h0 5 dX12_feed_2 rfl ?_
  refine go_nmM (fun M1 => ?_)
  refine go_aload_n 0 6 dX12_feed_5 rfl rfl ?_
  refine go_lload_n 1 7 dX12_feed_6 rfl rfl ?_
  refine go_cVV1 0 clX12 cwX12_7 (m_X12_lay w o0 h0 x1 M1) h0 10 dX12_feed_7 rfl ⟨Nat.le_of_ble_eq_true rfl, Nat.le_of_ble_eq_true rfl⟩ ⟨Nat.zero_le _, Nat.zero_le _⟩ (Nat.le_of_ble_eq_true rfl) (fun M2 _ => ?_)
  refine go_aload_n 0 11 dX12_feed_10 rfl rfl ?_
  refine go_lload_n 2 12 dX12_feed_11 rfl rfl ?_
  refine go_cVV1 0 clX12 cwX12_7 (m_X12_lay w o0 h0 x3 M2) h0 15 dX12_feed_12 rfl ⟨Nat.le_of_ble_eq_true rfl, Nat.le_of_ble_eq_true rfl⟩ ⟨Nat.zero_le _, Nat.zero_le _⟩ (Nat.le_of_ble_eq_true rfl) (fun M3 _ => ?_)
  refine go_aload_n 0 16 dX12_feed_15 rfl rfl ?_
  refine go_lload 3 18 dX12_feed_16 rfl rfl ?_
  refine go_cVV1 0 clX12 cwX12_7 (m_X12_lay w o0 h0 x5 M3) h0 21 dX12_feed_18 rfl ⟨Nat.le_of_ble_eq_true rfl, Nat.le_of_ble_eq_true rfl⟩ ⟨Nat.zero_le _, Nat.zero_le _⟩ (Nat.le_of_ble_eq_true rfl) (fun M4 _ => ?_)
  refine go_aload_n 0 22 dX12_feed_21 rfl rfl ?_
  refine go_getI flX12_11 (by decide) h0 25 dX12_feed_22 rfl ?_
  exact go_iret rfl dX12_feed_25
theorem m_X12_feed {l : Launch} {G : mG} {sk : List mS} (w : Nat) (o0 : Nat) (h0 : isK o0 22) (x1 : Int64) (x3 : Int64) (x5 : Int64) (M : mM) : Mt l G sk yX12_feed muX12_feed 1 [.ref (gB G + o0), .long x1, .long x3, .long x5] M eI (f_X12_feed w o0 x1 x3 x5 M) := Mt.of (by decide) rfl (Nat.le_of_ble_eq_true rfl) (s_X12_feed w o0 h0 x1 x3 x5 M)
theorem dX12_isLetter_0 : decode cX12_isLetter 0 = .ok (.iload_n 0, 1) := by decide +kernel
theorem dX12_isLetter_1 : decode cX12_isLetter 1 = .ok (.bipush 97, 2) := by decide +kernel
theorem dX12_isLetter_3 : decode cX12_isLetter 3 = .ok (.if_icmp .lt 13, 3) := by decide +kernel
theorem dX12_isLetter_6 : decode cX12_isLetter 6 = .ok (.iload_n 0, 1) := by decide +kernel
theorem dX12_isLetter_7 : decode cX12_isLetter 7 = .ok (.bipush 122, 2) := by decide +kernel
theorem dX12_isLetter_9 : decode cX12_isLetter 9 = .ok (.if_icmp .gt 7, 3) := by decide +kernel
theorem dX12_isLetter_12 : decode cX12_isLetter 12 = .ok (.iconst 1, 1) := by decide +kernel
theorem dX12_isLetter_13 : decode cX12_isLetter 13 = .ok (.goto 4, 3) := by decide +kernel
theorem dX12_isLetter_16 : decode cX12_isLetter 16 = .ok (.iconst 0, 1) := by decide +kernel
theorem dX12_isLetter_17 : decode cX12_isLetter 17 = .ok (.ireturn, 1) := by decide +kernel
def f_X12_isLetter (w : Nat) (x0 : Int32) (M : mM) : Option (Int32 × mM) := (if x0 < 97 then rtB 0 M else (if 122 < x0 then rtB 0 M else rtB 1 M))
set_option maxHeartbeats 4000000 in
set_option maxRecDepth 100000 in
theorem s_X12_isLetter {l : Launch} {G : mG} {sk : List mS} (w : Nat) (x0 : Int32) (M : mM) : Go muX12_isLetter (rm 0) 0 0 l G sk (mFin G sk eI) (f_X12_isLetter w x0 M) 0 [(0, .int x0)] [] M := by
  unfold f_X12_isLetter
  refine go_iload_n 0 1 dX12_isLetter_0 rfl rfl ?_
  refine go_bipush 97 3 dX12_isLetter_1 rfl (by decide) ?_
  refine go_icmp_lt 16 6 dX12_isLetter_3 rfl (by decide) (fun _ => ?_) (fun _ => ?_)
  · refine go_iconst 0 17 dX12_isLetter_16 rfl (by decide) ?_
    exact go_zret rfl dX12_isLetter_17
  · refine go_iload_n 0 7 dX12_isLetter_6 rfl rfl ?_
    refine go_bipush 122 9 dX12_isLetter_7 rfl (by decide) ?_
    refine go_icmp_gt 16 12 dX12_isLetter_9 rfl (by decide) (fun _ => ?_) (fun _ => ?_)
    · refine go_iconst 0 17 dX12_isLetter_16 rfl (by decide) ?_
      exact go_zret rfl dX12_isLetter_17
    · refine go_iconst 1 13 dX12_isLetter_12 rfl (by decide) ?_
      refine go_goto 17 dX12_isLetter_13 (by decide) ?_
      exact go_zret rfl dX12_isLetter_17
theorem m_X12_isLetter {l : Launch} {G : mG} {sk : List mS} (w : Nat) (x0 : Int32) (M : mM) : Mt l G sk yX12_isLetter muX12_isLetter 0 [.int x0] M eI (f_X12_isLetter w x0 M) := Mt.of (by decide) rfl (Nat.le_of_ble_eq_true rfl) (s_X12_isLetter w x0 M)
theorem dX12_isDigit_0 : decode cX12_isDigit 0 = .ok (.iload_n 0, 1) := by decide +kernel
theorem dX12_isDigit_1 : decode cX12_isDigit 1 = .ok (.bipush 48, 2) := by decide +kernel
theorem dX12_isDigit_3 : decode cX12_isDigit 3 = .ok (.if_icmp .lt 13, 3) := by decide +kernel
theorem dX12_isDigit_6 : decode cX12_isDigit 6 = .ok (.iload_n 0, 1) := by decide +kernel
theorem dX12_isDigit_7 : decode cX12_isDigit 7 = .ok (.bipush 57, 2) := by decide +kernel
theorem dX12_isDigit_9 : decode cX12_isDigit 9 = .ok (.if_icmp .gt 7, 3) := by decide +kernel
theorem dX12_isDigit_12 : decode cX12_isDigit 12 = .ok (.iconst 1, 1) := by decide +kernel
theorem dX12_isDigit_13 : decode cX12_isDigit 13 = .ok (.goto 4, 3) := by decide +kernel
theorem dX12_isDigit_16 : decode cX12_isDigit 16 = .ok (.iconst 0, 1) := by decide +kernel
theorem dX12_isDigit_17 : decode cX12_isDigit 17 = .ok (.ireturn, 1) := by decide +kernel
def f_X12_isDigit (w : Nat) (x0 : Int32) (M : mM) : Option (Int32 × mM) := (if x0 < 48 then rtB 0 M else (if 57 < x0 then rtB 0 M else rtB 1 M))
set_option maxHeartbeats 4000000 in
set_option maxRecDepth 100000 in
theorem s_X12_isDigit {l : Launch} {G : mG} {sk : List mS} (w : Nat) (x0 : Int32) (M : mM) : Go muX12_isDigit (rm 0) 0 0 l G sk (mFin G sk eI) (f_X12_isDigit w x0 M) 0 [(0, .int x0)] [] M := by
  unfold f_X12_isDigit
  refine go_iload_n 0 1 dX12_isDigit_0 rfl rfl ?_
  refine go_bipush 48 3 dX12_isDigit_1 rfl (by decide) ?_
  refine go_icmp_lt 16 6 dX12_isDigit_3 rfl (by decide) (fun _ => ?_) (fun _ => ?_)
  · refine go_iconst 0 17 dX12_isDigit_16 rfl (by decide) ?_
    exact go_zret rfl dX12_isDigit_17
  · refine go_iload_n 0 7 dX12_isDigit_6 rfl rfl ?_
    refine go_bipush 57 9 dX12_isDigit_7 rfl (by decide) ?_
    refine go_icmp_gt 16 12 dX12_isDigit_9 rfl (by decide) (fun _ => ?_) (fun _ => ?_)
    · refine go_iconst 0 17 dX12_isDigit_16 rfl (by decide) ?_
      exact go_zret rfl dX12_isDigit_17
    · refine go_iconst 1 13 dX12_isDigit_12 rfl (by decide) ?_
      refine go_goto 17 dX12_isDigit_13 (by decide) ?_
      exact go_zret rfl dX12_isDigit_17
theorem m_X12_isDigit {l : Launch} {G : mG} {sk : List mS} (w : Nat) (x0 : Int32) (M : mM) : Mt l G sk yX12_isDigit muX12_isDigit 0 [.int x0] M eI (f_X12_isDigit w x0 M) := Mt.of (by decide) rfl (Nat.le_of_ble_eq_true rfl) (s_X12_isDigit w x0 M)
theorem dX12_rank_0 : decode cX12_rank 0 = .ok (.iload_n 0, 1) := by decide +kernel
theorem dX12_rank_1 : decode cX12_rank 1 = .ok (.invokestatic 139, 3) := by decide +kernel
theorem dX12_rank_4 : decode cX12_rank 4 = .ok (.ifCond .eq 10, 3) := by decide +kernel
theorem dX12_rank_7 : decode cX12_rank 7 = .ok (.iload_n 0, 1) := by decide +kernel
theorem dX12_rank_8 : decode cX12_rank 8 = .ok (.bipush 96, 2) := by decide +kernel
theorem dX12_rank_10 : decode cX12_rank 10 = .ok (.isub, 1) := by decide +kernel
theorem dX12_rank_11 : decode cX12_rank 11 = .ok (.goto 7, 3) := by decide +kernel
theorem dX12_rank_14 : decode cX12_rank 14 = .ok (.iload_n 0, 1) := by decide +kernel
theorem dX12_rank_15 : decode cX12_rank 15 = .ok (.bipush 21, 2) := by decide +kernel
theorem dX12_rank_17 : decode cX12_rank 17 = .ok (.isub, 1) := by decide +kernel
theorem dX12_rank_18 : decode cX12_rank 18 = .ok (.ireturn, 1) := by decide +kernel
def f_X12_rank (w : Nat) (x0 : Int32) (M : mM) : Option (Int32 × mM) := bI (f_X12_isLetter w x0 M) fun q2 M1 => (if q2 = 0 then some ((x0 - 21), M1) else some ((x0 - 96), M1))
set_option maxHeartbeats 4000000 in
set_option maxRecDepth 100000 in
theorem s_X12_rank {l : Launch} {G : mG} {sk : List mS} (w : Nat) (x0 : Int32) (M : mM) : Go muX12_rank (rm 1) 0 0 l G sk (mFin G sk eI) (f_X12_rank w x0 M) 0 [(0, .int x0)] [] M := by
  unfold f_X12_rank
  refine go_iload_n 0 1 dX12_rank_0 rfl rfl ?_
  refine go_cSI1 0 cwX12_139 (m_X12_isLetter w x0 M) 4 dX12_rank_1 rfl ⟨Nat.le_of_ble_eq_true rfl, Nat.le_of_ble_eq_true rfl⟩ ⟨Nat.zero_le _, Nat.zero_le _⟩ (Nat.le_of_ble_eq_true rfl) (fun q2 M1 _ => ?_)
  refine go_if_eq 14 7 dX12_rank_4 rfl (by decide) (fun _ => ?_) (fun _ => ?_)
  · refine go_iload_n 0 15 dX12_rank_14 rfl rfl ?_
    refine go_bipush 21 17 dX12_rank_15 rfl (by decide) ?_
    refine go_isub 18 dX12_rank_17 rfl ?_
    exact go_iret rfl dX12_rank_18
  · refine go_iload_n 0 8 dX12_rank_7 rfl rfl ?_
    refine go_bipush 96 10 dX12_rank_8 rfl (by decide) ?_
    refine go_isub 11 dX12_rank_10 rfl ?_
    refine go_goto 18 dX12_rank_11 (by decide) ?_
    exact go_iret rfl dX12_rank_18
theorem m_X12_rank {l : Launch} {G : mG} {sk : List mS} (w : Nat) (x0 : Int32) (M : mM) : Mt l G sk yX12_rank muX12_rank 1 [.int x0] M eI (f_X12_rank w x0 M) := Mt.of (by decide) rfl (Nat.le_of_ble_eq_true rfl) (s_X12_rank w x0 M)
theorem dX12_isSignOf_0 : decode cX12_isSignOf 0 = .ok (.iload_n 0, 1) := by decide +kernel
theorem dX12_isSignOf_1 : decode cX12_isSignOf 1 = .ok (.bipush 40, 2) := by decide +kernel
theorem dX12_isSignOf_3 : decode cX12_isSignOf 3 = .ok (.if_icmp .eq 45, 3) := by decide +kernel
theorem dX12_isSignOf_6 : decode cX12_isSignOf 6 = .ok (.iload_n 0, 1) := by decide +kernel
theorem dX12_isSignOf_7 : decode cX12_isSignOf 7 = .ok (.bipush 41, 2) := by decide +kernel
theorem dX12_isSignOf_9 : decode cX12_isSignOf 9 = .ok (.if_icmp .eq 39, 3) := by decide +kernel
theorem dX12_isSignOf_12 : decode cX12_isSignOf 12 = .ok (.iload_n 0, 1) := by decide +kernel
theorem dX12_isSignOf_13 : decode cX12_isSignOf 13 = .ok (.bipush 59, 2) := by decide +kernel
theorem dX12_isSignOf_15 : decode cX12_isSignOf 15 = .ok (.if_icmp .eq 33, 3) := by decide +kernel
theorem dX12_isSignOf_18 : decode cX12_isSignOf 18 = .ok (.iload_n 0, 1) := by decide +kernel
theorem dX12_isSignOf_19 : decode cX12_isSignOf 19 = .ok (.bipush 61, 2) := by decide +kernel
theorem dX12_isSignOf_21 : decode cX12_isSignOf 21 = .ok (.if_icmp .eq 27, 3) := by decide +kernel
theorem dX12_isSignOf_24 : decode cX12_isSignOf 24 = .ok (.iload_n 0, 1) := by decide +kernel
theorem dX12_isSignOf_25 : decode cX12_isSignOf 25 = .ok (.bipush 60, 2) := by decide +kernel
theorem dX12_isSignOf_27 : decode cX12_isSignOf 27 = .ok (.if_icmp .eq 21, 3) := by decide +kernel
theorem dX12_isSignOf_30 : decode cX12_isSignOf 30 = .ok (.iload_n 0, 1) := by decide +kernel
theorem dX12_isSignOf_31 : decode cX12_isSignOf 31 = .ok (.bipush 43, 2) := by decide +kernel
theorem dX12_isSignOf_33 : decode cX12_isSignOf 33 = .ok (.if_icmp .eq 15, 3) := by decide +kernel
theorem dX12_isSignOf_36 : decode cX12_isSignOf 36 = .ok (.iload_n 0, 1) := by decide +kernel
theorem dX12_isSignOf_37 : decode cX12_isSignOf 37 = .ok (.bipush 45, 2) := by decide +kernel
theorem dX12_isSignOf_39 : decode cX12_isSignOf 39 = .ok (.if_icmp .eq 9, 3) := by decide +kernel
theorem dX12_isSignOf_42 : decode cX12_isSignOf 42 = .ok (.iload_n 0, 1) := by decide +kernel
theorem dX12_isSignOf_43 : decode cX12_isSignOf 43 = .ok (.bipush 42, 2) := by decide +kernel
theorem dX12_isSignOf_45 : decode cX12_isSignOf 45 = .ok (.if_icmp .ne 7, 3) := by decide +kernel
theorem dX12_isSignOf_48 : decode cX12_isSignOf 48 = .ok (.iconst 1, 1) := by decide +kernel
theorem dX12_isSignOf_49 : decode cX12_isSignOf 49 = .ok (.goto 4, 3) := by decide +kernel
theorem dX12_isSignOf_52 : decode cX12_isSignOf 52 = .ok (.iconst 0, 1) := by decide +kernel
theorem dX12_isSignOf_53 : decode cX12_isSignOf 53 = .ok (.ireturn, 1) := by decide +kernel
def f_X12_isSignOf_48 (w : Nat) (M : mM) : Option (Int32 × mM) := rtB 1 M
set_option maxHeartbeats 4000000 in
set_option maxRecDepth 100000 in
theorem s_X12_isSignOf_48 {l : Launch} {G : mG} {sk : List mS} (w : Nat) (M : mM) : Go muX12_isSignOf (rm 0) 0 0 l G sk (mFin G sk eI) (f_X12_isSignOf_48 w M) 48 [] [] M := by
  unfold f_X12_isSignOf_48
  refine go_iconst 1 49 dX12_isSignOf_48 rfl (by decide) ?_
  refine go_goto 53 dX12_isSignOf_49 (by decide) ?_
  exact go_zret rfl dX12_isSignOf_53
def f_X12_isSignOf (w : Nat) (x0 : Int32) (M : mM) : Option (Int32 × mM) := (if x0 = 40 then (f_X12_isSignOf_48 w M) else (if x0 = 41 then (f_X12_isSignOf_48 w M) else (if x0 = 59 then (f_X12_isSignOf_48 w M) else (if x0 = 61 then (f_X12_isSignOf_48 w M) else (if x0 = 60 then (f_X12_isSignOf_48 w M) else (if x0 = 43 then (f_X12_isSignOf_48 w M) else (if x0 = 45 then (f_X12_isSignOf_48 w M) else (if x0 = 42 then (f_X12_isSignOf_48 w M) else rtB 0 M))))))))
set_option maxHeartbeats 4000000 in
set_option maxRecDepth 100000 in
theorem s_X12_isSignOf {l : Launch} {G : mG} {sk : List mS} (w : Nat) (x0 : Int32) (M : mM) : Go muX12_isSignOf (rm 0) 0 0 l G sk (mFin G sk eI) (f_X12_isSignOf w x0 M) 0 [(0, .int x0)] [] M := by
  unfold f_X12_isSignOf
  refine go_iload_n 0 1 dX12_isSignOf_0 rfl rfl ?_
  refine go_bipush 40 3 dX12_isSignOf_1 rfl (by decide) ?_
  refine go_icmp_eq 48 6 dX12_isSignOf_3 rfl (by decide) (fun _ => ?_) (fun _ => ?_)
  · exact go_lv [] rfl (s_X12_isSignOf_48 w M)
  · refine go_iload_n 0 7 dX12_isSignOf_6 rfl rfl ?_
    refine go_bipush 41 9 dX12_isSignOf_7 rfl (by decide) ?_
    refine go_icmp_eq 48 12 dX12_isSignOf_9 rfl (by decide) (fun _ => ?_) (fun _ => ?_)
    · exact go_lv [] rfl (s_X12_isSignOf_48 w M)
    · refine go_iload_n 0 13 dX12_isSignOf_12 rfl rfl ?_
      refine go_bipush 59 15 dX12_isSignOf_13 rfl (by decide) ?_
      refine go_icmp_eq 48 18 dX12_isSignOf_15 rfl (by decide) (fun _ => ?_) (fun _ => ?_)
      · exact go_lv [] rfl (s_X12_isSignOf_48 w M)
      · refine go_iload_n 0 19 dX12_isSignOf_18 rfl rfl ?_
        refine go_bipush 61 21 dX12_isSignOf_19 rfl (by decide) ?_
        refine go_icmp_eq 48 24 dX12_isSignOf_21 rfl (by decide) (fun _ => ?_) (fun _ => ?_)
        · exact go_lv [] rfl (s_X12_isSignOf_48 w M)
        · refine go_iload_n 0 25 dX12_isSignOf_24 rfl rfl ?_
          refine go_bipush 60 27 dX12_isSignOf_25 rfl (by decide) ?_
          refine go_icmp_eq 48 30 dX12_isSignOf_27 rfl (by decide) (fun _ => ?_) (fun _ => ?_)
          · exact go_lv [] rfl (s_X12_isSignOf_48 w M)
          · refine go_iload_n 0 31 dX12_isSignOf_30 rfl rfl ?_
            refine go_bipush 43 33 dX12_isSignOf_31 rfl (by decide) ?_
            refine go_icmp_eq 48 36 dX12_isSignOf_33 rfl (by decide) (fun _ => ?_) (fun _ => ?_)
            · exact go_lv [] rfl (s_X12_isSignOf_48 w M)
            · refine go_iload_n 0 37 dX12_isSignOf_36 rfl rfl ?_
              refine go_bipush 45 39 dX12_isSignOf_37 rfl (by decide) ?_
              refine go_icmp_eq 48 42 dX12_isSignOf_39 rfl (by decide) (fun _ => ?_) (fun _ => ?_)
              · exact go_lv [] rfl (s_X12_isSignOf_48 w M)
              · refine go_iload_n 0 43 dX12_isSignOf_42 rfl rfl ?_
                refine go_bipush 42 45 dX12_isSignOf_43 rfl (by decide) ?_
                refine go_icmp_ne 52 48 dX12_isSignOf_45 rfl (by decide) (fun _ => ?_) (fun _ => ?_)
                · refine go_iconst 0 53 dX12_isSignOf_52 rfl (by decide) ?_
                  exact go_zret rfl dX12_isSignOf_53
                · exact go_lv [] rfl (s_X12_isSignOf_48 w M)
theorem m_X12_isSignOf {l : Launch} {G : mG} {sk : List mS} (w : Nat) (x0 : Int32) (M : mM) : Mt l G sk yX12_isSignOf muX12_isSignOf 0 [.int x0] M eI (f_X12_isSignOf w x0 M) := Mt.of (by decide) rfl (Nat.le_of_ble_eq_true rfl) (s_X12_isSignOf w x0 M)
theorem dX12_cutAll_0 : decode cX12_cutAll 0 = .ok (.aload_n 0, 1) := by decide +kernel
theorem dX12_cutAll_1 : decode cX12_cutAll 1 = .ok (.aload_n 0, 1) := by decide +kernel
theorem dX12_cutAll_2 : decode cX12_cutAll 2 = .ok (.getfield 11, 3) := by decide +kernel
theorem dX12_cutAll_5 : decode cX12_cutAll 5 = .ok (.putfield 143, 3) := by decide +kernel
theorem dX12_cutAll_8 : decode cX12_cutAll 8 = .ok (.aload_n 0, 1) := by decide +kernel
theorem dX12_cutAll_9 : decode cX12_cutAll 9 = .ok (.iconst 0, 1) := by decide +kernel
theorem dX12_cutAll_10 : decode cX12_cutAll 10 = .ok (.putfield 11, 3) := by decide +kernel
theorem dX12_cutAll_13 : decode cX12_cutAll 13 = .ok (.iconst 0, 1) := by decide +kernel
theorem dX12_cutAll_14 : decode cX12_cutAll 14 = .ok (.istore_n 1, 1) := by decide +kernel
theorem dX12_cutAll_15 : decode cX12_cutAll 15 = .ok (.iconst 0, 1) := by decide +kernel
theorem dX12_cutAll_16 : decode cX12_cutAll 16 = .ok (.istore_n 2, 1) := by decide +kernel
theorem dX12_cutAll_17 : decode cX12_cutAll 17 = .ok (.iload_n 2, 1) := by decide +kernel
theorem dX12_cutAll_18 : decode cX12_cutAll 18 = .ok (.aload_n 0, 1) := by decide +kernel
theorem dX12_cutAll_19 : decode cX12_cutAll 19 = .ok (.getfield 143, 3) := by decide +kernel
theorem dX12_cutAll_22 : decode cX12_cutAll 22 = .ok (.if_icmp .ge 257, 3) := by decide +kernel
theorem dX12_cutAll_25 : decode cX12_cutAll 25 = .ok (.aload_n 0, 1) := by decide +kernel
theorem dX12_cutAll_26 : decode cX12_cutAll 26 = .ok (.getfield 14, 3) := by decide +kernel
theorem dX12_cutAll_29 : decode cX12_cutAll 29 = .ok (.iload_n 2, 1) := by decide +kernel
theorem dX12_cutAll_30 : decode cX12_cutAll 30 = .ok (.iaload, 1) := by decide +kernel
theorem dX12_cutAll_31 : decode cX12_cutAll 31 = .ok (.istore_n 3, 1) := by decide +kernel
theorem dX12_cutAll_32 : decode cX12_cutAll 32 = .ok (.iload_n 3, 1) := by decide +kernel
theorem dX12_cutAll_33 : decode cX12_cutAll 33 = .ok (.bipush 10, 2) := by decide +kernel
theorem dX12_cutAll_35 : decode cX12_cutAll 35 = .ok (.if_icmp .eq 9, 3) := by decide +kernel
theorem dX12_cutAll_38 : decode cX12_cutAll 38 = .ok (.iload_n 3, 1) := by decide +kernel
theorem dX12_cutAll_39 : decode cX12_cutAll 39 = .ok (.bipush 32, 2) := by decide +kernel
theorem dX12_cutAll_41 : decode cX12_cutAll 41 = .ok (.if_icmp .ne 9, 3) := by decide +kernel
theorem dX12_cutAll_44 : decode cX12_cutAll 44 = .ok (.iinc 2 1, 3) := by decide +kernel
theorem dX12_cutAll_47 : decode cX12_cutAll 47 = .ok (.goto (-30), 3) := by decide +kernel
theorem dX12_cutAll_50 : decode cX12_cutAll 50 = .ok (.iload_n 2, 1) := by decide +kernel
theorem dX12_cutAll_51 : decode cX12_cutAll 51 = .ok (.istore 4, 2) := by decide +kernel
theorem dX12_cutAll_53 : decode cX12_cutAll 53 = .ok (.lconst 0, 1) := by decide +kernel
theorem dX12_cutAll_54 : decode cX12_cutAll 54 = .ok (.lstore 5, 2) := by decide +kernel
theorem dX12_cutAll_56 : decode cX12_cutAll 56 = .ok (.aload_n 0, 1) := by decide +kernel
theorem dX12_cutAll_57 : decode cX12_cutAll 57 = .ok (.getfield 27, 3) := by decide +kernel
theorem dX12_cutAll_60 : decode cX12_cutAll 60 = .ok (.iload_n 1, 1) := by decide +kernel
theorem dX12_cutAll_61 : decode cX12_cutAll 61 = .ok (.iload_n 2, 1) := by decide +kernel
theorem dX12_cutAll_62 : decode cX12_cutAll 62 = .ok (.iastore, 1) := by decide +kernel
theorem dX12_cutAll_63 : decode cX12_cutAll 63 = .ok (.iload_n 3, 1) := by decide +kernel
theorem dX12_cutAll_64 : decode cX12_cutAll 64 = .ok (.invokestatic 139, 3) := by decide +kernel
theorem dX12_cutAll_67 : decode cX12_cutAll 67 = .ok (.ifCond .eq 85, 3) := by decide +kernel
theorem dX12_cutAll_70 : decode cX12_cutAll 70 = .ok (.iload_n 2, 1) := by decide +kernel
theorem dX12_cutAll_71 : decode cX12_cutAll 71 = .ok (.aload_n 0, 1) := by decide +kernel
theorem dX12_cutAll_72 : decode cX12_cutAll 72 = .ok (.getfield 143, 3) := by decide +kernel
theorem dX12_cutAll_75 : decode cX12_cutAll 75 = .ok (.if_icmp .ge 54, 3) := by decide +kernel
theorem dX12_cutAll_78 : decode cX12_cutAll 78 = .ok (.aload_n 0, 1) := by decide +kernel
theorem dX12_cutAll_79 : decode cX12_cutAll 79 = .ok (.getfield 14, 3) := by decide +kernel
theorem dX12_cutAll_82 : decode cX12_cutAll 82 = .ok (.iload_n 2, 1) := by decide +kernel
theorem dX12_cutAll_83 : decode cX12_cutAll 83 = .ok (.iaload, 1) := by decide +kernel
theorem dX12_cutAll_84 : decode cX12_cutAll 84 = .ok (.invokestatic 139, 3) := by decide +kernel
theorem dX12_cutAll_87 : decode cX12_cutAll 87 = .ok (.ifCond .eq 42, 3) := by decide +kernel
theorem dX12_cutAll_90 : decode cX12_cutAll 90 = .ok (.iload_n 2, 1) := by decide +kernel
theorem dX12_cutAll_91 : decode cX12_cutAll 91 = .ok (.iload 4, 2) := by decide +kernel
theorem dX12_cutAll_93 : decode cX12_cutAll 93 = .ok (.isub, 1) := by decide +kernel
theorem dX12_cutAll_94 : decode cX12_cutAll 94 = .ok (.bipush 8, 2) := by decide +kernel
theorem dX12_cutAll_96 : decode cX12_cutAll 96 = .ok (.if_icmp .ge 23, 3) := by decide +kernel
theorem dX12_cutAll_99 : decode cX12_cutAll 99 = .ok (.ldc2_w 146, 3) := by decide +kernel
theorem dX12_cutAll_102 : decode cX12_cutAll 102 = .ok (.lload 5, 2) := by decide +kernel
theorem dX12_cutAll_104 : decode cX12_cutAll 104 = .ok (.lmul, 1) := by decide +kernel
theorem dX12_cutAll_105 : decode cX12_cutAll 105 = .ok (.aload_n 0, 1) := by decide +kernel
theorem dX12_cutAll_106 : decode cX12_cutAll 106 = .ok (.getfield 14, 3) := by decide +kernel
theorem dX12_cutAll_109 : decode cX12_cutAll 109 = .ok (.iload_n 2, 1) := by decide +kernel
theorem dX12_cutAll_110 : decode cX12_cutAll 110 = .ok (.iaload, 1) := by decide +kernel
theorem dX12_cutAll_111 : decode cX12_cutAll 111 = .ok (.invokestatic 148, 3) := by decide +kernel
theorem dX12_cutAll_114 : decode cX12_cutAll 114 = .ok (.i2l, 1) := by decide +kernel
theorem dX12_cutAll_115 : decode cX12_cutAll 115 = .ok (.ladd, 1) := by decide +kernel
theorem dX12_cutAll_116 : decode cX12_cutAll 116 = .ok (.goto 5, 3) := by decide +kernel
theorem dX12_cutAll_119 : decode cX12_cutAll 119 = .ok (.lload 5, 2) := by decide +kernel
theorem dX12_cutAll_121 : decode cX12_cutAll 121 = .ok (.lstore 5, 2) := by decide +kernel
theorem dX12_cutAll_123 : decode cX12_cutAll 123 = .ok (.iinc 2 1, 3) := by decide +kernel
theorem dX12_cutAll_126 : decode cX12_cutAll 126 = .ok (.goto (-56), 3) := by decide +kernel
theorem dX12_cutAll_129 : decode cX12_cutAll 129 = .ok (.aload_n 0, 1) := by decide +kernel
theorem dX12_cutAll_130 : decode cX12_cutAll 130 = .ok (.getfield 24, 3) := by decide +kernel
theorem dX12_cutAll_133 : decode cX12_cutAll 133 = .ok (.iload_n 1, 1) := by decide +kernel
theorem dX12_cutAll_134 : decode cX12_cutAll 134 = .ok (.iload_n 2, 1) := by decide +kernel
theorem dX12_cutAll_135 : decode cX12_cutAll 135 = .ok (.iload 4, 2) := by decide +kernel
theorem dX12_cutAll_137 : decode cX12_cutAll 137 = .ok (.isub, 1) := by decide +kernel
theorem dX12_cutAll_138 : decode cX12_cutAll 138 = .ok (.bipush 8, 2) := by decide +kernel
theorem dX12_cutAll_140 : decode cX12_cutAll 140 = .ok (.if_icmp .le 7, 3) := by decide +kernel
theorem dX12_cutAll_143 : decode cX12_cutAll 143 = .ok (.iconst 4, 1) := by decide +kernel
theorem dX12_cutAll_144 : decode cX12_cutAll 144 = .ok (.goto 4, 3) := by decide +kernel
theorem dX12_cutAll_147 : decode cX12_cutAll 147 = .ok (.iconst 1, 1) := by decide +kernel
theorem dX12_cutAll_148 : decode cX12_cutAll 148 = .ok (.iastore, 1) := by decide +kernel
theorem dX12_cutAll_149 : decode cX12_cutAll 149 = .ok (.goto 116, 3) := by decide +kernel
theorem dX12_cutAll_152 : decode cX12_cutAll 152 = .ok (.iload_n 3, 1) := by decide +kernel
theorem dX12_cutAll_153 : decode cX12_cutAll 153 = .ok (.invokestatic 152, 3) := by decide +kernel
theorem dX12_cutAll_156 : decode cX12_cutAll 156 = .ok (.ifCond .eq 84, 3) := by decide +kernel
theorem dX12_cutAll_159 : decode cX12_cutAll 159 = .ok (.iload_n 2, 1) := by decide +kernel
theorem dX12_cutAll_160 : decode cX12_cutAll 160 = .ok (.aload_n 0, 1) := by decide +kernel
theorem dX12_cutAll_161 : decode cX12_cutAll 161 = .ok (.getfield 143, 3) := by decide +kernel
theorem dX12_cutAll_164 : decode cX12_cutAll 164 = .ok (.if_icmp .ge 54, 3) := by decide +kernel
theorem dX12_cutAll_167 : decode cX12_cutAll 167 = .ok (.aload_n 0, 1) := by decide +kernel
theorem dX12_cutAll_168 : decode cX12_cutAll 168 = .ok (.getfield 14, 3) := by decide +kernel
theorem dX12_cutAll_171 : decode cX12_cutAll 171 = .ok (.iload_n 2, 1) := by decide +kernel
theorem dX12_cutAll_172 : decode cX12_cutAll 172 = .ok (.iaload, 1) := by decide +kernel
theorem dX12_cutAll_173 : decode cX12_cutAll 173 = .ok (.invokestatic 152, 3) := by decide +kernel
theorem dX12_cutAll_176 : decode cX12_cutAll 176 = .ok (.ifCond .eq 42, 3) := by decide +kernel
theorem dX12_cutAll_179 : decode cX12_cutAll 179 = .ok (.iload_n 2, 1) := by decide +kernel
theorem dX12_cutAll_180 : decode cX12_cutAll 180 = .ok (.iload 4, 2) := by decide +kernel
theorem dX12_cutAll_182 : decode cX12_cutAll 182 = .ok (.isub, 1) := by decide +kernel
theorem dX12_cutAll_183 : decode cX12_cutAll 183 = .ok (.iconst 4, 1) := by decide +kernel
theorem dX12_cutAll_184 : decode cX12_cutAll 184 = .ok (.if_icmp .ge 24, 3) := by decide +kernel
theorem dX12_cutAll_187 : decode cX12_cutAll 187 = .ok (.ldc2_w 155, 3) := by decide +kernel
theorem dX12_cutAll_190 : decode cX12_cutAll 190 = .ok (.lload 5, 2) := by decide +kernel
theorem dX12_cutAll_192 : decode cX12_cutAll 192 = .ok (.lmul, 1) := by decide +kernel
theorem dX12_cutAll_193 : decode cX12_cutAll 193 = .ok (.aload_n 0, 1) := by decide +kernel
theorem dX12_cutAll_194 : decode cX12_cutAll 194 = .ok (.getfield 14, 3) := by decide +kernel
theorem dX12_cutAll_197 : decode cX12_cutAll 197 = .ok (.iload_n 2, 1) := by decide +kernel
theorem dX12_cutAll_198 : decode cX12_cutAll 198 = .ok (.iaload, 1) := by decide +kernel
theorem dX12_cutAll_199 : decode cX12_cutAll 199 = .ok (.i2l, 1) := by decide +kernel
theorem dX12_cutAll_200 : decode cX12_cutAll 200 = .ok (.ladd, 1) := by decide +kernel
theorem dX12_cutAll_201 : decode cX12_cutAll 201 = .ok (.ldc2_w 157, 3) := by decide +kernel
theorem dX12_cutAll_204 : decode cX12_cutAll 204 = .ok (.lsub, 1) := by decide +kernel
theorem dX12_cutAll_205 : decode cX12_cutAll 205 = .ok (.goto 5, 3) := by decide +kernel
theorem dX12_cutAll_208 : decode cX12_cutAll 208 = .ok (.lload 5, 2) := by decide +kernel
theorem dX12_cutAll_210 : decode cX12_cutAll 210 = .ok (.lstore 5, 2) := by decide +kernel
theorem dX12_cutAll_212 : decode cX12_cutAll 212 = .ok (.iinc 2 1, 3) := by decide +kernel
theorem dX12_cutAll_215 : decode cX12_cutAll 215 = .ok (.goto (-56), 3) := by decide +kernel
theorem dX12_cutAll_218 : decode cX12_cutAll 218 = .ok (.aload_n 0, 1) := by decide +kernel
theorem dX12_cutAll_219 : decode cX12_cutAll 219 = .ok (.getfield 24, 3) := by decide +kernel
theorem dX12_cutAll_222 : decode cX12_cutAll 222 = .ok (.iload_n 1, 1) := by decide +kernel
theorem dX12_cutAll_223 : decode cX12_cutAll 223 = .ok (.iload_n 2, 1) := by decide +kernel
theorem dX12_cutAll_224 : decode cX12_cutAll 224 = .ok (.iload 4, 2) := by decide +kernel
theorem dX12_cutAll_226 : decode cX12_cutAll 226 = .ok (.isub, 1) := by decide +kernel
theorem dX12_cutAll_227 : decode cX12_cutAll 227 = .ok (.iconst 4, 1) := by decide +kernel
theorem dX12_cutAll_228 : decode cX12_cutAll 228 = .ok (.if_icmp .le 7, 3) := by decide +kernel
theorem dX12_cutAll_231 : decode cX12_cutAll 231 = .ok (.iconst 4, 1) := by decide +kernel
theorem dX12_cutAll_232 : decode cX12_cutAll 232 = .ok (.goto 4, 3) := by decide +kernel
theorem dX12_cutAll_235 : decode cX12_cutAll 235 = .ok (.iconst 2, 1) := by decide +kernel
theorem dX12_cutAll_236 : decode cX12_cutAll 236 = .ok (.iastore, 1) := by decide +kernel
theorem dX12_cutAll_237 : decode cX12_cutAll 237 = .ok (.goto 28, 3) := by decide +kernel
theorem dX12_cutAll_240 : decode cX12_cutAll 240 = .ok (.iload_n 3, 1) := by decide +kernel
theorem dX12_cutAll_241 : decode cX12_cutAll 241 = .ok (.i2l, 1) := by decide +kernel
theorem dX12_cutAll_242 : decode cX12_cutAll 242 = .ok (.lstore 5, 2) := by decide +kernel
theorem dX12_cutAll_244 : decode cX12_cutAll 244 = .ok (.aload_n 0, 1) := by decide +kernel
theorem dX12_cutAll_245 : decode cX12_cutAll 245 = .ok (.getfield 24, 3) := by decide +kernel
theorem dX12_cutAll_248 : decode cX12_cutAll 248 = .ok (.iload_n 1, 1) := by decide +kernel
theorem dX12_cutAll_249 : decode cX12_cutAll 249 = .ok (.iload_n 3, 1) := by decide +kernel
theorem dX12_cutAll_250 : decode cX12_cutAll 250 = .ok (.invokestatic 159, 3) := by decide +kernel
theorem dX12_cutAll_253 : decode cX12_cutAll 253 = .ok (.ifCond .eq 7, 3) := by decide +kernel
theorem dX12_cutAll_256 : decode cX12_cutAll 256 = .ok (.iconst 3, 1) := by decide +kernel
theorem dX12_cutAll_257 : decode cX12_cutAll 257 = .ok (.goto 4, 3) := by decide +kernel
theorem dX12_cutAll_260 : decode cX12_cutAll 260 = .ok (.iconst 4, 1) := by decide +kernel
theorem dX12_cutAll_261 : decode cX12_cutAll 261 = .ok (.iastore, 1) := by decide +kernel
theorem dX12_cutAll_262 : decode cX12_cutAll 262 = .ok (.iinc 2 1, 3) := by decide +kernel
theorem dX12_cutAll_265 : decode cX12_cutAll 265 = .ok (.aload_n 0, 1) := by decide +kernel
theorem dX12_cutAll_266 : decode cX12_cutAll 266 = .ok (.getfield 30, 3) := by decide +kernel
theorem dX12_cutAll_269 : decode cX12_cutAll 269 = .ok (.iload_n 1, 1) := by decide +kernel
theorem dX12_cutAll_270 : decode cX12_cutAll 270 = .ok (.lload 5, 2) := by decide +kernel
theorem dX12_cutAll_272 : decode cX12_cutAll 272 = .ok (.lastore, 1) := by decide +kernel
theorem dX12_cutAll_273 : decode cX12_cutAll 273 = .ok (.iinc 1 1, 3) := by decide +kernel
theorem dX12_cutAll_276 : decode cX12_cutAll 276 = .ok (.goto (-259), 3) := by decide +kernel
theorem dX12_cutAll_279 : decode cX12_cutAll 279 = .ok (.aload_n 0, 1) := by decide +kernel
theorem dX12_cutAll_280 : decode cX12_cutAll 280 = .ok (.getfield 24, 3) := by decide +kernel
theorem dX12_cutAll_283 : decode cX12_cutAll 283 = .ok (.iload_n 1, 1) := by decide +kernel
theorem dX12_cutAll_284 : decode cX12_cutAll 284 = .ok (.iconst 0, 1) := by decide +kernel
theorem dX12_cutAll_285 : decode cX12_cutAll 285 = .ok (.iastore, 1) := by decide +kernel
theorem dX12_cutAll_286 : decode cX12_cutAll 286 = .ok (.aload_n 0, 1) := by decide +kernel
theorem dX12_cutAll_287 : decode cX12_cutAll 287 = .ok (.getfield 27, 3) := by decide +kernel
theorem dX12_cutAll_290 : decode cX12_cutAll 290 = .ok (.iload_n 1, 1) := by decide +kernel
theorem dX12_cutAll_291 : decode cX12_cutAll 291 = .ok (.aload_n 0, 1) := by decide +kernel
theorem dX12_cutAll_292 : decode cX12_cutAll 292 = .ok (.getfield 143, 3) := by decide +kernel
theorem dX12_cutAll_295 : decode cX12_cutAll 295 = .ok (.iastore, 1) := by decide +kernel
theorem dX12_cutAll_296 : decode cX12_cutAll 296 = .ok (.aload_n 0, 1) := by decide +kernel
theorem dX12_cutAll_297 : decode cX12_cutAll 297 = .ok (.iconst 0, 1) := by decide +kernel
theorem dX12_cutAll_298 : decode cX12_cutAll 298 = .ok (.putfield 162, 3) := by decide +kernel
theorem dX12_cutAll_301 : decode cX12_cutAll 301 = .ok (.aload_n 0, 1) := by decide +kernel
theorem dX12_cutAll_302 : decode cX12_cutAll 302 = .ok (.iconst 0, 1) := by decide +kernel
theorem dX12_cutAll_303 : decode cX12_cutAll 303 = .ok (.putfield 165, 3) := by decide +kernel
theorem dX12_cutAll_306 : decode cX12_cutAll 306 = .ok (.return_, 1) := by decide +kernel
def f_X12_cutAll_265 (w : Nat) (k17 : Nat → Int32 → Int32 → mM → Option mM) (o0 : Nat) (x1 : Int32) (x2 : Int32) (x5 : Int64) (M : mM) : Option mM := chk x1 (sL (rF o0 6)) (lt (wL M (rF o0 6) x1.toNatClampNeg x5) fun M1 => (k17 o0 (x1 + 1) x2 M1))
set_option maxHeartbeats 4000000 in
set_option maxRecDepth 100000 in
theorem s_X12_cutAll_265 {l : Launch} {G : mG} {sk : List mS} (w : Nat) (k17 : Nat → Int32 → Int32 → mM → Option mM) (hk17 : ∀ (o0 : Nat) (h0 : isK o0 22) (x1 : Int32) (x2 : Int32) (M : mM), Go muX12_cutAll (rm 2) 0 0 l G sk (mFin G sk eV) (k17 o0 x1 x2 M) 17 [(0, .ref (gB G + o0)), (1, .int x1), (2, .int x2)] [] M) (o0 : Nat) (h0 : isK o0 22) (x1 : Int32) (x2 : Int32) (x5 : Int64) (M : mM) : Go muX12_cutAll (rm 2) 0 0 l G sk (mFin G sk eV) (f_X12_cutAll_265 w k17 o0 x1 x2 x5 M) 265 [(0, .ref (gB G + o0)), (1, .int x1), (2, .int x2), (5, .long x5)] [] M := by
  unfold f_X12_cutAll_265
  refine go_aload_n 0 266 dX12_cutAll_265 rfl rfl ?_
  refine go_getR flX12_30 h0 269 dX12_cutAll_266 rfl ?_
  refine go_iload_n 1 270 dX12_cutAll_269 rfl rfl ?_
  refine go_lload 3 272 dX12_cutAll_270 rfl rfl ?_
  refine go_last (rk12_6 h0) 273 dX12_cutAll_272 rfl ?_
  refine go_nmM (fun M1 => ?_)
  refine go_iinc (x1 + 1) 1 [(1, .int (x1 + 1)), (0, .ref (gB G + o0)), (2, .int x2), (5, .long x5)] 276 dX12_cutAll_273 rfl rfl rfl (by decide) rfl ?_
  refine go_goto 17 dX12_cutAll_276 (by decide) ?_
  exact go_lv [1, 0, 2] rfl (hk17 o0 h0 (x1 + 1) x2 M1)
def f_X12_cutAll_148 (w : Nat) (k17 : Nat → Int32 → Int32 → mM → Option mM) (o0 : Nat) (x1 : Int32) (x2 : Int32) (x5 : Int64) (xs0 : Int32) (xs1 : Int32) (os2 : Nat) (M : mM) : Option mM := chk xs1 (sL os2) (lt (wI M os2 xs1.toNatClampNeg xs0) fun M1 => (f_X12_cutAll_265 w k17 o0 x1 x2 x5 M1))
set_option maxHeartbeats 4000000 in
set_option maxRecDepth 100000 in
theorem s_X12_cutAll_148 {l : Launch} {G : mG} {sk : List mS} (w : Nat) (k17 : Nat → Int32 → Int32 → mM → Option mM) (hk17 : ∀ (o0 : Nat) (h0 : isK o0 22) (x1 : Int32) (x2 : Int32) (M : mM), Go muX12_cutAll (rm 2) 0 0 l G sk (mFin G sk eV) (k17 o0 x1 x2 M) 17 [(0, .ref (gB G + o0)), (1, .int x1), (2, .int x2)] [] M) (o0 : Nat) (h0 : isK o0 22) (x1 : Int32) (x2 : Int32) (x5 : Int64) (xs0 : Int32) (xs1 : Int32) (os2 : Nat) (hs2 : isK os2 0) (M : mM) : Go muX12_cutAll (rm 2) 0 0 l G sk (mFin G sk eV) (f_X12_cutAll_148 w k17 o0 x1 x2 x5 xs0 xs1 os2 M) 148 [(0, .ref (gB G + o0)), (1, .int x1), (2, .int x2), (5, .long x5)] [.int xs0, .int xs1, .ref (gB G + os2)] M := by
  unfold f_X12_cutAll_148
  refine go_iast hs2 149 dX12_cutAll_148 rfl ?_
  refine go_nmM (fun M1 => ?_)
  refine go_goto 265 dX12_cutAll_149 (by decide) ?_
  exact go_lv [0, 1, 2, 3] rfl (s_X12_cutAll_265 w k17 hk17 o0 h0 x1 x2 x5 M1)
def f_X12_cutAll_129 (w : Nat) (k17 : Nat → Int32 → Int32 → mM → Option mM) (o0 : Nat) (x1 : Int32) (x2 : Int32) (x4 : Int32) (x5 : Int64) (M : mM) : Option mM := (if (x2 - x4) ≤ 8 then (f_X12_cutAll_148 w k17 o0 x1 x2 x5 1 x1 (rF o0 4) M) else (f_X12_cutAll_148 w k17 o0 x1 x2 x5 4 x1 (rF o0 4) M))
set_option maxHeartbeats 4000000 in
set_option maxRecDepth 100000 in
theorem s_X12_cutAll_129 {l : Launch} {G : mG} {sk : List mS} (w : Nat) (k17 : Nat → Int32 → Int32 → mM → Option mM) (hk17 : ∀ (o0 : Nat) (h0 : isK o0 22) (x1 : Int32) (x2 : Int32) (M : mM), Go muX12_cutAll (rm 2) 0 0 l G sk (mFin G sk eV) (k17 o0 x1 x2 M) 17 [(0, .ref (gB G + o0)), (1, .int x1), (2, .int x2)] [] M) (o0 : Nat) (h0 : isK o0 22) (x1 : Int32) (x2 : Int32) (x4 : Int32) (x5 : Int64) (M : mM) : Go muX12_cutAll (rm 2) 0 0 l G sk (mFin G sk eV) (f_X12_cutAll_129 w k17 o0 x1 x2 x4 x5 M) 129 [(0, .ref (gB G + o0)), (1, .int x1), (2, .int x2), (4, .int x4), (5, .long x5)] [] M := by
  unfold f_X12_cutAll_129
  refine go_aload_n 0 130 dX12_cutAll_129 rfl rfl ?_
  refine go_getR flX12_24 h0 133 dX12_cutAll_130 rfl ?_
  refine go_iload_n 1 134 dX12_cutAll_133 rfl rfl ?_
  refine go_iload_n 2 135 dX12_cutAll_134 rfl rfl ?_
  refine go_iload 3 137 dX12_cutAll_135 rfl rfl ?_
  refine go_isub 138 dX12_cutAll_137 rfl ?_
  refine go_bipush 8 140 dX12_cutAll_138 rfl (by decide) ?_
  refine go_icmp_le 147 143 dX12_cutAll_140 rfl (by decide) (fun _ => ?_) (fun _ => ?_)
  · refine go_iconst 1 148 dX12_cutAll_147 rfl (by decide) ?_
    exact go_lv [0, 1, 2, 4] rfl (s_X12_cutAll_148 w k17 hk17 o0 h0 x1 x2 x5 1 x1 (rF o0 4) (rk12_4 h0) M)
  · refine go_iconst 4 144 dX12_cutAll_143 rfl (by decide) ?_
    refine go_goto 148 dX12_cutAll_144 (by decide) ?_
    exact go_lv [0, 1, 2, 4] rfl (s_X12_cutAll_148 w k17 hk17 o0 h0 x1 x2 x5 4 x1 (rF o0 4) (rk12_4 h0) M)
def f_X12_cutAll_70 (w : Nat) (k17 : Nat → Int32 → Int32 → mM → Option mM) : Nat → Nat → Int32 → Int32 → Int32 → Int64 → mM → Option mM
  | 0, _, _, _, _, _, _ => none
  | n + 1, o0, x1, x2, x4, x5, M => (if (M.1 o0 3) ≤ x2 then (f_X12_cutAll_129 w k17 o0 x1 x2 x4 x5 M) else chk x2 (sL (rF o0 1)) (bI (f_X12_isLetter w (M.1 (rF o0 1) x2.toNatClampNeg) M) fun q2 M1 => (if q2 = 0 then (f_X12_cutAll_129 w k17 o0 x1 x2 x4 x5 M1) else (if 8 ≤ (x2 - x4) then (f_X12_cutAll_70 w k17 n o0 x1 (x2 + 1) x4 x5 M1) else chk x2 (sL (rF o0 1)) (bI (f_X12_rank w (M1.1 (rF o0 1) x2.toNatClampNeg) M1) fun q4 M3 => lt ((37 * x5) + (q4.toInt64)) fun y5 => (f_X12_cutAll_70 w k17 n o0 x1 (x2 + 1) x4 y5 M3))))))
set_option maxHeartbeats 4000000 in
set_option maxRecDepth 100000 in
theorem s_X12_cutAll_70 {l : Launch} {G : mG} {sk : List mS} (w : Nat) (k17 : Nat → Int32 → Int32 → mM → Option mM) (hk17 : ∀ (o0 : Nat) (h0 : isK o0 22) (x1 : Int32) (x2 : Int32) (M : mM), Go muX12_cutAll (rm 2) 0 0 l G sk (mFin G sk eV) (k17 o0 x1 x2 M) 17 [(0, .ref (gB G + o0)), (1, .int x1), (2, .int x2)] [] M) : ∀ (n : Nat) (o0 : Nat) (h0 : isK o0 22) (x1 : Int32) (x2 : Int32) (x4 : Int32) (x5 : Int64) (M : mM), Go muX12_cutAll (rm 2) 0 0 l G sk (mFin G sk eV) (f_X12_cutAll_70 w k17 n o0 x1 x2 x4 x5 M) 70 [(0, .ref (gB G + o0)), (1, .int x1), (2, .int x2), (4, .int x4), (5, .long x5)] [] M := by
  intro n
  induction n with
  | zero =>
    intros
    exact go_none
  | succ n ih =>
    intro o0 h0 x1 x2 x4 x5 M
    rw [f_X12_cutAll_70]
    refine go_iload_n 2 71 dX12_cutAll_70 rfl rfl ?_
    refine go_aload_n 0 72 dX12_cutAll_71 rfl rfl ?_
    refine go_getI flX12_143 (by decide) h0 75 dX12_cutAll_72 rfl ?_
    refine go_icmp_ge 129 78 dX12_cutAll_75 rfl (by decide) (fun _ => ?_) (fun _ => ?_)
    · exact go_lv [0, 1, 2, 3, 4] rfl (s_X12_cutAll_129 w k17 hk17 o0 h0 x1 x2 x4 x5 M)
    · refine go_aload_n 0 79 dX12_cutAll_78 rfl rfl ?_
      refine go_getR flX12_14 h0 82 dX12_cutAll_79 rfl ?_
      refine go_iload_n 2 83 dX12_cutAll_82 rfl rfl ?_
      refine go_iald (rk12_1 h0) 84 dX12_cutAll_83 rfl ?_
      refine go_cSI1 0 cwX12_139 (m_X12_isLetter w (M.1 (rF o0 1) x2.toNatClampNeg) M) 87 dX12_cutAll_84 rfl ⟨Nat.le_of_ble_eq_true rfl, Nat.le_of_ble_eq_true rfl⟩ ⟨Nat.zero_le _, Nat.zero_le _⟩ (Nat.le_of_ble_eq_true rfl) (fun q2 M1 _ => ?_)
      refine go_if_eq 129 90 dX12_cutAll_87 rfl (by decide) (fun _ => ?_) (fun _ => ?_)
      · exact go_lv [0, 1, 2, 3, 4] rfl (s_X12_cutAll_129 w k17 hk17 o0 h0 x1 x2 x4 x5 M1)
      · refine go_iload_n 2 91 dX12_cutAll_90 rfl rfl ?_
        refine go_iload 3 93 dX12_cutAll_91 rfl rfl ?_
        refine go_isub 94 dX12_cutAll_93 rfl ?_
        refine go_bipush 8 96 dX12_cutAll_94 rfl (by decide) ?_
        refine go_icmp_ge 119 99 dX12_cutAll_96 rfl (by decide) (fun _ => ?_) (fun _ => ?_)
        · refine go_lload 4 121 dX12_cutAll_119 rfl rfl ?_
          refine go_lstore [(5, .long x5), (0, .ref (gB G + o0)), (1, .int x1), (2, .int x2), (4, .int x4)] 123 dX12_cutAll_121 rfl (by decide) rfl ?_
          refine go_iinc (x2 + 1) 3 [(2, .int (x2 + 1)), (5, .long x5), (0, .ref (gB G + o0)), (1, .int x1), (4, .int x4)] 126 dX12_cutAll_123 rfl rfl rfl (by decide) rfl ?_
          refine go_goto 70 dX12_cutAll_126 (by decide) ?_
          exact go_lv [2, 3, 0, 4, 1] rfl (ih o0 h0 x1 (x2 + 1) x4 x5 M1)
        · refine go_ldc2 klX12_146 102 dX12_cutAll_99 rfl ?_
          refine go_lload 4 104 dX12_cutAll_102 rfl rfl ?_
          refine go_lmul 105 dX12_cutAll_104 rfl ?_
          refine go_aload_n 0 106 dX12_cutAll_105 rfl rfl ?_
          refine go_getR flX12_14 h0 109 dX12_cutAll_106 rfl ?_
          refine go_iload_n 2 110 dX12_cutAll_109 rfl rfl ?_
          refine go_iald (rk12_1 h0) 111 dX12_cutAll_110 rfl ?_
          refine go_cSI1 1 cwX12_148 (m_X12_rank w (M1.1 (rF o0 1) x2.toNatClampNeg) M1) 114 dX12_cutAll_111 rfl ⟨Nat.le_of_ble_eq_true rfl, Nat.le_of_ble_eq_true rfl⟩ ⟨Nat.zero_le _, Nat.zero_le _⟩ (Nat.le_of_ble_eq_true rfl) (fun q4 M3 _ => ?_)
          refine go_i2l 115 dX12_cutAll_114 rfl ?_
          refine go_ladd 116 dX12_cutAll_115 rfl ?_
          refine go_goto 121 dX12_cutAll_116 (by decide) ?_
          refine go_nmL (fun y5 => ?_)
          refine go_lstore [(5, .long y5), (0, .ref (gB G + o0)), (1, .int x1), (2, .int x2), (4, .int x4)] 123 dX12_cutAll_121 rfl (by decide) rfl ?_
          refine go_iinc (x2 + 1) 3 [(2, .int (x2 + 1)), (5, .long y5), (0, .ref (gB G + o0)), (1, .int x1), (4, .int x4)] 126 dX12_cutAll_123 rfl rfl rfl (by decide) rfl ?_
          refine go_goto 70 dX12_cutAll_126 (by decide) ?_
          exact go_lv [2, 3, 0, 4, 1] rfl (ih o0 h0 x1 (x2 + 1) x4 y5 M3)
def f_X12_cutAll_236 (w : Nat) (k17 : Nat → Int32 → Int32 → mM → Option mM) (o0 : Nat) (x1 : Int32) (x2 : Int32) (x5 : Int64) (xs0 : Int32) (xs1 : Int32) (os2 : Nat) (M : mM) : Option mM := chk xs1 (sL os2) (lt (wI M os2 xs1.toNatClampNeg xs0) fun M1 => (f_X12_cutAll_265 w k17 o0 x1 x2 x5 M1))
set_option maxHeartbeats 4000000 in
set_option maxRecDepth 100000 in
theorem s_X12_cutAll_236 {l : Launch} {G : mG} {sk : List mS} (w : Nat) (k17 : Nat → Int32 → Int32 → mM → Option mM) (hk17 : ∀ (o0 : Nat) (h0 : isK o0 22) (x1 : Int32) (x2 : Int32) (M : mM), Go muX12_cutAll (rm 2) 0 0 l G sk (mFin G sk eV) (k17 o0 x1 x2 M) 17 [(0, .ref (gB G + o0)), (1, .int x1), (2, .int x2)] [] M) (o0 : Nat) (h0 : isK o0 22) (x1 : Int32) (x2 : Int32) (x5 : Int64) (xs0 : Int32) (xs1 : Int32) (os2 : Nat) (hs2 : isK os2 0) (M : mM) : Go muX12_cutAll (rm 2) 0 0 l G sk (mFin G sk eV) (f_X12_cutAll_236 w k17 o0 x1 x2 x5 xs0 xs1 os2 M) 236 [(0, .ref (gB G + o0)), (1, .int x1), (2, .int x2), (5, .long x5)] [.int xs0, .int xs1, .ref (gB G + os2)] M := by
  unfold f_X12_cutAll_236
  refine go_iast hs2 237 dX12_cutAll_236 rfl ?_
  refine go_nmM (fun M1 => ?_)
  refine go_goto 265 dX12_cutAll_237 (by decide) ?_
  exact go_lv [0, 1, 2, 3] rfl (s_X12_cutAll_265 w k17 hk17 o0 h0 x1 x2 x5 M1)
def f_X12_cutAll_218 (w : Nat) (k17 : Nat → Int32 → Int32 → mM → Option mM) (o0 : Nat) (x1 : Int32) (x2 : Int32) (x4 : Int32) (x5 : Int64) (M : mM) : Option mM := (if (x2 - x4) ≤ 4 then (f_X12_cutAll_236 w k17 o0 x1 x2 x5 2 x1 (rF o0 4) M) else (f_X12_cutAll_236 w k17 o0 x1 x2 x5 4 x1 (rF o0 4) M))
set_option maxHeartbeats 4000000 in
set_option maxRecDepth 100000 in
theorem s_X12_cutAll_218 {l : Launch} {G : mG} {sk : List mS} (w : Nat) (k17 : Nat → Int32 → Int32 → mM → Option mM) (hk17 : ∀ (o0 : Nat) (h0 : isK o0 22) (x1 : Int32) (x2 : Int32) (M : mM), Go muX12_cutAll (rm 2) 0 0 l G sk (mFin G sk eV) (k17 o0 x1 x2 M) 17 [(0, .ref (gB G + o0)), (1, .int x1), (2, .int x2)] [] M) (o0 : Nat) (h0 : isK o0 22) (x1 : Int32) (x2 : Int32) (x4 : Int32) (x5 : Int64) (M : mM) : Go muX12_cutAll (rm 2) 0 0 l G sk (mFin G sk eV) (f_X12_cutAll_218 w k17 o0 x1 x2 x4 x5 M) 218 [(0, .ref (gB G + o0)), (1, .int x1), (2, .int x2), (4, .int x4), (5, .long x5)] [] M := by
  unfold f_X12_cutAll_218
  refine go_aload_n 0 219 dX12_cutAll_218 rfl rfl ?_
  refine go_getR flX12_24 h0 222 dX12_cutAll_219 rfl ?_
  refine go_iload_n 1 223 dX12_cutAll_222 rfl rfl ?_
  refine go_iload_n 2 224 dX12_cutAll_223 rfl rfl ?_
  refine go_iload 3 226 dX12_cutAll_224 rfl rfl ?_
  refine go_isub 227 dX12_cutAll_226 rfl ?_
  refine go_iconst 4 228 dX12_cutAll_227 rfl (by decide) ?_
  refine go_icmp_le 235 231 dX12_cutAll_228 rfl (by decide) (fun _ => ?_) (fun _ => ?_)
  · refine go_iconst 2 236 dX12_cutAll_235 rfl (by decide) ?_
    exact go_lv [0, 1, 2, 4] rfl (s_X12_cutAll_236 w k17 hk17 o0 h0 x1 x2 x5 2 x1 (rF o0 4) (rk12_4 h0) M)
  · refine go_iconst 4 232 dX12_cutAll_231 rfl (by decide) ?_
    refine go_goto 236 dX12_cutAll_232 (by decide) ?_
    exact go_lv [0, 1, 2, 4] rfl (s_X12_cutAll_236 w k17 hk17 o0 h0 x1 x2 x5 4 x1 (rF o0 4) (rk12_4 h0) M)
def f_X12_cutAll_159 (w : Nat) (k17 : Nat → Int32 → Int32 → mM → Option mM) : Nat → Nat → Int32 → Int32 → Int32 → Int64 → mM → Option mM
  | 0, _, _, _, _, _, _ => none
  | n + 1, o0, x1, x2, x4, x5, M => (if (M.1 o0 3) ≤ x2 then (f_X12_cutAll_218 w k17 o0 x1 x2 x4 x5 M) else chk x2 (sL (rF o0 1)) (bI (f_X12_isDigit w (M.1 (rF o0 1) x2.toNatClampNeg) M) fun q2 M1 => (if q2 = 0 then (f_X12_cutAll_218 w k17 o0 x1 x2 x4 x5 M1) else (if 4 ≤ (x2 - x4) then (f_X12_cutAll_159 w k17 n o0 x1 (x2 + 1) x4 x5 M1) else chk x2 (sL (rF o0 1)) (lt (((10 * x5) + ((M1.1 (rF o0 1) x2.toNatClampNeg).toInt64)) - 48) fun y3 => (f_X12_cutAll_159 w k17 n o0 x1 (x2 + 1) x4 y3 M1))))))
set_option maxHeartbeats 4000000 in
set_option maxRecDepth 100000 in
theorem s_X12_cutAll_159 {l : Launch} {G : mG} {sk : List mS} (w : Nat) (k17 : Nat → Int32 → Int32 → mM → Option mM) (hk17 : ∀ (o0 : Nat) (h0 : isK o0 22) (x1 : Int32) (x2 : Int32) (M : mM), Go muX12_cutAll (rm 2) 0 0 l G sk (mFin G sk eV) (k17 o0 x1 x2 M) 17 [(0, .ref (gB G + o0)), (1, .int x1), (2, .int x2)] [] M) : ∀ (n : Nat) (o0 : Nat) (h0 : isK o0 22) (x1 : Int32) (x2 : Int32) (x4 : Int32) (x5 : Int64) (M : mM), Go muX12_cutAll (rm 2) 0 0 l G sk (mFin G sk eV) (f_X12_cutAll_159 w k17 n o0 x1 x2 x4 x5 M) 159 [(0, .ref (gB G + o0)), (1, .int x1), (2, .int x2), (4, .int x4), (5, .long x5)] [] M := by
  intro n
  induction n with
  | zero =>
    intros
    exact go_none
  | succ n ih =>
    intro o0 h0 x1 x2 x4 x5 M
    rw [f_X12_cutAll_159]
    refine go_iload_n 2 160 dX12_cutAll_159 rfl rfl ?_
    refine go_aload_n 0 161 dX12_cutAll_160 rfl rfl ?_
    refine go_getI flX12_143 (by decide) h0 164 dX12_cutAll_161 rfl ?_
    refine go_icmp_ge 218 167 dX12_cutAll_164 rfl (by decide) (fun _ => ?_) (fun _ => ?_)
    · exact go_lv [0, 1, 2, 3, 4] rfl (s_X12_cutAll_218 w k17 hk17 o0 h0 x1 x2 x4 x5 M)
    · refine go_aload_n 0 168 dX12_cutAll_167 rfl rfl ?_
      refine go_getR flX12_14 h0 171 dX12_cutAll_168 rfl ?_
      refine go_iload_n 2 172 dX12_cutAll_171 rfl rfl ?_
      refine go_iald (rk12_1 h0) 173 dX12_cutAll_172 rfl ?_
      refine go_cSI1 0 cwX12_152 (m_X12_isDigit w (M.1 (rF o0 1) x2.toNatClampNeg) M) 176 dX12_cutAll_173 rfl ⟨Nat.le_of_ble_eq_true rfl, Nat.le_of_ble_eq_true rfl⟩ ⟨Nat.zero_le _, Nat.zero_le _⟩ (Nat.le_of_ble_eq_true rfl) (fun q2 M1 _ => ?_)
      refine go_if_eq 218 179 dX12_cutAll_176 rfl (by decide) (fun _ => ?_) (fun _ => ?_)
      · exact go_lv [0, 1, 2, 3, 4] rfl (s_X12_cutAll_218 w k17 hk17 o0 h0 x1 x2 x4 x5 M1)
      · refine go_iload_n 2 180 dX12_cutAll_179 rfl rfl ?_
        refine go_iload 3 182 dX12_cutAll_180 rfl rfl ?_
        refine go_isub 183 dX12_cutAll_182 rfl ?_
        refine go_iconst 4 184 dX12_cutAll_183 rfl (by decide) ?_
        refine go_icmp_ge 208 187 dX12_cutAll_184 rfl (by decide) (fun _ => ?_) (fun _ => ?_)
        · refine go_lload 4 210 dX12_cutAll_208 rfl rfl ?_
          refine go_lstore [(5, .long x5), (0, .ref (gB G + o0)), (1, .int x1), (2, .int x2), (4, .int x4)] 212 dX12_cutAll_210 rfl (by decide) rfl ?_
          refine go_iinc (x2 + 1) 3 [(2, .int (x2 + 1)), (5, .long x5), (0, .ref (gB G + o0)), (1, .int x1), (4, .int x4)] 215 dX12_cutAll_212 rfl rfl rfl (by decide) rfl ?_
          refine go_goto 159 dX12_cutAll_215 (by decide) ?_
          exact go_lv [2, 3, 0, 4, 1] rfl (ih o0 h0 x1 (x2 + 1) x4 x5 M1)
        · refine go_ldc2 klX12_155 190 dX12_cutAll_187 rfl ?_
          refine go_lload 4 192 dX12_cutAll_190 rfl rfl ?_
          refine go_lmul 193 dX12_cutAll_192 rfl ?_
          refine go_aload_n 0 194 dX12_cutAll_193 rfl rfl ?_
          refine go_getR flX12_14 h0 197 dX12_cutAll_194 rfl ?_
          refine go_iload_n 2 198 dX12_cutAll_197 rfl rfl ?_
          refine go_iald (rk12_1 h0) 199 dX12_cutAll_198 rfl ?_
          refine go_i2l 200 dX12_cutAll_199 rfl ?_
          refine go_ladd 201 dX12_cutAll_200 rfl ?_
          refine go_ldc2 klX12_157 204 dX12_cutAll_201 rfl ?_
          refine go_lsub 205 dX12_cutAll_204 rfl ?_
          refine go_goto 210 dX12_cutAll_205 (by decide) ?_
          refine go_nmL (fun y3 => ?_)
          refine go_lstore [(5, .long y3), (0, .ref (gB G + o0)), (1, .int x1), (2, .int x2), (4, .int x4)] 212 dX12_cutAll_210 rfl (by decide) rfl ?_
          refine go_iinc (x2 + 1) 3 [(2, .int (x2 + 1)), (5, .long y3), (0, .ref (gB G + o0)), (1, .int x1), (4, .int x4)] 215 dX12_cutAll_212 rfl rfl rfl (by decide) rfl ?_
          refine go_goto 159 dX12_cutAll_215 (by decide) ?_
          exact go_lv [2, 3, 0, 4, 1] rfl (ih o0 h0 x1 (x2 + 1) x4 y3 M1)
def f_X12_cutAll_261 (w : Nat) (k17 : Nat → Int32 → Int32 → mM → Option mM) (o0 : Nat) (x1 : Int32) (x2 : Int32) (x5 : Int64) (xs0 : Int32) (xs1 : Int32) (os2 : Nat) (M : mM) : Option mM := chk xs1 (sL os2) (lt (wI M os2 xs1.toNatClampNeg xs0) fun M1 => (f_X12_cutAll_265 w k17 o0 x1 (x2 + 1) x5 M1))
set_option maxHeartbeats 4000000 in
set_option maxRecDepth 100000 in
theorem s_X12_cutAll_261 {l : Launch} {G : mG} {sk : List mS} (w : Nat) (k17 : Nat → Int32 → Int32 → mM → Option mM) (hk17 : ∀ (o0 : Nat) (h0 : isK o0 22) (x1 : Int32) (x2 : Int32) (M : mM), Go muX12_cutAll (rm 2) 0 0 l G sk (mFin G sk eV) (k17 o0 x1 x2 M) 17 [(0, .ref (gB G + o0)), (1, .int x1), (2, .int x2)] [] M) (o0 : Nat) (h0 : isK o0 22) (x1 : Int32) (x2 : Int32) (x5 : Int64) (xs0 : Int32) (xs1 : Int32) (os2 : Nat) (hs2 : isK os2 0) (M : mM) : Go muX12_cutAll (rm 2) 0 0 l G sk (mFin G sk eV) (f_X12_cutAll_261 w k17 o0 x1 x2 x5 xs0 xs1 os2 M) 261 [(0, .ref (gB G + o0)), (1, .int x1), (2, .int x2), (5, .long x5)] [.int xs0, .int xs1, .ref (gB G + os2)] M := by
  unfold f_X12_cutAll_261
  refine go_iast hs2 262 dX12_cutAll_261 rfl ?_
  refine go_nmM (fun M1 => ?_)
  refine go_iinc (x2 + 1) 2 [(2, .int (x2 + 1)), (0, .ref (gB G + o0)), (1, .int x1), (5, .long x5)] 265 dX12_cutAll_262 rfl rfl rfl (by decide) rfl ?_
  exact go_lv [1, 2, 0, 3] rfl (s_X12_cutAll_265 w k17 hk17 o0 h0 x1 (x2 + 1) x5 M1)
def f_X12_cutAll_279 (w : Nat) (o0 : Nat) (x1 : Int32) (M : mM) : Option mM := chk x1 (sL (rF o0 4)) (lt (wI M (rF o0 4) x1.toNatClampNeg 0) fun M1 => chk x1 (sL (rF o0 5)) (lt (wI M1 (rF o0 5) x1.toNatClampNeg (M1.1 o0 3)) fun M2 => lt (wI M2 o0 7 0) fun M3 => lt (wI M3 o0 8 0) fun M4 => some M4))
set_option maxHeartbeats 4000000 in
set_option maxRecDepth 100000 in
theorem s_X12_cutAll_279 {l : Launch} {G : mG} {sk : List mS} (w : Nat) (o0 : Nat) (h0 : isK o0 22) (x1 : Int32) (M : mM) : Go muX12_cutAll (rm 2) 0 0 l G sk (mFin G sk eV) (f_X12_cutAll_279 w o0 x1 M) 279 [(0, .ref (gB G + o0)), (1, .int x1)] [] M := by
  unfold f_X12_cutAll_279
  refine go_aload_n 0 280 dX12_cutAll_279 rfl rfl ?_
  refine go_getR flX12_24 h0 283 dX12_cutAll_280 rfl ?_
  refine go_iload_n 1 284 dX12_cutAll_283 rfl rfl ?_
  refine go_iconst 0 285 dX12_cutAll_284 rfl (by decide) ?_
  refine go_iast (rk12_4 h0) 286 dX12_cutAll_285 rfl ?_
  refine go_nmM (fun M1 => ?_)
  refine go_aload_n 0 287 dX12_cutAll_286 rfl rfl ?_
  refine go_getR flX12_27 h0 290 dX12_cutAll_287 rfl ?_
  refine go_iload_n 1 291 dX12_cutAll_290 rfl rfl ?_
  refine go_aload_n 0 292 dX12_cutAll_291 rfl rfl ?_
  refine go_getI flX12_143 (by decide) h0 295 dX12_cutAll_292 rfl ?_
  refine go_iast (rk12_5 h0) 296 dX12_cutAll_295 rfl ?_
  refine go_nmM (fun M2 => ?_)
  refine go_aload_n 0 297 dX12_cutAll_296 rfl rfl ?_
  refine go_iconst 0 298 dX12_cutAll_297 rfl (by decide) ?_
  refine go_putI flX12_162 rfl rfl h0 301 dX12_cutAll_298 rfl ?_
  refine go_nmM (fun M3 => ?_)
  refine go_aload_n 0 302 dX12_cutAll_301 rfl rfl ?_
  refine go_iconst 0 303 dX12_cutAll_302 rfl (by decide) ?_
  refine go_putI flX12_165 rfl rfl h0 306 dX12_cutAll_303 rfl ?_
  refine go_nmM (fun M4 => ?_)
  exact go_vret rfl dX12_cutAll_306
def f_X12_cutAll_17 (w : Nat) : Nat → Nat → Int32 → Int32 → mM → Option mM
  | 0, _, _, _, _ => none
  | n + 1, o0, x1, x2, M => (if (M.1 o0 3) ≤ x2 then (f_X12_cutAll_279 w o0 x1 M) else chk x2 (sL (rF o0 1)) (lt (M.1 (rF o0 1) x2.toNatClampNeg) fun y1 => (if y1 = 10 then (f_X12_cutAll_17 w n o0 x1 (x2 + 1) M) else (if y1 = 32 then (f_X12_cutAll_17 w n o0 x1 (x2 + 1) M) else chk x1 (sL (rF o0 5)) (lt (wI M (rF o0 5) x1.toNatClampNeg x2) fun M2 => bI (f_X12_isLetter w y1 M2) fun q4 M3 => (if q4 = 0 then bI (f_X12_isDigit w y1 M3) fun q6 M5 => (if q6 = 0 then lt (y1.toInt64) fun y7 => bI (f_X12_isSignOf w y1 M5) fun q9 M8 => (if q9 = 0 then (f_X12_cutAll_261 w (f_X12_cutAll_17 w n) o0 x1 x2 y7 4 x1 (rF o0 4) M8) else (f_X12_cutAll_261 w (f_X12_cutAll_17 w n) o0 x1 x2 y7 3 x1 (rF o0 4) M8)) else (f_X12_cutAll_159 w (f_X12_cutAll_17 w n) w o0 x1 x2 x2 0 M5)) else (f_X12_cutAll_70 w (f_X12_cutAll_17 w n) w o0 x1 x2 x2 0 M3)))))))
set_option maxHeartbeats 4000000 in
set_option maxRecDepth 100000 in
theorem s_X12_cutAll_17 {l : Launch} {G : mG} {sk : List mS} (w : Nat) : ∀ (n : Nat) (o0 : Nat) (h0 : isK o0 22) (x1 : Int32) (x2 : Int32) (M : mM), Go muX12_cutAll (rm 2) 0 0 l G sk (mFin G sk eV) (f_X12_cutAll_17 w n o0 x1 x2 M) 17 [(0, .ref (gB G + o0)), (1, .int x1), (2, .int x2)] [] M := by
  intro n
  induction n with
  | zero =>
    intros
    exact go_none
  | succ n ih =>
    intro o0 h0 x1 x2 M
    rw [f_X12_cutAll_17]
    refine go_iload_n 2 18 dX12_cutAll_17 rfl rfl ?_
    refine go_aload_n 0 19 dX12_cutAll_18 rfl rfl ?_
    refine go_getI flX12_143 (by decide) h0 22 dX12_cutAll_19 rfl ?_
    refine go_icmp_ge 279 25 dX12_cutAll_22 rfl (by decide) (fun _ => ?_) (fun _ => ?_)
    · exact go_lv [0, 1] rfl (s_X12_cutAll_279 w o0 h0 x1 M)
    · refine go_aload_n 0 26 dX12_cutAll_25 rfl rfl ?_
      refine go_getR flX12_14 h0 29 dX12_cutAll_26 rfl ?_
      refine go_iload_n 2 30 dX12_cutAll_29 rfl rfl ?_
      refine go_iald (rk12_1 h0) 31 dX12_cutAll_30 rfl ?_
      refine go_nmI (fun y1 => ?_)
      refine go_istore_n [(3, .int y1), (0, .ref (gB G + o0)), (1, .int x1), (2, .int x2)] 32 dX12_cutAll_31 rfl rfl (by decide) rfl ?_
      refine go_iload_n 0 33 dX12_cutAll_32 rfl rfl ?_
      refine go_bipush 10 35 dX12_cutAll_33 rfl (by decide) ?_
      refine go_icmp_eq 44 38 dX12_cutAll_35 rfl (by decide) (fun _ => ?_) (fun _ => ?_)
      · refine go_iinc (x2 + 1) 3 [(2, .int (x2 + 1)), (3, .int y1), (0, .ref (gB G + o0)), (1, .int x1)] 47 dX12_cutAll_44 rfl rfl rfl (by decide) rfl ?_
        refine go_goto 17 dX12_cutAll_47 (by decide) ?_
        exact go_lv [2, 3, 0] rfl (ih o0 h0 x1 (x2 + 1) M)
      · refine go_iload_n 0 39 dX12_cutAll_38 rfl rfl ?_
        refine go_bipush 32 41 dX12_cutAll_39 rfl (by decide) ?_
        refine go_icmp_ne 50 44 dX12_cutAll_41 rfl (by decide) (fun _ => ?_) (fun _ => ?_)
        · refine go_iload_n 3 51 dX12_cutAll_50 rfl rfl ?_
          refine go_istore [(4, .int x2), (3, .int y1), (0, .ref (gB G + o0)), (1, .int x1), (2, .int x2)] 53 dX12_cutAll_51 rfl (by decide) rfl ?_
          refine go_lconst 0 54 dX12_cutAll_53 rfl (by decide) ?_
          refine go_lstore [(5, .long 0), (4, .int x2), (3, .int y1), (0, .ref (gB G + o0)), (1, .int x1), (2, .int x2)] 56 dX12_cutAll_54 rfl (by decide) rfl ?_
          refine go_aload_n 3 57 dX12_cutAll_56 rfl rfl ?_
          refine go_getR flX12_27 h0 60 dX12_cutAll_57 rfl ?_
          refine go_iload_n 4 61 dX12_cutAll_60 rfl rfl ?_
          refine go_iload_n 5 62 dX12_cutAll_61 rfl rfl ?_
          refine go_iast (rk12_5 h0) 63 dX12_cutAll_62 rfl ?_
          refine go_nmM (fun M2 => ?_)
          refine go_iload_n 2 64 dX12_cutAll_63 rfl rfl ?_
          refine go_cSI1 0 cwX12_139 (m_X12_isLetter w y1 M2) 67 dX12_cutAll_64 rfl ⟨Nat.le_of_ble_eq_true rfl, Nat.le_of_ble_eq_true rfl⟩ ⟨Nat.zero_le _, Nat.zero_le _⟩ (Nat.le_of_ble_eq_true rfl) (fun q4 M3 _ => ?_)
          refine go_if_eq 152 70 dX12_cutAll_67 rfl (by decide) (fun _ => ?_) (fun _ => ?_)
          · refine go_iload_n 2 153 dX12_cutAll_152 rfl rfl ?_
            refine go_cSI1 0 cwX12_152 (m_X12_isDigit w y1 M3) 156 dX12_cutAll_153 rfl ⟨Nat.le_of_ble_eq_true rfl, Nat.le_of_ble_eq_true rfl⟩ ⟨Nat.zero_le _, Nat.zero_le _⟩ (Nat.le_of_ble_eq_true rfl) (fun q6 M5 _ => ?_)
            refine go_if_eq 240 159 dX12_cutAll_156 rfl (by decide) (fun _ => ?_) (fun _ => ?_)
            · refine go_iload_n 2 241 dX12_cutAll_240 rfl rfl ?_
              refine go_i2l 242 dX12_cutAll_241 rfl ?_
              refine go_nmL (fun y7 => ?_)
              refine go_lstore [(5, .long y7), (4, .int x2), (3, .int y1), (0, .ref (gB G + o0)), (1, .int x1), (2, .int x2)] 244 dX12_cutAll_242 rfl (by decide) rfl ?_
              refine go_aload_n 3 245 dX12_cutAll_244 rfl rfl ?_
              refine go_getR flX12_24 h0 248 dX12_cutAll_245 rfl ?_
              refine go_iload_n 4 249 dX12_cutAll_248 rfl rfl ?_
              refine go_iload_n 2 250 dX12_cutAll_249 rfl rfl ?_
              refine go_cSI1 0 cwX12_159 (m_X12_isSignOf w y1 M5) 253 dX12_cutAll_250 rfl ⟨Nat.le_of_ble_eq_true rfl, Nat.le_of_ble_eq_true rfl⟩ ⟨Nat.zero_le _, Nat.zero_le _⟩ (Nat.le_of_ble_eq_true rfl) (fun q9 M8 _ => ?_)
              refine go_if_eq 260 256 dX12_cutAll_253 rfl (by decide) (fun _ => ?_) (fun _ => ?_)
              · refine go_iconst 4 261 dX12_cutAll_260 rfl (by decide) ?_
                exact go_lv [3, 4, 5, 0] rfl (s_X12_cutAll_261 w (f_X12_cutAll_17 w n) (fun o0 h0 x1 x2 M => ih o0 h0 x1 x2 M) o0 h0 x1 x2 y7 4 x1 (rF o0 4) (rk12_4 h0) M8)
              · refine go_iconst 3 257 dX12_cutAll_256 rfl (by decide) ?_
                refine go_goto 261 dX12_cutAll_257 (by decide) ?_
                exact go_lv [3, 4, 5, 0] rfl (s_X12_cutAll_261 w (f_X12_cutAll_17 w n) (fun o0 h0 x1 x2 M => ih o0 h0 x1 x2 M) o0 h0 x1 x2 y7 3 x1 (rF o0 4) (rk12_4 h0) M8)
            · exact go_lv [3, 4, 5, 1, 0] rfl (s_X12_cutAll_159 w (f_X12_cutAll_17 w n) (fun o0 h0 x1 x2 M => ih o0 h0 x1 x2 M) w o0 h0 x1 x2 x2 0 M5)
          · exact go_lv [3, 4, 5, 1, 0] rfl (s_X12_cutAll_70 w (f_X12_cutAll_17 w n) (fun o0 h0 x1 x2 M => ih o0 h0 x1 x2 M) w o0 h0 x1 x2 x2 0 M3)
        · refine go_iinc (x2 + 1) 3 [(2, .int (x2 + 1)), (3, .int y1), (0, .ref (gB G + o0)), (1, .int x1)] 47 dX12_cutAll_44 rfl rfl rfl (by decide) rfl ?_
          refine go_goto 17 dX12_cutAll_47 (by decide) ?_
          exact go_lv [2, 3, 0] rfl (ih o0 h0 x1 (x2 + 1) M)
def f_X12_cutAll (w : Nat) (o0 : Nat) (M : mM) : Option mM := lt (wI M o0 3 (M.1 o0 2)) fun M1 => lt (wI M1 o0 2 0) fun M2 => (f_X12_cutAll_17 w w o0 0 0 M2)
set_option maxHeartbeats 4000000 in
set_option maxRecDepth 100000 in
theorem s_X12_cutAll {l : Launch} {G : mG} {sk : List mS} (w : Nat) (o0 : Nat) (h0 : isK o0 22) (M : mM) : Go muX12_cutAll (rm 2) 0 0 l G sk (mFin G sk eV) (f_X12_cutAll w o0 M) 0 [(0, .ref (gB G + o0))] [] M := by
  unfold f_X12_cutAll
  refine go_aload_n 0 1 dX12_cutAll_0 rfl rfl ?_
  refine go_aload_n 0 2 dX12_cutAll_1 rfl rfl ?_
  refine go_getI flX12_11 (by decide) h0 5 dX12_cutAll_2 rfl ?_
  refine go_putI flX12_143 rfl rfl h0 8 dX12_cutAll_5 rfl ?_
  refine go_nmM (fun M1 => ?_)
  refine go_aload_n 0 9 dX12_cutAll_8 rfl rfl ?_
  refine go_iconst 0 10 dX12_cutAll_9 rfl (by decide) ?_
  refine go_putI flX12_11 rfl rfl h0 13 dX12_cutAll_10 rfl ?_
  refine go_nmM (fun M2 => ?_)
  refine go_iconst 0 14 dX12_cutAll_13 rfl (by decide) ?_
  refine go_istore_n [(1, .int 0), (0, .ref (gB G + o0))] 15 dX12_cutAll_14 rfl rfl (by decide) rfl ?_
  refine go_iconst 0 16 dX12_cutAll_15 rfl (by decide) ?_
  refine go_istore_n [(2, .int 0), (1, .int 0), (0, .ref (gB G + o0))] 17 dX12_cutAll_16 rfl rfl (by decide) rfl ?_
  exact go_lv [2, 1, 0] rfl (s_X12_cutAll_17 w w o0 h0 0 0 M2)
theorem m_X12_cutAll {l : Launch} {G : mG} {sk : List mS} (w : Nat) (o0 : Nat) (h0 : isK o0 22) (M : mM) : Mt l G sk yX12_cutAll muX12_cutAll 2 [.ref (gB G + o0)] M eV (f_X12_cutAll w o0 M) := Mt.of (by decide) rfl (Nat.le_of_ble_eq_true rfl) (s_X12_cutAll w o0 h0 M)
theorem dX12_wrong_0 : decode cX12_wrong 0 = .ok (.aload_n 0, 1) := by decide +kernel
theorem dX12_wrong_1 : decode cX12_wrong 1 = .ok (.getfield 165, 3) := by decide +kernel
theorem dX12_wrong_4 : decode cX12_wrong 4 = .ok (.ifCond .ne 21, 3) := by decide +kernel
theorem dX12_wrong_7 : decode cX12_wrong 7 = .ok (.aload_n 0, 1) := by decide +kernel
theorem dX12_wrong_8 : decode cX12_wrong 8 = .ok (.iload_n 1, 1) := by decide +kernel
theorem dX12_wrong_9 : decode cX12_wrong 9 = .ok (.bipush 16, 2) := by decide +kernel
theorem dX12_wrong_11 : decode cX12_wrong 11 = .ok (.aload_n 0, 1) := by decide +kernel
theorem dX12_wrong_12 : decode cX12_wrong 12 = .ok (.getfield 27, 3) := by decide +kernel
theorem dX12_wrong_15 : decode cX12_wrong 15 = .ok (.aload_n 0, 1) := by decide +kernel
theorem dX12_wrong_16 : decode cX12_wrong 16 = .ok (.getfield 162, 3) := by decide +kernel
theorem dX12_wrong_19 : decode cX12_wrong 19 = .ok (.iaload, 1) := by decide +kernel
theorem dX12_wrong_20 : decode cX12_wrong 20 = .ok (.imul, 1) := by decide +kernel
theorem dX12_wrong_21 : decode cX12_wrong 21 = .ok (.iadd, 1) := by decide +kernel
theorem dX12_wrong_22 : decode cX12_wrong 22 = .ok (.putfield 165, 3) := by decide +kernel
theorem dX12_wrong_25 : decode cX12_wrong 25 = .ok (.return_, 1) := by decide +kernel
def f_X12_wrong (w : Nat) (o0 : Nat) (x1 : Int32) (M : mM) : Option mM := (if (M.1 o0 8) = 0 then chk (M.1 o0 7) (sL (rF o0 5)) (lt (wI M o0 8 (x1 + (16 * (M.1 (rF o0 5) (M.1 o0 7).toNatClampNeg)))) fun M1 => some M1) else some M)
set_option maxHeartbeats 4000000 in
set_option maxRecDepth 100000 in
theorem s_X12_wrong {l : Launch} {G : mG} {sk : List mS} (w : Nat) (o0 : Nat) (h0 : isK o0 22) (x1 : Int32) (M : mM) : Go muX12_wrong (rm 0) 0 0 l G sk (mFin G sk eV) (f_X12_wrong w o0 x1 M) 0 [(0, .ref (gB G + o0)), (1, .int x1)] [] M := by
  unfold f_X12_wrong
  refine go_aload_n 0 1 dX12_wrong_0 rfl rfl ?_
  refine go_getI flX12_165 (by decide) h0 4 dX12_wrong_1 rfl ?_
  refine go_if_ne 25 7 dX12_wrong_4 rfl (by decide) (fun _ => ?_) (fun _ => ?_)
  · exact go_vret rfl dX12_wrong_25
  · refine go_aload_n 0 8 dX12_wrong_7 rfl rfl ?_
    refine go_iload_n 1 9 dX12_wrong_8 rfl rfl ?_
    refine go_bipush 16 11 dX12_wrong_9 rfl (by decide) ?_
    refine go_aload_n 0 12 dX12_wrong_11 rfl rfl ?_
    refine go_getR flX12_27 h0 15 dX12_wrong_12 rfl ?_
    refine go_aload_n 0 16 dX12_wrong_15 rfl rfl ?_
    refine go_getI flX12_162 (by decide) h0 19 dX12_wrong_16 rfl ?_
    refine go_iald (rk12_5 h0) 20 dX12_wrong_19 rfl ?_
    refine go_imul 21 dX12_wrong_20 rfl ?_
    refine go_iadd 22 dX12_wrong_21 rfl ?_
    refine go_putI flX12_165 rfl rfl h0 25 dX12_wrong_22 rfl ?_
    refine go_nmM (fun M1 => ?_)
    exact go_vret rfl dX12_wrong_25
theorem m_X12_wrong {l : Launch} {G : mG} {sk : List mS} (w : Nat) (o0 : Nat) (h0 : isK o0 22) (x1 : Int32) (M : mM) : Mt l G sk yX12_wrong muX12_wrong 0 [.ref (gB G + o0), .int x1] M eV (f_X12_wrong w o0 x1 M) := Mt.of (by decide) rfl (Nat.le_of_ble_eq_true rfl) (s_X12_wrong w o0 h0 x1 M)
theorem dX12_isSign_0 : decode cX12_isSign 0 = .ok (.aload_n 0, 1) := by decide +kernel
theorem dX12_isSign_1 : decode cX12_isSign 1 = .ok (.getfield 165, 3) := by decide +kernel
theorem dX12_isSign_4 : decode cX12_isSign 4 = .ok (.ifCond .ne 35, 3) := by decide +kernel
theorem dX12_isSign_7 : decode cX12_isSign 7 = .ok (.aload_n 0, 1) := by decide +kernel
theorem dX12_isSign_8 : decode cX12_isSign 8 = .ok (.getfield 24, 3) := by decide +kernel
theorem dX12_isSign_11 : decode cX12_isSign 11 = .ok (.aload_n 0, 1) := by decide +kernel
theorem dX12_isSign_12 : decode cX12_isSign 12 = .ok (.getfield 162, 3) := by decide +kernel
theorem dX12_isSign_15 : decode cX12_isSign 15 = .ok (.iaload, 1) := by decide +kernel
theorem dX12_isSign_16 : decode cX12_isSign 16 = .ok (.iconst 3, 1) := by decide +kernel
theorem dX12_isSign_17 : decode cX12_isSign 17 = .ok (.if_icmp .ne 22, 3) := by decide +kernel
theorem dX12_isSign_20 : decode cX12_isSign 20 = .ok (.aload_n 0, 1) := by decide +kernel
theorem dX12_isSign_21 : decode cX12_isSign 21 = .ok (.getfield 30, 3) := by decide +kernel
theorem dX12_isSign_24 : decode cX12_isSign 24 = .ok (.aload_n 0, 1) := by decide +kernel
theorem dX12_isSign_25 : decode cX12_isSign 25 = .ok (.getfield 162, 3) := by decide +kernel
theorem dX12_isSign_28 : decode cX12_isSign 28 = .ok (.laload, 1) := by decide +kernel
theorem dX12_isSign_29 : decode cX12_isSign 29 = .ok (.iload_n 1, 1) := by decide +kernel
theorem dX12_isSign_30 : decode cX12_isSign 30 = .ok (.i2l, 1) := by decide +kernel
theorem dX12_isSign_31 : decode cX12_isSign 31 = .ok (.lcmp, 1) := by decide +kernel
theorem dX12_isSign_32 : decode cX12_isSign 32 = .ok (.ifCond .ne 7, 3) := by decide +kernel
theorem dX12_isSign_35 : decode cX12_isSign 35 = .ok (.iconst 1, 1) := by decide +kernel
theorem dX12_isSign_36 : decode cX12_isSign 36 = .ok (.goto 4, 3) := by decide +kernel
theorem dX12_isSign_39 : decode cX12_isSign 39 = .ok (.iconst 0, 1) := by decide +kernel
theorem dX12_isSign_40 : decode cX12_isSign 40 = .ok (.ireturn, 1) := by decide +kernel
def f_X12_isSign (w : Nat) (o0 : Nat) (x1 : Int32) (M : mM) : Option (Int32 × mM) := (if (M.1 o0 8) = 0 then chk (M.1 o0 7) (sL (rF o0 4)) ((if (M.1 (rF o0 4) (M.1 o0 7).toNatClampNeg) = 3 then chk (M.1 o0 7) (sL (rF o0 6)) ((if (lg_cmp (M.2 (rF o0 6) (M.1 o0 7).toNatClampNeg) (x1.toInt64)) = 0 then rtB 1 M else rtB 0 M)) else rtB 0 M)) else rtB 0 M)
set_option maxHeartbeats 4000000 in
set_option maxRecDepth 100000 in
theorem s_X12_isSign {l : Launch} {G : mG} {sk : List mS} (w : Nat) (o0 : Nat) (h0 : isK o0 22) (x1 : Int32) (M : mM) : Go muX12_isSign (rm 0) 0 0 l G sk (mFin G sk eI) (f_X12_isSign w o0 x1 M) 0 [(0, .ref (gB G + o0)), (1, .int x1)] [] M := by
  unfold f_X12_isSign
  refine go_aload_n 0 1 dX12_isSign_0 rfl rfl ?_
  refine go_getI flX12_165 (by decide) h0 4 dX12_isSign_1 rfl ?_
  refine go_if_ne 39 7 dX12_isSign_4 rfl (by decide) (fun _ => ?_) (fun _ => ?_)
  · refine go_iconst 0 40 dX12_isSign_39 rfl (by decide) ?_
    exact go_zret rfl dX12_isSign_40
  · refine go_aload_n 0 8 dX12_isSign_7 rfl rfl ?_
    refine go_getR flX12_24 h0 11 dX12_isSign_8 rfl ?_
    refine go_aload_n 0 12 dX12_isSign_11 rfl rfl ?_
    refine go_getI flX12_162 (by decide) h0 15 dX12_isSign_12 rfl ?_
    refine go_iald (rk12_4 h0) 16 dX12_isSign_15 rfl ?_
    refine go_iconst 3 17 dX12_isSign_16 rfl (by decide) ?_
    refine go_icmp_ne 39 20 dX12_isSign_17 rfl (by decide) (fun _ => ?_) (fun _ => ?_)
    · refine go_iconst 0 40 dX12_isSign_39 rfl (by decide) ?_
      exact go_zret rfl dX12_isSign_40
    · refine go_aload_n 0 21 dX12_isSign_20 rfl rfl ?_
      refine go_getR flX12_30 h0 24 dX12_isSign_21 rfl ?_
      refine go_aload_n 0 25 dX12_isSign_24 rfl rfl ?_
      refine go_getI flX12_162 (by decide) h0 28 dX12_isSign_25 rfl ?_
      refine go_lald (rk12_6 h0) 29 dX12_isSign_28 rfl ?_
      refine go_iload_n 1 30 dX12_isSign_29 rfl rfl ?_
      refine go_i2l 31 dX12_isSign_30 rfl ?_
      refine go_lcmp 32 dX12_isSign_31 rfl ?_
      refine go_if_ne 39 35 dX12_isSign_32 rfl (by decide) (fun _ => ?_) (fun _ => ?_)
      · refine go_iconst 0 40 dX12_isSign_39 rfl (by decide) ?_
        exact go_zret rfl dX12_isSign_40
      · refine go_iconst 1 36 dX12_isSign_35 rfl (by decide) ?_
        refine go_goto 40 dX12_isSign_36 (by decide) ?_
        exact go_zret rfl dX12_isSign_40
theorem m_X12_isSign {l : Launch} {G : mG} {sk : List mS} (w : Nat) (o0 : Nat) (h0 : isK o0 22) (x1 : Int32) (M : mM) : Mt l G sk yX12_isSign muX12_isSign 0 [.ref (gB G + o0), .int x1] M eI (f_X12_isSign w o0 x1 M) := Mt.of (by decide) rfl (Nat.le_of_ble_eq_true rfl) (s_X12_isSign w o0 h0 x1 M)
theorem dX12_isWord_0 : decode cX12_isWord 0 = .ok (.aload_n 0, 1) := by decide +kernel
theorem dX12_isWord_1 : decode cX12_isWord 1 = .ok (.getfield 165, 3) := by decide +kernel
theorem dX12_isWord_4 : decode cX12_isWord 4 = .ok (.ifCond .ne 39, 3) := by decide +kernel
theorem dX12_isWord_7 : decode cX12_isWord 7 = .ok (.aload_n 0, 1) := by decide +kernel
theorem dX12_isWord_8 : decode cX12_isWord 8 = .ok (.getfield 24, 3) := by decide +kernel
theorem dX12_isWord_11 : decode cX12_isWord 11 = .ok (.aload_n 0, 1) := by decide +kernel
theorem dX12_isWord_12 : decode cX12_isWord 12 = .ok (.getfield 162, 3) := by decide +kernel
theorem dX12_isWord_15 : decode cX12_isWord 15 = .ok (.iaload, 1) := by decide +kernel
theorem dX12_isWord_16 : decode cX12_isWord 16 = .ok (.iconst 1, 1) := by decide +kernel
theorem dX12_isWord_17 : decode cX12_isWord 17 = .ok (.if_icmp .ne 26, 3) := by decide +kernel
theorem dX12_isWord_20 : decode cX12_isWord 20 = .ok (.aload_n 0, 1) := by decide +kernel
theorem dX12_isWord_21 : decode cX12_isWord 21 = .ok (.getfield 30, 3) := by decide +kernel
theorem dX12_isWord_24 : decode cX12_isWord 24 = .ok (.aload_n 0, 1) := by decide +kernel
theorem dX12_isWord_25 : decode cX12_isWord 25 = .ok (.getfield 162, 3) := by decide +kernel
theorem dX12_isWord_28 : decode cX12_isWord 28 = .ok (.laload, 1) := by decide +kernel
theorem dX12_isWord_29 : decode cX12_isWord 29 = .ok (.aload_n 0, 1) := by decide +kernel
theorem dX12_isWord_30 : decode cX12_isWord 30 = .ok (.getfield 80, 3) := by decide +kernel
theorem dX12_isWord_33 : decode cX12_isWord 33 = .ok (.iload_n 1, 1) := by decide +kernel
theorem dX12_isWord_34 : decode cX12_isWord 34 = .ok (.laload, 1) := by decide +kernel
theorem dX12_isWord_35 : decode cX12_isWord 35 = .ok (.lcmp, 1) := by decide +kernel
theorem dX12_isWord_36 : decode cX12_isWord 36 = .ok (.ifCond .ne 7, 3) := by decide +kernel
theorem dX12_isWord_39 : decode cX12_isWord 39 = .ok (.iconst 1, 1) := by decide +kernel
theorem dX12_isWord_40 : decode cX12_isWord 40 = .ok (.goto 4, 3) := by decide +kernel
theorem dX12_isWord_43 : decode cX12_isWord 43 = .ok (.iconst 0, 1) := by decide +kernel
theorem dX12_isWord_44 : decode cX12_isWord 44 = .ok (.ireturn, 1) := by decide +kernel
def f_X12_isWord (w : Nat) (o0 : Nat) (x1 : Int32) (M : mM) : Option (Int32 × mM) := (if (M.1 o0 8) = 0 then chk (M.1 o0 7) (sL (rF o0 4)) ((if (M.1 (rF o0 4) (M.1 o0 7).toNatClampNeg) = 1 then chk (M.1 o0 7) (sL (rF o0 6)) (chk x1 (sL (rF o0 9)) ((if (lg_cmp (M.2 (rF o0 6) (M.1 o0 7).toNatClampNeg) (M.2 (rF o0 9) x1.toNatClampNeg)) = 0 then rtB 1 M else rtB 0 M))) else rtB 0 M)) else rtB 0 M)
set_option maxHeartbeats 4000000 in
set_option maxRecDepth 100000 in
theorem s_X12_isWord {l : Launch} {G : mG} {sk : List mS} (w : Nat) (o0 : Nat) (h0 : isK o0 22) (x1 : Int32) (M : mM) : Go muX12_isWord (rm 0) 0 0 l G sk (mFin G sk eI) (f_X12_isWord w o0 x1 M) 0 [(0, .ref (gB G + o0)), (1, .int x1)] [] M := by
  unfold f_X12_isWord
  refine go_aload_n 0 1 dX12_isWord_0 rfl rfl ?_
  refine go_getI flX12_165 (by decide) h0 4 dX12_isWord_1 rfl ?_
  refine go_if_ne 43 7 dX12_isWord_4 rfl (by decide) (fun _ => ?_) (fun _ => ?_)
  · refine go_iconst 0 44 dX12_isWord_43 rfl (by decide) ?_
    exact go_zret rfl dX12_isWord_44
  · refine go_aload_n 0 8 dX12_isWord_7 rfl rfl ?_
    refine go_getR flX12_24 h0 11 dX12_isWord_8 rfl ?_
    refine go_aload_n 0 12 dX12_isWord_11 rfl rfl ?_
    refine go_getI flX12_162 (by decide) h0 15 dX12_isWord_12 rfl ?_
    refine go_iald (rk12_4 h0) 16 dX12_isWord_15 rfl ?_
    refine go_iconst 1 17 dX12_isWord_16 rfl (by decide) ?_
    refine go_icmp_ne 43 20 dX12_isWord_17 rfl (by decide) (fun _ => ?_) (fun _ => ?_)
    · refine go_iconst 0 44 dX12_isWord_43 rfl (by decide) ?_
      exact go_zret rfl dX12_isWord_44
    · refine go_aload_n 0 21 dX12_isWord_20 rfl rfl ?_
      refine go_getR flX12_30 h0 24 dX12_isWord_21 rfl ?_
      refine go_aload_n 0 25 dX12_isWord_24 rfl rfl ?_
      refine go_getI flX12_162 (by decide) h0 28 dX12_isWord_25 rfl ?_
      refine go_lald (rk12_6 h0) 29 dX12_isWord_28 rfl ?_
      refine go_aload_n 0 30 dX12_isWord_29 rfl rfl ?_
      refine go_getR flX12_80 h0 33 dX12_isWord_30 rfl ?_
      refine go_iload_n 1 34 dX12_isWord_33 rfl rfl ?_
      refine go_lald (rk12_9 h0) 35 dX12_isWord_34 rfl ?_
      refine go_lcmp 36 dX12_isWord_35 rfl ?_
      refine go_if_ne 43 39 dX12_isWord_36 rfl (by decide) (fun _ => ?_) (fun _ => ?_)
      · refine go_iconst 0 44 dX12_isWord_43 rfl (by decide) ?_
        exact go_zret rfl dX12_isWord_44
      · refine go_iconst 1 40 dX12_isWord_39 rfl (by decide) ?_
        refine go_goto 44 dX12_isWord_40 (by decide) ?_
        exact go_zret rfl dX12_isWord_44
theorem m_X12_isWord {l : Launch} {G : mG} {sk : List mS} (w : Nat) (o0 : Nat) (h0 : isK o0 22) (x1 : Int32) (M : mM) : Mt l G sk yX12_isWord muX12_isWord 0 [.ref (gB G + o0), .int x1] M eI (f_X12_isWord w o0 x1 M) := Mt.of (by decide) rfl (Nat.le_of_ble_eq_true rfl) (s_X12_isWord w o0 h0 x1 M)
theorem dX12_takeSign_0 : decode cX12_takeSign 0 = .ok (.aload_n 0, 1) := by decide +kernel
theorem dX12_takeSign_1 : decode cX12_takeSign 1 = .ok (.iload_n 1, 1) := by decide +kernel
theorem dX12_takeSign_2 : decode cX12_takeSign 2 = .ok (.invokevirtual 168, 3) := by decide +kernel
theorem dX12_takeSign_5 : decode cX12_takeSign 5 = .ok (.ifCond .eq 16, 3) := by decide +kernel
theorem dX12_takeSign_8 : decode cX12_takeSign 8 = .ok (.aload_n 0, 1) := by decide +kernel
theorem dX12_takeSign_9 : decode cX12_takeSign 9 = .ok (.dup, 1) := by decide +kernel
theorem dX12_takeSign_10 : decode cX12_takeSign 10 = .ok (.getfield 162, 3) := by decide +kernel
theorem dX12_takeSign_13 : decode cX12_takeSign 13 = .ok (.iconst 1, 1) := by decide +kernel
theorem dX12_takeSign_14 : decode cX12_takeSign 14 = .ok (.iadd, 1) := by decide +kernel
theorem dX12_takeSign_15 : decode cX12_takeSign 15 = .ok (.putfield 162, 3) := by decide +kernel
theorem dX12_takeSign_18 : decode cX12_takeSign 18 = .ok (.goto 8, 3) := by decide +kernel
theorem dX12_takeSign_21 : decode cX12_takeSign 21 = .ok (.aload_n 0, 1) := by decide +kernel
theorem dX12_takeSign_22 : decode cX12_takeSign 22 = .ok (.iconst 1, 1) := by decide +kernel
theorem dX12_takeSign_23 : decode cX12_takeSign 23 = .ok (.invokevirtual 171, 3) := by decide +kernel
theorem dX12_takeSign_26 : decode cX12_takeSign 26 = .ok (.return_, 1) := by decide +kernel
def f_X12_takeSign (w : Nat) (o0 : Nat) (x1 : Int32) (M : mM) : Option mM := bI (f_X12_isSign w o0 x1 M) fun q2 M1 => (if q2 = 0 then bV (f_X12_wrong w o0 1 M1) fun M3 => some M3 else lt (wI M1 o0 7 ((M1.1 o0 7) + 1)) fun M4 => some M4)
set_option maxHeartbeats 4000000 in
set_option maxRecDepth 100000 in
theorem s_X12_takeSign {l : Launch} {G : mG} {sk : List mS} (w : Nat) (o0 : Nat) (h0 : isK o0 22) (x1 : Int32) (M : mM) : Go muX12_takeSign (rm 1) 0 0 l G sk (mFin G sk eV) (f_X12_takeSign w o0 x1 M) 0 [(0, .ref (gB G + o0)), (1, .int x1)] [] M := by
  unfold f_X12_takeSign
  refine go_aload_n 0 1 dX12_takeSign_0 rfl rfl ?_
  refine go_iload_n 1 2 dX12_takeSign_1 rfl rfl ?_
  refine go_cVI1 0 clX12 cwX12_168 (m_X12_isSign w o0 h0 x1 M) h0 5 dX12_takeSign_2 rfl ⟨Nat.le_of_ble_eq_true rfl, Nat.le_of_ble_eq_true rfl⟩ ⟨Nat.zero_le _, Nat.zero_le _⟩ (Nat.le_of_ble_eq_true rfl) (fun q2 M1 _ => ?_)
  refine go_if_eq 21 8 dX12_takeSign_5 rfl (by decide) (fun _ => ?_) (fun _ => ?_)
  · refine go_aload_n 0 22 dX12_takeSign_21 rfl rfl ?_
    refine go_iconst 1 23 dX12_takeSign_22 rfl (by decide) ?_
    refine go_cVV1 0 clX12 cwX12_171 (m_X12_wrong w o0 h0 1 M1) h0 26 dX12_takeSign_23 rfl ⟨Nat.le_of_ble_eq_true rfl, Nat.le_of_ble_eq_true rfl⟩ ⟨Nat.zero_le _, Nat.zero_le _⟩ (Nat.le_of_ble_eq_true rfl) (fun M3 _ => ?_)
    exact go_vret rfl dX12_takeSign_26
  · refine go_aload_n 0 9 dX12_takeSign_8 rfl rfl ?_
    refine go_dup 10 dX12_takeSign_9 rfl rfl ?_
    refine go_getI flX12_162 (by decide) h0 13 dX12_takeSign_10 rfl ?_
    refine go_iconst 1 14 dX12_takeSign_13 rfl (by decide) ?_
    refine go_iadd 15 dX12_takeSign_14 rfl ?_
    refine go_putI flX12_162 rfl rfl h0 18 dX12_takeSign_15 rfl ?_
    refine go_nmM (fun M4 => ?_)
    refine go_goto 26 dX12_takeSign_18 (by decide) ?_
    exact go_vret rfl dX12_takeSign_26
theorem m_X12_takeSign {l : Launch} {G : mG} {sk : List mS} (w : Nat) (o0 : Nat) (h0 : isK o0 22) (x1 : Int32) (M : mM) : Mt l G sk yX12_takeSign muX12_takeSign 1 [.ref (gB G + o0), .int x1] M eV (f_X12_takeSign w o0 x1 M) := Mt.of (by decide) rfl (Nat.le_of_ble_eq_true rfl) (s_X12_takeSign w o0 h0 x1 M)
theorem dX12_hasSign_0 : decode cX12_hasSign 0 = .ok (.aload_n 0, 1) := by decide +kernel
theorem dX12_hasSign_1 : decode cX12_hasSign 1 = .ok (.iload_n 1, 1) := by decide +kernel
theorem dX12_hasSign_2 : decode cX12_hasSign 2 = .ok (.invokevirtual 168, 3) := by decide +kernel
theorem dX12_hasSign_5 : decode cX12_hasSign 5 = .ok (.istore_n 2, 1) := by decide +kernel
theorem dX12_hasSign_6 : decode cX12_hasSign 6 = .ok (.aload_n 0, 1) := by decide +kernel
theorem dX12_hasSign_7 : decode cX12_hasSign 7 = .ok (.dup, 1) := by decide +kernel
theorem dX12_hasSign_8 : decode cX12_hasSign 8 = .ok (.getfield 162, 3) := by decide +kernel
theorem dX12_hasSign_11 : decode cX12_hasSign 11 = .ok (.iload_n 2, 1) := by decide +kernel
theorem dX12_hasSign_12 : decode cX12_hasSign 12 = .ok (.ifCond .eq 7, 3) := by decide +kernel
theorem dX12_hasSign_15 : decode cX12_hasSign 15 = .ok (.iconst 1, 1) := by decide +kernel
theorem dX12_hasSign_16 : decode cX12_hasSign 16 = .ok (.goto 4, 3) := by decide +kernel
theorem dX12_hasSign_19 : decode cX12_hasSign 19 = .ok (.iconst 0, 1) := by decide +kernel
theorem dX12_hasSign_20 : decode cX12_hasSign 20 = .ok (.iadd, 1) := by decide +kernel
theorem dX12_hasSign_21 : decode cX12_hasSign 21 = .ok (.putfield 162, 3) := by decide +kernel
theorem dX12_hasSign_24 : decode cX12_hasSign 24 = .ok (.iload_n 2, 1) := by decide +kernel
theorem dX12_hasSign_25 : decode cX12_hasSign 25 = .ok (.ireturn, 1) := by decide +kernel
def f_X12_hasSign (w : Nat) (o0 : Nat) (x1 : Int32) (M : mM) : Option (Int32 × mM) := bI (f_X12_isSign w o0 x1 M) fun q2 M1 => (if q2 = 0 then lt (wI M1 o0 7 ((M1.1 o0 7) + 0)) fun M3 => rtB q2 M3 else lt (wI M1 o0 7 ((M1.1 o0 7) + 1)) fun M4 => rtB q2 M4)
set_option maxHeartbeats 4000000 in
set_option maxRecDepth 100000 in
theorem s_X12_hasSign {l : Launch} {G : mG} {sk : List mS} (w : Nat) (o0 : Nat) (h0 : isK o0 22) (x1 : Int32) (M : mM) : Go muX12_hasSign (rm 1) 0 0 l G sk (mFin G sk eI) (f_X12_hasSign w o0 x1 M) 0 [(0, .ref (gB G + o0)), (1, .int x1)] [] M := by
  unfold f_X12_hasSign
  refine go_aload_n 0 1 dX12_hasSign_0 rfl rfl ?_
  refine go_iload_n 1 2 dX12_hasSign_1 rfl rfl ?_
  refine go_cVI1 0 clX12 cwX12_168 (m_X12_isSign w o0 h0 x1 M) h0 5 dX12_hasSign_2 rfl ⟨Nat.le_of_ble_eq_true rfl, Nat.le_of_ble_eq_true rfl⟩ ⟨Nat.zero_le _, Nat.zero_le _⟩ (Nat.le_of_ble_eq_true rfl) (fun q2 M1 _ => ?_)
  refine go_istore_n [(2, .int q2), (0, .ref (gB G + o0)), (1, .int x1)] 6 dX12_hasSign_5 rfl rfl (by decide) rfl ?_
  refine go_aload_n 1 7 dX12_hasSign_6 rfl rfl ?_
  refine go_dup 8 dX12_hasSign_7 rfl rfl ?_
  refine go_getI flX12_162 (by decide) h0 11 dX12_hasSign_8 rfl ?_
  refine go_iload_n 0 12 dX12_hasSign_11 rfl rfl ?_
  refine go_if_eq 19 15 dX12_hasSign_12 rfl (by decide) (fun _ => ?_) (fun _ => ?_)
  · refine go_iconst 0 20 dX12_hasSign_19 rfl (by decide) ?_
    refine go_iadd 21 dX12_hasSign_20 rfl ?_
    refine go_putI flX12_162 rfl rfl h0 24 dX12_hasSign_21 rfl ?_
    refine go_nmM (fun M3 => ?_)
    refine go_iload_n 0 25 dX12_hasSign_24 rfl rfl ?_
    exact go_zret rfl dX12_hasSign_25
  · refine go_iconst 1 16 dX12_hasSign_15 rfl (by decide) ?_
    refine go_goto 20 dX12_hasSign_16 (by decide) ?_
    refine go_iadd 21 dX12_hasSign_20 rfl ?_
    refine go_putI flX12_162 rfl rfl h0 24 dX12_hasSign_21 rfl ?_
    refine go_nmM (fun M4 => ?_)
    refine go_iload_n 0 25 dX12_hasSign_24 rfl rfl ?_
    exact go_zret rfl dX12_hasSign_25
theorem m_X12_hasSign {l : Launch} {G : mG} {sk : List mS} (w : Nat) (o0 : Nat) (h0 : isK o0 22) (x1 : Int32) (M : mM) : Mt l G sk yX12_hasSign muX12_hasSign 1 [.ref (gB G + o0), .int x1] M eI (f_X12_hasSign w o0 x1 M) := Mt.of (by decide) rfl (Nat.le_of_ble_eq_true rfl) (s_X12_hasSign w o0 h0 x1 M)
theorem dX12_hasWord_0 : decode cX12_hasWord 0 = .ok (.aload_n 0, 1) := by decide +kernel
theorem dX12_hasWord_1 : decode cX12_hasWord 1 = .ok (.iload_n 1, 1) := by decide +kernel
theorem dX12_hasWord_2 : decode cX12_hasWord 2 = .ok (.invokevirtual 174, 3) := by decide +kernel
theorem dX12_hasWord_5 : decode cX12_hasWord 5 = .ok (.istore_n 2, 1) := by decide +kernel
theorem dX12_hasWord_6 : decode cX12_hasWord 6 = .ok (.aload_n 0, 1) := by decide +kernel
theorem dX12_hasWord_7 : decode cX12_hasWord 7 = .ok (.dup, 1) := by decide +kernel
theorem dX12_hasWord_8 : decode cX12_hasWord 8 = .ok (.getfield 162, 3) := by decide +kernel
theorem dX12_hasWord_11 : decode cX12_hasWord 11 = .ok (.iload_n 2, 1) := by decide +kernel
theorem dX12_hasWord_12 : decode cX12_hasWord 12 = .ok (.ifCond .eq 7, 3) := by decide +kernel
theorem dX12_hasWord_15 : decode cX12_hasWord 15 = .ok (.iconst 1, 1) := by decide +kernel
theorem dX12_hasWord_16 : decode cX12_hasWord 16 = .ok (.goto 4, 3) := by decide +kernel
theorem dX12_hasWord_19 : decode cX12_hasWord 19 = .ok (.iconst 0, 1) := by decide +kernel
theorem dX12_hasWord_20 : decode cX12_hasWord 20 = .ok (.iadd, 1) := by decide +kernel
theorem dX12_hasWord_21 : decode cX12_hasWord 21 = .ok (.putfield 162, 3) := by decide +kernel
theorem dX12_hasWord_24 : decode cX12_hasWord 24 = .ok (.iload_n 2, 1) := by decide +kernel
theorem dX12_hasWord_25 : decode cX12_hasWord 25 = .ok (.ireturn, 1) := by decide +kernel
def f_X12_hasWord (w : Nat) (o0 : Nat) (x1 : Int32) (M : mM) : Option (Int32 × mM) := bI (f_X12_isWord w o0 x1 M) fun q2 M1 => (if q2 = 0 then lt (wI M1 o0 7 ((M1.1 o0 7) + 0)) fun M3 => rtB q2 M3 else lt (wI M1 o0 7 ((M1.1 o0 7) + 1)) fun M4 => rtB q2 M4)
set_option maxHeartbeats 4000000 in
set_option maxRecDepth 100000 in
theorem s_X12_hasWord {l : Launch} {G : mG} {sk : List mS} (w : Nat) (o0 : Nat) (h0 : isK o0 22) (x1 : Int32) (M : mM) : Go muX12_hasWord (rm 1) 0 0 l G sk (mFin G sk eI) (f_X12_hasWord w o0 x1 M) 0 [(0, .ref (gB G + o0)), (1, .int x1)] [] M := by
  unfold f_X12_hasWord
  refine go_aload_n 0 1 dX12_hasWord_0 rfl rfl ?_
  refine go_iload_n 1 2 dX12_hasWord_1 rfl rfl ?_
  refine go_cVI1 0 clX12 cwX12_174 (m_X12_isWord w o0 h0 x1 M) h0 5 dX12_hasWord_2 rfl ⟨Nat.le_of_ble_eq_true rfl, Nat.le_of_ble_eq_true rfl⟩ ⟨Nat.zero_le _, Nat.zero_le _⟩ (Nat.le_of_ble_eq_true rfl) (fun q2 M1 _ => ?_)
  refine go_istore_n [(2, .int q2), (0, .ref (gB G + o0)), (1, .int x1)] 6 dX12_hasWord_5 rfl rfl (by decide) rfl ?_
  refine go_aload_n 1 7 dX12_hasWord_6 rfl rfl ?_
  refine go_dup 8 dX12_hasWord_7 rfl rfl ?_
  refine go_getI flX12_162 (by decide) h0 11 dX12_hasWord_8 rfl ?_
  refine go_iload_n 0 12 dX12_hasWord_11 rfl rfl ?_
  refine go_if_eq 19 15 dX12_hasWord_12 rfl (by decide) (fun _ => ?_) (fun _ => ?_)
  · refine go_iconst 0 20 dX12_hasWord_19 rfl (by decide) ?_
    refine go_iadd 21 dX12_hasWord_20 rfl ?_
    refine go_putI flX12_162 rfl rfl h0 24 dX12_hasWord_21 rfl ?_
    refine go_nmM (fun M3 => ?_)
    refine go_iload_n 0 25 dX12_hasWord_24 rfl rfl ?_
    exact go_zret rfl dX12_hasWord_25
  · refine go_iconst 1 16 dX12_hasWord_15 rfl (by decide) ?_
    refine go_goto 20 dX12_hasWord_16 (by decide) ?_
    refine go_iadd 21 dX12_hasWord_20 rfl ?_
    refine go_putI flX12_162 rfl rfl h0 24 dX12_hasWord_21 rfl ?_
    refine go_nmM (fun M4 => ?_)
    refine go_iload_n 0 25 dX12_hasWord_24 rfl rfl ?_
    exact go_zret rfl dX12_hasWord_25
theorem m_X12_hasWord {l : Launch} {G : mG} {sk : List mS} (w : Nat) (o0 : Nat) (h0 : isK o0 22) (x1 : Int32) (M : mM) : Mt l G sk yX12_hasWord muX12_hasWord 1 [.ref (gB G + o0), .int x1] M eI (f_X12_hasWord w o0 x1 M) := Mt.of (by decide) rfl (Nat.le_of_ble_eq_true rfl) (s_X12_hasWord w o0 h0 x1 M)
theorem dX12_takeWord_0 : decode cX12_takeWord 0 = .ok (.aload_n 0, 1) := by decide +kernel
theorem dX12_takeWord_1 : decode cX12_takeWord 1 = .ok (.iload_n 1, 1) := by decide +kernel
theorem dX12_takeWord_2 : decode cX12_takeWord 2 = .ok (.invokevirtual 177, 3) := by decide +kernel
theorem dX12_takeWord_5 : decode cX12_takeWord 5 = .ok (.ifCond .ne 8, 3) := by decide +kernel
theorem dX12_takeWord_8 : decode cX12_takeWord 8 = .ok (.aload_n 0, 1) := by decide +kernel
theorem dX12_takeWord_9 : decode cX12_takeWord 9 = .ok (.iconst 1, 1) := by decide +kernel
theorem dX12_takeWord_10 : decode cX12_takeWord 10 = .ok (.invokevirtual 171, 3) := by decide +kernel
theorem dX12_takeWord_13 : decode cX12_takeWord 13 = .ok (.return_, 1) := by decide +kernel
def f_X12_takeWord (w : Nat) (o0 : Nat) (x1 : Int32) (M : mM) : Option mM := bI (f_X12_hasWord w o0 x1 M) fun q2 M1 => (if q2 = 0 then bV (f_X12_wrong w o0 1 M1) fun M3 => some M3 else some M1)
set_option maxHeartbeats 4000000 in
set_option maxRecDepth 100000 in
theorem s_X12_takeWord {l : Launch} {G : mG} {sk : List mS} (w : Nat) (o0 : Nat) (h0 : isK o0 22) (x1 : Int32) (M : mM) : Go muX12_takeWord (rm 2) 0 0 l G sk (mFin G sk eV) (f_X12_takeWord w o0 x1 M) 0 [(0, .ref (gB G + o0)), (1, .int x1)] [] M := by
  unfold f_X12_takeWord
  refine go_aload_n 0 1 dX12_takeWord_0 rfl rfl ?_
  refine go_iload_n 1 2 dX12_takeWord_1 rfl rfl ?_
  refine go_cVI1 1 clX12 cwX12_177 (m_X12_hasWord w o0 h0 x1 M) h0 5 dX12_takeWord_2 rfl ⟨Nat.le_of_ble_eq_true rfl, Nat.le_of_ble_eq_true rfl⟩ ⟨Nat.zero_le _, Nat.zero_le _⟩ (Nat.le_of_ble_eq_true rfl) (fun q2 M1 _ => ?_)
  refine go_if_ne 13 8 dX12_takeWord_5 rfl (by decide) (fun _ => ?_) (fun _ => ?_)
  · exact go_vret rfl dX12_takeWord_13
  · refine go_aload_n 0 9 dX12_takeWord_8 rfl rfl ?_
    refine go_iconst 1 10 dX12_takeWord_9 rfl (by decide) ?_
    refine go_cVV1 0 clX12 cwX12_171 (m_X12_wrong w o0 h0 1 M1) h0 13 dX12_takeWord_10 rfl ⟨Nat.le_of_ble_eq_true rfl, Nat.le_of_ble_eq_true rfl⟩ ⟨Nat.zero_le _, Nat.zero_le _⟩ (Nat.le_of_ble_eq_true rfl) (fun M3 _ => ?_)
    exact go_vret rfl dX12_takeWord_13
theorem m_X12_takeWord {l : Launch} {G : mG} {sk : List mS} (w : Nat) (o0 : Nat) (h0 : isK o0 22) (x1 : Int32) (M : mM) : Mt l G sk yX12_takeWord muX12_takeWord 2 [.ref (gB G + o0), .int x1] M eV (f_X12_takeWord w o0 x1 M) := Mt.of (by decide) rfl (Nat.le_of_ble_eq_true rfl) (s_X12_takeWord w o0 h0 x1 M)
theorem dX12_within_0 : decode cX12_within 0 = .ok (.iload_n 0, 1) := by decide +kernel
theorem dX12_within_1 : decode cX12_within 1 = .ok (.iload_n 1, 1) := by decide +kernel
theorem dX12_within_2 : decode cX12_within 2 = .ok (.if_icmp .lt 12, 3) := by decide +kernel
theorem dX12_within_5 : decode cX12_within 5 = .ok (.iload_n 0, 1) := by decide +kernel
theorem dX12_within_6 : decode cX12_within 6 = .ok (.iload_n 2, 1) := by decide +kernel
theorem dX12_within_7 : decode cX12_within 7 = .ok (.if_icmp .gt 7, 3) := by decide +kernel
theorem dX12_within_10 : decode cX12_within 10 = .ok (.iconst 1, 1) := by decide +kernel
theorem dX12_within_11 : decode cX12_within 11 = .ok (.goto 4, 3) := by decide +kernel
theorem dX12_within_14 : decode cX12_within 14 = .ok (.iconst 0, 1) := by decide +kernel
theorem dX12_within_15 : decode cX12_within 15 = .ok (.ireturn, 1) := by decide +kernel
def f_X12_within (w : Nat) (x0 : Int32) (x1 : Int32) (x2 : Int32) (M : mM) : Option (Int32 × mM) := (if x0 < x1 then rtB 0 M else (if x2 < x0 then rtB 0 M else rtB 1 M))
set_option maxHeartbeats 4000000 in
set_option maxRecDepth 100000 in
theorem s_X12_within {l : Launch} {G : mG} {sk : List mS} (w : Nat) (x0 : Int32) (x1 : Int32) (x2 : Int32) (M : mM) : Go muX12_within (rm 0) 0 0 l G sk (mFin G sk eI) (f_X12_within w x0 x1 x2 M) 0 [(0, .int x0), (1, .int x1), (2, .int x2)] [] M := by
  unfold f_X12_within
  refine go_iload_n 0 1 dX12_within_0 rfl rfl ?_
  refine go_iload_n 1 2 dX12_within_1 rfl rfl ?_
  refine go_icmp_lt 14 5 dX12_within_2 rfl (by decide) (fun _ => ?_) (fun _ => ?_)
  · refine go_iconst 0 15 dX12_within_14 rfl (by decide) ?_
    exact go_zret rfl dX12_within_15
  · refine go_iload_n 0 6 dX12_within_5 rfl rfl ?_
    refine go_iload_n 2 7 dX12_within_6 rfl rfl ?_
    refine go_icmp_gt 14 10 dX12_within_7 rfl (by decide) (fun _ => ?_) (fun _ => ?_)
    · refine go_iconst 0 15 dX12_within_14 rfl (by decide) ?_
      exact go_zret rfl dX12_within_15
    · refine go_iconst 1 11 dX12_within_10 rfl (by decide) ?_
      refine go_goto 15 dX12_within_11 (by decide) ?_
      exact go_zret rfl dX12_within_15
theorem m_X12_within {l : Launch} {G : mG} {sk : List mS} (w : Nat) (x0 : Int32) (x1 : Int32) (x2 : Int32) (M : mM) : Mt l G sk yX12_within muX12_within 0 [.int x0, .int x1, .int x2] M eI (f_X12_within w x0 x1 x2 M) := Mt.of (by decide) rfl (Nat.le_of_ble_eq_true rfl) (s_X12_within w x0 x1 x2 M)
theorem dX12_standsAsAlways_0 : decode cX12_standsAsAlways 0 = .ok (.iconst 0, 1) := by decide +kernel
theorem dX12_standsAsAlways_1 : decode cX12_standsAsAlways 1 = .ok (.istore_n 2, 1) := by decide +kernel
theorem dX12_standsAsAlways_2 : decode cX12_standsAsAlways 2 = .ok (.iload_n 2, 1) := by decide +kernel
theorem dX12_standsAsAlways_3 : decode cX12_standsAsAlways 3 = .ok (.bipush 60, 2) := by decide +kernel
theorem dX12_standsAsAlways_5 : decode cX12_standsAsAlways 5 = .ok (.if_icmp .ge 18, 3) := by decide +kernel
theorem dX12_standsAsAlways_8 : decode cX12_standsAsAlways 8 = .ok (.aload_n 0, 1) := by decide +kernel
theorem dX12_standsAsAlways_9 : decode cX12_standsAsAlways 9 = .ok (.getfield 83, 3) := by decide +kernel
theorem dX12_standsAsAlways_12 : decode cX12_standsAsAlways 12 = .ok (.iload_n 1, 1) := by decide +kernel
theorem dX12_standsAsAlways_13 : decode cX12_standsAsAlways 13 = .ok (.iload_n 2, 1) := by decide +kernel
theorem dX12_standsAsAlways_14 : decode cX12_standsAsAlways 14 = .ok (.iadd, 1) := by decide +kernel
theorem dX12_standsAsAlways_15 : decode cX12_standsAsAlways 15 = .ok (.iconst 0, 1) := by decide +kernel
theorem dX12_standsAsAlways_16 : decode cX12_standsAsAlways 16 = .ok (.iastore, 1) := by decide +kernel
theorem dX12_standsAsAlways_17 : decode cX12_standsAsAlways 17 = .ok (.iinc 2 1, 3) := by decide +kernel
theorem dX12_standsAsAlways_20 : decode cX12_standsAsAlways 20 = .ok (.goto (-18), 3) := by decide +kernel
theorem dX12_standsAsAlways_23 : decode cX12_standsAsAlways 23 = .ok (.aload_n 0, 1) := by decide +kernel
theorem dX12_standsAsAlways_24 : decode cX12_standsAsAlways 24 = .ok (.getfield 83, 3) := by decide +kernel
theorem dX12_standsAsAlways_27 : decode cX12_standsAsAlways 27 = .ok (.iload_n 1, 1) := by decide +kernel
theorem dX12_standsAsAlways_28 : decode cX12_standsAsAlways 28 = .ok (.iconst 3, 1) := by decide +kernel
theorem dX12_standsAsAlways_29 : decode cX12_standsAsAlways 29 = .ok (.iadd, 1) := by decide +kernel
theorem dX12_standsAsAlways_30 : decode cX12_standsAsAlways 30 = .ok (.iconst 1, 1) := by decide +kernel
theorem dX12_standsAsAlways_31 : decode cX12_standsAsAlways 31 = .ok (.iastore, 1) := by decide +kernel
theorem dX12_standsAsAlways_32 : decode cX12_standsAsAlways 32 = .ok (.aload_n 0, 1) := by decide +kernel
theorem dX12_standsAsAlways_33 : decode cX12_standsAsAlways 33 = .ok (.getfield 83, 3) := by decide +kernel
theorem dX12_standsAsAlways_36 : decode cX12_standsAsAlways 36 = .ok (.iload_n 1, 1) := by decide +kernel
theorem dX12_standsAsAlways_37 : decode cX12_standsAsAlways 37 = .ok (.iconst 4, 1) := by decide +kernel
theorem dX12_standsAsAlways_38 : decode cX12_standsAsAlways 38 = .ok (.iadd, 1) := by decide +kernel
theorem dX12_standsAsAlways_39 : decode cX12_standsAsAlways 39 = .ok (.iconst (-1), 1) := by decide +kernel
theorem dX12_standsAsAlways_40 : decode cX12_standsAsAlways 40 = .ok (.iastore, 1) := by decide +kernel
theorem dX12_standsAsAlways_41 : decode cX12_standsAsAlways 41 = .ok (.return_, 1) := by decide +kernel
def f_X12_standsAsAlways_23 (w : Nat) (o0 : Nat) (x1 : Int32) (M : mM) : Option mM := chk (x1 + 3) (sL (rF o0 10)) (lt (wI M (rF o0 10) (x1 + 3).toNatClampNeg 1) fun M1 => chk (x1 + 4) (sL (rF o0 10)) (lt (wI M1 (rF o0 10) (x1 + 4).toNatClampNeg (-1)) fun M2 => some M2))
set_option maxHeartbeats 4000000 in
set_option maxRecDepth 100000 in
theorem s_X12_standsAsAlways_23 {l : Launch} {G : mG} {sk : List mS} (w : Nat) (o0 : Nat) (h0 : isK o0 22) (x1 : Int32) (M : mM) : Go muX12_standsAsAlways (rm 0) 0 0 l G sk (mFin G sk eV) (f_X12_standsAsAlways_23 w o0 x1 M) 23 [(0, .ref (gB G + o0)), (1, .int x1)] [] M := by
  unfold f_X12_standsAsAlways_23
  refine go_aload_n 0 24 dX12_standsAsAlways_23 rfl rfl ?_
  refine go_getR flX12_83 h0 27 dX12_standsAsAlways_24 rfl ?_
  refine go_iload_n 1 28 dX12_standsAsAlways_27 rfl rfl ?_
  refine go_iconst 3 29 dX12_standsAsAlways_28 rfl (by decide) ?_
  refine go_iadd 30 dX12_standsAsAlways_29 rfl ?_
  refine go_iconst 1 31 dX12_standsAsAlways_30 rfl (by decide) ?_
  refine go_iast (rk12_10 h0) 32 dX12_standsAsAlways_31 rfl ?_
  refine go_nmM (fun M1 => ?_)
  refine go_aload_n 0 33 dX12_standsAsAlways_32 rfl rfl ?_
  refine go_getR flX12_83 h0 36 dX12_standsAsAlways_33 rfl ?_
  refine go_iload_n 1 37 dX12_standsAsAlways_36 rfl rfl ?_
  refine go_iconst 4 38 dX12_standsAsAlways_37 rfl (by decide) ?_
  refine go_iadd 39 dX12_standsAsAlways_38 rfl ?_
  refine go_iconst (-1) 40 dX12_standsAsAlways_39 rfl (by decide) ?_
  refine go_iast (rk12_10 h0) 41 dX12_standsAsAlways_40 rfl ?_
  refine go_nmM (fun M2 => ?_)
  exact go_vret rfl dX12_standsAsAlways_41
def f_X12_standsAsAlways_2 (w : Nat) : Nat → Nat → Int32 → Int32 → mM → Option mM
  | 0, _, _, _, _ => none
  | n + 1, o0, x1, x2, M => (if 60 ≤ x2 then (f_X12_standsAsAlways_23 w o0 x1 M) else chk (x1 + x2) (sL (rF o0 10)) (lt (wI M (rF o0 10) (x1 + x2).toNatClampNeg 0) fun M1 => (f_X12_standsAsAlways_2 w n o0 x1 (x2 + 1) M1)))
set_option maxHeartbeats 4000000 in
set_option maxRecDepth 100000 in
theorem s_X12_standsAsAlways_2 {l : Launch} {G : mG} {sk : List mS} (w : Nat) : ∀ (n : Nat) (o0 : Nat) (h0 : isK o0 22) (x1 : Int32) (x2 : Int32) (M : mM), Go muX12_standsAsAlways (rm 0) 0 0 l G sk (mFin G sk eV) (f_X12_standsAsAlways_2 w n o0 x1 x2 M) 2 [(0, .ref (gB G + o0)), (1, .int x1), (2, .int x2)] [] M := by
  intro n
  induction n with
  | zero =>
    intros
    exact go_none
  | succ n ih =>
    intro o0 h0 x1 x2 M
    rw [f_X12_standsAsAlways_2]
    refine go_iload_n 2 3 dX12_standsAsAlways_2 rfl rfl ?_
    refine go_bipush 60 5 dX12_standsAsAlways_3 rfl (by decide) ?_
    refine go_icmp_ge 23 8 dX12_standsAsAlways_5 rfl (by decide) (fun _ => ?_) (fun _ => ?_)
    · exact go_lv [0, 1] rfl (s_X12_standsAsAlways_23 w o0 h0 x1 M)
    · refine go_aload_n 0 9 dX12_standsAsAlways_8 rfl rfl ?_
      refine go_getR flX12_83 h0 12 dX12_standsAsAlways_9 rfl ?_
      refine go_iload_n 1 13 dX12_standsAsAlways_12 rfl rfl ?_
      refine go_iload_n 2 14 dX12_standsAsAlways_13 rfl rfl ?_
      refine go_iadd 15 dX12_standsAsAlways_14 rfl ?_
      refine go_iconst 0 16 dX12_standsAsAlways_15 rfl (by decide) ?_
      refine go_iast (rk12_10 h0) 17 dX12_standsAsAlways_16 rfl ?_
      refine go_nmM (fun M1 => ?_)
      refine go_iinc (x2 + 1) 2 [(2, .int (x2 + 1)), (0, .ref (gB G + o0)), (1, .int x1)] 20 dX12_standsAsAlways_17 rfl rfl rfl (by decide) rfl ?_
      refine go_goto 2 dX12_standsAsAlways_20 (by decide) ?_
      exact go_lv [1, 2, 0] rfl (ih o0 h0 x1 (x2 + 1) M1)
def f_X12_standsAsAlways (w : Nat) (o0 : Nat) (x1 : Int32) (M : mM) : Option mM := (f_X12_standsAsAlways_2 w w o0 x1 0 M)
set_option maxHeartbeats 4000000 in
set_option maxRecDepth 100000 in
theorem s_X12_standsAsAlways {l : Launch} {G : mG} {sk : List mS} (w : Nat) (o0 : Nat) (h0 : isK o0 22) (x1 : Int32) (M : mM) : Go muX12_standsAsAlways (rm 0) 0 0 l G sk (mFin G sk eV) (f_X12_standsAsAlways w o0 x1 M) 0 [(0, .ref (gB G + o0)), (1, .int x1)] [] M := by
  unfold f_X12_standsAsAlways
  refine go_iconst 0 1 dX12_standsAsAlways_0 rfl (by decide) ?_
  refine go_istore_n [(2, .int 0), (0, .ref (gB G + o0)), (1, .int x1)] 2 dX12_standsAsAlways_1 rfl rfl (by decide) rfl ?_
  exact go_lv [1, 2, 0] rfl (s_X12_standsAsAlways_2 w w o0 h0 x1 0 M)
theorem m_X12_standsAsAlways {l : Launch} {G : mG} {sk : List mS} (w : Nat) (o0 : Nat) (h0 : isK o0 22) (x1 : Int32) (M : mM) : Mt l G sk yX12_standsAsAlways muX12_standsAsAlways 0 [.ref (gB G + o0), .int x1] M eV (f_X12_standsAsAlways w o0 x1 M) := Mt.of (by decide) rfl (Nat.le_of_ble_eq_true rfl) (s_X12_standsAsAlways w o0 h0 x1 M)
theorem dX12_takeNumber_0 : decode cX12_takeNumber 0 = .ok (.aload_n 0, 1) := by decide +kernel
theorem dX12_takeNumber_1 : decode cX12_takeNumber 1 = .ok (.getfield 165, 3) := by decide +kernel
theorem dX12_takeNumber_4 : decode cX12_takeNumber 4 = .ok (.ifCond .ne 24, 3) := by decide +kernel
theorem dX12_takeNumber_7 : decode cX12_takeNumber 7 = .ok (.aload_n 0, 1) := by decide +kernel
theorem dX12_takeNumber_8 : decode cX12_takeNumber 8 = .ok (.getfield 24, 3) := by decide +kernel
theorem dX12_takeNumber_11 : decode cX12_takeNumber 11 = .ok (.aload_n 0, 1) := by decide +kernel
theorem dX12_takeNumber_12 : decode cX12_takeNumber 12 = .ok (.getfield 162, 3) := by decide +kernel
theorem dX12_takeNumber_15 : decode cX12_takeNumber 15 = .ok (.iaload, 1) := by decide +kernel
theorem dX12_takeNumber_16 : decode cX12_takeNumber 16 = .ok (.iconst 2, 1) := by decide +kernel
theorem dX12_takeNumber_17 : decode cX12_takeNumber 17 = .ok (.if_icmp .eq 11, 3) := by decide +kernel
theorem dX12_takeNumber_20 : decode cX12_takeNumber 20 = .ok (.aload_n 0, 1) := by decide +kernel
theorem dX12_takeNumber_21 : decode cX12_takeNumber 21 = .ok (.iconst 1, 1) := by decide +kernel
theorem dX12_takeNumber_22 : decode cX12_takeNumber 22 = .ok (.invokevirtual 171, 3) := by decide +kernel
theorem dX12_takeNumber_25 : decode cX12_takeNumber 25 = .ok (.goto 45, 3) := by decide +kernel
theorem dX12_takeNumber_28 : decode cX12_takeNumber 28 = .ok (.aload_n 0, 1) := by decide +kernel
theorem dX12_takeNumber_29 : decode cX12_takeNumber 29 = .ok (.getfield 165, 3) := by decide +kernel
theorem dX12_takeNumber_32 : decode cX12_takeNumber 32 = .ok (.ifCond .ne 38, 3) := by decide +kernel
theorem dX12_takeNumber_35 : decode cX12_takeNumber 35 = .ok (.aload_n 0, 1) := by decide +kernel
theorem dX12_takeNumber_36 : decode cX12_takeNumber 36 = .ok (.getfield 30, 3) := by decide +kernel
theorem dX12_takeNumber_39 : decode cX12_takeNumber 39 = .ok (.aload_n 0, 1) := by decide +kernel
theorem dX12_takeNumber_40 : decode cX12_takeNumber 40 = .ok (.getfield 162, 3) := by decide +kernel
theorem dX12_takeNumber_43 : decode cX12_takeNumber 43 = .ok (.laload, 1) := by decide +kernel
theorem dX12_takeNumber_44 : decode cX12_takeNumber 44 = .ok (.iload_n 1, 1) := by decide +kernel
theorem dX12_takeNumber_45 : decode cX12_takeNumber 45 = .ok (.i2l, 1) := by decide +kernel
theorem dX12_takeNumber_46 : decode cX12_takeNumber 46 = .ok (.lcmp, 1) := by decide +kernel
theorem dX12_takeNumber_47 : decode cX12_takeNumber 47 = .ok (.ifCond .lt 18, 3) := by decide +kernel
theorem dX12_takeNumber_50 : decode cX12_takeNumber 50 = .ok (.aload_n 0, 1) := by decide +kernel
theorem dX12_takeNumber_51 : decode cX12_takeNumber 51 = .ok (.getfield 30, 3) := by decide +kernel
theorem dX12_takeNumber_54 : decode cX12_takeNumber 54 = .ok (.aload_n 0, 1) := by decide +kernel
theorem dX12_takeNumber_55 : decode cX12_takeNumber 55 = .ok (.getfield 162, 3) := by decide +kernel
theorem dX12_takeNumber_58 : decode cX12_takeNumber 58 = .ok (.laload, 1) := by decide +kernel
theorem dX12_takeNumber_59 : decode cX12_takeNumber 59 = .ok (.iload_n 2, 1) := by decide +kernel
theorem dX12_takeNumber_60 : decode cX12_takeNumber 60 = .ok (.i2l, 1) := by decide +kernel
theorem dX12_takeNumber_61 : decode cX12_takeNumber 61 = .ok (.lcmp, 1) := by decide +kernel
theorem dX12_takeNumber_62 : decode cX12_takeNumber 62 = .ok (.ifCond .le 8, 3) := by decide +kernel
theorem dX12_takeNumber_65 : decode cX12_takeNumber 65 = .ok (.aload_n 0, 1) := by decide +kernel
theorem dX12_takeNumber_66 : decode cX12_takeNumber 66 = .ok (.iconst 4, 1) := by decide +kernel
theorem dX12_takeNumber_67 : decode cX12_takeNumber 67 = .ok (.invokevirtual 171, 3) := by decide +kernel
theorem dX12_takeNumber_70 : decode cX12_takeNumber 70 = .ok (.aload_n 0, 1) := by decide +kernel
theorem dX12_takeNumber_71 : decode cX12_takeNumber 71 = .ok (.getfield 165, 3) := by decide +kernel
theorem dX12_takeNumber_74 : decode cX12_takeNumber 74 = .ok (.ifCond .le 5, 3) := by decide +kernel
theorem dX12_takeNumber_77 : decode cX12_takeNumber 77 = .ok (.iconst 0, 1) := by decide +kernel
theorem dX12_takeNumber_78 : decode cX12_takeNumber 78 = .ok (.ireturn, 1) := by decide +kernel
theorem dX12_takeNumber_79 : decode cX12_takeNumber 79 = .ok (.aload_n 0, 1) := by decide +kernel
theorem dX12_takeNumber_80 : decode cX12_takeNumber 80 = .ok (.dup, 1) := by decide +kernel
theorem dX12_takeNumber_81 : decode cX12_takeNumber 81 = .ok (.getfield 162, 3) := by decide +kernel
theorem dX12_takeNumber_84 : decode cX12_takeNumber 84 = .ok (.iconst 1, 1) := by decide +kernel
theorem dX12_takeNumber_85 : decode cX12_takeNumber 85 = .ok (.iadd, 1) := by decide +kernel
theorem dX12_takeNumber_86 : decode cX12_takeNumber 86 = .ok (.putfield 162, 3) := by decide +kernel
theorem dX12_takeNumber_89 : decode cX12_takeNumber 89 = .ok (.aload_n 0, 1) := by decide +kernel
theorem dX12_takeNumber_90 : decode cX12_takeNumber 90 = .ok (.getfield 30, 3) := by decide +kernel
theorem dX12_takeNumber_93 : decode cX12_takeNumber 93 = .ok (.aload_n 0, 1) := by decide +kernel
theorem dX12_takeNumber_94 : decode cX12_takeNumber 94 = .ok (.getfield 162, 3) := by decide +kernel
theorem dX12_takeNumber_97 : decode cX12_takeNumber 97 = .ok (.iconst 1, 1) := by decide +kernel
theorem dX12_takeNumber_98 : decode cX12_takeNumber 98 = .ok (.isub, 1) := by decide +kernel
theorem dX12_takeNumber_99 : decode cX12_takeNumber 99 = .ok (.laload, 1) := by decide +kernel
theorem dX12_takeNumber_100 : decode cX12_takeNumber 100 = .ok (.l2i, 1) := by decide +kernel
theorem dX12_takeNumber_101 : decode cX12_takeNumber 101 = .ok (.ireturn, 1) := by decide +kernel
def f_X12_takeNumber_70 (w : Nat) (o0 : Nat) (M : mM) : Option (Int32 × mM) := (if (M.1 o0 8) ≤ 0 then lt (wI M o0 7 ((M.1 o0 7) + 1)) fun M1 => chk ((M1.1 o0 7) - 1) (sL (rF o0 6)) (some (((M1.2 (rF o0 6) ((M1.1 o0 7) - 1).toNatClampNeg).toInt32), M1)) else some (0, M))
set_option maxHeartbeats 4000000 in
set_option maxRecDepth 100000 in
theorem s_X12_takeNumber_70 {l : Launch} {G : mG} {sk : List mS} (w : Nat) (o0 : Nat) (h0 : isK o0 22) (M : mM) : Go muX12_takeNumber (rm 1) 0 0 l G sk (mFin G sk eI) (f_X12_takeNumber_70 w o0 M) 70 [(0, .ref (gB G + o0))] [] M := by
  unfold f_X12_takeNumber_70
  refine go_aload_n 0 71 dX12_takeNumber_70 rfl rfl ?_
  refine go_getI flX12_165 (by decide) h0 74 dX12_takeNumber_71 rfl ?_
  refine go_if_le 79 77 dX12_takeNumber_74 rfl (by decide) (fun _ => ?_) (fun _ => ?_)
  · refine go_aload_n 0 80 dX12_takeNumber_79 rfl rfl ?_
    refine go_dup 81 dX12_takeNumber_80 rfl rfl ?_
    refine go_getI flX12_162 (by decide) h0 84 dX12_takeNumber_81 rfl ?_
    refine go_iconst 1 85 dX12_takeNumber_84 rfl (by decide) ?_
    refine go_iadd 86 dX12_takeNumber_85 rfl ?_
    refine go_putI flX12_162 rfl rfl h0 89 dX12_takeNumber_86 rfl ?_
    refine go_nmM (fun M1 => ?_)
    refine go_aload_n 0 90 dX12_takeNumber_89 rfl rfl ?_
    refine go_getR flX12_30 h0 93 dX12_takeNumber_90 rfl ?_
    refine go_aload_n 0 94 dX12_takeNumber_93 rfl rfl ?_
    refine go_getI flX12_162 (by decide) h0 97 dX12_takeNumber_94 rfl ?_
    refine go_iconst 1 98 dX12_takeNumber_97 rfl (by decide) ?_
    refine go_isub 99 dX12_takeNumber_98 rfl ?_
    refine go_lald (rk12_6 h0) 100 dX12_takeNumber_99 rfl ?_
    refine go_l2i 101 dX12_takeNumber_100 rfl ?_
    exact go_iret rfl dX12_takeNumber_101
  · refine go_iconst 0 78 dX12_takeNumber_77 rfl (by decide) ?_
    exact go_iret rfl dX12_takeNumber_78
def f_X12_takeNumber_65 (w : Nat) (o0 : Nat) (M : mM) : Option (Int32 × mM) := bV (f_X12_wrong w o0 4 M) fun M1 => (f_X12_takeNumber_70 w o0 M1)
set_option maxHeartbeats 4000000 in
set_option maxRecDepth 100000 in
theorem s_X12_takeNumber_65 {l : Launch} {G : mG} {sk : List mS} (w : Nat) (o0 : Nat) (h0 : isK o0 22) (M : mM) : Go muX12_takeNumber (rm 1) 0 0 l G sk (mFin G sk eI) (f_X12_takeNumber_65 w o0 M) 65 [(0, .ref (gB G + o0))] [] M := by
  unfold f_X12_takeNumber_65
  refine go_aload_n 0 66 dX12_takeNumber_65 rfl rfl ?_
  refine go_iconst 4 67 dX12_takeNumber_66 rfl (by decide) ?_
  refine go_cVV1 0 clX12 cwX12_171 (m_X12_wrong w o0 h0 4 M) h0 70 dX12_takeNumber_67 rfl ⟨Nat.le_of_ble_eq_true rfl, Nat.le_of_ble_eq_true rfl⟩ ⟨Nat.zero_le _, Nat.zero_le _⟩ (Nat.le_of_ble_eq_true rfl) (fun M1 _ => ?_)
  exact go_lv [0] rfl (s_X12_takeNumber_70 w o0 h0 M1)
def f_X12_takeNumber_28 (w : Nat) (o0 : Nat) (x1 : Int32) (x2 : Int32) (M : mM) : Option (Int32 × mM) := (if (M.1 o0 8) = 0 then chk (M.1 o0 7) (sL (rF o0 6)) ((if (lg_cmp (M.2 (rF o0 6) (M.1 o0 7).toNatClampNeg) (x1.toInt64)) < 0 then (f_X12_takeNumber_65 w o0 M) else chk (M.1 o0 7) (sL (rF o0 6)) ((if (lg_cmp (M.2 (rF o0 6) (M.1 o0 7).toNatClampNeg) (x2.toInt64)) ≤ 0 then (f_X12_takeNumber_70 w o0 M) else (f_X12_takeNumber_65 w o0 M))))) else (f_X12_takeNumber_70 w o0 M))
set_option maxHeartbeats 4000000 in
set_option maxRecDepth 100000 in
theorem s_X12_takeNumber_28 {l : Launch} {G : mG} {sk : List mS} (w : Nat) (o0 : Nat) (h0 : isK o0 22) (x1 : Int32) (x2 : Int32) (M : mM) : Go muX12_takeNumber (rm 1) 0 0 l G sk (mFin G sk eI) (f_X12_takeNumber_28 w o0 x1 x2 M) 28 [(0, .ref (gB G + o0)), (1, .int x1), (2, .int x2)] [] M := by
  unfold f_X12_takeNumber_28
  refine go_aload_n 0 29 dX12_takeNumber_28 rfl rfl ?_
  refine go_getI flX12_165 (by decide) h0 32 dX12_takeNumber_29 rfl ?_
  refine go_if_ne 70 35 dX12_takeNumber_32 rfl (by decide) (fun _ => ?_) (fun _ => ?_)
  · exact go_lv [0] rfl (s_X12_takeNumber_70 w o0 h0 M)
  · refine go_aload_n 0 36 dX12_takeNumber_35 rfl rfl ?_
    refine go_getR flX12_30 h0 39 dX12_takeNumber_36 rfl ?_
    refine go_aload_n 0 40 dX12_takeNumber_39 rfl rfl ?_
    refine go_getI flX12_162 (by decide) h0 43 dX12_takeNumber_40 rfl ?_
    refine go_lald (rk12_6 h0) 44 dX12_takeNumber_43 rfl ?_
    refine go_iload_n 1 45 dX12_takeNumber_44 rfl rfl ?_
    refine go_i2l 46 dX12_takeNumber_45 rfl ?_
    refine go_lcmp 47 dX12_takeNumber_46 rfl ?_
    refine go_if_lt 65 50 dX12_takeNumber_47 rfl (by decide) (fun _ => ?_) (fun _ => ?_)
    · exact go_lv [0] rfl (s_X12_takeNumber_65 w o0 h0 M)
    · refine go_aload_n 0 51 dX12_takeNumber_50 rfl rfl ?_
      refine go_getR flX12_30 h0 54 dX12_takeNumber_51 rfl ?_
      refine go_aload_n 0 55 dX12_takeNumber_54 rfl rfl ?_
      refine go_getI flX12_162 (by decide) h0 58 dX12_takeNumber_55 rfl ?_
      refine go_lald (rk12_6 h0) 59 dX12_takeNumber_58 rfl ?_
      refine go_iload_n 2 60 dX12_takeNumber_59 rfl rfl ?_
      refine go_i2l 61 dX12_takeNumber_60 rfl ?_
      refine go_lcmp 62 dX12_takeNumber_61 rfl ?_
      refine go_if_le 70 65 dX12_takeNumber_62 rfl (by decide) (fun _ => ?_) (fun _ => ?_)
      · exact go_lv [0] rfl (s_X12_takeNumber_70 w o0 h0 M)
      · exact go_lv [0] rfl (s_X12_takeNumber_65 w o0 h0 M)
def f_X12_takeNumber (w : Nat) (o0 : Nat) (x1 : Int32) (x2 : Int32) (M : mM) : Option (Int32 × mM) := (if (M.1 o0 8) = 0 then chk (M.1 o0 7) (sL (rF o0 4)) ((if (M.1 (rF o0 4) (M.1 o0 7).toNatClampNeg) = 2 then (f_X12_takeNumber_28 w o0 x1 x2 M) else bV (f_X12_wrong w o0 1 M) fun M1 => (f_X12_takeNumber_70 w o0 M1))) else (f_X12_takeNumber_28 w o0 x1 x2 M))
set_option maxHeartbeats 4000000 in
set_option maxRecDepth 100000 in
theorem s_X12_takeNumber {l : Launch} {G : mG} {sk : List mS} (w : Nat) (o0 : Nat) (h0 : isK o0 22) (x1 : Int32) (x2 : Int32) (M : mM) : Go muX12_takeNumber (rm 1) 0 0 l G sk (mFin G sk eI) (f_X12_takeNumber w o0 x1 x2 M) 0 [(0, .ref (gB G + o0)), (1, .int x1), (2, .int x2)] [] M := by
  unfold f_X12_takeNumber
  refine go_aload_n 0 1 dX12_takeNumber_0 rfl rfl ?_
  refine go_getI flX12_165 (by decide) h0 4 dX12_takeNumber_1 rfl ?_
  refine go_if_ne 28 7 dX12_takeNumber_4 rfl (by decide) (fun _ => ?_) (fun _ => ?_)
  · exact go_lv [0, 1, 2] rfl (s_X12_takeNumber_28 w o0 h0 x1 x2 M)
  · refine go_aload_n 0 8 dX12_takeNumber_7 rfl rfl ?_
    refine go_getR flX12_24 h0 11 dX12_takeNumber_8 rfl ?_
    refine go_aload_n 0 12 dX12_takeNumber_11 rfl rfl ?_
    refine go_getI flX12_162 (by decide) h0 15 dX12_takeNumber_12 rfl ?_
    refine go_iald (rk12_4 h0) 16 dX12_takeNumber_15 rfl ?_
    refine go_iconst 2 17 dX12_takeNumber_16 rfl (by decide) ?_
    refine go_icmp_eq 28 20 dX12_takeNumber_17 rfl (by decide) (fun _ => ?_) (fun _ => ?_)
    · exact go_lv [0, 1, 2] rfl (s_X12_takeNumber_28 w o0 h0 x1 x2 M)
    · refine go_aload_n 0 21 dX12_takeNumber_20 rfl rfl ?_
      refine go_iconst 1 22 dX12_takeNumber_21 rfl (by decide) ?_
      refine go_cVV1 0 clX12 cwX12_171 (m_X12_wrong w o0 h0 1 M) h0 25 dX12_takeNumber_22 rfl ⟨Nat.le_of_ble_eq_true rfl, Nat.le_of_ble_eq_true rfl⟩ ⟨Nat.zero_le _, Nat.zero_le _⟩ (Nat.le_of_ble_eq_true rfl) (fun M1 _ => ?_)
      refine go_goto 70 dX12_takeNumber_25 (by decide) ?_
      exact go_lv [0] rfl (s_X12_takeNumber_70 w o0 h0 M1)
theorem m_X12_takeNumber {l : Launch} {G : mG} {sk : List mS} (w : Nat) (o0 : Nat) (h0 : isK o0 22) (x1 : Int32) (x2 : Int32) (M : mM) : Mt l G sk yX12_takeNumber muX12_takeNumber 1 [.ref (gB G + o0), .int x1, .int x2] M eI (f_X12_takeNumber w o0 x1 x2 M) := Mt.of (by decide) rfl (Nat.le_of_ble_eq_true rfl) (s_X12_takeNumber w o0 h0 x1 x2 M)
theorem dX12_takeAfter_0 : decode cX12_takeAfter 0 = .ok (.aload_n 0, 1) := by decide +kernel
theorem dX12_takeAfter_1 : decode cX12_takeAfter 1 = .ok (.iload_n 1, 1) := by decide +kernel
theorem dX12_takeAfter_2 : decode cX12_takeAfter 2 = .ok (.invokevirtual 180, 3) := by decide +kernel
theorem dX12_takeAfter_5 : decode cX12_takeAfter 5 = .ok (.aload_n 0, 1) := by decide +kernel
theorem dX12_takeAfter_6 : decode cX12_takeAfter 6 = .ok (.iload_n 2, 1) := by decide +kernel
theorem dX12_takeAfter_7 : decode cX12_takeAfter 7 = .ok (.iload_n 3, 1) := by decide +kernel
theorem dX12_takeAfter_8 : decode cX12_takeAfter 8 = .ok (.invokevirtual 183, 3) := by decide +kernel
theorem dX12_takeAfter_11 : decode cX12_takeAfter 11 = .ok (.ireturn, 1) := by decide +kernel
def f_X12_takeAfter (w : Nat) (o0 : Nat) (x1 : Int32) (x2 : Int32) (x3 : Int32) (M : mM) : Option (Int32 × mM) := bV (f_X12_takeWord w o0 x1 M) fun M1 => bI (f_X12_takeNumber w o0 x2 x3 M1) fun q3 M2 => some (q3, M2)
set_option maxHeartbeats 4000000 in
set_option maxRecDepth 100000 in
theorem s_X12_takeAfter {l : Launch} {G : mG} {sk : List mS} (w : Nat) (o0 : Nat) (h0 : isK o0 22) (x1 : Int32) (x2 : Int32) (x3 : Int32) (M : mM) : Go muX12_takeAfter (rm 3) 0 0 l G sk (mFin G sk eI) (f_X12_takeAfter w o0 x1 x2 x3 M) 0 [(0, .ref (gB G + o0)), (1, .int x1), (2, .int x2), (3, .int x3)] [] M := by
  unfold f_X12_takeAfter
  refine go_aload_n 0 1 dX12_takeAfter_0 rfl rfl ?_
  refine go_iload_n 1 2 dX12_takeAfter_1 rfl rfl ?_
  refine go_cVV1 2 clX12 cwX12_180 (m_X12_takeWord w o0 h0 x1 M) h0 5 dX12_takeAfter_2 rfl ⟨Nat.le_of_ble_eq_true rfl, Nat.le_of_ble_eq_true rfl⟩ ⟨Nat.zero_le _, Nat.zero_le _⟩ (Nat.le_of_ble_eq_true rfl) (fun M1 _ => ?_)
  refine go_aload_n 0 6 dX12_takeAfter_5 rfl rfl ?_
  refine go_iload_n 2 7 dX12_takeAfter_6 rfl rfl ?_
  refine go_iload_n 3 8 dX12_takeAfter_7 rfl rfl ?_
  refine go_cVI2 1 clX12 cwX12_183 (m_X12_takeNumber w o0 h0 x2 x3 M1) h0 11 dX12_takeAfter_8 rfl ⟨Nat.le_of_ble_eq_true rfl, Nat.le_of_ble_eq_true rfl⟩ ⟨Nat.zero_le _, Nat.zero_le _⟩ (Nat.le_of_ble_eq_true rfl) (fun q3 M2 _ => ?_)
  exact go_iret rfl dX12_takeAfter_11
theorem m_X12_takeAfter {l : Launch} {G : mG} {sk : List mS} (w : Nat) (o0 : Nat) (h0 : isK o0 22) (x1 : Int32) (x2 : Int32) (x3 : Int32) (M : mM) : Mt l G sk yX12_takeAfter muX12_takeAfter 3 [.ref (gB G + o0), .int x1, .int x2, .int x3] M eI (f_X12_takeAfter w o0 x1 x2 x3 M) := Mt.of (by decide) rfl (Nat.le_of_ble_eq_true rfl) (s_X12_takeAfter w o0 h0 x1 x2 x3 M)
theorem dX12_wordHere_0 : decode cX12_wordHere 0 = .ok (.iconst (-1), 1) := by decide +kernel
theorem dX12_wordHere_1 : decode cX12_wordHere 1 = .ok (.istore_n 3, 1) := by decide +kernel
theorem dX12_wordHere_2 : decode cX12_wordHere 2 = .ok (.iconst 0, 1) := by decide +kernel
theorem dX12_wordHere_3 : decode cX12_wordHere 3 = .ok (.istore 4, 2) := by decide +kernel
theorem dX12_wordHere_5 : decode cX12_wordHere 5 = .ok (.iload 4, 2) := by decide +kernel
theorem dX12_wordHere_7 : decode cX12_wordHere 7 = .ok (.iload_n 2, 1) := by decide +kernel
theorem dX12_wordHere_8 : decode cX12_wordHere 8 = .ok (.if_icmp .ge 27, 3) := by decide +kernel
theorem dX12_wordHere_11 : decode cX12_wordHere 11 = .ok (.aload_n 0, 1) := by decide +kernel
theorem dX12_wordHere_12 : decode cX12_wordHere 12 = .ok (.iload_n 1, 1) := by decide +kernel
theorem dX12_wordHere_13 : decode cX12_wordHere 13 = .ok (.iload 4, 2) := by decide +kernel
theorem dX12_wordHere_15 : decode cX12_wordHere 15 = .ok (.iadd, 1) := by decide +kernel
theorem dX12_wordHere_16 : decode cX12_wordHere 16 = .ok (.invokevirtual 174, 3) := by decide +kernel
theorem dX12_wordHere_19 : decode cX12_wordHere 19 = .ok (.ifCond .eq 8, 3) := by decide +kernel
theorem dX12_wordHere_22 : decode cX12_wordHere 22 = .ok (.iload 4, 2) := by decide +kernel
theorem dX12_wordHere_24 : decode cX12_wordHere 24 = .ok (.goto 4, 3) := by decide +kernel
theorem dX12_wordHere_27 : decode cX12_wordHere 27 = .ok (.iload_n 3, 1) := by decide +kernel
theorem dX12_wordHere_28 : decode cX12_wordHere 28 = .ok (.istore_n 3, 1) := by decide +kernel
theorem dX12_wordHere_29 : decode cX12_wordHere 29 = .ok (.iinc 4 1, 3) := by decide +kernel
theorem dX12_wordHere_32 : decode cX12_wordHere 32 = .ok (.goto (-27), 3) := by decide +kernel
theorem dX12_wordHere_35 : decode cX12_wordHere 35 = .ok (.iload_n 3, 1) := by decide +kernel
theorem dX12_wordHere_36 : decode cX12_wordHere 36 = .ok (.ireturn, 1) := by decide +kernel
def f_X12_wordHere_5 (w : Nat) : Nat → Nat → Int32 → Int32 → Int32 → Int32 → mM → Option (Int32 × mM)
  | 0, _, _, _, _, _, _ => none
  | n + 1, o0, x1, x2, x3, x4, M => (if x2 ≤ x4 then some (x3, M) else bI (f_X12_isWord w o0 (x1 + x4) M) fun q2 M1 => (if q2 = 0 then (f_X12_wordHere_5 w n o0 x1 x2 x3 (x4 + 1) M1) else (f_X12_wordHere_5 w n o0 x1 x2 x4 (x4 + 1) M1)))
set_option maxHeartbeats 4000000 in
set_option maxRecDepth 100000 in
theorem s_X12_wordHere_5 {l : Launch} {G : mG} {sk : List mS} (w : Nat) : ∀ (n : Nat) (o0 : Nat) (h0 : isK o0 22) (x1 : Int32) (x2 : Int32) (x3 : Int32) (x4 : Int32) (M : mM), Go muX12_wordHere (rm 1) 0 0 l G sk (mFin G sk eI) (f_X12_wordHere_5 w n o0 x1 x2 x3 x4 M) 5 [(0, .ref (gB G + o0)), (1, .int x1), (2, .int x2), (3, .int x3), (4, .int x4)] [] M := by
  intro n
  induction n with
  | zero =>
    intros
    exact go_none
  | succ n ih =>
    intro o0 h0 x1 x2 x3 x4 M
    rw [f_X12_wordHere_5]
    refine go_iload 4 7 dX12_wordHere_5 rfl rfl ?_
    refine go_iload_n 2 8 dX12_wordHere_7 rfl rfl ?_
    refine go_icmp_ge 35 11 dX12_wordHere_8 rfl (by decide) (fun _ => ?_) (fun _ => ?_)
    · refine go_iload_n 3 36 dX12_wordHere_35 rfl rfl ?_
      exact go_iret rfl dX12_wordHere_36
    · refine go_aload_n 0 12 dX12_wordHere_11 rfl rfl ?_
      refine go_iload_n 1 13 dX12_wordHere_12 rfl rfl ?_
      refine go_iload 4 15 dX12_wordHere_13 rfl rfl ?_
      refine go_iadd 16 dX12_wordHere_15 rfl ?_
      refine go_cVI1 0 clX12 cwX12_174 (m_X12_isWord w o0 h0 (x1 + x4) M) h0 19 dX12_wordHere_16 rfl ⟨Nat.le_of_ble_eq_true rfl, Nat.le_of_ble_eq_true rfl⟩ ⟨Nat.zero_le _, Nat.zero_le _⟩ (Nat.le_of_ble_eq_true rfl) (fun q2 M1 _ => ?_)
      refine go_if_eq 27 22 dX12_wordHere_19 rfl (by decide) (fun _ => ?_) (fun _ => ?_)
      · refine go_iload_n 3 28 dX12_wordHere_27 rfl rfl ?_
        refine go_istore_n [(3, .int x3), (0, .ref (gB G + o0)), (1, .int x1), (2, .int x2), (4, .int x4)] 29 dX12_wordHere_28 rfl rfl (by decide) rfl ?_
        refine go_iinc (x4 + 1) 4 [(4, .int (x4 + 1)), (3, .int x3), (0, .ref (gB G + o0)), (1, .int x1), (2, .int x2)] 32 dX12_wordHere_29 rfl rfl rfl (by decide) rfl ?_
        refine go_goto 5 dX12_wordHere_32 (by decide) ?_
        exact go_lv [2, 3, 4, 1, 0] rfl (ih o0 h0 x1 x2 x3 (x4 + 1) M1)
      · refine go_iload 4 24 dX12_wordHere_22 rfl rfl ?_
        refine go_goto 28 dX12_wordHere_24 (by decide) ?_
        refine go_istore_n [(3, .int x4), (0, .ref (gB G + o0)), (1, .int x1), (2, .int x2), (4, .int x4)] 29 dX12_wordHere_28 rfl rfl (by decide) rfl ?_
        refine go_iinc (x4 + 1) 4 [(4, .int (x4 + 1)), (3, .int x4), (0, .ref (gB G + o0)), (1, .int x1), (2, .int x2)] 32 dX12_wordHere_29 rfl rfl rfl (by decide) rfl ?_
        refine go_goto 5 dX12_wordHere_32 (by decide) ?_
        exact go_lv [2, 3, 4, 1, 0] rfl (ih o0 h0 x1 x2 x4 (x4 + 1) M1)
def f_X12_wordHere (w : Nat) (o0 : Nat) (x1 : Int32) (x2 : Int32) (M : mM) : Option (Int32 × mM) := (f_X12_wordHere_5 w w o0 x1 x2 (-1) 0 M)
set_option maxHeartbeats 4000000 in
set_option maxRecDepth 100000 in
theorem s_X12_wordHere {l : Launch} {G : mG} {sk : List mS} (w : Nat) (o0 : Nat) (h0 : isK o0 22) (x1 : Int32) (x2 : Int32) (M : mM) : Go muX12_wordHere (rm 1) 0 0 l G sk (mFin G sk eI) (f_X12_wordHere w o0 x1 x2 M) 0 [(0, .ref (gB G + o0)), (1, .int x1), (2, .int x2)] [] M := by
  unfold f_X12_wordHere
  refine go_iconst (-1) 1 dX12_wordHere_0 rfl (by decide) ?_
  refine go_istore_n [(3, .int (-1)), (0, .ref (gB G + o0)), (1, .int x1), (2, .int x2)] 2 dX12_wordHere_1 rfl rfl (by decide) rfl ?_
  refine go_iconst 0 3 dX12_wordHere_2 rfl (by decide) ?_
  refine go_istore [(4, .int 0), (3, .int (-1)), (0, .ref (gB G + o0)), (1, .int x1), (2, .int x2)] 5 dX12_wordHere_3 rfl (by decide) rfl ?_
  exact go_lv [2, 3, 4, 1, 0] rfl (s_X12_wordHere_5 w w o0 h0 x1 x2 (-1) 0 M)
theorem m_X12_wordHere {l : Launch} {G : mG} {sk : List mS} (w : Nat) (o0 : Nat) (h0 : isK o0 22) (x1 : Int32) (x2 : Int32) (M : mM) : Mt l G sk yX12_wordHere muX12_wordHere 1 [.ref (gB G + o0), .int x1, .int x2] M eI (f_X12_wordHere w o0 x1 x2 M) := Mt.of (by decide) rfl (Nat.le_of_ble_eq_true rfl) (s_X12_wordHere w o0 h0 x1 x2 M)
theorem dX12_takeOne_0 : decode cX12_takeOne 0 = .ok (.aload_n 0, 1) := by decide +kernel
theorem dX12_takeOne_1 : decode cX12_takeOne 1 = .ok (.getfield 165, 3) := by decide +kernel
theorem dX12_takeOne_4 : decode cX12_takeOne 4 = .ok (.ifCond .le 7, 3) := by decide +kernel
theorem dX12_takeOne_7 : decode cX12_takeOne 7 = .ok (.iconst (-1), 1) := by decide +kernel
theorem dX12_takeOne_8 : decode cX12_takeOne 8 = .ok (.goto 9, 3) := by decide +kernel
theorem dX12_takeOne_11 : decode cX12_takeOne 11 = .ok (.aload_n 0, 1) := by decide +kernel
theorem dX12_takeOne_12 : decode cX12_takeOne 12 = .ok (.iload_n 1, 1) := by decide +kernel
theorem dX12_takeOne_13 : decode cX12_takeOne 13 = .ok (.iload_n 2, 1) := by decide +kernel
theorem dX12_takeOne_14 : decode cX12_takeOne 14 = .ok (.invokevirtual 187, 3) := by decide +kernel
theorem dX12_takeOne_17 : decode cX12_takeOne 17 = .ok (.istore_n 3, 1) := by decide +kernel
theorem dX12_takeOne_18 : decode cX12_takeOne 18 = .ok (.aload_n 0, 1) := by decide +kernel
theorem dX12_takeOne_19 : decode cX12_takeOne 19 = .ok (.getfield 165, 3) := by decide +kernel
theorem dX12_takeOne_22 : decode cX12_takeOne 22 = .ok (.ifCond .ne 12, 3) := by decide +kernel
theorem dX12_takeOne_25 : decode cX12_takeOne 25 = .ok (.iload_n 3, 1) := by decide +kernel
theorem dX12_takeOne_26 : decode cX12_takeOne 26 = .ok (.ifCond .ge 8, 3) := by decide +kernel
theorem dX12_takeOne_29 : decode cX12_takeOne 29 = .ok (.aload_n 0, 1) := by decide +kernel
theorem dX12_takeOne_30 : decode cX12_takeOne 30 = .ok (.iconst 1, 1) := by decide +kernel
theorem dX12_takeOne_31 : decode cX12_takeOne 31 = .ok (.invokevirtual 171, 3) := by decide +kernel
theorem dX12_takeOne_34 : decode cX12_takeOne 34 = .ok (.aload_n 0, 1) := by decide +kernel
theorem dX12_takeOne_35 : decode cX12_takeOne 35 = .ok (.dup, 1) := by decide +kernel
theorem dX12_takeOne_36 : decode cX12_takeOne 36 = .ok (.getfield 162, 3) := by decide +kernel
theorem dX12_takeOne_39 : decode cX12_takeOne 39 = .ok (.aload_n 0, 1) := by decide +kernel
theorem dX12_takeOne_40 : decode cX12_takeOne 40 = .ok (.getfield 165, 3) := by decide +kernel
theorem dX12_takeOne_43 : decode cX12_takeOne 43 = .ok (.ifCond .le 7, 3) := by decide +kernel
theorem dX12_takeOne_46 : decode cX12_takeOne 46 = .ok (.iconst 0, 1) := by decide +kernel
theorem dX12_takeOne_47 : decode cX12_takeOne 47 = .ok (.goto 4, 3) := by decide +kernel
theorem dX12_takeOne_50 : decode cX12_takeOne 50 = .ok (.iconst 1, 1) := by decide +kernel
theorem dX12_takeOne_51 : decode cX12_takeOne 51 = .ok (.iadd, 1) := by decide +kernel
theorem dX12_takeOne_52 : decode cX12_takeOne 52 = .ok (.putfield 162, 3) := by decide +kernel
theorem dX12_takeOne_55 : decode cX12_takeOne 55 = .ok (.aload_n 0, 1) := by decide +kernel
theorem dX12_takeOne_56 : decode cX12_takeOne 56 = .ok (.getfield 165, 3) := by decide +kernel
theorem dX12_takeOne_59 : decode cX12_takeOne 59 = .ok (.ifCond .le 7, 3) := by decide +kernel
theorem dX12_takeOne_62 : decode cX12_takeOne 62 = .ok (.iconst 0, 1) := by decide +kernel
theorem dX12_takeOne_63 : decode cX12_takeOne 63 = .ok (.goto 4, 3) := by decide +kernel
theorem dX12_takeOne_66 : decode cX12_takeOne 66 = .ok (.iload_n 3, 1) := by decide +kernel
theorem dX12_takeOne_67 : decode cX12_takeOne 67 = .ok (.ireturn, 1) := by decide +kernel
def f_X12_takeOne_51 (w : Nat) (o0 : Nat) (x3 : Int32) (xs0 : Int32) (xs1 : Int32) (os2 : Nat) (M : mM) : Option (Int32 × mM) := lt (wI M os2 7 (xs1 + xs0)) fun M1 => (if (M1.1 o0 8) ≤ 0 then some (x3, M1) else some (0, M1))
set_option maxHeartbeats 4000000 in
set_option maxRecDepth 100000 in
theorem s_X12_takeOne_51 {l : Launch} {G : mG} {sk : List mS} (w : Nat) (o0 : Nat) (h0 : isK o0 22) (x3 : Int32) (xs0 : Int32) (xs1 : Int32) (os2 : Nat) (hs2 : isK os2 22) (M : mM) : Go muX12_takeOne (rm 2) 0 0 l G sk (mFin G sk eI) (f_X12_takeOne_51 w o0 x3 xs0 xs1 os2 M) 51 [(0, .ref (gB G + o0)), (3, .int x3)] [.int xs0, .int xs1, .ref (gB G + os2)] M := by
  unfold f_X12_takeOne_51
  refine go_iadd 52 dX12_takeOne_51 rfl ?_
  refine go_putI flX12_162 rfl rfl hs2 55 dX12_takeOne_52 rfl ?_
  refine go_nmM (fun M1 => ?_)
  refine go_aload_n 0 56 dX12_takeOne_55 rfl rfl ?_
  refine go_getI flX12_165 (by decide) h0 59 dX12_takeOne_56 rfl ?_
  refine go_if_le 66 62 dX12_takeOne_59 rfl (by decide) (fun _ => ?_) (fun _ => ?_)
  · refine go_iload_n 1 67 dX12_takeOne_66 rfl rfl ?_
    exact go_iret rfl dX12_takeOne_67
  · refine go_iconst 0 63 dX12_takeOne_62 rfl (by decide) ?_
    refine go_goto 67 dX12_takeOne_63 (by decide) ?_
    exact go_iret rfl dX12_takeOne_67
def f_X12_takeOne_34 (w : Nat) (o0 : Nat) (x3 : Int32) (M : mM) : Option (Int32 × mM) := (if (M.1 o0 8) ≤ 0 then (f_X12_takeOne_51 w o0 x3 1 (M.1 o0 7) o0 M) else (f_X12_takeOne_51 w o0 x3 0 (M.1 o0 7) o0 M))
set_option maxHeartbeats 4000000 in
set_option maxRecDepth 100000 in
theorem s_X12_takeOne_34 {l : Launch} {G : mG} {sk : List mS} (w : Nat) (o0 : Nat) (h0 : isK o0 22) (x3 : Int32) (M : mM) : Go muX12_takeOne (rm 2) 0 0 l G sk (mFin G sk eI) (f_X12_takeOne_34 w o0 x3 M) 34 [(0, .ref (gB G + o0)), (3, .int x3)] [] M := by
  unfold f_X12_takeOne_34
  refine go_aload_n 0 35 dX12_takeOne_34 rfl rfl ?_
  refine go_dup 36 dX12_takeOne_35 rfl rfl ?_
  refine go_getI flX12_162 (by decide) h0 39 dX12_takeOne_36 rfl ?_
  refine go_aload_n 0 40 dX12_takeOne_39 rfl rfl ?_
  refine go_getI flX12_165 (by decide) h0 43 dX12_takeOne_40 rfl ?_
  refine go_if_le 50 46 dX12_takeOne_43 rfl (by decide) (fun _ => ?_) (fun _ => ?_)
  · refine go_iconst 1 51 dX12_takeOne_50 rfl (by decide) ?_
    exact go_lv [0, 1] rfl (s_X12_takeOne_51 w o0 h0 x3 1 (M.1 o0 7) o0 h0 M)
  · refine go_iconst 0 47 dX12_takeOne_46 rfl (by decide) ?_
    refine go_goto 51 dX12_takeOne_47 (by decide) ?_
    exact go_lv [0, 1] rfl (s_X12_takeOne_51 w o0 h0 x3 0 (M.1 o0 7) o0 h0 M)
def f_X12_takeOne_17 (w : Nat) (o0 : Nat) (xs0 : Int32) (M : mM) : Option (Int32 × mM) := (if (M.1 o0 8) = 0 then (if 0 ≤ xs0 then (f_X12_takeOne_34 w o0 xs0 M) else bV (f_X12_wrong w o0 1 M) fun M1 => (f_X12_takeOne_34 w o0 xs0 M1)) else (f_X12_takeOne_34 w o0 xs0 M))
set_option maxHeartbeats 4000000 in
set_option maxRecDepth 100000 in
theorem s_X12_takeOne_17 {l : Launch} {G : mG} {sk : List mS} (w : Nat) (o0 : Nat) (h0 : isK o0 22) (xs0 : Int32) (M : mM) : Go muX12_takeOne (rm 2) 0 0 l G sk (mFin G sk eI) (f_X12_takeOne_17 w o0 xs0 M) 17 [(0, .ref (gB G + o0))] [.int xs0] M := by
  unfold f_X12_takeOne_17
  refine go_istore_n [(3, .int xs0), (0, .ref (gB G + o0))] 18 dX12_takeOne_17 rfl rfl (by decide) rfl ?_
  refine go_aload_n 1 19 dX12_takeOne_18 rfl rfl ?_
  refine go_getI flX12_165 (by decide) h0 22 dX12_takeOne_19 rfl ?_
  refine go_if_ne 34 25 dX12_takeOne_22 rfl (by decide) (fun _ => ?_) (fun _ => ?_)
  · exact go_lv [1, 0] rfl (s_X12_takeOne_34 w o0 h0 xs0 M)
  · refine go_iload_n 0 26 dX12_takeOne_25 rfl rfl ?_
    refine go_if_ge 34 29 dX12_takeOne_26 rfl (by decide) (fun _ => ?_) (fun _ => ?_)
    · exact go_lv [1, 0] rfl (s_X12_takeOne_34 w o0 h0 xs0 M)
    · refine go_aload_n 1 30 dX12_takeOne_29 rfl rfl ?_
      refine go_iconst 1 31 dX12_takeOne_30 rfl (by decide) ?_
      refine go_cVV1 0 clX12 cwX12_171 (m_X12_wrong w o0 h0 1 M) h0 34 dX12_takeOne_31 rfl ⟨Nat.le_of_ble_eq_true rfl, Nat.le_of_ble_eq_true rfl⟩ ⟨Nat.zero_le _, Nat.zero_le _⟩ (Nat.le_of_ble_eq_true rfl) (fun M1 _ => ?_)
      exact go_lv [1, 0] rfl (s_X12_takeOne_34 w o0 h0 xs0 M1)
def f_X12_takeOne (w : Nat) (o0 : Nat) (x1 : Int32) (x2 : Int32) (M : mM) : Option (Int32 × mM) := (if (M.1 o0 8) ≤ 0 then bI (f_X12_wordHere w o0 x1 x2 M) fun q2 M1 => (f_X12_takeOne_17 w o0 q2 M1) else (f_X12_takeOne_17 w o0 (-1) M))
set_option maxHeartbeats 4000000 in
set_option maxRecDepth 100000 in
theorem s_X12_takeOne {l : Launch} {G : mG} {sk : List mS} (w : Nat) (o0 : Nat) (h0 : isK o0 22) (x1 : Int32) (x2 : Int32) (M : mM) : Go muX12_takeOne (rm 2) 0 0 l G sk (mFin G sk eI) (f_X12_takeOne w o0 x1 x2 M) 0 [(0, .ref (gB G + o0)), (1, .int x1), (2, .int x2)] [] M := by
  unfold f_X12_takeOne
  refine go_aload_n 0 1 dX12_takeOne_0 rfl rfl ?_
  refine go_getI flX12_165 (by decide) h0 4 dX12_takeOne_1 rfl ?_
  refine go_if_le 11 7 dX12_takeOne_4 rfl (by decide) (fun _ => ?_) (fun _ => ?_)
  · refine go_aload_n 0 12 dX12_takeOne_11 rfl rfl ?_
    refine go_iload_n 1 13 dX12_takeOne_12 rfl rfl ?_
    refine go_iload_n 2 14 dX12_takeOne_13 rfl rfl ?_
    refine go_cVI2 1 clX12 cwX12_187 (m_X12_wordHere w o0 h0 x1 x2 M) h0 17 dX12_takeOne_14 rfl ⟨Nat.le_of_ble_eq_true rfl, Nat.le_of_ble_eq_true rfl⟩ ⟨Nat.zero_le _, Nat.zero_le _⟩ (Nat.le_of_ble_eq_true rfl) (fun q2 M1 _ => ?_)
    exact go_lv [0] rfl (s_X12_takeOne_17 w o0 h0 q2 M1)
  · refine go_iconst (-1) 8 dX12_takeOne_7 rfl (by decide) ?_
    refine go_goto 17 dX12_takeOne_8 (by decide) ?_
    exact go_lv [0] rfl (s_X12_takeOne_17 w o0 h0 (-1) M)
theorem m_X12_takeOne {l : Launch} {G : mG} {sk : List mS} (w : Nat) (o0 : Nat) (h0 : isK o0 22) (x1 : Int32) (x2 : Int32) (M : mM) : Mt l G sk yX12_takeOne muX12_takeOne 2 [.ref (gB G + o0), .int x1, .int x2] M eI (f_X12_takeOne w o0 x1 x2 M) := Mt.of (by decide) rfl (Nat.le_of_ble_eq_true rfl) (s_X12_takeOne w o0 h0 x1 x2 M)
theorem dX12_isName_0 : decode cX12_isName 0 = .ok (.aload_n 0, 1) := by decide +kernel
theorem dX12_isName_1 : decode cX12_isName 1 = .ok (.getfield 165, 3) := by decide +kernel
theorem dX12_isName_4 : decode cX12_isName 4 = .ok (.ifCond .ne 30, 3) := by decide +kernel
theorem dX12_isName_7 : decode cX12_isName 7 = .ok (.aload_n 0, 1) := by decide +kernel
theorem dX12_isName_8 : decode cX12_isName 8 = .ok (.getfield 24, 3) := by decide +kernel
theorem dX12_isName_11 : decode cX12_isName 11 = .ok (.aload_n 0, 1) := by decide +kernel
theorem dX12_isName_12 : decode cX12_isName 12 = .ok (.getfield 162, 3) := by decide +kernel
theorem dX12_isName_15 : decode cX12_isName 15 = .ok (.iaload, 1) := by decide +kernel
theorem dX12_isName_16 : decode cX12_isName 16 = .ok (.iconst 1, 1) := by decide +kernel
theorem dX12_isName_17 : decode cX12_isName 17 = .ok (.if_icmp .ne 17, 3) := by decide +kernel
theorem dX12_isName_20 : decode cX12_isName 20 = .ok (.aload_n 0, 1) := by decide +kernel
theorem dX12_isName_21 : decode cX12_isName 21 = .ok (.iconst 0, 1) := by decide +kernel
theorem dX12_isName_22 : decode cX12_isName 22 = .ok (.bipush 19, 2) := by decide +kernel
theorem dX12_isName_24 : decode cX12_isName 24 = .ok (.invokevirtual 187, 3) := by decide +kernel
theorem dX12_isName_27 : decode cX12_isName 27 = .ok (.ifCond .ge 7, 3) := by decide +kernel
theorem dX12_isName_30 : decode cX12_isName 30 = .ok (.iconst 1, 1) := by decide +kernel
theorem dX12_isName_31 : decode cX12_isName 31 = .ok (.goto 4, 3) := by decide +kernel
theorem dX12_isName_34 : decode cX12_isName 34 = .ok (.iconst 0, 1) := by decide +kernel
theorem dX12_isName_35 : decode cX12_isName 35 = .ok (.ireturn, 1) := by decide +kernel
def f_X12_isName (w : Nat) (o0 : Nat) (M : mM) : Option (Int32 × mM) := (if (M.1 o0 8) = 0 then chk (M.1 o0 7) (sL (rF o0 4)) ((if (M.1 (rF o0 4) (M.1 o0 7).toNatClampNeg) = 1 then bI (f_X12_wordHere w o0 0 19 M) fun q2 M1 => (if 0 ≤ q2 then rtB 0 M1 else rtB 1 M1) else rtB 0 M)) else rtB 0 M)
set_option maxHeartbeats 4000000 in
set_option maxRecDepth 100000 in
theorem s_X12_isName {l : Launch} {G : mG} {sk : List mS} (w : Nat) (o0 : Nat) (h0 : isK o0 22) (M : mM) : Go muX12_isName (rm 2) 0 0 l G sk (mFin G sk eI) (f_X12_isName w o0 M) 0 [(0, .ref (gB G + o0))] [] M := by
  unfold f_X12_isName
  refine go_aload_n 0 1 dX12_isName_0 rfl rfl ?_
  refine go_getI flX12_165 (by decide) h0 4 dX12_isName_1 rfl ?_
  refine go_if_ne 34 7 dX12_isName_4 rfl (by decide) (fun _ => ?_) (fun _ => ?_)
  · refine go_iconst 0 35 dX12_isName_34 rfl (by decide) ?_
    exact go_zret rfl dX12_isName_35
  · refine go_aload_n 0 8 dX12_isName_7 rfl rfl ?_
    refine go_getR flX12_24 h0 11 dX12_isName_8 rfl ?_
    refine go_aload_n 0 12 dX12_isName_11 rfl rfl ?_
    refine go_getI flX12_162 (by decide) h0 15 dX12_isName_12 rfl ?_
    refine go_iald (rk12_4 h0) 16 dX12_isName_15 rfl ?_
    refine go_iconst 1 17 dX12_isName_16 rfl (by decide) ?_
    refine go_icmp_ne 34 20 dX12_isName_17 rfl (by decide) (fun _ => ?_) (fun _ => ?_)
    · refine go_iconst 0 35 dX12_isName_34 rfl (by decide) ?_
      exact go_zret rfl dX12_isName_35
    · refine go_aload_n 0 21 dX12_isName_20 rfl rfl ?_
      refine go_iconst 0 22 dX12_isName_21 rfl (by decide) ?_
      refine go_bipush 19 24 dX12_isName_22 rfl (by decide) ?_
      refine go_cVI2 1 clX12 cwX12_187 (m_X12_wordHere w o0 h0 0 19 M) h0 27 dX12_isName_24 rfl ⟨Nat.le_of_ble_eq_true rfl, Nat.le_of_ble_eq_true rfl⟩ ⟨Nat.zero_le _, Nat.zero_le _⟩ (Nat.le_of_ble_eq_true rfl) (fun q2 M1 _ => ?_)
      refine go_if_ge 34 30 dX12_isName_27 rfl (by decide) (fun _ => ?_) (fun _ => ?_)
      · refine go_iconst 0 35 dX12_isName_34 rfl (by decide) ?_
        exact go_zret rfl dX12_isName_35
      · refine go_iconst 1 31 dX12_isName_30 rfl (by decide) ?_
        refine go_goto 35 dX12_isName_31 (by decide) ?_
        exact go_zret rfl dX12_isName_35
theorem m_X12_isName {l : Launch} {G : mG} {sk : List mS} (w : Nat) (o0 : Nat) (h0 : isK o0 22) (M : mM) : Mt l G sk yX12_isName muX12_isName 2 [.ref (gB G + o0)] M eI (f_X12_isName w o0 M) := Mt.of (by decide) rfl (Nat.le_of_ble_eq_true rfl) (s_X12_isName w o0 h0 M)
theorem dX12_nameAt_0 : decode cX12_nameAt 0 = .ok (.iconst 0, 1) := by decide +kernel
theorem dX12_nameAt_1 : decode cX12_nameAt 1 = .ok (.istore_n 2, 1) := by decide +kernel
theorem dX12_nameAt_2 : decode cX12_nameAt 2 = .ok (.iload_n 2, 1) := by decide +kernel
theorem dX12_nameAt_3 : decode cX12_nameAt 3 = .ok (.iload_n 1, 1) := by decide +kernel
theorem dX12_nameAt_4 : decode cX12_nameAt 4 = .ok (.ifCond .eq 10, 3) := by decide +kernel
theorem dX12_nameAt_7 : decode cX12_nameAt 7 = .ok (.aload_n 0, 1) := by decide +kernel
theorem dX12_nameAt_8 : decode cX12_nameAt 8 = .ok (.getfield 190, 3) := by decide +kernel
theorem dX12_nameAt_11 : decode cX12_nameAt 11 = .ok (.goto 7, 3) := by decide +kernel
theorem dX12_nameAt_14 : decode cX12_nameAt 14 = .ok (.aload_n 0, 1) := by decide +kernel
theorem dX12_nameAt_15 : decode cX12_nameAt 15 = .ok (.getfield 193, 3) := by decide +kernel
theorem dX12_nameAt_18 : decode cX12_nameAt 18 = .ok (.if_icmp .ge 61, 3) := by decide +kernel
theorem dX12_nameAt_21 : decode cX12_nameAt 21 = .ok (.iload_n 1, 1) := by decide +kernel
theorem dX12_nameAt_22 : decode cX12_nameAt 22 = .ok (.ifCond .eq 12, 3) := by decide +kernel
theorem dX12_nameAt_25 : decode cX12_nameAt 25 = .ok (.aload_n 0, 1) := by decide +kernel
theorem dX12_nameAt_26 : decode cX12_nameAt 26 = .ok (.getfield 95, 3) := by decide +kernel
theorem dX12_nameAt_29 : decode cX12_nameAt 29 = .ok (.iload_n 2, 1) := by decide +kernel
theorem dX12_nameAt_30 : decode cX12_nameAt 30 = .ok (.laload, 1) := by decide +kernel
theorem dX12_nameAt_31 : decode cX12_nameAt 31 = .ok (.goto 9, 3) := by decide +kernel
theorem dX12_nameAt_34 : decode cX12_nameAt 34 = .ok (.aload_n 0, 1) := by decide +kernel
theorem dX12_nameAt_35 : decode cX12_nameAt 35 = .ok (.getfield 92, 3) := by decide +kernel
theorem dX12_nameAt_38 : decode cX12_nameAt 38 = .ok (.iload_n 2, 1) := by decide +kernel
theorem dX12_nameAt_39 : decode cX12_nameAt 39 = .ok (.laload, 1) := by decide +kernel
theorem dX12_nameAt_40 : decode cX12_nameAt 40 = .ok (.aload_n 0, 1) := by decide +kernel
theorem dX12_nameAt_41 : decode cX12_nameAt 41 = .ok (.getfield 30, 3) := by decide +kernel
theorem dX12_nameAt_44 : decode cX12_nameAt 44 = .ok (.aload_n 0, 1) := by decide +kernel
theorem dX12_nameAt_45 : decode cX12_nameAt 45 = .ok (.getfield 162, 3) := by decide +kernel
theorem dX12_nameAt_48 : decode cX12_nameAt 48 = .ok (.laload, 1) := by decide +kernel
theorem dX12_nameAt_49 : decode cX12_nameAt 49 = .ok (.lcmp, 1) := by decide +kernel
theorem dX12_nameAt_50 : decode cX12_nameAt 50 = .ok (.ifCond .ne 23, 3) := by decide +kernel
theorem dX12_nameAt_53 : decode cX12_nameAt 53 = .ok (.iload_n 1, 1) := by decide +kernel
theorem dX12_nameAt_54 : decode cX12_nameAt 54 = .ok (.ifCond .eq 12, 3) := by decide +kernel
theorem dX12_nameAt_57 : decode cX12_nameAt 57 = .ok (.aload_n 0, 1) := by decide +kernel
theorem dX12_nameAt_58 : decode cX12_nameAt 58 = .ok (.getfield 101, 3) := by decide +kernel
theorem dX12_nameAt_61 : decode cX12_nameAt 61 = .ok (.iload_n 2, 1) := by decide +kernel
theorem dX12_nameAt_62 : decode cX12_nameAt 62 = .ok (.iaload, 1) := by decide +kernel
theorem dX12_nameAt_63 : decode cX12_nameAt 63 = .ok (.goto 9, 3) := by decide +kernel
theorem dX12_nameAt_66 : decode cX12_nameAt 66 = .ok (.aload_n 0, 1) := by decide +kernel
theorem dX12_nameAt_67 : decode cX12_nameAt 67 = .ok (.getfield 98, 3) := by decide +kernel
theorem dX12_nameAt_70 : decode cX12_nameAt 70 = .ok (.iload_n 2, 1) := by decide +kernel
theorem dX12_nameAt_71 : decode cX12_nameAt 71 = .ok (.iaload, 1) := by decide +kernel
theorem dX12_nameAt_72 : decode cX12_nameAt 72 = .ok (.ireturn, 1) := by decide +kernel
theorem dX12_nameAt_73 : decode cX12_nameAt 73 = .ok (.iinc 2 1, 3) := by decide +kernel
theorem dX12_nameAt_76 : decode cX12_nameAt 76 = .ok (.goto (-74), 3) := by decide +kernel
theorem dX12_nameAt_79 : decode cX12_nameAt 79 = .ok (.iconst (-1), 1) := by decide +kernel
theorem dX12_nameAt_80 : decode cX12_nameAt 80 = .ok (.ireturn, 1) := by decide +kernel
def f_X12_nameAt_53 (w : Nat) (o0 : Nat) (x1 : Int32) (x2 : Int32) (M : mM) : Option (Int32 × mM) := (if x1 = 0 then chk x2 (sL (rF o0 16)) (some ((M.1 (rF o0 16) x2.toNatClampNeg), M)) else chk x2 (sL (rF o0 17)) (some ((M.1 (rF o0 17) x2.toNatClampNeg), M)))
set_option maxHeartbeats 4000000 in
set_option maxRecDepth 100000 in
theorem s_X12_nameAt_53 {l : Launch} {G : mG} {sk : List mS} (w : Nat) (o0 : Nat) (h0 : isK o0 22) (x1 : Int32) (x2 : Int32) (M : mM) : Go muX12_nameAt (rm 0) 0 0 l G sk (mFin G sk eI) (f_X12_nameAt_53 w o0 x1 x2 M) 53 [(0, .ref (gB G + o0)), (1, .int x1), (2, .int x2)] [] M := by
  unfold f_X12_nameAt_53
  refine go_iload_n 1 54 dX12_nameAt_53 rfl rfl ?_
  refine go_if_eq 66 57 dX12_nameAt_54 rfl (by decide) (fun _ => ?_) (fun _ => ?_)
  · refine go_aload_n 0 67 dX12_nameAt_66 rfl rfl ?_
    refine go_getR flX12_98 h0 70 dX12_nameAt_67 rfl ?_
    refine go_iload_n 2 71 dX12_nameAt_70 rfl rfl ?_
    refine go_iald (rk12_16 h0) 72 dX12_nameAt_71 rfl ?_
    exact go_iret rfl dX12_nameAt_72
  · refine go_aload_n 0 58 dX12_nameAt_57 rfl rfl ?_
    refine go_getR flX12_101 h0 61 dX12_nameAt_58 rfl ?_
    refine go_iload_n 2 62 dX12_nameAt_61 rfl rfl ?_
    refine go_iald (rk12_17 h0) 63 dX12_nameAt_62 rfl ?_
    refine go_goto 72 dX12_nameAt_63 (by decide) ?_
    exact go_iret rfl dX12_nameAt_72
def f_X12_nameAt_40 (w : Nat) (k2 : Nat → Int32 → Int32 → mM → Option (Int32 × mM)) (o0 : Nat) (x1 : Int32) (x2 : Int32) (xs0 : Int64) (M : mM) : Option (Int32 × mM) := chk (M.1 o0 7) (sL (rF o0 6)) ((if (lg_cmp xs0 (M.2 (rF o0 6) (M.1 o0 7).toNatClampNeg)) = 0 then (f_X12_nameAt_53 w o0 x1 x2 M) else (k2 o0 x1 (x2 + 1) M)))
set_option maxHeartbeats 4000000 in
set_option maxRecDepth 100000 in
theorem s_X12_nameAt_40 {l : Launch} {G : mG} {sk : List mS} (w : Nat) (k2 : Nat → Int32 → Int32 → mM → Option (Int32 × mM)) (hk2 : ∀ (o0 : Nat) (h0 : isK o0 22) (x1 : Int32) (x2 : Int32) (M : mM), Go muX12_nameAt (rm 0) 0 0 l G sk (mFin G sk eI) (k2 o0 x1 x2 M) 2 [(0, .ref (gB G + o0)), (1, .int x1), (2, .int x2)] [] M) (o0 : Nat) (h0 : isK o0 22) (x1 : Int32) (x2 : Int32) (xs0 : Int64) (M : mM) : Go muX12_nameAt (rm 0) 0 0 l G sk (mFin G sk eI) (f_X12_nameAt_40 w k2 o0 x1 x2 xs0 M) 40 [(0, .ref (gB G + o0)), (1, .int x1), (2, .int x2)] [.long xs0] M := by
  unfold f_X12_nameAt_40
  refine go_aload_n 0 41 dX12_nameAt_40 rfl rfl ?_
  refine go_getR flX12_30 h0 44 dX12_nameAt_41 rfl ?_
  refine go_aload_n 0 45 dX12_nameAt_44 rfl rfl ?_
  refine go_getI flX12_162 (by decide) h0 48 dX12_nameAt_45 rfl ?_
  refine go_lald (rk12_6 h0) 49 dX12_nameAt_48 rfl ?_
  refine go_lcmp 50 dX12_nameAt_49 rfl ?_
  refine go_if_ne 73 53 dX12_nameAt_50 rfl (by decide) (fun _ => ?_) (fun _ => ?_)
  · refine go_iinc (x2 + 1) 2 [(2, .int (x2 + 1)), (0, .ref (gB G + o0)), (1, .int x1)] 76 dX12_nameAt_73 rfl rfl rfl (by decide) rfl ?_
    refine go_goto 2 dX12_nameAt_76 (by decide) ?_
    exact go_lv [1, 2, 0] rfl (hk2 o0 h0 x1 (x2 + 1) M)
  · exact go_lv [0, 1, 2] rfl (s_X12_nameAt_53 w o0 h0 x1 x2 M)
def f_X12_nameAt_18 (w : Nat) (k2 : Nat → Int32 → Int32 → mM → Option (Int32 × mM)) (o0 : Nat) (x1 : Int32) (x2 : Int32) (xs0 : Int32) (xs1 : Int32) (M : mM) : Option (Int32 × mM) := (if xs0 ≤ xs1 then some ((-1), M) else (if x1 = 0 then chk x2 (sL (rF o0 14)) ((f_X12_nameAt_40 w k2 o0 x1 x2 (M.2 (rF o0 14) x2.toNatClampNeg) M)) else chk x2 (sL (rF o0 15)) ((f_X12_nameAt_40 w k2 o0 x1 x2 (M.2 (rF o0 15) x2.toNatClampNeg) M))))
set_option maxHeartbeats 4000000 in
set_option maxRecDepth 100000 in
theorem s_X12_nameAt_18 {l : Launch} {G : mG} {sk : List mS} (w : Nat) (k2 : Nat → Int32 → Int32 → mM → Option (Int32 × mM)) (hk2 : ∀ (o0 : Nat) (h0 : isK o0 22) (x1 : Int32) (x2 : Int32) (M : mM), Go muX12_nameAt (rm 0) 0 0 l G sk (mFin G sk eI) (k2 o0 x1 x2 M) 2 [(0, .ref (gB G + o0)), (1, .int x1), (2, .int x2)] [] M) (o0 : Nat) (h0 : isK o0 22) (x1 : Int32) (x2 : Int32) (xs0 : Int32) (xs1 : Int32) (M : mM) : Go muX12_nameAt (rm 0) 0 0 l G sk (mFin G sk eI) (f_X12_nameAt_18 w k2 o0 x1 x2 xs0 xs1 M) 18 [(0, .ref (gB G + o0)), (1, .int x1), (2, .int x2)] [.int xs0, .int xs1] M := by
  unfold f_X12_nameAt_18
  refine go_icmp_ge 79 21 dX12_nameAt_18 rfl (by decide) (fun _ => ?_) (fun _ => ?_)
  · refine go_iconst (-1) 80 dX12_nameAt_79 rfl (by decide) ?_
    exact go_iret rfl dX12_nameAt_80
  · refine go_iload_n 1 22 dX12_nameAt_21 rfl rfl ?_
    refine go_if_eq 34 25 dX12_nameAt_22 rfl (by decide) (fun _ => ?_) (fun _ => ?_)
    · refine go_aload_n 0 35 dX12_nameAt_34 rfl rfl ?_
      refine go_getR flX12_92 h0 38 dX12_nameAt_35 rfl ?_
      refine go_iload_n 2 39 dX12_nameAt_38 rfl rfl ?_
      refine go_lald (rk12_14 h0) 40 dX12_nameAt_39 rfl ?_
      exact go_lv [0, 1, 2] rfl (s_X12_nameAt_40 w k2 hk2 o0 h0 x1 x2 (M.2 (rF o0 14) x2.toNatClampNeg) M)
    · refine go_aload_n 0 26 dX12_nameAt_25 rfl rfl ?_
      refine go_getR flX12_95 h0 29 dX12_nameAt_26 rfl ?_
      refine go_iload_n 2 30 dX12_nameAt_29 rfl rfl ?_
      refine go_lald (rk12_15 h0) 31 dX12_nameAt_30 rfl ?_
      refine go_goto 40 dX12_nameAt_31 (by decide) ?_
      exact go_lv [0, 1, 2] rfl (s_X12_nameAt_40 w k2 hk2 o0 h0 x1 x2 (M.2 (rF o0 15) x2.toNatClampNeg) M)
def f_X12_nameAt_2 (w : Nat) : Nat → Nat → Int32 → Int32 → mM → Option (Int32 × mM)
  | 0, _, _, _, _ => none
  | n + 1, o0, x1, x2, M => (if x1 = 0 then (f_X12_nameAt_18 w (f_X12_nameAt_2 w n) o0 x1 x2 (M.1 o0 18) x2 M) else (f_X12_nameAt_18 w (f_X12_nameAt_2 w n) o0 x1 x2 (M.1 o0 19) x2 M))
set_option maxHeartbeats 4000000 in
set_option maxRecDepth 100000 in
theorem s_X12_nameAt_2 {l : Launch} {G : mG} {sk : List mS} (w : Nat) : ∀ (n : Nat) (o0 : Nat) (h0 : isK o0 22) (x1 : Int32) (x2 : Int32) (M : mM), Go muX12_nameAt (rm 0) 0 0 l G sk (mFin G sk eI) (f_X12_nameAt_2 w n o0 x1 x2 M) 2 [(0, .ref (gB G + o0)), (1, .int x1), (2, .int x2)] [] M := by
  intro n
  induction n with
  | zero =>
    intros
    exact go_none
  | succ n ih =>
    intro o0 h0 x1 x2 M
    rw [f_X12_nameAt_2]
    refine go_iload_n 2 3 dX12_nameAt_2 rfl rfl ?_
    refine go_iload_n 1 4 dX12_nameAt_3 rfl rfl ?_
    refine go_if_eq 14 7 dX12_nameAt_4 rfl (by decide) (fun _ => ?_) (fun _ => ?_)
    · refine go_aload_n 0 15 dX12_nameAt_14 rfl rfl ?_
      refine go_getI flX12_193 (by decide) h0 18 dX12_nameAt_15 rfl ?_
      exact go_lv [0, 1, 2] rfl (s_X12_nameAt_18 w (f_X12_nameAt_2 w n) (fun o0 h0 x1 x2 M => ih o0 h0 x1 x2 M) o0 h0 x1 x2 (M.1 o0 18) x2 M)
    · refine go_aload_n 0 8 dX12_nameAt_7 rfl rfl ?_
      refine go_getI flX12_190 (by decide) h0 11 dX12_nameAt_8 rfl ?_
      refine go_goto 18 dX12_nameAt_11 (by decide) ?_
      exact go_lv [0, 1, 2] rfl (s_X12_nameAt_18 w (f_X12_nameAt_2 w n) (fun o0 h0 x1 x2 M => ih o0 h0 x1 x2 M) o0 h0 x1 x2 (M.1 o0 19) x2 M)
def f_X12_nameAt (w : Nat) (o0 : Nat) (x1 : Int32) (M : mM) : Option (Int32 × mM) := (f_X12_nameAt_2 w w o0 x1 0 M)
set_option maxHeartbeats 4000000 in
set_option maxRecDepth 100000 in
theorem s_X12_nameAt {l : Launch} {G : mG} {sk : List mS} (w : Nat) (o0 : Nat) (h0 : isK o0 22) (x1 : Int32) (M : mM) : Go muX12_nameAt (rm 0) 0 0 l G sk (mFin G sk eI) (f_X12_nameAt w o0 x1 M) 0 [(0, .ref (gB G + o0)), (1, .int x1)] [] M := by
  unfold f_X12_nameAt
  refine go_iconst 0 1 dX12_nameAt_0 rfl (by decide) ?_
  refine go_istore_n [(2, .int 0), (0, .ref (gB G + o0)), (1, .int x1)] 2 dX12_nameAt_1 rfl rfl (by decide) rfl ?_
  exact go_lv [1, 2, 0] rfl (s_X12_nameAt_2 w w o0 h0 x1 0 M)
theorem m_X12_nameAt {l : Launch} {G : mG} {sk : List mS} (w : Nat) (o0 : Nat) (h0 : isK o0 22) (x1 : Int32) (M : mM) : Mt l G sk yX12_nameAt muX12_nameAt 0 [.ref (gB G + o0), .int x1] M eI (f_X12_nameAt w o0 x1 M) := Mt.of (by decide) rfl (Nat.le_of_ble_eq_true rfl) (s_X12_nameAt w o0 h0 x1 M)
theorem dX12_takeTold_0 : decode cX12_takeTold 0 = .ok (.aload_n 0, 1) := by decide +kernel
theorem dX12_takeTold_1 : decode cX12_takeTold 1 = .ok (.getfield 165, 3) := by decide +kernel
theorem dX12_takeTold_4 : decode cX12_takeTold 4 = .ok (.ifCond .ne 15, 3) := by decide +kernel
theorem dX12_takeTold_7 : decode cX12_takeTold 7 = .ok (.aload_n 0, 1) := by decide +kernel
theorem dX12_takeTold_8 : decode cX12_takeTold 8 = .ok (.invokevirtual 196, 3) := by decide +kernel
theorem dX12_takeTold_11 : decode cX12_takeTold 11 = .ok (.ifCond .ne 8, 3) := by decide +kernel
theorem dX12_takeTold_14 : decode cX12_takeTold 14 = .ok (.aload_n 0, 1) := by decide +kernel
theorem dX12_takeTold_15 : decode cX12_takeTold 15 = .ok (.iconst 1, 1) := by decide +kernel
theorem dX12_takeTold_16 : decode cX12_takeTold 16 = .ok (.invokevirtual 171, 3) := by decide +kernel
theorem dX12_takeTold_19 : decode cX12_takeTold 19 = .ok (.aload_n 0, 1) := by decide +kernel
theorem dX12_takeTold_20 : decode cX12_takeTold 20 = .ok (.getfield 165, 3) := by decide +kernel
theorem dX12_takeTold_23 : decode cX12_takeTold 23 = .ok (.ifCond .le 7, 3) := by decide +kernel
theorem dX12_takeTold_26 : decode cX12_takeTold 26 = .ok (.iconst (-1), 1) := by decide +kernel
theorem dX12_takeTold_27 : decode cX12_takeTold 27 = .ok (.goto 10, 3) := by decide +kernel
theorem dX12_takeTold_30 : decode cX12_takeTold 30 = .ok (.aload_n 0, 1) := by decide +kernel
theorem dX12_takeTold_31 : decode cX12_takeTold 31 = .ok (.iload_n 1, 1) := by decide +kernel
theorem dX12_takeTold_32 : decode cX12_takeTold 32 = .ok (.invokevirtual 200, 3) := by decide +kernel
theorem dX12_takeTold_35 : decode cX12_takeTold 35 = .ok (.iload_n 2, 1) := by decide +kernel
theorem dX12_takeTold_36 : decode cX12_takeTold 36 = .ok (.isub, 1) := by decide +kernel
theorem dX12_takeTold_37 : decode cX12_takeTold 37 = .ok (.istore 4, 2) := by decide +kernel
theorem dX12_takeTold_39 : decode cX12_takeTold 39 = .ok (.aload_n 0, 1) := by decide +kernel
theorem dX12_takeTold_40 : decode cX12_takeTold 40 = .ok (.getfield 165, 3) := by decide +kernel
theorem dX12_takeTold_43 : decode cX12_takeTold 43 = .ok (.ifCond .ne 22, 3) := by decide +kernel
theorem dX12_takeTold_46 : decode cX12_takeTold 46 = .ok (.iload 4, 2) := by decide +kernel
theorem dX12_takeTold_48 : decode cX12_takeTold 48 = .ok (.iconst 0, 1) := by decide +kernel
theorem dX12_takeTold_49 : decode cX12_takeTold 49 = .ok (.bipush 6, 2) := by decide +kernel
theorem dX12_takeTold_51 : decode cX12_takeTold 51 = .ok (.invokestatic 204, 3) := by decide +kernel
theorem dX12_takeTold_54 : decode cX12_takeTold 54 = .ok (.ifCond .ne 11, 3) := by decide +kernel
theorem dX12_takeTold_57 : decode cX12_takeTold 57 = .ok (.aload_n 0, 1) := by decide +kernel
theorem dX12_takeTold_58 : decode cX12_takeTold 58 = .ok (.iconst 2, 1) := by decide +kernel
theorem dX12_takeTold_59 : decode cX12_takeTold 59 = .ok (.invokevirtual 171, 3) := by decide +kernel
theorem dX12_takeTold_62 : decode cX12_takeTold 62 = .ok (.goto 25, 3) := by decide +kernel
theorem dX12_takeTold_65 : decode cX12_takeTold 65 = .ok (.aload_n 0, 1) := by decide +kernel
theorem dX12_takeTold_66 : decode cX12_takeTold 66 = .ok (.getfield 165, 3) := by decide +kernel
theorem dX12_takeTold_69 : decode cX12_takeTold 69 = .ok (.ifCond .ne 18, 3) := by decide +kernel
theorem dX12_takeTold_72 : decode cX12_takeTold 72 = .ok (.iload_n 3, 1) := by decide +kernel
theorem dX12_takeTold_73 : decode cX12_takeTold 73 = .ok (.iload 4, 2) := by decide +kernel
theorem dX12_takeTold_75 : decode cX12_takeTold 75 = .ok (.ishr, 1) := by decide +kernel
theorem dX12_takeTold_76 : decode cX12_takeTold 76 = .ok (.iconst 1, 1) := by decide +kernel
theorem dX12_takeTold_77 : decode cX12_takeTold 77 = .ok (.iand, 1) := by decide +kernel
theorem dX12_takeTold_78 : decode cX12_takeTold 78 = .ok (.iconst 1, 1) := by decide +kernel
theorem dX12_takeTold_79 : decode cX12_takeTold 79 = .ok (.if_icmp .ne 8, 3) := by decide +kernel
theorem dX12_takeTold_82 : decode cX12_takeTold 82 = .ok (.aload_n 0, 1) := by decide +kernel
theorem dX12_takeTold_83 : decode cX12_takeTold 83 = .ok (.iconst 3, 1) := by decide +kernel
theorem dX12_takeTold_84 : decode cX12_takeTold 84 = .ok (.invokevirtual 171, 3) := by decide +kernel
theorem dX12_takeTold_87 : decode cX12_takeTold 87 = .ok (.aload_n 0, 1) := by decide +kernel
theorem dX12_takeTold_88 : decode cX12_takeTold 88 = .ok (.dup, 1) := by decide +kernel
theorem dX12_takeTold_89 : decode cX12_takeTold 89 = .ok (.getfield 162, 3) := by decide +kernel
theorem dX12_takeTold_92 : decode cX12_takeTold 92 = .ok (.aload_n 0, 1) := by decide +kernel
theorem dX12_takeTold_93 : decode cX12_takeTold 93 = .ok (.getfield 165, 3) := by decide +kernel
theorem dX12_takeTold_96 : decode cX12_takeTold 96 = .ok (.ifCond .le 7, 3) := by decide +kernel
theorem dX12_takeTold_99 : decode cX12_takeTold 99 = .ok (.iconst 0, 1) := by decide +kernel
theorem dX12_takeTold_100 : decode cX12_takeTold 100 = .ok (.goto 4, 3) := by decide +kernel
theorem dX12_takeTold_103 : decode cX12_takeTold 103 = .ok (.iconst 1, 1) := by decide +kernel
theorem dX12_takeTold_104 : decode cX12_takeTold 104 = .ok (.iadd, 1) := by decide +kernel
theorem dX12_takeTold_105 : decode cX12_takeTold 105 = .ok (.putfield 162, 3) := by decide +kernel
theorem dX12_takeTold_108 : decode cX12_takeTold 108 = .ok (.aload_n 0, 1) := by decide +kernel
theorem dX12_takeTold_109 : decode cX12_takeTold 109 = .ok (.getfield 165, 3) := by decide +kernel
theorem dX12_takeTold_112 : decode cX12_takeTold 112 = .ok (.ifCond .le 7, 3) := by decide +kernel
theorem dX12_takeTold_115 : decode cX12_takeTold 115 = .ok (.iconst 0, 1) := by decide +kernel
theorem dX12_takeTold_116 : decode cX12_takeTold 116 = .ok (.goto 5, 3) := by decide +kernel
theorem dX12_takeTold_119 : decode cX12_takeTold 119 = .ok (.iload 4, 2) := by decide +kernel
theorem dX12_takeTold_121 : decode cX12_takeTold 121 = .ok (.ireturn, 1) := by decide +kernel
def f_X12_takeTold_104 (w : Nat) (o0 : Nat) (x4 : Int32) (xs0 : Int32) (xs1 : Int32) (os2 : Nat) (M : mM) : Option (Int32 × mM) := lt (wI M os2 7 (xs1 + xs0)) fun M1 => (if (M1.1 o0 8) ≤ 0 then some (x4, M1) else some (0, M1))
set_option maxHeartbeats 4000000 in
set_option maxRecDepth 100000 in
theorem s_X12_takeTold_104 {l : Launch} {G : mG} {sk : List mS} (w : Nat) (o0 : Nat) (h0 : isK o0 22) (x4 : Int32) (xs0 : Int32) (xs1 : Int32) (os2 : Nat) (hs2 : isK os2 22) (M : mM) : Go muX12_takeTold (rm 3) 0 0 l G sk (mFin G sk eI) (f_X12_takeTold_104 w o0 x4 xs0 xs1 os2 M) 104 [(0, .ref (gB G + o0)), (4, .int x4)] [.int xs0, .int xs1, .ref (gB G + os2)] M := by
  unfold f_X12_takeTold_104
  refine go_iadd 105 dX12_takeTold_104 rfl ?_
  refine go_putI flX12_162 rfl rfl hs2 108 dX12_takeTold_105 rfl ?_
  refine go_nmM (fun M1 => ?_)
  refine go_aload_n 0 109 dX12_takeTold_108 rfl rfl ?_
  refine go_getI flX12_165 (by decide) h0 112 dX12_takeTold_109 rfl ?_
  refine go_if_le 119 115 dX12_takeTold_112 rfl (by decide) (fun _ => ?_) (fun _ => ?_)
  · refine go_iload 1 121 dX12_takeTold_119 rfl rfl ?_
    exact go_iret rfl dX12_takeTold_121
  · refine go_iconst 0 116 dX12_takeTold_115 rfl (by decide) ?_
    refine go_goto 121 dX12_takeTold_116 (by decide) ?_
    exact go_iret rfl dX12_takeTold_121
def f_X12_takeTold_87 (w : Nat) (o0 : Nat) (x4 : Int32) (M : mM) : Option (Int32 × mM) := (if (M.1 o0 8) ≤ 0 then (f_X12_takeTold_104 w o0 x4 1 (M.1 o0 7) o0 M) else (f_X12_takeTold_104 w o0 x4 0 (M.1 o0 7) o0 M))
set_option maxHeartbeats 4000000 in
set_option maxRecDepth 100000 in
theorem s_X12_takeTold_87 {l : Launch} {G : mG} {sk : List mS} (w : Nat) (o0 : Nat) (h0 : isK o0 22) (x4 : Int32) (M : mM) : Go muX12_takeTold (rm 3) 0 0 l G sk (mFin G sk eI) (f_X12_takeTold_87 w o0 x4 M) 87 [(0, .ref (gB G + o0)), (4, .int x4)] [] M := by
  unfold f_X12_takeTold_87
  refine go_aload_n 0 88 dX12_takeTold_87 rfl rfl ?_
  refine go_dup 89 dX12_takeTold_88 rfl rfl ?_
  refine go_getI flX12_162 (by decide) h0 92 dX12_takeTold_89 rfl ?_
  refine go_aload_n 0 93 dX12_takeTold_92 rfl rfl ?_
  refine go_getI flX12_165 (by decide) h0 96 dX12_takeTold_93 rfl ?_
  refine go_if_le 103 99 dX12_takeTold_96 rfl (by decide) (fun _ => ?_) (fun _ => ?_)
  · refine go_iconst 1 104 dX12_takeTold_103 rfl (by decide) ?_
    exact go_lv [0, 1] rfl (s_X12_takeTold_104 w o0 h0 x4 1 (M.1 o0 7) o0 h0 M)
  · refine go_iconst 0 100 dX12_takeTold_99 rfl (by decide) ?_
    refine go_goto 104 dX12_takeTold_100 (by decide) ?_
    exact go_lv [0, 1] rfl (s_X12_takeTold_104 w o0 h0 x4 0 (M.1 o0 7) o0 h0 M)
def f_X12_takeTold_65 (w : Nat) (o0 : Nat) (x3 : Int32) (x4 : Int32) (M : mM) : Option (Int32 × mM) := (if (M.1 o0 8) = 0 then (if ((x3 >>> (x4 &&& 31)) &&& 1) = 1 then bV (f_X12_wrong w o0 3 M) fun M1 => (f_X12_takeTold_87 w o0 x4 M1) else (f_X12_takeTold_87 w o0 x4 M)) else (f_X12_takeTold_87 w o0 x4 M))
set_option maxHeartbeats 4000000 in
set_option maxRecDepth 100000 in
theorem s_X12_takeTold_65 {l : Launch} {G : mG} {sk : List mS} (w : Nat) (o0 : Nat) (h0 : isK o0 22) (x3 : Int32) (x4 : Int32) (M : mM) : Go muX12_takeTold (rm 3) 0 0 l G sk (mFin G sk eI) (f_X12_takeTold_65 w o0 x3 x4 M) 65 [(0, .ref (gB G + o0)), (3, .int x3), (4, .int x4)] [] M := by
  unfold f_X12_takeTold_65
  refine go_aload_n 0 66 dX12_takeTold_65 rfl rfl ?_
  refine go_getI flX12_165 (by decide) h0 69 dX12_takeTold_66 rfl ?_
  refine go_if_ne 87 72 dX12_takeTold_69 rfl (by decide) (fun _ => ?_) (fun _ => ?_)
  · exact go_lv [0, 2] rfl (s_X12_takeTold_87 w o0 h0 x4 M)
  · refine go_iload_n 1 73 dX12_takeTold_72 rfl rfl ?_
    refine go_iload 2 75 dX12_takeTold_73 rfl rfl ?_
    refine go_ishr 76 dX12_takeTold_75 rfl ?_
    refine go_iconst 1 77 dX12_takeTold_76 rfl (by decide) ?_
    refine go_iand 78 dX12_takeTold_77 rfl ?_
    refine go_iconst 1 79 dX12_takeTold_78 rfl (by decide) ?_
    refine go_icmp_ne 87 82 dX12_takeTold_79 rfl (by decide) (fun _ => ?_) (fun _ => ?_)
    · exact go_lv [0, 2] rfl (s_X12_takeTold_87 w o0 h0 x4 M)
    · refine go_aload_n 0 83 dX12_takeTold_82 rfl rfl ?_
      refine go_iconst 3 84 dX12_takeTold_83 rfl (by decide) ?_
      refine go_cVV1 0 clX12 cwX12_171 (m_X12_wrong w o0 h0 3 M) h0 87 dX12_takeTold_84 rfl ⟨Nat.le_of_ble_eq_true rfl, Nat.le_of_ble_eq_true rfl⟩ ⟨Nat.zero_le _, Nat.zero_le _⟩ (Nat.le_of_ble_eq_true rfl) (fun M1 _ => ?_)
      exact go_lv [0, 2] rfl (s_X12_takeTold_87 w o0 h0 x4 M1)
def f_X12_takeTold_37 (w : Nat) (o0 : Nat) (x3 : Int32) (xs0 : Int32) (M : mM) : Option (Int32 × mM) := (if (M.1 o0 8) = 0 then bI (f_X12_within w xs0 0 6 M) fun q2 M1 => (if q2 = 0 then bV (f_X12_wrong w o0 2 M1) fun M3 => (f_X12_takeTold_87 w o0 xs0 M3) else (f_X12_takeTold_65 w o0 x3 xs0 M1)) else (f_X12_takeTold_65 w o0 x3 xs0 M))
set_option maxHeartbeats 4000000 in
set_option maxRecDepth 100000 in
theorem s_X12_takeTold_37 {l : Launch} {G : mG} {sk : List mS} (w : Nat) (o0 : Nat) (h0 : isK o0 22) (x3 : Int32) (xs0 : Int32) (M : mM) : Go muX12_takeTold (rm 3) 0 0 l G sk (mFin G sk eI) (f_X12_takeTold_37 w o0 x3 xs0 M) 37 [(0, .ref (gB G + o0)), (3, .int x3)] [.int xs0] M := by
  unfold f_X12_takeTold_37
  refine go_istore [(4, .int xs0), (0, .ref (gB G + o0)), (3, .int x3)] 39 dX12_takeTold_37 rfl (by decide) rfl ?_
  refine go_aload_n 1 40 dX12_takeTold_39 rfl rfl ?_
  refine go_getI flX12_165 (by decide) h0 43 dX12_takeTold_40 rfl ?_
  refine go_if_ne 65 46 dX12_takeTold_43 rfl (by decide) (fun _ => ?_) (fun _ => ?_)
  · exact go_lv [1, 2, 0] rfl (s_X12_takeTold_65 w o0 h0 x3 xs0 M)
  · refine go_iload 0 48 dX12_takeTold_46 rfl rfl ?_
    refine go_iconst 0 49 dX12_takeTold_48 rfl (by decide) ?_
    refine go_bipush 6 51 dX12_takeTold_49 rfl (by decide) ?_
    refine go_cSI3 0 cwX12_204 (m_X12_within w xs0 0 6 M) 54 dX12_takeTold_51 rfl ⟨Nat.le_of_ble_eq_true rfl, Nat.le_of_ble_eq_true rfl⟩ ⟨Nat.zero_le _, Nat.zero_le _⟩ (Nat.le_of_ble_eq_true rfl) (fun q2 M1 _ => ?_)
    refine go_if_ne 65 57 dX12_takeTold_54 rfl (by decide) (fun _ => ?_) (fun _ => ?_)
    · exact go_lv [1, 2, 0] rfl (s_X12_takeTold_65 w o0 h0 x3 xs0 M1)
    · refine go_aload_n 1 58 dX12_takeTold_57 rfl rfl ?_
      refine go_iconst 2 59 dX12_takeTold_58 rfl (by decide) ?_
      refine go_cVV1 0 clX12 cwX12_171 (m_X12_wrong w o0 h0 2 M1) h0 62 dX12_takeTold_59 rfl ⟨Nat.le_of_ble_eq_true rfl, Nat.le_of_ble_eq_true rfl⟩ ⟨Nat.zero_le _, Nat.zero_le _⟩ (Nat.le_of_ble_eq_true rfl) (fun M3 _ => ?_)
      refine go_goto 87 dX12_takeTold_62 (by decide) ?_
      exact go_lv [1, 0] rfl (s_X12_takeTold_87 w o0 h0 xs0 M3)
def f_X12_takeTold_19 (w : Nat) (o0 : Nat) (x1 : Int32) (x2 : Int32) (x3 : Int32) (M : mM) : Option (Int32 × mM) := (if (M.1 o0 8) ≤ 0 then bI (f_X12_nameAt w o0 x1 M) fun q2 M1 => (f_X12_takeTold_37 w o0 x3 (q2 - x2) M1) else (f_X12_takeTold_37 w o0 x3 (-1) M))
set_option maxHeartbeats 4000000 in
set_option maxRecDepth 100000 in
theorem s_X12_takeTold_19 {l : Launch} {G : mG} {sk : List mS} (w : Nat) (o0 : Nat) (h0 : isK o0 22) (x1 : Int32) (x2 : Int32) (x3 : Int32) (M : mM) : Go muX12_takeTold (rm 3) 0 0 l G sk (mFin G sk eI) (f_X12_takeTold_19 w o0 x1 x2 x3 M) 19 [(0, .ref (gB G + o0)), (1, .int x1), (2, .int x2), (3, .int x3)] [] M := by
  unfold f_X12_takeTold_19
  refine go_aload_n 0 20 dX12_takeTold_19 rfl rfl ?_
  refine go_getI flX12_165 (by decide) h0 23 dX12_takeTold_20 rfl ?_
  refine go_if_le 30 26 dX12_takeTold_23 rfl (by decide) (fun _ => ?_) (fun _ => ?_)
  · refine go_aload_n 0 31 dX12_takeTold_30 rfl rfl ?_
    refine go_iload_n 1 32 dX12_takeTold_31 rfl rfl ?_
    refine go_cVI1 0 clX12 cwX12_200 (m_X12_nameAt w o0 h0 x1 M) h0 35 dX12_takeTold_32 rfl ⟨Nat.le_of_ble_eq_true rfl, Nat.le_of_ble_eq_true rfl⟩ ⟨Nat.zero_le _, Nat.zero_le _⟩ (Nat.le_of_ble_eq_true rfl) (fun q2 M1 _ => ?_)
    refine go_iload_n 2 36 dX12_takeTold_35 rfl rfl ?_
    refine go_isub 37 dX12_takeTold_36 rfl ?_
    exact go_lv [0, 3] rfl (s_X12_takeTold_37 w o0 h0 x3 (q2 - x2) M1)
  · refine go_iconst (-1) 27 dX12_takeTold_26 rfl (by decide) ?_
    refine go_goto 37 dX12_takeTold_27 (by decide) ?_
    exact go_lv [0, 3] rfl (s_X12_takeTold_37 w o0 h0 x3 (-1) M)
def f_X12_takeTold (w : Nat) (o0 : Nat) (x1 : Int32) (x2 : Int32) (x3 : Int32) (M : mM) : Option (Int32 × mM) := (if (M.1 o0 8) = 0 then bI (f_X12_isName w o0 M) fun q2 M1 => (if q2 = 0 then bV (f_X12_wrong w o0 1 M1) fun M3 => (f_X12_takeTold_19 w o0 x1 x2 x3 M3) else (f_X12_takeTold_19 w o0 x1 x2 x3 M1)) else (f_X12_takeTold_19 w o0 x1 x2 x3 M))
set_option maxHeartbeats 4000000 in
set_option maxRecDepth 100000 in
theorem s_X12_takeTold {l : Launch} {G : mG} {sk : List mS} (w : Nat) (o0 : Nat) (h0 : isK o0 22) (x1 : Int32) (x2 : Int32) (x3 : Int32) (M : mM) : Go muX12_takeTold (rm 3) 0 0 l G sk (mFin G sk eI) (f_X12_takeTold w o0 x1 x2 x3 M) 0 [(0, .ref (gB G + o0)), (1, .int x1), (2, .int x2), (3, .int x3)] [] M := by
  unfold f_X12_takeTold
  refine go_aload_n 0 1 dX12_takeTold_0 rfl rfl ?_
  refine go_getI flX12_165 (by decide) h0 4 dX12_takeTold_1 rfl ?_
  refine go_if_ne 19 7 dX12_takeTold_4 rfl (by decide) (fun _ => ?_) (fun _ => ?_)
  · exact go_lv [0, 1, 2, 3] rfl (s_X12_takeTold_19 w o0 h0 x1 x2 x3 M)
  · refine go_aload_n 0 8 dX12_takeTold_7 rfl rfl ?_
    refine go_cVI0 2 clX12 cwX12_196 (m_X12_isName w o0 h0 M) h0 11 dX12_takeTold_8 rfl ⟨Nat.le_of_ble_eq_true rfl, Nat.le_of_ble_eq_true rfl⟩ ⟨Nat.zero_le _, Nat.zero_le _⟩ (Nat.le_of_ble_eq_true rfl) (fun q2 M1 _ => ?_)
    refine go_if_ne 19 14 dX12_takeTold_11 rfl (by decide) (fun _ => ?_) (fun _ => ?_)
    · exact go_lv [0, 1, 2, 3] rfl (s_X12_takeTold_19 w o0 h0 x1 x2 x3 M1)
    · refine go_aload_n 0 15 dX12_takeTold_14 rfl rfl ?_
      refine go_iconst 1 16 dX12_takeTold_15 rfl (by decide) ?_
      refine go_cVV1 0 clX12 cwX12_171 (m_X12_wrong w o0 h0 1 M1) h0 19 dX12_takeTold_16 rfl ⟨Nat.le_of_ble_eq_true rfl, Nat.le_of_ble_eq_true rfl⟩ ⟨Nat.zero_le _, Nat.zero_le _⟩ (Nat.le_of_ble_eq_true rfl) (fun M3 _ => ?_)
      exact go_lv [0, 1, 2, 3] rfl (s_X12_takeTold_19 w o0 h0 x1 x2 x3 M3)
theorem m_X12_takeTold {l : Launch} {G : mG} {sk : List mS} (w : Nat) (o0 : Nat) (h0 : isK o0 22) (x1 : Int32) (x2 : Int32) (x3 : Int32) (M : mM) : Mt l G sk yX12_takeTold muX12_takeTold 3 [.ref (gB G + o0), .int x1, .int x2, .int x3] M eI (f_X12_takeTold w o0 x1 x2 x3 M) := Mt.of (by decide) rfl (Nat.le_of_ble_eq_true rfl) (s_X12_takeTold w o0 h0 x1 x2 x3 M)
theorem dX12_readName_0 : decode cX12_readName 0 = .ok (.aload_n 0, 1) := by decide +kernel
theorem dX12_readName_1 : decode cX12_readName 1 = .ok (.getfield 83, 3) := by decide +kernel
theorem dX12_readName_4 : decode cX12_readName 4 = .ok (.bipush 60, 2) := by decide +kernel
theorem dX12_readName_6 : decode cX12_readName 6 = .ok (.iload_n 1, 1) := by decide +kernel
theorem dX12_readName_7 : decode cX12_readName 7 = .ok (.iadd, 1) := by decide +kernel
theorem dX12_readName_8 : decode cX12_readName 8 = .ok (.iaload, 1) := by decide +kernel
theorem dX12_readName_9 : decode cX12_readName 9 = .ok (.istore 4, 2) := by decide +kernel
theorem dX12_readName_11 : decode cX12_readName 11 = .ok (.iload 4, 2) := by decide +kernel
theorem dX12_readName_13 : decode cX12_readName 13 = .ok (.iload_n 2, 1) := by decide +kernel
theorem dX12_readName_14 : decode cX12_readName 14 = .ok (.if_icmp .ne 9, 3) := by decide +kernel
theorem dX12_readName_17 : decode cX12_readName 17 = .ok (.aload_n 0, 1) := by decide +kernel
theorem dX12_readName_18 : decode cX12_readName 18 = .ok (.iconst 5, 1) := by decide +kernel
theorem dX12_readName_19 : decode cX12_readName 19 = .ok (.invokevirtual 171, 3) := by decide +kernel
theorem dX12_readName_22 : decode cX12_readName 22 = .ok (.return_, 1) := by decide +kernel
theorem dX12_readName_23 : decode cX12_readName 23 = .ok (.aload_n 0, 1) := by decide +kernel
theorem dX12_readName_24 : decode cX12_readName 24 = .ok (.dup, 1) := by decide +kernel
theorem dX12_readName_25 : decode cX12_readName 25 = .ok (.getfield 162, 3) := by decide +kernel
theorem dX12_readName_28 : decode cX12_readName 28 = .ok (.iconst 1, 1) := by decide +kernel
theorem dX12_readName_29 : decode cX12_readName 29 = .ok (.iadd, 1) := by decide +kernel
theorem dX12_readName_30 : decode cX12_readName 30 = .ok (.putfield 162, 3) := by decide +kernel
theorem dX12_readName_33 : decode cX12_readName 33 = .ok (.aload_n 0, 1) := by decide +kernel
theorem dX12_readName_34 : decode cX12_readName 34 = .ok (.invokevirtual 196, 3) := by decide +kernel
theorem dX12_readName_37 : decode cX12_readName 37 = .ok (.ifCond .ne 11, 3) := by decide +kernel
theorem dX12_readName_40 : decode cX12_readName 40 = .ok (.aload_n 0, 1) := by decide +kernel
theorem dX12_readName_41 : decode cX12_readName 41 = .ok (.iconst 1, 1) := by decide +kernel
theorem dX12_readName_42 : decode cX12_readName 42 = .ok (.invokevirtual 171, 3) := by decide +kernel
theorem dX12_readName_45 : decode cX12_readName 45 = .ok (.goto 16, 3) := by decide +kernel
theorem dX12_readName_48 : decode cX12_readName 48 = .ok (.aload_n 0, 1) := by decide +kernel
theorem dX12_readName_49 : decode cX12_readName 49 = .ok (.iconst 1, 1) := by decide +kernel
theorem dX12_readName_50 : decode cX12_readName 50 = .ok (.invokevirtual 200, 3) := by decide +kernel
theorem dX12_readName_53 : decode cX12_readName 53 = .ok (.ifCond .lt 8, 3) := by decide +kernel
theorem dX12_readName_56 : decode cX12_readName 56 = .ok (.aload_n 0, 1) := by decide +kernel
theorem dX12_readName_57 : decode cX12_readName 57 = .ok (.iconst 3, 1) := by decide +kernel
theorem dX12_readName_58 : decode cX12_readName 58 = .ok (.invokevirtual 171, 3) := by decide +kernel
theorem dX12_readName_61 : decode cX12_readName 61 = .ok (.aload_n 0, 1) := by decide +kernel
theorem dX12_readName_62 : decode cX12_readName 62 = .ok (.getfield 165, 3) := by decide +kernel
theorem dX12_readName_65 : decode cX12_readName 65 = .ok (.ifCond .ne 67, 3) := by decide +kernel
theorem dX12_readName_68 : decode cX12_readName 68 = .ok (.aload_n 0, 1) := by decide +kernel
theorem dX12_readName_69 : decode cX12_readName 69 = .ok (.getfield 95, 3) := by decide +kernel
theorem dX12_readName_72 : decode cX12_readName 72 = .ok (.aload_n 0, 1) := by decide +kernel
theorem dX12_readName_73 : decode cX12_readName 73 = .ok (.getfield 190, 3) := by decide +kernel
theorem dX12_readName_76 : decode cX12_readName 76 = .ok (.aload_n 0, 1) := by decide +kernel
theorem dX12_readName_77 : decode cX12_readName 77 = .ok (.getfield 30, 3) := by decide +kernel
theorem dX12_readName_80 : decode cX12_readName 80 = .ok (.aload_n 0, 1) := by decide +kernel
theorem dX12_readName_81 : decode cX12_readName 81 = .ok (.getfield 162, 3) := by decide +kernel
theorem dX12_readName_84 : decode cX12_readName 84 = .ok (.laload, 1) := by decide +kernel
theorem dX12_readName_85 : decode cX12_readName 85 = .ok (.lastore, 1) := by decide +kernel
theorem dX12_readName_86 : decode cX12_readName 86 = .ok (.aload_n 0, 1) := by decide +kernel
theorem dX12_readName_87 : decode cX12_readName 87 = .ok (.getfield 101, 3) := by decide +kernel
theorem dX12_readName_90 : decode cX12_readName 90 = .ok (.aload_n 0, 1) := by decide +kernel
theorem dX12_readName_91 : decode cX12_readName 91 = .ok (.getfield 190, 3) := by decide +kernel
theorem dX12_readName_94 : decode cX12_readName 94 = .ok (.iload_n 3, 1) := by decide +kernel
theorem dX12_readName_95 : decode cX12_readName 95 = .ok (.iload 4, 2) := by decide +kernel
theorem dX12_readName_97 : decode cX12_readName 97 = .ok (.iadd, 1) := by decide +kernel
theorem dX12_readName_98 : decode cX12_readName 98 = .ok (.iastore, 1) := by decide +kernel
theorem dX12_readName_99 : decode cX12_readName 99 = .ok (.aload_n 0, 1) := by decide +kernel
theorem dX12_readName_100 : decode cX12_readName 100 = .ok (.dup, 1) := by decide +kernel
theorem dX12_readName_101 : decode cX12_readName 101 = .ok (.getfield 190, 3) := by decide +kernel
theorem dX12_readName_104 : decode cX12_readName 104 = .ok (.iconst 1, 1) := by decide +kernel
theorem dX12_readName_105 : decode cX12_readName 105 = .ok (.iadd, 1) := by decide +kernel
theorem dX12_readName_106 : decode cX12_readName 106 = .ok (.putfield 190, 3) := by decide +kernel
theorem dX12_readName_109 : decode cX12_readName 109 = .ok (.aload_n 0, 1) := by decide +kernel
theorem dX12_readName_110 : decode cX12_readName 110 = .ok (.dup, 1) := by decide +kernel
theorem dX12_readName_111 : decode cX12_readName 111 = .ok (.getfield 162, 3) := by decide +kernel
theorem dX12_readName_114 : decode cX12_readName 114 = .ok (.iconst 1, 1) := by decide +kernel
theorem dX12_readName_115 : decode cX12_readName 115 = .ok (.iadd, 1) := by decide +kernel
theorem dX12_readName_116 : decode cX12_readName 116 = .ok (.putfield 162, 3) := by decide +kernel
theorem dX12_readName_119 : decode cX12_readName 119 = .ok (.aload_n 0, 1) := by decide +kernel
theorem dX12_readName_120 : decode cX12_readName 120 = .ok (.getfield 83, 3) := by decide +kernel
theorem dX12_readName_123 : decode cX12_readName 123 = .ok (.bipush 60, 2) := by decide +kernel
theorem dX12_readName_125 : decode cX12_readName 125 = .ok (.iload_n 1, 1) := by decide +kernel
theorem dX12_readName_126 : decode cX12_readName 126 = .ok (.iadd, 1) := by decide +kernel
theorem dX12_readName_127 : decode cX12_readName 127 = .ok (.dup2, 1) := by decide +kernel
theorem dX12_readName_128 : decode cX12_readName 128 = .ok (.iaload, 1) := by decide +kernel
theorem dX12_readName_129 : decode cX12_readName 129 = .ok (.iconst 1, 1) := by decide +kernel
theorem dX12_readName_130 : decode cX12_readName 130 = .ok (.iadd, 1) := by decide +kernel
theorem dX12_readName_131 : decode cX12_readName 131 = .ok (.iastore, 1) := by decide +kernel
theorem dX12_readName_132 : decode cX12_readName 132 = .ok (.return_, 1) := by decide +kernel
def f_X12_readName_61 (w : Nat) (o0 : Nat) (x1 : Int32) (x3 : Int32) (x4 : Int32) (M : mM) : Option mM := (if (M.1 o0 8) = 0 then chk (M.1 o0 7) (sL (rF o0 6)) (chk (M.1 o0 19) (sL (rF o0 15)) (lt (wL M (rF o0 15) (M.1 o0 19).toNatClampNeg (M.2 (rF o0 6) (M.1 o0 7).toNatClampNeg)) fun M1 => chk (M1.1 o0 19) (sL (rF o0 17)) (lt (wI M1 (rF o0 17) (M1.1 o0 19).toNatClampNeg (x3 + x4)) fun M2 => lt (wI M2 o0 19 ((M2.1 o0 19) + 1)) fun M3 => lt (wI M3 o0 7 ((M3.1 o0 7) + 1)) fun M4 => chk (60 + x1) (sL (rF o0 10)) (chk (60 + x1) (sL (rF o0 10)) (lt (wI M4 (rF o0 10) (60 + x1).toNatClampNeg ((M4.1 (rF o0 10) (60 + x1).toNatClampNeg) + 1)) fun M5 => some M5))))) else some M)
set_option maxHeartbeats 4000000 in
set_option maxRecDepth 100000 in
theorem s_X12_readName_61 {l : Launch} {G : mG} {sk : List mS} (w : Nat) (o0 : Nat) (h0 : isK o0 22) (x1 : Int32) (x3 : Int32) (x4 : Int32) (M : mM) : Go muX12_readName (rm 3) 0 0 l G sk (mFin G sk eV) (f_X12_readName_61 w o0 x1 x3 x4 M) 61 [(0, .ref (gB G + o0)), (1, .int x1), (3, .int x3), (4, .int x4)] [] M := by
  unfold f_X12_readName_61
  refine go_aload_n 0 62 dX12_readName_61 rfl rfl ?_
  refine go_getI flX12_165 (by decide) h0 65 dX12_readName_62 rfl ?_
  refine go_if_ne 132 68 dX12_readName_65 rfl (by decide) (fun _ => ?_) (fun _ => ?_)
  · exact go_vret rfl dX12_readName_132
  · refine go_aload_n 0 69 dX12_readName_68 rfl rfl ?_
    refine go_getR flX12_95 h0 72 dX12_readName_69 rfl ?_
    refine go_aload_n 0 73 dX12_readName_72 rfl rfl ?_
    refine go_getI flX12_190 (by decide) h0 76 dX12_readName_73 rfl ?_
    refine go_aload_n 0 77 dX12_readName_76 rfl rfl ?_
    refine go_getR flX12_30 h0 80 dX12_readName_77 rfl ?_
    refine go_aload_n 0 81 dX12_readName_80 rfl rfl ?_
    refine go_getI flX12_162 (by decide) h0 84 dX12_readName_81 rfl ?_
    refine go_lald (rk12_6 h0) 85 dX12_readName_84 rfl ?_
    refine go_last (rk12_15 h0) 86 dX12_readName_85 rfl ?_
    refine go_nmM (fun M1 => ?_)
    refine go_aload_n 0 87 dX12_readName_86 rfl rfl ?_
    refine go_getR flX12_101 h0 90 dX12_readName_87 rfl ?_
    refine go_aload_n 0 91 dX12_readName_90 rfl rfl ?_
    refine go_getI flX12_190 (by decide) h0 94 dX12_readName_91 rfl ?_
    refine go_iload_n 2 95 dX12_readName_94 rfl rfl ?_
    refine go_iload 3 97 dX12_readName_95 rfl rfl ?_
    refine go_iadd 98 dX12_readName_97 rfl ?_
    refine go_iast (rk12_17 h0) 99 dX12_readName_98 rfl ?_
    refine go_nmM (fun M2 => ?_)
    refine go_aload_n 0 100 dX12_readName_99 rfl rfl ?_
    refine go_dup 101 dX12_readName_100 rfl rfl ?_
    refine go_getI flX12_190 (by decide) h0 104 dX12_readName_101 rfl ?_
    refine go_iconst 1 105 dX12_readName_104 rfl (by decide) ?_
    refine go_iadd 106 dX12_readName_105 rfl ?_
    refine go_putI flX12_190 rfl rfl h0 109 dX12_readName_106 rfl ?_
    refine go_nmM (fun M3 => ?_)
    refine go_aload_n 0 110 dX12_readName_109 rfl rfl ?_
    refine go_dup 111 dX12_readName_110 rfl rfl ?_
    refine go_getI flX12_162 (by decide) h0 114 dX12_readName_111 rfl ?_
    refine go_iconst 1 115 dX12_readName_114 rfl (by decide) ?_
    refine go_iadd 116 dX12_readName_115 rfl ?_
    refine go_putI flX12_162 rfl rfl h0 119 dX12_readName_116 rfl ?_
    refine go_nmM (fun M4 => ?_)
    refine go_aload_n 0 120 dX12_readName_119 rfl rfl ?_
    refine go_getR flX12_83 h0 123 dX12_readName_120 rfl ?_
    refine go_bipush 60 125 dX12_readName_123 rfl (by decide) ?_
    refine go_iload_n 1 126 dX12_readName_125 rfl rfl ?_
    refine go_iadd 127 dX12_readName_126 rfl ?_
    refine go_dup2 128 dX12_readName_127 rfl rfl rfl ?_
    refine go_iald (rk12_10 h0) 129 dX12_readName_128 rfl ?_
    refine go_iconst 1 130 dX12_readName_129 rfl (by decide) ?_
    refine go_iadd 131 dX12_readName_130 rfl ?_
    refine go_iast (rk12_10 h0) 132 dX12_readName_131 rfl ?_
    refine go_nmM (fun M5 => ?_)
    exact go_vret rfl dX12_readName_132
def f_X12_readName (w : Nat) (o0 : Nat) (x1 : Int32) (x2 : Int32) (x3 : Int32) (M : mM) : Option mM := chk (60 + x1) (sL (rF o0 10)) (lt (M.1 (rF o0 10) (60 + x1).toNatClampNeg) fun y1 => (if y1 = x2 then bV (f_X12_wrong w o0 5 M) fun M9 => some M9 else lt (wI M o0 7 ((M.1 o0 7) + 1)) fun M2 => bI (f_X12_isName w o0 M2) fun q4 M3 => (if q4 = 0 then bV (f_X12_wrong w o0 1 M3) fun M8 => (f_X12_readName_61 w o0 x1 x3 y1 M8) else bI (f_X12_nameAt w o0 1 M3) fun q6 M5 => (if q6 < 0 then (f_X12_readName_61 w o0 x1 x3 y1 M5) else bV (f_X12_wrong w o0 3 M5) fun M7 => (f_X12_readName_61 w o0 x1 x3 y1 M7)))))
set_option maxHeartbeats 4000000 in
set_option maxRecDepth 100000 in
theorem s_X12_readName {l : Launch} {G : mG} {sk : List mS} (w : Nat) (o0 : Nat) (h0 : isK o0 22) (x1 : Int32) (x2 : Int32) (x3 : Int32) (M : mM) : Go muX12_readName (rm 3) 0 0 l G sk (mFin G sk eV) (f_X12_readName w o0 x1 x2 x3 M) 0 [(0, .ref (gB G + o0)), (1, .int x1), (2, .int x2), (3, .int x3)] [] M := by
  unfold f_X12_readName
  refine go_aload_n 0 1 dX12_readName_0 rfl rfl ?_
  refine go_getR flX12_83 h0 4 dX12_readName_1 rfl ?_
  refine go_bipush 60 6 dX12_readName_4 rfl (by decide) ?_
  refine go_iload_n 1 7 dX12_readName_6 rfl rfl ?_
  refine go_iadd 8 dX12_readName_7 rfl ?_
  refine go_iald (rk12_10 h0) 9 dX12_readName_8 rfl ?_
  refine go_nmI (fun y1 => ?_)
  refine go_istore [(4, .int y1), (0, .ref (gB G + o0)), (1, .int x1), (2, .int x2), (3, .int x3)] 11 dX12_readName_9 rfl (by decide) rfl ?_
  refine go_iload 0 13 dX12_readName_11 rfl rfl ?_
  refine go_iload_n 3 14 dX12_readName_13 rfl rfl ?_
  refine go_icmp_ne 23 17 dX12_readName_14 rfl (by decide) (fun _ => ?_) (fun _ => ?_)
  · refine go_aload_n 1 24 dX12_readName_23 rfl rfl ?_
    refine go_dup 25 dX12_readName_24 rfl rfl ?_
    refine go_getI flX12_162 (by decide) h0 28 dX12_readName_25 rfl ?_
    refine go_iconst 1 29 dX12_readName_28 rfl (by decide) ?_
    refine go_iadd 30 dX12_readName_29 rfl ?_
    refine go_putI flX12_162 rfl rfl h0 33 dX12_readName_30 rfl ?_
    refine go_nmM (fun M2 => ?_)
    refine go_aload_n 1 34 dX12_readName_33 rfl rfl ?_
    refine go_cVI0 2 clX12 cwX12_196 (m_X12_isName w o0 h0 M2) h0 37 dX12_readName_34 rfl ⟨Nat.le_of_ble_eq_true rfl, Nat.le_of_ble_eq_true rfl⟩ ⟨Nat.zero_le _, Nat.zero_le _⟩ (Nat.le_of_ble_eq_true rfl) (fun q4 M3 _ => ?_)
    refine go_if_ne 48 40 dX12_readName_37 rfl (by decide) (fun _ => ?_) (fun _ => ?_)
    · refine go_aload_n 1 49 dX12_readName_48 rfl rfl ?_
      refine go_iconst 1 50 dX12_readName_49 rfl (by decide) ?_
      refine go_cVI1 0 clX12 cwX12_200 (m_X12_nameAt w o0 h0 1 M3) h0 53 dX12_readName_50 rfl ⟨Nat.le_of_ble_eq_true rfl, Nat.le_of_ble_eq_true rfl⟩ ⟨Nat.zero_le _, Nat.zero_le _⟩ (Nat.le_of_ble_eq_true rfl) (fun q6 M5 _ => ?_)
      refine go_if_lt 61 56 dX12_readName_53 rfl (by decide) (fun _ => ?_) (fun _ => ?_)
      · exact go_lv [1, 2, 4, 0] rfl (s_X12_readName_61 w o0 h0 x1 x3 y1 M5)
      · refine go_aload_n 1 57 dX12_readName_56 rfl rfl ?_
        refine go_iconst 3 58 dX12_readName_57 rfl (by decide) ?_
        refine go_cVV1 0 clX12 cwX12_171 (m_X12_wrong w o0 h0 3 M5) h0 61 dX12_readName_58 rfl ⟨Nat.le_of_ble_eq_true rfl, Nat.le_of_ble_eq_true rfl⟩ ⟨Nat.zero_le _, Nat.zero_le _⟩ (Nat.le_of_ble_eq_true rfl) (fun M7 _ => ?_)
        exact go_lv [1, 2, 4, 0] rfl (s_X12_readName_61 w o0 h0 x1 x3 y1 M7)
    · refine go_aload_n 1 41 dX12_readName_40 rfl rfl ?_
      refine go_iconst 1 42 dX12_readName_41 rfl (by decide) ?_
      refine go_cVV1 0 clX12 cwX12_171 (m_X12_wrong w o0 h0 1 M3) h0 45 dX12_readName_42 rfl ⟨Nat.le_of_ble_eq_true rfl, Nat.le_of_ble_eq_true rfl⟩ ⟨Nat.zero_le _, Nat.zero_le _⟩ (Nat.le_of_ble_eq_true rfl) (fun M8 _ => ?_)
      refine go_goto 61 dX12_readName_45 (by decide) ?_
      exact go_lv [1, 2, 4, 0] rfl (s_X12_readName_61 w o0 h0 x1 x3 y1 M8)
  · refine go_aload_n 1 18 dX12_readName_17 rfl rfl ?_
    refine go_iconst 5 19 dX12_readName_18 rfl (by decide) ?_
    refine go_cVV1 0 clX12 cwX12_171 (m_X12_wrong w o0 h0 5 M) h0 22 dX12_readName_19 rfl ⟨Nat.le_of_ble_eq_true rfl, Nat.le_of_ble_eq_true rfl⟩ ⟨Nat.zero_le _, Nat.zero_le _⟩ (Nat.le_of_ble_eq_true rfl) (fun M9 _ => ?_)
    exact go_vret rfl dX12_readName_22
theorem m_X12_readName {l : Launch} {G : mG} {sk : List mS} (w : Nat) (o0 : Nat) (h0 : isK o0 22) (x1 : Int32) (x2 : Int32) (x3 : Int32) (M : mM) : Mt l G sk yX12_readName muX12_readName 3 [.ref (gB G + o0), .int x1, .int x2, .int x3] M eV (f_X12_readName w o0 x1 x2 x3 M) := Mt.of (by decide) rfl (Nat.le_of_ble_eq_true rfl) (s_X12_readName w o0 h0 x1 x2 x3 M)
theorem dX12_readDoor_0 : decode cX12_readDoor 0 = .ok (.aload_n 0, 1) := by decide +kernel
theorem dX12_readDoor_1 : decode cX12_readDoor 1 = .ok (.getfield 83, 3) := by decide +kernel
theorem dX12_readDoor_4 : decode cX12_readDoor 4 = .ok (.bipush 61, 2) := by decide +kernel
theorem dX12_readDoor_6 : decode cX12_readDoor 6 = .ok (.iaload, 1) := by decide +kernel
theorem dX12_readDoor_7 : decode cX12_readDoor 7 = .ok (.istore_n 1, 1) := by decide +kernel
theorem dX12_readDoor_8 : decode cX12_readDoor 8 = .ok (.iload_n 1, 1) := by decide +kernel
theorem dX12_readDoor_9 : decode cX12_readDoor 9 = .ok (.bipush 8, 2) := by decide +kernel
theorem dX12_readDoor_11 : decode cX12_readDoor 11 = .ok (.if_icmp .ne 9, 3) := by decide +kernel
theorem dX12_readDoor_14 : decode cX12_readDoor 14 = .ok (.aload_n 0, 1) := by decide +kernel
theorem dX12_readDoor_15 : decode cX12_readDoor 15 = .ok (.iconst 5, 1) := by decide +kernel
theorem dX12_readDoor_16 : decode cX12_readDoor 16 = .ok (.invokevirtual 171, 3) := by decide +kernel
theorem dX12_readDoor_19 : decode cX12_readDoor 19 = .ok (.return_, 1) := by decide +kernel
theorem dX12_readDoor_20 : decode cX12_readDoor 20 = .ok (.aload_n 0, 1) := by decide +kernel
theorem dX12_readDoor_21 : decode cX12_readDoor 21 = .ok (.dup, 1) := by decide +kernel
theorem dX12_readDoor_22 : decode cX12_readDoor 22 = .ok (.getfield 162, 3) := by decide +kernel
theorem dX12_readDoor_25 : decode cX12_readDoor 25 = .ok (.iconst 1, 1) := by decide +kernel
theorem dX12_readDoor_26 : decode cX12_readDoor 26 = .ok (.iadd, 1) := by decide +kernel
theorem dX12_readDoor_27 : decode cX12_readDoor 27 = .ok (.putfield 162, 3) := by decide +kernel
theorem dX12_readDoor_30 : decode cX12_readDoor 30 = .ok (.aload_n 0, 1) := by decide +kernel
theorem dX12_readDoor_31 : decode cX12_readDoor 31 = .ok (.iconst 1, 1) := by decide +kernel
theorem dX12_readDoor_32 : decode cX12_readDoor 32 = .ok (.iconst 0, 1) := by decide +kernel
theorem dX12_readDoor_33 : decode cX12_readDoor 33 = .ok (.iconst 0, 1) := by decide +kernel
theorem dX12_readDoor_34 : decode cX12_readDoor 34 = .ok (.invokevirtual 230, 3) := by decide +kernel
theorem dX12_readDoor_37 : decode cX12_readDoor 37 = .ok (.istore_n 2, 1) := by decide +kernel
theorem dX12_readDoor_38 : decode cX12_readDoor 38 = .ok (.iconst 1, 1) := by decide +kernel
theorem dX12_readDoor_39 : decode cX12_readDoor 39 = .ok (.iload_n 2, 1) := by decide +kernel
theorem dX12_readDoor_40 : decode cX12_readDoor 40 = .ok (.ishl, 1) := by decide +kernel
theorem dX12_readDoor_41 : decode cX12_readDoor 41 = .ok (.istore_n 3, 1) := by decide +kernel
theorem dX12_readDoor_42 : decode cX12_readDoor 42 = .ok (.iconst 0, 1) := by decide +kernel
theorem dX12_readDoor_43 : decode cX12_readDoor 43 = .ok (.istore 4, 2) := by decide +kernel
theorem dX12_readDoor_45 : decode cX12_readDoor 45 = .ok (.iload 4, 2) := by decide +kernel
theorem dX12_readDoor_47 : decode cX12_readDoor 47 = .ok (.iload_n 1, 1) := by decide +kernel
theorem dX12_readDoor_48 : decode cX12_readDoor 48 = .ok (.if_icmp .ge 72, 3) := by decide +kernel
theorem dX12_readDoor_51 : decode cX12_readDoor 51 = .ok (.bipush 65, 2) := by decide +kernel
theorem dX12_readDoor_53 : decode cX12_readDoor 53 = .ok (.iconst 4, 1) := by decide +kernel
theorem dX12_readDoor_54 : decode cX12_readDoor 54 = .ok (.iload 4, 2) := by decide +kernel
theorem dX12_readDoor_56 : decode cX12_readDoor 56 = .ok (.imul, 1) := by decide +kernel
theorem dX12_readDoor_57 : decode cX12_readDoor 57 = .ok (.iadd, 1) := by decide +kernel
theorem dX12_readDoor_58 : decode cX12_readDoor 58 = .ok (.istore 5, 2) := by decide +kernel
theorem dX12_readDoor_60 : decode cX12_readDoor 60 = .ok (.iload_n 3, 1) := by decide +kernel
theorem dX12_readDoor_61 : decode cX12_readDoor 61 = .ok (.aload_n 0, 1) := by decide +kernel
theorem dX12_readDoor_62 : decode cX12_readDoor 62 = .ok (.getfield 83, 3) := by decide +kernel
theorem dX12_readDoor_65 : decode cX12_readDoor 65 = .ok (.iload 5, 2) := by decide +kernel
theorem dX12_readDoor_67 : decode cX12_readDoor 67 = .ok (.iaload, 1) := by decide +kernel
theorem dX12_readDoor_68 : decode cX12_readDoor 68 = .ok (.iload_n 2, 1) := by decide +kernel
theorem dX12_readDoor_69 : decode cX12_readDoor 69 = .ok (.if_icmp .ne 17, 3) := by decide +kernel
theorem dX12_readDoor_72 : decode cX12_readDoor 72 = .ok (.iconst 1, 1) := by decide +kernel
theorem dX12_readDoor_73 : decode cX12_readDoor 73 = .ok (.aload_n 0, 1) := by decide +kernel
theorem dX12_readDoor_74 : decode cX12_readDoor 74 = .ok (.getfield 83, 3) := by decide +kernel
theorem dX12_readDoor_77 : decode cX12_readDoor 77 = .ok (.iload 5, 2) := by decide +kernel
theorem dX12_readDoor_79 : decode cX12_readDoor 79 = .ok (.iconst 1, 1) := by decide +kernel
theorem dX12_readDoor_80 : decode cX12_readDoor 80 = .ok (.iadd, 1) := by decide +kernel
theorem dX12_readDoor_81 : decode cX12_readDoor 81 = .ok (.iaload, 1) := by decide +kernel
theorem dX12_readDoor_82 : decode cX12_readDoor 82 = .ok (.ishl, 1) := by decide +kernel
theorem dX12_readDoor_83 : decode cX12_readDoor 83 = .ok (.goto 29, 3) := by decide +kernel
theorem dX12_readDoor_86 : decode cX12_readDoor 86 = .ok (.aload_n 0, 1) := by decide +kernel
theorem dX12_readDoor_87 : decode cX12_readDoor 87 = .ok (.getfield 83, 3) := by decide +kernel
theorem dX12_readDoor_90 : decode cX12_readDoor 90 = .ok (.iload 5, 2) := by decide +kernel
theorem dX12_readDoor_92 : decode cX12_readDoor 92 = .ok (.iconst 1, 1) := by decide +kernel
theorem dX12_readDoor_93 : decode cX12_readDoor 93 = .ok (.iadd, 1) := by decide +kernel
theorem dX12_readDoor_94 : decode cX12_readDoor 94 = .ok (.iaload, 1) := by decide +kernel
theorem dX12_readDoor_95 : decode cX12_readDoor 95 = .ok (.iload_n 2, 1) := by decide +kernel
theorem dX12_readDoor_96 : decode cX12_readDoor 96 = .ok (.if_icmp .ne 15, 3) := by decide +kernel
theorem dX12_readDoor_99 : decode cX12_readDoor 99 = .ok (.iconst 1, 1) := by decide +kernel
theorem dX12_readDoor_100 : decode cX12_readDoor 100 = .ok (.aload_n 0, 1) := by decide +kernel
theorem dX12_readDoor_101 : decode cX12_readDoor 101 = .ok (.getfield 83, 3) := by decide +kernel
theorem dX12_readDoor_104 : decode cX12_readDoor 104 = .ok (.iload 5, 2) := by decide +kernel
theorem dX12_readDoor_106 : decode cX12_readDoor 106 = .ok (.iaload, 1) := by decide +kernel
theorem dX12_readDoor_107 : decode cX12_readDoor 107 = .ok (.ishl, 1) := by decide +kernel
theorem dX12_readDoor_108 : decode cX12_readDoor 108 = .ok (.goto 4, 3) := by decide +kernel
theorem dX12_readDoor_111 : decode cX12_readDoor 111 = .ok (.iconst 0, 1) := by decide +kernel
theorem dX12_readDoor_112 : decode cX12_readDoor 112 = .ok (.ior, 1) := by decide +kernel
theorem dX12_readDoor_113 : decode cX12_readDoor 113 = .ok (.istore_n 3, 1) := by decide +kernel
theorem dX12_readDoor_114 : decode cX12_readDoor 114 = .ok (.iinc 4 1, 3) := by decide +kernel
theorem dX12_readDoor_117 : decode cX12_readDoor 117 = .ok (.goto (-72), 3) := by decide +kernel
theorem dX12_readDoor_120 : decode cX12_readDoor 120 = .ok (.aload_n 0, 1) := by decide +kernel
theorem dX12_readDoor_121 : decode cX12_readDoor 121 = .ok (.iconst 1, 1) := by decide +kernel
theorem dX12_readDoor_122 : decode cX12_readDoor 122 = .ok (.iconst 0, 1) := by decide +kernel
theorem dX12_readDoor_123 : decode cX12_readDoor 123 = .ok (.iload_n 3, 1) := by decide +kernel
theorem dX12_readDoor_124 : decode cX12_readDoor 124 = .ok (.invokevirtual 230, 3) := by decide +kernel
theorem dX12_readDoor_127 : decode cX12_readDoor 127 = .ok (.istore 4, 2) := by decide +kernel
theorem dX12_readDoor_129 : decode cX12_readDoor 129 = .ok (.aload_n 0, 1) := by decide +kernel
theorem dX12_readDoor_130 : decode cX12_readDoor 130 = .ok (.bipush 12, 2) := by decide +kernel
theorem dX12_readDoor_132 : decode cX12_readDoor 132 = .ok (.iconst 4, 1) := by decide +kernel
theorem dX12_readDoor_133 : decode cX12_readDoor 133 = .ok (.invokevirtual 237, 3) := by decide +kernel
theorem dX12_readDoor_136 : decode cX12_readDoor 136 = .ok (.istore 5, 2) := by decide +kernel
theorem dX12_readDoor_138 : decode cX12_readDoor 138 = .ok (.aload_n 0, 1) := by decide +kernel
theorem dX12_readDoor_139 : decode cX12_readDoor 139 = .ok (.iconst 2, 1) := by decide +kernel
theorem dX12_readDoor_140 : decode cX12_readDoor 140 = .ok (.iconst 0, 1) := by decide +kernel
theorem dX12_readDoor_141 : decode cX12_readDoor 141 = .ok (.bipush 12, 2) := by decide +kernel
theorem dX12_readDoor_143 : decode cX12_readDoor 143 = .ok (.invokevirtual 240, 3) := by decide +kernel
theorem dX12_readDoor_146 : decode cX12_readDoor 146 = .ok (.istore 6, 2) := by decide +kernel
theorem dX12_readDoor_148 : decode cX12_readDoor 148 = .ok (.aload_n 0, 1) := by decide +kernel
theorem dX12_readDoor_149 : decode cX12_readDoor 149 = .ok (.getfield 165, 3) := by decide +kernel
theorem dX12_readDoor_152 : decode cX12_readDoor 152 = .ok (.ifCond .ne 63, 3) := by decide +kernel
theorem dX12_readDoor_155 : decode cX12_readDoor 155 = .ok (.bipush 65, 2) := by decide +kernel
theorem dX12_readDoor_157 : decode cX12_readDoor 157 = .ok (.iconst 4, 1) := by decide +kernel
theorem dX12_readDoor_158 : decode cX12_readDoor 158 = .ok (.iload_n 1, 1) := by decide +kernel
theorem dX12_readDoor_159 : decode cX12_readDoor 159 = .ok (.imul, 1) := by decide +kernel
theorem dX12_readDoor_160 : decode cX12_readDoor 160 = .ok (.iadd, 1) := by decide +kernel
theorem dX12_readDoor_161 : decode cX12_readDoor 161 = .ok (.istore 7, 2) := by decide +kernel
theorem dX12_readDoor_163 : decode cX12_readDoor 163 = .ok (.aload_n 0, 1) := by decide +kernel
theorem dX12_readDoor_164 : decode cX12_readDoor 164 = .ok (.getfield 83, 3) := by decide +kernel
theorem dX12_readDoor_167 : decode cX12_readDoor 167 = .ok (.iload 7, 2) := by decide +kernel
theorem dX12_readDoor_169 : decode cX12_readDoor 169 = .ok (.iload_n 2, 1) := by decide +kernel
theorem dX12_readDoor_170 : decode cX12_readDoor 170 = .ok (.iastore, 1) := by decide +kernel
theorem dX12_readDoor_171 : decode cX12_readDoor 171 = .ok (.aload_n 0, 1) := by decide +kernel
theorem dX12_readDoor_172 : decode cX12_readDoor 172 = .ok (.getfield 83, 3) := by decide +kernel
theorem dX12_readDoor_175 : decode cX12_readDoor 175 = .ok (.iload 7, 2) := by decide +kernel
theorem dX12_readDoor_177 : decode cX12_readDoor 177 = .ok (.iconst 1, 1) := by decide +kernel
theorem dX12_readDoor_178 : decode cX12_readDoor 178 = .ok (.iadd, 1) := by decide +kernel
theorem dX12_readDoor_179 : decode cX12_readDoor 179 = .ok (.iload 4, 2) := by decide +kernel
theorem dX12_readDoor_181 : decode cX12_readDoor 181 = .ok (.iastore, 1) := by decide +kernel
theorem dX12_readDoor_182 : decode cX12_readDoor 182 = .ok (.aload_n 0, 1) := by decide +kernel
theorem dX12_readDoor_183 : decode cX12_readDoor 183 = .ok (.getfield 83, 3) := by decide +kernel
theorem dX12_readDoor_186 : decode cX12_readDoor 186 = .ok (.iload 7, 2) := by decide +kernel
theorem dX12_readDoor_188 : decode cX12_readDoor 188 = .ok (.iconst 2, 1) := by decide +kernel
theorem dX12_readDoor_189 : decode cX12_readDoor 189 = .ok (.iadd, 1) := by decide +kernel
theorem dX12_readDoor_190 : decode cX12_readDoor 190 = .ok (.iload 5, 2) := by decide +kernel
theorem dX12_readDoor_192 : decode cX12_readDoor 192 = .ok (.iastore, 1) := by decide +kernel
theorem dX12_readDoor_193 : decode cX12_readDoor 193 = .ok (.aload_n 0, 1) := by decide +kernel
theorem dX12_readDoor_194 : decode cX12_readDoor 194 = .ok (.getfield 83, 3) := by decide +kernel
theorem dX12_readDoor_197 : decode cX12_readDoor 197 = .ok (.iload 7, 2) := by decide +kernel
theorem dX12_readDoor_199 : decode cX12_readDoor 199 = .ok (.iconst 3, 1) := by decide +kernel
theorem dX12_readDoor_200 : decode cX12_readDoor 200 = .ok (.iadd, 1) := by decide +kernel
theorem dX12_readDoor_201 : decode cX12_readDoor 201 = .ok (.iload 6, 2) := by decide +kernel
theorem dX12_readDoor_203 : decode cX12_readDoor 203 = .ok (.iastore, 1) := by decide +kernel
theorem dX12_readDoor_204 : decode cX12_readDoor 204 = .ok (.aload_n 0, 1) := by decide +kernel
theorem dX12_readDoor_205 : decode cX12_readDoor 205 = .ok (.getfield 83, 3) := by decide +kernel
theorem dX12_readDoor_208 : decode cX12_readDoor 208 = .ok (.bipush 61, 2) := by decide +kernel
theorem dX12_readDoor_210 : decode cX12_readDoor 210 = .ok (.dup2, 1) := by decide +kernel
theorem dX12_readDoor_211 : decode cX12_readDoor 211 = .ok (.iaload, 1) := by decide +kernel
theorem dX12_readDoor_212 : decode cX12_readDoor 212 = .ok (.iconst 1, 1) := by decide +kernel
theorem dX12_readDoor_213 : decode cX12_readDoor 213 = .ok (.iadd, 1) := by decide +kernel
theorem dX12_readDoor_214 : decode cX12_readDoor 214 = .ok (.iastore, 1) := by decide +kernel
theorem dX12_readDoor_215 : decode cX12_readDoor 215 = .ok (.return_, 1) := by decide +kernel
def f_X12_readDoor_120 (w : Nat) (o0 : Nat) (x1 : Int32) (x2 : Int32) (x3 : Int32) (M : mM) : Option mM := bI (f_X12_takeTold w o0 1 0 x3 M) fun q2 M1 => bI (f_X12_takeOne w o0 12 4 M1) fun q4 M3 => bI (f_X12_takeAfter w o0 2 0 12 M3) fun q6 M5 => (if (M5.1 o0 8) = 0 then lt (65 + (4 * x1)) fun y7 => chk y7 (sL (rF o0 10)) (lt (wI M5 (rF o0 10) y7.toNatClampNeg x2) fun M8 => chk (y7 + 1) (sL (rF o0 10)) (lt (wI M8 (rF o0 10) (y7 + 1).toNatClampNeg q2) fun M9 => chk (y7 + 2) (sL (rF o0 10)) (lt (wI M9 (rF o0 10) (y7 + 2).toNatClampNeg q4) fun M10 => chk (y7 + 3) (sL (rF o0 10)) (lt (wI M10 (rF o0 10) (y7 + 3).toNatClampNeg q6) fun M11 => chk 61 (sL (rF o0 10)) (chk 61 (sL (rF o0 10)) (lt (wI M11 (rF o0 10) (61 : Int32).toNatClampNeg ((M11.1 (rF o0 10) (61 : Int32).toNatClampNeg) + 1)) fun M12 => some M12)))))) else some M5)
set_option maxHeartbeats 4000000 in
set_option maxRecDepth 100000 in
theorem s_X12_readDoor_120 {l : Launch} {G : mG} {sk : List mS} (w : Nat) (o0 : Nat) (h0 : isK o0 22) (x1 : Int32) (x2 : Int32) (x3 : Int32) (M : mM) : Go muX12_readDoor (rm 4) 0 0 l G sk (mFin G sk eV) (f_X12_readDoor_120 w o0 x1 x2 x3 M) 120 [(0, .ref (gB G + o0)), (1, .int x1), (2, .int x2), (3, .int x3)] [] M := by
  unfold f_X12_readDoor_120
  refine go_aload_n 0 121 dX12_readDoor_120 rfl rfl ?_
  refine go_iconst 1 122 dX12_readDoor_121 rfl (by decide) ?_
  refine go_iconst 0 123 dX12_readDoor_122 rfl (by decide) ?_
  refine go_iload_n 3 124 dX12_readDoor_123 rfl rfl ?_
  refine go_cVI3 3 clX12 cwX12_230 (m_X12_takeTold w o0 h0 1 0 x3 M) h0 127 dX12_readDoor_124 rfl ⟨Nat.le_of_ble_eq_true rfl, Nat.le_of_ble_eq_true rfl⟩ ⟨Nat.zero_le _, Nat.zero_le _⟩ (Nat.le_of_ble_eq_true rfl) (fun q2 M1 _ => ?_)
  refine go_istore [(4, .int q2), (0, .ref (gB G + o0)), (1, .int x1), (2, .int x2), (3, .int x3)] 129 dX12_readDoor_127 rfl (by decide) rfl ?_
  refine go_aload_n 1 130 dX12_readDoor_129 rfl rfl ?_
  refine go_bipush 12 132 dX12_readDoor_130 rfl (by decide) ?_
  refine go_iconst 4 133 dX12_readDoor_132 rfl (by decide) ?_
  refine go_cVI2 2 clX12 cwX12_237 (m_X12_takeOne w o0 h0 12 4 M1) h0 136 dX12_readDoor_133 rfl ⟨Nat.le_of_ble_eq_true rfl, Nat.le_of_ble_eq_true rfl⟩ ⟨Nat.zero_le _, Nat.zero_le _⟩ (Nat.le_of_ble_eq_true rfl) (fun q4 M3 _ => ?_)
  refine go_istore [(5, .int q4), (4, .int q2), (0, .ref (gB G + o0)), (1, .int x1), (2, .int x2), (3, .int x3)] 138 dX12_readDoor_136 rfl (by decide) rfl ?_
  refine go_aload_n 2 139 dX12_readDoor_138 rfl rfl ?_
  refine go_iconst 2 140 dX12_readDoor_139 rfl (by decide) ?_
  refine go_iconst 0 141 dX12_readDoor_140 rfl (by decide) ?_
  refine go_bipush 12 143 dX12_readDoor_141 rfl (by decide) ?_
  refine go_cVI3 3 clX12 cwX12_240 (m_X12_takeAfter w o0 h0 2 0 12 M3) h0 146 dX12_readDoor_143 rfl ⟨Nat.le_of_ble_eq_true rfl, Nat.le_of_ble_eq_true rfl⟩ ⟨Nat.zero_le _, Nat.zero_le _⟩ (Nat.le_of_ble_eq_true rfl) (fun q6 M5 _ => ?_)
  refine go_istore [(6, .int q6), (5, .int q4), (4, .int q2), (0, .ref (gB G + o0)), (1, .int x1), (2, .int x2), (3, .int x3)] 148 dX12_readDoor_146 rfl (by decide) rfl ?_
  refine go_aload_n 3 149 dX12_readDoor_148 rfl rfl ?_
  refine go_getI flX12_165 (by decide) h0 152 dX12_readDoor_149 rfl ?_
  refine go_if_ne 215 155 dX12_readDoor_152 rfl (by decide) (fun _ => ?_) (fun _ => ?_)
  · exact go_vret rfl dX12_readDoor_215
  · refine go_bipush 65 157 dX12_readDoor_155 rfl (by decide) ?_
    refine go_iconst 4 158 dX12_readDoor_157 rfl (by decide) ?_
    refine go_iload_n 4 159 dX12_readDoor_158 rfl rfl ?_
    refine go_imul 160 dX12_readDoor_159 rfl ?_
    refine go_iadd 161 dX12_readDoor_160 rfl ?_
    refine go_nmI (fun y7 => ?_)
    refine go_istore [(7, .int y7), (6, .int q6), (5, .int q4), (4, .int q2), (0, .ref (gB G + o0)), (1, .int x1), (2, .int x2), (3, .int x3)] 163 dX12_readDoor_161 rfl (by decide) rfl ?_
    refine go_aload_n 4 164 dX12_readDoor_163 rfl rfl ?_
    refine go_getR flX12_83 h0 167 dX12_readDoor_164 rfl ?_
    refine go_iload 0 169 dX12_readDoor_167 rfl rfl ?_
    refine go_iload_n 6 170 dX12_readDoor_169 rfl rfl ?_
    refine go_iast (rk12_10 h0) 171 dX12_readDoor_170 rfl ?_
    refine go_nmM (fun M8 => ?_)
    refine go_aload_n 4 172 dX12_readDoor_171 rfl rfl ?_
    refine go_getR flX12_83 h0 175 dX12_readDoor_172 rfl ?_
    refine go_iload 0 177 dX12_readDoor_175 rfl rfl ?_
    refine go_iconst 1 178 dX12_readDoor_177 rfl (by decide) ?_
    refine go_iadd 179 dX12_readDoor_178 rfl ?_
    refine go_iload 3 181 dX12_readDoor_179 rfl rfl ?_
    refine go_iast (rk12_10 h0) 182 dX12_readDoor_181 rfl ?_
    refine go_nmM (fun M9 => ?_)
    refine go_aload_n 4 183 dX12_readDoor_182 rfl rfl ?_
    refine go_getR flX12_83 h0 186 dX12_readDoor_183 rfl ?_
    refine go_iload 0 188 dX12_readDoor_186 rfl rfl ?_
    refine go_iconst 2 189 dX12_readDoor_188 rfl (by decide) ?_
    refine go_iadd 190 dX12_readDoor_189 rfl ?_
    refine go_iload 2 192 dX12_readDoor_190 rfl rfl ?_
    refine go_iast (rk12_10 h0) 193 dX12_readDoor_192 rfl ?_
    refine go_nmM (fun M10 => ?_)
    refine go_aload_n 4 194 dX12_readDoor_193 rfl rfl ?_
    refine go_getR flX12_83 h0 197 dX12_readDoor_194 rfl ?_
    refine go_iload 0 199 dX12_readDoor_197 rfl rfl ?_
    refine go_iconst 3 200 dX12_readDoor_199 rfl (by decide) ?_
    refine go_iadd 201 dX12_readDoor_200 rfl ?_
    refine go_iload 1 203 dX12_readDoor_201 rfl rfl ?_
    refine go_iast (rk12_10 h0) 204 dX12_readDoor_203 rfl ?_
    refine go_nmM (fun M11 => ?_)
    refine go_aload_n 4 205 dX12_readDoor_204 rfl rfl ?_
    refine go_getR flX12_83 h0 208 dX12_readDoor_205 rfl ?_
    refine go_bipush 61 210 dX12_readDoor_208 rfl (by decide) ?_
    refine go_dup2 211 dX12_readDoor_210 rfl rfl rfl ?_
    refine go_iald (rk12_10 h0) 212 dX12_readDoor_211 rfl ?_
    refine go_iconst 1 213 dX12_readDoor_212 rfl (by decide) ?_
    refine go_iadd 214 dX12_readDoor_213 rfl ?_
    refine go_iast (rk12_10 h0) 215 dX12_readDoor_214 rfl ?_
    refine go_nmM (fun M12 => ?_)
    exact go_vret rfl dX12_readDoor_215
def f_X12_readDoor_45 (w : Nat) : Nat → Nat → Int32 → Int32 → Int32 → Int32 → mM → Option mM
  | 0, _, _, _, _, _, _ => none
  | n + 1, o0, x1, x2, x3, x4, M => (if x1 ≤ x4 then (f_X12_readDoor_120 w o0 x1 x2 x3 M) else lt (65 + (4 * x4)) fun y1 => chk y1 (sL (rF o0 10)) ((if (M.1 (rF o0 10) y1.toNatClampNeg) = x2 then chk (y1 + 1) (sL (rF o0 10)) (lt (x3 ||| ((1 : Int32) <<< ((M.1 (rF o0 10) (y1 + 1).toNatClampNeg) &&& 31))) fun y4 => (f_X12_readDoor_45 w n o0 x1 x2 y4 (x4 + 1) M)) else chk (y1 + 1) (sL (rF o0 10)) ((if (M.1 (rF o0 10) (y1 + 1).toNatClampNeg) = x2 then chk y1 (sL (rF o0 10)) (lt (x3 ||| ((1 : Int32) <<< ((M.1 (rF o0 10) y1.toNatClampNeg) &&& 31))) fun y3 => (f_X12_readDoor_45 w n o0 x1 x2 y3 (x4 + 1) M)) else lt (x3 ||| 0) fun y2 => (f_X12_readDoor_45 w n o0 x1 x2 y2 (x4 + 1) M))))))
set_option maxHeartbeats 4000000 in
set_option maxRecDepth 100000 in
theorem s_X12_readDoor_45 {l : Launch} {G : mG} {sk : List mS} (w : Nat) : ∀ (n : Nat) (o0 : Nat) (h0 : isK o0 22) (x1 : Int32) (x2 : Int32) (x3 : Int32) (x4 : Int32) (M : mM), Go muX12_readDoor (rm 4) 0 0 l G sk (mFin G sk eV) (f_X12_readDoor_45 w n o0 x1 x2 x3 x4 M) 45 [(0, .ref (gB G + o0)), (1, .int x1), (2, .int x2), (3, .int x3), (4, .int x4)] [] M := by
  intro n
  induction n with
  | zero =>
    intros
    exact go_none
  | succ n ih =>
    intro o0 h0 x1 x2 x3 x4 M
    rw [f_X12_readDoor_45]
    refine go_iload 4 47 dX12_readDoor_45 rfl rfl ?_
    refine go_iload_n 1 48 dX12_readDoor_47 rfl rfl ?_
    refine go_icmp_ge 120 51 dX12_readDoor_48 rfl (by decide) (fun _ => ?_) (fun _ => ?_)
    · exact go_lv [0, 1, 2, 3] rfl (s_X12_readDoor_120 w o0 h0 x1 x2 x3 M)
    · refine go_bipush 65 53 dX12_readDoor_51 rfl (by decide) ?_
      refine go_iconst 4 54 dX12_readDoor_53 rfl (by decide) ?_
      refine go_iload 4 56 dX12_readDoor_54 rfl rfl ?_
      refine go_imul 57 dX12_readDoor_56 rfl ?_
      refine go_iadd 58 dX12_readDoor_57 rfl ?_
      refine go_nmI (fun y1 => ?_)
      refine go_istore [(5, .int y1), (0, .ref (gB G + o0)), (1, .int x1), (2, .int x2), (3, .int x3), (4, .int x4)] 60 dX12_readDoor_58 rfl (by decide) rfl ?_
      refine go_iload_n 4 61 dX12_readDoor_60 rfl rfl ?_
      refine go_aload_n 1 62 dX12_readDoor_61 rfl rfl ?_
      refine go_getR flX12_83 h0 65 dX12_readDoor_62 rfl ?_
      refine go_iload 0 67 dX12_readDoor_65 rfl rfl ?_
      refine go_iald (rk12_10 h0) 68 dX12_readDoor_67 rfl ?_
      refine go_iload_n 3 69 dX12_readDoor_68 rfl rfl ?_
      refine go_icmp_ne 86 72 dX12_readDoor_69 rfl (by decide) (fun _ => ?_) (fun _ => ?_)
      · refine go_aload_n 1 87 dX12_readDoor_86 rfl rfl ?_
        refine go_getR flX12_83 h0 90 dX12_readDoor_87 rfl ?_
        refine go_iload 0 92 dX12_readDoor_90 rfl rfl ?_
        refine go_iconst 1 93 dX12_readDoor_92 rfl (by decide) ?_
        refine go_iadd 94 dX12_readDoor_93 rfl ?_
        refine go_iald (rk12_10 h0) 95 dX12_readDoor_94 rfl ?_
        refine go_iload_n 3 96 dX12_readDoor_95 rfl rfl ?_
        refine go_icmp_ne 111 99 dX12_readDoor_96 rfl (by decide) (fun _ => ?_) (fun _ => ?_)
        · refine go_iconst 0 112 dX12_readDoor_111 rfl (by decide) ?_
          refine go_ior 113 dX12_readDoor_112 rfl ?_
          refine go_nmI (fun y2 => ?_)
          refine go_istore_n [(3, .int y2), (5, .int y1), (0, .ref (gB G + o0)), (1, .int x1), (2, .int x2), (4, .int x4)] 114 dX12_readDoor_113 rfl rfl (by decide) rfl ?_
          refine go_iinc (x4 + 1) 5 [(4, .int (x4 + 1)), (3, .int y2), (5, .int y1), (0, .ref (gB G + o0)), (1, .int x1), (2, .int x2)] 117 dX12_readDoor_114 rfl rfl rfl (by decide) rfl ?_
          refine go_goto 45 dX12_readDoor_117 (by decide) ?_
          exact go_lv [3, 4, 5, 1, 0] rfl (ih o0 h0 x1 x2 y2 (x4 + 1) M)
        · refine go_iconst 1 100 dX12_readDoor_99 rfl (by decide) ?_
          refine go_aload_n 1 101 dX12_readDoor_100 rfl rfl ?_
          refine go_getR flX12_83 h0 104 dX12_readDoor_101 rfl ?_
          refine go_iload 0 106 dX12_readDoor_104 rfl rfl ?_
          refine go_iald (rk12_10 h0) 107 dX12_readDoor_106 rfl ?_
          refine go_ishl 108 dX12_readDoor_107 rfl ?_
          refine go_goto 112 dX12_readDoor_108 (by decide) ?_
          refine go_ior 113 dX12_readDoor_112 rfl ?_
          refine go_nmI (fun y3 => ?_)
          refine go_istore_n [(3, .int y3), (5, .int y1), (0, .ref (gB G + o0)), (1, .int x1), (2, .int x2), (4, .int x4)] 114 dX12_readDoor_113 rfl rfl (by decide) rfl ?_
          refine go_iinc (x4 + 1) 5 [(4, .int (x4 + 1)), (3, .int y3), (5, .int y1), (0, .ref (gB G + o0)), (1, .int x1), (2, .int x2)] 117 dX12_readDoor_114 rfl rfl rfl (by decide) rfl ?_
          refine go_goto 45 dX12_readDoor_117 (by decide) ?_
          exact go_lv [3, 4, 5, 1, 0] rfl (ih o0 h0 x1 x2 y3 (x4 + 1) M)
      · refine go_iconst 1 73 dX12_readDoor_72 rfl (by decide) ?_
        refine go_aload_n 1 74 dX12_readDoor_73 rfl rfl ?_
        refine go_getR flX12_83 h0 77 dX12_readDoor_74 rfl ?_
        refine go_iload 0 79 dX12_readDoor_77 rfl rfl ?_
        refine go_iconst 1 80 dX12_readDoor_79 rfl (by decide) ?_
        refine go_iadd 81 dX12_readDoor_80 rfl ?_
        refine go_iald (rk12_10 h0) 82 dX12_readDoor_81 rfl ?_
        refine go_ishl 83 dX12_readDoor_82 rfl ?_
        refine go_goto 112 dX12_readDoor_83 (by decide) ?_
        refine go_ior 113 dX12_readDoor_112 rfl ?_
        refine go_nmI (fun y4 => ?_)
        refine go_istore_n [(3, .int y4), (5, .int y1), (0, .ref (gB G + o0)), (1, .int x1), (2, .int x2), (4, .int x4)] 114 dX12_readDoor_113 rfl rfl (by decide) rfl ?_
        refine go_iinc (x4 + 1) 5 [(4, .int (x4 + 1)), (3, .int y4), (5, .int y1), (0, .ref (gB G + o0)), (1, .int x1), (2, .int x2)] 117 dX12_readDoor_114 rfl rfl rfl (by decide) rfl ?_
        refine go_goto 45 dX12_readDoor_117 (by decide) ?_
        exact go_lv [3, 4, 5, 1, 0] rfl (ih o0 h0 x1 x2 y4 (x4 + 1) M)
def f_X12_readDoor (w : Nat) (o0 : Nat) (M : mM) : Option mM := chk 61 (sL (rF o0 10)) (lt (M.1 (rF o0 10) (61 : Int32).toNatClampNeg) fun y1 => (if y1 = 8 then bV (f_X12_wrong w o0 5 M) fun M6 => some M6 else lt (wI M o0 7 ((M.1 o0 7) + 1)) fun M2 => bI (f_X12_takeTold w o0 1 0 0 M2) fun q4 M3 => lt ((1 : Int32) <<< (q4 &&& 31)) fun y5 => (f_X12_readDoor_45 w w o0 y1 q4 y5 0 M3)))
set_option maxHeartbeats 4000000 in
set_option maxRecDepth 100000 in
theorem s_X12_readDoor {l : Launch} {G : mG} {sk : List mS} (w : Nat) (o0 : Nat) (h0 : isK o0 22) (M : mM) : Go muX12_readDoor (rm 4) 0 0 l G sk (mFin G sk eV) (f_X12_readDoor w o0 M) 0 [(0, .ref (gB G + o0))] [] M := by
  unfold f_X12_readDoor
  refine go_aload_n 0 1 dX12_readDoor_0 rfl rfl ?_
  refine go_getR flX12_83 h0 4 dX12_readDoor_1 rfl ?_
  refine go_bipush 61 6 dX12_readDoor_4 rfl (by decide) ?_
  refine go_iald (rk12_10 h0) 7 dX12_readDoor_6 rfl ?_
  refine go_nmI (fun y1 => ?_)
  refine go_istore_n [(1, .int y1), (0, .ref (gB G + o0))] 8 dX12_readDoor_7 rfl rfl (by decide) rfl ?_
  refine go_iload_n 0 9 dX12_readDoor_8 rfl rfl ?_
  refine go_bipush 8 11 dX12_readDoor_9 rfl (by decide) ?_
  refine go_icmp_ne 20 14 dX12_readDoor_11 rfl (by decide) (fun _ => ?_) (fun _ => ?_)
  · refine go_aload_n 1 21 dX12_readDoor_20 rfl rfl ?_
    refine go_dup 22 dX12_readDoor_21 rfl rfl ?_
    refine go_getI flX12_162 (by decide) h0 25 dX12_readDoor_22 rfl ?_
    refine go_iconst 1 26 dX12_readDoor_25 rfl (by decide) ?_
    refine go_iadd 27 dX12_readDoor_26 rfl ?_
    refine go_putI flX12_162 rfl rfl h0 30 dX12_readDoor_27 rfl ?_
    refine go_nmM (fun M2 => ?_)
    refine go_aload_n 1 31 dX12_readDoor_30 rfl rfl ?_
    refine go_iconst 1 32 dX12_readDoor_31 rfl (by decide) ?_
    refine go_iconst 0 33 dX12_readDoor_32 rfl (by decide) ?_
    refine go_iconst 0 34 dX12_readDoor_33 rfl (by decide) ?_
    refine go_cVI3 3 clX12 cwX12_230 (m_X12_takeTold w o0 h0 1 0 0 M2) h0 37 dX12_readDoor_34 rfl ⟨Nat.le_of_ble_eq_true rfl, Nat.le_of_ble_eq_true rfl⟩ ⟨Nat.zero_le _, Nat.zero_le _⟩ (Nat.le_of_ble_eq_true rfl) (fun q4 M3 _ => ?_)
    refine go_istore_n [(2, .int q4), (1, .int y1), (0, .ref (gB G + o0))] 38 dX12_readDoor_37 rfl rfl (by decide) rfl ?_
    refine go_iconst 1 39 dX12_readDoor_38 rfl (by decide) ?_
    refine go_iload_n 0 40 dX12_readDoor_39 rfl rfl ?_
    refine go_ishl 41 dX12_readDoor_40 rfl ?_
    refine go_nmI (fun y5 => ?_)
    refine go_istore_n [(3, .int y5), (2, .int q4), (1, .int y1), (0, .ref (gB G + o0))] 42 dX12_readDoor_41 rfl rfl (by decide) rfl ?_
    refine go_iconst 0 43 dX12_readDoor_42 rfl (by decide) ?_
    refine go_istore [(4, .int 0), (3, .int y5), (2, .int q4), (1, .int y1), (0, .ref (gB G + o0))] 45 dX12_readDoor_43 rfl (by decide) rfl ?_
    exact go_lv [4, 3, 2, 1, 0] rfl (s_X12_readDoor_45 w w o0 h0 y1 q4 y5 0 M3)
  · refine go_aload_n 1 15 dX12_readDoor_14 rfl rfl ?_
    refine go_iconst 5 16 dX12_readDoor_15 rfl (by decide) ?_
    refine go_cVV1 0 clX12 cwX12_171 (m_X12_wrong w o0 h0 5 M) h0 19 dX12_readDoor_16 rfl ⟨Nat.le_of_ble_eq_true rfl, Nat.le_of_ble_eq_true rfl⟩ ⟨Nat.zero_le _, Nat.zero_le _⟩ (Nat.le_of_ble_eq_true rfl) (fun M6 _ => ?_)
    exact go_vret rfl dX12_readDoor_19
theorem m_X12_readDoor {l : Launch} {G : mG} {sk : List mS} (w : Nat) (o0 : Nat) (h0 : isK o0 22) (M : mM) : Mt l G sk yX12_readDoor muX12_readDoor 4 [.ref (gB G + o0)] M eV (f_X12_readDoor w o0 M) := Mt.of (by decide) rfl (Nat.le_of_ble_eq_true rfl) (s_X12_readDoor w o0 h0 M)
theorem dX12_readDamp_0 : decode cX12_readDamp 0 = .ok (.iconst 0, 1) := by decide +kernel
theorem dX12_readDamp_1 : decode cX12_readDamp 1 = .ok (.istore_n 1, 1) := by decide +kernel
theorem dX12_readDamp_2 : decode cX12_readDamp 2 = .ok (.aload_n 0, 1) := by decide +kernel
theorem dX12_readDamp_3 : decode cX12_readDamp 3 = .ok (.getfield 165, 3) := by decide +kernel
theorem dX12_readDamp_6 : decode cX12_readDamp 6 = .ok (.ifCond .ne 82, 3) := by decide +kernel
theorem dX12_readDamp_9 : decode cX12_readDamp 9 = .ok (.iload_n 1, 1) := by decide +kernel
theorem dX12_readDamp_10 : decode cX12_readDamp 10 = .ok (.ifCond .eq 16, 3) := by decide +kernel
theorem dX12_readDamp_13 : decode cX12_readDamp 13 = .ok (.aload_n 0, 1) := by decide +kernel
theorem dX12_readDamp_14 : decode cX12_readDamp 14 = .ok (.getfield 24, 3) := by decide +kernel
theorem dX12_readDamp_17 : decode cX12_readDamp 17 = .ok (.aload_n 0, 1) := by decide +kernel
theorem dX12_readDamp_18 : decode cX12_readDamp 18 = .ok (.getfield 162, 3) := by decide +kernel
theorem dX12_readDamp_21 : decode cX12_readDamp 21 = .ok (.iaload, 1) := by decide +kernel
theorem dX12_readDamp_22 : decode cX12_readDamp 22 = .ok (.iconst 2, 1) := by decide +kernel
theorem dX12_readDamp_23 : decode cX12_readDamp 23 = .ok (.if_icmp .ne 65, 3) := by decide +kernel
theorem dX12_readDamp_26 : decode cX12_readDamp 26 = .ok (.aload_n 0, 1) := by decide +kernel
theorem dX12_readDamp_27 : decode cX12_readDamp 27 = .ok (.iconst 0, 1) := by decide +kernel
theorem dX12_readDamp_28 : decode cX12_readDamp 28 = .ok (.bipush 9, 2) := by decide +kernel
theorem dX12_readDamp_30 : decode cX12_readDamp 30 = .ok (.invokevirtual 183, 3) := by decide +kernel
theorem dX12_readDamp_33 : decode cX12_readDamp 33 = .ok (.istore_n 2, 1) := by decide +kernel
theorem dX12_readDamp_34 : decode cX12_readDamp 34 = .ok (.aload_n 0, 1) := by decide +kernel
theorem dX12_readDamp_35 : decode cX12_readDamp 35 = .ok (.getfield 165, 3) := by decide +kernel
theorem dX12_readDamp_38 : decode cX12_readDamp 38 = .ok (.ifCond .ne 27, 3) := by decide +kernel
theorem dX12_readDamp_41 : decode cX12_readDamp 41 = .ok (.iload_n 1, 1) := by decide +kernel
theorem dX12_readDamp_42 : decode cX12_readDamp 42 = .ok (.bipush 12, 2) := by decide +kernel
theorem dX12_readDamp_44 : decode cX12_readDamp 44 = .ok (.if_icmp .ne 21, 3) := by decide +kernel
theorem dX12_readDamp_47 : decode cX12_readDamp 47 = .ok (.aload_n 0, 1) := by decide +kernel
theorem dX12_readDamp_48 : decode cX12_readDamp 48 = .ok (.dup, 1) := by decide +kernel
theorem dX12_readDamp_49 : decode cX12_readDamp 49 = .ok (.getfield 162, 3) := by decide +kernel
theorem dX12_readDamp_52 : decode cX12_readDamp 52 = .ok (.iconst 1, 1) := by decide +kernel
theorem dX12_readDamp_53 : decode cX12_readDamp 53 = .ok (.isub, 1) := by decide +kernel
theorem dX12_readDamp_54 : decode cX12_readDamp 54 = .ok (.putfield 162, 3) := by decide +kernel
theorem dX12_readDamp_57 : decode cX12_readDamp 57 = .ok (.aload_n 0, 1) := by decide +kernel
theorem dX12_readDamp_58 : decode cX12_readDamp 58 = .ok (.iconst 5, 1) := by decide +kernel
theorem dX12_readDamp_59 : decode cX12_readDamp 59 = .ok (.invokevirtual 171, 3) := by decide +kernel
theorem dX12_readDamp_62 : decode cX12_readDamp 62 = .ok (.goto 23, 3) := by decide +kernel
theorem dX12_readDamp_65 : decode cX12_readDamp 65 = .ok (.aload_n 0, 1) := by decide +kernel
theorem dX12_readDamp_66 : decode cX12_readDamp 66 = .ok (.getfield 165, 3) := by decide +kernel
theorem dX12_readDamp_69 : decode cX12_readDamp 69 = .ok (.ifCond .ne 16, 3) := by decide +kernel
theorem dX12_readDamp_72 : decode cX12_readDamp 72 = .ok (.aload_n 0, 1) := by decide +kernel
theorem dX12_readDamp_73 : decode cX12_readDamp 73 = .ok (.getfield 83, 3) := by decide +kernel
theorem dX12_readDamp_76 : decode cX12_readDamp 76 = .ok (.bipush 102, 2) := by decide +kernel
theorem dX12_readDamp_78 : decode cX12_readDamp 78 = .ok (.iload_n 1, 1) := by decide +kernel
theorem dX12_readDamp_79 : decode cX12_readDamp 79 = .ok (.iadd, 1) := by decide +kernel
theorem dX12_readDamp_80 : decode cX12_readDamp 80 = .ok (.iload_n 2, 1) := by decide +kernel
theorem dX12_readDamp_81 : decode cX12_readDamp 81 = .ok (.iastore, 1) := by decide +kernel
theorem dX12_readDamp_82 : decode cX12_readDamp 82 = .ok (.iinc 1 1, 3) := by decide +kernel
theorem dX12_readDamp_85 : decode cX12_readDamp 85 = .ok (.goto (-83), 3) := by decide +kernel
theorem dX12_readDamp_88 : decode cX12_readDamp 88 = .ok (.aload_n 0, 1) := by decide +kernel
theorem dX12_readDamp_89 : decode cX12_readDamp 89 = .ok (.getfield 83, 3) := by decide +kernel
theorem dX12_readDamp_92 : decode cX12_readDamp 92 = .ok (.bipush 63, 2) := by decide +kernel
theorem dX12_readDamp_94 : decode cX12_readDamp 94 = .ok (.iload_n 1, 1) := by decide +kernel
theorem dX12_readDamp_95 : decode cX12_readDamp 95 = .ok (.iastore, 1) := by decide +kernel
theorem dX12_readDamp_96 : decode cX12_readDamp 96 = .ok (.return_, 1) := by decide +kernel
def f_X12_readDamp_65 (w : Nat) (k2 : Nat → Int32 → mM → Option mM) (o0 : Nat) (x1 : Int32) (x2 : Int32) (M : mM) : Option mM := (if (M.1 o0 8) = 0 then chk (102 + x1) (sL (rF o0 10)) (lt (wI M (rF o0 10) (102 + x1).toNatClampNeg x2) fun M1 => (k2 o0 (x1 + 1) M1)) else (k2 o0 x1 M))
set_option maxHeartbeats 4000000 in
set_option maxRecDepth 100000 in
theorem s_X12_readDamp_65 {l : Launch} {G : mG} {sk : List mS} (w : Nat) (k2 : Nat → Int32 → mM → Option mM) (hk2 : ∀ (o0 : Nat) (h0 : isK o0 22) (x1 : Int32) (M : mM), Go muX12_readDamp (rm 2) 0 0 l G sk (mFin G sk eV) (k2 o0 x1 M) 2 [(0, .ref (gB G + o0)), (1, .int x1)] [] M) (o0 : Nat) (h0 : isK o0 22) (x1 : Int32) (x2 : Int32) (M : mM) : Go muX12_readDamp (rm 2) 0 0 l G sk (mFin G sk eV) (f_X12_readDamp_65 w k2 o0 x1 x2 M) 65 [(0, .ref (gB G + o0)), (1, .int x1), (2, .int x2)] [] M := by
  unfold f_X12_readDamp_65
  refine go_aload_n 0 66 dX12_readDamp_65 rfl rfl ?_
  refine go_getI flX12_165 (by decide) h0 69 dX12_readDamp_66 rfl ?_
  refine go_if_ne 85 72 dX12_readDamp_69 rfl (by decide) (fun _ => ?_) (fun _ => ?_)
  · refine go_goto 2 dX12_readDamp_85 (by decide) ?_
    exact go_lv [0, 1] rfl (hk2 o0 h0 x1 M)
  · refine go_aload_n 0 73 dX12_readDamp_72 rfl rfl ?_
    refine go_getR flX12_83 h0 76 dX12_readDamp_73 rfl ?_
    refine go_bipush 102 78 dX12_readDamp_76 rfl (by decide) ?_
    refine go_iload_n 1 79 dX12_readDamp_78 rfl rfl ?_
    refine go_iadd 80 dX12_readDamp_79 rfl ?_
    refine go_iload_n 2 81 dX12_readDamp_80 rfl rfl ?_
    refine go_iast (rk12_10 h0) 82 dX12_readDamp_81 rfl ?_
    refine go_nmM (fun M1 => ?_)
    refine go_iinc (x1 + 1) 1 [(1, .int (x1 + 1)), (0, .ref (gB G + o0)), (2, .int x2)] 85 dX12_readDamp_82 rfl rfl rfl (by decide) rfl ?_
    refine go_goto 2 dX12_readDamp_85 (by decide) ?_
    exact go_lv [1, 0] rfl (hk2 o0 h0 (x1 + 1) M1)
def f_X12_readDamp_26 (w : Nat) (k2 : Nat → Int32 → mM → Option mM) (o0 : Nat) (x1 : Int32) (M : mM) : Option mM := bI (f_X12_takeNumber w o0 0 9 M) fun q2 M1 => (if (M1.1 o0 8) = 0 then (if x1 = 12 then lt (wI M1 o0 7 ((M1.1 o0 7) - 1)) fun M3 => bV (f_X12_wrong w o0 5 M3) fun M4 => (k2 o0 x1 M4) else (f_X12_readDamp_65 w k2 o0 x1 q2 M1)) else (f_X12_readDamp_65 w k2 o0 x1 q2 M1))
set_option maxHeartbeats 4000000 in
set_option maxRecDepth 100000 in
theorem s_X12_readDamp_26 {l : Launch} {G : mG} {sk : List mS} (w : Nat) (k2 : Nat → Int32 → mM → Option mM) (hk2 : ∀ (o0 : Nat) (h0 : isK o0 22) (x1 : Int32) (M : mM), Go muX12_readDamp (rm 2) 0 0 l G sk (mFin G sk eV) (k2 o0 x1 M) 2 [(0, .ref (gB G + o0)), (1, .int x1)] [] M) (o0 : Nat) (h0 : isK o0 22) (x1 : Int32) (M : mM) : Go muX12_readDamp (rm 2) 0 0 l G sk (mFin G sk eV) (f_X12_readDamp_26 w k2 o0 x1 M) 26 [(0, .ref (gB G + o0)), (1, .int x1)] [] M := by
  unfold f_X12_readDamp_26
  refine go_aload_n 0 27 dX12_readDamp_26 rfl rfl ?_
  refine go_iconst 0 28 dX12_readDamp_27 rfl (by decide) ?_
  refine go_bipush 9 30 dX12_readDamp_28 rfl (by decide) ?_
  refine go_cVI2 1 clX12 cwX12_183 (m_X12_takeNumber w o0 h0 0 9 M) h0 33 dX12_readDamp_30 rfl ⟨Nat.le_of_ble_eq_true rfl, Nat.le_of_ble_eq_true rfl⟩ ⟨Nat.zero_le _, Nat.zero_le _⟩ (Nat.le_of_ble_eq_true rfl) (fun q2 M1 _ => ?_)
  refine go_istore_n [(2, .int q2), (0, .ref (gB G + o0)), (1, .int x1)] 34 dX12_readDamp_33 rfl rfl (by decide) rfl ?_
  refine go_aload_n 1 35 dX12_readDamp_34 rfl rfl ?_
  refine go_getI flX12_165 (by decide) h0 38 dX12_readDamp_35 rfl ?_
  refine go_if_ne 65 41 dX12_readDamp_38 rfl (by decide) (fun _ => ?_) (fun _ => ?_)
  · exact go_lv [1, 2, 0] rfl (s_X12_readDamp_65 w k2 hk2 o0 h0 x1 q2 M1)
  · refine go_iload_n 2 42 dX12_readDamp_41 rfl rfl ?_
    refine go_bipush 12 44 dX12_readDamp_42 rfl (by decide) ?_
    refine go_icmp_ne 65 47 dX12_readDamp_44 rfl (by decide) (fun _ => ?_) (fun _ => ?_)
    · exact go_lv [1, 2, 0] rfl (s_X12_readDamp_65 w k2 hk2 o0 h0 x1 q2 M1)
    · refine go_aload_n 1 48 dX12_readDamp_47 rfl rfl ?_
      refine go_dup 49 dX12_readDamp_48 rfl rfl ?_
      refine go_getI flX12_162 (by decide) h0 52 dX12_readDamp_49 rfl ?_
      refine go_iconst 1 53 dX12_readDamp_52 rfl (by decide) ?_
      refine go_isub 54 dX12_readDamp_53 rfl ?_
      refine go_putI flX12_162 rfl rfl h0 57 dX12_readDamp_54 rfl ?_
      refine go_nmM (fun M3 => ?_)
      refine go_aload_n 1 58 dX12_readDamp_57 rfl rfl ?_
      refine go_iconst 5 59 dX12_readDamp_58 rfl (by decide) ?_
      refine go_cVV1 0 clX12 cwX12_171 (m_X12_wrong w o0 h0 5 M3) h0 62 dX12_readDamp_59 rfl ⟨Nat.le_of_ble_eq_true rfl, Nat.le_of_ble_eq_true rfl⟩ ⟨Nat.zero_le _, Nat.zero_le _⟩ (Nat.le_of_ble_eq_true rfl) (fun M4 _ => ?_)
      refine go_goto 85 dX12_readDamp_62 (by decide) ?_
      refine go_goto 2 dX12_readDamp_85 (by decide) ?_
      exact go_lv [1, 2] rfl (hk2 o0 h0 x1 M4)
def f_X12_readDamp_88 (w : Nat) (o0 : Nat) (x1 : Int32) (M : mM) : Option mM := chk 63 (sL (rF o0 10)) (lt (wI M (rF o0 10) (63 : Int32).toNatClampNeg x1) fun M1 => some M1)
set_option maxHeartbeats 4000000 in
set_option maxRecDepth 100000 in
theorem s_X12_readDamp_88 {l : Launch} {G : mG} {sk : List mS} (w : Nat) (o0 : Nat) (h0 : isK o0 22) (x1 : Int32) (M : mM) : Go muX12_readDamp (rm 2) 0 0 l G sk (mFin G sk eV) (f_X12_readDamp_88 w o0 x1 M) 88 [(0, .ref (gB G + o0)), (1, .int x1)] [] M := by
  unfold f_X12_readDamp_88
  refine go_aload_n 0 89 dX12_readDamp_88 rfl rfl ?_
  refine go_getR flX12_83 h0 92 dX12_readDamp_89 rfl ?_
  refine go_bipush 63 94 dX12_readDamp_92 rfl (by decide) ?_
  refine go_iload_n 1 95 dX12_readDamp_94 rfl rfl ?_
  refine go_iast (rk12_10 h0) 96 dX12_readDamp_95 rfl ?_
  refine go_nmM (fun M1 => ?_)
  exact go_vret rfl dX12_readDamp_96
def f_X12_readDamp_2 (w : Nat) : Nat → Nat → Int32 → mM → Option mM
  | 0, _, _, _ => none
  | n + 1, o0, x1, M => (if (M.1 o0 8) = 0 then (if x1 = 0 then (f_X12_readDamp_26 w (f_X12_readDamp_2 w n) o0 x1 M) else chk (M.1 o0 7) (sL (rF o0 4)) ((if (M.1 (rF o0 4) (M.1 o0 7).toNatClampNeg) = 2 then (f_X12_readDamp_26 w (f_X12_readDamp_2 w n) o0 x1 M) else (f_X12_readDamp_88 w o0 x1 M)))) else (f_X12_readDamp_88 w o0 x1 M))
set_option maxHeartbeats 4000000 in
set_option maxRecDepth 100000 in
theorem s_X12_readDamp_2 {l : Launch} {G : mG} {sk : List mS} (w : Nat) : ∀ (n : Nat) (o0 : Nat) (h0 : isK o0 22) (x1 : Int32) (M : mM), Go muX12_readDamp (rm 2) 0 0 l G sk (mFin G sk eV) (f_X12_readDamp_2 w n o0 x1 M) 2 [(0, .ref (gB G + o0)), (1, .int x1)] [] M := by
  intro n
  induction n with
  | zero =>
    intros
    exact go_none
  | succ n ih =>
    intro o0 h0 x1 M
    rw [f_X12_readDamp_2]
    refine go_aload_n 0 3 dX12_readDamp_2 rfl rfl ?_
    refine go_getI flX12_165 (by decide) h0 6 dX12_readDamp_3 rfl ?_
    refine go_if_ne 88 9 dX12_readDamp_6 rfl (by decide) (fun _ => ?_) (fun _ => ?_)
    · exact go_lv [0, 1] rfl (s_X12_readDamp_88 w o0 h0 x1 M)
    · refine go_iload_n 1 10 dX12_readDamp_9 rfl rfl ?_
      refine go_if_eq 26 13 dX12_readDamp_10 rfl (by decide) (fun _ => ?_) (fun _ => ?_)
      · exact go_lv [0, 1] rfl (s_X12_readDamp_26 w (f_X12_readDamp_2 w n) (fun o0 h0 x1 M => ih o0 h0 x1 M) o0 h0 x1 M)
      · refine go_aload_n 0 14 dX12_readDamp_13 rfl rfl ?_
        refine go_getR flX12_24 h0 17 dX12_readDamp_14 rfl ?_
        refine go_aload_n 0 18 dX12_readDamp_17 rfl rfl ?_
        refine go_getI flX12_162 (by decide) h0 21 dX12_readDamp_18 rfl ?_
        refine go_iald (rk12_4 h0) 22 dX12_readDamp_21 rfl ?_
        refine go_iconst 2 23 dX12_readDamp_22 rfl (by decide) ?_
        refine go_icmp_ne 88 26 dX12_readDamp_23 rfl (by decide) (fun _ => ?_) (fun _ => ?_)
        · exact go_lv [0, 1] rfl (s_X12_readDamp_88 w o0 h0 x1 M)
        · exact go_lv [0, 1] rfl (s_X12_readDamp_26 w (f_X12_readDamp_2 w n) (fun o0 h0 x1 M => ih o0 h0 x1 M) o0 h0 x1 M)
def f_X12_readDamp (w : Nat) (o0 : Nat) (M : mM) : Option mM := (f_X12_readDamp_2 w w o0 0 M)
set_option maxHeartbeats 4000000 in
set_option maxRecDepth 100000 in
theorem s_X12_readDamp {l : Launch} {G : mG} {sk : List mS} (w : Nat) (o0 : Nat) (h0 : isK o0 22) (M : mM) : Go muX12_readDamp (rm 2) 0 0 l G sk (mFin G sk eV) (f_X12_readDamp w o0 M) 0 [(0, .ref (gB G + o0))] [] M := by
  unfold f_X12_readDamp
  refine go_iconst 0 1 dX12_readDamp_0 rfl (by decide) ?_
  refine go_istore_n [(1, .int 0), (0, .ref (gB G + o0))] 2 dX12_readDamp_1 rfl rfl (by decide) rfl ?_
  exact go_lv [1, 0] rfl (s_X12_readDamp_2 w w o0 h0 0 M)
theorem m_X12_readDamp {l : Launch} {G : mG} {sk : List mS} (w : Nat) (o0 : Nat) (h0 : isK o0 22) (M : mM) : Mt l G sk yX12_readDamp muX12_readDamp 2 [.ref (gB G + o0)] M eV (f_X12_readDamp w o0 M) := Mt.of (by decide) rfl (Nat.le_of_ble_eq_true rfl) (s_X12_readDamp w o0 h0 M)
theorem dX12_emit_0 : decode cX12_emit 0 = .ok (.aload_n 0, 1) := by decide +kernel
theorem dX12_emit_1 : decode cX12_emit 1 = .ok (.getfield 86, 3) := by decide +kernel
theorem dX12_emit_4 : decode cX12_emit 4 = .ok (.sipush 1100, 3) := by decide +kernel
theorem dX12_emit_7 : decode cX12_emit 7 = .ok (.aload_n 0, 1) := by decide +kernel
theorem dX12_emit_8 : decode cX12_emit 8 = .ok (.getfield 211, 3) := by decide +kernel
theorem dX12_emit_11 : decode cX12_emit 11 = .ok (.iadd, 1) := by decide +kernel
theorem dX12_emit_12 : decode cX12_emit 12 = .ok (.iload_n 1, 1) := by decide +kernel
theorem dX12_emit_13 : decode cX12_emit 13 = .ok (.iastore, 1) := by decide +kernel
theorem dX12_emit_14 : decode cX12_emit 14 = .ok (.aload_n 0, 1) := by decide +kernel
theorem dX12_emit_15 : decode cX12_emit 15 = .ok (.getfield 89, 3) := by decide +kernel
theorem dX12_emit_18 : decode cX12_emit 18 = .ok (.sipush 1100, 3) := by decide +kernel
theorem dX12_emit_21 : decode cX12_emit 21 = .ok (.aload_n 0, 1) := by decide +kernel
theorem dX12_emit_22 : decode cX12_emit 22 = .ok (.getfield 211, 3) := by decide +kernel
theorem dX12_emit_25 : decode cX12_emit 25 = .ok (.iadd, 1) := by decide +kernel
theorem dX12_emit_26 : decode cX12_emit 26 = .ok (.iload_n 2, 1) := by decide +kernel
theorem dX12_emit_27 : decode cX12_emit 27 = .ok (.iastore, 1) := by decide +kernel
theorem dX12_emit_28 : decode cX12_emit 28 = .ok (.aload_n 0, 1) := by decide +kernel
theorem dX12_emit_29 : decode cX12_emit 29 = .ok (.dup, 1) := by decide +kernel
theorem dX12_emit_30 : decode cX12_emit 30 = .ok (.getfield 211, 3) := by decide +kernel
theorem dX12_emit_33 : decode cX12_emit 33 = .ok (.iconst 1, 1) := by decide +kernel
theorem dX12_emit_34 : decode cX12_emit 34 = .ok (.iadd, 1) := by decide +kernel
theorem dX12_emit_35 : decode cX12_emit 35 = .ok (.putfield 211, 3) := by decide +kernel
theorem dX12_emit_38 : decode cX12_emit 38 = .ok (.return_, 1) := by decide +kernel
def f_X12_emit (w : Nat) (o0 : Nat) (x1 : Int32) (x2 : Int32) (M : mM) : Option mM := chk (1100 + (M.1 o0 13)) (sL (rF o0 11)) (lt (wI M (rF o0 11) (1100 + (M.1 o0 13)).toNatClampNeg x1) fun M1 => chk (1100 + (M1.1 o0 13)) (sL (rF o0 12)) (lt (wI M1 (rF o0 12) (1100 + (M1.1 o0 13)).toNatClampNeg x2) fun M2 => lt (wI M2 o0 13 ((M2.1 o0 13) + 1)) fun M3 => some M3))
set_option maxHeartbeats 4000000 in
set_option maxRecDepth 100000 in
theorem s_X12_emit {l : Launch} {G : mG} {sk : List mS} (w : Nat) (o0 : Nat) (h0 : isK o0 22) (x1 : Int32) (x2 : Int32) (M : mM) : Go muX12_emit (rm 0) 0 0 l G sk (mFin G sk eV) (f_X12_emit w o0 x1 x2 M) 0 [(0, .ref (gB G + o0)), (1, .int x1), (2, .int x2)] [] M := by
  unfold f_X12_emit
  refine go_aload_n 0 1 dX12_emit_0 rfl rfl ?_
  refine go_getR flX12_86 h0 4 dX12_emit_1 rfl ?_
  refine go_sipush 1100 7 dX12_emit_4 rfl (by decide) ?_
  refine go_aload_n 0 8 dX12_emit_7 rfl rfl ?_
  refine go_getI flX12_211 (by decide) h0 11 dX12_emit_8 rfl ?_
  refine go_iadd 12 dX12_emit_11 rfl ?_
  refine go_iload_n 1 13 dX12_emit_12 rfl rfl ?_
  refine go_iast (rk12_11 h0) 14 dX12_emit_13 rfl ?_
  refine go_nmM (fun M1 => ?_)
  refine go_aload_n 0 15 dX12_emit_14 rfl rfl ?_
  refine go_getR flX12_89 h0 18 dX12_emit_15 rfl ?_
  refine go_sipush 1100 21 dX12_emit_18 rfl (by decide) ?_
  refine go_aload_n 0 22 dX12_emit_21 rfl rfl ?_
  refine go_getI flX12_211 (by decide) h0 25 dX12_emit_22 rfl ?_
  refine go_iadd 26 dX12_emit_25 rfl ?_
  refine go_iload_n 2 27 dX12_emit_26 rfl rfl ?_
  refine go_iast (rk12_12 h0) 28 dX12_emit_27 rfl ?_
  refine go_nmM (fun M2 => ?_)
  refine go_aload_n 0 29 dX12_emit_28 rfl rfl ?_
  refine go_dup 30 dX12_emit_29 rfl rfl ?_
  refine go_getI flX12_211 (by decide) h0 33 dX12_emit_30 rfl ?_
  refine go_iconst 1 34 dX12_emit_33 rfl (by decide) ?_
  refine go_iadd 35 dX12_emit_34 rfl ?_
  refine go_putI flX12_211 rfl rfl h0 38 dX12_emit_35 rfl ?_
  refine go_nmM (fun M3 => ?_)
  exact go_vret rfl dX12_emit_38
theorem m_X12_emit {l : Launch} {G : mG} {sk : List mS} (w : Nat) (o0 : Nat) (h0 : isK o0 22) (x1 : Int32) (x2 : Int32) (M : mM) : Mt l G sk yX12_emit muX12_emit 0 [.ref (gB G + o0), .int x1, .int x2] M eV (f_X12_emit w o0 x1 x2 M) := Mt.of (by decide) rfl (Nat.le_of_ble_eq_true rfl) (s_X12_emit w o0 h0 x1 x2 M)
theorem dX12_whole_0 : decode cX12_whole 0 = .ok (.aload_n 0, 1) := by decide +kernel
theorem dX12_whole_1 : decode cX12_whole 1 = .ok (.iload_n 1, 1) := by decide +kernel
theorem dX12_whole_2 : decode cX12_whole 2 = .ok (.invokevirtual 254, 3) := by decide +kernel
theorem dX12_whole_5 : decode cX12_whole 5 = .ok (.aload_n 0, 1) := by decide +kernel
theorem dX12_whole_6 : decode cX12_whole 6 = .ok (.bipush 17, 2) := by decide +kernel
theorem dX12_whole_8 : decode cX12_whole 8 = .ok (.invokevirtual 174, 3) := by decide +kernel
theorem dX12_whole_11 : decode cX12_whole 11 = .ok (.ifCond .ne 12, 3) := by decide +kernel
theorem dX12_whole_14 : decode cX12_whole 14 = .ok (.aload_n 0, 1) := by decide +kernel
theorem dX12_whole_15 : decode cX12_whole 15 = .ok (.bipush 18, 2) := by decide +kernel
theorem dX12_whole_17 : decode cX12_whole 17 = .ok (.invokevirtual 174, 3) := by decide +kernel
theorem dX12_whole_20 : decode cX12_whole 20 = .ok (.ifCond .eq 44, 3) := by decide +kernel
theorem dX12_whole_23 : decode cX12_whole 23 = .ok (.aload_n 0, 1) := by decide +kernel
theorem dX12_whole_24 : decode cX12_whole 24 = .ok (.bipush 17, 2) := by decide +kernel
theorem dX12_whole_26 : decode cX12_whole 26 = .ok (.invokevirtual 174, 3) := by decide +kernel
theorem dX12_whole_29 : decode cX12_whole 29 = .ok (.istore_n 2, 1) := by decide +kernel
theorem dX12_whole_30 : decode cX12_whole 30 = .ok (.aload_n 0, 1) := by decide +kernel
theorem dX12_whole_31 : decode cX12_whole 31 = .ok (.dup, 1) := by decide +kernel
theorem dX12_whole_32 : decode cX12_whole 32 = .ok (.getfield 162, 3) := by decide +kernel
theorem dX12_whole_35 : decode cX12_whole 35 = .ok (.iconst 1, 1) := by decide +kernel
theorem dX12_whole_36 : decode cX12_whole 36 = .ok (.iadd, 1) := by decide +kernel
theorem dX12_whole_37 : decode cX12_whole 37 = .ok (.putfield 162, 3) := by decide +kernel
theorem dX12_whole_40 : decode cX12_whole 40 = .ok (.aload_n 0, 1) := by decide +kernel
theorem dX12_whole_41 : decode cX12_whole 41 = .ok (.iload_n 1, 1) := by decide +kernel
theorem dX12_whole_42 : decode cX12_whole 42 = .ok (.invokevirtual 254, 3) := by decide +kernel
theorem dX12_whole_45 : decode cX12_whole 45 = .ok (.aload_n 0, 1) := by decide +kernel
theorem dX12_whole_46 : decode cX12_whole 46 = .ok (.iload_n 2, 1) := by decide +kernel
theorem dX12_whole_47 : decode cX12_whole 47 = .ok (.ifCond .eq 8, 3) := by decide +kernel
theorem dX12_whole_50 : decode cX12_whole 50 = .ok (.bipush 9, 2) := by decide +kernel
theorem dX12_whole_52 : decode cX12_whole 52 = .ok (.goto 5, 3) := by decide +kernel
theorem dX12_whole_55 : decode cX12_whole 55 = .ok (.bipush 10, 2) := by decide +kernel
theorem dX12_whole_57 : decode cX12_whole 57 = .ok (.iconst 0, 1) := by decide +kernel
theorem dX12_whole_58 : decode cX12_whole 58 = .ok (.invokevirtual 250, 3) := by decide +kernel
theorem dX12_whole_61 : decode cX12_whole 61 = .ok (.goto (-56), 3) := by decide +kernel
theorem dX12_whole_64 : decode cX12_whole 64 = .ok (.return_, 1) := by decide +kernel
theorem dX12_test_0 : decode cX12_test 0 = .ok (.aload_n 0, 1) := by decide +kernel
theorem dX12_test_1 : decode cX12_test 1 = .ok (.iload_n 1, 1) := by decide +kernel
theorem dX12_test_2 : decode cX12_test 2 = .ok (.invokevirtual 257, 3) := by decide +kernel
theorem dX12_test_5 : decode cX12_test 5 = .ok (.aload_n 0, 1) := by decide +kernel
theorem dX12_test_6 : decode cX12_test 6 = .ok (.bipush 60, 2) := by decide +kernel
theorem dX12_test_8 : decode cX12_test 8 = .ok (.invokevirtual 168, 3) := by decide +kernel
theorem dX12_test_11 : decode cX12_test 11 = .ok (.istore_n 2, 1) := by decide +kernel
theorem dX12_test_12 : decode cX12_test 12 = .ok (.aload_n 0, 1) := by decide +kernel
theorem dX12_test_13 : decode cX12_test 13 = .ok (.bipush 60, 2) := by decide +kernel
theorem dX12_test_15 : decode cX12_test 15 = .ok (.invokevirtual 260, 3) := by decide +kernel
theorem dX12_test_18 : decode cX12_test 18 = .ok (.ifCond .ne 12, 3) := by decide +kernel
theorem dX12_test_21 : decode cX12_test 21 = .ok (.aload_n 0, 1) := by decide +kernel
theorem dX12_test_22 : decode cX12_test 22 = .ok (.bipush 61, 2) := by decide +kernel
theorem dX12_test_24 : decode cX12_test 24 = .ok (.invokevirtual 260, 3) := by decide +kernel
theorem dX12_test_27 : decode cX12_test 27 = .ok (.ifCond .eq 24, 3) := by decide +kernel
theorem dX12_test_30 : decode cX12_test 30 = .ok (.aload_n 0, 1) := by decide +kernel
theorem dX12_test_31 : decode cX12_test 31 = .ok (.iload_n 1, 1) := by decide +kernel
theorem dX12_test_32 : decode cX12_test 32 = .ok (.invokevirtual 257, 3) := by decide +kernel
theorem dX12_test_35 : decode cX12_test 35 = .ok (.aload_n 0, 1) := by decide +kernel
theorem dX12_test_36 : decode cX12_test 36 = .ok (.iload_n 2, 1) := by decide +kernel
theorem dX12_test_37 : decode cX12_test 37 = .ok (.ifCond .eq 8, 3) := by decide +kernel
theorem dX12_test_40 : decode cX12_test 40 = .ok (.bipush 7, 2) := by decide +kernel
theorem dX12_test_42 : decode cX12_test 42 = .ok (.goto 5, 3) := by decide +kernel
theorem dX12_test_45 : decode cX12_test 45 = .ok (.bipush 8, 2) := by decide +kernel
theorem dX12_test_47 : decode cX12_test 47 = .ok (.iconst 0, 1) := by decide +kernel
theorem dX12_test_48 : decode cX12_test 48 = .ok (.invokevirtual 250, 3) := by decide +kernel
theorem dX12_test_51 : decode cX12_test 51 = .ok (.return_, 1) := by decide +kernel
theorem dX12_sums_0 : decode cX12_sums 0 = .ok (.aload_n 0, 1) := by decide +kernel
theorem dX12_sums_1 : decode cX12_sums 1 = .ok (.iload_n 1, 1) := by decide +kernel
theorem dX12_sums_2 : decode cX12_sums 2 = .ok (.invokevirtual 263, 3) := by decide +kernel
theorem dX12_sums_5 : decode cX12_sums 5 = .ok (.aload_n 0, 1) := by decide +kernel
theorem dX12_sums_6 : decode cX12_sums 6 = .ok (.bipush 43, 2) := by decide +kernel
theorem dX12_sums_8 : decode cX12_sums 8 = .ok (.invokevirtual 168, 3) := by decide +kernel
theorem dX12_sums_11 : decode cX12_sums 11 = .ok (.ifCond .ne 12, 3) := by decide +kernel
theorem dX12_sums_14 : decode cX12_sums 14 = .ok (.aload_n 0, 1) := by decide +kernel
theorem dX12_sums_15 : decode cX12_sums 15 = .ok (.bipush 45, 2) := by decide +kernel
theorem dX12_sums_17 : decode cX12_sums 17 = .ok (.invokevirtual 168, 3) := by decide +kernel
theorem dX12_sums_20 : decode cX12_sums 20 = .ok (.ifCond .eq 42, 3) := by decide +kernel
theorem dX12_sums_23 : decode cX12_sums 23 = .ok (.aload_n 0, 1) := by decide +kernel
theorem dX12_sums_24 : decode cX12_sums 24 = .ok (.bipush 43, 2) := by decide +kernel
theorem dX12_sums_26 : decode cX12_sums 26 = .ok (.invokevirtual 168, 3) := by decide +kernel
theorem dX12_sums_29 : decode cX12_sums 29 = .ok (.istore_n 2, 1) := by decide +kernel
theorem dX12_sums_30 : decode cX12_sums 30 = .ok (.aload_n 0, 1) := by decide +kernel
theorem dX12_sums_31 : decode cX12_sums 31 = .ok (.dup, 1) := by decide +kernel
theorem dX12_sums_32 : decode cX12_sums 32 = .ok (.getfield 162, 3) := by decide +kernel
theorem dX12_sums_35 : decode cX12_sums 35 = .ok (.iconst 1, 1) := by decide +kernel
theorem dX12_sums_36 : decode cX12_sums 36 = .ok (.iadd, 1) := by decide +kernel
theorem dX12_sums_37 : decode cX12_sums 37 = .ok (.putfield 162, 3) := by decide +kernel
theorem dX12_sums_40 : decode cX12_sums 40 = .ok (.aload_n 0, 1) := by decide +kernel
theorem dX12_sums_41 : decode cX12_sums 41 = .ok (.iload_n 1, 1) := by decide +kernel
theorem dX12_sums_42 : decode cX12_sums 42 = .ok (.invokevirtual 263, 3) := by decide +kernel
theorem dX12_sums_45 : decode cX12_sums 45 = .ok (.aload_n 0, 1) := by decide +kernel
theorem dX12_sums_46 : decode cX12_sums 46 = .ok (.iload_n 2, 1) := by decide +kernel
theorem dX12_sums_47 : decode cX12_sums 47 = .ok (.ifCond .eq 7, 3) := by decide +kernel
theorem dX12_sums_50 : decode cX12_sums 50 = .ok (.iconst 4, 1) := by decide +kernel
theorem dX12_sums_51 : decode cX12_sums 51 = .ok (.goto 4, 3) := by decide +kernel
theorem dX12_sums_54 : decode cX12_sums 54 = .ok (.iconst 5, 1) := by decide +kernel
theorem dX12_sums_55 : decode cX12_sums 55 = .ok (.iconst 0, 1) := by decide +kernel
theorem dX12_sums_56 : decode cX12_sums 56 = .ok (.invokevirtual 250, 3) := by decide +kernel
theorem dX12_sums_59 : decode cX12_sums 59 = .ok (.goto (-54), 3) := by decide +kernel
theorem dX12_sums_62 : decode cX12_sums 62 = .ok (.return_, 1) := by decide +kernel
theorem dX12_products_0 : decode cX12_products 0 = .ok (.aload_n 0, 1) := by decide +kernel
theorem dX12_products_1 : decode cX12_products 1 = .ok (.iload_n 1, 1) := by decide +kernel
theorem dX12_products_2 : decode cX12_products 2 = .ok (.invokevirtual 266, 3) := by decide +kernel
theorem dX12_products_5 : decode cX12_products 5 = .ok (.aload_n 0, 1) := by decide +kernel
theorem dX12_products_6 : decode cX12_products 6 = .ok (.bipush 42, 2) := by decide +kernel
theorem dX12_products_8 : decode cX12_products 8 = .ok (.invokevirtual 260, 3) := by decide +kernel
theorem dX12_products_11 : decode cX12_products 11 = .ok (.ifCond .eq 18, 3) := by decide +kernel
theorem dX12_products_14 : decode cX12_products 14 = .ok (.aload_n 0, 1) := by decide +kernel
theorem dX12_products_15 : decode cX12_products 15 = .ok (.iload_n 1, 1) := by decide +kernel
theorem dX12_products_16 : decode cX12_products 16 = .ok (.invokevirtual 266, 3) := by decide +kernel
theorem dX12_products_19 : decode cX12_products 19 = .ok (.aload_n 0, 1) := by decide +kernel
theorem dX12_products_20 : decode cX12_products 20 = .ok (.bipush 6, 2) := by decide +kernel
theorem dX12_products_22 : decode cX12_products 22 = .ok (.iconst 0, 1) := by decide +kernel
theorem dX12_products_23 : decode cX12_products 23 = .ok (.invokevirtual 250, 3) := by decide +kernel
theorem dX12_products_26 : decode cX12_products 26 = .ok (.goto (-21), 3) := by decide +kernel
theorem dX12_products_29 : decode cX12_products 29 = .ok (.return_, 1) := by decide +kernel
theorem dX12_takePart_0 : decode cX12_takePart 0 = .ok (.aload_n 0, 1) := by decide +kernel
theorem dX12_takePart_1 : decode cX12_takePart 1 = .ok (.getfield 165, 3) := by decide +kernel
theorem dX12_takePart_4 : decode cX12_takePart 4 = .ok (.ifCond .le 4, 3) := by decide +kernel
theorem dX12_takePart_7 : decode cX12_takePart 7 = .ok (.return_, 1) := by decide +kernel
theorem dX12_takePart_8 : decode cX12_takePart 8 = .ok (.aload_n 0, 1) := by decide +kernel
theorem dX12_takePart_9 : decode cX12_takePart 9 = .ok (.getfield 24, 3) := by decide +kernel
theorem dX12_takePart_12 : decode cX12_takePart 12 = .ok (.aload_n 0, 1) := by decide +kernel
theorem dX12_takePart_13 : decode cX12_takePart 13 = .ok (.getfield 162, 3) := by decide +kernel
theorem dX12_takePart_16 : decode cX12_takePart 16 = .ok (.iaload, 1) := by decide +kernel
theorem dX12_takePart_17 : decode cX12_takePart 17 = .ok (.iconst 2, 1) := by decide +kernel
theorem dX12_takePart_18 : decode cX12_takePart 18 = .ok (.if_icmp .ne 7, 3) := by decide +kernel
theorem dX12_takePart_21 : decode cX12_takePart 21 = .ok (.iconst 1, 1) := by decide +kernel
theorem dX12_takePart_22 : decode cX12_takePart 22 = .ok (.goto 4, 3) := by decide +kernel
theorem dX12_takePart_25 : decode cX12_takePart 25 = .ok (.iconst 0, 1) := by decide +kernel
theorem dX12_takePart_26 : decode cX12_takePart 26 = .ok (.istore_n 2, 1) := by decide +kernel
theorem dX12_takePart_27 : decode cX12_takePart 27 = .ok (.aload_n 0, 1) := by decide +kernel
theorem dX12_takePart_28 : decode cX12_takePart 28 = .ok (.bipush 19, 2) := by decide +kernel
theorem dX12_takePart_30 : decode cX12_takePart 30 = .ok (.iconst 4, 1) := by decide +kernel
theorem dX12_takePart_31 : decode cX12_takePart 31 = .ok (.invokevirtual 187, 3) := by decide +kernel
theorem dX12_takePart_34 : decode cX12_takePart 34 = .ok (.istore_n 3, 1) := by decide +kernel
theorem dX12_takePart_35 : decode cX12_takePart 35 = .ok (.iload_n 3, 1) := by decide +kernel
theorem dX12_takePart_36 : decode cX12_takePart 36 = .ok (.ifCond .ge 33, 3) := by decide +kernel
theorem dX12_takePart_39 : decode cX12_takePart 39 = .ok (.iload_n 2, 1) := by decide +kernel
theorem dX12_takePart_40 : decode cX12_takePart 40 = .ok (.ifCond .ne 29, 3) := by decide +kernel
theorem dX12_takePart_43 : decode cX12_takePart 43 = .ok (.aload_n 0, 1) := by decide +kernel
theorem dX12_takePart_44 : decode cX12_takePart 44 = .ok (.bipush 40, 2) := by decide +kernel
theorem dX12_takePart_46 : decode cX12_takePart 46 = .ok (.invokevirtual 168, 3) := by decide +kernel
theorem dX12_takePart_49 : decode cX12_takePart 49 = .ok (.ifCond .ne 20, 3) := by decide +kernel
theorem dX12_takePart_52 : decode cX12_takePart 52 = .ok (.aload_n 0, 1) := by decide +kernel
theorem dX12_takePart_53 : decode cX12_takePart 53 = .ok (.bipush 16, 2) := by decide +kernel
theorem dX12_takePart_55 : decode cX12_takePart 55 = .ok (.invokevirtual 174, 3) := by decide +kernel
theorem dX12_takePart_58 : decode cX12_takePart 58 = .ok (.ifCond .ne 11, 3) := by decide +kernel
theorem dX12_takePart_61 : decode cX12_takePart 61 = .ok (.aload_n 0, 1) := by decide +kernel
theorem dX12_takePart_62 : decode cX12_takePart 62 = .ok (.iconst 1, 1) := by decide +kernel
theorem dX12_takePart_63 : decode cX12_takePart 63 = .ok (.invokevirtual 171, 3) := by decide +kernel
theorem dX12_takePart_66 : decode cX12_takePart 66 = .ok (.goto 13, 3) := by decide +kernel
theorem dX12_takePart_69 : decode cX12_takePart 69 = .ok (.iload_n 1, 1) := by decide +kernel
theorem dX12_takePart_70 : decode cX12_takePart 70 = .ok (.iconst 5, 1) := by decide +kernel
theorem dX12_takePart_71 : decode cX12_takePart 71 = .ok (.if_icmp .ne 8, 3) := by decide +kernel
theorem dX12_takePart_74 : decode cX12_takePart 74 = .ok (.aload_n 0, 1) := by decide +kernel
theorem dX12_takePart_75 : decode cX12_takePart 75 = .ok (.iconst 5, 1) := by decide +kernel
theorem dX12_takePart_76 : decode cX12_takePart 76 = .ok (.invokevirtual 171, 3) := by decide +kernel
theorem dX12_takePart_79 : decode cX12_takePart 79 = .ok (.aload_n 0, 1) := by decide +kernel
theorem dX12_takePart_80 : decode cX12_takePart 80 = .ok (.getfield 165, 3) := by decide +kernel
theorem dX12_takePart_83 : decode cX12_takePart 83 = .ok (.ifCond .le 4, 3) := by decide +kernel
theorem dX12_takePart_86 : decode cX12_takePart 86 = .ok (.return_, 1) := by decide +kernel
theorem dX12_takePart_87 : decode cX12_takePart 87 = .ok (.aload_n 0, 1) := by decide +kernel
theorem dX12_takePart_88 : decode cX12_takePart 88 = .ok (.bipush 16, 2) := by decide +kernel
theorem dX12_takePart_90 : decode cX12_takePart 90 = .ok (.invokevirtual 177, 3) := by decide +kernel
theorem dX12_takePart_93 : decode cX12_takePart 93 = .ok (.ifCond .eq 19, 3) := by decide +kernel
theorem dX12_takePart_96 : decode cX12_takePart 96 = .ok (.aload_n 0, 1) := by decide +kernel
theorem dX12_takePart_97 : decode cX12_takePart 97 = .ok (.iload_n 1, 1) := by decide +kernel
theorem dX12_takePart_98 : decode cX12_takePart 98 = .ok (.iconst 1, 1) := by decide +kernel
theorem dX12_takePart_99 : decode cX12_takePart 99 = .ok (.iadd, 1) := by decide +kernel
theorem dX12_takePart_100 : decode cX12_takePart 100 = .ok (.invokevirtual 266, 3) := by decide +kernel
theorem dX12_takePart_103 : decode cX12_takePart 103 = .ok (.aload_n 0, 1) := by decide +kernel
theorem dX12_takePart_104 : decode cX12_takePart 104 = .ok (.iconst 3, 1) := by decide +kernel
theorem dX12_takePart_105 : decode cX12_takePart 105 = .ok (.iconst 0, 1) := by decide +kernel
theorem dX12_takePart_106 : decode cX12_takePart 106 = .ok (.invokevirtual 250, 3) := by decide +kernel
theorem dX12_takePart_109 : decode cX12_takePart 109 = .ok (.goto 69, 3) := by decide +kernel
theorem dX12_takePart_112 : decode cX12_takePart 112 = .ok (.aload_n 0, 1) := by decide +kernel
theorem dX12_takePart_113 : decode cX12_takePart 113 = .ok (.bipush 40, 2) := by decide +kernel
theorem dX12_takePart_115 : decode cX12_takePart 115 = .ok (.invokevirtual 260, 3) := by decide +kernel
theorem dX12_takePart_118 : decode cX12_takePart 118 = .ok (.ifCond .eq 19, 3) := by decide +kernel
theorem dX12_takePart_121 : decode cX12_takePart 121 = .ok (.aload_n 0, 1) := by decide +kernel
theorem dX12_takePart_122 : decode cX12_takePart 122 = .ok (.iload_n 1, 1) := by decide +kernel
theorem dX12_takePart_123 : decode cX12_takePart 123 = .ok (.iconst 1, 1) := by decide +kernel
theorem dX12_takePart_124 : decode cX12_takePart 124 = .ok (.iadd, 1) := by decide +kernel
theorem dX12_takePart_125 : decode cX12_takePart 125 = .ok (.invokevirtual 247, 3) := by decide +kernel
theorem dX12_takePart_128 : decode cX12_takePart 128 = .ok (.aload_n 0, 1) := by decide +kernel
theorem dX12_takePart_129 : decode cX12_takePart 129 = .ok (.bipush 41, 2) := by decide +kernel
theorem dX12_takePart_131 : decode cX12_takePart 131 = .ok (.invokevirtual 220, 3) := by decide +kernel
theorem dX12_takePart_134 : decode cX12_takePart 134 = .ok (.goto 44, 3) := by decide +kernel
theorem dX12_takePart_137 : decode cX12_takePart 137 = .ok (.aload_n 0, 1) := by decide +kernel
theorem dX12_takePart_138 : decode cX12_takePart 138 = .ok (.iload_n 2, 1) := by decide +kernel
theorem dX12_takePart_139 : decode cX12_takePart 139 = .ok (.ifCond .eq 7, 3) := by decide +kernel
theorem dX12_takePart_142 : decode cX12_takePart 142 = .ok (.iconst 1, 1) := by decide +kernel
theorem dX12_takePart_143 : decode cX12_takePart 143 = .ok (.goto 4, 3) := by decide +kernel
theorem dX12_takePart_146 : decode cX12_takePart 146 = .ok (.iconst 2, 1) := by decide +kernel
theorem dX12_takePart_147 : decode cX12_takePart 147 = .ok (.iload_n 2, 1) := by decide +kernel
theorem dX12_takePart_148 : decode cX12_takePart 148 = .ok (.ifCond .eq 16, 3) := by decide +kernel
theorem dX12_takePart_151 : decode cX12_takePart 151 = .ok (.aload_n 0, 1) := by decide +kernel
theorem dX12_takePart_152 : decode cX12_takePart 152 = .ok (.getfield 30, 3) := by decide +kernel
theorem dX12_takePart_155 : decode cX12_takePart 155 = .ok (.aload_n 0, 1) := by decide +kernel
theorem dX12_takePart_156 : decode cX12_takePart 156 = .ok (.getfield 162, 3) := by decide +kernel
theorem dX12_takePart_159 : decode cX12_takePart 159 = .ok (.laload, 1) := by decide +kernel
theorem dX12_takePart_160 : decode cX12_takePart 160 = .ok (.l2i, 1) := by decide +kernel
theorem dX12_takePart_161 : decode cX12_takePart 161 = .ok (.goto 4, 3) := by decide +kernel
theorem dX12_takePart_164 : decode cX12_takePart 164 = .ok (.iload_n 3, 1) := by decide +kernel
theorem dX12_takePart_165 : decode cX12_takePart 165 = .ok (.invokevirtual 250, 3) := by decide +kernel
theorem dX12_takePart_168 : decode cX12_takePart 168 = .ok (.aload_n 0, 1) := by decide +kernel
theorem dX12_takePart_169 : decode cX12_takePart 169 = .ok (.dup, 1) := by decide +kernel
theorem dX12_takePart_170 : decode cX12_takePart 170 = .ok (.getfield 162, 3) := by decide +kernel
theorem dX12_takePart_173 : decode cX12_takePart 173 = .ok (.iconst 1, 1) := by decide +kernel
theorem dX12_takePart_174 : decode cX12_takePart 174 = .ok (.iadd, 1) := by decide +kernel
theorem dX12_takePart_175 : decode cX12_takePart 175 = .ok (.putfield 162, 3) := by decide +kernel
theorem dX12_takePart_178 : decode cX12_takePart 178 = .ok (.return_, 1) := by decide +kernel
def f_X12_whole_57 (w : Nat) (r0 : Nat → Int32 → mM → Option mM) (r1 : Nat → Int32 → mM → Option mM) (r2 : Nat → Int32 → mM → Option mM) (r3 : Nat → Int32 → mM → Option mM) (r4 : Nat → Int32 → mM → Option mM) (k5 : Nat → Int32 → mM → Option mM) (o0 : Nat) (x1 : Int32) (xs0 : Int32) (os1 : Nat) (M : mM) : Option mM := bV (f_X12_emit w os1 xs0 0 M) fun M1 => (k5 o0 x1 M1)
set_option maxHeartbeats 4000000 in
set_option maxRecDepth 100000 in
theorem s_X12_whole_57 {l : Launch} {G : mG} {sk : List mS} (w : Nat) (d : Nat) (r0 : Nat → Int32 → mM → Option mM) (r1 : Nat → Int32 → mM → Option mM) (r2 : Nat → Int32 → mM → Option mM) (r3 : Nat → Int32 → mM → Option mM) (r4 : Nat → Int32 → mM → Option mM) (hr0 : ∀ (o0 : Nat) (h0 : isK o0 22) (x1 : Int32) (M : mM), Mt l G sk yX12_whole muX12_whole d [.ref (gB G + o0), .int x1] M eV (r0 o0 x1 M)) (hr1 : ∀ (o0 : Nat) (h0 : isK o0 22) (x1 : Int32) (M : mM), Mt l G sk yX12_test muX12_test d [.ref (gB G + o0), .int x1] M eV (r1 o0 x1 M)) (hr2 : ∀ (o0 : Nat) (h0 : isK o0 22) (x1 : Int32) (M : mM), Mt l G sk yX12_sums muX12_sums d [.ref (gB G + o0), .int x1] M eV (r2 o0 x1 M)) (hr3 : ∀ (o0 : Nat) (h0 : isK o0 22) (x1 : Int32) (M : mM), Mt l G sk yX12_products muX12_products d [.ref (gB G + o0), .int x1] M eV (r3 o0 x1 M)) (hr4 : ∀ (o0 : Nat) (h0 : isK o0 22) (x1 : Int32) (M : mM), Mt l G sk yX12_takePart muX12_takePart d [.ref (gB G + o0), .int x1] M eV (r4 o0 x1 M)) (hdd : 2 ≤ d + 1) (k5 : Nat → Int32 → mM → Option mM) (hk5 : ∀ (o0 : Nat) (h0 : isK o0 22) (x1 : Int32) (M : mM), Go muX12_whole (rm (d + 1)) 0 0 l G sk (mFin G sk eV) (k5 o0 x1 M) 5 [(0, .ref (gB G + o0)), (1, .int x1)] [] M) (o0 : Nat) (h0 : isK o0 22) (x1 : Int32) (xs0 : Int32) (os1 : Nat) (hs1 : isK os1 22) (M : mM) : Go muX12_whole (rm (d + 1)) 0 0 l G sk (mFin G sk eV) (f_X12_whole_57 w r0 r1 r2 r3 r4 k5 o0 x1 xs0 os1 M) 57 [(0, .ref (gB G + o0)), (1, .int x1)] [.int xs0, .ref (gB G + os1)] M := by
  unfold f_X12_whole_57
  refine go_iconst 0 58 dX12_whole_57 rfl (by decide) ?_
  refine go_cVV2 0 clX12 cwX12_250 (m_X12_emit w os1 hs1 xs0 0 M) hs1 61 dX12_whole_58 rfl ⟨Nat.le_trans (Nat.le_of_ble_eq_true rfl) hdd, Nat.mul_le_mul_left 64 (Nat.le_trans (Nat.le_of_ble_eq_true rfl) hdd)⟩ ⟨Nat.zero_le _, Nat.zero_le _⟩ (Nat.le_of_ble_eq_true rfl) (fun M1 _ => ?_)
  refine go_goto 5 dX12_whole_61 (by decide) ?_
  exact go_lv [0, 1] rfl (hk5 o0 h0 x1 M1)
def f_X12_whole_23 (w : Nat) (r0 : Nat → Int32 → mM → Option mM) (r1 : Nat → Int32 → mM → Option mM) (r2 : Nat → Int32 → mM → Option mM) (r3 : Nat → Int32 → mM → Option mM) (r4 : Nat → Int32 → mM → Option mM) (k5 : Nat → Int32 → mM → Option mM) (o0 : Nat) (x1 : Int32) (M : mM) : Option mM := bI (f_X12_isWord w o0 17 M) fun q2 M1 => lt (wI M1 o0 7 ((M1.1 o0 7) + 1)) fun M3 => bV (r1 o0 x1 M3) fun M4 => (if q2 = 0 then (f_X12_whole_57 w r0 r1 r2 r3 r4 k5 o0 x1 10 o0 M4) else (f_X12_whole_57 w r0 r1 r2 r3 r4 k5 o0 x1 9 o0 M4))
set_option maxHeartbeats 4000000 in
set_option maxRecDepth 100000 in
theorem s_X12_whole_23 {l : Launch} {G : mG} {sk : List mS} (w : Nat) (d : Nat) (r0 : Nat → Int32 → mM → Option mM) (r1 : Nat → Int32 → mM → Option mM) (r2 : Nat → Int32 → mM → Option mM) (r3 : Nat → Int32 → mM → Option mM) (r4 : Nat → Int32 → mM → Option mM) (hr0 : ∀ (o0 : Nat) (h0 : isK o0 22) (x1 : Int32) (M : mM), Mt l G sk yX12_whole muX12_whole d [.ref (gB G + o0), .int x1] M eV (r0 o0 x1 M)) (hr1 : ∀ (o0 : Nat) (h0 : isK o0 22) (x1 : Int32) (M : mM), Mt l G sk yX12_test muX12_test d [.ref (gB G + o0), .int x1] M eV (r1 o0 x1 M)) (hr2 : ∀ (o0 : Nat) (h0 : isK o0 22) (x1 : Int32) (M : mM), Mt l G sk yX12_sums muX12_sums d [.ref (gB G + o0), .int x1] M eV (r2 o0 x1 M)) (hr3 : ∀ (o0 : Nat) (h0 : isK o0 22) (x1 : Int32) (M : mM), Mt l G sk yX12_products muX12_products d [.ref (gB G + o0), .int x1] M eV (r3 o0 x1 M)) (hr4 : ∀ (o0 : Nat) (h0 : isK o0 22) (x1 : Int32) (M : mM), Mt l G sk yX12_takePart muX12_takePart d [.ref (gB G + o0), .int x1] M eV (r4 o0 x1 M)) (hdd : 2 ≤ d + 1) (k5 : Nat → Int32 → mM → Option mM) (hk5 : ∀ (o0 : Nat) (h0 : isK o0 22) (x1 : Int32) (M : mM), Go muX12_whole (rm (d + 1)) 0 0 l G sk (mFin G sk eV) (k5 o0 x1 M) 5 [(0, .ref (gB G + o0)), (1, .int x1)] [] M) (o0 : Nat) (h0 : isK o0 22) (x1 : Int32) (M : mM) : Go muX12_whole (rm (d + 1)) 0 0 l G sk (mFin G sk eV) (f_X12_whole_23 w r0 r1 r2 r3 r4 k5 o0 x1 M) 23 [(0, .ref (gB G + o0)), (1, .int x1)] [] M := by
  unfold f_X12_whole_23
  refine go_aload_n 0 24 dX12_whole_23 rfl rfl ?_
  refine go_bipush 17 26 dX12_whole_24 rfl (by decide) ?_
  refine go_cVI1 0 clX12 cwX12_174 (m_X12_isWord w o0 h0 17 M) h0 29 dX12_whole_26 rfl ⟨Nat.le_trans (Nat.le_of_ble_eq_true rfl) hdd, Nat.mul_le_mul_left 64 (Nat.le_trans (Nat.le_of_ble_eq_true rfl) hdd)⟩ ⟨Nat.zero_le _, Nat.zero_le _⟩ (Nat.le_of_ble_eq_true rfl) (fun q2 M1 _ => ?_)
  refine go_istore_n [(2, .int q2), (0, .ref (gB G + o0)), (1, .int x1)] 30 dX12_whole_29 rfl rfl (by decide) rfl ?_
  refine go_aload_n 1 31 dX12_whole_30 rfl rfl ?_
  refine go_dup 32 dX12_whole_31 rfl rfl ?_
  refine go_getI flX12_162 (by decide) h0 35 dX12_whole_32 rfl ?_
  refine go_iconst 1 36 dX12_whole_35 rfl (by decide) ?_
  refine go_iadd 37 dX12_whole_36 rfl ?_
  refine go_putI flX12_162 rfl rfl h0 40 dX12_whole_37 rfl ?_
  refine go_nmM (fun M3 => ?_)
  refine go_aload_n 1 41 dX12_whole_40 rfl rfl ?_
  refine go_iload_n 2 42 dX12_whole_41 rfl rfl ?_
  refine go_cVV1 d clX12 cwX12_254 (hr1 o0 h0 x1 M3) h0 45 dX12_whole_42 rfl ⟨Nat.le_refl _, Nat.le_refl _⟩ ⟨Nat.zero_le _, Nat.zero_le _⟩ (Nat.le_of_ble_eq_true rfl) (fun M4 _ => ?_)
  refine go_aload_n 1 46 dX12_whole_45 rfl rfl ?_
  refine go_iload_n 0 47 dX12_whole_46 rfl rfl ?_
  refine go_if_eq 55 50 dX12_whole_47 rfl (by decide) (fun _ => ?_) (fun _ => ?_)
  · refine go_bipush 10 57 dX12_whole_55 rfl (by decide) ?_
    exact go_lv [1, 2] rfl (s_X12_whole_57 w d r0 r1 r2 r3 r4 hr0 hr1 hr2 hr3 hr4 hdd k5 hk5 o0 h0 x1 10 o0 h0 M4)
  · refine go_bipush 9 52 dX12_whole_50 rfl (by decide) ?_
    refine go_goto 57 dX12_whole_52 (by decide) ?_
    exact go_lv [1, 2] rfl (s_X12_whole_57 w d r0 r1 r2 r3 r4 hr0 hr1 hr2 hr3 hr4 hdd k5 hk5 o0 h0 x1 9 o0 h0 M4)
def f_X12_whole_5 (w : Nat) (r0 : Nat → Int32 → mM → Option mM) (r1 : Nat → Int32 → mM → Option mM) (r2 : Nat → Int32 → mM → Option mM) (r3 : Nat → Int32 → mM → Option mM) (r4 : Nat → Int32 → mM → Option mM) : Nat → Nat → Int32 → mM → Option mM
  | 0, _, _, _ => none
  | n + 1, o0, x1, M => bI (f_X12_isWord w o0 17 M) fun q2 M1 => (if q2 = 0 then bI (f_X12_isWord w o0 18 M1) fun q4 M3 => (if q4 = 0 then some M3 else (f_X12_whole_23 w r0 r1 r2 r3 r4 (f_X12_whole_5 w r0 r1 r2 r3 r4 n) o0 x1 M3)) else (f_X12_whole_23 w r0 r1 r2 r3 r4 (f_X12_whole_5 w r0 r1 r2 r3 r4 n) o0 x1 M1))
set_option maxHeartbeats 4000000 in
set_option maxRecDepth 100000 in
theorem s_X12_whole_5 {l : Launch} {G : mG} {sk : List mS} (w : Nat) (d : Nat) (r0 : Nat → Int32 → mM → Option mM) (r1 : Nat → Int32 → mM → Option mM) (r2 : Nat → Int32 → mM → Option mM) (r3 : Nat → Int32 → mM → Option mM) (r4 : Nat → Int32 → mM → Option mM) (hr0 : ∀ (o0 : Nat) (h0 : isK o0 22) (x1 : Int32) (M : mM), Mt l G sk yX12_whole muX12_whole d [.ref (gB G + o0), .int x1] M eV (r0 o0 x1 M)) (hr1 : ∀ (o0 : Nat) (h0 : isK o0 22) (x1 : Int32) (M : mM), Mt l G sk yX12_test muX12_test d [.ref (gB G + o0), .int x1] M eV (r1 o0 x1 M)) (hr2 : ∀ (o0 : Nat) (h0 : isK o0 22) (x1 : Int32) (M : mM), Mt l G sk yX12_sums muX12_sums d [.ref (gB G + o0), .int x1] M eV (r2 o0 x1 M)) (hr3 : ∀ (o0 : Nat) (h0 : isK o0 22) (x1 : Int32) (M : mM), Mt l G sk yX12_products muX12_products d [.ref (gB G + o0), .int x1] M eV (r3 o0 x1 M)) (hr4 : ∀ (o0 : Nat) (h0 : isK o0 22) (x1 : Int32) (M : mM), Mt l G sk yX12_takePart muX12_takePart d [.ref (gB G + o0), .int x1] M eV (r4 o0 x1 M)) (hdd : 2 ≤ d + 1) : ∀ (n : Nat) (o0 : Nat) (h0 : isK o0 22) (x1 : Int32) (M : mM), Go muX12_whole (rm (d + 1)) 0 0 l G sk (mFin G sk eV) (f_X12_whole_5 w r0 r1 r2 r3 r4 n o0 x1 M) 5 [(0, .ref (gB G + o0)), (1, .int x1)] [] M := by
  intro n
  induction n with
  | zero =>
    intros
    exact go_none
  | succ n ih =>
    intro o0 h0 x1 M
    rw [f_X12_whole_5]
    refine go_aload_n 0 6 dX12_whole_5 rfl rfl ?_
    refine go_bipush 17 8 dX12_whole_6 rfl (by decide) ?_
    refine go_cVI1 0 clX12 cwX12_174 (m_X12_isWord w o0 h0 17 M) h0 11 dX12_whole_8 rfl ⟨Nat.le_trans (Nat.le_of_ble_eq_true rfl) hdd, Nat.mul_le_mul_left 64 (Nat.le_trans (Nat.le_of_ble_eq_true rfl) hdd)⟩ ⟨Nat.zero_le _, Nat.zero_le _⟩ (Nat.le_of_ble_eq_true rfl) (fun q2 M1 _ => ?_)
    refine go_if_ne 23 14 dX12_whole_11 rfl (by decide) (fun _ => ?_) (fun _ => ?_)
    · exact go_lv [0, 1] rfl (s_X12_whole_23 w d r0 r1 r2 r3 r4 hr0 hr1 hr2 hr3 hr4 hdd (f_X12_whole_5 w r0 r1 r2 r3 r4 n) (fun o0 h0 x1 M => ih o0 h0 x1 M) o0 h0 x1 M1)
    · refine go_aload_n 0 15 dX12_whole_14 rfl rfl ?_
      refine go_bipush 18 17 dX12_whole_15 rfl (by decide) ?_
      refine go_cVI1 0 clX12 cwX12_174 (m_X12_isWord w o0 h0 18 M1) h0 20 dX12_whole_17 rfl ⟨Nat.le_trans (Nat.le_of_ble_eq_true rfl) hdd, Nat.mul_le_mul_left 64 (Nat.le_trans (Nat.le_of_ble_eq_true rfl) hdd)⟩ ⟨Nat.zero_le _, Nat.zero_le _⟩ (Nat.le_of_ble_eq_true rfl) (fun q4 M3 _ => ?_)
      refine go_if_eq 64 23 dX12_whole_20 rfl (by decide) (fun _ => ?_) (fun _ => ?_)
      · exact go_vret rfl dX12_whole_64
      · exact go_lv [0, 1] rfl (s_X12_whole_23 w d r0 r1 r2 r3 r4 hr0 hr1 hr2 hr3 hr4 hdd (f_X12_whole_5 w r0 r1 r2 r3 r4 n) (fun o0 h0 x1 M => ih o0 h0 x1 M) o0 h0 x1 M3)
def f_X12_whole_b (w : Nat) (r0 : Nat → Int32 → mM → Option mM) (r1 : Nat → Int32 → mM → Option mM) (r2 : Nat → Int32 → mM → Option mM) (r3 : Nat → Int32 → mM → Option mM) (r4 : Nat → Int32 → mM → Option mM) (o0 : Nat) (x1 : Int32) (M : mM) : Option mM := bV (r1 o0 x1 M) fun M1 => (f_X12_whole_5 w r0 r1 r2 r3 r4 w o0 x1 M1)
set_option maxHeartbeats 4000000 in
set_option maxRecDepth 100000 in
theorem s_X12_whole_b {l : Launch} {G : mG} {sk : List mS} (w : Nat) (d : Nat) (r0 : Nat → Int32 → mM → Option mM) (r1 : Nat → Int32 → mM → Option mM) (r2 : Nat → Int32 → mM → Option mM) (r3 : Nat → Int32 → mM → Option mM) (r4 : Nat → Int32 → mM → Option mM) (hr0 : ∀ (o0 : Nat) (h0 : isK o0 22) (x1 : Int32) (M : mM), Mt l G sk yX12_whole muX12_whole d [.ref (gB G + o0), .int x1] M eV (r0 o0 x1 M)) (hr1 : ∀ (o0 : Nat) (h0 : isK o0 22) (x1 : Int32) (M : mM), Mt l G sk yX12_test muX12_test d [.ref (gB G + o0), .int x1] M eV (r1 o0 x1 M)) (hr2 : ∀ (o0 : Nat) (h0 : isK o0 22) (x1 : Int32) (M : mM), Mt l G sk yX12_sums muX12_sums d [.ref (gB G + o0), .int x1] M eV (r2 o0 x1 M)) (hr3 : ∀ (o0 : Nat) (h0 : isK o0 22) (x1 : Int32) (M : mM), Mt l G sk yX12_products muX12_products d [.ref (gB G + o0), .int x1] M eV (r3 o0 x1 M)) (hr4 : ∀ (o0 : Nat) (h0 : isK o0 22) (x1 : Int32) (M : mM), Mt l G sk yX12_takePart muX12_takePart d [.ref (gB G + o0), .int x1] M eV (r4 o0 x1 M)) (hdd : 2 ≤ d + 1) (o0 : Nat) (h0 : isK o0 22) (x1 : Int32) (M : mM) : Go muX12_whole (rm (d + 1)) 0 0 l G sk (mFin G sk eV) (f_X12_whole_b w r0 r1 r2 r3 r4 o0 x1 M) 0 [(0, .ref (gB G + o0)), (1, .int x1)] [] M := by
  unfold f_X12_whole_b
  refine go_aload_n 0 1 dX12_whole_0 rfl rfl ?_
  refine go_iload_n 1 2 dX12_whole_1 rfl rfl ?_
  refine go_cVV1 d clX12 cwX12_254 (hr1 o0 h0 x1 M) h0 5 dX12_whole_2 rfl ⟨Nat.le_refl _, Nat.le_refl _⟩ ⟨Nat.zero_le _, Nat.zero_le _⟩ (Nat.le_of_ble_eq_true rfl) (fun M1 _ => ?_)
  exact go_lv [0, 1] rfl (s_X12_whole_5 w d r0 r1 r2 r3 r4 hr0 hr1 hr2 hr3 hr4 hdd w o0 h0 x1 M1)
def f_X12_test_47 (w : Nat) (r0 : Nat → Int32 → mM → Option mM) (r1 : Nat → Int32 → mM → Option mM) (r2 : Nat → Int32 → mM → Option mM) (r3 : Nat → Int32 → mM → Option mM) (r4 : Nat → Int32 → mM → Option mM) (xs0 : Int32) (os1 : Nat) (M : mM) : Option mM := bV (f_X12_emit w os1 xs0 0 M) fun M1 => some M1
set_option maxHeartbeats 4000000 in
set_option maxRecDepth 100000 in
theorem s_X12_test_47 {l : Launch} {G : mG} {sk : List mS} (w : Nat) (d : Nat) (r0 : Nat → Int32 → mM → Option mM) (r1 : Nat → Int32 → mM → Option mM) (r2 : Nat → Int32 → mM → Option mM) (r3 : Nat → Int32 → mM → Option mM) (r4 : Nat → Int32 → mM → Option mM) (hr0 : ∀ (o0 : Nat) (h0 : isK o0 22) (x1 : Int32) (M : mM), Mt l G sk yX12_whole muX12_whole d [.ref (gB G + o0), .int x1] M eV (r0 o0 x1 M)) (hr1 : ∀ (o0 : Nat) (h0 : isK o0 22) (x1 : Int32) (M : mM), Mt l G sk yX12_test muX12_test d [.ref (gB G + o0), .int x1] M eV (r1 o0 x1 M)) (hr2 : ∀ (o0 : Nat) (h0 : isK o0 22) (x1 : Int32) (M : mM), Mt l G sk yX12_sums muX12_sums d [.ref (gB G + o0), .int x1] M eV (r2 o0 x1 M)) (hr3 : ∀ (o0 : Nat) (h0 : isK o0 22) (x1 : Int32) (M : mM), Mt l G sk yX12_products muX12_products d [.ref (gB G + o0), .int x1] M eV (r3 o0 x1 M)) (hr4 : ∀ (o0 : Nat) (h0 : isK o0 22) (x1 : Int32) (M : mM), Mt l G sk yX12_takePart muX12_takePart d [.ref (gB G + o0), .int x1] M eV (r4 o0 x1 M)) (hdd : 2 ≤ d + 1) (xs0 : Int32) (os1 : Nat) (hs1 : isK os1 22) (M : mM) : Go muX12_test (rm (d + 1)) 0 0 l G sk (mFin G sk eV) (f_X12_test_47 w r0 r1 r2 r3 r4 xs0 os1 M) 47 [] [.int xs0, .ref (gB G + os1)] M := by
  unfold f_X12_test_47
  refine go_iconst 0 48 dX12_test_47 rfl (by decide) ?_
  refine go_cVV2 0 clX12 cwX12_250 (m_X12_emit w os1 hs1 xs0 0 M) hs1 51 dX12_test_48 rfl ⟨Nat.le_trans (Nat.le_of_ble_eq_true rfl) hdd, Nat.mul_le_mul_left 64 (Nat.le_trans (Nat.le_of_ble_eq_true rfl) hdd)⟩ ⟨Nat.zero_le _, Nat.zero_le _⟩ (Nat.le_of_ble_eq_true rfl) (fun M1 _ => ?_)
  exact go_vret rfl dX12_test_51
def f_X12_test_30 (w : Nat) (r0 : Nat → Int32 → mM → Option mM) (r1 : Nat → Int32 → mM → Option mM) (r2 : Nat → Int32 → mM → Option mM) (r3 : Nat → Int32 → mM → Option mM) (r4 : Nat → Int32 → mM → Option mM) (o0 : Nat) (x1 : Int32) (x2 : Int32) (M : mM) : Option mM := bV (r2 o0 x1 M) fun M1 => (if x2 = 0 then (f_X12_test_47 w r0 r1 r2 r3 r4 8 o0 M1) else (f_X12_test_47 w r0 r1 r2 r3 r4 7 o0 M1))
set_option maxHeartbeats 4000000 in
set_option maxRecDepth 100000 in
theorem s_X12_test_30 {l : Launch} {G : mG} {sk : List mS} (w : Nat) (d : Nat) (r0 : Nat → Int32 → mM → Option mM) (r1 : Nat → Int32 → mM → Option mM) (r2 : Nat → Int32 → mM → Option mM) (r3 : Nat → Int32 → mM → Option mM) (r4 : Nat → Int32 → mM → Option mM) (hr0 : ∀ (o0 : Nat) (h0 : isK o0 22) (x1 : Int32) (M : mM), Mt l G sk yX12_whole muX12_whole d [.ref (gB G + o0), .int x1] M eV (r0 o0 x1 M)) (hr1 : ∀ (o0 : Nat) (h0 : isK o0 22) (x1 : Int32) (M : mM), Mt l G sk yX12_test muX12_test d [.ref (gB G + o0), .int x1] M eV (r1 o0 x1 M)) (hr2 : ∀ (o0 : Nat) (h0 : isK o0 22) (x1 : Int32) (M : mM), Mt l G sk yX12_sums muX12_sums d [.ref (gB G + o0), .int x1] M eV (r2 o0 x1 M)) (hr3 : ∀ (o0 : Nat) (h0 : isK o0 22) (x1 : Int32) (M : mM), Mt l G sk yX12_products muX12_products d [.ref (gB G + o0), .int x1] M eV (r3 o0 x1 M)) (hr4 : ∀ (o0 : Nat) (h0 : isK o0 22) (x1 : Int32) (M : mM), Mt l G sk yX12_takePart muX12_takePart d [.ref (gB G + o0), .int x1] M eV (r4 o0 x1 M)) (hdd : 2 ≤ d + 1) (o0 : Nat) (h0 : isK o0 22) (x1 : Int32) (x2 : Int32) (M : mM) : Go muX12_test (rm (d + 1)) 0 0 l G sk (mFin G sk eV) (f_X12_test_30 w r0 r1 r2 r3 r4 o0 x1 x2 M) 30 [(0, .ref (gB G + o0)), (1, .int x1), (2, .int x2)] [] M := by
  unfold f_X12_test_30
  refine go_aload_n 0 31 dX12_test_30 rfl rfl ?_
  refine go_iload_n 1 32 dX12_test_31 rfl rfl ?_
  refine go_cVV1 d clX12 cwX12_257 (hr2 o0 h0 x1 M) h0 35 dX12_test_32 rfl ⟨Nat.le_refl _, Nat.le_refl _⟩ ⟨Nat.zero_le _, Nat.zero_le _⟩ (Nat.le_of_ble_eq_true rfl) (fun M1 _ => ?_)
  refine go_aload_n 0 36 dX12_test_35 rfl rfl ?_
  refine go_iload_n 2 37 dX12_test_36 rfl rfl ?_
  refine go_if_eq 45 40 dX12_test_37 rfl (by decide) (fun _ => ?_) (fun _ => ?_)
  · refine go_bipush 8 47 dX12_test_45 rfl (by decide) ?_
    exact go_lv [] rfl (s_X12_test_47 w d r0 r1 r2 r3 r4 hr0 hr1 hr2 hr3 hr4 hdd 8 o0 h0 M1)
  · refine go_bipush 7 42 dX12_test_40 rfl (by decide) ?_
    refine go_goto 47 dX12_test_42 (by decide) ?_
    exact go_lv [] rfl (s_X12_test_47 w d r0 r1 r2 r3 r4 hr0 hr1 hr2 hr3 hr4 hdd 7 o0 h0 M1)
def f_X12_test_b (w : Nat) (r0 : Nat → Int32 → mM → Option mM) (r1 : Nat → Int32 → mM → Option mM) (r2 : Nat → Int32 → mM → Option mM) (r3 : Nat → Int32 → mM → Option mM) (r4 : Nat → Int32 → mM → Option mM) (o0 : Nat) (x1 : Int32) (M : mM) : Option mM := bV (r2 o0 x1 M) fun M1 => bI (f_X12_isSign w o0 60 M1) fun q3 M2 => bI (f_X12_hasSign w o0 60 M2) fun q5 M4 => (if q5 = 0 then bI (f_X12_hasSign w o0 61 M4) fun q7 M6 => (if q7 = 0 then some M6 else (f_X12_test_30 w r0 r1 r2 r3 r4 o0 x1 q3 M6)) else (f_X12_test_30 w r0 r1 r2 r3 r4 o0 x1 q3 M4))
set_option maxHeartbeats 4000000 in
set_option maxRecDepth 100000 in
theorem s_X12_test_b {l : Launch} {G : mG} {sk : List mS} (w : Nat) (d : Nat) (r0 : Nat → Int32 → mM → Option mM) (r1 : Nat → Int32 → mM → Option mM) (r2 : Nat → Int32 → mM → Option mM) (r3 : Nat → Int32 → mM → Option mM) (r4 : Nat → Int32 → mM → Option mM) (hr0 : ∀ (o0 : Nat) (h0 : isK o0 22) (x1 : Int32) (M : mM), Mt l G sk yX12_whole muX12_whole d [.ref (gB G + o0), .int x1] M eV (r0 o0 x1 M)) (hr1 : ∀ (o0 : Nat) (h0 : isK o0 22) (x1 : Int32) (M : mM), Mt l G sk yX12_test muX12_test d [.ref (gB G + o0), .int x1] M eV (r1 o0 x1 M)) (hr2 : ∀ (o0 : Nat) (h0 : isK o0 22) (x1 : Int32) (M : mM), Mt l G sk yX12_sums muX12_sums d [.ref (gB G + o0), .int x1] M eV (r2 o0 x1 M)) (hr3 : ∀ (o0 : Nat) (h0 : isK o0 22) (x1 : Int32) (M : mM), Mt l G sk yX12_products muX12_products d [.ref (gB G + o0), .int x1] M eV (r3 o0 x1 M)) (hr4 : ∀ (o0 : Nat) (h0 : isK o0 22) (x1 : Int32) (M : mM), Mt l G sk yX12_takePart muX12_takePart d [.ref (gB G + o0), .int x1] M eV (r4 o0 x1 M)) (hdd : 2 ≤ d + 1) (o0 : Nat) (h0 : isK o0 22) (x1 : Int32) (M : mM) : Go muX12_test (rm (d + 1)) 0 0 l G sk (mFin G sk eV) (f_X12_test_b w r0 r1 r2 r3 r4 o0 x1 M) 0 [(0, .ref (gB G + o0)), (1, .int x1)] [] M := by
  unfold f_X12_test_b
  refine go_aload_n 0 1 dX12_test_0 rfl rfl ?_
  refine go_iload_n 1 2 dX12_test_1 rfl rfl ?_
  refine go_cVV1 d clX12 cwX12_257 (hr2 o0 h0 x1 M) h0 5 dX12_test_2 rfl ⟨Nat.le_refl _, Nat.le_refl _⟩ ⟨Nat.zero_le _, Nat.zero_le _⟩ (Nat.le_of_ble_eq_true rfl) (fun M1 _ => ?_)
  refine go_aload_n 0 6 dX12_test_5 rfl rfl ?_
  refine go_bipush 60 8 dX12_test_6 rfl (by decide) ?_
  refine go_cVI1 0 clX12 cwX12_168 (m_X12_isSign w o0 h0 60 M1) h0 11 dX12_test_8 rfl ⟨Nat.le_trans (Nat.le_of_ble_eq_true rfl) hdd, Nat.mul_le_mul_left 64 (Nat.le_trans (Nat.le_of_ble_eq_true rfl) hdd)⟩ ⟨Nat.zero_le _, Nat.zero_le _⟩ (Nat.le_of_ble_eq_true rfl) (fun q3 M2 _ => ?_)
  refine go_istore_n [(2, .int q3), (0, .ref (gB G + o0)), (1, .int x1)] 12 dX12_test_11 rfl rfl (by decide) rfl ?_
  refine go_aload_n 1 13 dX12_test_12 rfl rfl ?_
  refine go_bipush 60 15 dX12_test_13 rfl (by decide) ?_
  refine go_cVI1 1 clX12 cwX12_260 (m_X12_hasSign w o0 h0 60 M2) h0 18 dX12_test_15 rfl ⟨Nat.le_trans (Nat.le_of_ble_eq_true rfl) hdd, Nat.mul_le_mul_left 64 (Nat.le_trans (Nat.le_of_ble_eq_true rfl) hdd)⟩ ⟨Nat.zero_le _, Nat.zero_le _⟩ (Nat.le_of_ble_eq_true rfl) (fun q5 M4 _ => ?_)
  refine go_if_ne 30 21 dX12_test_18 rfl (by decide) (fun _ => ?_) (fun _ => ?_)
  · exact go_lv [1, 2, 0] rfl (s_X12_test_30 w d r0 r1 r2 r3 r4 hr0 hr1 hr2 hr3 hr4 hdd o0 h0 x1 q3 M4)
  · refine go_aload_n 1 22 dX12_test_21 rfl rfl ?_
    refine go_bipush 61 24 dX12_test_22 rfl (by decide) ?_
    refine go_cVI1 1 clX12 cwX12_260 (m_X12_hasSign w o0 h0 61 M4) h0 27 dX12_test_24 rfl ⟨Nat.le_trans (Nat.le_of_ble_eq_true rfl) hdd, Nat.mul_le_mul_left 64 (Nat.le_trans (Nat.le_of_ble_eq_true rfl) hdd)⟩ ⟨Nat.zero_le _, Nat.zero_le _⟩ (Nat.le_of_ble_eq_true rfl) (fun q7 M6 _ => ?_)
    refine go_if_eq 51 30 dX12_test_27 rfl (by decide) (fun _ => ?_) (fun _ => ?_)
    · exact go_vret rfl dX12_test_51
    · exact go_lv [1, 2, 0] rfl (s_X12_test_30 w d r0 r1 r2 r3 r4 hr0 hr1 hr2 hr3 hr4 hdd o0 h0 x1 q3 M6)
def f_X12_sums_55 (w : Nat) (r0 : Nat → Int32 → mM → Option mM) (r1 : Nat → Int32 → mM → Option mM) (r2 : Nat → Int32 → mM → Option mM) (r3 : Nat → Int32 → mM → Option mM) (r4 : Nat → Int32 → mM → Option mM) (k5 : Nat → Int32 → mM → Option mM) (o0 : Nat) (x1 : Int32) (xs0 : Int32) (os1 : Nat) (M : mM) : Option mM := bV (f_X12_emit w os1 xs0 0 M) fun M1 => (k5 o0 x1 M1)
set_option maxHeartbeats 4000000 in
set_option maxRecDepth 100000 in
theorem s_X12_sums_55 {l : Launch} {G : mG} {sk : List mS} (w : Nat) (d : Nat) (r0 : Nat → Int32 → mM → Option mM) (r1 : Nat → Int32 → mM → Option mM) (r2 : Nat → Int32 → mM → Option mM) (r3 : Nat → Int32 → mM → Option mM) (r4 : Nat → Int32 → mM → Option mM) (hr0 : ∀ (o0 : Nat) (h0 : isK o0 22) (x1 : Int32) (M : mM), Mt l G sk yX12_whole muX12_whole d [.ref (gB G + o0), .int x1] M eV (r0 o0 x1 M)) (hr1 : ∀ (o0 : Nat) (h0 : isK o0 22) (x1 : Int32) (M : mM), Mt l G sk yX12_test muX12_test d [.ref (gB G + o0), .int x1] M eV (r1 o0 x1 M)) (hr2 : ∀ (o0 : Nat) (h0 : isK o0 22) (x1 : Int32) (M : mM), Mt l G sk yX12_sums muX12_sums d [.ref (gB G + o0), .int x1] M eV (r2 o0 x1 M)) (hr3 : ∀ (o0 : Nat) (h0 : isK o0 22) (x1 : Int32) (M : mM), Mt l G sk yX12_products muX12_products d [.ref (gB G + o0), .int x1] M eV (r3 o0 x1 M)) (hr4 : ∀ (o0 : Nat) (h0 : isK o0 22) (x1 : Int32) (M : mM), Mt l G sk yX12_takePart muX12_takePart d [.ref (gB G + o0), .int x1] M eV (r4 o0 x1 M)) (hdd : 2 ≤ d + 1) (k5 : Nat → Int32 → mM → Option mM) (hk5 : ∀ (o0 : Nat) (h0 : isK o0 22) (x1 : Int32) (M : mM), Go muX12_sums (rm (d + 1)) 0 0 l G sk (mFin G sk eV) (k5 o0 x1 M) 5 [(0, .ref (gB G + o0)), (1, .int x1)] [] M) (o0 : Nat) (h0 : isK o0 22) (x1 : Int32) (xs0 : Int32) (os1 : Nat) (hs1 : isK os1 22) (M : mM) : Go muX12_sums (rm (d + 1)) 0 0 l G sk (mFin G sk eV) (f_X12_sums_55 w r0 r1 r2 r3 r4 k5 o0 x1 xs0 os1 M) 55 [(0, .ref (gB G + o0)), (1, .int x1)] [.int xs0, .ref (gB G + os1)] M := by
  unfold f_X12_sums_55
  refine go_iconst 0 56 dX12_sums_55 rfl (by decide) ?_
  refine go_cVV2 0 clX12 cwX12_250 (m_X12_emit w os1 hs1 xs0 0 M) hs1 59 dX12_sums_56 rfl ⟨Nat.le_trans (Nat.le_of_ble_eq_true rfl) hdd, Nat.mul_le_mul_left 64 (Nat.le_trans (Nat.le_of_ble_eq_true rfl) hdd)⟩ ⟨Nat.zero_le _, Nat.zero_le _⟩ (Nat.le_of_ble_eq_true rfl) (fun M1 _ => ?_)
  refine go_goto 5 dX12_sums_59 (by decide) ?_
  exact go_lv [0, 1] rfl (hk5 o0 h0 x1 M1)
def f_X12_sums_23 (w : Nat) (r0 : Nat → Int32 → mM → Option mM) (r1 : Nat → Int32 → mM → Option mM) (r2 : Nat → Int32 → mM → Option mM) (r3 : Nat → Int32 → mM → Option mM) (r4 : Nat → Int32 → mM → Option mM) (k5 : Nat → Int32 → mM → Option mM) (o0 : Nat) (x1 : Int32) (M : mM) : Option mM := bI (f_X12_isSign w o0 43 M) fun q2 M1 => lt (wI M1 o0 7 ((M1.1 o0 7) + 1)) fun M3 => bV (r3 o0 x1 M3) fun M4 => (if q2 = 0 then (f_X12_sums_55 w r0 r1 r2 r3 r4 k5 o0 x1 5 o0 M4) else (f_X12_sums_55 w r0 r1 r2 r3 r4 k5 o0 x1 4 o0 M4))
set_option maxHeartbeats 4000000 in
set_option maxRecDepth 100000 in
theorem s_X12_sums_23 {l : Launch} {G : mG} {sk : List mS} (w : Nat) (d : Nat) (r0 : Nat → Int32 → mM → Option mM) (r1 : Nat → Int32 → mM → Option mM) (r2 : Nat → Int32 → mM → Option mM) (r3 : Nat → Int32 → mM → Option mM) (r4 : Nat → Int32 → mM → Option mM) (hr0 : ∀ (o0 : Nat) (h0 : isK o0 22) (x1 : Int32) (M : mM), Mt l G sk yX12_whole muX12_whole d [.ref (gB G + o0), .int x1] M eV (r0 o0 x1 M)) (hr1 : ∀ (o0 : Nat) (h0 : isK o0 22) (x1 : Int32) (M : mM), Mt l G sk yX12_test muX12_test d [.ref (gB G + o0), .int x1] M eV (r1 o0 x1 M)) (hr2 : ∀ (o0 : Nat) (h0 : isK o0 22) (x1 : Int32) (M : mM), Mt l G sk yX12_sums muX12_sums d [.ref (gB G + o0), .int x1] M eV (r2 o0 x1 M)) (hr3 : ∀ (o0 : Nat) (h0 : isK o0 22) (x1 : Int32) (M : mM), Mt l G sk yX12_products muX12_products d [.ref (gB G + o0), .int x1] M eV (r3 o0 x1 M)) (hr4 : ∀ (o0 : Nat) (h0 : isK o0 22) (x1 : Int32) (M : mM), Mt l G sk yX12_takePart muX12_takePart d [.ref (gB G + o0), .int x1] M eV (r4 o0 x1 M)) (hdd : 2 ≤ d + 1) (k5 : Nat → Int32 → mM → Option mM) (hk5 : ∀ (o0 : Nat) (h0 : isK o0 22) (x1 : Int32) (M : mM), Go muX12_sums (rm (d + 1)) 0 0 l G sk (mFin G sk eV) (k5 o0 x1 M) 5 [(0, .ref (gB G + o0)), (1, .int x1)] [] M) (o0 : Nat) (h0 : isK o0 22) (x1 : Int32) (M : mM) : Go muX12_sums (rm (d + 1)) 0 0 l G sk (mFin G sk eV) (f_X12_sums_23 w r0 r1 r2 r3 r4 k5 o0 x1 M) 23 [(0, .ref (gB G + o0)), (1, .int x1)] [] M := by
  unfold f_X12_sums_23
  refine go_aload_n 0 24 dX12_sums_23 rfl rfl ?_
  refine go_bipush 43 26 dX12_sums_24 rfl (by decide) ?_
  refine go_cVI1 0 clX12 cwX12_168 (m_X12_isSign w o0 h0 43 M) h0 29 dX12_sums_26 rfl ⟨Nat.le_trans (Nat.le_of_ble_eq_true rfl) hdd, Nat.mul_le_mul_left 64 (Nat.le_trans (Nat.le_of_ble_eq_true rfl) hdd)⟩ ⟨Nat.zero_le _, Nat.zero_le _⟩ (Nat.le_of_ble_eq_true rfl) (fun q2 M1 _ => ?_)
  refine go_istore_n [(2, .int q2), (0, .ref (gB G + o0)), (1, .int x1)] 30 dX12_sums_29 rfl rfl (by decide) rfl ?_
  refine go_aload_n 1 31 dX12_sums_30 rfl rfl ?_
  refine go_dup 32 dX12_sums_31 rfl rfl ?_
  refine go_getI flX12_162 (by decide) h0 35 dX12_sums_32 rfl ?_
  refine go_iconst 1 36 dX12_sums_35 rfl (by decide) ?_
  refine go_iadd 37 dX12_sums_36 rfl ?_
  refine go_putI flX12_162 rfl rfl h0 40 dX12_sums_37 rfl ?_
  refine go_nmM (fun M3 => ?_)
  refine go_aload_n 1 41 dX12_sums_40 rfl rfl ?_
  refine go_iload_n 2 42 dX12_sums_41 rfl rfl ?_
  refine go_cVV1 d clX12 cwX12_263 (hr3 o0 h0 x1 M3) h0 45 dX12_sums_42 rfl ⟨Nat.le_refl _, Nat.le_refl _⟩ ⟨Nat.zero_le _, Nat.zero_le _⟩ (Nat.le_of_ble_eq_true rfl) (fun M4 _ => ?_)
  refine go_aload_n 1 46 dX12_sums_45 rfl rfl ?_
  refine go_iload_n 0 47 dX12_sums_46 rfl rfl ?_
  refine go_if_eq 54 50 dX12_sums_47 rfl (by decide) (fun _ => ?_) (fun _ => ?_)
  · refine go_iconst 5 55 dX12_sums_54 rfl (by decide) ?_
    exact go_lv [1, 2] rfl (s_X12_sums_55 w d r0 r1 r2 r3 r4 hr0 hr1 hr2 hr3 hr4 hdd k5 hk5 o0 h0 x1 5 o0 h0 M4)
  · refine go_iconst 4 51 dX12_sums_50 rfl (by decide) ?_
    refine go_goto 55 dX12_sums_51 (by decide) ?_
    exact go_lv [1, 2] rfl (s_X12_sums_55 w d r0 r1 r2 r3 r4 hr0 hr1 hr2 hr3 hr4 hdd k5 hk5 o0 h0 x1 4 o0 h0 M4)
def f_X12_sums_5 (w : Nat) (r0 : Nat → Int32 → mM → Option mM) (r1 : Nat → Int32 → mM → Option mM) (r2 : Nat → Int32 → mM → Option mM) (r3 : Nat → Int32 → mM → Option mM) (r4 : Nat → Int32 → mM → Option mM) : Nat → Nat → Int32 → mM → Option mM
  | 0, _, _, _ => none
  | n + 1, o0, x1, M => bI (f_X12_isSign w o0 43 M) fun q2 M1 => (if q2 = 0 then bI (f_X12_isSign w o0 45 M1) fun q4 M3 => (if q4 = 0 then some M3 else (f_X12_sums_23 w r0 r1 r2 r3 r4 (f_X12_sums_5 w r0 r1 r2 r3 r4 n) o0 x1 M3)) else (f_X12_sums_23 w r0 r1 r2 r3 r4 (f_X12_sums_5 w r0 r1 r2 r3 r4 n) o0 x1 M1))
set_option maxHeartbeats 4000000 in
set_option maxRecDepth 100000 in
theorem s_X12_sums_5 {l : Launch} {G : mG} {sk : List mS} (w : Nat) (d : Nat) (r0 : Nat → Int32 → mM → Option mM) (r1 : Nat → Int32 → mM → Option mM) (r2 : Nat → Int32 → mM → Option mM) (r3 : Nat → Int32 → mM → Option mM) (r4 : Nat → Int32 → mM → Option mM) (hr0 : ∀ (o0 : Nat) (h0 : isK o0 22) (x1 : Int32) (M : mM), Mt l G sk yX12_whole muX12_whole d [.ref (gB G + o0), .int x1] M eV (r0 o0 x1 M)) (hr1 : ∀ (o0 : Nat) (h0 : isK o0 22) (x1 : Int32) (M : mM), Mt l G sk yX12_test muX12_test d [.ref (gB G + o0), .int x1] M eV (r1 o0 x1 M)) (hr2 : ∀ (o0 : Nat) (h0 : isK o0 22) (x1 : Int32) (M : mM), Mt l G sk yX12_sums muX12_sums d [.ref (gB G + o0), .int x1] M eV (r2 o0 x1 M)) (hr3 : ∀ (o0 : Nat) (h0 : isK o0 22) (x1 : Int32) (M : mM), Mt l G sk yX12_products muX12_products d [.ref (gB G + o0), .int x1] M eV (r3 o0 x1 M)) (hr4 : ∀ (o0 : Nat) (h0 : isK o0 22) (x1 : Int32) (M : mM), Mt l G sk yX12_takePart muX12_takePart d [.ref (gB G + o0), .int x1] M eV (r4 o0 x1 M)) (hdd : 2 ≤ d + 1) : ∀ (n : Nat) (o0 : Nat) (h0 : isK o0 22) (x1 : Int32) (M : mM), Go muX12_sums (rm (d + 1)) 0 0 l G sk (mFin G sk eV) (f_X12_sums_5 w r0 r1 r2 r3 r4 n o0 x1 M) 5 [(0, .ref (gB G + o0)), (1, .int x1)] [] M := by
  intro n
  induction n with
  | zero =>
    intros
    exact go_none
  | succ n ih =>
    intro o0 h0 x1 M
    rw [f_X12_sums_5]
    refine go_aload_n 0 6 dX12_sums_5 rfl rfl ?_
    refine go_bipush 43 8 dX12_sums_6 rfl (by decide) ?_
    refine go_cVI1 0 clX12 cwX12_168 (m_X12_isSign w o0 h0 43 M) h0 11 dX12_sums_8 rfl ⟨Nat.le_trans (Nat.le_of_ble_eq_true rfl) hdd, Nat.mul_le_mul_left 64 (Nat.le_trans (Nat.le_of_ble_eq_true rfl) hdd)⟩ ⟨Nat.zero_le _, Nat.zero_le _⟩ (Nat.le_of_ble_eq_true rfl) (fun q2 M1 _ => ?_)
    refine go_if_ne 23 14 dX12_sums_11 rfl (by decide) (fun _ => ?_) (fun _ => ?_)
    · exact go_lv [0, 1] rfl (s_X12_sums_23 w d r0 r1 r2 r3 r4 hr0 hr1 hr2 hr3 hr4 hdd (f_X12_sums_5 w r0 r1 r2 r3 r4 n) (fun o0 h0 x1 M => ih o0 h0 x1 M) o0 h0 x1 M1)
    · refine go_aload_n 0 15 dX12_sums_14 rfl rfl ?_
      refine go_bipush 45 17 dX12_sums_15 rfl (by decide) ?_
      refine go_cVI1 0 clX12 cwX12_168 (m_X12_isSign w o0 h0 45 M1) h0 20 dX12_sums_17 rfl ⟨Nat.le_trans (Nat.le_of_ble_eq_true rfl) hdd, Nat.mul_le_mul_left 64 (Nat.le_trans (Nat.le_of_ble_eq_true rfl) hdd)⟩ ⟨Nat.zero_le _, Nat.zero_le _⟩ (Nat.le_of_ble_eq_true rfl) (fun q4 M3 _ => ?_)
      refine go_if_eq 62 23 dX12_sums_20 rfl (by decide) (fun _ => ?_) (fun _ => ?_)
      · exact go_vret rfl dX12_sums_62
      · exact go_lv [0, 1] rfl (s_X12_sums_23 w d r0 r1 r2 r3 r4 hr0 hr1 hr2 hr3 hr4 hdd (f_X12_sums_5 w r0 r1 r2 r3 r4 n) (fun o0 h0 x1 M => ih o0 h0 x1 M) o0 h0 x1 M3)
def f_X12_sums_b (w : Nat) (r0 : Nat → Int32 → mM → Option mM) (r1 : Nat → Int32 → mM → Option mM) (r2 : Nat → Int32 → mM → Option mM) (r3 : Nat → Int32 → mM → Option mM) (r4 : Nat → Int32 → mM → Option mM) (o0 : Nat) (x1 : Int32) (M : mM) : Option mM := bV (r3 o0 x1 M) fun M1 => (f_X12_sums_5 w r0 r1 r2 r3 r4 w o0 x1 M1)
set_option maxHeartbeats 4000000 in
set_option maxRecDepth 100000 in
theorem s_X12_sums_b {l : Launch} {G : mG} {sk : List mS} (w : Nat) (d : Nat) (r0 : Nat → Int32 → mM → Option mM) (r1 : Nat → Int32 → mM → Option mM) (r2 : Nat → Int32 → mM → Option mM) (r3 : Nat → Int32 → mM → Option mM) (r4 : Nat → Int32 → mM → Option mM) (hr0 : ∀ (o0 : Nat) (h0 : isK o0 22) (x1 : Int32) (M : mM), Mt l G sk yX12_whole muX12_whole d [.ref (gB G + o0), .int x1] M eV (r0 o0 x1 M)) (hr1 : ∀ (o0 : Nat) (h0 : isK o0 22) (x1 : Int32) (M : mM), Mt l G sk yX12_test muX12_test d [.ref (gB G + o0), .int x1] M eV (r1 o0 x1 M)) (hr2 : ∀ (o0 : Nat) (h0 : isK o0 22) (x1 : Int32) (M : mM), Mt l G sk yX12_sums muX12_sums d [.ref (gB G + o0), .int x1] M eV (r2 o0 x1 M)) (hr3 : ∀ (o0 : Nat) (h0 : isK o0 22) (x1 : Int32) (M : mM), Mt l G sk yX12_products muX12_products d [.ref (gB G + o0), .int x1] M eV (r3 o0 x1 M)) (hr4 : ∀ (o0 : Nat) (h0 : isK o0 22) (x1 : Int32) (M : mM), Mt l G sk yX12_takePart muX12_takePart d [.ref (gB G + o0), .int x1] M eV (r4 o0 x1 M)) (hdd : 2 ≤ d + 1) (o0 : Nat) (h0 : isK o0 22) (x1 : Int32) (M : mM) : Go muX12_sums (rm (d + 1)) 0 0 l G sk (mFin G sk eV) (f_X12_sums_b w r0 r1 r2 r3 r4 o0 x1 M) 0 [(0, .ref (gB G + o0)), (1, .int x1)] [] M := by
  unfold f_X12_sums_b
  refine go_aload_n 0 1 dX12_sums_0 rfl rfl ?_
  refine go_iload_n 1 2 dX12_sums_1 rfl rfl ?_
  refine go_cVV1 d clX12 cwX12_263 (hr3 o0 h0 x1 M) h0 5 dX12_sums_2 rfl ⟨Nat.le_refl _, Nat.le_refl _⟩ ⟨Nat.zero_le _, Nat.zero_le _⟩ (Nat.le_of_ble_eq_true rfl) (fun M1 _ => ?_)
  exact go_lv [0, 1] rfl (s_X12_sums_5 w d r0 r1 r2 r3 r4 hr0 hr1 hr2 hr3 hr4 hdd w o0 h0 x1 M1)
def f_X12_products_5 (w : Nat) (r0 : Nat → Int32 → mM → Option mM) (r1 : Nat → Int32 → mM → Option mM) (r2 : Nat → Int32 → mM → Option mM) (r3 : Nat → Int32 → mM → Option mM) (r4 : Nat → Int32 → mM → Option mM) : Nat → Nat → Int32 → mM → Option mM
  | 0, _, _, _ => none
  | n + 1, o0, x1, M => bI (f_X12_hasSign w o0 42 M) fun q2 M1 => (if q2 = 0 then some M1 else bV (r4 o0 x1 M1) fun M3 => bV (f_X12_emit w o0 6 0 M3) fun M4 => (f_X12_products_5 w r0 r1 r2 r3 r4 n o0 x1 M4))
set_option maxHeartbeats 4000000 in
set_option maxRecDepth 100000 in
theorem s_X12_products_5 {l : Launch} {G : mG} {sk : List mS} (w : Nat) (d : Nat) (r0 : Nat → Int32 → mM → Option mM) (r1 : Nat → Int32 → mM → Option mM) (r2 : Nat → Int32 → mM → Option mM) (r3 : Nat → Int32 → mM → Option mM) (r4 : Nat → Int32 → mM → Option mM) (hr0 : ∀ (o0 : Nat) (h0 : isK o0 22) (x1 : Int32) (M : mM), Mt l G sk yX12_whole muX12_whole d [.ref (gB G + o0), .int x1] M eV (r0 o0 x1 M)) (hr1 : ∀ (o0 : Nat) (h0 : isK o0 22) (x1 : Int32) (M : mM), Mt l G sk yX12_test muX12_test d [.ref (gB G + o0), .int x1] M eV (r1 o0 x1 M)) (hr2 : ∀ (o0 : Nat) (h0 : isK o0 22) (x1 : Int32) (M : mM), Mt l G sk yX12_sums muX12_sums d [.ref (gB G + o0), .int x1] M eV (r2 o0 x1 M)) (hr3 : ∀ (o0 : Nat) (h0 : isK o0 22) (x1 : Int32) (M : mM), Mt l G sk yX12_products muX12_products d [.ref (gB G + o0), .int x1] M eV (r3 o0 x1 M)) (hr4 : ∀ (o0 : Nat) (h0 : isK o0 22) (x1 : Int32) (M : mM), Mt l G sk yX12_takePart muX12_takePart d [.ref (gB G + o0), .int x1] M eV (r4 o0 x1 M)) (hdd : 2 ≤ d + 1) : ∀ (n : Nat) (o0 : Nat) (h0 : isK o0 22) (x1 : Int32) (M : mM), Go muX12_products (rm (d + 1)) 0 0 l G sk (mFin G sk eV) (f_X12_products_5 w r0 r1 r2 r3 r4 n o0 x1 M) 5 [(0, .ref (gB G + o0)), (1, .int x1)] [] M := by
  intro n
  induction n with
  | zero =>
    intros
    exact go_none
  | succ n ih =>
    intro o0 h0 x1 M
    rw [f_X12_products_5]
    refine go_aload_n 0 6 dX12_products_5 rfl rfl ?_
    refine go_bipush 42 8 dX12_products_6 rfl (by decide) ?_
    refine go_cVI1 1 clX12 cwX12_260 (m_X12_hasSign w o0 h0 42 M) h0 11 dX12_products_8 rfl ⟨Nat.le_trans (Nat.le_of_ble_eq_true rfl) hdd, Nat.mul_le_mul_left 64 (Nat.le_trans (Nat.le_of_ble_eq_true rfl) hdd)⟩ ⟨Nat.zero_le _, Nat.zero_le _⟩ (Nat.le_of_ble_eq_true rfl) (fun q2 M1 _ => ?_)
    refine go_if_eq 29 14 dX12_products_11 rfl (by decide) (fun _ => ?_) (fun _ => ?_)
    · exact go_vret rfl dX12_products_29
    · refine go_aload_n 0 15 dX12_products_14 rfl rfl ?_
      refine go_iload_n 1 16 dX12_products_15 rfl rfl ?_
      refine go_cVV1 d clX12 cwX12_266 (hr4 o0 h0 x1 M1) h0 19 dX12_products_16 rfl ⟨Nat.le_refl _, Nat.le_refl _⟩ ⟨Nat.zero_le _, Nat.zero_le _⟩ (Nat.le_of_ble_eq_true rfl) (fun M3 _ => ?_)
      refine go_aload_n 0 20 dX12_products_19 rfl rfl ?_
      refine go_bipush 6 22 dX12_products_20 rfl (by decide) ?_
      refine go_iconst 0 23 dX12_products_22 rfl (by decide) ?_
      refine go_cVV2 0 clX12 cwX12_250 (m_X12_emit w o0 h0 6 0 M3) h0 26 dX12_products_23 rfl ⟨Nat.le_trans (Nat.le_of_ble_eq_true rfl) hdd, Nat.mul_le_mul_left 64 (Nat.le_trans (Nat.le_of_ble_eq_true rfl) hdd)⟩ ⟨Nat.zero_le _, Nat.zero_le _⟩ (Nat.le_of_ble_eq_true rfl) (fun M4 _ => ?_)
      refine go_goto 5 dX12_products_26 (by decide) ?_
      exact go_lv [0, 1] rfl (ih o0 h0 x1 M4)
def f_X12_products_b (w : Nat) (r0 : Nat → Int32 → mM → Option mM) (r1 : Nat → Int32 → mM → Option mM) (r2 : Nat → Int32 → mM → Option mM) (r3 : Nat → Int32 → mM → Option mM) (r4 : Nat → Int32 → mM → Option mM) (o0 : Nat) (x1 : Int32) (M : mM) : Option mM := bV (r4 o0 x1 M) fun M1 => (f_X12_products_5 w r0 r1 r2 r3 r4 w o0 x1 M1)
set_option maxHeartbeats 4000000 in
set_option maxRecDepth 100000 in
theorem s_X12_products_b {l : Launch} {G : mG} {sk : List mS} (w : Nat) (d : Nat) (r0 : Nat → Int32 → mM → Option mM) (r1 : Nat → Int32 → mM → Option mM) (r2 : Nat → Int32 → mM → Option mM) (r3 : Nat → Int32 → mM → Option mM) (r4 : Nat → Int32 → mM → Option mM) (hr0 : ∀ (o0 : Nat) (h0 : isK o0 22) (x1 : Int32) (M : mM), Mt l G sk yX12_whole muX12_whole d [.ref (gB G + o0), .int x1] M eV (r0 o0 x1 M)) (hr1 : ∀ (o0 : Nat) (h0 : isK o0 22) (x1 : Int32) (M : mM), Mt l G sk yX12_test muX12_test d [.ref (gB G + o0), .int x1] M eV (r1 o0 x1 M)) (hr2 : ∀ (o0 : Nat) (h0 : isK o0 22) (x1 : Int32) (M : mM), Mt l G sk yX12_sums muX12_sums d [.ref (gB G + o0), .int x1] M eV (r2 o0 x1 M)) (hr3 : ∀ (o0 : Nat) (h0 : isK o0 22) (x1 : Int32) (M : mM), Mt l G sk yX12_products muX12_products d [.ref (gB G + o0), .int x1] M eV (r3 o0 x1 M)) (hr4 : ∀ (o0 : Nat) (h0 : isK o0 22) (x1 : Int32) (M : mM), Mt l G sk yX12_takePart muX12_takePart d [.ref (gB G + o0), .int x1] M eV (r4 o0 x1 M)) (hdd : 2 ≤ d + 1) (o0 : Nat) (h0 : isK o0 22) (x1 : Int32) (M : mM) : Go muX12_products (rm (d + 1)) 0 0 l G sk (mFin G sk eV) (f_X12_products_b w r0 r1 r2 r3 r4 o0 x1 M) 0 [(0, .ref (gB G + o0)), (1, .int x1)] [] M := by
  unfold f_X12_products_b
  refine go_aload_n 0 1 dX12_products_0 rfl rfl ?_
  refine go_iload_n 1 2 dX12_products_1 rfl rfl ?_
  refine go_cVV1 d clX12 cwX12_266 (hr4 o0 h0 x1 M) h0 5 dX12_products_2 rfl ⟨Nat.le_refl _, Nat.le_refl _⟩ ⟨Nat.zero_le _, Nat.zero_le _⟩ (Nat.le_of_ble_eq_true rfl) (fun M1 _ => ?_)
  exact go_lv [0, 1] rfl (s_X12_products_5 w d r0 r1 r2 r3 r4 hr0 hr1 hr2 hr3 hr4 hdd w o0 h0 x1 M1)
def f_X12_takePart_165 (w : Nat) (r0 : Nat → Int32 → mM → Option mM) (r1 : Nat → Int32 → mM → Option mM) (r2 : Nat → Int32 → mM → Option mM) (r3 : Nat → Int32 → mM → Option mM) (r4 : Nat → Int32 → mM → Option mM) (o0 : Nat) (xs0 : Int32) (xs1 : Int32) (os2 : Nat) (M : mM) : Option mM := bV (f_X12_emit w os2 xs1 xs0 M) fun M1 => lt (wI M1 o0 7 ((M1.1 o0 7) + 1)) fun M2 => some M2
set_option maxHeartbeats 4000000 in
set_option maxRecDepth 100000 in
theorem s_X12_takePart_165 {l : Launch} {G : mG} {sk : List mS} (w : Nat) (d : Nat) (r0 : Nat → Int32 → mM → Option mM) (r1 : Nat → Int32 → mM → Option mM) (r2 : Nat → Int32 → mM → Option mM) (r3 : Nat → Int32 → mM → Option mM) (r4 : Nat → Int32 → mM → Option mM) (hr0 : ∀ (o0 : Nat) (h0 : isK o0 22) (x1 : Int32) (M : mM), Mt l G sk yX12_whole muX12_whole d [.ref (gB G + o0), .int x1] M eV (r0 o0 x1 M)) (hr1 : ∀ (o0 : Nat) (h0 : isK o0 22) (x1 : Int32) (M : mM), Mt l G sk yX12_test muX12_test d [.ref (gB G + o0), .int x1] M eV (r1 o0 x1 M)) (hr2 : ∀ (o0 : Nat) (h0 : isK o0 22) (x1 : Int32) (M : mM), Mt l G sk yX12_sums muX12_sums d [.ref (gB G + o0), .int x1] M eV (r2 o0 x1 M)) (hr3 : ∀ (o0 : Nat) (h0 : isK o0 22) (x1 : Int32) (M : mM), Mt l G sk yX12_products muX12_products d [.ref (gB G + o0), .int x1] M eV (r3 o0 x1 M)) (hr4 : ∀ (o0 : Nat) (h0 : isK o0 22) (x1 : Int32) (M : mM), Mt l G sk yX12_takePart muX12_takePart d [.ref (gB G + o0), .int x1] M eV (r4 o0 x1 M)) (hdd : 2 ≤ d + 1) (o0 : Nat) (h0 : isK o0 22) (xs0 : Int32) (xs1 : Int32) (os2 : Nat) (hs2 : isK os2 22) (M : mM) : Go muX12_takePart (rm (d + 1)) 0 0 l G sk (mFin G sk eV) (f_X12_takePart_165 w r0 r1 r2 r3 r4 o0 xs0 xs1 os2 M) 165 [(0, .ref (gB G + o0))] [.int xs0, .int xs1, .ref (gB G + os2)] M := by
  unfold f_X12_takePart_165
  refine go_cVV2 0 clX12 cwX12_250 (m_X12_emit w os2 hs2 xs1 xs0 M) hs2 168 dX12_takePart_165 rfl ⟨Nat.le_trans (Nat.le_of_ble_eq_true rfl) hdd, Nat.mul_le_mul_left 64 (Nat.le_trans (Nat.le_of_ble_eq_true rfl) hdd)⟩ ⟨Nat.zero_le _, Nat.zero_le _⟩ (Nat.le_of_ble_eq_true rfl) (fun M1 _ => ?_)
  refine go_aload_n 0 169 dX12_takePart_168 rfl rfl ?_
  refine go_dup 170 dX12_takePart_169 rfl rfl ?_
  refine go_getI flX12_162 (by decide) h0 173 dX12_takePart_170 rfl ?_
  refine go_iconst 1 174 dX12_takePart_173 rfl (by decide) ?_
  refine go_iadd 175 dX12_takePart_174 rfl ?_
  refine go_putI flX12_162 rfl rfl h0 178 dX12_takePart_175 rfl ?_
  refine go_nmM (fun M2 => ?_)
  exact go_vret rfl dX12_takePart_178
def f_X12_takePart_147 (w : Nat) (r0 : Nat → Int32 → mM → Option mM) (r1 : Nat → Int32 → mM → Option mM) (r2 : Nat → Int32 → mM → Option mM) (r3 : Nat → Int32 → mM → Option mM) (r4 : Nat → Int32 → mM → Option mM) (o0 : Nat) (x2 : Int32) (x3 : Int32) (xs0 : Int32) (os1 : Nat) (M : mM) : Option mM := (if x2 = 0 then (f_X12_takePart_165 w r0 r1 r2 r3 r4 o0 x3 xs0 os1 M) else chk (M.1 o0 7) (sL (rF o0 6)) ((f_X12_takePart_165 w r0 r1 r2 r3 r4 o0 ((M.2 (rF o0 6) (M.1 o0 7).toNatClampNeg).toInt32) xs0 os1 M)))
set_option maxHeartbeats 4000000 in
set_option maxRecDepth 100000 in
theorem s_X12_takePart_147 {l : Launch} {G : mG} {sk : List mS} (w : Nat) (d : Nat) (r0 : Nat → Int32 → mM → Option mM) (r1 : Nat → Int32 → mM → Option mM) (r2 : Nat → Int32 → mM → Option mM) (r3 : Nat → Int32 → mM → Option mM) (r4 : Nat → Int32 → mM → Option mM) (hr0 : ∀ (o0 : Nat) (h0 : isK o0 22) (x1 : Int32) (M : mM), Mt l G sk yX12_whole muX12_whole d [.ref (gB G + o0), .int x1] M eV (r0 o0 x1 M)) (hr1 : ∀ (o0 : Nat) (h0 : isK o0 22) (x1 : Int32) (M : mM), Mt l G sk yX12_test muX12_test d [.ref (gB G + o0), .int x1] M eV (r1 o0 x1 M)) (hr2 : ∀ (o0 : Nat) (h0 : isK o0 22) (x1 : Int32) (M : mM), Mt l G sk yX12_sums muX12_sums d [.ref (gB G + o0), .int x1] M eV (r2 o0 x1 M)) (hr3 : ∀ (o0 : Nat) (h0 : isK o0 22) (x1 : Int32) (M : mM), Mt l G sk yX12_products muX12_products d [.ref (gB G + o0), .int x1] M eV (r3 o0 x1 M)) (hr4 : ∀ (o0 : Nat) (h0 : isK o0 22) (x1 : Int32) (M : mM), Mt l G sk yX12_takePart muX12_takePart d [.ref (gB G + o0), .int x1] M eV (r4 o0 x1 M)) (hdd : 2 ≤ d + 1) (o0 : Nat) (h0 : isK o0 22) (x2 : Int32) (x3 : Int32) (xs0 : Int32) (os1 : Nat) (hs1 : isK os1 22) (M : mM) : Go muX12_takePart (rm (d + 1)) 0 0 l G sk (mFin G sk eV) (f_X12_takePart_147 w r0 r1 r2 r3 r4 o0 x2 x3 xs0 os1 M) 147 [(0, .ref (gB G + o0)), (2, .int x2), (3, .int x3)] [.int xs0, .ref (gB G + os1)] M := by
  unfold f_X12_takePart_147
  refine go_iload_n 1 148 dX12_takePart_147 rfl rfl ?_
  refine go_if_eq 164 151 dX12_takePart_148 rfl (by decide) (fun _ => ?_) (fun _ => ?_)
  · refine go_iload_n 2 165 dX12_takePart_164 rfl rfl ?_
    exact go_lv [0] rfl (s_X12_takePart_165 w d r0 r1 r2 r3 r4 hr0 hr1 hr2 hr3 hr4 hdd o0 h0 x3 xs0 os1 hs1 M)
  · refine go_aload_n 0 152 dX12_takePart_151 rfl rfl ?_
    refine go_getR flX12_30 h0 155 dX12_takePart_152 rfl ?_
    refine go_aload_n 0 156 dX12_takePart_155 rfl rfl ?_
    refine go_getI flX12_162 (by decide) h0 159 dX12_takePart_156 rfl ?_
    refine go_lald (rk12_6 h0) 160 dX12_takePart_159 rfl ?_
    refine go_l2i 161 dX12_takePart_160 rfl ?_
    refine go_goto 165 dX12_takePart_161 (by decide) ?_
    exact go_lv [0] rfl (s_X12_takePart_165 w d r0 r1 r2 r3 r4 hr0 hr1 hr2 hr3 hr4 hdd o0 h0 ((M.2 (rF o0 6) (M.1 o0 7).toNatClampNeg).toInt32) xs0 os1 hs1 M)
def f_X12_takePart_79 (w : Nat) (r0 : Nat → Int32 → mM → Option mM) (r1 : Nat → Int32 → mM → Option mM) (r2 : Nat → Int32 → mM → Option mM) (r3 : Nat → Int32 → mM → Option mM) (r4 : Nat → Int32 → mM → Option mM) (o0 : Nat) (x1 : Int32) (x2 : Int32) (x3 : Int32) (M : mM) : Option mM := (if (M.1 o0 8) ≤ 0 then bI (f_X12_hasWord w o0 16 M) fun q2 M1 => (if q2 = 0 then bI (f_X12_hasSign w o0 40 M1) fun q4 M3 => (if q4 = 0 then (if x2 = 0 then (f_X12_takePart_147 w r0 r1 r2 r3 r4 o0 x2 x3 2 o0 M3) else (f_X12_takePart_147 w r0 r1 r2 r3 r4 o0 x2 x3 1 o0 M3)) else bV (r0 o0 (x1 + 1) M3) fun M5 => bV (f_X12_takeSign w o0 41 M5) fun M6 => some M6) else bV (r4 o0 (x1 + 1) M1) fun M7 => bV (f_X12_emit w o0 3 0 M7) fun M8 => some M8) else some M)
set_option maxHeartbeats 4000000 in
set_option maxRecDepth 100000 in
theorem s_X12_takePart_79 {l : Launch} {G : mG} {sk : List mS} (w : Nat) (d : Nat) (r0 : Nat → Int32 → mM → Option mM) (r1 : Nat → Int32 → mM → Option mM) (r2 : Nat → Int32 → mM → Option mM) (r3 : Nat → Int32 → mM → Option mM) (r4 : Nat → Int32 → mM → Option mM) (hr0 : ∀ (o0 : Nat) (h0 : isK o0 22) (x1 : Int32) (M : mM), Mt l G sk yX12_whole muX12_whole d [.ref (gB G + o0), .int x1] M eV (r0 o0 x1 M)) (hr1 : ∀ (o0 : Nat) (h0 : isK o0 22) (x1 : Int32) (M : mM), Mt l G sk yX12_test muX12_test d [.ref (gB G + o0), .int x1] M eV (r1 o0 x1 M)) (hr2 : ∀ (o0 : Nat) (h0 : isK o0 22) (x1 : Int32) (M : mM), Mt l G sk yX12_sums muX12_sums d [.ref (gB G + o0), .int x1] M eV (r2 o0 x1 M)) (hr3 : ∀ (o0 : Nat) (h0 : isK o0 22) (x1 : Int32) (M : mM), Mt l G sk yX12_products muX12_products d [.ref (gB G + o0), .int x1] M eV (r3 o0 x1 M)) (hr4 : ∀ (o0 : Nat) (h0 : isK o0 22) (x1 : Int32) (M : mM), Mt l G sk yX12_takePart muX12_takePart d [.ref (gB G + o0), .int x1] M eV (r4 o0 x1 M)) (hdd : 2 ≤ d + 1) (o0 : Nat) (h0 : isK o0 22) (x1 : Int32) (x2 : Int32) (x3 : Int32) (M : mM) : Go muX12_takePart (rm (d + 1)) 0 0 l G sk (mFin G sk eV) (f_X12_takePart_79 w r0 r1 r2 r3 r4 o0 x1 x2 x3 M) 79 [(0, .ref (gB G + o0)), (1, .int x1), (2, .int x2), (3, .int x3)] [] M := by
  unfold f_X12_takePart_79
  refine go_aload_n 0 80 dX12_takePart_79 rfl rfl ?_
  refine go_getI flX12_165 (by decide) h0 83 dX12_takePart_80 rfl ?_
  refine go_if_le 87 86 dX12_takePart_83 rfl (by decide) (fun _ => ?_) (fun _ => ?_)
  · refine go_aload_n 0 88 dX12_takePart_87 rfl rfl ?_
    refine go_bipush 16 90 dX12_takePart_88 rfl (by decide) ?_
    refine go_cVI1 1 clX12 cwX12_177 (m_X12_hasWord w o0 h0 16 M) h0 93 dX12_takePart_90 rfl ⟨Nat.le_trans (Nat.le_of_ble_eq_true rfl) hdd, Nat.mul_le_mul_left 64 (Nat.le_trans (Nat.le_of_ble_eq_true rfl) hdd)⟩ ⟨Nat.zero_le _, Nat.zero_le _⟩ (Nat.le_of_ble_eq_true rfl) (fun q2 M1 _ => ?_)
    refine go_if_eq 112 96 dX12_takePart_93 rfl (by decide) (fun _ => ?_) (fun _ => ?_)
    · refine go_aload_n 0 113 dX12_takePart_112 rfl rfl ?_
      refine go_bipush 40 115 dX12_takePart_113 rfl (by decide) ?_
      refine go_cVI1 1 clX12 cwX12_260 (m_X12_hasSign w o0 h0 40 M1) h0 118 dX12_takePart_115 rfl ⟨Nat.le_trans (Nat.le_of_ble_eq_true rfl) hdd, Nat.mul_le_mul_left 64 (Nat.le_trans (Nat.le_of_ble_eq_true rfl) hdd)⟩ ⟨Nat.zero_le _, Nat.zero_le _⟩ (Nat.le_of_ble_eq_true rfl) (fun q4 M3 _ => ?_)
      refine go_if_eq 137 121 dX12_takePart_118 rfl (by decide) (fun _ => ?_) (fun _ => ?_)
      · refine go_aload_n 0 138 dX12_takePart_137 rfl rfl ?_
        refine go_iload_n 2 139 dX12_takePart_138 rfl rfl ?_
        refine go_if_eq 146 142 dX12_takePart_139 rfl (by decide) (fun _ => ?_) (fun _ => ?_)
        · refine go_iconst 2 147 dX12_takePart_146 rfl (by decide) ?_
          exact go_lv [0, 2, 3] rfl (s_X12_takePart_147 w d r0 r1 r2 r3 r4 hr0 hr1 hr2 hr3 hr4 hdd o0 h0 x2 x3 2 o0 h0 M3)
        · refine go_iconst 1 143 dX12_takePart_142 rfl (by decide) ?_
          refine go_goto 147 dX12_takePart_143 (by decide) ?_
          exact go_lv [0, 2, 3] rfl (s_X12_takePart_147 w d r0 r1 r2 r3 r4 hr0 hr1 hr2 hr3 hr4 hdd o0 h0 x2 x3 1 o0 h0 M3)
      · refine go_aload_n 0 122 dX12_takePart_121 rfl rfl ?_
        refine go_iload_n 1 123 dX12_takePart_122 rfl rfl ?_
        refine go_iconst 1 124 dX12_takePart_123 rfl (by decide) ?_
        refine go_iadd 125 dX12_takePart_124 rfl ?_
        refine go_cVV1 d clX12 cwX12_247 (hr0 o0 h0 (x1 + 1) M3) h0 128 dX12_takePart_125 rfl ⟨Nat.le_refl _, Nat.le_refl _⟩ ⟨Nat.zero_le _, Nat.zero_le _⟩ (Nat.le_of_ble_eq_true rfl) (fun M5 _ => ?_)
        refine go_aload_n 0 129 dX12_takePart_128 rfl rfl ?_
        refine go_bipush 41 131 dX12_takePart_129 rfl (by decide) ?_
        refine go_cVV1 1 clX12 cwX12_220 (m_X12_takeSign w o0 h0 41 M5) h0 134 dX12_takePart_131 rfl ⟨Nat.le_trans (Nat.le_of_ble_eq_true rfl) hdd, Nat.mul_le_mul_left 64 (Nat.le_trans (Nat.le_of_ble_eq_true rfl) hdd)⟩ ⟨Nat.zero_le _, Nat.zero_le _⟩ (Nat.le_of_ble_eq_true rfl) (fun M6 _ => ?_)
        refine go_goto 178 dX12_takePart_134 (by decide) ?_
        exact go_vret rfl dX12_takePart_178
    · refine go_aload_n 0 97 dX12_takePart_96 rfl rfl ?_
      refine go_iload_n 1 98 dX12_takePart_97 rfl rfl ?_
      refine go_iconst 1 99 dX12_takePart_98 rfl (by decide) ?_
      refine go_iadd 100 dX12_takePart_99 rfl ?_
      refine go_cVV1 d clX12 cwX12_266 (hr4 o0 h0 (x1 + 1) M1) h0 103 dX12_takePart_100 rfl ⟨Nat.le_refl _, Nat.le_refl _⟩ ⟨Nat.zero_le _, Nat.zero_le _⟩ (Nat.le_of_ble_eq_true rfl) (fun M7 _ => ?_)
      refine go_aload_n 0 104 dX12_takePart_103 rfl rfl ?_
      refine go_iconst 3 105 dX12_takePart_104 rfl (by decide) ?_
      refine go_iconst 0 106 dX12_takePart_105 rfl (by decide) ?_
      refine go_cVV2 0 clX12 cwX12_250 (m_X12_emit w o0 h0 3 0 M7) h0 109 dX12_takePart_106 rfl ⟨Nat.le_trans (Nat.le_of_ble_eq_true rfl) hdd, Nat.mul_le_mul_left 64 (Nat.le_trans (Nat.le_of_ble_eq_true rfl) hdd)⟩ ⟨Nat.zero_le _, Nat.zero_le _⟩ (Nat.le_of_ble_eq_true rfl) (fun M8 _ => ?_)
      refine go_goto 178 dX12_takePart_109 (by decide) ?_
      exact go_vret rfl dX12_takePart_178
  · exact go_vret rfl dX12_takePart_86
def f_X12_takePart_69 (w : Nat) (r0 : Nat → Int32 → mM → Option mM) (r1 : Nat → Int32 → mM → Option mM) (r2 : Nat → Int32 → mM → Option mM) (r3 : Nat → Int32 → mM → Option mM) (r4 : Nat → Int32 → mM → Option mM) (o0 : Nat) (x1 : Int32) (x2 : Int32) (x3 : Int32) (M : mM) : Option mM := (if x1 = 5 then bV (f_X12_wrong w o0 5 M) fun M1 => (f_X12_takePart_79 w r0 r1 r2 r3 r4 o0 x1 x2 x3 M1) else (f_X12_takePart_79 w r0 r1 r2 r3 r4 o0 x1 x2 x3 M))
set_option maxHeartbeats 4000000 in
set_option maxRecDepth 100000 in
theorem s_X12_takePart_69 {l : Launch} {G : mG} {sk : List mS} (w : Nat) (d : Nat) (r0 : Nat → Int32 → mM → Option mM) (r1 : Nat → Int32 → mM → Option mM) (r2 : Nat → Int32 → mM → Option mM) (r3 : Nat → Int32 → mM → Option mM) (r4 : Nat → Int32 → mM → Option mM) (hr0 : ∀ (o0 : Nat) (h0 : isK o0 22) (x1 : Int32) (M : mM), Mt l G sk yX12_whole muX12_whole d [.ref (gB G + o0), .int x1] M eV (r0 o0 x1 M)) (hr1 : ∀ (o0 : Nat) (h0 : isK o0 22) (x1 : Int32) (M : mM), Mt l G sk yX12_test muX12_test d [.ref (gB G + o0), .int x1] M eV (r1 o0 x1 M)) (hr2 : ∀ (o0 : Nat) (h0 : isK o0 22) (x1 : Int32) (M : mM), Mt l G sk yX12_sums muX12_sums d [.ref (gB G + o0), .int x1] M eV (r2 o0 x1 M)) (hr3 : ∀ (o0 : Nat) (h0 : isK o0 22) (x1 : Int32) (M : mM), Mt l G sk yX12_products muX12_products d [.ref (gB G + o0), .int x1] M eV (r3 o0 x1 M)) (hr4 : ∀ (o0 : Nat) (h0 : isK o0 22) (x1 : Int32) (M : mM), Mt l G sk yX12_takePart muX12_takePart d [.ref (gB G + o0), .int x1] M eV (r4 o0 x1 M)) (hdd : 2 ≤ d + 1) (o0 : Nat) (h0 : isK o0 22) (x1 : Int32) (x2 : Int32) (x3 : Int32) (M : mM) : Go muX12_takePart (rm (d + 1)) 0 0 l G sk (mFin G sk eV) (f_X12_takePart_69 w r0 r1 r2 r3 r4 o0 x1 x2 x3 M) 69 [(0, .ref (gB G + o0)), (1, .int x1), (2, .int x2), (3, .int x3)] [] M := by
  unfold f_X12_takePart_69
  refine go_iload_n 1 70 dX12_takePart_69 rfl rfl ?_
  refine go_iconst 5 71 dX12_takePart_70 rfl (by decide) ?_
  refine go_icmp_ne 79 74 dX12_takePart_71 rfl (by decide) (fun _ => ?_) (fun _ => ?_)
  · exact go_lv [0, 1, 2, 3] rfl (s_X12_takePart_79 w d r0 r1 r2 r3 r4 hr0 hr1 hr2 hr3 hr4 hdd o0 h0 x1 x2 x3 M)
  · refine go_aload_n 0 75 dX12_takePart_74 rfl rfl ?_
    refine go_iconst 5 76 dX12_takePart_75 rfl (by decide) ?_
    refine go_cVV1 0 clX12 cwX12_171 (m_X12_wrong w o0 h0 5 M) h0 79 dX12_takePart_76 rfl ⟨Nat.le_trans (Nat.le_of_ble_eq_true rfl) hdd, Nat.mul_le_mul_left 64 (Nat.le_trans (Nat.le_of_ble_eq_true rfl) hdd)⟩ ⟨Nat.zero_le _, Nat.zero_le _⟩ (Nat.le_of_ble_eq_true rfl) (fun M1 _ => ?_)
    exact go_lv [0, 1, 2, 3] rfl (s_X12_takePart_79 w d r0 r1 r2 r3 r4 hr0 hr1 hr2 hr3 hr4 hdd o0 h0 x1 x2 x3 M1)
def f_X12_takePart_26 (w : Nat) (r0 : Nat → Int32 → mM → Option mM) (r1 : Nat → Int32 → mM → Option mM) (r2 : Nat → Int32 → mM → Option mM) (r3 : Nat → Int32 → mM → Option mM) (r4 : Nat → Int32 → mM → Option mM) (o0 : Nat) (x1 : Int32) (xs0 : Int32) (M : mM) : Option mM := bI (f_X12_wordHere w o0 19 4 M) fun q2 M1 => (if 0 ≤ q2 then (f_X12_takePart_69 w r0 r1 r2 r3 r4 o0 x1 xs0 q2 M1) else (if xs0 = 0 then bI (f_X12_isSign w o0 40 M1) fun q4 M3 => (if q4 = 0 then bI (f_X12_isWord w o0 16 M3) fun q6 M5 => (if q6 = 0 then bV (f_X12_wrong w o0 1 M5) fun M7 => (f_X12_takePart_79 w r0 r1 r2 r3 r4 o0 x1 xs0 q2 M7) else (f_X12_takePart_69 w r0 r1 r2 r3 r4 o0 x1 xs0 q2 M5)) else (f_X12_takePart_69 w r0 r1 r2 r3 r4 o0 x1 xs0 q2 M3)) else (f_X12_takePart_69 w r0 r1 r2 r3 r4 o0 x1 xs0 q2 M1)))
set_option maxHeartbeats 4000000 in
set_option maxRecDepth 100000 in
theorem s_X12_takePart_26 {l : Launch} {G : mG} {sk : List mS} (w : Nat) (d : Nat) (r0 : Nat → Int32 → mM → Option mM) (r1 : Nat → Int32 → mM → Option mM) (r2 : Nat → Int32 → mM → Option mM) (r3 : Nat → Int32 → mM → Option mM) (r4 : Nat → Int32 → mM → Option mM) (hr0 : ∀ (o0 : Nat) (h0 : isK o0 22) (x1 : Int32) (M : mM), Mt l G sk yX12_whole muX12_whole d [.ref (gB G + o0), .int x1] M eV (r0 o0 x1 M)) (hr1 : ∀ (o0 : Nat) (h0 : isK o0 22) (x1 : Int32) (M : mM), Mt l G sk yX12_test muX12_test d [.ref (gB G + o0), .int x1] M eV (r1 o0 x1 M)) (hr2 : ∀ (o0 : Nat) (h0 : isK o0 22) (x1 : Int32) (M : mM), Mt l G sk yX12_sums muX12_sums d [.ref (gB G + o0), .int x1] M eV (r2 o0 x1 M)) (hr3 : ∀ (o0 : Nat) (h0 : isK o0 22) (x1 : Int32) (M : mM), Mt l G sk yX12_products muX12_products d [.ref (gB G + o0), .int x1] M eV (r3 o0 x1 M)) (hr4 : ∀ (o0 : Nat) (h0 : isK o0 22) (x1 : Int32) (M : mM), Mt l G sk yX12_takePart muX12_takePart d [.ref (gB G + o0), .int x1] M eV (r4 o0 x1 M)) (hdd : 2 ≤ d + 1) (o0 : Nat) (h0 : isK o0 22) (x1 : Int32) (xs0 : Int32) (M : mM) : Go muX12_takePart (rm (d + 1)) 0 0 l G sk (mFin G sk eV) (f_X12_takePart_26 w r0 r1 r2 r3 r4 o0 x1 xs0 M) 26 [(0, .ref (gB G + o0)), (1, .int x1)] [.int xs0] M := by
  unfold f_X12_takePart_26
  refine go_istore_n [(2, .int xs0), (0, .ref (gB G + o0)), (1, .int x1)] 27 dX12_takePart_26 rfl rfl (by decide) rfl ?_
  refine go_aload_n 1 28 dX12_takePart_27 rfl rfl ?_
  refine go_bipush 19 30 dX12_takePart_28 rfl (by decide) ?_
  refine go_iconst 4 31 dX12_takePart_30 rfl (by decide) ?_
  refine go_cVI2 1 clX12 cwX12_187 (m_X12_wordHere w o0 h0 19 4 M) h0 34 dX12_takePart_31 rfl ⟨Nat.le_trans (Nat.le_of_ble_eq_true rfl) hdd, Nat.mul_le_mul_left 64 (Nat.le_trans (Nat.le_of_ble_eq_true rfl) hdd)⟩ ⟨Nat.zero_le _, Nat.zero_le _⟩ (Nat.le_of_ble_eq_true rfl) (fun q2 M1 _ => ?_)
  refine go_istore_n [(3, .int q2), (2, .int xs0), (0, .ref (gB G + o0)), (1, .int x1)] 35 dX12_takePart_34 rfl rfl (by decide) rfl ?_
  refine go_iload_n 0 36 dX12_takePart_35 rfl rfl ?_
  refine go_if_ge 69 39 dX12_takePart_36 rfl (by decide) (fun _ => ?_) (fun _ => ?_)
  · exact go_lv [2, 3, 1, 0] rfl (s_X12_takePart_69 w d r0 r1 r2 r3 r4 hr0 hr1 hr2 hr3 hr4 hdd o0 h0 x1 xs0 q2 M1)
  · refine go_iload_n 1 40 dX12_takePart_39 rfl rfl ?_
    refine go_if_ne 69 43 dX12_takePart_40 rfl (by decide) (fun _ => ?_) (fun _ => ?_)
    · exact go_lv [2, 3, 1, 0] rfl (s_X12_takePart_69 w d r0 r1 r2 r3 r4 hr0 hr1 hr2 hr3 hr4 hdd o0 h0 x1 xs0 q2 M1)
    · refine go_aload_n 2 44 dX12_takePart_43 rfl rfl ?_
      refine go_bipush 40 46 dX12_takePart_44 rfl (by decide) ?_
      refine go_cVI1 0 clX12 cwX12_168 (m_X12_isSign w o0 h0 40 M1) h0 49 dX12_takePart_46 rfl ⟨Nat.le_trans (Nat.le_of_ble_eq_true rfl) hdd, Nat.mul_le_mul_left 64 (Nat.le_trans (Nat.le_of_ble_eq_true rfl) hdd)⟩ ⟨Nat.zero_le _, Nat.zero_le _⟩ (Nat.le_of_ble_eq_true rfl) (fun q4 M3 _ => ?_)
      refine go_if_ne 69 52 dX12_takePart_49 rfl (by decide) (fun _ => ?_) (fun _ => ?_)
      · exact go_lv [2, 3, 1, 0] rfl (s_X12_takePart_69 w d r0 r1 r2 r3 r4 hr0 hr1 hr2 hr3 hr4 hdd o0 h0 x1 xs0 q2 M3)
      · refine go_aload_n 2 53 dX12_takePart_52 rfl rfl ?_
        refine go_bipush 16 55 dX12_takePart_53 rfl (by decide) ?_
        refine go_cVI1 0 clX12 cwX12_174 (m_X12_isWord w o0 h0 16 M3) h0 58 dX12_takePart_55 rfl ⟨Nat.le_trans (Nat.le_of_ble_eq_true rfl) hdd, Nat.mul_le_mul_left 64 (Nat.le_trans (Nat.le_of_ble_eq_true rfl) hdd)⟩ ⟨Nat.zero_le _, Nat.zero_le _⟩ (Nat.le_of_ble_eq_true rfl) (fun q6 M5 _ => ?_)
        refine go_if_ne 69 61 dX12_takePart_58 rfl (by decide) (fun _ => ?_) (fun _ => ?_)
        · exact go_lv [2, 3, 1, 0] rfl (s_X12_takePart_69 w d r0 r1 r2 r3 r4 hr0 hr1 hr2 hr3 hr4 hdd o0 h0 x1 xs0 q2 M5)
        · refine go_aload_n 2 62 dX12_takePart_61 rfl rfl ?_
          refine go_iconst 1 63 dX12_takePart_62 rfl (by decide) ?_
          refine go_cVV1 0 clX12 cwX12_171 (m_X12_wrong w o0 h0 1 M5) h0 66 dX12_takePart_63 rfl ⟨Nat.le_trans (Nat.le_of_ble_eq_true rfl) hdd, Nat.mul_le_mul_left 64 (Nat.le_trans (Nat.le_of_ble_eq_true rfl) hdd)⟩ ⟨Nat.zero_le _, Nat.zero_le _⟩ (Nat.le_of_ble_eq_true rfl) (fun M7 _ => ?_)
          refine go_goto 79 dX12_takePart_66 (by decide) ?_
          exact go_lv [2, 3, 1, 0] rfl (s_X12_takePart_79 w d r0 r1 r2 r3 r4 hr0 hr1 hr2 hr3 hr4 hdd o0 h0 x1 xs0 q2 M7)
def f_X12_takePart_b (w : Nat) (r0 : Nat → Int32 → mM → Option mM) (r1 : Nat → Int32 → mM → Option mM) (r2 : Nat → Int32 → mM → Option mM) (r3 : Nat → Int32 → mM → Option mM) (r4 : Nat → Int32 → mM → Option mM) (o0 : Nat) (x1 : Int32) (M : mM) : Option mM := (if (M.1 o0 8) ≤ 0 then chk (M.1 o0 7) (sL (rF o0 4)) ((if (M.1 (rF o0 4) (M.1 o0 7).toNatClampNeg) = 2 then (f_X12_takePart_26 w r0 r1 r2 r3 r4 o0 x1 1 M) else (f_X12_takePart_26 w r0 r1 r2 r3 r4 o0 x1 0 M))) else some M)
set_option maxHeartbeats 4000000 in
set_option maxRecDepth 100000 in
theorem s_X12_takePart_b {l : Launch} {G : mG} {sk : List mS} (w : Nat) (d : Nat) (r0 : Nat → Int32 → mM → Option mM) (r1 : Nat → Int32 → mM → Option mM) (r2 : Nat → Int32 → mM → Option mM) (r3 : Nat → Int32 → mM → Option mM) (r4 : Nat → Int32 → mM → Option mM) (hr0 : ∀ (o0 : Nat) (h0 : isK o0 22) (x1 : Int32) (M : mM), Mt l G sk yX12_whole muX12_whole d [.ref (gB G + o0), .int x1] M eV (r0 o0 x1 M)) (hr1 : ∀ (o0 : Nat) (h0 : isK o0 22) (x1 : Int32) (M : mM), Mt l G sk yX12_test muX12_test d [.ref (gB G + o0), .int x1] M eV (r1 o0 x1 M)) (hr2 : ∀ (o0 : Nat) (h0 : isK o0 22) (x1 : Int32) (M : mM), Mt l G sk yX12_sums muX12_sums d [.ref (gB G + o0), .int x1] M eV (r2 o0 x1 M)) (hr3 : ∀ (o0 : Nat) (h0 : isK o0 22) (x1 : Int32) (M : mM), Mt l G sk yX12_products muX12_products d [.ref (gB G + o0), .int x1] M eV (r3 o0 x1 M)) (hr4 : ∀ (o0 : Nat) (h0 : isK o0 22) (x1 : Int32) (M : mM), Mt l G sk yX12_takePart muX12_takePart d [.ref (gB G + o0), .int x1] M eV (r4 o0 x1 M)) (hdd : 2 ≤ d + 1) (o0 : Nat) (h0 : isK o0 22) (x1 : Int32) (M : mM) : Go muX12_takePart (rm (d + 1)) 0 0 l G sk (mFin G sk eV) (f_X12_takePart_b w r0 r1 r2 r3 r4 o0 x1 M) 0 [(0, .ref (gB G + o0)), (1, .int x1)] [] M := by
  unfold f_X12_takePart_b
  refine go_aload_n 0 1 dX12_takePart_0 rfl rfl ?_
  refine go_getI flX12_165 (by decide) h0 4 dX12_takePart_1 rfl ?_
  refine go_if_le 8 7 dX12_takePart_4 rfl (by decide) (fun _ => ?_) (fun _ => ?_)
  · refine go_aload_n 0 9 dX12_takePart_8 rfl rfl ?_
    refine go_getR flX12_24 h0 12 dX12_takePart_9 rfl ?_
    refine go_aload_n 0 13 dX12_takePart_12 rfl rfl ?_
    refine go_getI flX12_162 (by decide) h0 16 dX12_takePart_13 rfl ?_
    refine go_iald (rk12_4 h0) 17 dX12_takePart_16 rfl ?_
    refine go_iconst 2 18 dX12_takePart_17 rfl (by decide) ?_
    refine go_icmp_ne 25 21 dX12_takePart_18 rfl (by decide) (fun _ => ?_) (fun _ => ?_)
    · refine go_iconst 0 26 dX12_takePart_25 rfl (by decide) ?_
      exact go_lv [0, 1] rfl (s_X12_takePart_26 w d r0 r1 r2 r3 r4 hr0 hr1 hr2 hr3 hr4 hdd o0 h0 x1 0 M)
    · refine go_iconst 1 22 dX12_takePart_21 rfl (by decide) ?_
      refine go_goto 26 dX12_takePart_22 (by decide) ?_
      exact go_lv [0, 1] rfl (s_X12_takePart_26 w d r0 r1 r2 r3 r4 hr0 hr1 hr2 hr3 hr4 hdd o0 h0 x1 1 M)
  · exact go_vret rfl dX12_takePart_7
def fS0 (w : Nat) : Nat → (Nat → Int32 → mM → Option mM) × (Nat → Int32 → mM → Option mM) × (Nat → Int32 → mM → Option mM) × (Nat → Int32 → mM → Option mM) × (Nat → Int32 → mM → Option mM)
  | 0 => (fun _ _ _ => none, fun _ _ _ => none, fun _ _ _ => none, fun _ _ _ => none, fun _ _ _ => none)
  | d + 1 => (f_X12_whole_b w (fS0 w d).1 (fS0 w d).2.1 (fS0 w d).2.2.1 (fS0 w d).2.2.2.1 (fS0 w d).2.2.2.2, f_X12_test_b w (fS0 w d).1 (fS0 w d).2.1 (fS0 w d).2.2.1 (fS0 w d).2.2.2.1 (fS0 w d).2.2.2.2, f_X12_sums_b w (fS0 w d).1 (fS0 w d).2.1 (fS0 w d).2.2.1 (fS0 w d).2.2.2.1 (fS0 w d).2.2.2.2, f_X12_products_b w (fS0 w d).1 (fS0 w d).2.1 (fS0 w d).2.2.1 (fS0 w d).2.2.2.1 (fS0 w d).2.2.2.2, f_X12_takePart_b w (fS0 w d).1 (fS0 w d).2.1 (fS0 w d).2.2.1 (fS0 w d).2.2.2.1 (fS0 w d).2.2.2.2)
theorem fS0_s (w d : Nat) : fS0 w (d + 1) = (f_X12_whole_b w (fS0 w d).1 (fS0 w d).2.1 (fS0 w d).2.2.1 (fS0 w d).2.2.2.1 (fS0 w d).2.2.2.2, f_X12_test_b w (fS0 w d).1 (fS0 w d).2.1 (fS0 w d).2.2.1 (fS0 w d).2.2.2.1 (fS0 w d).2.2.2.2, f_X12_sums_b w (fS0 w d).1 (fS0 w d).2.1 (fS0 w d).2.2.1 (fS0 w d).2.2.2.1 (fS0 w d).2.2.2.2, f_X12_products_b w (fS0 w d).1 (fS0 w d).2.1 (fS0 w d).2.2.1 (fS0 w d).2.2.2.1 (fS0 w d).2.2.2.2, f_X12_takePart_b w (fS0 w d).1 (fS0 w d).2.1 (fS0 w d).2.2.1 (fS0 w d).2.2.2.1 (fS0 w d).2.2.2.2) := rfl
abbrev f_X12_whole (w d : Nat) : Nat → Int32 → mM → Option mM := (fS0 w d).1
abbrev f_X12_test (w d : Nat) : Nat → Int32 → mM → Option mM := (fS0 w d).2.1
abbrev f_X12_sums (w d : Nat) : Nat → Int32 → mM → Option mM := (fS0 w d).2.2.1
abbrev f_X12_products (w d : Nat) : Nat → Int32 → mM → Option mM := (fS0 w d).2.2.2.1
abbrev f_X12_takePart (w d : Nat) : Nat → Int32 → mM → Option mM := (fS0 w d).2.2.2.2
theorem fS0_m {l : Launch} {G : mG} {sk : List mS} (w : Nat) : ∀ d : Nat, (∀ (o0 : Nat) (h0 : isK o0 22) (x1 : Int32) (M : mM), Mt l G sk yX12_whole muX12_whole (2 + d) [.ref (gB G + o0), .int x1] M eV ((fS0 w d).1 o0 x1 M)) ∧ (∀ (o0 : Nat) (h0 : isK o0 22) (x1 : Int32) (M : mM), Mt l G sk yX12_test muX12_test (2 + d) [.ref (gB G + o0), .int x1] M eV ((fS0 w d).2.1 o0 x1 M)) ∧ (∀ (o0 : Nat) (h0 : isK o0 22) (x1 : Int32) (M : mM), Mt l G sk yX12_sums muX12_sums (2 + d) [.ref (gB G + o0), .int x1] M eV ((fS0 w d).2.2.1 o0 x1 M)) ∧ (∀ (o0 : Nat) (h0 : isK o0 22) (x1 : Int32) (M : mM), Mt l G sk yX12_products muX12_products (2 + d) [.ref (gB G + o0), .int x1] M eV ((fS0 w d).2.2.2.1 o0 x1 M)) ∧ (∀ (o0 : Nat) (h0 : isK o0 22) (x1 : Int32) (M : mM), Mt l G sk yX12_takePart muX12_takePart (2 + d) [.ref (gB G + o0), .int x1] M eV ((fS0 w d).2.2.2.2 o0 x1 M)) := by
  intro d
  induction d with
  | zero => exact ⟨(by intros; intro _ x h; cases h), (by intros; intro _ x h; cases h), (by intros; intro _ x h; cases h), (by intros; intro _ x h; cases h), (by intros; intro _ x h; cases h)⟩
  | succ d ih =>
    rw [fS0_s]
    exact ⟨fun o0 h0 x1 M => Mt.of (by decide) rfl (Nat.le_of_ble_eq_true rfl) (s_X12_whole_b w (2 + d) (fS0 w d).1 (fS0 w d).2.1 (fS0 w d).2.2.1 (fS0 w d).2.2.2.1 (fS0 w d).2.2.2.2 ih.1 ih.2.1 ih.2.2.1 ih.2.2.2.1 ih.2.2.2.2 (by omega) o0 h0 x1 M), fun o0 h0 x1 M => Mt.of (by decide) rfl (Nat.le_of_ble_eq_true rfl) (s_X12_test_b w (2 + d) (fS0 w d).1 (fS0 w d).2.1 (fS0 w d).2.2.1 (fS0 w d).2.2.2.1 (fS0 w d).2.2.2.2 ih.1 ih.2.1 ih.2.2.1 ih.2.2.2.1 ih.2.2.2.2 (by omega) o0 h0 x1 M), fun o0 h0 x1 M => Mt.of (by decide) rfl (Nat.le_of_ble_eq_true rfl) (s_X12_sums_b w (2 + d) (fS0 w d).1 (fS0 w d).2.1 (fS0 w d).2.2.1 (fS0 w d).2.2.2.1 (fS0 w d).2.2.2.2 ih.1 ih.2.1 ih.2.2.1 ih.2.2.2.1 ih.2.2.2.2 (by omega) o0 h0 x1 M), fun o0 h0 x1 M => Mt.of (by decide) rfl (Nat.le_of_ble_eq_true rfl) (s_X12_products_b w (2 + d) (fS0 w d).1 (fS0 w d).2.1 (fS0 w d).2.2.1 (fS0 w d).2.2.2.1 (fS0 w d).2.2.2.2 ih.1 ih.2.1 ih.2.2.1 ih.2.2.2.1 ih.2.2.2.2 (by omega) o0 h0 x1 M), fun o0 h0 x1 M => Mt.of (by decide) rfl (Nat.le_of_ble_eq_true rfl) (s_X12_takePart_b w (2 + d) (fS0 w d).1 (fS0 w d).2.1 (fS0 w d).2.2.1 (fS0 w d).2.2.2.1 (fS0 w d).2.2.2.2 ih.1 ih.2.1 ih.2.2.1 ih.2.2.2.1 ih.2.2.2.2 (by omega) o0 h0 x1 M)⟩
theorem m_X12_whole {l : Launch} {G : mG} {sk : List mS} (w d : Nat) (o0 : Nat) (h0 : isK o0 22) (x1 : Int32) (M : mM) : Mt l G sk yX12_whole muX12_whole (2 + d) [.ref (gB G + o0), .int x1] M eV (f_X12_whole w d o0 x1 M) := (fS0_m w d).1 o0 h0 x1 M
theorem m_X12_test {l : Launch} {G : mG} {sk : List mS} (w d : Nat) (o0 : Nat) (h0 : isK o0 22) (x1 : Int32) (M : mM) : Mt l G sk yX12_test muX12_test (2 + d) [.ref (gB G + o0), .int x1] M eV (f_X12_test w d o0 x1 M) := (fS0_m w d).2.1 o0 h0 x1 M
theorem m_X12_sums {l : Launch} {G : mG} {sk : List mS} (w d : Nat) (o0 : Nat) (h0 : isK o0 22) (x1 : Int32) (M : mM) : Mt l G sk yX12_sums muX12_sums (2 + d) [.ref (gB G + o0), .int x1] M eV (f_X12_sums w d o0 x1 M) := (fS0_m w d).2.2.1 o0 h0 x1 M
theorem m_X12_products {l : Launch} {G : mG} {sk : List mS} (w d : Nat) (o0 : Nat) (h0 : isK o0 22) (x1 : Int32) (M : mM) : Mt l G sk yX12_products muX12_products (2 + d) [.ref (gB G + o0), .int x1] M eV (f_X12_products w d o0 x1 M) := (fS0_m w d).2.2.2.1 o0 h0 x1 M
theorem m_X12_takePart {l : Launch} {G : mG} {sk : List mS} (w d : Nat) (o0 : Nat) (h0 : isK o0 22) (x1 : Int32) (M : mM) : Mt l G sk yX12_takePart muX12_takePart (2 + d) [.ref (gB G + o0), .int x1] M eV (f_X12_takePart w d o0 x1 M) := (fS0_m w d).2.2.2.2 o0 h0 x1 M
theorem dX12_readOnce_0 : decode cX12_readOnce 0 = .ok (.aload_n 0, 1) := by decide +kernel
theorem dX12_readOnce_1 : decode cX12_readOnce 1 = .ok (.iconst 5, 1) := by decide +kernel
theorem dX12_readOnce_2 : decode cX12_readOnce 2 = .ok (.iconst 2, 1) := by decide +kernel
theorem dX12_readOnce_3 : decode cX12_readOnce 3 = .ok (.invokevirtual 187, 3) := by decide +kernel
theorem dX12_readOnce_6 : decode cX12_readOnce 6 = .ok (.istore_n 1, 1) := by decide +kernel
theorem dX12_readOnce_7 : decode cX12_readOnce 7 = .ok (.iload_n 1, 1) := by decide +kernel
theorem dX12_readOnce_8 : decode cX12_readOnce 8 = .ok (.ifCond .ge 11, 3) := by decide +kernel
theorem dX12_readOnce_11 : decode cX12_readOnce 11 = .ok (.aload_n 0, 1) := by decide +kernel
theorem dX12_readOnce_12 : decode cX12_readOnce 12 = .ok (.iconst 1, 1) := by decide +kernel
theorem dX12_readOnce_13 : decode cX12_readOnce 13 = .ok (.invokevirtual 171, 3) := by decide +kernel
theorem dX12_readOnce_16 : decode cX12_readOnce 16 = .ok (.goto 20, 3) := by decide +kernel
theorem dX12_readOnce_19 : decode cX12_readOnce 19 = .ok (.aload_n 0, 1) := by decide +kernel
theorem dX12_readOnce_20 : decode cX12_readOnce 20 = .ok (.getfield 214, 3) := by decide +kernel
theorem dX12_readOnce_23 : decode cX12_readOnce 23 = .ok (.iload_n 1, 1) := by decide +kernel
theorem dX12_readOnce_24 : decode cX12_readOnce 24 = .ok (.ishr, 1) := by decide +kernel
theorem dX12_readOnce_25 : decode cX12_readOnce 25 = .ok (.iconst 1, 1) := by decide +kernel
theorem dX12_readOnce_26 : decode cX12_readOnce 26 = .ok (.iand, 1) := by decide +kernel
theorem dX12_readOnce_27 : decode cX12_readOnce 27 = .ok (.iconst 1, 1) := by decide +kernel
theorem dX12_readOnce_28 : decode cX12_readOnce 28 = .ok (.if_icmp .ne 8, 3) := by decide +kernel
theorem dX12_readOnce_31 : decode cX12_readOnce 31 = .ok (.aload_n 0, 1) := by decide +kernel
theorem dX12_readOnce_32 : decode cX12_readOnce 32 = .ok (.iconst 3, 1) := by decide +kernel
theorem dX12_readOnce_33 : decode cX12_readOnce 33 = .ok (.invokevirtual 171, 3) := by decide +kernel
theorem dX12_readOnce_36 : decode cX12_readOnce 36 = .ok (.aload_n 0, 1) := by decide +kernel
theorem dX12_readOnce_37 : decode cX12_readOnce 37 = .ok (.getfield 165, 3) := by decide +kernel
theorem dX12_readOnce_40 : decode cX12_readOnce 40 = .ok (.ifCond .le 4, 3) := by decide +kernel
theorem dX12_readOnce_43 : decode cX12_readOnce 43 = .ok (.return_, 1) := by decide +kernel
theorem dX12_readOnce_44 : decode cX12_readOnce 44 = .ok (.aload_n 0, 1) := by decide +kernel
theorem dX12_readOnce_45 : decode cX12_readOnce 45 = .ok (.dup, 1) := by decide +kernel
theorem dX12_readOnce_46 : decode cX12_readOnce 46 = .ok (.getfield 214, 3) := by decide +kernel
theorem dX12_readOnce_49 : decode cX12_readOnce 49 = .ok (.iconst 1, 1) := by decide +kernel
theorem dX12_readOnce_50 : decode cX12_readOnce 50 = .ok (.iload_n 1, 1) := by decide +kernel
theorem dX12_readOnce_51 : decode cX12_readOnce 51 = .ok (.ishl, 1) := by decide +kernel
theorem dX12_readOnce_52 : decode cX12_readOnce 52 = .ok (.ior, 1) := by decide +kernel
theorem dX12_readOnce_53 : decode cX12_readOnce 53 = .ok (.putfield 214, 3) := by decide +kernel
theorem dX12_readOnce_56 : decode cX12_readOnce 56 = .ok (.aload_n 0, 1) := by decide +kernel
theorem dX12_readOnce_57 : decode cX12_readOnce 57 = .ok (.dup, 1) := by decide +kernel
theorem dX12_readOnce_58 : decode cX12_readOnce 58 = .ok (.getfield 162, 3) := by decide +kernel
theorem dX12_readOnce_61 : decode cX12_readOnce 61 = .ok (.iconst 1, 1) := by decide +kernel
theorem dX12_readOnce_62 : decode cX12_readOnce 62 = .ok (.iadd, 1) := by decide +kernel
theorem dX12_readOnce_63 : decode cX12_readOnce 63 = .ok (.putfield 162, 3) := by decide +kernel
theorem dX12_readOnce_66 : decode cX12_readOnce 66 = .ok (.iload_n 1, 1) := by decide +kernel
theorem dX12_readOnce_67 : decode cX12_readOnce 67 = .ok (.ifCond .ne 10, 3) := by decide +kernel
theorem dX12_readOnce_70 : decode cX12_readOnce 70 = .ok (.aload_n 0, 1) := by decide +kernel
theorem dX12_readOnce_71 : decode cX12_readOnce 71 = .ok (.invokevirtual 244, 3) := by decide +kernel
theorem dX12_readOnce_74 : decode cX12_readOnce 74 = .ok (.goto 25, 3) := by decide +kernel
theorem dX12_readOnce_77 : decode cX12_readOnce 77 = .ok (.aload_n 0, 1) := by decide +kernel
theorem dX12_readOnce_78 : decode cX12_readOnce 78 = .ok (.getfield 83, 3) := by decide +kernel
theorem dX12_readOnce_81 : decode cX12_readOnce 81 = .ok (.bipush 64, 2) := by decide +kernel
theorem dX12_readOnce_83 : decode cX12_readOnce 83 = .ok (.aload_n 0, 1) := by decide +kernel
theorem dX12_readOnce_84 : decode cX12_readOnce 84 = .ok (.getfield 211, 3) := by decide +kernel
theorem dX12_readOnce_87 : decode cX12_readOnce 87 = .ok (.iastore, 1) := by decide +kernel
theorem dX12_readOnce_88 : decode cX12_readOnce 88 = .ok (.aload_n 0, 1) := by decide +kernel
theorem dX12_readOnce_89 : decode cX12_readOnce 89 = .ok (.iconst 0, 1) := by decide +kernel
theorem dX12_readOnce_90 : decode cX12_readOnce 90 = .ok (.invokevirtual 247, 3) := by decide +kernel
theorem dX12_readOnce_93 : decode cX12_readOnce 93 = .ok (.aload_n 0, 1) := by decide +kernel
theorem dX12_readOnce_94 : decode cX12_readOnce 94 = .ok (.iconst 0, 1) := by decide +kernel
theorem dX12_readOnce_95 : decode cX12_readOnce 95 = .ok (.iconst 0, 1) := by decide +kernel
theorem dX12_readOnce_96 : decode cX12_readOnce 96 = .ok (.invokevirtual 250, 3) := by decide +kernel
theorem dX12_readOnce_99 : decode cX12_readOnce 99 = .ok (.return_, 1) := by decide +kernel
def f_X12_readOnce_36 (w : Nat) (o0 : Nat) (x1 : Int32) (M : mM) : Option mM := (if (M.1 o0 8) ≤ 0 then lt (wI M o0 20 ((M.1 o0 20) ||| ((1 : Int32) <<< (x1 &&& 31)))) fun M1 => lt (wI M1 o0 7 ((M1.1 o0 7) + 1)) fun M2 => (if x1 = 0 then bV (f_X12_readDamp w o0 M2) fun M6 => some M6 else chk 64 (sL (rF o0 10)) (lt (wI M2 (rF o0 10) (64 : Int32).toNatClampNeg (M2.1 o0 13)) fun M3 => bV (f_X12_whole w 60 o0 0 M3) fun M4 => bV (f_X12_emit w o0 0 0 M4) fun M5 => some M5)) else some M)
set_option maxHeartbeats 4000000 in
set_option maxRecDepth 100000 in
theorem s_X12_readOnce_36 {l : Launch} {G : mG} {sk : List mS} (w : Nat) (o0 : Nat) (h0 : isK o0 22) (x1 : Int32) (M : mM) : Go muX12_readOnce (rm 63) 0 0 l G sk (mFin G sk eV) (f_X12_readOnce_36 w o0 x1 M) 36 [(0, .ref (gB G + o0)), (1, .int x1)] [] M := by
  unfold f_X12_readOnce_36
  refine go_aload_n 0 37 dX12_readOnce_36 rfl rfl ?_
  refine go_getI flX12_165 (by decide) h0 40 dX12_readOnce_37 rfl ?_
  refine go_if_le 44 43 dX12_readOnce_40 rfl (by decide) (fun _ => ?_) (fun _ => ?_)
  · refine go_aload_n 0 45 dX12_readOnce_44 rfl rfl ?_
    refine go_dup 46 dX12_readOnce_45 rfl rfl ?_
    refine go_getI flX12_214 (by decide) h0 49 dX12_readOnce_46 rfl ?_
    refine go_iconst 1 50 dX12_readOnce_49 rfl (by decide) ?_
    refine go_iload_n 1 51 dX12_readOnce_50 rfl rfl ?_
    refine go_ishl 52 dX12_readOnce_51 rfl ?_
    refine go_ior 53 dX12_readOnce_52 rfl ?_
    refine go_putI flX12_214 rfl rfl h0 56 dX12_readOnce_53 rfl ?_
    refine go_nmM (fun M1 => ?_)
    refine go_aload_n 0 57 dX12_readOnce_56 rfl rfl ?_
    refine go_dup 58 dX12_readOnce_57 rfl rfl ?_
    refine go_getI flX12_162 (by decide) h0 61 dX12_readOnce_58 rfl ?_
    refine go_iconst 1 62 dX12_readOnce_61 rfl (by decide) ?_
    refine go_iadd 63 dX12_readOnce_62 rfl ?_
    refine go_putI flX12_162 rfl rfl h0 66 dX12_readOnce_63 rfl ?_
    refine go_nmM (fun M2 => ?_)
    refine go_iload_n 1 67 dX12_readOnce_66 rfl rfl ?_
    refine go_if_ne 77 70 dX12_readOnce_67 rfl (by decide) (fun _ => ?_) (fun _ => ?_)
    · refine go_aload_n 0 78 dX12_readOnce_77 rfl rfl ?_
      refine go_getR flX12_83 h0 81 dX12_readOnce_78 rfl ?_
      refine go_bipush 64 83 dX12_readOnce_81 rfl (by decide) ?_
      refine go_aload_n 0 84 dX12_readOnce_83 rfl rfl ?_
      refine go_getI flX12_211 (by decide) h0 87 dX12_readOnce_84 rfl ?_
      refine go_iast (rk12_10 h0) 88 dX12_readOnce_87 rfl ?_
      refine go_nmM (fun M3 => ?_)
      refine go_aload_n 0 89 dX12_readOnce_88 rfl rfl ?_
      refine go_iconst 0 90 dX12_readOnce_89 rfl (by decide) ?_
      refine go_cVV1 62 clX12 cwX12_247 (m_X12_whole w 60 o0 h0 0 M3) h0 93 dX12_readOnce_90 rfl ⟨Nat.le_of_ble_eq_true rfl, Nat.le_of_ble_eq_true rfl⟩ ⟨Nat.zero_le _, Nat.zero_le _⟩ (Nat.le_of_ble_eq_true rfl) (fun M4 _ => ?_)
      refine go_aload_n 0 94 dX12_readOnce_93 rfl rfl ?_
      refine go_iconst 0 95 dX12_readOnce_94 rfl (by decide) ?_
      refine go_iconst 0 96 dX12_readOnce_95 rfl (by decide) ?_
      refine go_cVV2 0 clX12 cwX12_250 (m_X12_emit w o0 h0 0 0 M4) h0 99 dX12_readOnce_96 rfl ⟨Nat.le_of_ble_eq_true rfl, Nat.le_of_ble_eq_true rfl⟩ ⟨Nat.zero_le _, Nat.zero_le _⟩ (Nat.le_of_ble_eq_true rfl) (fun M5 _ => ?_)
      exact go_vret rfl dX12_readOnce_99
    · refine go_aload_n 0 71 dX12_readOnce_70 rfl rfl ?_
      refine go_cVV0 2 clX12 cwX12_244 (m_X12_readDamp w o0 h0 M2) h0 74 dX12_readOnce_71 rfl ⟨Nat.le_of_ble_eq_true rfl, Nat.le_of_ble_eq_true rfl⟩ ⟨Nat.zero_le _, Nat.zero_le _⟩ (Nat.le_of_ble_eq_true rfl) (fun M6 _ => ?_)
      refine go_goto 99 dX12_readOnce_74 (by decide) ?_
      exact go_vret rfl dX12_readOnce_99
  · exact go_vret rfl dX12_readOnce_43
def f_X12_readOnce (w : Nat) (o0 : Nat) (M : mM) : Option mM := bI (f_X12_wordHere w o0 5 2 M) fun q2 M1 => (if 0 ≤ q2 then (if (((M1.1 o0 20) >>> (q2 &&& 31)) &&& 1) = 1 then bV (f_X12_wrong w o0 3 M1) fun M3 => (f_X12_readOnce_36 w o0 q2 M3) else (f_X12_readOnce_36 w o0 q2 M1)) else bV (f_X12_wrong w o0 1 M1) fun M4 => (f_X12_readOnce_36 w o0 q2 M4))
set_option maxHeartbeats 4000000 in
set_option maxRecDepth 100000 in
theorem s_X12_readOnce {l : Launch} {G : mG} {sk : List mS} (w : Nat) (o0 : Nat) (h0 : isK o0 22) (M : mM) : Go muX12_readOnce (rm 63) 0 0 l G sk (mFin G sk eV) (f_X12_readOnce w o0 M) 0 [(0, .ref (gB G + o0))] [] M := by
  unfold f_X12_readOnce
  refine go_aload_n 0 1 dX12_readOnce_0 rfl rfl ?_
  refine go_iconst 5 2 dX12_readOnce_1 rfl (by decide) ?_
  refine go_iconst 2 3 dX12_readOnce_2 rfl (by decide) ?_
  refine go_cVI2 1 clX12 cwX12_187 (m_X12_wordHere w o0 h0 5 2 M) h0 6 dX12_readOnce_3 rfl ⟨Nat.le_of_ble_eq_true rfl, Nat.le_of_ble_eq_true rfl⟩ ⟨Nat.zero_le _, Nat.zero_le _⟩ (Nat.le_of_ble_eq_true rfl) (fun q2 M1 _ => ?_)
  refine go_istore_n [(1, .int q2), (0, .ref (gB G + o0))] 7 dX12_readOnce_6 rfl rfl (by decide) rfl ?_
  refine go_iload_n 0 8 dX12_readOnce_7 rfl rfl ?_
  refine go_if_ge 19 11 dX12_readOnce_8 rfl (by decide) (fun _ => ?_) (fun _ => ?_)
  · refine go_aload_n 1 20 dX12_readOnce_19 rfl rfl ?_
    refine go_getI flX12_214 (by decide) h0 23 dX12_readOnce_20 rfl ?_
    refine go_iload_n 0 24 dX12_readOnce_23 rfl rfl ?_
    refine go_ishr 25 dX12_readOnce_24 rfl ?_
    refine go_iconst 1 26 dX12_readOnce_25 rfl (by decide) ?_
    refine go_iand 27 dX12_readOnce_26 rfl ?_
    refine go_iconst 1 28 dX12_readOnce_27 rfl (by decide) ?_
    refine go_icmp_ne 36 31 dX12_readOnce_28 rfl (by decide) (fun _ => ?_) (fun _ => ?_)
    · exact go_lv [1, 0] rfl (s_X12_readOnce_36 w o0 h0 q2 M1)
    · refine go_aload_n 1 32 dX12_readOnce_31 rfl rfl ?_
      refine go_iconst 3 33 dX12_readOnce_32 rfl (by decide) ?_
      refine go_cVV1 0 clX12 cwX12_171 (m_X12_wrong w o0 h0 3 M1) h0 36 dX12_readOnce_33 rfl ⟨Nat.le_of_ble_eq_true rfl, Nat.le_of_ble_eq_true rfl⟩ ⟨Nat.zero_le _, Nat.zero_le _⟩ (Nat.le_of_ble_eq_true rfl) (fun M3 _ => ?_)
      exact go_lv [1, 0] rfl (s_X12_readOnce_36 w o0 h0 q2 M3)
  · refine go_aload_n 1 12 dX12_readOnce_11 rfl rfl ?_
    refine go_iconst 1 13 dX12_readOnce_12 rfl (by decide) ?_
    refine go_cVV1 0 clX12 cwX12_171 (m_X12_wrong w o0 h0 1 M1) h0 16 dX12_readOnce_13 rfl ⟨Nat.le_of_ble_eq_true rfl, Nat.le_of_ble_eq_true rfl⟩ ⟨Nat.zero_le _, Nat.zero_le _⟩ (Nat.le_of_ble_eq_true rfl) (fun M4 _ => ?_)
    refine go_goto 36 dX12_readOnce_16 (by decide) ?_
    exact go_lv [1, 0] rfl (s_X12_readOnce_36 w o0 h0 q2 M4)
theorem m_X12_readOnce {l : Launch} {G : mG} {sk : List mS} (w : Nat) (o0 : Nat) (h0 : isK o0 22) (M : mM) : Mt l G sk yX12_readOnce muX12_readOnce 63 [.ref (gB G + o0)] M eV (f_X12_readOnce w o0 M) := Mt.of (by decide) rfl (Nat.le_of_ble_eq_true rfl) (s_X12_readOnce w o0 h0 M)
theorem dX12_readLine_0 : decode cX12_readLine 0 = .ok (.aload_n 0, 1) := by decide +kernel
theorem dX12_readLine_1 : decode cX12_readLine 1 = .ok (.iconst 0, 1) := by decide +kernel
theorem dX12_readLine_2 : decode cX12_readLine 2 = .ok (.invokevirtual 174, 3) := by decide +kernel
theorem dX12_readLine_5 : decode cX12_readLine 5 = .ok (.ifCond .eq 14, 3) := by decide +kernel
theorem dX12_readLine_8 : decode cX12_readLine 8 = .ok (.aload_n 0, 1) := by decide +kernel
theorem dX12_readLine_9 : decode cX12_readLine 9 = .ok (.iconst 0, 1) := by decide +kernel
theorem dX12_readLine_10 : decode cX12_readLine 10 = .ok (.bipush 7, 2) := by decide +kernel
theorem dX12_readLine_12 : decode cX12_readLine 12 = .ok (.iconst 0, 1) := by decide +kernel
theorem dX12_readLine_13 : decode cX12_readLine 13 = .ok (.invokevirtual 223, 3) := by decide +kernel
theorem dX12_readLine_16 : decode cX12_readLine 16 = .ok (.goto 79, 3) := by decide +kernel
theorem dX12_readLine_19 : decode cX12_readLine 19 = .ok (.aload_n 0, 1) := by decide +kernel
theorem dX12_readLine_20 : decode cX12_readLine 20 = .ok (.iconst 1, 1) := by decide +kernel
theorem dX12_readLine_21 : decode cX12_readLine 21 = .ok (.invokevirtual 174, 3) := by decide +kernel
theorem dX12_readLine_24 : decode cX12_readLine 24 = .ok (.ifCond .eq 10, 3) := by decide +kernel
theorem dX12_readLine_27 : decode cX12_readLine 27 = .ok (.aload_n 0, 1) := by decide +kernel
theorem dX12_readLine_28 : decode cX12_readLine 28 = .ok (.invokevirtual 227, 3) := by decide +kernel
theorem dX12_readLine_31 : decode cX12_readLine 31 = .ok (.goto 64, 3) := by decide +kernel
theorem dX12_readLine_34 : decode cX12_readLine 34 = .ok (.aload_n 0, 1) := by decide +kernel
theorem dX12_readLine_35 : decode cX12_readLine 35 = .ok (.iconst 3, 1) := by decide +kernel
theorem dX12_readLine_36 : decode cX12_readLine 36 = .ok (.invokevirtual 174, 3) := by decide +kernel
theorem dX12_readLine_39 : decode cX12_readLine 39 = .ok (.ifCond .eq 52, 3) := by decide +kernel
theorem dX12_readLine_42 : decode cX12_readLine 42 = .ok (.bipush 97, 2) := by decide +kernel
theorem dX12_readLine_44 : decode cX12_readLine 44 = .ok (.aload_n 0, 1) := by decide +kernel
theorem dX12_readLine_45 : decode cX12_readLine 45 = .ok (.getfield 83, 3) := by decide +kernel
theorem dX12_readLine_48 : decode cX12_readLine 48 = .ok (.bipush 62, 2) := by decide +kernel
theorem dX12_readLine_50 : decode cX12_readLine 50 = .ok (.iaload, 1) := by decide +kernel
theorem dX12_readLine_51 : decode cX12_readLine 51 = .ok (.iadd, 1) := by decide +kernel
theorem dX12_readLine_52 : decode cX12_readLine 52 = .ok (.istore_n 1, 1) := by decide +kernel
theorem dX12_readLine_53 : decode cX12_readLine 53 = .ok (.aload_n 0, 1) := by decide +kernel
theorem dX12_readLine_54 : decode cX12_readLine 54 = .ok (.iconst 2, 1) := by decide +kernel
theorem dX12_readLine_55 : decode cX12_readLine 55 = .ok (.iconst 5, 1) := by decide +kernel
theorem dX12_readLine_56 : decode cX12_readLine 56 = .ok (.bipush 20, 2) := by decide +kernel
theorem dX12_readLine_58 : decode cX12_readLine 58 = .ok (.invokevirtual 223, 3) := by decide +kernel
theorem dX12_readLine_61 : decode cX12_readLine 61 = .ok (.aload_n 0, 1) := by decide +kernel
theorem dX12_readLine_62 : decode cX12_readLine 62 = .ok (.iconst 4, 1) := by decide +kernel
theorem dX12_readLine_63 : decode cX12_readLine 63 = .ok (.invokevirtual 180, 3) := by decide +kernel
theorem dX12_readLine_66 : decode cX12_readLine 66 = .ok (.aload_n 0, 1) := by decide +kernel
theorem dX12_readLine_67 : decode cX12_readLine 67 = .ok (.iconst 1, 1) := by decide +kernel
theorem dX12_readLine_68 : decode cX12_readLine 68 = .ok (.iconst 0, 1) := by decide +kernel
theorem dX12_readLine_69 : decode cX12_readLine 69 = .ok (.iconst 0, 1) := by decide +kernel
theorem dX12_readLine_70 : decode cX12_readLine 70 = .ok (.invokevirtual 230, 3) := by decide +kernel
theorem dX12_readLine_73 : decode cX12_readLine 73 = .ok (.istore_n 2, 1) := by decide +kernel
theorem dX12_readLine_74 : decode cX12_readLine 74 = .ok (.aload_n 0, 1) := by decide +kernel
theorem dX12_readLine_75 : decode cX12_readLine 75 = .ok (.getfield 165, 3) := by decide +kernel
theorem dX12_readLine_78 : decode cX12_readLine 78 = .ok (.ifCond .ne 10, 3) := by decide +kernel
theorem dX12_readLine_81 : decode cX12_readLine 81 = .ok (.aload_n 0, 1) := by decide +kernel
theorem dX12_readLine_82 : decode cX12_readLine 82 = .ok (.getfield 83, 3) := by decide +kernel
theorem dX12_readLine_85 : decode cX12_readLine 85 = .ok (.iload_n 1, 1) := by decide +kernel
theorem dX12_readLine_86 : decode cX12_readLine 86 = .ok (.iload_n 2, 1) := by decide +kernel
theorem dX12_readLine_87 : decode cX12_readLine 87 = .ok (.iastore, 1) := by decide +kernel
theorem dX12_readLine_88 : decode cX12_readLine 88 = .ok (.goto 7, 3) := by decide +kernel
theorem dX12_readLine_91 : decode cX12_readLine 91 = .ok (.aload_n 0, 1) := by decide +kernel
theorem dX12_readLine_92 : decode cX12_readLine 92 = .ok (.invokevirtual 234, 3) := by decide +kernel
theorem dX12_readLine_95 : decode cX12_readLine 95 = .ok (.return_, 1) := by decide +kernel
def f_X12_readLine_88 (w : Nat) (M : mM) : Option mM := some M
set_option maxHeartbeats 4000000 in
set_option maxRecDepth 100000 in
theorem s_X12_readLine_88 {l : Launch} {G : mG} {sk : List mS} (w : Nat) (M : mM) : Go muX12_readLine (rm 64) 0 0 l G sk (mFin G sk eV) (f_X12_readLine_88 w M) 88 [] [] M := by
  unfold f_X12_readLine_88
  refine go_goto 95 dX12_readLine_88 (by decide) ?_
  exact go_vret rfl dX12_readLine_95
def f_X12_readLine (w : Nat) (o0 : Nat) (M : mM) : Option mM := bI (f_X12_isWord w o0 0 M) fun q2 M1 => (if q2 = 0 then bI (f_X12_isWord w o0 1 M1) fun q4 M3 => (if q4 = 0 then bI (f_X12_isWord w o0 3 M3) fun q6 M5 => (if q6 = 0 then bV (f_X12_readOnce w o0 M5) fun M7 => some M7 else chk 62 (sL (rF o0 10)) (lt (97 + (M5.1 (rF o0 10) (62 : Int32).toNatClampNeg)) fun y8 => bV (f_X12_readName w o0 2 5 20 M5) fun M9 => bV (f_X12_takeWord w o0 4 M9) fun M10 => bI (f_X12_takeTold w o0 1 0 0 M10) fun q12 M11 => (if (M11.1 o0 8) = 0 then chk y8 (sL (rF o0 10)) (lt (wI M11 (rF o0 10) y8.toNatClampNeg q12) fun M13 => (f_X12_readLine_88 w M13)) else (f_X12_readLine_88 w M11)))) else bV (f_X12_readDoor w o0 M3) fun M14 => some M14) else bV (f_X12_readName w o0 0 7 0 M1) fun M15 => some M15)
set_option maxHeartbeats 4000000 in
set_option maxRecDepth 100000 in
theorem s_X12_readLine {l : Launch} {G : mG} {sk : List mS} (w : Nat) (o0 : Nat) (h0 : isK o0 22) (M : mM) : Go muX12_readLine (rm 64) 0 0 l G sk (mFin G sk eV) (f_X12_readLine w o0 M) 0 [(0, .ref (gB G + o0))] [] M := by
  unfold f_X12_readLine
  refine go_aload_n 0 1 dX12_readLine_0 rfl rfl ?_
  refine go_iconst 0 2 dX12_readLine_1 rfl (by decide) ?_
  refine go_cVI1 0 clX12 cwX12_174 (m_X12_isWord w o0 h0 0 M) h0 5 dX12_readLine_2 rfl ⟨Nat.le_of_ble_eq_true rfl, Nat.le_of_ble_eq_true rfl⟩ ⟨Nat.zero_le _, Nat.zero_le _⟩ (Nat.le_of_ble_eq_true rfl) (fun q2 M1 _ => ?_)
  refine go_if_eq 19 8 dX12_readLine_5 rfl (by decide) (fun _ => ?_) (fun _ => ?_)
  · refine go_aload_n 0 20 dX12_readLine_19 rfl rfl ?_
    refine go_iconst 1 21 dX12_readLine_20 rfl (by decide) ?_
    refine go_cVI1 0 clX12 cwX12_174 (m_X12_isWord w o0 h0 1 M1) h0 24 dX12_readLine_21 rfl ⟨Nat.le_of_ble_eq_true rfl, Nat.le_of_ble_eq_true rfl⟩ ⟨Nat.zero_le _, Nat.zero_le _⟩ (Nat.le_of_ble_eq_true rfl) (fun q4 M3 _ => ?_)
    refine go_if_eq 34 27 dX12_readLine_24 rfl (by decide) (fun _ => ?_) (fun _ => ?_)
    · refine go_aload_n 0 35 dX12_readLine_34 rfl rfl ?_
      refine go_iconst 3 36 dX12_readLine_35 rfl (by decide) ?_
      refine go_cVI1 0 clX12 cwX12_174 (m_X12_isWord w o0 h0 3 M3) h0 39 dX12_readLine_36 rfl ⟨Nat.le_of_ble_eq_true rfl, Nat.le_of_ble_eq_true rfl⟩ ⟨Nat.zero_le _, Nat.zero_le _⟩ (Nat.le_of_ble_eq_true rfl) (fun q6 M5 _ => ?_)
      refine go_if_eq 91 42 dX12_readLine_39 rfl (by decide) (fun _ => ?_) (fun _ => ?_)
      · refine go_aload_n 0 92 dX12_readLine_91 rfl rfl ?_
        refine go_cVV0 63 clX12 cwX12_234 (m_X12_readOnce w o0 h0 M5) h0 95 dX12_readLine_92 rfl ⟨Nat.le_of_ble_eq_true rfl, Nat.le_of_ble_eq_true rfl⟩ ⟨Nat.zero_le _, Nat.zero_le _⟩ (Nat.le_of_ble_eq_true rfl) (fun M7 _ => ?_)
        exact go_vret rfl dX12_readLine_95
      · refine go_bipush 97 44 dX12_readLine_42 rfl (by decide) ?_
        refine go_aload_n 0 45 dX12_readLine_44 rfl rfl ?_
        refine go_getR flX12_83 h0 48 dX12_readLine_45 rfl ?_
        refine go_bipush 62 50 dX12_readLine_48 rfl (by decide) ?_
        refine go_iald (rk12_10 h0) 51 dX12_readLine_50 rfl ?_
        refine go_iadd 52 dX12_readLine_51 rfl ?_
        refine go_nmI (fun y8 => ?_)
        refine go_istore_n [(1, .int y8), (0, .ref (gB G + o0))] 53 dX12_readLine_52 rfl rfl (by decide) rfl ?_
        refine go_aload_n 1 54 dX12_readLine_53 rfl rfl ?_
        refine go_iconst 2 55 dX12_readLine_54 rfl (by decide) ?_
        refine go_iconst 5 56 dX12_readLine_55 rfl (by decide) ?_
        refine go_bipush 20 58 dX12_readLine_56 rfl (by decide) ?_
        refine go_cVV3 3 clX12 cwX12_223 (m_X12_readName w o0 h0 2 5 20 M5) h0 61 dX12_readLine_58 rfl ⟨Nat.le_of_ble_eq_true rfl, Nat.le_of_ble_eq_true rfl⟩ ⟨Nat.zero_le _, Nat.zero_le _⟩ (Nat.le_of_ble_eq_true rfl) (fun M9 _ => ?_)
        refine go_aload_n 1 62 dX12_readLine_61 rfl rfl ?_
        refine go_iconst 4 63 dX12_readLine_62 rfl (by decide) ?_
        refine go_cVV1 2 clX12 cwX12_180 (m_X12_takeWord w o0 h0 4 M9) h0 66 dX12_readLine_63 rfl ⟨Nat.le_of_ble_eq_true rfl, Nat.le_of_ble_eq_true rfl⟩ ⟨Nat.zero_le _, Nat.zero_le _⟩ (Nat.le_of_ble_eq_true rfl) (fun M10 _ => ?_)
        refine go_aload_n 1 67 dX12_readLine_66 rfl rfl ?_
        refine go_iconst 1 68 dX12_readLine_67 rfl (by decide) ?_
        refine go_iconst 0 69 dX12_readLine_68 rfl (by decide) ?_
        refine go_iconst 0 70 dX12_readLine_69 rfl (by decide) ?_
        refine go_cVI3 3 clX12 cwX12_230 (m_X12_takeTold w o0 h0 1 0 0 M10) h0 73 dX12_readLine_70 rfl ⟨Nat.le_of_ble_eq_true rfl, Nat.le_of_ble_eq_true rfl⟩ ⟨Nat.zero_le _, Nat.zero_le _⟩ (Nat.le_of_ble_eq_true rfl) (fun q12 M11 _ => ?_)
        refine go_istore_n [(2, .int q12), (1, .int y8), (0, .ref (gB G + o0))] 74 dX12_readLine_73 rfl rfl (by decide) rfl ?_
        refine go_aload_n 2 75 dX12_readLine_74 rfl rfl ?_
        refine go_getI flX12_165 (by decide) h0 78 dX12_readLine_75 rfl ?_
        refine go_if_ne 88 81 dX12_readLine_78 rfl (by decide) (fun _ => ?_) (fun _ => ?_)
        · exact go_lv [] rfl (s_X12_readLine_88 w M11)
        · refine go_aload_n 2 82 dX12_readLine_81 rfl rfl ?_
          refine go_getR flX12_83 h0 85 dX12_readLine_82 rfl ?_
          refine go_iload_n 1 86 dX12_readLine_85 rfl rfl ?_
          refine go_iload_n 0 87 dX12_readLine_86 rfl rfl ?_
          refine go_iast (rk12_10 h0) 88 dX12_readLine_87 rfl ?_
          refine go_nmM (fun M13 => ?_)
          exact go_lv [] rfl (s_X12_readLine_88 w M13)
    · refine go_aload_n 0 28 dX12_readLine_27 rfl rfl ?_
      refine go_cVV0 4 clX12 cwX12_227 (m_X12_readDoor w o0 h0 M3) h0 31 dX12_readLine_28 rfl ⟨Nat.le_of_ble_eq_true rfl, Nat.le_of_ble_eq_true rfl⟩ ⟨Nat.zero_le _, Nat.zero_le _⟩ (Nat.le_of_ble_eq_true rfl) (fun M14 _ => ?_)
      refine go_goto 95 dX12_readLine_31 (by decide) ?_
      exact go_vret rfl dX12_readLine_95
  · refine go_aload_n 0 9 dX12_readLine_8 rfl rfl ?_
    refine go_iconst 0 10 dX12_readLine_9 rfl (by decide) ?_
    refine go_bipush 7 12 dX12_readLine_10 rfl (by decide) ?_
    refine go_iconst 0 13 dX12_readLine_12 rfl (by decide) ?_
    refine go_cVV3 3 clX12 cwX12_223 (m_X12_readName w o0 h0 0 7 0 M1) h0 16 dX12_readLine_13 rfl ⟨Nat.le_of_ble_eq_true rfl, Nat.le_of_ble_eq_true rfl⟩ ⟨Nat.zero_le _, Nat.zero_le _⟩ (Nat.le_of_ble_eq_true rfl) (fun M15 _ => ?_)
    refine go_goto 95 dX12_readLine_16 (by decide) ?_
    exact go_vret rfl dX12_readLine_95
theorem m_X12_readLine {l : Launch} {G : mG} {sk : List mS} (w : Nat) (o0 : Nat) (h0 : isK o0 22) (M : mM) : Mt l G sk yX12_readLine muX12_readLine 64 [.ref (gB G + o0)] M eV (f_X12_readLine w o0 M) := Mt.of (by decide) rfl (Nat.le_of_ble_eq_true rfl) (s_X12_readLine w o0 h0 M)
theorem dX12_doors_0 : decode cX12_doors 0 = .ok (.aload_n 0, 1) := by decide +kernel
theorem dX12_doors_1 : decode cX12_doors 1 = .ok (.getfield 83, 3) := by decide +kernel
theorem dX12_doors_4 : decode cX12_doors 4 = .ok (.iconst 1, 1) := by decide +kernel
theorem dX12_doors_5 : decode cX12_doors 5 = .ok (.iaload, 1) := by decide +kernel
theorem dX12_doors_6 : decode cX12_doors 6 = .ok (.ireturn, 1) := by decide +kernel
def f_X12_doors (w : Nat) (o0 : Nat) (M : mM) : Option (Int32 × mM) := chk 1 (sL (rF o0 10)) (some ((M.1 (rF o0 10) (1 : Int32).toNatClampNeg), M))
set_option maxHeartbeats 4000000 in
set_option maxRecDepth 100000 in
theorem s_X12_doors {l : Launch} {G : mG} {sk : List mS} (w : Nat) (o0 : Nat) (h0 : isK o0 22) (M : mM) : Go muX12_doors (rm 0) 0 0 l G sk (mFin G sk eI) (f_X12_doors w o0 M) 0 [(0, .ref (gB G + o0))] [] M := by
  unfold f_X12_doors
  refine go_aload_n 0 1 dX12_doors_0 rfl rfl ?_
  refine go_getR flX12_83 h0 4 dX12_doors_1 rfl ?_
  refine go_iconst 1 5 dX12_doors_4 rfl (by decide) ?_
  refine go_iald (rk12_10 h0) 6 dX12_doors_5 rfl ?_
  exact go_iret rfl dX12_doors_6
theorem m_X12_doors {l : Launch} {G : mG} {sk : List mS} (w : Nat) (o0 : Nat) (h0 : isK o0 22) (M : mM) : Mt l G sk yX12_doors muX12_doors 0 [.ref (gB G + o0)] M eI (f_X12_doors w o0 M) := Mt.of (by decide) rfl (Nat.le_of_ble_eq_true rfl) (s_X12_doors w o0 h0 M)
theorem dX12_doorOf_0 : decode cX12_doorOf 0 = .ok (.aload_n 0, 1) := by decide +kernel
theorem dX12_doorOf_1 : decode cX12_doorOf 1 = .ok (.getfield 83, 3) := by decide +kernel
theorem dX12_doorOf_4 : decode cX12_doorOf 4 = .ok (.iconst 5, 1) := by decide +kernel
theorem dX12_doorOf_5 : decode cX12_doorOf 5 = .ok (.iconst 4, 1) := by decide +kernel
theorem dX12_doorOf_6 : decode cX12_doorOf 6 = .ok (.iload_n 1, 1) := by decide +kernel
theorem dX12_doorOf_7 : decode cX12_doorOf 7 = .ok (.imul, 1) := by decide +kernel
theorem dX12_doorOf_8 : decode cX12_doorOf 8 = .ok (.iadd, 1) := by decide +kernel
theorem dX12_doorOf_9 : decode cX12_doorOf 9 = .ok (.iload_n 2, 1) := by decide +kernel
theorem dX12_doorOf_10 : decode cX12_doorOf 10 = .ok (.iadd, 1) := by decide +kernel
theorem dX12_doorOf_11 : decode cX12_doorOf 11 = .ok (.iaload, 1) := by decide +kernel
theorem dX12_doorOf_12 : decode cX12_doorOf 12 = .ok (.ireturn, 1) := by decide +kernel
def f_X12_doorOf (w : Nat) (o0 : Nat) (x1 : Int32) (x2 : Int32) (M : mM) : Option (Int32 × mM) := chk ((5 + (4 * x1)) + x2) (sL (rF o0 10)) (some ((M.1 (rF o0 10) ((5 + (4 * x1)) + x2).toNatClampNeg), M))
set_option maxHeartbeats 4000000 in
set_option maxRecDepth 100000 in
theorem s_X12_doorOf {l : Launch} {G : mG} {sk : List mS} (w : Nat) (o0 : Nat) (h0 : isK o0 22) (x1 : Int32) (x2 : Int32) (M : mM) : Go muX12_doorOf (rm 0) 0 0 l G sk (mFin G sk eI) (f_X12_doorOf w o0 x1 x2 M) 0 [(0, .ref (gB G + o0)), (1, .int x1), (2, .int x2)] [] M := by
  unfold f_X12_doorOf
  refine go_aload_n 0 1 dX12_doorOf_0 rfl rfl ?_
  refine go_getR flX12_83 h0 4 dX12_doorOf_1 rfl ?_
  refine go_iconst 5 5 dX12_doorOf_4 rfl (by decide) ?_
  refine go_iconst 4 6 dX12_doorOf_5 rfl (by decide) ?_
  refine go_iload_n 1 7 dX12_doorOf_6 rfl rfl ?_
  refine go_imul 8 dX12_doorOf_7 rfl ?_
  refine go_iadd 9 dX12_doorOf_8 rfl ?_
  refine go_iload_n 2 10 dX12_doorOf_9 rfl rfl ?_
  refine go_iadd 11 dX12_doorOf_10 rfl ?_
  refine go_iald (rk12_10 h0) 12 dX12_doorOf_11 rfl ?_
  exact go_iret rfl dX12_doorOf_12
theorem m_X12_doorOf {l : Launch} {G : mG} {sk : List mS} (w : Nat) (o0 : Nat) (h0 : isK o0 22) (x1 : Int32) (x2 : Int32) (M : mM) : Mt l G sk yX12_doorOf muX12_doorOf 0 [.ref (gB G + o0), .int x1, .int x2] M eI (f_X12_doorOf w o0 x1 x2 M) := Mt.of (by decide) rfl (Nat.le_of_ble_eq_true rfl) (s_X12_doorOf w o0 h0 x1 x2 M)
theorem dX12_persons_0 : decode cX12_persons 0 = .ok (.aload_n 0, 1) := by decide +kernel
theorem dX12_persons_1 : decode cX12_persons 1 = .ok (.getfield 83, 3) := by decide +kernel
theorem dX12_persons_4 : decode cX12_persons 4 = .ok (.iconst 2, 1) := by decide +kernel
theorem dX12_persons_5 : decode cX12_persons 5 = .ok (.iaload, 1) := by decide +kernel
theorem dX12_persons_6 : decode cX12_persons 6 = .ok (.ireturn, 1) := by decide +kernel
def f_X12_persons (w : Nat) (o0 : Nat) (M : mM) : Option (Int32 × mM) := chk 2 (sL (rF o0 10)) (some ((M.1 (rF o0 10) (2 : Int32).toNatClampNeg), M))
set_option maxHeartbeats 4000000 in
set_option maxRecDepth 100000 in
theorem s_X12_persons {l : Launch} {G : mG} {sk : List mS} (w : Nat) (o0 : Nat) (h0 : isK o0 22) (M : mM) : Go muX12_persons (rm 0) 0 0 l G sk (mFin G sk eI) (f_X12_persons w o0 M) 0 [(0, .ref (gB G + o0))] [] M := by
  unfold f_X12_persons
  refine go_aload_n 0 1 dX12_persons_0 rfl rfl ?_
  refine go_getR flX12_83 h0 4 dX12_persons_1 rfl ?_
  refine go_iconst 2 5 dX12_persons_4 rfl (by decide) ?_
  refine go_iald (rk12_10 h0) 6 dX12_persons_5 rfl ?_
  exact go_iret rfl dX12_persons_6
theorem m_X12_persons {l : Launch} {G : mG} {sk : List mS} (w : Nat) (o0 : Nat) (h0 : isK o0 22) (M : mM) : Mt l G sk yX12_persons muX12_persons 0 [.ref (gB G + o0)] M eI (f_X12_persons w o0 M) := Mt.of (by decide) rfl (Nat.le_of_ble_eq_true rfl) (s_X12_persons w o0 h0 M)
theorem dX12_starts_0 : decode cX12_starts 0 = .ok (.iconst 0, 1) := by decide +kernel
theorem dX12_starts_1 : decode cX12_starts 1 = .ok (.istore_n 2, 1) := by decide +kernel
theorem dX12_starts_2 : decode cX12_starts 2 = .ok (.iload_n 2, 1) := by decide +kernel
theorem dX12_starts_3 : decode cX12_starts 3 = .ok (.bipush 23, 2) := by decide +kernel
theorem dX12_starts_5 : decode cX12_starts 5 = .ok (.if_icmp .ge 18, 3) := by decide +kernel
theorem dX12_starts_8 : decode cX12_starts 8 = .ok (.aload_n 0, 1) := by decide +kernel
theorem dX12_starts_9 : decode cX12_starts 9 = .ok (.getfield 113, 3) := by decide +kernel
theorem dX12_starts_12 : decode cX12_starts 12 = .ok (.iload_n 1, 1) := by decide +kernel
theorem dX12_starts_13 : decode cX12_starts 13 = .ok (.iload_n 2, 1) := by decide +kernel
theorem dX12_starts_14 : decode cX12_starts 14 = .ok (.iadd, 1) := by decide +kernel
theorem dX12_starts_15 : decode cX12_starts 15 = .ok (.iconst 0, 1) := by decide +kernel
theorem dX12_starts_16 : decode cX12_starts 16 = .ok (.iastore, 1) := by decide +kernel
theorem dX12_starts_17 : decode cX12_starts 17 = .ok (.iinc 2 1, 3) := by decide +kernel
theorem dX12_starts_20 : decode cX12_starts 20 = .ok (.goto (-18), 3) := by decide +kernel
theorem dX12_starts_23 : decode cX12_starts 23 = .ok (.iconst 0, 1) := by decide +kernel
theorem dX12_starts_24 : decode cX12_starts 24 = .ok (.istore_n 2, 1) := by decide +kernel
theorem dX12_starts_25 : decode cX12_starts 25 = .ok (.iload_n 2, 1) := by decide +kernel
theorem dX12_starts_26 : decode cX12_starts 26 = .ok (.aload_n 0, 1) := by decide +kernel
theorem dX12_starts_27 : decode cX12_starts 27 = .ok (.invokevirtual 272, 3) := by decide +kernel
theorem dX12_starts_30 : decode cX12_starts 30 = .ok (.if_icmp .ge 25, 3) := by decide +kernel
theorem dX12_starts_33 : decode cX12_starts 33 = .ok (.aload_n 0, 1) := by decide +kernel
theorem dX12_starts_34 : decode cX12_starts 34 = .ok (.getfield 113, 3) := by decide +kernel
theorem dX12_starts_37 : decode cX12_starts 37 = .ok (.iload_n 1, 1) := by decide +kernel
theorem dX12_starts_38 : decode cX12_starts 38 = .ok (.iconst 2, 1) := by decide +kernel
theorem dX12_starts_39 : decode cX12_starts 39 = .ok (.iadd, 1) := by decide +kernel
theorem dX12_starts_40 : decode cX12_starts 40 = .ok (.iload_n 2, 1) := by decide +kernel
theorem dX12_starts_41 : decode cX12_starts 41 = .ok (.iadd, 1) := by decide +kernel
theorem dX12_starts_42 : decode cX12_starts 42 = .ok (.aload_n 0, 1) := by decide +kernel
theorem dX12_starts_43 : decode cX12_starts 43 = .ok (.iload_n 2, 1) := by decide +kernel
theorem dX12_starts_44 : decode cX12_starts 44 = .ok (.iconst 3, 1) := by decide +kernel
theorem dX12_starts_45 : decode cX12_starts 45 = .ok (.invokevirtual 276, 3) := by decide +kernel
theorem dX12_starts_48 : decode cX12_starts 48 = .ok (.iastore, 1) := by decide +kernel
theorem dX12_starts_49 : decode cX12_starts 49 = .ok (.iinc 2 1, 3) := by decide +kernel
theorem dX12_starts_52 : decode cX12_starts 52 = .ok (.goto (-27), 3) := by decide +kernel
theorem dX12_starts_55 : decode cX12_starts 55 = .ok (.iconst 0, 1) := by decide +kernel
theorem dX12_starts_56 : decode cX12_starts 56 = .ok (.istore_n 2, 1) := by decide +kernel
theorem dX12_starts_57 : decode cX12_starts 57 = .ok (.iload_n 2, 1) := by decide +kernel
theorem dX12_starts_58 : decode cX12_starts 58 = .ok (.aload_n 0, 1) := by decide +kernel
theorem dX12_starts_59 : decode cX12_starts 59 = .ok (.invokevirtual 279, 3) := by decide +kernel
theorem dX12_starts_62 : decode cX12_starts 62 = .ok (.if_icmp .ge 29, 3) := by decide +kernel
theorem dX12_starts_65 : decode cX12_starts 65 = .ok (.aload_n 0, 1) := by decide +kernel
theorem dX12_starts_66 : decode cX12_starts 66 = .ok (.getfield 113, 3) := by decide +kernel
theorem dX12_starts_69 : decode cX12_starts 69 = .ok (.iload_n 1, 1) := by decide +kernel
theorem dX12_starts_70 : decode cX12_starts 70 = .ok (.bipush 18, 2) := by decide +kernel
theorem dX12_starts_72 : decode cX12_starts 72 = .ok (.iadd, 1) := by decide +kernel
theorem dX12_starts_73 : decode cX12_starts 73 = .ok (.iload_n 2, 1) := by decide +kernel
theorem dX12_starts_74 : decode cX12_starts 74 = .ok (.iadd, 1) := by decide +kernel
theorem dX12_starts_75 : decode cX12_starts 75 = .ok (.aload_n 0, 1) := by decide +kernel
theorem dX12_starts_76 : decode cX12_starts 76 = .ok (.getfield 83, 3) := by decide +kernel
theorem dX12_starts_79 : decode cX12_starts 79 = .ok (.bipush 37, 2) := by decide +kernel
theorem dX12_starts_81 : decode cX12_starts 81 = .ok (.iload_n 2, 1) := by decide +kernel
theorem dX12_starts_82 : decode cX12_starts 82 = .ok (.iadd, 1) := by decide +kernel
theorem dX12_starts_83 : decode cX12_starts 83 = .ok (.iaload, 1) := by decide +kernel
theorem dX12_starts_84 : decode cX12_starts 84 = .ok (.iastore, 1) := by decide +kernel
theorem dX12_starts_85 : decode cX12_starts 85 = .ok (.iinc 2 1, 3) := by decide +kernel
theorem dX12_starts_88 : decode cX12_starts 88 = .ok (.goto (-31), 3) := by decide +kernel
theorem dX12_starts_91 : decode cX12_starts 91 = .ok (.return_, 1) := by decide +kernel
def f_X12_starts_57 (w : Nat) : Nat → Nat → Int32 → Int32 → mM → Option mM
  | 0, _, _, _, _ => none
  | n + 1, o0, x1, x2, M => bI (f_X12_persons w o0 M) fun q2 M1 => (if q2 ≤ x2 then some M1 else chk (37 + x2) (sL (rF o0 10)) (chk ((x1 + 18) + x2) (sL (rF o0 24)) (lt (wI M1 (rF o0 24) ((x1 + 18) + x2).toNatClampNeg (M1.1 (rF o0 10) (37 + x2).toNatClampNeg)) fun M3 => (f_X12_starts_57 w n o0 x1 (x2 + 1) M3))))
set_option maxHeartbeats 4000000 in
set_option maxRecDepth 100000 in
theorem s_X12_starts_57 {l : Launch} {G : mG} {sk : List mS} (w : Nat) : ∀ (n : Nat) (o0 : Nat) (h0 : isK o0 22) (x1 : Int32) (x2 : Int32) (M : mM), Go muX12_starts (rm 1) 0 0 l G sk (mFin G sk eV) (f_X12_starts_57 w n o0 x1 x2 M) 57 [(0, .ref (gB G + o0)), (1, .int x1), (2, .int x2)] [] M := by
  intro n
  induction n with
  | zero =>
    intros
    exact go_none
  | succ n ih =>
    intro o0 h0 x1 x2 M
    rw [f_X12_starts_57]
    refine go_iload_n 2 58 dX12_starts_57 rfl rfl ?_
    refine go_aload_n 0 59 dX12_starts_58 rfl rfl ?_
    refine go_cVI0 0 clX12 cwX12_279 (m_X12_persons w o0 h0 M) h0 62 dX12_starts_59 rfl ⟨Nat.le_of_ble_eq_true rfl, Nat.le_of_ble_eq_true rfl⟩ ⟨Nat.zero_le _, Nat.zero_le _⟩ (Nat.le_of_ble_eq_true rfl) (fun q2 M1 _ => ?_)
    refine go_icmp_ge 91 65 dX12_starts_62 rfl (by decide) (fun _ => ?_) (fun _ => ?_)
    · exact go_vret rfl dX12_starts_91
    · refine go_aload_n 0 66 dX12_starts_65 rfl rfl ?_
      refine go_getR flX12_113 h0 69 dX12_starts_66 rfl ?_
      refine go_iload_n 1 70 dX12_starts_69 rfl rfl ?_
      refine go_bipush 18 72 dX12_starts_70 rfl (by decide) ?_
      refine go_iadd 73 dX12_starts_72 rfl ?_
      refine go_iload_n 2 74 dX12_starts_73 rfl rfl ?_
      refine go_iadd 75 dX12_starts_74 rfl ?_
      refine go_aload_n 0 76 dX12_starts_75 rfl rfl ?_
      refine go_getR flX12_83 h0 79 dX12_starts_76 rfl ?_
      refine go_bipush 37 81 dX12_starts_79 rfl (by decide) ?_
      refine go_iload_n 2 82 dX12_starts_81 rfl rfl ?_
      refine go_iadd 83 dX12_starts_82 rfl ?_
      refine go_iald (rk12_10 h0) 84 dX12_starts_83 rfl ?_
      refine go_iast (rk12_24 h0) 85 dX12_starts_84 rfl ?_
      refine go_nmM (fun M3 => ?_)
      refine go_iinc (x2 + 1) 2 [(2, .int (x2 + 1)), (0, .ref (gB G + o0)), (1, .int x1)] 88 dX12_starts_85 rfl rfl rfl (by decide) rfl ?_
      refine go_goto 57 dX12_starts_88 (by decide) ?_
      exact go_lv [1, 2, 0] rfl (ih o0 h0 x1 (x2 + 1) M3)
def f_X12_starts_55 (w : Nat) (o0 : Nat) (x1 : Int32) (M : mM) : Option mM := (f_X12_starts_57 w w o0 x1 0 M)
set_option maxHeartbeats 4000000 in
set_option maxRecDepth 100000 in
theorem s_X12_starts_55 {l : Launch} {G : mG} {sk : List mS} (w : Nat) (o0 : Nat) (h0 : isK o0 22) (x1 : Int32) (M : mM) : Go muX12_starts (rm 1) 0 0 l G sk (mFin G sk eV) (f_X12_starts_55 w o0 x1 M) 55 [(0, .ref (gB G + o0)), (1, .int x1)] [] M := by
  unfold f_X12_starts_55
  refine go_iconst 0 56 dX12_starts_55 rfl (by decide) ?_
  refine go_istore_n [(2, .int 0), (0, .ref (gB G + o0)), (1, .int x1)] 57 dX12_starts_56 rfl rfl (by decide) rfl ?_
  exact go_lv [1, 2, 0] rfl (s_X12_starts_57 w w o0 h0 x1 0 M)
def f_X12_starts_25 (w : Nat) : Nat → Nat → Int32 → Int32 → mM → Option mM
  | 0, _, _, _, _ => none
  | n + 1, o0, x1, x2, M => bI (f_X12_doors w o0 M) fun q2 M1 => (if q2 ≤ x2 then (f_X12_starts_55 w o0 x1 M1) else bI (f_X12_doorOf w o0 x2 3 M1) fun q4 M3 => chk ((x1 + 2) + x2) (sL (rF o0 24)) (lt (wI M3 (rF o0 24) ((x1 + 2) + x2).toNatClampNeg q4) fun M5 => (f_X12_starts_25 w n o0 x1 (x2 + 1) M5)))
set_option maxHeartbeats 4000000 in
set_option maxRecDepth 100000 in
theorem s_X12_starts_25 {l : Launch} {G : mG} {sk : List mS} (w : Nat) : ∀ (n : Nat) (o0 : Nat) (h0 : isK o0 22) (x1 : Int32) (x2 : Int32) (M : mM), Go muX12_starts (rm 1) 0 0 l G sk (mFin G sk eV) (f_X12_starts_25 w n o0 x1 x2 M) 25 [(0, .ref (gB G + o0)), (1, .int x1), (2, .int x2)] [] M := by
  intro n
  induction n with
  | zero =>
    intros
    exact go_none
  | succ n ih =>
    intro o0 h0 x1 x2 M
    rw [f_X12_starts_25]
    refine go_iload_n 2 26 dX12_starts_25 rfl rfl ?_
    refine go_aload_n 0 27 dX12_starts_26 rfl rfl ?_
    refine go_cVI0 0 clX12 cwX12_272 (m_X12_doors w o0 h0 M) h0 30 dX12_starts_27 rfl ⟨Nat.le_of_ble_eq_true rfl, Nat.le_of_ble_eq_true rfl⟩ ⟨Nat.zero_le _, Nat.zero_le _⟩ (Nat.le_of_ble_eq_true rfl) (fun q2 M1 _ => ?_)
    refine go_icmp_ge 55 33 dX12_starts_30 rfl (by decide) (fun _ => ?_) (fun _ => ?_)
    · exact go_lv [0, 1] rfl (s_X12_starts_55 w o0 h0 x1 M1)
    · refine go_aload_n 0 34 dX12_starts_33 rfl rfl ?_
      refine go_getR flX12_113 h0 37 dX12_starts_34 rfl ?_
      refine go_iload_n 1 38 dX12_starts_37 rfl rfl ?_
      refine go_iconst 2 39 dX12_starts_38 rfl (by decide) ?_
      refine go_iadd 40 dX12_starts_39 rfl ?_
      refine go_iload_n 2 41 dX12_starts_40 rfl rfl ?_
      refine go_iadd 42 dX12_starts_41 rfl ?_
      refine go_aload_n 0 43 dX12_starts_42 rfl rfl ?_
      refine go_iload_n 2 44 dX12_starts_43 rfl rfl ?_
      refine go_iconst 3 45 dX12_starts_44 rfl (by decide) ?_
      refine go_cVI2 0 clX12 cwX12_276 (m_X12_doorOf w o0 h0 x2 3 M1) h0 48 dX12_starts_45 rfl ⟨Nat.le_of_ble_eq_true rfl, Nat.le_of_ble_eq_true rfl⟩ ⟨Nat.zero_le _, Nat.zero_le _⟩ (Nat.le_of_ble_eq_true rfl) (fun q4 M3 _ => ?_)
      refine go_iast (rk12_24 h0) 49 dX12_starts_48 rfl ?_
      refine go_nmM (fun M5 => ?_)
      refine go_iinc (x2 + 1) 2 [(2, .int (x2 + 1)), (0, .ref (gB G + o0)), (1, .int x1)] 52 dX12_starts_49 rfl rfl rfl (by decide) rfl ?_
      refine go_goto 25 dX12_starts_52 (by decide) ?_
      exact go_lv [1, 2, 0] rfl (ih o0 h0 x1 (x2 + 1) M5)
def f_X12_starts_23 (w : Nat) (o0 : Nat) (x1 : Int32) (M : mM) : Option mM := (f_X12_starts_25 w w o0 x1 0 M)
set_option maxHeartbeats 4000000 in
set_option maxRecDepth 100000 in
theorem s_X12_starts_23 {l : Launch} {G : mG} {sk : List mS} (w : Nat) (o0 : Nat) (h0 : isK o0 22) (x1 : Int32) (M : mM) : Go muX12_starts (rm 1) 0 0 l G sk (mFin G sk eV) (f_X12_starts_23 w o0 x1 M) 23 [(0, .ref (gB G + o0)), (1, .int x1)] [] M := by
  unfold f_X12_starts_23
  refine go_iconst 0 24 dX12_starts_23 rfl (by decide) ?_
  refine go_istore_n [(2, .int 0), (0, .ref (gB G + o0)), (1, .int x1)] 25 dX12_starts_24 rfl rfl (by decide) rfl ?_
  exact go_lv [1, 2, 0] rfl (s_X12_starts_25 w w o0 h0 x1 0 M)
def f_X12_starts_2 (w : Nat) : Nat → Nat → Int32 → Int32 → mM → Option mM
  | 0, _, _, _, _ => none
  | n + 1, o0, x1, x2, M => (if 23 ≤ x2 then (f_X12_starts_23 w o0 x1 M) else chk (x1 + x2) (sL (rF o0 24)) (lt (wI M (rF o0 24) (x1 + x2).toNatClampNeg 0) fun M1 => (f_X12_starts_2 w n o0 x1 (x2 + 1) M1)))
set_option maxHeartbeats 4000000 in
set_option maxRecDepth 100000 in
theorem s_X12_starts_2 {l : Launch} {G : mG} {sk : List mS} (w : Nat) : ∀ (n : Nat) (o0 : Nat) (h0 : isK o0 22) (x1 : Int32) (x2 : Int32) (M : mM), Go muX12_starts (rm 1) 0 0 l G sk (mFin G sk eV) (f_X12_starts_2 w n o0 x1 x2 M) 2 [(0, .ref (gB G + o0)), (1, .int x1), (2, .int x2)] [] M := by
  intro n
  induction n with
  | zero =>
    intros
    exact go_none
  | succ n ih =>
    intro o0 h0 x1 x2 M
    rw [f_X12_starts_2]
    refine go_iload_n 2 3 dX12_starts_2 rfl rfl ?_
    refine go_bipush 23 5 dX12_starts_3 rfl (by decide) ?_
    refine go_icmp_ge 23 8 dX12_starts_5 rfl (by decide) (fun _ => ?_) (fun _ => ?_)
    · exact go_lv [0, 1] rfl (s_X12_starts_23 w o0 h0 x1 M)
    · refine go_aload_n 0 9 dX12_starts_8 rfl rfl ?_
      refine go_getR flX12_113 h0 12 dX12_starts_9 rfl ?_
      refine go_iload_n 1 13 dX12_starts_12 rfl rfl ?_
      refine go_iload_n 2 14 dX12_starts_13 rfl rfl ?_
      refine go_iadd 15 dX12_starts_14 rfl ?_
      refine go_iconst 0 16 dX12_starts_15 rfl (by decide) ?_
      refine go_iast (rk12_24 h0) 17 dX12_starts_16 rfl ?_
      refine go_nmM (fun M1 => ?_)
      refine go_iinc (x2 + 1) 2 [(2, .int (x2 + 1)), (0, .ref (gB G + o0)), (1, .int x1)] 20 dX12_starts_17 rfl rfl rfl (by decide) rfl ?_
      refine go_goto 2 dX12_starts_20 (by decide) ?_
      exact go_lv [1, 2, 0] rfl (ih o0 h0 x1 (x2 + 1) M1)
def f_X12_starts (w : Nat) (o0 : Nat) (x1 : Int32) (M : mM) : Option mM := (f_X12_starts_2 w w o0 x1 0 M)
set_option maxHeartbeats 4000000 in
set_option maxRecDepth 100000 in
theorem s_X12_starts {l : Launch} {G : mG} {sk : List mS} (w : Nat) (o0 : Nat) (h0 : isK o0 22) (x1 : Int32) (M : mM) : Go muX12_starts (rm 1) 0 0 l G sk (mFin G sk eV) (f_X12_starts w o0 x1 M) 0 [(0, .ref (gB G + o0)), (1, .int x1)] [] M := by
  unfold f_X12_starts
  refine go_iconst 0 1 dX12_starts_0 rfl (by decide) ?_
  refine go_istore_n [(2, .int 0), (0, .ref (gB G + o0)), (1, .int x1)] 2 dX12_starts_1 rfl rfl (by decide) rfl ?_
  exact go_lv [1, 2, 0] rfl (s_X12_starts_2 w w o0 h0 x1 0 M)
theorem m_X12_starts {l : Launch} {G : mG} {sk : List mS} (w : Nat) (o0 : Nat) (h0 : isK o0 22) (x1 : Int32) (M : mM) : Mt l G sk yX12_starts muX12_starts 1 [.ref (gB G + o0), .int x1] M eV (f_X12_starts w o0 x1 M) := Mt.of (by decide) rfl (Nat.le_of_ble_eq_true rfl) (s_X12_starts w o0 h0 x1 M)
theorem dX12_begins_0 : decode cX12_begins 0 = .ok (.aload_n 0, 1) := by decide +kernel
theorem dX12_begins_1 : decode cX12_begins 1 = .ok (.iconst 0, 1) := by decide +kernel
theorem dX12_begins_2 : decode cX12_begins 2 = .ok (.invokevirtual 282, 3) := by decide +kernel
theorem dX12_begins_5 : decode cX12_begins 5 = .ok (.aload_n 0, 1) := by decide +kernel
theorem dX12_begins_6 : decode cX12_begins 6 = .ok (.getfield 113, 3) := by decide +kernel
theorem dX12_begins_9 : decode cX12_begins 9 = .ok (.bipush 23, 2) := by decide +kernel
theorem dX12_begins_11 : decode cX12_begins 11 = .ok (.iconst 0, 1) := by decide +kernel
theorem dX12_begins_12 : decode cX12_begins 12 = .ok (.iastore, 1) := by decide +kernel
theorem dX12_begins_13 : decode cX12_begins 13 = .ok (.aload_n 0, 1) := by decide +kernel
theorem dX12_begins_14 : decode cX12_begins 14 = .ok (.getfield 113, 3) := by decide +kernel
theorem dX12_begins_17 : decode cX12_begins 17 = .ok (.bipush 48, 2) := by decide +kernel
theorem dX12_begins_19 : decode cX12_begins 19 = .ok (.iconst 0, 1) := by decide +kernel
theorem dX12_begins_20 : decode cX12_begins 20 = .ok (.iastore, 1) := by decide +kernel
theorem dX12_begins_21 : decode cX12_begins 21 = .ok (.aload_n 0, 1) := by decide +kernel
theorem dX12_begins_22 : decode cX12_begins 22 = .ok (.getfield 104, 3) := by decide +kernel
theorem dX12_begins_25 : decode cX12_begins 25 = .ok (.iconst 0, 1) := by decide +kernel
theorem dX12_begins_26 : decode cX12_begins 26 = .ok (.iconst 0, 1) := by decide +kernel
theorem dX12_begins_27 : decode cX12_begins 27 = .ok (.iastore, 1) := by decide +kernel
theorem dX12_begins_28 : decode cX12_begins 28 = .ok (.aload_n 0, 1) := by decide +kernel
theorem dX12_begins_29 : decode cX12_begins 29 = .ok (.iconst 0, 1) := by decide +kernel
theorem dX12_begins_30 : decode cX12_begins 30 = .ok (.putfield 285, 3) := by decide +kernel
theorem dX12_begins_33 : decode cX12_begins 33 = .ok (.iconst 0, 1) := by decide +kernel
theorem dX12_begins_34 : decode cX12_begins 34 = .ok (.istore_n 1, 1) := by decide +kernel
theorem dX12_begins_35 : decode cX12_begins 35 = .ok (.iload_n 1, 1) := by decide +kernel
theorem dX12_begins_36 : decode cX12_begins 36 = .ok (.iconst 4, 1) := by decide +kernel
theorem dX12_begins_37 : decode cX12_begins 37 = .ok (.if_icmp .ge 16, 3) := by decide +kernel
theorem dX12_begins_40 : decode cX12_begins 40 = .ok (.aload_n 0, 1) := by decide +kernel
theorem dX12_begins_41 : decode cX12_begins 41 = .ok (.getfield 116, 3) := by decide +kernel
theorem dX12_begins_44 : decode cX12_begins 44 = .ok (.iload_n 1, 1) := by decide +kernel
theorem dX12_begins_45 : decode cX12_begins 45 = .ok (.iconst 0, 1) := by decide +kernel
theorem dX12_begins_46 : decode cX12_begins 46 = .ok (.bastore, 1) := by decide +kernel
theorem dX12_begins_47 : decode cX12_begins 47 = .ok (.iinc 1 1, 3) := by decide +kernel
theorem dX12_begins_50 : decode cX12_begins 50 = .ok (.goto (-15), 3) := by decide +kernel
theorem dX12_begins_53 : decode cX12_begins 53 = .ok (.return_, 1) := by decide +kernel
def f_X12_begins_35 (w : Nat) : Nat → Nat → Int32 → mM → Option mM
  | 0, _, _, _ => none
  | n + 1, o0, x1, M => (if 4 ≤ x1 then some M else chk x1 (sL (rF o0 26)) (lt (wI M (rF o0 26) x1.toNatClampNeg (vp_nar .boolean 0)) fun M1 => (f_X12_begins_35 w n o0 (x1 + 1) M1)))
set_option maxHeartbeats 4000000 in
set_option maxRecDepth 100000 in
theorem s_X12_begins_35 {l : Launch} {G : mG} {sk : List mS} (w : Nat) : ∀ (n : Nat) (o0 : Nat) (h0 : isK o0 22) (x1 : Int32) (M : mM), Go muX12_begins (rm 2) 0 0 l G sk (mFin G sk eV) (f_X12_begins_35 w n o0 x1 M) 35 [(0, .ref (gB G + o0)), (1, .int x1)] [] M := by
  intro n
  induction n with
  | zero =>
    intros
    exact go_none
  | succ n ih =>
    intro o0 h0 x1 M
    rw [f_X12_begins_35]
    refine go_iload_n 1 36 dX12_begins_35 rfl rfl ?_
    refine go_iconst 4 37 dX12_begins_36 rfl (by decide) ?_
    refine go_icmp_ge 53 40 dX12_begins_37 rfl (by decide) (fun _ => ?_) (fun _ => ?_)
    · exact go_vret rfl dX12_begins_53
    · refine go_aload_n 0 41 dX12_begins_40 rfl rfl ?_
      refine go_getR flX12_116 h0 44 dX12_begins_41 rfl ?_
      refine go_iload_n 1 45 dX12_begins_44 rfl rfl ?_
      refine go_iconst 0 46 dX12_begins_45 rfl (by decide) ?_
      refine go_zast (rk12_26 h0) 47 dX12_begins_46 rfl ?_
      refine go_nmM (fun M1 => ?_)
      refine go_iinc (x1 + 1) 1 [(1, .int (x1 + 1)), (0, .ref (gB G + o0))] 50 dX12_begins_47 rfl rfl rfl (by decide) rfl ?_
      refine go_goto 35 dX12_begins_50 (by decide) ?_
      exact go_lv [1, 0] rfl (ih o0 h0 (x1 + 1) M1)
def f_X12_begins (w : Nat) (o0 : Nat) (M : mM) : Option mM := bV (f_X12_starts w o0 0 M) fun M1 => chk 23 (sL (rF o0 24)) (lt (wI M1 (rF o0 24) (23 : Int32).toNatClampNeg 0) fun M2 => chk 48 (sL (rF o0 24)) (lt (wI M2 (rF o0 24) (48 : Int32).toNatClampNeg 0) fun M3 => chk 0 (sL (rF o0 21)) (lt (wI M3 (rF o0 21) (0 : Int32).toNatClampNeg 0) fun M4 => lt (wI M4 o0 25 0) fun M5 => (f_X12_begins_35 w w o0 0 M5))))
set_option maxHeartbeats 4000000 in
set_option maxRecDepth 100000 in
theorem s_X12_begins {l : Launch} {G : mG} {sk : List mS} (w : Nat) (o0 : Nat) (h0 : isK o0 22) (M : mM) : Go muX12_begins (rm 2) 0 0 l G sk (mFin G sk eV) (f_X12_begins w o0 M) 0 [(0, .ref (gB G + o0))] [] M := by
  unfold f_X12_begins
  refine go_aload_n 0 1 dX12_begins_0 rfl rfl ?_
  refine go_iconst 0 2 dX12_begins_1 rfl (by decide) ?_
  refine go_cVV1 1 clX12 cwX12_282 (m_X12_starts w o0 h0 0 M) h0 5 dX12_begins_2 rfl ⟨Nat.le_of_ble_eq_true rfl, Nat.le_of_ble_eq_true rfl⟩ ⟨Nat.zero_le _, Nat.zero_le _⟩ (Nat.le_of_ble_eq_true rfl) (fun M1 _ => ?_)
  refine go_aload_n 0 6 dX12_begins_5 rfl rfl ?_
  refine go_getR flX12_113 h0 9 dX12_begins_6 rfl ?_
  refine go_bipush 23 11 dX12_begins_9 rfl (by decide) ?_
  refine go_iconst 0 12 dX12_begins_11 rfl (by decide) ?_
  refine go_iast (rk12_24 h0) 13 dX12_begins_12 rfl ?_
  refine go_nmM (fun M2 => ?_)
  refine go_aload_n 0 14 dX12_begins_13 rfl rfl ?_
  refine go_getR flX12_113 h0 17 dX12_begins_14 rfl ?_
  refine go_bipush 48 19 dX12_begins_17 rfl (by decide) ?_
  refine go_iconst 0 20 dX12_begins_19 rfl (by decide) ?_
  refine go_iast (rk12_24 h0) 21 dX12_begins_20 rfl ?_
  refine go_nmM (fun M3 => ?_)
  refine go_aload_n 0 22 dX12_begins_21 rfl rfl ?_
  refine go_getR flX12_104 h0 25 dX12_begins_22 rfl ?_
  refine go_iconst 0 26 dX12_begins_25 rfl (by decide) ?_
  refine go_iconst 0 27 dX12_begins_26 rfl (by decide) ?_
  refine go_iast (rk12_21 h0) 28 dX12_begins_27 rfl ?_
  refine go_nmM (fun M4 => ?_)
  refine go_aload_n 0 29 dX12_begins_28 rfl rfl ?_
  refine go_iconst 0 30 dX12_begins_29 rfl (by decide) ?_
  refine go_putI flX12_285 rfl rfl h0 33 dX12_begins_30 rfl ?_
  refine go_nmM (fun M5 => ?_)
  refine go_iconst 0 34 dX12_begins_33 rfl (by decide) ?_
  refine go_istore_n [(1, .int 0), (0, .ref (gB G + o0))] 35 dX12_begins_34 rfl rfl (by decide) rfl ?_
  exact go_lv [1, 0] rfl (s_X12_begins_35 w w o0 h0 0 M5)
theorem m_X12_begins {l : Launch} {G : mG} {sk : List mS} (w : Nat) (o0 : Nat) (h0 : isK o0 22) (M : mM) : Mt l G sk yX12_begins muX12_begins 2 [.ref (gB G + o0)] M eV (f_X12_begins w o0 M) := Mt.of (by decide) rfl (Nat.le_of_ble_eq_true rfl) (s_X12_begins w o0 h0 M)
