theorem dX10_putSign_0 : decode cX10_putSign 0 = .ok (.iload_n 1, 1) := by decide +kernel
theorem dX10_putSign_1 : decode cX10_putSign 1 = .ok (.bipush 10, 2) := by decide +kernel
theorem dX10_putSign_3 : decode cX10_putSign 3 = .ok (.if_icmp .eq 15, 3) := by decide +kernel
theorem dX10_putSign_6 : decode cX10_putSign 6 = .ok (.iload_n 1, 1) := by decide +kernel
theorem dX10_putSign_7 : decode cX10_putSign 7 = .ok (.bipush 32, 2) := by decide +kernel
theorem dX10_putSign_9 : decode cX10_putSign 9 = .ok (.if_icmp .lt 13, 3) := by decide +kernel
theorem dX10_putSign_12 : decode cX10_putSign 12 = .ok (.iload_n 1, 1) := by decide +kernel
theorem dX10_putSign_13 : decode cX10_putSign 13 = .ok (.bipush 126, 2) := by decide +kernel
theorem dX10_putSign_15 : decode cX10_putSign 15 = .ok (.if_icmp .gt 7, 3) := by decide +kernel
theorem dX10_putSign_18 : decode cX10_putSign 18 = .ok (.iconst 1, 1) := by decide +kernel
theorem dX10_putSign_19 : decode cX10_putSign 19 = .ok (.goto 4, 3) := by decide +kernel
theorem dX10_putSign_22 : decode cX10_putSign 22 = .ok (.iconst 0, 1) := by decide +kernel
theorem dX10_putSign_23 : decode cX10_putSign 23 = .ok (.istore_n 2, 1) := by decide +kernel
theorem dX10_putSign_24 : decode cX10_putSign 24 = .ok (.iload_n 2, 1) := by decide +kernel
theorem dX10_putSign_25 : decode cX10_putSign 25 = .ok (.ifCond .eq 34, 3) := by decide +kernel
theorem dX10_putSign_28 : decode cX10_putSign 28 = .ok (.aload_n 0, 1) := by decide +kernel
theorem dX10_putSign_29 : decode cX10_putSign 29 = .ok (.getfield 21, 3) := by decide +kernel
theorem dX10_putSign_32 : decode cX10_putSign 32 = .ok (.sipush 1000, 3) := by decide +kernel
theorem dX10_putSign_35 : decode cX10_putSign 35 = .ok (.if_icmp .ge 24, 3) := by decide +kernel
theorem dX10_putSign_38 : decode cX10_putSign 38 = .ok (.aload_n 0, 1) := by decide +kernel
theorem dX10_putSign_39 : decode cX10_putSign 39 = .ok (.getfield 9, 3) := by decide +kernel
theorem dX10_putSign_42 : decode cX10_putSign 42 = .ok (.aload_n 0, 1) := by decide +kernel
theorem dX10_putSign_43 : decode cX10_putSign 43 = .ok (.getfield 21, 3) := by decide +kernel
theorem dX10_putSign_46 : decode cX10_putSign 46 = .ok (.iload_n 1, 1) := by decide +kernel
theorem dX10_putSign_47 : decode cX10_putSign 47 = .ok (.i2b, 1) := by decide +kernel
theorem dX10_putSign_48 : decode cX10_putSign 48 = .ok (.bastore, 1) := by decide +kernel
theorem dX10_putSign_49 : decode cX10_putSign 49 = .ok (.aload_n 0, 1) := by decide +kernel
theorem dX10_putSign_50 : decode cX10_putSign 50 = .ok (.dup, 1) := by decide +kernel
theorem dX10_putSign_51 : decode cX10_putSign 51 = .ok (.getfield 21, 3) := by decide +kernel
theorem dX10_putSign_54 : decode cX10_putSign 54 = .ok (.iconst 1, 1) := by decide +kernel
theorem dX10_putSign_55 : decode cX10_putSign 55 = .ok (.iadd, 1) := by decide +kernel
theorem dX10_putSign_56 : decode cX10_putSign 56 = .ok (.putfield 21, 3) := by decide +kernel
theorem dX10_putSign_59 : decode cX10_putSign 59 = .ok (.return_, 1) := by decide +kernel
def f_X10_putSign_23 (w : Nat) (o0 : Nat) (x1 : Int32) (xs0 : Int32) (M : mM) : Option mM := (if xs0 = 0 then some M else (if 1000 ≤ (M.1 o0 1) then some M else chk (M.1 o0 1) (sL (rF o0 0)) (lt (wI M (rF o0 0) (M.1 o0 1).toNatClampNeg (vp_nar .byte (x1.toInt8.toInt32))) fun M1 => lt (wI M1 o0 1 ((M1.1 o0 1) + 1)) fun M2 => some M2)))
set_option maxHeartbeats 4000000 in
set_option maxRecDepth 100000 in
theorem s_X10_putSign_23 {l : Launch} {G : mG} {sk : List mS} (w : Nat) (o0 : Nat) (h0 : isK o0 20) (x1 : Int32) (xs0 : Int32) (M : mM) : Go muX10_putSign (rm 0) 0 0 l G sk (mFin G sk eV) (f_X10_putSign_23 w o0 x1 xs0 M) 23 [(0, .ref (gB G + o0)), (1, .int x1)] [.int xs0] M := by
  unfold f_X10_putSign_23
  refine go_istore_n [(2, .int xs0), (0, .ref (gB G + o0)), (1, .int x1)] 24 dX10_putSign_23 rfl rfl (by decide) rfl ?_
  refine go_iload_n 0 25 dX10_putSign_24 rfl rfl ?_
  refine go_if_eq 59 28 dX10_putSign_25 rfl (by decide) (fun _ => ?_) (fun _ => ?_)
  · exact go_vret rfl dX10_putSign_59
  · refine go_aload_n 1 29 dX10_putSign_28 rfl rfl ?_
    refine go_getI flX10_21 (by decide) h0 32 dX10_putSign_29 rfl ?_
    refine go_sipush 1000 35 dX10_putSign_32 rfl (by decide) ?_
    refine go_icmp_ge 59 38 dX10_putSign_35 rfl (by decide) (fun _ => ?_) (fun _ => ?_)
    · exact go_vret rfl dX10_putSign_59
    · refine go_aload_n 1 39 dX10_putSign_38 rfl rfl ?_
      refine go_getR flX10_9 h0 42 dX10_putSign_39 rfl ?_
      refine go_aload_n 1 43 dX10_putSign_42 rfl rfl ?_
      refine go_getI flX10_21 (by decide) h0 46 dX10_putSign_43 rfl ?_
      refine go_iload_n 2 47 dX10_putSign_46 rfl rfl ?_
      refine go_i2b 48 dX10_putSign_47 rfl ?_
      refine go_bast (rk10_0 h0) 49 dX10_putSign_48 rfl ?_
      refine go_nmM (fun M1 => ?_)
      refine go_aload_n 1 50 dX10_putSign_49 rfl rfl ?_
      refine go_dup 51 dX10_putSign_50 rfl rfl ?_
      refine go_getI flX10_21 (by decide) h0 54 dX10_putSign_51 rfl ?_
      refine go_iconst 1 55 dX10_putSign_54 rfl (by decide) ?_
      refine go_iadd 56 dX10_putSign_55 rfl ?_
      refine go_putI flX10_21 rfl rfl h0 59 dX10_putSign_56 rfl ?_
      refine go_nmM (fun M2 => ?_)
      exact go_vret rfl dX10_putSign_59
def f_X10_putSign_18 (w : Nat) (o0 : Nat) (x1 : Int32) (M : mM) : Option mM := (f_X10_putSign_23 w o0 x1 1 M)
set_option maxHeartbeats 4000000 in
set_option maxRecDepth 100000 in
theorem s_X10_putSign_18 {l : Launch} {G : mG} {sk : List mS} (w : Nat) (o0 : Nat) (h0 : isK o0 20) (x1 : Int32) (M : mM) : Go muX10_putSign (rm 0) 0 0 l G sk (mFin G sk eV) (f_X10_putSign_18 w o0 x1 M) 18 [(0, .ref (gB G + o0)), (1, .int x1)] [] M := by
  unfold f_X10_putSign_18
  refine go_iconst 1 19 dX10_putSign_18 rfl (by decide) ?_
  refine go_goto 23 dX10_putSign_19 (by decide) ?_
  exact go_lv [0, 1] rfl (s_X10_putSign_23 w o0 h0 x1 1 M)
def f_X10_putSign_22 (w : Nat) (o0 : Nat) (x1 : Int32) (M : mM) : Option mM := (f_X10_putSign_23 w o0 x1 0 M)
set_option maxHeartbeats 4000000 in
set_option maxRecDepth 100000 in
theorem s_X10_putSign_22 {l : Launch} {G : mG} {sk : List mS} (w : Nat) (o0 : Nat) (h0 : isK o0 20) (x1 : Int32) (M : mM) : Go muX10_putSign (rm 0) 0 0 l G sk (mFin G sk eV) (f_X10_putSign_22 w o0 x1 M) 22 [(0, .ref (gB G + o0)), (1, .int x1)] [] M := by
  unfold f_X10_putSign_22
  refine go_iconst 0 23 dX10_putSign_22 rfl (by decide) ?_
  exact go_lv [0, 1] rfl (s_X10_putSign_23 w o0 h0 x1 0 M)
def f_X10_putSign (w : Nat) (o0 : Nat) (x1 : Int32) (M : mM) : Option mM := (if x1 = 10 then (f_X10_putSign_18 w o0 x1 M) else (if x1 < 32 then (f_X10_putSign_22 w o0 x1 M) else (if 126 < x1 then (f_X10_putSign_22 w o0 x1 M) else (f_X10_putSign_18 w o0 x1 M))))
set_option maxHeartbeats 4000000 in
set_option maxRecDepth 100000 in
theorem s_X10_putSign {l : Launch} {G : mG} {sk : List mS} (w : Nat) (o0 : Nat) (h0 : isK o0 20) (x1 : Int32) (M : mM) : Go muX10_putSign (rm 0) 0 0 l G sk (mFin G sk eV) (f_X10_putSign w o0 x1 M) 0 [(0, .ref (gB G + o0)), (1, .int x1)] [] M := by
  unfold f_X10_putSign
  refine go_iload_n 1 1 dX10_putSign_0 rfl rfl ?_
  refine go_bipush 10 3 dX10_putSign_1 rfl (by decide) ?_
  refine go_icmp_eq 18 6 dX10_putSign_3 rfl (by decide) (fun _ => ?_) (fun _ => ?_)
  · exact go_lv [0, 1] rfl (s_X10_putSign_18 w o0 h0 x1 M)
  · refine go_iload_n 1 7 dX10_putSign_6 rfl rfl ?_
    refine go_bipush 32 9 dX10_putSign_7 rfl (by decide) ?_
    refine go_icmp_lt 22 12 dX10_putSign_9 rfl (by decide) (fun _ => ?_) (fun _ => ?_)
    · exact go_lv [0, 1] rfl (s_X10_putSign_22 w o0 h0 x1 M)
    · refine go_iload_n 1 13 dX10_putSign_12 rfl rfl ?_
      refine go_bipush 126 15 dX10_putSign_13 rfl (by decide) ?_
      refine go_icmp_gt 22 18 dX10_putSign_15 rfl (by decide) (fun _ => ?_) (fun _ => ?_)
      · exact go_lv [0, 1] rfl (s_X10_putSign_22 w o0 h0 x1 M)
      · exact go_lv [0, 1] rfl (s_X10_putSign_18 w o0 h0 x1 M)
theorem m_X10_putSign {l : Launch} {G : mG} {sk : List mS} (w : Nat) (o0 : Nat) (h0 : isK o0 20) (x1 : Int32) (M : mM) : Mt l G sk yX10_putSign muX10_putSign 0 [.ref (gB G + o0), .int x1] M eV (f_X10_putSign w o0 x1 M) := Mt.of (by decide) rfl (Nat.le_of_ble_eq_true rfl) (s_X10_putSign w o0 h0 x1 M)
theorem dX10_putBytes_0 : decode cX10_putBytes 0 = .ok (.bipush 56, 2) := by decide +kernel
theorem dX10_putBytes_2 : decode cX10_putBytes 2 = .ok (.istore_n 3, 1) := by decide +kernel
theorem dX10_putBytes_3 : decode cX10_putBytes 3 = .ok (.iload_n 3, 1) := by decide +kernel
theorem dX10_putBytes_4 : decode cX10_putBytes 4 = .ok (.ifCond .lt 21, 3) := by decide +kernel
theorem dX10_putBytes_7 : decode cX10_putBytes 7 = .ok (.aload_n 0, 1) := by decide +kernel
theorem dX10_putBytes_8 : decode cX10_putBytes 8 = .ok (.lload_n 1, 1) := by decide +kernel
theorem dX10_putBytes_9 : decode cX10_putBytes 9 = .ok (.iload_n 3, 1) := by decide +kernel
theorem dX10_putBytes_10 : decode cX10_putBytes 10 = .ok (.lshr, 1) := by decide +kernel
theorem dX10_putBytes_11 : decode cX10_putBytes 11 = .ok (.ldc2_w 15, 3) := by decide +kernel
theorem dX10_putBytes_14 : decode cX10_putBytes 14 = .ok (.land, 1) := by decide +kernel
theorem dX10_putBytes_15 : decode cX10_putBytes 15 = .ok (.l2i, 1) := by decide +kernel
theorem dX10_putBytes_16 : decode cX10_putBytes 16 = .ok (.invokevirtual 17, 3) := by decide +kernel
theorem dX10_putBytes_19 : decode cX10_putBytes 19 = .ok (.iinc 3 (-8), 3) := by decide +kernel
theorem dX10_putBytes_22 : decode cX10_putBytes 22 = .ok (.goto (-19), 3) := by decide +kernel
theorem dX10_putBytes_25 : decode cX10_putBytes 25 = .ok (.return_, 1) := by decide +kernel
def f_X10_putBytes_3 (w : Nat) : Nat → Nat → Int64 → Int32 → mM → Option mM
  | 0, _, _, _, _ => none
  | n + 1, o0, x1, x3, M => (if x3 < 0 then some M else bV (f_X10_putSign w o0 (((x1 >>> (x3.toInt64 &&& 63)) &&& 255).toInt32) M) fun M1 => (f_X10_putBytes_3 w n o0 x1 (x3 + (-8)) M1))
set_option maxHeartbeats 4000000 in
set_option maxRecDepth 100000 in
theorem s_X10_putBytes_3 {l : Launch} {G : mG} {sk : List mS} (w : Nat) : ∀ (n : Nat) (o0 : Nat) (h0 : isK o0 20) (x1 : Int64) (x3 : Int32) (M : mM), Go muX10_putBytes (rm 1) 0 0 l G sk (mFin G sk eV) (f_X10_putBytes_3 w n o0 x1 x3 M) 3 [(0, .ref (gB G + o0)), (1, .long x1), (3, .int x3)] [] M := by
  intro n
  induction n with
  | zero =>
    intros
    exact go_none
  | succ n ih =>
    intro o0 h0 x1 x3 M
    rw [f_X10_putBytes_3]
    refine go_iload_n 2 4 dX10_putBytes_3 rfl rfl ?_
    refine go_if_lt 25 7 dX10_putBytes_4 rfl (by decide) (fun _ => ?_) (fun _ => ?_)
    · exact go_vret rfl dX10_putBytes_25
    · refine go_aload_n 0 8 dX10_putBytes_7 rfl rfl ?_
      refine go_lload_n 1 9 dX10_putBytes_8 rfl rfl ?_
      refine go_iload_n 2 10 dX10_putBytes_9 rfl rfl ?_
      refine go_lshr 11 dX10_putBytes_10 rfl ?_
      refine go_ldc2 klX10_15 14 dX10_putBytes_11 rfl ?_
      refine go_land 15 dX10_putBytes_14 rfl ?_
      refine go_l2i 16 dX10_putBytes_15 rfl ?_
      refine go_cVV1 0 clX10 cwX10_17 (m_X10_putSign w o0 h0 (((x1 >>> (x3.toInt64 &&& 63)) &&& 255).toInt32) M) h0 19 dX10_putBytes_16 rfl ⟨Nat.le_of_ble_eq_true rfl, Nat.le_of_ble_eq_true rfl⟩ ⟨Nat.zero_le _, Nat.zero_le _⟩ (Nat.le_of_ble_eq_true rfl) (fun M1 _ => ?_)
      refine go_iinc (x3 + (-8)) 2 [(3, .int (x3 + (-8))), (0, .ref (gB G + o0)), (1, .long x1)] 22 dX10_putBytes_19 rfl rfl rfl (by decide) rfl ?_
      refine go_goto 3 dX10_putBytes_22 (by decide) ?_
      exact go_lv [1, 2, 0] rfl (ih o0 h0 x1 (x3 + (-8)) M1)
def f_X10_putBytes (w : Nat) (o0 : Nat) (x1 : Int64) (M : mM) : Option mM := (f_X10_putBytes_3 w w o0 x1 56 M)
set_option maxHeartbeats 4000000 in
set_option maxRecDepth 100000 in
theorem s_X10_putBytes {l : Launch} {G : mG} {sk : List mS} (w : Nat) (o0 : Nat) (h0 : isK o0 20) (x1 : Int64) (M : mM) : Go muX10_putBytes (rm 1) 0 0 l G sk (mFin G sk eV) (f_X10_putBytes w o0 x1 M) 0 [(0, .ref (gB G + o0)), (1, .long x1)] [] M := by
  unfold f_X10_putBytes
  refine go_bipush 56 2 dX10_putBytes_0 rfl (by decide) ?_
  refine go_istore_n [(3, .int 56), (0, .ref (gB G + o0)), (1, .long x1)] 3 dX10_putBytes_2 rfl rfl (by decide) rfl ?_
  exact go_lv [1, 2, 0] rfl (s_X10_putBytes_3 w w o0 h0 x1 56 M)
theorem m_X10_putBytes {l : Launch} {G : mG} {sk : List mS} (w : Nat) (o0 : Nat) (h0 : isK o0 20) (x1 : Int64) (M : mM) : Mt l G sk yX10_putBytes muX10_putBytes 1 [.ref (gB G + o0), .long x1] M eV (f_X10_putBytes w o0 x1 M) := Mt.of (by decide) rfl (Nat.le_of_ble_eq_true rfl) (s_X10_putBytes w o0 h0 x1 M)
theorem dX10_isBlank_0 : decode cX10_isBlank 0 = .ok (.iload_n 0, 1) := by decide +kernel
theorem dX10_isBlank_1 : decode cX10_isBlank 1 = .ok (.bipush 10, 2) := by decide +kernel
theorem dX10_isBlank_3 : decode cX10_isBlank 3 = .ok (.if_icmp .eq 9, 3) := by decide +kernel
theorem dX10_isBlank_6 : decode cX10_isBlank 6 = .ok (.iload_n 0, 1) := by decide +kernel
theorem dX10_isBlank_7 : decode cX10_isBlank 7 = .ok (.bipush 32, 2) := by decide +kernel
theorem dX10_isBlank_9 : decode cX10_isBlank 9 = .ok (.if_icmp .ne 7, 3) := by decide +kernel
theorem dX10_isBlank_12 : decode cX10_isBlank 12 = .ok (.iconst 1, 1) := by decide +kernel
theorem dX10_isBlank_13 : decode cX10_isBlank 13 = .ok (.goto 4, 3) := by decide +kernel
theorem dX10_isBlank_16 : decode cX10_isBlank 16 = .ok (.iconst 0, 1) := by decide +kernel
theorem dX10_isBlank_17 : decode cX10_isBlank 17 = .ok (.ireturn, 1) := by decide +kernel
def f_X10_isBlank_12 (w : Nat) (M : mM) : Option (Int32 × mM) := rtB 1 M
set_option maxHeartbeats 4000000 in
set_option maxRecDepth 100000 in
theorem s_X10_isBlank_12 {l : Launch} {G : mG} {sk : List mS} (w : Nat) (M : mM) : Go muX10_isBlank (rm 0) 0 0 l G sk (mFin G sk eI) (f_X10_isBlank_12 w M) 12 [] [] M := by
  unfold f_X10_isBlank_12
  refine go_iconst 1 13 dX10_isBlank_12 rfl (by decide) ?_
  refine go_goto 17 dX10_isBlank_13 (by decide) ?_
  exact go_zret rfl dX10_isBlank_17
def f_X10_isBlank (w : Nat) (x0 : Int32) (M : mM) : Option (Int32 × mM) := (if x0 = 10 then (f_X10_isBlank_12 w M) else (if x0 = 32 then (f_X10_isBlank_12 w M) else rtB 0 M))
set_option maxHeartbeats 4000000 in
set_option maxRecDepth 100000 in
theorem s_X10_isBlank {l : Launch} {G : mG} {sk : List mS} (w : Nat) (x0 : Int32) (M : mM) : Go muX10_isBlank (rm 0) 0 0 l G sk (mFin G sk eI) (f_X10_isBlank w x0 M) 0 [(0, .int x0)] [] M := by
  unfold f_X10_isBlank
  refine go_iload_n 0 1 dX10_isBlank_0 rfl rfl ?_
  refine go_bipush 10 3 dX10_isBlank_1 rfl (by decide) ?_
  refine go_icmp_eq 12 6 dX10_isBlank_3 rfl (by decide) (fun _ => ?_) (fun _ => ?_)
  · exact go_lv [] rfl (s_X10_isBlank_12 w M)
  · refine go_iload_n 0 7 dX10_isBlank_6 rfl rfl ?_
    refine go_bipush 32 9 dX10_isBlank_7 rfl (by decide) ?_
    refine go_icmp_ne 16 12 dX10_isBlank_9 rfl (by decide) (fun _ => ?_) (fun _ => ?_)
    · refine go_iconst 0 17 dX10_isBlank_16 rfl (by decide) ?_
      exact go_zret rfl dX10_isBlank_17
    · exact go_lv [] rfl (s_X10_isBlank_12 w M)
theorem m_X10_isBlank {l : Launch} {G : mG} {sk : List mS} (w : Nat) (x0 : Int32) (M : mM) : Mt l G sk yX10_isBlank muX10_isBlank 0 [.int x0] M eI (f_X10_isBlank w x0 M) := Mt.of (by decide) rfl (Nat.le_of_ble_eq_true rfl) (s_X10_isBlank w x0 M)
theorem dX10_isLetter_0 : decode cX10_isLetter 0 = .ok (.iload_n 0, 1) := by decide +kernel
theorem dX10_isLetter_1 : decode cX10_isLetter 1 = .ok (.bipush 97, 2) := by decide +kernel
theorem dX10_isLetter_3 : decode cX10_isLetter 3 = .ok (.if_icmp .lt 13, 3) := by decide +kernel
theorem dX10_isLetter_6 : decode cX10_isLetter 6 = .ok (.iload_n 0, 1) := by decide +kernel
theorem dX10_isLetter_7 : decode cX10_isLetter 7 = .ok (.bipush 122, 2) := by decide +kernel
theorem dX10_isLetter_9 : decode cX10_isLetter 9 = .ok (.if_icmp .gt 7, 3) := by decide +kernel
theorem dX10_isLetter_12 : decode cX10_isLetter 12 = .ok (.iconst 1, 1) := by decide +kernel
theorem dX10_isLetter_13 : decode cX10_isLetter 13 = .ok (.goto 4, 3) := by decide +kernel
theorem dX10_isLetter_16 : decode cX10_isLetter 16 = .ok (.iconst 0, 1) := by decide +kernel
theorem dX10_isLetter_17 : decode cX10_isLetter 17 = .ok (.ireturn, 1) := by decide +kernel
def f_X10_isLetter (w : Nat) (x0 : Int32) (M : mM) : Option (Int32 × mM) := (if x0 < 97 then rtB 0 M else (if 122 < x0 then rtB 0 M else rtB 1 M))
set_option maxHeartbeats 4000000 in
set_option maxRecDepth 100000 in
theorem s_X10_isLetter {l : Launch} {G : mG} {sk : List mS} (w : Nat) (x0 : Int32) (M : mM) : Go muX10_isLetter (rm 0) 0 0 l G sk (mFin G sk eI) (f_X10_isLetter w x0 M) 0 [(0, .int x0)] [] M := by
  unfold f_X10_isLetter
  refine go_iload_n 0 1 dX10_isLetter_0 rfl rfl ?_
  refine go_bipush 97 3 dX10_isLetter_1 rfl (by decide) ?_
  refine go_icmp_lt 16 6 dX10_isLetter_3 rfl (by decide) (fun _ => ?_) (fun _ => ?_)
  · refine go_iconst 0 17 dX10_isLetter_16 rfl (by decide) ?_
    exact go_zret rfl dX10_isLetter_17
  · refine go_iload_n 0 7 dX10_isLetter_6 rfl rfl ?_
    refine go_bipush 122 9 dX10_isLetter_7 rfl (by decide) ?_
    refine go_icmp_gt 16 12 dX10_isLetter_9 rfl (by decide) (fun _ => ?_) (fun _ => ?_)
    · refine go_iconst 0 17 dX10_isLetter_16 rfl (by decide) ?_
      exact go_zret rfl dX10_isLetter_17
    · refine go_iconst 1 13 dX10_isLetter_12 rfl (by decide) ?_
      refine go_goto 17 dX10_isLetter_13 (by decide) ?_
      exact go_zret rfl dX10_isLetter_17
theorem m_X10_isLetter {l : Launch} {G : mG} {sk : List mS} (w : Nat) (x0 : Int32) (M : mM) : Mt l G sk yX10_isLetter muX10_isLetter 0 [.int x0] M eI (f_X10_isLetter w x0 M) := Mt.of (by decide) rfl (Nat.le_of_ble_eq_true rfl) (s_X10_isLetter w x0 M)
theorem dX10_readWord_0 : decode cX10_readWord 0 = .ok (.aload_n 0, 1) := by decide +kernel
theorem dX10_readWord_1 : decode cX10_readWord 1 = .ok (.getfield 25, 3) := by decide +kernel
theorem dX10_readWord_4 : decode cX10_readWord 4 = .ok (.aload_n 0, 1) := by decide +kernel
theorem dX10_readWord_5 : decode cX10_readWord 5 = .ok (.getfield 21, 3) := by decide +kernel
theorem dX10_readWord_8 : decode cX10_readWord 8 = .ok (.if_icmp .ge 53, 3) := by decide +kernel
theorem dX10_readWord_11 : decode cX10_readWord 11 = .ok (.aload_n 0, 1) := by decide +kernel
theorem dX10_readWord_12 : decode cX10_readWord 12 = .ok (.getfield 9, 3) := by decide +kernel
theorem dX10_readWord_15 : decode cX10_readWord 15 = .ok (.aload_n 0, 1) := by decide +kernel
theorem dX10_readWord_16 : decode cX10_readWord 16 = .ok (.getfield 25, 3) := by decide +kernel
theorem dX10_readWord_19 : decode cX10_readWord 19 = .ok (.baload, 1) := by decide +kernel
theorem dX10_readWord_20 : decode cX10_readWord 20 = .ok (.invokestatic 45, 3) := by decide +kernel
theorem dX10_readWord_23 : decode cX10_readWord 23 = .ok (.ifCond .eq 38, 3) := by decide +kernel
theorem dX10_readWord_26 : decode cX10_readWord 26 = .ok (.aload_n 0, 1) := by decide +kernel
theorem dX10_readWord_27 : decode cX10_readWord 27 = .ok (.aload_n 0, 1) := by decide +kernel
theorem dX10_readWord_28 : decode cX10_readWord 28 = .ok (.getfield 38, 3) := by decide +kernel
theorem dX10_readWord_31 : decode cX10_readWord 31 = .ok (.bipush 8, 2) := by decide +kernel
theorem dX10_readWord_33 : decode cX10_readWord 33 = .ok (.lshl, 1) := by decide +kernel
theorem dX10_readWord_34 : decode cX10_readWord 34 = .ok (.aload_n 0, 1) := by decide +kernel
theorem dX10_readWord_35 : decode cX10_readWord 35 = .ok (.getfield 9, 3) := by decide +kernel
theorem dX10_readWord_38 : decode cX10_readWord 38 = .ok (.aload_n 0, 1) := by decide +kernel
theorem dX10_readWord_39 : decode cX10_readWord 39 = .ok (.getfield 25, 3) := by decide +kernel
theorem dX10_readWord_42 : decode cX10_readWord 42 = .ok (.baload, 1) := by decide +kernel
theorem dX10_readWord_43 : decode cX10_readWord 43 = .ok (.i2l, 1) := by decide +kernel
theorem dX10_readWord_44 : decode cX10_readWord 44 = .ok (.lor, 1) := by decide +kernel
theorem dX10_readWord_45 : decode cX10_readWord 45 = .ok (.putfield 38, 3) := by decide +kernel
theorem dX10_readWord_48 : decode cX10_readWord 48 = .ok (.aload_n 0, 1) := by decide +kernel
theorem dX10_readWord_49 : decode cX10_readWord 49 = .ok (.dup, 1) := by decide +kernel
theorem dX10_readWord_50 : decode cX10_readWord 50 = .ok (.getfield 25, 3) := by decide +kernel
theorem dX10_readWord_53 : decode cX10_readWord 53 = .ok (.iconst 1, 1) := by decide +kernel
theorem dX10_readWord_54 : decode cX10_readWord 54 = .ok (.iadd, 1) := by decide +kernel
theorem dX10_readWord_55 : decode cX10_readWord 55 = .ok (.putfield 25, 3) := by decide +kernel
theorem dX10_readWord_58 : decode cX10_readWord 58 = .ok (.goto (-58), 3) := by decide +kernel
theorem dX10_readWord_61 : decode cX10_readWord 61 = .ok (.aload_n 0, 1) := by decide +kernel
theorem dX10_readWord_62 : decode cX10_readWord 62 = .ok (.aload_n 0, 1) := by decide +kernel
theorem dX10_readWord_63 : decode cX10_readWord 63 = .ok (.getfield 25, 3) := by decide +kernel
theorem dX10_readWord_66 : decode cX10_readWord 66 = .ok (.aload_n 0, 1) := by decide +kernel
theorem dX10_readWord_67 : decode cX10_readWord 67 = .ok (.getfield 35, 3) := by decide +kernel
theorem dX10_readWord_70 : decode cX10_readWord 70 = .ok (.isub, 1) := by decide +kernel
theorem dX10_readWord_71 : decode cX10_readWord 71 = .ok (.bipush 8, 2) := by decide +kernel
theorem dX10_readWord_73 : decode cX10_readWord 73 = .ok (.if_icmp .gt 7, 3) := by decide +kernel
theorem dX10_readWord_76 : decode cX10_readWord 76 = .ok (.iconst 1, 1) := by decide +kernel
theorem dX10_readWord_77 : decode cX10_readWord 77 = .ok (.goto 4, 3) := by decide +kernel
theorem dX10_readWord_80 : decode cX10_readWord 80 = .ok (.iconst 4, 1) := by decide +kernel
theorem dX10_readWord_81 : decode cX10_readWord 81 = .ok (.putfield 42, 3) := by decide +kernel
theorem dX10_readWord_84 : decode cX10_readWord 84 = .ok (.return_, 1) := by decide +kernel
def f_X10_readWord_61 (w : Nat) (o0 : Nat) (M : mM) : Option mM := (if 8 < ((M.1 o0 2) - (M.1 o0 4)) then lt (wI M o0 3 4) fun M1 => some M1 else lt (wI M o0 3 1) fun M2 => some M2)
set_option maxHeartbeats 4000000 in
set_option maxRecDepth 100000 in
theorem s_X10_readWord_61 {l : Launch} {G : mG} {sk : List mS} (w : Nat) (o0 : Nat) (h0 : isK o0 20) (M : mM) : Go muX10_readWord (rm 1) 0 0 l G sk (mFin G sk eV) (f_X10_readWord_61 w o0 M) 61 [(0, .ref (gB G + o0))] [] M := by
  unfold f_X10_readWord_61
  refine go_aload_n 0 62 dX10_readWord_61 rfl rfl ?_
  refine go_aload_n 0 63 dX10_readWord_62 rfl rfl ?_
  refine go_getI flX10_25 (by decide) h0 66 dX10_readWord_63 rfl ?_
  refine go_aload_n 0 67 dX10_readWord_66 rfl rfl ?_
  refine go_getI flX10_35 (by decide) h0 70 dX10_readWord_67 rfl ?_
  refine go_isub 71 dX10_readWord_70 rfl ?_
  refine go_bipush 8 73 dX10_readWord_71 rfl (by decide) ?_
  refine go_icmp_gt 80 76 dX10_readWord_73 rfl (by decide) (fun _ => ?_) (fun _ => ?_)
  · refine go_iconst 4 81 dX10_readWord_80 rfl (by decide) ?_
    refine go_putI flX10_42 rfl rfl h0 84 dX10_readWord_81 rfl ?_
    refine go_nmM (fun M1 => ?_)
    exact go_vret rfl dX10_readWord_84
  · refine go_iconst 1 77 dX10_readWord_76 rfl (by decide) ?_
    refine go_goto 81 dX10_readWord_77 (by decide) ?_
    refine go_putI flX10_42 rfl rfl h0 84 dX10_readWord_81 rfl ?_
    refine go_nmM (fun M2 => ?_)
    exact go_vret rfl dX10_readWord_84
def f_X10_readWord_0 (w : Nat) : Nat → Nat → mM → Option mM
  | 0, _, _ => none
  | n + 1, o0, M => (if (M.1 o0 1) ≤ (M.1 o0 2) then (f_X10_readWord_61 w o0 M) else chk (M.1 o0 2) (sL (rF o0 0)) (bI (f_X10_isLetter w (M.1 (rF o0 0) (M.1 o0 2).toNatClampNeg) M) fun q2 M1 => (if q2 = 0 then (f_X10_readWord_61 w o0 M1) else chk (M1.1 o0 2) (sL (rF o0 0)) (lt (wL M1 o0 5 (((M1.2 o0 5) <<< ((8 : Int32).toInt64 &&& 63)) ||| ((M1.1 (rF o0 0) (M1.1 o0 2).toNatClampNeg).toInt64))) fun M3 => lt (wI M3 o0 2 ((M3.1 o0 2) + 1)) fun M4 => (f_X10_readWord_0 w n o0 M4)))))
set_option maxHeartbeats 4000000 in
set_option maxRecDepth 100000 in
theorem s_X10_readWord_0 {l : Launch} {G : mG} {sk : List mS} (w : Nat) : ∀ (n : Nat) (o0 : Nat) (h0 : isK o0 20) (M : mM), Go muX10_readWord (rm 1) 0 0 l G sk (mFin G sk eV) (f_X10_readWord_0 w n o0 M) 0 [(0, .ref (gB G + o0))] [] M := by
  intro n
  induction n with
  | zero =>
    intros
    exact go_none
  | succ n ih =>
    intro o0 h0 M
    rw [f_X10_readWord_0]
    refine go_aload_n 0 1 dX10_readWord_0 rfl rfl ?_
    refine go_getI flX10_25 (by decide) h0 4 dX10_readWord_1 rfl ?_
    refine go_aload_n 0 5 dX10_readWord_4 rfl rfl ?_
    refine go_getI flX10_21 (by decide) h0 8 dX10_readWord_5 rfl ?_
    refine go_icmp_ge 61 11 dX10_readWord_8 rfl (by decide) (fun _ => ?_) (fun _ => ?_)
    · exact go_lv [0] rfl (s_X10_readWord_61 w o0 h0 M)
    · refine go_aload_n 0 12 dX10_readWord_11 rfl rfl ?_
      refine go_getR flX10_9 h0 15 dX10_readWord_12 rfl ?_
      refine go_aload_n 0 16 dX10_readWord_15 rfl rfl ?_
      refine go_getI flX10_25 (by decide) h0 19 dX10_readWord_16 rfl ?_
      refine go_bald (rk10_0 h0) 20 dX10_readWord_19 rfl ?_
      refine go_cSI1 0 cwX10_45 (m_X10_isLetter w (M.1 (rF o0 0) (M.1 o0 2).toNatClampNeg) M) 23 dX10_readWord_20 rfl ⟨Nat.le_of_ble_eq_true rfl, Nat.le_of_ble_eq_true rfl⟩ ⟨Nat.zero_le _, Nat.zero_le _⟩ (Nat.le_of_ble_eq_true rfl) (fun q2 M1 _ => ?_)
      refine go_if_eq 61 26 dX10_readWord_23 rfl (by decide) (fun _ => ?_) (fun _ => ?_)
      · exact go_lv [0] rfl (s_X10_readWord_61 w o0 h0 M1)
      · refine go_aload_n 0 27 dX10_readWord_26 rfl rfl ?_
        refine go_aload_n 0 28 dX10_readWord_27 rfl rfl ?_
        refine go_getL flX10_38 h0 31 dX10_readWord_28 rfl ?_
        refine go_bipush 8 33 dX10_readWord_31 rfl (by decide) ?_
        refine go_lshl 34 dX10_readWord_33 rfl ?_
        refine go_aload_n 0 35 dX10_readWord_34 rfl rfl ?_
        refine go_getR flX10_9 h0 38 dX10_readWord_35 rfl ?_
        refine go_aload_n 0 39 dX10_readWord_38 rfl rfl ?_
        refine go_getI flX10_25 (by decide) h0 42 dX10_readWord_39 rfl ?_
        refine go_bald (rk10_0 h0) 43 dX10_readWord_42 rfl ?_
        refine go_i2l 44 dX10_readWord_43 rfl ?_
        refine go_lor 45 dX10_readWord_44 rfl ?_
        refine go_putL flX10_38 rfl rfl h0 48 dX10_readWord_45 rfl ?_
        refine go_nmM (fun M3 => ?_)
        refine go_aload_n 0 49 dX10_readWord_48 rfl rfl ?_
        refine go_dup 50 dX10_readWord_49 rfl rfl ?_
        refine go_getI flX10_25 (by decide) h0 53 dX10_readWord_50 rfl ?_
        refine go_iconst 1 54 dX10_readWord_53 rfl (by decide) ?_
        refine go_iadd 55 dX10_readWord_54 rfl ?_
        refine go_putI flX10_25 rfl rfl h0 58 dX10_readWord_55 rfl ?_
        refine go_nmM (fun M4 => ?_)
        refine go_goto 0 dX10_readWord_58 (by decide) ?_
        exact go_lv [0] rfl (ih o0 h0 M4)
def f_X10_readWord (w : Nat) (o0 : Nat) (M : mM) : Option mM := f_X10_readWord_0 w w o0 M
theorem s_X10_readWord {l : Launch} {G : mG} {sk : List mS} (w : Nat) (o0 : Nat) (h0 : isK o0 20) (M : mM) : Go muX10_readWord (rm 1) 0 0 l G sk (mFin G sk eV) (f_X10_readWord w o0 M) 0 [(0, .ref (gB G + o0))] [] M := s_X10_readWord_0 w w o0 h0 M
theorem m_X10_readWord {l : Launch} {G : mG} {sk : List mS} (w : Nat) (o0 : Nat) (h0 : isK o0 20) (M : mM) : Mt l G sk yX10_readWord muX10_readWord 1 [.ref (gB G + o0)] M eV (f_X10_readWord w o0 M) := Mt.of (by decide) rfl (Nat.le_of_ble_eq_true rfl) (s_X10_readWord w o0 h0 M)
theorem dX10_isDigit_0 : decode cX10_isDigit 0 = .ok (.iload_n 0, 1) := by decide +kernel
theorem dX10_isDigit_1 : decode cX10_isDigit 1 = .ok (.bipush 48, 2) := by decide +kernel
theorem dX10_isDigit_3 : decode cX10_isDigit 3 = .ok (.if_icmp .lt 13, 3) := by decide +kernel
theorem dX10_isDigit_6 : decode cX10_isDigit 6 = .ok (.iload_n 0, 1) := by decide +kernel
theorem dX10_isDigit_7 : decode cX10_isDigit 7 = .ok (.bipush 57, 2) := by decide +kernel
theorem dX10_isDigit_9 : decode cX10_isDigit 9 = .ok (.if_icmp .gt 7, 3) := by decide +kernel
theorem dX10_isDigit_12 : decode cX10_isDigit 12 = .ok (.iconst 1, 1) := by decide +kernel
theorem dX10_isDigit_13 : decode cX10_isDigit 13 = .ok (.goto 4, 3) := by decide +kernel
theorem dX10_isDigit_16 : decode cX10_isDigit 16 = .ok (.iconst 0, 1) := by decide +kernel
theorem dX10_isDigit_17 : decode cX10_isDigit 17 = .ok (.ireturn, 1) := by decide +kernel
def f_X10_isDigit (w : Nat) (x0 : Int32) (M : mM) : Option (Int32 × mM) := (if x0 < 48 then rtB 0 M else (if 57 < x0 then rtB 0 M else rtB 1 M))
set_option maxHeartbeats 4000000 in
set_option maxRecDepth 100000 in
theorem s_X10_isDigit {l : Launch} {G : mG} {sk : List mS} (w : Nat) (x0 : Int32) (M : mM) : Go muX10_isDigit (rm 0) 0 0 l G sk (mFin G sk eI) (f_X10_isDigit w x0 M) 0 [(0, .int x0)] [] M := by
  unfold f_X10_isDigit
  refine go_iload_n 0 1 dX10_isDigit_0 rfl rfl ?_
  refine go_bipush 48 3 dX10_isDigit_1 rfl (by decide) ?_
  refine go_icmp_lt 16 6 dX10_isDigit_3 rfl (by decide) (fun _ => ?_) (fun _ => ?_)
  · refine go_iconst 0 17 dX10_isDigit_16 rfl (by decide) ?_
    exact go_zret rfl dX10_isDigit_17
  · refine go_iload_n 0 7 dX10_isDigit_6 rfl rfl ?_
    refine go_bipush 57 9 dX10_isDigit_7 rfl (by decide) ?_
    refine go_icmp_gt 16 12 dX10_isDigit_9 rfl (by decide) (fun _ => ?_) (fun _ => ?_)
    · refine go_iconst 0 17 dX10_isDigit_16 rfl (by decide) ?_
      exact go_zret rfl dX10_isDigit_17
    · refine go_iconst 1 13 dX10_isDigit_12 rfl (by decide) ?_
      refine go_goto 17 dX10_isDigit_13 (by decide) ?_
      exact go_zret rfl dX10_isDigit_17
theorem m_X10_isDigit {l : Launch} {G : mG} {sk : List mS} (w : Nat) (x0 : Int32) (M : mM) : Mt l G sk yX10_isDigit muX10_isDigit 0 [.int x0] M eI (f_X10_isDigit w x0 M) := Mt.of (by decide) rfl (Nat.le_of_ble_eq_true rfl) (s_X10_isDigit w x0 M)
theorem dX10_readNumber_0 : decode cX10_readNumber 0 = .ok (.aload_n 0, 1) := by decide +kernel
theorem dX10_readNumber_1 : decode cX10_readNumber 1 = .ok (.getfield 25, 3) := by decide +kernel
theorem dX10_readNumber_4 : decode cX10_readNumber 4 = .ok (.aload_n 0, 1) := by decide +kernel
theorem dX10_readNumber_5 : decode cX10_readNumber 5 = .ok (.getfield 21, 3) := by decide +kernel
theorem dX10_readNumber_8 : decode cX10_readNumber 8 = .ok (.if_icmp .ge 57, 3) := by decide +kernel
theorem dX10_readNumber_11 : decode cX10_readNumber 11 = .ok (.aload_n 0, 1) := by decide +kernel
theorem dX10_readNumber_12 : decode cX10_readNumber 12 = .ok (.getfield 9, 3) := by decide +kernel
theorem dX10_readNumber_15 : decode cX10_readNumber 15 = .ok (.aload_n 0, 1) := by decide +kernel
theorem dX10_readNumber_16 : decode cX10_readNumber 16 = .ok (.getfield 25, 3) := by decide +kernel
theorem dX10_readNumber_19 : decode cX10_readNumber 19 = .ok (.baload, 1) := by decide +kernel
theorem dX10_readNumber_20 : decode cX10_readNumber 20 = .ok (.invokestatic 51, 3) := by decide +kernel
theorem dX10_readNumber_23 : decode cX10_readNumber 23 = .ok (.ifCond .eq 42, 3) := by decide +kernel
theorem dX10_readNumber_26 : decode cX10_readNumber 26 = .ok (.aload_n 0, 1) := by decide +kernel
theorem dX10_readNumber_27 : decode cX10_readNumber 27 = .ok (.aload_n 0, 1) := by decide +kernel
theorem dX10_readNumber_28 : decode cX10_readNumber 28 = .ok (.getfield 38, 3) := by decide +kernel
theorem dX10_readNumber_31 : decode cX10_readNumber 31 = .ok (.ldc2_w 60, 3) := by decide +kernel
theorem dX10_readNumber_34 : decode cX10_readNumber 34 = .ok (.lmul, 1) := by decide +kernel
theorem dX10_readNumber_35 : decode cX10_readNumber 35 = .ok (.aload_n 0, 1) := by decide +kernel
theorem dX10_readNumber_36 : decode cX10_readNumber 36 = .ok (.getfield 9, 3) := by decide +kernel
theorem dX10_readNumber_39 : decode cX10_readNumber 39 = .ok (.aload_n 0, 1) := by decide +kernel
theorem dX10_readNumber_40 : decode cX10_readNumber 40 = .ok (.getfield 25, 3) := by decide +kernel
theorem dX10_readNumber_43 : decode cX10_readNumber 43 = .ok (.baload, 1) := by decide +kernel
theorem dX10_readNumber_44 : decode cX10_readNumber 44 = .ok (.bipush 48, 2) := by decide +kernel
theorem dX10_readNumber_46 : decode cX10_readNumber 46 = .ok (.isub, 1) := by decide +kernel
theorem dX10_readNumber_47 : decode cX10_readNumber 47 = .ok (.i2l, 1) := by decide +kernel
theorem dX10_readNumber_48 : decode cX10_readNumber 48 = .ok (.ladd, 1) := by decide +kernel
theorem dX10_readNumber_49 : decode cX10_readNumber 49 = .ok (.putfield 38, 3) := by decide +kernel
theorem dX10_readNumber_52 : decode cX10_readNumber 52 = .ok (.aload_n 0, 1) := by decide +kernel
theorem dX10_readNumber_53 : decode cX10_readNumber 53 = .ok (.dup, 1) := by decide +kernel
theorem dX10_readNumber_54 : decode cX10_readNumber 54 = .ok (.getfield 25, 3) := by decide +kernel
theorem dX10_readNumber_57 : decode cX10_readNumber 57 = .ok (.iconst 1, 1) := by decide +kernel
theorem dX10_readNumber_58 : decode cX10_readNumber 58 = .ok (.iadd, 1) := by decide +kernel
theorem dX10_readNumber_59 : decode cX10_readNumber 59 = .ok (.putfield 25, 3) := by decide +kernel
theorem dX10_readNumber_62 : decode cX10_readNumber 62 = .ok (.goto (-62), 3) := by decide +kernel
theorem dX10_readNumber_65 : decode cX10_readNumber 65 = .ok (.aload_n 0, 1) := by decide +kernel
theorem dX10_readNumber_66 : decode cX10_readNumber 66 = .ok (.aload_n 0, 1) := by decide +kernel
theorem dX10_readNumber_67 : decode cX10_readNumber 67 = .ok (.getfield 25, 3) := by decide +kernel
theorem dX10_readNumber_70 : decode cX10_readNumber 70 = .ok (.aload_n 0, 1) := by decide +kernel
theorem dX10_readNumber_71 : decode cX10_readNumber 71 = .ok (.getfield 35, 3) := by decide +kernel
theorem dX10_readNumber_74 : decode cX10_readNumber 74 = .ok (.isub, 1) := by decide +kernel
theorem dX10_readNumber_75 : decode cX10_readNumber 75 = .ok (.iconst 4, 1) := by decide +kernel
theorem dX10_readNumber_76 : decode cX10_readNumber 76 = .ok (.if_icmp .gt 7, 3) := by decide +kernel
theorem dX10_readNumber_79 : decode cX10_readNumber 79 = .ok (.iconst 2, 1) := by decide +kernel
theorem dX10_readNumber_80 : decode cX10_readNumber 80 = .ok (.goto 4, 3) := by decide +kernel
theorem dX10_readNumber_83 : decode cX10_readNumber 83 = .ok (.iconst 4, 1) := by decide +kernel
theorem dX10_readNumber_84 : decode cX10_readNumber 84 = .ok (.putfield 42, 3) := by decide +kernel
theorem dX10_readNumber_87 : decode cX10_readNumber 87 = .ok (.return_, 1) := by decide +kernel
def f_X10_readNumber_65 (w : Nat) (o0 : Nat) (M : mM) : Option mM := (if 4 < ((M.1 o0 2) - (M.1 o0 4)) then lt (wI M o0 3 4) fun M1 => some M1 else lt (wI M o0 3 2) fun M2 => some M2)
set_option maxHeartbeats 4000000 in
set_option maxRecDepth 100000 in
theorem s_X10_readNumber_65 {l : Launch} {G : mG} {sk : List mS} (w : Nat) (o0 : Nat) (h0 : isK o0 20) (M : mM) : Go muX10_readNumber (rm 1) 0 0 l G sk (mFin G sk eV) (f_X10_readNumber_65 w o0 M) 65 [(0, .ref (gB G + o0))] [] M := by
  unfold f_X10_readNumber_65
  refine go_aload_n 0 66 dX10_readNumber_65 rfl rfl ?_
  refine go_aload_n 0 67 dX10_readNumber_66 rfl rfl ?_
  refine go_getI flX10_25 (by decide) h0 70 dX10_readNumber_67 rfl ?_
  refine go_aload_n 0 71 dX10_readNumber_70 rfl rfl ?_
  refine go_getI flX10_35 (by decide) h0 74 dX10_readNumber_71 rfl ?_
  refine go_isub 75 dX10_readNumber_74 rfl ?_
  refine go_iconst 4 76 dX10_readNumber_75 rfl (by decide) ?_
  refine go_icmp_gt 83 79 dX10_readNumber_76 rfl (by decide) (fun _ => ?_) (fun _ => ?_)
  · refine go_iconst 4 84 dX10_readNumber_83 rfl (by decide) ?_
    refine go_putI flX10_42 rfl rfl h0 87 dX10_readNumber_84 rfl ?_
    refine go_nmM (fun M1 => ?_)
    exact go_vret rfl dX10_readNumber_87
  · refine go_iconst 2 80 dX10_readNumber_79 rfl (by decide) ?_
    refine go_goto 84 dX10_readNumber_80 (by decide) ?_
    refine go_putI flX10_42 rfl rfl h0 87 dX10_readNumber_84 rfl ?_
    refine go_nmM (fun M2 => ?_)
    exact go_vret rfl dX10_readNumber_87
def f_X10_readNumber_0 (w : Nat) : Nat → Nat → mM → Option mM
  | 0, _, _ => none
  | n + 1, o0, M => (if (M.1 o0 1) ≤ (M.1 o0 2) then (f_X10_readNumber_65 w o0 M) else chk (M.1 o0 2) (sL (rF o0 0)) (bI (f_X10_isDigit w (M.1 (rF o0 0) (M.1 o0 2).toNatClampNeg) M) fun q2 M1 => (if q2 = 0 then (f_X10_readNumber_65 w o0 M1) else chk (M1.1 o0 2) (sL (rF o0 0)) (lt (wL M1 o0 5 (((M1.2 o0 5) * 10) + (((M1.1 (rF o0 0) (M1.1 o0 2).toNatClampNeg) - 48).toInt64))) fun M3 => lt (wI M3 o0 2 ((M3.1 o0 2) + 1)) fun M4 => (f_X10_readNumber_0 w n o0 M4)))))
set_option maxHeartbeats 4000000 in
set_option maxRecDepth 100000 in
theorem s_X10_readNumber_0 {l : Launch} {G : mG} {sk : List mS} (w : Nat) : ∀ (n : Nat) (o0 : Nat) (h0 : isK o0 20) (M : mM), Go muX10_readNumber (rm 1) 0 0 l G sk (mFin G sk eV) (f_X10_readNumber_0 w n o0 M) 0 [(0, .ref (gB G + o0))] [] M := by
  intro n
  induction n with
  | zero =>
    intros
    exact go_none
  | succ n ih =>
    intro o0 h0 M
    rw [f_X10_readNumber_0]
    refine go_aload_n 0 1 dX10_readNumber_0 rfl rfl ?_
    refine go_getI flX10_25 (by decide) h0 4 dX10_readNumber_1 rfl ?_
    refine go_aload_n 0 5 dX10_readNumber_4 rfl rfl ?_
    refine go_getI flX10_21 (by decide) h0 8 dX10_readNumber_5 rfl ?_
    refine go_icmp_ge 65 11 dX10_readNumber_8 rfl (by decide) (fun _ => ?_) (fun _ => ?_)
    · exact go_lv [0] rfl (s_X10_readNumber_65 w o0 h0 M)
    · refine go_aload_n 0 12 dX10_readNumber_11 rfl rfl ?_
      refine go_getR flX10_9 h0 15 dX10_readNumber_12 rfl ?_
      refine go_aload_n 0 16 dX10_readNumber_15 rfl rfl ?_
      refine go_getI flX10_25 (by decide) h0 19 dX10_readNumber_16 rfl ?_
      refine go_bald (rk10_0 h0) 20 dX10_readNumber_19 rfl ?_
      refine go_cSI1 0 cwX10_51 (m_X10_isDigit w (M.1 (rF o0 0) (M.1 o0 2).toNatClampNeg) M) 23 dX10_readNumber_20 rfl ⟨Nat.le_of_ble_eq_true rfl, Nat.le_of_ble_eq_true rfl⟩ ⟨Nat.zero_le _, Nat.zero_le _⟩ (Nat.le_of_ble_eq_true rfl) (fun q2 M1 _ => ?_)
      refine go_if_eq 65 26 dX10_readNumber_23 rfl (by decide) (fun _ => ?_) (fun _ => ?_)
      · exact go_lv [0] rfl (s_X10_readNumber_65 w o0 h0 M1)
      · refine go_aload_n 0 27 dX10_readNumber_26 rfl rfl ?_
        refine go_aload_n 0 28 dX10_readNumber_27 rfl rfl ?_
        refine go_getL flX10_38 h0 31 dX10_readNumber_28 rfl ?_
        refine go_ldc2 klX10_60 34 dX10_readNumber_31 rfl ?_
        refine go_lmul 35 dX10_readNumber_34 rfl ?_
        refine go_aload_n 0 36 dX10_readNumber_35 rfl rfl ?_
        refine go_getR flX10_9 h0 39 dX10_readNumber_36 rfl ?_
        refine go_aload_n 0 40 dX10_readNumber_39 rfl rfl ?_
        refine go_getI flX10_25 (by decide) h0 43 dX10_readNumber_40 rfl ?_
        refine go_bald (rk10_0 h0) 44 dX10_readNumber_43 rfl ?_
        refine go_bipush 48 46 dX10_readNumber_44 rfl (by decide) ?_
        refine go_isub 47 dX10_readNumber_46 rfl ?_
        refine go_i2l 48 dX10_readNumber_47 rfl ?_
        refine go_ladd 49 dX10_readNumber_48 rfl ?_
        refine go_putL flX10_38 rfl rfl h0 52 dX10_readNumber_49 rfl ?_
        refine go_nmM (fun M3 => ?_)
        refine go_aload_n 0 53 dX10_readNumber_52 rfl rfl ?_
        refine go_dup 54 dX10_readNumber_53 rfl rfl ?_
        refine go_getI flX10_25 (by decide) h0 57 dX10_readNumber_54 rfl ?_
        refine go_iconst 1 58 dX10_readNumber_57 rfl (by decide) ?_
        refine go_iadd 59 dX10_readNumber_58 rfl ?_
        refine go_putI flX10_25 rfl rfl h0 62 dX10_readNumber_59 rfl ?_
        refine go_nmM (fun M4 => ?_)
        refine go_goto 0 dX10_readNumber_62 (by decide) ?_
        exact go_lv [0] rfl (ih o0 h0 M4)
def f_X10_readNumber (w : Nat) (o0 : Nat) (M : mM) : Option mM := f_X10_readNumber_0 w w o0 M
theorem s_X10_readNumber {l : Launch} {G : mG} {sk : List mS} (w : Nat) (o0 : Nat) (h0 : isK o0 20) (M : mM) : Go muX10_readNumber (rm 1) 0 0 l G sk (mFin G sk eV) (f_X10_readNumber w o0 M) 0 [(0, .ref (gB G + o0))] [] M := s_X10_readNumber_0 w w o0 h0 M
theorem m_X10_readNumber {l : Launch} {G : mG} {sk : List mS} (w : Nat) (o0 : Nat) (h0 : isK o0 20) (M : mM) : Mt l G sk yX10_readNumber muX10_readNumber 1 [.ref (gB G + o0)] M eV (f_X10_readNumber w o0 M) := Mt.of (by decide) rfl (Nat.le_of_ble_eq_true rfl) (s_X10_readNumber w o0 h0 M)
theorem dX10_isSignOfOwn_0 : decode cX10_isSignOfOwn 0 = .ok (.iload_n 0, 1) := by decide +kernel
theorem dX10_isSignOfOwn_1 : decode cX10_isSignOfOwn 1 = .ok (.bipush 40, 2) := by decide +kernel
theorem dX10_isSignOfOwn_3 : decode cX10_isSignOfOwn 3 = .ok (.if_icmp .lt 9, 3) := by decide +kernel
theorem dX10_isSignOfOwn_6 : decode cX10_isSignOfOwn 6 = .ok (.iload_n 0, 1) := by decide +kernel
theorem dX10_isSignOfOwn_7 : decode cX10_isSignOfOwn 7 = .ok (.bipush 43, 2) := by decide +kernel
theorem dX10_isSignOfOwn_9 : decode cX10_isSignOfOwn 9 = .ok (.if_icmp .le 21, 3) := by decide +kernel
theorem dX10_isSignOfOwn_12 : decode cX10_isSignOfOwn 12 = .ok (.iload_n 0, 1) := by decide +kernel
theorem dX10_isSignOfOwn_13 : decode cX10_isSignOfOwn 13 = .ok (.bipush 45, 2) := by decide +kernel
theorem dX10_isSignOfOwn_15 : decode cX10_isSignOfOwn 15 = .ok (.if_icmp .eq 15, 3) := by decide +kernel
theorem dX10_isSignOfOwn_18 : decode cX10_isSignOfOwn 18 = .ok (.iload_n 0, 1) := by decide +kernel
theorem dX10_isSignOfOwn_19 : decode cX10_isSignOfOwn 19 = .ok (.bipush 59, 2) := by decide +kernel
theorem dX10_isSignOfOwn_21 : decode cX10_isSignOfOwn 21 = .ok (.if_icmp .lt 13, 3) := by decide +kernel
theorem dX10_isSignOfOwn_24 : decode cX10_isSignOfOwn 24 = .ok (.iload_n 0, 1) := by decide +kernel
theorem dX10_isSignOfOwn_25 : decode cX10_isSignOfOwn 25 = .ok (.bipush 61, 2) := by decide +kernel
theorem dX10_isSignOfOwn_27 : decode cX10_isSignOfOwn 27 = .ok (.if_icmp .gt 7, 3) := by decide +kernel
theorem dX10_isSignOfOwn_30 : decode cX10_isSignOfOwn 30 = .ok (.iconst 1, 1) := by decide +kernel
theorem dX10_isSignOfOwn_31 : decode cX10_isSignOfOwn 31 = .ok (.goto 4, 3) := by decide +kernel
theorem dX10_isSignOfOwn_34 : decode cX10_isSignOfOwn 34 = .ok (.iconst 0, 1) := by decide +kernel
theorem dX10_isSignOfOwn_35 : decode cX10_isSignOfOwn 35 = .ok (.ireturn, 1) := by decide +kernel
def f_X10_isSignOfOwn_30 (w : Nat) (M : mM) : Option (Int32 × mM) := rtB 1 M
set_option maxHeartbeats 4000000 in
set_option maxRecDepth 100000 in
theorem s_X10_isSignOfOwn_30 {l : Launch} {G : mG} {sk : List mS} (w : Nat) (M : mM) : Go muX10_isSignOfOwn (rm 0) 0 0 l G sk (mFin G sk eI) (f_X10_isSignOfOwn_30 w M) 30 [] [] M := by
  unfold f_X10_isSignOfOwn_30
  refine go_iconst 1 31 dX10_isSignOfOwn_30 rfl (by decide) ?_
  refine go_goto 35 dX10_isSignOfOwn_31 (by decide) ?_
  exact go_zret rfl dX10_isSignOfOwn_35
def f_X10_isSignOfOwn_12 (w : Nat) (x0 : Int32) (M : mM) : Option (Int32 × mM) := (if x0 = 45 then (f_X10_isSignOfOwn_30 w M) else (if x0 < 59 then rtB 0 M else (if 61 < x0 then rtB 0 M else (f_X10_isSignOfOwn_30 w M))))
set_option maxHeartbeats 4000000 in
set_option maxRecDepth 100000 in
theorem s_X10_isSignOfOwn_12 {l : Launch} {G : mG} {sk : List mS} (w : Nat) (x0 : Int32) (M : mM) : Go muX10_isSignOfOwn (rm 0) 0 0 l G sk (mFin G sk eI) (f_X10_isSignOfOwn_12 w x0 M) 12 [(0, .int x0)] [] M := by
  unfold f_X10_isSignOfOwn_12
  refine go_iload_n 0 13 dX10_isSignOfOwn_12 rfl rfl ?_
  refine go_bipush 45 15 dX10_isSignOfOwn_13 rfl (by decide) ?_
  refine go_icmp_eq 30 18 dX10_isSignOfOwn_15 rfl (by decide) (fun _ => ?_) (fun _ => ?_)
  · exact go_lv [] rfl (s_X10_isSignOfOwn_30 w M)
  · refine go_iload_n 0 19 dX10_isSignOfOwn_18 rfl rfl ?_
    refine go_bipush 59 21 dX10_isSignOfOwn_19 rfl (by decide) ?_
    refine go_icmp_lt 34 24 dX10_isSignOfOwn_21 rfl (by decide) (fun _ => ?_) (fun _ => ?_)
    · refine go_iconst 0 35 dX10_isSignOfOwn_34 rfl (by decide) ?_
      exact go_zret rfl dX10_isSignOfOwn_35
    · refine go_iload_n 0 25 dX10_isSignOfOwn_24 rfl rfl ?_
      refine go_bipush 61 27 dX10_isSignOfOwn_25 rfl (by decide) ?_
      refine go_icmp_gt 34 30 dX10_isSignOfOwn_27 rfl (by decide) (fun _ => ?_) (fun _ => ?_)
      · refine go_iconst 0 35 dX10_isSignOfOwn_34 rfl (by decide) ?_
        exact go_zret rfl dX10_isSignOfOwn_35
      · exact go_lv [] rfl (s_X10_isSignOfOwn_30 w M)
def f_X10_isSignOfOwn (w : Nat) (x0 : Int32) (M : mM) : Option (Int32 × mM) := (if x0 < 40 then (f_X10_isSignOfOwn_12 w x0 M) else (if x0 ≤ 43 then (f_X10_isSignOfOwn_30 w M) else (f_X10_isSignOfOwn_12 w x0 M)))
set_option maxHeartbeats 4000000 in
set_option maxRecDepth 100000 in
theorem s_X10_isSignOfOwn {l : Launch} {G : mG} {sk : List mS} (w : Nat) (x0 : Int32) (M : mM) : Go muX10_isSignOfOwn (rm 0) 0 0 l G sk (mFin G sk eI) (f_X10_isSignOfOwn w x0 M) 0 [(0, .int x0)] [] M := by
  unfold f_X10_isSignOfOwn
  refine go_iload_n 0 1 dX10_isSignOfOwn_0 rfl rfl ?_
  refine go_bipush 40 3 dX10_isSignOfOwn_1 rfl (by decide) ?_
  refine go_icmp_lt 12 6 dX10_isSignOfOwn_3 rfl (by decide) (fun _ => ?_) (fun _ => ?_)
  · exact go_lv [0] rfl (s_X10_isSignOfOwn_12 w x0 M)
  · refine go_iload_n 0 7 dX10_isSignOfOwn_6 rfl rfl ?_
    refine go_bipush 43 9 dX10_isSignOfOwn_7 rfl (by decide) ?_
    refine go_icmp_le 30 12 dX10_isSignOfOwn_9 rfl (by decide) (fun _ => ?_) (fun _ => ?_)
    · exact go_lv [] rfl (s_X10_isSignOfOwn_30 w M)
    · exact go_lv [0] rfl (s_X10_isSignOfOwn_12 w x0 M)
theorem m_X10_isSignOfOwn {l : Launch} {G : mG} {sk : List mS} (w : Nat) (x0 : Int32) (M : mM) : Mt l G sk yX10_isSignOfOwn muX10_isSignOfOwn 0 [.int x0] M eI (f_X10_isSignOfOwn w x0 M) := Mt.of (by decide) rfl (Nat.le_of_ble_eq_true rfl) (s_X10_isSignOfOwn w x0 M)
theorem dX10_advance_0 : decode cX10_advance 0 = .ok (.aload_n 0, 1) := by decide +kernel
theorem dX10_advance_1 : decode cX10_advance 1 = .ok (.getfield 25, 3) := by decide +kernel
theorem dX10_advance_4 : decode cX10_advance 4 = .ok (.aload_n 0, 1) := by decide +kernel
theorem dX10_advance_5 : decode cX10_advance 5 = .ok (.getfield 21, 3) := by decide +kernel
theorem dX10_advance_8 : decode cX10_advance 8 = .ok (.if_icmp .ge 31, 3) := by decide +kernel
theorem dX10_advance_11 : decode cX10_advance 11 = .ok (.aload_n 0, 1) := by decide +kernel
theorem dX10_advance_12 : decode cX10_advance 12 = .ok (.getfield 9, 3) := by decide +kernel
theorem dX10_advance_15 : decode cX10_advance 15 = .ok (.aload_n 0, 1) := by decide +kernel
theorem dX10_advance_16 : decode cX10_advance 16 = .ok (.getfield 25, 3) := by decide +kernel
theorem dX10_advance_19 : decode cX10_advance 19 = .ok (.baload, 1) := by decide +kernel
theorem dX10_advance_20 : decode cX10_advance 20 = .ok (.invokestatic 31, 3) := by decide +kernel
theorem dX10_advance_23 : decode cX10_advance 23 = .ok (.ifCond .eq 16, 3) := by decide +kernel
theorem dX10_advance_26 : decode cX10_advance 26 = .ok (.aload_n 0, 1) := by decide +kernel
theorem dX10_advance_27 : decode cX10_advance 27 = .ok (.dup, 1) := by decide +kernel
theorem dX10_advance_28 : decode cX10_advance 28 = .ok (.getfield 25, 3) := by decide +kernel
theorem dX10_advance_31 : decode cX10_advance 31 = .ok (.iconst 1, 1) := by decide +kernel
theorem dX10_advance_32 : decode cX10_advance 32 = .ok (.iadd, 1) := by decide +kernel
theorem dX10_advance_33 : decode cX10_advance 33 = .ok (.putfield 25, 3) := by decide +kernel
theorem dX10_advance_36 : decode cX10_advance 36 = .ok (.goto (-36), 3) := by decide +kernel
theorem dX10_advance_39 : decode cX10_advance 39 = .ok (.aload_n 0, 1) := by decide +kernel
theorem dX10_advance_40 : decode cX10_advance 40 = .ok (.aload_n 0, 1) := by decide +kernel
theorem dX10_advance_41 : decode cX10_advance 41 = .ok (.getfield 25, 3) := by decide +kernel
theorem dX10_advance_44 : decode cX10_advance 44 = .ok (.putfield 35, 3) := by decide +kernel
theorem dX10_advance_47 : decode cX10_advance 47 = .ok (.aload_n 0, 1) := by decide +kernel
theorem dX10_advance_48 : decode cX10_advance 48 = .ok (.lconst 0, 1) := by decide +kernel
theorem dX10_advance_49 : decode cX10_advance 49 = .ok (.putfield 38, 3) := by decide +kernel
theorem dX10_advance_52 : decode cX10_advance 52 = .ok (.aload_n 0, 1) := by decide +kernel
theorem dX10_advance_53 : decode cX10_advance 53 = .ok (.getfield 25, 3) := by decide +kernel
theorem dX10_advance_56 : decode cX10_advance 56 = .ok (.aload_n 0, 1) := by decide +kernel
theorem dX10_advance_57 : decode cX10_advance 57 = .ok (.getfield 21, 3) := by decide +kernel
theorem dX10_advance_60 : decode cX10_advance 60 = .ok (.if_icmp .lt 11, 3) := by decide +kernel
theorem dX10_advance_63 : decode cX10_advance 63 = .ok (.aload_n 0, 1) := by decide +kernel
theorem dX10_advance_64 : decode cX10_advance 64 = .ok (.iconst 0, 1) := by decide +kernel
theorem dX10_advance_65 : decode cX10_advance 65 = .ok (.putfield 42, 3) := by decide +kernel
theorem dX10_advance_68 : decode cX10_advance 68 = .ok (.goto 95, 3) := by decide +kernel
theorem dX10_advance_71 : decode cX10_advance 71 = .ok (.aload_n 0, 1) := by decide +kernel
theorem dX10_advance_72 : decode cX10_advance 72 = .ok (.getfield 9, 3) := by decide +kernel
theorem dX10_advance_75 : decode cX10_advance 75 = .ok (.aload_n 0, 1) := by decide +kernel
theorem dX10_advance_76 : decode cX10_advance 76 = .ok (.getfield 25, 3) := by decide +kernel
theorem dX10_advance_79 : decode cX10_advance 79 = .ok (.baload, 1) := by decide +kernel
theorem dX10_advance_80 : decode cX10_advance 80 = .ok (.invokestatic 45, 3) := by decide +kernel
theorem dX10_advance_83 : decode cX10_advance 83 = .ok (.ifCond .eq 10, 3) := by decide +kernel
theorem dX10_advance_86 : decode cX10_advance 86 = .ok (.aload_n 0, 1) := by decide +kernel
theorem dX10_advance_87 : decode cX10_advance 87 = .ok (.invokevirtual 48, 3) := by decide +kernel
theorem dX10_advance_90 : decode cX10_advance 90 = .ok (.goto 73, 3) := by decide +kernel
theorem dX10_advance_93 : decode cX10_advance 93 = .ok (.aload_n 0, 1) := by decide +kernel
theorem dX10_advance_94 : decode cX10_advance 94 = .ok (.getfield 9, 3) := by decide +kernel
theorem dX10_advance_97 : decode cX10_advance 97 = .ok (.aload_n 0, 1) := by decide +kernel
theorem dX10_advance_98 : decode cX10_advance 98 = .ok (.getfield 25, 3) := by decide +kernel
theorem dX10_advance_101 : decode cX10_advance 101 = .ok (.baload, 1) := by decide +kernel
theorem dX10_advance_102 : decode cX10_advance 102 = .ok (.invokestatic 51, 3) := by decide +kernel
theorem dX10_advance_105 : decode cX10_advance 105 = .ok (.ifCond .eq 10, 3) := by decide +kernel
theorem dX10_advance_108 : decode cX10_advance 108 = .ok (.aload_n 0, 1) := by decide +kernel
theorem dX10_advance_109 : decode cX10_advance 109 = .ok (.invokevirtual 54, 3) := by decide +kernel
theorem dX10_advance_112 : decode cX10_advance 112 = .ok (.goto 51, 3) := by decide +kernel
theorem dX10_advance_115 : decode cX10_advance 115 = .ok (.aload_n 0, 1) := by decide +kernel
theorem dX10_advance_116 : decode cX10_advance 116 = .ok (.aload_n 0, 1) := by decide +kernel
theorem dX10_advance_117 : decode cX10_advance 117 = .ok (.getfield 9, 3) := by decide +kernel
theorem dX10_advance_120 : decode cX10_advance 120 = .ok (.aload_n 0, 1) := by decide +kernel
theorem dX10_advance_121 : decode cX10_advance 121 = .ok (.getfield 25, 3) := by decide +kernel
theorem dX10_advance_124 : decode cX10_advance 124 = .ok (.baload, 1) := by decide +kernel
theorem dX10_advance_125 : decode cX10_advance 125 = .ok (.i2l, 1) := by decide +kernel
theorem dX10_advance_126 : decode cX10_advance 126 = .ok (.putfield 38, 3) := by decide +kernel
theorem dX10_advance_129 : decode cX10_advance 129 = .ok (.aload_n 0, 1) := by decide +kernel
theorem dX10_advance_130 : decode cX10_advance 130 = .ok (.aload_n 0, 1) := by decide +kernel
theorem dX10_advance_131 : decode cX10_advance 131 = .ok (.getfield 9, 3) := by decide +kernel
theorem dX10_advance_134 : decode cX10_advance 134 = .ok (.aload_n 0, 1) := by decide +kernel
theorem dX10_advance_135 : decode cX10_advance 135 = .ok (.getfield 25, 3) := by decide +kernel
theorem dX10_advance_138 : decode cX10_advance 138 = .ok (.baload, 1) := by decide +kernel
theorem dX10_advance_139 : decode cX10_advance 139 = .ok (.invokestatic 57, 3) := by decide +kernel
theorem dX10_advance_142 : decode cX10_advance 142 = .ok (.ifCond .eq 7, 3) := by decide +kernel
theorem dX10_advance_145 : decode cX10_advance 145 = .ok (.iconst 3, 1) := by decide +kernel
theorem dX10_advance_146 : decode cX10_advance 146 = .ok (.goto 4, 3) := by decide +kernel
theorem dX10_advance_149 : decode cX10_advance 149 = .ok (.iconst 4, 1) := by decide +kernel
theorem dX10_advance_150 : decode cX10_advance 150 = .ok (.putfield 42, 3) := by decide +kernel
theorem dX10_advance_153 : decode cX10_advance 153 = .ok (.aload_n 0, 1) := by decide +kernel
theorem dX10_advance_154 : decode cX10_advance 154 = .ok (.dup, 1) := by decide +kernel
theorem dX10_advance_155 : decode cX10_advance 155 = .ok (.getfield 25, 3) := by decide +kernel
theorem dX10_advance_158 : decode cX10_advance 158 = .ok (.iconst 1, 1) := by decide +kernel
theorem dX10_advance_159 : decode cX10_advance 159 = .ok (.iadd, 1) := by decide +kernel
theorem dX10_advance_160 : decode cX10_advance 160 = .ok (.putfield 25, 3) := by decide +kernel
theorem dX10_advance_163 : decode cX10_advance 163 = .ok (.return_, 1) := by decide +kernel
def f_X10_advance_150 (w : Nat) (o0 : Nat) (xs0 : Int32) (os1 : Nat) (M : mM) : Option mM := lt (wI M os1 3 xs0) fun M1 => lt (wI M1 o0 2 ((M1.1 o0 2) + 1)) fun M2 => some M2
set_option maxHeartbeats 4000000 in
set_option maxRecDepth 100000 in
theorem s_X10_advance_150 {l : Launch} {G : mG} {sk : List mS} (w : Nat) (o0 : Nat) (h0 : isK o0 20) (xs0 : Int32) (os1 : Nat) (hs1 : isK os1 20) (M : mM) : Go muX10_advance (rm 2) 0 0 l G sk (mFin G sk eV) (f_X10_advance_150 w o0 xs0 os1 M) 150 [(0, .ref (gB G + o0))] [.int xs0, .ref (gB G + os1)] M := by
  unfold f_X10_advance_150
  refine go_putI flX10_42 rfl rfl hs1 153 dX10_advance_150 rfl ?_
  refine go_nmM (fun M1 => ?_)
  refine go_aload_n 0 154 dX10_advance_153 rfl rfl ?_
  refine go_dup 155 dX10_advance_154 rfl rfl ?_
  refine go_getI flX10_25 (by decide) h0 158 dX10_advance_155 rfl ?_
  refine go_iconst 1 159 dX10_advance_158 rfl (by decide) ?_
  refine go_iadd 160 dX10_advance_159 rfl ?_
  refine go_putI flX10_25 rfl rfl h0 163 dX10_advance_160 rfl ?_
  refine go_nmM (fun M2 => ?_)
  exact go_vret rfl dX10_advance_163
def f_X10_advance_39 (w : Nat) (o0 : Nat) (M : mM) : Option mM := lt (wI M o0 4 (M.1 o0 2)) fun M1 => lt (wL M1 o0 5 0) fun M2 => (if (M2.1 o0 2) < (M2.1 o0 1) then chk (M2.1 o0 2) (sL (rF o0 0)) (bI (f_X10_isLetter w (M2.1 (rF o0 0) (M2.1 o0 2).toNatClampNeg) M2) fun q4 M3 => (if q4 = 0 then chk (M3.1 o0 2) (sL (rF o0 0)) (bI (f_X10_isDigit w (M3.1 (rF o0 0) (M3.1 o0 2).toNatClampNeg) M3) fun q6 M5 => (if q6 = 0 then chk (M5.1 o0 2) (sL (rF o0 0)) (lt (wL M5 o0 5 ((M5.1 (rF o0 0) (M5.1 o0 2).toNatClampNeg).toInt64)) fun M7 => chk (M7.1 o0 2) (sL (rF o0 0)) (bI (f_X10_isSignOfOwn w (M7.1 (rF o0 0) (M7.1 o0 2).toNatClampNeg) M7) fun q9 M8 => (if q9 = 0 then (f_X10_advance_150 w o0 4 o0 M8) else (f_X10_advance_150 w o0 3 o0 M8)))) else bV (f_X10_readNumber w o0 M5) fun M10 => some M10)) else bV (f_X10_readWord w o0 M3) fun M11 => some M11)) else lt (wI M2 o0 3 0) fun M12 => some M12)
set_option maxHeartbeats 4000000 in
set_option maxRecDepth 100000 in
theorem s_X10_advance_39 {l : Launch} {G : mG} {sk : List mS} (w : Nat) (o0 : Nat) (h0 : isK o0 20) (M : mM) : Go muX10_advance (rm 2) 0 0 l G sk (mFin G sk eV) (f_X10_advance_39 w o0 M) 39 [(0, .ref (gB G + o0))] [] M := by
  unfold f_X10_advance_39
  refine go_aload_n 0 40 dX10_advance_39 rfl rfl ?_
  refine go_aload_n 0 41 dX10_advance_40 rfl rfl ?_
  refine go_getI flX10_25 (by decide) h0 44 dX10_advance_41 rfl ?_
  refine go_putI flX10_35 rfl rfl h0 47 dX10_advance_44 rfl ?_
  refine go_nmM (fun M1 => ?_)
  refine go_aload_n 0 48 dX10_advance_47 rfl rfl ?_
  refine go_lconst 0 49 dX10_advance_48 rfl (by decide) ?_
  refine go_putL flX10_38 rfl rfl h0 52 dX10_advance_49 rfl ?_
  refine go_nmM (fun M2 => ?_)
  refine go_aload_n 0 53 dX10_advance_52 rfl rfl ?_
  refine go_getI flX10_25 (by decide) h0 56 dX10_advance_53 rfl ?_
  refine go_aload_n 0 57 dX10_advance_56 rfl rfl ?_
  refine go_getI flX10_21 (by decide) h0 60 dX10_advance_57 rfl ?_
  refine go_icmp_lt 71 63 dX10_advance_60 rfl (by decide) (fun _ => ?_) (fun _ => ?_)
  · refine go_aload_n 0 72 dX10_advance_71 rfl rfl ?_
    refine go_getR flX10_9 h0 75 dX10_advance_72 rfl ?_
    refine go_aload_n 0 76 dX10_advance_75 rfl rfl ?_
    refine go_getI flX10_25 (by decide) h0 79 dX10_advance_76 rfl ?_
    refine go_bald (rk10_0 h0) 80 dX10_advance_79 rfl ?_
    refine go_cSI1 0 cwX10_45 (m_X10_isLetter w (M2.1 (rF o0 0) (M2.1 o0 2).toNatClampNeg) M2) 83 dX10_advance_80 rfl ⟨Nat.le_of_ble_eq_true rfl, Nat.le_of_ble_eq_true rfl⟩ ⟨Nat.zero_le _, Nat.zero_le _⟩ (Nat.le_of_ble_eq_true rfl) (fun q4 M3 _ => ?_)
    refine go_if_eq 93 86 dX10_advance_83 rfl (by decide) (fun _ => ?_) (fun _ => ?_)
    · refine go_aload_n 0 94 dX10_advance_93 rfl rfl ?_
      refine go_getR flX10_9 h0 97 dX10_advance_94 rfl ?_
      refine go_aload_n 0 98 dX10_advance_97 rfl rfl ?_
      refine go_getI flX10_25 (by decide) h0 101 dX10_advance_98 rfl ?_
      refine go_bald (rk10_0 h0) 102 dX10_advance_101 rfl ?_
      refine go_cSI1 0 cwX10_51 (m_X10_isDigit w (M3.1 (rF o0 0) (M3.1 o0 2).toNatClampNeg) M3) 105 dX10_advance_102 rfl ⟨Nat.le_of_ble_eq_true rfl, Nat.le_of_ble_eq_true rfl⟩ ⟨Nat.zero_le _, Nat.zero_le _⟩ (Nat.le_of_ble_eq_true rfl) (fun q6 M5 _ => ?_)
      refine go_if_eq 115 108 dX10_advance_105 rfl (by decide) (fun _ => ?_) (fun _ => ?_)
      · refine go_aload_n 0 116 dX10_advance_115 rfl rfl ?_
        refine go_aload_n 0 117 dX10_advance_116 rfl rfl ?_
        refine go_getR flX10_9 h0 120 dX10_advance_117 rfl ?_
        refine go_aload_n 0 121 dX10_advance_120 rfl rfl ?_
        refine go_getI flX10_25 (by decide) h0 124 dX10_advance_121 rfl ?_
        refine go_bald (rk10_0 h0) 125 dX10_advance_124 rfl ?_
        refine go_i2l 126 dX10_advance_125 rfl ?_
        refine go_putL flX10_38 rfl rfl h0 129 dX10_advance_126 rfl ?_
        refine go_nmM (fun M7 => ?_)
        refine go_aload_n 0 130 dX10_advance_129 rfl rfl ?_
        refine go_aload_n 0 131 dX10_advance_130 rfl rfl ?_
        refine go_getR flX10_9 h0 134 dX10_advance_131 rfl ?_
        refine go_aload_n 0 135 dX10_advance_134 rfl rfl ?_
        refine go_getI flX10_25 (by decide) h0 138 dX10_advance_135 rfl ?_
        refine go_bald (rk10_0 h0) 139 dX10_advance_138 rfl ?_
        refine go_cSI1 0 cwX10_57 (m_X10_isSignOfOwn w (M7.1 (rF o0 0) (M7.1 o0 2).toNatClampNeg) M7) 142 dX10_advance_139 rfl ⟨Nat.le_of_ble_eq_true rfl, Nat.le_of_ble_eq_true rfl⟩ ⟨Nat.zero_le _, Nat.zero_le _⟩ (Nat.le_of_ble_eq_true rfl) (fun q9 M8 _ => ?_)
        refine go_if_eq 149 145 dX10_advance_142 rfl (by decide) (fun _ => ?_) (fun _ => ?_)
        · refine go_iconst 4 150 dX10_advance_149 rfl (by decide) ?_
          exact go_lv [0] rfl (s_X10_advance_150 w o0 h0 4 o0 h0 M8)
        · refine go_iconst 3 146 dX10_advance_145 rfl (by decide) ?_
          refine go_goto 150 dX10_advance_146 (by decide) ?_
          exact go_lv [0] rfl (s_X10_advance_150 w o0 h0 3 o0 h0 M8)
      · refine go_aload_n 0 109 dX10_advance_108 rfl rfl ?_
        refine go_cVV0 1 clX10 cwX10_54 (m_X10_readNumber w o0 h0 M5) h0 112 dX10_advance_109 rfl ⟨Nat.le_of_ble_eq_true rfl, Nat.le_of_ble_eq_true rfl⟩ ⟨Nat.zero_le _, Nat.zero_le _⟩ (Nat.le_of_ble_eq_true rfl) (fun M10 _ => ?_)
        refine go_goto 163 dX10_advance_112 (by decide) ?_
        exact go_vret rfl dX10_advance_163
    · refine go_aload_n 0 87 dX10_advance_86 rfl rfl ?_
      refine go_cVV0 1 clX10 cwX10_48 (m_X10_readWord w o0 h0 M3) h0 90 dX10_advance_87 rfl ⟨Nat.le_of_ble_eq_true rfl, Nat.le_of_ble_eq_true rfl⟩ ⟨Nat.zero_le _, Nat.zero_le _⟩ (Nat.le_of_ble_eq_true rfl) (fun M11 _ => ?_)
      refine go_goto 163 dX10_advance_90 (by decide) ?_
      exact go_vret rfl dX10_advance_163
  · refine go_aload_n 0 64 dX10_advance_63 rfl rfl ?_
    refine go_iconst 0 65 dX10_advance_64 rfl (by decide) ?_
    refine go_putI flX10_42 rfl rfl h0 68 dX10_advance_65 rfl ?_
    refine go_nmM (fun M12 => ?_)
    refine go_goto 163 dX10_advance_68 (by decide) ?_
    exact go_vret rfl dX10_advance_163
def f_X10_advance_0 (w : Nat) : Nat → Nat → mM → Option mM
  | 0, _, _ => none
  | n + 1, o0, M => (if (M.1 o0 1) ≤ (M.1 o0 2) then (f_X10_advance_39 w o0 M) else chk (M.1 o0 2) (sL (rF o0 0)) (bI (f_X10_isBlank w (M.1 (rF o0 0) (M.1 o0 2).toNatClampNeg) M) fun q2 M1 => (if q2 = 0 then (f_X10_advance_39 w o0 M1) else lt (wI M1 o0 2 ((M1.1 o0 2) + 1)) fun M3 => (f_X10_advance_0 w n o0 M3))))
set_option maxHeartbeats 4000000 in
set_option maxRecDepth 100000 in
theorem s_X10_advance_0 {l : Launch} {G : mG} {sk : List mS} (w : Nat) : ∀ (n : Nat) (o0 : Nat) (h0 : isK o0 20) (M : mM), Go muX10_advance (rm 2) 0 0 l G sk (mFin G sk eV) (f_X10_advance_0 w n o0 M) 0 [(0, .ref (gB G + o0))] [] M := by
  intro n
  induction n with
  | zero =>
    intros
    exact go_none
  | succ n ih =>
    intro o0 h0 M
    rw [f_X10_advance_0]
    refine go_aload_n 0 1 dX10_advance_0 rfl rfl ?_
    refine go_getI flX10_25 (by decide) h0 4 dX10_advance_1 rfl ?_
    refine go_aload_n 0 5 dX10_advance_4 rfl rfl ?_
    refine go_getI flX10_21 (by decide) h0 8 dX10_advance_5 rfl ?_
    refine go_icmp_ge 39 11 dX10_advance_8 rfl (by decide) (fun _ => ?_) (fun _ => ?_)
    · exact go_lv [0] rfl (s_X10_advance_39 w o0 h0 M)
    · refine go_aload_n 0 12 dX10_advance_11 rfl rfl ?_
      refine go_getR flX10_9 h0 15 dX10_advance_12 rfl ?_
      refine go_aload_n 0 16 dX10_advance_15 rfl rfl ?_
      refine go_getI flX10_25 (by decide) h0 19 dX10_advance_16 rfl ?_
      refine go_bald (rk10_0 h0) 20 dX10_advance_19 rfl ?_
      refine go_cSI1 0 cwX10_31 (m_X10_isBlank w (M.1 (rF o0 0) (M.1 o0 2).toNatClampNeg) M) 23 dX10_advance_20 rfl ⟨Nat.le_of_ble_eq_true rfl, Nat.le_of_ble_eq_true rfl⟩ ⟨Nat.zero_le _, Nat.zero_le _⟩ (Nat.le_of_ble_eq_true rfl) (fun q2 M1 _ => ?_)
      refine go_if_eq 39 26 dX10_advance_23 rfl (by decide) (fun _ => ?_) (fun _ => ?_)
      · exact go_lv [0] rfl (s_X10_advance_39 w o0 h0 M1)
      · refine go_aload_n 0 27 dX10_advance_26 rfl rfl ?_
        refine go_dup 28 dX10_advance_27 rfl rfl ?_
        refine go_getI flX10_25 (by decide) h0 31 dX10_advance_28 rfl ?_
        refine go_iconst 1 32 dX10_advance_31 rfl (by decide) ?_
        refine go_iadd 33 dX10_advance_32 rfl ?_
        refine go_putI flX10_25 rfl rfl h0 36 dX10_advance_33 rfl ?_
        refine go_nmM (fun M3 => ?_)
        refine go_goto 0 dX10_advance_36 (by decide) ?_
        exact go_lv [0] rfl (ih o0 h0 M3)
def f_X10_advance (w : Nat) (o0 : Nat) (M : mM) : Option mM := f_X10_advance_0 w w o0 M
theorem s_X10_advance {l : Launch} {G : mG} {sk : List mS} (w : Nat) (o0 : Nat) (h0 : isK o0 20) (M : mM) : Go muX10_advance (rm 2) 0 0 l G sk (mFin G sk eV) (f_X10_advance w o0 M) 0 [(0, .ref (gB G + o0))] [] M := s_X10_advance_0 w w o0 h0 M
theorem m_X10_advance {l : Launch} {G : mG} {sk : List mS} (w : Nat) (o0 : Nat) (h0 : isK o0 20) (M : mM) : Mt l G sk yX10_advance muX10_advance 2 [.ref (gB G + o0)] M eV (f_X10_advance w o0 M) := Mt.of (by decide) rfl (Nat.le_of_ble_eq_true rfl) (s_X10_advance w o0 h0 M)
theorem dX10_rewind_0 : decode cX10_rewind 0 = .ok (.aload_n 0, 1) := by decide +kernel
theorem dX10_rewind_1 : decode cX10_rewind 1 = .ok (.iconst 0, 1) := by decide +kernel
theorem dX10_rewind_2 : decode cX10_rewind 2 = .ok (.putfield 25, 3) := by decide +kernel
theorem dX10_rewind_5 : decode cX10_rewind 5 = .ok (.aload_n 0, 1) := by decide +kernel
theorem dX10_rewind_6 : decode cX10_rewind 6 = .ok (.invokevirtual 28, 3) := by decide +kernel
theorem dX10_rewind_9 : decode cX10_rewind 9 = .ok (.return_, 1) := by decide +kernel
def f_X10_rewind (w : Nat) (o0 : Nat) (M : mM) : Option mM := lt (wI M o0 2 0) fun M1 => bV (f_X10_advance w o0 M1) fun M2 => some M2
set_option maxHeartbeats 4000000 in
set_option maxRecDepth 100000 in
theorem s_X10_rewind {l : Launch} {G : mG} {sk : List mS} (w : Nat) (o0 : Nat) (h0 : isK o0 20) (M : mM) : Go muX10_rewind (rm 3) 0 0 l G sk (mFin G sk eV) (f_X10_rewind w o0 M) 0 [(0, .ref (gB G + o0))] [] M := by
  unfold f_X10_rewind
  refine go_aload_n 0 1 dX10_rewind_0 rfl rfl ?_
  refine go_iconst 0 2 dX10_rewind_1 rfl (by decide) ?_
  refine go_putI flX10_25 rfl rfl h0 5 dX10_rewind_2 rfl ?_
  refine go_nmM (fun M1 => ?_)
  refine go_aload_n 0 6 dX10_rewind_5 rfl rfl ?_
  refine go_cVV0 2 clX10 cwX10_28 (m_X10_advance w o0 h0 M1) h0 9 dX10_rewind_6 rfl ⟨Nat.le_of_ble_eq_true rfl, Nat.le_of_ble_eq_true rfl⟩ ⟨Nat.zero_le _, Nat.zero_le _⟩ (Nat.le_of_ble_eq_true rfl) (fun M2 _ => ?_)
  exact go_vret rfl dX10_rewind_9
theorem m_X10_rewind {l : Launch} {G : mG} {sk : List mS} (w : Nat) (o0 : Nat) (h0 : isK o0 20) (M : mM) : Mt l G sk yX10_rewind muX10_rewind 3 [.ref (gB G + o0)] M eV (f_X10_rewind w o0 M) := Mt.of (by decide) rfl (Nat.le_of_ble_eq_true rfl) (s_X10_rewind w o0 h0 M)
theorem dX10_isWord_0 : decode cX10_isWord 0 = .ok (.aload_n 0, 1) := by decide +kernel
theorem dX10_isWord_1 : decode cX10_isWord 1 = .ok (.getfield 42, 3) := by decide +kernel
theorem dX10_isWord_4 : decode cX10_isWord 4 = .ok (.iconst 1, 1) := by decide +kernel
theorem dX10_isWord_5 : decode cX10_isWord 5 = .ok (.if_icmp .ne 16, 3) := by decide +kernel
theorem dX10_isWord_8 : decode cX10_isWord 8 = .ok (.aload_n 0, 1) := by decide +kernel
theorem dX10_isWord_9 : decode cX10_isWord 9 = .ok (.getfield 38, 3) := by decide +kernel
theorem dX10_isWord_12 : decode cX10_isWord 12 = .ok (.lload_n 1, 1) := by decide +kernel
theorem dX10_isWord_13 : decode cX10_isWord 13 = .ok (.lcmp, 1) := by decide +kernel
theorem dX10_isWord_14 : decode cX10_isWord 14 = .ok (.ifCond .ne 7, 3) := by decide +kernel
theorem dX10_isWord_17 : decode cX10_isWord 17 = .ok (.iconst 1, 1) := by decide +kernel
theorem dX10_isWord_18 : decode cX10_isWord 18 = .ok (.goto 4, 3) := by decide +kernel
theorem dX10_isWord_21 : decode cX10_isWord 21 = .ok (.iconst 0, 1) := by decide +kernel
theorem dX10_isWord_22 : decode cX10_isWord 22 = .ok (.ireturn, 1) := by decide +kernel
def f_X10_isWord (w : Nat) (o0 : Nat) (x1 : Int64) (M : mM) : Option (Int32 × mM) := (if (M.1 o0 3) = 1 then (if (lg_cmp (M.2 o0 5) x1) = 0 then rtB 1 M else rtB 0 M) else rtB 0 M)
set_option maxHeartbeats 4000000 in
set_option maxRecDepth 100000 in
theorem s_X10_isWord {l : Launch} {G : mG} {sk : List mS} (w : Nat) (o0 : Nat) (h0 : isK o0 20) (x1 : Int64) (M : mM) : Go muX10_isWord (rm 0) 0 0 l G sk (mFin G sk eI) (f_X10_isWord w o0 x1 M) 0 [(0, .ref (gB G + o0)), (1, .long x1)] [] M := by
  unfold f_X10_isWord
  refine go_aload_n 0 1 dX10_isWord_0 rfl rfl ?_
  refine go_getI flX10_42 (by decide) h0 4 dX10_isWord_1 rfl ?_
  refine go_iconst 1 5 dX10_isWord_4 rfl (by decide) ?_
  refine go_icmp_ne 21 8 dX10_isWord_5 rfl (by decide) (fun _ => ?_) (fun _ => ?_)
  · refine go_iconst 0 22 dX10_isWord_21 rfl (by decide) ?_
    exact go_zret rfl dX10_isWord_22
  · refine go_aload_n 0 9 dX10_isWord_8 rfl rfl ?_
    refine go_getL flX10_38 h0 12 dX10_isWord_9 rfl ?_
    refine go_lload_n 1 13 dX10_isWord_12 rfl rfl ?_
    refine go_lcmp 14 dX10_isWord_13 rfl ?_
    refine go_if_ne 21 17 dX10_isWord_14 rfl (by decide) (fun _ => ?_) (fun _ => ?_)
    · refine go_iconst 0 22 dX10_isWord_21 rfl (by decide) ?_
      exact go_zret rfl dX10_isWord_22
    · refine go_iconst 1 18 dX10_isWord_17 rfl (by decide) ?_
      refine go_goto 22 dX10_isWord_18 (by decide) ?_
      exact go_zret rfl dX10_isWord_22
theorem m_X10_isWord {l : Launch} {G : mG} {sk : List mS} (w : Nat) (o0 : Nat) (h0 : isK o0 20) (x1 : Int64) (M : mM) : Mt l G sk yX10_isWord muX10_isWord 0 [.ref (gB G + o0), .long x1] M eI (f_X10_isWord w o0 x1 M) := Mt.of (by decide) rfl (Nat.le_of_ble_eq_true rfl) (s_X10_isWord w o0 h0 x1 M)
theorem dX10_isSign_0 : decode cX10_isSign 0 = .ok (.aload_n 0, 1) := by decide +kernel
theorem dX10_isSign_1 : decode cX10_isSign 1 = .ok (.getfield 42, 3) := by decide +kernel
theorem dX10_isSign_4 : decode cX10_isSign 4 = .ok (.iconst 3, 1) := by decide +kernel
theorem dX10_isSign_5 : decode cX10_isSign 5 = .ok (.if_icmp .ne 17, 3) := by decide +kernel
theorem dX10_isSign_8 : decode cX10_isSign 8 = .ok (.aload_n 0, 1) := by decide +kernel
theorem dX10_isSign_9 : decode cX10_isSign 9 = .ok (.getfield 38, 3) := by decide +kernel
theorem dX10_isSign_12 : decode cX10_isSign 12 = .ok (.iload_n 1, 1) := by decide +kernel
theorem dX10_isSign_13 : decode cX10_isSign 13 = .ok (.i2l, 1) := by decide +kernel
theorem dX10_isSign_14 : decode cX10_isSign 14 = .ok (.lcmp, 1) := by decide +kernel
theorem dX10_isSign_15 : decode cX10_isSign 15 = .ok (.ifCond .ne 7, 3) := by decide +kernel
theorem dX10_isSign_18 : decode cX10_isSign 18 = .ok (.iconst 1, 1) := by decide +kernel
theorem dX10_isSign_19 : decode cX10_isSign 19 = .ok (.goto 4, 3) := by decide +kernel
theorem dX10_isSign_22 : decode cX10_isSign 22 = .ok (.iconst 0, 1) := by decide +kernel
theorem dX10_isSign_23 : decode cX10_isSign 23 = .ok (.ireturn, 1) := by decide +kernel
def f_X10_isSign (w : Nat) (o0 : Nat) (x1 : Int32) (M : mM) : Option (Int32 × mM) := (if (M.1 o0 3) = 3 then (if (lg_cmp (M.2 o0 5) (x1.toInt64)) = 0 then rtB 1 M else rtB 0 M) else rtB 0 M)
set_option maxHeartbeats 4000000 in
set_option maxRecDepth 100000 in
theorem s_X10_isSign {l : Launch} {G : mG} {sk : List mS} (w : Nat) (o0 : Nat) (h0 : isK o0 20) (x1 : Int32) (M : mM) : Go muX10_isSign (rm 0) 0 0 l G sk (mFin G sk eI) (f_X10_isSign w o0 x1 M) 0 [(0, .ref (gB G + o0)), (1, .int x1)] [] M := by
  unfold f_X10_isSign
  refine go_aload_n 0 1 dX10_isSign_0 rfl rfl ?_
  refine go_getI flX10_42 (by decide) h0 4 dX10_isSign_1 rfl ?_
  refine go_iconst 3 5 dX10_isSign_4 rfl (by decide) ?_
  refine go_icmp_ne 22 8 dX10_isSign_5 rfl (by decide) (fun _ => ?_) (fun _ => ?_)
  · refine go_iconst 0 23 dX10_isSign_22 rfl (by decide) ?_
    exact go_zret rfl dX10_isSign_23
  · refine go_aload_n 0 9 dX10_isSign_8 rfl rfl ?_
    refine go_getL flX10_38 h0 12 dX10_isSign_9 rfl ?_
    refine go_iload_n 1 13 dX10_isSign_12 rfl rfl ?_
    refine go_i2l 14 dX10_isSign_13 rfl ?_
    refine go_lcmp 15 dX10_isSign_14 rfl ?_
    refine go_if_ne 22 18 dX10_isSign_15 rfl (by decide) (fun _ => ?_) (fun _ => ?_)
    · refine go_iconst 0 23 dX10_isSign_22 rfl (by decide) ?_
      exact go_zret rfl dX10_isSign_23
    · refine go_iconst 1 19 dX10_isSign_18 rfl (by decide) ?_
      refine go_goto 23 dX10_isSign_19 (by decide) ?_
      exact go_zret rfl dX10_isSign_23
theorem m_X10_isSign {l : Launch} {G : mG} {sk : List mS} (w : Nat) (o0 : Nat) (h0 : isK o0 20) (x1 : Int32) (M : mM) : Mt l G sk yX10_isSign muX10_isSign 0 [.ref (gB G + o0), .int x1] M eI (f_X10_isSign w o0 x1 M) := Mt.of (by decide) rfl (Nat.le_of_ble_eq_true rfl) (s_X10_isSign w o0 h0 x1 M)
theorem dX10_isName_0 : decode cX10_isName 0 = .ok (.aload_n 0, 1) := by decide +kernel
theorem dX10_isName_1 : decode cX10_isName 1 = .ok (.getfield 42, 3) := by decide +kernel
theorem dX10_isName_4 : decode cX10_isName 4 = .ok (.iconst 1, 1) := by decide +kernel
theorem dX10_isName_5 : decode cX10_isName 5 = .ok (.if_icmp .eq 5, 3) := by decide +kernel
theorem dX10_isName_8 : decode cX10_isName 8 = .ok (.iconst 0, 1) := by decide +kernel
theorem dX10_isName_9 : decode cX10_isName 9 = .ok (.ireturn, 1) := by decide +kernel
theorem dX10_isName_10 : decode cX10_isName 10 = .ok (.iconst 0, 1) := by decide +kernel
theorem dX10_isName_11 : decode cX10_isName 11 = .ok (.istore_n 1, 1) := by decide +kernel
theorem dX10_isName_12 : decode cX10_isName 12 = .ok (.iload_n 1, 1) := by decide +kernel
theorem dX10_isName_13 : decode cX10_isName 13 = .ok (.getstatic 62, 3) := by decide +kernel
theorem dX10_isName_16 : decode cX10_isName 16 = .ok (.arraylength, 1) := by decide +kernel
theorem dX10_isName_17 : decode cX10_isName 17 = .ok (.if_icmp .ge 24, 3) := by decide +kernel
theorem dX10_isName_20 : decode cX10_isName 20 = .ok (.getstatic 62, 3) := by decide +kernel
theorem dX10_isName_23 : decode cX10_isName 23 = .ok (.iload_n 1, 1) := by decide +kernel
theorem dX10_isName_24 : decode cX10_isName 24 = .ok (.laload, 1) := by decide +kernel
theorem dX10_isName_25 : decode cX10_isName 25 = .ok (.aload_n 0, 1) := by decide +kernel
theorem dX10_isName_26 : decode cX10_isName 26 = .ok (.getfield 38, 3) := by decide +kernel
theorem dX10_isName_29 : decode cX10_isName 29 = .ok (.lcmp, 1) := by decide +kernel
theorem dX10_isName_30 : decode cX10_isName 30 = .ok (.ifCond .ne 5, 3) := by decide +kernel
theorem dX10_isName_33 : decode cX10_isName 33 = .ok (.iconst 0, 1) := by decide +kernel
theorem dX10_isName_34 : decode cX10_isName 34 = .ok (.ireturn, 1) := by decide +kernel
theorem dX10_isName_35 : decode cX10_isName 35 = .ok (.iinc 1 1, 3) := by decide +kernel
theorem dX10_isName_38 : decode cX10_isName 38 = .ok (.goto (-26), 3) := by decide +kernel
theorem dX10_isName_41 : decode cX10_isName 41 = .ok (.iconst 1, 1) := by decide +kernel
theorem dX10_isName_42 : decode cX10_isName 42 = .ok (.ireturn, 1) := by decide +kernel
def f_X10_isName_12 (w : Nat) : Nat → Nat → Int32 → mM → Option (Int32 × mM)
  | 0, _, _, _ => none
  | n + 1, o0, x1, M => (if 19 ≤ x1 then rtB 1 M else chk x1 st0.length ((if (lg_cmp (st0.getD x1.toNatClampNeg 0) (M.2 o0 5)) = 0 then rtB 0 M else (f_X10_isName_12 w n o0 (x1 + 1) M))))
set_option maxHeartbeats 4000000 in
set_option maxRecDepth 100000 in
theorem s_X10_isName_12 {l : Launch} {G : mG} {sk : List mS} (w : Nat) : ∀ (n : Nat) (o0 : Nat) (h0 : isK o0 20) (x1 : Int32) (M : mM), Go muX10_isName (rm 0) 0 0 l G sk (mFin G sk eI) (f_X10_isName_12 w n o0 x1 M) 12 [(0, .ref (gB G + o0)), (1, .int x1)] [] M := by
  intro n
  induction n with
  | zero =>
    intros
    exact go_none
  | succ n ih =>
    intro o0 h0 x1 M
    rw [f_X10_isName_12]
    refine go_iload_n 1 13 dX10_isName_12 rfl rfl ?_
    refine go_gets 0 ss0 gsX10_62 16 dX10_isName_13 rfl ?_
    refine go_tlen 0 ss0 19 rfl 17 dX10_isName_16 rfl ?_
    refine go_icmp_ge 41 20 dX10_isName_17 rfl (by decide) (fun _ => ?_) (fun _ => ?_)
    · refine go_iconst 1 42 dX10_isName_41 rfl (by decide) ?_
      exact go_zret rfl dX10_isName_42
    · refine go_gets 0 ss0 gsX10_62 23 dX10_isName_20 rfl ?_
      refine go_iload_n 1 24 dX10_isName_23 rfl rfl ?_
      refine go_tlald 0 ss0 25 dX10_isName_24 rfl ?_
      refine go_aload_n 0 26 dX10_isName_25 rfl rfl ?_
      refine go_getL flX10_38 h0 29 dX10_isName_26 rfl ?_
      refine go_lcmp 30 dX10_isName_29 rfl ?_
      refine go_if_ne 35 33 dX10_isName_30 rfl (by decide) (fun _ => ?_) (fun _ => ?_)
      · refine go_iinc (x1 + 1) 1 [(1, .int (x1 + 1)), (0, .ref (gB G + o0))] 38 dX10_isName_35 rfl rfl rfl (by decide) rfl ?_
        refine go_goto 12 dX10_isName_38 (by decide) ?_
        exact go_lv [1, 0] rfl (ih o0 h0 (x1 + 1) M)
      · refine go_iconst 0 34 dX10_isName_33 rfl (by decide) ?_
        exact go_zret rfl dX10_isName_34
def f_X10_isName (w : Nat) (o0 : Nat) (M : mM) : Option (Int32 × mM) := (if (M.1 o0 3) = 1 then (f_X10_isName_12 w w o0 0 M) else rtB 0 M)
set_option maxHeartbeats 4000000 in
set_option maxRecDepth 100000 in
theorem s_X10_isName {l : Launch} {G : mG} {sk : List mS} (w : Nat) (o0 : Nat) (h0 : isK o0 20) (M : mM) : Go muX10_isName (rm 0) 0 0 l G sk (mFin G sk eI) (f_X10_isName w o0 M) 0 [(0, .ref (gB G + o0))] [] M := by
  unfold f_X10_isName
  refine go_aload_n 0 1 dX10_isName_0 rfl rfl ?_
  refine go_getI flX10_42 (by decide) h0 4 dX10_isName_1 rfl ?_
  refine go_iconst 1 5 dX10_isName_4 rfl (by decide) ?_
  refine go_icmp_eq 10 8 dX10_isName_5 rfl (by decide) (fun _ => ?_) (fun _ => ?_)
  · refine go_iconst 0 11 dX10_isName_10 rfl (by decide) ?_
    refine go_istore_n [(1, .int 0), (0, .ref (gB G + o0))] 12 dX10_isName_11 rfl rfl (by decide) rfl ?_
    exact go_lv [1, 0] rfl (s_X10_isName_12 w w o0 h0 0 M)
  · refine go_iconst 0 9 dX10_isName_8 rfl (by decide) ?_
    exact go_zret rfl dX10_isName_9
theorem m_X10_isName {l : Launch} {G : mG} {sk : List mS} (w : Nat) (o0 : Nat) (h0 : isK o0 20) (M : mM) : Mt l G sk yX10_isName muX10_isName 0 [.ref (gB G + o0)] M eI (f_X10_isName w o0 M) := Mt.of (by decide) rfl (Nat.le_of_ble_eq_true rfl) (s_X10_isName w o0 h0 M)
theorem dX10_refuse_0 : decode cX10_refuse 0 = .ok (.aload_n 0, 1) := by decide +kernel
theorem dX10_refuse_1 : decode cX10_refuse 1 = .ok (.iload_n 1, 1) := by decide +kernel
theorem dX10_refuse_2 : decode cX10_refuse 2 = .ok (.bipush 16, 2) := by decide +kernel
theorem dX10_refuse_4 : decode cX10_refuse 4 = .ok (.aload_n 0, 1) := by decide +kernel
theorem dX10_refuse_5 : decode cX10_refuse 5 = .ok (.getfield 35, 3) := by decide +kernel
theorem dX10_refuse_8 : decode cX10_refuse 8 = .ok (.imul, 1) := by decide +kernel
theorem dX10_refuse_9 : decode cX10_refuse 9 = .ok (.iadd, 1) := by decide +kernel
theorem dX10_refuse_10 : decode cX10_refuse 10 = .ok (.putfield 66, 3) := by decide +kernel
theorem dX10_refuse_13 : decode cX10_refuse 13 = .ok (.iconst 0, 1) := by decide +kernel
theorem dX10_refuse_14 : decode cX10_refuse 14 = .ok (.ireturn, 1) := by decide +kernel
def f_X10_refuse (w : Nat) (o0 : Nat) (x1 : Int32) (M : mM) : Option (Int32 × mM) := lt (wI M o0 6 (x1 + (16 * (M.1 o0 4)))) fun M1 => rtB 0 M1
set_option maxHeartbeats 4000000 in
set_option maxRecDepth 100000 in
theorem s_X10_refuse {l : Launch} {G : mG} {sk : List mS} (w : Nat) (o0 : Nat) (h0 : isK o0 20) (x1 : Int32) (M : mM) : Go muX10_refuse (rm 0) 0 0 l G sk (mFin G sk eI) (f_X10_refuse w o0 x1 M) 0 [(0, .ref (gB G + o0)), (1, .int x1)] [] M := by
  unfold f_X10_refuse
  refine go_aload_n 0 1 dX10_refuse_0 rfl rfl ?_
  refine go_iload_n 1 2 dX10_refuse_1 rfl rfl ?_
  refine go_bipush 16 4 dX10_refuse_2 rfl (by decide) ?_
  refine go_aload_n 0 5 dX10_refuse_4 rfl rfl ?_
  refine go_getI flX10_35 (by decide) h0 8 dX10_refuse_5 rfl ?_
  refine go_imul 9 dX10_refuse_8 rfl ?_
  refine go_iadd 10 dX10_refuse_9 rfl ?_
  refine go_putI flX10_66 rfl rfl h0 13 dX10_refuse_10 rfl ?_
  refine go_nmM (fun M1 => ?_)
  refine go_iconst 0 14 dX10_refuse_13 rfl (by decide) ?_
  exact go_zret rfl dX10_refuse_14
theorem m_X10_refuse {l : Launch} {G : mG} {sk : List mS} (w : Nat) (o0 : Nat) (h0 : isK o0 20) (x1 : Int32) (M : mM) : Mt l G sk yX10_refuse muX10_refuse 0 [.ref (gB G + o0), .int x1] M eI (f_X10_refuse w o0 x1 M) := Mt.of (by decide) rfl (Nat.le_of_ble_eq_true rfl) (s_X10_refuse w o0 h0 x1 M)
theorem dX10_takeWord_0 : decode cX10_takeWord 0 = .ok (.aload_n 0, 1) := by decide +kernel
theorem dX10_takeWord_1 : decode cX10_takeWord 1 = .ok (.lload_n 1, 1) := by decide +kernel
theorem dX10_takeWord_2 : decode cX10_takeWord 2 = .ok (.invokevirtual 69, 3) := by decide +kernel
theorem dX10_takeWord_5 : decode cX10_takeWord 5 = .ok (.ifCond .ne 9, 3) := by decide +kernel
theorem dX10_takeWord_8 : decode cX10_takeWord 8 = .ok (.aload_n 0, 1) := by decide +kernel
theorem dX10_takeWord_9 : decode cX10_takeWord 9 = .ok (.iconst 1, 1) := by decide +kernel
theorem dX10_takeWord_10 : decode cX10_takeWord 10 = .ok (.invokevirtual 73, 3) := by decide +kernel
theorem dX10_takeWord_13 : decode cX10_takeWord 13 = .ok (.ireturn, 1) := by decide +kernel
theorem dX10_takeWord_14 : decode cX10_takeWord 14 = .ok (.aload_n 0, 1) := by decide +kernel
theorem dX10_takeWord_15 : decode cX10_takeWord 15 = .ok (.invokevirtual 28, 3) := by decide +kernel
theorem dX10_takeWord_18 : decode cX10_takeWord 18 = .ok (.iconst 1, 1) := by decide +kernel
theorem dX10_takeWord_19 : decode cX10_takeWord 19 = .ok (.ireturn, 1) := by decide +kernel
def f_X10_takeWord (w : Nat) (o0 : Nat) (x1 : Int64) (M : mM) : Option (Int32 × mM) := bI (f_X10_isWord w o0 x1 M) fun q2 M1 => (if q2 = 0 then bI (f_X10_refuse w o0 1 M1) fun q5 M4 => rtB q5 M4 else bV (f_X10_advance w o0 M1) fun M3 => rtB 1 M3)
set_option maxHeartbeats 4000000 in
set_option maxRecDepth 100000 in
theorem s_X10_takeWord {l : Launch} {G : mG} {sk : List mS} (w : Nat) (o0 : Nat) (h0 : isK o0 20) (x1 : Int64) (M : mM) : Go muX10_takeWord (rm 3) 0 0 l G sk (mFin G sk eI) (f_X10_takeWord w o0 x1 M) 0 [(0, .ref (gB G + o0)), (1, .long x1)] [] M := by
  unfold f_X10_takeWord
  refine go_aload_n 0 1 dX10_takeWord_0 rfl rfl ?_
  refine go_lload_n 1 2 dX10_takeWord_1 rfl rfl ?_
  refine go_cVI1 0 clX10 cwX10_69 (m_X10_isWord w o0 h0 x1 M) h0 5 dX10_takeWord_2 rfl ⟨Nat.le_of_ble_eq_true rfl, Nat.le_of_ble_eq_true rfl⟩ ⟨Nat.zero_le _, Nat.zero_le _⟩ (Nat.le_of_ble_eq_true rfl) (fun q2 M1 _ => ?_)
  refine go_if_ne 14 8 dX10_takeWord_5 rfl (by decide) (fun _ => ?_) (fun _ => ?_)
  · refine go_aload_n 0 15 dX10_takeWord_14 rfl rfl ?_
    refine go_cVV0 2 clX10 cwX10_28 (m_X10_advance w o0 h0 M1) h0 18 dX10_takeWord_15 rfl ⟨Nat.le_of_ble_eq_true rfl, Nat.le_of_ble_eq_true rfl⟩ ⟨Nat.zero_le _, Nat.zero_le _⟩ (Nat.le_of_ble_eq_true rfl) (fun M3 _ => ?_)
    refine go_iconst 1 19 dX10_takeWord_18 rfl (by decide) ?_
    exact go_zret rfl dX10_takeWord_19
  · refine go_aload_n 0 9 dX10_takeWord_8 rfl rfl ?_
    refine go_iconst 1 10 dX10_takeWord_9 rfl (by decide) ?_
    refine go_cVI1 0 clX10 cwX10_73 (m_X10_refuse w o0 h0 1 M1) h0 13 dX10_takeWord_10 rfl ⟨Nat.le_of_ble_eq_true rfl, Nat.le_of_ble_eq_true rfl⟩ ⟨Nat.zero_le _, Nat.zero_le _⟩ (Nat.le_of_ble_eq_true rfl) (fun q5 M4 _ => ?_)
    exact go_zret rfl dX10_takeWord_13
theorem m_X10_takeWord {l : Launch} {G : mG} {sk : List mS} (w : Nat) (o0 : Nat) (h0 : isK o0 20) (x1 : Int64) (M : mM) : Mt l G sk yX10_takeWord muX10_takeWord 3 [.ref (gB G + o0), .long x1] M eI (f_X10_takeWord w o0 x1 M) := Mt.of (by decide) rfl (Nat.le_of_ble_eq_true rfl) (s_X10_takeWord w o0 h0 x1 M)
theorem dX10_takeSign_0 : decode cX10_takeSign 0 = .ok (.aload_n 0, 1) := by decide +kernel
theorem dX10_takeSign_1 : decode cX10_takeSign 1 = .ok (.iload_n 1, 1) := by decide +kernel
theorem dX10_takeSign_2 : decode cX10_takeSign 2 = .ok (.invokevirtual 76, 3) := by decide +kernel
theorem dX10_takeSign_5 : decode cX10_takeSign 5 = .ok (.ifCond .ne 9, 3) := by decide +kernel
theorem dX10_takeSign_8 : decode cX10_takeSign 8 = .ok (.aload_n 0, 1) := by decide +kernel
theorem dX10_takeSign_9 : decode cX10_takeSign 9 = .ok (.iconst 1, 1) := by decide +kernel
theorem dX10_takeSign_10 : decode cX10_takeSign 10 = .ok (.invokevirtual 73, 3) := by decide +kernel
theorem dX10_takeSign_13 : decode cX10_takeSign 13 = .ok (.ireturn, 1) := by decide +kernel
theorem dX10_takeSign_14 : decode cX10_takeSign 14 = .ok (.aload_n 0, 1) := by decide +kernel
theorem dX10_takeSign_15 : decode cX10_takeSign 15 = .ok (.invokevirtual 28, 3) := by decide +kernel
theorem dX10_takeSign_18 : decode cX10_takeSign 18 = .ok (.iconst 1, 1) := by decide +kernel
theorem dX10_takeSign_19 : decode cX10_takeSign 19 = .ok (.ireturn, 1) := by decide +kernel
def f_X10_takeSign (w : Nat) (o0 : Nat) (x1 : Int32) (M : mM) : Option (Int32 × mM) := bI (f_X10_isSign w o0 x1 M) fun q2 M1 => (if q2 = 0 then bI (f_X10_refuse w o0 1 M1) fun q5 M4 => rtB q5 M4 else bV (f_X10_advance w o0 M1) fun M3 => rtB 1 M3)
set_option maxHeartbeats 4000000 in
set_option maxRecDepth 100000 in
theorem s_X10_takeSign {l : Launch} {G : mG} {sk : List mS} (w : Nat) (o0 : Nat) (h0 : isK o0 20) (x1 : Int32) (M : mM) : Go muX10_takeSign (rm 3) 0 0 l G sk (mFin G sk eI) (f_X10_takeSign w o0 x1 M) 0 [(0, .ref (gB G + o0)), (1, .int x1)] [] M := by
  unfold f_X10_takeSign
  refine go_aload_n 0 1 dX10_takeSign_0 rfl rfl ?_
  refine go_iload_n 1 2 dX10_takeSign_1 rfl rfl ?_
  refine go_cVI1 0 clX10 cwX10_76 (m_X10_isSign w o0 h0 x1 M) h0 5 dX10_takeSign_2 rfl ⟨Nat.le_of_ble_eq_true rfl, Nat.le_of_ble_eq_true rfl⟩ ⟨Nat.zero_le _, Nat.zero_le _⟩ (Nat.le_of_ble_eq_true rfl) (fun q2 M1 _ => ?_)
  refine go_if_ne 14 8 dX10_takeSign_5 rfl (by decide) (fun _ => ?_) (fun _ => ?_)
  · refine go_aload_n 0 15 dX10_takeSign_14 rfl rfl ?_
    refine go_cVV0 2 clX10 cwX10_28 (m_X10_advance w o0 h0 M1) h0 18 dX10_takeSign_15 rfl ⟨Nat.le_of_ble_eq_true rfl, Nat.le_of_ble_eq_true rfl⟩ ⟨Nat.zero_le _, Nat.zero_le _⟩ (Nat.le_of_ble_eq_true rfl) (fun M3 _ => ?_)
    refine go_iconst 1 19 dX10_takeSign_18 rfl (by decide) ?_
    exact go_zret rfl dX10_takeSign_19
  · refine go_aload_n 0 9 dX10_takeSign_8 rfl rfl ?_
    refine go_iconst 1 10 dX10_takeSign_9 rfl (by decide) ?_
    refine go_cVI1 0 clX10 cwX10_73 (m_X10_refuse w o0 h0 1 M1) h0 13 dX10_takeSign_10 rfl ⟨Nat.le_of_ble_eq_true rfl, Nat.le_of_ble_eq_true rfl⟩ ⟨Nat.zero_le _, Nat.zero_le _⟩ (Nat.le_of_ble_eq_true rfl) (fun q5 M4 _ => ?_)
    exact go_zret rfl dX10_takeSign_13
theorem m_X10_takeSign {l : Launch} {G : mG} {sk : List mS} (w : Nat) (o0 : Nat) (h0 : isK o0 20) (x1 : Int32) (M : mM) : Mt l G sk yX10_takeSign muX10_takeSign 3 [.ref (gB G + o0), .int x1] M eI (f_X10_takeSign w o0 x1 M) := Mt.of (by decide) rfl (Nat.le_of_ble_eq_true rfl) (s_X10_takeSign w o0 h0 x1 M)
theorem dX10_takeNumber_0 : decode cX10_takeNumber 0 = .ok (.aload_n 0, 1) := by decide +kernel
theorem dX10_takeNumber_1 : decode cX10_takeNumber 1 = .ok (.getfield 42, 3) := by decide +kernel
theorem dX10_takeNumber_4 : decode cX10_takeNumber 4 = .ok (.iconst 2, 1) := by decide +kernel
theorem dX10_takeNumber_5 : decode cX10_takeNumber 5 = .ok (.if_icmp .ne 13, 3) := by decide +kernel
theorem dX10_takeNumber_8 : decode cX10_takeNumber 8 = .ok (.aload_n 0, 1) := by decide +kernel
theorem dX10_takeNumber_9 : decode cX10_takeNumber 9 = .ok (.getfield 38, 3) := by decide +kernel
theorem dX10_takeNumber_12 : decode cX10_takeNumber 12 = .ok (.iload_n 1, 1) := by decide +kernel
theorem dX10_takeNumber_13 : decode cX10_takeNumber 13 = .ok (.i2l, 1) := by decide +kernel
theorem dX10_takeNumber_14 : decode cX10_takeNumber 14 = .ok (.lcmp, 1) := by decide +kernel
theorem dX10_takeNumber_15 : decode cX10_takeNumber 15 = .ok (.ifCond .le 23, 3) := by decide +kernel
theorem dX10_takeNumber_18 : decode cX10_takeNumber 18 = .ok (.aload_n 0, 1) := by decide +kernel
theorem dX10_takeNumber_19 : decode cX10_takeNumber 19 = .ok (.aload_n 0, 1) := by decide +kernel
theorem dX10_takeNumber_20 : decode cX10_takeNumber 20 = .ok (.getfield 42, 3) := by decide +kernel
theorem dX10_takeNumber_23 : decode cX10_takeNumber 23 = .ok (.iconst 2, 1) := by decide +kernel
theorem dX10_takeNumber_24 : decode cX10_takeNumber 24 = .ok (.if_icmp .eq 7, 3) := by decide +kernel
theorem dX10_takeNumber_27 : decode cX10_takeNumber 27 = .ok (.iconst 1, 1) := by decide +kernel
theorem dX10_takeNumber_28 : decode cX10_takeNumber 28 = .ok (.goto 4, 3) := by decide +kernel
theorem dX10_takeNumber_31 : decode cX10_takeNumber 31 = .ok (.iconst 4, 1) := by decide +kernel
theorem dX10_takeNumber_32 : decode cX10_takeNumber 32 = .ok (.invokevirtual 73, 3) := by decide +kernel
theorem dX10_takeNumber_35 : decode cX10_takeNumber 35 = .ok (.pop, 1) := by decide +kernel
theorem dX10_takeNumber_36 : decode cX10_takeNumber 36 = .ok (.iconst (-1), 1) := by decide +kernel
theorem dX10_takeNumber_37 : decode cX10_takeNumber 37 = .ok (.ireturn, 1) := by decide +kernel
theorem dX10_takeNumber_38 : decode cX10_takeNumber 38 = .ok (.aload_n 0, 1) := by decide +kernel
theorem dX10_takeNumber_39 : decode cX10_takeNumber 39 = .ok (.getfield 38, 3) := by decide +kernel
theorem dX10_takeNumber_42 : decode cX10_takeNumber 42 = .ok (.l2i, 1) := by decide +kernel
theorem dX10_takeNumber_43 : decode cX10_takeNumber 43 = .ok (.istore_n 2, 1) := by decide +kernel
theorem dX10_takeNumber_44 : decode cX10_takeNumber 44 = .ok (.aload_n 0, 1) := by decide +kernel
theorem dX10_takeNumber_45 : decode cX10_takeNumber 45 = .ok (.invokevirtual 28, 3) := by decide +kernel
theorem dX10_takeNumber_48 : decode cX10_takeNumber 48 = .ok (.iload_n 2, 1) := by decide +kernel
theorem dX10_takeNumber_49 : decode cX10_takeNumber 49 = .ok (.ireturn, 1) := by decide +kernel
def f_X10_takeNumber_32 (w : Nat) (xs0 : Int32) (os1 : Nat) (M : mM) : Option (Int32 × mM) := bI (f_X10_refuse w os1 xs0 M) fun q2 M1 => some ((-1), M1)
set_option maxHeartbeats 4000000 in
set_option maxRecDepth 100000 in
theorem s_X10_takeNumber_32 {l : Launch} {G : mG} {sk : List mS} (w : Nat) (xs0 : Int32) (os1 : Nat) (hs1 : isK os1 20) (M : mM) : Go muX10_takeNumber (rm 3) 0 0 l G sk (mFin G sk eI) (f_X10_takeNumber_32 w xs0 os1 M) 32 [] [.int xs0, .ref (gB G + os1)] M := by
  unfold f_X10_takeNumber_32
  refine go_cVI1 0 clX10 cwX10_73 (m_X10_refuse w os1 hs1 xs0 M) hs1 35 dX10_takeNumber_32 rfl ⟨Nat.le_of_ble_eq_true rfl, Nat.le_of_ble_eq_true rfl⟩ ⟨Nat.zero_le _, Nat.zero_le _⟩ (Nat.le_of_ble_eq_true rfl) (fun q2 M1 _ => ?_)
  refine go_pop 36 dX10_takeNumber_35 rfl rfl ?_
  refine go_iconst (-1) 37 dX10_takeNumber_36 rfl (by decide) ?_
  exact go_iret rfl dX10_takeNumber_37
def f_X10_takeNumber_18 (w : Nat) (o0 : Nat) (M : mM) : Option (Int32 × mM) := (if (M.1 o0 3) = 2 then (f_X10_takeNumber_32 w 4 o0 M) else (f_X10_takeNumber_32 w 1 o0 M))
set_option maxHeartbeats 4000000 in
set_option maxRecDepth 100000 in
theorem s_X10_takeNumber_18 {l : Launch} {G : mG} {sk : List mS} (w : Nat) (o0 : Nat) (h0 : isK o0 20) (M : mM) : Go muX10_takeNumber (rm 3) 0 0 l G sk (mFin G sk eI) (f_X10_takeNumber_18 w o0 M) 18 [(0, .ref (gB G + o0))] [] M := by
  unfold f_X10_takeNumber_18
  refine go_aload_n 0 19 dX10_takeNumber_18 rfl rfl ?_
  refine go_aload_n 0 20 dX10_takeNumber_19 rfl rfl ?_
  refine go_getI flX10_42 (by decide) h0 23 dX10_takeNumber_20 rfl ?_
  refine go_iconst 2 24 dX10_takeNumber_23 rfl (by decide) ?_
  refine go_icmp_eq 31 27 dX10_takeNumber_24 rfl (by decide) (fun _ => ?_) (fun _ => ?_)
  · refine go_iconst 4 32 dX10_takeNumber_31 rfl (by decide) ?_
    exact go_lv [] rfl (s_X10_takeNumber_32 w 4 o0 h0 M)
  · refine go_iconst 1 28 dX10_takeNumber_27 rfl (by decide) ?_
    refine go_goto 32 dX10_takeNumber_28 (by decide) ?_
    exact go_lv [] rfl (s_X10_takeNumber_32 w 1 o0 h0 M)
def f_X10_takeNumber (w : Nat) (o0 : Nat) (x1 : Int32) (M : mM) : Option (Int32 × mM) := (if (M.1 o0 3) = 2 then (if (lg_cmp (M.2 o0 5) (x1.toInt64)) ≤ 0 then lt ((M.2 o0 5).toInt32) fun y1 => bV (f_X10_advance w o0 M) fun M2 => some (y1, M2) else (f_X10_takeNumber_18 w o0 M)) else (f_X10_takeNumber_18 w o0 M))
set_option maxHeartbeats 4000000 in
set_option maxRecDepth 100000 in
theorem s_X10_takeNumber {l : Launch} {G : mG} {sk : List mS} (w : Nat) (o0 : Nat) (h0 : isK o0 20) (x1 : Int32) (M : mM) : Go muX10_takeNumber (rm 3) 0 0 l G sk (mFin G sk eI) (f_X10_takeNumber w o0 x1 M) 0 [(0, .ref (gB G + o0)), (1, .int x1)] [] M := by
  unfold f_X10_takeNumber
  refine go_aload_n 0 1 dX10_takeNumber_0 rfl rfl ?_
  refine go_getI flX10_42 (by decide) h0 4 dX10_takeNumber_1 rfl ?_
  refine go_iconst 2 5 dX10_takeNumber_4 rfl (by decide) ?_
  refine go_icmp_ne 18 8 dX10_takeNumber_5 rfl (by decide) (fun _ => ?_) (fun _ => ?_)
  · exact go_lv [0] rfl (s_X10_takeNumber_18 w o0 h0 M)
  · refine go_aload_n 0 9 dX10_takeNumber_8 rfl rfl ?_
    refine go_getL flX10_38 h0 12 dX10_takeNumber_9 rfl ?_
    refine go_iload_n 1 13 dX10_takeNumber_12 rfl rfl ?_
    refine go_i2l 14 dX10_takeNumber_13 rfl ?_
    refine go_lcmp 15 dX10_takeNumber_14 rfl ?_
    refine go_if_le 38 18 dX10_takeNumber_15 rfl (by decide) (fun _ => ?_) (fun _ => ?_)
    · refine go_aload_n 0 39 dX10_takeNumber_38 rfl rfl ?_
      refine go_getL flX10_38 h0 42 dX10_takeNumber_39 rfl ?_
      refine go_l2i 43 dX10_takeNumber_42 rfl ?_
      refine go_nmI (fun y1 => ?_)
      refine go_istore_n [(2, .int y1), (0, .ref (gB G + o0)), (1, .int x1)] 44 dX10_takeNumber_43 rfl rfl (by decide) rfl ?_
      refine go_aload_n 1 45 dX10_takeNumber_44 rfl rfl ?_
      refine go_cVV0 2 clX10 cwX10_28 (m_X10_advance w o0 h0 M) h0 48 dX10_takeNumber_45 rfl ⟨Nat.le_of_ble_eq_true rfl, Nat.le_of_ble_eq_true rfl⟩ ⟨Nat.zero_le _, Nat.zero_le _⟩ (Nat.le_of_ble_eq_true rfl) (fun M2 _ => ?_)
      refine go_iload_n 0 49 dX10_takeNumber_48 rfl rfl ?_
      exact go_iret rfl dX10_takeNumber_49
    · exact go_lv [0] rfl (s_X10_takeNumber_18 w o0 h0 M)
theorem m_X10_takeNumber {l : Launch} {G : mG} {sk : List mS} (w : Nat) (o0 : Nat) (h0 : isK o0 20) (x1 : Int32) (M : mM) : Mt l G sk yX10_takeNumber muX10_takeNumber 3 [.ref (gB G + o0), .int x1] M eI (f_X10_takeNumber w o0 x1 M) := Mt.of (by decide) rfl (Nat.le_of_ble_eq_true rfl) (s_X10_takeNumber w o0 h0 x1 M)
