theorem dX9_copyFrom_0 : decode cX9_copyFrom 0 = .ok (.aload_n 0, 1) := by decide +kernel
theorem dX9_copyFrom_1 : decode cX9_copyFrom 1 = .ok (.aload_n 1, 1) := by decide +kernel
theorem dX9_copyFrom_2 : decode cX9_copyFrom 2 = .ok (.getfield 25, 3) := by decide +kernel
theorem dX9_copyFrom_5 : decode cX9_copyFrom 5 = .ok (.putfield 25, 3) := by decide +kernel
theorem dX9_copyFrom_8 : decode cX9_copyFrom 8 = .ok (.aload_n 0, 1) := by decide +kernel
theorem dX9_copyFrom_9 : decode cX9_copyFrom 9 = .ok (.aload_n 1, 1) := by decide +kernel
theorem dX9_copyFrom_10 : decode cX9_copyFrom 10 = .ok (.getfield 29, 3) := by decide +kernel
theorem dX9_copyFrom_13 : decode cX9_copyFrom 13 = .ok (.putfield 29, 3) := by decide +kernel
theorem dX9_copyFrom_16 : decode cX9_copyFrom 16 = .ok (.aload_n 1, 1) := by decide +kernel
theorem dX9_copyFrom_17 : decode cX9_copyFrom 17 = .ok (.getfield 9, 3) := by decide +kernel
theorem dX9_copyFrom_20 : decode cX9_copyFrom 20 = .ok (.iconst 0, 1) := by decide +kernel
theorem dX9_copyFrom_21 : decode cX9_copyFrom 21 = .ok (.aload_n 0, 1) := by decide +kernel
theorem dX9_copyFrom_22 : decode cX9_copyFrom 22 = .ok (.getfield 9, 3) := by decide +kernel
theorem dX9_copyFrom_25 : decode cX9_copyFrom 25 = .ok (.iconst 0, 1) := by decide +kernel
theorem dX9_copyFrom_26 : decode cX9_copyFrom 26 = .ok (.bipush 8, 2) := by decide +kernel
theorem dX9_copyFrom_28 : decode cX9_copyFrom 28 = .ok (.invokestatic 32, 3) := by decide +kernel
theorem dX9_copyFrom_31 : decode cX9_copyFrom 31 = .ok (.aload_n 1, 1) := by decide +kernel
theorem dX9_copyFrom_32 : decode cX9_copyFrom 32 = .ok (.getfield 15, 3) := by decide +kernel
theorem dX9_copyFrom_35 : decode cX9_copyFrom 35 = .ok (.iconst 0, 1) := by decide +kernel
theorem dX9_copyFrom_36 : decode cX9_copyFrom 36 = .ok (.aload_n 0, 1) := by decide +kernel
theorem dX9_copyFrom_37 : decode cX9_copyFrom 37 = .ok (.getfield 15, 3) := by decide +kernel
theorem dX9_copyFrom_40 : decode cX9_copyFrom 40 = .ok (.iconst 0, 1) := by decide +kernel
theorem dX9_copyFrom_41 : decode cX9_copyFrom 41 = .ok (.bipush 8, 2) := by decide +kernel
theorem dX9_copyFrom_43 : decode cX9_copyFrom 43 = .ok (.invokestatic 32, 3) := by decide +kernel
theorem dX9_copyFrom_46 : decode cX9_copyFrom 46 = .ok (.aload_n 1, 1) := by decide +kernel
theorem dX9_copyFrom_47 : decode cX9_copyFrom 47 = .ok (.getfield 18, 3) := by decide +kernel
theorem dX9_copyFrom_50 : decode cX9_copyFrom 50 = .ok (.iconst 0, 1) := by decide +kernel
theorem dX9_copyFrom_51 : decode cX9_copyFrom 51 = .ok (.aload_n 0, 1) := by decide +kernel
theorem dX9_copyFrom_52 : decode cX9_copyFrom 52 = .ok (.getfield 18, 3) := by decide +kernel
theorem dX9_copyFrom_55 : decode cX9_copyFrom 55 = .ok (.iconst 0, 1) := by decide +kernel
theorem dX9_copyFrom_56 : decode cX9_copyFrom 56 = .ok (.iconst 5, 1) := by decide +kernel
theorem dX9_copyFrom_57 : decode cX9_copyFrom 57 = .ok (.invokestatic 32, 3) := by decide +kernel
theorem dX9_copyFrom_60 : decode cX9_copyFrom 60 = .ok (.return_, 1) := by decide +kernel
def f_X9_copyFrom (w : Nat) (o0 : Nat) (o1 : Nat) (M : mM) : Option mM := lt (wI M o0 1 (M.1 o1 1)) fun M1 => lt (wI M1 o0 2 (M1.1 o1 2)) fun M2 => cpk 0 0 8 (sL (rF o1 3)) (sL (rF o0 3)) (lt (cI M2 (rF o1 3) (0 : Int32).toNatClampNeg (rF o0 3) (0 : Int32).toNatClampNeg (8 : Int32).toNatClampNeg) fun M3 => cpk 0 0 8 (sL (rF o1 4)) (sL (rF o0 4)) (lt (cI M3 (rF o1 4) (0 : Int32).toNatClampNeg (rF o0 4) (0 : Int32).toNatClampNeg (8 : Int32).toNatClampNeg) fun M4 => cpk 0 0 5 (sL (rF o1 5)) (sL (rF o0 5)) (lt (cI M4 (rF o1 5) (0 : Int32).toNatClampNeg (rF o0 5) (0 : Int32).toNatClampNeg (5 : Int32).toNatClampNeg) fun M5 => some M5)))
set_option maxHeartbeats 4000000 in
set_option maxRecDepth 100000 in
theorem s_X9_copyFrom {l : Launch} {G : mG} {sk : List mS} (w : Nat) (o0 : Nat) (h0 : isK o0 19) (o1 : Nat) (h1 : isK o1 19) (M : mM) : Go muX9_copyFrom (rm 1) 0 0 l G sk (mFin G sk eV) (f_X9_copyFrom w o0 o1 M) 0 [(0, .ref (gB G + o0)), (1, .ref (gB G + o1))] [] M := by
  unfold f_X9_copyFrom
  refine go_aload_n 0 1 dX9_copyFrom_0 rfl rfl ?_
  refine go_aload_n 1 2 dX9_copyFrom_1 rfl rfl ?_
  refine go_getI flX9_25 (by decide) h1 5 dX9_copyFrom_2 rfl ?_
  refine go_putI flX9_25 rfl rfl h0 8 dX9_copyFrom_5 rfl ?_
  refine go_nmM (fun M1 => ?_)
  refine go_aload_n 0 9 dX9_copyFrom_8 rfl rfl ?_
  refine go_aload_n 1 10 dX9_copyFrom_9 rfl rfl ?_
  refine go_getI flX9_29 (by decide) h1 13 dX9_copyFrom_10 rfl ?_
  refine go_putI flX9_29 rfl rfl h0 16 dX9_copyFrom_13 rfl ?_
  refine go_nmM (fun M2 => ?_)
  refine go_aload_n 1 17 dX9_copyFrom_16 rfl rfl ?_
  refine go_getR flX9_9 h1 20 dX9_copyFrom_17 rfl ?_
  refine go_iconst 0 21 dX9_copyFrom_20 rfl (by decide) ?_
  refine go_aload_n 0 22 dX9_copyFrom_21 rfl rfl ?_
  refine go_getR flX9_9 h0 25 dX9_copyFrom_22 rfl ?_
  refine go_iconst 0 26 dX9_copyFrom_25 rfl (by decide) ?_
  refine go_bipush 8 28 dX9_copyFrom_26 rfl (by decide) ?_
  refine go_copyi acX9_32 (rk9_3 h1) (rk9_3 h0) 31 dX9_copyFrom_28 rfl (Nat.le_of_ble_eq_true rfl) (Nat.le_of_ble_eq_true rfl) ?_
  refine go_nmM (fun M3 => ?_)
  refine go_aload_n 1 32 dX9_copyFrom_31 rfl rfl ?_
  refine go_getR flX9_15 h1 35 dX9_copyFrom_32 rfl ?_
  refine go_iconst 0 36 dX9_copyFrom_35 rfl (by decide) ?_
  refine go_aload_n 0 37 dX9_copyFrom_36 rfl rfl ?_
  refine go_getR flX9_15 h0 40 dX9_copyFrom_37 rfl ?_
  refine go_iconst 0 41 dX9_copyFrom_40 rfl (by decide) ?_
  refine go_bipush 8 43 dX9_copyFrom_41 rfl (by decide) ?_
  refine go_copyi acX9_32 (rk9_4 h1) (rk9_4 h0) 46 dX9_copyFrom_43 rfl (Nat.le_of_ble_eq_true rfl) (Nat.le_of_ble_eq_true rfl) ?_
  refine go_nmM (fun M4 => ?_)
  refine go_aload_n 1 47 dX9_copyFrom_46 rfl rfl ?_
  refine go_getR flX9_18 h1 50 dX9_copyFrom_47 rfl ?_
  refine go_iconst 0 51 dX9_copyFrom_50 rfl (by decide) ?_
  refine go_aload_n 0 52 dX9_copyFrom_51 rfl rfl ?_
  refine go_getR flX9_18 h0 55 dX9_copyFrom_52 rfl ?_
  refine go_iconst 0 56 dX9_copyFrom_55 rfl (by decide) ?_
  refine go_iconst 5 57 dX9_copyFrom_56 rfl (by decide) ?_
  refine go_copyi acX9_32 (rk9_5 h1) (rk9_5 h0) 60 dX9_copyFrom_57 rfl (Nat.le_of_ble_eq_true rfl) (Nat.le_of_ble_eq_true rfl) ?_
  refine go_nmM (fun M5 => ?_)
  exact go_vret rfl dX9_copyFrom_60
theorem m_X9_copyFrom {l : Launch} {G : mG} {sk : List mS} (w : Nat) (o0 : Nat) (h0 : isK o0 19) (o1 : Nat) (h1 : isK o1 19) (M : mM) : Mt l G sk yX9_copyFrom muX9_copyFrom 1 [.ref (gB G + o0), .ref (gB G + o1)] M eV (f_X9_copyFrom w o0 o1 M) := Mt.of (by decide) rfl (Nat.le_of_ble_eq_true rfl) (s_X9_copyFrom w o0 h0 o1 h1 M)
theorem dX9_begin_0 : decode cX9_begin 0 = .ok (.aload_n 0, 1) := by decide +kernel
theorem dX9_begin_1 : decode cX9_begin 1 = .ok (.iconst 0, 1) := by decide +kernel
theorem dX9_begin_2 : decode cX9_begin 2 = .ok (.putfield 25, 3) := by decide +kernel
theorem dX9_begin_5 : decode cX9_begin 5 = .ok (.aload_n 0, 1) := by decide +kernel
theorem dX9_begin_6 : decode cX9_begin 6 = .ok (.iconst 0, 1) := by decide +kernel
theorem dX9_begin_7 : decode cX9_begin 7 = .ok (.putfield 29, 3) := by decide +kernel
theorem dX9_begin_10 : decode cX9_begin 10 = .ok (.iconst 0, 1) := by decide +kernel
theorem dX9_begin_11 : decode cX9_begin 11 = .ok (.istore_n 1, 1) := by decide +kernel
theorem dX9_begin_12 : decode cX9_begin 12 = .ok (.iload_n 1, 1) := by decide +kernel
theorem dX9_begin_13 : decode cX9_begin 13 = .ok (.bipush 8, 2) := by decide +kernel
theorem dX9_begin_15 : decode cX9_begin 15 = .ok (.if_icmp .ge 31, 3) := by decide +kernel
theorem dX9_begin_18 : decode cX9_begin 18 = .ok (.aload_n 0, 1) := by decide +kernel
theorem dX9_begin_19 : decode cX9_begin 19 = .ok (.getfield 9, 3) := by decide +kernel
theorem dX9_begin_22 : decode cX9_begin 22 = .ok (.iload_n 1, 1) := by decide +kernel
theorem dX9_begin_23 : decode cX9_begin 23 = .ok (.aload_n 0, 1) := by decide +kernel
theorem dX9_begin_24 : decode cX9_begin 24 = .ok (.getfield 21, 3) := by decide +kernel
theorem dX9_begin_27 : decode cX9_begin 27 = .ok (.getfield 38, 3) := by decide +kernel
theorem dX9_begin_30 : decode cX9_begin 30 = .ok (.iload_n 1, 1) := by decide +kernel
theorem dX9_begin_31 : decode cX9_begin 31 = .ok (.iaload, 1) := by decide +kernel
theorem dX9_begin_32 : decode cX9_begin 32 = .ok (.iastore, 1) := by decide +kernel
theorem dX9_begin_33 : decode cX9_begin 33 = .ok (.aload_n 0, 1) := by decide +kernel
theorem dX9_begin_34 : decode cX9_begin 34 = .ok (.getfield 15, 3) := by decide +kernel
theorem dX9_begin_37 : decode cX9_begin 37 = .ok (.iload_n 1, 1) := by decide +kernel
theorem dX9_begin_38 : decode cX9_begin 38 = .ok (.iconst 0, 1) := by decide +kernel
theorem dX9_begin_39 : decode cX9_begin 39 = .ok (.iastore, 1) := by decide +kernel
theorem dX9_begin_40 : decode cX9_begin 40 = .ok (.iinc 1 1, 3) := by decide +kernel
theorem dX9_begin_43 : decode cX9_begin 43 = .ok (.goto (-31), 3) := by decide +kernel
theorem dX9_begin_46 : decode cX9_begin 46 = .ok (.aload_n 0, 1) := by decide +kernel
theorem dX9_begin_47 : decode cX9_begin 47 = .ok (.getfield 21, 3) := by decide +kernel
theorem dX9_begin_50 : decode cX9_begin 50 = .ok (.getfield 43, 3) := by decide +kernel
theorem dX9_begin_53 : decode cX9_begin 53 = .ok (.iconst 0, 1) := by decide +kernel
theorem dX9_begin_54 : decode cX9_begin 54 = .ok (.aload_n 0, 1) := by decide +kernel
theorem dX9_begin_55 : decode cX9_begin 55 = .ok (.getfield 18, 3) := by decide +kernel
theorem dX9_begin_58 : decode cX9_begin 58 = .ok (.iconst 0, 1) := by decide +kernel
theorem dX9_begin_59 : decode cX9_begin 59 = .ok (.iconst 5, 1) := by decide +kernel
theorem dX9_begin_60 : decode cX9_begin 60 = .ok (.invokestatic 32, 3) := by decide +kernel
theorem dX9_begin_63 : decode cX9_begin 63 = .ok (.return_, 1) := by decide +kernel
def f_X9_begin_46 (w : Nat) (o0 : Nat) (M : mM) : Option mM := cpk 0 0 5 (sL (rF (rF o0 0) 6)) (sL (rF o0 5)) (lt (cI M (rF (rF o0 0) 6) (0 : Int32).toNatClampNeg (rF o0 5) (0 : Int32).toNatClampNeg (5 : Int32).toNatClampNeg) fun M1 => some M1)
set_option maxHeartbeats 4000000 in
set_option maxRecDepth 100000 in
theorem s_X9_begin_46 {l : Launch} {G : mG} {sk : List mS} (w : Nat) (o0 : Nat) (h0 : isK o0 19) (M : mM) : Go muX9_begin (rm 1) 0 0 l G sk (mFin G sk eV) (f_X9_begin_46 w o0 M) 46 [(0, .ref (gB G + o0))] [] M := by
  unfold f_X9_begin_46
  refine go_aload_n 0 47 dX9_begin_46 rfl rfl ?_
  refine go_getR flX9_21 h0 50 dX9_begin_47 rfl ?_
  refine go_getR flX9_43 (rk9_0 h0) 53 dX9_begin_50 rfl ?_
  refine go_iconst 0 54 dX9_begin_53 rfl (by decide) ?_
  refine go_aload_n 0 55 dX9_begin_54 rfl rfl ?_
  refine go_getR flX9_18 h0 58 dX9_begin_55 rfl ?_
  refine go_iconst 0 59 dX9_begin_58 rfl (by decide) ?_
  refine go_iconst 5 60 dX9_begin_59 rfl (by decide) ?_
  refine go_copyi acX9_32 (rk6_6 (rk9_0 h0)) (rk9_5 h0) 63 dX9_begin_60 rfl (Nat.le_of_ble_eq_true rfl) (Nat.le_of_ble_eq_true rfl) ?_
  refine go_nmM (fun M1 => ?_)
  exact go_vret rfl dX9_begin_63
def f_X9_begin_12 (w : Nat) : Nat → Nat → Int32 → mM → Option mM
  | 0, _, _, _ => none
  | n + 1, o0, x1, M => (if 8 ≤ x1 then (f_X9_begin_46 w o0 M) else chk x1 (sL (rF (rF o0 0) 10)) (chk x1 (sL (rF o0 3)) (lt (wI M (rF o0 3) x1.toNatClampNeg (M.1 (rF (rF o0 0) 10) x1.toNatClampNeg)) fun M1 => chk x1 (sL (rF o0 4)) (lt (wI M1 (rF o0 4) x1.toNatClampNeg 0) fun M2 => (f_X9_begin_12 w n o0 (x1 + 1) M2)))))
set_option maxHeartbeats 4000000 in
set_option maxRecDepth 100000 in
theorem s_X9_begin_12 {l : Launch} {G : mG} {sk : List mS} (w : Nat) : ∀ (n : Nat) (o0 : Nat) (h0 : isK o0 19) (x1 : Int32) (M : mM), Go muX9_begin (rm 1) 0 0 l G sk (mFin G sk eV) (f_X9_begin_12 w n o0 x1 M) 12 [(0, .ref (gB G + o0)), (1, .int x1)] [] M := by
  intro n
  induction n with
  | zero =>
    intros
    exact go_none
  | succ n ih =>
    intro o0 h0 x1 M
    rw [f_X9_begin_12]
    refine go_iload_n 1 13 dX9_begin_12 rfl rfl ?_
    refine go_bipush 8 15 dX9_begin_13 rfl (by decide) ?_
    refine go_icmp_ge 46 18 dX9_begin_15 rfl (by decide) (fun _ => ?_) (fun _ => ?_)
    · exact go_lv [0] rfl (s_X9_begin_46 w o0 h0 M)
    · refine go_aload_n 0 19 dX9_begin_18 rfl rfl ?_
      refine go_getR flX9_9 h0 22 dX9_begin_19 rfl ?_
      refine go_iload_n 1 23 dX9_begin_22 rfl rfl ?_
      refine go_aload_n 0 24 dX9_begin_23 rfl rfl ?_
      refine go_getR flX9_21 h0 27 dX9_begin_24 rfl ?_
      refine go_getR flX9_38 (rk9_0 h0) 30 dX9_begin_27 rfl ?_
      refine go_iload_n 1 31 dX9_begin_30 rfl rfl ?_
      refine go_iald (rk6_10 (rk9_0 h0)) 32 dX9_begin_31 rfl ?_
      refine go_iast (rk9_3 h0) 33 dX9_begin_32 rfl ?_
      refine go_nmM (fun M1 => ?_)
      refine go_aload_n 0 34 dX9_begin_33 rfl rfl ?_
      refine go_getR flX9_15 h0 37 dX9_begin_34 rfl ?_
      refine go_iload_n 1 38 dX9_begin_37 rfl rfl ?_
      refine go_iconst 0 39 dX9_begin_38 rfl (by decide) ?_
      refine go_iast (rk9_4 h0) 40 dX9_begin_39 rfl ?_
      refine go_nmM (fun M2 => ?_)
      refine go_iinc (x1 + 1) 1 [(1, .int (x1 + 1)), (0, .ref (gB G + o0))] 43 dX9_begin_40 rfl rfl rfl (by decide) rfl ?_
      refine go_goto 12 dX9_begin_43 (by decide) ?_
      exact go_lv [1, 0] rfl (ih o0 h0 (x1 + 1) M2)
def f_X9_begin (w : Nat) (o0 : Nat) (M : mM) : Option mM := lt (wI M o0 1 0) fun M1 => lt (wI M1 o0 2 0) fun M2 => (f_X9_begin_12 w w o0 0 M2)
set_option maxHeartbeats 4000000 in
set_option maxRecDepth 100000 in
theorem s_X9_begin {l : Launch} {G : mG} {sk : List mS} (w : Nat) (o0 : Nat) (h0 : isK o0 19) (M : mM) : Go muX9_begin (rm 1) 0 0 l G sk (mFin G sk eV) (f_X9_begin w o0 M) 0 [(0, .ref (gB G + o0))] [] M := by
  unfold f_X9_begin
  refine go_aload_n 0 1 dX9_begin_0 rfl rfl ?_
  refine go_iconst 0 2 dX9_begin_1 rfl (by decide) ?_
  refine go_putI flX9_25 rfl rfl h0 5 dX9_begin_2 rfl ?_
  refine go_nmM (fun M1 => ?_)
  refine go_aload_n 0 6 dX9_begin_5 rfl rfl ?_
  refine go_iconst 0 7 dX9_begin_6 rfl (by decide) ?_
  refine go_putI flX9_29 rfl rfl h0 10 dX9_begin_7 rfl ?_
  refine go_nmM (fun M2 => ?_)
  refine go_iconst 0 11 dX9_begin_10 rfl (by decide) ?_
  refine go_istore_n [(1, .int 0), (0, .ref (gB G + o0))] 12 dX9_begin_11 rfl rfl (by decide) rfl ?_
  exact go_lv [1, 0] rfl (s_X9_begin_12 w w o0 h0 0 M2)
theorem m_X9_begin {l : Launch} {G : mG} {sk : List mS} (w : Nat) (o0 : Nat) (h0 : isK o0 19) (M : mM) : Mt l G sk yX9_begin muX9_begin 1 [.ref (gB G + o0)] M eV (f_X9_begin w o0 M) := Mt.of (by decide) rfl (Nat.le_of_ble_eq_true rfl) (s_X9_begin w o0 h0 M)
theorem dX9_hasWedge_0 : decode cX9_hasWedge 0 = .ok (.aload_n 0, 1) := by decide +kernel
theorem dX9_hasWedge_1 : decode cX9_hasWedge 1 = .ok (.getfield 29, 3) := by decide +kernel
theorem dX9_hasWedge_4 : decode cX9_hasWedge 4 = .ok (.iload_n 1, 1) := by decide +kernel
theorem dX9_hasWedge_5 : decode cX9_hasWedge 5 = .ok (.ishr, 1) := by decide +kernel
theorem dX9_hasWedge_6 : decode cX9_hasWedge 6 = .ok (.iconst 1, 1) := by decide +kernel
theorem dX9_hasWedge_7 : decode cX9_hasWedge 7 = .ok (.iand, 1) := by decide +kernel
theorem dX9_hasWedge_8 : decode cX9_hasWedge 8 = .ok (.ifCond .eq 7, 3) := by decide +kernel
theorem dX9_hasWedge_11 : decode cX9_hasWedge 11 = .ok (.iconst 1, 1) := by decide +kernel
theorem dX9_hasWedge_12 : decode cX9_hasWedge 12 = .ok (.goto 4, 3) := by decide +kernel
theorem dX9_hasWedge_15 : decode cX9_hasWedge 15 = .ok (.iconst 0, 1) := by decide +kernel
theorem dX9_hasWedge_16 : decode cX9_hasWedge 16 = .ok (.ireturn, 1) := by decide +kernel
def f_X9_hasWedge (w : Nat) (o0 : Nat) (x1 : Int32) (M : mM) : Option (Int32 × mM) := (if (((M.1 o0 2) >>> (x1 &&& 31)) &&& 1) = 0 then rtB 0 M else rtB 1 M)
set_option maxHeartbeats 4000000 in
set_option maxRecDepth 100000 in
theorem s_X9_hasWedge {l : Launch} {G : mG} {sk : List mS} (w : Nat) (o0 : Nat) (h0 : isK o0 19) (x1 : Int32) (M : mM) : Go muX9_hasWedge (rm 0) 0 0 l G sk (mFin G sk eI) (f_X9_hasWedge w o0 x1 M) 0 [(0, .ref (gB G + o0)), (1, .int x1)] [] M := by
  unfold f_X9_hasWedge
  refine go_aload_n 0 1 dX9_hasWedge_0 rfl rfl ?_
  refine go_getI flX9_29 (by decide) h0 4 dX9_hasWedge_1 rfl ?_
  refine go_iload_n 1 5 dX9_hasWedge_4 rfl rfl ?_
  refine go_ishr 6 dX9_hasWedge_5 rfl ?_
  refine go_iconst 1 7 dX9_hasWedge_6 rfl (by decide) ?_
  refine go_iand 8 dX9_hasWedge_7 rfl ?_
  refine go_if_eq 15 11 dX9_hasWedge_8 rfl (by decide) (fun _ => ?_) (fun _ => ?_)
  · refine go_iconst 0 16 dX9_hasWedge_15 rfl (by decide) ?_
    exact go_zret rfl dX9_hasWedge_16
  · refine go_iconst 1 12 dX9_hasWedge_11 rfl (by decide) ?_
    refine go_goto 16 dX9_hasWedge_12 (by decide) ?_
    exact go_zret rfl dX9_hasWedge_16
theorem m_X9_hasWedge {l : Launch} {G : mG} {sk : List mS} (w : Nat) (o0 : Nat) (h0 : isK o0 19) (x1 : Int32) (M : mM) : Mt l G sk yX9_hasWedge muX9_hasWedge 0 [.ref (gB G + o0), .int x1] M eI (f_X9_hasWedge w o0 x1 M) := Mt.of (by decide) rfl (Nat.le_of_ble_eq_true rfl) (s_X9_hasWedge w o0 h0 x1 M)
theorem dX9_isStuck_0 : decode cX9_isStuck 0 = .ok (.aload_n 0, 1) := by decide +kernel
theorem dX9_isStuck_1 : decode cX9_isStuck 1 = .ok (.getfield 15, 3) := by decide +kernel
theorem dX9_isStuck_4 : decode cX9_isStuck 4 = .ok (.iload_n 1, 1) := by decide +kernel
theorem dX9_isStuck_5 : decode cX9_isStuck 5 = .ok (.iaload, 1) := by decide +kernel
theorem dX9_isStuck_6 : decode cX9_isStuck 6 = .ok (.aload_n 0, 1) := by decide +kernel
theorem dX9_isStuck_7 : decode cX9_isStuck 7 = .ok (.getfield 9, 3) := by decide +kernel
theorem dX9_isStuck_10 : decode cX9_isStuck 10 = .ok (.iload_n 1, 1) := by decide +kernel
theorem dX9_isStuck_11 : decode cX9_isStuck 11 = .ok (.iaload, 1) := by decide +kernel
theorem dX9_isStuck_12 : decode cX9_isStuck 12 = .ok (.if_icmp .le 15, 3) := by decide +kernel
theorem dX9_isStuck_15 : decode cX9_isStuck 15 = .ok (.aload_n 0, 1) := by decide +kernel
theorem dX9_isStuck_16 : decode cX9_isStuck 16 = .ok (.iload_n 1, 1) := by decide +kernel
theorem dX9_isStuck_17 : decode cX9_isStuck 17 = .ok (.invokevirtual 46, 3) := by decide +kernel
theorem dX9_isStuck_20 : decode cX9_isStuck 20 = .ok (.ifCond .ne 7, 3) := by decide +kernel
theorem dX9_isStuck_23 : decode cX9_isStuck 23 = .ok (.iconst 1, 1) := by decide +kernel
theorem dX9_isStuck_24 : decode cX9_isStuck 24 = .ok (.goto 4, 3) := by decide +kernel
theorem dX9_isStuck_27 : decode cX9_isStuck 27 = .ok (.iconst 0, 1) := by decide +kernel
theorem dX9_isStuck_28 : decode cX9_isStuck 28 = .ok (.ireturn, 1) := by decide +kernel
def f_X9_isStuck (w : Nat) (o0 : Nat) (x1 : Int32) (M : mM) : Option (Int32 × mM) := chk x1 (sL (rF o0 4)) (chk x1 (sL (rF o0 3)) ((if (M.1 (rF o0 4) x1.toNatClampNeg) ≤ (M.1 (rF o0 3) x1.toNatClampNeg) then rtB 0 M else bI (f_X9_hasWedge w o0 x1 M) fun q2 M1 => (if q2 = 0 then rtB 1 M1 else rtB 0 M1))))
set_option maxHeartbeats 4000000 in
set_option maxRecDepth 100000 in
theorem s_X9_isStuck {l : Launch} {G : mG} {sk : List mS} (w : Nat) (o0 : Nat) (h0 : isK o0 19) (x1 : Int32) (M : mM) : Go muX9_isStuck (rm 1) 0 0 l G sk (mFin G sk eI) (f_X9_isStuck w o0 x1 M) 0 [(0, .ref (gB G + o0)), (1, .int x1)] [] M := by
  unfold f_X9_isStuck
  refine go_aload_n 0 1 dX9_isStuck_0 rfl rfl ?_
  refine go_getR flX9_15 h0 4 dX9_isStuck_1 rfl ?_
  refine go_iload_n 1 5 dX9_isStuck_4 rfl rfl ?_
  refine go_iald (rk9_4 h0) 6 dX9_isStuck_5 rfl ?_
  refine go_aload_n 0 7 dX9_isStuck_6 rfl rfl ?_
  refine go_getR flX9_9 h0 10 dX9_isStuck_7 rfl ?_
  refine go_iload_n 1 11 dX9_isStuck_10 rfl rfl ?_
  refine go_iald (rk9_3 h0) 12 dX9_isStuck_11 rfl ?_
  refine go_icmp_le 27 15 dX9_isStuck_12 rfl (by decide) (fun _ => ?_) (fun _ => ?_)
  · refine go_iconst 0 28 dX9_isStuck_27 rfl (by decide) ?_
    exact go_zret rfl dX9_isStuck_28
  · refine go_aload_n 0 16 dX9_isStuck_15 rfl rfl ?_
    refine go_iload_n 1 17 dX9_isStuck_16 rfl rfl ?_
    refine go_cVI1 0 clX9 cwX9_46 (m_X9_hasWedge w o0 h0 x1 M) h0 20 dX9_isStuck_17 rfl ⟨Nat.le_of_ble_eq_true rfl, Nat.le_of_ble_eq_true rfl⟩ ⟨Nat.zero_le _, Nat.zero_le _⟩ (Nat.le_of_ble_eq_true rfl) (fun q2 M1 _ => ?_)
    refine go_if_ne 27 23 dX9_isStuck_20 rfl (by decide) (fun _ => ?_) (fun _ => ?_)
    · refine go_iconst 0 28 dX9_isStuck_27 rfl (by decide) ?_
      exact go_zret rfl dX9_isStuck_28
    · refine go_iconst 1 24 dX9_isStuck_23 rfl (by decide) ?_
      refine go_goto 28 dX9_isStuck_24 (by decide) ?_
      exact go_zret rfl dX9_isStuck_28
theorem m_X9_isStuck {l : Launch} {G : mG} {sk : List mS} (w : Nat) (o0 : Nat) (h0 : isK o0 19) (x1 : Int32) (M : mM) : Mt l G sk yX9_isStuck muX9_isStuck 1 [.ref (gB G + o0), .int x1] M eI (f_X9_isStuck w o0 x1 M) := Mt.of (by decide) rfl (Nat.le_of_ble_eq_true rfl) (s_X9_isStuck w o0 h0 x1 M)
theorem dX9_stuckDoors_0 : decode cX9_stuckDoors 0 = .ok (.iconst 0, 1) := by decide +kernel
theorem dX9_stuckDoors_1 : decode cX9_stuckDoors 1 = .ok (.istore_n 1, 1) := by decide +kernel
theorem dX9_stuckDoors_2 : decode cX9_stuckDoors 2 = .ok (.iconst 0, 1) := by decide +kernel
theorem dX9_stuckDoors_3 : decode cX9_stuckDoors 3 = .ok (.istore_n 2, 1) := by decide +kernel
theorem dX9_stuckDoors_4 : decode cX9_stuckDoors 4 = .ok (.iload_n 2, 1) := by decide +kernel
theorem dX9_stuckDoors_5 : decode cX9_stuckDoors 5 = .ok (.aload_n 0, 1) := by decide +kernel
theorem dX9_stuckDoors_6 : decode cX9_stuckDoors 6 = .ok (.getfield 21, 3) := by decide +kernel
theorem dX9_stuckDoors_9 : decode cX9_stuckDoors 9 = .ok (.getfield 50, 3) := by decide +kernel
theorem dX9_stuckDoors_12 : decode cX9_stuckDoors 12 = .ok (.if_icmp .ge 23, 3) := by decide +kernel
theorem dX9_stuckDoors_15 : decode cX9_stuckDoors 15 = .ok (.aload_n 0, 1) := by decide +kernel
theorem dX9_stuckDoors_16 : decode cX9_stuckDoors 16 = .ok (.iload_n 2, 1) := by decide +kernel
theorem dX9_stuckDoors_17 : decode cX9_stuckDoors 17 = .ok (.invokevirtual 53, 3) := by decide +kernel
theorem dX9_stuckDoors_20 : decode cX9_stuckDoors 20 = .ok (.ifCond .eq 9, 3) := by decide +kernel
theorem dX9_stuckDoors_23 : decode cX9_stuckDoors 23 = .ok (.iload_n 1, 1) := by decide +kernel
theorem dX9_stuckDoors_24 : decode cX9_stuckDoors 24 = .ok (.iconst 1, 1) := by decide +kernel
theorem dX9_stuckDoors_25 : decode cX9_stuckDoors 25 = .ok (.iload_n 2, 1) := by decide +kernel
theorem dX9_stuckDoors_26 : decode cX9_stuckDoors 26 = .ok (.ishl, 1) := by decide +kernel
theorem dX9_stuckDoors_27 : decode cX9_stuckDoors 27 = .ok (.ior, 1) := by decide +kernel
theorem dX9_stuckDoors_28 : decode cX9_stuckDoors 28 = .ok (.istore_n 1, 1) := by decide +kernel
theorem dX9_stuckDoors_29 : decode cX9_stuckDoors 29 = .ok (.iinc 2 1, 3) := by decide +kernel
theorem dX9_stuckDoors_32 : decode cX9_stuckDoors 32 = .ok (.goto (-28), 3) := by decide +kernel
theorem dX9_stuckDoors_35 : decode cX9_stuckDoors 35 = .ok (.iload_n 1, 1) := by decide +kernel
theorem dX9_stuckDoors_36 : decode cX9_stuckDoors 36 = .ok (.ireturn, 1) := by decide +kernel
def f_X9_stuckDoors_4 (w : Nat) : Nat → Nat → Int32 → Int32 → mM → Option (Int32 × mM)
  | 0, _, _, _, _ => none
  | n + 1, o0, x1, x2, M => (if (M.1 (rF o0 0) 1) ≤ x2 then some (x1, M) else bI (f_X9_isStuck w o0 x2 M) fun q2 M1 => (if q2 = 0 then (f_X9_stuckDoors_4 w n o0 x1 (x2 + 1) M1) else lt (x1 ||| ((1 : Int32) <<< (x2 &&& 31))) fun y3 => (f_X9_stuckDoors_4 w n o0 y3 (x2 + 1) M1)))
set_option maxHeartbeats 4000000 in
set_option maxRecDepth 100000 in
theorem s_X9_stuckDoors_4 {l : Launch} {G : mG} {sk : List mS} (w : Nat) : ∀ (n : Nat) (o0 : Nat) (h0 : isK o0 19) (x1 : Int32) (x2 : Int32) (M : mM), Go muX9_stuckDoors (rm 2) 0 0 l G sk (mFin G sk eI) (f_X9_stuckDoors_4 w n o0 x1 x2 M) 4 [(0, .ref (gB G + o0)), (1, .int x1), (2, .int x2)] [] M := by
  intro n
  induction n with
  | zero =>
    intros
    exact go_none
  | succ n ih =>
    intro o0 h0 x1 x2 M
    rw [f_X9_stuckDoors_4]
    refine go_iload_n 2 5 dX9_stuckDoors_4 rfl rfl ?_
    refine go_aload_n 0 6 dX9_stuckDoors_5 rfl rfl ?_
    refine go_getR flX9_21 h0 9 dX9_stuckDoors_6 rfl ?_
    refine go_getI flX9_50 (by decide) (rk9_0 h0) 12 dX9_stuckDoors_9 rfl ?_
    refine go_icmp_ge 35 15 dX9_stuckDoors_12 rfl (by decide) (fun _ => ?_) (fun _ => ?_)
    · refine go_iload_n 1 36 dX9_stuckDoors_35 rfl rfl ?_
      exact go_iret rfl dX9_stuckDoors_36
    · refine go_aload_n 0 16 dX9_stuckDoors_15 rfl rfl ?_
      refine go_iload_n 2 17 dX9_stuckDoors_16 rfl rfl ?_
      refine go_cVI1 1 clX9 cwX9_53 (m_X9_isStuck w o0 h0 x2 M) h0 20 dX9_stuckDoors_17 rfl ⟨Nat.le_of_ble_eq_true rfl, Nat.le_of_ble_eq_true rfl⟩ ⟨Nat.zero_le _, Nat.zero_le _⟩ (Nat.le_of_ble_eq_true rfl) (fun q2 M1 _ => ?_)
      refine go_if_eq 29 23 dX9_stuckDoors_20 rfl (by decide) (fun _ => ?_) (fun _ => ?_)
      · refine go_iinc (x2 + 1) 2 [(2, .int (x2 + 1)), (0, .ref (gB G + o0)), (1, .int x1)] 32 dX9_stuckDoors_29 rfl rfl rfl (by decide) rfl ?_
        refine go_goto 4 dX9_stuckDoors_32 (by decide) ?_
        exact go_lv [1, 2, 0] rfl (ih o0 h0 x1 (x2 + 1) M1)
      · refine go_iload_n 1 24 dX9_stuckDoors_23 rfl rfl ?_
        refine go_iconst 1 25 dX9_stuckDoors_24 rfl (by decide) ?_
        refine go_iload_n 2 26 dX9_stuckDoors_25 rfl rfl ?_
        refine go_ishl 27 dX9_stuckDoors_26 rfl ?_
        refine go_ior 28 dX9_stuckDoors_27 rfl ?_
        refine go_nmI (fun y3 => ?_)
        refine go_istore_n [(1, .int y3), (0, .ref (gB G + o0)), (2, .int x2)] 29 dX9_stuckDoors_28 rfl rfl (by decide) rfl ?_
        refine go_iinc (x2 + 1) 2 [(2, .int (x2 + 1)), (1, .int y3), (0, .ref (gB G + o0))] 32 dX9_stuckDoors_29 rfl rfl rfl (by decide) rfl ?_
        refine go_goto 4 dX9_stuckDoors_32 (by decide) ?_
        exact go_lv [2, 1, 0] rfl (ih o0 h0 y3 (x2 + 1) M1)
def f_X9_stuckDoors (w : Nat) (o0 : Nat) (M : mM) : Option (Int32 × mM) := (f_X9_stuckDoors_4 w w o0 0 0 M)
set_option maxHeartbeats 4000000 in
set_option maxRecDepth 100000 in
theorem s_X9_stuckDoors {l : Launch} {G : mG} {sk : List mS} (w : Nat) (o0 : Nat) (h0 : isK o0 19) (M : mM) : Go muX9_stuckDoors (rm 2) 0 0 l G sk (mFin G sk eI) (f_X9_stuckDoors w o0 M) 0 [(0, .ref (gB G + o0))] [] M := by
  unfold f_X9_stuckDoors
  refine go_iconst 0 1 dX9_stuckDoors_0 rfl (by decide) ?_
  refine go_istore_n [(1, .int 0), (0, .ref (gB G + o0))] 2 dX9_stuckDoors_1 rfl rfl (by decide) rfl ?_
  refine go_iconst 0 3 dX9_stuckDoors_2 rfl (by decide) ?_
  refine go_istore_n [(2, .int 0), (1, .int 0), (0, .ref (gB G + o0))] 4 dX9_stuckDoors_3 rfl rfl (by decide) rfl ?_
  exact go_lv [2, 1, 0] rfl (s_X9_stuckDoors_4 w w o0 h0 0 0 M)
theorem m_X9_stuckDoors {l : Launch} {G : mG} {sk : List mS} (w : Nat) (o0 : Nat) (h0 : isK o0 19) (M : mM) : Mt l G sk yX9_stuckDoors muX9_stuckDoors 2 [.ref (gB G + o0)] M eI (f_X9_stuckDoors w o0 M) := Mt.of (by decide) rfl (Nat.le_of_ble_eq_true rfl) (s_X9_stuckDoors w o0 h0 M)
theorem dX9_openDoors_0 : decode cX9_openDoors 0 = .ok (.aload_n 0, 1) := by decide +kernel
theorem dX9_openDoors_1 : decode cX9_openDoors 1 = .ok (.getfield 21, 3) := by decide +kernel
theorem dX9_openDoors_4 : decode cX9_openDoors 4 = .ok (.invokevirtual 56, 3) := by decide +kernel
theorem dX9_openDoors_7 : decode cX9_openDoors 7 = .ok (.aload_n 0, 1) := by decide +kernel
theorem dX9_openDoors_8 : decode cX9_openDoors 8 = .ok (.invokevirtual 60, 3) := by decide +kernel
theorem dX9_openDoors_11 : decode cX9_openDoors 11 = .ok (.iconst (-1), 1) := by decide +kernel
theorem dX9_openDoors_12 : decode cX9_openDoors 12 = .ok (.ixor, 1) := by decide +kernel
theorem dX9_openDoors_13 : decode cX9_openDoors 13 = .ok (.iand, 1) := by decide +kernel
theorem dX9_openDoors_14 : decode cX9_openDoors 14 = .ok (.ireturn, 1) := by decide +kernel
def f_X9_openDoors (w : Nat) (o0 : Nat) (M : mM) : Option (Int32 × mM) := bI (f_X6_allDoors w (rF o0 0) M) fun q2 M1 => bI (f_X9_stuckDoors w o0 M1) fun q4 M3 => some ((q2 &&& (q4 ^^^ (-1))), M3)
set_option maxHeartbeats 4000000 in
set_option maxRecDepth 100000 in
theorem s_X9_openDoors {l : Launch} {G : mG} {sk : List mS} (w : Nat) (o0 : Nat) (h0 : isK o0 19) (M : mM) : Go muX9_openDoors (rm 3) 0 0 l G sk (mFin G sk eI) (f_X9_openDoors w o0 M) 0 [(0, .ref (gB G + o0))] [] M := by
  unfold f_X9_openDoors
  refine go_aload_n 0 1 dX9_openDoors_0 rfl rfl ?_
  refine go_getR flX9_21 h0 4 dX9_openDoors_1 rfl ?_
  refine go_cVI0 0 clX6 cwX9_56 (m_X6_allDoors w (rF o0 0) (rk9_0 h0) M) (rk9_0 h0) 7 dX9_openDoors_4 rfl ⟨Nat.le_of_ble_eq_true rfl, Nat.le_of_ble_eq_true rfl⟩ ⟨Nat.zero_le _, Nat.zero_le _⟩ (Nat.le_of_ble_eq_true rfl) (fun q2 M1 _ => ?_)
  refine go_aload_n 0 8 dX9_openDoors_7 rfl rfl ?_
  refine go_cVI0 2 clX9 cwX9_60 (m_X9_stuckDoors w o0 h0 M1) h0 11 dX9_openDoors_8 rfl ⟨Nat.le_of_ble_eq_true rfl, Nat.le_of_ble_eq_true rfl⟩ ⟨Nat.zero_le _, Nat.zero_le _⟩ (Nat.le_of_ble_eq_true rfl) (fun q4 M3 _ => ?_)
  refine go_iconst (-1) 12 dX9_openDoors_11 rfl (by decide) ?_
  refine go_ixor 13 dX9_openDoors_12 rfl ?_
  refine go_iand 14 dX9_openDoors_13 rfl ?_
  exact go_iret rfl dX9_openDoors_14
theorem m_X9_openDoors {l : Launch} {G : mG} {sk : List mS} (w : Nat) (o0 : Nat) (h0 : isK o0 19) (M : mM) : Mt l G sk yX9_openDoors muX9_openDoors 3 [.ref (gB G + o0)] M eI (f_X9_openDoors w o0 M) := Mt.of (by decide) rfl (Nat.le_of_ble_eq_true rfl) (s_X9_openDoors w o0 h0 M)
theorem dX9_swollenTogether_0 : decode cX9_swollenTogether 0 = .ok (.iconst 0, 1) := by decide +kernel
theorem dX9_swollenTogether_1 : decode cX9_swollenTogether 1 = .ok (.istore_n 1, 1) := by decide +kernel
theorem dX9_swollenTogether_2 : decode cX9_swollenTogether 2 = .ok (.iconst 0, 1) := by decide +kernel
theorem dX9_swollenTogether_3 : decode cX9_swollenTogether 3 = .ok (.istore_n 2, 1) := by decide +kernel
theorem dX9_swollenTogether_4 : decode cX9_swollenTogether 4 = .ok (.iload_n 2, 1) := by decide +kernel
theorem dX9_swollenTogether_5 : decode cX9_swollenTogether 5 = .ok (.aload_n 0, 1) := by decide +kernel
theorem dX9_swollenTogether_6 : decode cX9_swollenTogether 6 = .ok (.getfield 21, 3) := by decide +kernel
theorem dX9_swollenTogether_9 : decode cX9_swollenTogether 9 = .ok (.getfield 50, 3) := by decide +kernel
theorem dX9_swollenTogether_12 : decode cX9_swollenTogether 12 = .ok (.if_icmp .ge 18, 3) := by decide +kernel
theorem dX9_swollenTogether_15 : decode cX9_swollenTogether 15 = .ok (.iload_n 1, 1) := by decide +kernel
theorem dX9_swollenTogether_16 : decode cX9_swollenTogether 16 = .ok (.aload_n 0, 1) := by decide +kernel
theorem dX9_swollenTogether_17 : decode cX9_swollenTogether 17 = .ok (.getfield 15, 3) := by decide +kernel
theorem dX9_swollenTogether_20 : decode cX9_swollenTogether 20 = .ok (.iload_n 2, 1) := by decide +kernel
theorem dX9_swollenTogether_21 : decode cX9_swollenTogether 21 = .ok (.iaload, 1) := by decide +kernel
theorem dX9_swollenTogether_22 : decode cX9_swollenTogether 22 = .ok (.iadd, 1) := by decide +kernel
theorem dX9_swollenTogether_23 : decode cX9_swollenTogether 23 = .ok (.istore_n 1, 1) := by decide +kernel
theorem dX9_swollenTogether_24 : decode cX9_swollenTogether 24 = .ok (.iinc 2 1, 3) := by decide +kernel
theorem dX9_swollenTogether_27 : decode cX9_swollenTogether 27 = .ok (.goto (-23), 3) := by decide +kernel
theorem dX9_swollenTogether_30 : decode cX9_swollenTogether 30 = .ok (.iload_n 1, 1) := by decide +kernel
theorem dX9_swollenTogether_31 : decode cX9_swollenTogether 31 = .ok (.ireturn, 1) := by decide +kernel
def f_X9_swollenTogether_4 (w : Nat) : Nat → Nat → Int32 → Int32 → mM → Option (Int32 × mM)
  | 0, _, _, _, _ => none
  | n + 1, o0, x1, x2, M => (if (M.1 (rF o0 0) 1) ≤ x2 then some (x1, M) else chk x2 (sL (rF o0 4)) (lt (x1 + (M.1 (rF o0 4) x2.toNatClampNeg)) fun y1 => (f_X9_swollenTogether_4 w n o0 y1 (x2 + 1) M)))
set_option maxHeartbeats 4000000 in
set_option maxRecDepth 100000 in
theorem s_X9_swollenTogether_4 {l : Launch} {G : mG} {sk : List mS} (w : Nat) : ∀ (n : Nat) (o0 : Nat) (h0 : isK o0 19) (x1 : Int32) (x2 : Int32) (M : mM), Go muX9_swollenTogether (rm 0) 0 0 l G sk (mFin G sk eI) (f_X9_swollenTogether_4 w n o0 x1 x2 M) 4 [(0, .ref (gB G + o0)), (1, .int x1), (2, .int x2)] [] M := by
  intro n
  induction n with
  | zero =>
    intros
    exact go_none
  | succ n ih =>
    intro o0 h0 x1 x2 M
    rw [f_X9_swollenTogether_4]
    refine go_iload_n 2 5 dX9_swollenTogether_4 rfl rfl ?_
    refine go_aload_n 0 6 dX9_swollenTogether_5 rfl rfl ?_
    refine go_getR flX9_21 h0 9 dX9_swollenTogether_6 rfl ?_
    refine go_getI flX9_50 (by decide) (rk9_0 h0) 12 dX9_swollenTogether_9 rfl ?_
    refine go_icmp_ge 30 15 dX9_swollenTogether_12 rfl (by decide) (fun _ => ?_) (fun _ => ?_)
    · refine go_iload_n 1 31 dX9_swollenTogether_30 rfl rfl ?_
      exact go_iret rfl dX9_swollenTogether_31
    · refine go_iload_n 1 16 dX9_swollenTogether_15 rfl rfl ?_
      refine go_aload_n 0 17 dX9_swollenTogether_16 rfl rfl ?_
      refine go_getR flX9_15 h0 20 dX9_swollenTogether_17 rfl ?_
      refine go_iload_n 2 21 dX9_swollenTogether_20 rfl rfl ?_
      refine go_iald (rk9_4 h0) 22 dX9_swollenTogether_21 rfl ?_
      refine go_iadd 23 dX9_swollenTogether_22 rfl ?_
      refine go_nmI (fun y1 => ?_)
      refine go_istore_n [(1, .int y1), (0, .ref (gB G + o0)), (2, .int x2)] 24 dX9_swollenTogether_23 rfl rfl (by decide) rfl ?_
      refine go_iinc (x2 + 1) 2 [(2, .int (x2 + 1)), (1, .int y1), (0, .ref (gB G + o0))] 27 dX9_swollenTogether_24 rfl rfl rfl (by decide) rfl ?_
      refine go_goto 4 dX9_swollenTogether_27 (by decide) ?_
      exact go_lv [2, 1, 0] rfl (ih o0 h0 y1 (x2 + 1) M)
def f_X9_swollenTogether (w : Nat) (o0 : Nat) (M : mM) : Option (Int32 × mM) := (f_X9_swollenTogether_4 w w o0 0 0 M)
set_option maxHeartbeats 4000000 in
set_option maxRecDepth 100000 in
theorem s_X9_swollenTogether {l : Launch} {G : mG} {sk : List mS} (w : Nat) (o0 : Nat) (h0 : isK o0 19) (M : mM) : Go muX9_swollenTogether (rm 0) 0 0 l G sk (mFin G sk eI) (f_X9_swollenTogether w o0 M) 0 [(0, .ref (gB G + o0))] [] M := by
  unfold f_X9_swollenTogether
  refine go_iconst 0 1 dX9_swollenTogether_0 rfl (by decide) ?_
  refine go_istore_n [(1, .int 0), (0, .ref (gB G + o0))] 2 dX9_swollenTogether_1 rfl rfl (by decide) rfl ?_
  refine go_iconst 0 3 dX9_swollenTogether_2 rfl (by decide) ?_
  refine go_istore_n [(2, .int 0), (1, .int 0), (0, .ref (gB G + o0))] 4 dX9_swollenTogether_3 rfl rfl (by decide) rfl ?_
  exact go_lv [2, 1, 0] rfl (s_X9_swollenTogether_4 w w o0 h0 0 0 M)
theorem m_X9_swollenTogether {l : Launch} {G : mG} {sk : List mS} (w : Nat) (o0 : Nat) (h0 : isK o0 19) (M : mM) : Mt l G sk yX9_swollenTogether muX9_swollenTogether 0 [.ref (gB G + o0)] M eI (f_X9_swollenTogether w o0 M) := Mt.of (by decide) rfl (Nat.le_of_ble_eq_true rfl) (s_X9_swollenTogether w o0 h0 M)
theorem dX9_shutPersons_0 : decode cX9_shutPersons 0 = .ok (.aload_n 0, 1) := by decide +kernel
theorem dX9_shutPersons_1 : decode cX9_shutPersons 1 = .ok (.invokevirtual 60, 3) := by decide +kernel
theorem dX9_shutPersons_4 : decode cX9_shutPersons 4 = .ok (.istore_n 1, 1) := by decide +kernel
theorem dX9_shutPersons_5 : decode cX9_shutPersons 5 = .ok (.aload_n 0, 1) := by decide +kernel
theorem dX9_shutPersons_6 : decode cX9_shutPersons 6 = .ok (.getfield 21, 3) := by decide +kernel
theorem dX9_shutPersons_9 : decode cX9_shutPersons 9 = .ok (.invokevirtual 56, 3) := by decide +kernel
theorem dX9_shutPersons_12 : decode cX9_shutPersons 12 = .ok (.iload_n 1, 1) := by decide +kernel
theorem dX9_shutPersons_13 : decode cX9_shutPersons 13 = .ok (.iconst (-1), 1) := by decide +kernel
theorem dX9_shutPersons_14 : decode cX9_shutPersons 14 = .ok (.ixor, 1) := by decide +kernel
theorem dX9_shutPersons_15 : decode cX9_shutPersons 15 = .ok (.iand, 1) := by decide +kernel
theorem dX9_shutPersons_16 : decode cX9_shutPersons 16 = .ok (.istore_n 2, 1) := by decide +kernel
theorem dX9_shutPersons_17 : decode cX9_shutPersons 17 = .ok (.iconst 0, 1) := by decide +kernel
theorem dX9_shutPersons_18 : decode cX9_shutPersons 18 = .ok (.istore_n 3, 1) := by decide +kernel
theorem dX9_shutPersons_19 : decode cX9_shutPersons 19 = .ok (.iconst 0, 1) := by decide +kernel
theorem dX9_shutPersons_20 : decode cX9_shutPersons 20 = .ok (.istore 4, 2) := by decide +kernel
theorem dX9_shutPersons_22 : decode cX9_shutPersons 22 = .ok (.iload 4, 2) := by decide +kernel
theorem dX9_shutPersons_24 : decode cX9_shutPersons 24 = .ok (.aload_n 0, 1) := by decide +kernel
theorem dX9_shutPersons_25 : decode cX9_shutPersons 25 = .ok (.getfield 21, 3) := by decide +kernel
theorem dX9_shutPersons_28 : decode cX9_shutPersons 28 = .ok (.getfield 63, 3) := by decide +kernel
theorem dX9_shutPersons_31 : decode cX9_shutPersons 31 = .ok (.if_icmp .ge 57, 3) := by decide +kernel
theorem dX9_shutPersons_34 : decode cX9_shutPersons 34 = .ok (.iconst 1, 1) := by decide +kernel
theorem dX9_shutPersons_35 : decode cX9_shutPersons 35 = .ok (.aload_n 0, 1) := by decide +kernel
theorem dX9_shutPersons_36 : decode cX9_shutPersons 36 = .ok (.getfield 18, 3) := by decide +kernel
theorem dX9_shutPersons_39 : decode cX9_shutPersons 39 = .ok (.iload 4, 2) := by decide +kernel
theorem dX9_shutPersons_41 : decode cX9_shutPersons 41 = .ok (.iaload, 1) := by decide +kernel
theorem dX9_shutPersons_42 : decode cX9_shutPersons 42 = .ok (.ishl, 1) := by decide +kernel
theorem dX9_shutPersons_43 : decode cX9_shutPersons 43 = .ok (.istore 5, 2) := by decide +kernel
theorem dX9_shutPersons_45 : decode cX9_shutPersons 45 = .ok (.aload_n 0, 1) := by decide +kernel
theorem dX9_shutPersons_46 : decode cX9_shutPersons 46 = .ok (.getfield 21, 3) := by decide +kernel
theorem dX9_shutPersons_49 : decode cX9_shutPersons 49 = .ok (.iload 5, 2) := by decide +kernel
theorem dX9_shutPersons_51 : decode cX9_shutPersons 51 = .ok (.iload_n 2, 1) := by decide +kernel
theorem dX9_shutPersons_52 : decode cX9_shutPersons 52 = .ok (.invokevirtual 66, 3) := by decide +kernel
theorem dX9_shutPersons_55 : decode cX9_shutPersons 55 = .ok (.iload 5, 2) := by decide +kernel
theorem dX9_shutPersons_57 : decode cX9_shutPersons 57 = .ok (.if_icmp .ne 25, 3) := by decide +kernel
theorem dX9_shutPersons_60 : decode cX9_shutPersons 60 = .ok (.aload_n 0, 1) := by decide +kernel
theorem dX9_shutPersons_61 : decode cX9_shutPersons 61 = .ok (.getfield 21, 3) := by decide +kernel
theorem dX9_shutPersons_64 : decode cX9_shutPersons 64 = .ok (.iload 5, 2) := by decide +kernel
theorem dX9_shutPersons_66 : decode cX9_shutPersons 66 = .ok (.iload_n 1, 1) := by decide +kernel
theorem dX9_shutPersons_67 : decode cX9_shutPersons 67 = .ok (.invokevirtual 66, 3) := by decide +kernel
theorem dX9_shutPersons_70 : decode cX9_shutPersons 70 = .ok (.iload 5, 2) := by decide +kernel
theorem dX9_shutPersons_72 : decode cX9_shutPersons 72 = .ok (.if_icmp .eq 10, 3) := by decide +kernel
theorem dX9_shutPersons_75 : decode cX9_shutPersons 75 = .ok (.iload_n 3, 1) := by decide +kernel
theorem dX9_shutPersons_76 : decode cX9_shutPersons 76 = .ok (.iconst 1, 1) := by decide +kernel
theorem dX9_shutPersons_77 : decode cX9_shutPersons 77 = .ok (.iload 4, 2) := by decide +kernel
theorem dX9_shutPersons_79 : decode cX9_shutPersons 79 = .ok (.ishl, 1) := by decide +kernel
theorem dX9_shutPersons_80 : decode cX9_shutPersons 80 = .ok (.ior, 1) := by decide +kernel
theorem dX9_shutPersons_81 : decode cX9_shutPersons 81 = .ok (.istore_n 3, 1) := by decide +kernel
theorem dX9_shutPersons_82 : decode cX9_shutPersons 82 = .ok (.iinc 4 1, 3) := by decide +kernel
theorem dX9_shutPersons_85 : decode cX9_shutPersons 85 = .ok (.goto (-63), 3) := by decide +kernel
theorem dX9_shutPersons_88 : decode cX9_shutPersons 88 = .ok (.iload_n 3, 1) := by decide +kernel
theorem dX9_shutPersons_89 : decode cX9_shutPersons 89 = .ok (.ireturn, 1) := by decide +kernel
def f_X9_shutPersons_22 (w : Nat) : Nat → Nat → Int32 → Int32 → Int32 → Int32 → mM → Option (Int32 × mM)
  | 0, _, _, _, _, _, _ => none
  | n + 1, o0, x1, x2, x3, x4, M => (if (M.1 (rF o0 0) 2) ≤ x4 then some (x3, M) else chk x4 (sL (rF o0 5)) (lt ((1 : Int32) <<< ((M.1 (rF o0 5) x4.toNatClampNeg) &&& 31)) fun y1 => bI (f_X6_oneDoorOn w (rF o0 0) y1 x2 M) fun q3 M2 => (if q3 = y1 then bI (f_X6_oneDoorOn w (rF o0 0) y1 x1 M2) fun q5 M4 => (if q5 = y1 then (f_X9_shutPersons_22 w n o0 x1 x2 x3 (x4 + 1) M4) else lt (x3 ||| ((1 : Int32) <<< (x4 &&& 31))) fun y6 => (f_X9_shutPersons_22 w n o0 x1 x2 y6 (x4 + 1) M4)) else (f_X9_shutPersons_22 w n o0 x1 x2 x3 (x4 + 1) M2))))
set_option maxHeartbeats 4000000 in
set_option maxRecDepth 100000 in
theorem s_X9_shutPersons_22 {l : Launch} {G : mG} {sk : List mS} (w : Nat) : ∀ (n : Nat) (o0 : Nat) (h0 : isK o0 19) (x1 : Int32) (x2 : Int32) (x3 : Int32) (x4 : Int32) (M : mM), Go muX9_shutPersons (rm 3) 0 0 l G sk (mFin G sk eI) (f_X9_shutPersons_22 w n o0 x1 x2 x3 x4 M) 22 [(0, .ref (gB G + o0)), (1, .int x1), (2, .int x2), (3, .int x3), (4, .int x4)] [] M := by
  intro n
  induction n with
  | zero =>
    intros
    exact go_none
  | succ n ih =>
    intro o0 h0 x1 x2 x3 x4 M
    rw [f_X9_shutPersons_22]
    refine go_iload 4 24 dX9_shutPersons_22 rfl rfl ?_
    refine go_aload_n 0 25 dX9_shutPersons_24 rfl rfl ?_
    refine go_getR flX9_21 h0 28 dX9_shutPersons_25 rfl ?_
    refine go_getI flX9_63 (by decide) (rk9_0 h0) 31 dX9_shutPersons_28 rfl ?_
    refine go_icmp_ge 88 34 dX9_shutPersons_31 rfl (by decide) (fun _ => ?_) (fun _ => ?_)
    · refine go_iload_n 3 89 dX9_shutPersons_88 rfl rfl ?_
      exact go_iret rfl dX9_shutPersons_89
    · refine go_iconst 1 35 dX9_shutPersons_34 rfl (by decide) ?_
      refine go_aload_n 0 36 dX9_shutPersons_35 rfl rfl ?_
      refine go_getR flX9_18 h0 39 dX9_shutPersons_36 rfl ?_
      refine go_iload 4 41 dX9_shutPersons_39 rfl rfl ?_
      refine go_iald (rk9_5 h0) 42 dX9_shutPersons_41 rfl ?_
      refine go_ishl 43 dX9_shutPersons_42 rfl ?_
      refine go_nmI (fun y1 => ?_)
      refine go_istore [(5, .int y1), (0, .ref (gB G + o0)), (1, .int x1), (2, .int x2), (3, .int x3), (4, .int x4)] 45 dX9_shutPersons_43 rfl (by decide) rfl ?_
      refine go_aload_n 1 46 dX9_shutPersons_45 rfl rfl ?_
      refine go_getR flX9_21 h0 49 dX9_shutPersons_46 rfl ?_
      refine go_iload 0 51 dX9_shutPersons_49 rfl rfl ?_
      refine go_iload_n 3 52 dX9_shutPersons_51 rfl rfl ?_
      refine go_cVI2 0 clX6 cwX9_66 (m_X6_oneDoorOn w (rF o0 0) (rk9_0 h0) y1 x2 M) (rk9_0 h0) 55 dX9_shutPersons_52 rfl ⟨Nat.le_of_ble_eq_true rfl, Nat.le_of_ble_eq_true rfl⟩ ⟨Nat.zero_le _, Nat.zero_le _⟩ (Nat.le_of_ble_eq_true rfl) (fun q3 M2 _ => ?_)
      refine go_iload 0 57 dX9_shutPersons_55 rfl rfl ?_
      refine go_icmp_ne 82 60 dX9_shutPersons_57 rfl (by decide) (fun _ => ?_) (fun _ => ?_)
      · refine go_iinc (x4 + 1) 5 [(4, .int (x4 + 1)), (5, .int y1), (0, .ref (gB G + o0)), (1, .int x1), (2, .int x2), (3, .int x3)] 85 dX9_shutPersons_82 rfl rfl rfl (by decide) rfl ?_
        refine go_goto 22 dX9_shutPersons_85 (by decide) ?_
        exact go_lv [2, 3, 4, 5, 0] rfl (ih o0 h0 x1 x2 x3 (x4 + 1) M2)
      · refine go_aload_n 1 61 dX9_shutPersons_60 rfl rfl ?_
        refine go_getR flX9_21 h0 64 dX9_shutPersons_61 rfl ?_
        refine go_iload 0 66 dX9_shutPersons_64 rfl rfl ?_
        refine go_iload_n 2 67 dX9_shutPersons_66 rfl rfl ?_
        refine go_cVI2 0 clX6 cwX9_66 (m_X6_oneDoorOn w (rF o0 0) (rk9_0 h0) y1 x1 M2) (rk9_0 h0) 70 dX9_shutPersons_67 rfl ⟨Nat.le_of_ble_eq_true rfl, Nat.le_of_ble_eq_true rfl⟩ ⟨Nat.zero_le _, Nat.zero_le _⟩ (Nat.le_of_ble_eq_true rfl) (fun q5 M4 _ => ?_)
        refine go_iload 0 72 dX9_shutPersons_70 rfl rfl ?_
        refine go_icmp_eq 82 75 dX9_shutPersons_72 rfl (by decide) (fun _ => ?_) (fun _ => ?_)
        · refine go_iinc (x4 + 1) 5 [(4, .int (x4 + 1)), (5, .int y1), (0, .ref (gB G + o0)), (1, .int x1), (2, .int x2), (3, .int x3)] 85 dX9_shutPersons_82 rfl rfl rfl (by decide) rfl ?_
          refine go_goto 22 dX9_shutPersons_85 (by decide) ?_
          exact go_lv [2, 3, 4, 5, 0] rfl (ih o0 h0 x1 x2 x3 (x4 + 1) M4)
        · refine go_iload_n 4 76 dX9_shutPersons_75 rfl rfl ?_
          refine go_iconst 1 77 dX9_shutPersons_76 rfl (by decide) ?_
          refine go_iload 5 79 dX9_shutPersons_77 rfl rfl ?_
          refine go_ishl 80 dX9_shutPersons_79 rfl ?_
          refine go_ior 81 dX9_shutPersons_80 rfl ?_
          refine go_nmI (fun y6 => ?_)
          refine go_istore_n [(3, .int y6), (5, .int y1), (0, .ref (gB G + o0)), (1, .int x1), (2, .int x2), (4, .int x4)] 82 dX9_shutPersons_81 rfl rfl (by decide) rfl ?_
          refine go_iinc (x4 + 1) 5 [(4, .int (x4 + 1)), (3, .int y6), (5, .int y1), (0, .ref (gB G + o0)), (1, .int x1), (2, .int x2)] 85 dX9_shutPersons_82 rfl rfl rfl (by decide) rfl ?_
          refine go_goto 22 dX9_shutPersons_85 (by decide) ?_
          exact go_lv [3, 4, 5, 1, 0] rfl (ih o0 h0 x1 x2 y6 (x4 + 1) M4)
def f_X9_shutPersons (w : Nat) (o0 : Nat) (M : mM) : Option (Int32 × mM) := bI (f_X9_stuckDoors w o0 M) fun q2 M1 => bI (f_X6_allDoors w (rF o0 0) M1) fun q4 M3 => lt (q4 &&& (q2 ^^^ (-1))) fun y5 => (f_X9_shutPersons_22 w w o0 q2 y5 0 0 M3)
set_option maxHeartbeats 4000000 in
set_option maxRecDepth 100000 in
theorem s_X9_shutPersons {l : Launch} {G : mG} {sk : List mS} (w : Nat) (o0 : Nat) (h0 : isK o0 19) (M : mM) : Go muX9_shutPersons (rm 3) 0 0 l G sk (mFin G sk eI) (f_X9_shutPersons w o0 M) 0 [(0, .ref (gB G + o0))] [] M := by
  unfold f_X9_shutPersons
  refine go_aload_n 0 1 dX9_shutPersons_0 rfl rfl ?_
  refine go_cVI0 2 clX9 cwX9_60 (m_X9_stuckDoors w o0 h0 M) h0 4 dX9_shutPersons_1 rfl ⟨Nat.le_of_ble_eq_true rfl, Nat.le_of_ble_eq_true rfl⟩ ⟨Nat.zero_le _, Nat.zero_le _⟩ (Nat.le_of_ble_eq_true rfl) (fun q2 M1 _ => ?_)
  refine go_istore_n [(1, .int q2), (0, .ref (gB G + o0))] 5 dX9_shutPersons_4 rfl rfl (by decide) rfl ?_
  refine go_aload_n 1 6 dX9_shutPersons_5 rfl rfl ?_
  refine go_getR flX9_21 h0 9 dX9_shutPersons_6 rfl ?_
  refine go_cVI0 0 clX6 cwX9_56 (m_X6_allDoors w (rF o0 0) (rk9_0 h0) M1) (rk9_0 h0) 12 dX9_shutPersons_9 rfl ⟨Nat.le_of_ble_eq_true rfl, Nat.le_of_ble_eq_true rfl⟩ ⟨Nat.zero_le _, Nat.zero_le _⟩ (Nat.le_of_ble_eq_true rfl) (fun q4 M3 _ => ?_)
  refine go_iload_n 0 13 dX9_shutPersons_12 rfl rfl ?_
  refine go_iconst (-1) 14 dX9_shutPersons_13 rfl (by decide) ?_
  refine go_ixor 15 dX9_shutPersons_14 rfl ?_
  refine go_iand 16 dX9_shutPersons_15 rfl ?_
  refine go_nmI (fun y5 => ?_)
  refine go_istore_n [(2, .int y5), (1, .int q2), (0, .ref (gB G + o0))] 17 dX9_shutPersons_16 rfl rfl (by decide) rfl ?_
  refine go_iconst 0 18 dX9_shutPersons_17 rfl (by decide) ?_
  refine go_istore_n [(3, .int 0), (2, .int y5), (1, .int q2), (0, .ref (gB G + o0))] 19 dX9_shutPersons_18 rfl rfl (by decide) rfl ?_
  refine go_iconst 0 20 dX9_shutPersons_19 rfl (by decide) ?_
  refine go_istore [(4, .int 0), (3, .int 0), (2, .int y5), (1, .int q2), (0, .ref (gB G + o0))] 22 dX9_shutPersons_20 rfl (by decide) rfl ?_
  exact go_lv [4, 3, 2, 1, 0] rfl (s_X9_shutPersons_22 w w o0 h0 q2 y5 0 0 M3)
theorem m_X9_shutPersons {l : Launch} {G : mG} {sk : List mS} (w : Nat) (o0 : Nat) (h0 : isK o0 19) (M : mM) : Mt l G sk yX9_shutPersons muX9_shutPersons 3 [.ref (gB G + o0)] M eI (f_X9_shutPersons w o0 M) := Mt.of (by decide) rfl (Nat.le_of_ble_eq_true rfl) (s_X9_shutPersons w o0 h0 M)
theorem dX9_personsIn_0 : decode cX9_personsIn 0 = .ok (.iconst 0, 1) := by decide +kernel
theorem dX9_personsIn_1 : decode cX9_personsIn 1 = .ok (.istore_n 2, 1) := by decide +kernel
theorem dX9_personsIn_2 : decode cX9_personsIn 2 = .ok (.iconst 0, 1) := by decide +kernel
theorem dX9_personsIn_3 : decode cX9_personsIn 3 = .ok (.istore_n 3, 1) := by decide +kernel
theorem dX9_personsIn_4 : decode cX9_personsIn 4 = .ok (.iload_n 3, 1) := by decide +kernel
theorem dX9_personsIn_5 : decode cX9_personsIn 5 = .ok (.aload_n 0, 1) := by decide +kernel
theorem dX9_personsIn_6 : decode cX9_personsIn 6 = .ok (.getfield 21, 3) := by decide +kernel
theorem dX9_personsIn_9 : decode cX9_personsIn 9 = .ok (.getfield 63, 3) := by decide +kernel
theorem dX9_personsIn_12 : decode cX9_personsIn 12 = .ok (.if_icmp .ge 28, 3) := by decide +kernel
theorem dX9_personsIn_15 : decode cX9_personsIn 15 = .ok (.iload_n 1, 1) := by decide +kernel
theorem dX9_personsIn_16 : decode cX9_personsIn 16 = .ok (.aload_n 0, 1) := by decide +kernel
theorem dX9_personsIn_17 : decode cX9_personsIn 17 = .ok (.getfield 18, 3) := by decide +kernel
theorem dX9_personsIn_20 : decode cX9_personsIn 20 = .ok (.iload_n 3, 1) := by decide +kernel
theorem dX9_personsIn_21 : decode cX9_personsIn 21 = .ok (.iaload, 1) := by decide +kernel
theorem dX9_personsIn_22 : decode cX9_personsIn 22 = .ok (.ishr, 1) := by decide +kernel
theorem dX9_personsIn_23 : decode cX9_personsIn 23 = .ok (.iconst 1, 1) := by decide +kernel
theorem dX9_personsIn_24 : decode cX9_personsIn 24 = .ok (.iand, 1) := by decide +kernel
theorem dX9_personsIn_25 : decode cX9_personsIn 25 = .ok (.ifCond .eq 9, 3) := by decide +kernel
theorem dX9_personsIn_28 : decode cX9_personsIn 28 = .ok (.iload_n 2, 1) := by decide +kernel
theorem dX9_personsIn_29 : decode cX9_personsIn 29 = .ok (.iconst 1, 1) := by decide +kernel
theorem dX9_personsIn_30 : decode cX9_personsIn 30 = .ok (.iload_n 3, 1) := by decide +kernel
theorem dX9_personsIn_31 : decode cX9_personsIn 31 = .ok (.ishl, 1) := by decide +kernel
theorem dX9_personsIn_32 : decode cX9_personsIn 32 = .ok (.ior, 1) := by decide +kernel
theorem dX9_personsIn_33 : decode cX9_personsIn 33 = .ok (.istore_n 2, 1) := by decide +kernel
theorem dX9_personsIn_34 : decode cX9_personsIn 34 = .ok (.iinc 3 1, 3) := by decide +kernel
theorem dX9_personsIn_37 : decode cX9_personsIn 37 = .ok (.goto (-33), 3) := by decide +kernel
theorem dX9_personsIn_40 : decode cX9_personsIn 40 = .ok (.iload_n 2, 1) := by decide +kernel
theorem dX9_personsIn_41 : decode cX9_personsIn 41 = .ok (.ireturn, 1) := by decide +kernel
def f_X9_personsIn_4 (w : Nat) : Nat → Nat → Int32 → Int32 → Int32 → mM → Option (Int32 × mM)
  | 0, _, _, _, _, _ => none
  | n + 1, o0, x1, x2, x3, M => (if (M.1 (rF o0 0) 2) ≤ x3 then some (x2, M) else chk x3 (sL (rF o0 5)) ((if ((x1 >>> ((M.1 (rF o0 5) x3.toNatClampNeg) &&& 31)) &&& 1) = 0 then (f_X9_personsIn_4 w n o0 x1 x2 (x3 + 1) M) else lt (x2 ||| ((1 : Int32) <<< (x3 &&& 31))) fun y1 => (f_X9_personsIn_4 w n o0 x1 y1 (x3 + 1) M))))
set_option maxHeartbeats 4000000 in
set_option maxRecDepth 100000 in
theorem s_X9_personsIn_4 {l : Launch} {G : mG} {sk : List mS} (w : Nat) : ∀ (n : Nat) (o0 : Nat) (h0 : isK o0 19) (x1 : Int32) (x2 : Int32) (x3 : Int32) (M : mM), Go muX9_personsIn (rm 0) 0 0 l G sk (mFin G sk eI) (f_X9_personsIn_4 w n o0 x1 x2 x3 M) 4 [(0, .ref (gB G + o0)), (1, .int x1), (2, .int x2), (3, .int x3)] [] M := by
  intro n
  induction n with
  | zero =>
    intros
    exact go_none
  | succ n ih =>
    intro o0 h0 x1 x2 x3 M
    rw [f_X9_personsIn_4]
    refine go_iload_n 3 5 dX9_personsIn_4 rfl rfl ?_
    refine go_aload_n 0 6 dX9_personsIn_5 rfl rfl ?_
    refine go_getR flX9_21 h0 9 dX9_personsIn_6 rfl ?_
    refine go_getI flX9_63 (by decide) (rk9_0 h0) 12 dX9_personsIn_9 rfl ?_
    refine go_icmp_ge 40 15 dX9_personsIn_12 rfl (by decide) (fun _ => ?_) (fun _ => ?_)
    · refine go_iload_n 2 41 dX9_personsIn_40 rfl rfl ?_
      exact go_iret rfl dX9_personsIn_41
    · refine go_iload_n 1 16 dX9_personsIn_15 rfl rfl ?_
      refine go_aload_n 0 17 dX9_personsIn_16 rfl rfl ?_
      refine go_getR flX9_18 h0 20 dX9_personsIn_17 rfl ?_
      refine go_iload_n 3 21 dX9_personsIn_20 rfl rfl ?_
      refine go_iald (rk9_5 h0) 22 dX9_personsIn_21 rfl ?_
      refine go_ishr 23 dX9_personsIn_22 rfl ?_
      refine go_iconst 1 24 dX9_personsIn_23 rfl (by decide) ?_
      refine go_iand 25 dX9_personsIn_24 rfl ?_
      refine go_if_eq 34 28 dX9_personsIn_25 rfl (by decide) (fun _ => ?_) (fun _ => ?_)
      · refine go_iinc (x3 + 1) 3 [(3, .int (x3 + 1)), (0, .ref (gB G + o0)), (1, .int x1), (2, .int x2)] 37 dX9_personsIn_34 rfl rfl rfl (by decide) rfl ?_
        refine go_goto 4 dX9_personsIn_37 (by decide) ?_
        exact go_lv [1, 2, 3, 0] rfl (ih o0 h0 x1 x2 (x3 + 1) M)
      · refine go_iload_n 2 29 dX9_personsIn_28 rfl rfl ?_
        refine go_iconst 1 30 dX9_personsIn_29 rfl (by decide) ?_
        refine go_iload_n 3 31 dX9_personsIn_30 rfl rfl ?_
        refine go_ishl 32 dX9_personsIn_31 rfl ?_
        refine go_ior 33 dX9_personsIn_32 rfl ?_
        refine go_nmI (fun y1 => ?_)
        refine go_istore_n [(2, .int y1), (0, .ref (gB G + o0)), (1, .int x1), (3, .int x3)] 34 dX9_personsIn_33 rfl rfl (by decide) rfl ?_
        refine go_iinc (x3 + 1) 3 [(3, .int (x3 + 1)), (2, .int y1), (0, .ref (gB G + o0)), (1, .int x1)] 37 dX9_personsIn_34 rfl rfl rfl (by decide) rfl ?_
        refine go_goto 4 dX9_personsIn_37 (by decide) ?_
        exact go_lv [2, 3, 1, 0] rfl (ih o0 h0 x1 y1 (x3 + 1) M)
def f_X9_personsIn (w : Nat) (o0 : Nat) (x1 : Int32) (M : mM) : Option (Int32 × mM) := (f_X9_personsIn_4 w w o0 x1 0 0 M)
set_option maxHeartbeats 4000000 in
set_option maxRecDepth 100000 in
theorem s_X9_personsIn {l : Launch} {G : mG} {sk : List mS} (w : Nat) (o0 : Nat) (h0 : isK o0 19) (x1 : Int32) (M : mM) : Go muX9_personsIn (rm 0) 0 0 l G sk (mFin G sk eI) (f_X9_personsIn w o0 x1 M) 0 [(0, .ref (gB G + o0)), (1, .int x1)] [] M := by
  unfold f_X9_personsIn
  refine go_iconst 0 1 dX9_personsIn_0 rfl (by decide) ?_
  refine go_istore_n [(2, .int 0), (0, .ref (gB G + o0)), (1, .int x1)] 2 dX9_personsIn_1 rfl rfl (by decide) rfl ?_
  refine go_iconst 0 3 dX9_personsIn_2 rfl (by decide) ?_
  refine go_istore_n [(3, .int 0), (2, .int 0), (0, .ref (gB G + o0)), (1, .int x1)] 4 dX9_personsIn_3 rfl rfl (by decide) rfl ?_
  exact go_lv [2, 3, 1, 0] rfl (s_X9_personsIn_4 w w o0 h0 x1 0 0 M)
theorem m_X9_personsIn {l : Launch} {G : mG} {sk : List mS} (w : Nat) (o0 : Nat) (h0 : isK o0 19) (x1 : Int32) (M : mM) : Mt l G sk yX9_personsIn muX9_personsIn 0 [.ref (gB G + o0), .int x1] M eI (f_X9_personsIn w o0 x1 M) := Mt.of (by decide) rfl (Nat.le_of_ble_eq_true rfl) (s_X9_personsIn w o0 h0 x1 M)
theorem dX9_companyOf_0 : decode cX9_companyOf 0 = .ok (.aload_n 0, 1) := by decide +kernel
theorem dX9_companyOf_1 : decode cX9_companyOf 1 = .ok (.aload_n 0, 1) := by decide +kernel
theorem dX9_companyOf_2 : decode cX9_companyOf 2 = .ok (.getfield 21, 3) := by decide +kernel
theorem dX9_companyOf_5 : decode cX9_companyOf 5 = .ok (.aload_n 0, 1) := by decide +kernel
theorem dX9_companyOf_6 : decode cX9_companyOf 6 = .ok (.getfield 18, 3) := by decide +kernel
theorem dX9_companyOf_9 : decode cX9_companyOf 9 = .ok (.iload_n 1, 1) := by decide +kernel
theorem dX9_companyOf_10 : decode cX9_companyOf 10 = .ok (.iaload, 1) := by decide +kernel
theorem dX9_companyOf_11 : decode cX9_companyOf 11 = .ok (.iload_n 2, 1) := by decide +kernel
theorem dX9_companyOf_12 : decode cX9_companyOf 12 = .ok (.invokevirtual 70, 3) := by decide +kernel
theorem dX9_companyOf_15 : decode cX9_companyOf 15 = .ok (.invokevirtual 73, 3) := by decide +kernel
theorem dX9_companyOf_18 : decode cX9_companyOf 18 = .ok (.iconst 1, 1) := by decide +kernel
theorem dX9_companyOf_19 : decode cX9_companyOf 19 = .ok (.iload_n 1, 1) := by decide +kernel
theorem dX9_companyOf_20 : decode cX9_companyOf 20 = .ok (.ishl, 1) := by decide +kernel
theorem dX9_companyOf_21 : decode cX9_companyOf 21 = .ok (.iconst (-1), 1) := by decide +kernel
theorem dX9_companyOf_22 : decode cX9_companyOf 22 = .ok (.ixor, 1) := by decide +kernel
theorem dX9_companyOf_23 : decode cX9_companyOf 23 = .ok (.iand, 1) := by decide +kernel
theorem dX9_companyOf_24 : decode cX9_companyOf 24 = .ok (.ireturn, 1) := by decide +kernel
def f_X9_companyOf (w : Nat) (o0 : Nat) (x1 : Int32) (x2 : Int32) (M : mM) : Option (Int32 × mM) := chk x1 (sL (rF o0 5)) (bI (f_X6_roomsReached w (rF o0 0) (M.1 (rF o0 5) x1.toNatClampNeg) x2 M) fun q2 M1 => bI (f_X9_personsIn w o0 q2 M1) fun q4 M3 => some ((q4 &&& (((1 : Int32) <<< (x1 &&& 31)) ^^^ (-1))), M3))
set_option maxHeartbeats 4000000 in
set_option maxRecDepth 100000 in
theorem s_X9_companyOf {l : Launch} {G : mG} {sk : List mS} (w : Nat) (o0 : Nat) (h0 : isK o0 19) (x1 : Int32) (x2 : Int32) (M : mM) : Go muX9_companyOf (rm 2) 0 0 l G sk (mFin G sk eI) (f_X9_companyOf w o0 x1 x2 M) 0 [(0, .ref (gB G + o0)), (1, .int x1), (2, .int x2)] [] M := by
  unfold f_X9_companyOf
  refine go_aload_n 0 1 dX9_companyOf_0 rfl rfl ?_
  refine go_aload_n 0 2 dX9_companyOf_1 rfl rfl ?_
  refine go_getR flX9_21 h0 5 dX9_companyOf_2 rfl ?_
  refine go_aload_n 0 6 dX9_companyOf_5 rfl rfl ?_
  refine go_getR flX9_18 h0 9 dX9_companyOf_6 rfl ?_
  refine go_iload_n 1 10 dX9_companyOf_9 rfl rfl ?_
  refine go_iald (rk9_5 h0) 11 dX9_companyOf_10 rfl ?_
  refine go_iload_n 2 12 dX9_companyOf_11 rfl rfl ?_
  refine go_cVI2 1 clX6 cwX9_70 (m_X6_roomsReached w (rF o0 0) (rk9_0 h0) (M.1 (rF o0 5) x1.toNatClampNeg) x2 M) (rk9_0 h0) 15 dX9_companyOf_12 rfl ⟨Nat.le_of_ble_eq_true rfl, Nat.le_of_ble_eq_true rfl⟩ ⟨Nat.zero_le _, Nat.zero_le _⟩ (Nat.le_of_ble_eq_true rfl) (fun q2 M1 _ => ?_)
  refine go_cVI1 0 clX9 cwX9_73 (m_X9_personsIn w o0 h0 q2 M1) h0 18 dX9_companyOf_15 rfl ⟨Nat.le_of_ble_eq_true rfl, Nat.le_of_ble_eq_true rfl⟩ ⟨Nat.zero_le _, Nat.zero_le _⟩ (Nat.le_of_ble_eq_true rfl) (fun q4 M3 _ => ?_)
  refine go_iconst 1 19 dX9_companyOf_18 rfl (by decide) ?_
  refine go_iload_n 1 20 dX9_companyOf_19 rfl rfl ?_
  refine go_ishl 21 dX9_companyOf_20 rfl ?_
  refine go_iconst (-1) 22 dX9_companyOf_21 rfl (by decide) ?_
  refine go_ixor 23 dX9_companyOf_22 rfl ?_
  refine go_iand 24 dX9_companyOf_23 rfl ?_
  exact go_iret rfl dX9_companyOf_24
theorem m_X9_companyOf {l : Launch} {G : mG} {sk : List mS} (w : Nat) (o0 : Nat) (h0 : isK o0 19) (x1 : Int32) (x2 : Int32) (M : mM) : Mt l G sk yX9_companyOf muX9_companyOf 2 [.ref (gB G + o0), .int x1, .int x2] M eI (f_X9_companyOf w o0 x1 x2 M) := Mt.of (by decide) rfl (Nat.le_of_ble_eq_true rfl) (s_X9_companyOf w o0 h0 x1 x2 M)
theorem dX9_pairsTogether_0 : decode cX9_pairsTogether 0 = .ok (.iconst 0, 1) := by decide +kernel
theorem dX9_pairsTogether_1 : decode cX9_pairsTogether 1 = .ok (.istore_n 2, 1) := by decide +kernel
theorem dX9_pairsTogether_2 : decode cX9_pairsTogether 2 = .ok (.iconst 0, 1) := by decide +kernel
theorem dX9_pairsTogether_3 : decode cX9_pairsTogether 3 = .ok (.istore_n 3, 1) := by decide +kernel
theorem dX9_pairsTogether_4 : decode cX9_pairsTogether 4 = .ok (.iload_n 3, 1) := by decide +kernel
theorem dX9_pairsTogether_5 : decode cX9_pairsTogether 5 = .ok (.aload_n 0, 1) := by decide +kernel
theorem dX9_pairsTogether_6 : decode cX9_pairsTogether 6 = .ok (.getfield 21, 3) := by decide +kernel
theorem dX9_pairsTogether_9 : decode cX9_pairsTogether 9 = .ok (.getfield 63, 3) := by decide +kernel
theorem dX9_pairsTogether_12 : decode cX9_pairsTogether 12 = .ok (.if_icmp .ge 21, 3) := by decide +kernel
theorem dX9_pairsTogether_15 : decode cX9_pairsTogether 15 = .ok (.iload_n 2, 1) := by decide +kernel
theorem dX9_pairsTogether_16 : decode cX9_pairsTogether 16 = .ok (.aload_n 0, 1) := by decide +kernel
theorem dX9_pairsTogether_17 : decode cX9_pairsTogether 17 = .ok (.iload_n 3, 1) := by decide +kernel
theorem dX9_pairsTogether_18 : decode cX9_pairsTogether 18 = .ok (.iload_n 1, 1) := by decide +kernel
theorem dX9_pairsTogether_19 : decode cX9_pairsTogether 19 = .ok (.invokevirtual 77, 3) := by decide +kernel
theorem dX9_pairsTogether_22 : decode cX9_pairsTogether 22 = .ok (.invokestatic 80, 3) := by decide +kernel
theorem dX9_pairsTogether_25 : decode cX9_pairsTogether 25 = .ok (.iadd, 1) := by decide +kernel
theorem dX9_pairsTogether_26 : decode cX9_pairsTogether 26 = .ok (.istore_n 2, 1) := by decide +kernel
theorem dX9_pairsTogether_27 : decode cX9_pairsTogether 27 = .ok (.iinc 3 1, 3) := by decide +kernel
theorem dX9_pairsTogether_30 : decode cX9_pairsTogether 30 = .ok (.goto (-26), 3) := by decide +kernel
theorem dX9_pairsTogether_33 : decode cX9_pairsTogether 33 = .ok (.iload_n 2, 1) := by decide +kernel
theorem dX9_pairsTogether_34 : decode cX9_pairsTogether 34 = .ok (.iconst 2, 1) := by decide +kernel
theorem dX9_pairsTogether_35 : decode cX9_pairsTogether 35 = .ok (.idiv, 1) := by decide +kernel
theorem dX9_pairsTogether_36 : decode cX9_pairsTogether 36 = .ok (.ireturn, 1) := by decide +kernel
def f_X9_pairsTogether_4 (w : Nat) : Nat → Nat → Int32 → Int32 → Int32 → mM → Option (Int32 × mM)
  | 0, _, _, _, _, _ => none
  | n + 1, o0, x1, x2, x3, M => (if (M.1 (rF o0 0) 2) ≤ x3 then if (2 : Int32) = 0 then none else (some ((x2 / 2), M)) else bI (f_X9_companyOf w o0 x3 x1 M) fun q2 M1 => bI (f_J6_bitCount_0f7a4 w q2 M1) fun q4 M3 => lt (x2 + q4) fun y5 => (f_X9_pairsTogether_4 w n o0 x1 y5 (x3 + 1) M3))
set_option maxHeartbeats 4000000 in
set_option maxRecDepth 100000 in
theorem s_X9_pairsTogether_4 {l : Launch} {G : mG} {sk : List mS} (w : Nat) : ∀ (n : Nat) (o0 : Nat) (h0 : isK o0 19) (x1 : Int32) (x2 : Int32) (x3 : Int32) (M : mM), Go muX9_pairsTogether (rm 3) 0 0 l G sk (mFin G sk eI) (f_X9_pairsTogether_4 w n o0 x1 x2 x3 M) 4 [(0, .ref (gB G + o0)), (1, .int x1), (2, .int x2), (3, .int x3)] [] M := by
  intro n
  induction n with
  | zero =>
    intros
    exact go_none
  | succ n ih =>
    intro o0 h0 x1 x2 x3 M
    rw [f_X9_pairsTogether_4]
    refine go_iload_n 3 5 dX9_pairsTogether_4 rfl rfl ?_
    refine go_aload_n 0 6 dX9_pairsTogether_5 rfl rfl ?_
    refine go_getR flX9_21 h0 9 dX9_pairsTogether_6 rfl ?_
    refine go_getI flX9_63 (by decide) (rk9_0 h0) 12 dX9_pairsTogether_9 rfl ?_
    refine go_icmp_ge 33 15 dX9_pairsTogether_12 rfl (by decide) (fun _ => ?_) (fun _ => ?_)
    · refine go_iload_n 2 34 dX9_pairsTogether_33 rfl rfl ?_
      refine go_iconst 2 35 dX9_pairsTogether_34 rfl (by decide) ?_
      refine go_idiv 36 dX9_pairsTogether_35 rfl ?_
      exact go_iret rfl dX9_pairsTogether_36
    · refine go_iload_n 2 16 dX9_pairsTogether_15 rfl rfl ?_
      refine go_aload_n 0 17 dX9_pairsTogether_16 rfl rfl ?_
      refine go_iload_n 3 18 dX9_pairsTogether_17 rfl rfl ?_
      refine go_iload_n 1 19 dX9_pairsTogether_18 rfl rfl ?_
      refine go_cVI2 2 clX9 cwX9_77 (m_X9_companyOf w o0 h0 x3 x1 M) h0 22 dX9_pairsTogether_19 rfl ⟨Nat.le_of_ble_eq_true rfl, Nat.le_of_ble_eq_true rfl⟩ ⟨Nat.zero_le _, Nat.zero_le _⟩ (Nat.le_of_ble_eq_true rfl) (fun q2 M1 _ => ?_)
      refine go_cSI1 0 cwX9_80 (m_J6_bitCount_0f7a4 w q2 M1) 25 dX9_pairsTogether_22 rfl ⟨Nat.le_of_ble_eq_true rfl, Nat.le_of_ble_eq_true rfl⟩ ⟨Nat.zero_le _, Nat.zero_le _⟩ (Nat.le_of_ble_eq_true rfl) (fun q4 M3 _ => ?_)
      refine go_iadd 26 dX9_pairsTogether_25 rfl ?_
      refine go_nmI (fun y5 => ?_)
      refine go_istore_n [(2, .int y5), (0, .ref (gB G + o0)), (1, .int x1), (3, .int x3)] 27 dX9_pairsTogether_26 rfl rfl (by decide) rfl ?_
      refine go_iinc (x3 + 1) 3 [(3, .int (x3 + 1)), (2, .int y5), (0, .ref (gB G + o0)), (1, .int x1)] 30 dX9_pairsTogether_27 rfl rfl rfl (by decide) rfl ?_
      refine go_goto 4 dX9_pairsTogether_30 (by decide) ?_
      exact go_lv [2, 3, 1, 0] rfl (ih o0 h0 x1 y5 (x3 + 1) M3)
def f_X9_pairsTogether (w : Nat) (o0 : Nat) (x1 : Int32) (M : mM) : Option (Int32 × mM) := (f_X9_pairsTogether_4 w w o0 x1 0 0 M)
set_option maxHeartbeats 4000000 in
set_option maxRecDepth 100000 in
theorem s_X9_pairsTogether {l : Launch} {G : mG} {sk : List mS} (w : Nat) (o0 : Nat) (h0 : isK o0 19) (x1 : Int32) (M : mM) : Go muX9_pairsTogether (rm 3) 0 0 l G sk (mFin G sk eI) (f_X9_pairsTogether w o0 x1 M) 0 [(0, .ref (gB G + o0)), (1, .int x1)] [] M := by
  unfold f_X9_pairsTogether
  refine go_iconst 0 1 dX9_pairsTogether_0 rfl (by decide) ?_
  refine go_istore_n [(2, .int 0), (0, .ref (gB G + o0)), (1, .int x1)] 2 dX9_pairsTogether_1 rfl rfl (by decide) rfl ?_
  refine go_iconst 0 3 dX9_pairsTogether_2 rfl (by decide) ?_
  refine go_istore_n [(3, .int 0), (2, .int 0), (0, .ref (gB G + o0)), (1, .int x1)] 4 dX9_pairsTogether_3 rfl rfl (by decide) rfl ?_
  exact go_lv [2, 3, 1, 0] rfl (s_X9_pairsTogether_4 w w o0 h0 x1 0 0 M)
theorem m_X9_pairsTogether {l : Launch} {G : mG} {sk : List mS} (w : Nat) (o0 : Nat) (h0 : isK o0 19) (x1 : Int32) (M : mM) : Mt l G sk yX9_pairsTogether muX9_pairsTogether 3 [.ref (gB G + o0), .int x1] M eI (f_X9_pairsTogether w o0 x1 M) := Mt.of (by decide) rfl (Nat.le_of_ble_eq_true rfl) (s_X9_pairsTogether w o0 h0 x1 M)
theorem dX9_isAllTogether_0 : decode cX9_isAllTogether 0 = .ok (.iconst 1, 1) := by decide +kernel
theorem dX9_isAllTogether_1 : decode cX9_isAllTogether 1 = .ok (.aload_n 0, 1) := by decide +kernel
theorem dX9_isAllTogether_2 : decode cX9_isAllTogether 2 = .ok (.getfield 21, 3) := by decide +kernel
theorem dX9_isAllTogether_5 : decode cX9_isAllTogether 5 = .ok (.getfield 63, 3) := by decide +kernel
theorem dX9_isAllTogether_8 : decode cX9_isAllTogether 8 = .ok (.ishl, 1) := by decide +kernel
theorem dX9_isAllTogether_9 : decode cX9_isAllTogether 9 = .ok (.iconst 2, 1) := by decide +kernel
theorem dX9_isAllTogether_10 : decode cX9_isAllTogether 10 = .ok (.isub, 1) := by decide +kernel
theorem dX9_isAllTogether_11 : decode cX9_isAllTogether 11 = .ok (.istore_n 2, 1) := by decide +kernel
theorem dX9_isAllTogether_12 : decode cX9_isAllTogether 12 = .ok (.aload_n 0, 1) := by decide +kernel
theorem dX9_isAllTogether_13 : decode cX9_isAllTogether 13 = .ok (.getfield 21, 3) := by decide +kernel
theorem dX9_isAllTogether_16 : decode cX9_isAllTogether 16 = .ok (.getfield 63, 3) := by decide +kernel
theorem dX9_isAllTogether_19 : decode cX9_isAllTogether 19 = .ok (.ifCond .eq 13, 3) := by decide +kernel
theorem dX9_isAllTogether_22 : decode cX9_isAllTogether 22 = .ok (.aload_n 0, 1) := by decide +kernel
theorem dX9_isAllTogether_23 : decode cX9_isAllTogether 23 = .ok (.iconst 0, 1) := by decide +kernel
theorem dX9_isAllTogether_24 : decode cX9_isAllTogether 24 = .ok (.iload_n 1, 1) := by decide +kernel
theorem dX9_isAllTogether_25 : decode cX9_isAllTogether 25 = .ok (.invokevirtual 77, 3) := by decide +kernel
theorem dX9_isAllTogether_28 : decode cX9_isAllTogether 28 = .ok (.iload_n 2, 1) := by decide +kernel
theorem dX9_isAllTogether_29 : decode cX9_isAllTogether 29 = .ok (.if_icmp .ne 7, 3) := by decide +kernel
theorem dX9_isAllTogether_32 : decode cX9_isAllTogether 32 = .ok (.iconst 1, 1) := by decide +kernel
theorem dX9_isAllTogether_33 : decode cX9_isAllTogether 33 = .ok (.goto 4, 3) := by decide +kernel
theorem dX9_isAllTogether_36 : decode cX9_isAllTogether 36 = .ok (.iconst 0, 1) := by decide +kernel
theorem dX9_isAllTogether_37 : decode cX9_isAllTogether 37 = .ok (.ireturn, 1) := by decide +kernel
def f_X9_isAllTogether_32 (w : Nat) (M : mM) : Option (Int32 × mM) := rtB 1 M
set_option maxHeartbeats 4000000 in
set_option maxRecDepth 100000 in
theorem s_X9_isAllTogether_32 {l : Launch} {G : mG} {sk : List mS} (w : Nat) (M : mM) : Go muX9_isAllTogether (rm 3) 0 0 l G sk (mFin G sk eI) (f_X9_isAllTogether_32 w M) 32 [] [] M := by
  unfold f_X9_isAllTogether_32
  refine go_iconst 1 33 dX9_isAllTogether_32 rfl (by decide) ?_
  refine go_goto 37 dX9_isAllTogether_33 (by decide) ?_
  exact go_zret rfl dX9_isAllTogether_37
def f_X9_isAllTogether (w : Nat) (o0 : Nat) (x1 : Int32) (M : mM) : Option (Int32 × mM) := lt (((1 : Int32) <<< ((M.1 (rF o0 0) 2) &&& 31)) - 2) fun y1 => (if (M.1 (rF o0 0) 2) = 0 then (f_X9_isAllTogether_32 w M) else bI (f_X9_companyOf w o0 0 x1 M) fun q3 M2 => (if q3 = y1 then (f_X9_isAllTogether_32 w M2) else rtB 0 M2))
set_option maxHeartbeats 4000000 in
set_option maxRecDepth 100000 in
theorem s_X9_isAllTogether {l : Launch} {G : mG} {sk : List mS} (w : Nat) (o0 : Nat) (h0 : isK o0 19) (x1 : Int32) (M : mM) : Go muX9_isAllTogether (rm 3) 0 0 l G sk (mFin G sk eI) (f_X9_isAllTogether w o0 x1 M) 0 [(0, .ref (gB G + o0)), (1, .int x1)] [] M := by
  unfold f_X9_isAllTogether
  refine go_iconst 1 1 dX9_isAllTogether_0 rfl (by decide) ?_
  refine go_aload_n 0 2 dX9_isAllTogether_1 rfl rfl ?_
  refine go_getR flX9_21 h0 5 dX9_isAllTogether_2 rfl ?_
  refine go_getI flX9_63 (by decide) (rk9_0 h0) 8 dX9_isAllTogether_5 rfl ?_
  refine go_ishl 9 dX9_isAllTogether_8 rfl ?_
  refine go_iconst 2 10 dX9_isAllTogether_9 rfl (by decide) ?_
  refine go_isub 11 dX9_isAllTogether_10 rfl ?_
  refine go_nmI (fun y1 => ?_)
  refine go_istore_n [(2, .int y1), (0, .ref (gB G + o0)), (1, .int x1)] 12 dX9_isAllTogether_11 rfl rfl (by decide) rfl ?_
  refine go_aload_n 1 13 dX9_isAllTogether_12 rfl rfl ?_
  refine go_getR flX9_21 h0 16 dX9_isAllTogether_13 rfl ?_
  refine go_getI flX9_63 (by decide) (rk9_0 h0) 19 dX9_isAllTogether_16 rfl ?_
  refine go_if_eq 32 22 dX9_isAllTogether_19 rfl (by decide) (fun _ => ?_) (fun _ => ?_)
  · exact go_lv [] rfl (s_X9_isAllTogether_32 w M)
  · refine go_aload_n 1 23 dX9_isAllTogether_22 rfl rfl ?_
    refine go_iconst 0 24 dX9_isAllTogether_23 rfl (by decide) ?_
    refine go_iload_n 2 25 dX9_isAllTogether_24 rfl rfl ?_
    refine go_cVI2 2 clX9 cwX9_77 (m_X9_companyOf w o0 h0 0 x1 M) h0 28 dX9_isAllTogether_25 rfl ⟨Nat.le_of_ble_eq_true rfl, Nat.le_of_ble_eq_true rfl⟩ ⟨Nat.zero_le _, Nat.zero_le _⟩ (Nat.le_of_ble_eq_true rfl) (fun q3 M2 _ => ?_)
    refine go_iload_n 0 29 dX9_isAllTogether_28 rfl rfl ?_
    refine go_icmp_ne 36 32 dX9_isAllTogether_29 rfl (by decide) (fun _ => ?_) (fun _ => ?_)
    · refine go_iconst 0 37 dX9_isAllTogether_36 rfl (by decide) ?_
      exact go_zret rfl dX9_isAllTogether_37
    · exact go_lv [] rfl (s_X9_isAllTogether_32 w M2)
theorem m_X9_isAllTogether {l : Launch} {G : mG} {sk : List mS} (w : Nat) (o0 : Nat) (h0 : isK o0 19) (x1 : Int32) (M : mM) : Mt l G sk yX9_isAllTogether muX9_isAllTogether 3 [.ref (gB G + o0), .int x1] M eI (f_X9_isAllTogether w o0 x1 M) := Mt.of (by decide) rfl (Nat.le_of_ble_eq_true rfl) (s_X9_isAllTogether w o0 h0 x1 M)
theorem dX9_passDay_0 : decode cX9_passDay 0 = .ok (.aload_n 0, 1) := by decide +kernel
theorem dX9_passDay_1 : decode cX9_passDay 1 = .ok (.getfield 21, 3) := by decide +kernel
theorem dX9_passDay_4 : decode cX9_passDay 4 = .ok (.aload_n 0, 1) := by decide +kernel
theorem dX9_passDay_5 : decode cX9_passDay 5 = .ok (.getfield 25, 3) := by decide +kernel
theorem dX9_passDay_8 : decode cX9_passDay 8 = .ok (.invokevirtual 85, 3) := by decide +kernel
theorem dX9_passDay_11 : decode cX9_passDay 11 = .ok (.istore_n 1, 1) := by decide +kernel
theorem dX9_passDay_12 : decode cX9_passDay 12 = .ok (.iconst 0, 1) := by decide +kernel
theorem dX9_passDay_13 : decode cX9_passDay 13 = .ok (.istore_n 2, 1) := by decide +kernel
theorem dX9_passDay_14 : decode cX9_passDay 14 = .ok (.iload_n 2, 1) := by decide +kernel
theorem dX9_passDay_15 : decode cX9_passDay 15 = .ok (.aload_n 0, 1) := by decide +kernel
theorem dX9_passDay_16 : decode cX9_passDay 16 = .ok (.getfield 21, 3) := by decide +kernel
theorem dX9_passDay_19 : decode cX9_passDay 19 = .ok (.getfield 50, 3) := by decide +kernel
theorem dX9_passDay_22 : decode cX9_passDay 22 = .ok (.if_icmp .ge 40, 3) := by decide +kernel
theorem dX9_passDay_25 : decode cX9_passDay 25 = .ok (.aload_n 0, 1) := by decide +kernel
theorem dX9_passDay_26 : decode cX9_passDay 26 = .ok (.getfield 15, 3) := by decide +kernel
theorem dX9_passDay_29 : decode cX9_passDay 29 = .ok (.iload_n 2, 1) := by decide +kernel
theorem dX9_passDay_30 : decode cX9_passDay 30 = .ok (.aload_n 0, 1) := by decide +kernel
theorem dX9_passDay_31 : decode cX9_passDay 31 = .ok (.getfield 21, 3) := by decide +kernel
theorem dX9_passDay_34 : decode cX9_passDay 34 = .ok (.iload_n 2, 1) := by decide +kernel
theorem dX9_passDay_35 : decode cX9_passDay 35 = .ok (.aload_n 0, 1) := by decide +kernel
theorem dX9_passDay_36 : decode cX9_passDay 36 = .ok (.getfield 15, 3) := by decide +kernel
theorem dX9_passDay_39 : decode cX9_passDay 39 = .ok (.iload_n 2, 1) := by decide +kernel
theorem dX9_passDay_40 : decode cX9_passDay 40 = .ok (.iaload, 1) := by decide +kernel
theorem dX9_passDay_41 : decode cX9_passDay 41 = .ok (.aload_n 0, 1) := by decide +kernel
theorem dX9_passDay_42 : decode cX9_passDay 42 = .ok (.getfield 9, 3) := by decide +kernel
theorem dX9_passDay_45 : decode cX9_passDay 45 = .ok (.iload_n 2, 1) := by decide +kernel
theorem dX9_passDay_46 : decode cX9_passDay 46 = .ok (.iaload, 1) := by decide +kernel
theorem dX9_passDay_47 : decode cX9_passDay 47 = .ok (.iload_n 1, 1) := by decide +kernel
theorem dX9_passDay_48 : decode cX9_passDay 48 = .ok (.aload_n 0, 1) := by decide +kernel
theorem dX9_passDay_49 : decode cX9_passDay 49 = .ok (.getfield 25, 3) := by decide +kernel
theorem dX9_passDay_52 : decode cX9_passDay 52 = .ok (.invokevirtual 88, 3) := by decide +kernel
theorem dX9_passDay_55 : decode cX9_passDay 55 = .ok (.iastore, 1) := by decide +kernel
theorem dX9_passDay_56 : decode cX9_passDay 56 = .ok (.iinc 2 1, 3) := by decide +kernel
theorem dX9_passDay_59 : decode cX9_passDay 59 = .ok (.goto (-45), 3) := by decide +kernel
theorem dX9_passDay_62 : decode cX9_passDay 62 = .ok (.aload_n 0, 1) := by decide +kernel
theorem dX9_passDay_63 : decode cX9_passDay 63 = .ok (.dup, 1) := by decide +kernel
theorem dX9_passDay_64 : decode cX9_passDay 64 = .ok (.getfield 25, 3) := by decide +kernel
theorem dX9_passDay_67 : decode cX9_passDay 67 = .ok (.iconst 1, 1) := by decide +kernel
theorem dX9_passDay_68 : decode cX9_passDay 68 = .ok (.iadd, 1) := by decide +kernel
theorem dX9_passDay_69 : decode cX9_passDay 69 = .ok (.putfield 25, 3) := by decide +kernel
theorem dX9_passDay_72 : decode cX9_passDay 72 = .ok (.return_, 1) := by decide +kernel
def f_X9_passDay_62 (w : Nat) (o0 : Nat) (M : mM) : Option mM := lt (wI M o0 1 ((M.1 o0 1) + 1)) fun M1 => some M1
set_option maxHeartbeats 4000000 in
set_option maxRecDepth 100000 in
theorem s_X9_passDay_62 {l : Launch} {G : mG} {sk : List mS} (w : Nat) (o0 : Nat) (h0 : isK o0 19) (M : mM) : Go muX9_passDay (rm 3) 0 0 l G sk (mFin G sk eV) (f_X9_passDay_62 w o0 M) 62 [(0, .ref (gB G + o0))] [] M := by
  unfold f_X9_passDay_62
  refine go_aload_n 0 63 dX9_passDay_62 rfl rfl ?_
  refine go_dup 64 dX9_passDay_63 rfl rfl ?_
  refine go_getI flX9_25 (by decide) h0 67 dX9_passDay_64 rfl ?_
  refine go_iconst 1 68 dX9_passDay_67 rfl (by decide) ?_
  refine go_iadd 69 dX9_passDay_68 rfl ?_
  refine go_putI flX9_25 rfl rfl h0 72 dX9_passDay_69 rfl ?_
  refine go_nmM (fun M1 => ?_)
  exact go_vret rfl dX9_passDay_72
def f_X9_passDay_14 (w : Nat) : Nat → Nat → Int32 → Int32 → mM → Option mM
  | 0, _, _, _, _ => none
  | n + 1, o0, x1, x2, M => (if (M.1 (rF o0 0) 1) ≤ x2 then (f_X9_passDay_62 w o0 M) else chk x2 (sL (rF o0 4)) (chk x2 (sL (rF o0 3)) (bI (f_X6_swollenNext w (rF o0 0) x2 (M.1 (rF o0 4) x2.toNatClampNeg) (M.1 (rF o0 3) x2.toNatClampNeg) x1 (M.1 o0 1) M) fun q2 M1 => chk x2 (sL (rF o0 4)) (lt (wI M1 (rF o0 4) x2.toNatClampNeg q2) fun M3 => (f_X9_passDay_14 w n o0 x1 (x2 + 1) M3)))))
set_option maxHeartbeats 4000000 in
set_option maxRecDepth 100000 in
theorem s_X9_passDay_14 {l : Launch} {G : mG} {sk : List mS} (w : Nat) : ∀ (n : Nat) (o0 : Nat) (h0 : isK o0 19) (x1 : Int32) (x2 : Int32) (M : mM), Go muX9_passDay (rm 3) 0 0 l G sk (mFin G sk eV) (f_X9_passDay_14 w n o0 x1 x2 M) 14 [(0, .ref (gB G + o0)), (1, .int x1), (2, .int x2)] [] M := by
  intro n
  induction n with
  | zero =>
    intros
    exact go_none
  | succ n ih =>
    intro o0 h0 x1 x2 M
    rw [f_X9_passDay_14]
    refine go_iload_n 2 15 dX9_passDay_14 rfl rfl ?_
    refine go_aload_n 0 16 dX9_passDay_15 rfl rfl ?_
    refine go_getR flX9_21 h0 19 dX9_passDay_16 rfl ?_
    refine go_getI flX9_50 (by decide) (rk9_0 h0) 22 dX9_passDay_19 rfl ?_
    refine go_icmp_ge 62 25 dX9_passDay_22 rfl (by decide) (fun _ => ?_) (fun _ => ?_)
    · exact go_lv [0] rfl (s_X9_passDay_62 w o0 h0 M)
    · refine go_aload_n 0 26 dX9_passDay_25 rfl rfl ?_
      refine go_getR flX9_15 h0 29 dX9_passDay_26 rfl ?_
      refine go_iload_n 2 30 dX9_passDay_29 rfl rfl ?_
      refine go_aload_n 0 31 dX9_passDay_30 rfl rfl ?_
      refine go_getR flX9_21 h0 34 dX9_passDay_31 rfl ?_
      refine go_iload_n 2 35 dX9_passDay_34 rfl rfl ?_
      refine go_aload_n 0 36 dX9_passDay_35 rfl rfl ?_
      refine go_getR flX9_15 h0 39 dX9_passDay_36 rfl ?_
      refine go_iload_n 2 40 dX9_passDay_39 rfl rfl ?_
      refine go_iald (rk9_4 h0) 41 dX9_passDay_40 rfl ?_
      refine go_aload_n 0 42 dX9_passDay_41 rfl rfl ?_
      refine go_getR flX9_9 h0 45 dX9_passDay_42 rfl ?_
      refine go_iload_n 2 46 dX9_passDay_45 rfl rfl ?_
      refine go_iald (rk9_3 h0) 47 dX9_passDay_46 rfl ?_
      refine go_iload_n 1 48 dX9_passDay_47 rfl rfl ?_
      refine go_aload_n 0 49 dX9_passDay_48 rfl rfl ?_
      refine go_getI flX9_25 (by decide) h0 52 dX9_passDay_49 rfl ?_
      refine go_cVI5 2 clX6 cwX9_88 (m_X6_swollenNext w (rF o0 0) (rk9_0 h0) x2 (M.1 (rF o0 4) x2.toNatClampNeg) (M.1 (rF o0 3) x2.toNatClampNeg) x1 (M.1 o0 1) M) (rk9_0 h0) 55 dX9_passDay_52 rfl ⟨Nat.le_of_ble_eq_true rfl, Nat.le_of_ble_eq_true rfl⟩ ⟨Nat.zero_le _, Nat.zero_le _⟩ (Nat.le_of_ble_eq_true rfl) (fun q2 M1 _ => ?_)
      refine go_iast (rk9_4 h0) 56 dX9_passDay_55 rfl ?_
      refine go_nmM (fun M3 => ?_)
      refine go_iinc (x2 + 1) 2 [(2, .int (x2 + 1)), (0, .ref (gB G + o0)), (1, .int x1)] 59 dX9_passDay_56 rfl rfl rfl (by decide) rfl ?_
      refine go_goto 14 dX9_passDay_59 (by decide) ?_
      exact go_lv [1, 2, 0] rfl (ih o0 h0 x1 (x2 + 1) M3)
def f_X9_passDay (w : Nat) (o0 : Nat) (M : mM) : Option mM := bI (f_X6_dampOn w (rF o0 0) (M.1 o0 1) M) fun q2 M1 => (f_X9_passDay_14 w w o0 q2 0 M1)
set_option maxHeartbeats 4000000 in
set_option maxRecDepth 100000 in
theorem s_X9_passDay {l : Launch} {G : mG} {sk : List mS} (w : Nat) (o0 : Nat) (h0 : isK o0 19) (M : mM) : Go muX9_passDay (rm 3) 0 0 l G sk (mFin G sk eV) (f_X9_passDay w o0 M) 0 [(0, .ref (gB G + o0))] [] M := by
  unfold f_X9_passDay
  refine go_aload_n 0 1 dX9_passDay_0 rfl rfl ?_
  refine go_getR flX9_21 h0 4 dX9_passDay_1 rfl ?_
  refine go_aload_n 0 5 dX9_passDay_4 rfl rfl ?_
  refine go_getI flX9_25 (by decide) h0 8 dX9_passDay_5 rfl ?_
  refine go_cVI1 0 clX6 cwX9_85 (m_X6_dampOn w (rF o0 0) (rk9_0 h0) (M.1 o0 1) M) (rk9_0 h0) 11 dX9_passDay_8 rfl ⟨Nat.le_of_ble_eq_true rfl, Nat.le_of_ble_eq_true rfl⟩ ⟨Nat.zero_le _, Nat.zero_le _⟩ (Nat.le_of_ble_eq_true rfl) (fun q2 M1 _ => ?_)
  refine go_istore_n [(1, .int q2), (0, .ref (gB G + o0))] 12 dX9_passDay_11 rfl rfl (by decide) rfl ?_
  refine go_iconst 0 13 dX9_passDay_12 rfl (by decide) ?_
  refine go_istore_n [(2, .int 0), (1, .int q2), (0, .ref (gB G + o0))] 14 dX9_passDay_13 rfl rfl (by decide) rfl ?_
  exact go_lv [2, 1, 0] rfl (s_X9_passDay_14 w w o0 h0 q2 0 M1)
theorem m_X9_passDay {l : Launch} {G : mG} {sk : List mS} (w : Nat) (o0 : Nat) (h0 : isK o0 19) (M : mM) : Mt l G sk yX9_passDay muX9_passDay 3 [.ref (gB G + o0)] M eV (f_X9_passDay w o0 M) := Mt.of (by decide) rfl (Nat.le_of_ble_eq_true rfl) (s_X9_passDay w o0 h0 M)
theorem dX9_canWalk_0 : decode cX9_canWalk 0 = .ok (.aload_n 0, 1) := by decide +kernel
theorem dX9_canWalk_1 : decode cX9_canWalk 1 = .ok (.getfield 21, 3) := by decide +kernel
theorem dX9_canWalk_4 : decode cX9_canWalk 4 = .ok (.iload_n 1, 1) := by decide +kernel
theorem dX9_canWalk_5 : decode cX9_canWalk 5 = .ok (.invokevirtual 92, 3) := by decide +kernel
theorem dX9_canWalk_8 : decode cX9_canWalk 8 = .ok (.ifCond .eq 44, 3) := by decide +kernel
theorem dX9_canWalk_11 : decode cX9_canWalk 11 = .ok (.aload_n 0, 1) := by decide +kernel
theorem dX9_canWalk_12 : decode cX9_canWalk 12 = .ok (.getfield 21, 3) := by decide +kernel
theorem dX9_canWalk_15 : decode cX9_canWalk 15 = .ok (.iload_n 2, 1) := by decide +kernel
theorem dX9_canWalk_16 : decode cX9_canWalk 16 = .ok (.invokevirtual 95, 3) := by decide +kernel
theorem dX9_canWalk_19 : decode cX9_canWalk 19 = .ok (.ifCond .eq 33, 3) := by decide +kernel
theorem dX9_canWalk_22 : decode cX9_canWalk 22 = .ok (.aload_n 0, 1) := by decide +kernel
theorem dX9_canWalk_23 : decode cX9_canWalk 23 = .ok (.iload_n 2, 1) := by decide +kernel
theorem dX9_canWalk_24 : decode cX9_canWalk 24 = .ok (.invokevirtual 53, 3) := by decide +kernel
theorem dX9_canWalk_27 : decode cX9_canWalk 27 = .ok (.ifCond .ne 25, 3) := by decide +kernel
theorem dX9_canWalk_30 : decode cX9_canWalk 30 = .ok (.aload_n 0, 1) := by decide +kernel
theorem dX9_canWalk_31 : decode cX9_canWalk 31 = .ok (.getfield 21, 3) := by decide +kernel
theorem dX9_canWalk_34 : decode cX9_canWalk 34 = .ok (.iload_n 2, 1) := by decide +kernel
theorem dX9_canWalk_35 : decode cX9_canWalk 35 = .ok (.aload_n 0, 1) := by decide +kernel
theorem dX9_canWalk_36 : decode cX9_canWalk 36 = .ok (.getfield 18, 3) := by decide +kernel
theorem dX9_canWalk_39 : decode cX9_canWalk 39 = .ok (.iload_n 1, 1) := by decide +kernel
theorem dX9_canWalk_40 : decode cX9_canWalk 40 = .ok (.iaload, 1) := by decide +kernel
theorem dX9_canWalk_41 : decode cX9_canWalk 41 = .ok (.invokevirtual 98, 3) := by decide +kernel
theorem dX9_canWalk_44 : decode cX9_canWalk 44 = .ok (.iconst (-1), 1) := by decide +kernel
theorem dX9_canWalk_45 : decode cX9_canWalk 45 = .ok (.if_icmp .eq 7, 3) := by decide +kernel
theorem dX9_canWalk_48 : decode cX9_canWalk 48 = .ok (.iconst 1, 1) := by decide +kernel
theorem dX9_canWalk_49 : decode cX9_canWalk 49 = .ok (.goto 4, 3) := by decide +kernel
theorem dX9_canWalk_52 : decode cX9_canWalk 52 = .ok (.iconst 0, 1) := by decide +kernel
theorem dX9_canWalk_53 : decode cX9_canWalk 53 = .ok (.ireturn, 1) := by decide +kernel
def f_X9_canWalk (w : Nat) (o0 : Nat) (x1 : Int32) (x2 : Int32) (M : mM) : Option (Int32 × mM) := bI (f_X6_hasPerson w (rF o0 0) x1 M) fun q2 M1 => (if q2 = 0 then rtB 0 M1 else bI (f_X6_hasDoor w (rF o0 0) x2 M1) fun q4 M3 => (if q4 = 0 then rtB 0 M3 else bI (f_X9_isStuck w o0 x2 M3) fun q6 M5 => (if q6 = 0 then chk x1 (sL (rF o0 5)) (bI (f_X6_roomBehind w (rF o0 0) x2 (M5.1 (rF o0 5) x1.toNatClampNeg) M5) fun q8 M7 => (if q8 = (-1) then rtB 0 M7 else rtB 1 M7)) else rtB 0 M5)))
set_option maxHeartbeats 4000000 in
set_option maxRecDepth 100000 in
theorem s_X9_canWalk {l : Launch} {G : mG} {sk : List mS} (w : Nat) (o0 : Nat) (h0 : isK o0 19) (x1 : Int32) (x2 : Int32) (M : mM) : Go muX9_canWalk (rm 2) 0 0 l G sk (mFin G sk eI) (f_X9_canWalk w o0 x1 x2 M) 0 [(0, .ref (gB G + o0)), (1, .int x1), (2, .int x2)] [] M := by
  unfold f_X9_canWalk
  refine go_aload_n 0 1 dX9_canWalk_0 rfl rfl ?_
  refine go_getR flX9_21 h0 4 dX9_canWalk_1 rfl ?_
  refine go_iload_n 1 5 dX9_canWalk_4 rfl rfl ?_
  refine go_cVI1 0 clX6 cwX9_92 (m_X6_hasPerson w (rF o0 0) (rk9_0 h0) x1 M) (rk9_0 h0) 8 dX9_canWalk_5 rfl ⟨Nat.le_of_ble_eq_true rfl, Nat.le_of_ble_eq_true rfl⟩ ⟨Nat.zero_le _, Nat.zero_le _⟩ (Nat.le_of_ble_eq_true rfl) (fun q2 M1 _ => ?_)
  refine go_if_eq 52 11 dX9_canWalk_8 rfl (by decide) (fun _ => ?_) (fun _ => ?_)
  · refine go_iconst 0 53 dX9_canWalk_52 rfl (by decide) ?_
    exact go_zret rfl dX9_canWalk_53
  · refine go_aload_n 0 12 dX9_canWalk_11 rfl rfl ?_
    refine go_getR flX9_21 h0 15 dX9_canWalk_12 rfl ?_
    refine go_iload_n 2 16 dX9_canWalk_15 rfl rfl ?_
    refine go_cVI1 0 clX6 cwX9_95 (m_X6_hasDoor w (rF o0 0) (rk9_0 h0) x2 M1) (rk9_0 h0) 19 dX9_canWalk_16 rfl ⟨Nat.le_of_ble_eq_true rfl, Nat.le_of_ble_eq_true rfl⟩ ⟨Nat.zero_le _, Nat.zero_le _⟩ (Nat.le_of_ble_eq_true rfl) (fun q4 M3 _ => ?_)
    refine go_if_eq 52 22 dX9_canWalk_19 rfl (by decide) (fun _ => ?_) (fun _ => ?_)
    · refine go_iconst 0 53 dX9_canWalk_52 rfl (by decide) ?_
      exact go_zret rfl dX9_canWalk_53
    · refine go_aload_n 0 23 dX9_canWalk_22 rfl rfl ?_
      refine go_iload_n 2 24 dX9_canWalk_23 rfl rfl ?_
      refine go_cVI1 1 clX9 cwX9_53 (m_X9_isStuck w o0 h0 x2 M3) h0 27 dX9_canWalk_24 rfl ⟨Nat.le_of_ble_eq_true rfl, Nat.le_of_ble_eq_true rfl⟩ ⟨Nat.zero_le _, Nat.zero_le _⟩ (Nat.le_of_ble_eq_true rfl) (fun q6 M5 _ => ?_)
      refine go_if_ne 52 30 dX9_canWalk_27 rfl (by decide) (fun _ => ?_) (fun _ => ?_)
      · refine go_iconst 0 53 dX9_canWalk_52 rfl (by decide) ?_
        exact go_zret rfl dX9_canWalk_53
      · refine go_aload_n 0 31 dX9_canWalk_30 rfl rfl ?_
        refine go_getR flX9_21 h0 34 dX9_canWalk_31 rfl ?_
        refine go_iload_n 2 35 dX9_canWalk_34 rfl rfl ?_
        refine go_aload_n 0 36 dX9_canWalk_35 rfl rfl ?_
        refine go_getR flX9_18 h0 39 dX9_canWalk_36 rfl ?_
        refine go_iload_n 1 40 dX9_canWalk_39 rfl rfl ?_
        refine go_iald (rk9_5 h0) 41 dX9_canWalk_40 rfl ?_
        refine go_cVI2 0 clX6 cwX9_98 (m_X6_roomBehind w (rF o0 0) (rk9_0 h0) x2 (M5.1 (rF o0 5) x1.toNatClampNeg) M5) (rk9_0 h0) 44 dX9_canWalk_41 rfl ⟨Nat.le_of_ble_eq_true rfl, Nat.le_of_ble_eq_true rfl⟩ ⟨Nat.zero_le _, Nat.zero_le _⟩ (Nat.le_of_ble_eq_true rfl) (fun q8 M7 _ => ?_)
        refine go_iconst (-1) 45 dX9_canWalk_44 rfl (by decide) ?_
        refine go_icmp_eq 52 48 dX9_canWalk_45 rfl (by decide) (fun _ => ?_) (fun _ => ?_)
        · refine go_iconst 0 53 dX9_canWalk_52 rfl (by decide) ?_
          exact go_zret rfl dX9_canWalk_53
        · refine go_iconst 1 49 dX9_canWalk_48 rfl (by decide) ?_
          refine go_goto 53 dX9_canWalk_49 (by decide) ?_
          exact go_zret rfl dX9_canWalk_53
theorem m_X9_canWalk {l : Launch} {G : mG} {sk : List mS} (w : Nat) (o0 : Nat) (h0 : isK o0 19) (x1 : Int32) (x2 : Int32) (M : mM) : Mt l G sk yX9_canWalk muX9_canWalk 2 [.ref (gB G + o0), .int x1, .int x2] M eI (f_X9_canWalk w o0 x1 x2 M) := Mt.of (by decide) rfl (Nat.le_of_ble_eq_true rfl) (s_X9_canWalk w o0 h0 x1 x2 M)
theorem dX9_makeWalk_0 : decode cX9_makeWalk 0 = .ok (.aload_n 0, 1) := by decide +kernel
theorem dX9_makeWalk_1 : decode cX9_makeWalk 1 = .ok (.getfield 18, 3) := by decide +kernel
theorem dX9_makeWalk_4 : decode cX9_makeWalk 4 = .ok (.iload_n 1, 1) := by decide +kernel
theorem dX9_makeWalk_5 : decode cX9_makeWalk 5 = .ok (.aload_n 0, 1) := by decide +kernel
theorem dX9_makeWalk_6 : decode cX9_makeWalk 6 = .ok (.getfield 21, 3) := by decide +kernel
theorem dX9_makeWalk_9 : decode cX9_makeWalk 9 = .ok (.iload_n 2, 1) := by decide +kernel
theorem dX9_makeWalk_10 : decode cX9_makeWalk 10 = .ok (.aload_n 0, 1) := by decide +kernel
theorem dX9_makeWalk_11 : decode cX9_makeWalk 11 = .ok (.getfield 18, 3) := by decide +kernel
theorem dX9_makeWalk_14 : decode cX9_makeWalk 14 = .ok (.iload_n 1, 1) := by decide +kernel
theorem dX9_makeWalk_15 : decode cX9_makeWalk 15 = .ok (.iaload, 1) := by decide +kernel
theorem dX9_makeWalk_16 : decode cX9_makeWalk 16 = .ok (.invokevirtual 98, 3) := by decide +kernel
theorem dX9_makeWalk_19 : decode cX9_makeWalk 19 = .ok (.iastore, 1) := by decide +kernel
theorem dX9_makeWalk_20 : decode cX9_makeWalk 20 = .ok (.return_, 1) := by decide +kernel
def f_X9_makeWalk (w : Nat) (o0 : Nat) (x1 : Int32) (x2 : Int32) (M : mM) : Option mM := chk x1 (sL (rF o0 5)) (bI (f_X6_roomBehind w (rF o0 0) x2 (M.1 (rF o0 5) x1.toNatClampNeg) M) fun q2 M1 => chk x1 (sL (rF o0 5)) (lt (wI M1 (rF o0 5) x1.toNatClampNeg q2) fun M3 => some M3))
set_option maxHeartbeats 4000000 in
set_option maxRecDepth 100000 in
theorem s_X9_makeWalk {l : Launch} {G : mG} {sk : List mS} (w : Nat) (o0 : Nat) (h0 : isK o0 19) (x1 : Int32) (x2 : Int32) (M : mM) : Go muX9_makeWalk (rm 1) 0 0 l G sk (mFin G sk eV) (f_X9_makeWalk w o0 x1 x2 M) 0 [(0, .ref (gB G + o0)), (1, .int x1), (2, .int x2)] [] M := by
  unfold f_X9_makeWalk
  refine go_aload_n 0 1 dX9_makeWalk_0 rfl rfl ?_
  refine go_getR flX9_18 h0 4 dX9_makeWalk_1 rfl ?_
  refine go_iload_n 1 5 dX9_makeWalk_4 rfl rfl ?_
  refine go_aload_n 0 6 dX9_makeWalk_5 rfl rfl ?_
  refine go_getR flX9_21 h0 9 dX9_makeWalk_6 rfl ?_
  refine go_iload_n 2 10 dX9_makeWalk_9 rfl rfl ?_
  refine go_aload_n 0 11 dX9_makeWalk_10 rfl rfl ?_
  refine go_getR flX9_18 h0 14 dX9_makeWalk_11 rfl ?_
  refine go_iload_n 1 15 dX9_makeWalk_14 rfl rfl ?_
  refine go_iald (rk9_5 h0) 16 dX9_makeWalk_15 rfl ?_
  refine go_cVI2 0 clX6 cwX9_98 (m_X6_roomBehind w (rF o0 0) (rk9_0 h0) x2 (M.1 (rF o0 5) x1.toNatClampNeg) M) (rk9_0 h0) 19 dX9_makeWalk_16 rfl ⟨Nat.le_of_ble_eq_true rfl, Nat.le_of_ble_eq_true rfl⟩ ⟨Nat.zero_le _, Nat.zero_le _⟩ (Nat.le_of_ble_eq_true rfl) (fun q2 M1 _ => ?_)
  refine go_iast (rk9_5 h0) 20 dX9_makeWalk_19 rfl ?_
  refine go_nmM (fun M3 => ?_)
  exact go_vret rfl dX9_makeWalk_20
theorem m_X9_makeWalk {l : Launch} {G : mG} {sk : List mS} (w : Nat) (o0 : Nat) (h0 : isK o0 19) (x1 : Int32) (x2 : Int32) (M : mM) : Mt l G sk yX9_makeWalk muX9_makeWalk 1 [.ref (gB G + o0), .int x1, .int x2] M eV (f_X9_makeWalk w o0 x1 x2 M) := Mt.of (by decide) rfl (Nat.le_of_ble_eq_true rfl) (s_X9_makeWalk w o0 h0 x1 x2 M)
theorem dX9_walkIfCan_0 : decode cX9_walkIfCan 0 = .ok (.aload_n 0, 1) := by decide +kernel
theorem dX9_walkIfCan_1 : decode cX9_walkIfCan 1 = .ok (.iload_n 1, 1) := by decide +kernel
theorem dX9_walkIfCan_2 : decode cX9_walkIfCan 2 = .ok (.iload_n 2, 1) := by decide +kernel
theorem dX9_walkIfCan_3 : decode cX9_walkIfCan 3 = .ok (.invokevirtual 101, 3) := by decide +kernel
theorem dX9_walkIfCan_6 : decode cX9_walkIfCan 6 = .ok (.istore_n 3, 1) := by decide +kernel
theorem dX9_walkIfCan_7 : decode cX9_walkIfCan 7 = .ok (.iload_n 3, 1) := by decide +kernel
theorem dX9_walkIfCan_8 : decode cX9_walkIfCan 8 = .ok (.ifCond .eq 9, 3) := by decide +kernel
theorem dX9_walkIfCan_11 : decode cX9_walkIfCan 11 = .ok (.aload_n 0, 1) := by decide +kernel
theorem dX9_walkIfCan_12 : decode cX9_walkIfCan 12 = .ok (.iload_n 1, 1) := by decide +kernel
theorem dX9_walkIfCan_13 : decode cX9_walkIfCan 13 = .ok (.iload_n 2, 1) := by decide +kernel
theorem dX9_walkIfCan_14 : decode cX9_walkIfCan 14 = .ok (.invokevirtual 105, 3) := by decide +kernel
theorem dX9_walkIfCan_17 : decode cX9_walkIfCan 17 = .ok (.iload_n 3, 1) := by decide +kernel
theorem dX9_walkIfCan_18 : decode cX9_walkIfCan 18 = .ok (.ireturn, 1) := by decide +kernel
def f_X9_walkIfCan (w : Nat) (o0 : Nat) (x1 : Int32) (x2 : Int32) (M : mM) : Option (Int32 × mM) := bI (f_X9_canWalk w o0 x1 x2 M) fun q2 M1 => (if q2 = 0 then rtB q2 M1 else bV (f_X9_makeWalk w o0 x1 x2 M1) fun M3 => rtB q2 M3)
set_option maxHeartbeats 4000000 in
set_option maxRecDepth 100000 in
theorem s_X9_walkIfCan {l : Launch} {G : mG} {sk : List mS} (w : Nat) (o0 : Nat) (h0 : isK o0 19) (x1 : Int32) (x2 : Int32) (M : mM) : Go muX9_walkIfCan (rm 3) 0 0 l G sk (mFin G sk eI) (f_X9_walkIfCan w o0 x1 x2 M) 0 [(0, .ref (gB G + o0)), (1, .int x1), (2, .int x2)] [] M := by
  unfold f_X9_walkIfCan
  refine go_aload_n 0 1 dX9_walkIfCan_0 rfl rfl ?_
  refine go_iload_n 1 2 dX9_walkIfCan_1 rfl rfl ?_
  refine go_iload_n 2 3 dX9_walkIfCan_2 rfl rfl ?_
  refine go_cVI2 2 clX9 cwX9_101 (m_X9_canWalk w o0 h0 x1 x2 M) h0 6 dX9_walkIfCan_3 rfl ⟨Nat.le_of_ble_eq_true rfl, Nat.le_of_ble_eq_true rfl⟩ ⟨Nat.zero_le _, Nat.zero_le _⟩ (Nat.le_of_ble_eq_true rfl) (fun q2 M1 _ => ?_)
  refine go_istore_n [(3, .int q2), (0, .ref (gB G + o0)), (1, .int x1), (2, .int x2)] 7 dX9_walkIfCan_6 rfl rfl (by decide) rfl ?_
  refine go_iload_n 0 8 dX9_walkIfCan_7 rfl rfl ?_
  refine go_if_eq 17 11 dX9_walkIfCan_8 rfl (by decide) (fun _ => ?_) (fun _ => ?_)
  · refine go_iload_n 0 18 dX9_walkIfCan_17 rfl rfl ?_
    exact go_zret rfl dX9_walkIfCan_18
  · refine go_aload_n 1 12 dX9_walkIfCan_11 rfl rfl ?_
    refine go_iload_n 2 13 dX9_walkIfCan_12 rfl rfl ?_
    refine go_iload_n 3 14 dX9_walkIfCan_13 rfl rfl ?_
    refine go_cVV2 1 clX9 cwX9_105 (m_X9_makeWalk w o0 h0 x1 x2 M1) h0 17 dX9_walkIfCan_14 rfl ⟨Nat.le_of_ble_eq_true rfl, Nat.le_of_ble_eq_true rfl⟩ ⟨Nat.zero_le _, Nat.zero_le _⟩ (Nat.le_of_ble_eq_true rfl) (fun M3 _ => ?_)
    refine go_iload_n 0 18 dX9_walkIfCan_17 rfl rfl ?_
    exact go_zret rfl dX9_walkIfCan_18
theorem m_X9_walkIfCan {l : Launch} {G : mG} {sk : List mS} (w : Nat) (o0 : Nat) (h0 : isK o0 19) (x1 : Int32) (x2 : Int32) (M : mM) : Mt l G sk yX9_walkIfCan muX9_walkIfCan 3 [.ref (gB G + o0), .int x1, .int x2] M eI (f_X9_walkIfCan w o0 x1 x2 M) := Mt.of (by decide) rfl (Nat.le_of_ble_eq_true rfl) (s_X9_walkIfCan w o0 h0 x1 x2 M)
theorem dX9_canPlane_0 : decode cX9_canPlane 0 = .ok (.aload_n 0, 1) := by decide +kernel
theorem dX9_canPlane_1 : decode cX9_canPlane 1 = .ok (.getfield 21, 3) := by decide +kernel
theorem dX9_canPlane_4 : decode cX9_canPlane 4 = .ok (.iload_n 1, 1) := by decide +kernel
theorem dX9_canPlane_5 : decode cX9_canPlane 5 = .ok (.invokevirtual 95, 3) := by decide +kernel
theorem dX9_canPlane_8 : decode cX9_canPlane 8 = .ok (.ifCond .eq 18, 3) := by decide +kernel
theorem dX9_canPlane_11 : decode cX9_canPlane 11 = .ok (.aload_n 0, 1) := by decide +kernel
theorem dX9_canPlane_12 : decode cX9_canPlane 12 = .ok (.getfield 9, 3) := by decide +kernel
theorem dX9_canPlane_15 : decode cX9_canPlane 15 = .ok (.iload_n 1, 1) := by decide +kernel
theorem dX9_canPlane_16 : decode cX9_canPlane 16 = .ok (.iaload, 1) := by decide +kernel
theorem dX9_canPlane_17 : decode cX9_canPlane 17 = .ok (.bipush 20, 2) := by decide +kernel
theorem dX9_canPlane_19 : decode cX9_canPlane 19 = .ok (.if_icmp .ge 7, 3) := by decide +kernel
theorem dX9_canPlane_22 : decode cX9_canPlane 22 = .ok (.iconst 1, 1) := by decide +kernel
theorem dX9_canPlane_23 : decode cX9_canPlane 23 = .ok (.goto 4, 3) := by decide +kernel
theorem dX9_canPlane_26 : decode cX9_canPlane 26 = .ok (.iconst 0, 1) := by decide +kernel
theorem dX9_canPlane_27 : decode cX9_canPlane 27 = .ok (.ireturn, 1) := by decide +kernel
def f_X9_canPlane (w : Nat) (o0 : Nat) (x1 : Int32) (M : mM) : Option (Int32 × mM) := bI (f_X6_hasDoor w (rF o0 0) x1 M) fun q2 M1 => (if q2 = 0 then rtB 0 M1 else chk x1 (sL (rF o0 3)) ((if 20 ≤ (M1.1 (rF o0 3) x1.toNatClampNeg) then rtB 0 M1 else rtB 1 M1)))
set_option maxHeartbeats 4000000 in
set_option maxRecDepth 100000 in
theorem s_X9_canPlane {l : Launch} {G : mG} {sk : List mS} (w : Nat) (o0 : Nat) (h0 : isK o0 19) (x1 : Int32) (M : mM) : Go muX9_canPlane (rm 1) 0 0 l G sk (mFin G sk eI) (f_X9_canPlane w o0 x1 M) 0 [(0, .ref (gB G + o0)), (1, .int x1)] [] M := by
  unfold f_X9_canPlane
  refine go_aload_n 0 1 dX9_canPlane_0 rfl rfl ?_
  refine go_getR flX9_21 h0 4 dX9_canPlane_1 rfl ?_
  refine go_iload_n 1 5 dX9_canPlane_4 rfl rfl ?_
  refine go_cVI1 0 clX6 cwX9_95 (m_X6_hasDoor w (rF o0 0) (rk9_0 h0) x1 M) (rk9_0 h0) 8 dX9_canPlane_5 rfl ⟨Nat.le_of_ble_eq_true rfl, Nat.le_of_ble_eq_true rfl⟩ ⟨Nat.zero_le _, Nat.zero_le _⟩ (Nat.le_of_ble_eq_true rfl) (fun q2 M1 _ => ?_)
  refine go_if_eq 26 11 dX9_canPlane_8 rfl (by decide) (fun _ => ?_) (fun _ => ?_)
  · refine go_iconst 0 27 dX9_canPlane_26 rfl (by decide) ?_
    exact go_zret rfl dX9_canPlane_27
  · refine go_aload_n 0 12 dX9_canPlane_11 rfl rfl ?_
    refine go_getR flX9_9 h0 15 dX9_canPlane_12 rfl ?_
    refine go_iload_n 1 16 dX9_canPlane_15 rfl rfl ?_
    refine go_iald (rk9_3 h0) 17 dX9_canPlane_16 rfl ?_
    refine go_bipush 20 19 dX9_canPlane_17 rfl (by decide) ?_
    refine go_icmp_ge 26 22 dX9_canPlane_19 rfl (by decide) (fun _ => ?_) (fun _ => ?_)
    · refine go_iconst 0 27 dX9_canPlane_26 rfl (by decide) ?_
      exact go_zret rfl dX9_canPlane_27
    · refine go_iconst 1 23 dX9_canPlane_22 rfl (by decide) ?_
      refine go_goto 27 dX9_canPlane_23 (by decide) ?_
      exact go_zret rfl dX9_canPlane_27
theorem m_X9_canPlane {l : Launch} {G : mG} {sk : List mS} (w : Nat) (o0 : Nat) (h0 : isK o0 19) (x1 : Int32) (M : mM) : Mt l G sk yX9_canPlane muX9_canPlane 1 [.ref (gB G + o0), .int x1] M eI (f_X9_canPlane w o0 x1 M) := Mt.of (by decide) rfl (Nat.le_of_ble_eq_true rfl) (s_X9_canPlane w o0 h0 x1 M)
theorem dX9_makePlaning_0 : decode cX9_makePlaning 0 = .ok (.aload_n 0, 1) := by decide +kernel
theorem dX9_makePlaning_1 : decode cX9_makePlaning 1 = .ok (.getfield 9, 3) := by decide +kernel
theorem dX9_makePlaning_4 : decode cX9_makePlaning 4 = .ok (.iload_n 1, 1) := by decide +kernel
theorem dX9_makePlaning_5 : decode cX9_makePlaning 5 = .ok (.dup2, 1) := by decide +kernel
theorem dX9_makePlaning_6 : decode cX9_makePlaning 6 = .ok (.iaload, 1) := by decide +kernel
theorem dX9_makePlaning_7 : decode cX9_makePlaning 7 = .ok (.iconst 1, 1) := by decide +kernel
theorem dX9_makePlaning_8 : decode cX9_makePlaning 8 = .ok (.iadd, 1) := by decide +kernel
theorem dX9_makePlaning_9 : decode cX9_makePlaning 9 = .ok (.iastore, 1) := by decide +kernel
theorem dX9_makePlaning_10 : decode cX9_makePlaning 10 = .ok (.return_, 1) := by decide +kernel
def f_X9_makePlaning (w : Nat) (o0 : Nat) (x1 : Int32) (M : mM) : Option mM := chk x1 (sL (rF o0 3)) (chk x1 (sL (rF o0 3)) (lt (wI M (rF o0 3) x1.toNatClampNeg ((M.1 (rF o0 3) x1.toNatClampNeg) + 1)) fun M1 => some M1))
set_option maxHeartbeats 4000000 in
set_option maxRecDepth 100000 in
theorem s_X9_makePlaning {l : Launch} {G : mG} {sk : List mS} (w : Nat) (o0 : Nat) (h0 : isK o0 19) (x1 : Int32) (M : mM) : Go muX9_makePlaning (rm 0) 0 0 l G sk (mFin G sk eV) (f_X9_makePlaning w o0 x1 M) 0 [(0, .ref (gB G + o0)), (1, .int x1)] [] M := by
  unfold f_X9_makePlaning
  refine go_aload_n 0 1 dX9_makePlaning_0 rfl rfl ?_
  refine go_getR flX9_9 h0 4 dX9_makePlaning_1 rfl ?_
  refine go_iload_n 1 5 dX9_makePlaning_4 rfl rfl ?_
  refine go_dup2 6 dX9_makePlaning_5 rfl rfl rfl ?_
  refine go_iald (rk9_3 h0) 7 dX9_makePlaning_6 rfl ?_
  refine go_iconst 1 8 dX9_makePlaning_7 rfl (by decide) ?_
  refine go_iadd 9 dX9_makePlaning_8 rfl ?_
  refine go_iast (rk9_3 h0) 10 dX9_makePlaning_9 rfl ?_
  refine go_nmM (fun M1 => ?_)
  exact go_vret rfl dX9_makePlaning_10
theorem m_X9_makePlaning {l : Launch} {G : mG} {sk : List mS} (w : Nat) (o0 : Nat) (h0 : isK o0 19) (x1 : Int32) (M : mM) : Mt l G sk yX9_makePlaning muX9_makePlaning 0 [.ref (gB G + o0), .int x1] M eV (f_X9_makePlaning w o0 x1 M) := Mt.of (by decide) rfl (Nat.le_of_ble_eq_true rfl) (s_X9_makePlaning w o0 h0 x1 M)
theorem dX9_planeIfCan_0 : decode cX9_planeIfCan 0 = .ok (.aload_n 0, 1) := by decide +kernel
theorem dX9_planeIfCan_1 : decode cX9_planeIfCan 1 = .ok (.iload_n 1, 1) := by decide +kernel
theorem dX9_planeIfCan_2 : decode cX9_planeIfCan 2 = .ok (.invokevirtual 109, 3) := by decide +kernel
theorem dX9_planeIfCan_5 : decode cX9_planeIfCan 5 = .ok (.istore_n 2, 1) := by decide +kernel
theorem dX9_planeIfCan_6 : decode cX9_planeIfCan 6 = .ok (.iload_n 2, 1) := by decide +kernel
theorem dX9_planeIfCan_7 : decode cX9_planeIfCan 7 = .ok (.ifCond .eq 8, 3) := by decide +kernel
theorem dX9_planeIfCan_10 : decode cX9_planeIfCan 10 = .ok (.aload_n 0, 1) := by decide +kernel
theorem dX9_planeIfCan_11 : decode cX9_planeIfCan 11 = .ok (.iload_n 1, 1) := by decide +kernel
theorem dX9_planeIfCan_12 : decode cX9_planeIfCan 12 = .ok (.invokevirtual 112, 3) := by decide +kernel
theorem dX9_planeIfCan_15 : decode cX9_planeIfCan 15 = .ok (.iload_n 2, 1) := by decide +kernel
theorem dX9_planeIfCan_16 : decode cX9_planeIfCan 16 = .ok (.ireturn, 1) := by decide +kernel
def f_X9_planeIfCan (w : Nat) (o0 : Nat) (x1 : Int32) (M : mM) : Option (Int32 × mM) := bI (f_X9_canPlane w o0 x1 M) fun q2 M1 => (if q2 = 0 then rtB q2 M1 else bV (f_X9_makePlaning w o0 x1 M1) fun M3 => rtB q2 M3)
set_option maxHeartbeats 4000000 in
set_option maxRecDepth 100000 in
theorem s_X9_planeIfCan {l : Launch} {G : mG} {sk : List mS} (w : Nat) (o0 : Nat) (h0 : isK o0 19) (x1 : Int32) (M : mM) : Go muX9_planeIfCan (rm 2) 0 0 l G sk (mFin G sk eI) (f_X9_planeIfCan w o0 x1 M) 0 [(0, .ref (gB G + o0)), (1, .int x1)] [] M := by
  unfold f_X9_planeIfCan
  refine go_aload_n 0 1 dX9_planeIfCan_0 rfl rfl ?_
  refine go_iload_n 1 2 dX9_planeIfCan_1 rfl rfl ?_
  refine go_cVI1 1 clX9 cwX9_109 (m_X9_canPlane w o0 h0 x1 M) h0 5 dX9_planeIfCan_2 rfl ⟨Nat.le_of_ble_eq_true rfl, Nat.le_of_ble_eq_true rfl⟩ ⟨Nat.zero_le _, Nat.zero_le _⟩ (Nat.le_of_ble_eq_true rfl) (fun q2 M1 _ => ?_)
  refine go_istore_n [(2, .int q2), (0, .ref (gB G + o0)), (1, .int x1)] 6 dX9_planeIfCan_5 rfl rfl (by decide) rfl ?_
  refine go_iload_n 0 7 dX9_planeIfCan_6 rfl rfl ?_
  refine go_if_eq 15 10 dX9_planeIfCan_7 rfl (by decide) (fun _ => ?_) (fun _ => ?_)
  · refine go_iload_n 0 16 dX9_planeIfCan_15 rfl rfl ?_
    exact go_zret rfl dX9_planeIfCan_16
  · refine go_aload_n 1 11 dX9_planeIfCan_10 rfl rfl ?_
    refine go_iload_n 2 12 dX9_planeIfCan_11 rfl rfl ?_
    refine go_cVV1 0 clX9 cwX9_112 (m_X9_makePlaning w o0 h0 x1 M1) h0 15 dX9_planeIfCan_12 rfl ⟨Nat.le_of_ble_eq_true rfl, Nat.le_of_ble_eq_true rfl⟩ ⟨Nat.zero_le _, Nat.zero_le _⟩ (Nat.le_of_ble_eq_true rfl) (fun M3 _ => ?_)
    refine go_iload_n 0 16 dX9_planeIfCan_15 rfl rfl ?_
    exact go_zret rfl dX9_planeIfCan_16
theorem m_X9_planeIfCan {l : Launch} {G : mG} {sk : List mS} (w : Nat) (o0 : Nat) (h0 : isK o0 19) (x1 : Int32) (M : mM) : Mt l G sk yX9_planeIfCan muX9_planeIfCan 2 [.ref (gB G + o0), .int x1] M eI (f_X9_planeIfCan w o0 x1 M) := Mt.of (by decide) rfl (Nat.le_of_ble_eq_true rfl) (s_X9_planeIfCan w o0 h0 x1 M)
theorem dX9_canWedge_0 : decode cX9_canWedge 0 = .ok (.aload_n 0, 1) := by decide +kernel
theorem dX9_canWedge_1 : decode cX9_canWedge 1 = .ok (.getfield 21, 3) := by decide +kernel
theorem dX9_canWedge_4 : decode cX9_canWedge 4 = .ok (.iload_n 1, 1) := by decide +kernel
theorem dX9_canWedge_5 : decode cX9_canWedge 5 = .ok (.invokevirtual 95, 3) := by decide +kernel
theorem dX9_canWedge_8 : decode cX9_canWedge 8 = .ok (.ifCond .eq 15, 3) := by decide +kernel
theorem dX9_canWedge_11 : decode cX9_canWedge 11 = .ok (.aload_n 0, 1) := by decide +kernel
theorem dX9_canWedge_12 : decode cX9_canWedge 12 = .ok (.iload_n 1, 1) := by decide +kernel
theorem dX9_canWedge_13 : decode cX9_canWedge 13 = .ok (.invokevirtual 53, 3) := by decide +kernel
theorem dX9_canWedge_16 : decode cX9_canWedge 16 = .ok (.ifCond .ne 7, 3) := by decide +kernel
theorem dX9_canWedge_19 : decode cX9_canWedge 19 = .ok (.iconst 1, 1) := by decide +kernel
theorem dX9_canWedge_20 : decode cX9_canWedge 20 = .ok (.goto 4, 3) := by decide +kernel
theorem dX9_canWedge_23 : decode cX9_canWedge 23 = .ok (.iconst 0, 1) := by decide +kernel
theorem dX9_canWedge_24 : decode cX9_canWedge 24 = .ok (.ireturn, 1) := by decide +kernel
def f_X9_canWedge (w : Nat) (o0 : Nat) (x1 : Int32) (M : mM) : Option (Int32 × mM) := bI (f_X6_hasDoor w (rF o0 0) x1 M) fun q2 M1 => (if q2 = 0 then rtB 0 M1 else bI (f_X9_isStuck w o0 x1 M1) fun q4 M3 => (if q4 = 0 then rtB 1 M3 else rtB 0 M3))
set_option maxHeartbeats 4000000 in
set_option maxRecDepth 100000 in
theorem s_X9_canWedge {l : Launch} {G : mG} {sk : List mS} (w : Nat) (o0 : Nat) (h0 : isK o0 19) (x1 : Int32) (M : mM) : Go muX9_canWedge (rm 2) 0 0 l G sk (mFin G sk eI) (f_X9_canWedge w o0 x1 M) 0 [(0, .ref (gB G + o0)), (1, .int x1)] [] M := by
  unfold f_X9_canWedge
  refine go_aload_n 0 1 dX9_canWedge_0 rfl rfl ?_
  refine go_getR flX9_21 h0 4 dX9_canWedge_1 rfl ?_
  refine go_iload_n 1 5 dX9_canWedge_4 rfl rfl ?_
  refine go_cVI1 0 clX6 cwX9_95 (m_X6_hasDoor w (rF o0 0) (rk9_0 h0) x1 M) (rk9_0 h0) 8 dX9_canWedge_5 rfl ⟨Nat.le_of_ble_eq_true rfl, Nat.le_of_ble_eq_true rfl⟩ ⟨Nat.zero_le _, Nat.zero_le _⟩ (Nat.le_of_ble_eq_true rfl) (fun q2 M1 _ => ?_)
  refine go_if_eq 23 11 dX9_canWedge_8 rfl (by decide) (fun _ => ?_) (fun _ => ?_)
  · refine go_iconst 0 24 dX9_canWedge_23 rfl (by decide) ?_
    exact go_zret rfl dX9_canWedge_24
  · refine go_aload_n 0 12 dX9_canWedge_11 rfl rfl ?_
    refine go_iload_n 1 13 dX9_canWedge_12 rfl rfl ?_
    refine go_cVI1 1 clX9 cwX9_53 (m_X9_isStuck w o0 h0 x1 M1) h0 16 dX9_canWedge_13 rfl ⟨Nat.le_of_ble_eq_true rfl, Nat.le_of_ble_eq_true rfl⟩ ⟨Nat.zero_le _, Nat.zero_le _⟩ (Nat.le_of_ble_eq_true rfl) (fun q4 M3 _ => ?_)
    refine go_if_ne 23 19 dX9_canWedge_16 rfl (by decide) (fun _ => ?_) (fun _ => ?_)
    · refine go_iconst 0 24 dX9_canWedge_23 rfl (by decide) ?_
      exact go_zret rfl dX9_canWedge_24
    · refine go_iconst 1 20 dX9_canWedge_19 rfl (by decide) ?_
      refine go_goto 24 dX9_canWedge_20 (by decide) ?_
      exact go_zret rfl dX9_canWedge_24
theorem m_X9_canWedge {l : Launch} {G : mG} {sk : List mS} (w : Nat) (o0 : Nat) (h0 : isK o0 19) (x1 : Int32) (M : mM) : Mt l G sk yX9_canWedge muX9_canWedge 2 [.ref (gB G + o0), .int x1] M eI (f_X9_canWedge w o0 x1 M) := Mt.of (by decide) rfl (Nat.le_of_ble_eq_true rfl) (s_X9_canWedge w o0 h0 x1 M)
theorem dX9_turnWedge_0 : decode cX9_turnWedge 0 = .ok (.aload_n 0, 1) := by decide +kernel
theorem dX9_turnWedge_1 : decode cX9_turnWedge 1 = .ok (.dup, 1) := by decide +kernel
theorem dX9_turnWedge_2 : decode cX9_turnWedge 2 = .ok (.getfield 29, 3) := by decide +kernel
theorem dX9_turnWedge_5 : decode cX9_turnWedge 5 = .ok (.iconst 1, 1) := by decide +kernel
theorem dX9_turnWedge_6 : decode cX9_turnWedge 6 = .ok (.iload_n 1, 1) := by decide +kernel
theorem dX9_turnWedge_7 : decode cX9_turnWedge 7 = .ok (.ishl, 1) := by decide +kernel
theorem dX9_turnWedge_8 : decode cX9_turnWedge 8 = .ok (.ixor, 1) := by decide +kernel
theorem dX9_turnWedge_9 : decode cX9_turnWedge 9 = .ok (.putfield 29, 3) := by decide +kernel
theorem dX9_turnWedge_12 : decode cX9_turnWedge 12 = .ok (.return_, 1) := by decide +kernel
def f_X9_turnWedge (w : Nat) (o0 : Nat) (x1 : Int32) (M : mM) : Option mM := lt (wI M o0 2 ((M.1 o0 2) ^^^ ((1 : Int32) <<< (x1 &&& 31)))) fun M1 => some M1
set_option maxHeartbeats 4000000 in
set_option maxRecDepth 100000 in
theorem s_X9_turnWedge {l : Launch} {G : mG} {sk : List mS} (w : Nat) (o0 : Nat) (h0 : isK o0 19) (x1 : Int32) (M : mM) : Go muX9_turnWedge (rm 0) 0 0 l G sk (mFin G sk eV) (f_X9_turnWedge w o0 x1 M) 0 [(0, .ref (gB G + o0)), (1, .int x1)] [] M := by
  unfold f_X9_turnWedge
  refine go_aload_n 0 1 dX9_turnWedge_0 rfl rfl ?_
  refine go_dup 2 dX9_turnWedge_1 rfl rfl ?_
  refine go_getI flX9_29 (by decide) h0 5 dX9_turnWedge_2 rfl ?_
  refine go_iconst 1 6 dX9_turnWedge_5 rfl (by decide) ?_
  refine go_iload_n 1 7 dX9_turnWedge_6 rfl rfl ?_
  refine go_ishl 8 dX9_turnWedge_7 rfl ?_
  refine go_ixor 9 dX9_turnWedge_8 rfl ?_
  refine go_putI flX9_29 rfl rfl h0 12 dX9_turnWedge_9 rfl ?_
  refine go_nmM (fun M1 => ?_)
  exact go_vret rfl dX9_turnWedge_12
theorem m_X9_turnWedge {l : Launch} {G : mG} {sk : List mS} (w : Nat) (o0 : Nat) (h0 : isK o0 19) (x1 : Int32) (M : mM) : Mt l G sk yX9_turnWedge muX9_turnWedge 0 [.ref (gB G + o0), .int x1] M eV (f_X9_turnWedge w o0 x1 M) := Mt.of (by decide) rfl (Nat.le_of_ble_eq_true rfl) (s_X9_turnWedge w o0 h0 x1 M)
theorem dX9_wedgeIfCan_0 : decode cX9_wedgeIfCan 0 = .ok (.aload_n 0, 1) := by decide +kernel
theorem dX9_wedgeIfCan_1 : decode cX9_wedgeIfCan 1 = .ok (.iload_n 1, 1) := by decide +kernel
theorem dX9_wedgeIfCan_2 : decode cX9_wedgeIfCan 2 = .ok (.invokevirtual 116, 3) := by decide +kernel
theorem dX9_wedgeIfCan_5 : decode cX9_wedgeIfCan 5 = .ok (.istore_n 2, 1) := by decide +kernel
theorem dX9_wedgeIfCan_6 : decode cX9_wedgeIfCan 6 = .ok (.iload_n 2, 1) := by decide +kernel
theorem dX9_wedgeIfCan_7 : decode cX9_wedgeIfCan 7 = .ok (.ifCond .eq 8, 3) := by decide +kernel
theorem dX9_wedgeIfCan_10 : decode cX9_wedgeIfCan 10 = .ok (.aload_n 0, 1) := by decide +kernel
theorem dX9_wedgeIfCan_11 : decode cX9_wedgeIfCan 11 = .ok (.iload_n 1, 1) := by decide +kernel
theorem dX9_wedgeIfCan_12 : decode cX9_wedgeIfCan 12 = .ok (.invokevirtual 119, 3) := by decide +kernel
theorem dX9_wedgeIfCan_15 : decode cX9_wedgeIfCan 15 = .ok (.iload_n 2, 1) := by decide +kernel
theorem dX9_wedgeIfCan_16 : decode cX9_wedgeIfCan 16 = .ok (.ireturn, 1) := by decide +kernel
def f_X9_wedgeIfCan (w : Nat) (o0 : Nat) (x1 : Int32) (M : mM) : Option (Int32 × mM) := bI (f_X9_canWedge w o0 x1 M) fun q2 M1 => (if q2 = 0 then rtB q2 M1 else bV (f_X9_turnWedge w o0 x1 M1) fun M3 => rtB q2 M3)
set_option maxHeartbeats 4000000 in
set_option maxRecDepth 100000 in
theorem s_X9_wedgeIfCan {l : Launch} {G : mG} {sk : List mS} (w : Nat) (o0 : Nat) (h0 : isK o0 19) (x1 : Int32) (M : mM) : Go muX9_wedgeIfCan (rm 3) 0 0 l G sk (mFin G sk eI) (f_X9_wedgeIfCan w o0 x1 M) 0 [(0, .ref (gB G + o0)), (1, .int x1)] [] M := by
  unfold f_X9_wedgeIfCan
  refine go_aload_n 0 1 dX9_wedgeIfCan_0 rfl rfl ?_
  refine go_iload_n 1 2 dX9_wedgeIfCan_1 rfl rfl ?_
  refine go_cVI1 2 clX9 cwX9_116 (m_X9_canWedge w o0 h0 x1 M) h0 5 dX9_wedgeIfCan_2 rfl ⟨Nat.le_of_ble_eq_true rfl, Nat.le_of_ble_eq_true rfl⟩ ⟨Nat.zero_le _, Nat.zero_le _⟩ (Nat.le_of_ble_eq_true rfl) (fun q2 M1 _ => ?_)
  refine go_istore_n [(2, .int q2), (0, .ref (gB G + o0)), (1, .int x1)] 6 dX9_wedgeIfCan_5 rfl rfl (by decide) rfl ?_
  refine go_iload_n 0 7 dX9_wedgeIfCan_6 rfl rfl ?_
  refine go_if_eq 15 10 dX9_wedgeIfCan_7 rfl (by decide) (fun _ => ?_) (fun _ => ?_)
  · refine go_iload_n 0 16 dX9_wedgeIfCan_15 rfl rfl ?_
    exact go_zret rfl dX9_wedgeIfCan_16
  · refine go_aload_n 1 11 dX9_wedgeIfCan_10 rfl rfl ?_
    refine go_iload_n 2 12 dX9_wedgeIfCan_11 rfl rfl ?_
    refine go_cVV1 0 clX9 cwX9_119 (m_X9_turnWedge w o0 h0 x1 M1) h0 15 dX9_wedgeIfCan_12 rfl ⟨Nat.le_of_ble_eq_true rfl, Nat.le_of_ble_eq_true rfl⟩ ⟨Nat.zero_le _, Nat.zero_le _⟩ (Nat.le_of_ble_eq_true rfl) (fun M3 _ => ?_)
    refine go_iload_n 0 16 dX9_wedgeIfCan_15 rfl rfl ?_
    exact go_zret rfl dX9_wedgeIfCan_16
theorem m_X9_wedgeIfCan {l : Launch} {G : mG} {sk : List mS} (w : Nat) (o0 : Nat) (h0 : isK o0 19) (x1 : Int32) (M : mM) : Mt l G sk yX9_wedgeIfCan muX9_wedgeIfCan 3 [.ref (gB G + o0), .int x1] M eI (f_X9_wedgeIfCan w o0 x1 M) := Mt.of (by decide) rfl (Nat.le_of_ble_eq_true rfl) (s_X9_wedgeIfCan w o0 h0 x1 M)
theorem dX9_canForce_0 : decode cX9_canForce 0 = .ok (.aload_n 0, 1) := by decide +kernel
theorem dX9_canForce_1 : decode cX9_canForce 1 = .ok (.getfield 21, 3) := by decide +kernel
theorem dX9_canForce_4 : decode cX9_canForce 4 = .ok (.iload_n 1, 1) := by decide +kernel
theorem dX9_canForce_5 : decode cX9_canForce 5 = .ok (.invokevirtual 95, 3) := by decide +kernel
theorem dX9_canForce_8 : decode cX9_canForce 8 = .ok (.ifCond .eq 32, 3) := by decide +kernel
theorem dX9_canForce_11 : decode cX9_canForce 11 = .ok (.aload_n 0, 1) := by decide +kernel
theorem dX9_canForce_12 : decode cX9_canForce 12 = .ok (.iload_n 1, 1) := by decide +kernel
theorem dX9_canForce_13 : decode cX9_canForce 13 = .ok (.invokevirtual 53, 3) := by decide +kernel
theorem dX9_canForce_16 : decode cX9_canForce 16 = .ok (.ifCond .eq 24, 3) := by decide +kernel
theorem dX9_canForce_19 : decode cX9_canForce 19 = .ok (.aload_n 0, 1) := by decide +kernel
theorem dX9_canForce_20 : decode cX9_canForce 20 = .ok (.getfield 15, 3) := by decide +kernel
theorem dX9_canForce_23 : decode cX9_canForce 23 = .ok (.iload_n 1, 1) := by decide +kernel
theorem dX9_canForce_24 : decode cX9_canForce 24 = .ok (.iaload, 1) := by decide +kernel
theorem dX9_canForce_25 : decode cX9_canForce 25 = .ok (.aload_n 0, 1) := by decide +kernel
theorem dX9_canForce_26 : decode cX9_canForce 26 = .ok (.getfield 9, 3) := by decide +kernel
theorem dX9_canForce_29 : decode cX9_canForce 29 = .ok (.iload_n 1, 1) := by decide +kernel
theorem dX9_canForce_30 : decode cX9_canForce 30 = .ok (.iaload, 1) := by decide +kernel
theorem dX9_canForce_31 : decode cX9_canForce 31 = .ok (.isub, 1) := by decide +kernel
theorem dX9_canForce_32 : decode cX9_canForce 32 = .ok (.iconst 2, 1) := by decide +kernel
theorem dX9_canForce_33 : decode cX9_canForce 33 = .ok (.if_icmp .gt 7, 3) := by decide +kernel
theorem dX9_canForce_36 : decode cX9_canForce 36 = .ok (.iconst 1, 1) := by decide +kernel
theorem dX9_canForce_37 : decode cX9_canForce 37 = .ok (.goto 4, 3) := by decide +kernel
theorem dX9_canForce_40 : decode cX9_canForce 40 = .ok (.iconst 0, 1) := by decide +kernel
theorem dX9_canForce_41 : decode cX9_canForce 41 = .ok (.ireturn, 1) := by decide +kernel
def f_X9_canForce (w : Nat) (o0 : Nat) (x1 : Int32) (M : mM) : Option (Int32 × mM) := bI (f_X6_hasDoor w (rF o0 0) x1 M) fun q2 M1 => (if q2 = 0 then rtB 0 M1 else bI (f_X9_isStuck w o0 x1 M1) fun q4 M3 => (if q4 = 0 then rtB 0 M3 else chk x1 (sL (rF o0 4)) (chk x1 (sL (rF o0 3)) ((if 2 < ((M3.1 (rF o0 4) x1.toNatClampNeg) - (M3.1 (rF o0 3) x1.toNatClampNeg)) then rtB 0 M3 else rtB 1 M3)))))
set_option maxHeartbeats 4000000 in
set_option maxRecDepth 100000 in
theorem s_X9_canForce {l : Launch} {G : mG} {sk : List mS} (w : Nat) (o0 : Nat) (h0 : isK o0 19) (x1 : Int32) (M : mM) : Go muX9_canForce (rm 2) 0 0 l G sk (mFin G sk eI) (f_X9_canForce w o0 x1 M) 0 [(0, .ref (gB G + o0)), (1, .int x1)] [] M := by
  unfold f_X9_canForce
  refine go_aload_n 0 1 dX9_canForce_0 rfl rfl ?_
  refine go_getR flX9_21 h0 4 dX9_canForce_1 rfl ?_
  refine go_iload_n 1 5 dX9_canForce_4 rfl rfl ?_
  refine go_cVI1 0 clX6 cwX9_95 (m_X6_hasDoor w (rF o0 0) (rk9_0 h0) x1 M) (rk9_0 h0) 8 dX9_canForce_5 rfl ⟨Nat.le_of_ble_eq_true rfl, Nat.le_of_ble_eq_true rfl⟩ ⟨Nat.zero_le _, Nat.zero_le _⟩ (Nat.le_of_ble_eq_true rfl) (fun q2 M1 _ => ?_)
  refine go_if_eq 40 11 dX9_canForce_8 rfl (by decide) (fun _ => ?_) (fun _ => ?_)
  · refine go_iconst 0 41 dX9_canForce_40 rfl (by decide) ?_
    exact go_zret rfl dX9_canForce_41
  · refine go_aload_n 0 12 dX9_canForce_11 rfl rfl ?_
    refine go_iload_n 1 13 dX9_canForce_12 rfl rfl ?_
    refine go_cVI1 1 clX9 cwX9_53 (m_X9_isStuck w o0 h0 x1 M1) h0 16 dX9_canForce_13 rfl ⟨Nat.le_of_ble_eq_true rfl, Nat.le_of_ble_eq_true rfl⟩ ⟨Nat.zero_le _, Nat.zero_le _⟩ (Nat.le_of_ble_eq_true rfl) (fun q4 M3 _ => ?_)
    refine go_if_eq 40 19 dX9_canForce_16 rfl (by decide) (fun _ => ?_) (fun _ => ?_)
    · refine go_iconst 0 41 dX9_canForce_40 rfl (by decide) ?_
      exact go_zret rfl dX9_canForce_41
    · refine go_aload_n 0 20 dX9_canForce_19 rfl rfl ?_
      refine go_getR flX9_15 h0 23 dX9_canForce_20 rfl ?_
      refine go_iload_n 1 24 dX9_canForce_23 rfl rfl ?_
      refine go_iald (rk9_4 h0) 25 dX9_canForce_24 rfl ?_
      refine go_aload_n 0 26 dX9_canForce_25 rfl rfl ?_
      refine go_getR flX9_9 h0 29 dX9_canForce_26 rfl ?_
      refine go_iload_n 1 30 dX9_canForce_29 rfl rfl ?_
      refine go_iald (rk9_3 h0) 31 dX9_canForce_30 rfl ?_
      refine go_isub 32 dX9_canForce_31 rfl ?_
      refine go_iconst 2 33 dX9_canForce_32 rfl (by decide) ?_
      refine go_icmp_gt 40 36 dX9_canForce_33 rfl (by decide) (fun _ => ?_) (fun _ => ?_)
      · refine go_iconst 0 41 dX9_canForce_40 rfl (by decide) ?_
        exact go_zret rfl dX9_canForce_41
      · refine go_iconst 1 37 dX9_canForce_36 rfl (by decide) ?_
        refine go_goto 41 dX9_canForce_37 (by decide) ?_
        exact go_zret rfl dX9_canForce_41
theorem m_X9_canForce {l : Launch} {G : mG} {sk : List mS} (w : Nat) (o0 : Nat) (h0 : isK o0 19) (x1 : Int32) (M : mM) : Mt l G sk yX9_canForce muX9_canForce 2 [.ref (gB G + o0), .int x1] M eI (f_X9_canForce w o0 x1 M) := Mt.of (by decide) rfl (Nat.le_of_ble_eq_true rfl) (s_X9_canForce w o0 h0 x1 M)
theorem dX9_makeForcing_0 : decode cX9_makeForcing 0 = .ok (.aload_n 0, 1) := by decide +kernel
theorem dX9_makeForcing_1 : decode cX9_makeForcing 1 = .ok (.getfield 9, 3) := by decide +kernel
theorem dX9_makeForcing_4 : decode cX9_makeForcing 4 = .ok (.iload_n 1, 1) := by decide +kernel
theorem dX9_makeForcing_5 : decode cX9_makeForcing 5 = .ok (.aload_n 0, 1) := by decide +kernel
theorem dX9_makeForcing_6 : decode cX9_makeForcing 6 = .ok (.getfield 15, 3) := by decide +kernel
theorem dX9_makeForcing_9 : decode cX9_makeForcing 9 = .ok (.iload_n 1, 1) := by decide +kernel
theorem dX9_makeForcing_10 : decode cX9_makeForcing 10 = .ok (.iaload, 1) := by decide +kernel
theorem dX9_makeForcing_11 : decode cX9_makeForcing 11 = .ok (.iastore, 1) := by decide +kernel
theorem dX9_makeForcing_12 : decode cX9_makeForcing 12 = .ok (.return_, 1) := by decide +kernel
def f_X9_makeForcing (w : Nat) (o0 : Nat) (x1 : Int32) (M : mM) : Option mM := chk x1 (sL (rF o0 4)) (chk x1 (sL (rF o0 3)) (lt (wI M (rF o0 3) x1.toNatClampNeg (M.1 (rF o0 4) x1.toNatClampNeg)) fun M1 => some M1))
set_option maxHeartbeats 4000000 in
set_option maxRecDepth 100000 in
theorem s_X9_makeForcing {l : Launch} {G : mG} {sk : List mS} (w : Nat) (o0 : Nat) (h0 : isK o0 19) (x1 : Int32) (M : mM) : Go muX9_makeForcing (rm 0) 0 0 l G sk (mFin G sk eV) (f_X9_makeForcing w o0 x1 M) 0 [(0, .ref (gB G + o0)), (1, .int x1)] [] M := by
  unfold f_X9_makeForcing
  refine go_aload_n 0 1 dX9_makeForcing_0 rfl rfl ?_
  refine go_getR flX9_9 h0 4 dX9_makeForcing_1 rfl ?_
  refine go_iload_n 1 5 dX9_makeForcing_4 rfl rfl ?_
  refine go_aload_n 0 6 dX9_makeForcing_5 rfl rfl ?_
  refine go_getR flX9_15 h0 9 dX9_makeForcing_6 rfl ?_
  refine go_iload_n 1 10 dX9_makeForcing_9 rfl rfl ?_
  refine go_iald (rk9_4 h0) 11 dX9_makeForcing_10 rfl ?_
  refine go_iast (rk9_3 h0) 12 dX9_makeForcing_11 rfl ?_
  refine go_nmM (fun M1 => ?_)
  exact go_vret rfl dX9_makeForcing_12
theorem m_X9_makeForcing {l : Launch} {G : mG} {sk : List mS} (w : Nat) (o0 : Nat) (h0 : isK o0 19) (x1 : Int32) (M : mM) : Mt l G sk yX9_makeForcing muX9_makeForcing 0 [.ref (gB G + o0), .int x1] M eV (f_X9_makeForcing w o0 x1 M) := Mt.of (by decide) rfl (Nat.le_of_ble_eq_true rfl) (s_X9_makeForcing w o0 h0 x1 M)
theorem dX9_forceIfCan_0 : decode cX9_forceIfCan 0 = .ok (.aload_n 0, 1) := by decide +kernel
theorem dX9_forceIfCan_1 : decode cX9_forceIfCan 1 = .ok (.iload_n 1, 1) := by decide +kernel
theorem dX9_forceIfCan_2 : decode cX9_forceIfCan 2 = .ok (.invokevirtual 122, 3) := by decide +kernel
theorem dX9_forceIfCan_5 : decode cX9_forceIfCan 5 = .ok (.istore_n 2, 1) := by decide +kernel
theorem dX9_forceIfCan_6 : decode cX9_forceIfCan 6 = .ok (.iload_n 2, 1) := by decide +kernel
theorem dX9_forceIfCan_7 : decode cX9_forceIfCan 7 = .ok (.ifCond .eq 8, 3) := by decide +kernel
theorem dX9_forceIfCan_10 : decode cX9_forceIfCan 10 = .ok (.aload_n 0, 1) := by decide +kernel
theorem dX9_forceIfCan_11 : decode cX9_forceIfCan 11 = .ok (.iload_n 1, 1) := by decide +kernel
theorem dX9_forceIfCan_12 : decode cX9_forceIfCan 12 = .ok (.invokevirtual 125, 3) := by decide +kernel
theorem dX9_forceIfCan_15 : decode cX9_forceIfCan 15 = .ok (.iload_n 2, 1) := by decide +kernel
theorem dX9_forceIfCan_16 : decode cX9_forceIfCan 16 = .ok (.ireturn, 1) := by decide +kernel
def f_X9_forceIfCan (w : Nat) (o0 : Nat) (x1 : Int32) (M : mM) : Option (Int32 × mM) := bI (f_X9_canForce w o0 x1 M) fun q2 M1 => (if q2 = 0 then rtB q2 M1 else bV (f_X9_makeForcing w o0 x1 M1) fun M3 => rtB q2 M3)
set_option maxHeartbeats 4000000 in
set_option maxRecDepth 100000 in
theorem s_X9_forceIfCan {l : Launch} {G : mG} {sk : List mS} (w : Nat) (o0 : Nat) (h0 : isK o0 19) (x1 : Int32) (M : mM) : Go muX9_forceIfCan (rm 3) 0 0 l G sk (mFin G sk eI) (f_X9_forceIfCan w o0 x1 M) 0 [(0, .ref (gB G + o0)), (1, .int x1)] [] M := by
  unfold f_X9_forceIfCan
  refine go_aload_n 0 1 dX9_forceIfCan_0 rfl rfl ?_
  refine go_iload_n 1 2 dX9_forceIfCan_1 rfl rfl ?_
  refine go_cVI1 2 clX9 cwX9_122 (m_X9_canForce w o0 h0 x1 M) h0 5 dX9_forceIfCan_2 rfl ⟨Nat.le_of_ble_eq_true rfl, Nat.le_of_ble_eq_true rfl⟩ ⟨Nat.zero_le _, Nat.zero_le _⟩ (Nat.le_of_ble_eq_true rfl) (fun q2 M1 _ => ?_)
  refine go_istore_n [(2, .int q2), (0, .ref (gB G + o0)), (1, .int x1)] 6 dX9_forceIfCan_5 rfl rfl (by decide) rfl ?_
  refine go_iload_n 0 7 dX9_forceIfCan_6 rfl rfl ?_
  refine go_if_eq 15 10 dX9_forceIfCan_7 rfl (by decide) (fun _ => ?_) (fun _ => ?_)
  · refine go_iload_n 0 16 dX9_forceIfCan_15 rfl rfl ?_
    exact go_zret rfl dX9_forceIfCan_16
  · refine go_aload_n 1 11 dX9_forceIfCan_10 rfl rfl ?_
    refine go_iload_n 2 12 dX9_forceIfCan_11 rfl rfl ?_
    refine go_cVV1 0 clX9 cwX9_125 (m_X9_makeForcing w o0 h0 x1 M1) h0 15 dX9_forceIfCan_12 rfl ⟨Nat.le_of_ble_eq_true rfl, Nat.le_of_ble_eq_true rfl⟩ ⟨Nat.zero_le _, Nat.zero_le _⟩ (Nat.le_of_ble_eq_true rfl) (fun M3 _ => ?_)
    refine go_iload_n 0 16 dX9_forceIfCan_15 rfl rfl ?_
    exact go_zret rfl dX9_forceIfCan_16
theorem m_X9_forceIfCan {l : Launch} {G : mG} {sk : List mS} (w : Nat) (o0 : Nat) (h0 : isK o0 19) (x1 : Int32) (M : mM) : Mt l G sk yX9_forceIfCan muX9_forceIfCan 3 [.ref (gB G + o0), .int x1] M eI (f_X9_forceIfCan w o0 x1 M) := Mt.of (by decide) rfl (Nat.le_of_ble_eq_true rfl) (s_X9_forceIfCan w o0 h0 x1 M)
theorem dX9_line_0 : decode cX9_line 0 = .ok (.iload_n 0, 1) := by decide +kernel
theorem dX9_line_1 : decode cX9_line 1 = .ok (.iload_n 1, 1) := by decide +kernel
theorem dX9_line_2 : decode cX9_line 2 = .ok (.iconst 3, 1) := by decide +kernel
theorem dX9_line_3 : decode cX9_line 3 = .ok (.ishl, 1) := by decide +kernel
theorem dX9_line_4 : decode cX9_line 4 = .ok (.ior, 1) := by decide +kernel
theorem dX9_line_5 : decode cX9_line 5 = .ok (.iload_n 2, 1) := by decide +kernel
theorem dX9_line_6 : decode cX9_line 6 = .ok (.bipush 6, 2) := by decide +kernel
theorem dX9_line_8 : decode cX9_line 8 = .ok (.ishl, 1) := by decide +kernel
theorem dX9_line_9 : decode cX9_line 9 = .ok (.ior, 1) := by decide +kernel
theorem dX9_line_10 : decode cX9_line 10 = .ok (.ireturn, 1) := by decide +kernel
def f_X9_line (w : Nat) (x0 : Int32) (x1 : Int32) (x2 : Int32) (M : mM) : Option (Int32 × mM) := some (((x0 ||| (x1 <<< ((3 : Int32) &&& 31))) ||| (x2 <<< ((6 : Int32) &&& 31))), M)
set_option maxHeartbeats 4000000 in
set_option maxRecDepth 100000 in
theorem s_X9_line {l : Launch} {G : mG} {sk : List mS} (w : Nat) (x0 : Int32) (x1 : Int32) (x2 : Int32) (M : mM) : Go muX9_line (rm 0) 0 0 l G sk (mFin G sk eI) (f_X9_line w x0 x1 x2 M) 0 [(0, .int x0), (1, .int x1), (2, .int x2)] [] M := by
  unfold f_X9_line
  refine go_iload_n 0 1 dX9_line_0 rfl rfl ?_
  refine go_iload_n 1 2 dX9_line_1 rfl rfl ?_
  refine go_iconst 3 3 dX9_line_2 rfl (by decide) ?_
  refine go_ishl 4 dX9_line_3 rfl ?_
  refine go_ior 5 dX9_line_4 rfl ?_
  refine go_iload_n 2 6 dX9_line_5 rfl rfl ?_
  refine go_bipush 6 8 dX9_line_6 rfl (by decide) ?_
  refine go_ishl 9 dX9_line_8 rfl ?_
  refine go_ior 10 dX9_line_9 rfl ?_
  exact go_iret rfl dX9_line_10
theorem m_X9_line {l : Launch} {G : mG} {sk : List mS} (w : Nat) (x0 : Int32) (x1 : Int32) (x2 : Int32) (M : mM) : Mt l G sk yX9_line muX9_line 0 [.int x0, .int x1, .int x2] M eI (f_X9_line w x0 x1 x2 M) := Mt.of (by decide) rfl (Nat.le_of_ble_eq_true rfl) (s_X9_line w x0 x1 x2 M)
theorem dX9_followLine_0 : decode cX9_followLine 0 = .ok (.iload_n 1, 1) := by decide +kernel
theorem dX9_followLine_1 : decode cX9_followLine 1 = .ok (.iconst 3, 1) := by decide +kernel
theorem dX9_followLine_2 : decode cX9_followLine 2 = .ok (.ishr, 1) := by decide +kernel
theorem dX9_followLine_3 : decode cX9_followLine 3 = .ok (.bipush 7, 2) := by decide +kernel
theorem dX9_followLine_5 : decode cX9_followLine 5 = .ok (.iand, 1) := by decide +kernel
theorem dX9_followLine_6 : decode cX9_followLine 6 = .ok (.istore_n 2, 1) := by decide +kernel
theorem dX9_followLine_7 : decode cX9_followLine 7 = .ok (.iload_n 1, 1) := by decide +kernel
theorem dX9_followLine_8 : decode cX9_followLine 8 = .ok (.bipush 7, 2) := by decide +kernel
theorem dX9_followLine_10 : decode cX9_followLine 10 = .ok (.iand, 1) := by decide +kernel
theorem dX9_followLine_11 : decode cX9_followLine 11 = .ok (.tableswitch 57 1 4 #[29, 39, 45, 51], 29) := by decide +kernel
theorem dX9_followLine_40 : decode cX9_followLine 40 = .ok (.aload_n 0, 1) := by decide +kernel
theorem dX9_followLine_41 : decode cX9_followLine 41 = .ok (.iload_n 1, 1) := by decide +kernel
theorem dX9_followLine_42 : decode cX9_followLine 42 = .ok (.bipush 6, 2) := by decide +kernel
theorem dX9_followLine_44 : decode cX9_followLine 44 = .ok (.ishr, 1) := by decide +kernel
theorem dX9_followLine_45 : decode cX9_followLine 45 = .ok (.iload_n 2, 1) := by decide +kernel
theorem dX9_followLine_46 : decode cX9_followLine 46 = .ok (.invokevirtual 128, 3) := by decide +kernel
theorem dX9_followLine_49 : decode cX9_followLine 49 = .ok (.ireturn, 1) := by decide +kernel
theorem dX9_followLine_50 : decode cX9_followLine 50 = .ok (.aload_n 0, 1) := by decide +kernel
theorem dX9_followLine_51 : decode cX9_followLine 51 = .ok (.iload_n 2, 1) := by decide +kernel
theorem dX9_followLine_52 : decode cX9_followLine 52 = .ok (.invokevirtual 131, 3) := by decide +kernel
theorem dX9_followLine_55 : decode cX9_followLine 55 = .ok (.ireturn, 1) := by decide +kernel
theorem dX9_followLine_56 : decode cX9_followLine 56 = .ok (.aload_n 0, 1) := by decide +kernel
theorem dX9_followLine_57 : decode cX9_followLine 57 = .ok (.iload_n 2, 1) := by decide +kernel
theorem dX9_followLine_58 : decode cX9_followLine 58 = .ok (.invokevirtual 134, 3) := by decide +kernel
theorem dX9_followLine_61 : decode cX9_followLine 61 = .ok (.ireturn, 1) := by decide +kernel
theorem dX9_followLine_62 : decode cX9_followLine 62 = .ok (.aload_n 0, 1) := by decide +kernel
theorem dX9_followLine_63 : decode cX9_followLine 63 = .ok (.iload_n 2, 1) := by decide +kernel
theorem dX9_followLine_64 : decode cX9_followLine 64 = .ok (.invokevirtual 137, 3) := by decide +kernel
theorem dX9_followLine_67 : decode cX9_followLine 67 = .ok (.ireturn, 1) := by decide +kernel
theorem dX9_followLine_68 : decode cX9_followLine 68 = .ok (.aload_n 0, 1) := by decide +kernel
theorem dX9_followLine_69 : decode cX9_followLine 69 = .ok (.invokevirtual 140, 3) := by decide +kernel
theorem dX9_followLine_72 : decode cX9_followLine 72 = .ok (.iconst 1, 1) := by decide +kernel
theorem dX9_followLine_73 : decode cX9_followLine 73 = .ok (.ireturn, 1) := by decide +kernel
def f_X9_followLine (w : Nat) (o0 : Nat) (x1 : Int32) (M : mM) : Option (Int32 × mM) := lt ((x1 >>> ((3 : Int32) &&& 31)) &&& 7) fun y1 => (if (x1 &&& 7).toInt < 1 ∨ 4 < (x1 &&& 7).toInt then bV (f_X9_passDay w o0 M) fun M2 => rtB 1 M2 else (fun z : Int => if z = 1 then bI (f_X9_walkIfCan w o0 (x1 >>> ((6 : Int32) &&& 31)) y1 M) fun q4 M3 => rtB q4 M3 else if z = 2 then bI (f_X9_planeIfCan w o0 y1 M) fun q6 M5 => rtB q6 M5 else if z = 3 then bI (f_X9_wedgeIfCan w o0 y1 M) fun q8 M7 => rtB q8 M7 else bI (f_X9_forceIfCan w o0 y1 M) fun q10 M9 => rtB q10 M9) (x1 &&& 7).toInt)
set_option maxHeartbeats 4000000 in
set_option maxRecDepth 100000 in
theorem s_X9_followLine {l : Launch} {G : mG} {sk : List mS} (w : Nat) (o0 : Nat) (h0 : isK o0 19) (x1 : Int32) (M : mM) : Go muX9_followLine (rm 4) 0 0 l G sk (mFin G sk eI) (f_X9_followLine w o0 x1 M) 0 [(0, .ref (gB G + o0)), (1, .int x1)] [] M := by
  unfold f_X9_followLine
  refine go_iload_n 1 1 dX9_followLine_0 rfl rfl ?_
  refine go_iconst 3 2 dX9_followLine_1 rfl (by decide) ?_
  refine go_ishr 3 dX9_followLine_2 rfl ?_
  refine go_bipush 7 5 dX9_followLine_3 rfl (by decide) ?_
  refine go_iand 6 dX9_followLine_5 rfl ?_
  refine go_nmI (fun y1 => ?_)
  refine go_istore_n [(2, .int y1), (0, .ref (gB G + o0)), (1, .int x1)] 7 dX9_followLine_6 rfl rfl (by decide) rfl ?_
  refine go_iload_n 2 8 dX9_followLine_7 rfl rfl ?_
  refine go_bipush 7 10 dX9_followLine_8 rfl (by decide) ?_
  refine go_iand 11 dX9_followLine_10 rfl ?_
  refine go_tsw (dflt := 57) (lo := 1) (hi := 4) (offs := #[29, 39, 45, 51]) (len := 29) ?_ (fun z : Int => if z = 1 then bI (f_X9_walkIfCan w o0 (x1 >>> ((6 : Int32) &&& 31)) y1 M) fun q4 M3 => rtB q4 M3 else if z = 2 then bI (f_X9_planeIfCan w o0 y1 M) fun q6 M5 => rtB q6 M5 else if z = 3 then bI (f_X9_wedgeIfCan w o0 y1 M) fun q8 M7 => rtB q8 M7 else bI (f_X9_forceIfCan w o0 y1 M) fun q10 M9 => rtB q10 M9) (bV (f_X9_passDay w o0 M) fun M2 => rtB 1 M2) 68 (by decide) (fun _ => ?_) (fun g1 g2 => ?_)
  · exact dX9_followLine_11
  · refine go_aload_n 1 69 dX9_followLine_68 rfl rfl ?_
    refine go_cVV0 3 clX9 cwX9_140 (m_X9_passDay w o0 h0 M) h0 72 dX9_followLine_69 rfl ⟨Nat.le_of_ble_eq_true rfl, Nat.le_of_ble_eq_true rfl⟩ ⟨Nat.zero_le _, Nat.zero_le _⟩ (Nat.le_of_ble_eq_true rfl) (fun M2 _ => ?_)
    refine go_iconst 1 73 dX9_followLine_72 rfl (by decide) ?_
    exact go_zret rfl dX9_followLine_73
  · rcases (show (x1 &&& 7).toInt = 1 ∨ (x1 &&& 7).toInt = 2 ∨ (x1 &&& 7).toInt = 3 ∨ (x1 &&& 7).toInt = 4 by omega) with g | g | g | g
    · refine ⟨29, 40, by rw [g]; rfl, by decide, ?_⟩
      rw [g]
      simp only [if_pos, reduceIte, Int.reduceEq, Int.reduceNeg]
      refine go_aload_n 1 41 dX9_followLine_40 rfl rfl ?_
      refine go_iload_n 2 42 dX9_followLine_41 rfl rfl ?_
      refine go_bipush 6 44 dX9_followLine_42 rfl (by decide) ?_
      refine go_ishr 45 dX9_followLine_44 rfl ?_
      refine go_iload_n 0 46 dX9_followLine_45 rfl rfl ?_
      refine go_cVI2 3 clX9 cwX9_128 (m_X9_walkIfCan w o0 h0 (x1 >>> ((6 : Int32) &&& 31)) y1 M) h0 49 dX9_followLine_46 rfl ⟨Nat.le_of_ble_eq_true rfl, Nat.le_of_ble_eq_true rfl⟩ ⟨Nat.zero_le _, Nat.zero_le _⟩ (Nat.le_of_ble_eq_true rfl) (fun q4 M3 _ => ?_)
      exact go_zret rfl dX9_followLine_49
    · refine ⟨39, 50, by rw [g]; rfl, by decide, ?_⟩
      rw [g]
      simp only [if_pos, reduceIte, Int.reduceEq, Int.reduceNeg]
      refine go_aload_n 1 51 dX9_followLine_50 rfl rfl ?_
      refine go_iload_n 0 52 dX9_followLine_51 rfl rfl ?_
      refine go_cVI1 2 clX9 cwX9_131 (m_X9_planeIfCan w o0 h0 y1 M) h0 55 dX9_followLine_52 rfl ⟨Nat.le_of_ble_eq_true rfl, Nat.le_of_ble_eq_true rfl⟩ ⟨Nat.zero_le _, Nat.zero_le _⟩ (Nat.le_of_ble_eq_true rfl) (fun q6 M5 _ => ?_)
      exact go_zret rfl dX9_followLine_55
    · refine ⟨45, 56, by rw [g]; rfl, by decide, ?_⟩
      rw [g]
      simp only [if_pos, reduceIte, Int.reduceEq, Int.reduceNeg]
      refine go_aload_n 1 57 dX9_followLine_56 rfl rfl ?_
      refine go_iload_n 0 58 dX9_followLine_57 rfl rfl ?_
      refine go_cVI1 3 clX9 cwX9_134 (m_X9_wedgeIfCan w o0 h0 y1 M) h0 61 dX9_followLine_58 rfl ⟨Nat.le_of_ble_eq_true rfl, Nat.le_of_ble_eq_true rfl⟩ ⟨Nat.zero_le _, Nat.zero_le _⟩ (Nat.le_of_ble_eq_true rfl) (fun q8 M7 _ => ?_)
      exact go_zret rfl dX9_followLine_61
    · refine ⟨51, 62, by rw [g]; rfl, by decide, ?_⟩
      rw [g]
      simp only [if_pos, reduceIte, Int.reduceEq, Int.reduceNeg]
      refine go_aload_n 1 63 dX9_followLine_62 rfl rfl ?_
      refine go_iload_n 0 64 dX9_followLine_63 rfl rfl ?_
      refine go_cVI1 3 clX9 cwX9_137 (m_X9_forceIfCan w o0 h0 y1 M) h0 67 dX9_followLine_64 rfl ⟨Nat.le_of_ble_eq_true rfl, Nat.le_of_ble_eq_true rfl⟩ ⟨Nat.zero_le _, Nat.zero_le _⟩ (Nat.le_of_ble_eq_true rfl) (fun q10 M9 _ => ?_)
      exact go_zret rfl dX9_followLine_67
theorem m_X9_followLine {l : Launch} {G : mG} {sk : List mS} (w : Nat) (o0 : Nat) (h0 : isK o0 19) (x1 : Int32) (M : mM) : Mt l G sk yX9_followLine muX9_followLine 4 [.ref (gB G + o0), .int x1] M eI (f_X9_followLine w o0 x1 M) := Mt.of (by decide) rfl (Nat.le_of_ble_eq_true rfl) (s_X9_followLine w o0 h0 x1 M)
