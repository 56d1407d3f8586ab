theorem dX8_addFelt_0 : decode cX8_addFelt 0 = .ok (.aload_n 0, 1) := by decide +kernel
theorem dX8_addFelt_1 : decode cX8_addFelt 1 = .ok (.getfield 28, 3) := by decide +kernel
theorem dX8_addFelt_4 : decode cX8_addFelt 4 = .ok (.bipush 8, 2) := by decide +kernel
theorem dX8_addFelt_6 : decode cX8_addFelt 6 = .ok (.if_icmp .lt 5, 3) := by decide +kernel
theorem dX8_addFelt_9 : decode cX8_addFelt 9 = .ok (.iconst 0, 1) := by decide +kernel
theorem dX8_addFelt_10 : decode cX8_addFelt 10 = .ok (.ireturn, 1) := by decide +kernel
theorem dX8_addFelt_11 : decode cX8_addFelt 11 = .ok (.aload_n 0, 1) := by decide +kernel
theorem dX8_addFelt_12 : decode cX8_addFelt 12 = .ok (.getfield 9, 3) := by decide +kernel
theorem dX8_addFelt_15 : decode cX8_addFelt 15 = .ok (.aload_n 0, 1) := by decide +kernel
theorem dX8_addFelt_16 : decode cX8_addFelt 16 = .ok (.getfield 28, 3) := by decide +kernel
theorem dX8_addFelt_19 : decode cX8_addFelt 19 = .ok (.iload_n 1, 1) := by decide +kernel
theorem dX8_addFelt_20 : decode cX8_addFelt 20 = .ok (.iastore, 1) := by decide +kernel
theorem dX8_addFelt_21 : decode cX8_addFelt 21 = .ok (.aload_n 0, 1) := by decide +kernel
theorem dX8_addFelt_22 : decode cX8_addFelt 22 = .ok (.getfield 15, 3) := by decide +kernel
theorem dX8_addFelt_25 : decode cX8_addFelt 25 = .ok (.aload_n 0, 1) := by decide +kernel
theorem dX8_addFelt_26 : decode cX8_addFelt 26 = .ok (.getfield 28, 3) := by decide +kernel
theorem dX8_addFelt_29 : decode cX8_addFelt 29 = .ok (.iload_n 2, 1) := by decide +kernel
theorem dX8_addFelt_30 : decode cX8_addFelt 30 = .ok (.iastore, 1) := by decide +kernel
theorem dX8_addFelt_31 : decode cX8_addFelt 31 = .ok (.aload_n 0, 1) := by decide +kernel
theorem dX8_addFelt_32 : decode cX8_addFelt 32 = .ok (.getfield 18, 3) := by decide +kernel
theorem dX8_addFelt_35 : decode cX8_addFelt 35 = .ok (.aload_n 0, 1) := by decide +kernel
theorem dX8_addFelt_36 : decode cX8_addFelt 36 = .ok (.getfield 28, 3) := by decide +kernel
theorem dX8_addFelt_39 : decode cX8_addFelt 39 = .ok (.iload_n 3, 1) := by decide +kernel
theorem dX8_addFelt_40 : decode cX8_addFelt 40 = .ok (.bastore, 1) := by decide +kernel
theorem dX8_addFelt_41 : decode cX8_addFelt 41 = .ok (.aload_n 0, 1) := by decide +kernel
theorem dX8_addFelt_42 : decode cX8_addFelt 42 = .ok (.dup, 1) := by decide +kernel
theorem dX8_addFelt_43 : decode cX8_addFelt 43 = .ok (.getfield 28, 3) := by decide +kernel
theorem dX8_addFelt_46 : decode cX8_addFelt 46 = .ok (.iconst 1, 1) := by decide +kernel
theorem dX8_addFelt_47 : decode cX8_addFelt 47 = .ok (.iadd, 1) := by decide +kernel
theorem dX8_addFelt_48 : decode cX8_addFelt 48 = .ok (.putfield 28, 3) := by decide +kernel
theorem dX8_addFelt_51 : decode cX8_addFelt 51 = .ok (.iconst 1, 1) := by decide +kernel
theorem dX8_addFelt_52 : decode cX8_addFelt 52 = .ok (.ireturn, 1) := by decide +kernel
def f_X8_addFelt (w : Nat) (o0 : Nat) (x1 : Int32) (x2 : Int32) (x3 : Int32) (M : mM) : Option (Int32 × mM) := (if (M.1 o0 0) < 8 then chk (M.1 o0 0) (sL (rF o0 2)) (lt (wI M (rF o0 2) (M.1 o0 0).toNatClampNeg x1) fun M1 => chk (M1.1 o0 0) (sL (rF o0 3)) (lt (wI M1 (rF o0 3) (M1.1 o0 0).toNatClampNeg x2) fun M2 => chk (M2.1 o0 0) (sL (rF o0 4)) (lt (wI M2 (rF o0 4) (M2.1 o0 0).toNatClampNeg (vp_nar .boolean x3)) fun M3 => lt (wI M3 o0 0 ((M3.1 o0 0) + 1)) fun M4 => rtB 1 M4))) else rtB 0 M)
set_option maxHeartbeats 4000000 in
set_option maxRecDepth 100000 in
theorem s_X8_addFelt {l : Launch} {G : mG} {sk : List mS} (w : Nat) (o0 : Nat) (h0 : isK o0 18) (x1 : Int32) (x2 : Int32) (x3 : Int32) (M : mM) : Go muX8_addFelt (rm 0) 0 0 l G sk (mFin G sk eI) (f_X8_addFelt w o0 x1 x2 x3 M) 0 [(0, .ref (gB G + o0)), (1, .int x1), (2, .int x2), (3, .int x3)] [] M := by
  unfold f_X8_addFelt
  refine go_aload_n 0 1 dX8_addFelt_0 rfl rfl ?_
  refine go_getI flX8_28 (by decide) h0 4 dX8_addFelt_1 rfl ?_
  refine go_bipush 8 6 dX8_addFelt_4 rfl (by decide) ?_
  refine go_icmp_lt 11 9 dX8_addFelt_6 rfl (by decide) (fun _ => ?_) (fun _ => ?_)
  · refine go_aload_n 0 12 dX8_addFelt_11 rfl rfl ?_
    refine go_getR flX8_9 h0 15 dX8_addFelt_12 rfl ?_
    refine go_aload_n 0 16 dX8_addFelt_15 rfl rfl ?_
    refine go_getI flX8_28 (by decide) h0 19 dX8_addFelt_16 rfl ?_
    refine go_iload_n 1 20 dX8_addFelt_19 rfl rfl ?_
    refine go_iast (rk8_2 h0) 21 dX8_addFelt_20 rfl ?_
    refine go_nmM (fun M1 => ?_)
    refine go_aload_n 0 22 dX8_addFelt_21 rfl rfl ?_
    refine go_getR flX8_15 h0 25 dX8_addFelt_22 rfl ?_
    refine go_aload_n 0 26 dX8_addFelt_25 rfl rfl ?_
    refine go_getI flX8_28 (by decide) h0 29 dX8_addFelt_26 rfl ?_
    refine go_iload_n 2 30 dX8_addFelt_29 rfl rfl ?_
    refine go_iast (rk8_3 h0) 31 dX8_addFelt_30 rfl ?_
    refine go_nmM (fun M2 => ?_)
    refine go_aload_n 0 32 dX8_addFelt_31 rfl rfl ?_
    refine go_getR flX8_18 h0 35 dX8_addFelt_32 rfl ?_
    refine go_aload_n 0 36 dX8_addFelt_35 rfl rfl ?_
    refine go_getI flX8_28 (by decide) h0 39 dX8_addFelt_36 rfl ?_
    refine go_iload_n 3 40 dX8_addFelt_39 rfl rfl ?_
    refine go_zast (rk8_4 h0) 41 dX8_addFelt_40 rfl ?_
    refine go_nmM (fun M3 => ?_)
    refine go_aload_n 0 42 dX8_addFelt_41 rfl rfl ?_
    refine go_dup 43 dX8_addFelt_42 rfl rfl ?_
    refine go_getI flX8_28 (by decide) h0 46 dX8_addFelt_43 rfl ?_
    refine go_iconst 1 47 dX8_addFelt_46 rfl (by decide) ?_
    refine go_iadd 48 dX8_addFelt_47 rfl ?_
    refine go_putI flX8_28 rfl rfl h0 51 dX8_addFelt_48 rfl ?_
    refine go_nmM (fun M4 => ?_)
    refine go_iconst 1 52 dX8_addFelt_51 rfl (by decide) ?_
    exact go_zret rfl dX8_addFelt_52
  · refine go_iconst 0 10 dX8_addFelt_9 rfl (by decide) ?_
    exact go_zret rfl dX8_addFelt_10
theorem m_X8_addFelt {l : Launch} {G : mG} {sk : List mS} (w : Nat) (o0 : Nat) (h0 : isK o0 18) (x1 : Int32) (x2 : Int32) (x3 : Int32) (M : mM) : Mt l G sk yX8_addFelt muX8_addFelt 0 [.ref (gB G + o0), .int x1, .int x2, .int x3] M eI (f_X8_addFelt w o0 x1 x2 x3 M) := Mt.of (by decide) rfl (Nat.le_of_ble_eq_true rfl) (s_X8_addFelt w o0 h0 x1 x2 x3 M)
theorem dX8_addSaid_0 : decode cX8_addSaid 0 = .ok (.aload_n 0, 1) := by decide +kernel
theorem dX8_addSaid_1 : decode cX8_addSaid 1 = .ok (.getfield 32, 3) := by decide +kernel
theorem dX8_addSaid_4 : decode cX8_addSaid 4 = .ok (.bipush 8, 2) := by decide +kernel
theorem dX8_addSaid_6 : decode cX8_addSaid 6 = .ok (.if_icmp .lt 5, 3) := by decide +kernel
theorem dX8_addSaid_9 : decode cX8_addSaid 9 = .ok (.iconst 0, 1) := by decide +kernel
theorem dX8_addSaid_10 : decode cX8_addSaid 10 = .ok (.ireturn, 1) := by decide +kernel
theorem dX8_addSaid_11 : decode cX8_addSaid 11 = .ok (.aload_n 0, 1) := by decide +kernel
theorem dX8_addSaid_12 : decode cX8_addSaid 12 = .ok (.getfield 22, 3) := by decide +kernel
theorem dX8_addSaid_15 : decode cX8_addSaid 15 = .ok (.aload_n 0, 1) := by decide +kernel
theorem dX8_addSaid_16 : decode cX8_addSaid 16 = .ok (.getfield 32, 3) := by decide +kernel
theorem dX8_addSaid_19 : decode cX8_addSaid 19 = .ok (.iload_n 1, 1) := by decide +kernel
theorem dX8_addSaid_20 : decode cX8_addSaid 20 = .ok (.iastore, 1) := by decide +kernel
theorem dX8_addSaid_21 : decode cX8_addSaid 21 = .ok (.aload_n 0, 1) := by decide +kernel
theorem dX8_addSaid_22 : decode cX8_addSaid 22 = .ok (.getfield 25, 3) := by decide +kernel
theorem dX8_addSaid_25 : decode cX8_addSaid 25 = .ok (.aload_n 0, 1) := by decide +kernel
theorem dX8_addSaid_26 : decode cX8_addSaid 26 = .ok (.getfield 32, 3) := by decide +kernel
theorem dX8_addSaid_29 : decode cX8_addSaid 29 = .ok (.iload_n 2, 1) := by decide +kernel
theorem dX8_addSaid_30 : decode cX8_addSaid 30 = .ok (.iastore, 1) := by decide +kernel
theorem dX8_addSaid_31 : decode cX8_addSaid 31 = .ok (.aload_n 0, 1) := by decide +kernel
theorem dX8_addSaid_32 : decode cX8_addSaid 32 = .ok (.dup, 1) := by decide +kernel
theorem dX8_addSaid_33 : decode cX8_addSaid 33 = .ok (.getfield 32, 3) := by decide +kernel
theorem dX8_addSaid_36 : decode cX8_addSaid 36 = .ok (.iconst 1, 1) := by decide +kernel
theorem dX8_addSaid_37 : decode cX8_addSaid 37 = .ok (.iadd, 1) := by decide +kernel
theorem dX8_addSaid_38 : decode cX8_addSaid 38 = .ok (.putfield 32, 3) := by decide +kernel
theorem dX8_addSaid_41 : decode cX8_addSaid 41 = .ok (.iconst 1, 1) := by decide +kernel
theorem dX8_addSaid_42 : decode cX8_addSaid 42 = .ok (.ireturn, 1) := by decide +kernel
def f_X8_addSaid (w : Nat) (o0 : Nat) (x1 : Int32) (x2 : Int32) (M : mM) : Option (Int32 × mM) := (if (M.1 o0 1) < 8 then chk (M.1 o0 1) (sL (rF o0 5)) (lt (wI M (rF o0 5) (M.1 o0 1).toNatClampNeg x1) fun M1 => chk (M1.1 o0 1) (sL (rF o0 6)) (lt (wI M1 (rF o0 6) (M1.1 o0 1).toNatClampNeg x2) fun M2 => lt (wI M2 o0 1 ((M2.1 o0 1) + 1)) fun M3 => rtB 1 M3)) else rtB 0 M)
set_option maxHeartbeats 4000000 in
set_option maxRecDepth 100000 in
theorem s_X8_addSaid {l : Launch} {G : mG} {sk : List mS} (w : Nat) (o0 : Nat) (h0 : isK o0 18) (x1 : Int32) (x2 : Int32) (M : mM) : Go muX8_addSaid (rm 0) 0 0 l G sk (mFin G sk eI) (f_X8_addSaid w o0 x1 x2 M) 0 [(0, .ref (gB G + o0)), (1, .int x1), (2, .int x2)] [] M := by
  unfold f_X8_addSaid
  refine go_aload_n 0 1 dX8_addSaid_0 rfl rfl ?_
  refine go_getI flX8_32 (by decide) h0 4 dX8_addSaid_1 rfl ?_
  refine go_bipush 8 6 dX8_addSaid_4 rfl (by decide) ?_
  refine go_icmp_lt 11 9 dX8_addSaid_6 rfl (by decide) (fun _ => ?_) (fun _ => ?_)
  · refine go_aload_n 0 12 dX8_addSaid_11 rfl rfl ?_
    refine go_getR flX8_22 h0 15 dX8_addSaid_12 rfl ?_
    refine go_aload_n 0 16 dX8_addSaid_15 rfl rfl ?_
    refine go_getI flX8_32 (by decide) h0 19 dX8_addSaid_16 rfl ?_
    refine go_iload_n 1 20 dX8_addSaid_19 rfl rfl ?_
    refine go_iast (rk8_5 h0) 21 dX8_addSaid_20 rfl ?_
    refine go_nmM (fun M1 => ?_)
    refine go_aload_n 0 22 dX8_addSaid_21 rfl rfl ?_
    refine go_getR flX8_25 h0 25 dX8_addSaid_22 rfl ?_
    refine go_aload_n 0 26 dX8_addSaid_25 rfl rfl ?_
    refine go_getI flX8_32 (by decide) h0 29 dX8_addSaid_26 rfl ?_
    refine go_iload_n 2 30 dX8_addSaid_29 rfl rfl ?_
    refine go_iast (rk8_6 h0) 31 dX8_addSaid_30 rfl ?_
    refine go_nmM (fun M2 => ?_)
    refine go_aload_n 0 32 dX8_addSaid_31 rfl rfl ?_
    refine go_dup 33 dX8_addSaid_32 rfl rfl ?_
    refine go_getI flX8_32 (by decide) h0 36 dX8_addSaid_33 rfl ?_
    refine go_iconst 1 37 dX8_addSaid_36 rfl (by decide) ?_
    refine go_iadd 38 dX8_addSaid_37 rfl ?_
    refine go_putI flX8_32 rfl rfl h0 41 dX8_addSaid_38 rfl ?_
    refine go_nmM (fun M3 => ?_)
    refine go_iconst 1 42 dX8_addSaid_41 rfl (by decide) ?_
    exact go_zret rfl dX8_addSaid_42
  · refine go_iconst 0 10 dX8_addSaid_9 rfl (by decide) ?_
    exact go_zret rfl dX8_addSaid_10
theorem m_X8_addSaid {l : Launch} {G : mG} {sk : List mS} (w : Nat) (o0 : Nat) (h0 : isK o0 18) (x1 : Int32) (x2 : Int32) (M : mM) : Mt l G sk yX8_addSaid muX8_addSaid 0 [.ref (gB G + o0), .int x1, .int x2] M eI (f_X8_addSaid w o0 x1 x2 M) := Mt.of (by decide) rfl (Nat.le_of_ble_eq_true rfl) (s_X8_addSaid w o0 h0 x1 x2 M)
theorem dX8_copyFrom_0 : decode cX8_copyFrom 0 = .ok (.aload_n 0, 1) := by decide +kernel
theorem dX8_copyFrom_1 : decode cX8_copyFrom 1 = .ok (.iconst 0, 1) := by decide +kernel
theorem dX8_copyFrom_2 : decode cX8_copyFrom 2 = .ok (.putfield 28, 3) := by decide +kernel
theorem dX8_copyFrom_5 : decode cX8_copyFrom 5 = .ok (.iconst 0, 1) := by decide +kernel
theorem dX8_copyFrom_6 : decode cX8_copyFrom 6 = .ok (.istore_n 2, 1) := by decide +kernel
theorem dX8_copyFrom_7 : decode cX8_copyFrom 7 = .ok (.iload_n 2, 1) := by decide +kernel
theorem dX8_copyFrom_8 : decode cX8_copyFrom 8 = .ok (.aload_n 1, 1) := by decide +kernel
theorem dX8_copyFrom_9 : decode cX8_copyFrom 9 = .ok (.getfield 28, 3) := by decide +kernel
theorem dX8_copyFrom_12 : decode cX8_copyFrom 12 = .ok (.if_icmp .ge 32, 3) := by decide +kernel
theorem dX8_copyFrom_15 : decode cX8_copyFrom 15 = .ok (.aload_n 0, 1) := by decide +kernel
theorem dX8_copyFrom_16 : decode cX8_copyFrom 16 = .ok (.aload_n 1, 1) := by decide +kernel
theorem dX8_copyFrom_17 : decode cX8_copyFrom 17 = .ok (.getfield 9, 3) := by decide +kernel
theorem dX8_copyFrom_20 : decode cX8_copyFrom 20 = .ok (.iload_n 2, 1) := by decide +kernel
theorem dX8_copyFrom_21 : decode cX8_copyFrom 21 = .ok (.iaload, 1) := by decide +kernel
theorem dX8_copyFrom_22 : decode cX8_copyFrom 22 = .ok (.aload_n 1, 1) := by decide +kernel
theorem dX8_copyFrom_23 : decode cX8_copyFrom 23 = .ok (.getfield 15, 3) := by decide +kernel
theorem dX8_copyFrom_26 : decode cX8_copyFrom 26 = .ok (.iload_n 2, 1) := by decide +kernel
theorem dX8_copyFrom_27 : decode cX8_copyFrom 27 = .ok (.iaload, 1) := by decide +kernel
theorem dX8_copyFrom_28 : decode cX8_copyFrom 28 = .ok (.aload_n 1, 1) := by decide +kernel
theorem dX8_copyFrom_29 : decode cX8_copyFrom 29 = .ok (.getfield 18, 3) := by decide +kernel
theorem dX8_copyFrom_32 : decode cX8_copyFrom 32 = .ok (.iload_n 2, 1) := by decide +kernel
theorem dX8_copyFrom_33 : decode cX8_copyFrom 33 = .ok (.baload, 1) := by decide +kernel
theorem dX8_copyFrom_34 : decode cX8_copyFrom 34 = .ok (.invokevirtual 35, 3) := by decide +kernel
theorem dX8_copyFrom_37 : decode cX8_copyFrom 37 = .ok (.pop, 1) := by decide +kernel
theorem dX8_copyFrom_38 : decode cX8_copyFrom 38 = .ok (.iinc 2 1, 3) := by decide +kernel
theorem dX8_copyFrom_41 : decode cX8_copyFrom 41 = .ok (.goto (-34), 3) := by decide +kernel
theorem dX8_copyFrom_44 : decode cX8_copyFrom 44 = .ok (.aload_n 0, 1) := by decide +kernel
theorem dX8_copyFrom_45 : decode cX8_copyFrom 45 = .ok (.iconst 0, 1) := by decide +kernel
theorem dX8_copyFrom_46 : decode cX8_copyFrom 46 = .ok (.putfield 32, 3) := by decide +kernel
theorem dX8_copyFrom_49 : decode cX8_copyFrom 49 = .ok (.iconst 0, 1) := by decide +kernel
theorem dX8_copyFrom_50 : decode cX8_copyFrom 50 = .ok (.istore_n 2, 1) := by decide +kernel
theorem dX8_copyFrom_51 : decode cX8_copyFrom 51 = .ok (.iload_n 2, 1) := by decide +kernel
theorem dX8_copyFrom_52 : decode cX8_copyFrom 52 = .ok (.aload_n 1, 1) := by decide +kernel
theorem dX8_copyFrom_53 : decode cX8_copyFrom 53 = .ok (.getfield 32, 3) := by decide +kernel
theorem dX8_copyFrom_56 : decode cX8_copyFrom 56 = .ok (.if_icmp .ge 26, 3) := by decide +kernel
theorem dX8_copyFrom_59 : decode cX8_copyFrom 59 = .ok (.aload_n 0, 1) := by decide +kernel
theorem dX8_copyFrom_60 : decode cX8_copyFrom 60 = .ok (.aload_n 1, 1) := by decide +kernel
theorem dX8_copyFrom_61 : decode cX8_copyFrom 61 = .ok (.getfield 22, 3) := by decide +kernel
theorem dX8_copyFrom_64 : decode cX8_copyFrom 64 = .ok (.iload_n 2, 1) := by decide +kernel
theorem dX8_copyFrom_65 : decode cX8_copyFrom 65 = .ok (.iaload, 1) := by decide +kernel
theorem dX8_copyFrom_66 : decode cX8_copyFrom 66 = .ok (.aload_n 1, 1) := by decide +kernel
theorem dX8_copyFrom_67 : decode cX8_copyFrom 67 = .ok (.getfield 25, 3) := by decide +kernel
theorem dX8_copyFrom_70 : decode cX8_copyFrom 70 = .ok (.iload_n 2, 1) := by decide +kernel
theorem dX8_copyFrom_71 : decode cX8_copyFrom 71 = .ok (.iaload, 1) := by decide +kernel
theorem dX8_copyFrom_72 : decode cX8_copyFrom 72 = .ok (.invokevirtual 39, 3) := by decide +kernel
theorem dX8_copyFrom_75 : decode cX8_copyFrom 75 = .ok (.pop, 1) := by decide +kernel
theorem dX8_copyFrom_76 : decode cX8_copyFrom 76 = .ok (.iinc 2 1, 3) := by decide +kernel
theorem dX8_copyFrom_79 : decode cX8_copyFrom 79 = .ok (.goto (-28), 3) := by decide +kernel
theorem dX8_copyFrom_82 : decode cX8_copyFrom 82 = .ok (.return_, 1) := by decide +kernel
def f_X8_copyFrom_51 (w : Nat) : Nat → Nat → Nat → Int32 → mM → Option mM
  | 0, _, _, _, _ => none
  | n + 1, o0, o1, x2, M => (if (M.1 o1 1) ≤ x2 then some M else chk x2 (sL (rF o1 5)) (chk x2 (sL (rF o1 6)) (bI (f_X8_addSaid w o0 (M.1 (rF o1 5) x2.toNatClampNeg) (M.1 (rF o1 6) x2.toNatClampNeg) M) fun q2 M1 => (f_X8_copyFrom_51 w n o0 o1 (x2 + 1) M1))))
set_option maxHeartbeats 4000000 in
set_option maxRecDepth 100000 in
theorem s_X8_copyFrom_51 {l : Launch} {G : mG} {sk : List mS} (w : Nat) : ∀ (n : Nat) (o0 : Nat) (h0 : isK o0 18) (o1 : Nat) (h1 : isK o1 18) (x2 : Int32) (M : mM), Go muX8_copyFrom (rm 1) 0 0 l G sk (mFin G sk eV) (f_X8_copyFrom_51 w n o0 o1 x2 M) 51 [(0, .ref (gB G + o0)), (1, .ref (gB G + o1)), (2, .int x2)] [] M := by
  intro n
  induction n with
  | zero =>
    intros
    exact go_none
  | succ n ih =>
    intro o0 h0 o1 h1 x2 M
    rw [f_X8_copyFrom_51]
    refine go_iload_n 2 52 dX8_copyFrom_51 rfl rfl ?_
    refine go_aload_n 1 53 dX8_copyFrom_52 rfl rfl ?_
    refine go_getI flX8_32 (by decide) h1 56 dX8_copyFrom_53 rfl ?_
    refine go_icmp_ge 82 59 dX8_copyFrom_56 rfl (by decide) (fun _ => ?_) (fun _ => ?_)
    · exact go_vret rfl dX8_copyFrom_82
    · refine go_aload_n 0 60 dX8_copyFrom_59 rfl rfl ?_
      refine go_aload_n 1 61 dX8_copyFrom_60 rfl rfl ?_
      refine go_getR flX8_22 h1 64 dX8_copyFrom_61 rfl ?_
      refine go_iload_n 2 65 dX8_copyFrom_64 rfl rfl ?_
      refine go_iald (rk8_5 h1) 66 dX8_copyFrom_65 rfl ?_
      refine go_aload_n 1 67 dX8_copyFrom_66 rfl rfl ?_
      refine go_getR flX8_25 h1 70 dX8_copyFrom_67 rfl ?_
      refine go_iload_n 2 71 dX8_copyFrom_70 rfl rfl ?_
      refine go_iald (rk8_6 h1) 72 dX8_copyFrom_71 rfl ?_
      refine go_cVI2 0 clX8 cwX8_39 (m_X8_addSaid w o0 h0 (M.1 (rF o1 5) x2.toNatClampNeg) (M.1 (rF o1 6) x2.toNatClampNeg) M) h0 75 dX8_copyFrom_72 rfl ⟨Nat.le_of_ble_eq_true rfl, Nat.le_of_ble_eq_true rfl⟩ ⟨Nat.zero_le _, Nat.zero_le _⟩ (Nat.le_of_ble_eq_true rfl) (fun q2 M1 _ => ?_)
      refine go_pop 76 dX8_copyFrom_75 rfl rfl ?_
      refine go_iinc (x2 + 1) 2 [(2, .int (x2 + 1)), (0, .ref (gB G + o0)), (1, .ref (gB G + o1))] 79 dX8_copyFrom_76 rfl rfl rfl (by decide) rfl ?_
      refine go_goto 51 dX8_copyFrom_79 (by decide) ?_
      exact go_lv [1, 2, 0] rfl (ih o0 h0 o1 h1 (x2 + 1) M1)
def f_X8_copyFrom_44 (w : Nat) (o0 : Nat) (o1 : Nat) (M : mM) : Option mM := lt (wI M o0 1 0) fun M1 => (f_X8_copyFrom_51 w w o0 o1 0 M1)
set_option maxHeartbeats 4000000 in
set_option maxRecDepth 100000 in
theorem s_X8_copyFrom_44 {l : Launch} {G : mG} {sk : List mS} (w : Nat) (o0 : Nat) (h0 : isK o0 18) (o1 : Nat) (h1 : isK o1 18) (M : mM) : Go muX8_copyFrom (rm 1) 0 0 l G sk (mFin G sk eV) (f_X8_copyFrom_44 w o0 o1 M) 44 [(0, .ref (gB G + o0)), (1, .ref (gB G + o1))] [] M := by
  unfold f_X8_copyFrom_44
  refine go_aload_n 0 45 dX8_copyFrom_44 rfl rfl ?_
  refine go_iconst 0 46 dX8_copyFrom_45 rfl (by decide) ?_
  refine go_putI flX8_32 rfl rfl h0 49 dX8_copyFrom_46 rfl ?_
  refine go_nmM (fun M1 => ?_)
  refine go_iconst 0 50 dX8_copyFrom_49 rfl (by decide) ?_
  refine go_istore_n [(2, .int 0), (0, .ref (gB G + o0)), (1, .ref (gB G + o1))] 51 dX8_copyFrom_50 rfl rfl (by decide) rfl ?_
  exact go_lv [1, 2, 0] rfl (s_X8_copyFrom_51 w w o0 h0 o1 h1 0 M1)
def f_X8_copyFrom_7 (w : Nat) : Nat → Nat → Nat → Int32 → mM → Option mM
  | 0, _, _, _, _ => none
  | n + 1, o0, o1, x2, M => (if (M.1 o1 0) ≤ x2 then (f_X8_copyFrom_44 w o0 o1 M) else chk x2 (sL (rF o1 2)) (chk x2 (sL (rF o1 3)) (chk x2 (sL (rF o1 4)) (bI (f_X8_addFelt w o0 (M.1 (rF o1 2) x2.toNatClampNeg) (M.1 (rF o1 3) x2.toNatClampNeg) (M.1 (rF o1 4) x2.toNatClampNeg) M) fun q2 M1 => (f_X8_copyFrom_7 w n o0 o1 (x2 + 1) M1)))))
set_option maxHeartbeats 4000000 in
set_option maxRecDepth 100000 in
theorem s_X8_copyFrom_7 {l : Launch} {G : mG} {sk : List mS} (w : Nat) : ∀ (n : Nat) (o0 : Nat) (h0 : isK o0 18) (o1 : Nat) (h1 : isK o1 18) (x2 : Int32) (M : mM), Go muX8_copyFrom (rm 1) 0 0 l G sk (mFin G sk eV) (f_X8_copyFrom_7 w n o0 o1 x2 M) 7 [(0, .ref (gB G + o0)), (1, .ref (gB G + o1)), (2, .int x2)] [] M := by
  intro n
  induction n with
  | zero =>
    intros
    exact go_none
  | succ n ih =>
    intro o0 h0 o1 h1 x2 M
    rw [f_X8_copyFrom_7]
    refine go_iload_n 2 8 dX8_copyFrom_7 rfl rfl ?_
    refine go_aload_n 1 9 dX8_copyFrom_8 rfl rfl ?_
    refine go_getI flX8_28 (by decide) h1 12 dX8_copyFrom_9 rfl ?_
    refine go_icmp_ge 44 15 dX8_copyFrom_12 rfl (by decide) (fun _ => ?_) (fun _ => ?_)
    · exact go_lv [0, 1] rfl (s_X8_copyFrom_44 w o0 h0 o1 h1 M)
    · refine go_aload_n 0 16 dX8_copyFrom_15 rfl rfl ?_
      refine go_aload_n 1 17 dX8_copyFrom_16 rfl rfl ?_
      refine go_getR flX8_9 h1 20 dX8_copyFrom_17 rfl ?_
      refine go_iload_n 2 21 dX8_copyFrom_20 rfl rfl ?_
      refine go_iald (rk8_2 h1) 22 dX8_copyFrom_21 rfl ?_
      refine go_aload_n 1 23 dX8_copyFrom_22 rfl rfl ?_
      refine go_getR flX8_15 h1 26 dX8_copyFrom_23 rfl ?_
      refine go_iload_n 2 27 dX8_copyFrom_26 rfl rfl ?_
      refine go_iald (rk8_3 h1) 28 dX8_copyFrom_27 rfl ?_
      refine go_aload_n 1 29 dX8_copyFrom_28 rfl rfl ?_
      refine go_getR flX8_18 h1 32 dX8_copyFrom_29 rfl ?_
      refine go_iload_n 2 33 dX8_copyFrom_32 rfl rfl ?_
      refine go_zald (rk8_4 h1) 34 dX8_copyFrom_33 rfl ?_
      refine go_cVI3 0 clX8 cwX8_35 (m_X8_addFelt w o0 h0 (M.1 (rF o1 2) x2.toNatClampNeg) (M.1 (rF o1 3) x2.toNatClampNeg) (M.1 (rF o1 4) x2.toNatClampNeg) M) h0 37 dX8_copyFrom_34 rfl ⟨Nat.le_of_ble_eq_true rfl, Nat.le_of_ble_eq_true rfl⟩ ⟨Nat.zero_le _, Nat.zero_le _⟩ (Nat.le_of_ble_eq_true rfl) (fun q2 M1 _ => ?_)
      refine go_pop 38 dX8_copyFrom_37 rfl rfl ?_
      refine go_iinc (x2 + 1) 2 [(2, .int (x2 + 1)), (0, .ref (gB G + o0)), (1, .ref (gB G + o1))] 41 dX8_copyFrom_38 rfl rfl rfl (by decide) rfl ?_
      refine go_goto 7 dX8_copyFrom_41 (by decide) ?_
      exact go_lv [1, 2, 0] rfl (ih o0 h0 o1 h1 (x2 + 1) M1)
def f_X8_copyFrom (w : Nat) (o0 : Nat) (o1 : Nat) (M : mM) : Option mM := lt (wI M o0 0 0) fun M1 => (f_X8_copyFrom_7 w w o0 o1 0 M1)
set_option maxHeartbeats 4000000 in
set_option maxRecDepth 100000 in
theorem s_X8_copyFrom {l : Launch} {G : mG} {sk : List mS} (w : Nat) (o0 : Nat) (h0 : isK o0 18) (o1 : Nat) (h1 : isK o1 18) (M : mM) : Go muX8_copyFrom (rm 1) 0 0 l G sk (mFin G sk eV) (f_X8_copyFrom w o0 o1 M) 0 [(0, .ref (gB G + o0)), (1, .ref (gB G + o1))] [] M := by
  unfold f_X8_copyFrom
  refine go_aload_n 0 1 dX8_copyFrom_0 rfl rfl ?_
  refine go_iconst 0 2 dX8_copyFrom_1 rfl (by decide) ?_
  refine go_putI flX8_28 rfl rfl h0 5 dX8_copyFrom_2 rfl ?_
  refine go_nmM (fun M1 => ?_)
  refine go_iconst 0 6 dX8_copyFrom_5 rfl (by decide) ?_
  refine go_istore_n [(2, .int 0), (0, .ref (gB G + o0)), (1, .ref (gB G + o1))] 7 dX8_copyFrom_6 rfl rfl (by decide) rfl ?_
  exact go_lv [1, 2, 0] rfl (s_X8_copyFrom_7 w w o0 h0 o1 h1 0 M1)
theorem m_X8_copyFrom {l : Launch} {G : mG} {sk : List mS} (w : Nat) (o0 : Nat) (h0 : isK o0 18) (o1 : Nat) (h1 : isK o1 18) (M : mM) : Mt l G sk yX8_copyFrom muX8_copyFrom 1 [.ref (gB G + o0), .ref (gB G + o1)] M eV (f_X8_copyFrom w o0 o1 M) := Mt.of (by decide) rfl (Nat.le_of_ble_eq_true rfl) (s_X8_copyFrom w o0 h0 o1 h1 M)
