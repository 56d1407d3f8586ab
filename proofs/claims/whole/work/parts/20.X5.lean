theorem dX5_sticksAt_0 : decode cX5_sticksAt 0 = .ok (.iload_n 2, 1) := by decide +kernel
theorem dX5_sticksAt_1 : decode cX5_sticksAt 1 = .ok (.aload_n 0, 1) := by decide +kernel
theorem dX5_sticksAt_2 : decode cX5_sticksAt 2 = .ok (.getfield 21, 3) := by decide +kernel
theorem dX5_sticksAt_5 : decode cX5_sticksAt 5 = .ok (.getfield 60, 3) := by decide +kernel
theorem dX5_sticksAt_8 : decode cX5_sticksAt 8 = .ok (.iload_n 1, 1) := by decide +kernel
theorem dX5_sticksAt_9 : decode cX5_sticksAt 9 = .ok (.iaload, 1) := by decide +kernel
theorem dX5_sticksAt_10 : decode cX5_sticksAt 10 = .ok (.if_icmp .le 18, 3) := by decide +kernel
theorem dX5_sticksAt_13 : decode cX5_sticksAt 13 = .ok (.aload_n 0, 1) := by decide +kernel
theorem dX5_sticksAt_14 : decode cX5_sticksAt 14 = .ok (.getfield 21, 3) := by decide +kernel
theorem dX5_sticksAt_17 : decode cX5_sticksAt 17 = .ok (.iload_n 1, 1) := by decide +kernel
theorem dX5_sticksAt_18 : decode cX5_sticksAt 18 = .ok (.invokevirtual 71, 3) := by decide +kernel
theorem dX5_sticksAt_21 : decode cX5_sticksAt 21 = .ok (.ifCond .ne 7, 3) := by decide +kernel
theorem dX5_sticksAt_24 : decode cX5_sticksAt 24 = .ok (.iconst 1, 1) := by decide +kernel
theorem dX5_sticksAt_25 : decode cX5_sticksAt 25 = .ok (.goto 4, 3) := by decide +kernel
theorem dX5_sticksAt_28 : decode cX5_sticksAt 28 = .ok (.iconst 0, 1) := by decide +kernel
theorem dX5_sticksAt_29 : decode cX5_sticksAt 29 = .ok (.ireturn, 1) := by decide +kernel
def f_X5_sticksAt (w : Nat) (o0 : Nat) (x1 : Int32) (x2 : Int32) (M : mM) : Option (Int32 × mM) := chk x1 (sL (rF (rF o0 0) 3)) ((if x2 ≤ (M.1 (rF (rF o0 0) 3) x1.toNatClampNeg) then rtB 0 M else bI (f_X9_hasWedge w (rF o0 0) x1 M) fun q2 M1 => (if q2 = 0 then rtB 1 M1 else rtB 0 M1)))
set_option maxHeartbeats 4000000 in
set_option maxRecDepth 100000 in
theorem s_X5_sticksAt {l : Launch} {G : mG} {sk : List mS} (w : Nat) (o0 : Nat) (h0 : isK o0 15) (x1 : Int32) (x2 : Int32) (M : mM) : Go muX5_sticksAt (rm 1) 0 0 l G sk (mFin G sk eI) (f_X5_sticksAt w o0 x1 x2 M) 0 [(0, .ref (gB G + o0)), (1, .int x1), (2, .int x2)] [] M := by
  unfold f_X5_sticksAt
  refine go_iload_n 2 1 dX5_sticksAt_0 rfl rfl ?_
  refine go_aload_n 0 2 dX5_sticksAt_1 rfl rfl ?_
  refine go_getR flX5_21 h0 5 dX5_sticksAt_2 rfl ?_
  refine go_getR flX5_60 (rk5_0 h0) 8 dX5_sticksAt_5 rfl ?_
  refine go_iload_n 1 9 dX5_sticksAt_8 rfl rfl ?_
  refine go_iald (rk9_3 (rk5_0 h0)) 10 dX5_sticksAt_9 rfl ?_
  refine go_icmp_le 28 13 dX5_sticksAt_10 rfl (by decide) (fun _ => ?_) (fun _ => ?_)
  · refine go_iconst 0 29 dX5_sticksAt_28 rfl (by decide) ?_
    exact go_zret rfl dX5_sticksAt_29
  · refine go_aload_n 0 14 dX5_sticksAt_13 rfl rfl ?_
    refine go_getR flX5_21 h0 17 dX5_sticksAt_14 rfl ?_
    refine go_iload_n 1 18 dX5_sticksAt_17 rfl rfl ?_
    refine go_cVI1 0 clX9 cwX5_71 (m_X9_hasWedge w (rF o0 0) (rk5_0 h0) x1 M) (rk5_0 h0) 21 dX5_sticksAt_18 rfl ⟨Nat.le_of_ble_eq_true rfl, Nat.le_of_ble_eq_true rfl⟩ ⟨Nat.zero_le _, Nat.zero_le _⟩ (Nat.le_of_ble_eq_true rfl) (fun q2 M1 _ => ?_)
    refine go_if_ne 28 24 dX5_sticksAt_21 rfl (by decide) (fun _ => ?_) (fun _ => ?_)
    · refine go_iconst 0 29 dX5_sticksAt_28 rfl (by decide) ?_
      exact go_zret rfl dX5_sticksAt_29
    · refine go_iconst 1 25 dX5_sticksAt_24 rfl (by decide) ?_
      refine go_goto 29 dX5_sticksAt_25 (by decide) ?_
      exact go_zret rfl dX5_sticksAt_29
theorem m_X5_sticksAt {l : Launch} {G : mG} {sk : List mS} (w : Nat) (o0 : Nat) (h0 : isK o0 15) (x1 : Int32) (x2 : Int32) (M : mM) : Mt l G sk yX5_sticksAt muX5_sticksAt 1 [.ref (gB G + o0), .int x1, .int x2] M eI (f_X5_sticksAt w o0 x1 x2 M) := Mt.of (by decide) rfl (Nat.le_of_ble_eq_true rfl) (s_X5_sticksAt w o0 h0 x1 x2 M)
theorem dX5_lookAt_0 : decode cX5_lookAt 0 = .ok (.iload_n 1, 1) := by decide +kernel
theorem dX5_lookAt_1 : decode cX5_lookAt 1 = .ok (.ifCond .ne 35, 3) := by decide +kernel
theorem dX5_lookAt_4 : decode cX5_lookAt 4 = .ok (.aload_n 0, 1) := by decide +kernel
theorem dX5_lookAt_5 : decode cX5_lookAt 5 = .ok (.getfield 21, 3) := by decide +kernel
theorem dX5_lookAt_8 : decode cX5_lookAt 8 = .ok (.getfield 36, 3) := by decide +kernel
theorem dX5_lookAt_11 : decode cX5_lookAt 11 = .ok (.iconst 0, 1) := by decide +kernel
theorem dX5_lookAt_12 : decode cX5_lookAt 12 = .ok (.aload_n 0, 1) := by decide +kernel
theorem dX5_lookAt_13 : decode cX5_lookAt 13 = .ok (.getfield 15, 3) := by decide +kernel
theorem dX5_lookAt_16 : decode cX5_lookAt 16 = .ok (.iconst 0, 1) := by decide +kernel
theorem dX5_lookAt_17 : decode cX5_lookAt 17 = .ok (.bipush 8, 2) := by decide +kernel
theorem dX5_lookAt_19 : decode cX5_lookAt 19 = .ok (.invokestatic 37, 3) := by decide +kernel
theorem dX5_lookAt_22 : decode cX5_lookAt 22 = .ok (.aload_n 0, 1) := by decide +kernel
theorem dX5_lookAt_23 : decode cX5_lookAt 23 = .ok (.getfield 9, 3) := by decide +kernel
theorem dX5_lookAt_26 : decode cX5_lookAt 26 = .ok (.iconst 0, 1) := by decide +kernel
theorem dX5_lookAt_27 : decode cX5_lookAt 27 = .ok (.aload_n 0, 1) := by decide +kernel
theorem dX5_lookAt_28 : decode cX5_lookAt 28 = .ok (.getfield 21, 3) := by decide +kernel
theorem dX5_lookAt_31 : decode cX5_lookAt 31 = .ok (.invokevirtual 43, 3) := by decide +kernel
theorem dX5_lookAt_34 : decode cX5_lookAt 34 = .ok (.iastore, 1) := by decide +kernel
theorem dX5_lookAt_35 : decode cX5_lookAt 35 = .ok (.return_, 1) := by decide +kernel
theorem dX5_lookAt_36 : decode cX5_lookAt 36 = .ok (.aload_n 0, 1) := by decide +kernel
theorem dX5_lookAt_37 : decode cX5_lookAt 37 = .ok (.getfield 21, 3) := by decide +kernel
theorem dX5_lookAt_40 : decode cX5_lookAt 40 = .ok (.getfield 47, 3) := by decide +kernel
theorem dX5_lookAt_43 : decode cX5_lookAt 43 = .ok (.iload_n 1, 1) := by decide +kernel
theorem dX5_lookAt_44 : decode cX5_lookAt 44 = .ok (.iadd, 1) := by decide +kernel
theorem dX5_lookAt_45 : decode cX5_lookAt 45 = .ok (.iconst 1, 1) := by decide +kernel
theorem dX5_lookAt_46 : decode cX5_lookAt 46 = .ok (.isub, 1) := by decide +kernel
theorem dX5_lookAt_47 : decode cX5_lookAt 47 = .ok (.istore_n 2, 1) := by decide +kernel
theorem dX5_lookAt_48 : decode cX5_lookAt 48 = .ok (.aload_n 0, 1) := by decide +kernel
theorem dX5_lookAt_49 : decode cX5_lookAt 49 = .ok (.getfield 31, 3) := by decide +kernel
theorem dX5_lookAt_52 : decode cX5_lookAt 52 = .ok (.iload_n 2, 1) := by decide +kernel
theorem dX5_lookAt_53 : decode cX5_lookAt 53 = .ok (.invokevirtual 51, 3) := by decide +kernel
theorem dX5_lookAt_56 : decode cX5_lookAt 56 = .ok (.istore_n 3, 1) := by decide +kernel
theorem dX5_lookAt_57 : decode cX5_lookAt 57 = .ok (.aload_n 0, 1) := by decide +kernel
theorem dX5_lookAt_58 : decode cX5_lookAt 58 = .ok (.getfield 9, 3) := by decide +kernel
theorem dX5_lookAt_61 : decode cX5_lookAt 61 = .ok (.iload_n 1, 1) := by decide +kernel
theorem dX5_lookAt_62 : decode cX5_lookAt 62 = .ok (.iconst 0, 1) := by decide +kernel
theorem dX5_lookAt_63 : decode cX5_lookAt 63 = .ok (.iastore, 1) := by decide +kernel
theorem dX5_lookAt_64 : decode cX5_lookAt 64 = .ok (.iconst 0, 1) := by decide +kernel
theorem dX5_lookAt_65 : decode cX5_lookAt 65 = .ok (.istore 4, 2) := by decide +kernel
theorem dX5_lookAt_67 : decode cX5_lookAt 67 = .ok (.iload 4, 2) := by decide +kernel
theorem dX5_lookAt_69 : decode cX5_lookAt 69 = .ok (.aload_n 0, 1) := by decide +kernel
theorem dX5_lookAt_70 : decode cX5_lookAt 70 = .ok (.getfield 31, 3) := by decide +kernel
theorem dX5_lookAt_73 : decode cX5_lookAt 73 = .ok (.getfield 57, 3) := by decide +kernel
theorem dX5_lookAt_76 : decode cX5_lookAt 76 = .ok (.if_icmp .ge 73, 3) := by decide +kernel
theorem dX5_lookAt_79 : decode cX5_lookAt 79 = .ok (.aload_n 0, 1) := by decide +kernel
theorem dX5_lookAt_80 : decode cX5_lookAt 80 = .ok (.getfield 15, 3) := by decide +kernel
theorem dX5_lookAt_83 : decode cX5_lookAt 83 = .ok (.iload 4, 2) := by decide +kernel
theorem dX5_lookAt_85 : decode cX5_lookAt 85 = .ok (.aload_n 0, 1) := by decide +kernel
theorem dX5_lookAt_86 : decode cX5_lookAt 86 = .ok (.getfield 31, 3) := by decide +kernel
theorem dX5_lookAt_89 : decode cX5_lookAt 89 = .ok (.iload 4, 2) := by decide +kernel
theorem dX5_lookAt_91 : decode cX5_lookAt 91 = .ok (.aload_n 0, 1) := by decide +kernel
theorem dX5_lookAt_92 : decode cX5_lookAt 92 = .ok (.getfield 15, 3) := by decide +kernel
theorem dX5_lookAt_95 : decode cX5_lookAt 95 = .ok (.iload 4, 2) := by decide +kernel
theorem dX5_lookAt_97 : decode cX5_lookAt 97 = .ok (.iaload, 1) := by decide +kernel
theorem dX5_lookAt_98 : decode cX5_lookAt 98 = .ok (.aload_n 0, 1) := by decide +kernel
theorem dX5_lookAt_99 : decode cX5_lookAt 99 = .ok (.getfield 21, 3) := by decide +kernel
theorem dX5_lookAt_102 : decode cX5_lookAt 102 = .ok (.getfield 60, 3) := by decide +kernel
theorem dX5_lookAt_105 : decode cX5_lookAt 105 = .ok (.iload 4, 2) := by decide +kernel
theorem dX5_lookAt_107 : decode cX5_lookAt 107 = .ok (.iaload, 1) := by decide +kernel
theorem dX5_lookAt_108 : decode cX5_lookAt 108 = .ok (.iload_n 3, 1) := by decide +kernel
theorem dX5_lookAt_109 : decode cX5_lookAt 109 = .ok (.iload_n 2, 1) := by decide +kernel
theorem dX5_lookAt_110 : decode cX5_lookAt 110 = .ok (.invokevirtual 63, 3) := by decide +kernel
theorem dX5_lookAt_113 : decode cX5_lookAt 113 = .ok (.iastore, 1) := by decide +kernel
theorem dX5_lookAt_114 : decode cX5_lookAt 114 = .ok (.aload_n 0, 1) := by decide +kernel
theorem dX5_lookAt_115 : decode cX5_lookAt 115 = .ok (.iload 4, 2) := by decide +kernel
theorem dX5_lookAt_117 : decode cX5_lookAt 117 = .ok (.aload_n 0, 1) := by decide +kernel
theorem dX5_lookAt_118 : decode cX5_lookAt 118 = .ok (.getfield 15, 3) := by decide +kernel
theorem dX5_lookAt_121 : decode cX5_lookAt 121 = .ok (.iload 4, 2) := by decide +kernel
theorem dX5_lookAt_123 : decode cX5_lookAt 123 = .ok (.iaload, 1) := by decide +kernel
theorem dX5_lookAt_124 : decode cX5_lookAt 124 = .ok (.invokevirtual 67, 3) := by decide +kernel
theorem dX5_lookAt_127 : decode cX5_lookAt 127 = .ok (.ifCond .ne 16, 3) := by decide +kernel
theorem dX5_lookAt_130 : decode cX5_lookAt 130 = .ok (.aload_n 0, 1) := by decide +kernel
theorem dX5_lookAt_131 : decode cX5_lookAt 131 = .ok (.getfield 9, 3) := by decide +kernel
theorem dX5_lookAt_134 : decode cX5_lookAt 134 = .ok (.iload_n 1, 1) := by decide +kernel
theorem dX5_lookAt_135 : decode cX5_lookAt 135 = .ok (.dup2, 1) := by decide +kernel
theorem dX5_lookAt_136 : decode cX5_lookAt 136 = .ok (.iaload, 1) := by decide +kernel
theorem dX5_lookAt_137 : decode cX5_lookAt 137 = .ok (.iconst 1, 1) := by decide +kernel
theorem dX5_lookAt_138 : decode cX5_lookAt 138 = .ok (.iload 4, 2) := by decide +kernel
theorem dX5_lookAt_140 : decode cX5_lookAt 140 = .ok (.ishl, 1) := by decide +kernel
theorem dX5_lookAt_141 : decode cX5_lookAt 141 = .ok (.ior, 1) := by decide +kernel
theorem dX5_lookAt_142 : decode cX5_lookAt 142 = .ok (.iastore, 1) := by decide +kernel
theorem dX5_lookAt_143 : decode cX5_lookAt 143 = .ok (.iinc 4 1, 3) := by decide +kernel
theorem dX5_lookAt_146 : decode cX5_lookAt 146 = .ok (.goto (-79), 3) := by decide +kernel
theorem dX5_lookAt_149 : decode cX5_lookAt 149 = .ok (.return_, 1) := by decide +kernel
def f_X5_lookAt_67 (w : Nat) : Nat → Nat → Int32 → Int32 → Int32 → Int32 → mM → Option mM
  | 0, _, _, _, _, _, _ => none
  | n + 1, o0, x1, x2, x3, x4, M => (if (M.1 (rF o0 1) 1) ≤ x4 then some M else chk x4 (sL (rF o0 3)) (chk x4 (sL (rF (rF o0 0) 3)) (bI (f_X6_swollenNext w (rF o0 1) x4 (M.1 (rF o0 3) x4.toNatClampNeg) (M.1 (rF (rF o0 0) 3) x4.toNatClampNeg) x3 x2 M) fun q2 M1 => chk x4 (sL (rF o0 3)) (lt (wI M1 (rF o0 3) x4.toNatClampNeg q2) fun M3 => chk x4 (sL (rF o0 3)) (bI (f_X5_sticksAt w o0 x4 (M3.1 (rF o0 3) x4.toNatClampNeg) M3) fun q5 M4 => (if q5 = 0 then chk x1 (sL (rF o0 2)) (chk x1 (sL (rF o0 2)) (lt (wI M4 (rF o0 2) x1.toNatClampNeg ((M4.1 (rF o0 2) x1.toNatClampNeg) ||| ((1 : Int32) <<< (x4 &&& 31)))) fun M6 => (f_X5_lookAt_67 w n o0 x1 x2 x3 (x4 + 1) M6))) else (f_X5_lookAt_67 w n o0 x1 x2 x3 (x4 + 1) M4)))))))
set_option maxHeartbeats 4000000 in
set_option maxRecDepth 100000 in
theorem s_X5_lookAt_67 {l : Launch} {G : mG} {sk : List mS} (w : Nat) : ∀ (n : Nat) (o0 : Nat) (h0 : isK o0 15) (x1 : Int32) (x2 : Int32) (x3 : Int32) (x4 : Int32) (M : mM), Go muX5_lookAt (rm 4) 0 0 l G sk (mFin G sk eV) (f_X5_lookAt_67 w n o0 x1 x2 x3 x4 M) 67 [(0, .ref (gB G + o0)), (1, .int x1), (2, .int x2), (3, .int x3), (4, .int x4)] [] M := by
  intro n
  induction n with
  | zero =>
    intros
    exact go_none
  | succ n ih =>
    intro o0 h0 x1 x2 x3 x4 M
    rw [f_X5_lookAt_67]
    refine go_iload 4 69 dX5_lookAt_67 rfl rfl ?_
    refine go_aload_n 0 70 dX5_lookAt_69 rfl rfl ?_
    refine go_getR flX5_31 h0 73 dX5_lookAt_70 rfl ?_
    refine go_getI flX5_57 (by decide) (rk5_1 h0) 76 dX5_lookAt_73 rfl ?_
    refine go_icmp_ge 149 79 dX5_lookAt_76 rfl (by decide) (fun _ => ?_) (fun _ => ?_)
    · exact go_vret rfl dX5_lookAt_149
    · refine go_aload_n 0 80 dX5_lookAt_79 rfl rfl ?_
      refine go_getR flX5_15 h0 83 dX5_lookAt_80 rfl ?_
      refine go_iload 4 85 dX5_lookAt_83 rfl rfl ?_
      refine go_aload_n 0 86 dX5_lookAt_85 rfl rfl ?_
      refine go_getR flX5_31 h0 89 dX5_lookAt_86 rfl ?_
      refine go_iload 4 91 dX5_lookAt_89 rfl rfl ?_
      refine go_aload_n 0 92 dX5_lookAt_91 rfl rfl ?_
      refine go_getR flX5_15 h0 95 dX5_lookAt_92 rfl ?_
      refine go_iload 4 97 dX5_lookAt_95 rfl rfl ?_
      refine go_iald (rk5_3 h0) 98 dX5_lookAt_97 rfl ?_
      refine go_aload_n 0 99 dX5_lookAt_98 rfl rfl ?_
      refine go_getR flX5_21 h0 102 dX5_lookAt_99 rfl ?_
      refine go_getR flX5_60 (rk5_0 h0) 105 dX5_lookAt_102 rfl ?_
      refine go_iload 4 107 dX5_lookAt_105 rfl rfl ?_
      refine go_iald (rk9_3 (rk5_0 h0)) 108 dX5_lookAt_107 rfl ?_
      refine go_iload_n 3 109 dX5_lookAt_108 rfl rfl ?_
      refine go_iload_n 2 110 dX5_lookAt_109 rfl rfl ?_
      refine go_cVI5 2 clX6 cwX5_63 (m_X6_swollenNext w (rF o0 1) (rk5_1 h0) x4 (M.1 (rF o0 3) x4.toNatClampNeg) (M.1 (rF (rF o0 0) 3) x4.toNatClampNeg) x3 x2 M) (rk5_1 h0) 113 dX5_lookAt_110 rfl ⟨Nat.le_of_ble_eq_true rfl, Nat.le_of_ble_eq_true rfl⟩ ⟨Nat.zero_le _, Nat.zero_le _⟩ (Nat.le_of_ble_eq_true rfl) (fun q2 M1 _ => ?_)
      refine go_iast (rk5_3 h0) 114 dX5_lookAt_113 rfl ?_
      refine go_nmM (fun M3 => ?_)
      refine go_aload_n 0 115 dX5_lookAt_114 rfl rfl ?_
      refine go_iload 4 117 dX5_lookAt_115 rfl rfl ?_
      refine go_aload_n 0 118 dX5_lookAt_117 rfl rfl ?_
      refine go_getR flX5_15 h0 121 dX5_lookAt_118 rfl ?_
      refine go_iload 4 123 dX5_lookAt_121 rfl rfl ?_
      refine go_iald (rk5_3 h0) 124 dX5_lookAt_123 rfl ?_
      refine go_cVI2 1 clX5 cwX5_67 (m_X5_sticksAt w o0 h0 x4 (M3.1 (rF o0 3) x4.toNatClampNeg) M3) h0 127 dX5_lookAt_124 rfl ⟨Nat.le_of_ble_eq_true rfl, Nat.le_of_ble_eq_true rfl⟩ ⟨Nat.zero_le _, Nat.zero_le _⟩ (Nat.le_of_ble_eq_true rfl) (fun q5 M4 _ => ?_)
      refine go_if_ne 143 130 dX5_lookAt_127 rfl (by decide) (fun _ => ?_) (fun _ => ?_)
      · refine go_iinc (x4 + 1) 4 [(4, .int (x4 + 1)), (0, .ref (gB G + o0)), (1, .int x1), (2, .int x2), (3, .int x3)] 146 dX5_lookAt_143 rfl rfl rfl (by decide) rfl ?_
        refine go_goto 67 dX5_lookAt_146 (by decide) ?_
        exact go_lv [1, 2, 3, 4, 0] rfl (ih o0 h0 x1 x2 x3 (x4 + 1) M4)
      · refine go_aload_n 0 131 dX5_lookAt_130 rfl rfl ?_
        refine go_getR flX5_9 h0 134 dX5_lookAt_131 rfl ?_
        refine go_iload_n 1 135 dX5_lookAt_134 rfl rfl ?_
        refine go_dup2 136 dX5_lookAt_135 rfl rfl rfl ?_
        refine go_iald (rk5_2 h0) 137 dX5_lookAt_136 rfl ?_
        refine go_iconst 1 138 dX5_lookAt_137 rfl (by decide) ?_
        refine go_iload 4 140 dX5_lookAt_138 rfl rfl ?_
        refine go_ishl 141 dX5_lookAt_140 rfl ?_
        refine go_ior 142 dX5_lookAt_141 rfl ?_
        refine go_iast (rk5_2 h0) 143 dX5_lookAt_142 rfl ?_
        refine go_nmM (fun M6 => ?_)
        refine go_iinc (x4 + 1) 4 [(4, .int (x4 + 1)), (0, .ref (gB G + o0)), (1, .int x1), (2, .int x2), (3, .int x3)] 146 dX5_lookAt_143 rfl rfl rfl (by decide) rfl ?_
        refine go_goto 67 dX5_lookAt_146 (by decide) ?_
        exact go_lv [1, 2, 3, 4, 0] rfl (ih o0 h0 x1 x2 x3 (x4 + 1) M6)
def f_X5_lookAt (w : Nat) (o0 : Nat) (x1 : Int32) (M : mM) : Option mM := (if x1 = 0 then cpk 0 0 8 (sL (rF (rF o0 0) 4)) (sL (rF o0 3)) (lt (cI M (rF (rF o0 0) 4) (0 : Int32).toNatClampNeg (rF o0 3) (0 : Int32).toNatClampNeg (8 : Int32).toNatClampNeg) fun M5 => bI (f_X9_openDoors w (rF o0 0) M5) fun q7 M6 => chk 0 (sL (rF o0 2)) (lt (wI M6 (rF o0 2) (0 : Int32).toNatClampNeg q7) fun M8 => some M8)) else lt (((M.1 (rF o0 0) 1) + x1) - 1) fun y1 => bI (f_X6_dampOn w (rF o0 1) y1 M) fun q3 M2 => chk x1 (sL (rF o0 2)) (lt (wI M2 (rF o0 2) x1.toNatClampNeg 0) fun M4 => (f_X5_lookAt_67 w w o0 x1 y1 q3 0 M4)))
set_option maxHeartbeats 4000000 in
set_option maxRecDepth 100000 in
theorem s_X5_lookAt {l : Launch} {G : mG} {sk : List mS} (w : Nat) (o0 : Nat) (h0 : isK o0 15) (x1 : Int32) (M : mM) : Go muX5_lookAt (rm 4) 0 0 l G sk (mFin G sk eV) (f_X5_lookAt w o0 x1 M) 0 [(0, .ref (gB G + o0)), (1, .int x1)] [] M := by
  unfold f_X5_lookAt
  refine go_iload_n 1 1 dX5_lookAt_0 rfl rfl ?_
  refine go_if_ne 36 4 dX5_lookAt_1 rfl (by decide) (fun _ => ?_) (fun _ => ?_)
  · refine go_aload_n 0 37 dX5_lookAt_36 rfl rfl ?_
    refine go_getR flX5_21 h0 40 dX5_lookAt_37 rfl ?_
    refine go_getI flX5_47 (by decide) (rk5_0 h0) 43 dX5_lookAt_40 rfl ?_
    refine go_iload_n 1 44 dX5_lookAt_43 rfl rfl ?_
    refine go_iadd 45 dX5_lookAt_44 rfl ?_
    refine go_iconst 1 46 dX5_lookAt_45 rfl (by decide) ?_
    refine go_isub 47 dX5_lookAt_46 rfl ?_
    refine go_nmI (fun y1 => ?_)
    refine go_istore_n [(2, .int y1), (0, .ref (gB G + o0)), (1, .int x1)] 48 dX5_lookAt_47 rfl rfl (by decide) rfl ?_
    refine go_aload_n 1 49 dX5_lookAt_48 rfl rfl ?_
    refine go_getR flX5_31 h0 52 dX5_lookAt_49 rfl ?_
    refine go_iload_n 0 53 dX5_lookAt_52 rfl rfl ?_
    refine go_cVI1 0 clX6 cwX5_51 (m_X6_dampOn w (rF o0 1) (rk5_1 h0) y1 M) (rk5_1 h0) 56 dX5_lookAt_53 rfl ⟨Nat.le_of_ble_eq_true rfl, Nat.le_of_ble_eq_true rfl⟩ ⟨Nat.zero_le _, Nat.zero_le _⟩ (Nat.le_of_ble_eq_true rfl) (fun q3 M2 _ => ?_)
    refine go_istore_n [(3, .int q3), (2, .int y1), (0, .ref (gB G + o0)), (1, .int x1)] 57 dX5_lookAt_56 rfl rfl (by decide) rfl ?_
    refine go_aload_n 2 58 dX5_lookAt_57 rfl rfl ?_
    refine go_getR flX5_9 h0 61 dX5_lookAt_58 rfl ?_
    refine go_iload_n 3 62 dX5_lookAt_61 rfl rfl ?_
    refine go_iconst 0 63 dX5_lookAt_62 rfl (by decide) ?_
    refine go_iast (rk5_2 h0) 64 dX5_lookAt_63 rfl ?_
    refine go_nmM (fun M4 => ?_)
    refine go_iconst 0 65 dX5_lookAt_64 rfl (by decide) ?_
    refine go_istore [(4, .int 0), (3, .int q3), (2, .int y1), (0, .ref (gB G + o0)), (1, .int x1)] 67 dX5_lookAt_65 rfl (by decide) rfl ?_
    exact go_lv [3, 4, 2, 1, 0] rfl (s_X5_lookAt_67 w w o0 h0 x1 y1 q3 0 M4)
  · refine go_aload_n 0 5 dX5_lookAt_4 rfl rfl ?_
    refine go_getR flX5_21 h0 8 dX5_lookAt_5 rfl ?_
    refine go_getR flX5_36 (rk5_0 h0) 11 dX5_lookAt_8 rfl ?_
    refine go_iconst 0 12 dX5_lookAt_11 rfl (by decide) ?_
    refine go_aload_n 0 13 dX5_lookAt_12 rfl rfl ?_
    refine go_getR flX5_15 h0 16 dX5_lookAt_13 rfl ?_
    refine go_iconst 0 17 dX5_lookAt_16 rfl (by decide) ?_
    refine go_bipush 8 19 dX5_lookAt_17 rfl (by decide) ?_
    refine go_copyi acX5_37 (rk9_4 (rk5_0 h0)) (rk5_3 h0) 22 dX5_lookAt_19 rfl (Nat.le_of_ble_eq_true rfl) (Nat.le_of_ble_eq_true rfl) ?_
    refine go_nmM (fun M5 => ?_)
    refine go_aload_n 0 23 dX5_lookAt_22 rfl rfl ?_
    refine go_getR flX5_9 h0 26 dX5_lookAt_23 rfl ?_
    refine go_iconst 0 27 dX5_lookAt_26 rfl (by decide) ?_
    refine go_aload_n 0 28 dX5_lookAt_27 rfl rfl ?_
    refine go_getR flX5_21 h0 31 dX5_lookAt_28 rfl ?_
    refine go_cVI0 3 clX9 cwX5_43 (m_X9_openDoors w (rF o0 0) (rk5_0 h0) M5) (rk5_0 h0) 34 dX5_lookAt_31 rfl ⟨Nat.le_of_ble_eq_true rfl, Nat.le_of_ble_eq_true rfl⟩ ⟨Nat.zero_le _, Nat.zero_le _⟩ (Nat.le_of_ble_eq_true rfl) (fun q7 M6 _ => ?_)
    refine go_iast (rk5_2 h0) 35 dX5_lookAt_34 rfl ?_
    refine go_nmM (fun M8 => ?_)
    exact go_vret rfl dX5_lookAt_35
theorem m_X5_lookAt {l : Launch} {G : mG} {sk : List mS} (w : Nat) (o0 : Nat) (h0 : isK o0 15) (x1 : Int32) (M : mM) : Mt l G sk yX5_lookAt muX5_lookAt 4 [.ref (gB G + o0), .int x1] M eV (f_X5_lookAt w o0 x1 M) := Mt.of (by decide) rfl (Nat.le_of_ble_eq_true rfl) (s_X5_lookAt w o0 h0 x1 M)
theorem dX5_look_0 : decode cX5_look 0 = .ok (.iconst 0, 1) := by decide +kernel
theorem dX5_look_1 : decode cX5_look 1 = .ok (.istore_n 2, 1) := by decide +kernel
theorem dX5_look_2 : decode cX5_look 2 = .ok (.iload_n 2, 1) := by decide +kernel
theorem dX5_look_3 : decode cX5_look 3 = .ok (.iload_n 1, 1) := by decide +kernel
theorem dX5_look_4 : decode cX5_look 4 = .ok (.if_icmp .gt 20, 3) := by decide +kernel
theorem dX5_look_7 : decode cX5_look 7 = .ok (.iload_n 2, 1) := by decide +kernel
theorem dX5_look_8 : decode cX5_look 8 = .ok (.bipush 60, 2) := by decide +kernel
theorem dX5_look_10 : decode cX5_look 10 = .ok (.if_icmp .gt 14, 3) := by decide +kernel
theorem dX5_look_13 : decode cX5_look 13 = .ok (.aload_n 0, 1) := by decide +kernel
theorem dX5_look_14 : decode cX5_look 14 = .ok (.iload_n 2, 1) := by decide +kernel
theorem dX5_look_15 : decode cX5_look 15 = .ok (.invokevirtual 32, 3) := by decide +kernel
theorem dX5_look_18 : decode cX5_look 18 = .ok (.iinc 2 1, 3) := by decide +kernel
theorem dX5_look_21 : decode cX5_look 21 = .ok (.goto (-19), 3) := by decide +kernel
theorem dX5_look_24 : decode cX5_look 24 = .ok (.return_, 1) := by decide +kernel
def f_X5_look_2 (w : Nat) : Nat → Nat → Int32 → Int32 → mM → Option mM
  | 0, _, _, _, _ => none
  | n + 1, o0, x1, x2, M => (if x1 < x2 then some M else (if 60 < x2 then some M else bV (f_X5_lookAt w o0 x2 M) fun M1 => (f_X5_look_2 w n o0 x1 (x2 + 1) M1)))
set_option maxHeartbeats 4000000 in
set_option maxRecDepth 100000 in
theorem s_X5_look_2 {l : Launch} {G : mG} {sk : List mS} (w : Nat) : ∀ (n : Nat) (o0 : Nat) (h0 : isK o0 15) (x1 : Int32) (x2 : Int32) (M : mM), Go muX5_look (rm 5) 0 0 l G sk (mFin G sk eV) (f_X5_look_2 w n o0 x1 x2 M) 2 [(0, .ref (gB G + o0)), (1, .int x1), (2, .int x2)] [] M := by
  intro n
  induction n with
  | zero =>
    intros
    exact go_none
  | succ n ih =>
    intro o0 h0 x1 x2 M
    rw [f_X5_look_2]
    refine go_iload_n 2 3 dX5_look_2 rfl rfl ?_
    refine go_iload_n 1 4 dX5_look_3 rfl rfl ?_
    refine go_icmp_gt 24 7 dX5_look_4 rfl (by decide) (fun _ => ?_) (fun _ => ?_)
    · exact go_vret rfl dX5_look_24
    · refine go_iload_n 2 8 dX5_look_7 rfl rfl ?_
      refine go_bipush 60 10 dX5_look_8 rfl (by decide) ?_
      refine go_icmp_gt 24 13 dX5_look_10 rfl (by decide) (fun _ => ?_) (fun _ => ?_)
      · exact go_vret rfl dX5_look_24
      · refine go_aload_n 0 14 dX5_look_13 rfl rfl ?_
        refine go_iload_n 2 15 dX5_look_14 rfl rfl ?_
        refine go_cVV1 4 clX5 cwX5_32 (m_X5_lookAt w o0 h0 x2 M) h0 18 dX5_look_15 rfl ⟨Nat.le_of_ble_eq_true rfl, Nat.le_of_ble_eq_true rfl⟩ ⟨Nat.zero_le _, Nat.zero_le _⟩ (Nat.le_of_ble_eq_true rfl) (fun M1 _ => ?_)
        refine go_iinc (x2 + 1) 2 [(2, .int (x2 + 1)), (0, .ref (gB G + o0)), (1, .int x1)] 21 dX5_look_18 rfl rfl rfl (by decide) rfl ?_
        refine go_goto 2 dX5_look_21 (by decide) ?_
        exact go_lv [1, 2, 0] rfl (ih o0 h0 x1 (x2 + 1) M1)
def f_X5_look (w : Nat) (o0 : Nat) (x1 : Int32) (M : mM) : Option mM := (f_X5_look_2 w w o0 x1 0 M)
set_option maxHeartbeats 4000000 in
set_option maxRecDepth 100000 in
theorem s_X5_look {l : Launch} {G : mG} {sk : List mS} (w : Nat) (o0 : Nat) (h0 : isK o0 15) (x1 : Int32) (M : mM) : Go muX5_look (rm 5) 0 0 l G sk (mFin G sk eV) (f_X5_look w o0 x1 M) 0 [(0, .ref (gB G + o0)), (1, .int x1)] [] M := by
  unfold f_X5_look
  refine go_iconst 0 1 dX5_look_0 rfl (by decide) ?_
  refine go_istore_n [(2, .int 0), (0, .ref (gB G + o0)), (1, .int x1)] 2 dX5_look_1 rfl rfl (by decide) rfl ?_
  exact go_lv [1, 2, 0] rfl (s_X5_look_2 w w o0 h0 x1 0 M)
theorem m_X5_look {l : Launch} {G : mG} {sk : List mS} (w : Nat) (o0 : Nat) (h0 : isK o0 15) (x1 : Int32) (M : mM) : Mt l G sk yX5_look muX5_look 5 [.ref (gB G + o0), .int x1] M eV (f_X5_look w o0 x1 M) := Mt.of (by decide) rfl (Nat.le_of_ble_eq_true rfl) (s_X5_look w o0 h0 x1 M)
theorem dX5_swollenBehind_0 : decode cX5_swollenBehind 0 = .ok (.aload_n 0, 1) := by decide +kernel
theorem dX5_swollenBehind_1 : decode cX5_swollenBehind 1 = .ok (.getfield 21, 3) := by decide +kernel
theorem dX5_swollenBehind_4 : decode cX5_swollenBehind 4 = .ok (.getfield 36, 3) := by decide +kernel
theorem dX5_swollenBehind_7 : decode cX5_swollenBehind 7 = .ok (.iload_n 1, 1) := by decide +kernel
theorem dX5_swollenBehind_8 : decode cX5_swollenBehind 8 = .ok (.iaload, 1) := by decide +kernel
theorem dX5_swollenBehind_9 : decode cX5_swollenBehind 9 = .ok (.istore 5, 2) := by decide +kernel
theorem dX5_swollenBehind_11 : decode cX5_swollenBehind 11 = .ok (.iconst 0, 1) := by decide +kernel
theorem dX5_swollenBehind_12 : decode cX5_swollenBehind 12 = .ok (.istore 6, 2) := by decide +kernel
theorem dX5_swollenBehind_14 : decode cX5_swollenBehind 14 = .ok (.iload 6, 2) := by decide +kernel
theorem dX5_swollenBehind_16 : decode cX5_swollenBehind 16 = .ok (.iload_n 3, 1) := by decide +kernel
theorem dX5_swollenBehind_17 : decode cX5_swollenBehind 17 = .ok (.if_icmp .ge 60, 3) := by decide +kernel
theorem dX5_swollenBehind_20 : decode cX5_swollenBehind 20 = .ok (.aload_n 0, 1) := by decide +kernel
theorem dX5_swollenBehind_21 : decode cX5_swollenBehind 21 = .ok (.getfield 21, 3) := by decide +kernel
theorem dX5_swollenBehind_24 : decode cX5_swollenBehind 24 = .ok (.getfield 47, 3) := by decide +kernel
theorem dX5_swollenBehind_27 : decode cX5_swollenBehind 27 = .ok (.iload 6, 2) := by decide +kernel
theorem dX5_swollenBehind_29 : decode cX5_swollenBehind 29 = .ok (.iadd, 1) := by decide +kernel
theorem dX5_swollenBehind_30 : decode cX5_swollenBehind 30 = .ok (.istore 7, 2) := by decide +kernel
theorem dX5_swollenBehind_32 : decode cX5_swollenBehind 32 = .ok (.iload 4, 2) := by decide +kernel
theorem dX5_swollenBehind_34 : decode cX5_swollenBehind 34 = .ok (.iconst (-1), 1) := by decide +kernel
theorem dX5_swollenBehind_35 : decode cX5_swollenBehind 35 = .ok (.if_icmp .ne 15, 3) := by decide +kernel
theorem dX5_swollenBehind_38 : decode cX5_swollenBehind 38 = .ok (.aload_n 0, 1) := by decide +kernel
theorem dX5_swollenBehind_39 : decode cX5_swollenBehind 39 = .ok (.getfield 31, 3) := by decide +kernel
theorem dX5_swollenBehind_42 : decode cX5_swollenBehind 42 = .ok (.iload 7, 2) := by decide +kernel
theorem dX5_swollenBehind_44 : decode cX5_swollenBehind 44 = .ok (.invokevirtual 51, 3) := by decide +kernel
theorem dX5_swollenBehind_47 : decode cX5_swollenBehind 47 = .ok (.goto 5, 3) := by decide +kernel
theorem dX5_swollenBehind_50 : decode cX5_swollenBehind 50 = .ok (.iload 4, 2) := by decide +kernel
theorem dX5_swollenBehind_52 : decode cX5_swollenBehind 52 = .ok (.istore 8, 2) := by decide +kernel
theorem dX5_swollenBehind_54 : decode cX5_swollenBehind 54 = .ok (.aload_n 0, 1) := by decide +kernel
theorem dX5_swollenBehind_55 : decode cX5_swollenBehind 55 = .ok (.getfield 31, 3) := by decide +kernel
theorem dX5_swollenBehind_58 : decode cX5_swollenBehind 58 = .ok (.iload_n 1, 1) := by decide +kernel
theorem dX5_swollenBehind_59 : decode cX5_swollenBehind 59 = .ok (.iload 5, 2) := by decide +kernel
theorem dX5_swollenBehind_61 : decode cX5_swollenBehind 61 = .ok (.iload_n 2, 1) := by decide +kernel
theorem dX5_swollenBehind_62 : decode cX5_swollenBehind 62 = .ok (.iload 8, 2) := by decide +kernel
theorem dX5_swollenBehind_64 : decode cX5_swollenBehind 64 = .ok (.iload 7, 2) := by decide +kernel
theorem dX5_swollenBehind_66 : decode cX5_swollenBehind 66 = .ok (.invokevirtual 63, 3) := by decide +kernel
theorem dX5_swollenBehind_69 : decode cX5_swollenBehind 69 = .ok (.istore 5, 2) := by decide +kernel
theorem dX5_swollenBehind_71 : decode cX5_swollenBehind 71 = .ok (.iinc 6 1, 3) := by decide +kernel
theorem dX5_swollenBehind_74 : decode cX5_swollenBehind 74 = .ok (.goto (-60), 3) := by decide +kernel
theorem dX5_swollenBehind_77 : decode cX5_swollenBehind 77 = .ok (.iload 5, 2) := by decide +kernel
theorem dX5_swollenBehind_79 : decode cX5_swollenBehind 79 = .ok (.ireturn, 1) := by decide +kernel
def f_X5_swollenBehind_52 (w : Nat) (k14 : Nat → Int32 → Int32 → Int32 → Int32 → Int32 → Int32 → mM → Option (Int32 × mM)) (o0 : Nat) (x1 : Int32) (x2 : Int32) (x3 : Int32) (x4 : Int32) (x5 : Int32) (x6 : Int32) (x7 : Int32) (xs0 : Int32) (M : mM) : Option (Int32 × mM) := bI (f_X6_swollenNext w (rF o0 1) x1 x5 x2 xs0 x7 M) fun q2 M1 => (k14 o0 x1 x2 x3 x4 q2 (x6 + 1) M1)
set_option maxHeartbeats 4000000 in
set_option maxRecDepth 100000 in
theorem s_X5_swollenBehind_52 {l : Launch} {G : mG} {sk : List mS} (w : Nat) (k14 : Nat → Int32 → Int32 → Int32 → Int32 → Int32 → Int32 → mM → Option (Int32 × mM)) (hk14 : ∀ (o0 : Nat) (h0 : isK o0 15) (x1 : Int32) (x2 : Int32) (x3 : Int32) (x4 : Int32) (x5 : Int32) (x6 : Int32) (M : mM), Go muX5_swollenBehind (rm 3) 0 0 l G sk (mFin G sk eI) (k14 o0 x1 x2 x3 x4 x5 x6 M) 14 [(0, .ref (gB G + o0)), (1, .int x1), (2, .int x2), (3, .int x3), (4, .int x4), (5, .int x5), (6, .int x6)] [] M) (o0 : Nat) (h0 : isK o0 15) (x1 : Int32) (x2 : Int32) (x3 : Int32) (x4 : Int32) (x5 : Int32) (x6 : Int32) (x7 : Int32) (xs0 : Int32) (M : mM) : Go muX5_swollenBehind (rm 3) 0 0 l G sk (mFin G sk eI) (f_X5_swollenBehind_52 w k14 o0 x1 x2 x3 x4 x5 x6 x7 xs0 M) 52 [(0, .ref (gB G + o0)), (1, .int x1), (2, .int x2), (3, .int x3), (4, .int x4), (5, .int x5), (6, .int x6), (7, .int x7)] [.int xs0] M := by
  unfold f_X5_swollenBehind_52
  refine go_istore [(8, .int xs0), (0, .ref (gB G + o0)), (1, .int x1), (2, .int x2), (3, .int x3), (4, .int x4), (5, .int x5), (6, .int x6), (7, .int x7)] 54 dX5_swollenBehind_52 rfl (by decide) rfl ?_
  refine go_aload_n 1 55 dX5_swollenBehind_54 rfl rfl ?_
  refine go_getR flX5_31 h0 58 dX5_swollenBehind_55 rfl ?_
  refine go_iload_n 2 59 dX5_swollenBehind_58 rfl rfl ?_
  refine go_iload 6 61 dX5_swollenBehind_59 rfl rfl ?_
  refine go_iload_n 3 62 dX5_swollenBehind_61 rfl rfl ?_
  refine go_iload 0 64 dX5_swollenBehind_62 rfl rfl ?_
  refine go_iload 8 66 dX5_swollenBehind_64 rfl rfl ?_
  refine go_cVI5 2 clX6 cwX5_63 (m_X6_swollenNext w (rF o0 1) (rk5_1 h0) x1 x5 x2 xs0 x7 M) (rk5_1 h0) 69 dX5_swollenBehind_66 rfl ⟨Nat.le_of_ble_eq_true rfl, Nat.le_of_ble_eq_true rfl⟩ ⟨Nat.zero_le _, Nat.zero_le _⟩ (Nat.le_of_ble_eq_true rfl) (fun q2 M1 _ => ?_)
  refine go_istore [(5, .int q2), (8, .int xs0), (0, .ref (gB G + o0)), (1, .int x1), (2, .int x2), (3, .int x3), (4, .int x4), (6, .int x6), (7, .int x7)] 71 dX5_swollenBehind_69 rfl (by decide) rfl ?_
  refine go_iinc (x6 + 1) 7 [(6, .int (x6 + 1)), (5, .int q2), (8, .int xs0), (0, .ref (gB G + o0)), (1, .int x1), (2, .int x2), (3, .int x3), (4, .int x4), (7, .int x7)] 74 dX5_swollenBehind_71 rfl rfl rfl (by decide) rfl ?_
  refine go_goto 14 dX5_swollenBehind_74 (by decide) ?_
  exact go_lv [3, 4, 5, 6, 7, 1, 0] rfl (hk14 o0 h0 x1 x2 x3 x4 q2 (x6 + 1) M1)
def f_X5_swollenBehind_14 (w : Nat) : Nat → Nat → Int32 → Int32 → Int32 → Int32 → Int32 → Int32 → mM → Option (Int32 × mM)
  | 0, _, _, _, _, _, _, _, _ => none
  | n + 1, o0, x1, x2, x3, x4, x5, x6, M => (if x3 ≤ x6 then some (x5, M) else lt ((M.1 (rF o0 0) 1) + x6) fun y1 => (if x4 = (-1) then bI (f_X6_dampOn w (rF o0 1) y1 M) fun q3 M2 => (f_X5_swollenBehind_52 w (f_X5_swollenBehind_14 w n) o0 x1 x2 x3 x4 x5 x6 y1 q3 M2) else (f_X5_swollenBehind_52 w (f_X5_swollenBehind_14 w n) o0 x1 x2 x3 x4 x5 x6 y1 x4 M)))
set_option maxHeartbeats 4000000 in
set_option maxRecDepth 100000 in
theorem s_X5_swollenBehind_14 {l : Launch} {G : mG} {sk : List mS} (w : Nat) : ∀ (n : Nat) (o0 : Nat) (h0 : isK o0 15) (x1 : Int32) (x2 : Int32) (x3 : Int32) (x4 : Int32) (x5 : Int32) (x6 : Int32) (M : mM), Go muX5_swollenBehind (rm 3) 0 0 l G sk (mFin G sk eI) (f_X5_swollenBehind_14 w n o0 x1 x2 x3 x4 x5 x6 M) 14 [(0, .ref (gB G + o0)), (1, .int x1), (2, .int x2), (3, .int x3), (4, .int x4), (5, .int x5), (6, .int x6)] [] M := by
  intro n
  induction n with
  | zero =>
    intros
    exact go_none
  | succ n ih =>
    intro o0 h0 x1 x2 x3 x4 x5 x6 M
    rw [f_X5_swollenBehind_14]
    refine go_iload 6 16 dX5_swollenBehind_14 rfl rfl ?_
    refine go_iload_n 3 17 dX5_swollenBehind_16 rfl rfl ?_
    refine go_icmp_ge 77 20 dX5_swollenBehind_17 rfl (by decide) (fun _ => ?_) (fun _ => ?_)
    · refine go_iload 5 79 dX5_swollenBehind_77 rfl rfl ?_
      exact go_iret rfl dX5_swollenBehind_79
    · refine go_aload_n 0 21 dX5_swollenBehind_20 rfl rfl ?_
      refine go_getR flX5_21 h0 24 dX5_swollenBehind_21 rfl ?_
      refine go_getI flX5_47 (by decide) (rk5_0 h0) 27 dX5_swollenBehind_24 rfl ?_
      refine go_iload 6 29 dX5_swollenBehind_27 rfl rfl ?_
      refine go_iadd 30 dX5_swollenBehind_29 rfl ?_
      refine go_nmI (fun y1 => ?_)
      refine go_istore [(7, .int y1), (0, .ref (gB G + o0)), (1, .int x1), (2, .int x2), (3, .int x3), (4, .int x4), (5, .int x5), (6, .int x6)] 32 dX5_swollenBehind_30 rfl (by decide) rfl ?_
      refine go_iload 5 34 dX5_swollenBehind_32 rfl rfl ?_
      refine go_iconst (-1) 35 dX5_swollenBehind_34 rfl (by decide) ?_
      refine go_icmp_ne 50 38 dX5_swollenBehind_35 rfl (by decide) (fun _ => ?_) (fun _ => ?_)
      · refine go_iload 5 52 dX5_swollenBehind_50 rfl rfl ?_
        exact go_lv [1, 2, 3, 4, 5, 6, 7, 0] rfl (s_X5_swollenBehind_52 w (f_X5_swollenBehind_14 w n) (fun o0 h0 x1 x2 x3 x4 x5 x6 M => ih o0 h0 x1 x2 x3 x4 x5 x6 M) o0 h0 x1 x2 x3 x4 x5 x6 y1 x4 M)
      · refine go_aload_n 1 39 dX5_swollenBehind_38 rfl rfl ?_
        refine go_getR flX5_31 h0 42 dX5_swollenBehind_39 rfl ?_
        refine go_iload 0 44 dX5_swollenBehind_42 rfl rfl ?_
        refine go_cVI1 0 clX6 cwX5_51 (m_X6_dampOn w (rF o0 1) (rk5_1 h0) y1 M) (rk5_1 h0) 47 dX5_swollenBehind_44 rfl ⟨Nat.le_of_ble_eq_true rfl, Nat.le_of_ble_eq_true rfl⟩ ⟨Nat.zero_le _, Nat.zero_le _⟩ (Nat.le_of_ble_eq_true rfl) (fun q3 M2 _ => ?_)
        refine go_goto 52 dX5_swollenBehind_47 (by decide) ?_
        exact go_lv [1, 2, 3, 4, 5, 6, 7, 0] rfl (s_X5_swollenBehind_52 w (f_X5_swollenBehind_14 w n) (fun o0 h0 x1 x2 x3 x4 x5 x6 M => ih o0 h0 x1 x2 x3 x4 x5 x6 M) o0 h0 x1 x2 x3 x4 x5 x6 y1 q3 M2)
def f_X5_swollenBehind (w : Nat) (o0 : Nat) (x1 : Int32) (x2 : Int32) (x3 : Int32) (x4 : Int32) (M : mM) : Option (Int32 × mM) := chk x1 (sL (rF (rF o0 0) 4)) (lt (M.1 (rF (rF o0 0) 4) x1.toNatClampNeg) fun y1 => (f_X5_swollenBehind_14 w w o0 x1 x2 x3 x4 y1 0 M))
set_option maxHeartbeats 4000000 in
set_option maxRecDepth 100000 in
theorem s_X5_swollenBehind {l : Launch} {G : mG} {sk : List mS} (w : Nat) (o0 : Nat) (h0 : isK o0 15) (x1 : Int32) (x2 : Int32) (x3 : Int32) (x4 : Int32) (M : mM) : Go muX5_swollenBehind (rm 3) 0 0 l G sk (mFin G sk eI) (f_X5_swollenBehind w o0 x1 x2 x3 x4 M) 0 [(0, .ref (gB G + o0)), (1, .int x1), (2, .int x2), (3, .int x3), (4, .int x4)] [] M := by
  unfold f_X5_swollenBehind
  refine go_aload_n 0 1 dX5_swollenBehind_0 rfl rfl ?_
  refine go_getR flX5_21 h0 4 dX5_swollenBehind_1 rfl ?_
  refine go_getR flX5_36 (rk5_0 h0) 7 dX5_swollenBehind_4 rfl ?_
  refine go_iload_n 1 8 dX5_swollenBehind_7 rfl rfl ?_
  refine go_iald (rk9_4 (rk5_0 h0)) 9 dX5_swollenBehind_8 rfl ?_
  refine go_nmI (fun y1 => ?_)
  refine go_istore [(5, .int y1), (0, .ref (gB G + o0)), (1, .int x1), (2, .int x2), (3, .int x3), (4, .int x4)] 11 dX5_swollenBehind_9 rfl (by decide) rfl ?_
  refine go_iconst 0 12 dX5_swollenBehind_11 rfl (by decide) ?_
  refine go_istore [(6, .int 0), (5, .int y1), (0, .ref (gB G + o0)), (1, .int x1), (2, .int x2), (3, .int x3), (4, .int x4)] 14 dX5_swollenBehind_12 rfl (by decide) rfl ?_
  exact go_lv [2, 3, 4, 5, 6, 1, 0] rfl (s_X5_swollenBehind_14 w w o0 h0 x1 x2 x3 x4 y1 0 M)
theorem m_X5_swollenBehind {l : Launch} {G : mG} {sk : List mS} (w : Nat) (o0 : Nat) (h0 : isK o0 15) (x1 : Int32) (x2 : Int32) (x3 : Int32) (x4 : Int32) (M : mM) : Mt l G sk yX5_swollenBehind muX5_swollenBehind 3 [.ref (gB G + o0), .int x1, .int x2, .int x3, .int x4] M eI (f_X5_swollenBehind w o0 x1 x2 x3 x4 M) := Mt.of (by decide) rfl (Nat.le_of_ble_eq_true rfl) (s_X5_swollenBehind w o0 h0 x1 x2 x3 x4 M)
theorem dX5_firstDay_0 : decode cX5_firstDay 0 = .ok (.iconst 0, 1) := by decide +kernel
theorem dX5_firstDay_1 : decode cX5_firstDay 1 = .ok (.istore_n 3, 1) := by decide +kernel
theorem dX5_firstDay_2 : decode cX5_firstDay 2 = .ok (.iload_n 3, 1) := by decide +kernel
theorem dX5_firstDay_3 : decode cX5_firstDay 3 = .ok (.bipush 60, 2) := by decide +kernel
theorem dX5_firstDay_5 : decode cX5_firstDay 5 = .ok (.if_icmp .gt 28, 3) := by decide +kernel
theorem dX5_firstDay_8 : decode cX5_firstDay 8 = .ok (.aload_n 0, 1) := by decide +kernel
theorem dX5_firstDay_9 : decode cX5_firstDay 9 = .ok (.iload_n 3, 1) := by decide +kernel
theorem dX5_firstDay_10 : decode cX5_firstDay 10 = .ok (.invokevirtual 32, 3) := by decide +kernel
theorem dX5_firstDay_13 : decode cX5_firstDay 13 = .ok (.aload_n 0, 1) := by decide +kernel
theorem dX5_firstDay_14 : decode cX5_firstDay 14 = .ok (.getfield 9, 3) := by decide +kernel
theorem dX5_firstDay_17 : decode cX5_firstDay 17 = .ok (.iload_n 3, 1) := by decide +kernel
theorem dX5_firstDay_18 : decode cX5_firstDay 18 = .ok (.iaload, 1) := by decide +kernel
theorem dX5_firstDay_19 : decode cX5_firstDay 19 = .ok (.iload_n 1, 1) := by decide +kernel
theorem dX5_firstDay_20 : decode cX5_firstDay 20 = .ok (.iand, 1) := by decide +kernel
theorem dX5_firstDay_21 : decode cX5_firstDay 21 = .ok (.iload_n 2, 1) := by decide +kernel
theorem dX5_firstDay_22 : decode cX5_firstDay 22 = .ok (.if_icmp .ne 5, 3) := by decide +kernel
theorem dX5_firstDay_25 : decode cX5_firstDay 25 = .ok (.iload_n 3, 1) := by decide +kernel
theorem dX5_firstDay_26 : decode cX5_firstDay 26 = .ok (.ireturn, 1) := by decide +kernel
theorem dX5_firstDay_27 : decode cX5_firstDay 27 = .ok (.iinc 3 1, 3) := by decide +kernel
theorem dX5_firstDay_30 : decode cX5_firstDay 30 = .ok (.goto (-28), 3) := by decide +kernel
theorem dX5_firstDay_33 : decode cX5_firstDay 33 = .ok (.iconst (-1), 1) := by decide +kernel
theorem dX5_firstDay_34 : decode cX5_firstDay 34 = .ok (.ireturn, 1) := by decide +kernel
def f_X5_firstDay_2 (w : Nat) : Nat → Nat → Int32 → Int32 → Int32 → mM → Option (Int32 × mM)
  | 0, _, _, _, _, _ => none
  | n + 1, o0, x1, x2, x3, M => (if 60 < x3 then some ((-1), M) else bV (f_X5_lookAt w o0 x3 M) fun M1 => chk x3 (sL (rF o0 2)) ((if ((M1.1 (rF o0 2) x3.toNatClampNeg) &&& x1) = x2 then some (x3, M1) else (f_X5_firstDay_2 w n o0 x1 x2 (x3 + 1) M1))))
set_option maxHeartbeats 4000000 in
set_option maxRecDepth 100000 in
theorem s_X5_firstDay_2 {l : Launch} {G : mG} {sk : List mS} (w : Nat) : ∀ (n : Nat) (o0 : Nat) (h0 : isK o0 15) (x1 : Int32) (x2 : Int32) (x3 : Int32) (M : mM), Go muX5_firstDay (rm 5) 0 0 l G sk (mFin G sk eI) (f_X5_firstDay_2 w n o0 x1 x2 x3 M) 2 [(0, .ref (gB G + o0)), (1, .int x1), (2, .int x2), (3, .int x3)] [] M := by
  intro n
  induction n with
  | zero =>
    intros
    exact go_none
  | succ n ih =>
    intro o0 h0 x1 x2 x3 M
    rw [f_X5_firstDay_2]
    refine go_iload_n 3 3 dX5_firstDay_2 rfl rfl ?_
    refine go_bipush 60 5 dX5_firstDay_3 rfl (by decide) ?_
    refine go_icmp_gt 33 8 dX5_firstDay_5 rfl (by decide) (fun _ => ?_) (fun _ => ?_)
    · refine go_iconst (-1) 34 dX5_firstDay_33 rfl (by decide) ?_
      exact go_iret rfl dX5_firstDay_34
    · refine go_aload_n 0 9 dX5_firstDay_8 rfl rfl ?_
      refine go_iload_n 3 10 dX5_firstDay_9 rfl rfl ?_
      refine go_cVV1 4 clX5 cwX5_32 (m_X5_lookAt w o0 h0 x3 M) h0 13 dX5_firstDay_10 rfl ⟨Nat.le_of_ble_eq_true rfl, Nat.le_of_ble_eq_true rfl⟩ ⟨Nat.zero_le _, Nat.zero_le _⟩ (Nat.le_of_ble_eq_true rfl) (fun M1 _ => ?_)
      refine go_aload_n 0 14 dX5_firstDay_13 rfl rfl ?_
      refine go_getR flX5_9 h0 17 dX5_firstDay_14 rfl ?_
      refine go_iload_n 3 18 dX5_firstDay_17 rfl rfl ?_
      refine go_iald (rk5_2 h0) 19 dX5_firstDay_18 rfl ?_
      refine go_iload_n 1 20 dX5_firstDay_19 rfl rfl ?_
      refine go_iand 21 dX5_firstDay_20 rfl ?_
      refine go_iload_n 2 22 dX5_firstDay_21 rfl rfl ?_
      refine go_icmp_ne 27 25 dX5_firstDay_22 rfl (by decide) (fun _ => ?_) (fun _ => ?_)
      · refine go_iinc (x3 + 1) 3 [(3, .int (x3 + 1)), (0, .ref (gB G + o0)), (1, .int x1), (2, .int x2)] 30 dX5_firstDay_27 rfl rfl rfl (by decide) rfl ?_
        refine go_goto 2 dX5_firstDay_30 (by decide) ?_
        exact go_lv [1, 2, 3, 0] rfl (ih o0 h0 x1 x2 (x3 + 1) M1)
      · refine go_iload_n 3 26 dX5_firstDay_25 rfl rfl ?_
        exact go_iret rfl dX5_firstDay_26
def f_X5_firstDay (w : Nat) (o0 : Nat) (x1 : Int32) (x2 : Int32) (M : mM) : Option (Int32 × mM) := (f_X5_firstDay_2 w w o0 x1 x2 0 M)
set_option maxHeartbeats 4000000 in
set_option maxRecDepth 100000 in
theorem s_X5_firstDay {l : Launch} {G : mG} {sk : List mS} (w : Nat) (o0 : Nat) (h0 : isK o0 15) (x1 : Int32) (x2 : Int32) (M : mM) : Go muX5_firstDay (rm 5) 0 0 l G sk (mFin G sk eI) (f_X5_firstDay w o0 x1 x2 M) 0 [(0, .ref (gB G + o0)), (1, .int x1), (2, .int x2)] [] M := by
  unfold f_X5_firstDay
  refine go_iconst 0 1 dX5_firstDay_0 rfl (by decide) ?_
  refine go_istore_n [(3, .int 0), (0, .ref (gB G + o0)), (1, .int x1), (2, .int x2)] 2 dX5_firstDay_1 rfl rfl (by decide) rfl ?_
  exact go_lv [1, 2, 3, 0] rfl (s_X5_firstDay_2 w w o0 h0 x1 x2 0 M)
theorem m_X5_firstDay {l : Launch} {G : mG} {sk : List mS} (w : Nat) (o0 : Nat) (h0 : isK o0 15) (x1 : Int32) (x2 : Int32) (M : mM) : Mt l G sk yX5_firstDay muX5_firstDay 5 [.ref (gB G + o0), .int x1, .int x2] M eI (f_X5_firstDay w o0 x1 x2 M) := Mt.of (by decide) rfl (Nat.le_of_ble_eq_true rfl) (s_X5_firstDay w o0 h0 x1 x2 M)
theorem dX5_meetingDay_0 : decode cX5_meetingDay 0 = .ok (.iload_n 1, 1) := by decide +kernel
theorem dX5_meetingDay_1 : decode cX5_meetingDay 1 = .ok (.istore 4, 2) := by decide +kernel
theorem dX5_meetingDay_3 : decode cX5_meetingDay 3 = .ok (.iload_n 2, 1) := by decide +kernel
theorem dX5_meetingDay_4 : decode cX5_meetingDay 4 = .ok (.istore 5, 2) := by decide +kernel
theorem dX5_meetingDay_6 : decode cX5_meetingDay 6 = .ok (.iconst 0, 1) := by decide +kernel
theorem dX5_meetingDay_7 : decode cX5_meetingDay 7 = .ok (.istore 6, 2) := by decide +kernel
theorem dX5_meetingDay_9 : decode cX5_meetingDay 9 = .ok (.iload 6, 2) := by decide +kernel
theorem dX5_meetingDay_11 : decode cX5_meetingDay 11 = .ok (.bipush 40, 2) := by decide +kernel
theorem dX5_meetingDay_13 : decode cX5_meetingDay 13 = .ok (.if_icmp .gt 66, 3) := by decide +kernel
theorem dX5_meetingDay_16 : decode cX5_meetingDay 16 = .ok (.iload 4, 2) := by decide +kernel
theorem dX5_meetingDay_18 : decode cX5_meetingDay 18 = .ok (.iload 5, 2) := by decide +kernel
theorem dX5_meetingDay_20 : decode cX5_meetingDay 20 = .ok (.iand, 1) := by decide +kernel
theorem dX5_meetingDay_21 : decode cX5_meetingDay 21 = .ok (.ifCond .eq 6, 3) := by decide +kernel
theorem dX5_meetingDay_24 : decode cX5_meetingDay 24 = .ok (.iload 6, 2) := by decide +kernel
theorem dX5_meetingDay_26 : decode cX5_meetingDay 26 = .ok (.ireturn, 1) := by decide +kernel
theorem dX5_meetingDay_27 : decode cX5_meetingDay 27 = .ok (.aload_n 0, 1) := by decide +kernel
theorem dX5_meetingDay_28 : decode cX5_meetingDay 28 = .ok (.iload 6, 2) := by decide +kernel
theorem dX5_meetingDay_30 : decode cX5_meetingDay 30 = .ok (.invokevirtual 32, 3) := by decide +kernel
theorem dX5_meetingDay_33 : decode cX5_meetingDay 33 = .ok (.aload_n 0, 1) := by decide +kernel
theorem dX5_meetingDay_34 : decode cX5_meetingDay 34 = .ok (.getfield 31, 3) := by decide +kernel
theorem dX5_meetingDay_37 : decode cX5_meetingDay 37 = .ok (.iload 4, 2) := by decide +kernel
theorem dX5_meetingDay_39 : decode cX5_meetingDay 39 = .ok (.aload_n 0, 1) := by decide +kernel
theorem dX5_meetingDay_40 : decode cX5_meetingDay 40 = .ok (.getfield 9, 3) := by decide +kernel
theorem dX5_meetingDay_43 : decode cX5_meetingDay 43 = .ok (.iload 6, 2) := by decide +kernel
theorem dX5_meetingDay_45 : decode cX5_meetingDay 45 = .ok (.iaload, 1) := by decide +kernel
theorem dX5_meetingDay_46 : decode cX5_meetingDay 46 = .ok (.invokevirtual 75, 3) := by decide +kernel
theorem dX5_meetingDay_49 : decode cX5_meetingDay 49 = .ok (.istore 4, 2) := by decide +kernel
theorem dX5_meetingDay_51 : decode cX5_meetingDay 51 = .ok (.iload_n 3, 1) := by decide +kernel
theorem dX5_meetingDay_52 : decode cX5_meetingDay 52 = .ok (.ifCond .eq 21, 3) := by decide +kernel
theorem dX5_meetingDay_55 : decode cX5_meetingDay 55 = .ok (.aload_n 0, 1) := by decide +kernel
theorem dX5_meetingDay_56 : decode cX5_meetingDay 56 = .ok (.getfield 31, 3) := by decide +kernel
theorem dX5_meetingDay_59 : decode cX5_meetingDay 59 = .ok (.iload 5, 2) := by decide +kernel
theorem dX5_meetingDay_61 : decode cX5_meetingDay 61 = .ok (.aload_n 0, 1) := by decide +kernel
theorem dX5_meetingDay_62 : decode cX5_meetingDay 62 = .ok (.getfield 9, 3) := by decide +kernel
theorem dX5_meetingDay_65 : decode cX5_meetingDay 65 = .ok (.iload 6, 2) := by decide +kernel
theorem dX5_meetingDay_67 : decode cX5_meetingDay 67 = .ok (.iaload, 1) := by decide +kernel
theorem dX5_meetingDay_68 : decode cX5_meetingDay 68 = .ok (.invokevirtual 75, 3) := by decide +kernel
theorem dX5_meetingDay_71 : decode cX5_meetingDay 71 = .ok (.istore 5, 2) := by decide +kernel
theorem dX5_meetingDay_73 : decode cX5_meetingDay 73 = .ok (.iinc 6 1, 3) := by decide +kernel
theorem dX5_meetingDay_76 : decode cX5_meetingDay 76 = .ok (.goto (-67), 3) := by decide +kernel
theorem dX5_meetingDay_79 : decode cX5_meetingDay 79 = .ok (.iconst (-1), 1) := by decide +kernel
theorem dX5_meetingDay_80 : decode cX5_meetingDay 80 = .ok (.ireturn, 1) := by decide +kernel
def f_X5_meetingDay_9 (w : Nat) : Nat → Nat → Int32 → Int32 → Int32 → Int32 → mM → Option (Int32 × mM)
  | 0, _, _, _, _, _, _ => none
  | n + 1, o0, x3, x4, x5, x6, M => (if 40 < x6 then some ((-1), M) else (if (x4 &&& x5) = 0 then bV (f_X5_lookAt w o0 x6 M) fun M1 => chk x6 (sL (rF o0 2)) (bI (f_X6_oneDoorOn w (rF o0 1) x4 (M1.1 (rF o0 2) x6.toNatClampNeg) M1) fun q3 M2 => (if x3 = 0 then (f_X5_meetingDay_9 w n o0 x3 q3 x5 (x6 + 1) M2) else chk x6 (sL (rF o0 2)) (bI (f_X6_oneDoorOn w (rF o0 1) x5 (M2.1 (rF o0 2) x6.toNatClampNeg) M2) fun q5 M4 => (f_X5_meetingDay_9 w n o0 x3 q3 q5 (x6 + 1) M4)))) else some (x6, M)))
set_option maxHeartbeats 4000000 in
set_option maxRecDepth 100000 in
theorem s_X5_meetingDay_9 {l : Launch} {G : mG} {sk : List mS} (w : Nat) : ∀ (n : Nat) (o0 : Nat) (h0 : isK o0 15) (x3 : Int32) (x4 : Int32) (x5 : Int32) (x6 : Int32) (M : mM), Go muX5_meetingDay (rm 5) 0 0 l G sk (mFin G sk eI) (f_X5_meetingDay_9 w n o0 x3 x4 x5 x6 M) 9 [(0, .ref (gB G + o0)), (3, .int x3), (4, .int x4), (5, .int x5), (6, .int x6)] [] M := by
  intro n
  induction n with
  | zero =>
    intros
    exact go_none
  | succ n ih =>
    intro o0 h0 x3 x4 x5 x6 M
    rw [f_X5_meetingDay_9]
    refine go_iload 4 11 dX5_meetingDay_9 rfl rfl ?_
    refine go_bipush 40 13 dX5_meetingDay_11 rfl (by decide) ?_
    refine go_icmp_gt 79 16 dX5_meetingDay_13 rfl (by decide) (fun _ => ?_) (fun _ => ?_)
    · refine go_iconst (-1) 80 dX5_meetingDay_79 rfl (by decide) ?_
      exact go_iret rfl dX5_meetingDay_80
    · refine go_iload 2 18 dX5_meetingDay_16 rfl rfl ?_
      refine go_iload 3 20 dX5_meetingDay_18 rfl rfl ?_
      refine go_iand 21 dX5_meetingDay_20 rfl ?_
      refine go_if_eq 27 24 dX5_meetingDay_21 rfl (by decide) (fun _ => ?_) (fun _ => ?_)
      · refine go_aload_n 0 28 dX5_meetingDay_27 rfl rfl ?_
        refine go_iload 4 30 dX5_meetingDay_28 rfl rfl ?_
        refine go_cVV1 4 clX5 cwX5_32 (m_X5_lookAt w o0 h0 x6 M) h0 33 dX5_meetingDay_30 rfl ⟨Nat.le_of_ble_eq_true rfl, Nat.le_of_ble_eq_true rfl⟩ ⟨Nat.zero_le _, Nat.zero_le _⟩ (Nat.le_of_ble_eq_true rfl) (fun M1 _ => ?_)
        refine go_aload_n 0 34 dX5_meetingDay_33 rfl rfl ?_
        refine go_getR flX5_31 h0 37 dX5_meetingDay_34 rfl ?_
        refine go_iload 2 39 dX5_meetingDay_37 rfl rfl ?_
        refine go_aload_n 0 40 dX5_meetingDay_39 rfl rfl ?_
        refine go_getR flX5_9 h0 43 dX5_meetingDay_40 rfl ?_
        refine go_iload 4 45 dX5_meetingDay_43 rfl rfl ?_
        refine go_iald (rk5_2 h0) 46 dX5_meetingDay_45 rfl ?_
        refine go_cVI2 0 clX6 cwX5_75 (m_X6_oneDoorOn w (rF o0 1) (rk5_1 h0) x4 (M1.1 (rF o0 2) x6.toNatClampNeg) M1) (rk5_1 h0) 49 dX5_meetingDay_46 rfl ⟨Nat.le_of_ble_eq_true rfl, Nat.le_of_ble_eq_true rfl⟩ ⟨Nat.zero_le _, Nat.zero_le _⟩ (Nat.le_of_ble_eq_true rfl) (fun q3 M2 _ => ?_)
        refine go_istore [(4, .int q3), (0, .ref (gB G + o0)), (3, .int x3), (5, .int x5), (6, .int x6)] 51 dX5_meetingDay_49 rfl (by decide) rfl ?_
        refine go_iload_n 2 52 dX5_meetingDay_51 rfl rfl ?_
        refine go_if_eq 73 55 dX5_meetingDay_52 rfl (by decide) (fun _ => ?_) (fun _ => ?_)
        · refine go_iinc (x6 + 1) 4 [(6, .int (x6 + 1)), (4, .int q3), (0, .ref (gB G + o0)), (3, .int x3), (5, .int x5)] 76 dX5_meetingDay_73 rfl rfl rfl (by decide) rfl ?_
          refine go_goto 9 dX5_meetingDay_76 (by decide) ?_
          exact go_lv [2, 3, 1, 4, 0] rfl (ih o0 h0 x3 q3 x5 (x6 + 1) M2)
        · refine go_aload_n 1 56 dX5_meetingDay_55 rfl rfl ?_
          refine go_getR flX5_31 h0 59 dX5_meetingDay_56 rfl ?_
          refine go_iload 3 61 dX5_meetingDay_59 rfl rfl ?_
          refine go_aload_n 1 62 dX5_meetingDay_61 rfl rfl ?_
          refine go_getR flX5_9 h0 65 dX5_meetingDay_62 rfl ?_
          refine go_iload 4 67 dX5_meetingDay_65 rfl rfl ?_
          refine go_iald (rk5_2 h0) 68 dX5_meetingDay_67 rfl ?_
          refine go_cVI2 0 clX6 cwX5_75 (m_X6_oneDoorOn w (rF o0 1) (rk5_1 h0) x5 (M2.1 (rF o0 2) x6.toNatClampNeg) M2) (rk5_1 h0) 71 dX5_meetingDay_68 rfl ⟨Nat.le_of_ble_eq_true rfl, Nat.le_of_ble_eq_true rfl⟩ ⟨Nat.zero_le _, Nat.zero_le _⟩ (Nat.le_of_ble_eq_true rfl) (fun q5 M4 _ => ?_)
          refine go_istore [(5, .int q5), (4, .int q3), (0, .ref (gB G + o0)), (3, .int x3), (6, .int x6)] 73 dX5_meetingDay_71 rfl (by decide) rfl ?_
          refine go_iinc (x6 + 1) 4 [(6, .int (x6 + 1)), (5, .int q5), (4, .int q3), (0, .ref (gB G + o0)), (3, .int x3)] 76 dX5_meetingDay_73 rfl rfl rfl (by decide) rfl ?_
          refine go_goto 9 dX5_meetingDay_76 (by decide) ?_
          exact go_lv [3, 4, 2, 1, 0] rfl (ih o0 h0 x3 q3 q5 (x6 + 1) M4)
      · refine go_iload 4 26 dX5_meetingDay_24 rfl rfl ?_
        exact go_iret rfl dX5_meetingDay_26
def f_X5_meetingDay (w : Nat) (o0 : Nat) (x1 : Int32) (x2 : Int32) (x3 : Int32) (M : mM) : Option (Int32 × mM) := (f_X5_meetingDay_9 w w o0 x3 x1 x2 0 M)
set_option maxHeartbeats 4000000 in
set_option maxRecDepth 100000 in
theorem s_X5_meetingDay {l : Launch} {G : mG} {sk : List mS} (w : Nat) (o0 : Nat) (h0 : isK o0 15) (x1 : Int32) (x2 : Int32) (x3 : Int32) (M : mM) : Go muX5_meetingDay (rm 5) 0 0 l G sk (mFin G sk eI) (f_X5_meetingDay w o0 x1 x2 x3 M) 0 [(0, .ref (gB G + o0)), (1, .int x1), (2, .int x2), (3, .int x3)] [] M := by
  unfold f_X5_meetingDay
  refine go_iload_n 1 1 dX5_meetingDay_0 rfl rfl ?_
  refine go_istore [(4, .int x1), (0, .ref (gB G + o0)), (1, .int x1), (2, .int x2), (3, .int x3)] 3 dX5_meetingDay_1 rfl (by decide) rfl ?_
  refine go_iload_n 3 4 dX5_meetingDay_3 rfl rfl ?_
  refine go_istore [(5, .int x2), (4, .int x1), (0, .ref (gB G + o0)), (1, .int x1), (2, .int x2), (3, .int x3)] 6 dX5_meetingDay_4 rfl (by decide) rfl ?_
  refine go_iconst 0 7 dX5_meetingDay_6 rfl (by decide) ?_
  refine go_istore [(6, .int 0), (5, .int x2), (4, .int x1), (0, .ref (gB G + o0)), (1, .int x1), (2, .int x2), (3, .int x3)] 9 dX5_meetingDay_7 rfl (by decide) rfl ?_
  exact go_lv [3, 6, 2, 1, 0] rfl (s_X5_meetingDay_9 w w o0 h0 x3 x1 x2 0 M)
theorem m_X5_meetingDay {l : Launch} {G : mG} {sk : List mS} (w : Nat) (o0 : Nat) (h0 : isK o0 15) (x1 : Int32) (x2 : Int32) (x3 : Int32) (M : mM) : Mt l G sk yX5_meetingDay muX5_meetingDay 5 [.ref (gB G + o0), .int x1, .int x2, .int x3] M eI (f_X5_meetingDay w o0 x1 x2 x3 M) := Mt.of (by decide) rfl (Nat.le_of_ble_eq_true rfl) (s_X5_meetingDay w o0 h0 x1 x2 x3 M)
theorem dX5_roomsBehind_0 : decode cX5_roomsBehind 0 = .ok (.iconst 1, 1) := by decide +kernel
theorem dX5_roomsBehind_1 : decode cX5_roomsBehind 1 = .ok (.iload_n 1, 1) := by decide +kernel
theorem dX5_roomsBehind_2 : decode cX5_roomsBehind 2 = .ok (.ishl, 1) := by decide +kernel
theorem dX5_roomsBehind_3 : decode cX5_roomsBehind 3 = .ok (.istore_n 3, 1) := by decide +kernel
theorem dX5_roomsBehind_4 : decode cX5_roomsBehind 4 = .ok (.iload_n 2, 1) := by decide +kernel
theorem dX5_roomsBehind_5 : decode cX5_roomsBehind 5 = .ok (.bipush 60, 2) := by decide +kernel
theorem dX5_roomsBehind_7 : decode cX5_roomsBehind 7 = .ok (.invokestatic 79, 3) := by decide +kernel
theorem dX5_roomsBehind_10 : decode cX5_roomsBehind 10 = .ok (.iconst 1, 1) := by decide +kernel
theorem dX5_roomsBehind_11 : decode cX5_roomsBehind 11 = .ok (.isub, 1) := by decide +kernel
theorem dX5_roomsBehind_12 : decode cX5_roomsBehind 12 = .ok (.istore 4, 2) := by decide +kernel
theorem dX5_roomsBehind_14 : decode cX5_roomsBehind 14 = .ok (.iload 4, 2) := by decide +kernel
theorem dX5_roomsBehind_16 : decode cX5_roomsBehind 16 = .ok (.ifCond .lt 25, 3) := by decide +kernel
theorem dX5_roomsBehind_19 : decode cX5_roomsBehind 19 = .ok (.aload_n 0, 1) := by decide +kernel
theorem dX5_roomsBehind_20 : decode cX5_roomsBehind 20 = .ok (.getfield 31, 3) := by decide +kernel
theorem dX5_roomsBehind_23 : decode cX5_roomsBehind 23 = .ok (.iload_n 3, 1) := by decide +kernel
theorem dX5_roomsBehind_24 : decode cX5_roomsBehind 24 = .ok (.aload_n 0, 1) := by decide +kernel
theorem dX5_roomsBehind_25 : decode cX5_roomsBehind 25 = .ok (.getfield 9, 3) := by decide +kernel
theorem dX5_roomsBehind_28 : decode cX5_roomsBehind 28 = .ok (.iload 4, 2) := by decide +kernel
theorem dX5_roomsBehind_30 : decode cX5_roomsBehind 30 = .ok (.iaload, 1) := by decide +kernel
theorem dX5_roomsBehind_31 : decode cX5_roomsBehind 31 = .ok (.invokevirtual 75, 3) := by decide +kernel
theorem dX5_roomsBehind_34 : decode cX5_roomsBehind 34 = .ok (.istore_n 3, 1) := by decide +kernel
theorem dX5_roomsBehind_35 : decode cX5_roomsBehind 35 = .ok (.iinc 4 (-1), 3) := by decide +kernel
theorem dX5_roomsBehind_38 : decode cX5_roomsBehind 38 = .ok (.goto (-24), 3) := by decide +kernel
theorem dX5_roomsBehind_41 : decode cX5_roomsBehind 41 = .ok (.iload_n 3, 1) := by decide +kernel
theorem dX5_roomsBehind_42 : decode cX5_roomsBehind 42 = .ok (.ireturn, 1) := by decide +kernel
def f_X5_roomsBehind_14 (w : Nat) : Nat → Nat → Int32 → Int32 → mM → Option (Int32 × mM)
  | 0, _, _, _, _ => none
  | n + 1, o0, x3, x4, M => (if x4 < 0 then some (x3, M) else chk x4 (sL (rF o0 2)) (bI (f_X6_oneDoorOn w (rF o0 1) x3 (M.1 (rF o0 2) x4.toNatClampNeg) M) fun q2 M1 => (f_X5_roomsBehind_14 w n o0 q2 (x4 + (-1)) M1)))
set_option maxHeartbeats 4000000 in
set_option maxRecDepth 100000 in
theorem s_X5_roomsBehind_14 {l : Launch} {G : mG} {sk : List mS} (w : Nat) : ∀ (n : Nat) (o0 : Nat) (h0 : isK o0 15) (x3 : Int32) (x4 : Int32) (M : mM), Go muX5_roomsBehind (rm 1) 0 0 l G sk (mFin G sk eI) (f_X5_roomsBehind_14 w n o0 x3 x4 M) 14 [(0, .ref (gB G + o0)), (3, .int x3), (4, .int x4)] [] M := by
  intro n
  induction n with
  | zero =>
    intros
    exact go_none
  | succ n ih =>
    intro o0 h0 x3 x4 M
    rw [f_X5_roomsBehind_14]
    refine go_iload 2 16 dX5_roomsBehind_14 rfl rfl ?_
    refine go_if_lt 41 19 dX5_roomsBehind_16 rfl (by decide) (fun _ => ?_) (fun _ => ?_)
    · refine go_iload_n 1 42 dX5_roomsBehind_41 rfl rfl ?_
      exact go_iret rfl dX5_roomsBehind_42
    · refine go_aload_n 0 20 dX5_roomsBehind_19 rfl rfl ?_
      refine go_getR flX5_31 h0 23 dX5_roomsBehind_20 rfl ?_
      refine go_iload_n 1 24 dX5_roomsBehind_23 rfl rfl ?_
      refine go_aload_n 0 25 dX5_roomsBehind_24 rfl rfl ?_
      refine go_getR flX5_9 h0 28 dX5_roomsBehind_25 rfl ?_
      refine go_iload 2 30 dX5_roomsBehind_28 rfl rfl ?_
      refine go_iald (rk5_2 h0) 31 dX5_roomsBehind_30 rfl ?_
      refine go_cVI2 0 clX6 cwX5_75 (m_X6_oneDoorOn w (rF o0 1) (rk5_1 h0) x3 (M.1 (rF o0 2) x4.toNatClampNeg) M) (rk5_1 h0) 34 dX5_roomsBehind_31 rfl ⟨Nat.le_of_ble_eq_true rfl, Nat.le_of_ble_eq_true rfl⟩ ⟨Nat.zero_le _, Nat.zero_le _⟩ (Nat.le_of_ble_eq_true rfl) (fun q2 M1 _ => ?_)
      refine go_istore_n [(3, .int q2), (0, .ref (gB G + o0)), (4, .int x4)] 35 dX5_roomsBehind_34 rfl rfl (by decide) rfl ?_
      refine go_iinc (x4 + (-1)) 2 [(4, .int (x4 + (-1))), (3, .int q2), (0, .ref (gB G + o0))] 38 dX5_roomsBehind_35 rfl rfl rfl (by decide) rfl ?_
      refine go_goto 14 dX5_roomsBehind_38 (by decide) ?_
      exact go_lv [2, 1, 0] rfl (ih o0 h0 q2 (x4 + (-1)) M1)
def f_X5_roomsBehind (w : Nat) (o0 : Nat) (x1 : Int32) (x2 : Int32) (M : mM) : Option (Int32 × mM) := lt ((1 : Int32) <<< (x1 &&& 31)) fun y1 => lt ((mnI x2 60) - 1) fun y2 => (f_X5_roomsBehind_14 w w o0 y1 y2 M)
set_option maxHeartbeats 4000000 in
set_option maxRecDepth 100000 in
theorem s_X5_roomsBehind {l : Launch} {G : mG} {sk : List mS} (w : Nat) (o0 : Nat) (h0 : isK o0 15) (x1 : Int32) (x2 : Int32) (M : mM) : Go muX5_roomsBehind (rm 1) 0 0 l G sk (mFin G sk eI) (f_X5_roomsBehind w o0 x1 x2 M) 0 [(0, .ref (gB G + o0)), (1, .int x1), (2, .int x2)] [] M := by
  unfold f_X5_roomsBehind
  refine go_iconst 1 1 dX5_roomsBehind_0 rfl (by decide) ?_
  refine go_iload_n 1 2 dX5_roomsBehind_1 rfl rfl ?_
  refine go_ishl 3 dX5_roomsBehind_2 rfl ?_
  refine go_nmI (fun y1 => ?_)
  refine go_istore_n [(3, .int y1), (0, .ref (gB G + o0)), (1, .int x1), (2, .int x2)] 4 dX5_roomsBehind_3 rfl rfl (by decide) rfl ?_
  refine go_iload_n 3 5 dX5_roomsBehind_4 rfl rfl ?_
  refine go_bipush 60 7 dX5_roomsBehind_5 rfl (by decide) ?_
  refine go_min miX5_79 10 dX5_roomsBehind_7 rfl (Nat.le_of_ble_eq_true rfl) (Nat.le_of_ble_eq_true rfl) ⟨Nat.zero_le _, Nat.zero_le _⟩ ?_
  refine go_iconst 1 11 dX5_roomsBehind_10 rfl (by decide) ?_
  refine go_isub 12 dX5_roomsBehind_11 rfl ?_
  refine go_nmI (fun y2 => ?_)
  refine go_istore [(4, .int y2), (3, .int y1), (0, .ref (gB G + o0)), (1, .int x1), (2, .int x2)] 14 dX5_roomsBehind_12 rfl (by decide) rfl ?_
  exact go_lv [2, 1, 0] rfl (s_X5_roomsBehind_14 w w o0 h0 y1 y2 M)
theorem m_X5_roomsBehind {l : Launch} {G : mG} {sk : List mS} (w : Nat) (o0 : Nat) (h0 : isK o0 15) (x1 : Int32) (x2 : Int32) (M : mM) : Mt l G sk yX5_roomsBehind muX5_roomsBehind 1 [.ref (gB G + o0), .int x1, .int x2] M eI (f_X5_roomsBehind w o0 x1 x2 M) := Mt.of (by decide) rfl (Nat.le_of_ble_eq_true rfl) (s_X5_roomsBehind w o0 h0 x1 x2 M)
theorem dX5_agreesWith_0 : decode cX5_agreesWith 0 = .ok (.iconst 0, 1) := by decide +kernel
theorem dX5_agreesWith_1 : decode cX5_agreesWith 1 = .ok (.istore_n 3, 1) := by decide +kernel
theorem dX5_agreesWith_2 : decode cX5_agreesWith 2 = .ok (.iload_n 3, 1) := by decide +kernel
theorem dX5_agreesWith_3 : decode cX5_agreesWith 3 = .ok (.aload_n 1, 1) := by decide +kernel
theorem dX5_agreesWith_4 : decode cX5_agreesWith 4 = .ok (.getfield 88, 3) := by decide +kernel
theorem dX5_agreesWith_7 : decode cX5_agreesWith 7 = .ok (.if_icmp .ge 67, 3) := by decide +kernel
theorem dX5_agreesWith_10 : decode cX5_agreesWith 10 = .ok (.iload_n 3, 1) := by decide +kernel
theorem dX5_agreesWith_11 : decode cX5_agreesWith 11 = .ok (.bipush 8, 2) := by decide +kernel
theorem dX5_agreesWith_13 : decode cX5_agreesWith 13 = .ok (.if_icmp .ge 61, 3) := by decide +kernel
theorem dX5_agreesWith_16 : decode cX5_agreesWith 16 = .ok (.aload_n 1, 1) := by decide +kernel
theorem dX5_agreesWith_17 : decode cX5_agreesWith 17 = .ok (.getfield 93, 3) := by decide +kernel
theorem dX5_agreesWith_20 : decode cX5_agreesWith 20 = .ok (.iload_n 3, 1) := by decide +kernel
theorem dX5_agreesWith_21 : decode cX5_agreesWith 21 = .ok (.iaload, 1) := by decide +kernel
theorem dX5_agreesWith_22 : decode cX5_agreesWith 22 = .ok (.istore 4, 2) := by decide +kernel
theorem dX5_agreesWith_24 : decode cX5_agreesWith 24 = .ok (.aload_n 0, 1) := by decide +kernel
theorem dX5_agreesWith_25 : decode cX5_agreesWith 25 = .ok (.iload 4, 2) := by decide +kernel
theorem dX5_agreesWith_27 : decode cX5_agreesWith 27 = .ok (.aload_n 0, 1) := by decide +kernel
theorem dX5_agreesWith_28 : decode cX5_agreesWith 28 = .ok (.getfield 21, 3) := by decide +kernel
theorem dX5_agreesWith_31 : decode cX5_agreesWith 31 = .ok (.getfield 60, 3) := by decide +kernel
theorem dX5_agreesWith_34 : decode cX5_agreesWith 34 = .ok (.iload 4, 2) := by decide +kernel
theorem dX5_agreesWith_36 : decode cX5_agreesWith 36 = .ok (.iaload, 1) := by decide +kernel
theorem dX5_agreesWith_37 : decode cX5_agreesWith 37 = .ok (.aload_n 1, 1) := by decide +kernel
theorem dX5_agreesWith_38 : decode cX5_agreesWith 38 = .ok (.getfield 96, 3) := by decide +kernel
theorem dX5_agreesWith_41 : decode cX5_agreesWith 41 = .ok (.iload_n 3, 1) := by decide +kernel
theorem dX5_agreesWith_42 : decode cX5_agreesWith 42 = .ok (.iaload, 1) := by decide +kernel
theorem dX5_agreesWith_43 : decode cX5_agreesWith 43 = .ok (.iload_n 2, 1) := by decide +kernel
theorem dX5_agreesWith_44 : decode cX5_agreesWith 44 = .ok (.invokevirtual 99, 3) := by decide +kernel
theorem dX5_agreesWith_47 : decode cX5_agreesWith 47 = .ok (.istore 5, 2) := by decide +kernel
theorem dX5_agreesWith_49 : decode cX5_agreesWith 49 = .ok (.aload_n 0, 1) := by decide +kernel
theorem dX5_agreesWith_50 : decode cX5_agreesWith 50 = .ok (.iload 4, 2) := by decide +kernel
theorem dX5_agreesWith_52 : decode cX5_agreesWith 52 = .ok (.iload 5, 2) := by decide +kernel
theorem dX5_agreesWith_54 : decode cX5_agreesWith 54 = .ok (.invokevirtual 67, 3) := by decide +kernel
theorem dX5_agreesWith_57 : decode cX5_agreesWith 57 = .ok (.aload_n 1, 1) := by decide +kernel
theorem dX5_agreesWith_58 : decode cX5_agreesWith 58 = .ok (.getfield 103, 3) := by decide +kernel
theorem dX5_agreesWith_61 : decode cX5_agreesWith 61 = .ok (.iload_n 3, 1) := by decide +kernel
theorem dX5_agreesWith_62 : decode cX5_agreesWith 62 = .ok (.baload, 1) := by decide +kernel
theorem dX5_agreesWith_63 : decode cX5_agreesWith 63 = .ok (.if_icmp .eq 5, 3) := by decide +kernel
theorem dX5_agreesWith_66 : decode cX5_agreesWith 66 = .ok (.iconst 0, 1) := by decide +kernel
theorem dX5_agreesWith_67 : decode cX5_agreesWith 67 = .ok (.ireturn, 1) := by decide +kernel
theorem dX5_agreesWith_68 : decode cX5_agreesWith 68 = .ok (.iinc 3 1, 3) := by decide +kernel
theorem dX5_agreesWith_71 : decode cX5_agreesWith 71 = .ok (.goto (-69), 3) := by decide +kernel
theorem dX5_agreesWith_74 : decode cX5_agreesWith 74 = .ok (.iconst 1, 1) := by decide +kernel
theorem dX5_agreesWith_75 : decode cX5_agreesWith 75 = .ok (.ireturn, 1) := by decide +kernel
def f_X5_agreesWith_2 (w : Nat) : Nat → Nat → Nat → Int32 → Int32 → mM → Option (Int32 × mM)
  | 0, _, _, _, _, _ => none
  | n + 1, o0, o1, x2, x3, M => (if (M.1 o1 0) ≤ x3 then rtB 1 M else (if 8 ≤ x3 then rtB 1 M else chk x3 (sL (rF o1 2)) (lt (M.1 (rF o1 2) x3.toNatClampNeg) fun y1 => chk y1 (sL (rF (rF o0 0) 3)) (chk x3 (sL (rF o1 3)) (bI (f_X5_swollenBehind w o0 y1 (M.1 (rF (rF o0 0) 3) y1.toNatClampNeg) (M.1 (rF o1 3) x3.toNatClampNeg) x2 M) fun q3 M2 => bI (f_X5_sticksAt w o0 y1 q3 M2) fun q5 M4 => chk x3 (sL (rF o1 4)) ((if q5 = (M4.1 (rF o1 4) x3.toNatClampNeg) then (f_X5_agreesWith_2 w n o0 o1 x2 (x3 + 1) M4) else rtB 0 M4)))))))
set_option maxHeartbeats 4000000 in
set_option maxRecDepth 100000 in
theorem s_X5_agreesWith_2 {l : Launch} {G : mG} {sk : List mS} (w : Nat) : ∀ (n : Nat) (o0 : Nat) (h0 : isK o0 15) (o1 : Nat) (h1 : isK o1 18) (x2 : Int32) (x3 : Int32) (M : mM), Go muX5_agreesWith (rm 4) 0 0 l G sk (mFin G sk eI) (f_X5_agreesWith_2 w n o0 o1 x2 x3 M) 2 [(0, .ref (gB G + o0)), (1, .ref (gB G + o1)), (2, .int x2), (3, .int x3)] [] M := by
  intro n
  induction n with
  | zero =>
    intros
    exact go_none
  | succ n ih =>
    intro o0 h0 o1 h1 x2 x3 M
    rw [f_X5_agreesWith_2]
    refine go_iload_n 3 3 dX5_agreesWith_2 rfl rfl ?_
    refine go_aload_n 1 4 dX5_agreesWith_3 rfl rfl ?_
    refine go_getI flX5_88 (by decide) h1 7 dX5_agreesWith_4 rfl ?_
    refine go_icmp_ge 74 10 dX5_agreesWith_7 rfl (by decide) (fun _ => ?_) (fun _ => ?_)
    · refine go_iconst 1 75 dX5_agreesWith_74 rfl (by decide) ?_
      exact go_zret rfl dX5_agreesWith_75
    · refine go_iload_n 3 11 dX5_agreesWith_10 rfl rfl ?_
      refine go_bipush 8 13 dX5_agreesWith_11 rfl (by decide) ?_
      refine go_icmp_ge 74 16 dX5_agreesWith_13 rfl (by decide) (fun _ => ?_) (fun _ => ?_)
      · refine go_iconst 1 75 dX5_agreesWith_74 rfl (by decide) ?_
        exact go_zret rfl dX5_agreesWith_75
      · refine go_aload_n 1 17 dX5_agreesWith_16 rfl rfl ?_
        refine go_getR flX5_93 h1 20 dX5_agreesWith_17 rfl ?_
        refine go_iload_n 3 21 dX5_agreesWith_20 rfl rfl ?_
        refine go_iald (rk8_2 h1) 22 dX5_agreesWith_21 rfl ?_
        refine go_nmI (fun y1 => ?_)
        refine go_istore [(4, .int y1), (0, .ref (gB G + o0)), (1, .ref (gB G + o1)), (2, .int x2), (3, .int x3)] 24 dX5_agreesWith_22 rfl (by decide) rfl ?_
        refine go_aload_n 1 25 dX5_agreesWith_24 rfl rfl ?_
        refine go_iload 0 27 dX5_agreesWith_25 rfl rfl ?_
        refine go_aload_n 1 28 dX5_agreesWith_27 rfl rfl ?_
        refine go_getR flX5_21 h0 31 dX5_agreesWith_28 rfl ?_
        refine go_getR flX5_60 (rk5_0 h0) 34 dX5_agreesWith_31 rfl ?_
        refine go_iload 0 36 dX5_agreesWith_34 rfl rfl ?_
        refine go_iald (rk9_3 (rk5_0 h0)) 37 dX5_agreesWith_36 rfl ?_
        refine go_aload_n 2 38 dX5_agreesWith_37 rfl rfl ?_
        refine go_getR flX5_96 h1 41 dX5_agreesWith_38 rfl ?_
        refine go_iload_n 4 42 dX5_agreesWith_41 rfl rfl ?_
        refine go_iald (rk8_3 h1) 43 dX5_agreesWith_42 rfl ?_
        refine go_iload_n 3 44 dX5_agreesWith_43 rfl rfl ?_
        refine go_cVI4 3 clX5 cwX5_99 (m_X5_swollenBehind w o0 h0 y1 (M.1 (rF (rF o0 0) 3) y1.toNatClampNeg) (M.1 (rF o1 3) x3.toNatClampNeg) x2 M) h0 47 dX5_agreesWith_44 rfl ⟨Nat.le_of_ble_eq_true rfl, Nat.le_of_ble_eq_true rfl⟩ ⟨Nat.zero_le _, Nat.zero_le _⟩ (Nat.le_of_ble_eq_true rfl) (fun q3 M2 _ => ?_)
        refine go_istore [(5, .int q3), (4, .int y1), (0, .ref (gB G + o0)), (1, .ref (gB G + o1)), (2, .int x2), (3, .int x3)] 49 dX5_agreesWith_47 rfl (by decide) rfl ?_
        refine go_aload_n 2 50 dX5_agreesWith_49 rfl rfl ?_
        refine go_iload 1 52 dX5_agreesWith_50 rfl rfl ?_
        refine go_iload 0 54 dX5_agreesWith_52 rfl rfl ?_
        refine go_cVI2 1 clX5 cwX5_67 (m_X5_sticksAt w o0 h0 y1 q3 M2) h0 57 dX5_agreesWith_54 rfl ⟨Nat.le_of_ble_eq_true rfl, Nat.le_of_ble_eq_true rfl⟩ ⟨Nat.zero_le _, Nat.zero_le _⟩ (Nat.le_of_ble_eq_true rfl) (fun q5 M4 _ => ?_)
        refine go_aload_n 3 58 dX5_agreesWith_57 rfl rfl ?_
        refine go_getR flX5_103 h1 61 dX5_agreesWith_58 rfl ?_
        refine go_iload_n 5 62 dX5_agreesWith_61 rfl rfl ?_
        refine go_zald (rk8_4 h1) 63 dX5_agreesWith_62 rfl ?_
        refine go_icmp_eq 68 66 dX5_agreesWith_63 rfl (by decide) (fun _ => ?_) (fun _ => ?_)
        · refine go_iinc (x3 + 1) 5 [(3, .int (x3 + 1)), (5, .int q3), (4, .int y1), (0, .ref (gB G + o0)), (1, .ref (gB G + o1)), (2, .int x2)] 71 dX5_agreesWith_68 rfl rfl rfl (by decide) rfl ?_
          refine go_goto 2 dX5_agreesWith_71 (by decide) ?_
          exact go_lv [3, 4, 5, 0] rfl (ih o0 h0 o1 h1 x2 (x3 + 1) M4)
        · refine go_iconst 0 67 dX5_agreesWith_66 rfl (by decide) ?_
          exact go_zret rfl dX5_agreesWith_67
def f_X5_agreesWith (w : Nat) (o0 : Nat) (o1 : Nat) (x2 : Int32) (M : mM) : Option (Int32 × mM) := (f_X5_agreesWith_2 w w o0 o1 x2 0 M)
set_option maxHeartbeats 4000000 in
set_option maxRecDepth 100000 in
theorem s_X5_agreesWith {l : Launch} {G : mG} {sk : List mS} (w : Nat) (o0 : Nat) (h0 : isK o0 15) (o1 : Nat) (h1 : isK o1 18) (x2 : Int32) (M : mM) : Go muX5_agreesWith (rm 4) 0 0 l G sk (mFin G sk eI) (f_X5_agreesWith w o0 o1 x2 M) 0 [(0, .ref (gB G + o0)), (1, .ref (gB G + o1)), (2, .int x2)] [] M := by
  unfold f_X5_agreesWith
  refine go_iconst 0 1 dX5_agreesWith_0 rfl (by decide) ?_
  refine go_istore_n [(3, .int 0), (0, .ref (gB G + o0)), (1, .ref (gB G + o1)), (2, .int x2)] 2 dX5_agreesWith_1 rfl rfl (by decide) rfl ?_
  exact go_lv [1, 2, 3, 0] rfl (s_X5_agreesWith_2 w w o0 h0 o1 h1 x2 0 M)
theorem m_X5_agreesWith {l : Launch} {G : mG} {sk : List mS} (w : Nat) (o0 : Nat) (h0 : isK o0 15) (o1 : Nat) (h1 : isK o1 18) (x2 : Int32) (M : mM) : Mt l G sk yX5_agreesWith muX5_agreesWith 4 [.ref (gB G + o0), .ref (gB G + o1), .int x2] M eI (f_X5_agreesWith w o0 o1 x2 M) := Mt.of (by decide) rfl (Nat.le_of_ble_eq_true rfl) (s_X5_agreesWith w o0 h0 o1 h1 x2 M)
theorem dX5_wetsBy_0 : decode cX5_wetsBy 0 = .ok (.iconst 0, 1) := by decide +kernel
theorem dX5_wetsBy_1 : decode cX5_wetsBy 1 = .ok (.istore_n 2, 1) := by decide +kernel
theorem dX5_wetsBy_2 : decode cX5_wetsBy 2 = .ok (.iconst 0, 1) := by decide +kernel
theorem dX5_wetsBy_3 : decode cX5_wetsBy 3 = .ok (.istore_n 3, 1) := by decide +kernel
theorem dX5_wetsBy_4 : decode cX5_wetsBy 4 = .ok (.iload_n 3, 1) := by decide +kernel
theorem dX5_wetsBy_5 : decode cX5_wetsBy 5 = .ok (.bipush 10, 2) := by decide +kernel
theorem dX5_wetsBy_7 : decode cX5_wetsBy 7 = .ok (.if_icmp .ge 24, 3) := by decide +kernel
theorem dX5_wetsBy_10 : decode cX5_wetsBy 10 = .ok (.aload_n 0, 1) := by decide +kernel
theorem dX5_wetsBy_11 : decode cX5_wetsBy 11 = .ok (.aload_n 1, 1) := by decide +kernel
theorem dX5_wetsBy_12 : decode cX5_wetsBy 12 = .ok (.iload_n 3, 1) := by decide +kernel
theorem dX5_wetsBy_13 : decode cX5_wetsBy 13 = .ok (.invokevirtual 84, 3) := by decide +kernel
theorem dX5_wetsBy_16 : decode cX5_wetsBy 16 = .ok (.ifCond .eq 9, 3) := by decide +kernel
theorem dX5_wetsBy_19 : decode cX5_wetsBy 19 = .ok (.iload_n 2, 1) := by decide +kernel
theorem dX5_wetsBy_20 : decode cX5_wetsBy 20 = .ok (.iconst 1, 1) := by decide +kernel
theorem dX5_wetsBy_21 : decode cX5_wetsBy 21 = .ok (.iload_n 3, 1) := by decide +kernel
theorem dX5_wetsBy_22 : decode cX5_wetsBy 22 = .ok (.ishl, 1) := by decide +kernel
theorem dX5_wetsBy_23 : decode cX5_wetsBy 23 = .ok (.ior, 1) := by decide +kernel
theorem dX5_wetsBy_24 : decode cX5_wetsBy 24 = .ok (.istore_n 2, 1) := by decide +kernel
theorem dX5_wetsBy_25 : decode cX5_wetsBy 25 = .ok (.iinc 3 1, 3) := by decide +kernel
theorem dX5_wetsBy_28 : decode cX5_wetsBy 28 = .ok (.goto (-24), 3) := by decide +kernel
theorem dX5_wetsBy_31 : decode cX5_wetsBy 31 = .ok (.iload_n 2, 1) := by decide +kernel
theorem dX5_wetsBy_32 : decode cX5_wetsBy 32 = .ok (.ireturn, 1) := by decide +kernel
def f_X5_wetsBy_4 (w : Nat) : Nat → Nat → Nat → Int32 → Int32 → mM → Option (Int32 × mM)
  | 0, _, _, _, _, _ => none
  | n + 1, o0, o1, x2, x3, M => (if 10 ≤ x3 then some (x2, M) else bI (f_X5_agreesWith w o0 o1 x3 M) fun q2 M1 => (if q2 = 0 then (f_X5_wetsBy_4 w n o0 o1 x2 (x3 + 1) M1) else lt (x2 ||| ((1 : Int32) <<< (x3 &&& 31))) fun y3 => (f_X5_wetsBy_4 w n o0 o1 y3 (x3 + 1) M1)))
set_option maxHeartbeats 4000000 in
set_option maxRecDepth 100000 in
theorem s_X5_wetsBy_4 {l : Launch} {G : mG} {sk : List mS} (w : Nat) : ∀ (n : Nat) (o0 : Nat) (h0 : isK o0 15) (o1 : Nat) (h1 : isK o1 18) (x2 : Int32) (x3 : Int32) (M : mM), Go muX5_wetsBy (rm 5) 0 0 l G sk (mFin G sk eI) (f_X5_wetsBy_4 w n o0 o1 x2 x3 M) 4 [(0, .ref (gB G + o0)), (1, .ref (gB G + o1)), (2, .int x2), (3, .int x3)] [] M := by
  intro n
  induction n with
  | zero =>
    intros
    exact go_none
  | succ n ih =>
    intro o0 h0 o1 h1 x2 x3 M
    rw [f_X5_wetsBy_4]
    refine go_iload_n 3 5 dX5_wetsBy_4 rfl rfl ?_
    refine go_bipush 10 7 dX5_wetsBy_5 rfl (by decide) ?_
    refine go_icmp_ge 31 10 dX5_wetsBy_7 rfl (by decide) (fun _ => ?_) (fun _ => ?_)
    · refine go_iload_n 2 32 dX5_wetsBy_31 rfl rfl ?_
      exact go_iret rfl dX5_wetsBy_32
    · refine go_aload_n 0 11 dX5_wetsBy_10 rfl rfl ?_
      refine go_aload_n 1 12 dX5_wetsBy_11 rfl rfl ?_
      refine go_iload_n 3 13 dX5_wetsBy_12 rfl rfl ?_
      refine go_cVI2 4 clX5 cwX5_84 (m_X5_agreesWith w o0 h0 o1 h1 x3 M) h0 16 dX5_wetsBy_13 rfl ⟨Nat.le_of_ble_eq_true rfl, Nat.le_of_ble_eq_true rfl⟩ ⟨Nat.zero_le _, Nat.zero_le _⟩ (Nat.le_of_ble_eq_true rfl) (fun q2 M1 _ => ?_)
      refine go_if_eq 25 19 dX5_wetsBy_16 rfl (by decide) (fun _ => ?_) (fun _ => ?_)
      · refine go_iinc (x3 + 1) 3 [(3, .int (x3 + 1)), (0, .ref (gB G + o0)), (1, .ref (gB G + o1)), (2, .int x2)] 28 dX5_wetsBy_25 rfl rfl rfl (by decide) rfl ?_
        refine go_goto 4 dX5_wetsBy_28 (by decide) ?_
        exact go_lv [1, 2, 3, 0] rfl (ih o0 h0 o1 h1 x2 (x3 + 1) M1)
      · refine go_iload_n 2 20 dX5_wetsBy_19 rfl rfl ?_
        refine go_iconst 1 21 dX5_wetsBy_20 rfl (by decide) ?_
        refine go_iload_n 3 22 dX5_wetsBy_21 rfl rfl ?_
        refine go_ishl 23 dX5_wetsBy_22 rfl ?_
        refine go_ior 24 dX5_wetsBy_23 rfl ?_
        refine go_nmI (fun y3 => ?_)
        refine go_istore_n [(2, .int y3), (0, .ref (gB G + o0)), (1, .ref (gB G + o1)), (3, .int x3)] 25 dX5_wetsBy_24 rfl rfl (by decide) rfl ?_
        refine go_iinc (x3 + 1) 3 [(3, .int (x3 + 1)), (2, .int y3), (0, .ref (gB G + o0)), (1, .ref (gB G + o1))] 28 dX5_wetsBy_25 rfl rfl rfl (by decide) rfl ?_
        refine go_goto 4 dX5_wetsBy_28 (by decide) ?_
        exact go_lv [2, 3, 1, 0] rfl (ih o0 h0 o1 h1 y3 (x3 + 1) M1)
def f_X5_wetsBy (w : Nat) (o0 : Nat) (o1 : Nat) (M : mM) : Option (Int32 × mM) := (f_X5_wetsBy_4 w w o0 o1 0 0 M)
set_option maxHeartbeats 4000000 in
set_option maxRecDepth 100000 in
theorem s_X5_wetsBy {l : Launch} {G : mG} {sk : List mS} (w : Nat) (o0 : Nat) (h0 : isK o0 15) (o1 : Nat) (h1 : isK o1 18) (M : mM) : Go muX5_wetsBy (rm 5) 0 0 l G sk (mFin G sk eI) (f_X5_wetsBy w o0 o1 M) 0 [(0, .ref (gB G + o0)), (1, .ref (gB G + o1))] [] M := by
  unfold f_X5_wetsBy
  refine go_iconst 0 1 dX5_wetsBy_0 rfl (by decide) ?_
  refine go_istore_n [(2, .int 0), (0, .ref (gB G + o0)), (1, .ref (gB G + o1))] 2 dX5_wetsBy_1 rfl rfl (by decide) rfl ?_
  refine go_iconst 0 3 dX5_wetsBy_2 rfl (by decide) ?_
  refine go_istore_n [(3, .int 0), (2, .int 0), (0, .ref (gB G + o0)), (1, .ref (gB G + o1))] 4 dX5_wetsBy_3 rfl rfl (by decide) rfl ?_
  exact go_lv [2, 3, 1, 0] rfl (s_X5_wetsBy_4 w w o0 h0 o1 h1 0 0 M)
theorem m_X5_wetsBy {l : Launch} {G : mG} {sk : List mS} (w : Nat) (o0 : Nat) (h0 : isK o0 15) (o1 : Nat) (h1 : isK o1 18) (M : mM) : Mt l G sk yX5_wetsBy muX5_wetsBy 5 [.ref (gB G + o0), .ref (gB G + o1)] M eI (f_X5_wetsBy w o0 o1 M) := Mt.of (by decide) rfl (Nat.le_of_ble_eq_true rfl) (s_X5_wetsBy w o0 h0 o1 h1 M)
theorem dX5_stickingNext_0 : decode cX5_stickingNext 0 = .ok (.iconst 0, 1) := by decide +kernel
theorem dX5_stickingNext_1 : decode cX5_stickingNext 1 = .ok (.istore 4, 2) := by decide +kernel
theorem dX5_stickingNext_3 : decode cX5_stickingNext 3 = .ok (.iconst 0, 1) := by decide +kernel
theorem dX5_stickingNext_4 : decode cX5_stickingNext 4 = .ok (.istore 5, 2) := by decide +kernel
theorem dX5_stickingNext_6 : decode cX5_stickingNext 6 = .ok (.iload 5, 2) := by decide +kernel
theorem dX5_stickingNext_8 : decode cX5_stickingNext 8 = .ok (.bipush 10, 2) := by decide +kernel
theorem dX5_stickingNext_10 : decode cX5_stickingNext 10 = .ok (.if_icmp .ge 81, 3) := by decide +kernel
theorem dX5_stickingNext_13 : decode cX5_stickingNext 13 = .ok (.iload_n 2, 1) := by decide +kernel
theorem dX5_stickingNext_14 : decode cX5_stickingNext 14 = .ok (.iload 5, 2) := by decide +kernel
theorem dX5_stickingNext_16 : decode cX5_stickingNext 16 = .ok (.ishr, 1) := by decide +kernel
theorem dX5_stickingNext_17 : decode cX5_stickingNext 17 = .ok (.iconst 1, 1) := by decide +kernel
theorem dX5_stickingNext_18 : decode cX5_stickingNext 18 = .ok (.iand, 1) := by decide +kernel
theorem dX5_stickingNext_19 : decode cX5_stickingNext 19 = .ok (.ifCond .ne 6, 3) := by decide +kernel
theorem dX5_stickingNext_22 : decode cX5_stickingNext 22 = .ok (.goto 63, 3) := by decide +kernel
theorem dX5_stickingNext_25 : decode cX5_stickingNext 25 = .ok (.iload 5, 2) := by decide +kernel
theorem dX5_stickingNext_27 : decode cX5_stickingNext 27 = .ok (.bipush 8, 2) := by decide +kernel
theorem dX5_stickingNext_29 : decode cX5_stickingNext 29 = .ok (.imul, 1) := by decide +kernel
theorem dX5_stickingNext_30 : decode cX5_stickingNext 30 = .ok (.iload_n 1, 1) := by decide +kernel
theorem dX5_stickingNext_31 : decode cX5_stickingNext 31 = .ok (.iadd, 1) := by decide +kernel
theorem dX5_stickingNext_32 : decode cX5_stickingNext 32 = .ok (.istore 6, 2) := by decide +kernel
theorem dX5_stickingNext_34 : decode cX5_stickingNext 34 = .ok (.aload_n 0, 1) := by decide +kernel
theorem dX5_stickingNext_35 : decode cX5_stickingNext 35 = .ok (.getfield 31, 3) := by decide +kernel
theorem dX5_stickingNext_38 : decode cX5_stickingNext 38 = .ok (.iload_n 1, 1) := by decide +kernel
theorem dX5_stickingNext_39 : decode cX5_stickingNext 39 = .ok (.aload_n 0, 1) := by decide +kernel
theorem dX5_stickingNext_40 : decode cX5_stickingNext 40 = .ok (.getfield 18, 3) := by decide +kernel
theorem dX5_stickingNext_43 : decode cX5_stickingNext 43 = .ok (.iload 6, 2) := by decide +kernel
theorem dX5_stickingNext_45 : decode cX5_stickingNext 45 = .ok (.iaload, 1) := by decide +kernel
theorem dX5_stickingNext_46 : decode cX5_stickingNext 46 = .ok (.aload_n 0, 1) := by decide +kernel
theorem dX5_stickingNext_47 : decode cX5_stickingNext 47 = .ok (.getfield 21, 3) := by decide +kernel
theorem dX5_stickingNext_50 : decode cX5_stickingNext 50 = .ok (.getfield 60, 3) := by decide +kernel
theorem dX5_stickingNext_53 : decode cX5_stickingNext 53 = .ok (.iload_n 1, 1) := by decide +kernel
theorem dX5_stickingNext_54 : decode cX5_stickingNext 54 = .ok (.iaload, 1) := by decide +kernel
theorem dX5_stickingNext_55 : decode cX5_stickingNext 55 = .ok (.iload 5, 2) := by decide +kernel
theorem dX5_stickingNext_57 : decode cX5_stickingNext 57 = .ok (.iload_n 3, 1) := by decide +kernel
theorem dX5_stickingNext_58 : decode cX5_stickingNext 58 = .ok (.invokevirtual 63, 3) := by decide +kernel
theorem dX5_stickingNext_61 : decode cX5_stickingNext 61 = .ok (.istore 7, 2) := by decide +kernel
theorem dX5_stickingNext_63 : decode cX5_stickingNext 63 = .ok (.aload_n 0, 1) := by decide +kernel
theorem dX5_stickingNext_64 : decode cX5_stickingNext 64 = .ok (.getfield 18, 3) := by decide +kernel
theorem dX5_stickingNext_67 : decode cX5_stickingNext 67 = .ok (.iload 6, 2) := by decide +kernel
theorem dX5_stickingNext_69 : decode cX5_stickingNext 69 = .ok (.iload 7, 2) := by decide +kernel
theorem dX5_stickingNext_71 : decode cX5_stickingNext 71 = .ok (.iastore, 1) := by decide +kernel
theorem dX5_stickingNext_72 : decode cX5_stickingNext 72 = .ok (.aload_n 0, 1) := by decide +kernel
theorem dX5_stickingNext_73 : decode cX5_stickingNext 73 = .ok (.iload_n 1, 1) := by decide +kernel
theorem dX5_stickingNext_74 : decode cX5_stickingNext 74 = .ok (.iload 7, 2) := by decide +kernel
theorem dX5_stickingNext_76 : decode cX5_stickingNext 76 = .ok (.invokevirtual 67, 3) := by decide +kernel
theorem dX5_stickingNext_79 : decode cX5_stickingNext 79 = .ok (.ifCond .eq 6, 3) := by decide +kernel
theorem dX5_stickingNext_82 : decode cX5_stickingNext 82 = .ok (.iinc 4 1, 3) := by decide +kernel
theorem dX5_stickingNext_85 : decode cX5_stickingNext 85 = .ok (.iinc 5 1, 3) := by decide +kernel
theorem dX5_stickingNext_88 : decode cX5_stickingNext 88 = .ok (.goto (-82), 3) := by decide +kernel
theorem dX5_stickingNext_91 : decode cX5_stickingNext 91 = .ok (.iload 4, 2) := by decide +kernel
theorem dX5_stickingNext_93 : decode cX5_stickingNext 93 = .ok (.ireturn, 1) := by decide +kernel
def f_X5_stickingNext_6 (w : Nat) : Nat → Nat → Int32 → Int32 → Int32 → Int32 → Int32 → mM → Option (Int32 × mM)
  | 0, _, _, _, _, _, _, _ => none
  | n + 1, o0, x1, x2, x3, x4, x5, M => (if 10 ≤ x5 then some (x4, M) else (if ((x2 >>> (x5 &&& 31)) &&& 1) = 0 then (f_X5_stickingNext_6 w n o0 x1 x2 x3 x4 (x5 + 1) M) else lt ((x5 * 8) + x1) fun y1 => chk y1 (sL (rF o0 4)) (chk x1 (sL (rF (rF o0 0) 3)) (bI (f_X6_swollenNext w (rF o0 1) x1 (M.1 (rF o0 4) y1.toNatClampNeg) (M.1 (rF (rF o0 0) 3) x1.toNatClampNeg) x5 x3 M) fun q3 M2 => chk y1 (sL (rF o0 4)) (lt (wI M2 (rF o0 4) y1.toNatClampNeg q3) fun M4 => bI (f_X5_sticksAt w o0 x1 q3 M4) fun q6 M5 => (if q6 = 0 then (f_X5_stickingNext_6 w n o0 x1 x2 x3 x4 (x5 + 1) M5) else (f_X5_stickingNext_6 w n o0 x1 x2 x3 (x4 + 1) (x5 + 1) M5)))))))
set_option maxHeartbeats 4000000 in
set_option maxRecDepth 100000 in
theorem s_X5_stickingNext_6 {l : Launch} {G : mG} {sk : List mS} (w : Nat) : ∀ (n : Nat) (o0 : Nat) (h0 : isK o0 15) (x1 : Int32) (x2 : Int32) (x3 : Int32) (x4 : Int32) (x5 : Int32) (M : mM), Go muX5_stickingNext (rm 3) 0 0 l G sk (mFin G sk eI) (f_X5_stickingNext_6 w n o0 x1 x2 x3 x4 x5 M) 6 [(0, .ref (gB G + o0)), (1, .int x1), (2, .int x2), (3, .int x3), (4, .int x4), (5, .int x5)] [] M := by
  intro n
  induction n with
  | zero =>
    intros
    exact go_none
  | succ n ih =>
    intro o0 h0 x1 x2 x3 x4 x5 M
    rw [f_X5_stickingNext_6]
    refine go_iload 5 8 dX5_stickingNext_6 rfl rfl ?_
    refine go_bipush 10 10 dX5_stickingNext_8 rfl (by decide) ?_
    refine go_icmp_ge 91 13 dX5_stickingNext_10 rfl (by decide) (fun _ => ?_) (fun _ => ?_)
    · refine go_iload 4 93 dX5_stickingNext_91 rfl rfl ?_
      exact go_iret rfl dX5_stickingNext_93
    · refine go_iload_n 2 14 dX5_stickingNext_13 rfl rfl ?_
      refine go_iload 5 16 dX5_stickingNext_14 rfl rfl ?_
      refine go_ishr 17 dX5_stickingNext_16 rfl ?_
      refine go_iconst 1 18 dX5_stickingNext_17 rfl (by decide) ?_
      refine go_iand 19 dX5_stickingNext_18 rfl ?_
      refine go_if_ne 25 22 dX5_stickingNext_19 rfl (by decide) (fun _ => ?_) (fun _ => ?_)
      · refine go_iload 5 27 dX5_stickingNext_25 rfl rfl ?_
        refine go_bipush 8 29 dX5_stickingNext_27 rfl (by decide) ?_
        refine go_imul 30 dX5_stickingNext_29 rfl ?_
        refine go_iload_n 1 31 dX5_stickingNext_30 rfl rfl ?_
        refine go_iadd 32 dX5_stickingNext_31 rfl ?_
        refine go_nmI (fun y1 => ?_)
        refine go_istore [(6, .int y1), (0, .ref (gB G + o0)), (1, .int x1), (2, .int x2), (3, .int x3), (4, .int x4), (5, .int x5)] 34 dX5_stickingNext_32 rfl (by decide) rfl ?_
        refine go_aload_n 1 35 dX5_stickingNext_34 rfl rfl ?_
        refine go_getR flX5_31 h0 38 dX5_stickingNext_35 rfl ?_
        refine go_iload_n 2 39 dX5_stickingNext_38 rfl rfl ?_
        refine go_aload_n 1 40 dX5_stickingNext_39 rfl rfl ?_
        refine go_getR flX5_18 h0 43 dX5_stickingNext_40 rfl ?_
        refine go_iload 0 45 dX5_stickingNext_43 rfl rfl ?_
        refine go_iald (rk5_4 h0) 46 dX5_stickingNext_45 rfl ?_
        refine go_aload_n 1 47 dX5_stickingNext_46 rfl rfl ?_
        refine go_getR flX5_21 h0 50 dX5_stickingNext_47 rfl ?_
        refine go_getR flX5_60 (rk5_0 h0) 53 dX5_stickingNext_50 rfl ?_
        refine go_iload_n 2 54 dX5_stickingNext_53 rfl rfl ?_
        refine go_iald (rk9_3 (rk5_0 h0)) 55 dX5_stickingNext_54 rfl ?_
        refine go_iload 6 57 dX5_stickingNext_55 rfl rfl ?_
        refine go_iload_n 4 58 dX5_stickingNext_57 rfl rfl ?_
        refine go_cVI5 2 clX6 cwX5_63 (m_X6_swollenNext w (rF o0 1) (rk5_1 h0) x1 (M.1 (rF o0 4) y1.toNatClampNeg) (M.1 (rF (rF o0 0) 3) x1.toNatClampNeg) x5 x3 M) (rk5_1 h0) 61 dX5_stickingNext_58 rfl ⟨Nat.le_of_ble_eq_true rfl, Nat.le_of_ble_eq_true rfl⟩ ⟨Nat.zero_le _, Nat.zero_le _⟩ (Nat.le_of_ble_eq_true rfl) (fun q3 M2 _ => ?_)
        refine go_istore [(7, .int q3), (6, .int y1), (0, .ref (gB G + o0)), (1, .int x1), (2, .int x2), (3, .int x3), (4, .int x4), (5, .int x5)] 63 dX5_stickingNext_61 rfl (by decide) rfl ?_
        refine go_aload_n 2 64 dX5_stickingNext_63 rfl rfl ?_
        refine go_getR flX5_18 h0 67 dX5_stickingNext_64 rfl ?_
        refine go_iload 1 69 dX5_stickingNext_67 rfl rfl ?_
        refine go_iload 0 71 dX5_stickingNext_69 rfl rfl ?_
        refine go_iast (rk5_4 h0) 72 dX5_stickingNext_71 rfl ?_
        refine go_nmM (fun M4 => ?_)
        refine go_aload_n 2 73 dX5_stickingNext_72 rfl rfl ?_
        refine go_iload_n 3 74 dX5_stickingNext_73 rfl rfl ?_
        refine go_iload 0 76 dX5_stickingNext_74 rfl rfl ?_
        refine go_cVI2 1 clX5 cwX5_67 (m_X5_sticksAt w o0 h0 x1 q3 M4) h0 79 dX5_stickingNext_76 rfl ⟨Nat.le_of_ble_eq_true rfl, Nat.le_of_ble_eq_true rfl⟩ ⟨Nat.zero_le _, Nat.zero_le _⟩ (Nat.le_of_ble_eq_true rfl) (fun q6 M5 _ => ?_)
        refine go_if_eq 85 82 dX5_stickingNext_79 rfl (by decide) (fun _ => ?_) (fun _ => ?_)
        · refine go_iinc (x5 + 1) 7 [(5, .int (x5 + 1)), (7, .int q3), (6, .int y1), (0, .ref (gB G + o0)), (1, .int x1), (2, .int x2), (3, .int x3), (4, .int x4)] 88 dX5_stickingNext_85 rfl rfl rfl (by decide) rfl ?_
          refine go_goto 6 dX5_stickingNext_88 (by decide) ?_
          exact go_lv [3, 4, 5, 6, 7, 0] rfl (ih o0 h0 x1 x2 x3 x4 (x5 + 1) M5)
        · refine go_iinc (x4 + 1) 6 [(4, .int (x4 + 1)), (7, .int q3), (6, .int y1), (0, .ref (gB G + o0)), (1, .int x1), (2, .int x2), (3, .int x3), (5, .int x5)] 85 dX5_stickingNext_82 rfl rfl rfl (by decide) rfl ?_
          refine go_iinc (x5 + 1) 7 [(5, .int (x5 + 1)), (4, .int (x4 + 1)), (7, .int q3), (6, .int y1), (0, .ref (gB G + o0)), (1, .int x1), (2, .int x2), (3, .int x3)] 88 dX5_stickingNext_85 rfl rfl rfl (by decide) rfl ?_
          refine go_goto 6 dX5_stickingNext_88 (by decide) ?_
          exact go_lv [4, 5, 6, 7, 1, 0] rfl (ih o0 h0 x1 x2 x3 (x4 + 1) (x5 + 1) M5)
      · refine go_goto 85 dX5_stickingNext_22 (by decide) ?_
        refine go_iinc (x5 + 1) 5 [(5, .int (x5 + 1)), (0, .ref (gB G + o0)), (1, .int x1), (2, .int x2), (3, .int x3), (4, .int x4)] 88 dX5_stickingNext_85 rfl rfl rfl (by decide) rfl ?_
        refine go_goto 6 dX5_stickingNext_88 (by decide) ?_
        exact go_lv [1, 2, 3, 4, 5, 0] rfl (ih o0 h0 x1 x2 x3 x4 (x5 + 1) M)
def f_X5_stickingNext (w : Nat) (o0 : Nat) (x1 : Int32) (x2 : Int32) (x3 : Int32) (M : mM) : Option (Int32 × mM) := (f_X5_stickingNext_6 w w o0 x1 x2 x3 0 0 M)
set_option maxHeartbeats 4000000 in
set_option maxRecDepth 100000 in
theorem s_X5_stickingNext {l : Launch} {G : mG} {sk : List mS} (w : Nat) (o0 : Nat) (h0 : isK o0 15) (x1 : Int32) (x2 : Int32) (x3 : Int32) (M : mM) : Go muX5_stickingNext (rm 3) 0 0 l G sk (mFin G sk eI) (f_X5_stickingNext w o0 x1 x2 x3 M) 0 [(0, .ref (gB G + o0)), (1, .int x1), (2, .int x2), (3, .int x3)] [] M := by
  unfold f_X5_stickingNext
  refine go_iconst 0 1 dX5_stickingNext_0 rfl (by decide) ?_
  refine go_istore [(4, .int 0), (0, .ref (gB G + o0)), (1, .int x1), (2, .int x2), (3, .int x3)] 3 dX5_stickingNext_1 rfl (by decide) rfl ?_
  refine go_iconst 0 4 dX5_stickingNext_3 rfl (by decide) ?_
  refine go_istore [(5, .int 0), (4, .int 0), (0, .ref (gB G + o0)), (1, .int x1), (2, .int x2), (3, .int x3)] 6 dX5_stickingNext_4 rfl (by decide) rfl ?_
  exact go_lv [2, 3, 4, 5, 1, 0] rfl (s_X5_stickingNext_6 w w o0 h0 x1 x2 x3 0 0 M)
theorem m_X5_stickingNext {l : Launch} {G : mG} {sk : List mS} (w : Nat) (o0 : Nat) (h0 : isK o0 15) (x1 : Int32) (x2 : Int32) (x3 : Int32) (M : mM) : Mt l G sk yX5_stickingNext muX5_stickingNext 3 [.ref (gB G + o0), .int x1, .int x2, .int x3] M eI (f_X5_stickingNext w o0 x1 x2 x3 M) := Mt.of (by decide) rfl (Nat.le_of_ble_eq_true rfl) (s_X5_stickingNext w o0 h0 x1 x2 x3 M)
theorem dX5_bestTry_0 : decode cX5_bestTry 0 = .ok (.iload_n 1, 1) := by decide +kernel
theorem dX5_bestTry_1 : decode cX5_bestTry 1 = .ok (.invokestatic 107, 3) := by decide +kernel
theorem dX5_bestTry_4 : decode cX5_bestTry 4 = .ok (.istore_n 2, 1) := by decide +kernel
theorem dX5_bestTry_5 : decode cX5_bestTry 5 = .ok (.iload_n 2, 1) := by decide +kernel
theorem dX5_bestTry_6 : decode cX5_bestTry 6 = .ok (.istore_n 3, 1) := by decide +kernel
theorem dX5_bestTry_7 : decode cX5_bestTry 7 = .ok (.iconst (-1), 1) := by decide +kernel
theorem dX5_bestTry_8 : decode cX5_bestTry 8 = .ok (.istore 4, 2) := by decide +kernel
theorem dX5_bestTry_10 : decode cX5_bestTry 10 = .ok (.iconst 0, 1) := by decide +kernel
theorem dX5_bestTry_11 : decode cX5_bestTry 11 = .ok (.istore 5, 2) := by decide +kernel
theorem dX5_bestTry_13 : decode cX5_bestTry 13 = .ok (.iload 5, 2) := by decide +kernel
theorem dX5_bestTry_15 : decode cX5_bestTry 15 = .ok (.bipush 10, 2) := by decide +kernel
theorem dX5_bestTry_17 : decode cX5_bestTry 17 = .ok (.if_icmp .ge 31, 3) := by decide +kernel
theorem dX5_bestTry_20 : decode cX5_bestTry 20 = .ok (.aload_n 0, 1) := by decide +kernel
theorem dX5_bestTry_21 : decode cX5_bestTry 21 = .ok (.getfield 21, 3) := by decide +kernel
theorem dX5_bestTry_24 : decode cX5_bestTry 24 = .ok (.getfield 36, 3) := by decide +kernel
theorem dX5_bestTry_27 : decode cX5_bestTry 27 = .ok (.iconst 0, 1) := by decide +kernel
theorem dX5_bestTry_28 : decode cX5_bestTry 28 = .ok (.aload_n 0, 1) := by decide +kernel
theorem dX5_bestTry_29 : decode cX5_bestTry 29 = .ok (.getfield 18, 3) := by decide +kernel
theorem dX5_bestTry_32 : decode cX5_bestTry 32 = .ok (.iload 5, 2) := by decide +kernel
theorem dX5_bestTry_34 : decode cX5_bestTry 34 = .ok (.bipush 8, 2) := by decide +kernel
theorem dX5_bestTry_36 : decode cX5_bestTry 36 = .ok (.imul, 1) := by decide +kernel
theorem dX5_bestTry_37 : decode cX5_bestTry 37 = .ok (.bipush 8, 2) := by decide +kernel
theorem dX5_bestTry_39 : decode cX5_bestTry 39 = .ok (.invokestatic 37, 3) := by decide +kernel
theorem dX5_bestTry_42 : decode cX5_bestTry 42 = .ok (.iinc 5 1, 3) := by decide +kernel
theorem dX5_bestTry_45 : decode cX5_bestTry 45 = .ok (.goto (-32), 3) := by decide +kernel
theorem dX5_bestTry_48 : decode cX5_bestTry 48 = .ok (.iconst 1, 1) := by decide +kernel
theorem dX5_bestTry_49 : decode cX5_bestTry 49 = .ok (.istore 5, 2) := by decide +kernel
theorem dX5_bestTry_51 : decode cX5_bestTry 51 = .ok (.iload 5, 2) := by decide +kernel
theorem dX5_bestTry_53 : decode cX5_bestTry 53 = .ok (.bipush 30, 2) := by decide +kernel
theorem dX5_bestTry_55 : decode cX5_bestTry 55 = .ok (.if_icmp .gt 81, 3) := by decide +kernel
theorem dX5_bestTry_58 : decode cX5_bestTry 58 = .ok (.iconst 0, 1) := by decide +kernel
theorem dX5_bestTry_59 : decode cX5_bestTry 59 = .ok (.istore 6, 2) := by decide +kernel
theorem dX5_bestTry_61 : decode cX5_bestTry 61 = .ok (.iload 6, 2) := by decide +kernel
theorem dX5_bestTry_63 : decode cX5_bestTry 63 = .ok (.aload_n 0, 1) := by decide +kernel
theorem dX5_bestTry_64 : decode cX5_bestTry 64 = .ok (.getfield 31, 3) := by decide +kernel
theorem dX5_bestTry_67 : decode cX5_bestTry 67 = .ok (.getfield 57, 3) := by decide +kernel
theorem dX5_bestTry_70 : decode cX5_bestTry 70 = .ok (.if_icmp .ge 60, 3) := by decide +kernel
theorem dX5_bestTry_73 : decode cX5_bestTry 73 = .ok (.aload_n 0, 1) := by decide +kernel
theorem dX5_bestTry_74 : decode cX5_bestTry 74 = .ok (.iload 6, 2) := by decide +kernel
theorem dX5_bestTry_76 : decode cX5_bestTry 76 = .ok (.iload_n 1, 1) := by decide +kernel
theorem dX5_bestTry_77 : decode cX5_bestTry 77 = .ok (.aload_n 0, 1) := by decide +kernel
theorem dX5_bestTry_78 : decode cX5_bestTry 78 = .ok (.getfield 21, 3) := by decide +kernel
theorem dX5_bestTry_81 : decode cX5_bestTry 81 = .ok (.getfield 47, 3) := by decide +kernel
theorem dX5_bestTry_84 : decode cX5_bestTry 84 = .ok (.iload 5, 2) := by decide +kernel
theorem dX5_bestTry_86 : decode cX5_bestTry 86 = .ok (.iadd, 1) := by decide +kernel
theorem dX5_bestTry_87 : decode cX5_bestTry 87 = .ok (.iconst 1, 1) := by decide +kernel
theorem dX5_bestTry_88 : decode cX5_bestTry 88 = .ok (.isub, 1) := by decide +kernel
theorem dX5_bestTry_89 : decode cX5_bestTry 89 = .ok (.invokevirtual 112, 3) := by decide +kernel
theorem dX5_bestTry_92 : decode cX5_bestTry 92 = .ok (.istore 7, 2) := by decide +kernel
theorem dX5_bestTry_94 : decode cX5_bestTry 94 = .ok (.iload 7, 2) := by decide +kernel
theorem dX5_bestTry_96 : decode cX5_bestTry 96 = .ok (.iload_n 2, 1) := by decide +kernel
theorem dX5_bestTry_97 : decode cX5_bestTry 97 = .ok (.iload 7, 2) := by decide +kernel
theorem dX5_bestTry_99 : decode cX5_bestTry 99 = .ok (.isub, 1) := by decide +kernel
theorem dX5_bestTry_100 : decode cX5_bestTry 100 = .ok (.invokestatic 116, 3) := by decide +kernel
theorem dX5_bestTry_103 : decode cX5_bestTry 103 = .ok (.istore 8, 2) := by decide +kernel
theorem dX5_bestTry_105 : decode cX5_bestTry 105 = .ok (.iload 8, 2) := by decide +kernel
theorem dX5_bestTry_107 : decode cX5_bestTry 107 = .ok (.iload_n 3, 1) := by decide +kernel
theorem dX5_bestTry_108 : decode cX5_bestTry 108 = .ok (.if_icmp .ge 16, 3) := by decide +kernel
theorem dX5_bestTry_111 : decode cX5_bestTry 111 = .ok (.iload 8, 2) := by decide +kernel
theorem dX5_bestTry_113 : decode cX5_bestTry 113 = .ok (.istore_n 3, 1) := by decide +kernel
theorem dX5_bestTry_114 : decode cX5_bestTry 114 = .ok (.bipush 8, 2) := by decide +kernel
theorem dX5_bestTry_116 : decode cX5_bestTry 116 = .ok (.iload 5, 2) := by decide +kernel
theorem dX5_bestTry_118 : decode cX5_bestTry 118 = .ok (.imul, 1) := by decide +kernel
theorem dX5_bestTry_119 : decode cX5_bestTry 119 = .ok (.iload 6, 2) := by decide +kernel
theorem dX5_bestTry_121 : decode cX5_bestTry 121 = .ok (.iadd, 1) := by decide +kernel
theorem dX5_bestTry_122 : decode cX5_bestTry 122 = .ok (.istore 4, 2) := by decide +kernel
theorem dX5_bestTry_124 : decode cX5_bestTry 124 = .ok (.iinc 6 1, 3) := by decide +kernel
theorem dX5_bestTry_127 : decode cX5_bestTry 127 = .ok (.goto (-66), 3) := by decide +kernel
theorem dX5_bestTry_130 : decode cX5_bestTry 130 = .ok (.iinc 5 1, 3) := by decide +kernel
theorem dX5_bestTry_133 : decode cX5_bestTry 133 = .ok (.goto (-82), 3) := by decide +kernel
theorem dX5_bestTry_136 : decode cX5_bestTry 136 = .ok (.iload 4, 2) := by decide +kernel
theorem dX5_bestTry_138 : decode cX5_bestTry 138 = .ok (.ireturn, 1) := by decide +kernel
def f_X5_bestTry_61 (w : Nat) (k51 : Nat → Int32 → Int32 → Int32 → Int32 → Int32 → mM → Option (Int32 × mM)) : Nat → Nat → Int32 → Int32 → Int32 → Int32 → Int32 → Int32 → mM → Option (Int32 × mM)
  | 0, _, _, _, _, _, _, _, _ => none
  | n + 1, o0, x1, x2, x3, x4, x5, x6, M => (if (M.1 (rF o0 1) 1) ≤ x6 then (k51 o0 x1 x2 x3 x4 (x5 + 1) M) else bI (f_X5_stickingNext w o0 x6 x1 (((M.1 (rF o0 0) 1) + x5) - 1) M) fun q2 M1 => lt (mxI q2 (x2 - q2)) fun y3 => (if x3 ≤ y3 then (f_X5_bestTry_61 w k51 n o0 x1 x2 x3 x4 x5 (x6 + 1) M1) else lt ((8 * x5) + x6) fun y4 => (f_X5_bestTry_61 w k51 n o0 x1 x2 y3 y4 x5 (x6 + 1) M1)))
set_option maxHeartbeats 4000000 in
set_option maxRecDepth 100000 in
theorem s_X5_bestTry_61 {l : Launch} {G : mG} {sk : List mS} (w : Nat) (k51 : Nat → Int32 → Int32 → Int32 → Int32 → Int32 → mM → Option (Int32 × mM)) (hk51 : ∀ (o0 : Nat) (h0 : isK o0 15) (x1 : Int32) (x2 : Int32) (x3 : Int32) (x4 : Int32) (x5 : Int32) (M : mM), Go muX5_bestTry (rm 4) 0 0 l G sk (mFin G sk eI) (k51 o0 x1 x2 x3 x4 x5 M) 51 [(0, .ref (gB G + o0)), (1, .int x1), (2, .int x2), (3, .int x3), (4, .int x4), (5, .int x5)] [] M) : ∀ (n : Nat) (o0 : Nat) (h0 : isK o0 15) (x1 : Int32) (x2 : Int32) (x3 : Int32) (x4 : Int32) (x5 : Int32) (x6 : Int32) (M : mM), Go muX5_bestTry (rm 4) 0 0 l G sk (mFin G sk eI) (f_X5_bestTry_61 w k51 n o0 x1 x2 x3 x4 x5 x6 M) 61 [(0, .ref (gB G + o0)), (1, .int x1), (2, .int x2), (3, .int x3), (4, .int x4), (5, .int x5), (6, .int x6)] [] M := by
  intro n
  induction n with
  | zero =>
    intros
    exact go_none
  | succ n ih =>
    intro o0 h0 x1 x2 x3 x4 x5 x6 M
    rw [f_X5_bestTry_61]
    refine go_iload 6 63 dX5_bestTry_61 rfl rfl ?_
    refine go_aload_n 0 64 dX5_bestTry_63 rfl rfl ?_
    refine go_getR flX5_31 h0 67 dX5_bestTry_64 rfl ?_
    refine go_getI flX5_57 (by decide) (rk5_1 h0) 70 dX5_bestTry_67 rfl ?_
    refine go_icmp_ge 130 73 dX5_bestTry_70 rfl (by decide) (fun _ => ?_) (fun _ => ?_)
    · refine go_iinc (x5 + 1) 5 [(5, .int (x5 + 1)), (0, .ref (gB G + o0)), (1, .int x1), (2, .int x2), (3, .int x3), (4, .int x4), (6, .int x6)] 133 dX5_bestTry_130 rfl rfl rfl (by decide) rfl ?_
      refine go_goto 51 dX5_bestTry_133 (by decide) ?_
      exact go_lv [1, 2, 3, 4, 5, 0] rfl (hk51 o0 h0 x1 x2 x3 x4 (x5 + 1) M)
    · refine go_aload_n 0 74 dX5_bestTry_73 rfl rfl ?_
      refine go_iload 6 76 dX5_bestTry_74 rfl rfl ?_
      refine go_iload_n 1 77 dX5_bestTry_76 rfl rfl ?_
      refine go_aload_n 0 78 dX5_bestTry_77 rfl rfl ?_
      refine go_getR flX5_21 h0 81 dX5_bestTry_78 rfl ?_
      refine go_getI flX5_47 (by decide) (rk5_0 h0) 84 dX5_bestTry_81 rfl ?_
      refine go_iload 5 86 dX5_bestTry_84 rfl rfl ?_
      refine go_iadd 87 dX5_bestTry_86 rfl ?_
      refine go_iconst 1 88 dX5_bestTry_87 rfl (by decide) ?_
      refine go_isub 89 dX5_bestTry_88 rfl ?_
      refine go_cVI3 3 clX5 cwX5_112 (m_X5_stickingNext w o0 h0 x6 x1 (((M.1 (rF o0 0) 1) + x5) - 1) M) h0 92 dX5_bestTry_89 rfl ⟨Nat.le_of_ble_eq_true rfl, Nat.le_of_ble_eq_true rfl⟩ ⟨Nat.zero_le _, Nat.zero_le _⟩ (Nat.le_of_ble_eq_true rfl) (fun q2 M1 _ => ?_)
      refine go_istore [(7, .int q2), (0, .ref (gB G + o0)), (1, .int x1), (2, .int x2), (3, .int x3), (4, .int x4), (5, .int x5), (6, .int x6)] 94 dX5_bestTry_92 rfl (by decide) rfl ?_
      refine go_iload 0 96 dX5_bestTry_94 rfl rfl ?_
      refine go_iload_n 3 97 dX5_bestTry_96 rfl rfl ?_
      refine go_iload 0 99 dX5_bestTry_97 rfl rfl ?_
      refine go_isub 100 dX5_bestTry_99 rfl ?_
      refine go_max maX5_116 103 dX5_bestTry_100 rfl (Nat.le_of_ble_eq_true rfl) (Nat.le_of_ble_eq_true rfl) ⟨Nat.zero_le _, Nat.zero_le _⟩ ?_
      refine go_nmI (fun y3 => ?_)
      refine go_istore [(8, .int y3), (7, .int q2), (0, .ref (gB G + o0)), (1, .int x1), (2, .int x2), (3, .int x3), (4, .int x4), (5, .int x5), (6, .int x6)] 105 dX5_bestTry_103 rfl (by decide) rfl ?_
      refine go_iload 0 107 dX5_bestTry_105 rfl rfl ?_
      refine go_iload_n 5 108 dX5_bestTry_107 rfl rfl ?_
      refine go_icmp_ge 124 111 dX5_bestTry_108 rfl (by decide) (fun _ => ?_) (fun _ => ?_)
      · refine go_iinc (x6 + 1) 8 [(6, .int (x6 + 1)), (8, .int y3), (7, .int q2), (0, .ref (gB G + o0)), (1, .int x1), (2, .int x2), (3, .int x3), (4, .int x4), (5, .int x5)] 127 dX5_bestTry_124 rfl rfl rfl (by decide) rfl ?_
        refine go_goto 61 dX5_bestTry_127 (by decide) ?_
        exact go_lv [3, 4, 5, 6, 7, 8, 0] rfl (ih o0 h0 x1 x2 x3 x4 x5 (x6 + 1) M1)
      · refine go_iload 0 113 dX5_bestTry_111 rfl rfl ?_
        refine go_istore_n [(3, .int y3), (8, .int y3), (7, .int q2), (0, .ref (gB G + o0)), (1, .int x1), (2, .int x2), (4, .int x4), (5, .int x5), (6, .int x6)] 114 dX5_bestTry_113 rfl rfl (by decide) rfl ?_
        refine go_bipush 8 116 dX5_bestTry_114 rfl (by decide) ?_
        refine go_iload 7 118 dX5_bestTry_116 rfl rfl ?_
        refine go_imul 119 dX5_bestTry_118 rfl ?_
        refine go_iload 8 121 dX5_bestTry_119 rfl rfl ?_
        refine go_iadd 122 dX5_bestTry_121 rfl ?_
        refine go_nmI (fun y4 => ?_)
        refine go_istore [(4, .int y4), (3, .int y3), (8, .int y3), (7, .int q2), (0, .ref (gB G + o0)), (1, .int x1), (2, .int x2), (5, .int x5), (6, .int x6)] 124 dX5_bestTry_122 rfl (by decide) rfl ?_
        refine go_iinc (x6 + 1) 8 [(6, .int (x6 + 1)), (4, .int y4), (3, .int y3), (8, .int y3), (7, .int q2), (0, .ref (gB G + o0)), (1, .int x1), (2, .int x2), (5, .int x5)] 127 dX5_bestTry_124 rfl rfl rfl (by decide) rfl ?_
        refine go_goto 61 dX5_bestTry_127 (by decide) ?_
        exact go_lv [5, 6, 7, 2, 1, 8, 0] rfl (ih o0 h0 x1 x2 y3 y4 x5 (x6 + 1) M1)
def f_X5_bestTry_51 (w : Nat) : Nat → Nat → Int32 → Int32 → Int32 → Int32 → Int32 → mM → Option (Int32 × mM)
  | 0, _, _, _, _, _, _, _ => none
  | n + 1, o0, x1, x2, x3, x4, x5, M => (if 30 < x5 then some (x4, M) else (f_X5_bestTry_61 w (f_X5_bestTry_51 w n) w o0 x1 x2 x3 x4 x5 0 M))
set_option maxHeartbeats 4000000 in
set_option maxRecDepth 100000 in
theorem s_X5_bestTry_51 {l : Launch} {G : mG} {sk : List mS} (w : Nat) : ∀ (n : Nat) (o0 : Nat) (h0 : isK o0 15) (x1 : Int32) (x2 : Int32) (x3 : Int32) (x4 : Int32) (x5 : Int32) (M : mM), Go muX5_bestTry (rm 4) 0 0 l G sk (mFin G sk eI) (f_X5_bestTry_51 w n o0 x1 x2 x3 x4 x5 M) 51 [(0, .ref (gB G + o0)), (1, .int x1), (2, .int x2), (3, .int x3), (4, .int x4), (5, .int x5)] [] M := by
  intro n
  induction n with
  | zero =>
    intros
    exact go_none
  | succ n ih =>
    intro o0 h0 x1 x2 x3 x4 x5 M
    rw [f_X5_bestTry_51]
    refine go_iload 5 53 dX5_bestTry_51 rfl rfl ?_
    refine go_bipush 30 55 dX5_bestTry_53 rfl (by decide) ?_
    refine go_icmp_gt 136 58 dX5_bestTry_55 rfl (by decide) (fun _ => ?_) (fun _ => ?_)
    · refine go_iload 4 138 dX5_bestTry_136 rfl rfl ?_
      exact go_iret rfl dX5_bestTry_138
    · refine go_iconst 0 59 dX5_bestTry_58 rfl (by decide) ?_
      refine go_istore [(6, .int 0), (0, .ref (gB G + o0)), (1, .int x1), (2, .int x2), (3, .int x3), (4, .int x4), (5, .int x5)] 61 dX5_bestTry_59 rfl (by decide) rfl ?_
      exact go_lv [1, 2, 3, 4, 5, 6, 0] rfl (s_X5_bestTry_61 w (f_X5_bestTry_51 w n) (fun o0 h0 x1 x2 x3 x4 x5 M => ih o0 h0 x1 x2 x3 x4 x5 M) w o0 h0 x1 x2 x3 x4 x5 0 M)
def f_X5_bestTry_48 (w : Nat) (o0 : Nat) (x1 : Int32) (x2 : Int32) (x3 : Int32) (x4 : Int32) (M : mM) : Option (Int32 × mM) := (f_X5_bestTry_51 w w o0 x1 x2 x3 x4 1 M)
set_option maxHeartbeats 4000000 in
set_option maxRecDepth 100000 in
theorem s_X5_bestTry_48 {l : Launch} {G : mG} {sk : List mS} (w : Nat) (o0 : Nat) (h0 : isK o0 15) (x1 : Int32) (x2 : Int32) (x3 : Int32) (x4 : Int32) (M : mM) : Go muX5_bestTry (rm 4) 0 0 l G sk (mFin G sk eI) (f_X5_bestTry_48 w o0 x1 x2 x3 x4 M) 48 [(0, .ref (gB G + o0)), (1, .int x1), (2, .int x2), (3, .int x3), (4, .int x4)] [] M := by
  unfold f_X5_bestTry_48
  refine go_iconst 1 49 dX5_bestTry_48 rfl (by decide) ?_
  refine go_istore [(5, .int 1), (0, .ref (gB G + o0)), (1, .int x1), (2, .int x2), (3, .int x3), (4, .int x4)] 51 dX5_bestTry_49 rfl (by decide) rfl ?_
  exact go_lv [1, 2, 3, 4, 5, 0] rfl (s_X5_bestTry_51 w w o0 h0 x1 x2 x3 x4 1 M)
def f_X5_bestTry_13 (w : Nat) : Nat → Nat → Int32 → Int32 → Int32 → Int32 → Int32 → mM → Option (Int32 × mM)
  | 0, _, _, _, _, _, _, _ => none
  | n + 1, o0, x1, x2, x3, x4, x5, M => (if 10 ≤ x5 then (f_X5_bestTry_48 w o0 x1 x2 x3 x4 M) else cpk 0 (x5 * 8) 8 (sL (rF (rF o0 0) 4)) (sL (rF o0 4)) (lt (cI M (rF (rF o0 0) 4) (0 : Int32).toNatClampNeg (rF o0 4) (x5 * 8).toNatClampNeg (8 : Int32).toNatClampNeg) fun M1 => (f_X5_bestTry_13 w n o0 x1 x2 x3 x4 (x5 + 1) M1)))
set_option maxHeartbeats 4000000 in
set_option maxRecDepth 100000 in
theorem s_X5_bestTry_13 {l : Launch} {G : mG} {sk : List mS} (w : Nat) : ∀ (n : Nat) (o0 : Nat) (h0 : isK o0 15) (x1 : Int32) (x2 : Int32) (x3 : Int32) (x4 : Int32) (x5 : Int32) (M : mM), Go muX5_bestTry (rm 4) 0 0 l G sk (mFin G sk eI) (f_X5_bestTry_13 w n o0 x1 x2 x3 x4 x5 M) 13 [(0, .ref (gB G + o0)), (1, .int x1), (2, .int x2), (3, .int x3), (4, .int x4), (5, .int x5)] [] M := by
  intro n
  induction n with
  | zero =>
    intros
    exact go_none
  | succ n ih =>
    intro o0 h0 x1 x2 x3 x4 x5 M
    rw [f_X5_bestTry_13]
    refine go_iload 5 15 dX5_bestTry_13 rfl rfl ?_
    refine go_bipush 10 17 dX5_bestTry_15 rfl (by decide) ?_
    refine go_icmp_ge 48 20 dX5_bestTry_17 rfl (by decide) (fun _ => ?_) (fun _ => ?_)
    · exact go_lv [0, 1, 2, 3, 4] rfl (s_X5_bestTry_48 w o0 h0 x1 x2 x3 x4 M)
    · refine go_aload_n 0 21 dX5_bestTry_20 rfl rfl ?_
      refine go_getR flX5_21 h0 24 dX5_bestTry_21 rfl ?_
      refine go_getR flX5_36 (rk5_0 h0) 27 dX5_bestTry_24 rfl ?_
      refine go_iconst 0 28 dX5_bestTry_27 rfl (by decide) ?_
      refine go_aload_n 0 29 dX5_bestTry_28 rfl rfl ?_
      refine go_getR flX5_18 h0 32 dX5_bestTry_29 rfl ?_
      refine go_iload 5 34 dX5_bestTry_32 rfl rfl ?_
      refine go_bipush 8 36 dX5_bestTry_34 rfl (by decide) ?_
      refine go_imul 37 dX5_bestTry_36 rfl ?_
      refine go_bipush 8 39 dX5_bestTry_37 rfl (by decide) ?_
      refine go_copyi acX5_37 (rk9_4 (rk5_0 h0)) (rk5_4 h0) 42 dX5_bestTry_39 rfl (Nat.le_of_ble_eq_true rfl) (Nat.le_of_ble_eq_true rfl) ?_
      refine go_nmM (fun M1 => ?_)
      refine go_iinc (x5 + 1) 5 [(5, .int (x5 + 1)), (0, .ref (gB G + o0)), (1, .int x1), (2, .int x2), (3, .int x3), (4, .int x4)] 45 dX5_bestTry_42 rfl rfl rfl (by decide) rfl ?_
      refine go_goto 13 dX5_bestTry_45 (by decide) ?_
      exact go_lv [1, 2, 3, 4, 5, 0] rfl (ih o0 h0 x1 x2 x3 x4 (x5 + 1) M1)
def f_X5_bestTry (w : Nat) (o0 : Nat) (x1 : Int32) (M : mM) : Option (Int32 × mM) := bI (f_J6_bitCount_0f7a4 w x1 M) fun q2 M1 => (f_X5_bestTry_13 w w o0 x1 q2 q2 (-1) 0 M1)
set_option maxHeartbeats 4000000 in
set_option maxRecDepth 100000 in
theorem s_X5_bestTry {l : Launch} {G : mG} {sk : List mS} (w : Nat) (o0 : Nat) (h0 : isK o0 15) (x1 : Int32) (M : mM) : Go muX5_bestTry (rm 4) 0 0 l G sk (mFin G sk eI) (f_X5_bestTry w o0 x1 M) 0 [(0, .ref (gB G + o0)), (1, .int x1)] [] M := by
  unfold f_X5_bestTry
  refine go_iload_n 1 1 dX5_bestTry_0 rfl rfl ?_
  refine go_cSI1 0 cwX5_107 (m_J6_bitCount_0f7a4 w x1 M) 4 dX5_bestTry_1 rfl ⟨Nat.le_of_ble_eq_true rfl, Nat.le_of_ble_eq_true rfl⟩ ⟨Nat.zero_le _, Nat.zero_le _⟩ (Nat.le_of_ble_eq_true rfl) (fun q2 M1 _ => ?_)
  refine go_istore_n [(2, .int q2), (0, .ref (gB G + o0)), (1, .int x1)] 5 dX5_bestTry_4 rfl rfl (by decide) rfl ?_
  refine go_iload_n 0 6 dX5_bestTry_5 rfl rfl ?_
  refine go_istore_n [(3, .int q2), (2, .int q2), (0, .ref (gB G + o0)), (1, .int x1)] 7 dX5_bestTry_6 rfl rfl (by decide) rfl ?_
  refine go_iconst (-1) 8 dX5_bestTry_7 rfl (by decide) ?_
  refine go_istore [(4, .int (-1)), (3, .int q2), (2, .int q2), (0, .ref (gB G + o0)), (1, .int x1)] 10 dX5_bestTry_8 rfl (by decide) rfl ?_
  refine go_iconst 0 11 dX5_bestTry_10 rfl (by decide) ?_
  refine go_istore [(5, .int 0), (4, .int (-1)), (3, .int q2), (2, .int q2), (0, .ref (gB G + o0)), (1, .int x1)] 13 dX5_bestTry_11 rfl (by decide) rfl ?_
  exact go_lv [4, 5, 3, 2, 1, 0] rfl (s_X5_bestTry_13 w w o0 h0 x1 q2 q2 (-1) 0 M1)
theorem m_X5_bestTry {l : Launch} {G : mG} {sk : List mS} (w : Nat) (o0 : Nat) (h0 : isK o0 15) (x1 : Int32) (M : mM) : Mt l G sk yX5_bestTry muX5_bestTry 4 [.ref (gB G + o0), .int x1] M eI (f_X5_bestTry w o0 x1 M) := Mt.of (by decide) rfl (Nat.le_of_ble_eq_true rfl) (s_X5_bestTry w o0 h0 x1 M)
theorem dX5_millionths_0 : decode cX5_millionths 0 = .ok (.iconst 0, 1) := by decide +kernel
theorem dX5_millionths_1 : decode cX5_millionths 1 = .ok (.istore 4, 2) := by decide +kernel
theorem dX5_millionths_3 : decode cX5_millionths 3 = .ok (.iconst 0, 1) := by decide +kernel
theorem dX5_millionths_4 : decode cX5_millionths 4 = .ok (.istore 5, 2) := by decide +kernel
theorem dX5_millionths_6 : decode cX5_millionths 6 = .ok (.iload 5, 2) := by decide +kernel
theorem dX5_millionths_8 : decode cX5_millionths 8 = .ok (.iconst 1, 1) := by decide +kernel
theorem dX5_millionths_9 : decode cX5_millionths 9 = .ok (.iload_n 2, 1) := by decide +kernel
theorem dX5_millionths_10 : decode cX5_millionths 10 = .ok (.ishl, 1) := by decide +kernel
theorem dX5_millionths_11 : decode cX5_millionths 11 = .ok (.if_icmp .ge 132, 3) := by decide +kernel
theorem dX5_millionths_14 : decode cX5_millionths 14 = .ok (.aload_n 0, 1) := by decide +kernel
theorem dX5_millionths_15 : decode cX5_millionths 15 = .ok (.getfield 21, 3) := by decide +kernel
theorem dX5_millionths_18 : decode cX5_millionths 18 = .ok (.getfield 36, 3) := by decide +kernel
theorem dX5_millionths_21 : decode cX5_millionths 21 = .ok (.iload_n 1, 1) := by decide +kernel
theorem dX5_millionths_22 : decode cX5_millionths 22 = .ok (.iaload, 1) := by decide +kernel
theorem dX5_millionths_23 : decode cX5_millionths 23 = .ok (.istore 6, 2) := by decide +kernel
theorem dX5_millionths_25 : decode cX5_millionths 25 = .ok (.iconst 1, 1) := by decide +kernel
theorem dX5_millionths_26 : decode cX5_millionths 26 = .ok (.istore 7, 2) := by decide +kernel
theorem dX5_millionths_28 : decode cX5_millionths 28 = .ok (.iconst 0, 1) := by decide +kernel
theorem dX5_millionths_29 : decode cX5_millionths 29 = .ok (.istore 8, 2) := by decide +kernel
theorem dX5_millionths_31 : decode cX5_millionths 31 = .ok (.iload 8, 2) := by decide +kernel
theorem dX5_millionths_33 : decode cX5_millionths 33 = .ok (.iload_n 2, 1) := by decide +kernel
theorem dX5_millionths_34 : decode cX5_millionths 34 = .ok (.if_icmp .ge 86, 3) := by decide +kernel
theorem dX5_millionths_37 : decode cX5_millionths 37 = .ok (.iload 5, 2) := by decide +kernel
theorem dX5_millionths_39 : decode cX5_millionths 39 = .ok (.iload 8, 2) := by decide +kernel
theorem dX5_millionths_41 : decode cX5_millionths 41 = .ok (.ishr, 1) := by decide +kernel
theorem dX5_millionths_42 : decode cX5_millionths 42 = .ok (.iconst 1, 1) := by decide +kernel
theorem dX5_millionths_43 : decode cX5_millionths 43 = .ok (.iand, 1) := by decide +kernel
theorem dX5_millionths_44 : decode cX5_millionths 44 = .ok (.ifCond .eq 7, 3) := by decide +kernel
theorem dX5_millionths_47 : decode cX5_millionths 47 = .ok (.iconst 1, 1) := by decide +kernel
theorem dX5_millionths_48 : decode cX5_millionths 48 = .ok (.goto 4, 3) := by decide +kernel
theorem dX5_millionths_51 : decode cX5_millionths 51 = .ok (.iconst 0, 1) := by decide +kernel
theorem dX5_millionths_52 : decode cX5_millionths 52 = .ok (.istore 9, 2) := by decide +kernel
theorem dX5_millionths_54 : decode cX5_millionths 54 = .ok (.iload 7, 2) := by decide +kernel
theorem dX5_millionths_56 : decode cX5_millionths 56 = .ok (.iload 9, 2) := by decide +kernel
theorem dX5_millionths_58 : decode cX5_millionths 58 = .ok (.ifCond .eq 7, 3) := by decide +kernel
theorem dX5_millionths_61 : decode cX5_millionths 61 = .ok (.iload_n 3, 1) := by decide +kernel
theorem dX5_millionths_62 : decode cX5_millionths 62 = .ok (.goto 7, 3) := by decide +kernel
theorem dX5_millionths_65 : decode cX5_millionths 65 = .ok (.bipush 10, 2) := by decide +kernel
theorem dX5_millionths_67 : decode cX5_millionths 67 = .ok (.iload_n 3, 1) := by decide +kernel
theorem dX5_millionths_68 : decode cX5_millionths 68 = .ok (.isub, 1) := by decide +kernel
theorem dX5_millionths_69 : decode cX5_millionths 69 = .ok (.imul, 1) := by decide +kernel
theorem dX5_millionths_70 : decode cX5_millionths 70 = .ok (.istore 7, 2) := by decide +kernel
theorem dX5_millionths_72 : decode cX5_millionths 72 = .ok (.aload_n 0, 1) := by decide +kernel
theorem dX5_millionths_73 : decode cX5_millionths 73 = .ok (.getfield 31, 3) := by decide +kernel
theorem dX5_millionths_76 : decode cX5_millionths 76 = .ok (.iload_n 1, 1) := by decide +kernel
theorem dX5_millionths_77 : decode cX5_millionths 77 = .ok (.iload 6, 2) := by decide +kernel
theorem dX5_millionths_79 : decode cX5_millionths 79 = .ok (.aload_n 0, 1) := by decide +kernel
theorem dX5_millionths_80 : decode cX5_millionths 80 = .ok (.getfield 21, 3) := by decide +kernel
theorem dX5_millionths_83 : decode cX5_millionths 83 = .ok (.getfield 60, 3) := by decide +kernel
theorem dX5_millionths_86 : decode cX5_millionths 86 = .ok (.iload_n 1, 1) := by decide +kernel
theorem dX5_millionths_87 : decode cX5_millionths 87 = .ok (.iaload, 1) := by decide +kernel
theorem dX5_millionths_88 : decode cX5_millionths 88 = .ok (.iload 9, 2) := by decide +kernel
theorem dX5_millionths_90 : decode cX5_millionths 90 = .ok (.ifCond .eq 8, 3) := by decide +kernel
theorem dX5_millionths_93 : decode cX5_millionths 93 = .ok (.bipush 9, 2) := by decide +kernel
theorem dX5_millionths_95 : decode cX5_millionths 95 = .ok (.goto 4, 3) := by decide +kernel
theorem dX5_millionths_98 : decode cX5_millionths 98 = .ok (.iconst 0, 1) := by decide +kernel
theorem dX5_millionths_99 : decode cX5_millionths 99 = .ok (.aload_n 0, 1) := by decide +kernel
theorem dX5_millionths_100 : decode cX5_millionths 100 = .ok (.getfield 21, 3) := by decide +kernel
theorem dX5_millionths_103 : decode cX5_millionths 103 = .ok (.getfield 47, 3) := by decide +kernel
theorem dX5_millionths_106 : decode cX5_millionths 106 = .ok (.iload 8, 2) := by decide +kernel
theorem dX5_millionths_108 : decode cX5_millionths 108 = .ok (.iadd, 1) := by decide +kernel
theorem dX5_millionths_109 : decode cX5_millionths 109 = .ok (.invokevirtual 63, 3) := by decide +kernel
theorem dX5_millionths_112 : decode cX5_millionths 112 = .ok (.istore 6, 2) := by decide +kernel
theorem dX5_millionths_114 : decode cX5_millionths 114 = .ok (.iinc 8 1, 3) := by decide +kernel
theorem dX5_millionths_117 : decode cX5_millionths 117 = .ok (.goto (-86), 3) := by decide +kernel
theorem dX5_millionths_120 : decode cX5_millionths 120 = .ok (.aload_n 0, 1) := by decide +kernel
theorem dX5_millionths_121 : decode cX5_millionths 121 = .ok (.iload_n 1, 1) := by decide +kernel
theorem dX5_millionths_122 : decode cX5_millionths 122 = .ok (.iload 6, 2) := by decide +kernel
theorem dX5_millionths_124 : decode cX5_millionths 124 = .ok (.invokevirtual 67, 3) := by decide +kernel
theorem dX5_millionths_127 : decode cX5_millionths 127 = .ok (.ifCond .eq 10, 3) := by decide +kernel
theorem dX5_millionths_130 : decode cX5_millionths 130 = .ok (.iload 4, 2) := by decide +kernel
theorem dX5_millionths_132 : decode cX5_millionths 132 = .ok (.iload 7, 2) := by decide +kernel
theorem dX5_millionths_134 : decode cX5_millionths 134 = .ok (.iadd, 1) := by decide +kernel
theorem dX5_millionths_135 : decode cX5_millionths 135 = .ok (.istore 4, 2) := by decide +kernel
theorem dX5_millionths_137 : decode cX5_millionths 137 = .ok (.iinc 5 1, 3) := by decide +kernel
theorem dX5_millionths_140 : decode cX5_millionths 140 = .ok (.goto (-134), 3) := by decide +kernel
theorem dX5_millionths_143 : decode cX5_millionths 143 = .ok (.ldc 119, 2) := by decide +kernel
theorem dX5_millionths_145 : decode cX5_millionths 145 = .ok (.istore 5, 2) := by decide +kernel
theorem dX5_millionths_147 : decode cX5_millionths 147 = .ok (.iconst 0, 1) := by decide +kernel
theorem dX5_millionths_148 : decode cX5_millionths 148 = .ok (.istore 6, 2) := by decide +kernel
theorem dX5_millionths_150 : decode cX5_millionths 150 = .ok (.iload 6, 2) := by decide +kernel
theorem dX5_millionths_152 : decode cX5_millionths 152 = .ok (.iload_n 2, 1) := by decide +kernel
theorem dX5_millionths_153 : decode cX5_millionths 153 = .ok (.if_icmp .ge 16, 3) := by decide +kernel
theorem dX5_millionths_156 : decode cX5_millionths 156 = .ok (.iload 5, 2) := by decide +kernel
theorem dX5_millionths_158 : decode cX5_millionths 158 = .ok (.bipush 10, 2) := by decide +kernel
theorem dX5_millionths_160 : decode cX5_millionths 160 = .ok (.idiv, 1) := by decide +kernel
theorem dX5_millionths_161 : decode cX5_millionths 161 = .ok (.istore 5, 2) := by decide +kernel
theorem dX5_millionths_163 : decode cX5_millionths 163 = .ok (.iinc 6 1, 3) := by decide +kernel
theorem dX5_millionths_166 : decode cX5_millionths 166 = .ok (.goto (-16), 3) := by decide +kernel
theorem dX5_millionths_169 : decode cX5_millionths 169 = .ok (.iload 4, 2) := by decide +kernel
theorem dX5_millionths_171 : decode cX5_millionths 171 = .ok (.iload 5, 2) := by decide +kernel
theorem dX5_millionths_173 : decode cX5_millionths 173 = .ok (.imul, 1) := by decide +kernel
theorem dX5_millionths_174 : decode cX5_millionths 174 = .ok (.ireturn, 1) := by decide +kernel
def f_X5_millionths_99 (w : Nat) (k6 : Nat → Int32 → Int32 → Int32 → Int32 → Int32 → mM → Option (Int32 × mM)) (k31 : Nat → Int32 → Int32 → Int32 → Int32 → Int32 → Int32 → Int32 → Int32 → mM → Option (Int32 × mM)) (o0 : Nat) (x1 : Int32) (x2 : Int32) (x3 : Int32) (x4 : Int32) (x5 : Int32) (x7 : Int32) (x8 : Int32) (xs0 : Int32) (xs1 : Int32) (xs2 : Int32) (xs3 : Int32) (os4 : Nat) (M : mM) : Option (Int32 × mM) := bI (f_X6_swollenNext w os4 xs3 xs2 xs1 xs0 ((M.1 (rF o0 0) 1) + x8) M) fun q2 M1 => (k31 o0 x1 x2 x3 x4 x5 q2 x7 (x8 + 1) M1)
set_option maxHeartbeats 4000000 in
set_option maxRecDepth 100000 in
theorem s_X5_millionths_99 {l : Launch} {G : mG} {sk : List mS} (w : Nat) (k6 : Nat → Int32 → Int32 → Int32 → Int32 → Int32 → mM → Option (Int32 × mM)) (hk6 : ∀ (o0 : Nat) (h0 : isK o0 15) (x1 : Int32) (x2 : Int32) (x3 : Int32) (x4 : Int32) (x5 : Int32) (M : mM), Go muX5_millionths (rm 3) 0 0 l G sk (mFin G sk eI) (k6 o0 x1 x2 x3 x4 x5 M) 6 [(0, .ref (gB G + o0)), (1, .int x1), (2, .int x2), (3, .int x3), (4, .int x4), (5, .int x5)] [] M) (k31 : Nat → Int32 → Int32 → Int32 → Int32 → Int32 → Int32 → Int32 → Int32 → mM → Option (Int32 × mM)) (hk31 : ∀ (o0 : Nat) (h0 : isK o0 15) (x1 : Int32) (x2 : Int32) (x3 : Int32) (x4 : Int32) (x5 : Int32) (x6 : Int32) (x7 : Int32) (x8 : Int32) (M : mM), Go muX5_millionths (rm 3) 0 0 l G sk (mFin G sk eI) (k31 o0 x1 x2 x3 x4 x5 x6 x7 x8 M) 31 [(0, .ref (gB G + o0)), (1, .int x1), (2, .int x2), (3, .int x3), (4, .int x4), (5, .int x5), (6, .int x6), (7, .int x7), (8, .int x8)] [] M) (o0 : Nat) (h0 : isK o0 15) (x1 : Int32) (x2 : Int32) (x3 : Int32) (x4 : Int32) (x5 : Int32) (x7 : Int32) (x8 : Int32) (xs0 : Int32) (xs1 : Int32) (xs2 : Int32) (xs3 : Int32) (os4 : Nat) (hs4 : isK os4 16) (M : mM) : Go muX5_millionths (rm 3) 0 0 l G sk (mFin G sk eI) (f_X5_millionths_99 w k6 k31 o0 x1 x2 x3 x4 x5 x7 x8 xs0 xs1 xs2 xs3 os4 M) 99 [(0, .ref (gB G + o0)), (1, .int x1), (2, .int x2), (3, .int x3), (4, .int x4), (5, .int x5), (7, .int x7), (8, .int x8)] [.int xs0, .int xs1, .int xs2, .int xs3, .ref (gB G + os4)] M := by
  unfold f_X5_millionths_99
  refine go_aload_n 0 100 dX5_millionths_99 rfl rfl ?_
  refine go_getR flX5_21 h0 103 dX5_millionths_100 rfl ?_
  refine go_getI flX5_47 (by decide) (rk5_0 h0) 106 dX5_millionths_103 rfl ?_
  refine go_iload 7 108 dX5_millionths_106 rfl rfl ?_
  refine go_iadd 109 dX5_millionths_108 rfl ?_
  refine go_cVI5 2 clX6 cwX5_63 (m_X6_swollenNext w os4 hs4 xs3 xs2 xs1 xs0 ((M.1 (rF o0 0) 1) + x8) M) hs4 112 dX5_millionths_109 rfl ⟨Nat.le_of_ble_eq_true rfl, Nat.le_of_ble_eq_true rfl⟩ ⟨Nat.zero_le _, Nat.zero_le _⟩ (Nat.le_of_ble_eq_true rfl) (fun q2 M1 _ => ?_)
  refine go_istore [(6, .int q2), (0, .ref (gB G + o0)), (1, .int x1), (2, .int x2), (3, .int x3), (4, .int x4), (5, .int x5), (7, .int x7), (8, .int x8)] 114 dX5_millionths_112 rfl (by decide) rfl ?_
  refine go_iinc (x8 + 1) 8 [(8, .int (x8 + 1)), (6, .int q2), (0, .ref (gB G + o0)), (1, .int x1), (2, .int x2), (3, .int x3), (4, .int x4), (5, .int x5), (7, .int x7)] 117 dX5_millionths_114 rfl rfl rfl (by decide) rfl ?_
  refine go_goto 31 dX5_millionths_117 (by decide) ?_
  exact go_lv [2, 3, 4, 5, 6, 7, 1, 8, 0] rfl (hk31 o0 h0 x1 x2 x3 x4 x5 q2 x7 (x8 + 1) M1)
def f_X5_millionths_69 (w : Nat) (k6 : Nat → Int32 → Int32 → Int32 → Int32 → Int32 → mM → Option (Int32 × mM)) (k31 : Nat → Int32 → Int32 → Int32 → Int32 → Int32 → Int32 → Int32 → Int32 → mM → Option (Int32 × mM)) (o0 : Nat) (x1 : Int32) (x2 : Int32) (x3 : Int32) (x4 : Int32) (x5 : Int32) (x6 : Int32) (x8 : Int32) (x9 : Int32) (xs0 : Int32) (xs1 : Int32) (M : mM) : Option (Int32 × mM) := lt (xs1 * xs0) fun y1 => chk x1 (sL (rF (rF o0 0) 3)) ((if x9 = 0 then (f_X5_millionths_99 w k6 k31 o0 x1 x2 x3 x4 x5 y1 x8 0 (M.1 (rF (rF o0 0) 3) x1.toNatClampNeg) x6 x1 (rF o0 1) M) else (f_X5_millionths_99 w k6 k31 o0 x1 x2 x3 x4 x5 y1 x8 9 (M.1 (rF (rF o0 0) 3) x1.toNatClampNeg) x6 x1 (rF o0 1) M)))
set_option maxHeartbeats 4000000 in
set_option maxRecDepth 100000 in
theorem s_X5_millionths_69 {l : Launch} {G : mG} {sk : List mS} (w : Nat) (k6 : Nat → Int32 → Int32 → Int32 → Int32 → Int32 → mM → Option (Int32 × mM)) (hk6 : ∀ (o0 : Nat) (h0 : isK o0 15) (x1 : Int32) (x2 : Int32) (x3 : Int32) (x4 : Int32) (x5 : Int32) (M : mM), Go muX5_millionths (rm 3) 0 0 l G sk (mFin G sk eI) (k6 o0 x1 x2 x3 x4 x5 M) 6 [(0, .ref (gB G + o0)), (1, .int x1), (2, .int x2), (3, .int x3), (4, .int x4), (5, .int x5)] [] M) (k31 : Nat → Int32 → Int32 → Int32 → Int32 → Int32 → Int32 → Int32 → Int32 → mM → Option (Int32 × mM)) (hk31 : ∀ (o0 : Nat) (h0 : isK o0 15) (x1 : Int32) (x2 : Int32) (x3 : Int32) (x4 : Int32) (x5 : Int32) (x6 : Int32) (x7 : Int32) (x8 : Int32) (M : mM), Go muX5_millionths (rm 3) 0 0 l G sk (mFin G sk eI) (k31 o0 x1 x2 x3 x4 x5 x6 x7 x8 M) 31 [(0, .ref (gB G + o0)), (1, .int x1), (2, .int x2), (3, .int x3), (4, .int x4), (5, .int x5), (6, .int x6), (7, .int x7), (8, .int x8)] [] M) (o0 : Nat) (h0 : isK o0 15) (x1 : Int32) (x2 : Int32) (x3 : Int32) (x4 : Int32) (x5 : Int32) (x6 : Int32) (x8 : Int32) (x9 : Int32) (xs0 : Int32) (xs1 : Int32) (M : mM) : Go muX5_millionths (rm 3) 0 0 l G sk (mFin G sk eI) (f_X5_millionths_69 w k6 k31 o0 x1 x2 x3 x4 x5 x6 x8 x9 xs0 xs1 M) 69 [(0, .ref (gB G + o0)), (1, .int x1), (2, .int x2), (3, .int x3), (4, .int x4), (5, .int x5), (6, .int x6), (8, .int x8), (9, .int x9)] [.int xs0, .int xs1] M := by
  unfold f_X5_millionths_69
  refine go_imul 70 dX5_millionths_69 rfl ?_
  refine go_nmI (fun y1 => ?_)
  refine go_istore [(7, .int y1), (0, .ref (gB G + o0)), (1, .int x1), (2, .int x2), (3, .int x3), (4, .int x4), (5, .int x5), (6, .int x6), (8, .int x8), (9, .int x9)] 72 dX5_millionths_70 rfl (by decide) rfl ?_
  refine go_aload_n 1 73 dX5_millionths_72 rfl rfl ?_
  refine go_getR flX5_31 h0 76 dX5_millionths_73 rfl ?_
  refine go_iload_n 2 77 dX5_millionths_76 rfl rfl ?_
  refine go_iload 7 79 dX5_millionths_77 rfl rfl ?_
  refine go_aload_n 1 80 dX5_millionths_79 rfl rfl ?_
  refine go_getR flX5_21 h0 83 dX5_millionths_80 rfl ?_
  refine go_getR flX5_60 (rk5_0 h0) 86 dX5_millionths_83 rfl ?_
  refine go_iload_n 2 87 dX5_millionths_86 rfl rfl ?_
  refine go_iald (rk9_3 (rk5_0 h0)) 88 dX5_millionths_87 rfl ?_
  refine go_iload 9 90 dX5_millionths_88 rfl rfl ?_
  refine go_if_eq 98 93 dX5_millionths_90 rfl (by decide) (fun _ => ?_) (fun _ => ?_)
  · refine go_iconst 0 99 dX5_millionths_98 rfl (by decide) ?_
    exact go_lv [1, 2, 3, 4, 5, 6, 0, 8] rfl (s_X5_millionths_99 w k6 hk6 k31 hk31 o0 h0 x1 x2 x3 x4 x5 y1 x8 0 (M.1 (rF (rF o0 0) 3) x1.toNatClampNeg) x6 x1 (rF o0 1) (rk5_1 h0) M)
  · refine go_bipush 9 95 dX5_millionths_93 rfl (by decide) ?_
    refine go_goto 99 dX5_millionths_95 (by decide) ?_
    exact go_lv [1, 2, 3, 4, 5, 6, 0, 8] rfl (s_X5_millionths_99 w k6 hk6 k31 hk31 o0 h0 x1 x2 x3 x4 x5 y1 x8 9 (M.1 (rF (rF o0 0) 3) x1.toNatClampNeg) x6 x1 (rF o0 1) (rk5_1 h0) M)
def f_X5_millionths_52 (w : Nat) (k6 : Nat → Int32 → Int32 → Int32 → Int32 → Int32 → mM → Option (Int32 × mM)) (k31 : Nat → Int32 → Int32 → Int32 → Int32 → Int32 → Int32 → Int32 → Int32 → mM → Option (Int32 × mM)) (o0 : Nat) (x1 : Int32) (x2 : Int32) (x3 : Int32) (x4 : Int32) (x5 : Int32) (x6 : Int32) (x7 : Int32) (x8 : Int32) (xs0 : Int32) (M : mM) : Option (Int32 × mM) := (if xs0 = 0 then (f_X5_millionths_69 w k6 k31 o0 x1 x2 x3 x4 x5 x6 x8 xs0 (10 - x3) x7 M) else (f_X5_millionths_69 w k6 k31 o0 x1 x2 x3 x4 x5 x6 x8 xs0 x3 x7 M))
set_option maxHeartbeats 4000000 in
set_option maxRecDepth 100000 in
theorem s_X5_millionths_52 {l : Launch} {G : mG} {sk : List mS} (w : Nat) (k6 : Nat → Int32 → Int32 → Int32 → Int32 → Int32 → mM → Option (Int32 × mM)) (hk6 : ∀ (o0 : Nat) (h0 : isK o0 15) (x1 : Int32) (x2 : Int32) (x3 : Int32) (x4 : Int32) (x5 : Int32) (M : mM), Go muX5_millionths (rm 3) 0 0 l G sk (mFin G sk eI) (k6 o0 x1 x2 x3 x4 x5 M) 6 [(0, .ref (gB G + o0)), (1, .int x1), (2, .int x2), (3, .int x3), (4, .int x4), (5, .int x5)] [] M) (k31 : Nat → Int32 → Int32 → Int32 → Int32 → Int32 → Int32 → Int32 → Int32 → mM → Option (Int32 × mM)) (hk31 : ∀ (o0 : Nat) (h0 : isK o0 15) (x1 : Int32) (x2 : Int32) (x3 : Int32) (x4 : Int32) (x5 : Int32) (x6 : Int32) (x7 : Int32) (x8 : Int32) (M : mM), Go muX5_millionths (rm 3) 0 0 l G sk (mFin G sk eI) (k31 o0 x1 x2 x3 x4 x5 x6 x7 x8 M) 31 [(0, .ref (gB G + o0)), (1, .int x1), (2, .int x2), (3, .int x3), (4, .int x4), (5, .int x5), (6, .int x6), (7, .int x7), (8, .int x8)] [] M) (o0 : Nat) (h0 : isK o0 15) (x1 : Int32) (x2 : Int32) (x3 : Int32) (x4 : Int32) (x5 : Int32) (x6 : Int32) (x7 : Int32) (x8 : Int32) (xs0 : Int32) (M : mM) : Go muX5_millionths (rm 3) 0 0 l G sk (mFin G sk eI) (f_X5_millionths_52 w k6 k31 o0 x1 x2 x3 x4 x5 x6 x7 x8 xs0 M) 52 [(0, .ref (gB G + o0)), (1, .int x1), (2, .int x2), (3, .int x3), (4, .int x4), (5, .int x5), (6, .int x6), (7, .int x7), (8, .int x8)] [.int xs0] M := by
  unfold f_X5_millionths_52
  refine go_istore [(9, .int xs0), (0, .ref (gB G + o0)), (1, .int x1), (2, .int x2), (3, .int x3), (4, .int x4), (5, .int x5), (6, .int x6), (7, .int x7), (8, .int x8)] 54 dX5_millionths_52 rfl (by decide) rfl ?_
  refine go_iload 8 56 dX5_millionths_54 rfl rfl ?_
  refine go_iload 0 58 dX5_millionths_56 rfl rfl ?_
  refine go_if_eq 65 61 dX5_millionths_58 rfl (by decide) (fun _ => ?_) (fun _ => ?_)
  · refine go_bipush 10 67 dX5_millionths_65 rfl (by decide) ?_
    refine go_iload_n 4 68 dX5_millionths_67 rfl rfl ?_
    refine go_isub 69 dX5_millionths_68 rfl ?_
    exact go_lv [1, 2, 3, 4, 5, 6, 7, 9, 0] rfl (s_X5_millionths_69 w k6 hk6 k31 hk31 o0 h0 x1 x2 x3 x4 x5 x6 x8 xs0 (10 - x3) x7 M)
  · refine go_iload_n 4 62 dX5_millionths_61 rfl rfl ?_
    refine go_goto 69 dX5_millionths_62 (by decide) ?_
    exact go_lv [1, 2, 3, 4, 5, 6, 7, 9, 0] rfl (s_X5_millionths_69 w k6 hk6 k31 hk31 o0 h0 x1 x2 x3 x4 x5 x6 x8 xs0 x3 x7 M)
def f_X5_millionths_120 (w : Nat) (k6 : Nat → Int32 → Int32 → Int32 → Int32 → Int32 → mM → Option (Int32 × mM)) (o0 : Nat) (x1 : Int32) (x2 : Int32) (x3 : Int32) (x4 : Int32) (x5 : Int32) (x6 : Int32) (x7 : Int32) (M : mM) : Option (Int32 × mM) := bI (f_X5_sticksAt w o0 x1 x6 M) fun q2 M1 => (if q2 = 0 then (k6 o0 x1 x2 x3 x4 (x5 + 1) M1) else lt (x4 + x7) fun y3 => (k6 o0 x1 x2 x3 y3 (x5 + 1) M1))
set_option maxHeartbeats 4000000 in
set_option maxRecDepth 100000 in
theorem s_X5_millionths_120 {l : Launch} {G : mG} {sk : List mS} (w : Nat) (k6 : Nat → Int32 → Int32 → Int32 → Int32 → Int32 → mM → Option (Int32 × mM)) (hk6 : ∀ (o0 : Nat) (h0 : isK o0 15) (x1 : Int32) (x2 : Int32) (x3 : Int32) (x4 : Int32) (x5 : Int32) (M : mM), Go muX5_millionths (rm 3) 0 0 l G sk (mFin G sk eI) (k6 o0 x1 x2 x3 x4 x5 M) 6 [(0, .ref (gB G + o0)), (1, .int x1), (2, .int x2), (3, .int x3), (4, .int x4), (5, .int x5)] [] M) (o0 : Nat) (h0 : isK o0 15) (x1 : Int32) (x2 : Int32) (x3 : Int32) (x4 : Int32) (x5 : Int32) (x6 : Int32) (x7 : Int32) (M : mM) : Go muX5_millionths (rm 3) 0 0 l G sk (mFin G sk eI) (f_X5_millionths_120 w k6 o0 x1 x2 x3 x4 x5 x6 x7 M) 120 [(0, .ref (gB G + o0)), (1, .int x1), (2, .int x2), (3, .int x3), (4, .int x4), (5, .int x5), (6, .int x6), (7, .int x7)] [] M := by
  unfold f_X5_millionths_120
  refine go_aload_n 0 121 dX5_millionths_120 rfl rfl ?_
  refine go_iload_n 1 122 dX5_millionths_121 rfl rfl ?_
  refine go_iload 6 124 dX5_millionths_122 rfl rfl ?_
  refine go_cVI2 1 clX5 cwX5_67 (m_X5_sticksAt w o0 h0 x1 x6 M) h0 127 dX5_millionths_124 rfl ⟨Nat.le_of_ble_eq_true rfl, Nat.le_of_ble_eq_true rfl⟩ ⟨Nat.zero_le _, Nat.zero_le _⟩ (Nat.le_of_ble_eq_true rfl) (fun q2 M1 _ => ?_)
  refine go_if_eq 137 130 dX5_millionths_127 rfl (by decide) (fun _ => ?_) (fun _ => ?_)
  · refine go_iinc (x5 + 1) 5 [(5, .int (x5 + 1)), (0, .ref (gB G + o0)), (1, .int x1), (2, .int x2), (3, .int x3), (4, .int x4), (6, .int x6), (7, .int x7)] 140 dX5_millionths_137 rfl rfl rfl (by decide) rfl ?_
    refine go_goto 6 dX5_millionths_140 (by decide) ?_
    exact go_lv [1, 2, 3, 4, 5, 0] rfl (hk6 o0 h0 x1 x2 x3 x4 (x5 + 1) M1)
  · refine go_iload 4 132 dX5_millionths_130 rfl rfl ?_
    refine go_iload 7 134 dX5_millionths_132 rfl rfl ?_
    refine go_iadd 135 dX5_millionths_134 rfl ?_
    refine go_nmI (fun y3 => ?_)
    refine go_istore [(4, .int y3), (0, .ref (gB G + o0)), (1, .int x1), (2, .int x2), (3, .int x3), (5, .int x5), (6, .int x6), (7, .int x7)] 137 dX5_millionths_135 rfl (by decide) rfl ?_
    refine go_iinc (x5 + 1) 5 [(5, .int (x5 + 1)), (4, .int y3), (0, .ref (gB G + o0)), (1, .int x1), (2, .int x2), (3, .int x3), (6, .int x6), (7, .int x7)] 140 dX5_millionths_137 rfl rfl rfl (by decide) rfl ?_
    refine go_goto 6 dX5_millionths_140 (by decide) ?_
    exact go_lv [2, 3, 4, 5, 1, 0] rfl (hk6 o0 h0 x1 x2 x3 y3 (x5 + 1) M1)
def f_X5_millionths_31 (w : Nat) (k6 : Nat → Int32 → Int32 → Int32 → Int32 → Int32 → mM → Option (Int32 × mM)) : Nat → Nat → Int32 → Int32 → Int32 → Int32 → Int32 → Int32 → Int32 → Int32 → mM → Option (Int32 × mM)
  | 0, _, _, _, _, _, _, _, _, _, _ => none
  | n + 1, o0, x1, x2, x3, x4, x5, x6, x7, x8, M => (if x2 ≤ x8 then (f_X5_millionths_120 w k6 o0 x1 x2 x3 x4 x5 x6 x7 M) else (if ((x5 >>> (x8 &&& 31)) &&& 1) = 0 then (f_X5_millionths_52 w k6 (f_X5_millionths_31 w k6 n) o0 x1 x2 x3 x4 x5 x6 x7 x8 0 M) else (f_X5_millionths_52 w k6 (f_X5_millionths_31 w k6 n) o0 x1 x2 x3 x4 x5 x6 x7 x8 1 M)))
set_option maxHeartbeats 4000000 in
set_option maxRecDepth 100000 in
theorem s_X5_millionths_31 {l : Launch} {G : mG} {sk : List mS} (w : Nat) (k6 : Nat → Int32 → Int32 → Int32 → Int32 → Int32 → mM → Option (Int32 × mM)) (hk6 : ∀ (o0 : Nat) (h0 : isK o0 15) (x1 : Int32) (x2 : Int32) (x3 : Int32) (x4 : Int32) (x5 : Int32) (M : mM), Go muX5_millionths (rm 3) 0 0 l G sk (mFin G sk eI) (k6 o0 x1 x2 x3 x4 x5 M) 6 [(0, .ref (gB G + o0)), (1, .int x1), (2, .int x2), (3, .int x3), (4, .int x4), (5, .int x5)] [] M) : ∀ (n : Nat) (o0 : Nat) (h0 : isK o0 15) (x1 : Int32) (x2 : Int32) (x3 : Int32) (x4 : Int32) (x5 : Int32) (x6 : Int32) (x7 : Int32) (x8 : Int32) (M : mM), Go muX5_millionths (rm 3) 0 0 l G sk (mFin G sk eI) (f_X5_millionths_31 w k6 n o0 x1 x2 x3 x4 x5 x6 x7 x8 M) 31 [(0, .ref (gB G + o0)), (1, .int x1), (2, .int x2), (3, .int x3), (4, .int x4), (5, .int x5), (6, .int x6), (7, .int x7), (8, .int x8)] [] M := by
  intro n
  induction n with
  | zero =>
    intros
    exact go_none
  | succ n ih =>
    intro o0 h0 x1 x2 x3 x4 x5 x6 x7 x8 M
    rw [f_X5_millionths_31]
    refine go_iload 8 33 dX5_millionths_31 rfl rfl ?_
    refine go_iload_n 2 34 dX5_millionths_33 rfl rfl ?_
    refine go_icmp_ge 120 37 dX5_millionths_34 rfl (by decide) (fun _ => ?_) (fun _ => ?_)
    · exact go_lv [0, 1, 2, 3, 4, 5, 6, 7] rfl (s_X5_millionths_120 w k6 hk6 o0 h0 x1 x2 x3 x4 x5 x6 x7 M)
    · refine go_iload 5 39 dX5_millionths_37 rfl rfl ?_
      refine go_iload 8 41 dX5_millionths_39 rfl rfl ?_
      refine go_ishr 42 dX5_millionths_41 rfl ?_
      refine go_iconst 1 43 dX5_millionths_42 rfl (by decide) ?_
      refine go_iand 44 dX5_millionths_43 rfl ?_
      refine go_if_eq 51 47 dX5_millionths_44 rfl (by decide) (fun _ => ?_) (fun _ => ?_)
      · refine go_iconst 0 52 dX5_millionths_51 rfl (by decide) ?_
        exact go_lv [0, 1, 2, 3, 4, 5, 6, 7, 8] rfl (s_X5_millionths_52 w k6 hk6 (f_X5_millionths_31 w k6 n) (fun o0 h0 x1 x2 x3 x4 x5 x6 x7 x8 M => ih o0 h0 x1 x2 x3 x4 x5 x6 x7 x8 M) o0 h0 x1 x2 x3 x4 x5 x6 x7 x8 0 M)
      · refine go_iconst 1 48 dX5_millionths_47 rfl (by decide) ?_
        refine go_goto 52 dX5_millionths_48 (by decide) ?_
        exact go_lv [0, 1, 2, 3, 4, 5, 6, 7, 8] rfl (s_X5_millionths_52 w k6 hk6 (f_X5_millionths_31 w k6 n) (fun o0 h0 x1 x2 x3 x4 x5 x6 x7 x8 M => ih o0 h0 x1 x2 x3 x4 x5 x6 x7 x8 M) o0 h0 x1 x2 x3 x4 x5 x6 x7 x8 1 M)
def f_X5_millionths_150 (w : Nat) : Nat → Int32 → Int32 → Int32 → Int32 → mM → Option (Int32 × mM)
  | 0, _, _, _, _, _ => none
  | n + 1, x2, x4, x5, x6, M => (if x2 ≤ x6 then some ((x4 * x5), M) else if (10 : Int32) = 0 then none else (lt (x5 / 10) fun y1 => (f_X5_millionths_150 w n x2 x4 y1 (x6 + 1) M)))
set_option maxHeartbeats 4000000 in
set_option maxRecDepth 100000 in
theorem s_X5_millionths_150 {l : Launch} {G : mG} {sk : List mS} (w : Nat) : ∀ (n : Nat) (x2 : Int32) (x4 : Int32) (x5 : Int32) (x6 : Int32) (M : mM), Go muX5_millionths (rm 3) 0 0 l G sk (mFin G sk eI) (f_X5_millionths_150 w n x2 x4 x5 x6 M) 150 [(2, .int x2), (4, .int x4), (5, .int x5), (6, .int x6)] [] M := by
  intro n
  induction n with
  | zero =>
    intros
    exact go_none
  | succ n ih =>
    intro x2 x4 x5 x6 M
    rw [f_X5_millionths_150]
    refine go_iload 3 152 dX5_millionths_150 rfl rfl ?_
    refine go_iload_n 0 153 dX5_millionths_152 rfl rfl ?_
    refine go_icmp_ge 169 156 dX5_millionths_153 rfl (by decide) (fun _ => ?_) (fun _ => ?_)
    · refine go_iload 1 171 dX5_millionths_169 rfl rfl ?_
      refine go_iload 2 173 dX5_millionths_171 rfl rfl ?_
      refine go_imul 174 dX5_millionths_173 rfl ?_
      exact go_iret rfl dX5_millionths_174
    · refine go_iload 2 158 dX5_millionths_156 rfl rfl ?_
      refine go_bipush 10 160 dX5_millionths_158 rfl (by decide) ?_
      refine go_idiv 161 dX5_millionths_160 rfl ?_
      refine go_nmI (fun y1 => ?_)
      refine go_istore [(5, .int y1), (2, .int x2), (4, .int x4), (6, .int x6)] 163 dX5_millionths_161 rfl (by decide) rfl ?_
      refine go_iinc (x6 + 1) 3 [(6, .int (x6 + 1)), (5, .int y1), (2, .int x2), (4, .int x4)] 166 dX5_millionths_163 rfl rfl rfl (by decide) rfl ?_
      refine go_goto 150 dX5_millionths_166 (by decide) ?_
      exact go_lv [2, 3, 1, 0] rfl (ih x2 x4 y1 (x6 + 1) M)
def f_X5_millionths_143 (w : Nat) (x2 : Int32) (x4 : Int32) (M : mM) : Option (Int32 × mM) := (f_X5_millionths_150 w w x2 x4 1000000 0 M)
set_option maxHeartbeats 4000000 in
set_option maxRecDepth 100000 in
theorem s_X5_millionths_143 {l : Launch} {G : mG} {sk : List mS} (w : Nat) (x2 : Int32) (x4 : Int32) (M : mM) : Go muX5_millionths (rm 3) 0 0 l G sk (mFin G sk eI) (f_X5_millionths_143 w x2 x4 M) 143 [(2, .int x2), (4, .int x4)] [] M := by
  unfold f_X5_millionths_143
  refine go_ldc kiX5_119 145 dX5_millionths_143 rfl ?_
  refine go_istore [(5, .int 1000000), (2, .int x2), (4, .int x4)] 147 dX5_millionths_145 rfl (by decide) rfl ?_
  refine go_iconst 0 148 dX5_millionths_147 rfl (by decide) ?_
  refine go_istore [(6, .int 0), (5, .int 1000000), (2, .int x2), (4, .int x4)] 150 dX5_millionths_148 rfl (by decide) rfl ?_
  exact go_lv [2, 3, 1, 0] rfl (s_X5_millionths_150 w w x2 x4 1000000 0 M)
def f_X5_millionths_6 (w : Nat) : Nat → Nat → Int32 → Int32 → Int32 → Int32 → Int32 → mM → Option (Int32 × mM)
  | 0, _, _, _, _, _, _, _ => none
  | n + 1, o0, x1, x2, x3, x4, x5, M => (if ((1 : Int32) <<< (x2 &&& 31)) ≤ x5 then (f_X5_millionths_143 w x2 x4 M) else chk x1 (sL (rF (rF o0 0) 4)) (lt (M.1 (rF (rF o0 0) 4) x1.toNatClampNeg) fun y1 => (f_X5_millionths_31 w (f_X5_millionths_6 w n) w o0 x1 x2 x3 x4 x5 y1 1 0 M)))
set_option maxHeartbeats 4000000 in
set_option maxRecDepth 100000 in
theorem s_X5_millionths_6 {l : Launch} {G : mG} {sk : List mS} (w : Nat) : ∀ (n : Nat) (o0 : Nat) (h0 : isK o0 15) (x1 : Int32) (x2 : Int32) (x3 : Int32) (x4 : Int32) (x5 : Int32) (M : mM), Go muX5_millionths (rm 3) 0 0 l G sk (mFin G sk eI) (f_X5_millionths_6 w n o0 x1 x2 x3 x4 x5 M) 6 [(0, .ref (gB G + o0)), (1, .int x1), (2, .int x2), (3, .int x3), (4, .int x4), (5, .int x5)] [] M := by
  intro n
  induction n with
  | zero =>
    intros
    exact go_none
  | succ n ih =>
    intro o0 h0 x1 x2 x3 x4 x5 M
    rw [f_X5_millionths_6]
    refine go_iload 5 8 dX5_millionths_6 rfl rfl ?_
    refine go_iconst 1 9 dX5_millionths_8 rfl (by decide) ?_
    refine go_iload_n 2 10 dX5_millionths_9 rfl rfl ?_
    refine go_ishl 11 dX5_millionths_10 rfl ?_
    refine go_icmp_ge 143 14 dX5_millionths_11 rfl (by decide) (fun _ => ?_) (fun _ => ?_)
    · exact go_lv [2, 4] rfl (s_X5_millionths_143 w x2 x4 M)
    · refine go_aload_n 0 15 dX5_millionths_14 rfl rfl ?_
      refine go_getR flX5_21 h0 18 dX5_millionths_15 rfl ?_
      refine go_getR flX5_36 (rk5_0 h0) 21 dX5_millionths_18 rfl ?_
      refine go_iload_n 1 22 dX5_millionths_21 rfl rfl ?_
      refine go_iald (rk9_4 (rk5_0 h0)) 23 dX5_millionths_22 rfl ?_
      refine go_nmI (fun y1 => ?_)
      refine go_istore [(6, .int y1), (0, .ref (gB G + o0)), (1, .int x1), (2, .int x2), (3, .int x3), (4, .int x4), (5, .int x5)] 25 dX5_millionths_23 rfl (by decide) rfl ?_
      refine go_iconst 1 26 dX5_millionths_25 rfl (by decide) ?_
      refine go_istore [(7, .int 1), (6, .int y1), (0, .ref (gB G + o0)), (1, .int x1), (2, .int x2), (3, .int x3), (4, .int x4), (5, .int x5)] 28 dX5_millionths_26 rfl (by decide) rfl ?_
      refine go_iconst 0 29 dX5_millionths_28 rfl (by decide) ?_
      refine go_istore [(8, .int 0), (7, .int 1), (6, .int y1), (0, .ref (gB G + o0)), (1, .int x1), (2, .int x2), (3, .int x3), (4, .int x4), (5, .int x5)] 31 dX5_millionths_29 rfl (by decide) rfl ?_
      exact go_lv [3, 4, 5, 6, 7, 8, 2, 1, 0] rfl (s_X5_millionths_31 w (f_X5_millionths_6 w n) (fun o0 h0 x1 x2 x3 x4 x5 M => ih o0 h0 x1 x2 x3 x4 x5 M) w o0 h0 x1 x2 x3 x4 x5 y1 1 0 M)
def f_X5_millionths (w : Nat) (o0 : Nat) (x1 : Int32) (x2 : Int32) (x3 : Int32) (M : mM) : Option (Int32 × mM) := (f_X5_millionths_6 w w o0 x1 x2 x3 0 0 M)
set_option maxHeartbeats 4000000 in
set_option maxRecDepth 100000 in
theorem s_X5_millionths {l : Launch} {G : mG} {sk : List mS} (w : Nat) (o0 : Nat) (h0 : isK o0 15) (x1 : Int32) (x2 : Int32) (x3 : Int32) (M : mM) : Go muX5_millionths (rm 3) 0 0 l G sk (mFin G sk eI) (f_X5_millionths w o0 x1 x2 x3 M) 0 [(0, .ref (gB G + o0)), (1, .int x1), (2, .int x2), (3, .int x3)] [] M := by
  unfold f_X5_millionths
  refine go_iconst 0 1 dX5_millionths_0 rfl (by decide) ?_
  refine go_istore [(4, .int 0), (0, .ref (gB G + o0)), (1, .int x1), (2, .int x2), (3, .int x3)] 3 dX5_millionths_1 rfl (by decide) rfl ?_
  refine go_iconst 0 4 dX5_millionths_3 rfl (by decide) ?_
  refine go_istore [(5, .int 0), (4, .int 0), (0, .ref (gB G + o0)), (1, .int x1), (2, .int x2), (3, .int x3)] 6 dX5_millionths_4 rfl (by decide) rfl ?_
  exact go_lv [2, 3, 4, 5, 1, 0] rfl (s_X5_millionths_6 w w o0 h0 x1 x2 x3 0 0 M)
theorem m_X5_millionths {l : Launch} {G : mG} {sk : List mS} (w : Nat) (o0 : Nat) (h0 : isK o0 15) (x1 : Int32) (x2 : Int32) (x3 : Int32) (M : mM) : Mt l G sk yX5_millionths muX5_millionths 3 [.ref (gB G + o0), .int x1, .int x2, .int x3] M eI (f_X5_millionths w o0 x1 x2 x3 M) := Mt.of (by decide) rfl (Nat.le_of_ble_eq_true rfl) (s_X5_millionths w o0 h0 x1 x2 x3 M)
