theorem dX12_rangeBy_0 : decode cX12_rangeBy 0 = .ok (.iconst 1, 1) := by decide +kernel
theorem dX12_rangeBy_1 : decode cX12_rangeBy 1 = .ok (.iload_n 1, 1) := by decide +kernel
theorem dX12_rangeBy_2 : decode cX12_rangeBy 2 = .ok (.ishl, 1) := by decide +kernel
theorem dX12_rangeBy_3 : decode cX12_rangeBy 3 = .ok (.istore_n 3, 1) := by decide +kernel
theorem dX12_rangeBy_4 : decode cX12_rangeBy 4 = .ok (.iconst 0, 1) := by decide +kernel
theorem dX12_rangeBy_5 : decode cX12_rangeBy 5 = .ok (.istore 4, 2) := by decide +kernel
theorem dX12_rangeBy_7 : decode cX12_rangeBy 7 = .ok (.iload 4, 2) := by decide +kernel
theorem dX12_rangeBy_9 : decode cX12_rangeBy 9 = .ok (.bipush 7, 2) := by decide +kernel
theorem dX12_rangeBy_11 : decode cX12_rangeBy 11 = .ok (.if_icmp .ge 16, 3) := by decide +kernel
theorem dX12_rangeBy_14 : decode cX12_rangeBy 14 = .ok (.aload_n 0, 1) := by decide +kernel
theorem dX12_rangeBy_15 : decode cX12_rangeBy 15 = .ok (.iload_n 3, 1) := by decide +kernel
theorem dX12_rangeBy_16 : decode cX12_rangeBy 16 = .ok (.iload_n 2, 1) := by decide +kernel
theorem dX12_rangeBy_17 : decode cX12_rangeBy 17 = .ok (.invokevirtual 354, 3) := by decide +kernel
theorem dX12_rangeBy_20 : decode cX12_rangeBy 20 = .ok (.istore_n 3, 1) := by decide +kernel
theorem dX12_rangeBy_21 : decode cX12_rangeBy 21 = .ok (.iinc 4 1, 3) := by decide +kernel
theorem dX12_rangeBy_24 : decode cX12_rangeBy 24 = .ok (.goto (-17), 3) := by decide +kernel
theorem dX12_rangeBy_27 : decode cX12_rangeBy 27 = .ok (.iload_n 3, 1) := by decide +kernel
theorem dX12_rangeBy_28 : decode cX12_rangeBy 28 = .ok (.ireturn, 1) := by decide +kernel
def f_X12_rangeBy_7 (w : Nat) : Nat → Nat → Int32 → Int32 → Int32 → mM → Option (Int32 × mM)
  | 0, _, _, _, _, _ => none
  | n + 1, o0, x2, x3, x4, M => (if 7 ≤ x4 then some (x3, M) else bI (f_X12_onFrom w o0 x3 x2 M) fun q2 M1 => (f_X12_rangeBy_7 w n o0 x2 q2 (x4 + 1) M1))
set_option maxHeartbeats 4000000 in
set_option maxRecDepth 100000 in
theorem s_X12_rangeBy_7 {l : Launch} {G : mG} {sk : List mS} (w : Nat) : ∀ (n : Nat) (o0 : Nat) (h0 : isK o0 22) (x2 : Int32) (x3 : Int32) (x4 : Int32) (M : mM), Go muX12_rangeBy (rm 2) 0 0 l G sk (mFin G sk eI) (f_X12_rangeBy_7 w n o0 x2 x3 x4 M) 7 [(0, .ref (gB G + o0)), (2, .int x2), (3, .int x3), (4, .int x4)] [] M := by
  intro n
  induction n with
  | zero =>
    intros
    exact go_none
  | succ n ih =>
    intro o0 h0 x2 x3 x4 M
    rw [f_X12_rangeBy_7]
    refine go_iload 3 9 dX12_rangeBy_7 rfl rfl ?_
    refine go_bipush 7 11 dX12_rangeBy_9 rfl (by decide) ?_
    refine go_icmp_ge 27 14 dX12_rangeBy_11 rfl (by decide) (fun _ => ?_) (fun _ => ?_)
    · refine go_iload_n 2 28 dX12_rangeBy_27 rfl rfl ?_
      exact go_iret rfl dX12_rangeBy_28
    · refine go_aload_n 0 15 dX12_rangeBy_14 rfl rfl ?_
      refine go_iload_n 2 16 dX12_rangeBy_15 rfl rfl ?_
      refine go_iload_n 1 17 dX12_rangeBy_16 rfl rfl ?_
      refine go_cVI2 1 clX12 cwX12_354 (m_X12_onFrom w o0 h0 x3 x2 M) h0 20 dX12_rangeBy_17 rfl ⟨Nat.le_of_ble_eq_true rfl, Nat.le_of_ble_eq_true rfl⟩ ⟨Nat.zero_le _, Nat.zero_le _⟩ (Nat.le_of_ble_eq_true rfl) (fun q2 M1 _ => ?_)
      refine go_istore_n [(3, .int q2), (0, .ref (gB G + o0)), (2, .int x2), (4, .int x4)] 21 dX12_rangeBy_20 rfl rfl (by decide) rfl ?_
      refine go_iinc (x4 + 1) 3 [(4, .int (x4 + 1)), (3, .int q2), (0, .ref (gB G + o0)), (2, .int x2)] 24 dX12_rangeBy_21 rfl rfl rfl (by decide) rfl ?_
      refine go_goto 7 dX12_rangeBy_24 (by decide) ?_
      exact go_lv [2, 3, 1, 0] rfl (ih o0 h0 x2 q2 (x4 + 1) M1)
def f_X12_rangeBy (w : Nat) (o0 : Nat) (x1 : Int32) (x2 : Int32) (M : mM) : Option (Int32 × mM) := lt ((1 : Int32) <<< (x1 &&& 31)) fun y1 => (f_X12_rangeBy_7 w w o0 x2 y1 0 M)
set_option maxHeartbeats 4000000 in
set_option maxRecDepth 100000 in
theorem s_X12_rangeBy {l : Launch} {G : mG} {sk : List mS} (w : Nat) (o0 : Nat) (h0 : isK o0 22) (x1 : Int32) (x2 : Int32) (M : mM) : Go muX12_rangeBy (rm 2) 0 0 l G sk (mFin G sk eI) (f_X12_rangeBy w o0 x1 x2 M) 0 [(0, .ref (gB G + o0)), (1, .int x1), (2, .int x2)] [] M := by
  unfold f_X12_rangeBy
  refine go_iconst 1 1 dX12_rangeBy_0 rfl (by decide) ?_
  refine go_iload_n 1 2 dX12_rangeBy_1 rfl rfl ?_
  refine go_ishl 3 dX12_rangeBy_2 rfl ?_
  refine go_nmI (fun y1 => ?_)
  refine go_istore_n [(3, .int y1), (0, .ref (gB G + o0)), (1, .int x1), (2, .int x2)] 4 dX12_rangeBy_3 rfl rfl (by decide) rfl ?_
  refine go_iconst 0 5 dX12_rangeBy_4 rfl (by decide) ?_
  refine go_istore [(4, .int 0), (3, .int y1), (0, .ref (gB G + o0)), (1, .int x1), (2, .int x2)] 7 dX12_rangeBy_5 rfl (by decide) rfl ?_
  exact go_lv [2, 4, 1, 0] rfl (s_X12_rangeBy_7 w w o0 h0 x2 y1 0 M)
theorem m_X12_rangeBy {l : Launch} {G : mG} {sk : List mS} (w : Nat) (o0 : Nat) (h0 : isK o0 22) (x1 : Int32) (x2 : Int32) (M : mM) : Mt l G sk yX12_rangeBy muX12_rangeBy 2 [.ref (gB G + o0), .int x1, .int x2] M eI (f_X12_rangeBy w o0 x1 x2 M) := Mt.of (by decide) rfl (Nat.le_of_ble_eq_true rfl) (s_X12_rangeBy w o0 h0 x1 x2 M)
theorem dX12_openNow_0 : decode cX12_openNow 0 = .ok (.iconst 1, 1) := by decide +kernel
theorem dX12_openNow_1 : decode cX12_openNow 1 = .ok (.aload_n 0, 1) := by decide +kernel
theorem dX12_openNow_2 : decode cX12_openNow 2 = .ok (.invokevirtual 272, 3) := by decide +kernel
theorem dX12_openNow_5 : decode cX12_openNow 5 = .ok (.ishl, 1) := by decide +kernel
theorem dX12_openNow_6 : decode cX12_openNow 6 = .ok (.iconst 1, 1) := by decide +kernel
theorem dX12_openNow_7 : decode cX12_openNow 7 = .ok (.isub, 1) := by decide +kernel
theorem dX12_openNow_8 : decode cX12_openNow 8 = .ok (.aload_n 0, 1) := by decide +kernel
theorem dX12_openNow_9 : decode cX12_openNow 9 = .ok (.iload_n 1, 1) := by decide +kernel
theorem dX12_openNow_10 : decode cX12_openNow 10 = .ok (.invokevirtual 330, 3) := by decide +kernel
theorem dX12_openNow_13 : decode cX12_openNow 13 = .ok (.iconst (-1), 1) := by decide +kernel
theorem dX12_openNow_14 : decode cX12_openNow 14 = .ok (.ixor, 1) := by decide +kernel
theorem dX12_openNow_15 : decode cX12_openNow 15 = .ok (.iand, 1) := by decide +kernel
theorem dX12_openNow_16 : decode cX12_openNow 16 = .ok (.ireturn, 1) := by decide +kernel
def f_X12_openNow (w : Nat) (o0 : Nat) (x1 : Int32) (M : mM) : Option (Int32 × mM) := bI (f_X12_doors w o0 M) fun q2 M1 => bI (f_X12_sticking w o0 x1 M1) fun q4 M3 => some (((((1 : Int32) <<< (q2 &&& 31)) - 1) &&& (q4 ^^^ (-1))), M3)
set_option maxHeartbeats 4000000 in
set_option maxRecDepth 100000 in
theorem s_X12_openNow {l : Launch} {G : mG} {sk : List mS} (w : Nat) (o0 : Nat) (h0 : isK o0 22) (x1 : Int32) (M : mM) : Go muX12_openNow (rm 3) 0 0 l G sk (mFin G sk eI) (f_X12_openNow w o0 x1 M) 0 [(0, .ref (gB G + o0)), (1, .int x1)] [] M := by
  unfold f_X12_openNow
  refine go_iconst 1 1 dX12_openNow_0 rfl (by decide) ?_
  refine go_aload_n 0 2 dX12_openNow_1 rfl rfl ?_
  refine go_cVI0 0 clX12 cwX12_272 (m_X12_doors w o0 h0 M) h0 5 dX12_openNow_2 rfl ⟨Nat.le_of_ble_eq_true rfl, Nat.le_of_ble_eq_true rfl⟩ ⟨Nat.zero_le _, Nat.zero_le _⟩ (Nat.le_of_ble_eq_true rfl) (fun q2 M1 _ => ?_)
  refine go_ishl 6 dX12_openNow_5 rfl ?_
  refine go_iconst 1 7 dX12_openNow_6 rfl (by decide) ?_
  refine go_isub 8 dX12_openNow_7 rfl ?_
  refine go_aload_n 0 9 dX12_openNow_8 rfl rfl ?_
  refine go_iload_n 1 10 dX12_openNow_9 rfl rfl ?_
  refine go_cVI1 2 clX12 cwX12_330 (m_X12_sticking w o0 h0 x1 M1) h0 13 dX12_openNow_10 rfl ⟨Nat.le_of_ble_eq_true rfl, Nat.le_of_ble_eq_true rfl⟩ ⟨Nat.zero_le _, Nat.zero_le _⟩ (Nat.le_of_ble_eq_true rfl) (fun q4 M3 _ => ?_)
  refine go_iconst (-1) 14 dX12_openNow_13 rfl (by decide) ?_
  refine go_ixor 15 dX12_openNow_14 rfl ?_
  refine go_iand 16 dX12_openNow_15 rfl ?_
  exact go_iret rfl dX12_openNow_16
theorem m_X12_openNow {l : Launch} {G : mG} {sk : List mS} (w : Nat) (o0 : Nat) (h0 : isK o0 22) (x1 : Int32) (M : mM) : Mt l G sk yX12_openNow muX12_openNow 3 [.ref (gB G + o0), .int x1] M eI (f_X12_openNow w o0 x1 M) := Mt.of (by decide) rfl (Nat.le_of_ble_eq_true rfl) (s_X12_openNow w o0 h0 x1 M)
theorem dX12_range_0 : decode cX12_range 0 = .ok (.aload_n 0, 1) := by decide +kernel
theorem dX12_range_1 : decode cX12_range 1 = .ok (.iconst 0, 1) := by decide +kernel
theorem dX12_range_2 : decode cX12_range 2 = .ok (.putfield 1, 3) := by decide +kernel
theorem dX12_range_5 : decode cX12_range 5 = .ok (.aload_n 0, 1) := by decide +kernel
theorem dX12_range_6 : decode cX12_range 6 = .ok (.iload_n 1, 1) := by decide +kernel
theorem dX12_range_7 : decode cX12_range 7 = .ok (.invokevirtual 357, 3) := by decide +kernel
theorem dX12_range_10 : decode cX12_range 10 = .ok (.ifCond .eq 16, 3) := by decide +kernel
theorem dX12_range_13 : decode cX12_range 13 = .ok (.aload_n 0, 1) := by decide +kernel
theorem dX12_range_14 : decode cX12_range 14 = .ok (.iload_n 1, 1) := by decide +kernel
theorem dX12_range_15 : decode cX12_range 15 = .ok (.aload_n 0, 1) := by decide +kernel
theorem dX12_range_16 : decode cX12_range 16 = .ok (.iconst 0, 1) := by decide +kernel
theorem dX12_range_17 : decode cX12_range 17 = .ok (.invokevirtual 360, 3) := by decide +kernel
theorem dX12_range_20 : decode cX12_range 20 = .ok (.invokevirtual 363, 3) := by decide +kernel
theorem dX12_range_23 : decode cX12_range 23 = .ok (.goto 4, 3) := by decide +kernel
theorem dX12_range_26 : decode cX12_range 26 = .ok (.iconst (-1), 1) := by decide +kernel
theorem dX12_range_27 : decode cX12_range 27 = .ok (.ireturn, 1) := by decide +kernel
def f_X12_range (w : Nat) (o0 : Nat) (x1 : Int32) (M : mM) : Option (Int32 × mM) := lt (wI M o0 0 0) fun M1 => bI (f_X12_isRoom w o0 x1 M1) fun q3 M2 => (if q3 = 0 then some ((-1), M2) else bI (f_X12_openNow w o0 0 M2) fun q5 M4 => bI (f_X12_rangeBy w o0 x1 q5 M4) fun q7 M6 => some (q7, M6))
set_option maxHeartbeats 4000000 in
set_option maxRecDepth 100000 in
theorem s_X12_range {l : Launch} {G : mG} {sk : List mS} (w : Nat) (o0 : Nat) (h0 : isK o0 22) (x1 : Int32) (M : mM) : Go muX12_range (rm 4) 0 0 l G sk (mFin G sk eI) (f_X12_range w o0 x1 M) 0 [(0, .ref (gB G + o0)), (1, .int x1)] [] M := by
  unfold f_X12_range
  refine go_aload_n 0 1 dX12_range_0 rfl rfl ?_
  refine go_iconst 0 2 dX12_range_1 rfl (by decide) ?_
  refine go_putI flX12_1 rfl rfl h0 5 dX12_range_2 rfl ?_
  refine go_nmM (fun M1 => ?_)
  refine go_aload_n 0 6 dX12_range_5 rfl rfl ?_
  refine go_iload_n 1 7 dX12_range_6 rfl rfl ?_
  refine go_cVI1 1 clX12 cwX12_357 (m_X12_isRoom w o0 h0 x1 M1) h0 10 dX12_range_7 rfl ⟨Nat.le_of_ble_eq_true rfl, Nat.le_of_ble_eq_true rfl⟩ ⟨Nat.zero_le _, Nat.zero_le _⟩ (Nat.le_of_ble_eq_true rfl) (fun q3 M2 _ => ?_)
  refine go_if_eq 26 13 dX12_range_10 rfl (by decide) (fun _ => ?_) (fun _ => ?_)
  · refine go_iconst (-1) 27 dX12_range_26 rfl (by decide) ?_
    exact go_iret rfl dX12_range_27
  · refine go_aload_n 0 14 dX12_range_13 rfl rfl ?_
    refine go_iload_n 1 15 dX12_range_14 rfl rfl ?_
    refine go_aload_n 0 16 dX12_range_15 rfl rfl ?_
    refine go_iconst 0 17 dX12_range_16 rfl (by decide) ?_
    refine go_cVI1 3 clX12 cwX12_360 (m_X12_openNow w o0 h0 0 M2) h0 20 dX12_range_17 rfl ⟨Nat.le_of_ble_eq_true rfl, Nat.le_of_ble_eq_true rfl⟩ ⟨Nat.zero_le _, Nat.zero_le _⟩ (Nat.le_of_ble_eq_true rfl) (fun q5 M4 _ => ?_)
    refine go_cVI2 2 clX12 cwX12_363 (m_X12_rangeBy w o0 h0 x1 q5 M4) h0 23 dX12_range_20 rfl ⟨Nat.le_of_ble_eq_true rfl, Nat.le_of_ble_eq_true rfl⟩ ⟨Nat.zero_le _, Nat.zero_le _⟩ (Nat.le_of_ble_eq_true rfl) (fun q7 M6 _ => ?_)
    refine go_goto 27 dX12_range_23 (by decide) ?_
    exact go_iret rfl dX12_range_27
theorem m_X12_range {l : Launch} {G : mG} {sk : List mS} (w : Nat) (o0 : Nat) (h0 : isK o0 22) (x1 : Int32) (M : mM) : Mt l G sk yX12_range muX12_range 4 [.ref (gB G + o0), .int x1] M eI (f_X12_range w o0 x1 M) := Mt.of (by decide) rfl (Nat.le_of_ble_eq_true rfl) (s_X12_range w o0 h0 x1 M)
theorem dX12_companyBy_0 : decode cX12_companyBy 0 = .ok (.aload_n 0, 1) := by decide +kernel
theorem dX12_companyBy_1 : decode cX12_companyBy 1 = .ok (.aload_n 0, 1) := by decide +kernel
theorem dX12_companyBy_2 : decode cX12_companyBy 2 = .ok (.getfield 113, 3) := by decide +kernel
theorem dX12_companyBy_5 : decode cX12_companyBy 5 = .ok (.bipush 18, 2) := by decide +kernel
theorem dX12_companyBy_7 : decode cX12_companyBy 7 = .ok (.iload_n 1, 1) := by decide +kernel
theorem dX12_companyBy_8 : decode cX12_companyBy 8 = .ok (.iadd, 1) := by decide +kernel
theorem dX12_companyBy_9 : decode cX12_companyBy 9 = .ok (.iaload, 1) := by decide +kernel
theorem dX12_companyBy_10 : decode cX12_companyBy 10 = .ok (.iload_n 2, 1) := by decide +kernel
theorem dX12_companyBy_11 : decode cX12_companyBy 11 = .ok (.invokevirtual 363, 3) := by decide +kernel
theorem dX12_companyBy_14 : decode cX12_companyBy 14 = .ok (.istore_n 3, 1) := by decide +kernel
theorem dX12_companyBy_15 : decode cX12_companyBy 15 = .ok (.iconst 0, 1) := by decide +kernel
theorem dX12_companyBy_16 : decode cX12_companyBy 16 = .ok (.istore 4, 2) := by decide +kernel
theorem dX12_companyBy_18 : decode cX12_companyBy 18 = .ok (.iconst 0, 1) := by decide +kernel
theorem dX12_companyBy_19 : decode cX12_companyBy 19 = .ok (.istore 5, 2) := by decide +kernel
theorem dX12_companyBy_21 : decode cX12_companyBy 21 = .ok (.iload 5, 2) := by decide +kernel
theorem dX12_companyBy_23 : decode cX12_companyBy 23 = .ok (.aload_n 0, 1) := by decide +kernel
theorem dX12_companyBy_24 : decode cX12_companyBy 24 = .ok (.invokevirtual 279, 3) := by decide +kernel
theorem dX12_companyBy_27 : decode cX12_companyBy 27 = .ok (.if_icmp .ge 46, 3) := by decide +kernel
theorem dX12_companyBy_30 : decode cX12_companyBy 30 = .ok (.iload 4, 2) := by decide +kernel
theorem dX12_companyBy_32 : decode cX12_companyBy 32 = .ok (.iload 5, 2) := by decide +kernel
theorem dX12_companyBy_34 : decode cX12_companyBy 34 = .ok (.iload_n 1, 1) := by decide +kernel
theorem dX12_companyBy_35 : decode cX12_companyBy 35 = .ok (.if_icmp .eq 28, 3) := by decide +kernel
theorem dX12_companyBy_38 : decode cX12_companyBy 38 = .ok (.iload_n 3, 1) := by decide +kernel
theorem dX12_companyBy_39 : decode cX12_companyBy 39 = .ok (.aload_n 0, 1) := by decide +kernel
theorem dX12_companyBy_40 : decode cX12_companyBy 40 = .ok (.getfield 113, 3) := by decide +kernel
theorem dX12_companyBy_43 : decode cX12_companyBy 43 = .ok (.bipush 18, 2) := by decide +kernel
theorem dX12_companyBy_45 : decode cX12_companyBy 45 = .ok (.iload 5, 2) := by decide +kernel
theorem dX12_companyBy_47 : decode cX12_companyBy 47 = .ok (.iadd, 1) := by decide +kernel
theorem dX12_companyBy_48 : decode cX12_companyBy 48 = .ok (.iaload, 1) := by decide +kernel
theorem dX12_companyBy_49 : decode cX12_companyBy 49 = .ok (.ishr, 1) := by decide +kernel
theorem dX12_companyBy_50 : decode cX12_companyBy 50 = .ok (.iconst 1, 1) := by decide +kernel
theorem dX12_companyBy_51 : decode cX12_companyBy 51 = .ok (.iand, 1) := by decide +kernel
theorem dX12_companyBy_52 : decode cX12_companyBy 52 = .ok (.iconst 1, 1) := by decide +kernel
theorem dX12_companyBy_53 : decode cX12_companyBy 53 = .ok (.if_icmp .ne 10, 3) := by decide +kernel
theorem dX12_companyBy_56 : decode cX12_companyBy 56 = .ok (.iconst 1, 1) := by decide +kernel
theorem dX12_companyBy_57 : decode cX12_companyBy 57 = .ok (.iload 5, 2) := by decide +kernel
theorem dX12_companyBy_59 : decode cX12_companyBy 59 = .ok (.ishl, 1) := by decide +kernel
theorem dX12_companyBy_60 : decode cX12_companyBy 60 = .ok (.goto 4, 3) := by decide +kernel
theorem dX12_companyBy_63 : decode cX12_companyBy 63 = .ok (.iconst 0, 1) := by decide +kernel
theorem dX12_companyBy_64 : decode cX12_companyBy 64 = .ok (.ior, 1) := by decide +kernel
theorem dX12_companyBy_65 : decode cX12_companyBy 65 = .ok (.istore 4, 2) := by decide +kernel
theorem dX12_companyBy_67 : decode cX12_companyBy 67 = .ok (.iinc 5 1, 3) := by decide +kernel
theorem dX12_companyBy_70 : decode cX12_companyBy 70 = .ok (.goto (-49), 3) := by decide +kernel
theorem dX12_companyBy_73 : decode cX12_companyBy 73 = .ok (.iload 4, 2) := by decide +kernel
theorem dX12_companyBy_75 : decode cX12_companyBy 75 = .ok (.ireturn, 1) := by decide +kernel
def f_X12_companyBy_21 (w : Nat) : Nat → Nat → Int32 → Int32 → Int32 → Int32 → mM → Option (Int32 × mM)
  | 0, _, _, _, _, _, _ => none
  | n + 1, o0, x1, x3, x4, x5, M => bI (f_X12_persons w o0 M) fun q2 M1 => (if q2 ≤ x5 then some (x4, M1) else (if x5 = x1 then lt (x4 ||| 0) fun y3 => (f_X12_companyBy_21 w n o0 x1 x3 y3 (x5 + 1) M1) else chk (18 + x5) (sL (rF o0 24)) ((if ((x3 >>> ((M1.1 (rF o0 24) (18 + x5).toNatClampNeg) &&& 31)) &&& 1) = 1 then lt (x4 ||| ((1 : Int32) <<< (x5 &&& 31))) fun y5 => (f_X12_companyBy_21 w n o0 x1 x3 y5 (x5 + 1) M1) else lt (x4 ||| 0) fun y4 => (f_X12_companyBy_21 w n o0 x1 x3 y4 (x5 + 1) M1)))))
set_option maxHeartbeats 4000000 in
set_option maxRecDepth 100000 in
theorem s_X12_companyBy_21 {l : Launch} {G : mG} {sk : List mS} (w : Nat) : ∀ (n : Nat) (o0 : Nat) (h0 : isK o0 22) (x1 : Int32) (x3 : Int32) (x4 : Int32) (x5 : Int32) (M : mM), Go muX12_companyBy (rm 3) 0 0 l G sk (mFin G sk eI) (f_X12_companyBy_21 w n o0 x1 x3 x4 x5 M) 21 [(0, .ref (gB G + o0)), (1, .int x1), (3, .int x3), (4, .int x4), (5, .int x5)] [] M := by
  intro n
  induction n with
  | zero =>
    intros
    exact go_none
  | succ n ih =>
    intro o0 h0 x1 x3 x4 x5 M
    rw [f_X12_companyBy_21]
    refine go_iload 4 23 dX12_companyBy_21 rfl rfl ?_
    refine go_aload_n 0 24 dX12_companyBy_23 rfl rfl ?_
    refine go_cVI0 0 clX12 cwX12_279 (m_X12_persons w o0 h0 M) h0 27 dX12_companyBy_24 rfl ⟨Nat.le_of_ble_eq_true rfl, Nat.le_of_ble_eq_true rfl⟩ ⟨Nat.zero_le _, Nat.zero_le _⟩ (Nat.le_of_ble_eq_true rfl) (fun q2 M1 _ => ?_)
    refine go_icmp_ge 73 30 dX12_companyBy_27 rfl (by decide) (fun _ => ?_) (fun _ => ?_)
    · refine go_iload 3 75 dX12_companyBy_73 rfl rfl ?_
      exact go_iret rfl dX12_companyBy_75
    · refine go_iload 3 32 dX12_companyBy_30 rfl rfl ?_
      refine go_iload 4 34 dX12_companyBy_32 rfl rfl ?_
      refine go_iload_n 1 35 dX12_companyBy_34 rfl rfl ?_
      refine go_icmp_eq 63 38 dX12_companyBy_35 rfl (by decide) (fun _ => ?_) (fun _ => ?_)
      · refine go_iconst 0 64 dX12_companyBy_63 rfl (by decide) ?_
        refine go_ior 65 dX12_companyBy_64 rfl ?_
        refine go_nmI (fun y3 => ?_)
        refine go_istore [(4, .int y3), (0, .ref (gB G + o0)), (1, .int x1), (3, .int x3), (5, .int x5)] 67 dX12_companyBy_65 rfl (by decide) rfl ?_
        refine go_iinc (x5 + 1) 4 [(5, .int (x5 + 1)), (4, .int y3), (0, .ref (gB G + o0)), (1, .int x1), (3, .int x3)] 70 dX12_companyBy_67 rfl rfl rfl (by decide) rfl ?_
        refine go_goto 21 dX12_companyBy_70 (by decide) ?_
        exact go_lv [2, 3, 4, 1, 0] rfl (ih o0 h0 x1 x3 y3 (x5 + 1) M1)
      · refine go_iload_n 2 39 dX12_companyBy_38 rfl rfl ?_
        refine go_aload_n 0 40 dX12_companyBy_39 rfl rfl ?_
        refine go_getR flX12_113 h0 43 dX12_companyBy_40 rfl ?_
        refine go_bipush 18 45 dX12_companyBy_43 rfl (by decide) ?_
        refine go_iload 4 47 dX12_companyBy_45 rfl rfl ?_
        refine go_iadd 48 dX12_companyBy_47 rfl ?_
        refine go_iald (rk12_24 h0) 49 dX12_companyBy_48 rfl ?_
        refine go_ishr 50 dX12_companyBy_49 rfl ?_
        refine go_iconst 1 51 dX12_companyBy_50 rfl (by decide) ?_
        refine go_iand 52 dX12_companyBy_51 rfl ?_
        refine go_iconst 1 53 dX12_companyBy_52 rfl (by decide) ?_
        refine go_icmp_ne 63 56 dX12_companyBy_53 rfl (by decide) (fun _ => ?_) (fun _ => ?_)
        · refine go_iconst 0 64 dX12_companyBy_63 rfl (by decide) ?_
          refine go_ior 65 dX12_companyBy_64 rfl ?_
          refine go_nmI (fun y4 => ?_)
          refine go_istore [(4, .int y4), (0, .ref (gB G + o0)), (1, .int x1), (3, .int x3), (5, .int x5)] 67 dX12_companyBy_65 rfl (by decide) rfl ?_
          refine go_iinc (x5 + 1) 4 [(5, .int (x5 + 1)), (4, .int y4), (0, .ref (gB G + o0)), (1, .int x1), (3, .int x3)] 70 dX12_companyBy_67 rfl rfl rfl (by decide) rfl ?_
          refine go_goto 21 dX12_companyBy_70 (by decide) ?_
          exact go_lv [2, 3, 4, 1, 0] rfl (ih o0 h0 x1 x3 y4 (x5 + 1) M1)
        · refine go_iconst 1 57 dX12_companyBy_56 rfl (by decide) ?_
          refine go_iload 4 59 dX12_companyBy_57 rfl rfl ?_
          refine go_ishl 60 dX12_companyBy_59 rfl ?_
          refine go_goto 64 dX12_companyBy_60 (by decide) ?_
          refine go_ior 65 dX12_companyBy_64 rfl ?_
          refine go_nmI (fun y5 => ?_)
          refine go_istore [(4, .int y5), (0, .ref (gB G + o0)), (1, .int x1), (3, .int x3), (5, .int x5)] 67 dX12_companyBy_65 rfl (by decide) rfl ?_
          refine go_iinc (x5 + 1) 4 [(5, .int (x5 + 1)), (4, .int y5), (0, .ref (gB G + o0)), (1, .int x1), (3, .int x3)] 70 dX12_companyBy_67 rfl rfl rfl (by decide) rfl ?_
          refine go_goto 21 dX12_companyBy_70 (by decide) ?_
          exact go_lv [2, 3, 4, 1, 0] rfl (ih o0 h0 x1 x3 y5 (x5 + 1) M1)
def f_X12_companyBy (w : Nat) (o0 : Nat) (x1 : Int32) (x2 : Int32) (M : mM) : Option (Int32 × mM) := chk (18 + x1) (sL (rF o0 24)) (bI (f_X12_rangeBy w o0 (M.1 (rF o0 24) (18 + x1).toNatClampNeg) x2 M) fun q2 M1 => (f_X12_companyBy_21 w w o0 x1 q2 0 0 M1))
set_option maxHeartbeats 4000000 in
set_option maxRecDepth 100000 in
theorem s_X12_companyBy {l : Launch} {G : mG} {sk : List mS} (w : Nat) (o0 : Nat) (h0 : isK o0 22) (x1 : Int32) (x2 : Int32) (M : mM) : Go muX12_companyBy (rm 3) 0 0 l G sk (mFin G sk eI) (f_X12_companyBy w o0 x1 x2 M) 0 [(0, .ref (gB G + o0)), (1, .int x1), (2, .int x2)] [] M := by
  unfold f_X12_companyBy
  refine go_aload_n 0 1 dX12_companyBy_0 rfl rfl ?_
  refine go_aload_n 0 2 dX12_companyBy_1 rfl rfl ?_
  refine go_getR flX12_113 h0 5 dX12_companyBy_2 rfl ?_
  refine go_bipush 18 7 dX12_companyBy_5 rfl (by decide) ?_
  refine go_iload_n 1 8 dX12_companyBy_7 rfl rfl ?_
  refine go_iadd 9 dX12_companyBy_8 rfl ?_
  refine go_iald (rk12_24 h0) 10 dX12_companyBy_9 rfl ?_
  refine go_iload_n 2 11 dX12_companyBy_10 rfl rfl ?_
  refine go_cVI2 2 clX12 cwX12_363 (m_X12_rangeBy w o0 h0 (M.1 (rF o0 24) (18 + x1).toNatClampNeg) x2 M) h0 14 dX12_companyBy_11 rfl ⟨Nat.le_of_ble_eq_true rfl, Nat.le_of_ble_eq_true rfl⟩ ⟨Nat.zero_le _, Nat.zero_le _⟩ (Nat.le_of_ble_eq_true rfl) (fun q2 M1 _ => ?_)
  refine go_istore_n [(3, .int q2), (0, .ref (gB G + o0)), (1, .int x1), (2, .int x2)] 15 dX12_companyBy_14 rfl rfl (by decide) rfl ?_
  refine go_iconst 0 16 dX12_companyBy_15 rfl (by decide) ?_
  refine go_istore [(4, .int 0), (3, .int q2), (0, .ref (gB G + o0)), (1, .int x1), (2, .int x2)] 18 dX12_companyBy_16 rfl (by decide) rfl ?_
  refine go_iconst 0 19 dX12_companyBy_18 rfl (by decide) ?_
  refine go_istore [(5, .int 0), (4, .int 0), (3, .int q2), (0, .ref (gB G + o0)), (1, .int x1), (2, .int x2)] 21 dX12_companyBy_19 rfl (by decide) rfl ?_
  exact go_lv [3, 4, 2, 1, 0] rfl (s_X12_companyBy_21 w w o0 h0 x1 q2 0 0 M1)
theorem m_X12_companyBy {l : Launch} {G : mG} {sk : List mS} (w : Nat) (o0 : Nat) (h0 : isK o0 22) (x1 : Int32) (x2 : Int32) (M : mM) : Mt l G sk yX12_companyBy muX12_companyBy 3 [.ref (gB G + o0), .int x1, .int x2] M eI (f_X12_companyBy w o0 x1 x2 M) := Mt.of (by decide) rfl (Nat.le_of_ble_eq_true rfl) (s_X12_companyBy w o0 h0 x1 x2 M)
theorem dX12_company_0 : decode cX12_company 0 = .ok (.aload_n 0, 1) := by decide +kernel
theorem dX12_company_1 : decode cX12_company 1 = .ok (.iconst 0, 1) := by decide +kernel
theorem dX12_company_2 : decode cX12_company 2 = .ok (.putfield 1, 3) := by decide +kernel
theorem dX12_company_5 : decode cX12_company 5 = .ok (.aload_n 0, 1) := by decide +kernel
theorem dX12_company_6 : decode cX12_company 6 = .ok (.iload_n 1, 1) := by decide +kernel
theorem dX12_company_7 : decode cX12_company 7 = .ok (.invokevirtual 322, 3) := by decide +kernel
theorem dX12_company_10 : decode cX12_company 10 = .ok (.ifCond .eq 16, 3) := by decide +kernel
theorem dX12_company_13 : decode cX12_company 13 = .ok (.aload_n 0, 1) := by decide +kernel
theorem dX12_company_14 : decode cX12_company 14 = .ok (.iload_n 1, 1) := by decide +kernel
theorem dX12_company_15 : decode cX12_company 15 = .ok (.aload_n 0, 1) := by decide +kernel
theorem dX12_company_16 : decode cX12_company 16 = .ok (.iconst 0, 1) := by decide +kernel
theorem dX12_company_17 : decode cX12_company 17 = .ok (.invokevirtual 360, 3) := by decide +kernel
theorem dX12_company_20 : decode cX12_company 20 = .ok (.invokevirtual 366, 3) := by decide +kernel
theorem dX12_company_23 : decode cX12_company 23 = .ok (.goto 4, 3) := by decide +kernel
theorem dX12_company_26 : decode cX12_company 26 = .ok (.iconst (-1), 1) := by decide +kernel
theorem dX12_company_27 : decode cX12_company 27 = .ok (.ireturn, 1) := by decide +kernel
def f_X12_company (w : Nat) (o0 : Nat) (x1 : Int32) (M : mM) : Option (Int32 × mM) := lt (wI M o0 0 0) fun M1 => bI (f_X12_isPerson w o0 x1 M1) fun q3 M2 => (if q3 = 0 then some ((-1), M2) else bI (f_X12_openNow w o0 0 M2) fun q5 M4 => bI (f_X12_companyBy w o0 x1 q5 M4) fun q7 M6 => some (q7, M6))
set_option maxHeartbeats 4000000 in
set_option maxRecDepth 100000 in
theorem s_X12_company {l : Launch} {G : mG} {sk : List mS} (w : Nat) (o0 : Nat) (h0 : isK o0 22) (x1 : Int32) (M : mM) : Go muX12_company (rm 4) 0 0 l G sk (mFin G sk eI) (f_X12_company w o0 x1 M) 0 [(0, .ref (gB G + o0)), (1, .int x1)] [] M := by
  unfold f_X12_company
  refine go_aload_n 0 1 dX12_company_0 rfl rfl ?_
  refine go_iconst 0 2 dX12_company_1 rfl (by decide) ?_
  refine go_putI flX12_1 rfl rfl h0 5 dX12_company_2 rfl ?_
  refine go_nmM (fun M1 => ?_)
  refine go_aload_n 0 6 dX12_company_5 rfl rfl ?_
  refine go_iload_n 1 7 dX12_company_6 rfl rfl ?_
  refine go_cVI1 1 clX12 cwX12_322 (m_X12_isPerson w o0 h0 x1 M1) h0 10 dX12_company_7 rfl ⟨Nat.le_of_ble_eq_true rfl, Nat.le_of_ble_eq_true rfl⟩ ⟨Nat.zero_le _, Nat.zero_le _⟩ (Nat.le_of_ble_eq_true rfl) (fun q3 M2 _ => ?_)
  refine go_if_eq 26 13 dX12_company_10 rfl (by decide) (fun _ => ?_) (fun _ => ?_)
  · refine go_iconst (-1) 27 dX12_company_26 rfl (by decide) ?_
    exact go_iret rfl dX12_company_27
  · refine go_aload_n 0 14 dX12_company_13 rfl rfl ?_
    refine go_iload_n 1 15 dX12_company_14 rfl rfl ?_
    refine go_aload_n 0 16 dX12_company_15 rfl rfl ?_
    refine go_iconst 0 17 dX12_company_16 rfl (by decide) ?_
    refine go_cVI1 3 clX12 cwX12_360 (m_X12_openNow w o0 h0 0 M2) h0 20 dX12_company_17 rfl ⟨Nat.le_of_ble_eq_true rfl, Nat.le_of_ble_eq_true rfl⟩ ⟨Nat.zero_le _, Nat.zero_le _⟩ (Nat.le_of_ble_eq_true rfl) (fun q5 M4 _ => ?_)
    refine go_cVI2 3 clX12 cwX12_366 (m_X12_companyBy w o0 h0 x1 q5 M4) h0 23 dX12_company_20 rfl ⟨Nat.le_of_ble_eq_true rfl, Nat.le_of_ble_eq_true rfl⟩ ⟨Nat.zero_le _, Nat.zero_le _⟩ (Nat.le_of_ble_eq_true rfl) (fun q7 M6 _ => ?_)
    refine go_goto 27 dX12_company_23 (by decide) ?_
    exact go_iret rfl dX12_company_27
theorem m_X12_company {l : Launch} {G : mG} {sk : List mS} (w : Nat) (o0 : Nat) (h0 : isK o0 22) (x1 : Int32) (M : mM) : Mt l G sk yX12_company muX12_company 4 [.ref (gB G + o0), .int x1] M eI (f_X12_company w o0 x1 M) := Mt.of (by decide) rfl (Nat.le_of_ble_eq_true rfl) (s_X12_company w o0 h0 x1 M)
theorem dX12_alone_0 : decode cX12_alone 0 = .ok (.aload_n 0, 1) := by decide +kernel
theorem dX12_alone_1 : decode cX12_alone 1 = .ok (.iconst 0, 1) := by decide +kernel
theorem dX12_alone_2 : decode cX12_alone 2 = .ok (.putfield 1, 3) := by decide +kernel
theorem dX12_alone_5 : decode cX12_alone 5 = .ok (.iconst 0, 1) := by decide +kernel
theorem dX12_alone_6 : decode cX12_alone 6 = .ok (.istore_n 1, 1) := by decide +kernel
theorem dX12_alone_7 : decode cX12_alone 7 = .ok (.iconst 0, 1) := by decide +kernel
theorem dX12_alone_8 : decode cX12_alone 8 = .ok (.istore_n 2, 1) := by decide +kernel
theorem dX12_alone_9 : decode cX12_alone 9 = .ok (.iload_n 2, 1) := by decide +kernel
theorem dX12_alone_10 : decode cX12_alone 10 = .ok (.aload_n 0, 1) := by decide +kernel
theorem dX12_alone_11 : decode cX12_alone 11 = .ok (.invokevirtual 279, 3) := by decide +kernel
theorem dX12_alone_14 : decode cX12_alone 14 = .ok (.if_icmp .ge 32, 3) := by decide +kernel
theorem dX12_alone_17 : decode cX12_alone 17 = .ok (.iload_n 1, 1) := by decide +kernel
theorem dX12_alone_18 : decode cX12_alone 18 = .ok (.aload_n 0, 1) := by decide +kernel
theorem dX12_alone_19 : decode cX12_alone 19 = .ok (.iload_n 2, 1) := by decide +kernel
theorem dX12_alone_20 : decode cX12_alone 20 = .ok (.aload_n 0, 1) := by decide +kernel
theorem dX12_alone_21 : decode cX12_alone 21 = .ok (.iconst 0, 1) := by decide +kernel
theorem dX12_alone_22 : decode cX12_alone 22 = .ok (.invokevirtual 360, 3) := by decide +kernel
theorem dX12_alone_25 : decode cX12_alone 25 = .ok (.invokevirtual 366, 3) := by decide +kernel
theorem dX12_alone_28 : decode cX12_alone 28 = .ok (.ifCond .ne 9, 3) := by decide +kernel
theorem dX12_alone_31 : decode cX12_alone 31 = .ok (.iconst 1, 1) := by decide +kernel
theorem dX12_alone_32 : decode cX12_alone 32 = .ok (.iload_n 2, 1) := by decide +kernel
theorem dX12_alone_33 : decode cX12_alone 33 = .ok (.ishl, 1) := by decide +kernel
theorem dX12_alone_34 : decode cX12_alone 34 = .ok (.goto 4, 3) := by decide +kernel
theorem dX12_alone_37 : decode cX12_alone 37 = .ok (.iconst 0, 1) := by decide +kernel
theorem dX12_alone_38 : decode cX12_alone 38 = .ok (.ior, 1) := by decide +kernel
theorem dX12_alone_39 : decode cX12_alone 39 = .ok (.istore_n 1, 1) := by decide +kernel
theorem dX12_alone_40 : decode cX12_alone 40 = .ok (.iinc 2 1, 3) := by decide +kernel
theorem dX12_alone_43 : decode cX12_alone 43 = .ok (.goto (-34), 3) := by decide +kernel
theorem dX12_alone_46 : decode cX12_alone 46 = .ok (.iload_n 1, 1) := by decide +kernel
theorem dX12_alone_47 : decode cX12_alone 47 = .ok (.ireturn, 1) := by decide +kernel
def f_X12_alone_9 (w : Nat) : Nat → Nat → Int32 → Int32 → mM → Option (Int32 × mM)
  | 0, _, _, _, _ => none
  | n + 1, o0, x1, x2, M => bI (f_X12_persons w o0 M) fun q2 M1 => (if q2 ≤ x2 then some (x1, M1) else bI (f_X12_openNow w o0 0 M1) fun q4 M3 => bI (f_X12_companyBy w o0 x2 q4 M3) fun q6 M5 => (if q6 = 0 then lt (x1 ||| ((1 : Int32) <<< (x2 &&& 31))) fun y8 => (f_X12_alone_9 w n o0 y8 (x2 + 1) M5) else lt (x1 ||| 0) fun y7 => (f_X12_alone_9 w n o0 y7 (x2 + 1) M5)))
set_option maxHeartbeats 4000000 in
set_option maxRecDepth 100000 in
theorem s_X12_alone_9 {l : Launch} {G : mG} {sk : List mS} (w : Nat) : ∀ (n : Nat) (o0 : Nat) (h0 : isK o0 22) (x1 : Int32) (x2 : Int32) (M : mM), Go muX12_alone (rm 4) 0 0 l G sk (mFin G sk eI) (f_X12_alone_9 w n o0 x1 x2 M) 9 [(0, .ref (gB G + o0)), (1, .int x1), (2, .int x2)] [] M := by
  intro n
  induction n with
  | zero =>
    intros
    exact go_none
  | succ n ih =>
    intro o0 h0 x1 x2 M
    rw [f_X12_alone_9]
    refine go_iload_n 2 10 dX12_alone_9 rfl rfl ?_
    refine go_aload_n 0 11 dX12_alone_10 rfl rfl ?_
    refine go_cVI0 0 clX12 cwX12_279 (m_X12_persons w o0 h0 M) h0 14 dX12_alone_11 rfl ⟨Nat.le_of_ble_eq_true rfl, Nat.le_of_ble_eq_true rfl⟩ ⟨Nat.zero_le _, Nat.zero_le _⟩ (Nat.le_of_ble_eq_true rfl) (fun q2 M1 _ => ?_)
    refine go_icmp_ge 46 17 dX12_alone_14 rfl (by decide) (fun _ => ?_) (fun _ => ?_)
    · refine go_iload_n 1 47 dX12_alone_46 rfl rfl ?_
      exact go_iret rfl dX12_alone_47
    · refine go_iload_n 1 18 dX12_alone_17 rfl rfl ?_
      refine go_aload_n 0 19 dX12_alone_18 rfl rfl ?_
      refine go_iload_n 2 20 dX12_alone_19 rfl rfl ?_
      refine go_aload_n 0 21 dX12_alone_20 rfl rfl ?_
      refine go_iconst 0 22 dX12_alone_21 rfl (by decide) ?_
      refine go_cVI1 3 clX12 cwX12_360 (m_X12_openNow w o0 h0 0 M1) h0 25 dX12_alone_22 rfl ⟨Nat.le_of_ble_eq_true rfl, Nat.le_of_ble_eq_true rfl⟩ ⟨Nat.zero_le _, Nat.zero_le _⟩ (Nat.le_of_ble_eq_true rfl) (fun q4 M3 _ => ?_)
      refine go_cVI2 3 clX12 cwX12_366 (m_X12_companyBy w o0 h0 x2 q4 M3) h0 28 dX12_alone_25 rfl ⟨Nat.le_of_ble_eq_true rfl, Nat.le_of_ble_eq_true rfl⟩ ⟨Nat.zero_le _, Nat.zero_le _⟩ (Nat.le_of_ble_eq_true rfl) (fun q6 M5 _ => ?_)
      refine go_if_ne 37 31 dX12_alone_28 rfl (by decide) (fun _ => ?_) (fun _ => ?_)
      · refine go_iconst 0 38 dX12_alone_37 rfl (by decide) ?_
        refine go_ior 39 dX12_alone_38 rfl ?_
        refine go_nmI (fun y7 => ?_)
        refine go_istore_n [(1, .int y7), (0, .ref (gB G + o0)), (2, .int x2)] 40 dX12_alone_39 rfl rfl (by decide) rfl ?_
        refine go_iinc (x2 + 1) 2 [(2, .int (x2 + 1)), (1, .int y7), (0, .ref (gB G + o0))] 43 dX12_alone_40 rfl rfl rfl (by decide) rfl ?_
        refine go_goto 9 dX12_alone_43 (by decide) ?_
        exact go_lv [2, 1, 0] rfl (ih o0 h0 y7 (x2 + 1) M5)
      · refine go_iconst 1 32 dX12_alone_31 rfl (by decide) ?_
        refine go_iload_n 2 33 dX12_alone_32 rfl rfl ?_
        refine go_ishl 34 dX12_alone_33 rfl ?_
        refine go_goto 38 dX12_alone_34 (by decide) ?_
        refine go_ior 39 dX12_alone_38 rfl ?_
        refine go_nmI (fun y8 => ?_)
        refine go_istore_n [(1, .int y8), (0, .ref (gB G + o0)), (2, .int x2)] 40 dX12_alone_39 rfl rfl (by decide) rfl ?_
        refine go_iinc (x2 + 1) 2 [(2, .int (x2 + 1)), (1, .int y8), (0, .ref (gB G + o0))] 43 dX12_alone_40 rfl rfl rfl (by decide) rfl ?_
        refine go_goto 9 dX12_alone_43 (by decide) ?_
        exact go_lv [2, 1, 0] rfl (ih o0 h0 y8 (x2 + 1) M5)
def f_X12_alone (w : Nat) (o0 : Nat) (M : mM) : Option (Int32 × mM) := lt (wI M o0 0 0) fun M1 => (f_X12_alone_9 w w o0 0 0 M1)
set_option maxHeartbeats 4000000 in
set_option maxRecDepth 100000 in
theorem s_X12_alone {l : Launch} {G : mG} {sk : List mS} (w : Nat) (o0 : Nat) (h0 : isK o0 22) (M : mM) : Go muX12_alone (rm 4) 0 0 l G sk (mFin G sk eI) (f_X12_alone w o0 M) 0 [(0, .ref (gB G + o0))] [] M := by
  unfold f_X12_alone
  refine go_aload_n 0 1 dX12_alone_0 rfl rfl ?_
  refine go_iconst 0 2 dX12_alone_1 rfl (by decide) ?_
  refine go_putI flX12_1 rfl rfl h0 5 dX12_alone_2 rfl ?_
  refine go_nmM (fun M1 => ?_)
  refine go_iconst 0 6 dX12_alone_5 rfl (by decide) ?_
  refine go_istore_n [(1, .int 0), (0, .ref (gB G + o0))] 7 dX12_alone_6 rfl rfl (by decide) rfl ?_
  refine go_iconst 0 8 dX12_alone_7 rfl (by decide) ?_
  refine go_istore_n [(2, .int 0), (1, .int 0), (0, .ref (gB G + o0))] 9 dX12_alone_8 rfl rfl (by decide) rfl ?_
  exact go_lv [2, 1, 0] rfl (s_X12_alone_9 w w o0 h0 0 0 M1)
theorem m_X12_alone {l : Launch} {G : mG} {sk : List mS} (w : Nat) (o0 : Nat) (h0 : isK o0 22) (M : mM) : Mt l G sk yX12_alone muX12_alone 4 [.ref (gB G + o0)] M eI (f_X12_alone w o0 M) := Mt.of (by decide) rfl (Nat.le_of_ble_eq_true rfl) (s_X12_alone w o0 h0 M)
theorem dX12_bride_0 : decode cX12_bride 0 = .ok (.aload_n 0, 1) := by decide +kernel
theorem dX12_bride_1 : decode cX12_bride 1 = .ok (.iconst 0, 1) := by decide +kernel
theorem dX12_bride_2 : decode cX12_bride 2 = .ok (.putfield 1, 3) := by decide +kernel
theorem dX12_bride_5 : decode cX12_bride 5 = .ok (.iconst (-1), 1) := by decide +kernel
theorem dX12_bride_6 : decode cX12_bride 6 = .ok (.istore_n 1, 1) := by decide +kernel
theorem dX12_bride_7 : decode cX12_bride 7 = .ok (.bipush 8, 2) := by decide +kernel
theorem dX12_bride_9 : decode cX12_bride 9 = .ok (.istore_n 2, 1) := by decide +kernel
theorem dX12_bride_10 : decode cX12_bride 10 = .ok (.iconst 0, 1) := by decide +kernel
theorem dX12_bride_11 : decode cX12_bride 11 = .ok (.istore_n 3, 1) := by decide +kernel
theorem dX12_bride_12 : decode cX12_bride 12 = .ok (.iload_n 3, 1) := by decide +kernel
theorem dX12_bride_13 : decode cX12_bride 13 = .ok (.aload_n 0, 1) := by decide +kernel
theorem dX12_bride_14 : decode cX12_bride 14 = .ok (.invokevirtual 279, 3) := by decide +kernel
theorem dX12_bride_17 : decode cX12_bride 17 = .ok (.if_icmp .ge 57, 3) := by decide +kernel
theorem dX12_bride_20 : decode cX12_bride 20 = .ok (.aload_n 0, 1) := by decide +kernel
theorem dX12_bride_21 : decode cX12_bride 21 = .ok (.aload_n 0, 1) := by decide +kernel
theorem dX12_bride_22 : decode cX12_bride 22 = .ok (.getfield 113, 3) := by decide +kernel
theorem dX12_bride_25 : decode cX12_bride 25 = .ok (.bipush 18, 2) := by decide +kernel
theorem dX12_bride_27 : decode cX12_bride 27 = .ok (.iload_n 3, 1) := by decide +kernel
theorem dX12_bride_28 : decode cX12_bride 28 = .ok (.iadd, 1) := by decide +kernel
theorem dX12_bride_29 : decode cX12_bride 29 = .ok (.iaload, 1) := by decide +kernel
theorem dX12_bride_30 : decode cX12_bride 30 = .ok (.aload_n 0, 1) := by decide +kernel
theorem dX12_bride_31 : decode cX12_bride 31 = .ok (.iconst 0, 1) := by decide +kernel
theorem dX12_bride_32 : decode cX12_bride 32 = .ok (.invokevirtual 360, 3) := by decide +kernel
theorem dX12_bride_35 : decode cX12_bride 35 = .ok (.invokevirtual 363, 3) := by decide +kernel
theorem dX12_bride_38 : decode cX12_bride 38 = .ok (.invokestatic 351, 3) := by decide +kernel
theorem dX12_bride_41 : decode cX12_bride 41 = .ok (.istore 4, 2) := by decide +kernel
theorem dX12_bride_43 : decode cX12_bride 43 = .ok (.iload 4, 2) := by decide +kernel
theorem dX12_bride_45 : decode cX12_bride 45 = .ok (.iload_n 2, 1) := by decide +kernel
theorem dX12_bride_46 : decode cX12_bride 46 = .ok (.if_icmp .ge 7, 3) := by decide +kernel
theorem dX12_bride_49 : decode cX12_bride 49 = .ok (.iload_n 3, 1) := by decide +kernel
theorem dX12_bride_50 : decode cX12_bride 50 = .ok (.goto 4, 3) := by decide +kernel
theorem dX12_bride_53 : decode cX12_bride 53 = .ok (.iload_n 1, 1) := by decide +kernel
theorem dX12_bride_54 : decode cX12_bride 54 = .ok (.istore_n 1, 1) := by decide +kernel
theorem dX12_bride_55 : decode cX12_bride 55 = .ok (.iload 4, 2) := by decide +kernel
theorem dX12_bride_57 : decode cX12_bride 57 = .ok (.iload_n 2, 1) := by decide +kernel
theorem dX12_bride_58 : decode cX12_bride 58 = .ok (.if_icmp .ge 8, 3) := by decide +kernel
theorem dX12_bride_61 : decode cX12_bride 61 = .ok (.iload 4, 2) := by decide +kernel
theorem dX12_bride_63 : decode cX12_bride 63 = .ok (.goto 4, 3) := by decide +kernel
theorem dX12_bride_66 : decode cX12_bride 66 = .ok (.iload_n 2, 1) := by decide +kernel
theorem dX12_bride_67 : decode cX12_bride 67 = .ok (.istore_n 2, 1) := by decide +kernel
theorem dX12_bride_68 : decode cX12_bride 68 = .ok (.iinc 3 1, 3) := by decide +kernel
theorem dX12_bride_71 : decode cX12_bride 71 = .ok (.goto (-59), 3) := by decide +kernel
theorem dX12_bride_74 : decode cX12_bride 74 = .ok (.iload_n 1, 1) := by decide +kernel
theorem dX12_bride_75 : decode cX12_bride 75 = .ok (.ireturn, 1) := by decide +kernel
def f_X12_bride_54 (w : Nat) (k12 : Nat → Int32 → Int32 → Int32 → mM → Option (Int32 × mM)) (o0 : Nat) (x2 : Int32) (x3 : Int32) (x4 : Int32) (xs0 : Int32) (M : mM) : Option (Int32 × mM) := (if x2 ≤ x4 then (k12 o0 xs0 x2 (x3 + 1) M) else (k12 o0 xs0 x4 (x3 + 1) M))
set_option maxHeartbeats 4000000 in
set_option maxRecDepth 100000 in
theorem s_X12_bride_54 {l : Launch} {G : mG} {sk : List mS} (w : Nat) (k12 : Nat → Int32 → Int32 → Int32 → mM → Option (Int32 × mM)) (hk12 : ∀ (o0 : Nat) (h0 : isK o0 22) (x1 : Int32) (x2 : Int32) (x3 : Int32) (M : mM), Go muX12_bride (rm 4) 0 0 l G sk (mFin G sk eI) (k12 o0 x1 x2 x3 M) 12 [(0, .ref (gB G + o0)), (1, .int x1), (2, .int x2), (3, .int x3)] [] M) (o0 : Nat) (h0 : isK o0 22) (x2 : Int32) (x3 : Int32) (x4 : Int32) (xs0 : Int32) (M : mM) : Go muX12_bride (rm 4) 0 0 l G sk (mFin G sk eI) (f_X12_bride_54 w k12 o0 x2 x3 x4 xs0 M) 54 [(0, .ref (gB G + o0)), (2, .int x2), (3, .int x3), (4, .int x4)] [.int xs0] M := by
  unfold f_X12_bride_54
  refine go_istore_n [(1, .int xs0), (0, .ref (gB G + o0)), (2, .int x2), (3, .int x3), (4, .int x4)] 55 dX12_bride_54 rfl rfl (by decide) rfl ?_
  refine go_iload 4 57 dX12_bride_55 rfl rfl ?_
  refine go_iload_n 2 58 dX12_bride_57 rfl rfl ?_
  refine go_icmp_ge 66 61 dX12_bride_58 rfl (by decide) (fun _ => ?_) (fun _ => ?_)
  · refine go_iload_n 2 67 dX12_bride_66 rfl rfl ?_
    refine go_istore_n [(2, .int x2), (1, .int xs0), (0, .ref (gB G + o0)), (3, .int x3), (4, .int x4)] 68 dX12_bride_67 rfl rfl (by decide) rfl ?_
    refine go_iinc (x3 + 1) 3 [(3, .int (x3 + 1)), (2, .int x2), (1, .int xs0), (0, .ref (gB G + o0)), (4, .int x4)] 71 dX12_bride_68 rfl rfl rfl (by decide) rfl ?_
    refine go_goto 12 dX12_bride_71 (by decide) ?_
    exact go_lv [3, 2, 1, 0] rfl (hk12 o0 h0 xs0 x2 (x3 + 1) M)
  · refine go_iload 4 63 dX12_bride_61 rfl rfl ?_
    refine go_goto 67 dX12_bride_63 (by decide) ?_
    refine go_istore_n [(2, .int x4), (1, .int xs0), (0, .ref (gB G + o0)), (3, .int x3), (4, .int x4)] 68 dX12_bride_67 rfl rfl (by decide) rfl ?_
    refine go_iinc (x3 + 1) 3 [(3, .int (x3 + 1)), (2, .int x4), (1, .int xs0), (0, .ref (gB G + o0)), (4, .int x4)] 71 dX12_bride_68 rfl rfl rfl (by decide) rfl ?_
    refine go_goto 12 dX12_bride_71 (by decide) ?_
    exact go_lv [3, 2, 1, 0] rfl (hk12 o0 h0 xs0 x4 (x3 + 1) M)
def f_X12_bride_12 (w : Nat) : Nat → Nat → Int32 → Int32 → Int32 → mM → Option (Int32 × mM)
  | 0, _, _, _, _, _ => none
  | n + 1, o0, x1, x2, x3, M => bI (f_X12_persons w o0 M) fun q2 M1 => (if q2 ≤ x3 then some (x1, M1) else chk (18 + x3) (sL (rF o0 24)) (bI (f_X12_openNow w o0 0 M1) fun q4 M3 => bI (f_X12_rangeBy w o0 (M1.1 (rF o0 24) (18 + x3).toNatClampNeg) q4 M3) fun q6 M5 => bI (f_X12_bits w q6 M5) fun q8 M7 => (if x2 ≤ q8 then (f_X12_bride_54 w (f_X12_bride_12 w n) o0 x2 x3 q8 x1 M7) else (f_X12_bride_54 w (f_X12_bride_12 w n) o0 x2 x3 q8 x3 M7))))
set_option maxHeartbeats 4000000 in
set_option maxRecDepth 100000 in
theorem s_X12_bride_12 {l : Launch} {G : mG} {sk : List mS} (w : Nat) : ∀ (n : Nat) (o0 : Nat) (h0 : isK o0 22) (x1 : Int32) (x2 : Int32) (x3 : Int32) (M : mM), Go muX12_bride (rm 4) 0 0 l G sk (mFin G sk eI) (f_X12_bride_12 w n o0 x1 x2 x3 M) 12 [(0, .ref (gB G + o0)), (1, .int x1), (2, .int x2), (3, .int x3)] [] M := by
  intro n
  induction n with
  | zero =>
    intros
    exact go_none
  | succ n ih =>
    intro o0 h0 x1 x2 x3 M
    rw [f_X12_bride_12]
    refine go_iload_n 3 13 dX12_bride_12 rfl rfl ?_
    refine go_aload_n 0 14 dX12_bride_13 rfl rfl ?_
    refine go_cVI0 0 clX12 cwX12_279 (m_X12_persons w o0 h0 M) h0 17 dX12_bride_14 rfl ⟨Nat.le_of_ble_eq_true rfl, Nat.le_of_ble_eq_true rfl⟩ ⟨Nat.zero_le _, Nat.zero_le _⟩ (Nat.le_of_ble_eq_true rfl) (fun q2 M1 _ => ?_)
    refine go_icmp_ge 74 20 dX12_bride_17 rfl (by decide) (fun _ => ?_) (fun _ => ?_)
    · refine go_iload_n 1 75 dX12_bride_74 rfl rfl ?_
      exact go_iret rfl dX12_bride_75
    · refine go_aload_n 0 21 dX12_bride_20 rfl rfl ?_
      refine go_aload_n 0 22 dX12_bride_21 rfl rfl ?_
      refine go_getR flX12_113 h0 25 dX12_bride_22 rfl ?_
      refine go_bipush 18 27 dX12_bride_25 rfl (by decide) ?_
      refine go_iload_n 3 28 dX12_bride_27 rfl rfl ?_
      refine go_iadd 29 dX12_bride_28 rfl ?_
      refine go_iald (rk12_24 h0) 30 dX12_bride_29 rfl ?_
      refine go_aload_n 0 31 dX12_bride_30 rfl rfl ?_
      refine go_iconst 0 32 dX12_bride_31 rfl (by decide) ?_
      refine go_cVI1 3 clX12 cwX12_360 (m_X12_openNow w o0 h0 0 M1) h0 35 dX12_bride_32 rfl ⟨Nat.le_of_ble_eq_true rfl, Nat.le_of_ble_eq_true rfl⟩ ⟨Nat.zero_le _, Nat.zero_le _⟩ (Nat.le_of_ble_eq_true rfl) (fun q4 M3 _ => ?_)
      refine go_cVI2 2 clX12 cwX12_363 (m_X12_rangeBy w o0 h0 (M1.1 (rF o0 24) (18 + x3).toNatClampNeg) q4 M3) h0 38 dX12_bride_35 rfl ⟨Nat.le_of_ble_eq_true rfl, Nat.le_of_ble_eq_true rfl⟩ ⟨Nat.zero_le _, Nat.zero_le _⟩ (Nat.le_of_ble_eq_true rfl) (fun q6 M5 _ => ?_)
      refine go_cSI1 0 cwX12_351 (m_X12_bits w q6 M5) 41 dX12_bride_38 rfl ⟨Nat.le_of_ble_eq_true rfl, Nat.le_of_ble_eq_true rfl⟩ ⟨Nat.zero_le _, Nat.zero_le _⟩ (Nat.le_of_ble_eq_true rfl) (fun q8 M7 _ => ?_)
      refine go_istore [(4, .int q8), (0, .ref (gB G + o0)), (1, .int x1), (2, .int x2), (3, .int x3)] 43 dX12_bride_41 rfl (by decide) rfl ?_
      refine go_iload 0 45 dX12_bride_43 rfl rfl ?_
      refine go_iload_n 3 46 dX12_bride_45 rfl rfl ?_
      refine go_icmp_ge 53 49 dX12_bride_46 rfl (by decide) (fun _ => ?_) (fun _ => ?_)
      · refine go_iload_n 2 54 dX12_bride_53 rfl rfl ?_
        exact go_lv [1, 3, 4, 0] rfl (s_X12_bride_54 w (f_X12_bride_12 w n) (fun o0 h0 x1 x2 x3 M => ih o0 h0 x1 x2 x3 M) o0 h0 x2 x3 q8 x1 M7)
      · refine go_iload_n 4 50 dX12_bride_49 rfl rfl ?_
        refine go_goto 54 dX12_bride_50 (by decide) ?_
        exact go_lv [1, 3, 4, 0] rfl (s_X12_bride_54 w (f_X12_bride_12 w n) (fun o0 h0 x1 x2 x3 M => ih o0 h0 x1 x2 x3 M) o0 h0 x2 x3 q8 x3 M7)
def f_X12_bride (w : Nat) (o0 : Nat) (M : mM) : Option (Int32 × mM) := lt (wI M o0 0 0) fun M1 => (f_X12_bride_12 w w o0 (-1) 8 0 M1)
set_option maxHeartbeats 4000000 in
set_option maxRecDepth 100000 in
theorem s_X12_bride {l : Launch} {G : mG} {sk : List mS} (w : Nat) (o0 : Nat) (h0 : isK o0 22) (M : mM) : Go muX12_bride (rm 4) 0 0 l G sk (mFin G sk eI) (f_X12_bride w o0 M) 0 [(0, .ref (gB G + o0))] [] M := by
  unfold f_X12_bride
  refine go_aload_n 0 1 dX12_bride_0 rfl rfl ?_
  refine go_iconst 0 2 dX12_bride_1 rfl (by decide) ?_
  refine go_putI flX12_1 rfl rfl h0 5 dX12_bride_2 rfl ?_
  refine go_nmM (fun M1 => ?_)
  refine go_iconst (-1) 6 dX12_bride_5 rfl (by decide) ?_
  refine go_istore_n [(1, .int (-1)), (0, .ref (gB G + o0))] 7 dX12_bride_6 rfl rfl (by decide) rfl ?_
  refine go_bipush 8 9 dX12_bride_7 rfl (by decide) ?_
  refine go_istore_n [(2, .int 8), (1, .int (-1)), (0, .ref (gB G + o0))] 10 dX12_bride_9 rfl rfl (by decide) rfl ?_
  refine go_iconst 0 11 dX12_bride_10 rfl (by decide) ?_
  refine go_istore_n [(3, .int 0), (2, .int 8), (1, .int (-1)), (0, .ref (gB G + o0))] 12 dX12_bride_11 rfl rfl (by decide) rfl ?_
  exact go_lv [3, 2, 1, 0] rfl (s_X12_bride_12 w w o0 h0 (-1) 8 0 M1)
theorem m_X12_bride {l : Launch} {G : mG} {sk : List mS} (w : Nat) (o0 : Nat) (h0 : isK o0 22) (M : mM) : Mt l G sk yX12_bride muX12_bride 4 [.ref (gB G + o0)] M eI (f_X12_bride w o0 M) := Mt.of (by decide) rfl (Nat.le_of_ble_eq_true rfl) (s_X12_bride w o0 h0 M)
theorem dX12_parts_0 : decode cX12_parts 0 = .ok (.aload_n 0, 1) := by decide +kernel
theorem dX12_parts_1 : decode cX12_parts 1 = .ok (.iconst 0, 1) := by decide +kernel
theorem dX12_parts_2 : decode cX12_parts 2 = .ok (.putfield 1, 3) := by decide +kernel
theorem dX12_parts_5 : decode cX12_parts 5 = .ok (.iconst 0, 1) := by decide +kernel
theorem dX12_parts_6 : decode cX12_parts 6 = .ok (.istore_n 1, 1) := by decide +kernel
theorem dX12_parts_7 : decode cX12_parts 7 = .ok (.iconst 0, 1) := by decide +kernel
theorem dX12_parts_8 : decode cX12_parts 8 = .ok (.istore_n 2, 1) := by decide +kernel
theorem dX12_parts_9 : decode cX12_parts 9 = .ok (.iload_n 2, 1) := by decide +kernel
theorem dX12_parts_10 : decode cX12_parts 10 = .ok (.aload_n 0, 1) := by decide +kernel
theorem dX12_parts_11 : decode cX12_parts 11 = .ok (.invokevirtual 291, 3) := by decide +kernel
theorem dX12_parts_14 : decode cX12_parts 14 = .ok (.if_icmp .ge 36, 3) := by decide +kernel
theorem dX12_parts_17 : decode cX12_parts 17 = .ok (.iload_n 1, 1) := by decide +kernel
theorem dX12_parts_18 : decode cX12_parts 18 = .ok (.aload_n 0, 1) := by decide +kernel
theorem dX12_parts_19 : decode cX12_parts 19 = .ok (.iload_n 2, 1) := by decide +kernel
theorem dX12_parts_20 : decode cX12_parts 20 = .ok (.aload_n 0, 1) := by decide +kernel
theorem dX12_parts_21 : decode cX12_parts 21 = .ok (.iconst 0, 1) := by decide +kernel
theorem dX12_parts_22 : decode cX12_parts 22 = .ok (.invokevirtual 360, 3) := by decide +kernel
theorem dX12_parts_25 : decode cX12_parts 25 = .ok (.invokevirtual 363, 3) := by decide +kernel
theorem dX12_parts_28 : decode cX12_parts 28 = .ok (.iconst 1, 1) := by decide +kernel
theorem dX12_parts_29 : decode cX12_parts 29 = .ok (.iload_n 2, 1) := by decide +kernel
theorem dX12_parts_30 : decode cX12_parts 30 = .ok (.ishl, 1) := by decide +kernel
theorem dX12_parts_31 : decode cX12_parts 31 = .ok (.iconst 1, 1) := by decide +kernel
theorem dX12_parts_32 : decode cX12_parts 32 = .ok (.isub, 1) := by decide +kernel
theorem dX12_parts_33 : decode cX12_parts 33 = .ok (.iand, 1) := by decide +kernel
theorem dX12_parts_34 : decode cX12_parts 34 = .ok (.ifCond .ne 7, 3) := by decide +kernel
theorem dX12_parts_37 : decode cX12_parts 37 = .ok (.iconst 1, 1) := by decide +kernel
theorem dX12_parts_38 : decode cX12_parts 38 = .ok (.goto 4, 3) := by decide +kernel
theorem dX12_parts_41 : decode cX12_parts 41 = .ok (.iconst 0, 1) := by decide +kernel
theorem dX12_parts_42 : decode cX12_parts 42 = .ok (.iadd, 1) := by decide +kernel
theorem dX12_parts_43 : decode cX12_parts 43 = .ok (.istore_n 1, 1) := by decide +kernel
theorem dX12_parts_44 : decode cX12_parts 44 = .ok (.iinc 2 1, 3) := by decide +kernel
theorem dX12_parts_47 : decode cX12_parts 47 = .ok (.goto (-38), 3) := by decide +kernel
theorem dX12_parts_50 : decode cX12_parts 50 = .ok (.iload_n 1, 1) := by decide +kernel
theorem dX12_parts_51 : decode cX12_parts 51 = .ok (.ireturn, 1) := by decide +kernel
def f_X12_parts_9 (w : Nat) : Nat → Nat → Int32 → Int32 → mM → Option (Int32 × mM)
  | 0, _, _, _, _ => none
  | n + 1, o0, x1, x2, M => bI (f_X12_rooms w o0 M) fun q2 M1 => (if q2 ≤ x2 then some (x1, M1) else bI (f_X12_openNow w o0 0 M1) fun q4 M3 => bI (f_X12_rangeBy w o0 x2 q4 M3) fun q6 M5 => (if (q6 &&& (((1 : Int32) <<< (x2 &&& 31)) - 1)) = 0 then lt (x1 + 1) fun y8 => (f_X12_parts_9 w n o0 y8 (x2 + 1) M5) else lt (x1 + 0) fun y7 => (f_X12_parts_9 w n o0 y7 (x2 + 1) M5)))
set_option maxHeartbeats 4000000 in
set_option maxRecDepth 100000 in
theorem s_X12_parts_9 {l : Launch} {G : mG} {sk : List mS} (w : Nat) : ∀ (n : Nat) (o0 : Nat) (h0 : isK o0 22) (x1 : Int32) (x2 : Int32) (M : mM), Go muX12_parts (rm 4) 0 0 l G sk (mFin G sk eI) (f_X12_parts_9 w n o0 x1 x2 M) 9 [(0, .ref (gB G + o0)), (1, .int x1), (2, .int x2)] [] M := by
  intro n
  induction n with
  | zero =>
    intros
    exact go_none
  | succ n ih =>
    intro o0 h0 x1 x2 M
    rw [f_X12_parts_9]
    refine go_iload_n 2 10 dX12_parts_9 rfl rfl ?_
    refine go_aload_n 0 11 dX12_parts_10 rfl rfl ?_
    refine go_cVI0 0 clX12 cwX12_291 (m_X12_rooms w o0 h0 M) h0 14 dX12_parts_11 rfl ⟨Nat.le_of_ble_eq_true rfl, Nat.le_of_ble_eq_true rfl⟩ ⟨Nat.zero_le _, Nat.zero_le _⟩ (Nat.le_of_ble_eq_true rfl) (fun q2 M1 _ => ?_)
    refine go_icmp_ge 50 17 dX12_parts_14 rfl (by decide) (fun _ => ?_) (fun _ => ?_)
    · refine go_iload_n 1 51 dX12_parts_50 rfl rfl ?_
      exact go_iret rfl dX12_parts_51
    · refine go_iload_n 1 18 dX12_parts_17 rfl rfl ?_
      refine go_aload_n 0 19 dX12_parts_18 rfl rfl ?_
      refine go_iload_n 2 20 dX12_parts_19 rfl rfl ?_
      refine go_aload_n 0 21 dX12_parts_20 rfl rfl ?_
      refine go_iconst 0 22 dX12_parts_21 rfl (by decide) ?_
      refine go_cVI1 3 clX12 cwX12_360 (m_X12_openNow w o0 h0 0 M1) h0 25 dX12_parts_22 rfl ⟨Nat.le_of_ble_eq_true rfl, Nat.le_of_ble_eq_true rfl⟩ ⟨Nat.zero_le _, Nat.zero_le _⟩ (Nat.le_of_ble_eq_true rfl) (fun q4 M3 _ => ?_)
      refine go_cVI2 2 clX12 cwX12_363 (m_X12_rangeBy w o0 h0 x2 q4 M3) h0 28 dX12_parts_25 rfl ⟨Nat.le_of_ble_eq_true rfl, Nat.le_of_ble_eq_true rfl⟩ ⟨Nat.zero_le _, Nat.zero_le _⟩ (Nat.le_of_ble_eq_true rfl) (fun q6 M5 _ => ?_)
      refine go_iconst 1 29 dX12_parts_28 rfl (by decide) ?_
      refine go_iload_n 2 30 dX12_parts_29 rfl rfl ?_
      refine go_ishl 31 dX12_parts_30 rfl ?_
      refine go_iconst 1 32 dX12_parts_31 rfl (by decide) ?_
      refine go_isub 33 dX12_parts_32 rfl ?_
      refine go_iand 34 dX12_parts_33 rfl ?_
      refine go_if_ne 41 37 dX12_parts_34 rfl (by decide) (fun _ => ?_) (fun _ => ?_)
      · refine go_iconst 0 42 dX12_parts_41 rfl (by decide) ?_
        refine go_iadd 43 dX12_parts_42 rfl ?_
        refine go_nmI (fun y7 => ?_)
        refine go_istore_n [(1, .int y7), (0, .ref (gB G + o0)), (2, .int x2)] 44 dX12_parts_43 rfl rfl (by decide) rfl ?_
        refine go_iinc (x2 + 1) 2 [(2, .int (x2 + 1)), (1, .int y7), (0, .ref (gB G + o0))] 47 dX12_parts_44 rfl rfl rfl (by decide) rfl ?_
        refine go_goto 9 dX12_parts_47 (by decide) ?_
        exact go_lv [2, 1, 0] rfl (ih o0 h0 y7 (x2 + 1) M5)
      · refine go_iconst 1 38 dX12_parts_37 rfl (by decide) ?_
        refine go_goto 42 dX12_parts_38 (by decide) ?_
        refine go_iadd 43 dX12_parts_42 rfl ?_
        refine go_nmI (fun y8 => ?_)
        refine go_istore_n [(1, .int y8), (0, .ref (gB G + o0)), (2, .int x2)] 44 dX12_parts_43 rfl rfl (by decide) rfl ?_
        refine go_iinc (x2 + 1) 2 [(2, .int (x2 + 1)), (1, .int y8), (0, .ref (gB G + o0))] 47 dX12_parts_44 rfl rfl rfl (by decide) rfl ?_
        refine go_goto 9 dX12_parts_47 (by decide) ?_
        exact go_lv [2, 1, 0] rfl (ih o0 h0 y8 (x2 + 1) M5)
def f_X12_parts (w : Nat) (o0 : Nat) (M : mM) : Option (Int32 × mM) := lt (wI M o0 0 0) fun M1 => (f_X12_parts_9 w w o0 0 0 M1)
set_option maxHeartbeats 4000000 in
set_option maxRecDepth 100000 in
theorem s_X12_parts {l : Launch} {G : mG} {sk : List mS} (w : Nat) (o0 : Nat) (h0 : isK o0 22) (M : mM) : Go muX12_parts (rm 4) 0 0 l G sk (mFin G sk eI) (f_X12_parts w o0 M) 0 [(0, .ref (gB G + o0))] [] M := by
  unfold f_X12_parts
  refine go_aload_n 0 1 dX12_parts_0 rfl rfl ?_
  refine go_iconst 0 2 dX12_parts_1 rfl (by decide) ?_
  refine go_putI flX12_1 rfl rfl h0 5 dX12_parts_2 rfl ?_
  refine go_nmM (fun M1 => ?_)
  refine go_iconst 0 6 dX12_parts_5 rfl (by decide) ?_
  refine go_istore_n [(1, .int 0), (0, .ref (gB G + o0))] 7 dX12_parts_6 rfl rfl (by decide) rfl ?_
  refine go_iconst 0 8 dX12_parts_7 rfl (by decide) ?_
  refine go_istore_n [(2, .int 0), (1, .int 0), (0, .ref (gB G + o0))] 9 dX12_parts_8 rfl rfl (by decide) rfl ?_
  exact go_lv [2, 1, 0] rfl (s_X12_parts_9 w w o0 h0 0 0 M1)
theorem m_X12_parts {l : Launch} {G : mG} {sk : List mS} (w : Nat) (o0 : Nat) (h0 : isK o0 22) (M : mM) : Mt l G sk yX12_parts muX12_parts 4 [.ref (gB G + o0)] M eI (f_X12_parts w o0 M) := Mt.of (by decide) rfl (Nat.le_of_ble_eq_true rfl) (s_X12_parts w o0 h0 M)
theorem dX12_deep_0 : decode cX12_deep 0 = .ok (.aload_n 0, 1) := by decide +kernel
theorem dX12_deep_1 : decode cX12_deep 1 = .ok (.iconst 0, 1) := by decide +kernel
theorem dX12_deep_2 : decode cX12_deep 2 = .ok (.putfield 1, 3) := by decide +kernel
theorem dX12_deep_5 : decode cX12_deep 5 = .ok (.aload_n 0, 1) := by decide +kernel
theorem dX12_deep_6 : decode cX12_deep 6 = .ok (.iload_n 1, 1) := by decide +kernel
theorem dX12_deep_7 : decode cX12_deep 7 = .ok (.invokevirtual 357, 3) := by decide +kernel
theorem dX12_deep_10 : decode cX12_deep 10 = .ok (.ifCond .ne 5, 3) := by decide +kernel
theorem dX12_deep_13 : decode cX12_deep 13 = .ok (.iconst (-1), 1) := by decide +kernel
theorem dX12_deep_14 : decode cX12_deep 14 = .ok (.ireturn, 1) := by decide +kernel
theorem dX12_deep_15 : decode cX12_deep 15 = .ok (.iconst 1, 1) := by decide +kernel
theorem dX12_deep_16 : decode cX12_deep 16 = .ok (.iload_n 1, 1) := by decide +kernel
theorem dX12_deep_17 : decode cX12_deep 17 = .ok (.ishl, 1) := by decide +kernel
theorem dX12_deep_18 : decode cX12_deep 18 = .ok (.istore_n 2, 1) := by decide +kernel
theorem dX12_deep_19 : decode cX12_deep 19 = .ok (.iconst 0, 1) := by decide +kernel
theorem dX12_deep_20 : decode cX12_deep 20 = .ok (.istore_n 3, 1) := by decide +kernel
theorem dX12_deep_21 : decode cX12_deep 21 = .ok (.aload_n 0, 1) := by decide +kernel
theorem dX12_deep_22 : decode cX12_deep 22 = .ok (.iload_n 2, 1) := by decide +kernel
theorem dX12_deep_23 : decode cX12_deep 23 = .ok (.aload_n 0, 1) := by decide +kernel
theorem dX12_deep_24 : decode cX12_deep 24 = .ok (.iconst 0, 1) := by decide +kernel
theorem dX12_deep_25 : decode cX12_deep 25 = .ok (.invokevirtual 360, 3) := by decide +kernel
theorem dX12_deep_28 : decode cX12_deep 28 = .ok (.invokevirtual 354, 3) := by decide +kernel
theorem dX12_deep_31 : decode cX12_deep 31 = .ok (.iload_n 2, 1) := by decide +kernel
theorem dX12_deep_32 : decode cX12_deep 32 = .ok (.if_icmp .eq 20, 3) := by decide +kernel
theorem dX12_deep_35 : decode cX12_deep 35 = .ok (.aload_n 0, 1) := by decide +kernel
theorem dX12_deep_36 : decode cX12_deep 36 = .ok (.iload_n 2, 1) := by decide +kernel
theorem dX12_deep_37 : decode cX12_deep 37 = .ok (.aload_n 0, 1) := by decide +kernel
theorem dX12_deep_38 : decode cX12_deep 38 = .ok (.iconst 0, 1) := by decide +kernel
theorem dX12_deep_39 : decode cX12_deep 39 = .ok (.invokevirtual 360, 3) := by decide +kernel
theorem dX12_deep_42 : decode cX12_deep 42 = .ok (.invokevirtual 354, 3) := by decide +kernel
theorem dX12_deep_45 : decode cX12_deep 45 = .ok (.istore_n 2, 1) := by decide +kernel
theorem dX12_deep_46 : decode cX12_deep 46 = .ok (.iinc 3 1, 3) := by decide +kernel
theorem dX12_deep_49 : decode cX12_deep 49 = .ok (.goto (-28), 3) := by decide +kernel
theorem dX12_deep_52 : decode cX12_deep 52 = .ok (.iload_n 3, 1) := by decide +kernel
theorem dX12_deep_53 : decode cX12_deep 53 = .ok (.ireturn, 1) := by decide +kernel
def f_X12_deep_21 (w : Nat) : Nat → Nat → Int32 → Int32 → mM → Option (Int32 × mM)
  | 0, _, _, _, _ => none
  | n + 1, o0, x2, x3, M => bI (f_X12_openNow w o0 0 M) fun q2 M1 => bI (f_X12_onFrom w o0 x2 q2 M1) fun q4 M3 => (if q4 = x2 then some (x3, M3) else bI (f_X12_openNow w o0 0 M3) fun q6 M5 => bI (f_X12_onFrom w o0 x2 q6 M5) fun q8 M7 => (f_X12_deep_21 w n o0 q8 (x3 + 1) M7))
set_option maxHeartbeats 4000000 in
set_option maxRecDepth 100000 in
theorem s_X12_deep_21 {l : Launch} {G : mG} {sk : List mS} (w : Nat) : ∀ (n : Nat) (o0 : Nat) (h0 : isK o0 22) (x2 : Int32) (x3 : Int32) (M : mM), Go muX12_deep (rm 4) 0 0 l G sk (mFin G sk eI) (f_X12_deep_21 w n o0 x2 x3 M) 21 [(0, .ref (gB G + o0)), (2, .int x2), (3, .int x3)] [] M := by
  intro n
  induction n with
  | zero =>
    intros
    exact go_none
  | succ n ih =>
    intro o0 h0 x2 x3 M
    rw [f_X12_deep_21]
    refine go_aload_n 0 22 dX12_deep_21 rfl rfl ?_
    refine go_iload_n 1 23 dX12_deep_22 rfl rfl ?_
    refine go_aload_n 0 24 dX12_deep_23 rfl rfl ?_
    refine go_iconst 0 25 dX12_deep_24 rfl (by decide) ?_
    refine go_cVI1 3 clX12 cwX12_360 (m_X12_openNow w o0 h0 0 M) h0 28 dX12_deep_25 rfl ⟨Nat.le_of_ble_eq_true rfl, Nat.le_of_ble_eq_true rfl⟩ ⟨Nat.zero_le _, Nat.zero_le _⟩ (Nat.le_of_ble_eq_true rfl) (fun q2 M1 _ => ?_)
    refine go_cVI2 1 clX12 cwX12_354 (m_X12_onFrom w o0 h0 x2 q2 M1) h0 31 dX12_deep_28 rfl ⟨Nat.le_of_ble_eq_true rfl, Nat.le_of_ble_eq_true rfl⟩ ⟨Nat.zero_le _, Nat.zero_le _⟩ (Nat.le_of_ble_eq_true rfl) (fun q4 M3 _ => ?_)
    refine go_iload_n 1 32 dX12_deep_31 rfl rfl ?_
    refine go_icmp_eq 52 35 dX12_deep_32 rfl (by decide) (fun _ => ?_) (fun _ => ?_)
    · refine go_iload_n 2 53 dX12_deep_52 rfl rfl ?_
      exact go_iret rfl dX12_deep_53
    · refine go_aload_n 0 36 dX12_deep_35 rfl rfl ?_
      refine go_iload_n 1 37 dX12_deep_36 rfl rfl ?_
      refine go_aload_n 0 38 dX12_deep_37 rfl rfl ?_
      refine go_iconst 0 39 dX12_deep_38 rfl (by decide) ?_
      refine go_cVI1 3 clX12 cwX12_360 (m_X12_openNow w o0 h0 0 M3) h0 42 dX12_deep_39 rfl ⟨Nat.le_of_ble_eq_true rfl, Nat.le_of_ble_eq_true rfl⟩ ⟨Nat.zero_le _, Nat.zero_le _⟩ (Nat.le_of_ble_eq_true rfl) (fun q6 M5 _ => ?_)
      refine go_cVI2 1 clX12 cwX12_354 (m_X12_onFrom w o0 h0 x2 q6 M5) h0 45 dX12_deep_42 rfl ⟨Nat.le_of_ble_eq_true rfl, Nat.le_of_ble_eq_true rfl⟩ ⟨Nat.zero_le _, Nat.zero_le _⟩ (Nat.le_of_ble_eq_true rfl) (fun q8 M7 _ => ?_)
      refine go_istore_n [(2, .int q8), (0, .ref (gB G + o0)), (3, .int x3)] 46 dX12_deep_45 rfl rfl (by decide) rfl ?_
      refine go_iinc (x3 + 1) 2 [(3, .int (x3 + 1)), (2, .int q8), (0, .ref (gB G + o0))] 49 dX12_deep_46 rfl rfl rfl (by decide) rfl ?_
      refine go_goto 21 dX12_deep_49 (by decide) ?_
      exact go_lv [2, 1, 0] rfl (ih o0 h0 q8 (x3 + 1) M7)
def f_X12_deep (w : Nat) (o0 : Nat) (x1 : Int32) (M : mM) : Option (Int32 × mM) := lt (wI M o0 0 0) fun M1 => bI (f_X12_isRoom w o0 x1 M1) fun q3 M2 => (if q3 = 0 then some ((-1), M2) else lt ((1 : Int32) <<< (x1 &&& 31)) fun y4 => (f_X12_deep_21 w w o0 y4 0 M2))
set_option maxHeartbeats 4000000 in
set_option maxRecDepth 100000 in
theorem s_X12_deep {l : Launch} {G : mG} {sk : List mS} (w : Nat) (o0 : Nat) (h0 : isK o0 22) (x1 : Int32) (M : mM) : Go muX12_deep (rm 4) 0 0 l G sk (mFin G sk eI) (f_X12_deep w o0 x1 M) 0 [(0, .ref (gB G + o0)), (1, .int x1)] [] M := by
  unfold f_X12_deep
  refine go_aload_n 0 1 dX12_deep_0 rfl rfl ?_
  refine go_iconst 0 2 dX12_deep_1 rfl (by decide) ?_
  refine go_putI flX12_1 rfl rfl h0 5 dX12_deep_2 rfl ?_
  refine go_nmM (fun M1 => ?_)
  refine go_aload_n 0 6 dX12_deep_5 rfl rfl ?_
  refine go_iload_n 1 7 dX12_deep_6 rfl rfl ?_
  refine go_cVI1 1 clX12 cwX12_357 (m_X12_isRoom w o0 h0 x1 M1) h0 10 dX12_deep_7 rfl ⟨Nat.le_of_ble_eq_true rfl, Nat.le_of_ble_eq_true rfl⟩ ⟨Nat.zero_le _, Nat.zero_le _⟩ (Nat.le_of_ble_eq_true rfl) (fun q3 M2 _ => ?_)
  refine go_if_ne 15 13 dX12_deep_10 rfl (by decide) (fun _ => ?_) (fun _ => ?_)
  · refine go_iconst 1 16 dX12_deep_15 rfl (by decide) ?_
    refine go_iload_n 1 17 dX12_deep_16 rfl rfl ?_
    refine go_ishl 18 dX12_deep_17 rfl ?_
    refine go_nmI (fun y4 => ?_)
    refine go_istore_n [(2, .int y4), (0, .ref (gB G + o0)), (1, .int x1)] 19 dX12_deep_18 rfl rfl (by decide) rfl ?_
    refine go_iconst 0 20 dX12_deep_19 rfl (by decide) ?_
    refine go_istore_n [(3, .int 0), (2, .int y4), (0, .ref (gB G + o0)), (1, .int x1)] 21 dX12_deep_20 rfl rfl (by decide) rfl ?_
    exact go_lv [2, 1, 0] rfl (s_X12_deep_21 w w o0 h0 y4 0 M2)
  · refine go_iconst (-1) 14 dX12_deep_13 rfl (by decide) ?_
    exact go_iret rfl dX12_deep_14
theorem m_X12_deep {l : Launch} {G : mG} {sk : List mS} (w : Nat) (o0 : Nat) (h0 : isK o0 22) (x1 : Int32) (M : mM) : Mt l G sk yX12_deep muX12_deep 4 [.ref (gB G + o0), .int x1] M eI (f_X12_deep w o0 x1 M) := Mt.of (by decide) rfl (Nat.le_of_ble_eq_true rfl) (s_X12_deep w o0 h0 x1 M)
theorem dX12_spared_0 : decode cX12_spared 0 = .ok (.aload_n 0, 1) := by decide +kernel
theorem dX12_spared_1 : decode cX12_spared 1 = .ok (.iconst 0, 1) := by decide +kernel
theorem dX12_spared_2 : decode cX12_spared 2 = .ok (.putfield 1, 3) := by decide +kernel
theorem dX12_spared_5 : decode cX12_spared 5 = .ok (.aload_n 0, 1) := by decide +kernel
theorem dX12_spared_6 : decode cX12_spared 6 = .ok (.iconst 0, 1) := by decide +kernel
theorem dX12_spared_7 : decode cX12_spared 7 = .ok (.invokevirtual 360, 3) := by decide +kernel
theorem dX12_spared_10 : decode cX12_spared 10 = .ok (.istore_n 1, 1) := by decide +kernel
theorem dX12_spared_11 : decode cX12_spared 11 = .ok (.iconst 0, 1) := by decide +kernel
theorem dX12_spared_12 : decode cX12_spared 12 = .ok (.istore_n 2, 1) := by decide +kernel
theorem dX12_spared_13 : decode cX12_spared 13 = .ok (.iconst 0, 1) := by decide +kernel
theorem dX12_spared_14 : decode cX12_spared 14 = .ok (.istore_n 3, 1) := by decide +kernel
theorem dX12_spared_15 : decode cX12_spared 15 = .ok (.iload_n 3, 1) := by decide +kernel
theorem dX12_spared_16 : decode cX12_spared 16 = .ok (.aload_n 0, 1) := by decide +kernel
theorem dX12_spared_17 : decode cX12_spared 17 = .ok (.invokevirtual 272, 3) := by decide +kernel
theorem dX12_spared_20 : decode cX12_spared 20 = .ok (.if_icmp .ge 93, 3) := by decide +kernel
theorem dX12_spared_23 : decode cX12_spared 23 = .ok (.iload_n 1, 1) := by decide +kernel
theorem dX12_spared_24 : decode cX12_spared 24 = .ok (.iload_n 3, 1) := by decide +kernel
theorem dX12_spared_25 : decode cX12_spared 25 = .ok (.ishr, 1) := by decide +kernel
theorem dX12_spared_26 : decode cX12_spared 26 = .ok (.iconst 1, 1) := by decide +kernel
theorem dX12_spared_27 : decode cX12_spared 27 = .ok (.iand, 1) := by decide +kernel
theorem dX12_spared_28 : decode cX12_spared 28 = .ok (.iconst 1, 1) := by decide +kernel
theorem dX12_spared_29 : decode cX12_spared 29 = .ok (.if_icmp .ne 7, 3) := by decide +kernel
theorem dX12_spared_32 : decode cX12_spared 32 = .ok (.iconst 1, 1) := by decide +kernel
theorem dX12_spared_33 : decode cX12_spared 33 = .ok (.goto 4, 3) := by decide +kernel
theorem dX12_spared_36 : decode cX12_spared 36 = .ok (.iconst 0, 1) := by decide +kernel
theorem dX12_spared_37 : decode cX12_spared 37 = .ok (.istore 4, 2) := by decide +kernel
theorem dX12_spared_39 : decode cX12_spared 39 = .ok (.iconst 0, 1) := by decide +kernel
theorem dX12_spared_40 : decode cX12_spared 40 = .ok (.istore 5, 2) := by decide +kernel
theorem dX12_spared_42 : decode cX12_spared 42 = .ok (.iload 5, 2) := by decide +kernel
theorem dX12_spared_44 : decode cX12_spared 44 = .ok (.aload_n 0, 1) := by decide +kernel
theorem dX12_spared_45 : decode cX12_spared 45 = .ok (.invokevirtual 291, 3) := by decide +kernel
theorem dX12_spared_48 : decode cX12_spared 48 = .ok (.if_icmp .ge 44, 3) := by decide +kernel
theorem dX12_spared_51 : decode cX12_spared 51 = .ok (.iload 4, 2) := by decide +kernel
theorem dX12_spared_53 : decode cX12_spared 53 = .ok (.ifCond .eq 30, 3) := by decide +kernel
theorem dX12_spared_56 : decode cX12_spared 56 = .ok (.aload_n 0, 1) := by decide +kernel
theorem dX12_spared_57 : decode cX12_spared 57 = .ok (.iload 5, 2) := by decide +kernel
theorem dX12_spared_59 : decode cX12_spared 59 = .ok (.iload_n 1, 1) := by decide +kernel
theorem dX12_spared_60 : decode cX12_spared 60 = .ok (.invokevirtual 363, 3) := by decide +kernel
theorem dX12_spared_63 : decode cX12_spared 63 = .ok (.aload_n 0, 1) := by decide +kernel
theorem dX12_spared_64 : decode cX12_spared 64 = .ok (.iload 5, 2) := by decide +kernel
theorem dX12_spared_66 : decode cX12_spared 66 = .ok (.iload_n 1, 1) := by decide +kernel
theorem dX12_spared_67 : decode cX12_spared 67 = .ok (.iconst 1, 1) := by decide +kernel
theorem dX12_spared_68 : decode cX12_spared 68 = .ok (.iload_n 3, 1) := by decide +kernel
theorem dX12_spared_69 : decode cX12_spared 69 = .ok (.ishl, 1) := by decide +kernel
theorem dX12_spared_70 : decode cX12_spared 70 = .ok (.iconst (-1), 1) := by decide +kernel
theorem dX12_spared_71 : decode cX12_spared 71 = .ok (.ixor, 1) := by decide +kernel
theorem dX12_spared_72 : decode cX12_spared 72 = .ok (.iand, 1) := by decide +kernel
theorem dX12_spared_73 : decode cX12_spared 73 = .ok (.invokevirtual 363, 3) := by decide +kernel
theorem dX12_spared_76 : decode cX12_spared 76 = .ok (.if_icmp .ne 7, 3) := by decide +kernel
theorem dX12_spared_79 : decode cX12_spared 79 = .ok (.iconst 1, 1) := by decide +kernel
theorem dX12_spared_80 : decode cX12_spared 80 = .ok (.goto 4, 3) := by decide +kernel
theorem dX12_spared_83 : decode cX12_spared 83 = .ok (.iconst 0, 1) := by decide +kernel
theorem dX12_spared_84 : decode cX12_spared 84 = .ok (.istore 4, 2) := by decide +kernel
theorem dX12_spared_86 : decode cX12_spared 86 = .ok (.iinc 5 1, 3) := by decide +kernel
theorem dX12_spared_89 : decode cX12_spared 89 = .ok (.goto (-47), 3) := by decide +kernel
theorem dX12_spared_92 : decode cX12_spared 92 = .ok (.iload_n 2, 1) := by decide +kernel
theorem dX12_spared_93 : decode cX12_spared 93 = .ok (.iload 4, 2) := by decide +kernel
theorem dX12_spared_95 : decode cX12_spared 95 = .ok (.ifCond .eq 9, 3) := by decide +kernel
theorem dX12_spared_98 : decode cX12_spared 98 = .ok (.iconst 1, 1) := by decide +kernel
theorem dX12_spared_99 : decode cX12_spared 99 = .ok (.iload_n 3, 1) := by decide +kernel
theorem dX12_spared_100 : decode cX12_spared 100 = .ok (.ishl, 1) := by decide +kernel
theorem dX12_spared_101 : decode cX12_spared 101 = .ok (.goto 4, 3) := by decide +kernel
theorem dX12_spared_104 : decode cX12_spared 104 = .ok (.iconst 0, 1) := by decide +kernel
theorem dX12_spared_105 : decode cX12_spared 105 = .ok (.ior, 1) := by decide +kernel
theorem dX12_spared_106 : decode cX12_spared 106 = .ok (.istore_n 2, 1) := by decide +kernel
theorem dX12_spared_107 : decode cX12_spared 107 = .ok (.iinc 3 1, 3) := by decide +kernel
theorem dX12_spared_110 : decode cX12_spared 110 = .ok (.goto (-95), 3) := by decide +kernel
theorem dX12_spared_113 : decode cX12_spared 113 = .ok (.iload_n 2, 1) := by decide +kernel
theorem dX12_spared_114 : decode cX12_spared 114 = .ok (.ireturn, 1) := by decide +kernel
def f_X12_spared_92 (w : Nat) (k15 : Nat → Int32 → Int32 → Int32 → mM → Option (Int32 × mM)) (o0 : Nat) (x1 : Int32) (x2 : Int32) (x3 : Int32) (x4 : Int32) (M : mM) : Option (Int32 × mM) := (if x4 = 0 then lt (x2 ||| 0) fun y1 => (k15 o0 x1 y1 (x3 + 1) M) else lt (x2 ||| ((1 : Int32) <<< (x3 &&& 31))) fun y2 => (k15 o0 x1 y2 (x3 + 1) M))
set_option maxHeartbeats 4000000 in
set_option maxRecDepth 100000 in
theorem s_X12_spared_92 {l : Launch} {G : mG} {sk : List mS} (w : Nat) (k15 : Nat → Int32 → Int32 → Int32 → mM → Option (Int32 × mM)) (hk15 : ∀ (o0 : Nat) (h0 : isK o0 22) (x1 : Int32) (x2 : Int32) (x3 : Int32) (M : mM), Go muX12_spared (rm 4) 0 0 l G sk (mFin G sk eI) (k15 o0 x1 x2 x3 M) 15 [(0, .ref (gB G + o0)), (1, .int x1), (2, .int x2), (3, .int x3)] [] M) (o0 : Nat) (h0 : isK o0 22) (x1 : Int32) (x2 : Int32) (x3 : Int32) (x4 : Int32) (M : mM) : Go muX12_spared (rm 4) 0 0 l G sk (mFin G sk eI) (f_X12_spared_92 w k15 o0 x1 x2 x3 x4 M) 92 [(0, .ref (gB G + o0)), (1, .int x1), (2, .int x2), (3, .int x3), (4, .int x4)] [] M := by
  unfold f_X12_spared_92
  refine go_iload_n 2 93 dX12_spared_92 rfl rfl ?_
  refine go_iload 4 95 dX12_spared_93 rfl rfl ?_
  refine go_if_eq 104 98 dX12_spared_95 rfl (by decide) (fun _ => ?_) (fun _ => ?_)
  · refine go_iconst 0 105 dX12_spared_104 rfl (by decide) ?_
    refine go_ior 106 dX12_spared_105 rfl ?_
    refine go_nmI (fun y1 => ?_)
    refine go_istore_n [(2, .int y1), (0, .ref (gB G + o0)), (1, .int x1), (3, .int x3), (4, .int x4)] 107 dX12_spared_106 rfl rfl (by decide) rfl ?_
    refine go_iinc (x3 + 1) 3 [(3, .int (x3 + 1)), (2, .int y1), (0, .ref (gB G + o0)), (1, .int x1), (4, .int x4)] 110 dX12_spared_107 rfl rfl rfl (by decide) rfl ?_
    refine go_goto 15 dX12_spared_110 (by decide) ?_
    exact go_lv [2, 3, 1, 0] rfl (hk15 o0 h0 x1 y1 (x3 + 1) M)
  · refine go_iconst 1 99 dX12_spared_98 rfl (by decide) ?_
    refine go_iload_n 3 100 dX12_spared_99 rfl rfl ?_
    refine go_ishl 101 dX12_spared_100 rfl ?_
    refine go_goto 105 dX12_spared_101 (by decide) ?_
    refine go_ior 106 dX12_spared_105 rfl ?_
    refine go_nmI (fun y2 => ?_)
    refine go_istore_n [(2, .int y2), (0, .ref (gB G + o0)), (1, .int x1), (3, .int x3), (4, .int x4)] 107 dX12_spared_106 rfl rfl (by decide) rfl ?_
    refine go_iinc (x3 + 1) 3 [(3, .int (x3 + 1)), (2, .int y2), (0, .ref (gB G + o0)), (1, .int x1), (4, .int x4)] 110 dX12_spared_107 rfl rfl rfl (by decide) rfl ?_
    refine go_goto 15 dX12_spared_110 (by decide) ?_
    exact go_lv [2, 3, 1, 0] rfl (hk15 o0 h0 x1 y2 (x3 + 1) M)
def f_X12_spared_42 (w : Nat) (k15 : Nat → Int32 → Int32 → Int32 → mM → Option (Int32 × mM)) : Nat → Nat → Int32 → Int32 → Int32 → Int32 → Int32 → mM → Option (Int32 × mM)
  | 0, _, _, _, _, _, _, _ => none
  | n + 1, o0, x1, x2, x3, x4, x5, M => bI (f_X12_rooms w o0 M) fun q2 M1 => (if q2 ≤ x5 then (f_X12_spared_92 w k15 o0 x1 x2 x3 x4 M1) else (if x4 = 0 then (f_X12_spared_42 w k15 n o0 x1 x2 x3 0 (x5 + 1) M1) else bI (f_X12_rangeBy w o0 x5 x1 M1) fun q4 M3 => bI (f_X12_rangeBy w o0 x5 (x1 &&& (((1 : Int32) <<< (x3 &&& 31)) ^^^ (-1))) M3) fun q6 M5 => (if q4 = q6 then (f_X12_spared_42 w k15 n o0 x1 x2 x3 1 (x5 + 1) M5) else (f_X12_spared_42 w k15 n o0 x1 x2 x3 0 (x5 + 1) M5))))
set_option maxHeartbeats 4000000 in
set_option maxRecDepth 100000 in
theorem s_X12_spared_42 {l : Launch} {G : mG} {sk : List mS} (w : Nat) (k15 : Nat → Int32 → Int32 → Int32 → mM → Option (Int32 × mM)) (hk15 : ∀ (o0 : Nat) (h0 : isK o0 22) (x1 : Int32) (x2 : Int32) (x3 : Int32) (M : mM), Go muX12_spared (rm 4) 0 0 l G sk (mFin G sk eI) (k15 o0 x1 x2 x3 M) 15 [(0, .ref (gB G + o0)), (1, .int x1), (2, .int x2), (3, .int x3)] [] M) : ∀ (n : Nat) (o0 : Nat) (h0 : isK o0 22) (x1 : Int32) (x2 : Int32) (x3 : Int32) (x4 : Int32) (x5 : Int32) (M : mM), Go muX12_spared (rm 4) 0 0 l G sk (mFin G sk eI) (f_X12_spared_42 w k15 n o0 x1 x2 x3 x4 x5 M) 42 [(0, .ref (gB G + o0)), (1, .int x1), (2, .int x2), (3, .int x3), (4, .int x4), (5, .int x5)] [] M := by
  intro n
  induction n with
  | zero =>
    intros
    exact go_none
  | succ n ih =>
    intro o0 h0 x1 x2 x3 x4 x5 M
    rw [f_X12_spared_42]
    refine go_iload 5 44 dX12_spared_42 rfl rfl ?_
    refine go_aload_n 0 45 dX12_spared_44 rfl rfl ?_
    refine go_cVI0 0 clX12 cwX12_291 (m_X12_rooms w o0 h0 M) h0 48 dX12_spared_45 rfl ⟨Nat.le_of_ble_eq_true rfl, Nat.le_of_ble_eq_true rfl⟩ ⟨Nat.zero_le _, Nat.zero_le _⟩ (Nat.le_of_ble_eq_true rfl) (fun q2 M1 _ => ?_)
    refine go_icmp_ge 92 51 dX12_spared_48 rfl (by decide) (fun _ => ?_) (fun _ => ?_)
    · exact go_lv [0, 1, 2, 3, 4] rfl (s_X12_spared_92 w k15 hk15 o0 h0 x1 x2 x3 x4 M1)
    · refine go_iload 4 53 dX12_spared_51 rfl rfl ?_
      refine go_if_eq 83 56 dX12_spared_53 rfl (by decide) (fun _ => ?_) (fun _ => ?_)
      · refine go_iconst 0 84 dX12_spared_83 rfl (by decide) ?_
        refine go_istore [(4, .int 0), (0, .ref (gB G + o0)), (1, .int x1), (2, .int x2), (3, .int x3), (5, .int x5)] 86 dX12_spared_84 rfl (by decide) rfl ?_
        refine go_iinc (x5 + 1) 5 [(5, .int (x5 + 1)), (4, .int 0), (0, .ref (gB G + o0)), (1, .int x1), (2, .int x2), (3, .int x3)] 89 dX12_spared_86 rfl rfl rfl (by decide) rfl ?_
        refine go_goto 42 dX12_spared_89 (by decide) ?_
        exact go_lv [2, 3, 4, 5, 1, 0] rfl (ih o0 h0 x1 x2 x3 0 (x5 + 1) M1)
      · refine go_aload_n 0 57 dX12_spared_56 rfl rfl ?_
        refine go_iload 5 59 dX12_spared_57 rfl rfl ?_
        refine go_iload_n 1 60 dX12_spared_59 rfl rfl ?_
        refine go_cVI2 2 clX12 cwX12_363 (m_X12_rangeBy w o0 h0 x5 x1 M1) h0 63 dX12_spared_60 rfl ⟨Nat.le_of_ble_eq_true rfl, Nat.le_of_ble_eq_true rfl⟩ ⟨Nat.zero_le _, Nat.zero_le _⟩ (Nat.le_of_ble_eq_true rfl) (fun q4 M3 _ => ?_)
        refine go_aload_n 0 64 dX12_spared_63 rfl rfl ?_
        refine go_iload 5 66 dX12_spared_64 rfl rfl ?_
        refine go_iload_n 1 67 dX12_spared_66 rfl rfl ?_
        refine go_iconst 1 68 dX12_spared_67 rfl (by decide) ?_
        refine go_iload_n 3 69 dX12_spared_68 rfl rfl ?_
        refine go_ishl 70 dX12_spared_69 rfl ?_
        refine go_iconst (-1) 71 dX12_spared_70 rfl (by decide) ?_
        refine go_ixor 72 dX12_spared_71 rfl ?_
        refine go_iand 73 dX12_spared_72 rfl ?_
        refine go_cVI2 2 clX12 cwX12_363 (m_X12_rangeBy w o0 h0 x5 (x1 &&& (((1 : Int32) <<< (x3 &&& 31)) ^^^ (-1))) M3) h0 76 dX12_spared_73 rfl ⟨Nat.le_of_ble_eq_true rfl, Nat.le_of_ble_eq_true rfl⟩ ⟨Nat.zero_le _, Nat.zero_le _⟩ (Nat.le_of_ble_eq_true rfl) (fun q6 M5 _ => ?_)
        refine go_icmp_ne 83 79 dX12_spared_76 rfl (by decide) (fun _ => ?_) (fun _ => ?_)
        · refine go_iconst 0 84 dX12_spared_83 rfl (by decide) ?_
          refine go_istore [(4, .int 0), (0, .ref (gB G + o0)), (1, .int x1), (2, .int x2), (3, .int x3), (5, .int x5)] 86 dX12_spared_84 rfl (by decide) rfl ?_
          refine go_iinc (x5 + 1) 5 [(5, .int (x5 + 1)), (4, .int 0), (0, .ref (gB G + o0)), (1, .int x1), (2, .int x2), (3, .int x3)] 89 dX12_spared_86 rfl rfl rfl (by decide) rfl ?_
          refine go_goto 42 dX12_spared_89 (by decide) ?_
          exact go_lv [2, 3, 4, 5, 1, 0] rfl (ih o0 h0 x1 x2 x3 0 (x5 + 1) M5)
        · refine go_iconst 1 80 dX12_spared_79 rfl (by decide) ?_
          refine go_goto 84 dX12_spared_80 (by decide) ?_
          refine go_istore [(4, .int 1), (0, .ref (gB G + o0)), (1, .int x1), (2, .int x2), (3, .int x3), (5, .int x5)] 86 dX12_spared_84 rfl (by decide) rfl ?_
          refine go_iinc (x5 + 1) 5 [(5, .int (x5 + 1)), (4, .int 1), (0, .ref (gB G + o0)), (1, .int x1), (2, .int x2), (3, .int x3)] 89 dX12_spared_86 rfl rfl rfl (by decide) rfl ?_
          refine go_goto 42 dX12_spared_89 (by decide) ?_
          exact go_lv [2, 3, 4, 5, 1, 0] rfl (ih o0 h0 x1 x2 x3 1 (x5 + 1) M5)
def f_X12_spared_37 (w : Nat) (k15 : Nat → Int32 → Int32 → Int32 → mM → Option (Int32 × mM)) (o0 : Nat) (x1 : Int32) (x2 : Int32) (x3 : Int32) (xs0 : Int32) (M : mM) : Option (Int32 × mM) := (f_X12_spared_42 w k15 w o0 x1 x2 x3 xs0 0 M)
set_option maxHeartbeats 4000000 in
set_option maxRecDepth 100000 in
theorem s_X12_spared_37 {l : Launch} {G : mG} {sk : List mS} (w : Nat) (k15 : Nat → Int32 → Int32 → Int32 → mM → Option (Int32 × mM)) (hk15 : ∀ (o0 : Nat) (h0 : isK o0 22) (x1 : Int32) (x2 : Int32) (x3 : Int32) (M : mM), Go muX12_spared (rm 4) 0 0 l G sk (mFin G sk eI) (k15 o0 x1 x2 x3 M) 15 [(0, .ref (gB G + o0)), (1, .int x1), (2, .int x2), (3, .int x3)] [] M) (o0 : Nat) (h0 : isK o0 22) (x1 : Int32) (x2 : Int32) (x3 : Int32) (xs0 : Int32) (M : mM) : Go muX12_spared (rm 4) 0 0 l G sk (mFin G sk eI) (f_X12_spared_37 w k15 o0 x1 x2 x3 xs0 M) 37 [(0, .ref (gB G + o0)), (1, .int x1), (2, .int x2), (3, .int x3)] [.int xs0] M := by
  unfold f_X12_spared_37
  refine go_istore [(4, .int xs0), (0, .ref (gB G + o0)), (1, .int x1), (2, .int x2), (3, .int x3)] 39 dX12_spared_37 rfl (by decide) rfl ?_
  refine go_iconst 0 40 dX12_spared_39 rfl (by decide) ?_
  refine go_istore [(5, .int 0), (4, .int xs0), (0, .ref (gB G + o0)), (1, .int x1), (2, .int x2), (3, .int x3)] 42 dX12_spared_40 rfl (by decide) rfl ?_
  exact go_lv [2, 3, 4, 5, 1, 0] rfl (s_X12_spared_42 w k15 hk15 w o0 h0 x1 x2 x3 xs0 0 M)
def f_X12_spared_15 (w : Nat) : Nat → Nat → Int32 → Int32 → Int32 → mM → Option (Int32 × mM)
  | 0, _, _, _, _, _ => none
  | n + 1, o0, x1, x2, x3, M => bI (f_X12_doors w o0 M) fun q2 M1 => (if q2 ≤ x3 then some (x2, M1) else (if ((x1 >>> (x3 &&& 31)) &&& 1) = 1 then (f_X12_spared_37 w (f_X12_spared_15 w n) o0 x1 x2 x3 1 M1) else (f_X12_spared_37 w (f_X12_spared_15 w n) o0 x1 x2 x3 0 M1)))
set_option maxHeartbeats 4000000 in
set_option maxRecDepth 100000 in
theorem s_X12_spared_15 {l : Launch} {G : mG} {sk : List mS} (w : Nat) : ∀ (n : Nat) (o0 : Nat) (h0 : isK o0 22) (x1 : Int32) (x2 : Int32) (x3 : Int32) (M : mM), Go muX12_spared (rm 4) 0 0 l G sk (mFin G sk eI) (f_X12_spared_15 w n o0 x1 x2 x3 M) 15 [(0, .ref (gB G + o0)), (1, .int x1), (2, .int x2), (3, .int x3)] [] M := by
  intro n
  induction n with
  | zero =>
    intros
    exact go_none
  | succ n ih =>
    intro o0 h0 x1 x2 x3 M
    rw [f_X12_spared_15]
    refine go_iload_n 3 16 dX12_spared_15 rfl rfl ?_
    refine go_aload_n 0 17 dX12_spared_16 rfl rfl ?_
    refine go_cVI0 0 clX12 cwX12_272 (m_X12_doors w o0 h0 M) h0 20 dX12_spared_17 rfl ⟨Nat.le_of_ble_eq_true rfl, Nat.le_of_ble_eq_true rfl⟩ ⟨Nat.zero_le _, Nat.zero_le _⟩ (Nat.le_of_ble_eq_true rfl) (fun q2 M1 _ => ?_)
    refine go_icmp_ge 113 23 dX12_spared_20 rfl (by decide) (fun _ => ?_) (fun _ => ?_)
    · refine go_iload_n 2 114 dX12_spared_113 rfl rfl ?_
      exact go_iret rfl dX12_spared_114
    · refine go_iload_n 1 24 dX12_spared_23 rfl rfl ?_
      refine go_iload_n 3 25 dX12_spared_24 rfl rfl ?_
      refine go_ishr 26 dX12_spared_25 rfl ?_
      refine go_iconst 1 27 dX12_spared_26 rfl (by decide) ?_
      refine go_iand 28 dX12_spared_27 rfl ?_
      refine go_iconst 1 29 dX12_spared_28 rfl (by decide) ?_
      refine go_icmp_ne 36 32 dX12_spared_29 rfl (by decide) (fun _ => ?_) (fun _ => ?_)
      · refine go_iconst 0 37 dX12_spared_36 rfl (by decide) ?_
        exact go_lv [0, 1, 2, 3] rfl (s_X12_spared_37 w (f_X12_spared_15 w n) (fun o0 h0 x1 x2 x3 M => ih o0 h0 x1 x2 x3 M) o0 h0 x1 x2 x3 0 M1)
      · refine go_iconst 1 33 dX12_spared_32 rfl (by decide) ?_
        refine go_goto 37 dX12_spared_33 (by decide) ?_
        exact go_lv [0, 1, 2, 3] rfl (s_X12_spared_37 w (f_X12_spared_15 w n) (fun o0 h0 x1 x2 x3 M => ih o0 h0 x1 x2 x3 M) o0 h0 x1 x2 x3 1 M1)
def f_X12_spared (w : Nat) (o0 : Nat) (M : mM) : Option (Int32 × mM) := lt (wI M o0 0 0) fun M1 => bI (f_X12_openNow w o0 0 M1) fun q3 M2 => (f_X12_spared_15 w w o0 q3 0 0 M2)
set_option maxHeartbeats 4000000 in
set_option maxRecDepth 100000 in
theorem s_X12_spared {l : Launch} {G : mG} {sk : List mS} (w : Nat) (o0 : Nat) (h0 : isK o0 22) (M : mM) : Go muX12_spared (rm 4) 0 0 l G sk (mFin G sk eI) (f_X12_spared w o0 M) 0 [(0, .ref (gB G + o0))] [] M := by
  unfold f_X12_spared
  refine go_aload_n 0 1 dX12_spared_0 rfl rfl ?_
  refine go_iconst 0 2 dX12_spared_1 rfl (by decide) ?_
  refine go_putI flX12_1 rfl rfl h0 5 dX12_spared_2 rfl ?_
  refine go_nmM (fun M1 => ?_)
  refine go_aload_n 0 6 dX12_spared_5 rfl rfl ?_
  refine go_iconst 0 7 dX12_spared_6 rfl (by decide) ?_
  refine go_cVI1 3 clX12 cwX12_360 (m_X12_openNow w o0 h0 0 M1) h0 10 dX12_spared_7 rfl ⟨Nat.le_of_ble_eq_true rfl, Nat.le_of_ble_eq_true rfl⟩ ⟨Nat.zero_le _, Nat.zero_le _⟩ (Nat.le_of_ble_eq_true rfl) (fun q3 M2 _ => ?_)
  refine go_istore_n [(1, .int q3), (0, .ref (gB G + o0))] 11 dX12_spared_10 rfl rfl (by decide) rfl ?_
  refine go_iconst 0 12 dX12_spared_11 rfl (by decide) ?_
  refine go_istore_n [(2, .int 0), (1, .int q3), (0, .ref (gB G + o0))] 13 dX12_spared_12 rfl rfl (by decide) rfl ?_
  refine go_iconst 0 14 dX12_spared_13 rfl (by decide) ?_
  refine go_istore_n [(3, .int 0), (2, .int 0), (1, .int q3), (0, .ref (gB G + o0))] 15 dX12_spared_14 rfl rfl (by decide) rfl ?_
  exact go_lv [3, 2, 1, 0] rfl (s_X12_spared_15 w w o0 h0 q3 0 0 M2)
theorem m_X12_spared {l : Launch} {G : mG} {sk : List mS} (w : Nat) (o0 : Nat) (h0 : isK o0 22) (M : mM) : Mt l G sk yX12_spared muX12_spared 4 [.ref (gB G + o0)] M eI (f_X12_spared w o0 M) := Mt.of (by decide) rfl (Nat.le_of_ble_eq_true rfl) (s_X12_spared w o0 h0 M)
theorem dX12_pairsBy_0 : decode cX12_pairsBy 0 = .ok (.iconst 0, 1) := by decide +kernel
theorem dX12_pairsBy_1 : decode cX12_pairsBy 1 = .ok (.istore_n 2, 1) := by decide +kernel
theorem dX12_pairsBy_2 : decode cX12_pairsBy 2 = .ok (.iconst 0, 1) := by decide +kernel
theorem dX12_pairsBy_3 : decode cX12_pairsBy 3 = .ok (.istore_n 3, 1) := by decide +kernel
theorem dX12_pairsBy_4 : decode cX12_pairsBy 4 = .ok (.iload_n 3, 1) := by decide +kernel
theorem dX12_pairsBy_5 : decode cX12_pairsBy 5 = .ok (.aload_n 0, 1) := by decide +kernel
theorem dX12_pairsBy_6 : decode cX12_pairsBy 6 = .ok (.invokevirtual 279, 3) := by decide +kernel
theorem dX12_pairsBy_9 : decode cX12_pairsBy 9 = .ok (.if_icmp .ge 21, 3) := by decide +kernel
theorem dX12_pairsBy_12 : decode cX12_pairsBy 12 = .ok (.iload_n 2, 1) := by decide +kernel
theorem dX12_pairsBy_13 : decode cX12_pairsBy 13 = .ok (.aload_n 0, 1) := by decide +kernel
theorem dX12_pairsBy_14 : decode cX12_pairsBy 14 = .ok (.iload_n 3, 1) := by decide +kernel
theorem dX12_pairsBy_15 : decode cX12_pairsBy 15 = .ok (.iload_n 1, 1) := by decide +kernel
theorem dX12_pairsBy_16 : decode cX12_pairsBy 16 = .ok (.invokevirtual 366, 3) := by decide +kernel
theorem dX12_pairsBy_19 : decode cX12_pairsBy 19 = .ok (.invokestatic 351, 3) := by decide +kernel
theorem dX12_pairsBy_22 : decode cX12_pairsBy 22 = .ok (.iadd, 1) := by decide +kernel
theorem dX12_pairsBy_23 : decode cX12_pairsBy 23 = .ok (.istore_n 2, 1) := by decide +kernel
theorem dX12_pairsBy_24 : decode cX12_pairsBy 24 = .ok (.iinc 3 1, 3) := by decide +kernel
theorem dX12_pairsBy_27 : decode cX12_pairsBy 27 = .ok (.goto (-23), 3) := by decide +kernel
theorem dX12_pairsBy_30 : decode cX12_pairsBy 30 = .ok (.iload_n 2, 1) := by decide +kernel
theorem dX12_pairsBy_31 : decode cX12_pairsBy 31 = .ok (.iconst 2, 1) := by decide +kernel
theorem dX12_pairsBy_32 : decode cX12_pairsBy 32 = .ok (.idiv, 1) := by decide +kernel
theorem dX12_pairsBy_33 : decode cX12_pairsBy 33 = .ok (.ireturn, 1) := by decide +kernel
def f_X12_pairsBy_4 (w : Nat) : Nat → Nat → Int32 → Int32 → Int32 → mM → Option (Int32 × mM)
  | 0, _, _, _, _, _ => none
  | n + 1, o0, x1, x2, x3, M => bI (f_X12_persons w o0 M) fun q2 M1 => (if q2 ≤ x3 then if (2 : Int32) = 0 then none else (some ((x2 / 2), M1)) else bI (f_X12_companyBy w o0 x3 x1 M1) fun q4 M3 => bI (f_X12_bits w q4 M3) fun q6 M5 => lt (x2 + q6) fun y7 => (f_X12_pairsBy_4 w n o0 x1 y7 (x3 + 1) M5))
set_option maxHeartbeats 4000000 in
set_option maxRecDepth 100000 in
theorem s_X12_pairsBy_4 {l : Launch} {G : mG} {sk : List mS} (w : Nat) : ∀ (n : Nat) (o0 : Nat) (h0 : isK o0 22) (x1 : Int32) (x2 : Int32) (x3 : Int32) (M : mM), Go muX12_pairsBy (rm 4) 0 0 l G sk (mFin G sk eI) (f_X12_pairsBy_4 w n o0 x1 x2 x3 M) 4 [(0, .ref (gB G + o0)), (1, .int x1), (2, .int x2), (3, .int x3)] [] M := by
  intro n
  induction n with
  | zero =>
    intros
    exact go_none
  | succ n ih =>
    intro o0 h0 x1 x2 x3 M
    rw [f_X12_pairsBy_4]
    refine go_iload_n 3 5 dX12_pairsBy_4 rfl rfl ?_
    refine go_aload_n 0 6 dX12_pairsBy_5 rfl rfl ?_
    refine go_cVI0 0 clX12 cwX12_279 (m_X12_persons w o0 h0 M) h0 9 dX12_pairsBy_6 rfl ⟨Nat.le_of_ble_eq_true rfl, Nat.le_of_ble_eq_true rfl⟩ ⟨Nat.zero_le _, Nat.zero_le _⟩ (Nat.le_of_ble_eq_true rfl) (fun q2 M1 _ => ?_)
    refine go_icmp_ge 30 12 dX12_pairsBy_9 rfl (by decide) (fun _ => ?_) (fun _ => ?_)
    · refine go_iload_n 2 31 dX12_pairsBy_30 rfl rfl ?_
      refine go_iconst 2 32 dX12_pairsBy_31 rfl (by decide) ?_
      refine go_idiv 33 dX12_pairsBy_32 rfl ?_
      exact go_iret rfl dX12_pairsBy_33
    · refine go_iload_n 2 13 dX12_pairsBy_12 rfl rfl ?_
      refine go_aload_n 0 14 dX12_pairsBy_13 rfl rfl ?_
      refine go_iload_n 3 15 dX12_pairsBy_14 rfl rfl ?_
      refine go_iload_n 1 16 dX12_pairsBy_15 rfl rfl ?_
      refine go_cVI2 3 clX12 cwX12_366 (m_X12_companyBy w o0 h0 x3 x1 M1) h0 19 dX12_pairsBy_16 rfl ⟨Nat.le_of_ble_eq_true rfl, Nat.le_of_ble_eq_true rfl⟩ ⟨Nat.zero_le _, Nat.zero_le _⟩ (Nat.le_of_ble_eq_true rfl) (fun q4 M3 _ => ?_)
      refine go_cSI1 0 cwX12_351 (m_X12_bits w q4 M3) 22 dX12_pairsBy_19 rfl ⟨Nat.le_of_ble_eq_true rfl, Nat.le_of_ble_eq_true rfl⟩ ⟨Nat.zero_le _, Nat.zero_le _⟩ (Nat.le_of_ble_eq_true rfl) (fun q6 M5 _ => ?_)
      refine go_iadd 23 dX12_pairsBy_22 rfl ?_
      refine go_nmI (fun y7 => ?_)
      refine go_istore_n [(2, .int y7), (0, .ref (gB G + o0)), (1, .int x1), (3, .int x3)] 24 dX12_pairsBy_23 rfl rfl (by decide) rfl ?_
      refine go_iinc (x3 + 1) 3 [(3, .int (x3 + 1)), (2, .int y7), (0, .ref (gB G + o0)), (1, .int x1)] 27 dX12_pairsBy_24 rfl rfl rfl (by decide) rfl ?_
      refine go_goto 4 dX12_pairsBy_27 (by decide) ?_
      exact go_lv [2, 3, 1, 0] rfl (ih o0 h0 x1 y7 (x3 + 1) M5)
def f_X12_pairsBy (w : Nat) (o0 : Nat) (x1 : Int32) (M : mM) : Option (Int32 × mM) := (f_X12_pairsBy_4 w w o0 x1 0 0 M)
set_option maxHeartbeats 4000000 in
set_option maxRecDepth 100000 in
theorem s_X12_pairsBy {l : Launch} {G : mG} {sk : List mS} (w : Nat) (o0 : Nat) (h0 : isK o0 22) (x1 : Int32) (M : mM) : Go muX12_pairsBy (rm 4) 0 0 l G sk (mFin G sk eI) (f_X12_pairsBy w o0 x1 M) 0 [(0, .ref (gB G + o0)), (1, .int x1)] [] M := by
  unfold f_X12_pairsBy
  refine go_iconst 0 1 dX12_pairsBy_0 rfl (by decide) ?_
  refine go_istore_n [(2, .int 0), (0, .ref (gB G + o0)), (1, .int x1)] 2 dX12_pairsBy_1 rfl rfl (by decide) rfl ?_
  refine go_iconst 0 3 dX12_pairsBy_2 rfl (by decide) ?_
  refine go_istore_n [(3, .int 0), (2, .int 0), (0, .ref (gB G + o0)), (1, .int x1)] 4 dX12_pairsBy_3 rfl rfl (by decide) rfl ?_
  exact go_lv [2, 3, 1, 0] rfl (s_X12_pairsBy_4 w w o0 h0 x1 0 0 M)
theorem m_X12_pairsBy {l : Launch} {G : mG} {sk : List mS} (w : Nat) (o0 : Nat) (h0 : isK o0 22) (x1 : Int32) (M : mM) : Mt l G sk yX12_pairsBy muX12_pairsBy 4 [.ref (gB G + o0), .int x1] M eI (f_X12_pairsBy w o0 x1 M) := Mt.of (by decide) rfl (Nat.le_of_ble_eq_true rfl) (s_X12_pairsBy w o0 h0 x1 M)
theorem dX12_opened_0 : decode cX12_opened 0 = .ok (.aload_n 0, 1) := by decide +kernel
theorem dX12_opened_1 : decode cX12_opened 1 = .ok (.iconst 0, 1) := by decide +kernel
theorem dX12_opened_2 : decode cX12_opened 2 = .ok (.putfield 1, 3) := by decide +kernel
theorem dX12_opened_5 : decode cX12_opened 5 = .ok (.aload_n 0, 1) := by decide +kernel
theorem dX12_opened_6 : decode cX12_opened 6 = .ok (.iconst 0, 1) := by decide +kernel
theorem dX12_opened_7 : decode cX12_opened 7 = .ok (.invokevirtual 360, 3) := by decide +kernel
theorem dX12_opened_10 : decode cX12_opened 10 = .ok (.istore_n 1, 1) := by decide +kernel
theorem dX12_opened_11 : decode cX12_opened 11 = .ok (.iconst (-1), 1) := by decide +kernel
theorem dX12_opened_12 : decode cX12_opened 12 = .ok (.istore_n 2, 1) := by decide +kernel
theorem dX12_opened_13 : decode cX12_opened 13 = .ok (.aload_n 0, 1) := by decide +kernel
theorem dX12_opened_14 : decode cX12_opened 14 = .ok (.iload_n 1, 1) := by decide +kernel
theorem dX12_opened_15 : decode cX12_opened 15 = .ok (.invokevirtual 369, 3) := by decide +kernel
theorem dX12_opened_18 : decode cX12_opened 18 = .ok (.istore_n 3, 1) := by decide +kernel
theorem dX12_opened_19 : decode cX12_opened 19 = .ok (.iconst 0, 1) := by decide +kernel
theorem dX12_opened_20 : decode cX12_opened 20 = .ok (.istore 4, 2) := by decide +kernel
theorem dX12_opened_22 : decode cX12_opened 22 = .ok (.iload 4, 2) := by decide +kernel
theorem dX12_opened_24 : decode cX12_opened 24 = .ok (.aload_n 0, 1) := by decide +kernel
theorem dX12_opened_25 : decode cX12_opened 25 = .ok (.invokevirtual 272, 3) := by decide +kernel
theorem dX12_opened_28 : decode cX12_opened 28 = .ok (.if_icmp .ge 47, 3) := by decide +kernel
theorem dX12_opened_31 : decode cX12_opened 31 = .ok (.aload_n 0, 1) := by decide +kernel
theorem dX12_opened_32 : decode cX12_opened 32 = .ok (.iload_n 1, 1) := by decide +kernel
theorem dX12_opened_33 : decode cX12_opened 33 = .ok (.iconst 1, 1) := by decide +kernel
theorem dX12_opened_34 : decode cX12_opened 34 = .ok (.iload 4, 2) := by decide +kernel
theorem dX12_opened_36 : decode cX12_opened 36 = .ok (.ishl, 1) := by decide +kernel
theorem dX12_opened_37 : decode cX12_opened 37 = .ok (.ior, 1) := by decide +kernel
theorem dX12_opened_38 : decode cX12_opened 38 = .ok (.invokevirtual 369, 3) := by decide +kernel
theorem dX12_opened_41 : decode cX12_opened 41 = .ok (.istore 5, 2) := by decide +kernel
theorem dX12_opened_43 : decode cX12_opened 43 = .ok (.iload 5, 2) := by decide +kernel
theorem dX12_opened_45 : decode cX12_opened 45 = .ok (.iload_n 3, 1) := by decide +kernel
theorem dX12_opened_46 : decode cX12_opened 46 = .ok (.if_icmp .le 8, 3) := by decide +kernel
theorem dX12_opened_49 : decode cX12_opened 49 = .ok (.iload 4, 2) := by decide +kernel
theorem dX12_opened_51 : decode cX12_opened 51 = .ok (.goto 4, 3) := by decide +kernel
theorem dX12_opened_54 : decode cX12_opened 54 = .ok (.iload_n 2, 1) := by decide +kernel
theorem dX12_opened_55 : decode cX12_opened 55 = .ok (.istore_n 2, 1) := by decide +kernel
theorem dX12_opened_56 : decode cX12_opened 56 = .ok (.iload 5, 2) := by decide +kernel
theorem dX12_opened_58 : decode cX12_opened 58 = .ok (.iload_n 3, 1) := by decide +kernel
theorem dX12_opened_59 : decode cX12_opened 59 = .ok (.if_icmp .le 8, 3) := by decide +kernel
theorem dX12_opened_62 : decode cX12_opened 62 = .ok (.iload 5, 2) := by decide +kernel
theorem dX12_opened_64 : decode cX12_opened 64 = .ok (.goto 4, 3) := by decide +kernel
theorem dX12_opened_67 : decode cX12_opened 67 = .ok (.iload_n 3, 1) := by decide +kernel
theorem dX12_opened_68 : decode cX12_opened 68 = .ok (.istore_n 3, 1) := by decide +kernel
theorem dX12_opened_69 : decode cX12_opened 69 = .ok (.iinc 4 1, 3) := by decide +kernel
theorem dX12_opened_72 : decode cX12_opened 72 = .ok (.goto (-50), 3) := by decide +kernel
theorem dX12_opened_75 : decode cX12_opened 75 = .ok (.iload_n 2, 1) := by decide +kernel
theorem dX12_opened_76 : decode cX12_opened 76 = .ok (.ireturn, 1) := by decide +kernel
def f_X12_opened_55 (w : Nat) (k22 : Nat → Int32 → Int32 → Int32 → Int32 → mM → Option (Int32 × mM)) (o0 : Nat) (x1 : Int32) (x3 : Int32) (x4 : Int32) (x5 : Int32) (xs0 : Int32) (M : mM) : Option (Int32 × mM) := (if x5 ≤ x3 then (k22 o0 x1 xs0 x3 (x4 + 1) M) else (k22 o0 x1 xs0 x5 (x4 + 1) M))
set_option maxHeartbeats 4000000 in
set_option maxRecDepth 100000 in
theorem s_X12_opened_55 {l : Launch} {G : mG} {sk : List mS} (w : Nat) (k22 : Nat → Int32 → Int32 → Int32 → Int32 → mM → Option (Int32 × mM)) (hk22 : ∀ (o0 : Nat) (h0 : isK o0 22) (x1 : Int32) (x2 : Int32) (x3 : Int32) (x4 : Int32) (M : mM), Go muX12_opened (rm 5) 0 0 l G sk (mFin G sk eI) (k22 o0 x1 x2 x3 x4 M) 22 [(0, .ref (gB G + o0)), (1, .int x1), (2, .int x2), (3, .int x3), (4, .int x4)] [] M) (o0 : Nat) (h0 : isK o0 22) (x1 : Int32) (x3 : Int32) (x4 : Int32) (x5 : Int32) (xs0 : Int32) (M : mM) : Go muX12_opened (rm 5) 0 0 l G sk (mFin G sk eI) (f_X12_opened_55 w k22 o0 x1 x3 x4 x5 xs0 M) 55 [(0, .ref (gB G + o0)), (1, .int x1), (3, .int x3), (4, .int x4), (5, .int x5)] [.int xs0] M := by
  unfold f_X12_opened_55
  refine go_istore_n [(2, .int xs0), (0, .ref (gB G + o0)), (1, .int x1), (3, .int x3), (4, .int x4), (5, .int x5)] 56 dX12_opened_55 rfl rfl (by decide) rfl ?_
  refine go_iload 5 58 dX12_opened_56 rfl rfl ?_
  refine go_iload_n 3 59 dX12_opened_58 rfl rfl ?_
  refine go_icmp_le 67 62 dX12_opened_59 rfl (by decide) (fun _ => ?_) (fun _ => ?_)
  · refine go_iload_n 3 68 dX12_opened_67 rfl rfl ?_
    refine go_istore_n [(3, .int x3), (2, .int xs0), (0, .ref (gB G + o0)), (1, .int x1), (4, .int x4), (5, .int x5)] 69 dX12_opened_68 rfl rfl (by decide) rfl ?_
    refine go_iinc (x4 + 1) 4 [(4, .int (x4 + 1)), (3, .int x3), (2, .int xs0), (0, .ref (gB G + o0)), (1, .int x1), (5, .int x5)] 72 dX12_opened_69 rfl rfl rfl (by decide) rfl ?_
    refine go_goto 22 dX12_opened_72 (by decide) ?_
    exact go_lv [3, 4, 2, 1, 0] rfl (hk22 o0 h0 x1 xs0 x3 (x4 + 1) M)
  · refine go_iload 5 64 dX12_opened_62 rfl rfl ?_
    refine go_goto 68 dX12_opened_64 (by decide) ?_
    refine go_istore_n [(3, .int x5), (2, .int xs0), (0, .ref (gB G + o0)), (1, .int x1), (4, .int x4), (5, .int x5)] 69 dX12_opened_68 rfl rfl (by decide) rfl ?_
    refine go_iinc (x4 + 1) 4 [(4, .int (x4 + 1)), (3, .int x5), (2, .int xs0), (0, .ref (gB G + o0)), (1, .int x1), (5, .int x5)] 72 dX12_opened_69 rfl rfl rfl (by decide) rfl ?_
    refine go_goto 22 dX12_opened_72 (by decide) ?_
    exact go_lv [3, 4, 2, 1, 0] rfl (hk22 o0 h0 x1 xs0 x5 (x4 + 1) M)
def f_X12_opened_22 (w : Nat) : Nat → Nat → Int32 → Int32 → Int32 → Int32 → mM → Option (Int32 × mM)
  | 0, _, _, _, _, _, _ => none
  | n + 1, o0, x1, x2, x3, x4, M => bI (f_X12_doors w o0 M) fun q2 M1 => (if q2 ≤ x4 then some (x2, M1) else bI (f_X12_pairsBy w o0 (x1 ||| ((1 : Int32) <<< (x4 &&& 31))) M1) fun q4 M3 => (if q4 ≤ x3 then (f_X12_opened_55 w (f_X12_opened_22 w n) o0 x1 x3 x4 q4 x2 M3) else (f_X12_opened_55 w (f_X12_opened_22 w n) o0 x1 x3 x4 q4 x4 M3)))
set_option maxHeartbeats 4000000 in
set_option maxRecDepth 100000 in
theorem s_X12_opened_22 {l : Launch} {G : mG} {sk : List mS} (w : Nat) : ∀ (n : Nat) (o0 : Nat) (h0 : isK o0 22) (x1 : Int32) (x2 : Int32) (x3 : Int32) (x4 : Int32) (M : mM), Go muX12_opened (rm 5) 0 0 l G sk (mFin G sk eI) (f_X12_opened_22 w n o0 x1 x2 x3 x4 M) 22 [(0, .ref (gB G + o0)), (1, .int x1), (2, .int x2), (3, .int x3), (4, .int x4)] [] M := by
  intro n
  induction n with
  | zero =>
    intros
    exact go_none
  | succ n ih =>
    intro o0 h0 x1 x2 x3 x4 M
    rw [f_X12_opened_22]
    refine go_iload 4 24 dX12_opened_22 rfl rfl ?_
    refine go_aload_n 0 25 dX12_opened_24 rfl rfl ?_
    refine go_cVI0 0 clX12 cwX12_272 (m_X12_doors w o0 h0 M) h0 28 dX12_opened_25 rfl ⟨Nat.le_of_ble_eq_true rfl, Nat.le_of_ble_eq_true rfl⟩ ⟨Nat.zero_le _, Nat.zero_le _⟩ (Nat.le_of_ble_eq_true rfl) (fun q2 M1 _ => ?_)
    refine go_icmp_ge 75 31 dX12_opened_28 rfl (by decide) (fun _ => ?_) (fun _ => ?_)
    · refine go_iload_n 2 76 dX12_opened_75 rfl rfl ?_
      exact go_iret rfl dX12_opened_76
    · refine go_aload_n 0 32 dX12_opened_31 rfl rfl ?_
      refine go_iload_n 1 33 dX12_opened_32 rfl rfl ?_
      refine go_iconst 1 34 dX12_opened_33 rfl (by decide) ?_
      refine go_iload 4 36 dX12_opened_34 rfl rfl ?_
      refine go_ishl 37 dX12_opened_36 rfl ?_
      refine go_ior 38 dX12_opened_37 rfl ?_
      refine go_cVI1 4 clX12 cwX12_369 (m_X12_pairsBy w o0 h0 (x1 ||| ((1 : Int32) <<< (x4 &&& 31))) M1) h0 41 dX12_opened_38 rfl ⟨Nat.le_of_ble_eq_true rfl, Nat.le_of_ble_eq_true rfl⟩ ⟨Nat.zero_le _, Nat.zero_le _⟩ (Nat.le_of_ble_eq_true rfl) (fun q4 M3 _ => ?_)
      refine go_istore [(5, .int q4), (0, .ref (gB G + o0)), (1, .int x1), (2, .int x2), (3, .int x3), (4, .int x4)] 43 dX12_opened_41 rfl (by decide) rfl ?_
      refine go_iload 0 45 dX12_opened_43 rfl rfl ?_
      refine go_iload_n 4 46 dX12_opened_45 rfl rfl ?_
      refine go_icmp_le 54 49 dX12_opened_46 rfl (by decide) (fun _ => ?_) (fun _ => ?_)
      · refine go_iload_n 3 55 dX12_opened_54 rfl rfl ?_
        exact go_lv [1, 2, 4, 5, 0] rfl (s_X12_opened_55 w (f_X12_opened_22 w n) (fun o0 h0 x1 x2 x3 x4 M => ih o0 h0 x1 x2 x3 x4 M) o0 h0 x1 x3 x4 q4 x2 M3)
      · refine go_iload 5 51 dX12_opened_49 rfl rfl ?_
        refine go_goto 55 dX12_opened_51 (by decide) ?_
        exact go_lv [1, 2, 4, 5, 0] rfl (s_X12_opened_55 w (f_X12_opened_22 w n) (fun o0 h0 x1 x2 x3 x4 M => ih o0 h0 x1 x2 x3 x4 M) o0 h0 x1 x3 x4 q4 x4 M3)
def f_X12_opened (w : Nat) (o0 : Nat) (M : mM) : Option (Int32 × mM) := lt (wI M o0 0 0) fun M1 => bI (f_X12_openNow w o0 0 M1) fun q3 M2 => bI (f_X12_pairsBy w o0 q3 M2) fun q5 M4 => (f_X12_opened_22 w w o0 q3 (-1) q5 0 M4)
set_option maxHeartbeats 4000000 in
set_option maxRecDepth 100000 in
theorem s_X12_opened {l : Launch} {G : mG} {sk : List mS} (w : Nat) (o0 : Nat) (h0 : isK o0 22) (M : mM) : Go muX12_opened (rm 5) 0 0 l G sk (mFin G sk eI) (f_X12_opened w o0 M) 0 [(0, .ref (gB G + o0))] [] M := by
  unfold f_X12_opened
  refine go_aload_n 0 1 dX12_opened_0 rfl rfl ?_
  refine go_iconst 0 2 dX12_opened_1 rfl (by decide) ?_
  refine go_putI flX12_1 rfl rfl h0 5 dX12_opened_2 rfl ?_
  refine go_nmM (fun M1 => ?_)
  refine go_aload_n 0 6 dX12_opened_5 rfl rfl ?_
  refine go_iconst 0 7 dX12_opened_6 rfl (by decide) ?_
  refine go_cVI1 3 clX12 cwX12_360 (m_X12_openNow w o0 h0 0 M1) h0 10 dX12_opened_7 rfl ⟨Nat.le_of_ble_eq_true rfl, Nat.le_of_ble_eq_true rfl⟩ ⟨Nat.zero_le _, Nat.zero_le _⟩ (Nat.le_of_ble_eq_true rfl) (fun q3 M2 _ => ?_)
  refine go_istore_n [(1, .int q3), (0, .ref (gB G + o0))] 11 dX12_opened_10 rfl rfl (by decide) rfl ?_
  refine go_iconst (-1) 12 dX12_opened_11 rfl (by decide) ?_
  refine go_istore_n [(2, .int (-1)), (1, .int q3), (0, .ref (gB G + o0))] 13 dX12_opened_12 rfl rfl (by decide) rfl ?_
  refine go_aload_n 2 14 dX12_opened_13 rfl rfl ?_
  refine go_iload_n 1 15 dX12_opened_14 rfl rfl ?_
  refine go_cVI1 4 clX12 cwX12_369 (m_X12_pairsBy w o0 h0 q3 M2) h0 18 dX12_opened_15 rfl ⟨Nat.le_of_ble_eq_true rfl, Nat.le_of_ble_eq_true rfl⟩ ⟨Nat.zero_le _, Nat.zero_le _⟩ (Nat.le_of_ble_eq_true rfl) (fun q5 M4 _ => ?_)
  refine go_istore_n [(3, .int q5), (2, .int (-1)), (1, .int q3), (0, .ref (gB G + o0))] 19 dX12_opened_18 rfl rfl (by decide) rfl ?_
  refine go_iconst 0 20 dX12_opened_19 rfl (by decide) ?_
  refine go_istore [(4, .int 0), (3, .int q5), (2, .int (-1)), (1, .int q3), (0, .ref (gB G + o0))] 22 dX12_opened_20 rfl (by decide) rfl ?_
  exact go_lv [4, 3, 2, 1, 0] rfl (s_X12_opened_22 w w o0 h0 q3 (-1) q5 0 M4)
theorem m_X12_opened {l : Launch} {G : mG} {sk : List mS} (w : Nat) (o0 : Nat) (h0 : isK o0 22) (M : mM) : Mt l G sk yX12_opened muX12_opened 5 [.ref (gB G + o0)] M eI (f_X12_opened w o0 M) := Mt.of (by decide) rfl (Nat.le_of_ble_eq_true rfl) (s_X12_opened w o0 h0 M)
theorem dX12_cut_0 : decode cX12_cut 0 = .ok (.aload_n 0, 1) := by decide +kernel
theorem dX12_cut_1 : decode cX12_cut 1 = .ok (.iconst 0, 1) := by decide +kernel
theorem dX12_cut_2 : decode cX12_cut 2 = .ok (.putfield 1, 3) := by decide +kernel
theorem dX12_cut_5 : decode cX12_cut 5 = .ok (.aload_n 0, 1) := by decide +kernel
theorem dX12_cut_6 : decode cX12_cut 6 = .ok (.iload_n 1, 1) := by decide +kernel
theorem dX12_cut_7 : decode cX12_cut 7 = .ok (.invokevirtual 357, 3) := by decide +kernel
theorem dX12_cut_10 : decode cX12_cut 10 = .ok (.ifCond .eq 16, 3) := by decide +kernel
theorem dX12_cut_13 : decode cX12_cut 13 = .ok (.aload_n 0, 1) := by decide +kernel
theorem dX12_cut_14 : decode cX12_cut 14 = .ok (.iload_n 2, 1) := by decide +kernel
theorem dX12_cut_15 : decode cX12_cut 15 = .ok (.invokevirtual 357, 3) := by decide +kernel
theorem dX12_cut_18 : decode cX12_cut 18 = .ok (.ifCond .eq 8, 3) := by decide +kernel
theorem dX12_cut_21 : decode cX12_cut 21 = .ok (.iload_n 1, 1) := by decide +kernel
theorem dX12_cut_22 : decode cX12_cut 22 = .ok (.iload_n 2, 1) := by decide +kernel
theorem dX12_cut_23 : decode cX12_cut 23 = .ok (.if_icmp .ne 5, 3) := by decide +kernel
theorem dX12_cut_26 : decode cX12_cut 26 = .ok (.iconst (-1), 1) := by decide +kernel
theorem dX12_cut_27 : decode cX12_cut 27 = .ok (.ireturn, 1) := by decide +kernel
theorem dX12_cut_28 : decode cX12_cut 28 = .ok (.aload_n 0, 1) := by decide +kernel
theorem dX12_cut_29 : decode cX12_cut 29 = .ok (.iconst 0, 1) := by decide +kernel
theorem dX12_cut_30 : decode cX12_cut 30 = .ok (.invokevirtual 360, 3) := by decide +kernel
theorem dX12_cut_33 : decode cX12_cut 33 = .ok (.istore_n 3, 1) := by decide +kernel
theorem dX12_cut_34 : decode cX12_cut 34 = .ok (.iconst (-1), 1) := by decide +kernel
theorem dX12_cut_35 : decode cX12_cut 35 = .ok (.istore 4, 2) := by decide +kernel
theorem dX12_cut_37 : decode cX12_cut 37 = .ok (.iconst 0, 1) := by decide +kernel
theorem dX12_cut_38 : decode cX12_cut 38 = .ok (.istore 5, 2) := by decide +kernel
theorem dX12_cut_40 : decode cX12_cut 40 = .ok (.iload 5, 2) := by decide +kernel
theorem dX12_cut_42 : decode cX12_cut 42 = .ok (.iconst 1, 1) := by decide +kernel
theorem dX12_cut_43 : decode cX12_cut 43 = .ok (.aload_n 0, 1) := by decide +kernel
theorem dX12_cut_44 : decode cX12_cut 44 = .ok (.invokevirtual 272, 3) := by decide +kernel
theorem dX12_cut_47 : decode cX12_cut 47 = .ok (.ishl, 1) := by decide +kernel
theorem dX12_cut_48 : decode cX12_cut 48 = .ok (.if_icmp .ge 75, 3) := by decide +kernel
theorem dX12_cut_51 : decode cX12_cut 51 = .ok (.iload 5, 2) := by decide +kernel
theorem dX12_cut_53 : decode cX12_cut 53 = .ok (.iload_n 3, 1) := by decide +kernel
theorem dX12_cut_54 : decode cX12_cut 54 = .ok (.iconst (-1), 1) := by decide +kernel
theorem dX12_cut_55 : decode cX12_cut 55 = .ok (.ixor, 1) := by decide +kernel
theorem dX12_cut_56 : decode cX12_cut 56 = .ok (.iand, 1) := by decide +kernel
theorem dX12_cut_57 : decode cX12_cut 57 = .ok (.ifCond .ne 25, 3) := by decide +kernel
theorem dX12_cut_60 : decode cX12_cut 60 = .ok (.iload 4, 2) := by decide +kernel
theorem dX12_cut_62 : decode cX12_cut 62 = .ok (.ifCond .lt 16, 3) := by decide +kernel
theorem dX12_cut_65 : decode cX12_cut 65 = .ok (.iload 5, 2) := by decide +kernel
theorem dX12_cut_67 : decode cX12_cut 67 = .ok (.invokestatic 351, 3) := by decide +kernel
theorem dX12_cut_70 : decode cX12_cut 70 = .ok (.iload 4, 2) := by decide +kernel
theorem dX12_cut_72 : decode cX12_cut 72 = .ok (.invokestatic 351, 3) := by decide +kernel
theorem dX12_cut_75 : decode cX12_cut 75 = .ok (.if_icmp .ge 7, 3) := by decide +kernel
theorem dX12_cut_78 : decode cX12_cut 78 = .ok (.iconst 1, 1) := by decide +kernel
theorem dX12_cut_79 : decode cX12_cut 79 = .ok (.goto 4, 3) := by decide +kernel
theorem dX12_cut_82 : decode cX12_cut 82 = .ok (.iconst 0, 1) := by decide +kernel
theorem dX12_cut_83 : decode cX12_cut 83 = .ok (.istore 6, 2) := by decide +kernel
theorem dX12_cut_85 : decode cX12_cut 85 = .ok (.iload 6, 2) := by decide +kernel
theorem dX12_cut_87 : decode cX12_cut 87 = .ok (.ifCond .eq 26, 3) := by decide +kernel
theorem dX12_cut_90 : decode cX12_cut 90 = .ok (.aload_n 0, 1) := by decide +kernel
theorem dX12_cut_91 : decode cX12_cut 91 = .ok (.iload_n 1, 1) := by decide +kernel
theorem dX12_cut_92 : decode cX12_cut 92 = .ok (.iload_n 3, 1) := by decide +kernel
theorem dX12_cut_93 : decode cX12_cut 93 = .ok (.iload 5, 2) := by decide +kernel
theorem dX12_cut_95 : decode cX12_cut 95 = .ok (.iconst (-1), 1) := by decide +kernel
theorem dX12_cut_96 : decode cX12_cut 96 = .ok (.ixor, 1) := by decide +kernel
theorem dX12_cut_97 : decode cX12_cut 97 = .ok (.iand, 1) := by decide +kernel
theorem dX12_cut_98 : decode cX12_cut 98 = .ok (.invokevirtual 363, 3) := by decide +kernel
theorem dX12_cut_101 : decode cX12_cut 101 = .ok (.iload_n 2, 1) := by decide +kernel
theorem dX12_cut_102 : decode cX12_cut 102 = .ok (.ishr, 1) := by decide +kernel
theorem dX12_cut_103 : decode cX12_cut 103 = .ok (.iconst 1, 1) := by decide +kernel
theorem dX12_cut_104 : decode cX12_cut 104 = .ok (.iand, 1) := by decide +kernel
theorem dX12_cut_105 : decode cX12_cut 105 = .ok (.ifCond .ne 8, 3) := by decide +kernel
theorem dX12_cut_108 : decode cX12_cut 108 = .ok (.iload 5, 2) := by decide +kernel
theorem dX12_cut_110 : decode cX12_cut 110 = .ok (.goto 5, 3) := by decide +kernel
theorem dX12_cut_113 : decode cX12_cut 113 = .ok (.iload 4, 2) := by decide +kernel
theorem dX12_cut_115 : decode cX12_cut 115 = .ok (.istore 4, 2) := by decide +kernel
theorem dX12_cut_117 : decode cX12_cut 117 = .ok (.iinc 5 1, 3) := by decide +kernel
theorem dX12_cut_120 : decode cX12_cut 120 = .ok (.goto (-80), 3) := by decide +kernel
theorem dX12_cut_123 : decode cX12_cut 123 = .ok (.iload 4, 2) := by decide +kernel
theorem dX12_cut_125 : decode cX12_cut 125 = .ok (.ireturn, 1) := by decide +kernel
def f_X12_cut_83 (w : Nat) (k40 : Nat → Int32 → Int32 → Int32 → Int32 → Int32 → mM → Option (Int32 × mM)) (o0 : Nat) (x1 : Int32) (x2 : Int32) (x3 : Int32) (x4 : Int32) (x5 : Int32) (xs0 : Int32) (M : mM) : Option (Int32 × mM) := (if xs0 = 0 then (k40 o0 x1 x2 x3 x4 (x5 + 1) M) else bI (f_X12_rangeBy w o0 x1 (x3 &&& (x5 ^^^ (-1))) M) fun q2 M1 => (if ((q2 >>> (x2 &&& 31)) &&& 1) = 0 then (k40 o0 x1 x2 x3 x5 (x5 + 1) M1) else (k40 o0 x1 x2 x3 x4 (x5 + 1) M1)))
set_option maxHeartbeats 4000000 in
set_option maxRecDepth 100000 in
theorem s_X12_cut_83 {l : Launch} {G : mG} {sk : List mS} (w : Nat) (k40 : Nat → Int32 → Int32 → Int32 → Int32 → Int32 → mM → Option (Int32 × mM)) (hk40 : ∀ (o0 : Nat) (h0 : isK o0 22) (x1 : Int32) (x2 : Int32) (x3 : Int32) (x4 : Int32) (x5 : Int32) (M : mM), Go muX12_cut (rm 4) 0 0 l G sk (mFin G sk eI) (k40 o0 x1 x2 x3 x4 x5 M) 40 [(0, .ref (gB G + o0)), (1, .int x1), (2, .int x2), (3, .int x3), (4, .int x4), (5, .int x5)] [] M) (o0 : Nat) (h0 : isK o0 22) (x1 : Int32) (x2 : Int32) (x3 : Int32) (x4 : Int32) (x5 : Int32) (xs0 : Int32) (M : mM) : Go muX12_cut (rm 4) 0 0 l G sk (mFin G sk eI) (f_X12_cut_83 w k40 o0 x1 x2 x3 x4 x5 xs0 M) 83 [(0, .ref (gB G + o0)), (1, .int x1), (2, .int x2), (3, .int x3), (4, .int x4), (5, .int x5)] [.int xs0] M := by
  unfold f_X12_cut_83
  refine go_istore [(6, .int xs0), (0, .ref (gB G + o0)), (1, .int x1), (2, .int x2), (3, .int x3), (4, .int x4), (5, .int x5)] 85 dX12_cut_83 rfl (by decide) rfl ?_
  refine go_iload 0 87 dX12_cut_85 rfl rfl ?_
  refine go_if_eq 113 90 dX12_cut_87 rfl (by decide) (fun _ => ?_) (fun _ => ?_)
  · refine go_iload 5 115 dX12_cut_113 rfl rfl ?_
    refine go_istore [(4, .int x4), (6, .int xs0), (0, .ref (gB G + o0)), (1, .int x1), (2, .int x2), (3, .int x3), (5, .int x5)] 117 dX12_cut_115 rfl (by decide) rfl ?_
    refine go_iinc (x5 + 1) 6 [(5, .int (x5 + 1)), (4, .int x4), (6, .int xs0), (0, .ref (gB G + o0)), (1, .int x1), (2, .int x2), (3, .int x3)] 120 dX12_cut_117 rfl rfl rfl (by decide) rfl ?_
    refine go_goto 40 dX12_cut_120 (by decide) ?_
    exact go_lv [3, 4, 5, 6, 1, 0] rfl (hk40 o0 h0 x1 x2 x3 x4 (x5 + 1) M)
  · refine go_aload_n 1 91 dX12_cut_90 rfl rfl ?_
    refine go_iload_n 2 92 dX12_cut_91 rfl rfl ?_
    refine go_iload_n 4 93 dX12_cut_92 rfl rfl ?_
    refine go_iload 6 95 dX12_cut_93 rfl rfl ?_
    refine go_iconst (-1) 96 dX12_cut_95 rfl (by decide) ?_
    refine go_ixor 97 dX12_cut_96 rfl ?_
    refine go_iand 98 dX12_cut_97 rfl ?_
    refine go_cVI2 2 clX12 cwX12_363 (m_X12_rangeBy w o0 h0 x1 (x3 &&& (x5 ^^^ (-1))) M) h0 101 dX12_cut_98 rfl ⟨Nat.le_of_ble_eq_true rfl, Nat.le_of_ble_eq_true rfl⟩ ⟨Nat.zero_le _, Nat.zero_le _⟩ (Nat.le_of_ble_eq_true rfl) (fun q2 M1 _ => ?_)
    refine go_iload_n 3 102 dX12_cut_101 rfl rfl ?_
    refine go_ishr 103 dX12_cut_102 rfl ?_
    refine go_iconst 1 104 dX12_cut_103 rfl (by decide) ?_
    refine go_iand 105 dX12_cut_104 rfl ?_
    refine go_if_ne 113 108 dX12_cut_105 rfl (by decide) (fun _ => ?_) (fun _ => ?_)
    · refine go_iload 5 115 dX12_cut_113 rfl rfl ?_
      refine go_istore [(4, .int x4), (6, .int xs0), (0, .ref (gB G + o0)), (1, .int x1), (2, .int x2), (3, .int x3), (5, .int x5)] 117 dX12_cut_115 rfl (by decide) rfl ?_
      refine go_iinc (x5 + 1) 6 [(5, .int (x5 + 1)), (4, .int x4), (6, .int xs0), (0, .ref (gB G + o0)), (1, .int x1), (2, .int x2), (3, .int x3)] 120 dX12_cut_117 rfl rfl rfl (by decide) rfl ?_
      refine go_goto 40 dX12_cut_120 (by decide) ?_
      exact go_lv [3, 4, 5, 6, 1, 0] rfl (hk40 o0 h0 x1 x2 x3 x4 (x5 + 1) M1)
    · refine go_iload 6 110 dX12_cut_108 rfl rfl ?_
      refine go_goto 115 dX12_cut_110 (by decide) ?_
      refine go_istore [(4, .int x5), (6, .int xs0), (0, .ref (gB G + o0)), (1, .int x1), (2, .int x2), (3, .int x3), (5, .int x5)] 117 dX12_cut_115 rfl (by decide) rfl ?_
      refine go_iinc (x5 + 1) 6 [(5, .int (x5 + 1)), (4, .int x5), (6, .int xs0), (0, .ref (gB G + o0)), (1, .int x1), (2, .int x2), (3, .int x3)] 120 dX12_cut_117 rfl rfl rfl (by decide) rfl ?_
      refine go_goto 40 dX12_cut_120 (by decide) ?_
      exact go_lv [3, 4, 5, 6, 1, 0] rfl (hk40 o0 h0 x1 x2 x3 x5 (x5 + 1) M1)
def f_X12_cut_78 (w : Nat) (k40 : Nat → Int32 → Int32 → Int32 → Int32 → Int32 → mM → Option (Int32 × mM)) (o0 : Nat) (x1 : Int32) (x2 : Int32) (x3 : Int32) (x4 : Int32) (x5 : Int32) (M : mM) : Option (Int32 × mM) := (f_X12_cut_83 w k40 o0 x1 x2 x3 x4 x5 1 M)
set_option maxHeartbeats 4000000 in
set_option maxRecDepth 100000 in
theorem s_X12_cut_78 {l : Launch} {G : mG} {sk : List mS} (w : Nat) (k40 : Nat → Int32 → Int32 → Int32 → Int32 → Int32 → mM → Option (Int32 × mM)) (hk40 : ∀ (o0 : Nat) (h0 : isK o0 22) (x1 : Int32) (x2 : Int32) (x3 : Int32) (x4 : Int32) (x5 : Int32) (M : mM), Go muX12_cut (rm 4) 0 0 l G sk (mFin G sk eI) (k40 o0 x1 x2 x3 x4 x5 M) 40 [(0, .ref (gB G + o0)), (1, .int x1), (2, .int x2), (3, .int x3), (4, .int x4), (5, .int x5)] [] M) (o0 : Nat) (h0 : isK o0 22) (x1 : Int32) (x2 : Int32) (x3 : Int32) (x4 : Int32) (x5 : Int32) (M : mM) : Go muX12_cut (rm 4) 0 0 l G sk (mFin G sk eI) (f_X12_cut_78 w k40 o0 x1 x2 x3 x4 x5 M) 78 [(0, .ref (gB G + o0)), (1, .int x1), (2, .int x2), (3, .int x3), (4, .int x4), (5, .int x5)] [] M := by
  unfold f_X12_cut_78
  refine go_iconst 1 79 dX12_cut_78 rfl (by decide) ?_
  refine go_goto 83 dX12_cut_79 (by decide) ?_
  exact go_lv [0, 1, 2, 3, 4, 5] rfl (s_X12_cut_83 w k40 hk40 o0 h0 x1 x2 x3 x4 x5 1 M)
def f_X12_cut_82 (w : Nat) (k40 : Nat → Int32 → Int32 → Int32 → Int32 → Int32 → mM → Option (Int32 × mM)) (o0 : Nat) (x1 : Int32) (x2 : Int32) (x3 : Int32) (x4 : Int32) (x5 : Int32) (M : mM) : Option (Int32 × mM) := (f_X12_cut_83 w k40 o0 x1 x2 x3 x4 x5 0 M)
set_option maxHeartbeats 4000000 in
set_option maxRecDepth 100000 in
theorem s_X12_cut_82 {l : Launch} {G : mG} {sk : List mS} (w : Nat) (k40 : Nat → Int32 → Int32 → Int32 → Int32 → Int32 → mM → Option (Int32 × mM)) (hk40 : ∀ (o0 : Nat) (h0 : isK o0 22) (x1 : Int32) (x2 : Int32) (x3 : Int32) (x4 : Int32) (x5 : Int32) (M : mM), Go muX12_cut (rm 4) 0 0 l G sk (mFin G sk eI) (k40 o0 x1 x2 x3 x4 x5 M) 40 [(0, .ref (gB G + o0)), (1, .int x1), (2, .int x2), (3, .int x3), (4, .int x4), (5, .int x5)] [] M) (o0 : Nat) (h0 : isK o0 22) (x1 : Int32) (x2 : Int32) (x3 : Int32) (x4 : Int32) (x5 : Int32) (M : mM) : Go muX12_cut (rm 4) 0 0 l G sk (mFin G sk eI) (f_X12_cut_82 w k40 o0 x1 x2 x3 x4 x5 M) 82 [(0, .ref (gB G + o0)), (1, .int x1), (2, .int x2), (3, .int x3), (4, .int x4), (5, .int x5)] [] M := by
  unfold f_X12_cut_82
  refine go_iconst 0 83 dX12_cut_82 rfl (by decide) ?_
  exact go_lv [0, 1, 2, 3, 4, 5] rfl (s_X12_cut_83 w k40 hk40 o0 h0 x1 x2 x3 x4 x5 0 M)
def f_X12_cut_40 (w : Nat) : Nat → Nat → Int32 → Int32 → Int32 → Int32 → Int32 → mM → Option (Int32 × mM)
  | 0, _, _, _, _, _, _, _ => none
  | n + 1, o0, x1, x2, x3, x4, x5, M => bI (f_X12_doors w o0 M) fun q2 M1 => (if ((1 : Int32) <<< (q2 &&& 31)) ≤ x5 then some (x4, M1) else (if (x5 &&& (x3 ^^^ (-1))) = 0 then (if x4 < 0 then (f_X12_cut_78 w (f_X12_cut_40 w n) o0 x1 x2 x3 x4 x5 M1) else bI (f_X12_bits w x5 M1) fun q4 M3 => bI (f_X12_bits w x4 M3) fun q6 M5 => (if q6 ≤ q4 then (f_X12_cut_82 w (f_X12_cut_40 w n) o0 x1 x2 x3 x4 x5 M5) else (f_X12_cut_78 w (f_X12_cut_40 w n) o0 x1 x2 x3 x4 x5 M5))) else (f_X12_cut_82 w (f_X12_cut_40 w n) o0 x1 x2 x3 x4 x5 M1)))
set_option maxHeartbeats 4000000 in
set_option maxRecDepth 100000 in
theorem s_X12_cut_40 {l : Launch} {G : mG} {sk : List mS} (w : Nat) : ∀ (n : Nat) (o0 : Nat) (h0 : isK o0 22) (x1 : Int32) (x2 : Int32) (x3 : Int32) (x4 : Int32) (x5 : Int32) (M : mM), Go muX12_cut (rm 4) 0 0 l G sk (mFin G sk eI) (f_X12_cut_40 w n o0 x1 x2 x3 x4 x5 M) 40 [(0, .ref (gB G + o0)), (1, .int x1), (2, .int x2), (3, .int x3), (4, .int x4), (5, .int x5)] [] M := by
  intro n
  induction n with
  | zero =>
    intros
    exact go_none
  | succ n ih =>
    intro o0 h0 x1 x2 x3 x4 x5 M
    rw [f_X12_cut_40]
    refine go_iload 5 42 dX12_cut_40 rfl rfl ?_
    refine go_iconst 1 43 dX12_cut_42 rfl (by decide) ?_
    refine go_aload_n 0 44 dX12_cut_43 rfl rfl ?_
    refine go_cVI0 0 clX12 cwX12_272 (m_X12_doors w o0 h0 M) h0 47 dX12_cut_44 rfl ⟨Nat.le_of_ble_eq_true rfl, Nat.le_of_ble_eq_true rfl⟩ ⟨Nat.zero_le _, Nat.zero_le _⟩ (Nat.le_of_ble_eq_true rfl) (fun q2 M1 _ => ?_)
    refine go_ishl 48 dX12_cut_47 rfl ?_
    refine go_icmp_ge 123 51 dX12_cut_48 rfl (by decide) (fun _ => ?_) (fun _ => ?_)
    · refine go_iload 4 125 dX12_cut_123 rfl rfl ?_
      exact go_iret rfl dX12_cut_125
    · refine go_iload 5 53 dX12_cut_51 rfl rfl ?_
      refine go_iload_n 3 54 dX12_cut_53 rfl rfl ?_
      refine go_iconst (-1) 55 dX12_cut_54 rfl (by decide) ?_
      refine go_ixor 56 dX12_cut_55 rfl ?_
      refine go_iand 57 dX12_cut_56 rfl ?_
      refine go_if_ne 82 60 dX12_cut_57 rfl (by decide) (fun _ => ?_) (fun _ => ?_)
      · exact go_lv [0, 1, 2, 3, 4, 5] rfl (s_X12_cut_82 w (f_X12_cut_40 w n) (fun o0 h0 x1 x2 x3 x4 x5 M => ih o0 h0 x1 x2 x3 x4 x5 M) o0 h0 x1 x2 x3 x4 x5 M1)
      · refine go_iload 4 62 dX12_cut_60 rfl rfl ?_
        refine go_if_lt 78 65 dX12_cut_62 rfl (by decide) (fun _ => ?_) (fun _ => ?_)
        · exact go_lv [0, 1, 2, 3, 4, 5] rfl (s_X12_cut_78 w (f_X12_cut_40 w n) (fun o0 h0 x1 x2 x3 x4 x5 M => ih o0 h0 x1 x2 x3 x4 x5 M) o0 h0 x1 x2 x3 x4 x5 M1)
        · refine go_iload 5 67 dX12_cut_65 rfl rfl ?_
          refine go_cSI1 0 cwX12_351 (m_X12_bits w x5 M1) 70 dX12_cut_67 rfl ⟨Nat.le_of_ble_eq_true rfl, Nat.le_of_ble_eq_true rfl⟩ ⟨Nat.zero_le _, Nat.zero_le _⟩ (Nat.le_of_ble_eq_true rfl) (fun q4 M3 _ => ?_)
          refine go_iload 4 72 dX12_cut_70 rfl rfl ?_
          refine go_cSI1 0 cwX12_351 (m_X12_bits w x4 M3) 75 dX12_cut_72 rfl ⟨Nat.le_of_ble_eq_true rfl, Nat.le_of_ble_eq_true rfl⟩ ⟨Nat.zero_le _, Nat.zero_le _⟩ (Nat.le_of_ble_eq_true rfl) (fun q6 M5 _ => ?_)
          refine go_icmp_ge 82 78 dX12_cut_75 rfl (by decide) (fun _ => ?_) (fun _ => ?_)
          · exact go_lv [0, 1, 2, 3, 4, 5] rfl (s_X12_cut_82 w (f_X12_cut_40 w n) (fun o0 h0 x1 x2 x3 x4 x5 M => ih o0 h0 x1 x2 x3 x4 x5 M) o0 h0 x1 x2 x3 x4 x5 M5)
          · exact go_lv [0, 1, 2, 3, 4, 5] rfl (s_X12_cut_78 w (f_X12_cut_40 w n) (fun o0 h0 x1 x2 x3 x4 x5 M => ih o0 h0 x1 x2 x3 x4 x5 M) o0 h0 x1 x2 x3 x4 x5 M5)
def f_X12_cut (w : Nat) (o0 : Nat) (x1 : Int32) (x2 : Int32) (M : mM) : Option (Int32 × mM) := lt (wI M o0 0 0) fun M1 => bI (f_X12_isRoom w o0 x1 M1) fun q3 M2 => (if q3 = 0 then some ((-1), M2) else bI (f_X12_isRoom w o0 x2 M2) fun q5 M4 => (if q5 = 0 then some ((-1), M4) else (if x1 = x2 then some ((-1), M4) else bI (f_X12_openNow w o0 0 M4) fun q7 M6 => (f_X12_cut_40 w w o0 x1 x2 q7 (-1) 0 M6))))
set_option maxHeartbeats 4000000 in
set_option maxRecDepth 100000 in
theorem s_X12_cut {l : Launch} {G : mG} {sk : List mS} (w : Nat) (o0 : Nat) (h0 : isK o0 22) (x1 : Int32) (x2 : Int32) (M : mM) : Go muX12_cut (rm 4) 0 0 l G sk (mFin G sk eI) (f_X12_cut w o0 x1 x2 M) 0 [(0, .ref (gB G + o0)), (1, .int x1), (2, .int x2)] [] M := by
  unfold f_X12_cut
  refine go_aload_n 0 1 dX12_cut_0 rfl rfl ?_
  refine go_iconst 0 2 dX12_cut_1 rfl (by decide) ?_
  refine go_putI flX12_1 rfl rfl h0 5 dX12_cut_2 rfl ?_
  refine go_nmM (fun M1 => ?_)
  refine go_aload_n 0 6 dX12_cut_5 rfl rfl ?_
  refine go_iload_n 1 7 dX12_cut_6 rfl rfl ?_
  refine go_cVI1 1 clX12 cwX12_357 (m_X12_isRoom w o0 h0 x1 M1) h0 10 dX12_cut_7 rfl ⟨Nat.le_of_ble_eq_true rfl, Nat.le_of_ble_eq_true rfl⟩ ⟨Nat.zero_le _, Nat.zero_le _⟩ (Nat.le_of_ble_eq_true rfl) (fun q3 M2 _ => ?_)
  refine go_if_eq 26 13 dX12_cut_10 rfl (by decide) (fun _ => ?_) (fun _ => ?_)
  · refine go_iconst (-1) 27 dX12_cut_26 rfl (by decide) ?_
    exact go_iret rfl dX12_cut_27
  · refine go_aload_n 0 14 dX12_cut_13 rfl rfl ?_
    refine go_iload_n 2 15 dX12_cut_14 rfl rfl ?_
    refine go_cVI1 1 clX12 cwX12_357 (m_X12_isRoom w o0 h0 x2 M2) h0 18 dX12_cut_15 rfl ⟨Nat.le_of_ble_eq_true rfl, Nat.le_of_ble_eq_true rfl⟩ ⟨Nat.zero_le _, Nat.zero_le _⟩ (Nat.le_of_ble_eq_true rfl) (fun q5 M4 _ => ?_)
    refine go_if_eq 26 21 dX12_cut_18 rfl (by decide) (fun _ => ?_) (fun _ => ?_)
    · refine go_iconst (-1) 27 dX12_cut_26 rfl (by decide) ?_
      exact go_iret rfl dX12_cut_27
    · refine go_iload_n 1 22 dX12_cut_21 rfl rfl ?_
      refine go_iload_n 2 23 dX12_cut_22 rfl rfl ?_
      refine go_icmp_ne 28 26 dX12_cut_23 rfl (by decide) (fun _ => ?_) (fun _ => ?_)
      · refine go_aload_n 0 29 dX12_cut_28 rfl rfl ?_
        refine go_iconst 0 30 dX12_cut_29 rfl (by decide) ?_
        refine go_cVI1 3 clX12 cwX12_360 (m_X12_openNow w o0 h0 0 M4) h0 33 dX12_cut_30 rfl ⟨Nat.le_of_ble_eq_true rfl, Nat.le_of_ble_eq_true rfl⟩ ⟨Nat.zero_le _, Nat.zero_le _⟩ (Nat.le_of_ble_eq_true rfl) (fun q7 M6 _ => ?_)
        refine go_istore_n [(3, .int q7), (0, .ref (gB G + o0)), (1, .int x1), (2, .int x2)] 34 dX12_cut_33 rfl rfl (by decide) rfl ?_
        refine go_iconst (-1) 35 dX12_cut_34 rfl (by decide) ?_
        refine go_istore [(4, .int (-1)), (3, .int q7), (0, .ref (gB G + o0)), (1, .int x1), (2, .int x2)] 37 dX12_cut_35 rfl (by decide) rfl ?_
        refine go_iconst 0 38 dX12_cut_37 rfl (by decide) ?_
        refine go_istore [(5, .int 0), (4, .int (-1)), (3, .int q7), (0, .ref (gB G + o0)), (1, .int x1), (2, .int x2)] 40 dX12_cut_38 rfl (by decide) rfl ?_
        exact go_lv [3, 4, 5, 2, 1, 0] rfl (s_X12_cut_40 w w o0 h0 x1 x2 q7 (-1) 0 M6)
      · refine go_iconst (-1) 27 dX12_cut_26 rfl (by decide) ?_
        exact go_iret rfl dX12_cut_27
theorem m_X12_cut {l : Launch} {G : mG} {sk : List mS} (w : Nat) (o0 : Nat) (h0 : isK o0 22) (x1 : Int32) (x2 : Int32) (M : mM) : Mt l G sk yX12_cut muX12_cut 4 [.ref (gB G + o0), .int x1, .int x2] M eI (f_X12_cut w o0 x1 x2 M) := Mt.of (by decide) rfl (Nat.le_of_ble_eq_true rfl) (s_X12_cut w o0 h0 x1 x2 M)
theorem dX12_rattles_0 : decode cX12_rattles 0 = .ok (.aload_n 0, 1) := by decide +kernel
theorem dX12_rattles_1 : decode cX12_rattles 1 = .ok (.iconst 0, 1) := by decide +kernel
theorem dX12_rattles_2 : decode cX12_rattles 2 = .ok (.putfield 1, 3) := by decide +kernel
theorem dX12_rattles_5 : decode cX12_rattles 5 = .ok (.iconst 0, 1) := by decide +kernel
theorem dX12_rattles_6 : decode cX12_rattles 6 = .ok (.istore_n 1, 1) := by decide +kernel
theorem dX12_rattles_7 : decode cX12_rattles 7 = .ok (.iconst 0, 1) := by decide +kernel
theorem dX12_rattles_8 : decode cX12_rattles 8 = .ok (.istore_n 2, 1) := by decide +kernel
theorem dX12_rattles_9 : decode cX12_rattles 9 = .ok (.iload_n 2, 1) := by decide +kernel
theorem dX12_rattles_10 : decode cX12_rattles 10 = .ok (.aload_n 0, 1) := by decide +kernel
theorem dX12_rattles_11 : decode cX12_rattles 11 = .ok (.invokevirtual 272, 3) := by decide +kernel
theorem dX12_rattles_14 : decode cX12_rattles 14 = .ok (.if_icmp .ge 30, 3) := by decide +kernel
theorem dX12_rattles_17 : decode cX12_rattles 17 = .ok (.iload_n 1, 1) := by decide +kernel
theorem dX12_rattles_18 : decode cX12_rattles 18 = .ok (.aload_n 0, 1) := by decide +kernel
theorem dX12_rattles_19 : decode cX12_rattles 19 = .ok (.iconst 0, 1) := by decide +kernel
theorem dX12_rattles_20 : decode cX12_rattles 20 = .ok (.iload_n 2, 1) := by decide +kernel
theorem dX12_rattles_21 : decode cX12_rattles 21 = .ok (.invokevirtual 294, 3) := by decide +kernel
theorem dX12_rattles_24 : decode cX12_rattles 24 = .ok (.bipush (-6), 2) := by decide +kernel
theorem dX12_rattles_26 : decode cX12_rattles 26 = .ok (.if_icmp .gt 9, 3) := by decide +kernel
theorem dX12_rattles_29 : decode cX12_rattles 29 = .ok (.iconst 1, 1) := by decide +kernel
theorem dX12_rattles_30 : decode cX12_rattles 30 = .ok (.iload_n 2, 1) := by decide +kernel
theorem dX12_rattles_31 : decode cX12_rattles 31 = .ok (.ishl, 1) := by decide +kernel
theorem dX12_rattles_32 : decode cX12_rattles 32 = .ok (.goto 4, 3) := by decide +kernel
theorem dX12_rattles_35 : decode cX12_rattles 35 = .ok (.iconst 0, 1) := by decide +kernel
theorem dX12_rattles_36 : decode cX12_rattles 36 = .ok (.ior, 1) := by decide +kernel
theorem dX12_rattles_37 : decode cX12_rattles 37 = .ok (.istore_n 1, 1) := by decide +kernel
theorem dX12_rattles_38 : decode cX12_rattles 38 = .ok (.iinc 2 1, 3) := by decide +kernel
theorem dX12_rattles_41 : decode cX12_rattles 41 = .ok (.goto (-32), 3) := by decide +kernel
theorem dX12_rattles_44 : decode cX12_rattles 44 = .ok (.iload_n 1, 1) := by decide +kernel
theorem dX12_rattles_45 : decode cX12_rattles 45 = .ok (.ireturn, 1) := by decide +kernel
def f_X12_rattles_9 (w : Nat) : Nat → Nat → Int32 → Int32 → mM → Option (Int32 × mM)
  | 0, _, _, _, _ => none
  | n + 1, o0, x1, x2, M => bI (f_X12_doors w o0 M) fun q2 M1 => (if q2 ≤ x2 then some (x1, M1) else bI (f_X12_overOf w o0 0 x2 M1) fun q4 M3 => (if (-6) < q4 then lt (x1 ||| 0) fun y5 => (f_X12_rattles_9 w n o0 y5 (x2 + 1) M3) else lt (x1 ||| ((1 : Int32) <<< (x2 &&& 31))) fun y6 => (f_X12_rattles_9 w n o0 y6 (x2 + 1) M3)))
set_option maxHeartbeats 4000000 in
set_option maxRecDepth 100000 in
theorem s_X12_rattles_9 {l : Launch} {G : mG} {sk : List mS} (w : Nat) : ∀ (n : Nat) (o0 : Nat) (h0 : isK o0 22) (x1 : Int32) (x2 : Int32) (M : mM), Go muX12_rattles (rm 1) 0 0 l G sk (mFin G sk eI) (f_X12_rattles_9 w n o0 x1 x2 M) 9 [(0, .ref (gB G + o0)), (1, .int x1), (2, .int x2)] [] M := by
  intro n
  induction n with
  | zero =>
    intros
    exact go_none
  | succ n ih =>
    intro o0 h0 x1 x2 M
    rw [f_X12_rattles_9]
    refine go_iload_n 2 10 dX12_rattles_9 rfl rfl ?_
    refine go_aload_n 0 11 dX12_rattles_10 rfl rfl ?_
    refine go_cVI0 0 clX12 cwX12_272 (m_X12_doors w o0 h0 M) h0 14 dX12_rattles_11 rfl ⟨Nat.le_of_ble_eq_true rfl, Nat.le_of_ble_eq_true rfl⟩ ⟨Nat.zero_le _, Nat.zero_le _⟩ (Nat.le_of_ble_eq_true rfl) (fun q2 M1 _ => ?_)
    refine go_icmp_ge 44 17 dX12_rattles_14 rfl (by decide) (fun _ => ?_) (fun _ => ?_)
    · refine go_iload_n 1 45 dX12_rattles_44 rfl rfl ?_
      exact go_iret rfl dX12_rattles_45
    · refine go_iload_n 1 18 dX12_rattles_17 rfl rfl ?_
      refine go_aload_n 0 19 dX12_rattles_18 rfl rfl ?_
      refine go_iconst 0 20 dX12_rattles_19 rfl (by decide) ?_
      refine go_iload_n 2 21 dX12_rattles_20 rfl rfl ?_
      refine go_cVI2 0 clX12 cwX12_294 (m_X12_overOf w o0 h0 0 x2 M1) h0 24 dX12_rattles_21 rfl ⟨Nat.le_of_ble_eq_true rfl, Nat.le_of_ble_eq_true rfl⟩ ⟨Nat.zero_le _, Nat.zero_le _⟩ (Nat.le_of_ble_eq_true rfl) (fun q4 M3 _ => ?_)
      refine go_bipush (-6) 26 dX12_rattles_24 rfl (by decide) ?_
      refine go_icmp_gt 35 29 dX12_rattles_26 rfl (by decide) (fun _ => ?_) (fun _ => ?_)
      · refine go_iconst 0 36 dX12_rattles_35 rfl (by decide) ?_
        refine go_ior 37 dX12_rattles_36 rfl ?_
        refine go_nmI (fun y5 => ?_)
        refine go_istore_n [(1, .int y5), (0, .ref (gB G + o0)), (2, .int x2)] 38 dX12_rattles_37 rfl rfl (by decide) rfl ?_
        refine go_iinc (x2 + 1) 2 [(2, .int (x2 + 1)), (1, .int y5), (0, .ref (gB G + o0))] 41 dX12_rattles_38 rfl rfl rfl (by decide) rfl ?_
        refine go_goto 9 dX12_rattles_41 (by decide) ?_
        exact go_lv [2, 1, 0] rfl (ih o0 h0 y5 (x2 + 1) M3)
      · refine go_iconst 1 30 dX12_rattles_29 rfl (by decide) ?_
        refine go_iload_n 2 31 dX12_rattles_30 rfl rfl ?_
        refine go_ishl 32 dX12_rattles_31 rfl ?_
        refine go_goto 36 dX12_rattles_32 (by decide) ?_
        refine go_ior 37 dX12_rattles_36 rfl ?_
        refine go_nmI (fun y6 => ?_)
        refine go_istore_n [(1, .int y6), (0, .ref (gB G + o0)), (2, .int x2)] 38 dX12_rattles_37 rfl rfl (by decide) rfl ?_
        refine go_iinc (x2 + 1) 2 [(2, .int (x2 + 1)), (1, .int y6), (0, .ref (gB G + o0))] 41 dX12_rattles_38 rfl rfl rfl (by decide) rfl ?_
        refine go_goto 9 dX12_rattles_41 (by decide) ?_
        exact go_lv [2, 1, 0] rfl (ih o0 h0 y6 (x2 + 1) M3)
def f_X12_rattles (w : Nat) (o0 : Nat) (M : mM) : Option (Int32 × mM) := lt (wI M o0 0 0) fun M1 => (f_X12_rattles_9 w w o0 0 0 M1)
set_option maxHeartbeats 4000000 in
set_option maxRecDepth 100000 in
theorem s_X12_rattles {l : Launch} {G : mG} {sk : List mS} (w : Nat) (o0 : Nat) (h0 : isK o0 22) (M : mM) : Go muX12_rattles (rm 1) 0 0 l G sk (mFin G sk eI) (f_X12_rattles w o0 M) 0 [(0, .ref (gB G + o0))] [] M := by
  unfold f_X12_rattles
  refine go_aload_n 0 1 dX12_rattles_0 rfl rfl ?_
  refine go_iconst 0 2 dX12_rattles_1 rfl (by decide) ?_
  refine go_putI flX12_1 rfl rfl h0 5 dX12_rattles_2 rfl ?_
  refine go_nmM (fun M1 => ?_)
  refine go_iconst 0 6 dX12_rattles_5 rfl (by decide) ?_
  refine go_istore_n [(1, .int 0), (0, .ref (gB G + o0))] 7 dX12_rattles_6 rfl rfl (by decide) rfl ?_
  refine go_iconst 0 8 dX12_rattles_7 rfl (by decide) ?_
  refine go_istore_n [(2, .int 0), (1, .int 0), (0, .ref (gB G + o0))] 9 dX12_rattles_8 rfl rfl (by decide) rfl ?_
  exact go_lv [2, 1, 0] rfl (s_X12_rattles_9 w w o0 h0 0 0 M1)
theorem m_X12_rattles {l : Launch} {G : mG} {sk : List mS} (w : Nat) (o0 : Nat) (h0 : isK o0 22) (M : mM) : Mt l G sk yX12_rattles muX12_rattles 1 [.ref (gB G + o0)] M eI (f_X12_rattles w o0 M) := Mt.of (by decide) rfl (Nat.le_of_ble_eq_true rfl) (s_X12_rattles w o0 h0 M)
theorem dX12_worst_0 : decode cX12_worst 0 = .ok (.aload_n 0, 1) := by decide +kernel
theorem dX12_worst_1 : decode cX12_worst 1 = .ok (.iconst 0, 1) := by decide +kernel
theorem dX12_worst_2 : decode cX12_worst 2 = .ok (.putfield 1, 3) := by decide +kernel
theorem dX12_worst_5 : decode cX12_worst 5 = .ok (.iconst (-1), 1) := by decide +kernel
theorem dX12_worst_6 : decode cX12_worst 6 = .ok (.istore_n 1, 1) := by decide +kernel
theorem dX12_worst_7 : decode cX12_worst 7 = .ok (.iconst 0, 1) := by decide +kernel
theorem dX12_worst_8 : decode cX12_worst 8 = .ok (.istore_n 2, 1) := by decide +kernel
theorem dX12_worst_9 : decode cX12_worst 9 = .ok (.iconst 0, 1) := by decide +kernel
theorem dX12_worst_10 : decode cX12_worst 10 = .ok (.istore_n 3, 1) := by decide +kernel
theorem dX12_worst_11 : decode cX12_worst 11 = .ok (.iload_n 3, 1) := by decide +kernel
theorem dX12_worst_12 : decode cX12_worst 12 = .ok (.aload_n 0, 1) := by decide +kernel
theorem dX12_worst_13 : decode cX12_worst 13 = .ok (.invokevirtual 272, 3) := by decide +kernel
theorem dX12_worst_16 : decode cX12_worst 16 = .ok (.if_icmp .ge 62, 3) := by decide +kernel
theorem dX12_worst_19 : decode cX12_worst 19 = .ok (.aload_n 0, 1) := by decide +kernel
theorem dX12_worst_20 : decode cX12_worst 20 = .ok (.iconst 0, 1) := by decide +kernel
theorem dX12_worst_21 : decode cX12_worst 21 = .ok (.iload_n 3, 1) := by decide +kernel
theorem dX12_worst_22 : decode cX12_worst 22 = .ok (.invokevirtual 301, 3) := by decide +kernel
theorem dX12_worst_25 : decode cX12_worst 25 = .ok (.ifCond .eq 17, 3) := by decide +kernel
theorem dX12_worst_28 : decode cX12_worst 28 = .ok (.aload_n 0, 1) := by decide +kernel
theorem dX12_worst_29 : decode cX12_worst 29 = .ok (.iconst 0, 1) := by decide +kernel
theorem dX12_worst_30 : decode cX12_worst 30 = .ok (.iload_n 3, 1) := by decide +kernel
theorem dX12_worst_31 : decode cX12_worst 31 = .ok (.invokevirtual 294, 3) := by decide +kernel
theorem dX12_worst_34 : decode cX12_worst 34 = .ok (.iload_n 2, 1) := by decide +kernel
theorem dX12_worst_35 : decode cX12_worst 35 = .ok (.if_icmp .le 7, 3) := by decide +kernel
theorem dX12_worst_38 : decode cX12_worst 38 = .ok (.iconst 1, 1) := by decide +kernel
theorem dX12_worst_39 : decode cX12_worst 39 = .ok (.goto 4, 3) := by decide +kernel
theorem dX12_worst_42 : decode cX12_worst 42 = .ok (.iconst 0, 1) := by decide +kernel
theorem dX12_worst_43 : decode cX12_worst 43 = .ok (.istore 4, 2) := by decide +kernel
theorem dX12_worst_45 : decode cX12_worst 45 = .ok (.iload 4, 2) := by decide +kernel
theorem dX12_worst_47 : decode cX12_worst 47 = .ok (.ifCond .eq 7, 3) := by decide +kernel
theorem dX12_worst_50 : decode cX12_worst 50 = .ok (.iload_n 3, 1) := by decide +kernel
theorem dX12_worst_51 : decode cX12_worst 51 = .ok (.goto 4, 3) := by decide +kernel
theorem dX12_worst_54 : decode cX12_worst 54 = .ok (.iload_n 1, 1) := by decide +kernel
theorem dX12_worst_55 : decode cX12_worst 55 = .ok (.istore_n 1, 1) := by decide +kernel
theorem dX12_worst_56 : decode cX12_worst 56 = .ok (.iload 4, 2) := by decide +kernel
theorem dX12_worst_58 : decode cX12_worst 58 = .ok (.ifCond .eq 12, 3) := by decide +kernel
theorem dX12_worst_61 : decode cX12_worst 61 = .ok (.aload_n 0, 1) := by decide +kernel
theorem dX12_worst_62 : decode cX12_worst 62 = .ok (.iconst 0, 1) := by decide +kernel
theorem dX12_worst_63 : decode cX12_worst 63 = .ok (.iload_n 3, 1) := by decide +kernel
theorem dX12_worst_64 : decode cX12_worst 64 = .ok (.invokevirtual 294, 3) := by decide +kernel
theorem dX12_worst_67 : decode cX12_worst 67 = .ok (.goto 4, 3) := by decide +kernel
theorem dX12_worst_70 : decode cX12_worst 70 = .ok (.iload_n 2, 1) := by decide +kernel
theorem dX12_worst_71 : decode cX12_worst 71 = .ok (.istore_n 2, 1) := by decide +kernel
theorem dX12_worst_72 : decode cX12_worst 72 = .ok (.iinc 3 1, 3) := by decide +kernel
theorem dX12_worst_75 : decode cX12_worst 75 = .ok (.goto (-64), 3) := by decide +kernel
theorem dX12_worst_78 : decode cX12_worst 78 = .ok (.iload_n 1, 1) := by decide +kernel
theorem dX12_worst_79 : decode cX12_worst 79 = .ok (.ireturn, 1) := by decide +kernel
def f_X12_worst_55 (w : Nat) (k11 : Nat → Int32 → Int32 → Int32 → mM → Option (Int32 × mM)) (o0 : Nat) (x2 : Int32) (x3 : Int32) (x4 : Int32) (xs0 : Int32) (M : mM) : Option (Int32 × mM) := (if x4 = 0 then (k11 o0 xs0 x2 (x3 + 1) M) else bI (f_X12_overOf w o0 0 x3 M) fun q2 M1 => (k11 o0 xs0 q2 (x3 + 1) M1))
set_option maxHeartbeats 4000000 in
set_option maxRecDepth 100000 in
theorem s_X12_worst_55 {l : Launch} {G : mG} {sk : List mS} (w : Nat) (k11 : Nat → Int32 → Int32 → Int32 → mM → Option (Int32 × mM)) (hk11 : ∀ (o0 : Nat) (h0 : isK o0 22) (x1 : Int32) (x2 : Int32) (x3 : Int32) (M : mM), Go muX12_worst (rm 2) 0 0 l G sk (mFin G sk eI) (k11 o0 x1 x2 x3 M) 11 [(0, .ref (gB G + o0)), (1, .int x1), (2, .int x2), (3, .int x3)] [] M) (o0 : Nat) (h0 : isK o0 22) (x2 : Int32) (x3 : Int32) (x4 : Int32) (xs0 : Int32) (M : mM) : Go muX12_worst (rm 2) 0 0 l G sk (mFin G sk eI) (f_X12_worst_55 w k11 o0 x2 x3 x4 xs0 M) 55 [(0, .ref (gB G + o0)), (2, .int x2), (3, .int x3), (4, .int x4)] [.int xs0] M := by
  unfold f_X12_worst_55
  refine go_istore_n [(1, .int xs0), (0, .ref (gB G + o0)), (2, .int x2), (3, .int x3), (4, .int x4)] 56 dX12_worst_55 rfl rfl (by decide) rfl ?_
  refine go_iload 4 58 dX12_worst_56 rfl rfl ?_
  refine go_if_eq 70 61 dX12_worst_58 rfl (by decide) (fun _ => ?_) (fun _ => ?_)
  · refine go_iload_n 2 71 dX12_worst_70 rfl rfl ?_
    refine go_istore_n [(2, .int x2), (1, .int xs0), (0, .ref (gB G + o0)), (3, .int x3), (4, .int x4)] 72 dX12_worst_71 rfl rfl (by decide) rfl ?_
    refine go_iinc (x3 + 1) 3 [(3, .int (x3 + 1)), (2, .int x2), (1, .int xs0), (0, .ref (gB G + o0)), (4, .int x4)] 75 dX12_worst_72 rfl rfl rfl (by decide) rfl ?_
    refine go_goto 11 dX12_worst_75 (by decide) ?_
    exact go_lv [3, 2, 1, 0] rfl (hk11 o0 h0 xs0 x2 (x3 + 1) M)
  · refine go_aload_n 1 62 dX12_worst_61 rfl rfl ?_
    refine go_iconst 0 63 dX12_worst_62 rfl (by decide) ?_
    refine go_iload_n 3 64 dX12_worst_63 rfl rfl ?_
    refine go_cVI2 0 clX12 cwX12_294 (m_X12_overOf w o0 h0 0 x3 M) h0 67 dX12_worst_64 rfl ⟨Nat.le_of_ble_eq_true rfl, Nat.le_of_ble_eq_true rfl⟩ ⟨Nat.zero_le _, Nat.zero_le _⟩ (Nat.le_of_ble_eq_true rfl) (fun q2 M1 _ => ?_)
    refine go_goto 71 dX12_worst_67 (by decide) ?_
    refine go_istore_n [(2, .int q2), (1, .int xs0), (0, .ref (gB G + o0)), (3, .int x3), (4, .int x4)] 72 dX12_worst_71 rfl rfl (by decide) rfl ?_
    refine go_iinc (x3 + 1) 3 [(3, .int (x3 + 1)), (2, .int q2), (1, .int xs0), (0, .ref (gB G + o0)), (4, .int x4)] 75 dX12_worst_72 rfl rfl rfl (by decide) rfl ?_
    refine go_goto 11 dX12_worst_75 (by decide) ?_
    exact go_lv [3, 2, 1, 0] rfl (hk11 o0 h0 xs0 q2 (x3 + 1) M1)
def f_X12_worst_43 (w : Nat) (k11 : Nat → Int32 → Int32 → Int32 → mM → Option (Int32 × mM)) (o0 : Nat) (x1 : Int32) (x2 : Int32) (x3 : Int32) (xs0 : Int32) (M : mM) : Option (Int32 × mM) := (if xs0 = 0 then (f_X12_worst_55 w k11 o0 x2 x3 xs0 x1 M) else (f_X12_worst_55 w k11 o0 x2 x3 xs0 x3 M))
set_option maxHeartbeats 4000000 in
set_option maxRecDepth 100000 in
theorem s_X12_worst_43 {l : Launch} {G : mG} {sk : List mS} (w : Nat) (k11 : Nat → Int32 → Int32 → Int32 → mM → Option (Int32 × mM)) (hk11 : ∀ (o0 : Nat) (h0 : isK o0 22) (x1 : Int32) (x2 : Int32) (x3 : Int32) (M : mM), Go muX12_worst (rm 2) 0 0 l G sk (mFin G sk eI) (k11 o0 x1 x2 x3 M) 11 [(0, .ref (gB G + o0)), (1, .int x1), (2, .int x2), (3, .int x3)] [] M) (o0 : Nat) (h0 : isK o0 22) (x1 : Int32) (x2 : Int32) (x3 : Int32) (xs0 : Int32) (M : mM) : Go muX12_worst (rm 2) 0 0 l G sk (mFin G sk eI) (f_X12_worst_43 w k11 o0 x1 x2 x3 xs0 M) 43 [(0, .ref (gB G + o0)), (1, .int x1), (2, .int x2), (3, .int x3)] [.int xs0] M := by
  unfold f_X12_worst_43
  refine go_istore [(4, .int xs0), (0, .ref (gB G + o0)), (1, .int x1), (2, .int x2), (3, .int x3)] 45 dX12_worst_43 rfl (by decide) rfl ?_
  refine go_iload 0 47 dX12_worst_45 rfl rfl ?_
  refine go_if_eq 54 50 dX12_worst_47 rfl (by decide) (fun _ => ?_) (fun _ => ?_)
  · refine go_iload_n 2 55 dX12_worst_54 rfl rfl ?_
    exact go_lv [1, 3, 4, 0] rfl (s_X12_worst_55 w k11 hk11 o0 h0 x2 x3 xs0 x1 M)
  · refine go_iload_n 4 51 dX12_worst_50 rfl rfl ?_
    refine go_goto 55 dX12_worst_51 (by decide) ?_
    exact go_lv [1, 3, 4, 0] rfl (s_X12_worst_55 w k11 hk11 o0 h0 x2 x3 xs0 x3 M)
def f_X12_worst_42 (w : Nat) (k11 : Nat → Int32 → Int32 → Int32 → mM → Option (Int32 × mM)) (o0 : Nat) (x1 : Int32) (x2 : Int32) (x3 : Int32) (M : mM) : Option (Int32 × mM) := (f_X12_worst_43 w k11 o0 x1 x2 x3 0 M)
set_option maxHeartbeats 4000000 in
set_option maxRecDepth 100000 in
theorem s_X12_worst_42 {l : Launch} {G : mG} {sk : List mS} (w : Nat) (k11 : Nat → Int32 → Int32 → Int32 → mM → Option (Int32 × mM)) (hk11 : ∀ (o0 : Nat) (h0 : isK o0 22) (x1 : Int32) (x2 : Int32) (x3 : Int32) (M : mM), Go muX12_worst (rm 2) 0 0 l G sk (mFin G sk eI) (k11 o0 x1 x2 x3 M) 11 [(0, .ref (gB G + o0)), (1, .int x1), (2, .int x2), (3, .int x3)] [] M) (o0 : Nat) (h0 : isK o0 22) (x1 : Int32) (x2 : Int32) (x3 : Int32) (M : mM) : Go muX12_worst (rm 2) 0 0 l G sk (mFin G sk eI) (f_X12_worst_42 w k11 o0 x1 x2 x3 M) 42 [(0, .ref (gB G + o0)), (1, .int x1), (2, .int x2), (3, .int x3)] [] M := by
  unfold f_X12_worst_42
  refine go_iconst 0 43 dX12_worst_42 rfl (by decide) ?_
  exact go_lv [0, 1, 2, 3] rfl (s_X12_worst_43 w k11 hk11 o0 h0 x1 x2 x3 0 M)
def f_X12_worst_11 (w : Nat) : Nat → Nat → Int32 → Int32 → Int32 → mM → Option (Int32 × mM)
  | 0, _, _, _, _, _ => none
  | n + 1, o0, x1, x2, x3, M => bI (f_X12_doors w o0 M) fun q2 M1 => (if q2 ≤ x3 then some (x1, M1) else bI (f_X12_doesStick w o0 0 x3 M1) fun q4 M3 => (if q4 = 0 then (f_X12_worst_42 w (f_X12_worst_11 w n) o0 x1 x2 x3 M3) else bI (f_X12_overOf w o0 0 x3 M3) fun q6 M5 => (if q6 ≤ x2 then (f_X12_worst_42 w (f_X12_worst_11 w n) o0 x1 x2 x3 M5) else (f_X12_worst_43 w (f_X12_worst_11 w n) o0 x1 x2 x3 1 M5))))
set_option maxHeartbeats 4000000 in
set_option maxRecDepth 100000 in
theorem s_X12_worst_11 {l : Launch} {G : mG} {sk : List mS} (w : Nat) : ∀ (n : Nat) (o0 : Nat) (h0 : isK o0 22) (x1 : Int32) (x2 : Int32) (x3 : Int32) (M : mM), Go muX12_worst (rm 2) 0 0 l G sk (mFin G sk eI) (f_X12_worst_11 w n o0 x1 x2 x3 M) 11 [(0, .ref (gB G + o0)), (1, .int x1), (2, .int x2), (3, .int x3)] [] M := by
  intro n
  induction n with
  | zero =>
    intros
    exact go_none
  | succ n ih =>
    intro o0 h0 x1 x2 x3 M
    rw [f_X12_worst_11]
    refine go_iload_n 3 12 dX12_worst_11 rfl rfl ?_
    refine go_aload_n 0 13 dX12_worst_12 rfl rfl ?_
    refine go_cVI0 0 clX12 cwX12_272 (m_X12_doors w o0 h0 M) h0 16 dX12_worst_13 rfl ⟨Nat.le_of_ble_eq_true rfl, Nat.le_of_ble_eq_true rfl⟩ ⟨Nat.zero_le _, Nat.zero_le _⟩ (Nat.le_of_ble_eq_true rfl) (fun q2 M1 _ => ?_)
    refine go_icmp_ge 78 19 dX12_worst_16 rfl (by decide) (fun _ => ?_) (fun _ => ?_)
    · refine go_iload_n 1 79 dX12_worst_78 rfl rfl ?_
      exact go_iret rfl dX12_worst_79
    · refine go_aload_n 0 20 dX12_worst_19 rfl rfl ?_
      refine go_iconst 0 21 dX12_worst_20 rfl (by decide) ?_
      refine go_iload_n 3 22 dX12_worst_21 rfl rfl ?_
      refine go_cVI2 1 clX12 cwX12_301 (m_X12_doesStick w o0 h0 0 x3 M1) h0 25 dX12_worst_22 rfl ⟨Nat.le_of_ble_eq_true rfl, Nat.le_of_ble_eq_true rfl⟩ ⟨Nat.zero_le _, Nat.zero_le _⟩ (Nat.le_of_ble_eq_true rfl) (fun q4 M3 _ => ?_)
      refine go_if_eq 42 28 dX12_worst_25 rfl (by decide) (fun _ => ?_) (fun _ => ?_)
      · exact go_lv [0, 1, 2, 3] rfl (s_X12_worst_42 w (f_X12_worst_11 w n) (fun o0 h0 x1 x2 x3 M => ih o0 h0 x1 x2 x3 M) o0 h0 x1 x2 x3 M3)
      · refine go_aload_n 0 29 dX12_worst_28 rfl rfl ?_
        refine go_iconst 0 30 dX12_worst_29 rfl (by decide) ?_
        refine go_iload_n 3 31 dX12_worst_30 rfl rfl ?_
        refine go_cVI2 0 clX12 cwX12_294 (m_X12_overOf w o0 h0 0 x3 M3) h0 34 dX12_worst_31 rfl ⟨Nat.le_of_ble_eq_true rfl, Nat.le_of_ble_eq_true rfl⟩ ⟨Nat.zero_le _, Nat.zero_le _⟩ (Nat.le_of_ble_eq_true rfl) (fun q6 M5 _ => ?_)
        refine go_iload_n 2 35 dX12_worst_34 rfl rfl ?_
        refine go_icmp_le 42 38 dX12_worst_35 rfl (by decide) (fun _ => ?_) (fun _ => ?_)
        · exact go_lv [0, 1, 2, 3] rfl (s_X12_worst_42 w (f_X12_worst_11 w n) (fun o0 h0 x1 x2 x3 M => ih o0 h0 x1 x2 x3 M) o0 h0 x1 x2 x3 M5)
        · refine go_iconst 1 39 dX12_worst_38 rfl (by decide) ?_
          refine go_goto 43 dX12_worst_39 (by decide) ?_
          exact go_lv [0, 1, 2, 3] rfl (s_X12_worst_43 w (f_X12_worst_11 w n) (fun o0 h0 x1 x2 x3 M => ih o0 h0 x1 x2 x3 M) o0 h0 x1 x2 x3 1 M5)
def f_X12_worst (w : Nat) (o0 : Nat) (M : mM) : Option (Int32 × mM) := lt (wI M o0 0 0) fun M1 => (f_X12_worst_11 w w o0 (-1) 0 0 M1)
set_option maxHeartbeats 4000000 in
set_option maxRecDepth 100000 in
theorem s_X12_worst {l : Launch} {G : mG} {sk : List mS} (w : Nat) (o0 : Nat) (h0 : isK o0 22) (M : mM) : Go muX12_worst (rm 2) 0 0 l G sk (mFin G sk eI) (f_X12_worst w o0 M) 0 [(0, .ref (gB G + o0))] [] M := by
  unfold f_X12_worst
  refine go_aload_n 0 1 dX12_worst_0 rfl rfl ?_
  refine go_iconst 0 2 dX12_worst_1 rfl (by decide) ?_
  refine go_putI flX12_1 rfl rfl h0 5 dX12_worst_2 rfl ?_
  refine go_nmM (fun M1 => ?_)
  refine go_iconst (-1) 6 dX12_worst_5 rfl (by decide) ?_
  refine go_istore_n [(1, .int (-1)), (0, .ref (gB G + o0))] 7 dX12_worst_6 rfl rfl (by decide) rfl ?_
  refine go_iconst 0 8 dX12_worst_7 rfl (by decide) ?_
  refine go_istore_n [(2, .int 0), (1, .int (-1)), (0, .ref (gB G + o0))] 9 dX12_worst_8 rfl rfl (by decide) rfl ?_
  refine go_iconst 0 10 dX12_worst_9 rfl (by decide) ?_
  refine go_istore_n [(3, .int 0), (2, .int 0), (1, .int (-1)), (0, .ref (gB G + o0))] 11 dX12_worst_10 rfl rfl (by decide) rfl ?_
  exact go_lv [3, 2, 1, 0] rfl (s_X12_worst_11 w w o0 h0 (-1) 0 0 M1)
theorem m_X12_worst {l : Launch} {G : mG} {sk : List mS} (w : Nat) (o0 : Nat) (h0 : isK o0 22) (M : mM) : Mt l G sk yX12_worst muX12_worst 2 [.ref (gB G + o0)] M eI (f_X12_worst w o0 M) := Mt.of (by decide) rfl (Nat.le_of_ble_eq_true rfl) (s_X12_worst w o0 h0 M)
theorem dX12_triesNow_0 : decode cX12_triesNow 0 = .ok (.aload_n 0, 1) := by decide +kernel
theorem dX12_triesNow_1 : decode cX12_triesNow 1 = .ok (.iconst 0, 1) := by decide +kernel
theorem dX12_triesNow_2 : decode cX12_triesNow 2 = .ok (.sipush 1365, 3) := by decide +kernel
theorem dX12_triesNow_5 : decode cX12_triesNow 5 = .ok (.bipush 23, 2) := by decide +kernel
theorem dX12_triesNow_7 : decode cX12_triesNow 7 = .ok (.invokevirtual 288, 3) := by decide +kernel
theorem dX12_triesNow_10 : decode cX12_triesNow 10 = .ok (.return_, 1) := by decide +kernel
def f_X12_triesNow (w : Nat) (o0 : Nat) (M : mM) : Option mM := bV (f_X12_copies w o0 0 1365 23 M) fun M1 => some M1
set_option maxHeartbeats 4000000 in
set_option maxRecDepth 100000 in
theorem s_X12_triesNow {l : Launch} {G : mG} {sk : List mS} (w : Nat) (o0 : Nat) (h0 : isK o0 22) (M : mM) : Go muX12_triesNow (rm 1) 0 0 l G sk (mFin G sk eV) (f_X12_triesNow w o0 M) 0 [(0, .ref (gB G + o0))] [] M := by
  unfold f_X12_triesNow
  refine go_aload_n 0 1 dX12_triesNow_0 rfl rfl ?_
  refine go_iconst 0 2 dX12_triesNow_1 rfl (by decide) ?_
  refine go_sipush 1365 5 dX12_triesNow_2 rfl (by decide) ?_
  refine go_bipush 23 7 dX12_triesNow_5 rfl (by decide) ?_
  refine go_cVV3 0 clX12 cwX12_288 (m_X12_copies w o0 h0 0 1365 23 M) h0 10 dX12_triesNow_7 rfl ⟨Nat.le_of_ble_eq_true rfl, Nat.le_of_ble_eq_true rfl⟩ ⟨Nat.zero_le _, Nat.zero_le _⟩ (Nat.le_of_ble_eq_true rfl) (fun M1 _ => ?_)
  exact go_vret rfl dX12_triesNow_10
theorem m_X12_triesNow {l : Launch} {G : mG} {sk : List mS} (w : Nat) (o0 : Nat) (h0 : isK o0 22) (M : mM) : Mt l G sk yX12_triesNow muX12_triesNow 1 [.ref (gB G + o0)] M eV (f_X12_triesNow w o0 M) := Mt.of (by decide) rfl (Nat.le_of_ble_eq_true rfl) (s_X12_triesNow w o0 h0 M)
theorem dX12_later_0 : decode cX12_later 0 = .ok (.aload_n 0, 1) := by decide +kernel
theorem dX12_later_1 : decode cX12_later 1 = .ok (.iconst 0, 1) := by decide +kernel
theorem dX12_later_2 : decode cX12_later 2 = .ok (.putfield 1, 3) := by decide +kernel
theorem dX12_later_5 : decode cX12_later 5 = .ok (.aload_n 0, 1) := by decide +kernel
theorem dX12_later_6 : decode cX12_later 6 = .ok (.iload_n 1, 1) := by decide +kernel
theorem dX12_later_7 : decode cX12_later 7 = .ok (.invokevirtual 319, 3) := by decide +kernel
theorem dX12_later_10 : decode cX12_later 10 = .ok (.ifCond .eq 13, 3) := by decide +kernel
theorem dX12_later_13 : decode cX12_later 13 = .ok (.iload_n 2, 1) := by decide +kernel
theorem dX12_later_14 : decode cX12_later 14 = .ok (.iconst 0, 1) := by decide +kernel
theorem dX12_later_15 : decode cX12_later 15 = .ok (.bipush 60, 2) := by decide +kernel
theorem dX12_later_17 : decode cX12_later 17 = .ok (.invokestatic 204, 3) := by decide +kernel
theorem dX12_later_20 : decode cX12_later 20 = .ok (.ifCond .ne 5, 3) := by decide +kernel
theorem dX12_later_23 : decode cX12_later 23 = .ok (.iconst (-1), 1) := by decide +kernel
theorem dX12_later_24 : decode cX12_later 24 = .ok (.ireturn, 1) := by decide +kernel
theorem dX12_later_25 : decode cX12_later 25 = .ok (.aload_n 0, 1) := by decide +kernel
theorem dX12_later_26 : decode cX12_later 26 = .ok (.invokevirtual 372, 3) := by decide +kernel
theorem dX12_later_29 : decode cX12_later 29 = .ok (.iconst 0, 1) := by decide +kernel
theorem dX12_later_30 : decode cX12_later 30 = .ok (.istore_n 3, 1) := by decide +kernel
theorem dX12_later_31 : decode cX12_later 31 = .ok (.iload_n 3, 1) := by decide +kernel
theorem dX12_later_32 : decode cX12_later 32 = .ok (.iload_n 2, 1) := by decide +kernel
theorem dX12_later_33 : decode cX12_later 33 = .ok (.if_icmp .ge 16, 3) := by decide +kernel
theorem dX12_later_36 : decode cX12_later 36 = .ok (.aload_n 0, 1) := by decide +kernel
theorem dX12_later_37 : decode cX12_later 37 = .ok (.sipush 1365, 3) := by decide +kernel
theorem dX12_later_40 : decode cX12_later 40 = .ok (.invokevirtual 328, 3) := by decide +kernel
theorem dX12_later_43 : decode cX12_later 43 = .ok (.iinc 3 1, 3) := by decide +kernel
theorem dX12_later_46 : decode cX12_later 46 = .ok (.goto (-15), 3) := by decide +kernel
theorem dX12_later_49 : decode cX12_later 49 = .ok (.aload_n 0, 1) := by decide +kernel
theorem dX12_later_50 : decode cX12_later 50 = .ok (.getfield 113, 3) := by decide +kernel
theorem dX12_later_53 : decode cX12_later 53 = .ok (.sipush 1375, 3) := by decide +kernel
theorem dX12_later_56 : decode cX12_later 56 = .ok (.iload_n 1, 1) := by decide +kernel
theorem dX12_later_57 : decode cX12_later 57 = .ok (.iadd, 1) := by decide +kernel
theorem dX12_later_58 : decode cX12_later 58 = .ok (.iaload, 1) := by decide +kernel
theorem dX12_later_59 : decode cX12_later 59 = .ok (.ireturn, 1) := by decide +kernel
def f_X12_later_49 (w : Nat) (o0 : Nat) (x1 : Int32) (M : mM) : Option (Int32 × mM) := chk (1375 + x1) (sL (rF o0 24)) (some ((M.1 (rF o0 24) (1375 + x1).toNatClampNeg), M))
set_option maxHeartbeats 4000000 in
set_option maxRecDepth 100000 in
theorem s_X12_later_49 {l : Launch} {G : mG} {sk : List mS} (w : Nat) (o0 : Nat) (h0 : isK o0 22) (x1 : Int32) (M : mM) : Go muX12_later (rm 5) 0 0 l G sk (mFin G sk eI) (f_X12_later_49 w o0 x1 M) 49 [(0, .ref (gB G + o0)), (1, .int x1)] [] M := by
  unfold f_X12_later_49
  refine go_aload_n 0 50 dX12_later_49 rfl rfl ?_
  refine go_getR flX12_113 h0 53 dX12_later_50 rfl ?_
  refine go_sipush 1375 56 dX12_later_53 rfl (by decide) ?_
  refine go_iload_n 1 57 dX12_later_56 rfl rfl ?_
  refine go_iadd 58 dX12_later_57 rfl ?_
  refine go_iald (rk12_24 h0) 59 dX12_later_58 rfl ?_
  exact go_iret rfl dX12_later_59
def f_X12_later_31 (w : Nat) : Nat → Nat → Int32 → Int32 → Int32 → mM → Option (Int32 × mM)
  | 0, _, _, _, _, _ => none
  | n + 1, o0, x1, x2, x3, M => (if x2 ≤ x3 then (f_X12_later_49 w o0 x1 M) else bV (f_X12_passes_ w o0 1365 M) fun M1 => (f_X12_later_31 w n o0 x1 x2 (x3 + 1) M1))
set_option maxHeartbeats 4000000 in
set_option maxRecDepth 100000 in
theorem s_X12_later_31 {l : Launch} {G : mG} {sk : List mS} (w : Nat) : ∀ (n : Nat) (o0 : Nat) (h0 : isK o0 22) (x1 : Int32) (x2 : Int32) (x3 : Int32) (M : mM), Go muX12_later (rm 5) 0 0 l G sk (mFin G sk eI) (f_X12_later_31 w n o0 x1 x2 x3 M) 31 [(0, .ref (gB G + o0)), (1, .int x1), (2, .int x2), (3, .int x3)] [] M := by
  intro n
  induction n with
  | zero =>
    intros
    exact go_none
  | succ n ih =>
    intro o0 h0 x1 x2 x3 M
    rw [f_X12_later_31]
    refine go_iload_n 3 32 dX12_later_31 rfl rfl ?_
    refine go_iload_n 2 33 dX12_later_32 rfl rfl ?_
    refine go_icmp_ge 49 36 dX12_later_33 rfl (by decide) (fun _ => ?_) (fun _ => ?_)
    · exact go_lv [0, 1] rfl (s_X12_later_49 w o0 h0 x1 M)
    · refine go_aload_n 0 37 dX12_later_36 rfl rfl ?_
      refine go_sipush 1365 40 dX12_later_37 rfl (by decide) ?_
      refine go_cVV1 4 clX12 cwX12_328 (m_X12_passes_ w o0 h0 1365 M) h0 43 dX12_later_40 rfl ⟨Nat.le_of_ble_eq_true rfl, Nat.le_of_ble_eq_true rfl⟩ ⟨Nat.zero_le _, Nat.zero_le _⟩ (Nat.le_of_ble_eq_true rfl) (fun M1 _ => ?_)
      refine go_iinc (x3 + 1) 3 [(3, .int (x3 + 1)), (0, .ref (gB G + o0)), (1, .int x1), (2, .int x2)] 46 dX12_later_43 rfl rfl rfl (by decide) rfl ?_
      refine go_goto 31 dX12_later_46 (by decide) ?_
      exact go_lv [1, 2, 3, 0] rfl (ih o0 h0 x1 x2 (x3 + 1) M1)
def f_X12_later (w : Nat) (o0 : Nat) (x1 : Int32) (x2 : Int32) (M : mM) : Option (Int32 × mM) := lt (wI M o0 0 0) fun M1 => bI (f_X12_isDoor w o0 x1 M1) fun q3 M2 => (if q3 = 0 then some ((-1), M2) else bI (f_X12_within w x2 0 60 M2) fun q5 M4 => (if q5 = 0 then some ((-1), M4) else bV (f_X12_triesNow w o0 M4) fun M6 => (f_X12_later_31 w w o0 x1 x2 0 M6)))
set_option maxHeartbeats 4000000 in
set_option maxRecDepth 100000 in
theorem s_X12_later {l : Launch} {G : mG} {sk : List mS} (w : Nat) (o0 : Nat) (h0 : isK o0 22) (x1 : Int32) (x2 : Int32) (M : mM) : Go muX12_later (rm 5) 0 0 l G sk (mFin G sk eI) (f_X12_later w o0 x1 x2 M) 0 [(0, .ref (gB G + o0)), (1, .int x1), (2, .int x2)] [] M := by
  unfold f_X12_later
  refine go_aload_n 0 1 dX12_later_0 rfl rfl ?_
  refine go_iconst 0 2 dX12_later_1 rfl (by decide) ?_
  refine go_putI flX12_1 rfl rfl h0 5 dX12_later_2 rfl ?_
  refine go_nmM (fun M1 => ?_)
  refine go_aload_n 0 6 dX12_later_5 rfl rfl ?_
  refine go_iload_n 1 7 dX12_later_6 rfl rfl ?_
  refine go_cVI1 1 clX12 cwX12_319 (m_X12_isDoor w o0 h0 x1 M1) h0 10 dX12_later_7 rfl ⟨Nat.le_of_ble_eq_true rfl, Nat.le_of_ble_eq_true rfl⟩ ⟨Nat.zero_le _, Nat.zero_le _⟩ (Nat.le_of_ble_eq_true rfl) (fun q3 M2 _ => ?_)
  refine go_if_eq 23 13 dX12_later_10 rfl (by decide) (fun _ => ?_) (fun _ => ?_)
  · refine go_iconst (-1) 24 dX12_later_23 rfl (by decide) ?_
    exact go_iret rfl dX12_later_24
  · refine go_iload_n 2 14 dX12_later_13 rfl rfl ?_
    refine go_iconst 0 15 dX12_later_14 rfl (by decide) ?_
    refine go_bipush 60 17 dX12_later_15 rfl (by decide) ?_
    refine go_cSI3 0 cwX12_204 (m_X12_within w x2 0 60 M2) 20 dX12_later_17 rfl ⟨Nat.le_of_ble_eq_true rfl, Nat.le_of_ble_eq_true rfl⟩ ⟨Nat.zero_le _, Nat.zero_le _⟩ (Nat.le_of_ble_eq_true rfl) (fun q5 M4 _ => ?_)
    refine go_if_ne 25 23 dX12_later_20 rfl (by decide) (fun _ => ?_) (fun _ => ?_)
    · refine go_aload_n 0 26 dX12_later_25 rfl rfl ?_
      refine go_cVV0 1 clX12 cwX12_372 (m_X12_triesNow w o0 h0 M4) h0 29 dX12_later_26 rfl ⟨Nat.le_of_ble_eq_true rfl, Nat.le_of_ble_eq_true rfl⟩ ⟨Nat.zero_le _, Nat.zero_le _⟩ (Nat.le_of_ble_eq_true rfl) (fun M6 _ => ?_)
      refine go_iconst 0 30 dX12_later_29 rfl (by decide) ?_
      refine go_istore_n [(3, .int 0), (0, .ref (gB G + o0)), (1, .int x1), (2, .int x2)] 31 dX12_later_30 rfl rfl (by decide) rfl ?_
      exact go_lv [1, 2, 3, 0] rfl (s_X12_later_31 w w o0 h0 x1 x2 0 M6)
    · refine go_iconst (-1) 24 dX12_later_23 rfl (by decide) ?_
      exact go_iret rfl dX12_later_24
theorem m_X12_later {l : Launch} {G : mG} {sk : List mS} (w : Nat) (o0 : Nat) (h0 : isK o0 22) (x1 : Int32) (x2 : Int32) (M : mM) : Mt l G sk yX12_later muX12_later 5 [.ref (gB G + o0), .int x1, .int x2] M eI (f_X12_later w o0 x1 x2 M) := Mt.of (by decide) rfl (Nat.le_of_ble_eq_true rfl) (s_X12_later w o0 h0 x1 x2 M)
theorem dX12_behindHow_0 : decode cX12_behindHow 0 = .ok (.aload_n 0, 1) := by decide +kernel
theorem dX12_behindHow_1 : decode cX12_behindHow 1 = .ok (.invokevirtual 372, 3) := by decide +kernel
theorem dX12_behindHow_4 : decode cX12_behindHow 4 = .ok (.iconst 0, 1) := by decide +kernel
theorem dX12_behindHow_5 : decode cX12_behindHow 5 = .ok (.istore_n 3, 1) := by decide +kernel
theorem dX12_behindHow_6 : decode cX12_behindHow 6 = .ok (.iload_n 3, 1) := by decide +kernel
theorem dX12_behindHow_7 : decode cX12_behindHow 7 = .ok (.bipush 60, 2) := by decide +kernel
theorem dX12_behindHow_9 : decode cX12_behindHow 9 = .ok (.if_icmp .gt 47, 3) := by decide +kernel
theorem dX12_behindHow_12 : decode cX12_behindHow 12 = .ok (.aload_n 0, 1) := by decide +kernel
theorem dX12_behindHow_13 : decode cX12_behindHow 13 = .ok (.sipush 1365, 3) := by decide +kernel
theorem dX12_behindHow_16 : decode cX12_behindHow 16 = .ok (.invokevirtual 330, 3) := by decide +kernel
theorem dX12_behindHow_19 : decode cX12_behindHow 19 = .ok (.istore 4, 2) := by decide +kernel
theorem dX12_behindHow_21 : decode cX12_behindHow 21 = .ok (.iload_n 2, 1) := by decide +kernel
theorem dX12_behindHow_22 : decode cX12_behindHow 22 = .ok (.ifCond .eq 12, 3) := by decide +kernel
theorem dX12_behindHow_25 : decode cX12_behindHow 25 = .ok (.iload 4, 2) := by decide +kernel
theorem dX12_behindHow_27 : decode cX12_behindHow 27 = .ok (.iconst (-1), 1) := by decide +kernel
theorem dX12_behindHow_28 : decode cX12_behindHow 28 = .ok (.ixor, 1) := by decide +kernel
theorem dX12_behindHow_29 : decode cX12_behindHow 29 = .ok (.iload_n 1, 1) := by decide +kernel
theorem dX12_behindHow_30 : decode cX12_behindHow 30 = .ok (.iand, 1) := by decide +kernel
theorem dX12_behindHow_31 : decode cX12_behindHow 31 = .ok (.goto 7, 3) := by decide +kernel
theorem dX12_behindHow_34 : decode cX12_behindHow 34 = .ok (.iload 4, 2) := by decide +kernel
theorem dX12_behindHow_36 : decode cX12_behindHow 36 = .ok (.iload_n 1, 1) := by decide +kernel
theorem dX12_behindHow_37 : decode cX12_behindHow 37 = .ok (.iand, 1) := by decide +kernel
theorem dX12_behindHow_38 : decode cX12_behindHow 38 = .ok (.ifCond .ne 5, 3) := by decide +kernel
theorem dX12_behindHow_41 : decode cX12_behindHow 41 = .ok (.iload_n 3, 1) := by decide +kernel
theorem dX12_behindHow_42 : decode cX12_behindHow 42 = .ok (.ireturn, 1) := by decide +kernel
theorem dX12_behindHow_43 : decode cX12_behindHow 43 = .ok (.aload_n 0, 1) := by decide +kernel
theorem dX12_behindHow_44 : decode cX12_behindHow 44 = .ok (.sipush 1365, 3) := by decide +kernel
theorem dX12_behindHow_47 : decode cX12_behindHow 47 = .ok (.invokevirtual 328, 3) := by decide +kernel
theorem dX12_behindHow_50 : decode cX12_behindHow 50 = .ok (.iinc 3 1, 3) := by decide +kernel
theorem dX12_behindHow_53 : decode cX12_behindHow 53 = .ok (.goto (-47), 3) := by decide +kernel
theorem dX12_behindHow_56 : decode cX12_behindHow 56 = .ok (.iconst (-1), 1) := by decide +kernel
theorem dX12_behindHow_57 : decode cX12_behindHow 57 = .ok (.ireturn, 1) := by decide +kernel
def f_X12_behindHow_38 (w : Nat) (k6 : Nat → Int32 → Int32 → Int32 → mM → Option (Int32 × mM)) (o0 : Nat) (x1 : Int32) (x2 : Int32) (x3 : Int32) (xs0 : Int32) (M : mM) : Option (Int32 × mM) := (if xs0 = 0 then some (x3, M) else bV (f_X12_passes_ w o0 1365 M) fun M1 => (k6 o0 x1 x2 (x3 + 1) M1))
set_option maxHeartbeats 4000000 in
set_option maxRecDepth 100000 in
theorem s_X12_behindHow_38 {l : Launch} {G : mG} {sk : List mS} (w : Nat) (k6 : Nat → Int32 → Int32 → Int32 → mM → Option (Int32 × mM)) (hk6 : ∀ (o0 : Nat) (h0 : isK o0 22) (x1 : Int32) (x2 : Int32) (x3 : Int32) (M : mM), Go muX12_behindHow (rm 5) 0 0 l G sk (mFin G sk eI) (k6 o0 x1 x2 x3 M) 6 [(0, .ref (gB G + o0)), (1, .int x1), (2, .int x2), (3, .int x3)] [] M) (o0 : Nat) (h0 : isK o0 22) (x1 : Int32) (x2 : Int32) (x3 : Int32) (xs0 : Int32) (M : mM) : Go muX12_behindHow (rm 5) 0 0 l G sk (mFin G sk eI) (f_X12_behindHow_38 w k6 o0 x1 x2 x3 xs0 M) 38 [(0, .ref (gB G + o0)), (1, .int x1), (2, .int x2), (3, .int x3)] [.int xs0] M := by
  unfold f_X12_behindHow_38
  refine go_if_ne 43 41 dX12_behindHow_38 rfl (by decide) (fun _ => ?_) (fun _ => ?_)
  · refine go_aload_n 0 44 dX12_behindHow_43 rfl rfl ?_
    refine go_sipush 1365 47 dX12_behindHow_44 rfl (by decide) ?_
    refine go_cVV1 4 clX12 cwX12_328 (m_X12_passes_ w o0 h0 1365 M) h0 50 dX12_behindHow_47 rfl ⟨Nat.le_of_ble_eq_true rfl, Nat.le_of_ble_eq_true rfl⟩ ⟨Nat.zero_le _, Nat.zero_le _⟩ (Nat.le_of_ble_eq_true rfl) (fun M1 _ => ?_)
    refine go_iinc (x3 + 1) 3 [(3, .int (x3 + 1)), (0, .ref (gB G + o0)), (1, .int x1), (2, .int x2)] 53 dX12_behindHow_50 rfl rfl rfl (by decide) rfl ?_
    refine go_goto 6 dX12_behindHow_53 (by decide) ?_
    exact go_lv [1, 2, 3, 0] rfl (hk6 o0 h0 x1 x2 (x3 + 1) M1)
  · refine go_iload_n 3 42 dX12_behindHow_41 rfl rfl ?_
    exact go_iret rfl dX12_behindHow_42
def f_X12_behindHow_6 (w : Nat) : Nat → Nat → Int32 → Int32 → Int32 → mM → Option (Int32 × mM)
  | 0, _, _, _, _, _ => none
  | n + 1, o0, x1, x2, x3, M => (if 60 < x3 then some ((-1), M) else bI (f_X12_sticking w o0 1365 M) fun q2 M1 => (if x2 = 0 then (f_X12_behindHow_38 w (f_X12_behindHow_6 w n) o0 x1 x2 x3 (q2 &&& x1) M1) else (f_X12_behindHow_38 w (f_X12_behindHow_6 w n) o0 x1 x2 x3 ((q2 ^^^ (-1)) &&& x1) M1)))
set_option maxHeartbeats 4000000 in
set_option maxRecDepth 100000 in
theorem s_X12_behindHow_6 {l : Launch} {G : mG} {sk : List mS} (w : Nat) : ∀ (n : Nat) (o0 : Nat) (h0 : isK o0 22) (x1 : Int32) (x2 : Int32) (x3 : Int32) (M : mM), Go muX12_behindHow (rm 5) 0 0 l G sk (mFin G sk eI) (f_X12_behindHow_6 w n o0 x1 x2 x3 M) 6 [(0, .ref (gB G + o0)), (1, .int x1), (2, .int x2), (3, .int x3)] [] M := by
  intro n
  induction n with
  | zero =>
    intros
    exact go_none
  | succ n ih =>
    intro o0 h0 x1 x2 x3 M
    rw [f_X12_behindHow_6]
    refine go_iload_n 3 7 dX12_behindHow_6 rfl rfl ?_
    refine go_bipush 60 9 dX12_behindHow_7 rfl (by decide) ?_
    refine go_icmp_gt 56 12 dX12_behindHow_9 rfl (by decide) (fun _ => ?_) (fun _ => ?_)
    · refine go_iconst (-1) 57 dX12_behindHow_56 rfl (by decide) ?_
      exact go_iret rfl dX12_behindHow_57
    · refine go_aload_n 0 13 dX12_behindHow_12 rfl rfl ?_
      refine go_sipush 1365 16 dX12_behindHow_13 rfl (by decide) ?_
      refine go_cVI1 2 clX12 cwX12_330 (m_X12_sticking w o0 h0 1365 M) h0 19 dX12_behindHow_16 rfl ⟨Nat.le_of_ble_eq_true rfl, Nat.le_of_ble_eq_true rfl⟩ ⟨Nat.zero_le _, Nat.zero_le _⟩ (Nat.le_of_ble_eq_true rfl) (fun q2 M1 _ => ?_)
      refine go_istore [(4, .int q2), (0, .ref (gB G + o0)), (1, .int x1), (2, .int x2), (3, .int x3)] 21 dX12_behindHow_19 rfl (by decide) rfl ?_
      refine go_iload_n 3 22 dX12_behindHow_21 rfl rfl ?_
      refine go_if_eq 34 25 dX12_behindHow_22 rfl (by decide) (fun _ => ?_) (fun _ => ?_)
      · refine go_iload 0 36 dX12_behindHow_34 rfl rfl ?_
        refine go_iload_n 2 37 dX12_behindHow_36 rfl rfl ?_
        refine go_iand 38 dX12_behindHow_37 rfl ?_
        exact go_lv [1, 2, 3, 4] rfl (s_X12_behindHow_38 w (f_X12_behindHow_6 w n) (fun o0 h0 x1 x2 x3 M => ih o0 h0 x1 x2 x3 M) o0 h0 x1 x2 x3 (q2 &&& x1) M1)
      · refine go_iload 0 27 dX12_behindHow_25 rfl rfl ?_
        refine go_iconst (-1) 28 dX12_behindHow_27 rfl (by decide) ?_
        refine go_ixor 29 dX12_behindHow_28 rfl ?_
        refine go_iload_n 2 30 dX12_behindHow_29 rfl rfl ?_
        refine go_iand 31 dX12_behindHow_30 rfl ?_
        refine go_goto 38 dX12_behindHow_31 (by decide) ?_
        exact go_lv [1, 2, 3, 4] rfl (s_X12_behindHow_38 w (f_X12_behindHow_6 w n) (fun o0 h0 x1 x2 x3 M => ih o0 h0 x1 x2 x3 M) o0 h0 x1 x2 x3 ((q2 ^^^ (-1)) &&& x1) M1)
def f_X12_behindHow (w : Nat) (o0 : Nat) (x1 : Int32) (x2 : Int32) (M : mM) : Option (Int32 × mM) := bV (f_X12_triesNow w o0 M) fun M1 => (f_X12_behindHow_6 w w o0 x1 x2 0 M1)
set_option maxHeartbeats 4000000 in
set_option maxRecDepth 100000 in
theorem s_X12_behindHow {l : Launch} {G : mG} {sk : List mS} (w : Nat) (o0 : Nat) (h0 : isK o0 22) (x1 : Int32) (x2 : Int32) (M : mM) : Go muX12_behindHow (rm 5) 0 0 l G sk (mFin G sk eI) (f_X12_behindHow w o0 x1 x2 M) 0 [(0, .ref (gB G + o0)), (1, .int x1), (2, .int x2)] [] M := by
  unfold f_X12_behindHow
  refine go_aload_n 0 1 dX12_behindHow_0 rfl rfl ?_
  refine go_cVV0 1 clX12 cwX12_372 (m_X12_triesNow w o0 h0 M) h0 4 dX12_behindHow_1 rfl ⟨Nat.le_of_ble_eq_true rfl, Nat.le_of_ble_eq_true rfl⟩ ⟨Nat.zero_le _, Nat.zero_le _⟩ (Nat.le_of_ble_eq_true rfl) (fun M1 _ => ?_)
  refine go_iconst 0 5 dX12_behindHow_4 rfl (by decide) ?_
  refine go_istore_n [(3, .int 0), (0, .ref (gB G + o0)), (1, .int x1), (2, .int x2)] 6 dX12_behindHow_5 rfl rfl (by decide) rfl ?_
  exact go_lv [1, 2, 3, 0] rfl (s_X12_behindHow_6 w w o0 h0 x1 x2 0 M1)
theorem m_X12_behindHow {l : Launch} {G : mG} {sk : List mS} (w : Nat) (o0 : Nat) (h0 : isK o0 22) (x1 : Int32) (x2 : Int32) (M : mM) : Mt l G sk yX12_behindHow muX12_behindHow 5 [.ref (gB G + o0), .int x1, .int x2] M eI (f_X12_behindHow w o0 x1 x2 M) := Mt.of (by decide) rfl (Nat.le_of_ble_eq_true rfl) (s_X12_behindHow w o0 h0 x1 x2 M)
theorem dX12_closes_0 : decode cX12_closes 0 = .ok (.aload_n 0, 1) := by decide +kernel
theorem dX12_closes_1 : decode cX12_closes 1 = .ok (.iconst 0, 1) := by decide +kernel
theorem dX12_closes_2 : decode cX12_closes 2 = .ok (.putfield 1, 3) := by decide +kernel
theorem dX12_closes_5 : decode cX12_closes 5 = .ok (.aload_n 0, 1) := by decide +kernel
theorem dX12_closes_6 : decode cX12_closes 6 = .ok (.iload_n 1, 1) := by decide +kernel
theorem dX12_closes_7 : decode cX12_closes 7 = .ok (.invokevirtual 319, 3) := by decide +kernel
theorem dX12_closes_10 : decode cX12_closes 10 = .ok (.ifCond .eq 14, 3) := by decide +kernel
theorem dX12_closes_13 : decode cX12_closes 13 = .ok (.aload_n 0, 1) := by decide +kernel
theorem dX12_closes_14 : decode cX12_closes 14 = .ok (.iconst 1, 1) := by decide +kernel
theorem dX12_closes_15 : decode cX12_closes 15 = .ok (.iload_n 1, 1) := by decide +kernel
theorem dX12_closes_16 : decode cX12_closes 16 = .ok (.ishl, 1) := by decide +kernel
theorem dX12_closes_17 : decode cX12_closes 17 = .ok (.iconst 1, 1) := by decide +kernel
theorem dX12_closes_18 : decode cX12_closes 18 = .ok (.invokevirtual 375, 3) := by decide +kernel
theorem dX12_closes_21 : decode cX12_closes 21 = .ok (.goto 4, 3) := by decide +kernel
theorem dX12_closes_24 : decode cX12_closes 24 = .ok (.iconst (-1), 1) := by decide +kernel
theorem dX12_closes_25 : decode cX12_closes 25 = .ok (.ireturn, 1) := by decide +kernel
def f_X12_closes (w : Nat) (o0 : Nat) (x1 : Int32) (M : mM) : Option (Int32 × mM) := lt (wI M o0 0 0) fun M1 => bI (f_X12_isDoor w o0 x1 M1) fun q3 M2 => (if q3 = 0 then some ((-1), M2) else bI (f_X12_behindHow w o0 ((1 : Int32) <<< (x1 &&& 31)) 1 M2) fun q5 M4 => some (q5, M4))
set_option maxHeartbeats 4000000 in
set_option maxRecDepth 100000 in
theorem s_X12_closes {l : Launch} {G : mG} {sk : List mS} (w : Nat) (o0 : Nat) (h0 : isK o0 22) (x1 : Int32) (M : mM) : Go muX12_closes (rm 6) 0 0 l G sk (mFin G sk eI) (f_X12_closes w o0 x1 M) 0 [(0, .ref (gB G + o0)), (1, .int x1)] [] M := by
  unfold f_X12_closes
  refine go_aload_n 0 1 dX12_closes_0 rfl rfl ?_
  refine go_iconst 0 2 dX12_closes_1 rfl (by decide) ?_
  refine go_putI flX12_1 rfl rfl h0 5 dX12_closes_2 rfl ?_
  refine go_nmM (fun M1 => ?_)
  refine go_aload_n 0 6 dX12_closes_5 rfl rfl ?_
  refine go_iload_n 1 7 dX12_closes_6 rfl rfl ?_
  refine go_cVI1 1 clX12 cwX12_319 (m_X12_isDoor w o0 h0 x1 M1) h0 10 dX12_closes_7 rfl ⟨Nat.le_of_ble_eq_true rfl, Nat.le_of_ble_eq_true rfl⟩ ⟨Nat.zero_le _, Nat.zero_le _⟩ (Nat.le_of_ble_eq_true rfl) (fun q3 M2 _ => ?_)
  refine go_if_eq 24 13 dX12_closes_10 rfl (by decide) (fun _ => ?_) (fun _ => ?_)
  · refine go_iconst (-1) 25 dX12_closes_24 rfl (by decide) ?_
    exact go_iret rfl dX12_closes_25
  · refine go_aload_n 0 14 dX12_closes_13 rfl rfl ?_
    refine go_iconst 1 15 dX12_closes_14 rfl (by decide) ?_
    refine go_iload_n 1 16 dX12_closes_15 rfl rfl ?_
    refine go_ishl 17 dX12_closes_16 rfl ?_
    refine go_iconst 1 18 dX12_closes_17 rfl (by decide) ?_
    refine go_cVI2 5 clX12 cwX12_375 (m_X12_behindHow w o0 h0 ((1 : Int32) <<< (x1 &&& 31)) 1 M2) h0 21 dX12_closes_18 rfl ⟨Nat.le_of_ble_eq_true rfl, Nat.le_of_ble_eq_true rfl⟩ ⟨Nat.zero_le _, Nat.zero_le _⟩ (Nat.le_of_ble_eq_true rfl) (fun q5 M4 _ => ?_)
    refine go_goto 25 dX12_closes_21 (by decide) ?_
    exact go_iret rfl dX12_closes_25
theorem m_X12_closes {l : Launch} {G : mG} {sk : List mS} (w : Nat) (o0 : Nat) (h0 : isK o0 22) (x1 : Int32) (M : mM) : Mt l G sk yX12_closes muX12_closes 6 [.ref (gB G + o0), .int x1] M eI (f_X12_closes w o0 x1 M) := Mt.of (by decide) rfl (Nat.le_of_ble_eq_true rfl) (s_X12_closes w o0 h0 x1 M)
theorem dX12_gives_0 : decode cX12_gives 0 = .ok (.aload_n 0, 1) := by decide +kernel
theorem dX12_gives_1 : decode cX12_gives 1 = .ok (.iconst 0, 1) := by decide +kernel
theorem dX12_gives_2 : decode cX12_gives 2 = .ok (.putfield 1, 3) := by decide +kernel
theorem dX12_gives_5 : decode cX12_gives 5 = .ok (.aload_n 0, 1) := by decide +kernel
theorem dX12_gives_6 : decode cX12_gives 6 = .ok (.iload_n 1, 1) := by decide +kernel
theorem dX12_gives_7 : decode cX12_gives 7 = .ok (.invokevirtual 319, 3) := by decide +kernel
theorem dX12_gives_10 : decode cX12_gives 10 = .ok (.ifCond .eq 14, 3) := by decide +kernel
theorem dX12_gives_13 : decode cX12_gives 13 = .ok (.aload_n 0, 1) := by decide +kernel
theorem dX12_gives_14 : decode cX12_gives 14 = .ok (.iconst 1, 1) := by decide +kernel
theorem dX12_gives_15 : decode cX12_gives 15 = .ok (.iload_n 1, 1) := by decide +kernel
theorem dX12_gives_16 : decode cX12_gives 16 = .ok (.ishl, 1) := by decide +kernel
theorem dX12_gives_17 : decode cX12_gives 17 = .ok (.iconst 0, 1) := by decide +kernel
theorem dX12_gives_18 : decode cX12_gives 18 = .ok (.invokevirtual 375, 3) := by decide +kernel
theorem dX12_gives_21 : decode cX12_gives 21 = .ok (.goto 4, 3) := by decide +kernel
theorem dX12_gives_24 : decode cX12_gives 24 = .ok (.iconst (-1), 1) := by decide +kernel
theorem dX12_gives_25 : decode cX12_gives 25 = .ok (.ireturn, 1) := by decide +kernel
def f_X12_gives (w : Nat) (o0 : Nat) (x1 : Int32) (M : mM) : Option (Int32 × mM) := lt (wI M o0 0 0) fun M1 => bI (f_X12_isDoor w o0 x1 M1) fun q3 M2 => (if q3 = 0 then some ((-1), M2) else bI (f_X12_behindHow w o0 ((1 : Int32) <<< (x1 &&& 31)) 0 M2) fun q5 M4 => some (q5, M4))
set_option maxHeartbeats 4000000 in
set_option maxRecDepth 100000 in
theorem s_X12_gives {l : Launch} {G : mG} {sk : List mS} (w : Nat) (o0 : Nat) (h0 : isK o0 22) (x1 : Int32) (M : mM) : Go muX12_gives (rm 6) 0 0 l G sk (mFin G sk eI) (f_X12_gives w o0 x1 M) 0 [(0, .ref (gB G + o0)), (1, .int x1)] [] M := by
  unfold f_X12_gives
  refine go_aload_n 0 1 dX12_gives_0 rfl rfl ?_
  refine go_iconst 0 2 dX12_gives_1 rfl (by decide) ?_
  refine go_putI flX12_1 rfl rfl h0 5 dX12_gives_2 rfl ?_
  refine go_nmM (fun M1 => ?_)
  refine go_aload_n 0 6 dX12_gives_5 rfl rfl ?_
  refine go_iload_n 1 7 dX12_gives_6 rfl rfl ?_
  refine go_cVI1 1 clX12 cwX12_319 (m_X12_isDoor w o0 h0 x1 M1) h0 10 dX12_gives_7 rfl ⟨Nat.le_of_ble_eq_true rfl, Nat.le_of_ble_eq_true rfl⟩ ⟨Nat.zero_le _, Nat.zero_le _⟩ (Nat.le_of_ble_eq_true rfl) (fun q3 M2 _ => ?_)
  refine go_if_eq 24 13 dX12_gives_10 rfl (by decide) (fun _ => ?_) (fun _ => ?_)
  · refine go_iconst (-1) 25 dX12_gives_24 rfl (by decide) ?_
    exact go_iret rfl dX12_gives_25
  · refine go_aload_n 0 14 dX12_gives_13 rfl rfl ?_
    refine go_iconst 1 15 dX12_gives_14 rfl (by decide) ?_
    refine go_iload_n 1 16 dX12_gives_15 rfl rfl ?_
    refine go_ishl 17 dX12_gives_16 rfl ?_
    refine go_iconst 0 18 dX12_gives_17 rfl (by decide) ?_
    refine go_cVI2 5 clX12 cwX12_375 (m_X12_behindHow w o0 h0 ((1 : Int32) <<< (x1 &&& 31)) 0 M2) h0 21 dX12_gives_18 rfl ⟨Nat.le_of_ble_eq_true rfl, Nat.le_of_ble_eq_true rfl⟩ ⟨Nat.zero_le _, Nat.zero_le _⟩ (Nat.le_of_ble_eq_true rfl) (fun q5 M4 _ => ?_)
    refine go_goto 25 dX12_gives_21 (by decide) ?_
    exact go_iret rfl dX12_gives_25
theorem m_X12_gives {l : Launch} {G : mG} {sk : List mS} (w : Nat) (o0 : Nat) (h0 : isK o0 22) (x1 : Int32) (M : mM) : Mt l G sk yX12_gives muX12_gives 6 [.ref (gB G + o0), .int x1] M eI (f_X12_gives w o0 x1 M) := Mt.of (by decide) rfl (Nat.le_of_ble_eq_true rfl) (s_X12_gives w o0 h0 x1 M)
theorem dX12_calm_0 : decode cX12_calm 0 = .ok (.aload_n 0, 1) := by decide +kernel
theorem dX12_calm_1 : decode cX12_calm 1 = .ok (.iconst 0, 1) := by decide +kernel
theorem dX12_calm_2 : decode cX12_calm 2 = .ok (.putfield 1, 3) := by decide +kernel
theorem dX12_calm_5 : decode cX12_calm 5 = .ok (.aload_n 0, 1) := by decide +kernel
theorem dX12_calm_6 : decode cX12_calm 6 = .ok (.sipush 255, 3) := by decide +kernel
theorem dX12_calm_9 : decode cX12_calm 9 = .ok (.iconst 0, 1) := by decide +kernel
theorem dX12_calm_10 : decode cX12_calm 10 = .ok (.invokevirtual 375, 3) := by decide +kernel
theorem dX12_calm_13 : decode cX12_calm 13 = .ok (.ireturn, 1) := by decide +kernel
def f_X12_calm (w : Nat) (o0 : Nat) (M : mM) : Option (Int32 × mM) := lt (wI M o0 0 0) fun M1 => bI (f_X12_behindHow w o0 255 0 M1) fun q3 M2 => some (q3, M2)
set_option maxHeartbeats 4000000 in
set_option maxRecDepth 100000 in
theorem s_X12_calm {l : Launch} {G : mG} {sk : List mS} (w : Nat) (o0 : Nat) (h0 : isK o0 22) (M : mM) : Go muX12_calm (rm 6) 0 0 l G sk (mFin G sk eI) (f_X12_calm w o0 M) 0 [(0, .ref (gB G + o0))] [] M := by
  unfold f_X12_calm
  refine go_aload_n 0 1 dX12_calm_0 rfl rfl ?_
  refine go_iconst 0 2 dX12_calm_1 rfl (by decide) ?_
  refine go_putI flX12_1 rfl rfl h0 5 dX12_calm_2 rfl ?_
  refine go_nmM (fun M1 => ?_)
  refine go_aload_n 0 6 dX12_calm_5 rfl rfl ?_
  refine go_sipush 255 9 dX12_calm_6 rfl (by decide) ?_
  refine go_iconst 0 10 dX12_calm_9 rfl (by decide) ?_
  refine go_cVI2 5 clX12 cwX12_375 (m_X12_behindHow w o0 h0 255 0 M1) h0 13 dX12_calm_10 rfl ⟨Nat.le_of_ble_eq_true rfl, Nat.le_of_ble_eq_true rfl⟩ ⟨Nat.zero_le _, Nat.zero_le _⟩ (Nat.le_of_ble_eq_true rfl) (fun q3 M2 _ => ?_)
  exact go_iret rfl dX12_calm_13
theorem m_X12_calm {l : Launch} {G : mG} {sk : List mS} (w : Nat) (o0 : Nat) (h0 : isK o0 22) (M : mM) : Mt l G sk yX12_calm muX12_calm 6 [.ref (gB G + o0)] M eI (f_X12_calm w o0 M) := Mt.of (by decide) rfl (Nat.le_of_ble_eq_true rfl) (s_X12_calm w o0 h0 M)
theorem dX12_hard_0 : decode cX12_hard 0 = .ok (.aload_n 0, 1) := by decide +kernel
theorem dX12_hard_1 : decode cX12_hard 1 = .ok (.iconst 0, 1) := by decide +kernel
theorem dX12_hard_2 : decode cX12_hard 2 = .ok (.putfield 1, 3) := by decide +kernel
theorem dX12_hard_5 : decode cX12_hard 5 = .ok (.aload_n 0, 1) := by decide +kernel
theorem dX12_hard_6 : decode cX12_hard 6 = .ok (.invokevirtual 372, 3) := by decide +kernel
theorem dX12_hard_9 : decode cX12_hard 9 = .ok (.iconst 0, 1) := by decide +kernel
theorem dX12_hard_10 : decode cX12_hard 10 = .ok (.istore_n 1, 1) := by decide +kernel
theorem dX12_hard_11 : decode cX12_hard 11 = .ok (.iconst (-1), 1) := by decide +kernel
theorem dX12_hard_12 : decode cX12_hard 12 = .ok (.istore_n 2, 1) := by decide +kernel
theorem dX12_hard_13 : decode cX12_hard 13 = .ok (.iconst 0, 1) := by decide +kernel
theorem dX12_hard_14 : decode cX12_hard 14 = .ok (.istore_n 3, 1) := by decide +kernel
theorem dX12_hard_15 : decode cX12_hard 15 = .ok (.iload_n 3, 1) := by decide +kernel
theorem dX12_hard_16 : decode cX12_hard 16 = .ok (.bipush 60, 2) := by decide +kernel
theorem dX12_hard_18 : decode cX12_hard 18 = .ok (.if_icmp .gt 53, 3) := by decide +kernel
theorem dX12_hard_21 : decode cX12_hard 21 = .ok (.aload_n 0, 1) := by decide +kernel
theorem dX12_hard_22 : decode cX12_hard 22 = .ok (.sipush 1365, 3) := by decide +kernel
theorem dX12_hard_25 : decode cX12_hard 25 = .ok (.invokevirtual 330, 3) := by decide +kernel
theorem dX12_hard_28 : decode cX12_hard 28 = .ok (.invokestatic 351, 3) := by decide +kernel
theorem dX12_hard_31 : decode cX12_hard 31 = .ok (.istore 4, 2) := by decide +kernel
theorem dX12_hard_33 : decode cX12_hard 33 = .ok (.iload 4, 2) := by decide +kernel
theorem dX12_hard_35 : decode cX12_hard 35 = .ok (.iload_n 2, 1) := by decide +kernel
theorem dX12_hard_36 : decode cX12_hard 36 = .ok (.if_icmp .le 7, 3) := by decide +kernel
theorem dX12_hard_39 : decode cX12_hard 39 = .ok (.iload_n 3, 1) := by decide +kernel
theorem dX12_hard_40 : decode cX12_hard 40 = .ok (.goto 4, 3) := by decide +kernel
theorem dX12_hard_43 : decode cX12_hard 43 = .ok (.iload_n 1, 1) := by decide +kernel
theorem dX12_hard_44 : decode cX12_hard 44 = .ok (.istore_n 1, 1) := by decide +kernel
theorem dX12_hard_45 : decode cX12_hard 45 = .ok (.iload 4, 2) := by decide +kernel
theorem dX12_hard_47 : decode cX12_hard 47 = .ok (.iload_n 2, 1) := by decide +kernel
theorem dX12_hard_48 : decode cX12_hard 48 = .ok (.if_icmp .le 8, 3) := by decide +kernel
theorem dX12_hard_51 : decode cX12_hard 51 = .ok (.iload 4, 2) := by decide +kernel
theorem dX12_hard_53 : decode cX12_hard 53 = .ok (.goto 4, 3) := by decide +kernel
theorem dX12_hard_56 : decode cX12_hard 56 = .ok (.iload_n 2, 1) := by decide +kernel
theorem dX12_hard_57 : decode cX12_hard 57 = .ok (.istore_n 2, 1) := by decide +kernel
theorem dX12_hard_58 : decode cX12_hard 58 = .ok (.aload_n 0, 1) := by decide +kernel
theorem dX12_hard_59 : decode cX12_hard 59 = .ok (.sipush 1365, 3) := by decide +kernel
theorem dX12_hard_62 : decode cX12_hard 62 = .ok (.invokevirtual 328, 3) := by decide +kernel
theorem dX12_hard_65 : decode cX12_hard 65 = .ok (.iinc 3 1, 3) := by decide +kernel
theorem dX12_hard_68 : decode cX12_hard 68 = .ok (.goto (-53), 3) := by decide +kernel
theorem dX12_hard_71 : decode cX12_hard 71 = .ok (.iload_n 1, 1) := by decide +kernel
theorem dX12_hard_72 : decode cX12_hard 72 = .ok (.ireturn, 1) := by decide +kernel
def f_X12_hard_57 (w : Nat) (k15 : Nat → Int32 → Int32 → Int32 → mM → Option (Int32 × mM)) (o0 : Nat) (x1 : Int32) (x3 : Int32) (xs0 : Int32) (M : mM) : Option (Int32 × mM) := bV (f_X12_passes_ w o0 1365 M) fun M1 => (k15 o0 x1 xs0 (x3 + 1) M1)
set_option maxHeartbeats 4000000 in
set_option maxRecDepth 100000 in
theorem s_X12_hard_57 {l : Launch} {G : mG} {sk : List mS} (w : Nat) (k15 : Nat → Int32 → Int32 → Int32 → mM → Option (Int32 × mM)) (hk15 : ∀ (o0 : Nat) (h0 : isK o0 22) (x1 : Int32) (x2 : Int32) (x3 : Int32) (M : mM), Go muX12_hard (rm 5) 0 0 l G sk (mFin G sk eI) (k15 o0 x1 x2 x3 M) 15 [(0, .ref (gB G + o0)), (1, .int x1), (2, .int x2), (3, .int x3)] [] M) (o0 : Nat) (h0 : isK o0 22) (x1 : Int32) (x3 : Int32) (xs0 : Int32) (M : mM) : Go muX12_hard (rm 5) 0 0 l G sk (mFin G sk eI) (f_X12_hard_57 w k15 o0 x1 x3 xs0 M) 57 [(0, .ref (gB G + o0)), (1, .int x1), (3, .int x3)] [.int xs0] M := by
  unfold f_X12_hard_57
  refine go_istore_n [(2, .int xs0), (0, .ref (gB G + o0)), (1, .int x1), (3, .int x3)] 58 dX12_hard_57 rfl rfl (by decide) rfl ?_
  refine go_aload_n 1 59 dX12_hard_58 rfl rfl ?_
  refine go_sipush 1365 62 dX12_hard_59 rfl (by decide) ?_
  refine go_cVV1 4 clX12 cwX12_328 (m_X12_passes_ w o0 h0 1365 M) h0 65 dX12_hard_62 rfl ⟨Nat.le_of_ble_eq_true rfl, Nat.le_of_ble_eq_true rfl⟩ ⟨Nat.zero_le _, Nat.zero_le _⟩ (Nat.le_of_ble_eq_true rfl) (fun M1 _ => ?_)
  refine go_iinc (x3 + 1) 3 [(3, .int (x3 + 1)), (2, .int xs0), (0, .ref (gB G + o0)), (1, .int x1)] 68 dX12_hard_65 rfl rfl rfl (by decide) rfl ?_
  refine go_goto 15 dX12_hard_68 (by decide) ?_
  exact go_lv [2, 3, 1, 0] rfl (hk15 o0 h0 x1 xs0 (x3 + 1) M1)
def f_X12_hard_44 (w : Nat) (k15 : Nat → Int32 → Int32 → Int32 → mM → Option (Int32 × mM)) (o0 : Nat) (x2 : Int32) (x3 : Int32) (x4 : Int32) (xs0 : Int32) (M : mM) : Option (Int32 × mM) := (if x4 ≤ x2 then (f_X12_hard_57 w k15 o0 xs0 x3 x2 M) else (f_X12_hard_57 w k15 o0 xs0 x3 x4 M))
set_option maxHeartbeats 4000000 in
set_option maxRecDepth 100000 in
theorem s_X12_hard_44 {l : Launch} {G : mG} {sk : List mS} (w : Nat) (k15 : Nat → Int32 → Int32 → Int32 → mM → Option (Int32 × mM)) (hk15 : ∀ (o0 : Nat) (h0 : isK o0 22) (x1 : Int32) (x2 : Int32) (x3 : Int32) (M : mM), Go muX12_hard (rm 5) 0 0 l G sk (mFin G sk eI) (k15 o0 x1 x2 x3 M) 15 [(0, .ref (gB G + o0)), (1, .int x1), (2, .int x2), (3, .int x3)] [] M) (o0 : Nat) (h0 : isK o0 22) (x2 : Int32) (x3 : Int32) (x4 : Int32) (xs0 : Int32) (M : mM) : Go muX12_hard (rm 5) 0 0 l G sk (mFin G sk eI) (f_X12_hard_44 w k15 o0 x2 x3 x4 xs0 M) 44 [(0, .ref (gB G + o0)), (2, .int x2), (3, .int x3), (4, .int x4)] [.int xs0] M := by
  unfold f_X12_hard_44
  refine go_istore_n [(1, .int xs0), (0, .ref (gB G + o0)), (2, .int x2), (3, .int x3), (4, .int x4)] 45 dX12_hard_44 rfl rfl (by decide) rfl ?_
  refine go_iload 4 47 dX12_hard_45 rfl rfl ?_
  refine go_iload_n 2 48 dX12_hard_47 rfl rfl ?_
  refine go_icmp_le 56 51 dX12_hard_48 rfl (by decide) (fun _ => ?_) (fun _ => ?_)
  · refine go_iload_n 2 57 dX12_hard_56 rfl rfl ?_
    exact go_lv [1, 0, 3] rfl (s_X12_hard_57 w k15 hk15 o0 h0 xs0 x3 x2 M)
  · refine go_iload 4 53 dX12_hard_51 rfl rfl ?_
    refine go_goto 57 dX12_hard_53 (by decide) ?_
    exact go_lv [1, 0, 3] rfl (s_X12_hard_57 w k15 hk15 o0 h0 xs0 x3 x4 M)
def f_X12_hard_15 (w : Nat) : Nat → Nat → Int32 → Int32 → Int32 → mM → Option (Int32 × mM)
  | 0, _, _, _, _, _ => none
  | n + 1, o0, x1, x2, x3, M => (if 60 < x3 then some (x1, M) else bI (f_X12_sticking w o0 1365 M) fun q2 M1 => bI (f_X12_bits w q2 M1) fun q4 M3 => (if q4 ≤ x2 then (f_X12_hard_44 w (f_X12_hard_15 w n) o0 x2 x3 q4 x1 M3) else (f_X12_hard_44 w (f_X12_hard_15 w n) o0 x2 x3 q4 x3 M3)))
set_option maxHeartbeats 4000000 in
set_option maxRecDepth 100000 in
theorem s_X12_hard_15 {l : Launch} {G : mG} {sk : List mS} (w : Nat) : ∀ (n : Nat) (o0 : Nat) (h0 : isK o0 22) (x1 : Int32) (x2 : Int32) (x3 : Int32) (M : mM), Go muX12_hard (rm 5) 0 0 l G sk (mFin G sk eI) (f_X12_hard_15 w n o0 x1 x2 x3 M) 15 [(0, .ref (gB G + o0)), (1, .int x1), (2, .int x2), (3, .int x3)] [] M := by
  intro n
  induction n with
  | zero =>
    intros
    exact go_none
  | succ n ih =>
    intro o0 h0 x1 x2 x3 M
    rw [f_X12_hard_15]
    refine go_iload_n 3 16 dX12_hard_15 rfl rfl ?_
    refine go_bipush 60 18 dX12_hard_16 rfl (by decide) ?_
    refine go_icmp_gt 71 21 dX12_hard_18 rfl (by decide) (fun _ => ?_) (fun _ => ?_)
    · refine go_iload_n 1 72 dX12_hard_71 rfl rfl ?_
      exact go_iret rfl dX12_hard_72
    · refine go_aload_n 0 22 dX12_hard_21 rfl rfl ?_
      refine go_sipush 1365 25 dX12_hard_22 rfl (by decide) ?_
      refine go_cVI1 2 clX12 cwX12_330 (m_X12_sticking w o0 h0 1365 M) h0 28 dX12_hard_25 rfl ⟨Nat.le_of_ble_eq_true rfl, Nat.le_of_ble_eq_true rfl⟩ ⟨Nat.zero_le _, Nat.zero_le _⟩ (Nat.le_of_ble_eq_true rfl) (fun q2 M1 _ => ?_)
      refine go_cSI1 0 cwX12_351 (m_X12_bits w q2 M1) 31 dX12_hard_28 rfl ⟨Nat.le_of_ble_eq_true rfl, Nat.le_of_ble_eq_true rfl⟩ ⟨Nat.zero_le _, Nat.zero_le _⟩ (Nat.le_of_ble_eq_true rfl) (fun q4 M3 _ => ?_)
      refine go_istore [(4, .int q4), (0, .ref (gB G + o0)), (1, .int x1), (2, .int x2), (3, .int x3)] 33 dX12_hard_31 rfl (by decide) rfl ?_
      refine go_iload 0 35 dX12_hard_33 rfl rfl ?_
      refine go_iload_n 3 36 dX12_hard_35 rfl rfl ?_
      refine go_icmp_le 43 39 dX12_hard_36 rfl (by decide) (fun _ => ?_) (fun _ => ?_)
      · refine go_iload_n 2 44 dX12_hard_43 rfl rfl ?_
        exact go_lv [1, 3, 4, 0] rfl (s_X12_hard_44 w (f_X12_hard_15 w n) (fun o0 h0 x1 x2 x3 M => ih o0 h0 x1 x2 x3 M) o0 h0 x2 x3 q4 x1 M3)
      · refine go_iload_n 4 40 dX12_hard_39 rfl rfl ?_
        refine go_goto 44 dX12_hard_40 (by decide) ?_
        exact go_lv [1, 3, 4, 0] rfl (s_X12_hard_44 w (f_X12_hard_15 w n) (fun o0 h0 x1 x2 x3 M => ih o0 h0 x1 x2 x3 M) o0 h0 x2 x3 q4 x3 M3)
def f_X12_hard (w : Nat) (o0 : Nat) (M : mM) : Option (Int32 × mM) := lt (wI M o0 0 0) fun M1 => bV (f_X12_triesNow w o0 M1) fun M2 => (f_X12_hard_15 w w o0 0 (-1) 0 M2)
set_option maxHeartbeats 4000000 in
set_option maxRecDepth 100000 in
theorem s_X12_hard {l : Launch} {G : mG} {sk : List mS} (w : Nat) (o0 : Nat) (h0 : isK o0 22) (M : mM) : Go muX12_hard (rm 5) 0 0 l G sk (mFin G sk eI) (f_X12_hard w o0 M) 0 [(0, .ref (gB G + o0))] [] M := by
  unfold f_X12_hard
  refine go_aload_n 0 1 dX12_hard_0 rfl rfl ?_
  refine go_iconst 0 2 dX12_hard_1 rfl (by decide) ?_
  refine go_putI flX12_1 rfl rfl h0 5 dX12_hard_2 rfl ?_
  refine go_nmM (fun M1 => ?_)
  refine go_aload_n 0 6 dX12_hard_5 rfl rfl ?_
  refine go_cVV0 1 clX12 cwX12_372 (m_X12_triesNow w o0 h0 M1) h0 9 dX12_hard_6 rfl ⟨Nat.le_of_ble_eq_true rfl, Nat.le_of_ble_eq_true rfl⟩ ⟨Nat.zero_le _, Nat.zero_le _⟩ (Nat.le_of_ble_eq_true rfl) (fun M2 _ => ?_)
  refine go_iconst 0 10 dX12_hard_9 rfl (by decide) ?_
  refine go_istore_n [(1, .int 0), (0, .ref (gB G + o0))] 11 dX12_hard_10 rfl rfl (by decide) rfl ?_
  refine go_iconst (-1) 12 dX12_hard_11 rfl (by decide) ?_
  refine go_istore_n [(2, .int (-1)), (1, .int 0), (0, .ref (gB G + o0))] 13 dX12_hard_12 rfl rfl (by decide) rfl ?_
  refine go_iconst 0 14 dX12_hard_13 rfl (by decide) ?_
  refine go_istore_n [(3, .int 0), (2, .int (-1)), (1, .int 0), (0, .ref (gB G + o0))] 15 dX12_hard_14 rfl rfl (by decide) rfl ?_
  exact go_lv [3, 2, 1, 0] rfl (s_X12_hard_15 w w o0 h0 0 (-1) 0 M2)
theorem m_X12_hard {l : Launch} {G : mG} {sk : List mS} (w : Nat) (o0 : Nat) (h0 : isK o0 22) (M : mM) : Mt l G sk yX12_hard muX12_hard 5 [.ref (gB G + o0)] M eI (f_X12_hard w o0 M) := Mt.of (by decide) rfl (Nat.le_of_ble_eq_true rfl) (s_X12_hard w o0 h0 M)
theorem dX12_opensThen_0 : decode cX12_opensThen 0 = .ok (.aload_n 0, 1) := by decide +kernel
theorem dX12_opensThen_1 : decode cX12_opensThen 1 = .ok (.invokevirtual 372, 3) := by decide +kernel
theorem dX12_opensThen_4 : decode cX12_opensThen 4 = .ok (.iconst 0, 1) := by decide +kernel
theorem dX12_opensThen_5 : decode cX12_opensThen 5 = .ok (.istore_n 1, 1) := by decide +kernel
theorem dX12_opensThen_6 : decode cX12_opensThen 6 = .ok (.iload_n 1, 1) := by decide +kernel
theorem dX12_opensThen_7 : decode cX12_opensThen 7 = .ok (.bipush 40, 2) := by decide +kernel
theorem dX12_opensThen_9 : decode cX12_opensThen 9 = .ok (.if_icmp .gt 29, 3) := by decide +kernel
theorem dX12_opensThen_12 : decode cX12_opensThen 12 = .ok (.aload_n 0, 1) := by decide +kernel
theorem dX12_opensThen_13 : decode cX12_opensThen 13 = .ok (.getfield 120, 3) := by decide +kernel
theorem dX12_opensThen_16 : decode cX12_opensThen 16 = .ok (.iload_n 1, 1) := by decide +kernel
theorem dX12_opensThen_17 : decode cX12_opensThen 17 = .ok (.aload_n 0, 1) := by decide +kernel
theorem dX12_opensThen_18 : decode cX12_opensThen 18 = .ok (.sipush 1365, 3) := by decide +kernel
theorem dX12_opensThen_21 : decode cX12_opensThen 21 = .ok (.invokevirtual 360, 3) := by decide +kernel
theorem dX12_opensThen_24 : decode cX12_opensThen 24 = .ok (.iastore, 1) := by decide +kernel
theorem dX12_opensThen_25 : decode cX12_opensThen 25 = .ok (.aload_n 0, 1) := by decide +kernel
theorem dX12_opensThen_26 : decode cX12_opensThen 26 = .ok (.sipush 1365, 3) := by decide +kernel
theorem dX12_opensThen_29 : decode cX12_opensThen 29 = .ok (.invokevirtual 328, 3) := by decide +kernel
theorem dX12_opensThen_32 : decode cX12_opensThen 32 = .ok (.iinc 1 1, 3) := by decide +kernel
theorem dX12_opensThen_35 : decode cX12_opensThen 35 = .ok (.goto (-29), 3) := by decide +kernel
theorem dX12_opensThen_38 : decode cX12_opensThen 38 = .ok (.return_, 1) := by decide +kernel
def f_X12_opensThen_6 (w : Nat) : Nat → Nat → Int32 → mM → Option mM
  | 0, _, _, _ => none
  | n + 1, o0, x1, M => (if 40 < x1 then some M else bI (f_X12_openNow w o0 1365 M) fun q2 M1 => chk x1 (sL (rF o0 27)) (lt (wI M1 (rF o0 27) x1.toNatClampNeg q2) fun M3 => bV (f_X12_passes_ w o0 1365 M3) fun M4 => (f_X12_opensThen_6 w n o0 (x1 + 1) M4)))
set_option maxHeartbeats 4000000 in
set_option maxRecDepth 100000 in
theorem s_X12_opensThen_6 {l : Launch} {G : mG} {sk : List mS} (w : Nat) : ∀ (n : Nat) (o0 : Nat) (h0 : isK o0 22) (x1 : Int32) (M : mM), Go muX12_opensThen (rm 5) 0 0 l G sk (mFin G sk eV) (f_X12_opensThen_6 w n o0 x1 M) 6 [(0, .ref (gB G + o0)), (1, .int x1)] [] M := by
  intro n
  induction n with
  | zero =>
    intros
    exact go_none
  | succ n ih =>
    intro o0 h0 x1 M
    rw [f_X12_opensThen_6]
    refine go_iload_n 1 7 dX12_opensThen_6 rfl rfl ?_
    refine go_bipush 40 9 dX12_opensThen_7 rfl (by decide) ?_
    refine go_icmp_gt 38 12 dX12_opensThen_9 rfl (by decide) (fun _ => ?_) (fun _ => ?_)
    · exact go_vret rfl dX12_opensThen_38
    · refine go_aload_n 0 13 dX12_opensThen_12 rfl rfl ?_
      refine go_getR flX12_120 h0 16 dX12_opensThen_13 rfl ?_
      refine go_iload_n 1 17 dX12_opensThen_16 rfl rfl ?_
      refine go_aload_n 0 18 dX12_opensThen_17 rfl rfl ?_
      refine go_sipush 1365 21 dX12_opensThen_18 rfl (by decide) ?_
      refine go_cVI1 3 clX12 cwX12_360 (m_X12_openNow w o0 h0 1365 M) h0 24 dX12_opensThen_21 rfl ⟨Nat.le_of_ble_eq_true rfl, Nat.le_of_ble_eq_true rfl⟩ ⟨Nat.zero_le _, Nat.zero_le _⟩ (Nat.le_of_ble_eq_true rfl) (fun q2 M1 _ => ?_)
      refine go_iast (rk12_27 h0) 25 dX12_opensThen_24 rfl ?_
      refine go_nmM (fun M3 => ?_)
      refine go_aload_n 0 26 dX12_opensThen_25 rfl rfl ?_
      refine go_sipush 1365 29 dX12_opensThen_26 rfl (by decide) ?_
      refine go_cVV1 4 clX12 cwX12_328 (m_X12_passes_ w o0 h0 1365 M3) h0 32 dX12_opensThen_29 rfl ⟨Nat.le_of_ble_eq_true rfl, Nat.le_of_ble_eq_true rfl⟩ ⟨Nat.zero_le _, Nat.zero_le _⟩ (Nat.le_of_ble_eq_true rfl) (fun M4 _ => ?_)
      refine go_iinc (x1 + 1) 1 [(1, .int (x1 + 1)), (0, .ref (gB G + o0))] 35 dX12_opensThen_32 rfl rfl rfl (by decide) rfl ?_
      refine go_goto 6 dX12_opensThen_35 (by decide) ?_
      exact go_lv [1, 0] rfl (ih o0 h0 (x1 + 1) M4)
def f_X12_opensThen (w : Nat) (o0 : Nat) (M : mM) : Option mM := bV (f_X12_triesNow w o0 M) fun M1 => (f_X12_opensThen_6 w w o0 0 M1)
set_option maxHeartbeats 4000000 in
set_option maxRecDepth 100000 in
theorem s_X12_opensThen {l : Launch} {G : mG} {sk : List mS} (w : Nat) (o0 : Nat) (h0 : isK o0 22) (M : mM) : Go muX12_opensThen (rm 5) 0 0 l G sk (mFin G sk eV) (f_X12_opensThen w o0 M) 0 [(0, .ref (gB G + o0))] [] M := by
  unfold f_X12_opensThen
  refine go_aload_n 0 1 dX12_opensThen_0 rfl rfl ?_
  refine go_cVV0 1 clX12 cwX12_372 (m_X12_triesNow w o0 h0 M) h0 4 dX12_opensThen_1 rfl ⟨Nat.le_of_ble_eq_true rfl, Nat.le_of_ble_eq_true rfl⟩ ⟨Nat.zero_le _, Nat.zero_le _⟩ (Nat.le_of_ble_eq_true rfl) (fun M1 _ => ?_)
  refine go_iconst 0 5 dX12_opensThen_4 rfl (by decide) ?_
  refine go_istore_n [(1, .int 0), (0, .ref (gB G + o0))] 6 dX12_opensThen_5 rfl rfl (by decide) rfl ?_
  exact go_lv [1, 0] rfl (s_X12_opensThen_6 w w o0 h0 0 M1)
theorem m_X12_opensThen {l : Launch} {G : mG} {sk : List mS} (w : Nat) (o0 : Nat) (h0 : isK o0 22) (M : mM) : Mt l G sk yX12_opensThen muX12_opensThen 5 [.ref (gB G + o0)] M eV (f_X12_opensThen w o0 M) := Mt.of (by decide) rfl (Nat.le_of_ble_eq_true rfl) (s_X12_opensThen w o0 h0 M)
theorem dX12_arrivesBy_0 : decode cX12_arrivesBy 0 = .ok (.iconst 1, 1) := by decide +kernel
theorem dX12_arrivesBy_1 : decode cX12_arrivesBy 1 = .ok (.iload_n 1, 1) := by decide +kernel
theorem dX12_arrivesBy_2 : decode cX12_arrivesBy 2 = .ok (.ishl, 1) := by decide +kernel
theorem dX12_arrivesBy_3 : decode cX12_arrivesBy 3 = .ok (.istore_n 3, 1) := by decide +kernel
theorem dX12_arrivesBy_4 : decode cX12_arrivesBy 4 = .ok (.iconst 0, 1) := by decide +kernel
theorem dX12_arrivesBy_5 : decode cX12_arrivesBy 5 = .ok (.istore 4, 2) := by decide +kernel
theorem dX12_arrivesBy_7 : decode cX12_arrivesBy 7 = .ok (.iload 4, 2) := by decide +kernel
theorem dX12_arrivesBy_9 : decode cX12_arrivesBy 9 = .ok (.bipush 40, 2) := by decide +kernel
theorem dX12_arrivesBy_11 : decode cX12_arrivesBy 11 = .ok (.if_icmp .gt 34, 3) := by decide +kernel
theorem dX12_arrivesBy_14 : decode cX12_arrivesBy 14 = .ok (.iload_n 3, 1) := by decide +kernel
theorem dX12_arrivesBy_15 : decode cX12_arrivesBy 15 = .ok (.iload_n 2, 1) := by decide +kernel
theorem dX12_arrivesBy_16 : decode cX12_arrivesBy 16 = .ok (.ishr, 1) := by decide +kernel
theorem dX12_arrivesBy_17 : decode cX12_arrivesBy 17 = .ok (.iconst 1, 1) := by decide +kernel
theorem dX12_arrivesBy_18 : decode cX12_arrivesBy 18 = .ok (.iand, 1) := by decide +kernel
theorem dX12_arrivesBy_19 : decode cX12_arrivesBy 19 = .ok (.iconst 1, 1) := by decide +kernel
theorem dX12_arrivesBy_20 : decode cX12_arrivesBy 20 = .ok (.if_icmp .ne 6, 3) := by decide +kernel
theorem dX12_arrivesBy_23 : decode cX12_arrivesBy 23 = .ok (.iload 4, 2) := by decide +kernel
theorem dX12_arrivesBy_25 : decode cX12_arrivesBy 25 = .ok (.ireturn, 1) := by decide +kernel
theorem dX12_arrivesBy_26 : decode cX12_arrivesBy 26 = .ok (.aload_n 0, 1) := by decide +kernel
theorem dX12_arrivesBy_27 : decode cX12_arrivesBy 27 = .ok (.iload_n 3, 1) := by decide +kernel
theorem dX12_arrivesBy_28 : decode cX12_arrivesBy 28 = .ok (.aload_n 0, 1) := by decide +kernel
theorem dX12_arrivesBy_29 : decode cX12_arrivesBy 29 = .ok (.getfield 120, 3) := by decide +kernel
theorem dX12_arrivesBy_32 : decode cX12_arrivesBy 32 = .ok (.iload 4, 2) := by decide +kernel
theorem dX12_arrivesBy_34 : decode cX12_arrivesBy 34 = .ok (.iaload, 1) := by decide +kernel
theorem dX12_arrivesBy_35 : decode cX12_arrivesBy 35 = .ok (.invokevirtual 354, 3) := by decide +kernel
theorem dX12_arrivesBy_38 : decode cX12_arrivesBy 38 = .ok (.istore_n 3, 1) := by decide +kernel
theorem dX12_arrivesBy_39 : decode cX12_arrivesBy 39 = .ok (.iinc 4 1, 3) := by decide +kernel
theorem dX12_arrivesBy_42 : decode cX12_arrivesBy 42 = .ok (.goto (-35), 3) := by decide +kernel
theorem dX12_arrivesBy_45 : decode cX12_arrivesBy 45 = .ok (.iconst (-1), 1) := by decide +kernel
theorem dX12_arrivesBy_46 : decode cX12_arrivesBy 46 = .ok (.ireturn, 1) := by decide +kernel
def f_X12_arrivesBy_7 (w : Nat) : Nat → Nat → Int32 → Int32 → Int32 → mM → Option (Int32 × mM)
  | 0, _, _, _, _, _ => none
  | n + 1, o0, x2, x3, x4, M => (if 40 < x4 then some ((-1), M) else (if ((x3 >>> (x2 &&& 31)) &&& 1) = 1 then some (x4, M) else chk x4 (sL (rF o0 27)) (bI (f_X12_onFrom w o0 x3 (M.1 (rF o0 27) x4.toNatClampNeg) M) fun q2 M1 => (f_X12_arrivesBy_7 w n o0 x2 q2 (x4 + 1) M1))))
set_option maxHeartbeats 4000000 in
set_option maxRecDepth 100000 in
theorem s_X12_arrivesBy_7 {l : Launch} {G : mG} {sk : List mS} (w : Nat) : ∀ (n : Nat) (o0 : Nat) (h0 : isK o0 22) (x2 : Int32) (x3 : Int32) (x4 : Int32) (M : mM), Go muX12_arrivesBy (rm 2) 0 0 l G sk (mFin G sk eI) (f_X12_arrivesBy_7 w n o0 x2 x3 x4 M) 7 [(0, .ref (gB G + o0)), (2, .int x2), (3, .int x3), (4, .int x4)] [] M := by
  intro n
  induction n with
  | zero =>
    intros
    exact go_none
  | succ n ih =>
    intro o0 h0 x2 x3 x4 M
    rw [f_X12_arrivesBy_7]
    refine go_iload 3 9 dX12_arrivesBy_7 rfl rfl ?_
    refine go_bipush 40 11 dX12_arrivesBy_9 rfl (by decide) ?_
    refine go_icmp_gt 45 14 dX12_arrivesBy_11 rfl (by decide) (fun _ => ?_) (fun _ => ?_)
    · refine go_iconst (-1) 46 dX12_arrivesBy_45 rfl (by decide) ?_
      exact go_iret rfl dX12_arrivesBy_46
    · refine go_iload_n 2 15 dX12_arrivesBy_14 rfl rfl ?_
      refine go_iload_n 1 16 dX12_arrivesBy_15 rfl rfl ?_
      refine go_ishr 17 dX12_arrivesBy_16 rfl ?_
      refine go_iconst 1 18 dX12_arrivesBy_17 rfl (by decide) ?_
      refine go_iand 19 dX12_arrivesBy_18 rfl ?_
      refine go_iconst 1 20 dX12_arrivesBy_19 rfl (by decide) ?_
      refine go_icmp_ne 26 23 dX12_arrivesBy_20 rfl (by decide) (fun _ => ?_) (fun _ => ?_)
      · refine go_aload_n 0 27 dX12_arrivesBy_26 rfl rfl ?_
        refine go_iload_n 2 28 dX12_arrivesBy_27 rfl rfl ?_
        refine go_aload_n 0 29 dX12_arrivesBy_28 rfl rfl ?_
        refine go_getR flX12_120 h0 32 dX12_arrivesBy_29 rfl ?_
        refine go_iload 3 34 dX12_arrivesBy_32 rfl rfl ?_
        refine go_iald (rk12_27 h0) 35 dX12_arrivesBy_34 rfl ?_
        refine go_cVI2 1 clX12 cwX12_354 (m_X12_onFrom w o0 h0 x3 (M.1 (rF o0 27) x4.toNatClampNeg) M) h0 38 dX12_arrivesBy_35 rfl ⟨Nat.le_of_ble_eq_true rfl, Nat.le_of_ble_eq_true rfl⟩ ⟨Nat.zero_le _, Nat.zero_le _⟩ (Nat.le_of_ble_eq_true rfl) (fun q2 M1 _ => ?_)
        refine go_istore_n [(3, .int q2), (0, .ref (gB G + o0)), (2, .int x2), (4, .int x4)] 39 dX12_arrivesBy_38 rfl rfl (by decide) rfl ?_
        refine go_iinc (x4 + 1) 3 [(4, .int (x4 + 1)), (3, .int q2), (0, .ref (gB G + o0)), (2, .int x2)] 42 dX12_arrivesBy_39 rfl rfl rfl (by decide) rfl ?_
        refine go_goto 7 dX12_arrivesBy_42 (by decide) ?_
        exact go_lv [2, 3, 1, 0] rfl (ih o0 h0 x2 q2 (x4 + 1) M1)
      · refine go_iload 3 25 dX12_arrivesBy_23 rfl rfl ?_
        exact go_iret rfl dX12_arrivesBy_25
def f_X12_arrivesBy (w : Nat) (o0 : Nat) (x1 : Int32) (x2 : Int32) (M : mM) : Option (Int32 × mM) := lt ((1 : Int32) <<< (x1 &&& 31)) fun y1 => (f_X12_arrivesBy_7 w w o0 x2 y1 0 M)
set_option maxHeartbeats 4000000 in
set_option maxRecDepth 100000 in
theorem s_X12_arrivesBy {l : Launch} {G : mG} {sk : List mS} (w : Nat) (o0 : Nat) (h0 : isK o0 22) (x1 : Int32) (x2 : Int32) (M : mM) : Go muX12_arrivesBy (rm 2) 0 0 l G sk (mFin G sk eI) (f_X12_arrivesBy w o0 x1 x2 M) 0 [(0, .ref (gB G + o0)), (1, .int x1), (2, .int x2)] [] M := by
  unfold f_X12_arrivesBy
  refine go_iconst 1 1 dX12_arrivesBy_0 rfl (by decide) ?_
  refine go_iload_n 1 2 dX12_arrivesBy_1 rfl rfl ?_
  refine go_ishl 3 dX12_arrivesBy_2 rfl ?_
  refine go_nmI (fun y1 => ?_)
  refine go_istore_n [(3, .int y1), (0, .ref (gB G + o0)), (1, .int x1), (2, .int x2)] 4 dX12_arrivesBy_3 rfl rfl (by decide) rfl ?_
  refine go_iconst 0 5 dX12_arrivesBy_4 rfl (by decide) ?_
  refine go_istore [(4, .int 0), (3, .int y1), (0, .ref (gB G + o0)), (1, .int x1), (2, .int x2)] 7 dX12_arrivesBy_5 rfl (by decide) rfl ?_
  exact go_lv [2, 4, 1, 0] rfl (s_X12_arrivesBy_7 w w o0 h0 x2 y1 0 M)
theorem m_X12_arrivesBy {l : Launch} {G : mG} {sk : List mS} (w : Nat) (o0 : Nat) (h0 : isK o0 22) (x1 : Int32) (x2 : Int32) (M : mM) : Mt l G sk yX12_arrivesBy muX12_arrivesBy 2 [.ref (gB G + o0), .int x1, .int x2] M eI (f_X12_arrivesBy w o0 x1 x2 M) := Mt.of (by decide) rfl (Nat.le_of_ble_eq_true rfl) (s_X12_arrivesBy w o0 h0 x1 x2 M)
theorem dX12_arrives_0 : decode cX12_arrives 0 = .ok (.aload_n 0, 1) := by decide +kernel
theorem dX12_arrives_1 : decode cX12_arrives 1 = .ok (.iconst 0, 1) := by decide +kernel
theorem dX12_arrives_2 : decode cX12_arrives 2 = .ok (.putfield 1, 3) := by decide +kernel
theorem dX12_arrives_5 : decode cX12_arrives 5 = .ok (.aload_n 0, 1) := by decide +kernel
theorem dX12_arrives_6 : decode cX12_arrives 6 = .ok (.iload_n 1, 1) := by decide +kernel
theorem dX12_arrives_7 : decode cX12_arrives 7 = .ok (.invokevirtual 322, 3) := by decide +kernel
theorem dX12_arrives_10 : decode cX12_arrives 10 = .ok (.ifCond .eq 11, 3) := by decide +kernel
theorem dX12_arrives_13 : decode cX12_arrives 13 = .ok (.aload_n 0, 1) := by decide +kernel
theorem dX12_arrives_14 : decode cX12_arrives 14 = .ok (.iload_n 2, 1) := by decide +kernel
theorem dX12_arrives_15 : decode cX12_arrives 15 = .ok (.invokevirtual 357, 3) := by decide +kernel
theorem dX12_arrives_18 : decode cX12_arrives 18 = .ok (.ifCond .ne 5, 3) := by decide +kernel
theorem dX12_arrives_21 : decode cX12_arrives 21 = .ok (.iconst (-1), 1) := by decide +kernel
theorem dX12_arrives_22 : decode cX12_arrives 22 = .ok (.ireturn, 1) := by decide +kernel
theorem dX12_arrives_23 : decode cX12_arrives 23 = .ok (.aload_n 0, 1) := by decide +kernel
theorem dX12_arrives_24 : decode cX12_arrives 24 = .ok (.invokevirtual 379, 3) := by decide +kernel
theorem dX12_arrives_27 : decode cX12_arrives 27 = .ok (.aload_n 0, 1) := by decide +kernel
theorem dX12_arrives_28 : decode cX12_arrives 28 = .ok (.aload_n 0, 1) := by decide +kernel
theorem dX12_arrives_29 : decode cX12_arrives 29 = .ok (.getfield 113, 3) := by decide +kernel
theorem dX12_arrives_32 : decode cX12_arrives 32 = .ok (.bipush 18, 2) := by decide +kernel
theorem dX12_arrives_34 : decode cX12_arrives 34 = .ok (.iload_n 1, 1) := by decide +kernel
theorem dX12_arrives_35 : decode cX12_arrives 35 = .ok (.iadd, 1) := by decide +kernel
theorem dX12_arrives_36 : decode cX12_arrives 36 = .ok (.iaload, 1) := by decide +kernel
theorem dX12_arrives_37 : decode cX12_arrives 37 = .ok (.iload_n 2, 1) := by decide +kernel
theorem dX12_arrives_38 : decode cX12_arrives 38 = .ok (.invokevirtual 382, 3) := by decide +kernel
theorem dX12_arrives_41 : decode cX12_arrives 41 = .ok (.ireturn, 1) := by decide +kernel
def f_X12_arrives (w : Nat) (o0 : Nat) (x1 : Int32) (x2 : Int32) (M : mM) : Option (Int32 × mM) := lt (wI M o0 0 0) fun M1 => bI (f_X12_isPerson w o0 x1 M1) fun q3 M2 => (if q3 = 0 then some ((-1), M2) else bI (f_X12_isRoom w o0 x2 M2) fun q5 M4 => (if q5 = 0 then some ((-1), M4) else bV (f_X12_opensThen w o0 M4) fun M6 => chk (18 + x1) (sL (rF o0 24)) (bI (f_X12_arrivesBy w o0 (M6.1 (rF o0 24) (18 + x1).toNatClampNeg) x2 M6) fun q8 M7 => some (q8, M7))))
set_option maxHeartbeats 4000000 in
set_option maxRecDepth 100000 in
theorem s_X12_arrives {l : Launch} {G : mG} {sk : List mS} (w : Nat) (o0 : Nat) (h0 : isK o0 22) (x1 : Int32) (x2 : Int32) (M : mM) : Go muX12_arrives (rm 6) 0 0 l G sk (mFin G sk eI) (f_X12_arrives w o0 x1 x2 M) 0 [(0, .ref (gB G + o0)), (1, .int x1), (2, .int x2)] [] M := by
  unfold f_X12_arrives
  refine go_aload_n 0 1 dX12_arrives_0 rfl rfl ?_
  refine go_iconst 0 2 dX12_arrives_1 rfl (by decide) ?_
  refine go_putI flX12_1 rfl rfl h0 5 dX12_arrives_2 rfl ?_
  refine go_nmM (fun M1 => ?_)
  refine go_aload_n 0 6 dX12_arrives_5 rfl rfl ?_
  refine go_iload_n 1 7 dX12_arrives_6 rfl rfl ?_
  refine go_cVI1 1 clX12 cwX12_322 (m_X12_isPerson w o0 h0 x1 M1) h0 10 dX12_arrives_7 rfl ⟨Nat.le_of_ble_eq_true rfl, Nat.le_of_ble_eq_true rfl⟩ ⟨Nat.zero_le _, Nat.zero_le _⟩ (Nat.le_of_ble_eq_true rfl) (fun q3 M2 _ => ?_)
  refine go_if_eq 21 13 dX12_arrives_10 rfl (by decide) (fun _ => ?_) (fun _ => ?_)
  · refine go_iconst (-1) 22 dX12_arrives_21 rfl (by decide) ?_
    exact go_iret rfl dX12_arrives_22
  · refine go_aload_n 0 14 dX12_arrives_13 rfl rfl ?_
    refine go_iload_n 2 15 dX12_arrives_14 rfl rfl ?_
    refine go_cVI1 1 clX12 cwX12_357 (m_X12_isRoom w o0 h0 x2 M2) h0 18 dX12_arrives_15 rfl ⟨Nat.le_of_ble_eq_true rfl, Nat.le_of_ble_eq_true rfl⟩ ⟨Nat.zero_le _, Nat.zero_le _⟩ (Nat.le_of_ble_eq_true rfl) (fun q5 M4 _ => ?_)
    refine go_if_ne 23 21 dX12_arrives_18 rfl (by decide) (fun _ => ?_) (fun _ => ?_)
    · refine go_aload_n 0 24 dX12_arrives_23 rfl rfl ?_
      refine go_cVV0 5 clX12 cwX12_379 (m_X12_opensThen w o0 h0 M4) h0 27 dX12_arrives_24 rfl ⟨Nat.le_of_ble_eq_true rfl, Nat.le_of_ble_eq_true rfl⟩ ⟨Nat.zero_le _, Nat.zero_le _⟩ (Nat.le_of_ble_eq_true rfl) (fun M6 _ => ?_)
      refine go_aload_n 0 28 dX12_arrives_27 rfl rfl ?_
      refine go_aload_n 0 29 dX12_arrives_28 rfl rfl ?_
      refine go_getR flX12_113 h0 32 dX12_arrives_29 rfl ?_
      refine go_bipush 18 34 dX12_arrives_32 rfl (by decide) ?_
      refine go_iload_n 1 35 dX12_arrives_34 rfl rfl ?_
      refine go_iadd 36 dX12_arrives_35 rfl ?_
      refine go_iald (rk12_24 h0) 37 dX12_arrives_36 rfl ?_
      refine go_iload_n 2 38 dX12_arrives_37 rfl rfl ?_
      refine go_cVI2 2 clX12 cwX12_382 (m_X12_arrivesBy w o0 h0 (M6.1 (rF o0 24) (18 + x1).toNatClampNeg) x2 M6) h0 41 dX12_arrives_38 rfl ⟨Nat.le_of_ble_eq_true rfl, Nat.le_of_ble_eq_true rfl⟩ ⟨Nat.zero_le _, Nat.zero_le _⟩ (Nat.le_of_ble_eq_true rfl) (fun q8 M7 _ => ?_)
      exact go_iret rfl dX12_arrives_41
    · refine go_iconst (-1) 22 dX12_arrives_21 rfl (by decide) ?_
      exact go_iret rfl dX12_arrives_22
theorem m_X12_arrives {l : Launch} {G : mG} {sk : List mS} (w : Nat) (o0 : Nat) (h0 : isK o0 22) (x1 : Int32) (x2 : Int32) (M : mM) : Mt l G sk yX12_arrives muX12_arrives 6 [.ref (gB G + o0), .int x1, .int x2] M eI (f_X12_arrives w o0 x1 x2 M) := Mt.of (by decide) rfl (Nat.le_of_ble_eq_true rfl) (s_X12_arrives w o0 h0 x1 x2 M)
theorem dX12_from_0 : decode cX12_from 0 = .ok (.aload_n 0, 1) := by decide +kernel
theorem dX12_from_1 : decode cX12_from 1 = .ok (.iconst 0, 1) := by decide +kernel
theorem dX12_from_2 : decode cX12_from 2 = .ok (.putfield 1, 3) := by decide +kernel
theorem dX12_from_5 : decode cX12_from 5 = .ok (.aload_n 0, 1) := by decide +kernel
theorem dX12_from_6 : decode cX12_from 6 = .ok (.iload_n 1, 1) := by decide +kernel
theorem dX12_from_7 : decode cX12_from 7 = .ok (.invokevirtual 357, 3) := by decide +kernel
theorem dX12_from_10 : decode cX12_from 10 = .ok (.ifCond .eq 13, 3) := by decide +kernel
theorem dX12_from_13 : decode cX12_from 13 = .ok (.iload_n 2, 1) := by decide +kernel
theorem dX12_from_14 : decode cX12_from 14 = .ok (.iconst 0, 1) := by decide +kernel
theorem dX12_from_15 : decode cX12_from 15 = .ok (.bipush 40, 2) := by decide +kernel
theorem dX12_from_17 : decode cX12_from 17 = .ok (.invokestatic 204, 3) := by decide +kernel
theorem dX12_from_20 : decode cX12_from 20 = .ok (.ifCond .ne 5, 3) := by decide +kernel
theorem dX12_from_23 : decode cX12_from 23 = .ok (.iconst (-1), 1) := by decide +kernel
theorem dX12_from_24 : decode cX12_from 24 = .ok (.ireturn, 1) := by decide +kernel
theorem dX12_from_25 : decode cX12_from 25 = .ok (.aload_n 0, 1) := by decide +kernel
theorem dX12_from_26 : decode cX12_from 26 = .ok (.invokevirtual 379, 3) := by decide +kernel
theorem dX12_from_29 : decode cX12_from 29 = .ok (.iconst 0, 1) := by decide +kernel
theorem dX12_from_30 : decode cX12_from 30 = .ok (.istore_n 3, 1) := by decide +kernel
theorem dX12_from_31 : decode cX12_from 31 = .ok (.iconst 0, 1) := by decide +kernel
theorem dX12_from_32 : decode cX12_from 32 = .ok (.istore 4, 2) := by decide +kernel
theorem dX12_from_34 : decode cX12_from 34 = .ok (.iload 4, 2) := by decide +kernel
theorem dX12_from_36 : decode cX12_from 36 = .ok (.aload_n 0, 1) := by decide +kernel
theorem dX12_from_37 : decode cX12_from 37 = .ok (.invokevirtual 291, 3) := by decide +kernel
theorem dX12_from_40 : decode cX12_from 40 = .ok (.if_icmp .ge 40, 3) := by decide +kernel
theorem dX12_from_43 : decode cX12_from 43 = .ok (.aload_n 0, 1) := by decide +kernel
theorem dX12_from_44 : decode cX12_from 44 = .ok (.iload 4, 2) := by decide +kernel
theorem dX12_from_46 : decode cX12_from 46 = .ok (.iload_n 1, 1) := by decide +kernel
theorem dX12_from_47 : decode cX12_from 47 = .ok (.invokevirtual 382, 3) := by decide +kernel
theorem dX12_from_50 : decode cX12_from 50 = .ok (.istore 5, 2) := by decide +kernel
theorem dX12_from_52 : decode cX12_from 52 = .ok (.iload_n 3, 1) := by decide +kernel
theorem dX12_from_53 : decode cX12_from 53 = .ok (.iload 5, 2) := by decide +kernel
theorem dX12_from_55 : decode cX12_from 55 = .ok (.ifCond .lt 16, 3) := by decide +kernel
theorem dX12_from_58 : decode cX12_from 58 = .ok (.iload 5, 2) := by decide +kernel
theorem dX12_from_60 : decode cX12_from 60 = .ok (.iload_n 2, 1) := by decide +kernel
theorem dX12_from_61 : decode cX12_from 61 = .ok (.if_icmp .gt 10, 3) := by decide +kernel
theorem dX12_from_64 : decode cX12_from 64 = .ok (.iconst 1, 1) := by decide +kernel
theorem dX12_from_65 : decode cX12_from 65 = .ok (.iload 4, 2) := by decide +kernel
theorem dX12_from_67 : decode cX12_from 67 = .ok (.ishl, 1) := by decide +kernel
theorem dX12_from_68 : decode cX12_from 68 = .ok (.goto 4, 3) := by decide +kernel
theorem dX12_from_71 : decode cX12_from 71 = .ok (.iconst 0, 1) := by decide +kernel
theorem dX12_from_72 : decode cX12_from 72 = .ok (.ior, 1) := by decide +kernel
theorem dX12_from_73 : decode cX12_from 73 = .ok (.istore_n 3, 1) := by decide +kernel
theorem dX12_from_74 : decode cX12_from 74 = .ok (.iinc 4 1, 3) := by decide +kernel
theorem dX12_from_77 : decode cX12_from 77 = .ok (.goto (-43), 3) := by decide +kernel
theorem dX12_from_80 : decode cX12_from 80 = .ok (.iload_n 3, 1) := by decide +kernel
theorem dX12_from_81 : decode cX12_from 81 = .ok (.ireturn, 1) := by decide +kernel
def f_X12_from_34 (w : Nat) : Nat → Nat → Int32 → Int32 → Int32 → Int32 → mM → Option (Int32 × mM)
  | 0, _, _, _, _, _, _ => none
  | n + 1, o0, x1, x2, x3, x4, M => bI (f_X12_rooms w o0 M) fun q2 M1 => (if q2 ≤ x4 then some (x3, M1) else bI (f_X12_arrivesBy w o0 x4 x1 M1) fun q4 M3 => (if q4 < 0 then lt (x3 ||| 0) fun y5 => (f_X12_from_34 w n o0 x1 x2 y5 (x4 + 1) M3) else (if x2 < q4 then lt (x3 ||| 0) fun y6 => (f_X12_from_34 w n o0 x1 x2 y6 (x4 + 1) M3) else lt (x3 ||| ((1 : Int32) <<< (x4 &&& 31))) fun y7 => (f_X12_from_34 w n o0 x1 x2 y7 (x4 + 1) M3))))
set_option maxHeartbeats 4000000 in
set_option maxRecDepth 100000 in
theorem s_X12_from_34 {l : Launch} {G : mG} {sk : List mS} (w : Nat) : ∀ (n : Nat) (o0 : Nat) (h0 : isK o0 22) (x1 : Int32) (x2 : Int32) (x3 : Int32) (x4 : Int32) (M : mM), Go muX12_from (rm 6) 0 0 l G sk (mFin G sk eI) (f_X12_from_34 w n o0 x1 x2 x3 x4 M) 34 [(0, .ref (gB G + o0)), (1, .int x1), (2, .int x2), (3, .int x3), (4, .int x4)] [] M := by
  intro n
  induction n with
  | zero =>
    intros
    exact go_none
  | succ n ih =>
    intro o0 h0 x1 x2 x3 x4 M
    rw [f_X12_from_34]
    refine go_iload 4 36 dX12_from_34 rfl rfl ?_
    refine go_aload_n 0 37 dX12_from_36 rfl rfl ?_
    refine go_cVI0 0 clX12 cwX12_291 (m_X12_rooms w o0 h0 M) h0 40 dX12_from_37 rfl ⟨Nat.le_of_ble_eq_true rfl, Nat.le_of_ble_eq_true rfl⟩ ⟨Nat.zero_le _, Nat.zero_le _⟩ (Nat.le_of_ble_eq_true rfl) (fun q2 M1 _ => ?_)
    refine go_icmp_ge 80 43 dX12_from_40 rfl (by decide) (fun _ => ?_) (fun _ => ?_)
    · refine go_iload_n 3 81 dX12_from_80 rfl rfl ?_
      exact go_iret rfl dX12_from_81
    · refine go_aload_n 0 44 dX12_from_43 rfl rfl ?_
      refine go_iload 4 46 dX12_from_44 rfl rfl ?_
      refine go_iload_n 1 47 dX12_from_46 rfl rfl ?_
      refine go_cVI2 2 clX12 cwX12_382 (m_X12_arrivesBy w o0 h0 x4 x1 M1) h0 50 dX12_from_47 rfl ⟨Nat.le_of_ble_eq_true rfl, Nat.le_of_ble_eq_true rfl⟩ ⟨Nat.zero_le _, Nat.zero_le _⟩ (Nat.le_of_ble_eq_true rfl) (fun q4 M3 _ => ?_)
      refine go_istore [(5, .int q4), (0, .ref (gB G + o0)), (1, .int x1), (2, .int x2), (3, .int x3), (4, .int x4)] 52 dX12_from_50 rfl (by decide) rfl ?_
      refine go_iload_n 4 53 dX12_from_52 rfl rfl ?_
      refine go_iload 0 55 dX12_from_53 rfl rfl ?_
      refine go_if_lt 71 58 dX12_from_55 rfl (by decide) (fun _ => ?_) (fun _ => ?_)
      · refine go_iconst 0 72 dX12_from_71 rfl (by decide) ?_
        refine go_ior 73 dX12_from_72 rfl ?_
        refine go_nmI (fun y5 => ?_)
        refine go_istore_n [(3, .int y5), (5, .int q4), (0, .ref (gB G + o0)), (1, .int x1), (2, .int x2), (4, .int x4)] 74 dX12_from_73 rfl rfl (by decide) rfl ?_
        refine go_iinc (x4 + 1) 5 [(4, .int (x4 + 1)), (3, .int y5), (5, .int q4), (0, .ref (gB G + o0)), (1, .int x1), (2, .int x2)] 77 dX12_from_74 rfl rfl rfl (by decide) rfl ?_
        refine go_goto 34 dX12_from_77 (by decide) ?_
        exact go_lv [3, 4, 5, 1, 0] rfl (ih o0 h0 x1 x2 y5 (x4 + 1) M3)
      · refine go_iload 0 60 dX12_from_58 rfl rfl ?_
        refine go_iload_n 3 61 dX12_from_60 rfl rfl ?_
        refine go_icmp_gt 71 64 dX12_from_61 rfl (by decide) (fun _ => ?_) (fun _ => ?_)
        · refine go_iconst 0 72 dX12_from_71 rfl (by decide) ?_
          refine go_ior 73 dX12_from_72 rfl ?_
          refine go_nmI (fun y6 => ?_)
          refine go_istore_n [(3, .int y6), (5, .int q4), (0, .ref (gB G + o0)), (1, .int x1), (2, .int x2), (4, .int x4)] 74 dX12_from_73 rfl rfl (by decide) rfl ?_
          refine go_iinc (x4 + 1) 5 [(4, .int (x4 + 1)), (3, .int y6), (5, .int q4), (0, .ref (gB G + o0)), (1, .int x1), (2, .int x2)] 77 dX12_from_74 rfl rfl rfl (by decide) rfl ?_
          refine go_goto 34 dX12_from_77 (by decide) ?_
          exact go_lv [3, 4, 5, 1, 0] rfl (ih o0 h0 x1 x2 y6 (x4 + 1) M3)
        · refine go_iconst 1 65 dX12_from_64 rfl (by decide) ?_
          refine go_iload 5 67 dX12_from_65 rfl rfl ?_
          refine go_ishl 68 dX12_from_67 rfl ?_
          refine go_goto 72 dX12_from_68 (by decide) ?_
          refine go_ior 73 dX12_from_72 rfl ?_
          refine go_nmI (fun y7 => ?_)
          refine go_istore_n [(3, .int y7), (5, .int q4), (0, .ref (gB G + o0)), (1, .int x1), (2, .int x2), (4, .int x4)] 74 dX12_from_73 rfl rfl (by decide) rfl ?_
          refine go_iinc (x4 + 1) 5 [(4, .int (x4 + 1)), (3, .int y7), (5, .int q4), (0, .ref (gB G + o0)), (1, .int x1), (2, .int x2)] 77 dX12_from_74 rfl rfl rfl (by decide) rfl ?_
          refine go_goto 34 dX12_from_77 (by decide) ?_
          exact go_lv [3, 4, 5, 1, 0] rfl (ih o0 h0 x1 x2 y7 (x4 + 1) M3)
def f_X12_from (w : Nat) (o0 : Nat) (x1 : Int32) (x2 : Int32) (M : mM) : Option (Int32 × mM) := lt (wI M o0 0 0) fun M1 => bI (f_X12_isRoom w o0 x1 M1) fun q3 M2 => (if q3 = 0 then some ((-1), M2) else bI (f_X12_within w x2 0 40 M2) fun q5 M4 => (if q5 = 0 then some ((-1), M4) else bV (f_X12_opensThen w o0 M4) fun M6 => (f_X12_from_34 w w o0 x1 x2 0 0 M6)))
set_option maxHeartbeats 4000000 in
set_option maxRecDepth 100000 in
theorem s_X12_from {l : Launch} {G : mG} {sk : List mS} (w : Nat) (o0 : Nat) (h0 : isK o0 22) (x1 : Int32) (x2 : Int32) (M : mM) : Go muX12_from (rm 6) 0 0 l G sk (mFin G sk eI) (f_X12_from w o0 x1 x2 M) 0 [(0, .ref (gB G + o0)), (1, .int x1), (2, .int x2)] [] M := by
  unfold f_X12_from
  refine go_aload_n 0 1 dX12_from_0 rfl rfl ?_
  refine go_iconst 0 2 dX12_from_1 rfl (by decide) ?_
  refine go_putI flX12_1 rfl rfl h0 5 dX12_from_2 rfl ?_
  refine go_nmM (fun M1 => ?_)
  refine go_aload_n 0 6 dX12_from_5 rfl rfl ?_
  refine go_iload_n 1 7 dX12_from_6 rfl rfl ?_
  refine go_cVI1 1 clX12 cwX12_357 (m_X12_isRoom w o0 h0 x1 M1) h0 10 dX12_from_7 rfl ⟨Nat.le_of_ble_eq_true rfl, Nat.le_of_ble_eq_true rfl⟩ ⟨Nat.zero_le _, Nat.zero_le _⟩ (Nat.le_of_ble_eq_true rfl) (fun q3 M2 _ => ?_)
  refine go_if_eq 23 13 dX12_from_10 rfl (by decide) (fun _ => ?_) (fun _ => ?_)
  · refine go_iconst (-1) 24 dX12_from_23 rfl (by decide) ?_
    exact go_iret rfl dX12_from_24
  · refine go_iload_n 2 14 dX12_from_13 rfl rfl ?_
    refine go_iconst 0 15 dX12_from_14 rfl (by decide) ?_
    refine go_bipush 40 17 dX12_from_15 rfl (by decide) ?_
    refine go_cSI3 0 cwX12_204 (m_X12_within w x2 0 40 M2) 20 dX12_from_17 rfl ⟨Nat.le_of_ble_eq_true rfl, Nat.le_of_ble_eq_true rfl⟩ ⟨Nat.zero_le _, Nat.zero_le _⟩ (Nat.le_of_ble_eq_true rfl) (fun q5 M4 _ => ?_)
    refine go_if_ne 25 23 dX12_from_20 rfl (by decide) (fun _ => ?_) (fun _ => ?_)
    · refine go_aload_n 0 26 dX12_from_25 rfl rfl ?_
      refine go_cVV0 5 clX12 cwX12_379 (m_X12_opensThen w o0 h0 M4) h0 29 dX12_from_26 rfl ⟨Nat.le_of_ble_eq_true rfl, Nat.le_of_ble_eq_true rfl⟩ ⟨Nat.zero_le _, Nat.zero_le _⟩ (Nat.le_of_ble_eq_true rfl) (fun M6 _ => ?_)
      refine go_iconst 0 30 dX12_from_29 rfl (by decide) ?_
      refine go_istore_n [(3, .int 0), (0, .ref (gB G + o0)), (1, .int x1), (2, .int x2)] 31 dX12_from_30 rfl rfl (by decide) rfl ?_
      refine go_iconst 0 32 dX12_from_31 rfl (by decide) ?_
      refine go_istore [(4, .int 0), (3, .int 0), (0, .ref (gB G + o0)), (1, .int x1), (2, .int x2)] 34 dX12_from_32 rfl (by decide) rfl ?_
      exact go_lv [2, 3, 4, 1, 0] rfl (s_X12_from_34 w w o0 h0 x1 x2 0 0 M6)
    · refine go_iconst (-1) 24 dX12_from_23 rfl (by decide) ?_
      exact go_iret rfl dX12_from_24
theorem m_X12_from {l : Launch} {G : mG} {sk : List mS} (w : Nat) (o0 : Nat) (h0 : isK o0 22) (x1 : Int32) (x2 : Int32) (M : mM) : Mt l G sk yX12_from muX12_from 6 [.ref (gB G + o0), .int x1, .int x2] M eI (f_X12_from w o0 x1 x2 M) := Mt.of (by decide) rfl (Nat.le_of_ble_eq_true rfl) (s_X12_from w o0 h0 x1 x2 M)
theorem dX12_both__0 : decode cX12_both_ 0 = .ok (.aload_n 0, 1) := by decide +kernel
theorem dX12_both__1 : decode cX12_both_ 1 = .ok (.iconst 0, 1) := by decide +kernel
theorem dX12_both__2 : decode cX12_both_ 2 = .ok (.putfield 1, 3) := by decide +kernel
theorem dX12_both__5 : decode cX12_both_ 5 = .ok (.aload_n 0, 1) := by decide +kernel
theorem dX12_both__6 : decode cX12_both_ 6 = .ok (.iload_n 1, 1) := by decide +kernel
theorem dX12_both__7 : decode cX12_both_ 7 = .ok (.invokevirtual 322, 3) := by decide +kernel
theorem dX12_both__10 : decode cX12_both_ 10 = .ok (.ifCond .eq 16, 3) := by decide +kernel
theorem dX12_both__13 : decode cX12_both_ 13 = .ok (.aload_n 0, 1) := by decide +kernel
theorem dX12_both__14 : decode cX12_both_ 14 = .ok (.iload_n 2, 1) := by decide +kernel
theorem dX12_both__15 : decode cX12_both_ 15 = .ok (.invokevirtual 322, 3) := by decide +kernel
theorem dX12_both__18 : decode cX12_both_ 18 = .ok (.ifCond .eq 8, 3) := by decide +kernel
theorem dX12_both__21 : decode cX12_both_ 21 = .ok (.iload_n 1, 1) := by decide +kernel
theorem dX12_both__22 : decode cX12_both_ 22 = .ok (.iload_n 2, 1) := by decide +kernel
theorem dX12_both__23 : decode cX12_both_ 23 = .ok (.if_icmp .ne 5, 3) := by decide +kernel
theorem dX12_both__26 : decode cX12_both_ 26 = .ok (.iconst (-1), 1) := by decide +kernel
theorem dX12_both__27 : decode cX12_both_ 27 = .ok (.ireturn, 1) := by decide +kernel
theorem dX12_both__28 : decode cX12_both_ 28 = .ok (.aload_n 0, 1) := by decide +kernel
theorem dX12_both__29 : decode cX12_both_ 29 = .ok (.invokevirtual 379, 3) := by decide +kernel
theorem dX12_both__32 : decode cX12_both_ 32 = .ok (.iconst 1, 1) := by decide +kernel
theorem dX12_both__33 : decode cX12_both_ 33 = .ok (.aload_n 0, 1) := by decide +kernel
theorem dX12_both__34 : decode cX12_both_ 34 = .ok (.getfield 113, 3) := by decide +kernel
theorem dX12_both__37 : decode cX12_both_ 37 = .ok (.bipush 18, 2) := by decide +kernel
theorem dX12_both__39 : decode cX12_both_ 39 = .ok (.iload_n 1, 1) := by decide +kernel
theorem dX12_both__40 : decode cX12_both_ 40 = .ok (.iadd, 1) := by decide +kernel
theorem dX12_both__41 : decode cX12_both_ 41 = .ok (.iaload, 1) := by decide +kernel
theorem dX12_both__42 : decode cX12_both_ 42 = .ok (.ishl, 1) := by decide +kernel
theorem dX12_both__43 : decode cX12_both_ 43 = .ok (.istore_n 3, 1) := by decide +kernel
theorem dX12_both__44 : decode cX12_both_ 44 = .ok (.iconst 1, 1) := by decide +kernel
theorem dX12_both__45 : decode cX12_both_ 45 = .ok (.aload_n 0, 1) := by decide +kernel
theorem dX12_both__46 : decode cX12_both_ 46 = .ok (.getfield 113, 3) := by decide +kernel
theorem dX12_both__49 : decode cX12_both_ 49 = .ok (.bipush 18, 2) := by decide +kernel
theorem dX12_both__51 : decode cX12_both_ 51 = .ok (.iload_n 2, 1) := by decide +kernel
theorem dX12_both__52 : decode cX12_both_ 52 = .ok (.iadd, 1) := by decide +kernel
theorem dX12_both__53 : decode cX12_both_ 53 = .ok (.iaload, 1) := by decide +kernel
theorem dX12_both__54 : decode cX12_both_ 54 = .ok (.ishl, 1) := by decide +kernel
theorem dX12_both__55 : decode cX12_both_ 55 = .ok (.istore 4, 2) := by decide +kernel
theorem dX12_both__57 : decode cX12_both_ 57 = .ok (.iconst 0, 1) := by decide +kernel
theorem dX12_both__58 : decode cX12_both_ 58 = .ok (.istore 5, 2) := by decide +kernel
theorem dX12_both__60 : decode cX12_both_ 60 = .ok (.iload 5, 2) := by decide +kernel
theorem dX12_both__62 : decode cX12_both_ 62 = .ok (.bipush 40, 2) := by decide +kernel
theorem dX12_both__64 : decode cX12_both_ 64 = .ok (.if_icmp .gt 47, 3) := by decide +kernel
theorem dX12_both__67 : decode cX12_both_ 67 = .ok (.iload_n 3, 1) := by decide +kernel
theorem dX12_both__68 : decode cX12_both_ 68 = .ok (.iload 4, 2) := by decide +kernel
theorem dX12_both__70 : decode cX12_both_ 70 = .ok (.iand, 1) := by decide +kernel
theorem dX12_both__71 : decode cX12_both_ 71 = .ok (.ifCond .eq 6, 3) := by decide +kernel
theorem dX12_both__74 : decode cX12_both_ 74 = .ok (.iload 5, 2) := by decide +kernel
theorem dX12_both__76 : decode cX12_both_ 76 = .ok (.ireturn, 1) := by decide +kernel
theorem dX12_both__77 : decode cX12_both_ 77 = .ok (.aload_n 0, 1) := by decide +kernel
theorem dX12_both__78 : decode cX12_both_ 78 = .ok (.iload_n 3, 1) := by decide +kernel
theorem dX12_both__79 : decode cX12_both_ 79 = .ok (.aload_n 0, 1) := by decide +kernel
theorem dX12_both__80 : decode cX12_both_ 80 = .ok (.getfield 120, 3) := by decide +kernel
theorem dX12_both__83 : decode cX12_both_ 83 = .ok (.iload 5, 2) := by decide +kernel
theorem dX12_both__85 : decode cX12_both_ 85 = .ok (.iaload, 1) := by decide +kernel
theorem dX12_both__86 : decode cX12_both_ 86 = .ok (.invokevirtual 354, 3) := by decide +kernel
theorem dX12_both__89 : decode cX12_both_ 89 = .ok (.istore_n 3, 1) := by decide +kernel
theorem dX12_both__90 : decode cX12_both_ 90 = .ok (.aload_n 0, 1) := by decide +kernel
theorem dX12_both__91 : decode cX12_both_ 91 = .ok (.iload 4, 2) := by decide +kernel
theorem dX12_both__93 : decode cX12_both_ 93 = .ok (.aload_n 0, 1) := by decide +kernel
theorem dX12_both__94 : decode cX12_both_ 94 = .ok (.getfield 120, 3) := by decide +kernel
theorem dX12_both__97 : decode cX12_both_ 97 = .ok (.iload 5, 2) := by decide +kernel
theorem dX12_both__99 : decode cX12_both_ 99 = .ok (.iaload, 1) := by decide +kernel
theorem dX12_both__100 : decode cX12_both_ 100 = .ok (.invokevirtual 354, 3) := by decide +kernel
theorem dX12_both__103 : decode cX12_both_ 103 = .ok (.istore 4, 2) := by decide +kernel
theorem dX12_both__105 : decode cX12_both_ 105 = .ok (.iinc 5 1, 3) := by decide +kernel
theorem dX12_both__108 : decode cX12_both_ 108 = .ok (.goto (-48), 3) := by decide +kernel
theorem dX12_both__111 : decode cX12_both_ 111 = .ok (.iconst (-1), 1) := by decide +kernel
theorem dX12_both__112 : decode cX12_both_ 112 = .ok (.ireturn, 1) := by decide +kernel
def f_X12_both__60 (w : Nat) : Nat → Nat → Int32 → Int32 → Int32 → mM → Option (Int32 × mM)
  | 0, _, _, _, _, _ => none
  | n + 1, o0, x3, x4, x5, M => (if 40 < x5 then some ((-1), M) else (if (x3 &&& x4) = 0 then chk x5 (sL (rF o0 27)) (bI (f_X12_onFrom w o0 x3 (M.1 (rF o0 27) x5.toNatClampNeg) M) fun q2 M1 => chk x5 (sL (rF o0 27)) (bI (f_X12_onFrom w o0 x4 (M1.1 (rF o0 27) x5.toNatClampNeg) M1) fun q4 M3 => (f_X12_both__60 w n o0 q2 q4 (x5 + 1) M3))) else some (x5, M)))
set_option maxHeartbeats 4000000 in
set_option maxRecDepth 100000 in
theorem s_X12_both__60 {l : Launch} {G : mG} {sk : List mS} (w : Nat) : ∀ (n : Nat) (o0 : Nat) (h0 : isK o0 22) (x3 : Int32) (x4 : Int32) (x5 : Int32) (M : mM), Go muX12_both_ (rm 6) 0 0 l G sk (mFin G sk eI) (f_X12_both__60 w n o0 x3 x4 x5 M) 60 [(0, .ref (gB G + o0)), (3, .int x3), (4, .int x4), (5, .int x5)] [] M := by
  intro n
  induction n with
  | zero =>
    intros
    exact go_none
  | succ n ih =>
    intro o0 h0 x3 x4 x5 M
    rw [f_X12_both__60]
    refine go_iload 3 62 dX12_both__60 rfl rfl ?_
    refine go_bipush 40 64 dX12_both__62 rfl (by decide) ?_
    refine go_icmp_gt 111 67 dX12_both__64 rfl (by decide) (fun _ => ?_) (fun _ => ?_)
    · refine go_iconst (-1) 112 dX12_both__111 rfl (by decide) ?_
      exact go_iret rfl dX12_both__112
    · refine go_iload_n 1 68 dX12_both__67 rfl rfl ?_
      refine go_iload 2 70 dX12_both__68 rfl rfl ?_
      refine go_iand 71 dX12_both__70 rfl ?_
      refine go_if_eq 77 74 dX12_both__71 rfl (by decide) (fun _ => ?_) (fun _ => ?_)
      · refine go_aload_n 0 78 dX12_both__77 rfl rfl ?_
        refine go_iload_n 1 79 dX12_both__78 rfl rfl ?_
        refine go_aload_n 0 80 dX12_both__79 rfl rfl ?_
        refine go_getR flX12_120 h0 83 dX12_both__80 rfl ?_
        refine go_iload 3 85 dX12_both__83 rfl rfl ?_
        refine go_iald (rk12_27 h0) 86 dX12_both__85 rfl ?_
        refine go_cVI2 1 clX12 cwX12_354 (m_X12_onFrom w o0 h0 x3 (M.1 (rF o0 27) x5.toNatClampNeg) M) h0 89 dX12_both__86 rfl ⟨Nat.le_of_ble_eq_true rfl, Nat.le_of_ble_eq_true rfl⟩ ⟨Nat.zero_le _, Nat.zero_le _⟩ (Nat.le_of_ble_eq_true rfl) (fun q2 M1 _ => ?_)
        refine go_istore_n [(3, .int q2), (0, .ref (gB G + o0)), (4, .int x4), (5, .int x5)] 90 dX12_both__89 rfl rfl (by decide) rfl ?_
        refine go_aload_n 1 91 dX12_both__90 rfl rfl ?_
        refine go_iload 2 93 dX12_both__91 rfl rfl ?_
        refine go_aload_n 1 94 dX12_both__93 rfl rfl ?_
        refine go_getR flX12_120 h0 97 dX12_both__94 rfl ?_
        refine go_iload 3 99 dX12_both__97 rfl rfl ?_
        refine go_iald (rk12_27 h0) 100 dX12_both__99 rfl ?_
        refine go_cVI2 1 clX12 cwX12_354 (m_X12_onFrom w o0 h0 x4 (M1.1 (rF o0 27) x5.toNatClampNeg) M1) h0 103 dX12_both__100 rfl ⟨Nat.le_of_ble_eq_true rfl, Nat.le_of_ble_eq_true rfl⟩ ⟨Nat.zero_le _, Nat.zero_le _⟩ (Nat.le_of_ble_eq_true rfl) (fun q4 M3 _ => ?_)
        refine go_istore [(4, .int q4), (3, .int q2), (0, .ref (gB G + o0)), (5, .int x5)] 105 dX12_both__103 rfl (by decide) rfl ?_
        refine go_iinc (x5 + 1) 3 [(5, .int (x5 + 1)), (4, .int q4), (3, .int q2), (0, .ref (gB G + o0))] 108 dX12_both__105 rfl rfl rfl (by decide) rfl ?_
        refine go_goto 60 dX12_both__108 (by decide) ?_
        exact go_lv [3, 2, 1, 0] rfl (ih o0 h0 q2 q4 (x5 + 1) M3)
      · refine go_iload 3 76 dX12_both__74 rfl rfl ?_
        exact go_iret rfl dX12_both__76
def f_X12_both_ (w : Nat) (o0 : Nat) (x1 : Int32) (x2 : Int32) (M : mM) : Option (Int32 × mM) := lt (wI M o0 0 0) fun M1 => bI (f_X12_isPerson w o0 x1 M1) fun q3 M2 => (if q3 = 0 then some ((-1), M2) else bI (f_X12_isPerson w o0 x2 M2) fun q5 M4 => (if q5 = 0 then some ((-1), M4) else (if x1 = x2 then some ((-1), M4) else bV (f_X12_opensThen w o0 M4) fun M6 => chk (18 + x1) (sL (rF o0 24)) (lt ((1 : Int32) <<< ((M6.1 (rF o0 24) (18 + x1).toNatClampNeg) &&& 31)) fun y7 => chk (18 + x2) (sL (rF o0 24)) (lt ((1 : Int32) <<< ((M6.1 (rF o0 24) (18 + x2).toNatClampNeg) &&& 31)) fun y8 => (f_X12_both__60 w w o0 y7 y8 0 M6))))))
set_option maxHeartbeats 4000000 in
set_option maxRecDepth 100000 in
theorem s_X12_both_ {l : Launch} {G : mG} {sk : List mS} (w : Nat) (o0 : Nat) (h0 : isK o0 22) (x1 : Int32) (x2 : Int32) (M : mM) : Go muX12_both_ (rm 6) 0 0 l G sk (mFin G sk eI) (f_X12_both_ w o0 x1 x2 M) 0 [(0, .ref (gB G + o0)), (1, .int x1), (2, .int x2)] [] M := by
  unfold f_X12_both_
  refine go_aload_n 0 1 dX12_both__0 rfl rfl ?_
  refine go_iconst 0 2 dX12_both__1 rfl (by decide) ?_
  refine go_putI flX12_1 rfl rfl h0 5 dX12_both__2 rfl ?_
  refine go_nmM (fun M1 => ?_)
  refine go_aload_n 0 6 dX12_both__5 rfl rfl ?_
  refine go_iload_n 1 7 dX12_both__6 rfl rfl ?_
  refine go_cVI1 1 clX12 cwX12_322 (m_X12_isPerson w o0 h0 x1 M1) h0 10 dX12_both__7 rfl ⟨Nat.le_of_ble_eq_true rfl, Nat.le_of_ble_eq_true rfl⟩ ⟨Nat.zero_le _, Nat.zero_le _⟩ (Nat.le_of_ble_eq_true rfl) (fun q3 M2 _ => ?_)
  refine go_if_eq 26 13 dX12_both__10 rfl (by decide) (fun _ => ?_) (fun _ => ?_)
  · refine go_iconst (-1) 27 dX12_both__26 rfl (by decide) ?_
    exact go_iret rfl dX12_both__27
  · refine go_aload_n 0 14 dX12_both__13 rfl rfl ?_
    refine go_iload_n 2 15 dX12_both__14 rfl rfl ?_
    refine go_cVI1 1 clX12 cwX12_322 (m_X12_isPerson w o0 h0 x2 M2) h0 18 dX12_both__15 rfl ⟨Nat.le_of_ble_eq_true rfl, Nat.le_of_ble_eq_true rfl⟩ ⟨Nat.zero_le _, Nat.zero_le _⟩ (Nat.le_of_ble_eq_true rfl) (fun q5 M4 _ => ?_)
    refine go_if_eq 26 21 dX12_both__18 rfl (by decide) (fun _ => ?_) (fun _ => ?_)
    · refine go_iconst (-1) 27 dX12_both__26 rfl (by decide) ?_
      exact go_iret rfl dX12_both__27
    · refine go_iload_n 1 22 dX12_both__21 rfl rfl ?_
      refine go_iload_n 2 23 dX12_both__22 rfl rfl ?_
      refine go_icmp_ne 28 26 dX12_both__23 rfl (by decide) (fun _ => ?_) (fun _ => ?_)
      · refine go_aload_n 0 29 dX12_both__28 rfl rfl ?_
        refine go_cVV0 5 clX12 cwX12_379 (m_X12_opensThen w o0 h0 M4) h0 32 dX12_both__29 rfl ⟨Nat.le_of_ble_eq_true rfl, Nat.le_of_ble_eq_true rfl⟩ ⟨Nat.zero_le _, Nat.zero_le _⟩ (Nat.le_of_ble_eq_true rfl) (fun M6 _ => ?_)
        refine go_iconst 1 33 dX12_both__32 rfl (by decide) ?_
        refine go_aload_n 0 34 dX12_both__33 rfl rfl ?_
        refine go_getR flX12_113 h0 37 dX12_both__34 rfl ?_
        refine go_bipush 18 39 dX12_both__37 rfl (by decide) ?_
        refine go_iload_n 1 40 dX12_both__39 rfl rfl ?_
        refine go_iadd 41 dX12_both__40 rfl ?_
        refine go_iald (rk12_24 h0) 42 dX12_both__41 rfl ?_
        refine go_ishl 43 dX12_both__42 rfl ?_
        refine go_nmI (fun y7 => ?_)
        refine go_istore_n [(3, .int y7), (0, .ref (gB G + o0)), (1, .int x1), (2, .int x2)] 44 dX12_both__43 rfl rfl (by decide) rfl ?_
        refine go_iconst 1 45 dX12_both__44 rfl (by decide) ?_
        refine go_aload_n 1 46 dX12_both__45 rfl rfl ?_
        refine go_getR flX12_113 h0 49 dX12_both__46 rfl ?_
        refine go_bipush 18 51 dX12_both__49 rfl (by decide) ?_
        refine go_iload_n 3 52 dX12_both__51 rfl rfl ?_
        refine go_iadd 53 dX12_both__52 rfl ?_
        refine go_iald (rk12_24 h0) 54 dX12_both__53 rfl ?_
        refine go_ishl 55 dX12_both__54 rfl ?_
        refine go_nmI (fun y8 => ?_)
        refine go_istore [(4, .int y8), (3, .int y7), (0, .ref (gB G + o0)), (1, .int x1), (2, .int x2)] 57 dX12_both__55 rfl (by decide) rfl ?_
        refine go_iconst 0 58 dX12_both__57 rfl (by decide) ?_
        refine go_istore [(5, .int 0), (4, .int y8), (3, .int y7), (0, .ref (gB G + o0)), (1, .int x1), (2, .int x2)] 60 dX12_both__58 rfl (by decide) rfl ?_
        exact go_lv [3, 2, 1, 0] rfl (s_X12_both__60 w w o0 h0 y7 y8 0 M6)
      · refine go_iconst (-1) 27 dX12_both__26 rfl (by decide) ?_
        exact go_iret rfl dX12_both__27
theorem m_X12_both_ {l : Launch} {G : mG} {sk : List mS} (w : Nat) (o0 : Nat) (h0 : isK o0 22) (x1 : Int32) (x2 : Int32) (M : mM) : Mt l G sk yX12_both_ muX12_both_ 6 [.ref (gB G + o0), .int x1, .int x2] M eI (f_X12_both_ w o0 x1 x2 M) := Mt.of (by decide) rfl (Nat.le_of_ble_eq_true rfl) (s_X12_both_ w o0 h0 x1 x2 M)
theorem dX12_areOne_0 : decode cX12_areOne 0 = .ok (.aload_n 0, 1) := by decide +kernel
theorem dX12_areOne_1 : decode cX12_areOne 1 = .ok (.invokevirtual 372, 3) := by decide +kernel
theorem dX12_areOne_4 : decode cX12_areOne 4 = .ok (.iconst 0, 1) := by decide +kernel
theorem dX12_areOne_5 : decode cX12_areOne 5 = .ok (.istore_n 2, 1) := by decide +kernel
theorem dX12_areOne_6 : decode cX12_areOne 6 = .ok (.iload_n 2, 1) := by decide +kernel
theorem dX12_areOne_7 : decode cX12_areOne 7 = .ok (.aload_n 0, 1) := by decide +kernel
theorem dX12_areOne_8 : decode cX12_areOne 8 = .ok (.invokevirtual 272, 3) := by decide +kernel
theorem dX12_areOne_11 : decode cX12_areOne 11 = .ok (.if_icmp .ge 25, 3) := by decide +kernel
theorem dX12_areOne_14 : decode cX12_areOne 14 = .ok (.aload_n 0, 1) := by decide +kernel
theorem dX12_areOne_15 : decode cX12_areOne 15 = .ok (.getfield 113, 3) := by decide +kernel
theorem dX12_areOne_18 : decode cX12_areOne 18 = .ok (.sipush 1367, 3) := by decide +kernel
theorem dX12_areOne_21 : decode cX12_areOne 21 = .ok (.iload_n 2, 1) := by decide +kernel
theorem dX12_areOne_22 : decode cX12_areOne 22 = .ok (.iadd, 1) := by decide +kernel
theorem dX12_areOne_23 : decode cX12_areOne 23 = .ok (.aload_n 0, 1) := by decide +kernel
theorem dX12_areOne_24 : decode cX12_areOne 24 = .ok (.getfield 126, 3) := by decide +kernel
theorem dX12_areOne_27 : decode cX12_areOne 27 = .ok (.iload_n 2, 1) := by decide +kernel
theorem dX12_areOne_28 : decode cX12_areOne 28 = .ok (.iaload, 1) := by decide +kernel
theorem dX12_areOne_29 : decode cX12_areOne 29 = .ok (.iastore, 1) := by decide +kernel
theorem dX12_areOne_30 : decode cX12_areOne 30 = .ok (.iinc 2 1, 3) := by decide +kernel
theorem dX12_areOne_33 : decode cX12_areOne 33 = .ok (.goto (-27), 3) := by decide +kernel
theorem dX12_areOne_36 : decode cX12_areOne 36 = .ok (.iconst 0, 1) := by decide +kernel
theorem dX12_areOne_37 : decode cX12_areOne 37 = .ok (.istore_n 2, 1) := by decide +kernel
theorem dX12_areOne_38 : decode cX12_areOne 38 = .ok (.iload_n 2, 1) := by decide +kernel
theorem dX12_areOne_39 : decode cX12_areOne 39 = .ok (.iload_n 1, 1) := by decide +kernel
theorem dX12_areOne_40 : decode cX12_areOne 40 = .ok (.if_icmp .ge 16, 3) := by decide +kernel
theorem dX12_areOne_43 : decode cX12_areOne 43 = .ok (.aload_n 0, 1) := by decide +kernel
theorem dX12_areOne_44 : decode cX12_areOne 44 = .ok (.sipush 1365, 3) := by decide +kernel
theorem dX12_areOne_47 : decode cX12_areOne 47 = .ok (.invokevirtual 328, 3) := by decide +kernel
theorem dX12_areOne_50 : decode cX12_areOne 50 = .ok (.iinc 2 1, 3) := by decide +kernel
theorem dX12_areOne_53 : decode cX12_areOne 53 = .ok (.goto (-15), 3) := by decide +kernel
theorem dX12_areOne_56 : decode cX12_areOne 56 = .ok (.iconst 1, 1) := by decide +kernel
theorem dX12_areOne_57 : decode cX12_areOne 57 = .ok (.istore_n 2, 1) := by decide +kernel
theorem dX12_areOne_58 : decode cX12_areOne 58 = .ok (.iconst 1, 1) := by decide +kernel
theorem dX12_areOne_59 : decode cX12_areOne 59 = .ok (.istore_n 3, 1) := by decide +kernel
theorem dX12_areOne_60 : decode cX12_areOne 60 = .ok (.iload_n 3, 1) := by decide +kernel
theorem dX12_areOne_61 : decode cX12_areOne 61 = .ok (.aload_n 0, 1) := by decide +kernel
theorem dX12_areOne_62 : decode cX12_areOne 62 = .ok (.invokevirtual 279, 3) := by decide +kernel
theorem dX12_areOne_65 : decode cX12_areOne 65 = .ok (.if_icmp .ge 53, 3) := by decide +kernel
theorem dX12_areOne_68 : decode cX12_areOne 68 = .ok (.iload_n 2, 1) := by decide +kernel
theorem dX12_areOne_69 : decode cX12_areOne 69 = .ok (.ifCond .eq 41, 3) := by decide +kernel
theorem dX12_areOne_72 : decode cX12_areOne 72 = .ok (.aload_n 0, 1) := by decide +kernel
theorem dX12_areOne_73 : decode cX12_areOne 73 = .ok (.aload_n 0, 1) := by decide +kernel
theorem dX12_areOne_74 : decode cX12_areOne 74 = .ok (.getfield 113, 3) := by decide +kernel
theorem dX12_areOne_77 : decode cX12_areOne 77 = .ok (.bipush 18, 2) := by decide +kernel
theorem dX12_areOne_79 : decode cX12_areOne 79 = .ok (.iaload, 1) := by decide +kernel
theorem dX12_areOne_80 : decode cX12_areOne 80 = .ok (.aload_n 0, 1) := by decide +kernel
theorem dX12_areOne_81 : decode cX12_areOne 81 = .ok (.sipush 1365, 3) := by decide +kernel
theorem dX12_areOne_84 : decode cX12_areOne 84 = .ok (.invokevirtual 360, 3) := by decide +kernel
theorem dX12_areOne_87 : decode cX12_areOne 87 = .ok (.invokevirtual 363, 3) := by decide +kernel
theorem dX12_areOne_90 : decode cX12_areOne 90 = .ok (.aload_n 0, 1) := by decide +kernel
theorem dX12_areOne_91 : decode cX12_areOne 91 = .ok (.getfield 113, 3) := by decide +kernel
theorem dX12_areOne_94 : decode cX12_areOne 94 = .ok (.bipush 18, 2) := by decide +kernel
theorem dX12_areOne_96 : decode cX12_areOne 96 = .ok (.iload_n 3, 1) := by decide +kernel
theorem dX12_areOne_97 : decode cX12_areOne 97 = .ok (.iadd, 1) := by decide +kernel
theorem dX12_areOne_98 : decode cX12_areOne 98 = .ok (.iaload, 1) := by decide +kernel
theorem dX12_areOne_99 : decode cX12_areOne 99 = .ok (.ishr, 1) := by decide +kernel
theorem dX12_areOne_100 : decode cX12_areOne 100 = .ok (.iconst 1, 1) := by decide +kernel
theorem dX12_areOne_101 : decode cX12_areOne 101 = .ok (.iand, 1) := by decide +kernel
theorem dX12_areOne_102 : decode cX12_areOne 102 = .ok (.iconst 1, 1) := by decide +kernel
theorem dX12_areOne_103 : decode cX12_areOne 103 = .ok (.if_icmp .ne 7, 3) := by decide +kernel
theorem dX12_areOne_106 : decode cX12_areOne 106 = .ok (.iconst 1, 1) := by decide +kernel
theorem dX12_areOne_107 : decode cX12_areOne 107 = .ok (.goto 4, 3) := by decide +kernel
theorem dX12_areOne_110 : decode cX12_areOne 110 = .ok (.iconst 0, 1) := by decide +kernel
theorem dX12_areOne_111 : decode cX12_areOne 111 = .ok (.istore_n 2, 1) := by decide +kernel
theorem dX12_areOne_112 : decode cX12_areOne 112 = .ok (.iinc 3 1, 3) := by decide +kernel
theorem dX12_areOne_115 : decode cX12_areOne 115 = .ok (.goto (-55), 3) := by decide +kernel
theorem dX12_areOne_118 : decode cX12_areOne 118 = .ok (.iload_n 2, 1) := by decide +kernel
theorem dX12_areOne_119 : decode cX12_areOne 119 = .ok (.ireturn, 1) := by decide +kernel
def f_X12_areOne_60 (w : Nat) : Nat → Nat → Int32 → Int32 → mM → Option (Int32 × mM)
  | 0, _, _, _, _ => none
  | n + 1, o0, x2, x3, M => bI (f_X12_persons w o0 M) fun q2 M1 => (if q2 ≤ x3 then rtB x2 M1 else (if x2 = 0 then (f_X12_areOne_60 w n o0 0 (x3 + 1) M1) else chk 18 (sL (rF o0 24)) (bI (f_X12_openNow w o0 1365 M1) fun q4 M3 => bI (f_X12_rangeBy w o0 (M1.1 (rF o0 24) (18 : Int32).toNatClampNeg) q4 M3) fun q6 M5 => chk (18 + x3) (sL (rF o0 24)) ((if ((q6 >>> ((M5.1 (rF o0 24) (18 + x3).toNatClampNeg) &&& 31)) &&& 1) = 1 then (f_X12_areOne_60 w n o0 1 (x3 + 1) M5) else (f_X12_areOne_60 w n o0 0 (x3 + 1) M5))))))
set_option maxHeartbeats 4000000 in
set_option maxRecDepth 100000 in
theorem s_X12_areOne_60 {l : Launch} {G : mG} {sk : List mS} (w : Nat) : ∀ (n : Nat) (o0 : Nat) (h0 : isK o0 22) (x2 : Int32) (x3 : Int32) (M : mM), Go muX12_areOne (rm 5) 0 0 l G sk (mFin G sk eI) (f_X12_areOne_60 w n o0 x2 x3 M) 60 [(0, .ref (gB G + o0)), (2, .int x2), (3, .int x3)] [] M := by
  intro n
  induction n with
  | zero =>
    intros
    exact go_none
  | succ n ih =>
    intro o0 h0 x2 x3 M
    rw [f_X12_areOne_60]
    refine go_iload_n 2 61 dX12_areOne_60 rfl rfl ?_
    refine go_aload_n 0 62 dX12_areOne_61 rfl rfl ?_
    refine go_cVI0 0 clX12 cwX12_279 (m_X12_persons w o0 h0 M) h0 65 dX12_areOne_62 rfl ⟨Nat.le_of_ble_eq_true rfl, Nat.le_of_ble_eq_true rfl⟩ ⟨Nat.zero_le _, Nat.zero_le _⟩ (Nat.le_of_ble_eq_true rfl) (fun q2 M1 _ => ?_)
    refine go_icmp_ge 118 68 dX12_areOne_65 rfl (by decide) (fun _ => ?_) (fun _ => ?_)
    · refine go_iload_n 1 119 dX12_areOne_118 rfl rfl ?_
      exact go_zret rfl dX12_areOne_119
    · refine go_iload_n 1 69 dX12_areOne_68 rfl rfl ?_
      refine go_if_eq 110 72 dX12_areOne_69 rfl (by decide) (fun _ => ?_) (fun _ => ?_)
      · refine go_iconst 0 111 dX12_areOne_110 rfl (by decide) ?_
        refine go_istore_n [(2, .int 0), (0, .ref (gB G + o0)), (3, .int x3)] 112 dX12_areOne_111 rfl rfl (by decide) rfl ?_
        refine go_iinc (x3 + 1) 2 [(3, .int (x3 + 1)), (2, .int 0), (0, .ref (gB G + o0))] 115 dX12_areOne_112 rfl rfl rfl (by decide) rfl ?_
        refine go_goto 60 dX12_areOne_115 (by decide) ?_
        exact go_lv [2, 1, 0] rfl (ih o0 h0 0 (x3 + 1) M1)
      · refine go_aload_n 0 73 dX12_areOne_72 rfl rfl ?_
        refine go_aload_n 0 74 dX12_areOne_73 rfl rfl ?_
        refine go_getR flX12_113 h0 77 dX12_areOne_74 rfl ?_
        refine go_bipush 18 79 dX12_areOne_77 rfl (by decide) ?_
        refine go_iald (rk12_24 h0) 80 dX12_areOne_79 rfl ?_
        refine go_aload_n 0 81 dX12_areOne_80 rfl rfl ?_
        refine go_sipush 1365 84 dX12_areOne_81 rfl (by decide) ?_
        refine go_cVI1 3 clX12 cwX12_360 (m_X12_openNow w o0 h0 1365 M1) h0 87 dX12_areOne_84 rfl ⟨Nat.le_of_ble_eq_true rfl, Nat.le_of_ble_eq_true rfl⟩ ⟨Nat.zero_le _, Nat.zero_le _⟩ (Nat.le_of_ble_eq_true rfl) (fun q4 M3 _ => ?_)
        refine go_cVI2 2 clX12 cwX12_363 (m_X12_rangeBy w o0 h0 (M1.1 (rF o0 24) (18 : Int32).toNatClampNeg) q4 M3) h0 90 dX12_areOne_87 rfl ⟨Nat.le_of_ble_eq_true rfl, Nat.le_of_ble_eq_true rfl⟩ ⟨Nat.zero_le _, Nat.zero_le _⟩ (Nat.le_of_ble_eq_true rfl) (fun q6 M5 _ => ?_)
        refine go_aload_n 0 91 dX12_areOne_90 rfl rfl ?_
        refine go_getR flX12_113 h0 94 dX12_areOne_91 rfl ?_
        refine go_bipush 18 96 dX12_areOne_94 rfl (by decide) ?_
        refine go_iload_n 2 97 dX12_areOne_96 rfl rfl ?_
        refine go_iadd 98 dX12_areOne_97 rfl ?_
        refine go_iald (rk12_24 h0) 99 dX12_areOne_98 rfl ?_
        refine go_ishr 100 dX12_areOne_99 rfl ?_
        refine go_iconst 1 101 dX12_areOne_100 rfl (by decide) ?_
        refine go_iand 102 dX12_areOne_101 rfl ?_
        refine go_iconst 1 103 dX12_areOne_102 rfl (by decide) ?_
        refine go_icmp_ne 110 106 dX12_areOne_103 rfl (by decide) (fun _ => ?_) (fun _ => ?_)
        · refine go_iconst 0 111 dX12_areOne_110 rfl (by decide) ?_
          refine go_istore_n [(2, .int 0), (0, .ref (gB G + o0)), (3, .int x3)] 112 dX12_areOne_111 rfl rfl (by decide) rfl ?_
          refine go_iinc (x3 + 1) 2 [(3, .int (x3 + 1)), (2, .int 0), (0, .ref (gB G + o0))] 115 dX12_areOne_112 rfl rfl rfl (by decide) rfl ?_
          refine go_goto 60 dX12_areOne_115 (by decide) ?_
          exact go_lv [2, 1, 0] rfl (ih o0 h0 0 (x3 + 1) M5)
        · refine go_iconst 1 107 dX12_areOne_106 rfl (by decide) ?_
          refine go_goto 111 dX12_areOne_107 (by decide) ?_
          refine go_istore_n [(2, .int 1), (0, .ref (gB G + o0)), (3, .int x3)] 112 dX12_areOne_111 rfl rfl (by decide) rfl ?_
          refine go_iinc (x3 + 1) 2 [(3, .int (x3 + 1)), (2, .int 1), (0, .ref (gB G + o0))] 115 dX12_areOne_112 rfl rfl rfl (by decide) rfl ?_
          refine go_goto 60 dX12_areOne_115 (by decide) ?_
          exact go_lv [2, 1, 0] rfl (ih o0 h0 1 (x3 + 1) M5)
def f_X12_areOne_56 (w : Nat) (o0 : Nat) (M : mM) : Option (Int32 × mM) := (f_X12_areOne_60 w w o0 1 1 M)
set_option maxHeartbeats 4000000 in
set_option maxRecDepth 100000 in
theorem s_X12_areOne_56 {l : Launch} {G : mG} {sk : List mS} (w : Nat) (o0 : Nat) (h0 : isK o0 22) (M : mM) : Go muX12_areOne (rm 5) 0 0 l G sk (mFin G sk eI) (f_X12_areOne_56 w o0 M) 56 [(0, .ref (gB G + o0))] [] M := by
  unfold f_X12_areOne_56
  refine go_iconst 1 57 dX12_areOne_56 rfl (by decide) ?_
  refine go_istore_n [(2, .int 1), (0, .ref (gB G + o0))] 58 dX12_areOne_57 rfl rfl (by decide) rfl ?_
  refine go_iconst 1 59 dX12_areOne_58 rfl (by decide) ?_
  refine go_istore_n [(3, .int 1), (2, .int 1), (0, .ref (gB G + o0))] 60 dX12_areOne_59 rfl rfl (by decide) rfl ?_
  exact go_lv [2, 1, 0] rfl (s_X12_areOne_60 w w o0 h0 1 1 M)
def f_X12_areOne_38 (w : Nat) : Nat → Nat → Int32 → Int32 → mM → Option (Int32 × mM)
  | 0, _, _, _, _ => none
  | n + 1, o0, x1, x2, M => (if x1 ≤ x2 then (f_X12_areOne_56 w o0 M) else bV (f_X12_passes_ w o0 1365 M) fun M1 => (f_X12_areOne_38 w n o0 x1 (x2 + 1) M1))
set_option maxHeartbeats 4000000 in
set_option maxRecDepth 100000 in
theorem s_X12_areOne_38 {l : Launch} {G : mG} {sk : List mS} (w : Nat) : ∀ (n : Nat) (o0 : Nat) (h0 : isK o0 22) (x1 : Int32) (x2 : Int32) (M : mM), Go muX12_areOne (rm 5) 0 0 l G sk (mFin G sk eI) (f_X12_areOne_38 w n o0 x1 x2 M) 38 [(0, .ref (gB G + o0)), (1, .int x1), (2, .int x2)] [] M := by
  intro n
  induction n with
  | zero =>
    intros
    exact go_none
  | succ n ih =>
    intro o0 h0 x1 x2 M
    rw [f_X12_areOne_38]
    refine go_iload_n 2 39 dX12_areOne_38 rfl rfl ?_
    refine go_iload_n 1 40 dX12_areOne_39 rfl rfl ?_
    refine go_icmp_ge 56 43 dX12_areOne_40 rfl (by decide) (fun _ => ?_) (fun _ => ?_)
    · exact go_lv [0] rfl (s_X12_areOne_56 w o0 h0 M)
    · refine go_aload_n 0 44 dX12_areOne_43 rfl rfl ?_
      refine go_sipush 1365 47 dX12_areOne_44 rfl (by decide) ?_
      refine go_cVV1 4 clX12 cwX12_328 (m_X12_passes_ w o0 h0 1365 M) h0 50 dX12_areOne_47 rfl ⟨Nat.le_of_ble_eq_true rfl, Nat.le_of_ble_eq_true rfl⟩ ⟨Nat.zero_le _, Nat.zero_le _⟩ (Nat.le_of_ble_eq_true rfl) (fun M1 _ => ?_)
      refine go_iinc (x2 + 1) 2 [(2, .int (x2 + 1)), (0, .ref (gB G + o0)), (1, .int x1)] 53 dX12_areOne_50 rfl rfl rfl (by decide) rfl ?_
      refine go_goto 38 dX12_areOne_53 (by decide) ?_
      exact go_lv [1, 2, 0] rfl (ih o0 h0 x1 (x2 + 1) M1)
def f_X12_areOne_36 (w : Nat) (o0 : Nat) (x1 : Int32) (M : mM) : Option (Int32 × mM) := (f_X12_areOne_38 w w o0 x1 0 M)
set_option maxHeartbeats 4000000 in
set_option maxRecDepth 100000 in
theorem s_X12_areOne_36 {l : Launch} {G : mG} {sk : List mS} (w : Nat) (o0 : Nat) (h0 : isK o0 22) (x1 : Int32) (M : mM) : Go muX12_areOne (rm 5) 0 0 l G sk (mFin G sk eI) (f_X12_areOne_36 w o0 x1 M) 36 [(0, .ref (gB G + o0)), (1, .int x1)] [] M := by
  unfold f_X12_areOne_36
  refine go_iconst 0 37 dX12_areOne_36 rfl (by decide) ?_
  refine go_istore_n [(2, .int 0), (0, .ref (gB G + o0)), (1, .int x1)] 38 dX12_areOne_37 rfl rfl (by decide) rfl ?_
  exact go_lv [1, 2, 0] rfl (s_X12_areOne_38 w w o0 h0 x1 0 M)
def f_X12_areOne_6 (w : Nat) : Nat → Nat → Int32 → Int32 → mM → Option (Int32 × mM)
  | 0, _, _, _, _ => none
  | n + 1, o0, x1, x2, M => bI (f_X12_doors w o0 M) fun q2 M1 => (if q2 ≤ x2 then (f_X12_areOne_36 w o0 x1 M1) else chk x2 (sL (rF o0 29)) (chk (1367 + x2) (sL (rF o0 24)) (lt (wI M1 (rF o0 24) (1367 + x2).toNatClampNeg (M1.1 (rF o0 29) x2.toNatClampNeg)) fun M3 => (f_X12_areOne_6 w n o0 x1 (x2 + 1) M3))))
set_option maxHeartbeats 4000000 in
set_option maxRecDepth 100000 in
theorem s_X12_areOne_6 {l : Launch} {G : mG} {sk : List mS} (w : Nat) : ∀ (n : Nat) (o0 : Nat) (h0 : isK o0 22) (x1 : Int32) (x2 : Int32) (M : mM), Go muX12_areOne (rm 5) 0 0 l G sk (mFin G sk eI) (f_X12_areOne_6 w n o0 x1 x2 M) 6 [(0, .ref (gB G + o0)), (1, .int x1), (2, .int x2)] [] M := by
  intro n
  induction n with
  | zero =>
    intros
    exact go_none
  | succ n ih =>
    intro o0 h0 x1 x2 M
    rw [f_X12_areOne_6]
    refine go_iload_n 2 7 dX12_areOne_6 rfl rfl ?_
    refine go_aload_n 0 8 dX12_areOne_7 rfl rfl ?_
    refine go_cVI0 0 clX12 cwX12_272 (m_X12_doors w o0 h0 M) h0 11 dX12_areOne_8 rfl ⟨Nat.le_of_ble_eq_true rfl, Nat.le_of_ble_eq_true rfl⟩ ⟨Nat.zero_le _, Nat.zero_le _⟩ (Nat.le_of_ble_eq_true rfl) (fun q2 M1 _ => ?_)
    refine go_icmp_ge 36 14 dX12_areOne_11 rfl (by decide) (fun _ => ?_) (fun _ => ?_)
    · exact go_lv [0, 1] rfl (s_X12_areOne_36 w o0 h0 x1 M1)
    · refine go_aload_n 0 15 dX12_areOne_14 rfl rfl ?_
      refine go_getR flX12_113 h0 18 dX12_areOne_15 rfl ?_
      refine go_sipush 1367 21 dX12_areOne_18 rfl (by decide) ?_
      refine go_iload_n 2 22 dX12_areOne_21 rfl rfl ?_
      refine go_iadd 23 dX12_areOne_22 rfl ?_
      refine go_aload_n 0 24 dX12_areOne_23 rfl rfl ?_
      refine go_getR flX12_126 h0 27 dX12_areOne_24 rfl ?_
      refine go_iload_n 2 28 dX12_areOne_27 rfl rfl ?_
      refine go_iald (rk12_29 h0) 29 dX12_areOne_28 rfl ?_
      refine go_iast (rk12_24 h0) 30 dX12_areOne_29 rfl ?_
      refine go_nmM (fun M3 => ?_)
      refine go_iinc (x2 + 1) 2 [(2, .int (x2 + 1)), (0, .ref (gB G + o0)), (1, .int x1)] 33 dX12_areOne_30 rfl rfl rfl (by decide) rfl ?_
      refine go_goto 6 dX12_areOne_33 (by decide) ?_
      exact go_lv [1, 2, 0] rfl (ih o0 h0 x1 (x2 + 1) M3)
def f_X12_areOne (w : Nat) (o0 : Nat) (x1 : Int32) (M : mM) : Option (Int32 × mM) := bV (f_X12_triesNow w o0 M) fun M1 => (f_X12_areOne_6 w w o0 x1 0 M1)
set_option maxHeartbeats 4000000 in
set_option maxRecDepth 100000 in
theorem s_X12_areOne {l : Launch} {G : mG} {sk : List mS} (w : Nat) (o0 : Nat) (h0 : isK o0 22) (x1 : Int32) (M : mM) : Go muX12_areOne (rm 5) 0 0 l G sk (mFin G sk eI) (f_X12_areOne w o0 x1 M) 0 [(0, .ref (gB G + o0)), (1, .int x1)] [] M := by
  unfold f_X12_areOne
  refine go_aload_n 0 1 dX12_areOne_0 rfl rfl ?_
  refine go_cVV0 1 clX12 cwX12_372 (m_X12_triesNow w o0 h0 M) h0 4 dX12_areOne_1 rfl ⟨Nat.le_of_ble_eq_true rfl, Nat.le_of_ble_eq_true rfl⟩ ⟨Nat.zero_le _, Nat.zero_le _⟩ (Nat.le_of_ble_eq_true rfl) (fun M1 _ => ?_)
  refine go_iconst 0 5 dX12_areOne_4 rfl (by decide) ?_
  refine go_istore_n [(2, .int 0), (0, .ref (gB G + o0)), (1, .int x1)] 6 dX12_areOne_5 rfl rfl (by decide) rfl ?_
  exact go_lv [1, 2, 0] rfl (s_X12_areOne_6 w w o0 h0 x1 0 M1)
theorem m_X12_areOne {l : Launch} {G : mG} {sk : List mS} (w : Nat) (o0 : Nat) (h0 : isK o0 22) (x1 : Int32) (M : mM) : Mt l G sk yX12_areOne muX12_areOne 5 [.ref (gB G + o0), .int x1] M eI (f_X12_areOne w o0 x1 M) := Mt.of (by decide) rfl (Nat.le_of_ble_eq_true rfl) (s_X12_areOne w o0 h0 x1 M)
theorem dX12_doesPlane_0 : decode cX12_doesPlane 0 = .ok (.iload_n 1, 1) := by decide +kernel
theorem dX12_doesPlane_1 : decode cX12_doesPlane 1 = .ok (.iload_n 2, 1) := by decide +kernel
theorem dX12_doesPlane_2 : decode cX12_doesPlane 2 = .ok (.if_icmp .ne 10, 3) := by decide +kernel
theorem dX12_doesPlane_5 : decode cX12_doesPlane 5 = .ok (.aload_n 0, 1) := by decide +kernel
theorem dX12_doesPlane_6 : decode cX12_doesPlane 6 = .ok (.iload 4, 2) := by decide +kernel
theorem dX12_doesPlane_8 : decode cX12_doesPlane 8 = .ok (.invokevirtual 385, 3) := by decide +kernel
theorem dX12_doesPlane_11 : decode cX12_doesPlane 11 = .ok (.ireturn, 1) := by decide +kernel
theorem dX12_doesPlane_12 : decode cX12_doesPlane 12 = .ok (.iload_n 3, 1) := by decide +kernel
theorem dX12_doesPlane_13 : decode cX12_doesPlane 13 = .ok (.istore 5, 2) := by decide +kernel
theorem dX12_doesPlane_15 : decode cX12_doesPlane 15 = .ok (.iload 5, 2) := by decide +kernel
theorem dX12_doesPlane_17 : decode cX12_doesPlane 17 = .ok (.aload_n 0, 1) := by decide +kernel
theorem dX12_doesPlane_18 : decode cX12_doesPlane 18 = .ok (.invokevirtual 272, 3) := by decide +kernel
theorem dX12_doesPlane_21 : decode cX12_doesPlane 21 = .ok (.if_icmp .ge 72, 3) := by decide +kernel
theorem dX12_doesPlane_24 : decode cX12_doesPlane 24 = .ok (.aload_n 0, 1) := by decide +kernel
theorem dX12_doesPlane_25 : decode cX12_doesPlane 25 = .ok (.getfield 126, 3) := by decide +kernel
theorem dX12_doesPlane_28 : decode cX12_doesPlane 28 = .ok (.iload 5, 2) := by decide +kernel
theorem dX12_doesPlane_30 : decode cX12_doesPlane 30 = .ok (.iaload, 1) := by decide +kernel
theorem dX12_doesPlane_31 : decode cX12_doesPlane 31 = .ok (.bipush 20, 2) := by decide +kernel
theorem dX12_doesPlane_33 : decode cX12_doesPlane 33 = .ok (.if_icmp .ge 54, 3) := by decide +kernel
theorem dX12_doesPlane_36 : decode cX12_doesPlane 36 = .ok (.aload_n 0, 1) := by decide +kernel
theorem dX12_doesPlane_37 : decode cX12_doesPlane 37 = .ok (.getfield 126, 3) := by decide +kernel
theorem dX12_doesPlane_40 : decode cX12_doesPlane 40 = .ok (.iload 5, 2) := by decide +kernel
theorem dX12_doesPlane_42 : decode cX12_doesPlane 42 = .ok (.dup2, 1) := by decide +kernel
theorem dX12_doesPlane_43 : decode cX12_doesPlane 43 = .ok (.iaload, 1) := by decide +kernel
theorem dX12_doesPlane_44 : decode cX12_doesPlane 44 = .ok (.iconst 1, 1) := by decide +kernel
theorem dX12_doesPlane_45 : decode cX12_doesPlane 45 = .ok (.iadd, 1) := by decide +kernel
theorem dX12_doesPlane_46 : decode cX12_doesPlane 46 = .ok (.iastore, 1) := by decide +kernel
theorem dX12_doesPlane_47 : decode cX12_doesPlane 47 = .ok (.aload_n 0, 1) := by decide +kernel
theorem dX12_doesPlane_48 : decode cX12_doesPlane 48 = .ok (.getfield 123, 3) := by decide +kernel
theorem dX12_doesPlane_51 : decode cX12_doesPlane 51 = .ok (.iload_n 1, 1) := by decide +kernel
theorem dX12_doesPlane_52 : decode cX12_doesPlane 52 = .ok (.iload 5, 2) := by decide +kernel
theorem dX12_doesPlane_54 : decode cX12_doesPlane 54 = .ok (.iastore, 1) := by decide +kernel
theorem dX12_doesPlane_55 : decode cX12_doesPlane 55 = .ok (.aload_n 0, 1) := by decide +kernel
theorem dX12_doesPlane_56 : decode cX12_doesPlane 56 = .ok (.iload_n 1, 1) := by decide +kernel
theorem dX12_doesPlane_57 : decode cX12_doesPlane 57 = .ok (.iconst 1, 1) := by decide +kernel
theorem dX12_doesPlane_58 : decode cX12_doesPlane 58 = .ok (.iadd, 1) := by decide +kernel
theorem dX12_doesPlane_59 : decode cX12_doesPlane 59 = .ok (.iload_n 2, 1) := by decide +kernel
theorem dX12_doesPlane_60 : decode cX12_doesPlane 60 = .ok (.iload 5, 2) := by decide +kernel
theorem dX12_doesPlane_62 : decode cX12_doesPlane 62 = .ok (.iload 4, 2) := by decide +kernel
theorem dX12_doesPlane_64 : decode cX12_doesPlane 64 = .ok (.invokevirtual 388, 3) := by decide +kernel
theorem dX12_doesPlane_67 : decode cX12_doesPlane 67 = .ok (.istore 6, 2) := by decide +kernel
theorem dX12_doesPlane_69 : decode cX12_doesPlane 69 = .ok (.aload_n 0, 1) := by decide +kernel
theorem dX12_doesPlane_70 : decode cX12_doesPlane 70 = .ok (.getfield 126, 3) := by decide +kernel
theorem dX12_doesPlane_73 : decode cX12_doesPlane 73 = .ok (.iload 5, 2) := by decide +kernel
theorem dX12_doesPlane_75 : decode cX12_doesPlane 75 = .ok (.dup2, 1) := by decide +kernel
theorem dX12_doesPlane_76 : decode cX12_doesPlane 76 = .ok (.iaload, 1) := by decide +kernel
theorem dX12_doesPlane_77 : decode cX12_doesPlane 77 = .ok (.iconst 1, 1) := by decide +kernel
theorem dX12_doesPlane_78 : decode cX12_doesPlane 78 = .ok (.isub, 1) := by decide +kernel
theorem dX12_doesPlane_79 : decode cX12_doesPlane 79 = .ok (.iastore, 1) := by decide +kernel
theorem dX12_doesPlane_80 : decode cX12_doesPlane 80 = .ok (.iload 6, 2) := by decide +kernel
theorem dX12_doesPlane_82 : decode cX12_doesPlane 82 = .ok (.ifCond .eq 5, 3) := by decide +kernel
theorem dX12_doesPlane_85 : decode cX12_doesPlane 85 = .ok (.iconst 1, 1) := by decide +kernel
theorem dX12_doesPlane_86 : decode cX12_doesPlane 86 = .ok (.ireturn, 1) := by decide +kernel
theorem dX12_doesPlane_87 : decode cX12_doesPlane 87 = .ok (.iinc 5 1, 3) := by decide +kernel
theorem dX12_doesPlane_90 : decode cX12_doesPlane 90 = .ok (.goto (-75), 3) := by decide +kernel
theorem dX12_doesPlane_93 : decode cX12_doesPlane 93 = .ok (.iconst 0, 1) := by decide +kernel
theorem dX12_doesPlane_94 : decode cX12_doesPlane 94 = .ok (.ireturn, 1) := by decide +kernel
def f_X12_doesPlane_15 (w : Nat) (r0 : Nat → Int32 → Int32 → Int32 → Int32 → mM → Option (Int32 × mM)) : Nat → Nat → Int32 → Int32 → Int32 → Int32 → mM → Option (Int32 × mM)
  | 0, _, _, _, _, _, _ => none
  | n + 1, o0, x1, x2, x4, x5, M => bI (f_X12_doors w o0 M) fun q2 M1 => (if q2 ≤ x5 then rtB 0 M1 else chk x5 (sL (rF o0 29)) ((if 20 ≤ (M1.1 (rF o0 29) x5.toNatClampNeg) then (f_X12_doesPlane_15 w r0 n o0 x1 x2 x4 (x5 + 1) M1) else chk x5 (sL (rF o0 29)) (chk x5 (sL (rF o0 29)) (lt (wI M1 (rF o0 29) x5.toNatClampNeg ((M1.1 (rF o0 29) x5.toNatClampNeg) + 1)) fun M3 => chk x1 (sL (rF o0 28)) (lt (wI M3 (rF o0 28) x1.toNatClampNeg x5) fun M4 => bI (r0 o0 (x1 + 1) x2 x5 x4 M4) fun q6 M5 => chk x5 (sL (rF o0 29)) (chk x5 (sL (rF o0 29)) (lt (wI M5 (rF o0 29) x5.toNatClampNeg ((M5.1 (rF o0 29) x5.toNatClampNeg) - 1)) fun M7 => (if q6 = 0 then (f_X12_doesPlane_15 w r0 n o0 x1 x2 x4 (x5 + 1) M7) else rtB 1 M7)))))))))
set_option maxHeartbeats 4000000 in
set_option maxRecDepth 100000 in
theorem s_X12_doesPlane_15 {l : Launch} {G : mG} {sk : List mS} (w : Nat) (d : Nat) (r0 : Nat → Int32 → Int32 → Int32 → Int32 → mM → Option (Int32 × mM)) (hr0 : ∀ (o0 : Nat) (h0 : isK o0 22) (x1 : Int32) (x2 : Int32) (x3 : Int32) (x4 : Int32) (M : mM), Mt l G sk yX12_doesPlane muX12_doesPlane d [.ref (gB G + o0), .int x1, .int x2, .int x3, .int x4] M eI (r0 o0 x1 x2 x3 x4 M)) (hdd : 6 ≤ d + 1) : ∀ (n : Nat) (o0 : Nat) (h0 : isK o0 22) (x1 : Int32) (x2 : Int32) (x4 : Int32) (x5 : Int32) (M : mM), Go muX12_doesPlane (rm (d + 1)) 0 0 l G sk (mFin G sk eI) (f_X12_doesPlane_15 w r0 n o0 x1 x2 x4 x5 M) 15 [(0, .ref (gB G + o0)), (1, .int x1), (2, .int x2), (4, .int x4), (5, .int x5)] [] M := by
  intro n
  induction n with
  | zero =>
    intros
    exact go_none
  | succ n ih =>
    intro o0 h0 x1 x2 x4 x5 M
    rw [f_X12_doesPlane_15]
    refine go_iload 4 17 dX12_doesPlane_15 rfl rfl ?_
    refine go_aload_n 0 18 dX12_doesPlane_17 rfl rfl ?_
    refine go_cVI0 0 clX12 cwX12_272 (m_X12_doors w o0 h0 M) h0 21 dX12_doesPlane_18 rfl ⟨Nat.le_trans (Nat.le_of_ble_eq_true rfl) hdd, Nat.mul_le_mul_left 64 (Nat.le_trans (Nat.le_of_ble_eq_true rfl) hdd)⟩ ⟨Nat.zero_le _, Nat.zero_le _⟩ (Nat.le_of_ble_eq_true rfl) (fun q2 M1 _ => ?_)
    refine go_icmp_ge 93 24 dX12_doesPlane_21 rfl (by decide) (fun _ => ?_) (fun _ => ?_)
    · refine go_iconst 0 94 dX12_doesPlane_93 rfl (by decide) ?_
      exact go_zret rfl dX12_doesPlane_94
    · refine go_aload_n 0 25 dX12_doesPlane_24 rfl rfl ?_
      refine go_getR flX12_126 h0 28 dX12_doesPlane_25 rfl ?_
      refine go_iload 4 30 dX12_doesPlane_28 rfl rfl ?_
      refine go_iald (rk12_29 h0) 31 dX12_doesPlane_30 rfl ?_
      refine go_bipush 20 33 dX12_doesPlane_31 rfl (by decide) ?_
      refine go_icmp_ge 87 36 dX12_doesPlane_33 rfl (by decide) (fun _ => ?_) (fun _ => ?_)
      · refine go_iinc (x5 + 1) 4 [(5, .int (x5 + 1)), (0, .ref (gB G + o0)), (1, .int x1), (2, .int x2), (4, .int x4)] 90 dX12_doesPlane_87 rfl rfl rfl (by decide) rfl ?_
        refine go_goto 15 dX12_doesPlane_90 (by decide) ?_
        exact go_lv [1, 2, 3, 4, 0] rfl (ih o0 h0 x1 x2 x4 (x5 + 1) M1)
      · refine go_aload_n 0 37 dX12_doesPlane_36 rfl rfl ?_
        refine go_getR flX12_126 h0 40 dX12_doesPlane_37 rfl ?_
        refine go_iload 4 42 dX12_doesPlane_40 rfl rfl ?_
        refine go_dup2 43 dX12_doesPlane_42 rfl rfl rfl ?_
        refine go_iald (rk12_29 h0) 44 dX12_doesPlane_43 rfl ?_
        refine go_iconst 1 45 dX12_doesPlane_44 rfl (by decide) ?_
        refine go_iadd 46 dX12_doesPlane_45 rfl ?_
        refine go_iast (rk12_29 h0) 47 dX12_doesPlane_46 rfl ?_
        refine go_nmM (fun M3 => ?_)
        refine go_aload_n 0 48 dX12_doesPlane_47 rfl rfl ?_
        refine go_getR flX12_123 h0 51 dX12_doesPlane_48 rfl ?_
        refine go_iload_n 1 52 dX12_doesPlane_51 rfl rfl ?_
        refine go_iload 4 54 dX12_doesPlane_52 rfl rfl ?_
        refine go_iast (rk12_28 h0) 55 dX12_doesPlane_54 rfl ?_
        refine go_nmM (fun M4 => ?_)
        refine go_aload_n 0 56 dX12_doesPlane_55 rfl rfl ?_
        refine go_iload_n 1 57 dX12_doesPlane_56 rfl rfl ?_
        refine go_iconst 1 58 dX12_doesPlane_57 rfl (by decide) ?_
        refine go_iadd 59 dX12_doesPlane_58 rfl ?_
        refine go_iload_n 2 60 dX12_doesPlane_59 rfl rfl ?_
        refine go_iload 4 62 dX12_doesPlane_60 rfl rfl ?_
        refine go_iload 3 64 dX12_doesPlane_62 rfl rfl ?_
        refine go_cVI4 d clX12 cwX12_388 (hr0 o0 h0 (x1 + 1) x2 x5 x4 M4) h0 67 dX12_doesPlane_64 rfl ⟨Nat.le_refl _, Nat.le_refl _⟩ ⟨Nat.zero_le _, Nat.zero_le _⟩ (Nat.le_of_ble_eq_true rfl) (fun q6 M5 _ => ?_)
        refine go_istore [(6, .int q6), (0, .ref (gB G + o0)), (1, .int x1), (2, .int x2), (4, .int x4), (5, .int x5)] 69 dX12_doesPlane_67 rfl (by decide) rfl ?_
        refine go_aload_n 1 70 dX12_doesPlane_69 rfl rfl ?_
        refine go_getR flX12_126 h0 73 dX12_doesPlane_70 rfl ?_
        refine go_iload 5 75 dX12_doesPlane_73 rfl rfl ?_
        refine go_dup2 76 dX12_doesPlane_75 rfl rfl rfl ?_
        refine go_iald (rk12_29 h0) 77 dX12_doesPlane_76 rfl ?_
        refine go_iconst 1 78 dX12_doesPlane_77 rfl (by decide) ?_
        refine go_isub 79 dX12_doesPlane_78 rfl ?_
        refine go_iast (rk12_29 h0) 80 dX12_doesPlane_79 rfl ?_
        refine go_nmM (fun M7 => ?_)
        refine go_iload 0 82 dX12_doesPlane_80 rfl rfl ?_
        refine go_if_eq 87 85 dX12_doesPlane_82 rfl (by decide) (fun _ => ?_) (fun _ => ?_)
        · refine go_iinc (x5 + 1) 5 [(5, .int (x5 + 1)), (6, .int q6), (0, .ref (gB G + o0)), (1, .int x1), (2, .int x2), (4, .int x4)] 90 dX12_doesPlane_87 rfl rfl rfl (by decide) rfl ?_
          refine go_goto 15 dX12_doesPlane_90 (by decide) ?_
          exact go_lv [2, 3, 4, 5, 0] rfl (ih o0 h0 x1 x2 x4 (x5 + 1) M7)
        · refine go_iconst 1 86 dX12_doesPlane_85 rfl (by decide) ?_
          exact go_zret rfl dX12_doesPlane_86
def f_X12_doesPlane_b (w : Nat) (r0 : Nat → Int32 → Int32 → Int32 → Int32 → mM → Option (Int32 × mM)) (o0 : Nat) (x1 : Int32) (x2 : Int32) (x3 : Int32) (x4 : Int32) (M : mM) : Option (Int32 × mM) := (if x1 = x2 then bI (f_X12_areOne w o0 x4 M) fun q2 M1 => rtB q2 M1 else (f_X12_doesPlane_15 w r0 w o0 x1 x2 x4 x3 M))
set_option maxHeartbeats 4000000 in
set_option maxRecDepth 100000 in
theorem s_X12_doesPlane_b {l : Launch} {G : mG} {sk : List mS} (w : Nat) (d : Nat) (r0 : Nat → Int32 → Int32 → Int32 → Int32 → mM → Option (Int32 × mM)) (hr0 : ∀ (o0 : Nat) (h0 : isK o0 22) (x1 : Int32) (x2 : Int32) (x3 : Int32) (x4 : Int32) (M : mM), Mt l G sk yX12_doesPlane muX12_doesPlane d [.ref (gB G + o0), .int x1, .int x2, .int x3, .int x4] M eI (r0 o0 x1 x2 x3 x4 M)) (hdd : 6 ≤ d + 1) (o0 : Nat) (h0 : isK o0 22) (x1 : Int32) (x2 : Int32) (x3 : Int32) (x4 : Int32) (M : mM) : Go muX12_doesPlane (rm (d + 1)) 0 0 l G sk (mFin G sk eI) (f_X12_doesPlane_b w r0 o0 x1 x2 x3 x4 M) 0 [(0, .ref (gB G + o0)), (1, .int x1), (2, .int x2), (3, .int x3), (4, .int x4)] [] M := by
  unfold f_X12_doesPlane_b
  refine go_iload_n 1 1 dX12_doesPlane_0 rfl rfl ?_
  refine go_iload_n 2 2 dX12_doesPlane_1 rfl rfl ?_
  refine go_icmp_ne 12 5 dX12_doesPlane_2 rfl (by decide) (fun _ => ?_) (fun _ => ?_)
  · refine go_iload_n 3 13 dX12_doesPlane_12 rfl rfl ?_
    refine go_istore [(5, .int x3), (0, .ref (gB G + o0)), (1, .int x1), (2, .int x2), (3, .int x3), (4, .int x4)] 15 dX12_doesPlane_13 rfl (by decide) rfl ?_
    exact go_lv [1, 2, 3, 5, 0] rfl (s_X12_doesPlane_15 w d r0 hr0 hdd w o0 h0 x1 x2 x4 x3 M)
  · refine go_aload_n 0 6 dX12_doesPlane_5 rfl rfl ?_
    refine go_iload 4 8 dX12_doesPlane_6 rfl rfl ?_
    refine go_cVI1 5 clX12 cwX12_385 (m_X12_areOne w o0 h0 x4 M) h0 11 dX12_doesPlane_8 rfl ⟨Nat.le_trans (Nat.le_of_ble_eq_true rfl) hdd, Nat.mul_le_mul_left 64 (Nat.le_trans (Nat.le_of_ble_eq_true rfl) hdd)⟩ ⟨Nat.zero_le _, Nat.zero_le _⟩ (Nat.le_of_ble_eq_true rfl) (fun q2 M1 _ => ?_)
    exact go_zret rfl dX12_doesPlane_11
def fS1 (w : Nat) : Nat → (Nat → Int32 → Int32 → Int32 → Int32 → mM → Option (Int32 × mM))
  | 0 => (fun _ _ _ _ _ _ => none)
  | d + 1 => (f_X12_doesPlane_b w (fS1 w d))
theorem fS1_s (w d : Nat) : fS1 w (d + 1) = (f_X12_doesPlane_b w (fS1 w d)) := rfl
abbrev f_X12_doesPlane (w d : Nat) : Nat → Int32 → Int32 → Int32 → Int32 → mM → Option (Int32 × mM) := (fS1 w d)
theorem fS1_m {l : Launch} {G : mG} {sk : List mS} (w : Nat) : ∀ d : Nat, (∀ (o0 : Nat) (h0 : isK o0 22) (x1 : Int32) (x2 : Int32) (x3 : Int32) (x4 : Int32) (M : mM), Mt l G sk yX12_doesPlane muX12_doesPlane (6 + d) [.ref (gB G + o0), .int x1, .int x2, .int x3, .int x4] M eI ((fS1 w d) o0 x1 x2 x3 x4 M)) := by
  intro d
  induction d with
  | zero => exact (by intros; intro _ x h; cases h)
  | succ d ih =>
    rw [fS1_s]
    exact (fun o0 h0 x1 x2 x3 x4 M => Mt.of (by decide) rfl (Nat.le_of_ble_eq_true rfl) (s_X12_doesPlane_b w (6 + d) (fS1 w d) ih (by omega) o0 h0 x1 x2 x3 x4 M))
theorem m_X12_doesPlane {l : Launch} {G : mG} {sk : List mS} (w d : Nat) (o0 : Nat) (h0 : isK o0 22) (x1 : Int32) (x2 : Int32) (x3 : Int32) (x4 : Int32) (M : mM) : Mt l G sk yX12_doesPlane muX12_doesPlane (6 + d) [.ref (gB G + o0), .int x1, .int x2, .int x3, .int x4] M eI (f_X12_doesPlane w d o0 x1 x2 x3 x4 M) := (fS1_m w d) o0 h0 x1 x2 x3 x4 M
theorem dX12_planed_0 : decode cX12_planed 0 = .ok (.aload_n 0, 1) := by decide +kernel
theorem dX12_planed_1 : decode cX12_planed 1 = .ok (.iconst 0, 1) := by decide +kernel
theorem dX12_planed_2 : decode cX12_planed 2 = .ok (.putfield 1, 3) := by decide +kernel
theorem dX12_planed_5 : decode cX12_planed 5 = .ok (.iload_n 1, 1) := by decide +kernel
theorem dX12_planed_6 : decode cX12_planed 6 = .ok (.iconst 0, 1) := by decide +kernel
theorem dX12_planed_7 : decode cX12_planed 7 = .ok (.bipush 30, 2) := by decide +kernel
theorem dX12_planed_9 : decode cX12_planed 9 = .ok (.invokestatic 204, 3) := by decide +kernel
theorem dX12_planed_12 : decode cX12_planed 12 = .ok (.ifCond .eq 12, 3) := by decide +kernel
theorem dX12_planed_15 : decode cX12_planed 15 = .ok (.iload_n 2, 1) := by decide +kernel
theorem dX12_planed_16 : decode cX12_planed 16 = .ok (.iconst (-1), 1) := by decide +kernel
theorem dX12_planed_17 : decode cX12_planed 17 = .ok (.iconst 2, 1) := by decide +kernel
theorem dX12_planed_18 : decode cX12_planed 18 = .ok (.invokestatic 204, 3) := by decide +kernel
theorem dX12_planed_21 : decode cX12_planed 21 = .ok (.ifCond .ne 6, 3) := by decide +kernel
theorem dX12_planed_24 : decode cX12_planed 24 = .ok (.bipush (-2), 2) := by decide +kernel
theorem dX12_planed_26 : decode cX12_planed 26 = .ok (.ireturn, 1) := by decide +kernel
theorem dX12_planed_27 : decode cX12_planed 27 = .ok (.iconst 0, 1) := by decide +kernel
theorem dX12_planed_28 : decode cX12_planed 28 = .ok (.istore_n 3, 1) := by decide +kernel
theorem dX12_planed_29 : decode cX12_planed 29 = .ok (.iload_n 3, 1) := by decide +kernel
theorem dX12_planed_30 : decode cX12_planed 30 = .ok (.aload_n 0, 1) := by decide +kernel
theorem dX12_planed_31 : decode cX12_planed 31 = .ok (.invokevirtual 272, 3) := by decide +kernel
theorem dX12_planed_34 : decode cX12_planed 34 = .ok (.if_icmp .ge 23, 3) := by decide +kernel
theorem dX12_planed_37 : decode cX12_planed 37 = .ok (.aload_n 0, 1) := by decide +kernel
theorem dX12_planed_38 : decode cX12_planed 38 = .ok (.getfield 126, 3) := by decide +kernel
theorem dX12_planed_41 : decode cX12_planed 41 = .ok (.iload_n 3, 1) := by decide +kernel
theorem dX12_planed_42 : decode cX12_planed 42 = .ok (.aload_n 0, 1) := by decide +kernel
theorem dX12_planed_43 : decode cX12_planed 43 = .ok (.getfield 113, 3) := by decide +kernel
theorem dX12_planed_46 : decode cX12_planed 46 = .ok (.iconst 2, 1) := by decide +kernel
theorem dX12_planed_47 : decode cX12_planed 47 = .ok (.iload_n 3, 1) := by decide +kernel
theorem dX12_planed_48 : decode cX12_planed 48 = .ok (.iadd, 1) := by decide +kernel
theorem dX12_planed_49 : decode cX12_planed 49 = .ok (.iaload, 1) := by decide +kernel
theorem dX12_planed_50 : decode cX12_planed 50 = .ok (.iastore, 1) := by decide +kernel
theorem dX12_planed_51 : decode cX12_planed 51 = .ok (.iinc 3 1, 3) := by decide +kernel
theorem dX12_planed_54 : decode cX12_planed 54 = .ok (.goto (-25), 3) := by decide +kernel
theorem dX12_planed_57 : decode cX12_planed 57 = .ok (.iconst 0, 1) := by decide +kernel
theorem dX12_planed_58 : decode cX12_planed 58 = .ok (.istore_n 3, 1) := by decide +kernel
theorem dX12_planed_59 : decode cX12_planed 59 = .ok (.iload_n 3, 1) := by decide +kernel
theorem dX12_planed_60 : decode cX12_planed 60 = .ok (.iconst 3, 1) := by decide +kernel
theorem dX12_planed_61 : decode cX12_planed 61 = .ok (.if_icmp .gt 46, 3) := by decide +kernel
theorem dX12_planed_64 : decode cX12_planed 64 = .ok (.aload_n 0, 1) := by decide +kernel
theorem dX12_planed_65 : decode cX12_planed 65 = .ok (.iconst 0, 1) := by decide +kernel
theorem dX12_planed_66 : decode cX12_planed 66 = .ok (.iload_n 3, 1) := by decide +kernel
theorem dX12_planed_67 : decode cX12_planed 67 = .ok (.iconst 0, 1) := by decide +kernel
theorem dX12_planed_68 : decode cX12_planed 68 = .ok (.iload_n 1, 1) := by decide +kernel
theorem dX12_planed_69 : decode cX12_planed 69 = .ok (.invokevirtual 388, 3) := by decide +kernel
theorem dX12_planed_72 : decode cX12_planed 72 = .ok (.ifCond .eq 29, 3) := by decide +kernel
theorem dX12_planed_75 : decode cX12_planed 75 = .ok (.iload_n 2, 1) := by decide +kernel
theorem dX12_planed_76 : decode cX12_planed 76 = .ok (.iconst (-1), 1) := by decide +kernel
theorem dX12_planed_77 : decode cX12_planed 77 = .ok (.if_icmp .ne 7, 3) := by decide +kernel
theorem dX12_planed_80 : decode cX12_planed 80 = .ok (.iload_n 3, 1) := by decide +kernel
theorem dX12_planed_81 : decode cX12_planed 81 = .ok (.goto 19, 3) := by decide +kernel
theorem dX12_planed_84 : decode cX12_planed 84 = .ok (.iload_n 2, 1) := by decide +kernel
theorem dX12_planed_85 : decode cX12_planed 85 = .ok (.iload_n 3, 1) := by decide +kernel
theorem dX12_planed_86 : decode cX12_planed 86 = .ok (.if_icmp .ge 12, 3) := by decide +kernel
theorem dX12_planed_89 : decode cX12_planed 89 = .ok (.aload_n 0, 1) := by decide +kernel
theorem dX12_planed_90 : decode cX12_planed 90 = .ok (.getfield 123, 3) := by decide +kernel
theorem dX12_planed_93 : decode cX12_planed 93 = .ok (.iload_n 2, 1) := by decide +kernel
theorem dX12_planed_94 : decode cX12_planed 94 = .ok (.iaload, 1) := by decide +kernel
theorem dX12_planed_95 : decode cX12_planed 95 = .ok (.goto 5, 3) := by decide +kernel
theorem dX12_planed_98 : decode cX12_planed 98 = .ok (.bipush (-2), 2) := by decide +kernel
theorem dX12_planed_100 : decode cX12_planed 100 = .ok (.ireturn, 1) := by decide +kernel
theorem dX12_planed_101 : decode cX12_planed 101 = .ok (.iinc 3 1, 3) := by decide +kernel
theorem dX12_planed_104 : decode cX12_planed 104 = .ok (.goto (-45), 3) := by decide +kernel
theorem dX12_planed_107 : decode cX12_planed 107 = .ok (.bipush (-2), 2) := by decide +kernel
theorem dX12_planed_109 : decode cX12_planed 109 = .ok (.ireturn, 1) := by decide +kernel
def f_X12_planed_75 (w : Nat) (o0 : Nat) (x2 : Int32) (x3 : Int32) (M : mM) : Option (Int32 × mM) := (if x2 = (-1) then some (x3, M) else (if x3 ≤ x2 then some ((-2), M) else chk x2 (sL (rF o0 28)) (some ((M.1 (rF o0 28) x2.toNatClampNeg), M))))
set_option maxHeartbeats 4000000 in
set_option maxRecDepth 100000 in
theorem s_X12_planed_75 {l : Launch} {G : mG} {sk : List mS} (w : Nat) (o0 : Nat) (h0 : isK o0 22) (x2 : Int32) (x3 : Int32) (M : mM) : Go muX12_planed (rm 67) 0 0 l G sk (mFin G sk eI) (f_X12_planed_75 w o0 x2 x3 M) 75 [(0, .ref (gB G + o0)), (2, .int x2), (3, .int x3)] [] M := by
  unfold f_X12_planed_75
  refine go_iload_n 1 76 dX12_planed_75 rfl rfl ?_
  refine go_iconst (-1) 77 dX12_planed_76 rfl (by decide) ?_
  refine go_icmp_ne 84 80 dX12_planed_77 rfl (by decide) (fun _ => ?_) (fun _ => ?_)
  · refine go_iload_n 1 85 dX12_planed_84 rfl rfl ?_
    refine go_iload_n 2 86 dX12_planed_85 rfl rfl ?_
    refine go_icmp_ge 98 89 dX12_planed_86 rfl (by decide) (fun _ => ?_) (fun _ => ?_)
    · refine go_bipush (-2) 100 dX12_planed_98 rfl (by decide) ?_
      exact go_iret rfl dX12_planed_100
    · refine go_aload_n 0 90 dX12_planed_89 rfl rfl ?_
      refine go_getR flX12_123 h0 93 dX12_planed_90 rfl ?_
      refine go_iload_n 1 94 dX12_planed_93 rfl rfl ?_
      refine go_iald (rk12_28 h0) 95 dX12_planed_94 rfl ?_
      refine go_goto 100 dX12_planed_95 (by decide) ?_
      exact go_iret rfl dX12_planed_100
  · refine go_iload_n 2 81 dX12_planed_80 rfl rfl ?_
    refine go_goto 100 dX12_planed_81 (by decide) ?_
    exact go_iret rfl dX12_planed_100
def f_X12_planed_59 (w : Nat) : Nat → Nat → Int32 → Int32 → Int32 → mM → Option (Int32 × mM)
  | 0, _, _, _, _, _ => none
  | n + 1, o0, x1, x2, x3, M => (if 3 < x3 then some ((-2), M) else bI (f_X12_doesPlane w 60 o0 0 x3 0 x1 M) fun q2 M1 => (if q2 = 0 then (f_X12_planed_59 w n o0 x1 x2 (x3 + 1) M1) else (f_X12_planed_75 w o0 x2 x3 M1)))
set_option maxHeartbeats 4000000 in
set_option maxRecDepth 100000 in
theorem s_X12_planed_59 {l : Launch} {G : mG} {sk : List mS} (w : Nat) : ∀ (n : Nat) (o0 : Nat) (h0 : isK o0 22) (x1 : Int32) (x2 : Int32) (x3 : Int32) (M : mM), Go muX12_planed (rm 67) 0 0 l G sk (mFin G sk eI) (f_X12_planed_59 w n o0 x1 x2 x3 M) 59 [(0, .ref (gB G + o0)), (1, .int x1), (2, .int x2), (3, .int x3)] [] M := by
  intro n
  induction n with
  | zero =>
    intros
    exact go_none
  | succ n ih =>
    intro o0 h0 x1 x2 x3 M
    rw [f_X12_planed_59]
    refine go_iload_n 3 60 dX12_planed_59 rfl rfl ?_
    refine go_iconst 3 61 dX12_planed_60 rfl (by decide) ?_
    refine go_icmp_gt 107 64 dX12_planed_61 rfl (by decide) (fun _ => ?_) (fun _ => ?_)
    · refine go_bipush (-2) 109 dX12_planed_107 rfl (by decide) ?_
      exact go_iret rfl dX12_planed_109
    · refine go_aload_n 0 65 dX12_planed_64 rfl rfl ?_
      refine go_iconst 0 66 dX12_planed_65 rfl (by decide) ?_
      refine go_iload_n 3 67 dX12_planed_66 rfl rfl ?_
      refine go_iconst 0 68 dX12_planed_67 rfl (by decide) ?_
      refine go_iload_n 1 69 dX12_planed_68 rfl rfl ?_
      refine go_cVI4 66 clX12 cwX12_388 (m_X12_doesPlane w 60 o0 h0 0 x3 0 x1 M) h0 72 dX12_planed_69 rfl ⟨Nat.le_of_ble_eq_true rfl, Nat.le_of_ble_eq_true rfl⟩ ⟨Nat.zero_le _, Nat.zero_le _⟩ (Nat.le_of_ble_eq_true rfl) (fun q2 M1 _ => ?_)
      refine go_if_eq 101 75 dX12_planed_72 rfl (by decide) (fun _ => ?_) (fun _ => ?_)
      · refine go_iinc (x3 + 1) 3 [(3, .int (x3 + 1)), (0, .ref (gB G + o0)), (1, .int x1), (2, .int x2)] 104 dX12_planed_101 rfl rfl rfl (by decide) rfl ?_
        refine go_goto 59 dX12_planed_104 (by decide) ?_
        exact go_lv [1, 2, 3, 0] rfl (ih o0 h0 x1 x2 (x3 + 1) M1)
      · exact go_lv [0, 2, 3] rfl (s_X12_planed_75 w o0 h0 x2 x3 M1)
def f_X12_planed_57 (w : Nat) (o0 : Nat) (x1 : Int32) (x2 : Int32) (M : mM) : Option (Int32 × mM) := (f_X12_planed_59 w w o0 x1 x2 0 M)
set_option maxHeartbeats 4000000 in
set_option maxRecDepth 100000 in
theorem s_X12_planed_57 {l : Launch} {G : mG} {sk : List mS} (w : Nat) (o0 : Nat) (h0 : isK o0 22) (x1 : Int32) (x2 : Int32) (M : mM) : Go muX12_planed (rm 67) 0 0 l G sk (mFin G sk eI) (f_X12_planed_57 w o0 x1 x2 M) 57 [(0, .ref (gB G + o0)), (1, .int x1), (2, .int x2)] [] M := by
  unfold f_X12_planed_57
  refine go_iconst 0 58 dX12_planed_57 rfl (by decide) ?_
  refine go_istore_n [(3, .int 0), (0, .ref (gB G + o0)), (1, .int x1), (2, .int x2)] 59 dX12_planed_58 rfl rfl (by decide) rfl ?_
  exact go_lv [1, 2, 3, 0] rfl (s_X12_planed_59 w w o0 h0 x1 x2 0 M)
def f_X12_planed_29 (w : Nat) : Nat → Nat → Int32 → Int32 → Int32 → mM → Option (Int32 × mM)
  | 0, _, _, _, _, _ => none
  | n + 1, o0, x1, x2, x3, M => bI (f_X12_doors w o0 M) fun q2 M1 => (if q2 ≤ x3 then (f_X12_planed_57 w o0 x1 x2 M1) else chk (2 + x3) (sL (rF o0 24)) (chk x3 (sL (rF o0 29)) (lt (wI M1 (rF o0 29) x3.toNatClampNeg (M1.1 (rF o0 24) (2 + x3).toNatClampNeg)) fun M3 => (f_X12_planed_29 w n o0 x1 x2 (x3 + 1) M3))))
set_option maxHeartbeats 4000000 in
set_option maxRecDepth 100000 in
theorem s_X12_planed_29 {l : Launch} {G : mG} {sk : List mS} (w : Nat) : ∀ (n : Nat) (o0 : Nat) (h0 : isK o0 22) (x1 : Int32) (x2 : Int32) (x3 : Int32) (M : mM), Go muX12_planed (rm 67) 0 0 l G sk (mFin G sk eI) (f_X12_planed_29 w n o0 x1 x2 x3 M) 29 [(0, .ref (gB G + o0)), (1, .int x1), (2, .int x2), (3, .int x3)] [] M := by
  intro n
  induction n with
  | zero =>
    intros
    exact go_none
  | succ n ih =>
    intro o0 h0 x1 x2 x3 M
    rw [f_X12_planed_29]
    refine go_iload_n 3 30 dX12_planed_29 rfl rfl ?_
    refine go_aload_n 0 31 dX12_planed_30 rfl rfl ?_
    refine go_cVI0 0 clX12 cwX12_272 (m_X12_doors w o0 h0 M) h0 34 dX12_planed_31 rfl ⟨Nat.le_of_ble_eq_true rfl, Nat.le_of_ble_eq_true rfl⟩ ⟨Nat.zero_le _, Nat.zero_le _⟩ (Nat.le_of_ble_eq_true rfl) (fun q2 M1 _ => ?_)
    refine go_icmp_ge 57 37 dX12_planed_34 rfl (by decide) (fun _ => ?_) (fun _ => ?_)
    · exact go_lv [0, 1, 2] rfl (s_X12_planed_57 w o0 h0 x1 x2 M1)
    · refine go_aload_n 0 38 dX12_planed_37 rfl rfl ?_
      refine go_getR flX12_126 h0 41 dX12_planed_38 rfl ?_
      refine go_iload_n 3 42 dX12_planed_41 rfl rfl ?_
      refine go_aload_n 0 43 dX12_planed_42 rfl rfl ?_
      refine go_getR flX12_113 h0 46 dX12_planed_43 rfl ?_
      refine go_iconst 2 47 dX12_planed_46 rfl (by decide) ?_
      refine go_iload_n 3 48 dX12_planed_47 rfl rfl ?_
      refine go_iadd 49 dX12_planed_48 rfl ?_
      refine go_iald (rk12_24 h0) 50 dX12_planed_49 rfl ?_
      refine go_iast (rk12_29 h0) 51 dX12_planed_50 rfl ?_
      refine go_nmM (fun M3 => ?_)
      refine go_iinc (x3 + 1) 3 [(3, .int (x3 + 1)), (0, .ref (gB G + o0)), (1, .int x1), (2, .int x2)] 54 dX12_planed_51 rfl rfl rfl (by decide) rfl ?_
      refine go_goto 29 dX12_planed_54 (by decide) ?_
      exact go_lv [1, 2, 3, 0] rfl (ih o0 h0 x1 x2 (x3 + 1) M3)
def f_X12_planed (w : Nat) (o0 : Nat) (x1 : Int32) (x2 : Int32) (M : mM) : Option (Int32 × mM) := lt (wI M o0 0 0) fun M1 => bI (f_X12_within w x1 0 30 M1) fun q3 M2 => (if q3 = 0 then some ((-2), M2) else bI (f_X12_within w x2 (-1) 2 M2) fun q5 M4 => (if q5 = 0 then some ((-2), M4) else (f_X12_planed_29 w w o0 x1 x2 0 M4)))
set_option maxHeartbeats 4000000 in
set_option maxRecDepth 100000 in
theorem s_X12_planed {l : Launch} {G : mG} {sk : List mS} (w : Nat) (o0 : Nat) (h0 : isK o0 22) (x1 : Int32) (x2 : Int32) (M : mM) : Go muX12_planed (rm 67) 0 0 l G sk (mFin G sk eI) (f_X12_planed w o0 x1 x2 M) 0 [(0, .ref (gB G + o0)), (1, .int x1), (2, .int x2)] [] M := by
  unfold f_X12_planed
  refine go_aload_n 0 1 dX12_planed_0 rfl rfl ?_
  refine go_iconst 0 2 dX12_planed_1 rfl (by decide) ?_
  refine go_putI flX12_1 rfl rfl h0 5 dX12_planed_2 rfl ?_
  refine go_nmM (fun M1 => ?_)
  refine go_iload_n 1 6 dX12_planed_5 rfl rfl ?_
  refine go_iconst 0 7 dX12_planed_6 rfl (by decide) ?_
  refine go_bipush 30 9 dX12_planed_7 rfl (by decide) ?_
  refine go_cSI3 0 cwX12_204 (m_X12_within w x1 0 30 M1) 12 dX12_planed_9 rfl ⟨Nat.le_of_ble_eq_true rfl, Nat.le_of_ble_eq_true rfl⟩ ⟨Nat.zero_le _, Nat.zero_le _⟩ (Nat.le_of_ble_eq_true rfl) (fun q3 M2 _ => ?_)
  refine go_if_eq 24 15 dX12_planed_12 rfl (by decide) (fun _ => ?_) (fun _ => ?_)
  · refine go_bipush (-2) 26 dX12_planed_24 rfl (by decide) ?_
    exact go_iret rfl dX12_planed_26
  · refine go_iload_n 2 16 dX12_planed_15 rfl rfl ?_
    refine go_iconst (-1) 17 dX12_planed_16 rfl (by decide) ?_
    refine go_iconst 2 18 dX12_planed_17 rfl (by decide) ?_
    refine go_cSI3 0 cwX12_204 (m_X12_within w x2 (-1) 2 M2) 21 dX12_planed_18 rfl ⟨Nat.le_of_ble_eq_true rfl, Nat.le_of_ble_eq_true rfl⟩ ⟨Nat.zero_le _, Nat.zero_le _⟩ (Nat.le_of_ble_eq_true rfl) (fun q5 M4 _ => ?_)
    refine go_if_ne 27 24 dX12_planed_21 rfl (by decide) (fun _ => ?_) (fun _ => ?_)
    · refine go_iconst 0 28 dX12_planed_27 rfl (by decide) ?_
      refine go_istore_n [(3, .int 0), (0, .ref (gB G + o0)), (1, .int x1), (2, .int x2)] 29 dX12_planed_28 rfl rfl (by decide) rfl ?_
      exact go_lv [1, 2, 3, 0] rfl (s_X12_planed_29 w w o0 h0 x1 x2 0 M4)
    · refine go_bipush (-2) 26 dX12_planed_24 rfl (by decide) ?_
      exact go_iret rfl dX12_planed_26
theorem m_X12_planed {l : Launch} {G : mG} {sk : List mS} (w : Nat) (o0 : Nat) (h0 : isK o0 22) (x1 : Int32) (x2 : Int32) (M : mM) : Mt l G sk yX12_planed muX12_planed 67 [.ref (gB G + o0), .int x1, .int x2] M eI (f_X12_planed w o0 x1 x2 M) := Mt.of (by decide) rfl (Nat.le_of_ble_eq_true rfl) (s_X12_planed w o0 h0 x1 x2 M)
theorem dX12_feel_0 : decode cX12_feel 0 = .ok (.aload_n 0, 1) := by decide +kernel
theorem dX12_feel_1 : decode cX12_feel 1 = .ok (.iconst 0, 1) := by decide +kernel
theorem dX12_feel_2 : decode cX12_feel 2 = .ok (.putfield 1, 3) := by decide +kernel
theorem dX12_feel_5 : decode cX12_feel 5 = .ok (.aload_n 0, 1) := by decide +kernel
theorem dX12_feel_6 : decode cX12_feel 6 = .ok (.iload_n 1, 1) := by decide +kernel
theorem dX12_feel_7 : decode cX12_feel 7 = .ok (.invokevirtual 319, 3) := by decide +kernel
theorem dX12_feel_10 : decode cX12_feel 10 = .ok (.ifCond .eq 25, 3) := by decide +kernel
theorem dX12_feel_13 : decode cX12_feel 13 = .ok (.iload_n 2, 1) := by decide +kernel
theorem dX12_feel_14 : decode cX12_feel 14 = .ok (.iconst 1, 1) := by decide +kernel
theorem dX12_feel_15 : decode cX12_feel 15 = .ok (.bipush 30, 2) := by decide +kernel
theorem dX12_feel_17 : decode cX12_feel 17 = .ok (.invokestatic 204, 3) := by decide +kernel
theorem dX12_feel_20 : decode cX12_feel 20 = .ok (.ifCond .eq 15, 3) := by decide +kernel
theorem dX12_feel_23 : decode cX12_feel 23 = .ok (.aload_n 0, 1) := by decide +kernel
theorem dX12_feel_24 : decode cX12_feel 24 = .ok (.getfield 113, 3) := by decide +kernel
theorem dX12_feel_27 : decode cX12_feel 27 = .ok (.bipush 23, 2) := by decide +kernel
theorem dX12_feel_29 : decode cX12_feel 29 = .ok (.iaload, 1) := by decide +kernel
theorem dX12_feel_30 : decode cX12_feel 30 = .ok (.bipush 8, 2) := by decide +kernel
theorem dX12_feel_32 : decode cX12_feel 32 = .ok (.if_icmp .ne 5, 3) := by decide +kernel
theorem dX12_feel_35 : decode cX12_feel 35 = .ok (.iconst 0, 1) := by decide +kernel
theorem dX12_feel_36 : decode cX12_feel 36 = .ok (.ireturn, 1) := by decide +kernel
theorem dX12_feel_37 : decode cX12_feel 37 = .ok (.bipush 24, 2) := by decide +kernel
theorem dX12_feel_39 : decode cX12_feel 39 = .ok (.iconst 3, 1) := by decide +kernel
theorem dX12_feel_40 : decode cX12_feel 40 = .ok (.aload_n 0, 1) := by decide +kernel
theorem dX12_feel_41 : decode cX12_feel 41 = .ok (.getfield 113, 3) := by decide +kernel
theorem dX12_feel_44 : decode cX12_feel 44 = .ok (.bipush 23, 2) := by decide +kernel
theorem dX12_feel_46 : decode cX12_feel 46 = .ok (.iaload, 1) := by decide +kernel
theorem dX12_feel_47 : decode cX12_feel 47 = .ok (.imul, 1) := by decide +kernel
theorem dX12_feel_48 : decode cX12_feel 48 = .ok (.iadd, 1) := by decide +kernel
theorem dX12_feel_49 : decode cX12_feel 49 = .ok (.istore 4, 2) := by decide +kernel
theorem dX12_feel_51 : decode cX12_feel 51 = .ok (.aload_n 0, 1) := by decide +kernel
theorem dX12_feel_52 : decode cX12_feel 52 = .ok (.getfield 113, 3) := by decide +kernel
theorem dX12_feel_55 : decode cX12_feel 55 = .ok (.iload 4, 2) := by decide +kernel
theorem dX12_feel_57 : decode cX12_feel 57 = .ok (.iload_n 1, 1) := by decide +kernel
theorem dX12_feel_58 : decode cX12_feel 58 = .ok (.iastore, 1) := by decide +kernel
theorem dX12_feel_59 : decode cX12_feel 59 = .ok (.aload_n 0, 1) := by decide +kernel
theorem dX12_feel_60 : decode cX12_feel 60 = .ok (.getfield 113, 3) := by decide +kernel
theorem dX12_feel_63 : decode cX12_feel 63 = .ok (.iload 4, 2) := by decide +kernel
theorem dX12_feel_65 : decode cX12_feel 65 = .ok (.iconst 1, 1) := by decide +kernel
theorem dX12_feel_66 : decode cX12_feel 66 = .ok (.iadd, 1) := by decide +kernel
theorem dX12_feel_67 : decode cX12_feel 67 = .ok (.iload_n 2, 1) := by decide +kernel
theorem dX12_feel_68 : decode cX12_feel 68 = .ok (.iastore, 1) := by decide +kernel
theorem dX12_feel_69 : decode cX12_feel 69 = .ok (.aload_n 0, 1) := by decide +kernel
theorem dX12_feel_70 : decode cX12_feel 70 = .ok (.getfield 113, 3) := by decide +kernel
theorem dX12_feel_73 : decode cX12_feel 73 = .ok (.iload 4, 2) := by decide +kernel
theorem dX12_feel_75 : decode cX12_feel 75 = .ok (.iconst 2, 1) := by decide +kernel
theorem dX12_feel_76 : decode cX12_feel 76 = .ok (.iadd, 1) := by decide +kernel
theorem dX12_feel_77 : decode cX12_feel 77 = .ok (.iload_n 3, 1) := by decide +kernel
theorem dX12_feel_78 : decode cX12_feel 78 = .ok (.ifCond .eq 7, 3) := by decide +kernel
theorem dX12_feel_81 : decode cX12_feel 81 = .ok (.iconst 1, 1) := by decide +kernel
theorem dX12_feel_82 : decode cX12_feel 82 = .ok (.goto 4, 3) := by decide +kernel
theorem dX12_feel_85 : decode cX12_feel 85 = .ok (.iconst 0, 1) := by decide +kernel
theorem dX12_feel_86 : decode cX12_feel 86 = .ok (.iastore, 1) := by decide +kernel
theorem dX12_feel_87 : decode cX12_feel 87 = .ok (.aload_n 0, 1) := by decide +kernel
theorem dX12_feel_88 : decode cX12_feel 88 = .ok (.getfield 113, 3) := by decide +kernel
theorem dX12_feel_91 : decode cX12_feel 91 = .ok (.bipush 23, 2) := by decide +kernel
theorem dX12_feel_93 : decode cX12_feel 93 = .ok (.dup2, 1) := by decide +kernel
theorem dX12_feel_94 : decode cX12_feel 94 = .ok (.iaload, 1) := by decide +kernel
theorem dX12_feel_95 : decode cX12_feel 95 = .ok (.iconst 1, 1) := by decide +kernel
theorem dX12_feel_96 : decode cX12_feel 96 = .ok (.iadd, 1) := by decide +kernel
theorem dX12_feel_97 : decode cX12_feel 97 = .ok (.iastore, 1) := by decide +kernel
theorem dX12_feel_98 : decode cX12_feel 98 = .ok (.iconst 1, 1) := by decide +kernel
theorem dX12_feel_99 : decode cX12_feel 99 = .ok (.ireturn, 1) := by decide +kernel
def f_X12_feel_86 (w : Nat) (o0 : Nat) (xs0 : Int32) (xs1 : Int32) (os2 : Nat) (M : mM) : Option (Int32 × mM) := chk xs1 (sL os2) (lt (wI M os2 xs1.toNatClampNeg xs0) fun M1 => chk 23 (sL (rF o0 24)) (chk 23 (sL (rF o0 24)) (lt (wI M1 (rF o0 24) (23 : Int32).toNatClampNeg ((M1.1 (rF o0 24) (23 : Int32).toNatClampNeg) + 1)) fun M2 => rtB 1 M2)))
set_option maxHeartbeats 4000000 in
set_option maxRecDepth 100000 in
theorem s_X12_feel_86 {l : Launch} {G : mG} {sk : List mS} (w : Nat) (o0 : Nat) (h0 : isK o0 22) (xs0 : Int32) (xs1 : Int32) (os2 : Nat) (hs2 : isK os2 0) (M : mM) : Go muX12_feel (rm 2) 0 0 l G sk (mFin G sk eI) (f_X12_feel_86 w o0 xs0 xs1 os2 M) 86 [(0, .ref (gB G + o0))] [.int xs0, .int xs1, .ref (gB G + os2)] M := by
  unfold f_X12_feel_86
  refine go_iast hs2 87 dX12_feel_86 rfl ?_
  refine go_nmM (fun M1 => ?_)
  refine go_aload_n 0 88 dX12_feel_87 rfl rfl ?_
  refine go_getR flX12_113 h0 91 dX12_feel_88 rfl ?_
  refine go_bipush 23 93 dX12_feel_91 rfl (by decide) ?_
  refine go_dup2 94 dX12_feel_93 rfl rfl rfl ?_
  refine go_iald (rk12_24 h0) 95 dX12_feel_94 rfl ?_
  refine go_iconst 1 96 dX12_feel_95 rfl (by decide) ?_
  refine go_iadd 97 dX12_feel_96 rfl ?_
  refine go_iast (rk12_24 h0) 98 dX12_feel_97 rfl ?_
  refine go_nmM (fun M2 => ?_)
  refine go_iconst 1 99 dX12_feel_98 rfl (by decide) ?_
  exact go_zret rfl dX12_feel_99
def f_X12_feel (w : Nat) (o0 : Nat) (x1 : Int32) (x2 : Int32) (x3 : Int32) (M : mM) : Option (Int32 × mM) := lt (wI M o0 0 0) fun M1 => bI (f_X12_isDoor w o0 x1 M1) fun q3 M2 => (if q3 = 0 then rtB 0 M2 else bI (f_X12_within w x2 1 30 M2) fun q5 M4 => (if q5 = 0 then rtB 0 M4 else chk 23 (sL (rF o0 24)) ((if (M4.1 (rF o0 24) (23 : Int32).toNatClampNeg) = 8 then rtB 0 M4 else chk 23 (sL (rF o0 24)) (lt (24 + (3 * (M4.1 (rF o0 24) (23 : Int32).toNatClampNeg))) fun y6 => chk y6 (sL (rF o0 24)) (lt (wI M4 (rF o0 24) y6.toNatClampNeg x1) fun M7 => chk (y6 + 1) (sL (rF o0 24)) (lt (wI M7 (rF o0 24) (y6 + 1).toNatClampNeg x2) fun M8 => (if x3 = 0 then (f_X12_feel_86 w o0 0 (y6 + 2) (rF o0 24) M8) else (f_X12_feel_86 w o0 1 (y6 + 2) (rF o0 24) M8)))))))))
set_option maxHeartbeats 4000000 in
set_option maxRecDepth 100000 in
theorem s_X12_feel {l : Launch} {G : mG} {sk : List mS} (w : Nat) (o0 : Nat) (h0 : isK o0 22) (x1 : Int32) (x2 : Int32) (x3 : Int32) (M : mM) : Go muX12_feel (rm 2) 0 0 l G sk (mFin G sk eI) (f_X12_feel w o0 x1 x2 x3 M) 0 [(0, .ref (gB G + o0)), (1, .int x1), (2, .int x2), (3, .int x3)] [] M := by
  unfold f_X12_feel
  refine go_aload_n 0 1 dX12_feel_0 rfl rfl ?_
  refine go_iconst 0 2 dX12_feel_1 rfl (by decide) ?_
  refine go_putI flX12_1 rfl rfl h0 5 dX12_feel_2 rfl ?_
  refine go_nmM (fun M1 => ?_)
  refine go_aload_n 0 6 dX12_feel_5 rfl rfl ?_
  refine go_iload_n 1 7 dX12_feel_6 rfl rfl ?_
  refine go_cVI1 1 clX12 cwX12_319 (m_X12_isDoor w o0 h0 x1 M1) h0 10 dX12_feel_7 rfl ⟨Nat.le_of_ble_eq_true rfl, Nat.le_of_ble_eq_true rfl⟩ ⟨Nat.zero_le _, Nat.zero_le _⟩ (Nat.le_of_ble_eq_true rfl) (fun q3 M2 _ => ?_)
  refine go_if_eq 35 13 dX12_feel_10 rfl (by decide) (fun _ => ?_) (fun _ => ?_)
  · refine go_iconst 0 36 dX12_feel_35 rfl (by decide) ?_
    exact go_zret rfl dX12_feel_36
  · refine go_iload_n 2 14 dX12_feel_13 rfl rfl ?_
    refine go_iconst 1 15 dX12_feel_14 rfl (by decide) ?_
    refine go_bipush 30 17 dX12_feel_15 rfl (by decide) ?_
    refine go_cSI3 0 cwX12_204 (m_X12_within w x2 1 30 M2) 20 dX12_feel_17 rfl ⟨Nat.le_of_ble_eq_true rfl, Nat.le_of_ble_eq_true rfl⟩ ⟨Nat.zero_le _, Nat.zero_le _⟩ (Nat.le_of_ble_eq_true rfl) (fun q5 M4 _ => ?_)
    refine go_if_eq 35 23 dX12_feel_20 rfl (by decide) (fun _ => ?_) (fun _ => ?_)
    · refine go_iconst 0 36 dX12_feel_35 rfl (by decide) ?_
      exact go_zret rfl dX12_feel_36
    · refine go_aload_n 0 24 dX12_feel_23 rfl rfl ?_
      refine go_getR flX12_113 h0 27 dX12_feel_24 rfl ?_
      refine go_bipush 23 29 dX12_feel_27 rfl (by decide) ?_
      refine go_iald (rk12_24 h0) 30 dX12_feel_29 rfl ?_
      refine go_bipush 8 32 dX12_feel_30 rfl (by decide) ?_
      refine go_icmp_ne 37 35 dX12_feel_32 rfl (by decide) (fun _ => ?_) (fun _ => ?_)
      · refine go_bipush 24 39 dX12_feel_37 rfl (by decide) ?_
        refine go_iconst 3 40 dX12_feel_39 rfl (by decide) ?_
        refine go_aload_n 0 41 dX12_feel_40 rfl rfl ?_
        refine go_getR flX12_113 h0 44 dX12_feel_41 rfl ?_
        refine go_bipush 23 46 dX12_feel_44 rfl (by decide) ?_
        refine go_iald (rk12_24 h0) 47 dX12_feel_46 rfl ?_
        refine go_imul 48 dX12_feel_47 rfl ?_
        refine go_iadd 49 dX12_feel_48 rfl ?_
        refine go_nmI (fun y6 => ?_)
        refine go_istore [(4, .int y6), (0, .ref (gB G + o0)), (1, .int x1), (2, .int x2), (3, .int x3)] 51 dX12_feel_49 rfl (by decide) rfl ?_
        refine go_aload_n 1 52 dX12_feel_51 rfl rfl ?_
        refine go_getR flX12_113 h0 55 dX12_feel_52 rfl ?_
        refine go_iload 0 57 dX12_feel_55 rfl rfl ?_
        refine go_iload_n 2 58 dX12_feel_57 rfl rfl ?_
        refine go_iast (rk12_24 h0) 59 dX12_feel_58 rfl ?_
        refine go_nmM (fun M7 => ?_)
        refine go_aload_n 1 60 dX12_feel_59 rfl rfl ?_
        refine go_getR flX12_113 h0 63 dX12_feel_60 rfl ?_
        refine go_iload 0 65 dX12_feel_63 rfl rfl ?_
        refine go_iconst 1 66 dX12_feel_65 rfl (by decide) ?_
        refine go_iadd 67 dX12_feel_66 rfl ?_
        refine go_iload_n 3 68 dX12_feel_67 rfl rfl ?_
        refine go_iast (rk12_24 h0) 69 dX12_feel_68 rfl ?_
        refine go_nmM (fun M8 => ?_)
        refine go_aload_n 1 70 dX12_feel_69 rfl rfl ?_
        refine go_getR flX12_113 h0 73 dX12_feel_70 rfl ?_
        refine go_iload 0 75 dX12_feel_73 rfl rfl ?_
        refine go_iconst 2 76 dX12_feel_75 rfl (by decide) ?_
        refine go_iadd 77 dX12_feel_76 rfl ?_
        refine go_iload_n 4 78 dX12_feel_77 rfl rfl ?_
        refine go_if_eq 85 81 dX12_feel_78 rfl (by decide) (fun _ => ?_) (fun _ => ?_)
        · refine go_iconst 0 86 dX12_feel_85 rfl (by decide) ?_
          exact go_lv [1] rfl (s_X12_feel_86 w o0 h0 0 (y6 + 2) (rF o0 24) (rk12_24 h0) M8)
        · refine go_iconst 1 82 dX12_feel_81 rfl (by decide) ?_
          refine go_goto 86 dX12_feel_82 (by decide) ?_
          exact go_lv [1] rfl (s_X12_feel_86 w o0 h0 1 (y6 + 2) (rF o0 24) (rk12_24 h0) M8)
      · refine go_iconst 0 36 dX12_feel_35 rfl (by decide) ?_
        exact go_zret rfl dX12_feel_36
theorem m_X12_feel {l : Launch} {G : mG} {sk : List mS} (w : Nat) (o0 : Nat) (h0 : isK o0 22) (x1 : Int32) (x2 : Int32) (x3 : Int32) (M : mM) : Mt l G sk yX12_feel muX12_feel 2 [.ref (gB G + o0), .int x1, .int x2, .int x3] M eI (f_X12_feel w o0 x1 x2 x3 M) := Mt.of (by decide) rfl (Nat.le_of_ble_eq_true rfl) (s_X12_feel w o0 h0 x1 x2 x3 M)
theorem dX12_wetsNow_0 : decode cX12_wetsNow 0 = .ok (.iconst 0, 1) := by decide +kernel
theorem dX12_wetsNow_1 : decode cX12_wetsNow 1 = .ok (.istore_n 1, 1) := by decide +kernel
theorem dX12_wetsNow_2 : decode cX12_wetsNow 2 = .ok (.iconst 0, 1) := by decide +kernel
theorem dX12_wetsNow_3 : decode cX12_wetsNow 3 = .ok (.istore_n 2, 1) := by decide +kernel
theorem dX12_wetsNow_4 : decode cX12_wetsNow 4 = .ok (.iload_n 2, 1) := by decide +kernel
theorem dX12_wetsNow_5 : decode cX12_wetsNow 5 = .ok (.bipush 10, 2) := by decide +kernel
theorem dX12_wetsNow_7 : decode cX12_wetsNow 7 = .ok (.if_icmp .ge 150, 3) := by decide +kernel
theorem dX12_wetsNow_10 : decode cX12_wetsNow 10 = .ok (.aload_n 0, 1) := by decide +kernel
theorem dX12_wetsNow_11 : decode cX12_wetsNow 11 = .ok (.invokevirtual 372, 3) := by decide +kernel
theorem dX12_wetsNow_14 : decode cX12_wetsNow 14 = .ok (.iconst 1, 1) := by decide +kernel
theorem dX12_wetsNow_15 : decode cX12_wetsNow 15 = .ok (.istore_n 3, 1) := by decide +kernel
theorem dX12_wetsNow_16 : decode cX12_wetsNow 16 = .ok (.iload_n 3, 1) := by decide +kernel
theorem dX12_wetsNow_17 : decode cX12_wetsNow 17 = .ok (.bipush 30, 2) := by decide +kernel
theorem dX12_wetsNow_19 : decode cX12_wetsNow 19 = .ok (.if_icmp .gt 35, 3) := by decide +kernel
theorem dX12_wetsNow_22 : decode cX12_wetsNow 22 = .ok (.aload_n 0, 1) := by decide +kernel
theorem dX12_wetsNow_23 : decode cX12_wetsNow 23 = .ok (.sipush 1365, 3) := by decide +kernel
theorem dX12_wetsNow_26 : decode cX12_wetsNow 26 = .ok (.iload_n 2, 1) := by decide +kernel
theorem dX12_wetsNow_27 : decode cX12_wetsNow 27 = .ok (.invokevirtual 313, 3) := by decide +kernel
theorem dX12_wetsNow_30 : decode cX12_wetsNow 30 = .ok (.aload_n 0, 1) := by decide +kernel
theorem dX12_wetsNow_31 : decode cX12_wetsNow 31 = .ok (.getfield 129, 3) := by decide +kernel
theorem dX12_wetsNow_34 : decode cX12_wetsNow 34 = .ok (.bipush 31, 2) := by decide +kernel
theorem dX12_wetsNow_36 : decode cX12_wetsNow 36 = .ok (.iload_n 2, 1) := by decide +kernel
theorem dX12_wetsNow_37 : decode cX12_wetsNow 37 = .ok (.imul, 1) := by decide +kernel
theorem dX12_wetsNow_38 : decode cX12_wetsNow 38 = .ok (.iload_n 3, 1) := by decide +kernel
theorem dX12_wetsNow_39 : decode cX12_wetsNow 39 = .ok (.iadd, 1) := by decide +kernel
theorem dX12_wetsNow_40 : decode cX12_wetsNow 40 = .ok (.aload_n 0, 1) := by decide +kernel
theorem dX12_wetsNow_41 : decode cX12_wetsNow 41 = .ok (.sipush 1365, 3) := by decide +kernel
theorem dX12_wetsNow_44 : decode cX12_wetsNow 44 = .ok (.invokevirtual 330, 3) := by decide +kernel
theorem dX12_wetsNow_47 : decode cX12_wetsNow 47 = .ok (.iastore, 1) := by decide +kernel
theorem dX12_wetsNow_48 : decode cX12_wetsNow 48 = .ok (.iinc 3 1, 3) := by decide +kernel
theorem dX12_wetsNow_51 : decode cX12_wetsNow 51 = .ok (.goto (-35), 3) := by decide +kernel
theorem dX12_wetsNow_54 : decode cX12_wetsNow 54 = .ok (.iconst 1, 1) := by decide +kernel
theorem dX12_wetsNow_55 : decode cX12_wetsNow 55 = .ok (.istore_n 3, 1) := by decide +kernel
theorem dX12_wetsNow_56 : decode cX12_wetsNow 56 = .ok (.iconst 0, 1) := by decide +kernel
theorem dX12_wetsNow_57 : decode cX12_wetsNow 57 = .ok (.istore 4, 2) := by decide +kernel
theorem dX12_wetsNow_59 : decode cX12_wetsNow 59 = .ok (.iload 4, 2) := by decide +kernel
theorem dX12_wetsNow_61 : decode cX12_wetsNow 61 = .ok (.aload_n 0, 1) := by decide +kernel
theorem dX12_wetsNow_62 : decode cX12_wetsNow 62 = .ok (.getfield 113, 3) := by decide +kernel
theorem dX12_wetsNow_65 : decode cX12_wetsNow 65 = .ok (.bipush 23, 2) := by decide +kernel
theorem dX12_wetsNow_67 : decode cX12_wetsNow 67 = .ok (.iaload, 1) := by decide +kernel
theorem dX12_wetsNow_68 : decode cX12_wetsNow 68 = .ok (.if_icmp .ge 69, 3) := by decide +kernel
theorem dX12_wetsNow_71 : decode cX12_wetsNow 71 = .ok (.bipush 24, 2) := by decide +kernel
theorem dX12_wetsNow_73 : decode cX12_wetsNow 73 = .ok (.iconst 3, 1) := by decide +kernel
theorem dX12_wetsNow_74 : decode cX12_wetsNow 74 = .ok (.iload 4, 2) := by decide +kernel
theorem dX12_wetsNow_76 : decode cX12_wetsNow 76 = .ok (.imul, 1) := by decide +kernel
theorem dX12_wetsNow_77 : decode cX12_wetsNow 77 = .ok (.iadd, 1) := by decide +kernel
theorem dX12_wetsNow_78 : decode cX12_wetsNow 78 = .ok (.istore 5, 2) := by decide +kernel
theorem dX12_wetsNow_80 : decode cX12_wetsNow 80 = .ok (.iload_n 3, 1) := by decide +kernel
theorem dX12_wetsNow_81 : decode cX12_wetsNow 81 = .ok (.ifCond .eq 48, 3) := by decide +kernel
theorem dX12_wetsNow_84 : decode cX12_wetsNow 84 = .ok (.aload_n 0, 1) := by decide +kernel
theorem dX12_wetsNow_85 : decode cX12_wetsNow 85 = .ok (.getfield 129, 3) := by decide +kernel
theorem dX12_wetsNow_88 : decode cX12_wetsNow 88 = .ok (.bipush 31, 2) := by decide +kernel
theorem dX12_wetsNow_90 : decode cX12_wetsNow 90 = .ok (.iload_n 2, 1) := by decide +kernel
theorem dX12_wetsNow_91 : decode cX12_wetsNow 91 = .ok (.imul, 1) := by decide +kernel
theorem dX12_wetsNow_92 : decode cX12_wetsNow 92 = .ok (.aload_n 0, 1) := by decide +kernel
theorem dX12_wetsNow_93 : decode cX12_wetsNow 93 = .ok (.getfield 113, 3) := by decide +kernel
theorem dX12_wetsNow_96 : decode cX12_wetsNow 96 = .ok (.iload 5, 2) := by decide +kernel
theorem dX12_wetsNow_98 : decode cX12_wetsNow 98 = .ok (.iconst 1, 1) := by decide +kernel
theorem dX12_wetsNow_99 : decode cX12_wetsNow 99 = .ok (.iadd, 1) := by decide +kernel
theorem dX12_wetsNow_100 : decode cX12_wetsNow 100 = .ok (.iaload, 1) := by decide +kernel
theorem dX12_wetsNow_101 : decode cX12_wetsNow 101 = .ok (.iadd, 1) := by decide +kernel
theorem dX12_wetsNow_102 : decode cX12_wetsNow 102 = .ok (.iaload, 1) := by decide +kernel
theorem dX12_wetsNow_103 : decode cX12_wetsNow 103 = .ok (.aload_n 0, 1) := by decide +kernel
theorem dX12_wetsNow_104 : decode cX12_wetsNow 104 = .ok (.getfield 113, 3) := by decide +kernel
theorem dX12_wetsNow_107 : decode cX12_wetsNow 107 = .ok (.iload 5, 2) := by decide +kernel
theorem dX12_wetsNow_109 : decode cX12_wetsNow 109 = .ok (.iaload, 1) := by decide +kernel
theorem dX12_wetsNow_110 : decode cX12_wetsNow 110 = .ok (.ishr, 1) := by decide +kernel
theorem dX12_wetsNow_111 : decode cX12_wetsNow 111 = .ok (.iconst 1, 1) := by decide +kernel
theorem dX12_wetsNow_112 : decode cX12_wetsNow 112 = .ok (.iand, 1) := by decide +kernel
theorem dX12_wetsNow_113 : decode cX12_wetsNow 113 = .ok (.aload_n 0, 1) := by decide +kernel
theorem dX12_wetsNow_114 : decode cX12_wetsNow 114 = .ok (.getfield 113, 3) := by decide +kernel
theorem dX12_wetsNow_117 : decode cX12_wetsNow 117 = .ok (.iload 5, 2) := by decide +kernel
theorem dX12_wetsNow_119 : decode cX12_wetsNow 119 = .ok (.iconst 2, 1) := by decide +kernel
theorem dX12_wetsNow_120 : decode cX12_wetsNow 120 = .ok (.iadd, 1) := by decide +kernel
theorem dX12_wetsNow_121 : decode cX12_wetsNow 121 = .ok (.iaload, 1) := by decide +kernel
theorem dX12_wetsNow_122 : decode cX12_wetsNow 122 = .ok (.if_icmp .ne 7, 3) := by decide +kernel
theorem dX12_wetsNow_125 : decode cX12_wetsNow 125 = .ok (.iconst 1, 1) := by decide +kernel
theorem dX12_wetsNow_126 : decode cX12_wetsNow 126 = .ok (.goto 4, 3) := by decide +kernel
theorem dX12_wetsNow_129 : decode cX12_wetsNow 129 = .ok (.iconst 0, 1) := by decide +kernel
theorem dX12_wetsNow_130 : decode cX12_wetsNow 130 = .ok (.istore_n 3, 1) := by decide +kernel
theorem dX12_wetsNow_131 : decode cX12_wetsNow 131 = .ok (.iinc 4 1, 3) := by decide +kernel
theorem dX12_wetsNow_134 : decode cX12_wetsNow 134 = .ok (.goto (-75), 3) := by decide +kernel
theorem dX12_wetsNow_137 : decode cX12_wetsNow 137 = .ok (.iload_n 1, 1) := by decide +kernel
theorem dX12_wetsNow_138 : decode cX12_wetsNow 138 = .ok (.iload_n 3, 1) := by decide +kernel
theorem dX12_wetsNow_139 : decode cX12_wetsNow 139 = .ok (.ifCond .eq 9, 3) := by decide +kernel
theorem dX12_wetsNow_142 : decode cX12_wetsNow 142 = .ok (.iconst 1, 1) := by decide +kernel
theorem dX12_wetsNow_143 : decode cX12_wetsNow 143 = .ok (.iload_n 2, 1) := by decide +kernel
theorem dX12_wetsNow_144 : decode cX12_wetsNow 144 = .ok (.ishl, 1) := by decide +kernel
theorem dX12_wetsNow_145 : decode cX12_wetsNow 145 = .ok (.goto 4, 3) := by decide +kernel
theorem dX12_wetsNow_148 : decode cX12_wetsNow 148 = .ok (.iconst 0, 1) := by decide +kernel
theorem dX12_wetsNow_149 : decode cX12_wetsNow 149 = .ok (.ior, 1) := by decide +kernel
theorem dX12_wetsNow_150 : decode cX12_wetsNow 150 = .ok (.istore_n 1, 1) := by decide +kernel
theorem dX12_wetsNow_151 : decode cX12_wetsNow 151 = .ok (.iinc 2 1, 3) := by decide +kernel
theorem dX12_wetsNow_154 : decode cX12_wetsNow 154 = .ok (.goto (-150), 3) := by decide +kernel
theorem dX12_wetsNow_157 : decode cX12_wetsNow 157 = .ok (.iload_n 1, 1) := by decide +kernel
theorem dX12_wetsNow_158 : decode cX12_wetsNow 158 = .ok (.ireturn, 1) := by decide +kernel
def f_X12_wetsNow_137 (w : Nat) (k4 : Nat → Int32 → Int32 → mM → Option (Int32 × mM)) (o0 : Nat) (x1 : Int32) (x2 : Int32) (x3 : Int32) (M : mM) : Option (Int32 × mM) := (if x3 = 0 then lt (x1 ||| 0) fun y1 => (k4 o0 y1 (x2 + 1) M) else lt (x1 ||| ((1 : Int32) <<< (x2 &&& 31))) fun y2 => (k4 o0 y2 (x2 + 1) M))
set_option maxHeartbeats 4000000 in
set_option maxRecDepth 100000 in
theorem s_X12_wetsNow_137 {l : Launch} {G : mG} {sk : List mS} (w : Nat) (k4 : Nat → Int32 → Int32 → mM → Option (Int32 × mM)) (hk4 : ∀ (o0 : Nat) (h0 : isK o0 22) (x1 : Int32) (x2 : Int32) (M : mM), Go muX12_wetsNow (rm 4) 0 0 l G sk (mFin G sk eI) (k4 o0 x1 x2 M) 4 [(0, .ref (gB G + o0)), (1, .int x1), (2, .int x2)] [] M) (o0 : Nat) (h0 : isK o0 22) (x1 : Int32) (x2 : Int32) (x3 : Int32) (M : mM) : Go muX12_wetsNow (rm 4) 0 0 l G sk (mFin G sk eI) (f_X12_wetsNow_137 w k4 o0 x1 x2 x3 M) 137 [(0, .ref (gB G + o0)), (1, .int x1), (2, .int x2), (3, .int x3)] [] M := by
  unfold f_X12_wetsNow_137
  refine go_iload_n 1 138 dX12_wetsNow_137 rfl rfl ?_
  refine go_iload_n 3 139 dX12_wetsNow_138 rfl rfl ?_
  refine go_if_eq 148 142 dX12_wetsNow_139 rfl (by decide) (fun _ => ?_) (fun _ => ?_)
  · refine go_iconst 0 149 dX12_wetsNow_148 rfl (by decide) ?_
    refine go_ior 150 dX12_wetsNow_149 rfl ?_
    refine go_nmI (fun y1 => ?_)
    refine go_istore_n [(1, .int y1), (0, .ref (gB G + o0)), (2, .int x2), (3, .int x3)] 151 dX12_wetsNow_150 rfl rfl (by decide) rfl ?_
    refine go_iinc (x2 + 1) 2 [(2, .int (x2 + 1)), (1, .int y1), (0, .ref (gB G + o0)), (3, .int x3)] 154 dX12_wetsNow_151 rfl rfl rfl (by decide) rfl ?_
    refine go_goto 4 dX12_wetsNow_154 (by decide) ?_
    exact go_lv [2, 1, 0] rfl (hk4 o0 h0 y1 (x2 + 1) M)
  · refine go_iconst 1 143 dX12_wetsNow_142 rfl (by decide) ?_
    refine go_iload_n 2 144 dX12_wetsNow_143 rfl rfl ?_
    refine go_ishl 145 dX12_wetsNow_144 rfl ?_
    refine go_goto 149 dX12_wetsNow_145 (by decide) ?_
    refine go_ior 150 dX12_wetsNow_149 rfl ?_
    refine go_nmI (fun y2 => ?_)
    refine go_istore_n [(1, .int y2), (0, .ref (gB G + o0)), (2, .int x2), (3, .int x3)] 151 dX12_wetsNow_150 rfl rfl (by decide) rfl ?_
    refine go_iinc (x2 + 1) 2 [(2, .int (x2 + 1)), (1, .int y2), (0, .ref (gB G + o0)), (3, .int x3)] 154 dX12_wetsNow_151 rfl rfl rfl (by decide) rfl ?_
    refine go_goto 4 dX12_wetsNow_154 (by decide) ?_
    exact go_lv [2, 1, 0] rfl (hk4 o0 h0 y2 (x2 + 1) M)
def f_X12_wetsNow_59 (w : Nat) (k4 : Nat → Int32 → Int32 → mM → Option (Int32 × mM)) : Nat → Nat → Int32 → Int32 → Int32 → Int32 → mM → Option (Int32 × mM)
  | 0, _, _, _, _, _, _ => none
  | n + 1, o0, x1, x2, x3, x4, M => chk 23 (sL (rF o0 24)) ((if (M.1 (rF o0 24) (23 : Int32).toNatClampNeg) ≤ x4 then (f_X12_wetsNow_137 w k4 o0 x1 x2 x3 M) else lt (24 + (3 * x4)) fun y1 => (if x3 = 0 then (f_X12_wetsNow_59 w k4 n o0 x1 x2 0 (x4 + 1) M) else chk (y1 + 1) (sL (rF o0 24)) (chk ((31 * x2) + (M.1 (rF o0 24) (y1 + 1).toNatClampNeg)) (sL (rF o0 30)) (chk y1 (sL (rF o0 24)) (chk (y1 + 2) (sL (rF o0 24)) ((if (((M.1 (rF o0 30) ((31 * x2) + (M.1 (rF o0 24) (y1 + 1).toNatClampNeg)).toNatClampNeg) >>> ((M.1 (rF o0 24) y1.toNatClampNeg) &&& 31)) &&& 1) = (M.1 (rF o0 24) (y1 + 2).toNatClampNeg) then (f_X12_wetsNow_59 w k4 n o0 x1 x2 1 (x4 + 1) M) else (f_X12_wetsNow_59 w k4 n o0 x1 x2 0 (x4 + 1) M)))))))))
set_option maxHeartbeats 4000000 in
set_option maxRecDepth 100000 in
theorem s_X12_wetsNow_59 {l : Launch} {G : mG} {sk : List mS} (w : Nat) (k4 : Nat → Int32 → Int32 → mM → Option (Int32 × mM)) (hk4 : ∀ (o0 : Nat) (h0 : isK o0 22) (x1 : Int32) (x2 : Int32) (M : mM), Go muX12_wetsNow (rm 4) 0 0 l G sk (mFin G sk eI) (k4 o0 x1 x2 M) 4 [(0, .ref (gB G + o0)), (1, .int x1), (2, .int x2)] [] M) : ∀ (n : Nat) (o0 : Nat) (h0 : isK o0 22) (x1 : Int32) (x2 : Int32) (x3 : Int32) (x4 : Int32) (M : mM), Go muX12_wetsNow (rm 4) 0 0 l G sk (mFin G sk eI) (f_X12_wetsNow_59 w k4 n o0 x1 x2 x3 x4 M) 59 [(0, .ref (gB G + o0)), (1, .int x1), (2, .int x2), (3, .int x3), (4, .int x4)] [] M := by
  intro n
  induction n with
  | zero =>
    intros
    exact go_none
  | succ n ih =>
    intro o0 h0 x1 x2 x3 x4 M
    rw [f_X12_wetsNow_59]
    refine go_iload 4 61 dX12_wetsNow_59 rfl rfl ?_
    refine go_aload_n 0 62 dX12_wetsNow_61 rfl rfl ?_
    refine go_getR flX12_113 h0 65 dX12_wetsNow_62 rfl ?_
    refine go_bipush 23 67 dX12_wetsNow_65 rfl (by decide) ?_
    refine go_iald (rk12_24 h0) 68 dX12_wetsNow_67 rfl ?_
    refine go_icmp_ge 137 71 dX12_wetsNow_68 rfl (by decide) (fun _ => ?_) (fun _ => ?_)
    · exact go_lv [0, 1, 2, 3] rfl (s_X12_wetsNow_137 w k4 hk4 o0 h0 x1 x2 x3 M)
    · refine go_bipush 24 73 dX12_wetsNow_71 rfl (by decide) ?_
      refine go_iconst 3 74 dX12_wetsNow_73 rfl (by decide) ?_
      refine go_iload 4 76 dX12_wetsNow_74 rfl rfl ?_
      refine go_imul 77 dX12_wetsNow_76 rfl ?_
      refine go_iadd 78 dX12_wetsNow_77 rfl ?_
      refine go_nmI (fun y1 => ?_)
      refine go_istore [(5, .int y1), (0, .ref (gB G + o0)), (1, .int x1), (2, .int x2), (3, .int x3), (4, .int x4)] 80 dX12_wetsNow_78 rfl (by decide) rfl ?_
      refine go_iload_n 4 81 dX12_wetsNow_80 rfl rfl ?_
      refine go_if_eq 129 84 dX12_wetsNow_81 rfl (by decide) (fun _ => ?_) (fun _ => ?_)
      · refine go_iconst 0 130 dX12_wetsNow_129 rfl (by decide) ?_
        refine go_istore_n [(3, .int 0), (5, .int y1), (0, .ref (gB G + o0)), (1, .int x1), (2, .int x2), (4, .int x4)] 131 dX12_wetsNow_130 rfl rfl (by decide) rfl ?_
        refine go_iinc (x4 + 1) 5 [(4, .int (x4 + 1)), (3, .int 0), (5, .int y1), (0, .ref (gB G + o0)), (1, .int x1), (2, .int x2)] 134 dX12_wetsNow_131 rfl rfl rfl (by decide) rfl ?_
        refine go_goto 59 dX12_wetsNow_134 (by decide) ?_
        exact go_lv [3, 4, 5, 1, 0] rfl (ih o0 h0 x1 x2 0 (x4 + 1) M)
      · refine go_aload_n 1 85 dX12_wetsNow_84 rfl rfl ?_
        refine go_getR flX12_129 h0 88 dX12_wetsNow_85 rfl ?_
        refine go_bipush 31 90 dX12_wetsNow_88 rfl (by decide) ?_
        refine go_iload_n 3 91 dX12_wetsNow_90 rfl rfl ?_
        refine go_imul 92 dX12_wetsNow_91 rfl ?_
        refine go_aload_n 1 93 dX12_wetsNow_92 rfl rfl ?_
        refine go_getR flX12_113 h0 96 dX12_wetsNow_93 rfl ?_
        refine go_iload 0 98 dX12_wetsNow_96 rfl rfl ?_
        refine go_iconst 1 99 dX12_wetsNow_98 rfl (by decide) ?_
        refine go_iadd 100 dX12_wetsNow_99 rfl ?_
        refine go_iald (rk12_24 h0) 101 dX12_wetsNow_100 rfl ?_
        refine go_iadd 102 dX12_wetsNow_101 rfl ?_
        refine go_iald (rk12_30 h0) 103 dX12_wetsNow_102 rfl ?_
        refine go_aload_n 1 104 dX12_wetsNow_103 rfl rfl ?_
        refine go_getR flX12_113 h0 107 dX12_wetsNow_104 rfl ?_
        refine go_iload 0 109 dX12_wetsNow_107 rfl rfl ?_
        refine go_iald (rk12_24 h0) 110 dX12_wetsNow_109 rfl ?_
        refine go_ishr 111 dX12_wetsNow_110 rfl ?_
        refine go_iconst 1 112 dX12_wetsNow_111 rfl (by decide) ?_
        refine go_iand 113 dX12_wetsNow_112 rfl ?_
        refine go_aload_n 1 114 dX12_wetsNow_113 rfl rfl ?_
        refine go_getR flX12_113 h0 117 dX12_wetsNow_114 rfl ?_
        refine go_iload 0 119 dX12_wetsNow_117 rfl rfl ?_
        refine go_iconst 2 120 dX12_wetsNow_119 rfl (by decide) ?_
        refine go_iadd 121 dX12_wetsNow_120 rfl ?_
        refine go_iald (rk12_24 h0) 122 dX12_wetsNow_121 rfl ?_
        refine go_icmp_ne 129 125 dX12_wetsNow_122 rfl (by decide) (fun _ => ?_) (fun _ => ?_)
        · refine go_iconst 0 130 dX12_wetsNow_129 rfl (by decide) ?_
          refine go_istore_n [(3, .int 0), (5, .int y1), (0, .ref (gB G + o0)), (1, .int x1), (2, .int x2), (4, .int x4)] 131 dX12_wetsNow_130 rfl rfl (by decide) rfl ?_
          refine go_iinc (x4 + 1) 5 [(4, .int (x4 + 1)), (3, .int 0), (5, .int y1), (0, .ref (gB G + o0)), (1, .int x1), (2, .int x2)] 134 dX12_wetsNow_131 rfl rfl rfl (by decide) rfl ?_
          refine go_goto 59 dX12_wetsNow_134 (by decide) ?_
          exact go_lv [3, 4, 5, 1, 0] rfl (ih o0 h0 x1 x2 0 (x4 + 1) M)
        · refine go_iconst 1 126 dX12_wetsNow_125 rfl (by decide) ?_
          refine go_goto 130 dX12_wetsNow_126 (by decide) ?_
          refine go_istore_n [(3, .int 1), (5, .int y1), (0, .ref (gB G + o0)), (1, .int x1), (2, .int x2), (4, .int x4)] 131 dX12_wetsNow_130 rfl rfl (by decide) rfl ?_
          refine go_iinc (x4 + 1) 5 [(4, .int (x4 + 1)), (3, .int 1), (5, .int y1), (0, .ref (gB G + o0)), (1, .int x1), (2, .int x2)] 134 dX12_wetsNow_131 rfl rfl rfl (by decide) rfl ?_
          refine go_goto 59 dX12_wetsNow_134 (by decide) ?_
          exact go_lv [3, 4, 5, 1, 0] rfl (ih o0 h0 x1 x2 1 (x4 + 1) M)
def f_X12_wetsNow_54 (w : Nat) (k4 : Nat → Int32 → Int32 → mM → Option (Int32 × mM)) (o0 : Nat) (x1 : Int32) (x2 : Int32) (M : mM) : Option (Int32 × mM) := (f_X12_wetsNow_59 w k4 w o0 x1 x2 1 0 M)
set_option maxHeartbeats 4000000 in
set_option maxRecDepth 100000 in
theorem s_X12_wetsNow_54 {l : Launch} {G : mG} {sk : List mS} (w : Nat) (k4 : Nat → Int32 → Int32 → mM → Option (Int32 × mM)) (hk4 : ∀ (o0 : Nat) (h0 : isK o0 22) (x1 : Int32) (x2 : Int32) (M : mM), Go muX12_wetsNow (rm 4) 0 0 l G sk (mFin G sk eI) (k4 o0 x1 x2 M) 4 [(0, .ref (gB G + o0)), (1, .int x1), (2, .int x2)] [] M) (o0 : Nat) (h0 : isK o0 22) (x1 : Int32) (x2 : Int32) (M : mM) : Go muX12_wetsNow (rm 4) 0 0 l G sk (mFin G sk eI) (f_X12_wetsNow_54 w k4 o0 x1 x2 M) 54 [(0, .ref (gB G + o0)), (1, .int x1), (2, .int x2)] [] M := by
  unfold f_X12_wetsNow_54
  refine go_iconst 1 55 dX12_wetsNow_54 rfl (by decide) ?_
  refine go_istore_n [(3, .int 1), (0, .ref (gB G + o0)), (1, .int x1), (2, .int x2)] 56 dX12_wetsNow_55 rfl rfl (by decide) rfl ?_
  refine go_iconst 0 57 dX12_wetsNow_56 rfl (by decide) ?_
  refine go_istore [(4, .int 0), (3, .int 1), (0, .ref (gB G + o0)), (1, .int x1), (2, .int x2)] 59 dX12_wetsNow_57 rfl (by decide) rfl ?_
  exact go_lv [2, 3, 4, 1, 0] rfl (s_X12_wetsNow_59 w k4 hk4 w o0 h0 x1 x2 1 0 M)
def f_X12_wetsNow_16 (w : Nat) (k4 : Nat → Int32 → Int32 → mM → Option (Int32 × mM)) : Nat → Nat → Int32 → Int32 → Int32 → mM → Option (Int32 × mM)
  | 0, _, _, _, _, _ => none
  | n + 1, o0, x1, x2, x3, M => (if 30 < x3 then (f_X12_wetsNow_54 w k4 o0 x1 x2 M) else bV (f_X12_passes w o0 1365 x2 M) fun M1 => bI (f_X12_sticking w o0 1365 M1) fun q3 M2 => chk ((31 * x2) + x3) (sL (rF o0 30)) (lt (wI M2 (rF o0 30) ((31 * x2) + x3).toNatClampNeg q3) fun M4 => (f_X12_wetsNow_16 w k4 n o0 x1 x2 (x3 + 1) M4)))
set_option maxHeartbeats 4000000 in
set_option maxRecDepth 100000 in
theorem s_X12_wetsNow_16 {l : Launch} {G : mG} {sk : List mS} (w : Nat) (k4 : Nat → Int32 → Int32 → mM → Option (Int32 × mM)) (hk4 : ∀ (o0 : Nat) (h0 : isK o0 22) (x1 : Int32) (x2 : Int32) (M : mM), Go muX12_wetsNow (rm 4) 0 0 l G sk (mFin G sk eI) (k4 o0 x1 x2 M) 4 [(0, .ref (gB G + o0)), (1, .int x1), (2, .int x2)] [] M) : ∀ (n : Nat) (o0 : Nat) (h0 : isK o0 22) (x1 : Int32) (x2 : Int32) (x3 : Int32) (M : mM), Go muX12_wetsNow (rm 4) 0 0 l G sk (mFin G sk eI) (f_X12_wetsNow_16 w k4 n o0 x1 x2 x3 M) 16 [(0, .ref (gB G + o0)), (1, .int x1), (2, .int x2), (3, .int x3)] [] M := by
  intro n
  induction n with
  | zero =>
    intros
    exact go_none
  | succ n ih =>
    intro o0 h0 x1 x2 x3 M
    rw [f_X12_wetsNow_16]
    refine go_iload_n 3 17 dX12_wetsNow_16 rfl rfl ?_
    refine go_bipush 30 19 dX12_wetsNow_17 rfl (by decide) ?_
    refine go_icmp_gt 54 22 dX12_wetsNow_19 rfl (by decide) (fun _ => ?_) (fun _ => ?_)
    · exact go_lv [0, 1, 2] rfl (s_X12_wetsNow_54 w k4 hk4 o0 h0 x1 x2 M)
    · refine go_aload_n 0 23 dX12_wetsNow_22 rfl rfl ?_
      refine go_sipush 1365 26 dX12_wetsNow_23 rfl (by decide) ?_
      refine go_iload_n 2 27 dX12_wetsNow_26 rfl rfl ?_
      refine go_cVV2 3 clX12 cwX12_313 (m_X12_passes w o0 h0 1365 x2 M) h0 30 dX12_wetsNow_27 rfl ⟨Nat.le_of_ble_eq_true rfl, Nat.le_of_ble_eq_true rfl⟩ ⟨Nat.zero_le _, Nat.zero_le _⟩ (Nat.le_of_ble_eq_true rfl) (fun M1 _ => ?_)
      refine go_aload_n 0 31 dX12_wetsNow_30 rfl rfl ?_
      refine go_getR flX12_129 h0 34 dX12_wetsNow_31 rfl ?_
      refine go_bipush 31 36 dX12_wetsNow_34 rfl (by decide) ?_
      refine go_iload_n 2 37 dX12_wetsNow_36 rfl rfl ?_
      refine go_imul 38 dX12_wetsNow_37 rfl ?_
      refine go_iload_n 3 39 dX12_wetsNow_38 rfl rfl ?_
      refine go_iadd 40 dX12_wetsNow_39 rfl ?_
      refine go_aload_n 0 41 dX12_wetsNow_40 rfl rfl ?_
      refine go_sipush 1365 44 dX12_wetsNow_41 rfl (by decide) ?_
      refine go_cVI1 2 clX12 cwX12_330 (m_X12_sticking w o0 h0 1365 M1) h0 47 dX12_wetsNow_44 rfl ⟨Nat.le_of_ble_eq_true rfl, Nat.le_of_ble_eq_true rfl⟩ ⟨Nat.zero_le _, Nat.zero_le _⟩ (Nat.le_of_ble_eq_true rfl) (fun q3 M2 _ => ?_)
      refine go_iast (rk12_30 h0) 48 dX12_wetsNow_47 rfl ?_
      refine go_nmM (fun M4 => ?_)
      refine go_iinc (x3 + 1) 3 [(3, .int (x3 + 1)), (0, .ref (gB G + o0)), (1, .int x1), (2, .int x2)] 51 dX12_wetsNow_48 rfl rfl rfl (by decide) rfl ?_
      refine go_goto 16 dX12_wetsNow_51 (by decide) ?_
      exact go_lv [1, 2, 3, 0] rfl (ih o0 h0 x1 x2 (x3 + 1) M4)
def f_X12_wetsNow_4 (w : Nat) : Nat → Nat → Int32 → Int32 → mM → Option (Int32 × mM)
  | 0, _, _, _, _ => none
  | n + 1, o0, x1, x2, M => (if 10 ≤ x2 then some (x1, M) else bV (f_X12_triesNow w o0 M) fun M1 => (f_X12_wetsNow_16 w (f_X12_wetsNow_4 w n) w o0 x1 x2 1 M1))
set_option maxHeartbeats 4000000 in
set_option maxRecDepth 100000 in
theorem s_X12_wetsNow_4 {l : Launch} {G : mG} {sk : List mS} (w : Nat) : ∀ (n : Nat) (o0 : Nat) (h0 : isK o0 22) (x1 : Int32) (x2 : Int32) (M : mM), Go muX12_wetsNow (rm 4) 0 0 l G sk (mFin G sk eI) (f_X12_wetsNow_4 w n o0 x1 x2 M) 4 [(0, .ref (gB G + o0)), (1, .int x1), (2, .int x2)] [] M := by
  intro n
  induction n with
  | zero =>
    intros
    exact go_none
  | succ n ih =>
    intro o0 h0 x1 x2 M
    rw [f_X12_wetsNow_4]
    refine go_iload_n 2 5 dX12_wetsNow_4 rfl rfl ?_
    refine go_bipush 10 7 dX12_wetsNow_5 rfl (by decide) ?_
    refine go_icmp_ge 157 10 dX12_wetsNow_7 rfl (by decide) (fun _ => ?_) (fun _ => ?_)
    · refine go_iload_n 1 158 dX12_wetsNow_157 rfl rfl ?_
      exact go_iret rfl dX12_wetsNow_158
    · refine go_aload_n 0 11 dX12_wetsNow_10 rfl rfl ?_
      refine go_cVV0 1 clX12 cwX12_372 (m_X12_triesNow w o0 h0 M) h0 14 dX12_wetsNow_11 rfl ⟨Nat.le_of_ble_eq_true rfl, Nat.le_of_ble_eq_true rfl⟩ ⟨Nat.zero_le _, Nat.zero_le _⟩ (Nat.le_of_ble_eq_true rfl) (fun M1 _ => ?_)
      refine go_iconst 1 15 dX12_wetsNow_14 rfl (by decide) ?_
      refine go_istore_n [(3, .int 1), (0, .ref (gB G + o0)), (1, .int x1), (2, .int x2)] 16 dX12_wetsNow_15 rfl rfl (by decide) rfl ?_
      exact go_lv [1, 2, 3, 0] rfl (s_X12_wetsNow_16 w (f_X12_wetsNow_4 w n) (fun o0 h0 x1 x2 M => ih o0 h0 x1 x2 M) w o0 h0 x1 x2 1 M1)
def f_X12_wetsNow (w : Nat) (o0 : Nat) (M : mM) : Option (Int32 × mM) := (f_X12_wetsNow_4 w w o0 0 0 M)
set_option maxHeartbeats 4000000 in
set_option maxRecDepth 100000 in
theorem s_X12_wetsNow {l : Launch} {G : mG} {sk : List mS} (w : Nat) (o0 : Nat) (h0 : isK o0 22) (M : mM) : Go muX12_wetsNow (rm 4) 0 0 l G sk (mFin G sk eI) (f_X12_wetsNow w o0 M) 0 [(0, .ref (gB G + o0))] [] M := by
  unfold f_X12_wetsNow
  refine go_iconst 0 1 dX12_wetsNow_0 rfl (by decide) ?_
  refine go_istore_n [(1, .int 0), (0, .ref (gB G + o0))] 2 dX12_wetsNow_1 rfl rfl (by decide) rfl ?_
  refine go_iconst 0 3 dX12_wetsNow_2 rfl (by decide) ?_
  refine go_istore_n [(2, .int 0), (1, .int 0), (0, .ref (gB G + o0))] 4 dX12_wetsNow_3 rfl rfl (by decide) rfl ?_
  exact go_lv [2, 1, 0] rfl (s_X12_wetsNow_4 w w o0 h0 0 0 M)
theorem m_X12_wetsNow {l : Launch} {G : mG} {sk : List mS} (w : Nat) (o0 : Nat) (h0 : isK o0 22) (M : mM) : Mt l G sk yX12_wetsNow muX12_wetsNow 4 [.ref (gB G + o0)] M eI (f_X12_wetsNow w o0 M) := Mt.of (by decide) rfl (Nat.le_of_ble_eq_true rfl) (s_X12_wetsNow w o0 h0 M)
theorem dX12_wets_0 : decode cX12_wets 0 = .ok (.aload_n 0, 1) := by decide +kernel
theorem dX12_wets_1 : decode cX12_wets 1 = .ok (.iconst 0, 1) := by decide +kernel
theorem dX12_wets_2 : decode cX12_wets 2 = .ok (.putfield 1, 3) := by decide +kernel
theorem dX12_wets_5 : decode cX12_wets 5 = .ok (.aload_n 0, 1) := by decide +kernel
theorem dX12_wets_6 : decode cX12_wets 6 = .ok (.invokevirtual 392, 3) := by decide +kernel
theorem dX12_wets_9 : decode cX12_wets 9 = .ok (.ireturn, 1) := by decide +kernel
def f_X12_wets (w : Nat) (o0 : Nat) (M : mM) : Option (Int32 × mM) := lt (wI M o0 0 0) fun M1 => bI (f_X12_wetsNow w o0 M1) fun q3 M2 => some (q3, M2)
set_option maxHeartbeats 4000000 in
set_option maxRecDepth 100000 in
theorem s_X12_wets {l : Launch} {G : mG} {sk : List mS} (w : Nat) (o0 : Nat) (h0 : isK o0 22) (M : mM) : Go muX12_wets (rm 5) 0 0 l G sk (mFin G sk eI) (f_X12_wets w o0 M) 0 [(0, .ref (gB G + o0))] [] M := by
  unfold f_X12_wets
  refine go_aload_n 0 1 dX12_wets_0 rfl rfl ?_
  refine go_iconst 0 2 dX12_wets_1 rfl (by decide) ?_
  refine go_putI flX12_1 rfl rfl h0 5 dX12_wets_2 rfl ?_
  refine go_nmM (fun M1 => ?_)
  refine go_aload_n 0 6 dX12_wets_5 rfl rfl ?_
  refine go_cVI0 4 clX12 cwX12_392 (m_X12_wetsNow w o0 h0 M1) h0 9 dX12_wets_6 rfl ⟨Nat.le_of_ble_eq_true rfl, Nat.le_of_ble_eq_true rfl⟩ ⟨Nat.zero_le _, Nat.zero_le _⟩ (Nat.le_of_ble_eq_true rfl) (fun q3 M2 _ => ?_)
  exact go_iret rfl dX12_wets_9
theorem m_X12_wets {l : Launch} {G : mG} {sk : List mS} (w : Nat) (o0 : Nat) (h0 : isK o0 22) (M : mM) : Mt l G sk yX12_wets muX12_wets 5 [.ref (gB G + o0)] M eI (f_X12_wets w o0 M) := Mt.of (by decide) rfl (Nat.le_of_ble_eq_true rfl) (s_X12_wets w o0 h0 M)
theorem dX12_tries_0 : decode cX12_tries 0 = .ok (.aload_n 0, 1) := by decide +kernel
theorem dX12_tries_1 : decode cX12_tries 1 = .ok (.iconst 0, 1) := by decide +kernel
theorem dX12_tries_2 : decode cX12_tries 2 = .ok (.putfield 1, 3) := by decide +kernel
theorem dX12_tries_5 : decode cX12_tries 5 = .ok (.aload_n 0, 1) := by decide +kernel
theorem dX12_tries_6 : decode cX12_tries 6 = .ok (.invokevirtual 392, 3) := by decide +kernel
theorem dX12_tries_9 : decode cX12_tries 9 = .ok (.istore_n 1, 1) := by decide +kernel
theorem dX12_tries_10 : decode cX12_tries 10 = .ok (.iload_n 1, 1) := by decide +kernel
theorem dX12_tries_11 : decode cX12_tries 11 = .ok (.invokestatic 351, 3) := by decide +kernel
theorem dX12_tries_14 : decode cX12_tries 14 = .ok (.istore_n 2, 1) := by decide +kernel
theorem dX12_tries_15 : decode cX12_tries 15 = .ok (.iconst (-1), 1) := by decide +kernel
theorem dX12_tries_16 : decode cX12_tries 16 = .ok (.istore_n 3, 1) := by decide +kernel
theorem dX12_tries_17 : decode cX12_tries 17 = .ok (.iload_n 2, 1) := by decide +kernel
theorem dX12_tries_18 : decode cX12_tries 18 = .ok (.istore 4, 2) := by decide +kernel
theorem dX12_tries_20 : decode cX12_tries 20 = .ok (.iconst 1, 1) := by decide +kernel
theorem dX12_tries_21 : decode cX12_tries 21 = .ok (.istore 5, 2) := by decide +kernel
theorem dX12_tries_23 : decode cX12_tries 23 = .ok (.iload 5, 2) := by decide +kernel
theorem dX12_tries_25 : decode cX12_tries 25 = .ok (.bipush 30, 2) := by decide +kernel
theorem dX12_tries_27 : decode cX12_tries 27 = .ok (.if_icmp .gt 139, 3) := by decide +kernel
theorem dX12_tries_30 : decode cX12_tries 30 = .ok (.iconst 0, 1) := by decide +kernel
theorem dX12_tries_31 : decode cX12_tries 31 = .ok (.istore 6, 2) := by decide +kernel
theorem dX12_tries_33 : decode cX12_tries 33 = .ok (.iload 6, 2) := by decide +kernel
theorem dX12_tries_35 : decode cX12_tries 35 = .ok (.aload_n 0, 1) := by decide +kernel
theorem dX12_tries_36 : decode cX12_tries 36 = .ok (.invokevirtual 272, 3) := by decide +kernel
theorem dX12_tries_39 : decode cX12_tries 39 = .ok (.if_icmp .ge 121, 3) := by decide +kernel
theorem dX12_tries_42 : decode cX12_tries 42 = .ok (.iconst 0, 1) := by decide +kernel
theorem dX12_tries_43 : decode cX12_tries 43 = .ok (.istore 7, 2) := by decide +kernel
theorem dX12_tries_45 : decode cX12_tries 45 = .ok (.iconst 0, 1) := by decide +kernel
theorem dX12_tries_46 : decode cX12_tries 46 = .ok (.istore 8, 2) := by decide +kernel
theorem dX12_tries_48 : decode cX12_tries 48 = .ok (.iload 8, 2) := by decide +kernel
theorem dX12_tries_50 : decode cX12_tries 50 = .ok (.bipush 10, 2) := by decide +kernel
theorem dX12_tries_52 : decode cX12_tries 52 = .ok (.if_icmp .ge 46, 3) := by decide +kernel
theorem dX12_tries_55 : decode cX12_tries 55 = .ok (.iload 7, 2) := by decide +kernel
theorem dX12_tries_57 : decode cX12_tries 57 = .ok (.iload_n 1, 1) := by decide +kernel
theorem dX12_tries_58 : decode cX12_tries 58 = .ok (.iload 8, 2) := by decide +kernel
theorem dX12_tries_60 : decode cX12_tries 60 = .ok (.ishr, 1) := by decide +kernel
theorem dX12_tries_61 : decode cX12_tries 61 = .ok (.iconst 1, 1) := by decide +kernel
theorem dX12_tries_62 : decode cX12_tries 62 = .ok (.iand, 1) := by decide +kernel
theorem dX12_tries_63 : decode cX12_tries 63 = .ok (.iconst 1, 1) := by decide +kernel
theorem dX12_tries_64 : decode cX12_tries 64 = .ok (.if_icmp .ne 24, 3) := by decide +kernel
theorem dX12_tries_67 : decode cX12_tries 67 = .ok (.aload_n 0, 1) := by decide +kernel
theorem dX12_tries_68 : decode cX12_tries 68 = .ok (.getfield 129, 3) := by decide +kernel
theorem dX12_tries_71 : decode cX12_tries 71 = .ok (.bipush 31, 2) := by decide +kernel
theorem dX12_tries_73 : decode cX12_tries 73 = .ok (.iload 8, 2) := by decide +kernel
theorem dX12_tries_75 : decode cX12_tries 75 = .ok (.imul, 1) := by decide +kernel
theorem dX12_tries_76 : decode cX12_tries 76 = .ok (.iload 5, 2) := by decide +kernel
theorem dX12_tries_78 : decode cX12_tries 78 = .ok (.iadd, 1) := by decide +kernel
theorem dX12_tries_79 : decode cX12_tries 79 = .ok (.iaload, 1) := by decide +kernel
theorem dX12_tries_80 : decode cX12_tries 80 = .ok (.iload 6, 2) := by decide +kernel
theorem dX12_tries_82 : decode cX12_tries 82 = .ok (.ishr, 1) := by decide +kernel
theorem dX12_tries_83 : decode cX12_tries 83 = .ok (.iconst 1, 1) := by decide +kernel
theorem dX12_tries_84 : decode cX12_tries 84 = .ok (.iand, 1) := by decide +kernel
theorem dX12_tries_85 : decode cX12_tries 85 = .ok (.goto 4, 3) := by decide +kernel
theorem dX12_tries_88 : decode cX12_tries 88 = .ok (.iconst 0, 1) := by decide +kernel
theorem dX12_tries_89 : decode cX12_tries 89 = .ok (.iadd, 1) := by decide +kernel
theorem dX12_tries_90 : decode cX12_tries 90 = .ok (.istore 7, 2) := by decide +kernel
theorem dX12_tries_92 : decode cX12_tries 92 = .ok (.iinc 8 1, 3) := by decide +kernel
theorem dX12_tries_95 : decode cX12_tries 95 = .ok (.goto (-47), 3) := by decide +kernel
theorem dX12_tries_98 : decode cX12_tries 98 = .ok (.iload 7, 2) := by decide +kernel
theorem dX12_tries_100 : decode cX12_tries 100 = .ok (.iload_n 2, 1) := by decide +kernel
theorem dX12_tries_101 : decode cX12_tries 101 = .ok (.iload 7, 2) := by decide +kernel
theorem dX12_tries_103 : decode cX12_tries 103 = .ok (.isub, 1) := by decide +kernel
theorem dX12_tries_104 : decode cX12_tries 104 = .ok (.if_icmp .le 8, 3) := by decide +kernel
theorem dX12_tries_107 : decode cX12_tries 107 = .ok (.iload 7, 2) := by decide +kernel
theorem dX12_tries_109 : decode cX12_tries 109 = .ok (.goto 7, 3) := by decide +kernel
theorem dX12_tries_112 : decode cX12_tries 112 = .ok (.iload_n 2, 1) := by decide +kernel
theorem dX12_tries_113 : decode cX12_tries 113 = .ok (.iload 7, 2) := by decide +kernel
theorem dX12_tries_115 : decode cX12_tries 115 = .ok (.isub, 1) := by decide +kernel
theorem dX12_tries_116 : decode cX12_tries 116 = .ok (.istore 8, 2) := by decide +kernel
theorem dX12_tries_118 : decode cX12_tries 118 = .ok (.iload 8, 2) := by decide +kernel
theorem dX12_tries_120 : decode cX12_tries 120 = .ok (.iload 4, 2) := by decide +kernel
theorem dX12_tries_122 : decode cX12_tries 122 = .ok (.if_icmp .ge 14, 3) := by decide +kernel
theorem dX12_tries_125 : decode cX12_tries 125 = .ok (.bipush 8, 2) := by decide +kernel
theorem dX12_tries_127 : decode cX12_tries 127 = .ok (.iload 5, 2) := by decide +kernel
theorem dX12_tries_129 : decode cX12_tries 129 = .ok (.imul, 1) := by decide +kernel
theorem dX12_tries_130 : decode cX12_tries 130 = .ok (.iload 6, 2) := by decide +kernel
theorem dX12_tries_132 : decode cX12_tries 132 = .ok (.iadd, 1) := by decide +kernel
theorem dX12_tries_133 : decode cX12_tries 133 = .ok (.goto 4, 3) := by decide +kernel
theorem dX12_tries_136 : decode cX12_tries 136 = .ok (.iload_n 3, 1) := by decide +kernel
theorem dX12_tries_137 : decode cX12_tries 137 = .ok (.istore_n 3, 1) := by decide +kernel
theorem dX12_tries_138 : decode cX12_tries 138 = .ok (.iload 8, 2) := by decide +kernel
theorem dX12_tries_140 : decode cX12_tries 140 = .ok (.iload 4, 2) := by decide +kernel
theorem dX12_tries_142 : decode cX12_tries 142 = .ok (.if_icmp .ge 8, 3) := by decide +kernel
theorem dX12_tries_145 : decode cX12_tries 145 = .ok (.iload 8, 2) := by decide +kernel
theorem dX12_tries_147 : decode cX12_tries 147 = .ok (.goto 5, 3) := by decide +kernel
theorem dX12_tries_150 : decode cX12_tries 150 = .ok (.iload 4, 2) := by decide +kernel
theorem dX12_tries_152 : decode cX12_tries 152 = .ok (.istore 4, 2) := by decide +kernel
theorem dX12_tries_154 : decode cX12_tries 154 = .ok (.iinc 6 1, 3) := by decide +kernel
theorem dX12_tries_157 : decode cX12_tries 157 = .ok (.goto (-124), 3) := by decide +kernel
theorem dX12_tries_160 : decode cX12_tries 160 = .ok (.iinc 5 1, 3) := by decide +kernel
theorem dX12_tries_163 : decode cX12_tries 163 = .ok (.goto (-140), 3) := by decide +kernel
theorem dX12_tries_166 : decode cX12_tries 166 = .ok (.iload_n 3, 1) := by decide +kernel
theorem dX12_tries_167 : decode cX12_tries 167 = .ok (.ireturn, 1) := by decide +kernel
def f_X12_tries_137 (w : Nat) (k23 : Nat → Int32 → Int32 → Int32 → Int32 → Int32 → mM → Option (Int32 × mM)) (k33 : Nat → Int32 → Int32 → Int32 → Int32 → Int32 → Int32 → mM → Option (Int32 × mM)) (o0 : Nat) (x1 : Int32) (x2 : Int32) (x4 : Int32) (x5 : Int32) (x6 : Int32) (x8 : Int32) (xs0 : Int32) (M : mM) : Option (Int32 × mM) := (if x4 ≤ x8 then (k33 o0 x1 x2 xs0 x4 x5 (x6 + 1) M) else (k33 o0 x1 x2 xs0 x8 x5 (x6 + 1) M))
set_option maxHeartbeats 4000000 in
set_option maxRecDepth 100000 in
theorem s_X12_tries_137 {l : Launch} {G : mG} {sk : List mS} (w : Nat) (k23 : Nat → Int32 → Int32 → Int32 → Int32 → Int32 → mM → Option (Int32 × mM)) (hk23 : ∀ (o0 : Nat) (h0 : isK o0 22) (x1 : Int32) (x2 : Int32) (x3 : Int32) (x4 : Int32) (x5 : Int32) (M : mM), Go muX12_tries (rm 5) 0 0 l G sk (mFin G sk eI) (k23 o0 x1 x2 x3 x4 x5 M) 23 [(0, .ref (gB G + o0)), (1, .int x1), (2, .int x2), (3, .int x3), (4, .int x4), (5, .int x5)] [] M) (k33 : Nat → Int32 → Int32 → Int32 → Int32 → Int32 → Int32 → mM → Option (Int32 × mM)) (hk33 : ∀ (o0 : Nat) (h0 : isK o0 22) (x1 : Int32) (x2 : Int32) (x3 : Int32) (x4 : Int32) (x5 : Int32) (x6 : Int32) (M : mM), Go muX12_tries (rm 5) 0 0 l G sk (mFin G sk eI) (k33 o0 x1 x2 x3 x4 x5 x6 M) 33 [(0, .ref (gB G + o0)), (1, .int x1), (2, .int x2), (3, .int x3), (4, .int x4), (5, .int x5), (6, .int x6)] [] M) (o0 : Nat) (h0 : isK o0 22) (x1 : Int32) (x2 : Int32) (x4 : Int32) (x5 : Int32) (x6 : Int32) (x8 : Int32) (xs0 : Int32) (M : mM) : Go muX12_tries (rm 5) 0 0 l G sk (mFin G sk eI) (f_X12_tries_137 w k23 k33 o0 x1 x2 x4 x5 x6 x8 xs0 M) 137 [(0, .ref (gB G + o0)), (1, .int x1), (2, .int x2), (4, .int x4), (5, .int x5), (6, .int x6), (8, .int x8)] [.int xs0] M := by
  unfold f_X12_tries_137
  refine go_istore_n [(3, .int xs0), (0, .ref (gB G + o0)), (1, .int x1), (2, .int x2), (4, .int x4), (5, .int x5), (6, .int x6), (8, .int x8)] 138 dX12_tries_137 rfl rfl (by decide) rfl ?_
  refine go_iload 7 140 dX12_tries_138 rfl rfl ?_
  refine go_iload 4 142 dX12_tries_140 rfl rfl ?_
  refine go_icmp_ge 150 145 dX12_tries_142 rfl (by decide) (fun _ => ?_) (fun _ => ?_)
  · refine go_iload 4 152 dX12_tries_150 rfl rfl ?_
    refine go_istore [(4, .int x4), (3, .int xs0), (0, .ref (gB G + o0)), (1, .int x1), (2, .int x2), (5, .int x5), (6, .int x6), (8, .int x8)] 154 dX12_tries_152 rfl (by decide) rfl ?_
    refine go_iinc (x6 + 1) 6 [(6, .int (x6 + 1)), (4, .int x4), (3, .int xs0), (0, .ref (gB G + o0)), (1, .int x1), (2, .int x2), (5, .int x5), (8, .int x8)] 157 dX12_tries_154 rfl rfl rfl (by decide) rfl ?_
    refine go_goto 33 dX12_tries_157 (by decide) ?_
    exact go_lv [3, 4, 5, 2, 1, 6, 0] rfl (hk33 o0 h0 x1 x2 xs0 x4 x5 (x6 + 1) M)
  · refine go_iload 7 147 dX12_tries_145 rfl rfl ?_
    refine go_goto 152 dX12_tries_147 (by decide) ?_
    refine go_istore [(4, .int x8), (3, .int xs0), (0, .ref (gB G + o0)), (1, .int x1), (2, .int x2), (5, .int x5), (6, .int x6), (8, .int x8)] 154 dX12_tries_152 rfl (by decide) rfl ?_
    refine go_iinc (x6 + 1) 6 [(6, .int (x6 + 1)), (4, .int x8), (3, .int xs0), (0, .ref (gB G + o0)), (1, .int x1), (2, .int x2), (5, .int x5), (8, .int x8)] 157 dX12_tries_154 rfl rfl rfl (by decide) rfl ?_
    refine go_goto 33 dX12_tries_157 (by decide) ?_
    exact go_lv [3, 4, 5, 2, 1, 6, 0] rfl (hk33 o0 h0 x1 x2 xs0 x8 x5 (x6 + 1) M)
def f_X12_tries_116 (w : Nat) (k23 : Nat → Int32 → Int32 → Int32 → Int32 → Int32 → mM → Option (Int32 × mM)) (k33 : Nat → Int32 → Int32 → Int32 → Int32 → Int32 → Int32 → mM → Option (Int32 × mM)) (o0 : Nat) (x1 : Int32) (x2 : Int32) (x3 : Int32) (x4 : Int32) (x5 : Int32) (x6 : Int32) (xs0 : Int32) (M : mM) : Option (Int32 × mM) := (if x4 ≤ xs0 then (f_X12_tries_137 w k23 k33 o0 x1 x2 x4 x5 x6 xs0 x3 M) else (f_X12_tries_137 w k23 k33 o0 x1 x2 x4 x5 x6 xs0 ((8 * x5) + x6) M))
set_option maxHeartbeats 4000000 in
set_option maxRecDepth 100000 in
theorem s_X12_tries_116 {l : Launch} {G : mG} {sk : List mS} (w : Nat) (k23 : Nat → Int32 → Int32 → Int32 → Int32 → Int32 → mM → Option (Int32 × mM)) (hk23 : ∀ (o0 : Nat) (h0 : isK o0 22) (x1 : Int32) (x2 : Int32) (x3 : Int32) (x4 : Int32) (x5 : Int32) (M : mM), Go muX12_tries (rm 5) 0 0 l G sk (mFin G sk eI) (k23 o0 x1 x2 x3 x4 x5 M) 23 [(0, .ref (gB G + o0)), (1, .int x1), (2, .int x2), (3, .int x3), (4, .int x4), (5, .int x5)] [] M) (k33 : Nat → Int32 → Int32 → Int32 → Int32 → Int32 → Int32 → mM → Option (Int32 × mM)) (hk33 : ∀ (o0 : Nat) (h0 : isK o0 22) (x1 : Int32) (x2 : Int32) (x3 : Int32) (x4 : Int32) (x5 : Int32) (x6 : Int32) (M : mM), Go muX12_tries (rm 5) 0 0 l G sk (mFin G sk eI) (k33 o0 x1 x2 x3 x4 x5 x6 M) 33 [(0, .ref (gB G + o0)), (1, .int x1), (2, .int x2), (3, .int x3), (4, .int x4), (5, .int x5), (6, .int x6)] [] M) (o0 : Nat) (h0 : isK o0 22) (x1 : Int32) (x2 : Int32) (x3 : Int32) (x4 : Int32) (x5 : Int32) (x6 : Int32) (xs0 : Int32) (M : mM) : Go muX12_tries (rm 5) 0 0 l G sk (mFin G sk eI) (f_X12_tries_116 w k23 k33 o0 x1 x2 x3 x4 x5 x6 xs0 M) 116 [(0, .ref (gB G + o0)), (1, .int x1), (2, .int x2), (3, .int x3), (4, .int x4), (5, .int x5), (6, .int x6)] [.int xs0] M := by
  unfold f_X12_tries_116
  refine go_istore [(8, .int xs0), (0, .ref (gB G + o0)), (1, .int x1), (2, .int x2), (3, .int x3), (4, .int x4), (5, .int x5), (6, .int x6)] 118 dX12_tries_116 rfl (by decide) rfl ?_
  refine go_iload 0 120 dX12_tries_118 rfl rfl ?_
  refine go_iload 5 122 dX12_tries_120 rfl rfl ?_
  refine go_icmp_ge 136 125 dX12_tries_122 rfl (by decide) (fun _ => ?_) (fun _ => ?_)
  · refine go_iload_n 4 137 dX12_tries_136 rfl rfl ?_
    exact go_lv [1, 2, 3, 5, 6, 7, 0] rfl (s_X12_tries_137 w k23 hk23 k33 hk33 o0 h0 x1 x2 x4 x5 x6 xs0 x3 M)
  · refine go_bipush 8 127 dX12_tries_125 rfl (by decide) ?_
    refine go_iload 6 129 dX12_tries_127 rfl rfl ?_
    refine go_imul 130 dX12_tries_129 rfl ?_
    refine go_iload 7 132 dX12_tries_130 rfl rfl ?_
    refine go_iadd 133 dX12_tries_132 rfl ?_
    refine go_goto 137 dX12_tries_133 (by decide) ?_
    exact go_lv [1, 2, 3, 5, 6, 7, 0] rfl (s_X12_tries_137 w k23 hk23 k33 hk33 o0 h0 x1 x2 x4 x5 x6 xs0 ((8 * x5) + x6) M)
def f_X12_tries_98 (w : Nat) (k23 : Nat → Int32 → Int32 → Int32 → Int32 → Int32 → mM → Option (Int32 × mM)) (k33 : Nat → Int32 → Int32 → Int32 → Int32 → Int32 → Int32 → mM → Option (Int32 × mM)) (o0 : Nat) (x1 : Int32) (x2 : Int32) (x3 : Int32) (x4 : Int32) (x5 : Int32) (x6 : Int32) (x7 : Int32) (M : mM) : Option (Int32 × mM) := (if x7 ≤ (x2 - x7) then (f_X12_tries_116 w k23 k33 o0 x1 x2 x3 x4 x5 x6 (x2 - x7) M) else (f_X12_tries_116 w k23 k33 o0 x1 x2 x3 x4 x5 x6 x7 M))
set_option maxHeartbeats 4000000 in
set_option maxRecDepth 100000 in
theorem s_X12_tries_98 {l : Launch} {G : mG} {sk : List mS} (w : Nat) (k23 : Nat → Int32 → Int32 → Int32 → Int32 → Int32 → mM → Option (Int32 × mM)) (hk23 : ∀ (o0 : Nat) (h0 : isK o0 22) (x1 : Int32) (x2 : Int32) (x3 : Int32) (x4 : Int32) (x5 : Int32) (M : mM), Go muX12_tries (rm 5) 0 0 l G sk (mFin G sk eI) (k23 o0 x1 x2 x3 x4 x5 M) 23 [(0, .ref (gB G + o0)), (1, .int x1), (2, .int x2), (3, .int x3), (4, .int x4), (5, .int x5)] [] M) (k33 : Nat → Int32 → Int32 → Int32 → Int32 → Int32 → Int32 → mM → Option (Int32 × mM)) (hk33 : ∀ (o0 : Nat) (h0 : isK o0 22) (x1 : Int32) (x2 : Int32) (x3 : Int32) (x4 : Int32) (x5 : Int32) (x6 : Int32) (M : mM), Go muX12_tries (rm 5) 0 0 l G sk (mFin G sk eI) (k33 o0 x1 x2 x3 x4 x5 x6 M) 33 [(0, .ref (gB G + o0)), (1, .int x1), (2, .int x2), (3, .int x3), (4, .int x4), (5, .int x5), (6, .int x6)] [] M) (o0 : Nat) (h0 : isK o0 22) (x1 : Int32) (x2 : Int32) (x3 : Int32) (x4 : Int32) (x5 : Int32) (x6 : Int32) (x7 : Int32) (M : mM) : Go muX12_tries (rm 5) 0 0 l G sk (mFin G sk eI) (f_X12_tries_98 w k23 k33 o0 x1 x2 x3 x4 x5 x6 x7 M) 98 [(0, .ref (gB G + o0)), (1, .int x1), (2, .int x2), (3, .int x3), (4, .int x4), (5, .int x5), (6, .int x6), (7, .int x7)] [] M := by
  unfold f_X12_tries_98
  refine go_iload 7 100 dX12_tries_98 rfl rfl ?_
  refine go_iload_n 2 101 dX12_tries_100 rfl rfl ?_
  refine go_iload 7 103 dX12_tries_101 rfl rfl ?_
  refine go_isub 104 dX12_tries_103 rfl ?_
  refine go_icmp_le 112 107 dX12_tries_104 rfl (by decide) (fun _ => ?_) (fun _ => ?_)
  · refine go_iload_n 2 113 dX12_tries_112 rfl rfl ?_
    refine go_iload 7 115 dX12_tries_113 rfl rfl ?_
    refine go_isub 116 dX12_tries_115 rfl ?_
    exact go_lv [0, 1, 2, 3, 4, 5, 6] rfl (s_X12_tries_116 w k23 hk23 k33 hk33 o0 h0 x1 x2 x3 x4 x5 x6 (x2 - x7) M)
  · refine go_iload 7 109 dX12_tries_107 rfl rfl ?_
    refine go_goto 116 dX12_tries_109 (by decide) ?_
    exact go_lv [0, 1, 2, 3, 4, 5, 6] rfl (s_X12_tries_116 w k23 hk23 k33 hk33 o0 h0 x1 x2 x3 x4 x5 x6 x7 M)
def f_X12_tries_48 (w : Nat) (k23 : Nat → Int32 → Int32 → Int32 → Int32 → Int32 → mM → Option (Int32 × mM)) (k33 : Nat → Int32 → Int32 → Int32 → Int32 → Int32 → Int32 → mM → Option (Int32 × mM)) : Nat → Nat → Int32 → Int32 → Int32 → Int32 → Int32 → Int32 → Int32 → Int32 → mM → Option (Int32 × mM)
  | 0, _, _, _, _, _, _, _, _, _, _ => none
  | n + 1, o0, x1, x2, x3, x4, x5, x6, x7, x8, M => (if 10 ≤ x8 then (f_X12_tries_98 w k23 k33 o0 x1 x2 x3 x4 x5 x6 x7 M) else (if ((x1 >>> (x8 &&& 31)) &&& 1) = 1 then chk ((31 * x8) + x5) (sL (rF o0 30)) (lt (x7 + (((M.1 (rF o0 30) ((31 * x8) + x5).toNatClampNeg) >>> (x6 &&& 31)) &&& 1)) fun y2 => (f_X12_tries_48 w k23 k33 n o0 x1 x2 x3 x4 x5 x6 y2 (x8 + 1) M)) else lt (x7 + 0) fun y1 => (f_X12_tries_48 w k23 k33 n o0 x1 x2 x3 x4 x5 x6 y1 (x8 + 1) M)))
set_option maxHeartbeats 4000000 in
set_option maxRecDepth 100000 in
theorem s_X12_tries_48 {l : Launch} {G : mG} {sk : List mS} (w : Nat) (k23 : Nat → Int32 → Int32 → Int32 → Int32 → Int32 → mM → Option (Int32 × mM)) (hk23 : ∀ (o0 : Nat) (h0 : isK o0 22) (x1 : Int32) (x2 : Int32) (x3 : Int32) (x4 : Int32) (x5 : Int32) (M : mM), Go muX12_tries (rm 5) 0 0 l G sk (mFin G sk eI) (k23 o0 x1 x2 x3 x4 x5 M) 23 [(0, .ref (gB G + o0)), (1, .int x1), (2, .int x2), (3, .int x3), (4, .int x4), (5, .int x5)] [] M) (k33 : Nat → Int32 → Int32 → Int32 → Int32 → Int32 → Int32 → mM → Option (Int32 × mM)) (hk33 : ∀ (o0 : Nat) (h0 : isK o0 22) (x1 : Int32) (x2 : Int32) (x3 : Int32) (x4 : Int32) (x5 : Int32) (x6 : Int32) (M : mM), Go muX12_tries (rm 5) 0 0 l G sk (mFin G sk eI) (k33 o0 x1 x2 x3 x4 x5 x6 M) 33 [(0, .ref (gB G + o0)), (1, .int x1), (2, .int x2), (3, .int x3), (4, .int x4), (5, .int x5), (6, .int x6)] [] M) : ∀ (n : Nat) (o0 : Nat) (h0 : isK o0 22) (x1 : Int32) (x2 : Int32) (x3 : Int32) (x4 : Int32) (x5 : Int32) (x6 : Int32) (x7 : Int32) (x8 : Int32) (M : mM), Go muX12_tries (rm 5) 0 0 l G sk (mFin G sk eI) (f_X12_tries_48 w k23 k33 n o0 x1 x2 x3 x4 x5 x6 x7 x8 M) 48 [(0, .ref (gB G + o0)), (1, .int x1), (2, .int x2), (3, .int x3), (4, .int x4), (5, .int x5), (6, .int x6), (7, .int x7), (8, .int x8)] [] M := by
  intro n
  induction n with
  | zero =>
    intros
    exact go_none
  | succ n ih =>
    intro o0 h0 x1 x2 x3 x4 x5 x6 x7 x8 M
    rw [f_X12_tries_48]
    refine go_iload 8 50 dX12_tries_48 rfl rfl ?_
    refine go_bipush 10 52 dX12_tries_50 rfl (by decide) ?_
    refine go_icmp_ge 98 55 dX12_tries_52 rfl (by decide) (fun _ => ?_) (fun _ => ?_)
    · exact go_lv [0, 1, 2, 3, 4, 5, 6, 7] rfl (s_X12_tries_98 w k23 hk23 k33 hk33 o0 h0 x1 x2 x3 x4 x5 x6 x7 M)
    · refine go_iload 7 57 dX12_tries_55 rfl rfl ?_
      refine go_iload_n 1 58 dX12_tries_57 rfl rfl ?_
      refine go_iload 8 60 dX12_tries_58 rfl rfl ?_
      refine go_ishr 61 dX12_tries_60 rfl ?_
      refine go_iconst 1 62 dX12_tries_61 rfl (by decide) ?_
      refine go_iand 63 dX12_tries_62 rfl ?_
      refine go_iconst 1 64 dX12_tries_63 rfl (by decide) ?_
      refine go_icmp_ne 88 67 dX12_tries_64 rfl (by decide) (fun _ => ?_) (fun _ => ?_)
      · refine go_iconst 0 89 dX12_tries_88 rfl (by decide) ?_
        refine go_iadd 90 dX12_tries_89 rfl ?_
        refine go_nmI (fun y1 => ?_)
        refine go_istore [(7, .int y1), (0, .ref (gB G + o0)), (1, .int x1), (2, .int x2), (3, .int x3), (4, .int x4), (5, .int x5), (6, .int x6), (8, .int x8)] 92 dX12_tries_90 rfl (by decide) rfl ?_
        refine go_iinc (x8 + 1) 8 [(8, .int (x8 + 1)), (7, .int y1), (0, .ref (gB G + o0)), (1, .int x1), (2, .int x2), (3, .int x3), (4, .int x4), (5, .int x5), (6, .int x6)] 95 dX12_tries_92 rfl rfl rfl (by decide) rfl ?_
        refine go_goto 48 dX12_tries_95 (by decide) ?_
        exact go_lv [2, 3, 4, 5, 6, 7, 8, 1, 0] rfl (ih o0 h0 x1 x2 x3 x4 x5 x6 y1 (x8 + 1) M)
      · refine go_aload_n 0 68 dX12_tries_67 rfl rfl ?_
        refine go_getR flX12_129 h0 71 dX12_tries_68 rfl ?_
        refine go_bipush 31 73 dX12_tries_71 rfl (by decide) ?_
        refine go_iload 8 75 dX12_tries_73 rfl rfl ?_
        refine go_imul 76 dX12_tries_75 rfl ?_
        refine go_iload 5 78 dX12_tries_76 rfl rfl ?_
        refine go_iadd 79 dX12_tries_78 rfl ?_
        refine go_iald (rk12_30 h0) 80 dX12_tries_79 rfl ?_
        refine go_iload 6 82 dX12_tries_80 rfl rfl ?_
        refine go_ishr 83 dX12_tries_82 rfl ?_
        refine go_iconst 1 84 dX12_tries_83 rfl (by decide) ?_
        refine go_iand 85 dX12_tries_84 rfl ?_
        refine go_goto 89 dX12_tries_85 (by decide) ?_
        refine go_iadd 90 dX12_tries_89 rfl ?_
        refine go_nmI (fun y2 => ?_)
        refine go_istore [(7, .int y2), (0, .ref (gB G + o0)), (1, .int x1), (2, .int x2), (3, .int x3), (4, .int x4), (5, .int x5), (6, .int x6), (8, .int x8)] 92 dX12_tries_90 rfl (by decide) rfl ?_
        refine go_iinc (x8 + 1) 8 [(8, .int (x8 + 1)), (7, .int y2), (0, .ref (gB G + o0)), (1, .int x1), (2, .int x2), (3, .int x3), (4, .int x4), (5, .int x5), (6, .int x6)] 95 dX12_tries_92 rfl rfl rfl (by decide) rfl ?_
        refine go_goto 48 dX12_tries_95 (by decide) ?_
        exact go_lv [2, 3, 4, 5, 6, 7, 8, 1, 0] rfl (ih o0 h0 x1 x2 x3 x4 x5 x6 y2 (x8 + 1) M)
def f_X12_tries_33 (w : Nat) (k23 : Nat → Int32 → Int32 → Int32 → Int32 → Int32 → mM → Option (Int32 × mM)) : Nat → Nat → Int32 → Int32 → Int32 → Int32 → Int32 → Int32 → mM → Option (Int32 × mM)
  | 0, _, _, _, _, _, _, _, _ => none
  | n + 1, o0, x1, x2, x3, x4, x5, x6, M => bI (f_X12_doors w o0 M) fun q2 M1 => (if q2 ≤ x6 then (k23 o0 x1 x2 x3 x4 (x5 + 1) M1) else (f_X12_tries_48 w k23 (f_X12_tries_33 w k23 n) w o0 x1 x2 x3 x4 x5 x6 0 0 M1))
set_option maxHeartbeats 4000000 in
set_option maxRecDepth 100000 in
theorem s_X12_tries_33 {l : Launch} {G : mG} {sk : List mS} (w : Nat) (k23 : Nat → Int32 → Int32 → Int32 → Int32 → Int32 → mM → Option (Int32 × mM)) (hk23 : ∀ (o0 : Nat) (h0 : isK o0 22) (x1 : Int32) (x2 : Int32) (x3 : Int32) (x4 : Int32) (x5 : Int32) (M : mM), Go muX12_tries (rm 5) 0 0 l G sk (mFin G sk eI) (k23 o0 x1 x2 x3 x4 x5 M) 23 [(0, .ref (gB G + o0)), (1, .int x1), (2, .int x2), (3, .int x3), (4, .int x4), (5, .int x5)] [] M) : ∀ (n : Nat) (o0 : Nat) (h0 : isK o0 22) (x1 : Int32) (x2 : Int32) (x3 : Int32) (x4 : Int32) (x5 : Int32) (x6 : Int32) (M : mM), Go muX12_tries (rm 5) 0 0 l G sk (mFin G sk eI) (f_X12_tries_33 w k23 n o0 x1 x2 x3 x4 x5 x6 M) 33 [(0, .ref (gB G + o0)), (1, .int x1), (2, .int x2), (3, .int x3), (4, .int x4), (5, .int x5), (6, .int x6)] [] M := by
  intro n
  induction n with
  | zero =>
    intros
    exact go_none
  | succ n ih =>
    intro o0 h0 x1 x2 x3 x4 x5 x6 M
    rw [f_X12_tries_33]
    refine go_iload 6 35 dX12_tries_33 rfl rfl ?_
    refine go_aload_n 0 36 dX12_tries_35 rfl rfl ?_
    refine go_cVI0 0 clX12 cwX12_272 (m_X12_doors w o0 h0 M) h0 39 dX12_tries_36 rfl ⟨Nat.le_of_ble_eq_true rfl, Nat.le_of_ble_eq_true rfl⟩ ⟨Nat.zero_le _, Nat.zero_le _⟩ (Nat.le_of_ble_eq_true rfl) (fun q2 M1 _ => ?_)
    refine go_icmp_ge 160 42 dX12_tries_39 rfl (by decide) (fun _ => ?_) (fun _ => ?_)
    · refine go_iinc (x5 + 1) 5 [(5, .int (x5 + 1)), (0, .ref (gB G + o0)), (1, .int x1), (2, .int x2), (3, .int x3), (4, .int x4), (6, .int x6)] 163 dX12_tries_160 rfl rfl rfl (by decide) rfl ?_
      refine go_goto 23 dX12_tries_163 (by decide) ?_
      exact go_lv [1, 2, 3, 4, 5, 0] rfl (hk23 o0 h0 x1 x2 x3 x4 (x5 + 1) M1)
    · refine go_iconst 0 43 dX12_tries_42 rfl (by decide) ?_
      refine go_istore [(7, .int 0), (0, .ref (gB G + o0)), (1, .int x1), (2, .int x2), (3, .int x3), (4, .int x4), (5, .int x5), (6, .int x6)] 45 dX12_tries_43 rfl (by decide) rfl ?_
      refine go_iconst 0 46 dX12_tries_45 rfl (by decide) ?_
      refine go_istore [(8, .int 0), (7, .int 0), (0, .ref (gB G + o0)), (1, .int x1), (2, .int x2), (3, .int x3), (4, .int x4), (5, .int x5), (6, .int x6)] 48 dX12_tries_46 rfl (by decide) rfl ?_
      exact go_lv [2, 3, 4, 5, 6, 7, 8, 1, 0] rfl (s_X12_tries_48 w k23 hk23 (f_X12_tries_33 w k23 n) (fun o0 h0 x1 x2 x3 x4 x5 x6 M => ih o0 h0 x1 x2 x3 x4 x5 x6 M) w o0 h0 x1 x2 x3 x4 x5 x6 0 0 M1)
def f_X12_tries_23 (w : Nat) : Nat → Nat → Int32 → Int32 → Int32 → Int32 → Int32 → mM → Option (Int32 × mM)
  | 0, _, _, _, _, _, _, _ => none
  | n + 1, o0, x1, x2, x3, x4, x5, M => (if 30 < x5 then some (x3, M) else (f_X12_tries_33 w (f_X12_tries_23 w n) w o0 x1 x2 x3 x4 x5 0 M))
set_option maxHeartbeats 4000000 in
set_option maxRecDepth 100000 in
theorem s_X12_tries_23 {l : Launch} {G : mG} {sk : List mS} (w : Nat) : ∀ (n : Nat) (o0 : Nat) (h0 : isK o0 22) (x1 : Int32) (x2 : Int32) (x3 : Int32) (x4 : Int32) (x5 : Int32) (M : mM), Go muX12_tries (rm 5) 0 0 l G sk (mFin G sk eI) (f_X12_tries_23 w n o0 x1 x2 x3 x4 x5 M) 23 [(0, .ref (gB G + o0)), (1, .int x1), (2, .int x2), (3, .int x3), (4, .int x4), (5, .int x5)] [] M := by
  intro n
  induction n with
  | zero =>
    intros
    exact go_none
  | succ n ih =>
    intro o0 h0 x1 x2 x3 x4 x5 M
    rw [f_X12_tries_23]
    refine go_iload 5 25 dX12_tries_23 rfl rfl ?_
    refine go_bipush 30 27 dX12_tries_25 rfl (by decide) ?_
    refine go_icmp_gt 166 30 dX12_tries_27 rfl (by decide) (fun _ => ?_) (fun _ => ?_)
    · refine go_iload_n 3 167 dX12_tries_166 rfl rfl ?_
      exact go_iret rfl dX12_tries_167
    · refine go_iconst 0 31 dX12_tries_30 rfl (by decide) ?_
      refine go_istore [(6, .int 0), (0, .ref (gB G + o0)), (1, .int x1), (2, .int x2), (3, .int x3), (4, .int x4), (5, .int x5)] 33 dX12_tries_31 rfl (by decide) rfl ?_
      exact go_lv [1, 2, 3, 4, 5, 6, 0] rfl (s_X12_tries_33 w (f_X12_tries_23 w n) (fun o0 h0 x1 x2 x3 x4 x5 M => ih o0 h0 x1 x2 x3 x4 x5 M) w o0 h0 x1 x2 x3 x4 x5 0 M)
def f_X12_tries (w : Nat) (o0 : Nat) (M : mM) : Option (Int32 × mM) := lt (wI M o0 0 0) fun M1 => bI (f_X12_wetsNow w o0 M1) fun q3 M2 => bI (f_X12_bits w q3 M2) fun q5 M4 => (f_X12_tries_23 w w o0 q3 q5 (-1) q5 1 M4)
set_option maxHeartbeats 4000000 in
set_option maxRecDepth 100000 in
theorem s_X12_tries {l : Launch} {G : mG} {sk : List mS} (w : Nat) (o0 : Nat) (h0 : isK o0 22) (M : mM) : Go muX12_tries (rm 5) 0 0 l G sk (mFin G sk eI) (f_X12_tries w o0 M) 0 [(0, .ref (gB G + o0))] [] M := by
  unfold f_X12_tries
  refine go_aload_n 0 1 dX12_tries_0 rfl rfl ?_
  refine go_iconst 0 2 dX12_tries_1 rfl (by decide) ?_
  refine go_putI flX12_1 rfl rfl h0 5 dX12_tries_2 rfl ?_
  refine go_nmM (fun M1 => ?_)
  refine go_aload_n 0 6 dX12_tries_5 rfl rfl ?_
  refine go_cVI0 4 clX12 cwX12_392 (m_X12_wetsNow w o0 h0 M1) h0 9 dX12_tries_6 rfl ⟨Nat.le_of_ble_eq_true rfl, Nat.le_of_ble_eq_true rfl⟩ ⟨Nat.zero_le _, Nat.zero_le _⟩ (Nat.le_of_ble_eq_true rfl) (fun q3 M2 _ => ?_)
  refine go_istore_n [(1, .int q3), (0, .ref (gB G + o0))] 10 dX12_tries_9 rfl rfl (by decide) rfl ?_
  refine go_iload_n 0 11 dX12_tries_10 rfl rfl ?_
  refine go_cSI1 0 cwX12_351 (m_X12_bits w q3 M2) 14 dX12_tries_11 rfl ⟨Nat.le_of_ble_eq_true rfl, Nat.le_of_ble_eq_true rfl⟩ ⟨Nat.zero_le _, Nat.zero_le _⟩ (Nat.le_of_ble_eq_true rfl) (fun q5 M4 _ => ?_)
  refine go_istore_n [(2, .int q5), (1, .int q3), (0, .ref (gB G + o0))] 15 dX12_tries_14 rfl rfl (by decide) rfl ?_
  refine go_iconst (-1) 16 dX12_tries_15 rfl (by decide) ?_
  refine go_istore_n [(3, .int (-1)), (2, .int q5), (1, .int q3), (0, .ref (gB G + o0))] 17 dX12_tries_16 rfl rfl (by decide) rfl ?_
  refine go_iload_n 1 18 dX12_tries_17 rfl rfl ?_
  refine go_istore [(4, .int q5), (3, .int (-1)), (2, .int q5), (1, .int q3), (0, .ref (gB G + o0))] 20 dX12_tries_18 rfl (by decide) rfl ?_
  refine go_iconst 1 21 dX12_tries_20 rfl (by decide) ?_
  refine go_istore [(5, .int 1), (4, .int q5), (3, .int (-1)), (2, .int q5), (1, .int q3), (0, .ref (gB G + o0))] 23 dX12_tries_21 rfl (by decide) rfl ?_
  exact go_lv [5, 4, 3, 2, 1, 0] rfl (s_X12_tries_23 w w o0 h0 q3 q5 (-1) q5 1 M4)
theorem m_X12_tries {l : Launch} {G : mG} {sk : List mS} (w : Nat) (o0 : Nat) (h0 : isK o0 22) (M : mM) : Mt l G sk yX12_tries muX12_tries 5 [.ref (gB G + o0)] M eI (f_X12_tries w o0 M) := Mt.of (by decide) rfl (Nat.le_of_ble_eq_true rfl) (s_X12_tries w o0 h0 M)
theorem dX12_say_0 : decode cX12_say 0 = .ok (.aload_n 0, 1) := by decide +kernel
theorem dX12_say_1 : decode cX12_say 1 = .ok (.iconst 0, 1) := by decide +kernel
theorem dX12_say_2 : decode cX12_say 2 = .ok (.putfield 1, 3) := by decide +kernel
theorem dX12_say_5 : decode cX12_say 5 = .ok (.aload_n 0, 1) := by decide +kernel
theorem dX12_say_6 : decode cX12_say 6 = .ok (.iload_n 1, 1) := by decide +kernel
theorem dX12_say_7 : decode cX12_say 7 = .ok (.invokevirtual 357, 3) := by decide +kernel
theorem dX12_say_10 : decode cX12_say 10 = .ok (.ifCond .eq 25, 3) := by decide +kernel
theorem dX12_say_13 : decode cX12_say 13 = .ok (.iload_n 2, 1) := by decide +kernel
theorem dX12_say_14 : decode cX12_say 14 = .ok (.iconst 0, 1) := by decide +kernel
theorem dX12_say_15 : decode cX12_say 15 = .ok (.bipush 40, 2) := by decide +kernel
theorem dX12_say_17 : decode cX12_say 17 = .ok (.invokestatic 204, 3) := by decide +kernel
theorem dX12_say_20 : decode cX12_say 20 = .ok (.ifCond .eq 15, 3) := by decide +kernel
theorem dX12_say_23 : decode cX12_say 23 = .ok (.aload_n 0, 1) := by decide +kernel
theorem dX12_say_24 : decode cX12_say 24 = .ok (.getfield 113, 3) := by decide +kernel
theorem dX12_say_27 : decode cX12_say 27 = .ok (.bipush 48, 2) := by decide +kernel
theorem dX12_say_29 : decode cX12_say 29 = .ok (.iaload, 1) := by decide +kernel
theorem dX12_say_30 : decode cX12_say 30 = .ok (.bipush 8, 2) := by decide +kernel
theorem dX12_say_32 : decode cX12_say 32 = .ok (.if_icmp .ne 5, 3) := by decide +kernel
theorem dX12_say_35 : decode cX12_say 35 = .ok (.iconst 0, 1) := by decide +kernel
theorem dX12_say_36 : decode cX12_say 36 = .ok (.ireturn, 1) := by decide +kernel
theorem dX12_say_37 : decode cX12_say 37 = .ok (.bipush 49, 2) := by decide +kernel
theorem dX12_say_39 : decode cX12_say 39 = .ok (.iconst 2, 1) := by decide +kernel
theorem dX12_say_40 : decode cX12_say 40 = .ok (.aload_n 0, 1) := by decide +kernel
theorem dX12_say_41 : decode cX12_say 41 = .ok (.getfield 113, 3) := by decide +kernel
theorem dX12_say_44 : decode cX12_say 44 = .ok (.bipush 48, 2) := by decide +kernel
theorem dX12_say_46 : decode cX12_say 46 = .ok (.iaload, 1) := by decide +kernel
theorem dX12_say_47 : decode cX12_say 47 = .ok (.imul, 1) := by decide +kernel
theorem dX12_say_48 : decode cX12_say 48 = .ok (.iadd, 1) := by decide +kernel
theorem dX12_say_49 : decode cX12_say 49 = .ok (.istore_n 3, 1) := by decide +kernel
theorem dX12_say_50 : decode cX12_say 50 = .ok (.aload_n 0, 1) := by decide +kernel
theorem dX12_say_51 : decode cX12_say 51 = .ok (.getfield 113, 3) := by decide +kernel
theorem dX12_say_54 : decode cX12_say 54 = .ok (.iload_n 3, 1) := by decide +kernel
theorem dX12_say_55 : decode cX12_say 55 = .ok (.iload_n 1, 1) := by decide +kernel
theorem dX12_say_56 : decode cX12_say 56 = .ok (.iastore, 1) := by decide +kernel
theorem dX12_say_57 : decode cX12_say 57 = .ok (.aload_n 0, 1) := by decide +kernel
theorem dX12_say_58 : decode cX12_say 58 = .ok (.getfield 113, 3) := by decide +kernel
theorem dX12_say_61 : decode cX12_say 61 = .ok (.iload_n 3, 1) := by decide +kernel
theorem dX12_say_62 : decode cX12_say 62 = .ok (.iconst 1, 1) := by decide +kernel
theorem dX12_say_63 : decode cX12_say 63 = .ok (.iadd, 1) := by decide +kernel
theorem dX12_say_64 : decode cX12_say 64 = .ok (.iload_n 2, 1) := by decide +kernel
theorem dX12_say_65 : decode cX12_say 65 = .ok (.iastore, 1) := by decide +kernel
theorem dX12_say_66 : decode cX12_say 66 = .ok (.aload_n 0, 1) := by decide +kernel
theorem dX12_say_67 : decode cX12_say 67 = .ok (.getfield 113, 3) := by decide +kernel
theorem dX12_say_70 : decode cX12_say 70 = .ok (.bipush 48, 2) := by decide +kernel
theorem dX12_say_72 : decode cX12_say 72 = .ok (.dup2, 1) := by decide +kernel
theorem dX12_say_73 : decode cX12_say 73 = .ok (.iaload, 1) := by decide +kernel
theorem dX12_say_74 : decode cX12_say 74 = .ok (.iconst 1, 1) := by decide +kernel
theorem dX12_say_75 : decode cX12_say 75 = .ok (.iadd, 1) := by decide +kernel
theorem dX12_say_76 : decode cX12_say 76 = .ok (.iastore, 1) := by decide +kernel
theorem dX12_say_77 : decode cX12_say 77 = .ok (.iconst 1, 1) := by decide +kernel
theorem dX12_say_78 : decode cX12_say 78 = .ok (.ireturn, 1) := by decide +kernel
def f_X12_say (w : Nat) (o0 : Nat) (x1 : Int32) (x2 : Int32) (M : mM) : Option (Int32 × mM) := lt (wI M o0 0 0) fun M1 => bI (f_X12_isRoom w o0 x1 M1) fun q3 M2 => (if q3 = 0 then rtB 0 M2 else bI (f_X12_within w x2 0 40 M2) fun q5 M4 => (if q5 = 0 then rtB 0 M4 else chk 48 (sL (rF o0 24)) ((if (M4.1 (rF o0 24) (48 : Int32).toNatClampNeg) = 8 then rtB 0 M4 else chk 48 (sL (rF o0 24)) (lt (49 + (2 * (M4.1 (rF o0 24) (48 : Int32).toNatClampNeg))) fun y6 => chk y6 (sL (rF o0 24)) (lt (wI M4 (rF o0 24) y6.toNatClampNeg x1) fun M7 => chk (y6 + 1) (sL (rF o0 24)) (lt (wI M7 (rF o0 24) (y6 + 1).toNatClampNeg x2) fun M8 => chk 48 (sL (rF o0 24)) (chk 48 (sL (rF o0 24)) (lt (wI M8 (rF o0 24) (48 : Int32).toNatClampNeg ((M8.1 (rF o0 24) (48 : Int32).toNatClampNeg) + 1)) fun M9 => rtB 1 M9)))))))))
set_option maxHeartbeats 4000000 in
set_option maxRecDepth 100000 in
theorem s_X12_say {l : Launch} {G : mG} {sk : List mS} (w : Nat) (o0 : Nat) (h0 : isK o0 22) (x1 : Int32) (x2 : Int32) (M : mM) : Go muX12_say (rm 2) 0 0 l G sk (mFin G sk eI) (f_X12_say w o0 x1 x2 M) 0 [(0, .ref (gB G + o0)), (1, .int x1), (2, .int x2)] [] M := by
  unfold f_X12_say
  refine go_aload_n 0 1 dX12_say_0 rfl rfl ?_
  refine go_iconst 0 2 dX12_say_1 rfl (by decide) ?_
  refine go_putI flX12_1 rfl rfl h0 5 dX12_say_2 rfl ?_
  refine go_nmM (fun M1 => ?_)
  refine go_aload_n 0 6 dX12_say_5 rfl rfl ?_
  refine go_iload_n 1 7 dX12_say_6 rfl rfl ?_
  refine go_cVI1 1 clX12 cwX12_357 (m_X12_isRoom w o0 h0 x1 M1) h0 10 dX12_say_7 rfl ⟨Nat.le_of_ble_eq_true rfl, Nat.le_of_ble_eq_true rfl⟩ ⟨Nat.zero_le _, Nat.zero_le _⟩ (Nat.le_of_ble_eq_true rfl) (fun q3 M2 _ => ?_)
  refine go_if_eq 35 13 dX12_say_10 rfl (by decide) (fun _ => ?_) (fun _ => ?_)
  · refine go_iconst 0 36 dX12_say_35 rfl (by decide) ?_
    exact go_zret rfl dX12_say_36
  · refine go_iload_n 2 14 dX12_say_13 rfl rfl ?_
    refine go_iconst 0 15 dX12_say_14 rfl (by decide) ?_
    refine go_bipush 40 17 dX12_say_15 rfl (by decide) ?_
    refine go_cSI3 0 cwX12_204 (m_X12_within w x2 0 40 M2) 20 dX12_say_17 rfl ⟨Nat.le_of_ble_eq_true rfl, Nat.le_of_ble_eq_true rfl⟩ ⟨Nat.zero_le _, Nat.zero_le _⟩ (Nat.le_of_ble_eq_true rfl) (fun q5 M4 _ => ?_)
    refine go_if_eq 35 23 dX12_say_20 rfl (by decide) (fun _ => ?_) (fun _ => ?_)
    · refine go_iconst 0 36 dX12_say_35 rfl (by decide) ?_
      exact go_zret rfl dX12_say_36
    · refine go_aload_n 0 24 dX12_say_23 rfl rfl ?_
      refine go_getR flX12_113 h0 27 dX12_say_24 rfl ?_
      refine go_bipush 48 29 dX12_say_27 rfl (by decide) ?_
      refine go_iald (rk12_24 h0) 30 dX12_say_29 rfl ?_
      refine go_bipush 8 32 dX12_say_30 rfl (by decide) ?_
      refine go_icmp_ne 37 35 dX12_say_32 rfl (by decide) (fun _ => ?_) (fun _ => ?_)
      · refine go_bipush 49 39 dX12_say_37 rfl (by decide) ?_
        refine go_iconst 2 40 dX12_say_39 rfl (by decide) ?_
        refine go_aload_n 0 41 dX12_say_40 rfl rfl ?_
        refine go_getR flX12_113 h0 44 dX12_say_41 rfl ?_
        refine go_bipush 48 46 dX12_say_44 rfl (by decide) ?_
        refine go_iald (rk12_24 h0) 47 dX12_say_46 rfl ?_
        refine go_imul 48 dX12_say_47 rfl ?_
        refine go_iadd 49 dX12_say_48 rfl ?_
        refine go_nmI (fun y6 => ?_)
        refine go_istore_n [(3, .int y6), (0, .ref (gB G + o0)), (1, .int x1), (2, .int x2)] 50 dX12_say_49 rfl rfl (by decide) rfl ?_
        refine go_aload_n 1 51 dX12_say_50 rfl rfl ?_
        refine go_getR flX12_113 h0 54 dX12_say_51 rfl ?_
        refine go_iload_n 0 55 dX12_say_54 rfl rfl ?_
        refine go_iload_n 2 56 dX12_say_55 rfl rfl ?_
        refine go_iast (rk12_24 h0) 57 dX12_say_56 rfl ?_
        refine go_nmM (fun M7 => ?_)
        refine go_aload_n 1 58 dX12_say_57 rfl rfl ?_
        refine go_getR flX12_113 h0 61 dX12_say_58 rfl ?_
        refine go_iload_n 0 62 dX12_say_61 rfl rfl ?_
        refine go_iconst 1 63 dX12_say_62 rfl (by decide) ?_
        refine go_iadd 64 dX12_say_63 rfl ?_
        refine go_iload_n 3 65 dX12_say_64 rfl rfl ?_
        refine go_iast (rk12_24 h0) 66 dX12_say_65 rfl ?_
        refine go_nmM (fun M8 => ?_)
        refine go_aload_n 1 67 dX12_say_66 rfl rfl ?_
        refine go_getR flX12_113 h0 70 dX12_say_67 rfl ?_
        refine go_bipush 48 72 dX12_say_70 rfl (by decide) ?_
        refine go_dup2 73 dX12_say_72 rfl rfl rfl ?_
        refine go_iald (rk12_24 h0) 74 dX12_say_73 rfl ?_
        refine go_iconst 1 75 dX12_say_74 rfl (by decide) ?_
        refine go_iadd 76 dX12_say_75 rfl ?_
        refine go_iast (rk12_24 h0) 77 dX12_say_76 rfl ?_
        refine go_nmM (fun M9 => ?_)
        refine go_iconst 1 78 dX12_say_77 rfl (by decide) ?_
        exact go_zret rfl dX12_say_78
      · refine go_iconst 0 36 dX12_say_35 rfl (by decide) ?_
        exact go_zret rfl dX12_say_36
theorem m_X12_say {l : Launch} {G : mG} {sk : List mS} (w : Nat) (o0 : Nat) (h0 : isK o0 22) (x1 : Int32) (x2 : Int32) (M : mM) : Mt l G sk yX12_say muX12_say 2 [.ref (gB G + o0), .int x1, .int x2] M eI (f_X12_say w o0 x1 x2 M) := Mt.of (by decide) rfl (Nat.le_of_ble_eq_true rfl) (s_X12_say w o0 h0 x1 x2 M)
theorem dX12_who_0 : decode cX12_who 0 = .ok (.aload_n 0, 1) := by decide +kernel
theorem dX12_who_1 : decode cX12_who 1 = .ok (.iconst 0, 1) := by decide +kernel
theorem dX12_who_2 : decode cX12_who 2 = .ok (.putfield 1, 3) := by decide +kernel
theorem dX12_who_5 : decode cX12_who 5 = .ok (.aload_n 0, 1) := by decide +kernel
theorem dX12_who_6 : decode cX12_who 6 = .ok (.invokevirtual 379, 3) := by decide +kernel
theorem dX12_who_9 : decode cX12_who 9 = .ok (.iconst 1, 1) := by decide +kernel
theorem dX12_who_10 : decode cX12_who 10 = .ok (.aload_n 0, 1) := by decide +kernel
theorem dX12_who_11 : decode cX12_who 11 = .ok (.invokevirtual 279, 3) := by decide +kernel
theorem dX12_who_14 : decode cX12_who 14 = .ok (.ishl, 1) := by decide +kernel
theorem dX12_who_15 : decode cX12_who 15 = .ok (.iconst 1, 1) := by decide +kernel
theorem dX12_who_16 : decode cX12_who 16 = .ok (.isub, 1) := by decide +kernel
theorem dX12_who_17 : decode cX12_who 17 = .ok (.istore_n 1, 1) := by decide +kernel
theorem dX12_who_18 : decode cX12_who 18 = .ok (.iconst 0, 1) := by decide +kernel
theorem dX12_who_19 : decode cX12_who 19 = .ok (.istore_n 2, 1) := by decide +kernel
theorem dX12_who_20 : decode cX12_who 20 = .ok (.iload_n 2, 1) := by decide +kernel
theorem dX12_who_21 : decode cX12_who 21 = .ok (.aload_n 0, 1) := by decide +kernel
theorem dX12_who_22 : decode cX12_who 22 = .ok (.getfield 113, 3) := by decide +kernel
theorem dX12_who_25 : decode cX12_who 25 = .ok (.bipush 48, 2) := by decide +kernel
theorem dX12_who_27 : decode cX12_who 27 = .ok (.iaload, 1) := by decide +kernel
theorem dX12_who_28 : decode cX12_who 28 = .ok (.if_icmp .ge 87, 3) := by decide +kernel
theorem dX12_who_31 : decode cX12_who 31 = .ok (.bipush 49, 2) := by decide +kernel
theorem dX12_who_33 : decode cX12_who 33 = .ok (.iconst 2, 1) := by decide +kernel
theorem dX12_who_34 : decode cX12_who 34 = .ok (.iload_n 2, 1) := by decide +kernel
theorem dX12_who_35 : decode cX12_who 35 = .ok (.imul, 1) := by decide +kernel
theorem dX12_who_36 : decode cX12_who 36 = .ok (.iadd, 1) := by decide +kernel
theorem dX12_who_37 : decode cX12_who 37 = .ok (.istore_n 3, 1) := by decide +kernel
theorem dX12_who_38 : decode cX12_who 38 = .ok (.iconst 0, 1) := by decide +kernel
theorem dX12_who_39 : decode cX12_who 39 = .ok (.istore 4, 2) := by decide +kernel
theorem dX12_who_41 : decode cX12_who 41 = .ok (.iload 4, 2) := by decide +kernel
theorem dX12_who_43 : decode cX12_who 43 = .ok (.aload_n 0, 1) := by decide +kernel
theorem dX12_who_44 : decode cX12_who 44 = .ok (.invokevirtual 279, 3) := by decide +kernel
theorem dX12_who_47 : decode cX12_who 47 = .ok (.if_icmp .ge 62, 3) := by decide +kernel
theorem dX12_who_50 : decode cX12_who 50 = .ok (.aload_n 0, 1) := by decide +kernel
theorem dX12_who_51 : decode cX12_who 51 = .ok (.aload_n 0, 1) := by decide +kernel
theorem dX12_who_52 : decode cX12_who 52 = .ok (.getfield 113, 3) := by decide +kernel
theorem dX12_who_55 : decode cX12_who 55 = .ok (.bipush 18, 2) := by decide +kernel
theorem dX12_who_57 : decode cX12_who 57 = .ok (.iload 4, 2) := by decide +kernel
theorem dX12_who_59 : decode cX12_who 59 = .ok (.iadd, 1) := by decide +kernel
theorem dX12_who_60 : decode cX12_who 60 = .ok (.iaload, 1) := by decide +kernel
theorem dX12_who_61 : decode cX12_who 61 = .ok (.aload_n 0, 1) := by decide +kernel
theorem dX12_who_62 : decode cX12_who 62 = .ok (.getfield 113, 3) := by decide +kernel
theorem dX12_who_65 : decode cX12_who 65 = .ok (.iload_n 3, 1) := by decide +kernel
theorem dX12_who_66 : decode cX12_who 66 = .ok (.iaload, 1) := by decide +kernel
theorem dX12_who_67 : decode cX12_who 67 = .ok (.invokevirtual 382, 3) := by decide +kernel
theorem dX12_who_70 : decode cX12_who 70 = .ok (.istore 5, 2) := by decide +kernel
theorem dX12_who_72 : decode cX12_who 72 = .ok (.iload_n 1, 1) := by decide +kernel
theorem dX12_who_73 : decode cX12_who 73 = .ok (.iload 5, 2) := by decide +kernel
theorem dX12_who_75 : decode cX12_who 75 = .ok (.ifCond .lt 20, 3) := by decide +kernel
theorem dX12_who_78 : decode cX12_who 78 = .ok (.iload 5, 2) := by decide +kernel
theorem dX12_who_80 : decode cX12_who 80 = .ok (.aload_n 0, 1) := by decide +kernel
theorem dX12_who_81 : decode cX12_who 81 = .ok (.getfield 113, 3) := by decide +kernel
theorem dX12_who_84 : decode cX12_who 84 = .ok (.iload_n 3, 1) := by decide +kernel
theorem dX12_who_85 : decode cX12_who 85 = .ok (.iconst 1, 1) := by decide +kernel
theorem dX12_who_86 : decode cX12_who 86 = .ok (.iadd, 1) := by decide +kernel
theorem dX12_who_87 : decode cX12_who 87 = .ok (.iaload, 1) := by decide +kernel
theorem dX12_who_88 : decode cX12_who 88 = .ok (.if_icmp .gt 7, 3) := by decide +kernel
theorem dX12_who_91 : decode cX12_who 91 = .ok (.iconst (-1), 1) := by decide +kernel
theorem dX12_who_92 : decode cX12_who 92 = .ok (.goto 9, 3) := by decide +kernel
theorem dX12_who_95 : decode cX12_who 95 = .ok (.iconst 1, 1) := by decide +kernel
theorem dX12_who_96 : decode cX12_who 96 = .ok (.iload 4, 2) := by decide +kernel
theorem dX12_who_98 : decode cX12_who 98 = .ok (.ishl, 1) := by decide +kernel
theorem dX12_who_99 : decode cX12_who 99 = .ok (.iconst (-1), 1) := by decide +kernel
theorem dX12_who_100 : decode cX12_who 100 = .ok (.ixor, 1) := by decide +kernel
theorem dX12_who_101 : decode cX12_who 101 = .ok (.iand, 1) := by decide +kernel
theorem dX12_who_102 : decode cX12_who 102 = .ok (.istore_n 1, 1) := by decide +kernel
theorem dX12_who_103 : decode cX12_who 103 = .ok (.iinc 4 1, 3) := by decide +kernel
theorem dX12_who_106 : decode cX12_who 106 = .ok (.goto (-65), 3) := by decide +kernel
theorem dX12_who_109 : decode cX12_who 109 = .ok (.iinc 2 1, 3) := by decide +kernel
theorem dX12_who_112 : decode cX12_who 112 = .ok (.goto (-92), 3) := by decide +kernel
theorem dX12_who_115 : decode cX12_who 115 = .ok (.iload_n 1, 1) := by decide +kernel
theorem dX12_who_116 : decode cX12_who 116 = .ok (.ireturn, 1) := by decide +kernel
def f_X12_who_95 (w : Nat) (k20 : Nat → Int32 → Int32 → mM → Option (Int32 × mM)) (k41 : Nat → Int32 → Int32 → Int32 → Int32 → mM → Option (Int32 × mM)) (o0 : Nat) (x2 : Int32) (x3 : Int32) (x4 : Int32) (xs0 : Int32) (M : mM) : Option (Int32 × mM) := lt (xs0 &&& (((1 : Int32) <<< (x4 &&& 31)) ^^^ (-1))) fun y1 => (k41 o0 y1 x2 x3 (x4 + 1) M)
set_option maxHeartbeats 4000000 in
set_option maxRecDepth 100000 in
theorem s_X12_who_95 {l : Launch} {G : mG} {sk : List mS} (w : Nat) (k20 : Nat → Int32 → Int32 → mM → Option (Int32 × mM)) (hk20 : ∀ (o0 : Nat) (h0 : isK o0 22) (x1 : Int32) (x2 : Int32) (M : mM), Go muX12_who (rm 6) 0 0 l G sk (mFin G sk eI) (k20 o0 x1 x2 M) 20 [(0, .ref (gB G + o0)), (1, .int x1), (2, .int x2)] [] M) (k41 : Nat → Int32 → Int32 → Int32 → Int32 → mM → Option (Int32 × mM)) (hk41 : ∀ (o0 : Nat) (h0 : isK o0 22) (x1 : Int32) (x2 : Int32) (x3 : Int32) (x4 : Int32) (M : mM), Go muX12_who (rm 6) 0 0 l G sk (mFin G sk eI) (k41 o0 x1 x2 x3 x4 M) 41 [(0, .ref (gB G + o0)), (1, .int x1), (2, .int x2), (3, .int x3), (4, .int x4)] [] M) (o0 : Nat) (h0 : isK o0 22) (x2 : Int32) (x3 : Int32) (x4 : Int32) (xs0 : Int32) (M : mM) : Go muX12_who (rm 6) 0 0 l G sk (mFin G sk eI) (f_X12_who_95 w k20 k41 o0 x2 x3 x4 xs0 M) 95 [(0, .ref (gB G + o0)), (2, .int x2), (3, .int x3), (4, .int x4)] [.int xs0] M := by
  unfold f_X12_who_95
  refine go_iconst 1 96 dX12_who_95 rfl (by decide) ?_
  refine go_iload 3 98 dX12_who_96 rfl rfl ?_
  refine go_ishl 99 dX12_who_98 rfl ?_
  refine go_iconst (-1) 100 dX12_who_99 rfl (by decide) ?_
  refine go_ixor 101 dX12_who_100 rfl ?_
  refine go_iand 102 dX12_who_101 rfl ?_
  refine go_nmI (fun y1 => ?_)
  refine go_istore_n [(1, .int y1), (0, .ref (gB G + o0)), (2, .int x2), (3, .int x3), (4, .int x4)] 103 dX12_who_102 rfl rfl (by decide) rfl ?_
  refine go_iinc (x4 + 1) 4 [(4, .int (x4 + 1)), (1, .int y1), (0, .ref (gB G + o0)), (2, .int x2), (3, .int x3)] 106 dX12_who_103 rfl rfl rfl (by decide) rfl ?_
  refine go_goto 41 dX12_who_106 (by decide) ?_
  exact go_lv [2, 1, 3, 4, 0] rfl (hk41 o0 h0 y1 x2 x3 (x4 + 1) M)
def f_X12_who_41 (w : Nat) (k20 : Nat → Int32 → Int32 → mM → Option (Int32 × mM)) : Nat → Nat → Int32 → Int32 → Int32 → Int32 → mM → Option (Int32 × mM)
  | 0, _, _, _, _, _, _ => none
  | n + 1, o0, x1, x2, x3, x4, M => bI (f_X12_persons w o0 M) fun q2 M1 => (if q2 ≤ x4 then (k20 o0 x1 (x2 + 1) M1) else chk (18 + x4) (sL (rF o0 24)) (chk x3 (sL (rF o0 24)) (bI (f_X12_arrivesBy w o0 (M1.1 (rF o0 24) (18 + x4).toNatClampNeg) (M1.1 (rF o0 24) x3.toNatClampNeg) M1) fun q4 M3 => (if q4 < 0 then (f_X12_who_95 w k20 (f_X12_who_41 w k20 n) o0 x2 x3 x4 x1 M3) else chk (x3 + 1) (sL (rF o0 24)) ((if (M3.1 (rF o0 24) (x3 + 1).toNatClampNeg) < q4 then (f_X12_who_95 w k20 (f_X12_who_41 w k20 n) o0 x2 x3 x4 x1 M3) else lt (x1 &&& (-1)) fun y5 => (f_X12_who_41 w k20 n o0 y5 x2 x3 (x4 + 1) M3)))))))
set_option maxHeartbeats 4000000 in
set_option maxRecDepth 100000 in
theorem s_X12_who_41 {l : Launch} {G : mG} {sk : List mS} (w : Nat) (k20 : Nat → Int32 → Int32 → mM → Option (Int32 × mM)) (hk20 : ∀ (o0 : Nat) (h0 : isK o0 22) (x1 : Int32) (x2 : Int32) (M : mM), Go muX12_who (rm 6) 0 0 l G sk (mFin G sk eI) (k20 o0 x1 x2 M) 20 [(0, .ref (gB G + o0)), (1, .int x1), (2, .int x2)] [] M) : ∀ (n : Nat) (o0 : Nat) (h0 : isK o0 22) (x1 : Int32) (x2 : Int32) (x3 : Int32) (x4 : Int32) (M : mM), Go muX12_who (rm 6) 0 0 l G sk (mFin G sk eI) (f_X12_who_41 w k20 n o0 x1 x2 x3 x4 M) 41 [(0, .ref (gB G + o0)), (1, .int x1), (2, .int x2), (3, .int x3), (4, .int x4)] [] M := by
  intro n
  induction n with
  | zero =>
    intros
    exact go_none
  | succ n ih =>
    intro o0 h0 x1 x2 x3 x4 M
    rw [f_X12_who_41]
    refine go_iload 4 43 dX12_who_41 rfl rfl ?_
    refine go_aload_n 0 44 dX12_who_43 rfl rfl ?_
    refine go_cVI0 0 clX12 cwX12_279 (m_X12_persons w o0 h0 M) h0 47 dX12_who_44 rfl ⟨Nat.le_of_ble_eq_true rfl, Nat.le_of_ble_eq_true rfl⟩ ⟨Nat.zero_le _, Nat.zero_le _⟩ (Nat.le_of_ble_eq_true rfl) (fun q2 M1 _ => ?_)
    refine go_icmp_ge 109 50 dX12_who_47 rfl (by decide) (fun _ => ?_) (fun _ => ?_)
    · refine go_iinc (x2 + 1) 2 [(2, .int (x2 + 1)), (0, .ref (gB G + o0)), (1, .int x1), (3, .int x3), (4, .int x4)] 112 dX12_who_109 rfl rfl rfl (by decide) rfl ?_
      refine go_goto 20 dX12_who_112 (by decide) ?_
      exact go_lv [1, 2, 0] rfl (hk20 o0 h0 x1 (x2 + 1) M1)
    · refine go_aload_n 0 51 dX12_who_50 rfl rfl ?_
      refine go_aload_n 0 52 dX12_who_51 rfl rfl ?_
      refine go_getR flX12_113 h0 55 dX12_who_52 rfl ?_
      refine go_bipush 18 57 dX12_who_55 rfl (by decide) ?_
      refine go_iload 4 59 dX12_who_57 rfl rfl ?_
      refine go_iadd 60 dX12_who_59 rfl ?_
      refine go_iald (rk12_24 h0) 61 dX12_who_60 rfl ?_
      refine go_aload_n 0 62 dX12_who_61 rfl rfl ?_
      refine go_getR flX12_113 h0 65 dX12_who_62 rfl ?_
      refine go_iload_n 3 66 dX12_who_65 rfl rfl ?_
      refine go_iald (rk12_24 h0) 67 dX12_who_66 rfl ?_
      refine go_cVI2 2 clX12 cwX12_382 (m_X12_arrivesBy w o0 h0 (M1.1 (rF o0 24) (18 + x4).toNatClampNeg) (M1.1 (rF o0 24) x3.toNatClampNeg) M1) h0 70 dX12_who_67 rfl ⟨Nat.le_of_ble_eq_true rfl, Nat.le_of_ble_eq_true rfl⟩ ⟨Nat.zero_le _, Nat.zero_le _⟩ (Nat.le_of_ble_eq_true rfl) (fun q4 M3 _ => ?_)
      refine go_istore [(5, .int q4), (0, .ref (gB G + o0)), (1, .int x1), (2, .int x2), (3, .int x3), (4, .int x4)] 72 dX12_who_70 rfl (by decide) rfl ?_
      refine go_iload_n 2 73 dX12_who_72 rfl rfl ?_
      refine go_iload 0 75 dX12_who_73 rfl rfl ?_
      refine go_if_lt 95 78 dX12_who_75 rfl (by decide) (fun _ => ?_) (fun _ => ?_)
      · exact go_lv [1, 3, 4, 5] rfl (s_X12_who_95 w k20 hk20 (f_X12_who_41 w k20 n) (fun o0 h0 x1 x2 x3 x4 M => ih o0 h0 x1 x2 x3 x4 M) o0 h0 x2 x3 x4 x1 M3)
      · refine go_iload 0 80 dX12_who_78 rfl rfl ?_
        refine go_aload_n 1 81 dX12_who_80 rfl rfl ?_
        refine go_getR flX12_113 h0 84 dX12_who_81 rfl ?_
        refine go_iload_n 4 85 dX12_who_84 rfl rfl ?_
        refine go_iconst 1 86 dX12_who_85 rfl (by decide) ?_
        refine go_iadd 87 dX12_who_86 rfl ?_
        refine go_iald (rk12_24 h0) 88 dX12_who_87 rfl ?_
        refine go_icmp_gt 95 91 dX12_who_88 rfl (by decide) (fun _ => ?_) (fun _ => ?_)
        · exact go_lv [1, 3, 4, 5] rfl (s_X12_who_95 w k20 hk20 (f_X12_who_41 w k20 n) (fun o0 h0 x1 x2 x3 x4 M => ih o0 h0 x1 x2 x3 x4 M) o0 h0 x2 x3 x4 x1 M3)
        · refine go_iconst (-1) 92 dX12_who_91 rfl (by decide) ?_
          refine go_goto 101 dX12_who_92 (by decide) ?_
          refine go_iand 102 dX12_who_101 rfl ?_
          refine go_nmI (fun y5 => ?_)
          refine go_istore_n [(1, .int y5), (5, .int q4), (0, .ref (gB G + o0)), (2, .int x2), (3, .int x3), (4, .int x4)] 103 dX12_who_102 rfl rfl (by decide) rfl ?_
          refine go_iinc (x4 + 1) 5 [(4, .int (x4 + 1)), (1, .int y5), (5, .int q4), (0, .ref (gB G + o0)), (2, .int x2), (3, .int x3)] 106 dX12_who_103 rfl rfl rfl (by decide) rfl ?_
          refine go_goto 41 dX12_who_106 (by decide) ?_
          exact go_lv [3, 1, 4, 5, 0] rfl (ih o0 h0 y5 x2 x3 (x4 + 1) M3)
def f_X12_who_20 (w : Nat) : Nat → Nat → Int32 → Int32 → mM → Option (Int32 × mM)
  | 0, _, _, _, _ => none
  | n + 1, o0, x1, x2, M => chk 48 (sL (rF o0 24)) ((if (M.1 (rF o0 24) (48 : Int32).toNatClampNeg) ≤ x2 then some (x1, M) else lt (49 + (2 * x2)) fun y1 => (f_X12_who_41 w (f_X12_who_20 w n) w o0 x1 x2 y1 0 M)))
set_option maxHeartbeats 4000000 in
set_option maxRecDepth 100000 in
theorem s_X12_who_20 {l : Launch} {G : mG} {sk : List mS} (w : Nat) : ∀ (n : Nat) (o0 : Nat) (h0 : isK o0 22) (x1 : Int32) (x2 : Int32) (M : mM), Go muX12_who (rm 6) 0 0 l G sk (mFin G sk eI) (f_X12_who_20 w n o0 x1 x2 M) 20 [(0, .ref (gB G + o0)), (1, .int x1), (2, .int x2)] [] M := by
  intro n
  induction n with
  | zero =>
    intros
    exact go_none
  | succ n ih =>
    intro o0 h0 x1 x2 M
    rw [f_X12_who_20]
    refine go_iload_n 2 21 dX12_who_20 rfl rfl ?_
    refine go_aload_n 0 22 dX12_who_21 rfl rfl ?_
    refine go_getR flX12_113 h0 25 dX12_who_22 rfl ?_
    refine go_bipush 48 27 dX12_who_25 rfl (by decide) ?_
    refine go_iald (rk12_24 h0) 28 dX12_who_27 rfl ?_
    refine go_icmp_ge 115 31 dX12_who_28 rfl (by decide) (fun _ => ?_) (fun _ => ?_)
    · refine go_iload_n 1 116 dX12_who_115 rfl rfl ?_
      exact go_iret rfl dX12_who_116
    · refine go_bipush 49 33 dX12_who_31 rfl (by decide) ?_
      refine go_iconst 2 34 dX12_who_33 rfl (by decide) ?_
      refine go_iload_n 2 35 dX12_who_34 rfl rfl ?_
      refine go_imul 36 dX12_who_35 rfl ?_
      refine go_iadd 37 dX12_who_36 rfl ?_
      refine go_nmI (fun y1 => ?_)
      refine go_istore_n [(3, .int y1), (0, .ref (gB G + o0)), (1, .int x1), (2, .int x2)] 38 dX12_who_37 rfl rfl (by decide) rfl ?_
      refine go_iconst 0 39 dX12_who_38 rfl (by decide) ?_
      refine go_istore [(4, .int 0), (3, .int y1), (0, .ref (gB G + o0)), (1, .int x1), (2, .int x2)] 41 dX12_who_39 rfl (by decide) rfl ?_
      exact go_lv [2, 3, 4, 1, 0] rfl (s_X12_who_41 w (f_X12_who_20 w n) (fun o0 h0 x1 x2 M => ih o0 h0 x1 x2 M) w o0 h0 x1 x2 y1 0 M)
def f_X12_who (w : Nat) (o0 : Nat) (M : mM) : Option (Int32 × mM) := lt (wI M o0 0 0) fun M1 => bV (f_X12_opensThen w o0 M1) fun M2 => bI (f_X12_persons w o0 M2) fun q4 M3 => lt (((1 : Int32) <<< (q4 &&& 31)) - 1) fun y5 => (f_X12_who_20 w w o0 y5 0 M3)
set_option maxHeartbeats 4000000 in
set_option maxRecDepth 100000 in
theorem s_X12_who {l : Launch} {G : mG} {sk : List mS} (w : Nat) (o0 : Nat) (h0 : isK o0 22) (M : mM) : Go muX12_who (rm 6) 0 0 l G sk (mFin G sk eI) (f_X12_who w o0 M) 0 [(0, .ref (gB G + o0))] [] M := by
  unfold f_X12_who
  refine go_aload_n 0 1 dX12_who_0 rfl rfl ?_
  refine go_iconst 0 2 dX12_who_1 rfl (by decide) ?_
  refine go_putI flX12_1 rfl rfl h0 5 dX12_who_2 rfl ?_
  refine go_nmM (fun M1 => ?_)
  refine go_aload_n 0 6 dX12_who_5 rfl rfl ?_
  refine go_cVV0 5 clX12 cwX12_379 (m_X12_opensThen w o0 h0 M1) h0 9 dX12_who_6 rfl ⟨Nat.le_of_ble_eq_true rfl, Nat.le_of_ble_eq_true rfl⟩ ⟨Nat.zero_le _, Nat.zero_le _⟩ (Nat.le_of_ble_eq_true rfl) (fun M2 _ => ?_)
  refine go_iconst 1 10 dX12_who_9 rfl (by decide) ?_
  refine go_aload_n 0 11 dX12_who_10 rfl rfl ?_
  refine go_cVI0 0 clX12 cwX12_279 (m_X12_persons w o0 h0 M2) h0 14 dX12_who_11 rfl ⟨Nat.le_of_ble_eq_true rfl, Nat.le_of_ble_eq_true rfl⟩ ⟨Nat.zero_le _, Nat.zero_le _⟩ (Nat.le_of_ble_eq_true rfl) (fun q4 M3 _ => ?_)
  refine go_ishl 15 dX12_who_14 rfl ?_
  refine go_iconst 1 16 dX12_who_15 rfl (by decide) ?_
  refine go_isub 17 dX12_who_16 rfl ?_
  refine go_nmI (fun y5 => ?_)
  refine go_istore_n [(1, .int y5), (0, .ref (gB G + o0))] 18 dX12_who_17 rfl rfl (by decide) rfl ?_
  refine go_iconst 0 19 dX12_who_18 rfl (by decide) ?_
  refine go_istore_n [(2, .int 0), (1, .int y5), (0, .ref (gB G + o0))] 20 dX12_who_19 rfl rfl (by decide) rfl ?_
  exact go_lv [2, 1, 0] rfl (s_X12_who_20 w w o0 h0 y5 0 M3)
theorem m_X12_who {l : Launch} {G : mG} {sk : List mS} (w : Nat) (o0 : Nat) (h0 : isK o0 22) (M : mM) : Mt l G sk yX12_who muX12_who 6 [.ref (gB G + o0)] M eI (f_X12_who w o0 M) := Mt.of (by decide) rfl (Nat.le_of_ble_eq_true rfl) (s_X12_who w o0 h0 M)
