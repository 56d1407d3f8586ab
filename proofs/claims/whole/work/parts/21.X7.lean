theorem dX7_lookAhead_0 : decode cX7_lookAhead 0 = .ok (.aload_n 0, 1) := by decide +kernel
theorem dX7_lookAhead_1 : decode cX7_lookAhead 1 = .ok (.getfield 15, 3) := by decide +kernel
theorem dX7_lookAhead_4 : decode cX7_lookAhead 4 = .ok (.iload_n 1, 1) := by decide +kernel
theorem dX7_lookAhead_5 : decode cX7_lookAhead 5 = .ok (.iconst 0, 1) := by decide +kernel
theorem dX7_lookAhead_6 : decode cX7_lookAhead 6 = .ok (.iastore, 1) := by decide +kernel
theorem dX7_lookAhead_7 : decode cX7_lookAhead 7 = .ok (.iconst 0, 1) := by decide +kernel
theorem dX7_lookAhead_8 : decode cX7_lookAhead 8 = .ok (.istore_n 3, 1) := by decide +kernel
theorem dX7_lookAhead_9 : decode cX7_lookAhead 9 = .ok (.iload_n 3, 1) := by decide +kernel
theorem dX7_lookAhead_10 : decode cX7_lookAhead 10 = .ok (.aload_n 0, 1) := by decide +kernel
theorem dX7_lookAhead_11 : decode cX7_lookAhead 11 = .ok (.getfield 28, 3) := by decide +kernel
theorem dX7_lookAhead_14 : decode cX7_lookAhead 14 = .ok (.getfield 41, 3) := by decide +kernel
theorem dX7_lookAhead_17 : decode cX7_lookAhead 17 = .ok (.if_icmp .ge 66, 3) := by decide +kernel
theorem dX7_lookAhead_20 : decode cX7_lookAhead 20 = .ok (.aload_n 0, 1) := by decide +kernel
theorem dX7_lookAhead_21 : decode cX7_lookAhead 21 = .ok (.getfield 18, 3) := by decide +kernel
theorem dX7_lookAhead_24 : decode cX7_lookAhead 24 = .ok (.getfield 47, 3) := by decide +kernel
theorem dX7_lookAhead_27 : decode cX7_lookAhead 27 = .ok (.iload_n 3, 1) := by decide +kernel
theorem dX7_lookAhead_28 : decode cX7_lookAhead 28 = .ok (.iaload, 1) := by decide +kernel
theorem dX7_lookAhead_29 : decode cX7_lookAhead 29 = .ok (.iload_n 1, 1) := by decide +kernel
theorem dX7_lookAhead_30 : decode cX7_lookAhead 30 = .ok (.iadd, 1) := by decide +kernel
theorem dX7_lookAhead_31 : decode cX7_lookAhead 31 = .ok (.istore 4, 2) := by decide +kernel
theorem dX7_lookAhead_33 : decode cX7_lookAhead 33 = .ok (.aload_n 0, 1) := by decide +kernel
theorem dX7_lookAhead_34 : decode cX7_lookAhead 34 = .ok (.getfield 29, 3) := by decide +kernel
theorem dX7_lookAhead_37 : decode cX7_lookAhead 37 = .ok (.iload_n 3, 1) := by decide +kernel
theorem dX7_lookAhead_38 : decode cX7_lookAhead 38 = .ok (.iload 4, 2) := by decide +kernel
theorem dX7_lookAhead_40 : decode cX7_lookAhead 40 = .ok (.iload_n 2, 1) := by decide +kernel
theorem dX7_lookAhead_41 : decode cX7_lookAhead 41 = .ok (.iconst (-1), 1) := by decide +kernel
theorem dX7_lookAhead_42 : decode cX7_lookAhead 42 = .ok (.invokevirtual 52, 3) := by decide +kernel
theorem dX7_lookAhead_45 : decode cX7_lookAhead 45 = .ok (.istore 5, 2) := by decide +kernel
theorem dX7_lookAhead_47 : decode cX7_lookAhead 47 = .ok (.iload 5, 2) := by decide +kernel
theorem dX7_lookAhead_49 : decode cX7_lookAhead 49 = .ok (.iload 4, 2) := by decide +kernel
theorem dX7_lookAhead_51 : decode cX7_lookAhead 51 = .ok (.if_icmp .le 14, 3) := by decide +kernel
theorem dX7_lookAhead_54 : decode cX7_lookAhead 54 = .ok (.aload_n 0, 1) := by decide +kernel
theorem dX7_lookAhead_55 : decode cX7_lookAhead 55 = .ok (.getfield 18, 3) := by decide +kernel
theorem dX7_lookAhead_58 : decode cX7_lookAhead 58 = .ok (.iload_n 3, 1) := by decide +kernel
theorem dX7_lookAhead_59 : decode cX7_lookAhead 59 = .ok (.invokevirtual 56, 3) := by decide +kernel
theorem dX7_lookAhead_62 : decode cX7_lookAhead 62 = .ok (.ifCond .eq 15, 3) := by decide +kernel
theorem dX7_lookAhead_65 : decode cX7_lookAhead 65 = .ok (.aload_n 0, 1) := by decide +kernel
theorem dX7_lookAhead_66 : decode cX7_lookAhead 66 = .ok (.getfield 15, 3) := by decide +kernel
theorem dX7_lookAhead_69 : decode cX7_lookAhead 69 = .ok (.iload_n 1, 1) := by decide +kernel
theorem dX7_lookAhead_70 : decode cX7_lookAhead 70 = .ok (.dup2, 1) := by decide +kernel
theorem dX7_lookAhead_71 : decode cX7_lookAhead 71 = .ok (.iaload, 1) := by decide +kernel
theorem dX7_lookAhead_72 : decode cX7_lookAhead 72 = .ok (.iconst 1, 1) := by decide +kernel
theorem dX7_lookAhead_73 : decode cX7_lookAhead 73 = .ok (.iload_n 3, 1) := by decide +kernel
theorem dX7_lookAhead_74 : decode cX7_lookAhead 74 = .ok (.ishl, 1) := by decide +kernel
theorem dX7_lookAhead_75 : decode cX7_lookAhead 75 = .ok (.ior, 1) := by decide +kernel
theorem dX7_lookAhead_76 : decode cX7_lookAhead 76 = .ok (.iastore, 1) := by decide +kernel
theorem dX7_lookAhead_77 : decode cX7_lookAhead 77 = .ok (.iinc 3 1, 3) := by decide +kernel
theorem dX7_lookAhead_80 : decode cX7_lookAhead 80 = .ok (.goto (-71), 3) := by decide +kernel
theorem dX7_lookAhead_83 : decode cX7_lookAhead 83 = .ok (.return_, 1) := by decide +kernel
def f_X7_lookAhead_65 (w : Nat) (k9 : Nat → Int32 → Int32 → Int32 → mM → Option mM) (o0 : Nat) (x1 : Int32) (x2 : Int32) (x3 : Int32) (M : mM) : Option mM := chk x1 (sL (rF o0 4)) (chk x1 (sL (rF o0 4)) (lt (wI M (rF o0 4) x1.toNatClampNeg ((M.1 (rF o0 4) x1.toNatClampNeg) ||| ((1 : Int32) <<< (x3 &&& 31)))) fun M1 => (k9 o0 x1 x2 (x3 + 1) M1)))
set_option maxHeartbeats 4000000 in
set_option maxRecDepth 100000 in
theorem s_X7_lookAhead_65 {l : Launch} {G : mG} {sk : List mS} (w : Nat) (k9 : Nat → Int32 → Int32 → Int32 → mM → Option mM) (hk9 : ∀ (o0 : Nat) (h0 : isK o0 17) (x1 : Int32) (x2 : Int32) (x3 : Int32) (M : mM), Go muX7_lookAhead (rm 4) 0 0 l G sk (mFin G sk eV) (k9 o0 x1 x2 x3 M) 9 [(0, .ref (gB G + o0)), (1, .int x1), (2, .int x2), (3, .int x3)] [] M) (o0 : Nat) (h0 : isK o0 17) (x1 : Int32) (x2 : Int32) (x3 : Int32) (M : mM) : Go muX7_lookAhead (rm 4) 0 0 l G sk (mFin G sk eV) (f_X7_lookAhead_65 w k9 o0 x1 x2 x3 M) 65 [(0, .ref (gB G + o0)), (1, .int x1), (2, .int x2), (3, .int x3)] [] M := by
  unfold f_X7_lookAhead_65
  refine go_aload_n 0 66 dX7_lookAhead_65 rfl rfl ?_
  refine go_getR flX7_15 h0 69 dX7_lookAhead_66 rfl ?_
  refine go_iload_n 1 70 dX7_lookAhead_69 rfl rfl ?_
  refine go_dup2 71 dX7_lookAhead_70 rfl rfl rfl ?_
  refine go_iald (rk7_4 h0) 72 dX7_lookAhead_71 rfl ?_
  refine go_iconst 1 73 dX7_lookAhead_72 rfl (by decide) ?_
  refine go_iload_n 3 74 dX7_lookAhead_73 rfl rfl ?_
  refine go_ishl 75 dX7_lookAhead_74 rfl ?_
  refine go_ior 76 dX7_lookAhead_75 rfl ?_
  refine go_iast (rk7_4 h0) 77 dX7_lookAhead_76 rfl ?_
  refine go_nmM (fun M1 => ?_)
  refine go_iinc (x3 + 1) 3 [(3, .int (x3 + 1)), (0, .ref (gB G + o0)), (1, .int x1), (2, .int x2)] 80 dX7_lookAhead_77 rfl rfl rfl (by decide) rfl ?_
  refine go_goto 9 dX7_lookAhead_80 (by decide) ?_
  exact go_lv [1, 2, 3, 0] rfl (hk9 o0 h0 x1 x2 (x3 + 1) M1)
def f_X7_lookAhead_9 (w : Nat) : Nat → Nat → Int32 → Int32 → Int32 → mM → Option mM
  | 0, _, _, _, _, _ => none
  | n + 1, o0, x1, x2, x3, M => (if (M.1 (rF o0 1) 1) ≤ x3 then some M else chk x3 (sL (rF (rF o0 0) 3)) (lt ((M.1 (rF (rF o0 0) 3) x3.toNatClampNeg) + x1) fun y1 => bI (f_X5_swollenBehind w (rF o0 2) x3 y1 x2 (-1) M) fun q3 M2 => (if q3 ≤ y1 then (f_X7_lookAhead_65 w (f_X7_lookAhead_9 w n) o0 x1 x2 x3 M2) else bI (f_X9_hasWedge w (rF o0 0) x3 M2) fun q5 M4 => (if q5 = 0 then (f_X7_lookAhead_9 w n o0 x1 x2 (x3 + 1) M4) else (f_X7_lookAhead_65 w (f_X7_lookAhead_9 w n) o0 x1 x2 x3 M4)))))
set_option maxHeartbeats 4000000 in
set_option maxRecDepth 100000 in
theorem s_X7_lookAhead_9 {l : Launch} {G : mG} {sk : List mS} (w : Nat) : ∀ (n : Nat) (o0 : Nat) (h0 : isK o0 17) (x1 : Int32) (x2 : Int32) (x3 : Int32) (M : mM), Go muX7_lookAhead (rm 4) 0 0 l G sk (mFin G sk eV) (f_X7_lookAhead_9 w n o0 x1 x2 x3 M) 9 [(0, .ref (gB G + o0)), (1, .int x1), (2, .int x2), (3, .int x3)] [] M := by
  intro n
  induction n with
  | zero =>
    intros
    exact go_none
  | succ n ih =>
    intro o0 h0 x1 x2 x3 M
    rw [f_X7_lookAhead_9]
    refine go_iload_n 3 10 dX7_lookAhead_9 rfl rfl ?_
    refine go_aload_n 0 11 dX7_lookAhead_10 rfl rfl ?_
    refine go_getR flX7_28 h0 14 dX7_lookAhead_11 rfl ?_
    refine go_getI flX7_41 (by decide) (rk7_1 h0) 17 dX7_lookAhead_14 rfl ?_
    refine go_icmp_ge 83 20 dX7_lookAhead_17 rfl (by decide) (fun _ => ?_) (fun _ => ?_)
    · exact go_vret rfl dX7_lookAhead_83
    · refine go_aload_n 0 21 dX7_lookAhead_20 rfl rfl ?_
      refine go_getR flX7_18 h0 24 dX7_lookAhead_21 rfl ?_
      refine go_getR flX7_47 (rk7_0 h0) 27 dX7_lookAhead_24 rfl ?_
      refine go_iload_n 3 28 dX7_lookAhead_27 rfl rfl ?_
      refine go_iald (rk9_3 (rk7_0 h0)) 29 dX7_lookAhead_28 rfl ?_
      refine go_iload_n 1 30 dX7_lookAhead_29 rfl rfl ?_
      refine go_iadd 31 dX7_lookAhead_30 rfl ?_
      refine go_nmI (fun y1 => ?_)
      refine go_istore [(4, .int y1), (0, .ref (gB G + o0)), (1, .int x1), (2, .int x2), (3, .int x3)] 33 dX7_lookAhead_31 rfl (by decide) rfl ?_
      refine go_aload_n 1 34 dX7_lookAhead_33 rfl rfl ?_
      refine go_getR flX7_29 h0 37 dX7_lookAhead_34 rfl ?_
      refine go_iload_n 4 38 dX7_lookAhead_37 rfl rfl ?_
      refine go_iload 0 40 dX7_lookAhead_38 rfl rfl ?_
      refine go_iload_n 3 41 dX7_lookAhead_40 rfl rfl ?_
      refine go_iconst (-1) 42 dX7_lookAhead_41 rfl (by decide) ?_
      refine go_cVI4 3 clX5 cwX7_52 (m_X5_swollenBehind w (rF o0 2) (rk7_2 h0) x3 y1 x2 (-1) M) (rk7_2 h0) 45 dX7_lookAhead_42 rfl ⟨Nat.le_of_ble_eq_true rfl, Nat.le_of_ble_eq_true rfl⟩ ⟨Nat.zero_le _, Nat.zero_le _⟩ (Nat.le_of_ble_eq_true rfl) (fun q3 M2 _ => ?_)
      refine go_istore [(5, .int q3), (4, .int y1), (0, .ref (gB G + o0)), (1, .int x1), (2, .int x2), (3, .int x3)] 47 dX7_lookAhead_45 rfl (by decide) rfl ?_
      refine go_iload 0 49 dX7_lookAhead_47 rfl rfl ?_
      refine go_iload 1 51 dX7_lookAhead_49 rfl rfl ?_
      refine go_icmp_le 65 54 dX7_lookAhead_51 rfl (by decide) (fun _ => ?_) (fun _ => ?_)
      · exact go_lv [2, 3, 4, 5] rfl (s_X7_lookAhead_65 w (f_X7_lookAhead_9 w n) (fun o0 h0 x1 x2 x3 M => ih o0 h0 x1 x2 x3 M) o0 h0 x1 x2 x3 M2)
      · refine go_aload_n 2 55 dX7_lookAhead_54 rfl rfl ?_
        refine go_getR flX7_18 h0 58 dX7_lookAhead_55 rfl ?_
        refine go_iload_n 5 59 dX7_lookAhead_58 rfl rfl ?_
        refine go_cVI1 0 clX9 cwX7_56 (m_X9_hasWedge w (rF o0 0) (rk7_0 h0) x3 M2) (rk7_0 h0) 62 dX7_lookAhead_59 rfl ⟨Nat.le_of_ble_eq_true rfl, Nat.le_of_ble_eq_true rfl⟩ ⟨Nat.zero_le _, Nat.zero_le _⟩ (Nat.le_of_ble_eq_true rfl) (fun q5 M4 _ => ?_)
        refine go_if_eq 77 65 dX7_lookAhead_62 rfl (by decide) (fun _ => ?_) (fun _ => ?_)
        · refine go_iinc (x3 + 1) 5 [(3, .int (x3 + 1)), (5, .int q3), (4, .int y1), (0, .ref (gB G + o0)), (1, .int x1), (2, .int x2)] 80 dX7_lookAhead_77 rfl rfl rfl (by decide) rfl ?_
          refine go_goto 9 dX7_lookAhead_80 (by decide) ?_
          exact go_lv [3, 4, 5, 0] rfl (ih o0 h0 x1 x2 (x3 + 1) M4)
        · exact go_lv [2, 3, 4, 5] rfl (s_X7_lookAhead_65 w (f_X7_lookAhead_9 w n) (fun o0 h0 x1 x2 x3 M => ih o0 h0 x1 x2 x3 M) o0 h0 x1 x2 x3 M4)
def f_X7_lookAhead (w : Nat) (o0 : Nat) (x1 : Int32) (x2 : Int32) (M : mM) : Option mM := chk x1 (sL (rF o0 4)) (lt (wI M (rF o0 4) x1.toNatClampNeg 0) fun M1 => (f_X7_lookAhead_9 w w o0 x1 x2 0 M1))
set_option maxHeartbeats 4000000 in
set_option maxRecDepth 100000 in
theorem s_X7_lookAhead {l : Launch} {G : mG} {sk : List mS} (w : Nat) (o0 : Nat) (h0 : isK o0 17) (x1 : Int32) (x2 : Int32) (M : mM) : Go muX7_lookAhead (rm 4) 0 0 l G sk (mFin G sk eV) (f_X7_lookAhead w o0 x1 x2 M) 0 [(0, .ref (gB G + o0)), (1, .int x1), (2, .int x2)] [] M := by
  unfold f_X7_lookAhead
  refine go_aload_n 0 1 dX7_lookAhead_0 rfl rfl ?_
  refine go_getR flX7_15 h0 4 dX7_lookAhead_1 rfl ?_
  refine go_iload_n 1 5 dX7_lookAhead_4 rfl rfl ?_
  refine go_iconst 0 6 dX7_lookAhead_5 rfl (by decide) ?_
  refine go_iast (rk7_4 h0) 7 dX7_lookAhead_6 rfl ?_
  refine go_nmM (fun M1 => ?_)
  refine go_iconst 0 8 dX7_lookAhead_7 rfl (by decide) ?_
  refine go_istore_n [(3, .int 0), (0, .ref (gB G + o0)), (1, .int x1), (2, .int x2)] 9 dX7_lookAhead_8 rfl rfl (by decide) rfl ?_
  exact go_lv [1, 2, 3, 0] rfl (s_X7_lookAhead_9 w w o0 h0 x1 x2 0 M1)
theorem m_X7_lookAhead {l : Launch} {G : mG} {sk : List mS} (w : Nat) (o0 : Nat) (h0 : isK o0 17) (x1 : Int32) (x2 : Int32) (M : mM) : Mt l G sk yX7_lookAhead muX7_lookAhead 4 [.ref (gB G + o0), .int x1, .int x2] M eV (f_X7_lookAhead w o0 x1 x2 M) := Mt.of (by decide) rfl (Nat.le_of_ble_eq_true rfl) (s_X7_lookAhead w o0 h0 x1 x2 M)
theorem dX7_writeRow_0 : decode cX7_writeRow 0 = .ok (.iload_n 1, 1) := by decide +kernel
theorem dX7_writeRow_1 : decode cX7_writeRow 1 = .ok (.istore_n 3, 1) := by decide +kernel
theorem dX7_writeRow_2 : decode cX7_writeRow 2 = .ok (.iload_n 2, 1) := by decide +kernel
theorem dX7_writeRow_3 : decode cX7_writeRow 3 = .ok (.iconst 3, 1) := by decide +kernel
theorem dX7_writeRow_4 : decode cX7_writeRow 4 = .ok (.invokestatic 72, 3) := by decide +kernel
theorem dX7_writeRow_7 : decode cX7_writeRow 7 = .ok (.iconst 1, 1) := by decide +kernel
theorem dX7_writeRow_8 : decode cX7_writeRow 8 = .ok (.isub, 1) := by decide +kernel
theorem dX7_writeRow_9 : decode cX7_writeRow 9 = .ok (.istore 4, 2) := by decide +kernel
theorem dX7_writeRow_11 : decode cX7_writeRow 11 = .ok (.iload 4, 2) := by decide +kernel
theorem dX7_writeRow_13 : decode cX7_writeRow 13 = .ok (.ifCond .lt 45, 3) := by decide +kernel
theorem dX7_writeRow_16 : decode cX7_writeRow 16 = .ok (.aload_n 0, 1) := by decide +kernel
theorem dX7_writeRow_17 : decode cX7_writeRow 17 = .ok (.getfield 28, 3) := by decide +kernel
theorem dX7_writeRow_20 : decode cX7_writeRow 20 = .ok (.getfield 41, 3) := by decide +kernel
theorem dX7_writeRow_23 : decode cX7_writeRow 23 = .ok (.ifCond .le 35, 3) := by decide +kernel
theorem dX7_writeRow_26 : decode cX7_writeRow 26 = .ok (.aload_n 0, 1) := by decide +kernel
theorem dX7_writeRow_27 : decode cX7_writeRow 27 = .ok (.getfield 9, 3) := by decide +kernel
theorem dX7_writeRow_30 : decode cX7_writeRow 30 = .ok (.iload 4, 2) := by decide +kernel
theorem dX7_writeRow_32 : decode cX7_writeRow 32 = .ok (.iload_n 3, 1) := by decide +kernel
theorem dX7_writeRow_33 : decode cX7_writeRow 33 = .ok (.aload_n 0, 1) := by decide +kernel
theorem dX7_writeRow_34 : decode cX7_writeRow 34 = .ok (.getfield 28, 3) := by decide +kernel
theorem dX7_writeRow_37 : decode cX7_writeRow 37 = .ok (.getfield 41, 3) := by decide +kernel
theorem dX7_writeRow_40 : decode cX7_writeRow 40 = .ok (.irem, 1) := by decide +kernel
theorem dX7_writeRow_41 : decode cX7_writeRow 41 = .ok (.iastore, 1) := by decide +kernel
theorem dX7_writeRow_42 : decode cX7_writeRow 42 = .ok (.iload_n 3, 1) := by decide +kernel
theorem dX7_writeRow_43 : decode cX7_writeRow 43 = .ok (.aload_n 0, 1) := by decide +kernel
theorem dX7_writeRow_44 : decode cX7_writeRow 44 = .ok (.getfield 28, 3) := by decide +kernel
theorem dX7_writeRow_47 : decode cX7_writeRow 47 = .ok (.getfield 41, 3) := by decide +kernel
theorem dX7_writeRow_50 : decode cX7_writeRow 50 = .ok (.idiv, 1) := by decide +kernel
theorem dX7_writeRow_51 : decode cX7_writeRow 51 = .ok (.istore_n 3, 1) := by decide +kernel
theorem dX7_writeRow_52 : decode cX7_writeRow 52 = .ok (.iinc 4 (-1), 3) := by decide +kernel
theorem dX7_writeRow_55 : decode cX7_writeRow 55 = .ok (.goto (-44), 3) := by decide +kernel
theorem dX7_writeRow_58 : decode cX7_writeRow 58 = .ok (.return_, 1) := by decide +kernel
def f_X7_writeRow_11 (w : Nat) : Nat → Nat → Int32 → Int32 → mM → Option mM
  | 0, _, _, _, _ => none
  | n + 1, o0, x3, x4, M => (if x4 < 0 then some M else (if (M.1 (rF o0 1) 1) ≤ 0 then some M else if (M.1 (rF o0 1) 1) = 0 then none else (chk x4 (sL (rF o0 3)) (lt (wI M (rF o0 3) x4.toNatClampNeg (x3 - x3 / (M.1 (rF o0 1) 1) * (M.1 (rF o0 1) 1))) fun M1 => if (M1.1 (rF o0 1) 1) = 0 then none else (lt (x3 / (M1.1 (rF o0 1) 1)) fun y2 => (f_X7_writeRow_11 w n o0 y2 (x4 + (-1)) M1))))))
set_option maxHeartbeats 4000000 in
set_option maxRecDepth 100000 in
theorem s_X7_writeRow_11 {l : Launch} {G : mG} {sk : List mS} (w : Nat) : ∀ (n : Nat) (o0 : Nat) (h0 : isK o0 17) (x3 : Int32) (x4 : Int32) (M : mM), Go muX7_writeRow (rm 1) 0 0 l G sk (mFin G sk eV) (f_X7_writeRow_11 w n o0 x3 x4 M) 11 [(0, .ref (gB G + o0)), (3, .int x3), (4, .int x4)] [] M := by
  intro n
  induction n with
  | zero =>
    intros
    exact go_none
  | succ n ih =>
    intro o0 h0 x3 x4 M
    rw [f_X7_writeRow_11]
    refine go_iload 2 13 dX7_writeRow_11 rfl rfl ?_
    refine go_if_lt 58 16 dX7_writeRow_13 rfl (by decide) (fun _ => ?_) (fun _ => ?_)
    · exact go_vret rfl dX7_writeRow_58
    · refine go_aload_n 0 17 dX7_writeRow_16 rfl rfl ?_
      refine go_getR flX7_28 h0 20 dX7_writeRow_17 rfl ?_
      refine go_getI flX7_41 (by decide) (rk7_1 h0) 23 dX7_writeRow_20 rfl ?_
      refine go_if_le 58 26 dX7_writeRow_23 rfl (by decide) (fun _ => ?_) (fun _ => ?_)
      · exact go_vret rfl dX7_writeRow_58
      · refine go_aload_n 0 27 dX7_writeRow_26 rfl rfl ?_
        refine go_getR flX7_9 h0 30 dX7_writeRow_27 rfl ?_
        refine go_iload 2 32 dX7_writeRow_30 rfl rfl ?_
        refine go_iload_n 1 33 dX7_writeRow_32 rfl rfl ?_
        refine go_aload_n 0 34 dX7_writeRow_33 rfl rfl ?_
        refine go_getR flX7_28 h0 37 dX7_writeRow_34 rfl ?_
        refine go_getI flX7_41 (by decide) (rk7_1 h0) 40 dX7_writeRow_37 rfl ?_
        refine go_irem 41 dX7_writeRow_40 rfl ?_
        refine go_iast (rk7_3 h0) 42 dX7_writeRow_41 rfl ?_
        refine go_nmM (fun M1 => ?_)
        refine go_iload_n 1 43 dX7_writeRow_42 rfl rfl ?_
        refine go_aload_n 0 44 dX7_writeRow_43 rfl rfl ?_
        refine go_getR flX7_28 h0 47 dX7_writeRow_44 rfl ?_
        refine go_getI flX7_41 (by decide) (rk7_1 h0) 50 dX7_writeRow_47 rfl ?_
        refine go_idiv 51 dX7_writeRow_50 rfl ?_
        refine go_nmI (fun y2 => ?_)
        refine go_istore_n [(3, .int y2), (0, .ref (gB G + o0)), (4, .int x4)] 52 dX7_writeRow_51 rfl rfl (by decide) rfl ?_
        refine go_iinc (x4 + (-1)) 2 [(4, .int (x4 + (-1))), (3, .int y2), (0, .ref (gB G + o0))] 55 dX7_writeRow_52 rfl rfl rfl (by decide) rfl ?_
        refine go_goto 11 dX7_writeRow_55 (by decide) ?_
        exact go_lv [2, 1, 0] rfl (ih o0 h0 y2 (x4 + (-1)) M1)
def f_X7_writeRow (w : Nat) (o0 : Nat) (x1 : Int32) (x2 : Int32) (M : mM) : Option mM := lt ((mnI x2 3) - 1) fun y1 => (f_X7_writeRow_11 w w o0 x1 y1 M)
set_option maxHeartbeats 4000000 in
set_option maxRecDepth 100000 in
theorem s_X7_writeRow {l : Launch} {G : mG} {sk : List mS} (w : Nat) (o0 : Nat) (h0 : isK o0 17) (x1 : Int32) (x2 : Int32) (M : mM) : Go muX7_writeRow (rm 1) 0 0 l G sk (mFin G sk eV) (f_X7_writeRow w o0 x1 x2 M) 0 [(0, .ref (gB G + o0)), (1, .int x1), (2, .int x2)] [] M := by
  unfold f_X7_writeRow
  refine go_iload_n 1 1 dX7_writeRow_0 rfl rfl ?_
  refine go_istore_n [(3, .int x1), (0, .ref (gB G + o0)), (1, .int x1), (2, .int x2)] 2 dX7_writeRow_1 rfl rfl (by decide) rfl ?_
  refine go_iload_n 3 3 dX7_writeRow_2 rfl rfl ?_
  refine go_iconst 3 4 dX7_writeRow_3 rfl (by decide) ?_
  refine go_min miX7_72 7 dX7_writeRow_4 rfl (Nat.le_of_ble_eq_true rfl) (Nat.le_of_ble_eq_true rfl) ⟨Nat.zero_le _, Nat.zero_le _⟩ ?_
  refine go_iconst 1 8 dX7_writeRow_7 rfl (by decide) ?_
  refine go_isub 9 dX7_writeRow_8 rfl ?_
  refine go_nmI (fun y1 => ?_)
  refine go_istore [(4, .int y1), (3, .int x1), (0, .ref (gB G + o0)), (1, .int x1), (2, .int x2)] 11 dX7_writeRow_9 rfl (by decide) rfl ?_
  exact go_lv [2, 1, 0] rfl (s_X7_writeRow_11 w w o0 h0 x1 y1 M)
theorem m_X7_writeRow {l : Launch} {G : mG} {sk : List mS} (w : Nat) (o0 : Nat) (h0 : isK o0 17) (x1 : Int32) (x2 : Int32) (M : mM) : Mt l G sk yX7_writeRow muX7_writeRow 1 [.ref (gB G + o0), .int x1, .int x2] M eV (f_X7_writeRow w o0 x1 x2 M) := Mt.of (by decide) rfl (Nat.le_of_ble_eq_true rfl) (s_X7_writeRow w o0 h0 x1 x2 M)
theorem dX7_timesInRow_0 : decode cX7_timesInRow 0 = .ok (.iconst 0, 1) := by decide +kernel
theorem dX7_timesInRow_1 : decode cX7_timesInRow 1 = .ok (.istore_n 3, 1) := by decide +kernel
theorem dX7_timesInRow_2 : decode cX7_timesInRow 2 = .ok (.iconst 0, 1) := by decide +kernel
theorem dX7_timesInRow_3 : decode cX7_timesInRow 3 = .ok (.istore 4, 2) := by decide +kernel
theorem dX7_timesInRow_5 : decode cX7_timesInRow 5 = .ok (.iload 4, 2) := by decide +kernel
theorem dX7_timesInRow_7 : decode cX7_timesInRow 7 = .ok (.iload_n 2, 1) := by decide +kernel
theorem dX7_timesInRow_8 : decode cX7_timesInRow 8 = .ok (.if_icmp .ge 29, 3) := by decide +kernel
theorem dX7_timesInRow_11 : decode cX7_timesInRow 11 = .ok (.iload 4, 2) := by decide +kernel
theorem dX7_timesInRow_13 : decode cX7_timesInRow 13 = .ok (.iconst 3, 1) := by decide +kernel
theorem dX7_timesInRow_14 : decode cX7_timesInRow 14 = .ok (.if_icmp .ge 23, 3) := by decide +kernel
theorem dX7_timesInRow_17 : decode cX7_timesInRow 17 = .ok (.aload_n 0, 1) := by decide +kernel
theorem dX7_timesInRow_18 : decode cX7_timesInRow 18 = .ok (.getfield 9, 3) := by decide +kernel
theorem dX7_timesInRow_21 : decode cX7_timesInRow 21 = .ok (.iload 4, 2) := by decide +kernel
theorem dX7_timesInRow_23 : decode cX7_timesInRow 23 = .ok (.iaload, 1) := by decide +kernel
theorem dX7_timesInRow_24 : decode cX7_timesInRow 24 = .ok (.iload_n 1, 1) := by decide +kernel
theorem dX7_timesInRow_25 : decode cX7_timesInRow 25 = .ok (.if_icmp .ne 6, 3) := by decide +kernel
theorem dX7_timesInRow_28 : decode cX7_timesInRow 28 = .ok (.iinc 3 1, 3) := by decide +kernel
theorem dX7_timesInRow_31 : decode cX7_timesInRow 31 = .ok (.iinc 4 1, 3) := by decide +kernel
theorem dX7_timesInRow_34 : decode cX7_timesInRow 34 = .ok (.goto (-29), 3) := by decide +kernel
theorem dX7_timesInRow_37 : decode cX7_timesInRow 37 = .ok (.iload_n 3, 1) := by decide +kernel
theorem dX7_timesInRow_38 : decode cX7_timesInRow 38 = .ok (.ireturn, 1) := by decide +kernel
def f_X7_timesInRow_5 (w : Nat) : Nat → Nat → Int32 → Int32 → Int32 → Int32 → mM → Option (Int32 × mM)
  | 0, _, _, _, _, _, _ => none
  | n + 1, o0, x1, x2, x3, x4, M => (if x2 ≤ x4 then some (x3, M) else (if 3 ≤ x4 then some (x3, M) else chk x4 (sL (rF o0 3)) ((if (M.1 (rF o0 3) x4.toNatClampNeg) = x1 then (f_X7_timesInRow_5 w n o0 x1 x2 (x3 + 1) (x4 + 1) M) else (f_X7_timesInRow_5 w n o0 x1 x2 x3 (x4 + 1) M)))))
set_option maxHeartbeats 4000000 in
set_option maxRecDepth 100000 in
theorem s_X7_timesInRow_5 {l : Launch} {G : mG} {sk : List mS} (w : Nat) : ∀ (n : Nat) (o0 : Nat) (h0 : isK o0 17) (x1 : Int32) (x2 : Int32) (x3 : Int32) (x4 : Int32) (M : mM), Go muX7_timesInRow (rm 0) 0 0 l G sk (mFin G sk eI) (f_X7_timesInRow_5 w n o0 x1 x2 x3 x4 M) 5 [(0, .ref (gB G + o0)), (1, .int x1), (2, .int x2), (3, .int x3), (4, .int x4)] [] M := by
  intro n
  induction n with
  | zero =>
    intros
    exact go_none
  | succ n ih =>
    intro o0 h0 x1 x2 x3 x4 M
    rw [f_X7_timesInRow_5]
    refine go_iload 4 7 dX7_timesInRow_5 rfl rfl ?_
    refine go_iload_n 2 8 dX7_timesInRow_7 rfl rfl ?_
    refine go_icmp_ge 37 11 dX7_timesInRow_8 rfl (by decide) (fun _ => ?_) (fun _ => ?_)
    · refine go_iload_n 3 38 dX7_timesInRow_37 rfl rfl ?_
      exact go_iret rfl dX7_timesInRow_38
    · refine go_iload 4 13 dX7_timesInRow_11 rfl rfl ?_
      refine go_iconst 3 14 dX7_timesInRow_13 rfl (by decide) ?_
      refine go_icmp_ge 37 17 dX7_timesInRow_14 rfl (by decide) (fun _ => ?_) (fun _ => ?_)
      · refine go_iload_n 3 38 dX7_timesInRow_37 rfl rfl ?_
        exact go_iret rfl dX7_timesInRow_38
      · refine go_aload_n 0 18 dX7_timesInRow_17 rfl rfl ?_
        refine go_getR flX7_9 h0 21 dX7_timesInRow_18 rfl ?_
        refine go_iload 4 23 dX7_timesInRow_21 rfl rfl ?_
        refine go_iald (rk7_3 h0) 24 dX7_timesInRow_23 rfl ?_
        refine go_iload_n 1 25 dX7_timesInRow_24 rfl rfl ?_
        refine go_icmp_ne 31 28 dX7_timesInRow_25 rfl (by decide) (fun _ => ?_) (fun _ => ?_)
        · refine go_iinc (x4 + 1) 4 [(4, .int (x4 + 1)), (0, .ref (gB G + o0)), (1, .int x1), (2, .int x2), (3, .int x3)] 34 dX7_timesInRow_31 rfl rfl rfl (by decide) rfl ?_
          refine go_goto 5 dX7_timesInRow_34 (by decide) ?_
          exact go_lv [1, 2, 3, 4, 0] rfl (ih o0 h0 x1 x2 x3 (x4 + 1) M)
        · refine go_iinc (x3 + 1) 3 [(3, .int (x3 + 1)), (0, .ref (gB G + o0)), (1, .int x1), (2, .int x2), (4, .int x4)] 31 dX7_timesInRow_28 rfl rfl rfl (by decide) rfl ?_
          refine go_iinc (x4 + 1) 4 [(4, .int (x4 + 1)), (3, .int (x3 + 1)), (0, .ref (gB G + o0)), (1, .int x1), (2, .int x2)] 34 dX7_timesInRow_31 rfl rfl rfl (by decide) rfl ?_
          refine go_goto 5 dX7_timesInRow_34 (by decide) ?_
          exact go_lv [2, 3, 4, 1, 0] rfl (ih o0 h0 x1 x2 (x3 + 1) (x4 + 1) M)
def f_X7_timesInRow (w : Nat) (o0 : Nat) (x1 : Int32) (x2 : Int32) (M : mM) : Option (Int32 × mM) := (f_X7_timesInRow_5 w w o0 x1 x2 0 0 M)
set_option maxHeartbeats 4000000 in
set_option maxRecDepth 100000 in
theorem s_X7_timesInRow {l : Launch} {G : mG} {sk : List mS} (w : Nat) (o0 : Nat) (h0 : isK o0 17) (x1 : Int32) (x2 : Int32) (M : mM) : Go muX7_timesInRow (rm 0) 0 0 l G sk (mFin G sk eI) (f_X7_timesInRow w o0 x1 x2 M) 0 [(0, .ref (gB G + o0)), (1, .int x1), (2, .int x2)] [] M := by
  unfold f_X7_timesInRow
  refine go_iconst 0 1 dX7_timesInRow_0 rfl (by decide) ?_
  refine go_istore_n [(3, .int 0), (0, .ref (gB G + o0)), (1, .int x1), (2, .int x2)] 2 dX7_timesInRow_1 rfl rfl (by decide) rfl ?_
  refine go_iconst 0 3 dX7_timesInRow_2 rfl (by decide) ?_
  refine go_istore [(4, .int 0), (3, .int 0), (0, .ref (gB G + o0)), (1, .int x1), (2, .int x2)] 5 dX7_timesInRow_3 rfl (by decide) rfl ?_
  exact go_lv [2, 3, 4, 1, 0] rfl (s_X7_timesInRow_5 w w o0 h0 x1 x2 0 0 M)
theorem m_X7_timesInRow {l : Launch} {G : mG} {sk : List mS} (w : Nat) (o0 : Nat) (h0 : isK o0 17) (x1 : Int32) (x2 : Int32) (M : mM) : Mt l G sk yX7_timesInRow muX7_timesInRow 0 [.ref (gB G + o0), .int x1, .int x2] M eI (f_X7_timesInRow w o0 x1 x2 M) := Mt.of (by decide) rfl (Nat.le_of_ble_eq_true rfl) (s_X7_timesInRow w o0 h0 x1 x2 M)
theorem dX7_canBePlaned_0 : decode cX7_canBePlaned 0 = .ok (.iconst 0, 1) := by decide +kernel
theorem dX7_canBePlaned_1 : decode cX7_canBePlaned 1 = .ok (.istore_n 2, 1) := by decide +kernel
theorem dX7_canBePlaned_2 : decode cX7_canBePlaned 2 = .ok (.iload_n 2, 1) := by decide +kernel
theorem dX7_canBePlaned_3 : decode cX7_canBePlaned 3 = .ok (.iload_n 1, 1) := by decide +kernel
theorem dX7_canBePlaned_4 : decode cX7_canBePlaned 4 = .ok (.if_icmp .ge 72, 3) := by decide +kernel
theorem dX7_canBePlaned_7 : decode cX7_canBePlaned 7 = .ok (.iload_n 2, 1) := by decide +kernel
theorem dX7_canBePlaned_8 : decode cX7_canBePlaned 8 = .ok (.iconst 3, 1) := by decide +kernel
theorem dX7_canBePlaned_9 : decode cX7_canBePlaned 9 = .ok (.if_icmp .ge 67, 3) := by decide +kernel
theorem dX7_canBePlaned_12 : decode cX7_canBePlaned 12 = .ok (.aload_n 0, 1) := by decide +kernel
theorem dX7_canBePlaned_13 : decode cX7_canBePlaned 13 = .ok (.getfield 9, 3) := by decide +kernel
theorem dX7_canBePlaned_16 : decode cX7_canBePlaned 16 = .ok (.iload_n 2, 1) := by decide +kernel
theorem dX7_canBePlaned_17 : decode cX7_canBePlaned 17 = .ok (.iaload, 1) := by decide +kernel
theorem dX7_canBePlaned_18 : decode cX7_canBePlaned 18 = .ok (.istore_n 3, 1) := by decide +kernel
theorem dX7_canBePlaned_19 : decode cX7_canBePlaned 19 = .ok (.iload_n 2, 1) := by decide +kernel
theorem dX7_canBePlaned_20 : decode cX7_canBePlaned 20 = .ok (.ifCond .le 19, 3) := by decide +kernel
theorem dX7_canBePlaned_23 : decode cX7_canBePlaned 23 = .ok (.aload_n 0, 1) := by decide +kernel
theorem dX7_canBePlaned_24 : decode cX7_canBePlaned 24 = .ok (.getfield 9, 3) := by decide +kernel
theorem dX7_canBePlaned_27 : decode cX7_canBePlaned 27 = .ok (.iload_n 2, 1) := by decide +kernel
theorem dX7_canBePlaned_28 : decode cX7_canBePlaned 28 = .ok (.iconst 1, 1) := by decide +kernel
theorem dX7_canBePlaned_29 : decode cX7_canBePlaned 29 = .ok (.isub, 1) := by decide +kernel
theorem dX7_canBePlaned_30 : decode cX7_canBePlaned 30 = .ok (.iaload, 1) := by decide +kernel
theorem dX7_canBePlaned_31 : decode cX7_canBePlaned 31 = .ok (.iload_n 3, 1) := by decide +kernel
theorem dX7_canBePlaned_32 : decode cX7_canBePlaned 32 = .ok (.if_icmp .le 7, 3) := by decide +kernel
theorem dX7_canBePlaned_35 : decode cX7_canBePlaned 35 = .ok (.iconst 1, 1) := by decide +kernel
theorem dX7_canBePlaned_36 : decode cX7_canBePlaned 36 = .ok (.goto 4, 3) := by decide +kernel
theorem dX7_canBePlaned_39 : decode cX7_canBePlaned 39 = .ok (.iconst 0, 1) := by decide +kernel
theorem dX7_canBePlaned_40 : decode cX7_canBePlaned 40 = .ok (.istore 4, 2) := by decide +kernel
theorem dX7_canBePlaned_42 : decode cX7_canBePlaned 42 = .ok (.iload 4, 2) := by decide +kernel
theorem dX7_canBePlaned_44 : decode cX7_canBePlaned 44 = .ok (.ifCond .ne 24, 3) := by decide +kernel
theorem dX7_canBePlaned_47 : decode cX7_canBePlaned 47 = .ok (.aload_n 0, 1) := by decide +kernel
theorem dX7_canBePlaned_48 : decode cX7_canBePlaned 48 = .ok (.getfield 18, 3) := by decide +kernel
theorem dX7_canBePlaned_51 : decode cX7_canBePlaned 51 = .ok (.getfield 47, 3) := by decide +kernel
theorem dX7_canBePlaned_54 : decode cX7_canBePlaned 54 = .ok (.iload_n 3, 1) := by decide +kernel
theorem dX7_canBePlaned_55 : decode cX7_canBePlaned 55 = .ok (.iaload, 1) := by decide +kernel
theorem dX7_canBePlaned_56 : decode cX7_canBePlaned 56 = .ok (.aload_n 0, 1) := by decide +kernel
theorem dX7_canBePlaned_57 : decode cX7_canBePlaned 57 = .ok (.iload_n 3, 1) := by decide +kernel
theorem dX7_canBePlaned_58 : decode cX7_canBePlaned 58 = .ok (.iload_n 1, 1) := by decide +kernel
theorem dX7_canBePlaned_59 : decode cX7_canBePlaned 59 = .ok (.invokevirtual 78, 3) := by decide +kernel
theorem dX7_canBePlaned_62 : decode cX7_canBePlaned 62 = .ok (.iadd, 1) := by decide +kernel
theorem dX7_canBePlaned_63 : decode cX7_canBePlaned 63 = .ok (.bipush 20, 2) := by decide +kernel
theorem dX7_canBePlaned_65 : decode cX7_canBePlaned 65 = .ok (.if_icmp .le 5, 3) := by decide +kernel
theorem dX7_canBePlaned_68 : decode cX7_canBePlaned 68 = .ok (.iconst 0, 1) := by decide +kernel
theorem dX7_canBePlaned_69 : decode cX7_canBePlaned 69 = .ok (.ireturn, 1) := by decide +kernel
theorem dX7_canBePlaned_70 : decode cX7_canBePlaned 70 = .ok (.iinc 2 1, 3) := by decide +kernel
theorem dX7_canBePlaned_73 : decode cX7_canBePlaned 73 = .ok (.goto (-71), 3) := by decide +kernel
theorem dX7_canBePlaned_76 : decode cX7_canBePlaned 76 = .ok (.iconst 1, 1) := by decide +kernel
theorem dX7_canBePlaned_77 : decode cX7_canBePlaned 77 = .ok (.ireturn, 1) := by decide +kernel
def f_X7_canBePlaned_40 (w : Nat) (k2 : Nat → Int32 → Int32 → mM → Option (Int32 × mM)) (o0 : Nat) (x1 : Int32) (x2 : Int32) (x3 : Int32) (xs0 : Int32) (M : mM) : Option (Int32 × mM) := (if xs0 = 0 then chk x3 (sL (rF (rF o0 0) 3)) (bI (f_X7_timesInRow w o0 x3 x1 M) fun q2 M1 => (if ((M.1 (rF (rF o0 0) 3) x3.toNatClampNeg) + q2) ≤ 20 then (k2 o0 x1 (x2 + 1) M1) else rtB 0 M1)) else rtB 0 M)
set_option maxHeartbeats 4000000 in
set_option maxRecDepth 100000 in
theorem s_X7_canBePlaned_40 {l : Launch} {G : mG} {sk : List mS} (w : Nat) (k2 : Nat → Int32 → Int32 → mM → Option (Int32 × mM)) (hk2 : ∀ (o0 : Nat) (h0 : isK o0 17) (x1 : Int32) (x2 : Int32) (M : mM), Go muX7_canBePlaned (rm 1) 0 0 l G sk (mFin G sk eI) (k2 o0 x1 x2 M) 2 [(0, .ref (gB G + o0)), (1, .int x1), (2, .int x2)] [] M) (o0 : Nat) (h0 : isK o0 17) (x1 : Int32) (x2 : Int32) (x3 : Int32) (xs0 : Int32) (M : mM) : Go muX7_canBePlaned (rm 1) 0 0 l G sk (mFin G sk eI) (f_X7_canBePlaned_40 w k2 o0 x1 x2 x3 xs0 M) 40 [(0, .ref (gB G + o0)), (1, .int x1), (2, .int x2), (3, .int x3)] [.int xs0] M := by
  unfold f_X7_canBePlaned_40
  refine go_istore [(4, .int xs0), (0, .ref (gB G + o0)), (1, .int x1), (2, .int x2), (3, .int x3)] 42 dX7_canBePlaned_40 rfl (by decide) rfl ?_
  refine go_iload 0 44 dX7_canBePlaned_42 rfl rfl ?_
  refine go_if_ne 68 47 dX7_canBePlaned_44 rfl (by decide) (fun _ => ?_) (fun _ => ?_)
  · refine go_iconst 0 69 dX7_canBePlaned_68 rfl (by decide) ?_
    exact go_zret rfl dX7_canBePlaned_69
  · refine go_aload_n 1 48 dX7_canBePlaned_47 rfl rfl ?_
    refine go_getR flX7_18 h0 51 dX7_canBePlaned_48 rfl ?_
    refine go_getR flX7_47 (rk7_0 h0) 54 dX7_canBePlaned_51 rfl ?_
    refine go_iload_n 4 55 dX7_canBePlaned_54 rfl rfl ?_
    refine go_iald (rk9_3 (rk7_0 h0)) 56 dX7_canBePlaned_55 rfl ?_
    refine go_aload_n 1 57 dX7_canBePlaned_56 rfl rfl ?_
    refine go_iload_n 4 58 dX7_canBePlaned_57 rfl rfl ?_
    refine go_iload_n 2 59 dX7_canBePlaned_58 rfl rfl ?_
    refine go_cVI2 0 clX7 cwX7_78 (m_X7_timesInRow w o0 h0 x3 x1 M) h0 62 dX7_canBePlaned_59 rfl ⟨Nat.le_of_ble_eq_true rfl, Nat.le_of_ble_eq_true rfl⟩ ⟨Nat.zero_le _, Nat.zero_le _⟩ (Nat.le_of_ble_eq_true rfl) (fun q2 M1 _ => ?_)
    refine go_iadd 63 dX7_canBePlaned_62 rfl ?_
    refine go_bipush 20 65 dX7_canBePlaned_63 rfl (by decide) ?_
    refine go_icmp_le 70 68 dX7_canBePlaned_65 rfl (by decide) (fun _ => ?_) (fun _ => ?_)
    · refine go_iinc (x2 + 1) 3 [(2, .int (x2 + 1)), (4, .int xs0), (0, .ref (gB G + o0)), (1, .int x1), (3, .int x3)] 73 dX7_canBePlaned_70 rfl rfl rfl (by decide) rfl ?_
      refine go_goto 2 dX7_canBePlaned_73 (by decide) ?_
      exact go_lv [2, 3, 0] rfl (hk2 o0 h0 x1 (x2 + 1) M1)
    · refine go_iconst 0 69 dX7_canBePlaned_68 rfl (by decide) ?_
      exact go_zret rfl dX7_canBePlaned_69
def f_X7_canBePlaned_39 (w : Nat) (k2 : Nat → Int32 → Int32 → mM → Option (Int32 × mM)) (o0 : Nat) (x1 : Int32) (x2 : Int32) (x3 : Int32) (M : mM) : Option (Int32 × mM) := (f_X7_canBePlaned_40 w k2 o0 x1 x2 x3 0 M)
set_option maxHeartbeats 4000000 in
set_option maxRecDepth 100000 in
theorem s_X7_canBePlaned_39 {l : Launch} {G : mG} {sk : List mS} (w : Nat) (k2 : Nat → Int32 → Int32 → mM → Option (Int32 × mM)) (hk2 : ∀ (o0 : Nat) (h0 : isK o0 17) (x1 : Int32) (x2 : Int32) (M : mM), Go muX7_canBePlaned (rm 1) 0 0 l G sk (mFin G sk eI) (k2 o0 x1 x2 M) 2 [(0, .ref (gB G + o0)), (1, .int x1), (2, .int x2)] [] M) (o0 : Nat) (h0 : isK o0 17) (x1 : Int32) (x2 : Int32) (x3 : Int32) (M : mM) : Go muX7_canBePlaned (rm 1) 0 0 l G sk (mFin G sk eI) (f_X7_canBePlaned_39 w k2 o0 x1 x2 x3 M) 39 [(0, .ref (gB G + o0)), (1, .int x1), (2, .int x2), (3, .int x3)] [] M := by
  unfold f_X7_canBePlaned_39
  refine go_iconst 0 40 dX7_canBePlaned_39 rfl (by decide) ?_
  exact go_lv [0, 1, 2, 3] rfl (s_X7_canBePlaned_40 w k2 hk2 o0 h0 x1 x2 x3 0 M)
def f_X7_canBePlaned_2 (w : Nat) : Nat → Nat → Int32 → Int32 → mM → Option (Int32 × mM)
  | 0, _, _, _, _ => none
  | n + 1, o0, x1, x2, M => (if x1 ≤ x2 then rtB 1 M else (if 3 ≤ x2 then rtB 1 M else chk x2 (sL (rF o0 3)) (lt (M.1 (rF o0 3) x2.toNatClampNeg) fun y1 => (if x2 ≤ 0 then (f_X7_canBePlaned_39 w (f_X7_canBePlaned_2 w n) o0 x1 x2 y1 M) else chk (x2 - 1) (sL (rF o0 3)) ((if (M.1 (rF o0 3) (x2 - 1).toNatClampNeg) ≤ y1 then (f_X7_canBePlaned_39 w (f_X7_canBePlaned_2 w n) o0 x1 x2 y1 M) else (f_X7_canBePlaned_40 w (f_X7_canBePlaned_2 w n) o0 x1 x2 y1 1 M)))))))
set_option maxHeartbeats 4000000 in
set_option maxRecDepth 100000 in
theorem s_X7_canBePlaned_2 {l : Launch} {G : mG} {sk : List mS} (w : Nat) : ∀ (n : Nat) (o0 : Nat) (h0 : isK o0 17) (x1 : Int32) (x2 : Int32) (M : mM), Go muX7_canBePlaned (rm 1) 0 0 l G sk (mFin G sk eI) (f_X7_canBePlaned_2 w n o0 x1 x2 M) 2 [(0, .ref (gB G + o0)), (1, .int x1), (2, .int x2)] [] M := by
  intro n
  induction n with
  | zero =>
    intros
    exact go_none
  | succ n ih =>
    intro o0 h0 x1 x2 M
    rw [f_X7_canBePlaned_2]
    refine go_iload_n 2 3 dX7_canBePlaned_2 rfl rfl ?_
    refine go_iload_n 1 4 dX7_canBePlaned_3 rfl rfl ?_
    refine go_icmp_ge 76 7 dX7_canBePlaned_4 rfl (by decide) (fun _ => ?_) (fun _ => ?_)
    · refine go_iconst 1 77 dX7_canBePlaned_76 rfl (by decide) ?_
      exact go_zret rfl dX7_canBePlaned_77
    · refine go_iload_n 2 8 dX7_canBePlaned_7 rfl rfl ?_
      refine go_iconst 3 9 dX7_canBePlaned_8 rfl (by decide) ?_
      refine go_icmp_ge 76 12 dX7_canBePlaned_9 rfl (by decide) (fun _ => ?_) (fun _ => ?_)
      · refine go_iconst 1 77 dX7_canBePlaned_76 rfl (by decide) ?_
        exact go_zret rfl dX7_canBePlaned_77
      · refine go_aload_n 0 13 dX7_canBePlaned_12 rfl rfl ?_
        refine go_getR flX7_9 h0 16 dX7_canBePlaned_13 rfl ?_
        refine go_iload_n 2 17 dX7_canBePlaned_16 rfl rfl ?_
        refine go_iald (rk7_3 h0) 18 dX7_canBePlaned_17 rfl ?_
        refine go_nmI (fun y1 => ?_)
        refine go_istore_n [(3, .int y1), (0, .ref (gB G + o0)), (1, .int x1), (2, .int x2)] 19 dX7_canBePlaned_18 rfl rfl (by decide) rfl ?_
        refine go_iload_n 3 20 dX7_canBePlaned_19 rfl rfl ?_
        refine go_if_le 39 23 dX7_canBePlaned_20 rfl (by decide) (fun _ => ?_) (fun _ => ?_)
        · exact go_lv [1, 2, 3, 0] rfl (s_X7_canBePlaned_39 w (f_X7_canBePlaned_2 w n) (fun o0 h0 x1 x2 M => ih o0 h0 x1 x2 M) o0 h0 x1 x2 y1 M)
        · refine go_aload_n 1 24 dX7_canBePlaned_23 rfl rfl ?_
          refine go_getR flX7_9 h0 27 dX7_canBePlaned_24 rfl ?_
          refine go_iload_n 3 28 dX7_canBePlaned_27 rfl rfl ?_
          refine go_iconst 1 29 dX7_canBePlaned_28 rfl (by decide) ?_
          refine go_isub 30 dX7_canBePlaned_29 rfl ?_
          refine go_iald (rk7_3 h0) 31 dX7_canBePlaned_30 rfl ?_
          refine go_iload_n 0 32 dX7_canBePlaned_31 rfl rfl ?_
          refine go_icmp_le 39 35 dX7_canBePlaned_32 rfl (by decide) (fun _ => ?_) (fun _ => ?_)
          · exact go_lv [1, 2, 3, 0] rfl (s_X7_canBePlaned_39 w (f_X7_canBePlaned_2 w n) (fun o0 h0 x1 x2 M => ih o0 h0 x1 x2 M) o0 h0 x1 x2 y1 M)
          · refine go_iconst 1 36 dX7_canBePlaned_35 rfl (by decide) ?_
            refine go_goto 40 dX7_canBePlaned_36 (by decide) ?_
            exact go_lv [1, 2, 3, 0] rfl (s_X7_canBePlaned_40 w (f_X7_canBePlaned_2 w n) (fun o0 h0 x1 x2 M => ih o0 h0 x1 x2 M) o0 h0 x1 x2 y1 1 M)
def f_X7_canBePlaned (w : Nat) (o0 : Nat) (x1 : Int32) (M : mM) : Option (Int32 × mM) := (f_X7_canBePlaned_2 w w o0 x1 0 M)
set_option maxHeartbeats 4000000 in
set_option maxRecDepth 100000 in
theorem s_X7_canBePlaned {l : Launch} {G : mG} {sk : List mS} (w : Nat) (o0 : Nat) (h0 : isK o0 17) (x1 : Int32) (M : mM) : Go muX7_canBePlaned (rm 1) 0 0 l G sk (mFin G sk eI) (f_X7_canBePlaned w o0 x1 M) 0 [(0, .ref (gB G + o0)), (1, .int x1)] [] M := by
  unfold f_X7_canBePlaned
  refine go_iconst 0 1 dX7_canBePlaned_0 rfl (by decide) ?_
  refine go_istore_n [(2, .int 0), (0, .ref (gB G + o0)), (1, .int x1)] 2 dX7_canBePlaned_1 rfl rfl (by decide) rfl ?_
  exact go_lv [1, 2, 0] rfl (s_X7_canBePlaned_2 w w o0 h0 x1 0 M)
theorem m_X7_canBePlaned {l : Launch} {G : mG} {sk : List mS} (w : Nat) (o0 : Nat) (h0 : isK o0 17) (x1 : Int32) (M : mM) : Mt l G sk yX7_canBePlaned muX7_canBePlaned 1 [.ref (gB G + o0), .int x1] M eI (f_X7_canBePlaned w o0 x1 M) := Mt.of (by decide) rfl (Nat.le_of_ble_eq_true rfl) (s_X7_canBePlaned w o0 h0 x1 M)
theorem dX7_openByRow_0 : decode cX7_openByRow 0 = .ok (.iconst 0, 1) := by decide +kernel
theorem dX7_openByRow_1 : decode cX7_openByRow 1 = .ok (.istore_n 2, 1) := by decide +kernel
theorem dX7_openByRow_2 : decode cX7_openByRow 2 = .ok (.iconst 0, 1) := by decide +kernel
theorem dX7_openByRow_3 : decode cX7_openByRow 3 = .ok (.istore_n 3, 1) := by decide +kernel
theorem dX7_openByRow_4 : decode cX7_openByRow 4 = .ok (.iload_n 3, 1) := by decide +kernel
theorem dX7_openByRow_5 : decode cX7_openByRow 5 = .ok (.aload_n 0, 1) := by decide +kernel
theorem dX7_openByRow_6 : decode cX7_openByRow 6 = .ok (.getfield 28, 3) := by decide +kernel
theorem dX7_openByRow_9 : decode cX7_openByRow 9 = .ok (.getfield 41, 3) := by decide +kernel
theorem dX7_openByRow_12 : decode cX7_openByRow 12 = .ok (.if_icmp .ge 27, 3) := by decide +kernel
theorem dX7_openByRow_15 : decode cX7_openByRow 15 = .ok (.iload_n 2, 1) := by decide +kernel
theorem dX7_openByRow_16 : decode cX7_openByRow 16 = .ok (.aload_n 0, 1) := by decide +kernel
theorem dX7_openByRow_17 : decode cX7_openByRow 17 = .ok (.getfield 15, 3) := by decide +kernel
theorem dX7_openByRow_20 : decode cX7_openByRow 20 = .ok (.aload_n 0, 1) := by decide +kernel
theorem dX7_openByRow_21 : decode cX7_openByRow 21 = .ok (.iload_n 3, 1) := by decide +kernel
theorem dX7_openByRow_22 : decode cX7_openByRow 22 = .ok (.iload_n 1, 1) := by decide +kernel
theorem dX7_openByRow_23 : decode cX7_openByRow 23 = .ok (.invokevirtual 78, 3) := by decide +kernel
theorem dX7_openByRow_26 : decode cX7_openByRow 26 = .ok (.iaload, 1) := by decide +kernel
theorem dX7_openByRow_27 : decode cX7_openByRow 27 = .ok (.iconst 1, 1) := by decide +kernel
theorem dX7_openByRow_28 : decode cX7_openByRow 28 = .ok (.iload_n 3, 1) := by decide +kernel
theorem dX7_openByRow_29 : decode cX7_openByRow 29 = .ok (.ishl, 1) := by decide +kernel
theorem dX7_openByRow_30 : decode cX7_openByRow 30 = .ok (.iand, 1) := by decide +kernel
theorem dX7_openByRow_31 : decode cX7_openByRow 31 = .ok (.ior, 1) := by decide +kernel
theorem dX7_openByRow_32 : decode cX7_openByRow 32 = .ok (.istore_n 2, 1) := by decide +kernel
theorem dX7_openByRow_33 : decode cX7_openByRow 33 = .ok (.iinc 3 1, 3) := by decide +kernel
theorem dX7_openByRow_36 : decode cX7_openByRow 36 = .ok (.goto (-32), 3) := by decide +kernel
theorem dX7_openByRow_39 : decode cX7_openByRow 39 = .ok (.iload_n 2, 1) := by decide +kernel
theorem dX7_openByRow_40 : decode cX7_openByRow 40 = .ok (.ireturn, 1) := by decide +kernel
def f_X7_openByRow_4 (w : Nat) : Nat → Nat → Int32 → Int32 → Int32 → mM → Option (Int32 × mM)
  | 0, _, _, _, _, _ => none
  | n + 1, o0, x1, x2, x3, M => (if (M.1 (rF o0 1) 1) ≤ x3 then some (x2, M) else bI (f_X7_timesInRow w o0 x3 x1 M) fun q2 M1 => chk q2 (sL (rF o0 4)) (lt (x2 ||| ((M1.1 (rF o0 4) q2.toNatClampNeg) &&& ((1 : Int32) <<< (x3 &&& 31)))) fun y3 => (f_X7_openByRow_4 w n o0 x1 y3 (x3 + 1) M1)))
set_option maxHeartbeats 4000000 in
set_option maxRecDepth 100000 in
theorem s_X7_openByRow_4 {l : Launch} {G : mG} {sk : List mS} (w : Nat) : ∀ (n : Nat) (o0 : Nat) (h0 : isK o0 17) (x1 : Int32) (x2 : Int32) (x3 : Int32) (M : mM), Go muX7_openByRow (rm 1) 0 0 l G sk (mFin G sk eI) (f_X7_openByRow_4 w n o0 x1 x2 x3 M) 4 [(0, .ref (gB G + o0)), (1, .int x1), (2, .int x2), (3, .int x3)] [] M := by
  intro n
  induction n with
  | zero =>
    intros
    exact go_none
  | succ n ih =>
    intro o0 h0 x1 x2 x3 M
    rw [f_X7_openByRow_4]
    refine go_iload_n 3 5 dX7_openByRow_4 rfl rfl ?_
    refine go_aload_n 0 6 dX7_openByRow_5 rfl rfl ?_
    refine go_getR flX7_28 h0 9 dX7_openByRow_6 rfl ?_
    refine go_getI flX7_41 (by decide) (rk7_1 h0) 12 dX7_openByRow_9 rfl ?_
    refine go_icmp_ge 39 15 dX7_openByRow_12 rfl (by decide) (fun _ => ?_) (fun _ => ?_)
    · refine go_iload_n 2 40 dX7_openByRow_39 rfl rfl ?_
      exact go_iret rfl dX7_openByRow_40
    · refine go_iload_n 2 16 dX7_openByRow_15 rfl rfl ?_
      refine go_aload_n 0 17 dX7_openByRow_16 rfl rfl ?_
      refine go_getR flX7_15 h0 20 dX7_openByRow_17 rfl ?_
      refine go_aload_n 0 21 dX7_openByRow_20 rfl rfl ?_
      refine go_iload_n 3 22 dX7_openByRow_21 rfl rfl ?_
      refine go_iload_n 1 23 dX7_openByRow_22 rfl rfl ?_
      refine go_cVI2 0 clX7 cwX7_78 (m_X7_timesInRow w o0 h0 x3 x1 M) h0 26 dX7_openByRow_23 rfl ⟨Nat.le_of_ble_eq_true rfl, Nat.le_of_ble_eq_true rfl⟩ ⟨Nat.zero_le _, Nat.zero_le _⟩ (Nat.le_of_ble_eq_true rfl) (fun q2 M1 _ => ?_)
      refine go_iald (rk7_4 h0) 27 dX7_openByRow_26 rfl ?_
      refine go_iconst 1 28 dX7_openByRow_27 rfl (by decide) ?_
      refine go_iload_n 3 29 dX7_openByRow_28 rfl rfl ?_
      refine go_ishl 30 dX7_openByRow_29 rfl ?_
      refine go_iand 31 dX7_openByRow_30 rfl ?_
      refine go_ior 32 dX7_openByRow_31 rfl ?_
      refine go_nmI (fun y3 => ?_)
      refine go_istore_n [(2, .int y3), (0, .ref (gB G + o0)), (1, .int x1), (3, .int x3)] 33 dX7_openByRow_32 rfl rfl (by decide) rfl ?_
      refine go_iinc (x3 + 1) 3 [(3, .int (x3 + 1)), (2, .int y3), (0, .ref (gB G + o0)), (1, .int x1)] 36 dX7_openByRow_33 rfl rfl rfl (by decide) rfl ?_
      refine go_goto 4 dX7_openByRow_36 (by decide) ?_
      exact go_lv [2, 3, 1, 0] rfl (ih o0 h0 x1 y3 (x3 + 1) M1)
def f_X7_openByRow (w : Nat) (o0 : Nat) (x1 : Int32) (M : mM) : Option (Int32 × mM) := (f_X7_openByRow_4 w w o0 x1 0 0 M)
set_option maxHeartbeats 4000000 in
set_option maxRecDepth 100000 in
theorem s_X7_openByRow {l : Launch} {G : mG} {sk : List mS} (w : Nat) (o0 : Nat) (h0 : isK o0 17) (x1 : Int32) (M : mM) : Go muX7_openByRow (rm 1) 0 0 l G sk (mFin G sk eI) (f_X7_openByRow w o0 x1 M) 0 [(0, .ref (gB G + o0)), (1, .int x1)] [] M := by
  unfold f_X7_openByRow
  refine go_iconst 0 1 dX7_openByRow_0 rfl (by decide) ?_
  refine go_istore_n [(2, .int 0), (0, .ref (gB G + o0)), (1, .int x1)] 2 dX7_openByRow_1 rfl rfl (by decide) rfl ?_
  refine go_iconst 0 3 dX7_openByRow_2 rfl (by decide) ?_
  refine go_istore_n [(3, .int 0), (2, .int 0), (0, .ref (gB G + o0)), (1, .int x1)] 4 dX7_openByRow_3 rfl rfl (by decide) rfl ?_
  exact go_lv [2, 3, 1, 0] rfl (s_X7_openByRow_4 w w o0 h0 x1 0 0 M)
theorem m_X7_openByRow {l : Launch} {G : mG} {sk : List mS} (w : Nat) (o0 : Nat) (h0 : isK o0 17) (x1 : Int32) (M : mM) : Mt l G sk yX7_openByRow muX7_openByRow 1 [.ref (gB G + o0), .int x1] M eI (f_X7_openByRow w o0 x1 M) := Mt.of (by decide) rfl (Nat.le_of_ble_eq_true rfl) (s_X7_openByRow w o0 h0 x1 M)
theorem dX7_findRow_0 : decode cX7_findRow 0 = .ok (.iconst 1, 1) := by decide +kernel
theorem dX7_findRow_1 : decode cX7_findRow 1 = .ok (.istore_n 2, 1) := by decide +kernel
theorem dX7_findRow_2 : decode cX7_findRow 2 = .ok (.iconst 0, 1) := by decide +kernel
theorem dX7_findRow_3 : decode cX7_findRow 3 = .ok (.istore_n 3, 1) := by decide +kernel
theorem dX7_findRow_4 : decode cX7_findRow 4 = .ok (.iload_n 3, 1) := by decide +kernel
theorem dX7_findRow_5 : decode cX7_findRow 5 = .ok (.iload_n 1, 1) := by decide +kernel
theorem dX7_findRow_6 : decode cX7_findRow 6 = .ok (.if_icmp .ge 19, 3) := by decide +kernel
theorem dX7_findRow_9 : decode cX7_findRow 9 = .ok (.iload_n 2, 1) := by decide +kernel
theorem dX7_findRow_10 : decode cX7_findRow 10 = .ok (.aload_n 0, 1) := by decide +kernel
theorem dX7_findRow_11 : decode cX7_findRow 11 = .ok (.getfield 28, 3) := by decide +kernel
theorem dX7_findRow_14 : decode cX7_findRow 14 = .ok (.getfield 41, 3) := by decide +kernel
theorem dX7_findRow_17 : decode cX7_findRow 17 = .ok (.imul, 1) := by decide +kernel
theorem dX7_findRow_18 : decode cX7_findRow 18 = .ok (.istore_n 2, 1) := by decide +kernel
theorem dX7_findRow_19 : decode cX7_findRow 19 = .ok (.iinc 3 1, 3) := by decide +kernel
theorem dX7_findRow_22 : decode cX7_findRow 22 = .ok (.goto (-18), 3) := by decide +kernel
theorem dX7_findRow_25 : decode cX7_findRow 25 = .ok (.iconst 0, 1) := by decide +kernel
theorem dX7_findRow_26 : decode cX7_findRow 26 = .ok (.istore_n 3, 1) := by decide +kernel
theorem dX7_findRow_27 : decode cX7_findRow 27 = .ok (.iload_n 3, 1) := by decide +kernel
theorem dX7_findRow_28 : decode cX7_findRow 28 = .ok (.iload_n 2, 1) := by decide +kernel
theorem dX7_findRow_29 : decode cX7_findRow 29 = .ok (.if_icmp .ge 40, 3) := by decide +kernel
theorem dX7_findRow_32 : decode cX7_findRow 32 = .ok (.aload_n 0, 1) := by decide +kernel
theorem dX7_findRow_33 : decode cX7_findRow 33 = .ok (.iload_n 3, 1) := by decide +kernel
theorem dX7_findRow_34 : decode cX7_findRow 34 = .ok (.iload_n 1, 1) := by decide +kernel
theorem dX7_findRow_35 : decode cX7_findRow 35 = .ok (.invokevirtual 59, 3) := by decide +kernel
theorem dX7_findRow_38 : decode cX7_findRow 38 = .ok (.aload_n 0, 1) := by decide +kernel
theorem dX7_findRow_39 : decode cX7_findRow 39 = .ok (.iload_n 1, 1) := by decide +kernel
theorem dX7_findRow_40 : decode cX7_findRow 40 = .ok (.invokevirtual 62, 3) := by decide +kernel
theorem dX7_findRow_43 : decode cX7_findRow 43 = .ok (.ifCond .eq 20, 3) := by decide +kernel
theorem dX7_findRow_46 : decode cX7_findRow 46 = .ok (.aload_n 0, 1) := by decide +kernel
theorem dX7_findRow_47 : decode cX7_findRow 47 = .ok (.getfield 18, 3) := by decide +kernel
theorem dX7_findRow_50 : decode cX7_findRow 50 = .ok (.aload_n 0, 1) := by decide +kernel
theorem dX7_findRow_51 : decode cX7_findRow 51 = .ok (.iload_n 1, 1) := by decide +kernel
theorem dX7_findRow_52 : decode cX7_findRow 52 = .ok (.invokevirtual 65, 3) := by decide +kernel
theorem dX7_findRow_55 : decode cX7_findRow 55 = .ok (.invokevirtual 69, 3) := by decide +kernel
theorem dX7_findRow_58 : decode cX7_findRow 58 = .ok (.ifCond .eq 5, 3) := by decide +kernel
theorem dX7_findRow_61 : decode cX7_findRow 61 = .ok (.iconst 1, 1) := by decide +kernel
theorem dX7_findRow_62 : decode cX7_findRow 62 = .ok (.ireturn, 1) := by decide +kernel
theorem dX7_findRow_63 : decode cX7_findRow 63 = .ok (.iinc 3 1, 3) := by decide +kernel
theorem dX7_findRow_66 : decode cX7_findRow 66 = .ok (.goto (-39), 3) := by decide +kernel
theorem dX7_findRow_69 : decode cX7_findRow 69 = .ok (.iconst 0, 1) := by decide +kernel
theorem dX7_findRow_70 : decode cX7_findRow 70 = .ok (.ireturn, 1) := by decide +kernel
def f_X7_findRow_27 (w : Nat) : Nat → Nat → Int32 → Int32 → Int32 → mM → Option (Int32 × mM)
  | 0, _, _, _, _, _ => none
  | n + 1, o0, x1, x2, x3, M => (if x2 ≤ x3 then rtB 0 M else bV (f_X7_writeRow w o0 x3 x1 M) fun M1 => bI (f_X7_canBePlaned w o0 x1 M1) fun q3 M2 => (if q3 = 0 then (f_X7_findRow_27 w n o0 x1 x2 (x3 + 1) M2) else bI (f_X7_openByRow w o0 x1 M2) fun q5 M4 => bI (f_X9_isAllTogether w (rF o0 0) q5 M4) fun q7 M6 => (if q7 = 0 then (f_X7_findRow_27 w n o0 x1 x2 (x3 + 1) M6) else rtB 1 M6)))
set_option maxHeartbeats 4000000 in
set_option maxRecDepth 100000 in
theorem s_X7_findRow_27 {l : Launch} {G : mG} {sk : List mS} (w : Nat) : ∀ (n : Nat) (o0 : Nat) (h0 : isK o0 17) (x1 : Int32) (x2 : Int32) (x3 : Int32) (M : mM), Go muX7_findRow (rm 4) 0 0 l G sk (mFin G sk eI) (f_X7_findRow_27 w n o0 x1 x2 x3 M) 27 [(0, .ref (gB G + o0)), (1, .int x1), (2, .int x2), (3, .int x3)] [] M := by
  intro n
  induction n with
  | zero =>
    intros
    exact go_none
  | succ n ih =>
    intro o0 h0 x1 x2 x3 M
    rw [f_X7_findRow_27]
    refine go_iload_n 3 28 dX7_findRow_27 rfl rfl ?_
    refine go_iload_n 2 29 dX7_findRow_28 rfl rfl ?_
    refine go_icmp_ge 69 32 dX7_findRow_29 rfl (by decide) (fun _ => ?_) (fun _ => ?_)
    · refine go_iconst 0 70 dX7_findRow_69 rfl (by decide) ?_
      exact go_zret rfl dX7_findRow_70
    · refine go_aload_n 0 33 dX7_findRow_32 rfl rfl ?_
      refine go_iload_n 3 34 dX7_findRow_33 rfl rfl ?_
      refine go_iload_n 1 35 dX7_findRow_34 rfl rfl ?_
      refine go_cVV2 1 clX7 cwX7_59 (m_X7_writeRow w o0 h0 x3 x1 M) h0 38 dX7_findRow_35 rfl ⟨Nat.le_of_ble_eq_true rfl, Nat.le_of_ble_eq_true rfl⟩ ⟨Nat.zero_le _, Nat.zero_le _⟩ (Nat.le_of_ble_eq_true rfl) (fun M1 _ => ?_)
      refine go_aload_n 0 39 dX7_findRow_38 rfl rfl ?_
      refine go_iload_n 1 40 dX7_findRow_39 rfl rfl ?_
      refine go_cVI1 1 clX7 cwX7_62 (m_X7_canBePlaned w o0 h0 x1 M1) h0 43 dX7_findRow_40 rfl ⟨Nat.le_of_ble_eq_true rfl, Nat.le_of_ble_eq_true rfl⟩ ⟨Nat.zero_le _, Nat.zero_le _⟩ (Nat.le_of_ble_eq_true rfl) (fun q3 M2 _ => ?_)
      refine go_if_eq 63 46 dX7_findRow_43 rfl (by decide) (fun _ => ?_) (fun _ => ?_)
      · refine go_iinc (x3 + 1) 3 [(3, .int (x3 + 1)), (0, .ref (gB G + o0)), (1, .int x1), (2, .int x2)] 66 dX7_findRow_63 rfl rfl rfl (by decide) rfl ?_
        refine go_goto 27 dX7_findRow_66 (by decide) ?_
        exact go_lv [1, 2, 3, 0] rfl (ih o0 h0 x1 x2 (x3 + 1) M2)
      · refine go_aload_n 0 47 dX7_findRow_46 rfl rfl ?_
        refine go_getR flX7_18 h0 50 dX7_findRow_47 rfl ?_
        refine go_aload_n 0 51 dX7_findRow_50 rfl rfl ?_
        refine go_iload_n 1 52 dX7_findRow_51 rfl rfl ?_
        refine go_cVI1 1 clX7 cwX7_65 (m_X7_openByRow w o0 h0 x1 M2) h0 55 dX7_findRow_52 rfl ⟨Nat.le_of_ble_eq_true rfl, Nat.le_of_ble_eq_true rfl⟩ ⟨Nat.zero_le _, Nat.zero_le _⟩ (Nat.le_of_ble_eq_true rfl) (fun q5 M4 _ => ?_)
        refine go_cVI1 3 clX9 cwX7_69 (m_X9_isAllTogether w (rF o0 0) (rk7_0 h0) q5 M4) (rk7_0 h0) 58 dX7_findRow_55 rfl ⟨Nat.le_of_ble_eq_true rfl, Nat.le_of_ble_eq_true rfl⟩ ⟨Nat.zero_le _, Nat.zero_le _⟩ (Nat.le_of_ble_eq_true rfl) (fun q7 M6 _ => ?_)
        refine go_if_eq 63 61 dX7_findRow_58 rfl (by decide) (fun _ => ?_) (fun _ => ?_)
        · refine go_iinc (x3 + 1) 3 [(3, .int (x3 + 1)), (0, .ref (gB G + o0)), (1, .int x1), (2, .int x2)] 66 dX7_findRow_63 rfl rfl rfl (by decide) rfl ?_
          refine go_goto 27 dX7_findRow_66 (by decide) ?_
          exact go_lv [1, 2, 3, 0] rfl (ih o0 h0 x1 x2 (x3 + 1) M6)
        · refine go_iconst 1 62 dX7_findRow_61 rfl (by decide) ?_
          exact go_zret rfl dX7_findRow_62
def f_X7_findRow_25 (w : Nat) (o0 : Nat) (x1 : Int32) (x2 : Int32) (M : mM) : Option (Int32 × mM) := (f_X7_findRow_27 w w o0 x1 x2 0 M)
set_option maxHeartbeats 4000000 in
set_option maxRecDepth 100000 in
theorem s_X7_findRow_25 {l : Launch} {G : mG} {sk : List mS} (w : Nat) (o0 : Nat) (h0 : isK o0 17) (x1 : Int32) (x2 : Int32) (M : mM) : Go muX7_findRow (rm 4) 0 0 l G sk (mFin G sk eI) (f_X7_findRow_25 w o0 x1 x2 M) 25 [(0, .ref (gB G + o0)), (1, .int x1), (2, .int x2)] [] M := by
  unfold f_X7_findRow_25
  refine go_iconst 0 26 dX7_findRow_25 rfl (by decide) ?_
  refine go_istore_n [(3, .int 0), (0, .ref (gB G + o0)), (1, .int x1), (2, .int x2)] 27 dX7_findRow_26 rfl rfl (by decide) rfl ?_
  exact go_lv [1, 2, 3, 0] rfl (s_X7_findRow_27 w w o0 h0 x1 x2 0 M)
def f_X7_findRow_4 (w : Nat) : Nat → Nat → Int32 → Int32 → Int32 → mM → Option (Int32 × mM)
  | 0, _, _, _, _, _ => none
  | n + 1, o0, x1, x2, x3, M => (if x1 ≤ x3 then (f_X7_findRow_25 w o0 x1 x2 M) else lt (x2 * (M.1 (rF o0 1) 1)) fun y1 => (f_X7_findRow_4 w n o0 x1 y1 (x3 + 1) M))
set_option maxHeartbeats 4000000 in
set_option maxRecDepth 100000 in
theorem s_X7_findRow_4 {l : Launch} {G : mG} {sk : List mS} (w : Nat) : ∀ (n : Nat) (o0 : Nat) (h0 : isK o0 17) (x1 : Int32) (x2 : Int32) (x3 : Int32) (M : mM), Go muX7_findRow (rm 4) 0 0 l G sk (mFin G sk eI) (f_X7_findRow_4 w n o0 x1 x2 x3 M) 4 [(0, .ref (gB G + o0)), (1, .int x1), (2, .int x2), (3, .int x3)] [] M := by
  intro n
  induction n with
  | zero =>
    intros
    exact go_none
  | succ n ih =>
    intro o0 h0 x1 x2 x3 M
    rw [f_X7_findRow_4]
    refine go_iload_n 3 5 dX7_findRow_4 rfl rfl ?_
    refine go_iload_n 1 6 dX7_findRow_5 rfl rfl ?_
    refine go_icmp_ge 25 9 dX7_findRow_6 rfl (by decide) (fun _ => ?_) (fun _ => ?_)
    · exact go_lv [0, 1, 2] rfl (s_X7_findRow_25 w o0 h0 x1 x2 M)
    · refine go_iload_n 2 10 dX7_findRow_9 rfl rfl ?_
      refine go_aload_n 0 11 dX7_findRow_10 rfl rfl ?_
      refine go_getR flX7_28 h0 14 dX7_findRow_11 rfl ?_
      refine go_getI flX7_41 (by decide) (rk7_1 h0) 17 dX7_findRow_14 rfl ?_
      refine go_imul 18 dX7_findRow_17 rfl ?_
      refine go_nmI (fun y1 => ?_)
      refine go_istore_n [(2, .int y1), (0, .ref (gB G + o0)), (1, .int x1), (3, .int x3)] 19 dX7_findRow_18 rfl rfl (by decide) rfl ?_
      refine go_iinc (x3 + 1) 3 [(3, .int (x3 + 1)), (2, .int y1), (0, .ref (gB G + o0)), (1, .int x1)] 22 dX7_findRow_19 rfl rfl rfl (by decide) rfl ?_
      refine go_goto 4 dX7_findRow_22 (by decide) ?_
      exact go_lv [2, 3, 1, 0] rfl (ih o0 h0 x1 y1 (x3 + 1) M)
def f_X7_findRow (w : Nat) (o0 : Nat) (x1 : Int32) (M : mM) : Option (Int32 × mM) := (f_X7_findRow_4 w w o0 x1 1 0 M)
set_option maxHeartbeats 4000000 in
set_option maxRecDepth 100000 in
theorem s_X7_findRow {l : Launch} {G : mG} {sk : List mS} (w : Nat) (o0 : Nat) (h0 : isK o0 17) (x1 : Int32) (M : mM) : Go muX7_findRow (rm 4) 0 0 l G sk (mFin G sk eI) (f_X7_findRow w o0 x1 M) 0 [(0, .ref (gB G + o0)), (1, .int x1)] [] M := by
  unfold f_X7_findRow
  refine go_iconst 1 1 dX7_findRow_0 rfl (by decide) ?_
  refine go_istore_n [(2, .int 1), (0, .ref (gB G + o0)), (1, .int x1)] 2 dX7_findRow_1 rfl rfl (by decide) rfl ?_
  refine go_iconst 0 3 dX7_findRow_2 rfl (by decide) ?_
  refine go_istore_n [(3, .int 0), (2, .int 1), (0, .ref (gB G + o0)), (1, .int x1)] 4 dX7_findRow_3 rfl rfl (by decide) rfl ?_
  exact go_lv [2, 3, 1, 0] rfl (s_X7_findRow_4 w w o0 h0 x1 1 0 M)
theorem m_X7_findRow {l : Launch} {G : mG} {sk : List mS} (w : Nat) (o0 : Nat) (h0 : isK o0 17) (x1 : Int32) (M : mM) : Mt l G sk yX7_findRow muX7_findRow 4 [.ref (gB G + o0), .int x1] M eI (f_X7_findRow w o0 x1 M) := Mt.of (by decide) rfl (Nat.le_of_ble_eq_true rfl) (s_X7_findRow w o0 h0 x1 M)
theorem dX7_fewest_0 : decode cX7_fewest 0 = .ok (.iconst 0, 1) := by decide +kernel
theorem dX7_fewest_1 : decode cX7_fewest 1 = .ok (.istore_n 2, 1) := by decide +kernel
theorem dX7_fewest_2 : decode cX7_fewest 2 = .ok (.iload_n 2, 1) := by decide +kernel
theorem dX7_fewest_3 : decode cX7_fewest 3 = .ok (.iconst 3, 1) := by decide +kernel
theorem dX7_fewest_4 : decode cX7_fewest 4 = .ok (.if_icmp .gt 15, 3) := by decide +kernel
theorem dX7_fewest_7 : decode cX7_fewest 7 = .ok (.aload_n 0, 1) := by decide +kernel
theorem dX7_fewest_8 : decode cX7_fewest 8 = .ok (.iload_n 2, 1) := by decide +kernel
theorem dX7_fewest_9 : decode cX7_fewest 9 = .ok (.iload_n 1, 1) := by decide +kernel
theorem dX7_fewest_10 : decode cX7_fewest 10 = .ok (.invokevirtual 33, 3) := by decide +kernel
theorem dX7_fewest_13 : decode cX7_fewest 13 = .ok (.iinc 2 1, 3) := by decide +kernel
theorem dX7_fewest_16 : decode cX7_fewest 16 = .ok (.goto (-14), 3) := by decide +kernel
theorem dX7_fewest_19 : decode cX7_fewest 19 = .ok (.iconst 0, 1) := by decide +kernel
theorem dX7_fewest_20 : decode cX7_fewest 20 = .ok (.istore_n 2, 1) := by decide +kernel
theorem dX7_fewest_21 : decode cX7_fewest 21 = .ok (.iload_n 2, 1) := by decide +kernel
theorem dX7_fewest_22 : decode cX7_fewest 22 = .ok (.iconst 3, 1) := by decide +kernel
theorem dX7_fewest_23 : decode cX7_fewest 23 = .ok (.if_icmp .gt 19, 3) := by decide +kernel
theorem dX7_fewest_26 : decode cX7_fewest 26 = .ok (.aload_n 0, 1) := by decide +kernel
theorem dX7_fewest_27 : decode cX7_fewest 27 = .ok (.iload_n 2, 1) := by decide +kernel
theorem dX7_fewest_28 : decode cX7_fewest 28 = .ok (.invokevirtual 37, 3) := by decide +kernel
theorem dX7_fewest_31 : decode cX7_fewest 31 = .ok (.ifCond .eq 5, 3) := by decide +kernel
theorem dX7_fewest_34 : decode cX7_fewest 34 = .ok (.iload_n 2, 1) := by decide +kernel
theorem dX7_fewest_35 : decode cX7_fewest 35 = .ok (.ireturn, 1) := by decide +kernel
theorem dX7_fewest_36 : decode cX7_fewest 36 = .ok (.iinc 2 1, 3) := by decide +kernel
theorem dX7_fewest_39 : decode cX7_fewest 39 = .ok (.goto (-18), 3) := by decide +kernel
theorem dX7_fewest_42 : decode cX7_fewest 42 = .ok (.iconst (-1), 1) := by decide +kernel
theorem dX7_fewest_43 : decode cX7_fewest 43 = .ok (.ireturn, 1) := by decide +kernel
def f_X7_fewest_21 (w : Nat) : Nat → Nat → Int32 → mM → Option (Int32 × mM)
  | 0, _, _, _ => none
  | n + 1, o0, x2, M => (if 3 < x2 then some ((-1), M) else bI (f_X7_findRow w o0 x2 M) fun q2 M1 => (if q2 = 0 then (f_X7_fewest_21 w n o0 (x2 + 1) M1) else some (x2, M1)))
set_option maxHeartbeats 4000000 in
set_option maxRecDepth 100000 in
theorem s_X7_fewest_21 {l : Launch} {G : mG} {sk : List mS} (w : Nat) : ∀ (n : Nat) (o0 : Nat) (h0 : isK o0 17) (x2 : Int32) (M : mM), Go muX7_fewest (rm 5) 0 0 l G sk (mFin G sk eI) (f_X7_fewest_21 w n o0 x2 M) 21 [(0, .ref (gB G + o0)), (2, .int x2)] [] M := by
  intro n
  induction n with
  | zero =>
    intros
    exact go_none
  | succ n ih =>
    intro o0 h0 x2 M
    rw [f_X7_fewest_21]
    refine go_iload_n 1 22 dX7_fewest_21 rfl rfl ?_
    refine go_iconst 3 23 dX7_fewest_22 rfl (by decide) ?_
    refine go_icmp_gt 42 26 dX7_fewest_23 rfl (by decide) (fun _ => ?_) (fun _ => ?_)
    · refine go_iconst (-1) 43 dX7_fewest_42 rfl (by decide) ?_
      exact go_iret rfl dX7_fewest_43
    · refine go_aload_n 0 27 dX7_fewest_26 rfl rfl ?_
      refine go_iload_n 1 28 dX7_fewest_27 rfl rfl ?_
      refine go_cVI1 4 clX7 cwX7_37 (m_X7_findRow w o0 h0 x2 M) h0 31 dX7_fewest_28 rfl ⟨Nat.le_of_ble_eq_true rfl, Nat.le_of_ble_eq_true rfl⟩ ⟨Nat.zero_le _, Nat.zero_le _⟩ (Nat.le_of_ble_eq_true rfl) (fun q2 M1 _ => ?_)
      refine go_if_eq 36 34 dX7_fewest_31 rfl (by decide) (fun _ => ?_) (fun _ => ?_)
      · refine go_iinc (x2 + 1) 1 [(2, .int (x2 + 1)), (0, .ref (gB G + o0))] 39 dX7_fewest_36 rfl rfl rfl (by decide) rfl ?_
        refine go_goto 21 dX7_fewest_39 (by decide) ?_
        exact go_lv [1, 0] rfl (ih o0 h0 (x2 + 1) M1)
      · refine go_iload_n 1 35 dX7_fewest_34 rfl rfl ?_
        exact go_iret rfl dX7_fewest_35
def f_X7_fewest_19 (w : Nat) (o0 : Nat) (M : mM) : Option (Int32 × mM) := (f_X7_fewest_21 w w o0 0 M)
set_option maxHeartbeats 4000000 in
set_option maxRecDepth 100000 in
theorem s_X7_fewest_19 {l : Launch} {G : mG} {sk : List mS} (w : Nat) (o0 : Nat) (h0 : isK o0 17) (M : mM) : Go muX7_fewest (rm 5) 0 0 l G sk (mFin G sk eI) (f_X7_fewest_19 w o0 M) 19 [(0, .ref (gB G + o0))] [] M := by
  unfold f_X7_fewest_19
  refine go_iconst 0 20 dX7_fewest_19 rfl (by decide) ?_
  refine go_istore_n [(2, .int 0), (0, .ref (gB G + o0))] 21 dX7_fewest_20 rfl rfl (by decide) rfl ?_
  exact go_lv [1, 0] rfl (s_X7_fewest_21 w w o0 h0 0 M)
def f_X7_fewest_2 (w : Nat) : Nat → Nat → Int32 → Int32 → mM → Option (Int32 × mM)
  | 0, _, _, _, _ => none
  | n + 1, o0, x1, x2, M => (if 3 < x2 then (f_X7_fewest_19 w o0 M) else bV (f_X7_lookAhead w o0 x2 x1 M) fun M1 => (f_X7_fewest_2 w n o0 x1 (x2 + 1) M1))
set_option maxHeartbeats 4000000 in
set_option maxRecDepth 100000 in
theorem s_X7_fewest_2 {l : Launch} {G : mG} {sk : List mS} (w : Nat) : ∀ (n : Nat) (o0 : Nat) (h0 : isK o0 17) (x1 : Int32) (x2 : Int32) (M : mM), Go muX7_fewest (rm 5) 0 0 l G sk (mFin G sk eI) (f_X7_fewest_2 w n o0 x1 x2 M) 2 [(0, .ref (gB G + o0)), (1, .int x1), (2, .int x2)] [] M := by
  intro n
  induction n with
  | zero =>
    intros
    exact go_none
  | succ n ih =>
    intro o0 h0 x1 x2 M
    rw [f_X7_fewest_2]
    refine go_iload_n 2 3 dX7_fewest_2 rfl rfl ?_
    refine go_iconst 3 4 dX7_fewest_3 rfl (by decide) ?_
    refine go_icmp_gt 19 7 dX7_fewest_4 rfl (by decide) (fun _ => ?_) (fun _ => ?_)
    · exact go_lv [0] rfl (s_X7_fewest_19 w o0 h0 M)
    · refine go_aload_n 0 8 dX7_fewest_7 rfl rfl ?_
      refine go_iload_n 2 9 dX7_fewest_8 rfl rfl ?_
      refine go_iload_n 1 10 dX7_fewest_9 rfl rfl ?_
      refine go_cVV2 4 clX7 cwX7_33 (m_X7_lookAhead w o0 h0 x2 x1 M) h0 13 dX7_fewest_10 rfl ⟨Nat.le_of_ble_eq_true rfl, Nat.le_of_ble_eq_true rfl⟩ ⟨Nat.zero_le _, Nat.zero_le _⟩ (Nat.le_of_ble_eq_true rfl) (fun M1 _ => ?_)
      refine go_iinc (x2 + 1) 2 [(2, .int (x2 + 1)), (0, .ref (gB G + o0)), (1, .int x1)] 16 dX7_fewest_13 rfl rfl rfl (by decide) rfl ?_
      refine go_goto 2 dX7_fewest_16 (by decide) ?_
      exact go_lv [1, 2, 0] rfl (ih o0 h0 x1 (x2 + 1) M1)
def f_X7_fewest (w : Nat) (o0 : Nat) (x1 : Int32) (M : mM) : Option (Int32 × mM) := (f_X7_fewest_2 w w o0 x1 0 M)
set_option maxHeartbeats 4000000 in
set_option maxRecDepth 100000 in
theorem s_X7_fewest {l : Launch} {G : mG} {sk : List mS} (w : Nat) (o0 : Nat) (h0 : isK o0 17) (x1 : Int32) (M : mM) : Go muX7_fewest (rm 5) 0 0 l G sk (mFin G sk eI) (f_X7_fewest w o0 x1 M) 0 [(0, .ref (gB G + o0)), (1, .int x1)] [] M := by
  unfold f_X7_fewest
  refine go_iconst 0 1 dX7_fewest_0 rfl (by decide) ?_
  refine go_istore_n [(2, .int 0), (0, .ref (gB G + o0)), (1, .int x1)] 2 dX7_fewest_1 rfl rfl (by decide) rfl ?_
  exact go_lv [1, 2, 0] rfl (s_X7_fewest_2 w w o0 h0 x1 0 M)
theorem m_X7_fewest {l : Launch} {G : mG} {sk : List mS} (w : Nat) (o0 : Nat) (h0 : isK o0 17) (x1 : Int32) (M : mM) : Mt l G sk yX7_fewest muX7_fewest 5 [.ref (gB G + o0), .int x1] M eI (f_X7_fewest w o0 x1 M) := Mt.of (by decide) rfl (Nat.le_of_ble_eq_true rfl) (s_X7_fewest w o0 h0 x1 M)
