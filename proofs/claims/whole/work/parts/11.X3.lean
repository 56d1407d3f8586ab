theorem dX3_put_0 : decode cX3_put 0 = .ok (.aload_n 0, 1) := by decide +kernel
theorem dX3_put_1 : decode cX3_put 1 = .ok (.getfield 18, 3) := by decide +kernel
theorem dX3_put_4 : decode cX3_put 4 = .ok (.sipush 1000, 3) := by decide +kernel
theorem dX3_put_7 : decode cX3_put 7 = .ok (.if_icmp .ge 23, 3) := by decide +kernel
theorem dX3_put_10 : decode cX3_put 10 = .ok (.aload_n 0, 1) := by decide +kernel
theorem dX3_put_11 : decode cX3_put 11 = .ok (.getfield 9, 3) := by decide +kernel
theorem dX3_put_14 : decode cX3_put 14 = .ok (.aload_n 0, 1) := by decide +kernel
theorem dX3_put_15 : decode cX3_put 15 = .ok (.getfield 18, 3) := by decide +kernel
theorem dX3_put_18 : decode cX3_put 18 = .ok (.iload_n 1, 1) := by decide +kernel
theorem dX3_put_19 : decode cX3_put 19 = .ok (.iastore, 1) := by decide +kernel
theorem dX3_put_20 : decode cX3_put 20 = .ok (.aload_n 0, 1) := by decide +kernel
theorem dX3_put_21 : decode cX3_put 21 = .ok (.dup, 1) := by decide +kernel
theorem dX3_put_22 : decode cX3_put 22 = .ok (.getfield 18, 3) := by decide +kernel
theorem dX3_put_25 : decode cX3_put 25 = .ok (.iconst 1, 1) := by decide +kernel
theorem dX3_put_26 : decode cX3_put 26 = .ok (.iadd, 1) := by decide +kernel
theorem dX3_put_27 : decode cX3_put 27 = .ok (.putfield 18, 3) := by decide +kernel
theorem dX3_put_30 : decode cX3_put 30 = .ok (.return_, 1) := by decide +kernel
def f_X3_put (w : Nat) (o0 : Nat) (x1 : Int32) (M : mM) : Option mM := (if 1000 ≤ (M.1 o0 2) then some M else chk (M.1 o0 2) (sL (rF o0 0)) (lt (wI M (rF o0 0) (M.1 o0 2).toNatClampNeg x1) fun M1 => lt (wI M1 o0 2 ((M1.1 o0 2) + 1)) fun M2 => some M2))
set_option maxHeartbeats 4000000 in
set_option maxRecDepth 100000 in
theorem s_X3_put {l : Launch} {G : mG} {sk : List mS} (w : Nat) (o0 : Nat) (h0 : isK o0 13) (x1 : Int32) (M : mM) : Go muX3_put (rm 0) 0 0 l G sk (mFin G sk eV) (f_X3_put w o0 x1 M) 0 [(0, .ref (gB G + o0)), (1, .int x1)] [] M := by
  unfold f_X3_put
  refine go_aload_n 0 1 dX3_put_0 rfl rfl ?_
  refine go_getI flX3_18 (by decide) h0 4 dX3_put_1 rfl ?_
  refine go_sipush 1000 7 dX3_put_4 rfl (by decide) ?_
  refine go_icmp_ge 30 10 dX3_put_7 rfl (by decide) (fun _ => ?_) (fun _ => ?_)
  · exact go_vret rfl dX3_put_30
  · refine go_aload_n 0 11 dX3_put_10 rfl rfl ?_
    refine go_getR flX3_9 h0 14 dX3_put_11 rfl ?_
    refine go_aload_n 0 15 dX3_put_14 rfl rfl ?_
    refine go_getI flX3_18 (by decide) h0 18 dX3_put_15 rfl ?_
    refine go_iload_n 1 19 dX3_put_18 rfl rfl ?_
    refine go_iast (rk3_0 h0) 20 dX3_put_19 rfl ?_
    refine go_nmM (fun M1 => ?_)
    refine go_aload_n 0 21 dX3_put_20 rfl rfl ?_
    refine go_dup 22 dX3_put_21 rfl rfl ?_
    refine go_getI flX3_18 (by decide) h0 25 dX3_put_22 rfl ?_
    refine go_iconst 1 26 dX3_put_25 rfl (by decide) ?_
    refine go_iadd 27 dX3_put_26 rfl ?_
    refine go_putI flX3_18 rfl rfl h0 30 dX3_put_27 rfl ?_
    refine go_nmM (fun M2 => ?_)
    exact go_vret rfl dX3_put_30
theorem m_X3_put {l : Launch} {G : mG} {sk : List mS} (w : Nat) (o0 : Nat) (h0 : isK o0 13) (x1 : Int32) (M : mM) : Mt l G sk yX3_put muX3_put 0 [.ref (gB G + o0), .int x1] M eV (f_X3_put w o0 x1 M) := Mt.of (by decide) rfl (Nat.le_of_ble_eq_true rfl) (s_X3_put w o0 h0 x1 M)
theorem dX3_copyFrom_0 : decode cX3_copyFrom 0 = .ok (.aload_n 0, 1) := by decide +kernel
theorem dX3_copyFrom_1 : decode cX3_copyFrom 1 = .ok (.aload_n 1, 1) := by decide +kernel
theorem dX3_copyFrom_2 : decode cX3_copyFrom 2 = .ok (.getfield 18, 3) := by decide +kernel
theorem dX3_copyFrom_5 : decode cX3_copyFrom 5 = .ok (.putfield 18, 3) := by decide +kernel
theorem dX3_copyFrom_8 : decode cX3_copyFrom 8 = .ok (.aload_n 1, 1) := by decide +kernel
theorem dX3_copyFrom_9 : decode cX3_copyFrom 9 = .ok (.getfield 9, 3) := by decide +kernel
theorem dX3_copyFrom_12 : decode cX3_copyFrom 12 = .ok (.iconst 0, 1) := by decide +kernel
theorem dX3_copyFrom_13 : decode cX3_copyFrom 13 = .ok (.aload_n 0, 1) := by decide +kernel
theorem dX3_copyFrom_14 : decode cX3_copyFrom 14 = .ok (.getfield 9, 3) := by decide +kernel
theorem dX3_copyFrom_17 : decode cX3_copyFrom 17 = .ok (.iconst 0, 1) := by decide +kernel
theorem dX3_copyFrom_18 : decode cX3_copyFrom 18 = .ok (.sipush 1000, 3) := by decide +kernel
theorem dX3_copyFrom_21 : decode cX3_copyFrom 21 = .ok (.invokestatic 22, 3) := by decide +kernel
theorem dX3_copyFrom_24 : decode cX3_copyFrom 24 = .ok (.return_, 1) := by decide +kernel
def f_X3_copyFrom (w : Nat) (o0 : Nat) (o1 : Nat) (M : mM) : Option mM := lt (wI M o0 2 (M.1 o1 2)) fun M1 => cpk 0 0 1000 (sL (rF o1 0)) (sL (rF o0 0)) (lt (cI M1 (rF o1 0) (0 : Int32).toNatClampNeg (rF o0 0) (0 : Int32).toNatClampNeg (1000 : Int32).toNatClampNeg) fun M2 => some M2)
set_option maxHeartbeats 4000000 in
set_option maxRecDepth 100000 in
theorem s_X3_copyFrom {l : Launch} {G : mG} {sk : List mS} (w : Nat) (o0 : Nat) (h0 : isK o0 13) (o1 : Nat) (h1 : isK o1 13) (M : mM) : Go muX3_copyFrom (rm 1) 0 0 l G sk (mFin G sk eV) (f_X3_copyFrom w o0 o1 M) 0 [(0, .ref (gB G + o0)), (1, .ref (gB G + o1))] [] M := by
  unfold f_X3_copyFrom
  refine go_aload_n 0 1 dX3_copyFrom_0 rfl rfl ?_
  refine go_aload_n 1 2 dX3_copyFrom_1 rfl rfl ?_
  refine go_getI flX3_18 (by decide) h1 5 dX3_copyFrom_2 rfl ?_
  refine go_putI flX3_18 rfl rfl h0 8 dX3_copyFrom_5 rfl ?_
  refine go_nmM (fun M1 => ?_)
  refine go_aload_n 1 9 dX3_copyFrom_8 rfl rfl ?_
  refine go_getR flX3_9 h1 12 dX3_copyFrom_9 rfl ?_
  refine go_iconst 0 13 dX3_copyFrom_12 rfl (by decide) ?_
  refine go_aload_n 0 14 dX3_copyFrom_13 rfl rfl ?_
  refine go_getR flX3_9 h0 17 dX3_copyFrom_14 rfl ?_
  refine go_iconst 0 18 dX3_copyFrom_17 rfl (by decide) ?_
  refine go_sipush 1000 21 dX3_copyFrom_18 rfl (by decide) ?_
  refine go_copyi acX3_22 (rk3_0 h1) (rk3_0 h0) 24 dX3_copyFrom_21 rfl (Nat.le_of_ble_eq_true rfl) (Nat.le_of_ble_eq_true rfl) ?_
  refine go_nmM (fun M2 => ?_)
  exact go_vret rfl dX3_copyFrom_24
theorem m_X3_copyFrom {l : Launch} {G : mG} {sk : List mS} (w : Nat) (o0 : Nat) (h0 : isK o0 13) (o1 : Nat) (h1 : isK o1 13) (M : mM) : Mt l G sk yX3_copyFrom muX3_copyFrom 1 [.ref (gB G + o0), .ref (gB G + o1)] M eV (f_X3_copyFrom w o0 o1 M) := Mt.of (by decide) rfl (Nat.le_of_ble_eq_true rfl) (s_X3_copyFrom w o0 h0 o1 h1 M)
theorem dX3_fact_0 : decode cX3_fact 0 = .ok (.iload_n 0, 1) := by decide +kernel
theorem dX3_fact_1 : decode cX3_fact 1 = .ok (.tableswitch 33 (-3) (-1) #[31, 29, 27], 27) := by decide +kernel
theorem dX3_fact_28 : decode cX3_fact 28 = .ok (.iload_n 1, 1) := by decide +kernel
theorem dX3_fact_29 : decode cX3_fact 29 = .ok (.ireturn, 1) := by decide +kernel
theorem dX3_fact_30 : decode cX3_fact 30 = .ok (.iload_n 2, 1) := by decide +kernel
theorem dX3_fact_31 : decode cX3_fact 31 = .ok (.ireturn, 1) := by decide +kernel
theorem dX3_fact_32 : decode cX3_fact 32 = .ok (.iload_n 3, 1) := by decide +kernel
theorem dX3_fact_33 : decode cX3_fact 33 = .ok (.ireturn, 1) := by decide +kernel
theorem dX3_fact_34 : decode cX3_fact 34 = .ok (.iload 4, 2) := by decide +kernel
theorem dX3_fact_36 : decode cX3_fact 36 = .ok (.ireturn, 1) := by decide +kernel
def f_X3_fact (w : Nat) (x0 : Int32) (x1 : Int32) (x2 : Int32) (x3 : Int32) (x4 : Int32) (M : mM) : Option (Int32 × mM) := (if x0.toInt < (-3) ∨ (-1) < x0.toInt then some (x4, M) else (fun z : Int => if z = (-3) then some (x3, M) else if z = (-2) then some (x2, M) else some (x1, M)) x0.toInt)
set_option maxHeartbeats 4000000 in
set_option maxRecDepth 100000 in
theorem s_X3_fact {l : Launch} {G : mG} {sk : List mS} (w : Nat) (x0 : Int32) (x1 : Int32) (x2 : Int32) (x3 : Int32) (x4 : Int32) (M : mM) : Go muX3_fact (rm 0) 0 0 l G sk (mFin G sk eI) (f_X3_fact w x0 x1 x2 x3 x4 M) 0 [(0, .int x0), (1, .int x1), (2, .int x2), (3, .int x3), (4, .int x4)] [] M := by
  unfold f_X3_fact
  refine go_iload_n 0 1 dX3_fact_0 rfl rfl ?_
  refine go_tsw (dflt := 33) (lo := (-3)) (hi := (-1)) (offs := #[31, 29, 27]) (len := 27) ?_ (fun z : Int => if z = (-3) then some (x3, M) else if z = (-2) then some (x2, M) else some (x1, M)) (some (x4, M)) 34 (by decide) (fun _ => ?_) (fun g1 g2 => ?_)
  · exact dX3_fact_1
  · refine go_iload 4 36 dX3_fact_34 rfl rfl ?_
    exact go_iret rfl dX3_fact_36
  · rcases (show x0.toInt = (-3) ∨ x0.toInt = (-2) ∨ x0.toInt = (-1) by omega) with g | g | g
    · refine ⟨31, 32, by rw [g]; rfl, by decide, ?_⟩
      rw [g]
      simp only [if_pos, reduceIte, Int.reduceEq, Int.reduceNeg]
      refine go_iload_n 3 33 dX3_fact_32 rfl rfl ?_
      exact go_iret rfl dX3_fact_33
    · refine ⟨29, 30, by rw [g]; rfl, by decide, ?_⟩
      rw [g]
      simp only [if_pos, reduceIte, Int.reduceEq, Int.reduceNeg]
      refine go_iload_n 2 31 dX3_fact_30 rfl rfl ?_
      exact go_iret rfl dX3_fact_31
    · refine ⟨27, 28, by rw [g]; rfl, by decide, ?_⟩
      rw [g]
      simp only [if_pos, reduceIte, Int.reduceEq, Int.reduceNeg]
      refine go_iload_n 1 29 dX3_fact_28 rfl rfl ?_
      exact go_iret rfl dX3_fact_29
theorem m_X3_fact {l : Launch} {G : mG} {sk : List mS} (w : Nat) (x0 : Int32) (x1 : Int32) (x2 : Int32) (x3 : Int32) (x4 : Int32) (M : mM) : Mt l G sk yX3_fact muX3_fact 0 [.int x0, .int x1, .int x2, .int x3, .int x4] M eI (f_X3_fact w x0 x1 x2 x3 x4 M) := Mt.of (by decide) rfl (Nat.le_of_ble_eq_true rfl) (s_X3_fact w x0 x1 x2 x3 x4 M)
theorem dX3_joined_0 : decode cX3_joined 0 = .ok (.iload_n 0, 1) := by decide +kernel
theorem dX3_joined_1 : decode cX3_joined 1 = .ok (.tableswitch 97 (-11) (-6) #[93, 89, 78, 67, 53, 39], 39) := by decide +kernel
theorem dX3_joined_40 : decode cX3_joined 40 = .ok (.iload_n 1, 1) := by decide +kernel
theorem dX3_joined_41 : decode cX3_joined 41 = .ok (.ifCond .eq 11, 3) := by decide +kernel
theorem dX3_joined_44 : decode cX3_joined 44 = .ok (.iload_n 2, 1) := by decide +kernel
theorem dX3_joined_45 : decode cX3_joined 45 = .ok (.ifCond .eq 7, 3) := by decide +kernel
theorem dX3_joined_48 : decode cX3_joined 48 = .ok (.iconst 1, 1) := by decide +kernel
theorem dX3_joined_49 : decode cX3_joined 49 = .ok (.goto 4, 3) := by decide +kernel
theorem dX3_joined_52 : decode cX3_joined 52 = .ok (.iconst 0, 1) := by decide +kernel
theorem dX3_joined_53 : decode cX3_joined 53 = .ok (.ireturn, 1) := by decide +kernel
theorem dX3_joined_54 : decode cX3_joined 54 = .ok (.iload_n 1, 1) := by decide +kernel
theorem dX3_joined_55 : decode cX3_joined 55 = .ok (.ifCond .ne 7, 3) := by decide +kernel
theorem dX3_joined_58 : decode cX3_joined 58 = .ok (.iload_n 2, 1) := by decide +kernel
theorem dX3_joined_59 : decode cX3_joined 59 = .ok (.ifCond .eq 7, 3) := by decide +kernel
theorem dX3_joined_62 : decode cX3_joined 62 = .ok (.iconst 1, 1) := by decide +kernel
theorem dX3_joined_63 : decode cX3_joined 63 = .ok (.goto 4, 3) := by decide +kernel
theorem dX3_joined_66 : decode cX3_joined 66 = .ok (.iconst 0, 1) := by decide +kernel
theorem dX3_joined_67 : decode cX3_joined 67 = .ok (.ireturn, 1) := by decide +kernel
theorem dX3_joined_68 : decode cX3_joined 68 = .ok (.iload_n 1, 1) := by decide +kernel
theorem dX3_joined_69 : decode cX3_joined 69 = .ok (.iload_n 2, 1) := by decide +kernel
theorem dX3_joined_70 : decode cX3_joined 70 = .ok (.if_icmp .ge 7, 3) := by decide +kernel
theorem dX3_joined_73 : decode cX3_joined 73 = .ok (.iconst 1, 1) := by decide +kernel
theorem dX3_joined_74 : decode cX3_joined 74 = .ok (.goto 4, 3) := by decide +kernel
theorem dX3_joined_77 : decode cX3_joined 77 = .ok (.iconst 0, 1) := by decide +kernel
theorem dX3_joined_78 : decode cX3_joined 78 = .ok (.ireturn, 1) := by decide +kernel
theorem dX3_joined_79 : decode cX3_joined 79 = .ok (.iload_n 1, 1) := by decide +kernel
theorem dX3_joined_80 : decode cX3_joined 80 = .ok (.iload_n 2, 1) := by decide +kernel
theorem dX3_joined_81 : decode cX3_joined 81 = .ok (.if_icmp .ne 7, 3) := by decide +kernel
theorem dX3_joined_84 : decode cX3_joined 84 = .ok (.iconst 1, 1) := by decide +kernel
theorem dX3_joined_85 : decode cX3_joined 85 = .ok (.goto 4, 3) := by decide +kernel
theorem dX3_joined_88 : decode cX3_joined 88 = .ok (.iconst 0, 1) := by decide +kernel
theorem dX3_joined_89 : decode cX3_joined 89 = .ok (.ireturn, 1) := by decide +kernel
theorem dX3_joined_90 : decode cX3_joined 90 = .ok (.iload_n 1, 1) := by decide +kernel
theorem dX3_joined_91 : decode cX3_joined 91 = .ok (.iload_n 2, 1) := by decide +kernel
theorem dX3_joined_92 : decode cX3_joined 92 = .ok (.iadd, 1) := by decide +kernel
theorem dX3_joined_93 : decode cX3_joined 93 = .ok (.ireturn, 1) := by decide +kernel
theorem dX3_joined_94 : decode cX3_joined 94 = .ok (.iload_n 1, 1) := by decide +kernel
theorem dX3_joined_95 : decode cX3_joined 95 = .ok (.iload_n 2, 1) := by decide +kernel
theorem dX3_joined_96 : decode cX3_joined 96 = .ok (.isub, 1) := by decide +kernel
theorem dX3_joined_97 : decode cX3_joined 97 = .ok (.ireturn, 1) := by decide +kernel
theorem dX3_joined_98 : decode cX3_joined 98 = .ok (.iload_n 1, 1) := by decide +kernel
theorem dX3_joined_99 : decode cX3_joined 99 = .ok (.iload_n 2, 1) := by decide +kernel
theorem dX3_joined_100 : decode cX3_joined 100 = .ok (.imul, 1) := by decide +kernel
theorem dX3_joined_101 : decode cX3_joined 101 = .ok (.ireturn, 1) := by decide +kernel
def f_X3_joined_62 (w : Nat) (M : mM) : Option (Int32 × mM) := some (1, M)
set_option maxHeartbeats 4000000 in
set_option maxRecDepth 100000 in
theorem s_X3_joined_62 {l : Launch} {G : mG} {sk : List mS} (w : Nat) (M : mM) : Go muX3_joined (rm 0) 0 0 l G sk (mFin G sk eI) (f_X3_joined_62 w M) 62 [] [] M := by
  unfold f_X3_joined_62
  refine go_iconst 1 63 dX3_joined_62 rfl (by decide) ?_
  refine go_goto 67 dX3_joined_63 (by decide) ?_
  exact go_iret rfl dX3_joined_67
def f_X3_joined (w : Nat) (x0 : Int32) (x1 : Int32) (x2 : Int32) (M : mM) : Option (Int32 × mM) := (if x0.toInt < (-11) ∨ (-6) < x0.toInt then some ((x1 * x2), M) else (fun z : Int => if z = (-11) then some ((x1 - x2), M) else if z = (-10) then some ((x1 + x2), M) else if z = (-9) then (if x1 = x2 then some (1, M) else some (0, M)) else if z = (-8) then (if x2 ≤ x1 then some (0, M) else some (1, M)) else if z = (-7) then (if x1 = 0 then (if x2 = 0 then some (0, M) else (f_X3_joined_62 w M)) else (f_X3_joined_62 w M)) else (if x1 = 0 then some (0, M) else (if x2 = 0 then some (0, M) else some (1, M)))) x0.toInt)
set_option maxHeartbeats 4000000 in
set_option maxRecDepth 100000 in
theorem s_X3_joined {l : Launch} {G : mG} {sk : List mS} (w : Nat) (x0 : Int32) (x1 : Int32) (x2 : Int32) (M : mM) : Go muX3_joined (rm 0) 0 0 l G sk (mFin G sk eI) (f_X3_joined w x0 x1 x2 M) 0 [(0, .int x0), (1, .int x1), (2, .int x2)] [] M := by
  unfold f_X3_joined
  refine go_iload_n 0 1 dX3_joined_0 rfl rfl ?_
  refine go_tsw (dflt := 97) (lo := (-11)) (hi := (-6)) (offs := #[93, 89, 78, 67, 53, 39]) (len := 39) ?_ (fun z : Int => if z = (-11) then some ((x1 - x2), M) else if z = (-10) then some ((x1 + x2), M) else if z = (-9) then (if x1 = x2 then some (1, M) else some (0, M)) else if z = (-8) then (if x2 ≤ x1 then some (0, M) else some (1, M)) else if z = (-7) then (if x1 = 0 then (if x2 = 0 then some (0, M) else (f_X3_joined_62 w M)) else (f_X3_joined_62 w M)) else (if x1 = 0 then some (0, M) else (if x2 = 0 then some (0, M) else some (1, M)))) (some ((x1 * x2), M)) 98 (by decide) (fun _ => ?_) (fun g1 g2 => ?_)
  · exact dX3_joined_1
  · refine go_iload_n 1 99 dX3_joined_98 rfl rfl ?_
    refine go_iload_n 2 100 dX3_joined_99 rfl rfl ?_
    refine go_imul 101 dX3_joined_100 rfl ?_
    exact go_iret rfl dX3_joined_101
  · rcases (show x0.toInt = (-11) ∨ x0.toInt = (-10) ∨ x0.toInt = (-9) ∨ x0.toInt = (-8) ∨ x0.toInt = (-7) ∨ x0.toInt = (-6) by omega) with g | g | g | g | g | g
    · refine ⟨93, 94, by rw [g]; rfl, by decide, ?_⟩
      rw [g]
      simp only [if_pos, reduceIte, Int.reduceEq, Int.reduceNeg]
      refine go_iload_n 1 95 dX3_joined_94 rfl rfl ?_
      refine go_iload_n 2 96 dX3_joined_95 rfl rfl ?_
      refine go_isub 97 dX3_joined_96 rfl ?_
      exact go_iret rfl dX3_joined_97
    · refine ⟨89, 90, by rw [g]; rfl, by decide, ?_⟩
      rw [g]
      simp only [if_pos, reduceIte, Int.reduceEq, Int.reduceNeg]
      refine go_iload_n 1 91 dX3_joined_90 rfl rfl ?_
      refine go_iload_n 2 92 dX3_joined_91 rfl rfl ?_
      refine go_iadd 93 dX3_joined_92 rfl ?_
      exact go_iret rfl dX3_joined_93
    · refine ⟨78, 79, by rw [g]; rfl, by decide, ?_⟩
      rw [g]
      simp only [if_pos, reduceIte, Int.reduceEq, Int.reduceNeg]
      refine go_iload_n 1 80 dX3_joined_79 rfl rfl ?_
      refine go_iload_n 2 81 dX3_joined_80 rfl rfl ?_
      refine go_icmp_ne 88 84 dX3_joined_81 rfl (by decide) (fun _ => ?_) (fun _ => ?_)
      · refine go_iconst 0 89 dX3_joined_88 rfl (by decide) ?_
        exact go_iret rfl dX3_joined_89
      · refine go_iconst 1 85 dX3_joined_84 rfl (by decide) ?_
        refine go_goto 89 dX3_joined_85 (by decide) ?_
        exact go_iret rfl dX3_joined_89
    · refine ⟨67, 68, by rw [g]; rfl, by decide, ?_⟩
      rw [g]
      simp only [if_pos, reduceIte, Int.reduceEq, Int.reduceNeg]
      refine go_iload_n 1 69 dX3_joined_68 rfl rfl ?_
      refine go_iload_n 2 70 dX3_joined_69 rfl rfl ?_
      refine go_icmp_ge 77 73 dX3_joined_70 rfl (by decide) (fun _ => ?_) (fun _ => ?_)
      · refine go_iconst 0 78 dX3_joined_77 rfl (by decide) ?_
        exact go_iret rfl dX3_joined_78
      · refine go_iconst 1 74 dX3_joined_73 rfl (by decide) ?_
        refine go_goto 78 dX3_joined_74 (by decide) ?_
        exact go_iret rfl dX3_joined_78
    · refine ⟨53, 54, by rw [g]; rfl, by decide, ?_⟩
      rw [g]
      simp only [if_pos, reduceIte, Int.reduceEq, Int.reduceNeg]
      refine go_iload_n 1 55 dX3_joined_54 rfl rfl ?_
      refine go_if_ne 62 58 dX3_joined_55 rfl (by decide) (fun _ => ?_) (fun _ => ?_)
      · exact go_lv [] rfl (s_X3_joined_62 w M)
      · refine go_iload_n 2 59 dX3_joined_58 rfl rfl ?_
        refine go_if_eq 66 62 dX3_joined_59 rfl (by decide) (fun _ => ?_) (fun _ => ?_)
        · refine go_iconst 0 67 dX3_joined_66 rfl (by decide) ?_
          exact go_iret rfl dX3_joined_67
        · exact go_lv [] rfl (s_X3_joined_62 w M)
    · refine ⟨39, 40, by rw [g]; rfl, by decide, ?_⟩
      rw [g]
      simp only [if_pos, reduceIte, Int.reduceEq, Int.reduceNeg]
      refine go_iload_n 1 41 dX3_joined_40 rfl rfl ?_
      refine go_if_eq 52 44 dX3_joined_41 rfl (by decide) (fun _ => ?_) (fun _ => ?_)
      · refine go_iconst 0 53 dX3_joined_52 rfl (by decide) ?_
        exact go_iret rfl dX3_joined_53
      · refine go_iload_n 2 45 dX3_joined_44 rfl rfl ?_
        refine go_if_eq 52 48 dX3_joined_45 rfl (by decide) (fun _ => ?_) (fun _ => ?_)
        · refine go_iconst 0 53 dX3_joined_52 rfl (by decide) ?_
          exact go_iret rfl dX3_joined_53
        · refine go_iconst 1 49 dX3_joined_48 rfl (by decide) ?_
          refine go_goto 53 dX3_joined_49 (by decide) ?_
          exact go_iret rfl dX3_joined_53
theorem m_X3_joined {l : Launch} {G : mG} {sk : List mS} (w : Nat) (x0 : Int32) (x1 : Int32) (x2 : Int32) (M : mM) : Mt l G sk yX3_joined muX3_joined 0 [.int x0, .int x1, .int x2] M eI (f_X3_joined w x0 x1 x2 M) := Mt.of (by decide) rfl (Nat.le_of_ble_eq_true rfl) (s_X3_joined w x0 x1 x2 M)
theorem dX3_valueBy_0 : decode cX3_valueBy 0 = .ok (.aload_n 0, 1) := by decide +kernel
theorem dX3_valueBy_1 : decode cX3_valueBy 1 = .ok (.getfield 18, 3) := by decide +kernel
theorem dX3_valueBy_4 : decode cX3_valueBy 4 = .ok (.ifCond .ne 5, 3) := by decide +kernel
theorem dX3_valueBy_7 : decode cX3_valueBy 7 = .ok (.iconst 1, 1) := by decide +kernel
theorem dX3_valueBy_8 : decode cX3_valueBy 8 = .ok (.ireturn, 1) := by decide +kernel
theorem dX3_valueBy_9 : decode cX3_valueBy 9 = .ok (.iconst 0, 1) := by decide +kernel
theorem dX3_valueBy_10 : decode cX3_valueBy 10 = .ok (.istore 5, 2) := by decide +kernel
theorem dX3_valueBy_12 : decode cX3_valueBy 12 = .ok (.iconst 0, 1) := by decide +kernel
theorem dX3_valueBy_13 : decode cX3_valueBy 13 = .ok (.istore 6, 2) := by decide +kernel
theorem dX3_valueBy_15 : decode cX3_valueBy 15 = .ok (.iload 6, 2) := by decide +kernel
theorem dX3_valueBy_17 : decode cX3_valueBy 17 = .ok (.aload_n 0, 1) := by decide +kernel
theorem dX3_valueBy_18 : decode cX3_valueBy 18 = .ok (.getfield 18, 3) := by decide +kernel
theorem dX3_valueBy_21 : decode cX3_valueBy 21 = .ok (.if_icmp .ge 148, 3) := by decide +kernel
theorem dX3_valueBy_24 : decode cX3_valueBy 24 = .ok (.aload_n 0, 1) := by decide +kernel
theorem dX3_valueBy_25 : decode cX3_valueBy 25 = .ok (.getfield 9, 3) := by decide +kernel
theorem dX3_valueBy_28 : decode cX3_valueBy 28 = .ok (.iload 6, 2) := by decide +kernel
theorem dX3_valueBy_30 : decode cX3_valueBy 30 = .ok (.iaload, 1) := by decide +kernel
theorem dX3_valueBy_31 : decode cX3_valueBy 31 = .ok (.istore 7, 2) := by decide +kernel
theorem dX3_valueBy_33 : decode cX3_valueBy 33 = .ok (.iload 7, 2) := by decide +kernel
theorem dX3_valueBy_35 : decode cX3_valueBy 35 = .ok (.bipush (-4), 2) := by decide +kernel
theorem dX3_valueBy_37 : decode cX3_valueBy 37 = .ok (.if_icmp .lt 43, 3) := by decide +kernel
theorem dX3_valueBy_40 : decode cX3_valueBy 40 = .ok (.iload 5, 2) := by decide +kernel
theorem dX3_valueBy_42 : decode cX3_valueBy 42 = .ok (.bipush 32, 2) := by decide +kernel
theorem dX3_valueBy_44 : decode cX3_valueBy 44 = .ok (.if_icmp .ge 119, 3) := by decide +kernel
theorem dX3_valueBy_47 : decode cX3_valueBy 47 = .ok (.aload_n 0, 1) := by decide +kernel
theorem dX3_valueBy_48 : decode cX3_valueBy 48 = .ok (.getfield 15, 3) := by decide +kernel
theorem dX3_valueBy_51 : decode cX3_valueBy 51 = .ok (.iload 5, 2) := by decide +kernel
theorem dX3_valueBy_53 : decode cX3_valueBy 53 = .ok (.iload 7, 2) := by decide +kernel
theorem dX3_valueBy_55 : decode cX3_valueBy 55 = .ok (.ifCond .lt 8, 3) := by decide +kernel
theorem dX3_valueBy_58 : decode cX3_valueBy 58 = .ok (.iload 7, 2) := by decide +kernel
theorem dX3_valueBy_60 : decode cX3_valueBy 60 = .ok (.goto 13, 3) := by decide +kernel
theorem dX3_valueBy_63 : decode cX3_valueBy 63 = .ok (.iload 7, 2) := by decide +kernel
theorem dX3_valueBy_65 : decode cX3_valueBy 65 = .ok (.iload_n 1, 1) := by decide +kernel
theorem dX3_valueBy_66 : decode cX3_valueBy 66 = .ok (.iload_n 2, 1) := by decide +kernel
theorem dX3_valueBy_67 : decode cX3_valueBy 67 = .ok (.iload_n 3, 1) := by decide +kernel
theorem dX3_valueBy_68 : decode cX3_valueBy 68 = .ok (.iload 4, 2) := by decide +kernel
theorem dX3_valueBy_70 : decode cX3_valueBy 70 = .ok (.invokestatic 28, 3) := by decide +kernel
theorem dX3_valueBy_73 : decode cX3_valueBy 73 = .ok (.iastore, 1) := by decide +kernel
theorem dX3_valueBy_74 : decode cX3_valueBy 74 = .ok (.iinc 5 1, 3) := by decide +kernel
theorem dX3_valueBy_77 : decode cX3_valueBy 77 = .ok (.goto 86, 3) := by decide +kernel
theorem dX3_valueBy_80 : decode cX3_valueBy 80 = .ok (.iload 7, 2) := by decide +kernel
theorem dX3_valueBy_82 : decode cX3_valueBy 82 = .ok (.bipush (-5), 2) := by decide +kernel
theorem dX3_valueBy_84 : decode cX3_valueBy 84 = .ok (.if_icmp .ne 38, 3) := by decide +kernel
theorem dX3_valueBy_87 : decode cX3_valueBy 87 = .ok (.iload 5, 2) := by decide +kernel
theorem dX3_valueBy_89 : decode cX3_valueBy 89 = .ok (.iconst 1, 1) := by decide +kernel
theorem dX3_valueBy_90 : decode cX3_valueBy 90 = .ok (.if_icmp .lt 32, 3) := by decide +kernel
theorem dX3_valueBy_93 : decode cX3_valueBy 93 = .ok (.aload_n 0, 1) := by decide +kernel
theorem dX3_valueBy_94 : decode cX3_valueBy 94 = .ok (.getfield 15, 3) := by decide +kernel
theorem dX3_valueBy_97 : decode cX3_valueBy 97 = .ok (.iload 5, 2) := by decide +kernel
theorem dX3_valueBy_99 : decode cX3_valueBy 99 = .ok (.iconst 1, 1) := by decide +kernel
theorem dX3_valueBy_100 : decode cX3_valueBy 100 = .ok (.isub, 1) := by decide +kernel
theorem dX3_valueBy_101 : decode cX3_valueBy 101 = .ok (.aload_n 0, 1) := by decide +kernel
theorem dX3_valueBy_102 : decode cX3_valueBy 102 = .ok (.getfield 15, 3) := by decide +kernel
theorem dX3_valueBy_105 : decode cX3_valueBy 105 = .ok (.iload 5, 2) := by decide +kernel
theorem dX3_valueBy_107 : decode cX3_valueBy 107 = .ok (.iconst 1, 1) := by decide +kernel
theorem dX3_valueBy_108 : decode cX3_valueBy 108 = .ok (.isub, 1) := by decide +kernel
theorem dX3_valueBy_109 : decode cX3_valueBy 109 = .ok (.iaload, 1) := by decide +kernel
theorem dX3_valueBy_110 : decode cX3_valueBy 110 = .ok (.ifCond .ne 7, 3) := by decide +kernel
theorem dX3_valueBy_113 : decode cX3_valueBy 113 = .ok (.iconst 1, 1) := by decide +kernel
theorem dX3_valueBy_114 : decode cX3_valueBy 114 = .ok (.goto 4, 3) := by decide +kernel
theorem dX3_valueBy_117 : decode cX3_valueBy 117 = .ok (.iconst 0, 1) := by decide +kernel
theorem dX3_valueBy_118 : decode cX3_valueBy 118 = .ok (.iastore, 1) := by decide +kernel
theorem dX3_valueBy_119 : decode cX3_valueBy 119 = .ok (.goto 44, 3) := by decide +kernel
theorem dX3_valueBy_122 : decode cX3_valueBy 122 = .ok (.iload 5, 2) := by decide +kernel
theorem dX3_valueBy_124 : decode cX3_valueBy 124 = .ok (.iconst 2, 1) := by decide +kernel
theorem dX3_valueBy_125 : decode cX3_valueBy 125 = .ok (.if_icmp .lt 38, 3) := by decide +kernel
theorem dX3_valueBy_128 : decode cX3_valueBy 128 = .ok (.aload_n 0, 1) := by decide +kernel
theorem dX3_valueBy_129 : decode cX3_valueBy 129 = .ok (.getfield 15, 3) := by decide +kernel
theorem dX3_valueBy_132 : decode cX3_valueBy 132 = .ok (.iload 5, 2) := by decide +kernel
theorem dX3_valueBy_134 : decode cX3_valueBy 134 = .ok (.iconst 2, 1) := by decide +kernel
theorem dX3_valueBy_135 : decode cX3_valueBy 135 = .ok (.isub, 1) := by decide +kernel
theorem dX3_valueBy_136 : decode cX3_valueBy 136 = .ok (.iload 7, 2) := by decide +kernel
theorem dX3_valueBy_138 : decode cX3_valueBy 138 = .ok (.aload_n 0, 1) := by decide +kernel
theorem dX3_valueBy_139 : decode cX3_valueBy 139 = .ok (.getfield 15, 3) := by decide +kernel
theorem dX3_valueBy_142 : decode cX3_valueBy 142 = .ok (.iload 5, 2) := by decide +kernel
theorem dX3_valueBy_144 : decode cX3_valueBy 144 = .ok (.iconst 2, 1) := by decide +kernel
theorem dX3_valueBy_145 : decode cX3_valueBy 145 = .ok (.isub, 1) := by decide +kernel
theorem dX3_valueBy_146 : decode cX3_valueBy 146 = .ok (.iaload, 1) := by decide +kernel
theorem dX3_valueBy_147 : decode cX3_valueBy 147 = .ok (.aload_n 0, 1) := by decide +kernel
theorem dX3_valueBy_148 : decode cX3_valueBy 148 = .ok (.getfield 15, 3) := by decide +kernel
theorem dX3_valueBy_151 : decode cX3_valueBy 151 = .ok (.iload 5, 2) := by decide +kernel
theorem dX3_valueBy_153 : decode cX3_valueBy 153 = .ok (.iconst 1, 1) := by decide +kernel
theorem dX3_valueBy_154 : decode cX3_valueBy 154 = .ok (.isub, 1) := by decide +kernel
theorem dX3_valueBy_155 : decode cX3_valueBy 155 = .ok (.iaload, 1) := by decide +kernel
theorem dX3_valueBy_156 : decode cX3_valueBy 156 = .ok (.invokestatic 32, 3) := by decide +kernel
theorem dX3_valueBy_159 : decode cX3_valueBy 159 = .ok (.iastore, 1) := by decide +kernel
theorem dX3_valueBy_160 : decode cX3_valueBy 160 = .ok (.iinc 5 (-1), 3) := by decide +kernel
theorem dX3_valueBy_163 : decode cX3_valueBy 163 = .ok (.iinc 6 1, 3) := by decide +kernel
theorem dX3_valueBy_166 : decode cX3_valueBy 166 = .ok (.goto (-151), 3) := by decide +kernel
theorem dX3_valueBy_169 : decode cX3_valueBy 169 = .ok (.aload_n 0, 1) := by decide +kernel
theorem dX3_valueBy_170 : decode cX3_valueBy 170 = .ok (.getfield 15, 3) := by decide +kernel
theorem dX3_valueBy_173 : decode cX3_valueBy 173 = .ok (.iconst 0, 1) := by decide +kernel
theorem dX3_valueBy_174 : decode cX3_valueBy 174 = .ok (.iaload, 1) := by decide +kernel
theorem dX3_valueBy_175 : decode cX3_valueBy 175 = .ok (.ireturn, 1) := by decide +kernel
def f_X3_valueBy_73 (w : Nat) (k15 : Nat → Int32 → Int32 → Int32 → Int32 → Int32 → Int32 → mM → Option (Int32 × mM)) (o0 : Nat) (x1 : Int32) (x2 : Int32) (x3 : Int32) (x4 : Int32) (x5 : Int32) (x6 : Int32) (xs0 : Int32) (xs1 : Int32) (os2 : Nat) (M : mM) : Option (Int32 × mM) := chk xs1 (sL os2) (lt (wI M os2 xs1.toNatClampNeg xs0) fun M1 => (k15 o0 x1 x2 x3 x4 (x5 + 1) (x6 + 1) M1))
set_option maxHeartbeats 4000000 in
set_option maxRecDepth 100000 in
theorem s_X3_valueBy_73 {l : Launch} {G : mG} {sk : List mS} (w : Nat) (k15 : Nat → Int32 → Int32 → Int32 → Int32 → Int32 → Int32 → mM → Option (Int32 × mM)) (hk15 : ∀ (o0 : Nat) (h0 : isK o0 13) (x1 : Int32) (x2 : Int32) (x3 : Int32) (x4 : Int32) (x5 : Int32) (x6 : Int32) (M : mM), Go muX3_valueBy (rm 1) 0 0 l G sk (mFin G sk eI) (k15 o0 x1 x2 x3 x4 x5 x6 M) 15 [(0, .ref (gB G + o0)), (1, .int x1), (2, .int x2), (3, .int x3), (4, .int x4), (5, .int x5), (6, .int x6)] [] M) (o0 : Nat) (h0 : isK o0 13) (x1 : Int32) (x2 : Int32) (x3 : Int32) (x4 : Int32) (x5 : Int32) (x6 : Int32) (xs0 : Int32) (xs1 : Int32) (os2 : Nat) (hs2 : isK os2 0) (M : mM) : Go muX3_valueBy (rm 1) 0 0 l G sk (mFin G sk eI) (f_X3_valueBy_73 w k15 o0 x1 x2 x3 x4 x5 x6 xs0 xs1 os2 M) 73 [(0, .ref (gB G + o0)), (1, .int x1), (2, .int x2), (3, .int x3), (4, .int x4), (5, .int x5), (6, .int x6)] [.int xs0, .int xs1, .ref (gB G + os2)] M := by
  unfold f_X3_valueBy_73
  refine go_iast hs2 74 dX3_valueBy_73 rfl ?_
  refine go_nmM (fun M1 => ?_)
  refine go_iinc (x5 + 1) 5 [(5, .int (x5 + 1)), (0, .ref (gB G + o0)), (1, .int x1), (2, .int x2), (3, .int x3), (4, .int x4), (6, .int x6)] 77 dX3_valueBy_74 rfl rfl rfl (by decide) rfl ?_
  refine go_goto 163 dX3_valueBy_77 (by decide) ?_
  refine go_iinc (x6 + 1) 6 [(6, .int (x6 + 1)), (5, .int (x5 + 1)), (0, .ref (gB G + o0)), (1, .int x1), (2, .int x2), (3, .int x3), (4, .int x4)] 166 dX3_valueBy_163 rfl rfl rfl (by decide) rfl ?_
  refine go_goto 15 dX3_valueBy_166 (by decide) ?_
  exact go_lv [2, 3, 4, 5, 6, 1, 0] rfl (hk15 o0 h0 x1 x2 x3 x4 (x5 + 1) (x6 + 1) M1)
def f_X3_valueBy_118 (w : Nat) (k15 : Nat → Int32 → Int32 → Int32 → Int32 → Int32 → Int32 → mM → Option (Int32 × mM)) (o0 : Nat) (x1 : Int32) (x2 : Int32) (x3 : Int32) (x4 : Int32) (x5 : Int32) (x6 : Int32) (xs0 : Int32) (xs1 : Int32) (os2 : Nat) (M : mM) : Option (Int32 × mM) := chk xs1 (sL os2) (lt (wI M os2 xs1.toNatClampNeg xs0) fun M1 => (k15 o0 x1 x2 x3 x4 x5 (x6 + 1) M1))
set_option maxHeartbeats 4000000 in
set_option maxRecDepth 100000 in
theorem s_X3_valueBy_118 {l : Launch} {G : mG} {sk : List mS} (w : Nat) (k15 : Nat → Int32 → Int32 → Int32 → Int32 → Int32 → Int32 → mM → Option (Int32 × mM)) (hk15 : ∀ (o0 : Nat) (h0 : isK o0 13) (x1 : Int32) (x2 : Int32) (x3 : Int32) (x4 : Int32) (x5 : Int32) (x6 : Int32) (M : mM), Go muX3_valueBy (rm 1) 0 0 l G sk (mFin G sk eI) (k15 o0 x1 x2 x3 x4 x5 x6 M) 15 [(0, .ref (gB G + o0)), (1, .int x1), (2, .int x2), (3, .int x3), (4, .int x4), (5, .int x5), (6, .int x6)] [] M) (o0 : Nat) (h0 : isK o0 13) (x1 : Int32) (x2 : Int32) (x3 : Int32) (x4 : Int32) (x5 : Int32) (x6 : Int32) (xs0 : Int32) (xs1 : Int32) (os2 : Nat) (hs2 : isK os2 0) (M : mM) : Go muX3_valueBy (rm 1) 0 0 l G sk (mFin G sk eI) (f_X3_valueBy_118 w k15 o0 x1 x2 x3 x4 x5 x6 xs0 xs1 os2 M) 118 [(0, .ref (gB G + o0)), (1, .int x1), (2, .int x2), (3, .int x3), (4, .int x4), (5, .int x5), (6, .int x6)] [.int xs0, .int xs1, .ref (gB G + os2)] M := by
  unfold f_X3_valueBy_118
  refine go_iast hs2 119 dX3_valueBy_118 rfl ?_
  refine go_nmM (fun M1 => ?_)
  refine go_goto 163 dX3_valueBy_119 (by decide) ?_
  refine go_iinc (x6 + 1) 6 [(6, .int (x6 + 1)), (0, .ref (gB G + o0)), (1, .int x1), (2, .int x2), (3, .int x3), (4, .int x4), (5, .int x5)] 166 dX3_valueBy_163 rfl rfl rfl (by decide) rfl ?_
  refine go_goto 15 dX3_valueBy_166 (by decide) ?_
  exact go_lv [1, 2, 3, 4, 5, 6, 0] rfl (hk15 o0 h0 x1 x2 x3 x4 x5 (x6 + 1) M1)
def f_X3_valueBy_122 (w : Nat) (k15 : Nat → Int32 → Int32 → Int32 → Int32 → Int32 → Int32 → mM → Option (Int32 × mM)) (o0 : Nat) (x1 : Int32) (x2 : Int32) (x3 : Int32) (x4 : Int32) (x5 : Int32) (x6 : Int32) (x7 : Int32) (M : mM) : Option (Int32 × mM) := (if x5 < 2 then (k15 o0 x1 x2 x3 x4 x5 (x6 + 1) M) else chk (x5 - 2) (sL (rF o0 1)) (chk (x5 - 1) (sL (rF o0 1)) (bI (f_X3_joined w x7 (M.1 (rF o0 1) (x5 - 2).toNatClampNeg) (M.1 (rF o0 1) (x5 - 1).toNatClampNeg) M) fun q2 M1 => chk (x5 - 2) (sL (rF o0 1)) (lt (wI M1 (rF o0 1) (x5 - 2).toNatClampNeg q2) fun M3 => (k15 o0 x1 x2 x3 x4 (x5 + (-1)) (x6 + 1) M3)))))
set_option maxHeartbeats 4000000 in
set_option maxRecDepth 100000 in
theorem s_X3_valueBy_122 {l : Launch} {G : mG} {sk : List mS} (w : Nat) (k15 : Nat → Int32 → Int32 → Int32 → Int32 → Int32 → Int32 → mM → Option (Int32 × mM)) (hk15 : ∀ (o0 : Nat) (h0 : isK o0 13) (x1 : Int32) (x2 : Int32) (x3 : Int32) (x4 : Int32) (x5 : Int32) (x6 : Int32) (M : mM), Go muX3_valueBy (rm 1) 0 0 l G sk (mFin G sk eI) (k15 o0 x1 x2 x3 x4 x5 x6 M) 15 [(0, .ref (gB G + o0)), (1, .int x1), (2, .int x2), (3, .int x3), (4, .int x4), (5, .int x5), (6, .int x6)] [] M) (o0 : Nat) (h0 : isK o0 13) (x1 : Int32) (x2 : Int32) (x3 : Int32) (x4 : Int32) (x5 : Int32) (x6 : Int32) (x7 : Int32) (M : mM) : Go muX3_valueBy (rm 1) 0 0 l G sk (mFin G sk eI) (f_X3_valueBy_122 w k15 o0 x1 x2 x3 x4 x5 x6 x7 M) 122 [(0, .ref (gB G + o0)), (1, .int x1), (2, .int x2), (3, .int x3), (4, .int x4), (5, .int x5), (6, .int x6), (7, .int x7)] [] M := by
  unfold f_X3_valueBy_122
  refine go_iload 5 124 dX3_valueBy_122 rfl rfl ?_
  refine go_iconst 2 125 dX3_valueBy_124 rfl (by decide) ?_
  refine go_icmp_lt 163 128 dX3_valueBy_125 rfl (by decide) (fun _ => ?_) (fun _ => ?_)
  · refine go_iinc (x6 + 1) 6 [(6, .int (x6 + 1)), (0, .ref (gB G + o0)), (1, .int x1), (2, .int x2), (3, .int x3), (4, .int x4), (5, .int x5), (7, .int x7)] 166 dX3_valueBy_163 rfl rfl rfl (by decide) rfl ?_
    refine go_goto 15 dX3_valueBy_166 (by decide) ?_
    exact go_lv [1, 2, 3, 4, 5, 6, 0] rfl (hk15 o0 h0 x1 x2 x3 x4 x5 (x6 + 1) M)
  · refine go_aload_n 0 129 dX3_valueBy_128 rfl rfl ?_
    refine go_getR flX3_15 h0 132 dX3_valueBy_129 rfl ?_
    refine go_iload 5 134 dX3_valueBy_132 rfl rfl ?_
    refine go_iconst 2 135 dX3_valueBy_134 rfl (by decide) ?_
    refine go_isub 136 dX3_valueBy_135 rfl ?_
    refine go_iload 7 138 dX3_valueBy_136 rfl rfl ?_
    refine go_aload_n 0 139 dX3_valueBy_138 rfl rfl ?_
    refine go_getR flX3_15 h0 142 dX3_valueBy_139 rfl ?_
    refine go_iload 5 144 dX3_valueBy_142 rfl rfl ?_
    refine go_iconst 2 145 dX3_valueBy_144 rfl (by decide) ?_
    refine go_isub 146 dX3_valueBy_145 rfl ?_
    refine go_iald (rk3_1 h0) 147 dX3_valueBy_146 rfl ?_
    refine go_aload_n 0 148 dX3_valueBy_147 rfl rfl ?_
    refine go_getR flX3_15 h0 151 dX3_valueBy_148 rfl ?_
    refine go_iload 5 153 dX3_valueBy_151 rfl rfl ?_
    refine go_iconst 1 154 dX3_valueBy_153 rfl (by decide) ?_
    refine go_isub 155 dX3_valueBy_154 rfl ?_
    refine go_iald (rk3_1 h0) 156 dX3_valueBy_155 rfl ?_
    refine go_cSI3 0 cwX3_32 (m_X3_joined w x7 (M.1 (rF o0 1) (x5 - 2).toNatClampNeg) (M.1 (rF o0 1) (x5 - 1).toNatClampNeg) M) 159 dX3_valueBy_156 rfl ⟨Nat.le_of_ble_eq_true rfl, Nat.le_of_ble_eq_true rfl⟩ ⟨Nat.zero_le _, Nat.zero_le _⟩ (Nat.le_of_ble_eq_true rfl) (fun q2 M1 _ => ?_)
    refine go_iast (rk3_1 h0) 160 dX3_valueBy_159 rfl ?_
    refine go_nmM (fun M3 => ?_)
    refine go_iinc (x5 + (-1)) 5 [(5, .int (x5 + (-1))), (0, .ref (gB G + o0)), (1, .int x1), (2, .int x2), (3, .int x3), (4, .int x4), (6, .int x6), (7, .int x7)] 163 dX3_valueBy_160 rfl rfl rfl (by decide) rfl ?_
    refine go_iinc (x6 + 1) 6 [(6, .int (x6 + 1)), (5, .int (x5 + (-1))), (0, .ref (gB G + o0)), (1, .int x1), (2, .int x2), (3, .int x3), (4, .int x4), (7, .int x7)] 166 dX3_valueBy_163 rfl rfl rfl (by decide) rfl ?_
    refine go_goto 15 dX3_valueBy_166 (by decide) ?_
    exact go_lv [2, 3, 4, 5, 6, 1, 0] rfl (hk15 o0 h0 x1 x2 x3 x4 (x5 + (-1)) (x6 + 1) M3)
def f_X3_valueBy_15 (w : Nat) : Nat → Nat → Int32 → Int32 → Int32 → Int32 → Int32 → Int32 → mM → Option (Int32 × mM)
  | 0, _, _, _, _, _, _, _, _ => none
  | n + 1, o0, x1, x2, x3, x4, x5, x6, M => (if (M.1 o0 2) ≤ x6 then chk 0 (sL (rF o0 1)) (some ((M.1 (rF o0 1) (0 : Int32).toNatClampNeg), M)) else chk x6 (sL (rF o0 0)) (lt (M.1 (rF o0 0) x6.toNatClampNeg) fun y1 => (if y1 < (-4) then (if y1 = (-5) then (if x5 < 1 then (f_X3_valueBy_122 w (f_X3_valueBy_15 w n) o0 x1 x2 x3 x4 x5 x6 y1 M) else chk (x5 - 1) (sL (rF o0 1)) ((if (M.1 (rF o0 1) (x5 - 1).toNatClampNeg) = 0 then (f_X3_valueBy_118 w (f_X3_valueBy_15 w n) o0 x1 x2 x3 x4 x5 x6 1 (x5 - 1) (rF o0 1) M) else (f_X3_valueBy_118 w (f_X3_valueBy_15 w n) o0 x1 x2 x3 x4 x5 x6 0 (x5 - 1) (rF o0 1) M)))) else (f_X3_valueBy_122 w (f_X3_valueBy_15 w n) o0 x1 x2 x3 x4 x5 x6 y1 M)) else (if 32 ≤ x5 then (f_X3_valueBy_15 w n o0 x1 x2 x3 x4 x5 (x6 + 1) M) else (if y1 < 0 then bI (f_X3_fact w y1 x1 x2 x3 x4 M) fun q3 M2 => (f_X3_valueBy_73 w (f_X3_valueBy_15 w n) o0 x1 x2 x3 x4 x5 x6 q3 x5 (rF o0 1) M2) else (f_X3_valueBy_73 w (f_X3_valueBy_15 w n) o0 x1 x2 x3 x4 x5 x6 y1 x5 (rF o0 1) M))))))
set_option maxHeartbeats 4000000 in
set_option maxRecDepth 100000 in
theorem s_X3_valueBy_15 {l : Launch} {G : mG} {sk : List mS} (w : Nat) : ∀ (n : Nat) (o0 : Nat) (h0 : isK o0 13) (x1 : Int32) (x2 : Int32) (x3 : Int32) (x4 : Int32) (x5 : Int32) (x6 : Int32) (M : mM), Go muX3_valueBy (rm 1) 0 0 l G sk (mFin G sk eI) (f_X3_valueBy_15 w n o0 x1 x2 x3 x4 x5 x6 M) 15 [(0, .ref (gB G + o0)), (1, .int x1), (2, .int x2), (3, .int x3), (4, .int x4), (5, .int x5), (6, .int x6)] [] M := by
  intro n
  induction n with
  | zero =>
    intros
    exact go_none
  | succ n ih =>
    intro o0 h0 x1 x2 x3 x4 x5 x6 M
    rw [f_X3_valueBy_15]
    refine go_iload 6 17 dX3_valueBy_15 rfl rfl ?_
    refine go_aload_n 0 18 dX3_valueBy_17 rfl rfl ?_
    refine go_getI flX3_18 (by decide) h0 21 dX3_valueBy_18 rfl ?_
    refine go_icmp_ge 169 24 dX3_valueBy_21 rfl (by decide) (fun _ => ?_) (fun _ => ?_)
    · refine go_aload_n 0 170 dX3_valueBy_169 rfl rfl ?_
      refine go_getR flX3_15 h0 173 dX3_valueBy_170 rfl ?_
      refine go_iconst 0 174 dX3_valueBy_173 rfl (by decide) ?_
      refine go_iald (rk3_1 h0) 175 dX3_valueBy_174 rfl ?_
      exact go_iret rfl dX3_valueBy_175
    · refine go_aload_n 0 25 dX3_valueBy_24 rfl rfl ?_
      refine go_getR flX3_9 h0 28 dX3_valueBy_25 rfl ?_
      refine go_iload 6 30 dX3_valueBy_28 rfl rfl ?_
      refine go_iald (rk3_0 h0) 31 dX3_valueBy_30 rfl ?_
      refine go_nmI (fun y1 => ?_)
      refine go_istore [(7, .int y1), (0, .ref (gB G + o0)), (1, .int x1), (2, .int x2), (3, .int x3), (4, .int x4), (5, .int x5), (6, .int x6)] 33 dX3_valueBy_31 rfl (by decide) rfl ?_
      refine go_iload 0 35 dX3_valueBy_33 rfl rfl ?_
      refine go_bipush (-4) 37 dX3_valueBy_35 rfl (by decide) ?_
      refine go_icmp_lt 80 40 dX3_valueBy_37 rfl (by decide) (fun _ => ?_) (fun _ => ?_)
      · refine go_iload 0 82 dX3_valueBy_80 rfl rfl ?_
        refine go_bipush (-5) 84 dX3_valueBy_82 rfl (by decide) ?_
        refine go_icmp_ne 122 87 dX3_valueBy_84 rfl (by decide) (fun _ => ?_) (fun _ => ?_)
        · exact go_lv [1, 2, 3, 4, 5, 6, 7, 0] rfl (s_X3_valueBy_122 w (f_X3_valueBy_15 w n) (fun o0 h0 x1 x2 x3 x4 x5 x6 M => ih o0 h0 x1 x2 x3 x4 x5 x6 M) o0 h0 x1 x2 x3 x4 x5 x6 y1 M)
        · refine go_iload 6 89 dX3_valueBy_87 rfl rfl ?_
          refine go_iconst 1 90 dX3_valueBy_89 rfl (by decide) ?_
          refine go_icmp_lt 122 93 dX3_valueBy_90 rfl (by decide) (fun _ => ?_) (fun _ => ?_)
          · exact go_lv [1, 2, 3, 4, 5, 6, 7, 0] rfl (s_X3_valueBy_122 w (f_X3_valueBy_15 w n) (fun o0 h0 x1 x2 x3 x4 x5 x6 M => ih o0 h0 x1 x2 x3 x4 x5 x6 M) o0 h0 x1 x2 x3 x4 x5 x6 y1 M)
          · refine go_aload_n 1 94 dX3_valueBy_93 rfl rfl ?_
            refine go_getR flX3_15 h0 97 dX3_valueBy_94 rfl ?_
            refine go_iload 6 99 dX3_valueBy_97 rfl rfl ?_
            refine go_iconst 1 100 dX3_valueBy_99 rfl (by decide) ?_
            refine go_isub 101 dX3_valueBy_100 rfl ?_
            refine go_aload_n 1 102 dX3_valueBy_101 rfl rfl ?_
            refine go_getR flX3_15 h0 105 dX3_valueBy_102 rfl ?_
            refine go_iload 6 107 dX3_valueBy_105 rfl rfl ?_
            refine go_iconst 1 108 dX3_valueBy_107 rfl (by decide) ?_
            refine go_isub 109 dX3_valueBy_108 rfl ?_
            refine go_iald (rk3_1 h0) 110 dX3_valueBy_109 rfl ?_
            refine go_if_ne 117 113 dX3_valueBy_110 rfl (by decide) (fun _ => ?_) (fun _ => ?_)
            · refine go_iconst 0 118 dX3_valueBy_117 rfl (by decide) ?_
              exact go_lv [1, 2, 3, 4, 5, 6, 7] rfl (s_X3_valueBy_118 w (f_X3_valueBy_15 w n) (fun o0 h0 x1 x2 x3 x4 x5 x6 M => ih o0 h0 x1 x2 x3 x4 x5 x6 M) o0 h0 x1 x2 x3 x4 x5 x6 0 (x5 - 1) (rF o0 1) (rk3_1 h0) M)
            · refine go_iconst 1 114 dX3_valueBy_113 rfl (by decide) ?_
              refine go_goto 118 dX3_valueBy_114 (by decide) ?_
              exact go_lv [1, 2, 3, 4, 5, 6, 7] rfl (s_X3_valueBy_118 w (f_X3_valueBy_15 w n) (fun o0 h0 x1 x2 x3 x4 x5 x6 M => ih o0 h0 x1 x2 x3 x4 x5 x6 M) o0 h0 x1 x2 x3 x4 x5 x6 1 (x5 - 1) (rF o0 1) (rk3_1 h0) M)
      · refine go_iload 6 42 dX3_valueBy_40 rfl rfl ?_
        refine go_bipush 32 44 dX3_valueBy_42 rfl (by decide) ?_
        refine go_icmp_ge 163 47 dX3_valueBy_44 rfl (by decide) (fun _ => ?_) (fun _ => ?_)
        · refine go_iinc (x6 + 1) 7 [(6, .int (x6 + 1)), (7, .int y1), (0, .ref (gB G + o0)), (1, .int x1), (2, .int x2), (3, .int x3), (4, .int x4), (5, .int x5)] 166 dX3_valueBy_163 rfl rfl rfl (by decide) rfl ?_
          refine go_goto 15 dX3_valueBy_166 (by decide) ?_
          exact go_lv [2, 3, 4, 5, 6, 7, 0] rfl (ih o0 h0 x1 x2 x3 x4 x5 (x6 + 1) M)
        · refine go_aload_n 1 48 dX3_valueBy_47 rfl rfl ?_
          refine go_getR flX3_15 h0 51 dX3_valueBy_48 rfl ?_
          refine go_iload 6 53 dX3_valueBy_51 rfl rfl ?_
          refine go_iload 0 55 dX3_valueBy_53 rfl rfl ?_
          refine go_if_lt 63 58 dX3_valueBy_55 rfl (by decide) (fun _ => ?_) (fun _ => ?_)
          · refine go_iload 0 65 dX3_valueBy_63 rfl rfl ?_
            refine go_iload_n 2 66 dX3_valueBy_65 rfl rfl ?_
            refine go_iload_n 3 67 dX3_valueBy_66 rfl rfl ?_
            refine go_iload_n 4 68 dX3_valueBy_67 rfl rfl ?_
            refine go_iload 5 70 dX3_valueBy_68 rfl rfl ?_
            refine go_cSI5 0 cwX3_28 (m_X3_fact w y1 x1 x2 x3 x4 M) 73 dX3_valueBy_70 rfl ⟨Nat.le_of_ble_eq_true rfl, Nat.le_of_ble_eq_true rfl⟩ ⟨Nat.zero_le _, Nat.zero_le _⟩ (Nat.le_of_ble_eq_true rfl) (fun q3 M2 _ => ?_)
            exact go_lv [1, 2, 3, 4, 5, 6, 7] rfl (s_X3_valueBy_73 w (f_X3_valueBy_15 w n) (fun o0 h0 x1 x2 x3 x4 x5 x6 M => ih o0 h0 x1 x2 x3 x4 x5 x6 M) o0 h0 x1 x2 x3 x4 x5 x6 q3 x5 (rF o0 1) (rk3_1 h0) M2)
          · refine go_iload 0 60 dX3_valueBy_58 rfl rfl ?_
            refine go_goto 73 dX3_valueBy_60 (by decide) ?_
            exact go_lv [1, 2, 3, 4, 5, 6, 7] rfl (s_X3_valueBy_73 w (f_X3_valueBy_15 w n) (fun o0 h0 x1 x2 x3 x4 x5 x6 M => ih o0 h0 x1 x2 x3 x4 x5 x6 M) o0 h0 x1 x2 x3 x4 x5 x6 y1 x5 (rF o0 1) (rk3_1 h0) M)
def f_X3_valueBy (w : Nat) (o0 : Nat) (x1 : Int32) (x2 : Int32) (x3 : Int32) (x4 : Int32) (M : mM) : Option (Int32 × mM) := (if (M.1 o0 2) = 0 then some (1, M) else (f_X3_valueBy_15 w w o0 x1 x2 x3 x4 0 0 M))
set_option maxHeartbeats 4000000 in
set_option maxRecDepth 100000 in
theorem s_X3_valueBy {l : Launch} {G : mG} {sk : List mS} (w : Nat) (o0 : Nat) (h0 : isK o0 13) (x1 : Int32) (x2 : Int32) (x3 : Int32) (x4 : Int32) (M : mM) : Go muX3_valueBy (rm 1) 0 0 l G sk (mFin G sk eI) (f_X3_valueBy w o0 x1 x2 x3 x4 M) 0 [(0, .ref (gB G + o0)), (1, .int x1), (2, .int x2), (3, .int x3), (4, .int x4)] [] M := by
  unfold f_X3_valueBy
  refine go_aload_n 0 1 dX3_valueBy_0 rfl rfl ?_
  refine go_getI flX3_18 (by decide) h0 4 dX3_valueBy_1 rfl ?_
  refine go_if_ne 9 7 dX3_valueBy_4 rfl (by decide) (fun _ => ?_) (fun _ => ?_)
  · refine go_iconst 0 10 dX3_valueBy_9 rfl (by decide) ?_
    refine go_istore [(5, .int 0), (0, .ref (gB G + o0)), (1, .int x1), (2, .int x2), (3, .int x3), (4, .int x4)] 12 dX3_valueBy_10 rfl (by decide) rfl ?_
    refine go_iconst 0 13 dX3_valueBy_12 rfl (by decide) ?_
    refine go_istore [(6, .int 0), (5, .int 0), (0, .ref (gB G + o0)), (1, .int x1), (2, .int x2), (3, .int x3), (4, .int x4)] 15 dX3_valueBy_13 rfl (by decide) rfl ?_
    exact go_lv [2, 3, 4, 5, 6, 1, 0] rfl (s_X3_valueBy_15 w w o0 h0 x1 x2 x3 x4 0 0 M)
  · refine go_iconst 1 8 dX3_valueBy_7 rfl (by decide) ?_
    exact go_iret rfl dX3_valueBy_8
theorem m_X3_valueBy {l : Launch} {G : mG} {sk : List mS} (w : Nat) (o0 : Nat) (h0 : isK o0 13) (x1 : Int32) (x2 : Int32) (x3 : Int32) (x4 : Int32) (M : mM) : Mt l G sk yX3_valueBy muX3_valueBy 1 [.ref (gB G + o0), .int x1, .int x2, .int x3, .int x4] M eI (f_X3_valueBy w o0 x1 x2 x3 x4 M) := Mt.of (by decide) rfl (Nat.le_of_ble_eq_true rfl) (s_X3_valueBy w o0 h0 x1 x2 x3 x4 M)
