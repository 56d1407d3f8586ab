theorem dX12_chance_0 : decode cX12_chance 0 = .ok (.aload_n 0, 1) := by decide +kernel
theorem dX12_chance_1 : decode cX12_chance 1 = .ok (.iconst 0, 1) := by decide +kernel
theorem dX12_chance_2 : decode cX12_chance 2 = .ok (.putfield 1, 3) := by decide +kernel
theorem dX12_chance_5 : decode cX12_chance 5 = .ok (.aload_n 0, 1) := by decide +kernel
theorem dX12_chance_6 : decode cX12_chance 6 = .ok (.iload_n 1, 1) := by decide +kernel
theorem dX12_chance_7 : decode cX12_chance 7 = .ok (.invokevirtual 319, 3) := by decide +kernel
theorem dX12_chance_10 : decode cX12_chance 10 = .ok (.ifCond .eq 23, 3) := by decide +kernel
theorem dX12_chance_13 : decode cX12_chance 13 = .ok (.iload_n 2, 1) := by decide +kernel
theorem dX12_chance_14 : decode cX12_chance 14 = .ok (.iconst 1, 1) := by decide +kernel
theorem dX12_chance_15 : decode cX12_chance 15 = .ok (.bipush 6, 2) := by decide +kernel
theorem dX12_chance_17 : decode cX12_chance 17 = .ok (.invokestatic 204, 3) := by decide +kernel
theorem dX12_chance_20 : decode cX12_chance 20 = .ok (.ifCond .eq 13, 3) := by decide +kernel
theorem dX12_chance_23 : decode cX12_chance 23 = .ok (.iload_n 3, 1) := by decide +kernel
theorem dX12_chance_24 : decode cX12_chance 24 = .ok (.iconst 0, 1) := by decide +kernel
theorem dX12_chance_25 : decode cX12_chance 25 = .ok (.bipush 10, 2) := by decide +kernel
theorem dX12_chance_27 : decode cX12_chance 27 = .ok (.invokestatic 204, 3) := by decide +kernel
theorem dX12_chance_30 : decode cX12_chance 30 = .ok (.ifCond .ne 5, 3) := by decide +kernel
theorem dX12_chance_33 : decode cX12_chance 33 = .ok (.iconst (-1), 1) := by decide +kernel
theorem dX12_chance_34 : decode cX12_chance 34 = .ok (.ireturn, 1) := by decide +kernel
theorem dX12_chance_35 : decode cX12_chance 35 = .ok (.lconst 1, 1) := by decide +kernel
theorem dX12_chance_36 : decode cX12_chance 36 = .ok (.lstore 4, 2) := by decide +kernel
theorem dX12_chance_38 : decode cX12_chance 38 = .ok (.lconst 0, 1) := by decide +kernel
theorem dX12_chance_39 : decode cX12_chance 39 = .ok (.lstore 6, 2) := by decide +kernel
theorem dX12_chance_41 : decode cX12_chance 41 = .ok (.iconst 0, 1) := by decide +kernel
theorem dX12_chance_42 : decode cX12_chance 42 = .ok (.istore 8, 2) := by decide +kernel
theorem dX12_chance_44 : decode cX12_chance 44 = .ok (.iload 8, 2) := by decide +kernel
theorem dX12_chance_46 : decode cX12_chance 46 = .ok (.iload_n 2, 1) := by decide +kernel
theorem dX12_chance_47 : decode cX12_chance 47 = .ok (.if_icmp .ge 17, 3) := by decide +kernel
theorem dX12_chance_50 : decode cX12_chance 50 = .ok (.lload 4, 2) := by decide +kernel
theorem dX12_chance_52 : decode cX12_chance 52 = .ok (.ldc2_w 155, 3) := by decide +kernel
theorem dX12_chance_55 : decode cX12_chance 55 = .ok (.lmul, 1) := by decide +kernel
theorem dX12_chance_56 : decode cX12_chance 56 = .ok (.lstore 4, 2) := by decide +kernel
theorem dX12_chance_58 : decode cX12_chance 58 = .ok (.iinc 8 1, 3) := by decide +kernel
theorem dX12_chance_61 : decode cX12_chance 61 = .ok (.goto (-17), 3) := by decide +kernel
theorem dX12_chance_64 : decode cX12_chance 64 = .ok (.iconst 0, 1) := by decide +kernel
theorem dX12_chance_65 : decode cX12_chance 65 = .ok (.istore 8, 2) := by decide +kernel
theorem dX12_chance_67 : decode cX12_chance 67 = .ok (.iload 8, 2) := by decide +kernel
theorem dX12_chance_69 : decode cX12_chance 69 = .ok (.iconst 1, 1) := by decide +kernel
theorem dX12_chance_70 : decode cX12_chance 70 = .ok (.iload_n 2, 1) := by decide +kernel
theorem dX12_chance_71 : decode cX12_chance 71 = .ok (.ishl, 1) := by decide +kernel
theorem dX12_chance_72 : decode cX12_chance 72 = .ok (.if_icmp .ge 109, 3) := by decide +kernel
theorem dX12_chance_75 : decode cX12_chance 75 = .ok (.aload_n 0, 1) := by decide +kernel
theorem dX12_chance_76 : decode cX12_chance 76 = .ok (.invokevirtual 372, 3) := by decide +kernel
theorem dX12_chance_79 : decode cX12_chance 79 = .ok (.lconst 1, 1) := by decide +kernel
theorem dX12_chance_80 : decode cX12_chance 80 = .ok (.lstore 9, 2) := by decide +kernel
theorem dX12_chance_82 : decode cX12_chance 82 = .ok (.iconst 0, 1) := by decide +kernel
theorem dX12_chance_83 : decode cX12_chance 83 = .ok (.istore 11, 2) := by decide +kernel
theorem dX12_chance_85 : decode cX12_chance 85 = .ok (.iload 11, 2) := by decide +kernel
theorem dX12_chance_87 : decode cX12_chance 87 = .ok (.iload_n 2, 1) := by decide +kernel
theorem dX12_chance_88 : decode cX12_chance 88 = .ok (.if_icmp .ge 65, 3) := by decide +kernel
theorem dX12_chance_91 : decode cX12_chance 91 = .ok (.iload 8, 2) := by decide +kernel
theorem dX12_chance_93 : decode cX12_chance 93 = .ok (.iload 11, 2) := by decide +kernel
theorem dX12_chance_95 : decode cX12_chance 95 = .ok (.ishr, 1) := by decide +kernel
theorem dX12_chance_96 : decode cX12_chance 96 = .ok (.iconst 1, 1) := by decide +kernel
theorem dX12_chance_97 : decode cX12_chance 97 = .ok (.iand, 1) := by decide +kernel
theorem dX12_chance_98 : decode cX12_chance 98 = .ok (.iconst 1, 1) := by decide +kernel
theorem dX12_chance_99 : decode cX12_chance 99 = .ok (.if_icmp .ne 7, 3) := by decide +kernel
theorem dX12_chance_102 : decode cX12_chance 102 = .ok (.iconst 1, 1) := by decide +kernel
theorem dX12_chance_103 : decode cX12_chance 103 = .ok (.goto 4, 3) := by decide +kernel
theorem dX12_chance_106 : decode cX12_chance 106 = .ok (.iconst 0, 1) := by decide +kernel
theorem dX12_chance_107 : decode cX12_chance 107 = .ok (.istore 12, 2) := by decide +kernel
theorem dX12_chance_109 : decode cX12_chance 109 = .ok (.lload 9, 2) := by decide +kernel
theorem dX12_chance_111 : decode cX12_chance 111 = .ok (.iload 12, 2) := by decide +kernel
theorem dX12_chance_113 : decode cX12_chance 113 = .ok (.ifCond .eq 8, 3) := by decide +kernel
theorem dX12_chance_116 : decode cX12_chance 116 = .ok (.iload_n 3, 1) := by decide +kernel
theorem dX12_chance_117 : decode cX12_chance 117 = .ok (.i2l, 1) := by decide +kernel
theorem dX12_chance_118 : decode cX12_chance 118 = .ok (.goto 8, 3) := by decide +kernel
theorem dX12_chance_121 : decode cX12_chance 121 = .ok (.bipush 10, 2) := by decide +kernel
theorem dX12_chance_123 : decode cX12_chance 123 = .ok (.iload_n 3, 1) := by decide +kernel
theorem dX12_chance_124 : decode cX12_chance 124 = .ok (.isub, 1) := by decide +kernel
theorem dX12_chance_125 : decode cX12_chance 125 = .ok (.i2l, 1) := by decide +kernel
theorem dX12_chance_126 : decode cX12_chance 126 = .ok (.lmul, 1) := by decide +kernel
theorem dX12_chance_127 : decode cX12_chance 127 = .ok (.lstore 9, 2) := by decide +kernel
theorem dX12_chance_129 : decode cX12_chance 129 = .ok (.aload_n 0, 1) := by decide +kernel
theorem dX12_chance_130 : decode cX12_chance 130 = .ok (.sipush 1365, 3) := by decide +kernel
theorem dX12_chance_133 : decode cX12_chance 133 = .ok (.iload 12, 2) := by decide +kernel
theorem dX12_chance_135 : decode cX12_chance 135 = .ok (.ifCond .eq 8, 3) := by decide +kernel
theorem dX12_chance_138 : decode cX12_chance 138 = .ok (.bipush 9, 2) := by decide +kernel
theorem dX12_chance_140 : decode cX12_chance 140 = .ok (.goto 4, 3) := by decide +kernel
theorem dX12_chance_143 : decode cX12_chance 143 = .ok (.iconst 0, 1) := by decide +kernel
theorem dX12_chance_144 : decode cX12_chance 144 = .ok (.invokevirtual 313, 3) := by decide +kernel
theorem dX12_chance_147 : decode cX12_chance 147 = .ok (.iinc 11 1, 3) := by decide +kernel
theorem dX12_chance_150 : decode cX12_chance 150 = .ok (.goto (-65), 3) := by decide +kernel
theorem dX12_chance_153 : decode cX12_chance 153 = .ok (.lload 6, 2) := by decide +kernel
theorem dX12_chance_155 : decode cX12_chance 155 = .ok (.aload_n 0, 1) := by decide +kernel
theorem dX12_chance_156 : decode cX12_chance 156 = .ok (.sipush 1365, 3) := by decide +kernel
theorem dX12_chance_159 : decode cX12_chance 159 = .ok (.iload_n 1, 1) := by decide +kernel
theorem dX12_chance_160 : decode cX12_chance 160 = .ok (.invokevirtual 301, 3) := by decide +kernel
theorem dX12_chance_163 : decode cX12_chance 163 = .ok (.ifCond .eq 8, 3) := by decide +kernel
theorem dX12_chance_166 : decode cX12_chance 166 = .ok (.lload 9, 2) := by decide +kernel
theorem dX12_chance_168 : decode cX12_chance 168 = .ok (.goto 4, 3) := by decide +kernel
theorem dX12_chance_171 : decode cX12_chance 171 = .ok (.lconst 0, 1) := by decide +kernel
theorem dX12_chance_172 : decode cX12_chance 172 = .ok (.ladd, 1) := by decide +kernel
theorem dX12_chance_173 : decode cX12_chance 173 = .ok (.lstore 6, 2) := by decide +kernel
theorem dX12_chance_175 : decode cX12_chance 175 = .ok (.iinc 8 1, 3) := by decide +kernel
theorem dX12_chance_178 : decode cX12_chance 178 = .ok (.goto (-111), 3) := by decide +kernel
theorem dX12_chance_181 : decode cX12_chance 181 = .ok (.lload 6, 2) := by decide +kernel
theorem dX12_chance_183 : decode cX12_chance 183 = .ok (.ldc2_w 395, 3) := by decide +kernel
theorem dX12_chance_186 : decode cX12_chance 186 = .ok (.lmul, 1) := by decide +kernel
theorem dX12_chance_187 : decode cX12_chance 187 = .ok (.lload 4, 2) := by decide +kernel
theorem dX12_chance_189 : decode cX12_chance 189 = .ok (.ldiv, 1) := by decide +kernel
theorem dX12_chance_190 : decode cX12_chance 190 = .ok (.l2i, 1) := by decide +kernel
theorem dX12_chance_191 : decode cX12_chance 191 = .ok (.ireturn, 1) := by decide +kernel
def f_X12_chance_144 (w : Nat) (k67 : Nat → Int32 → Int32 → Int32 → Int64 → Int64 → Int32 → mM → Option (Int32 × mM)) (k85 : Nat → Int32 → Int32 → Int32 → Int64 → Int64 → Int32 → Int64 → Int32 → mM → Option (Int32 × mM)) (o0 : Nat) (x1 : Int32) (x2 : Int32) (x3 : Int32) (x4 : Int64) (x6 : Int64) (x8 : Int32) (x9 : Int64) (x11 : Int32) (xs0 : Int32) (xs1 : Int32) (os2 : Nat) (M : mM) : Option (Int32 × mM) := bV (f_X12_passes w os2 xs1 xs0 M) fun M1 => (k85 o0 x1 x2 x3 x4 x6 x8 x9 (x11 + 1) M1)
set_option maxHeartbeats 4000000 in
set_option maxRecDepth 100000 in
theorem s_X12_chance_144 {l : Launch} {G : mG} {sk : List mS} (w : Nat) (k67 : Nat → Int32 → Int32 → Int32 → Int64 → Int64 → Int32 → mM → Option (Int32 × mM)) (hk67 : ∀ (o0 : Nat) (h0 : isK o0 22) (x1 : Int32) (x2 : Int32) (x3 : Int32) (x4 : Int64) (x6 : Int64) (x8 : Int32) (M : mM), Go muX12_chance (rm 4) 0 0 l G sk (mFin G sk eI) (k67 o0 x1 x2 x3 x4 x6 x8 M) 67 [(0, .ref (gB G + o0)), (1, .int x1), (2, .int x2), (3, .int x3), (4, .long x4), (6, .long x6), (8, .int x8)] [] M) (k85 : Nat → Int32 → Int32 → Int32 → Int64 → Int64 → Int32 → Int64 → Int32 → mM → Option (Int32 × mM)) (hk85 : ∀ (o0 : Nat) (h0 : isK o0 22) (x1 : Int32) (x2 : Int32) (x3 : Int32) (x4 : Int64) (x6 : Int64) (x8 : Int32) (x9 : Int64) (x11 : Int32) (M : mM), Go muX12_chance (rm 4) 0 0 l G sk (mFin G sk eI) (k85 o0 x1 x2 x3 x4 x6 x8 x9 x11 M) 85 [(0, .ref (gB G + o0)), (1, .int x1), (2, .int x2), (3, .int x3), (4, .long x4), (6, .long x6), (8, .int x8), (9, .long x9), (11, .int x11)] [] M) (o0 : Nat) (h0 : isK o0 22) (x1 : Int32) (x2 : Int32) (x3 : Int32) (x4 : Int64) (x6 : Int64) (x8 : Int32) (x9 : Int64) (x11 : Int32) (xs0 : Int32) (xs1 : Int32) (os2 : Nat) (hs2 : isK os2 22) (M : mM) : Go muX12_chance (rm 4) 0 0 l G sk (mFin G sk eI) (f_X12_chance_144 w k67 k85 o0 x1 x2 x3 x4 x6 x8 x9 x11 xs0 xs1 os2 M) 144 [(0, .ref (gB G + o0)), (1, .int x1), (2, .int x2), (3, .int x3), (4, .long x4), (6, .long x6), (8, .int x8), (9, .long x9), (11, .int x11)] [.int xs0, .int xs1, .ref (gB G + os2)] M := by
  unfold f_X12_chance_144
  refine go_cVV2 3 clX12 cwX12_313 (m_X12_passes w os2 hs2 xs1 xs0 M) hs2 147 dX12_chance_144 rfl ⟨Nat.le_of_ble_eq_true rfl, Nat.le_of_ble_eq_true rfl⟩ ⟨Nat.zero_le _, Nat.zero_le _⟩ (Nat.le_of_ble_eq_true rfl) (fun M1 _ => ?_)
  refine go_iinc (x11 + 1) 8 [(11, .int (x11 + 1)), (0, .ref (gB G + o0)), (1, .int x1), (2, .int x2), (3, .int x3), (4, .long x4), (6, .long x6), (8, .int x8), (9, .long x9)] 150 dX12_chance_147 rfl rfl rfl (by decide) rfl ?_
  refine go_goto 85 dX12_chance_150 (by decide) ?_
  exact go_lv [1, 2, 3, 4, 5, 6, 7, 8, 0] rfl (hk85 o0 h0 x1 x2 x3 x4 x6 x8 x9 (x11 + 1) M1)
def f_X12_chance_126 (w : Nat) (k67 : Nat → Int32 → Int32 → Int32 → Int64 → Int64 → Int32 → mM → Option (Int32 × mM)) (k85 : Nat → Int32 → Int32 → Int32 → Int64 → Int64 → Int32 → Int64 → Int32 → mM → Option (Int32 × mM)) (o0 : Nat) (x1 : Int32) (x2 : Int32) (x3 : Int32) (x4 : Int64) (x6 : Int64) (x8 : Int32) (x11 : Int32) (x12 : Int32) (xs0 : Int64) (xs1 : Int64) (M : mM) : Option (Int32 × mM) := lt (xs1 * xs0) fun y1 => (if x12 = 0 then (f_X12_chance_144 w k67 k85 o0 x1 x2 x3 x4 x6 x8 y1 x11 0 1365 o0 M) else (f_X12_chance_144 w k67 k85 o0 x1 x2 x3 x4 x6 x8 y1 x11 9 1365 o0 M))
set_option maxHeartbeats 4000000 in
set_option maxRecDepth 100000 in
theorem s_X12_chance_126 {l : Launch} {G : mG} {sk : List mS} (w : Nat) (k67 : Nat → Int32 → Int32 → Int32 → Int64 → Int64 → Int32 → mM → Option (Int32 × mM)) (hk67 : ∀ (o0 : Nat) (h0 : isK o0 22) (x1 : Int32) (x2 : Int32) (x3 : Int32) (x4 : Int64) (x6 : Int64) (x8 : Int32) (M : mM), Go muX12_chance (rm 4) 0 0 l G sk (mFin G sk eI) (k67 o0 x1 x2 x3 x4 x6 x8 M) 67 [(0, .ref (gB G + o0)), (1, .int x1), (2, .int x2), (3, .int x3), (4, .long x4), (6, .long x6), (8, .int x8)] [] M) (k85 : Nat → Int32 → Int32 → Int32 → Int64 → Int64 → Int32 → Int64 → Int32 → mM → Option (Int32 × mM)) (hk85 : ∀ (o0 : Nat) (h0 : isK o0 22) (x1 : Int32) (x2 : Int32) (x3 : Int32) (x4 : Int64) (x6 : Int64) (x8 : Int32) (x9 : Int64) (x11 : Int32) (M : mM), Go muX12_chance (rm 4) 0 0 l G sk (mFin G sk eI) (k85 o0 x1 x2 x3 x4 x6 x8 x9 x11 M) 85 [(0, .ref (gB G + o0)), (1, .int x1), (2, .int x2), (3, .int x3), (4, .long x4), (6, .long x6), (8, .int x8), (9, .long x9), (11, .int x11)] [] M) (o0 : Nat) (h0 : isK o0 22) (x1 : Int32) (x2 : Int32) (x3 : Int32) (x4 : Int64) (x6 : Int64) (x8 : Int32) (x11 : Int32) (x12 : Int32) (xs0 : Int64) (xs1 : Int64) (M : mM) : Go muX12_chance (rm 4) 0 0 l G sk (mFin G sk eI) (f_X12_chance_126 w k67 k85 o0 x1 x2 x3 x4 x6 x8 x11 x12 xs0 xs1 M) 126 [(0, .ref (gB G + o0)), (1, .int x1), (2, .int x2), (3, .int x3), (4, .long x4), (6, .long x6), (8, .int x8), (11, .int x11), (12, .int x12)] [.long xs0, .long xs1] M := by
  unfold f_X12_chance_126
  refine go_lmul 127 dX12_chance_126 rfl ?_
  refine go_nmL (fun y1 => ?_)
  refine go_lstore [(9, .long y1), (0, .ref (gB G + o0)), (1, .int x1), (2, .int x2), (3, .int x3), (4, .long x4), (6, .long x6), (8, .int x8), (11, .int x11), (12, .int x12)] 129 dX12_chance_127 rfl (by decide) rfl ?_
  refine go_aload_n 1 130 dX12_chance_129 rfl rfl ?_
  refine go_sipush 1365 133 dX12_chance_130 rfl (by decide) ?_
  refine go_iload 9 135 dX12_chance_133 rfl rfl ?_
  refine go_if_eq 143 138 dX12_chance_135 rfl (by decide) (fun _ => ?_) (fun _ => ?_)
  · refine go_iconst 0 144 dX12_chance_143 rfl (by decide) ?_
    exact go_lv [1, 2, 3, 4, 5, 6, 7, 0, 8] rfl (s_X12_chance_144 w k67 hk67 k85 hk85 o0 h0 x1 x2 x3 x4 x6 x8 y1 x11 0 1365 o0 h0 M)
  · refine go_bipush 9 140 dX12_chance_138 rfl (by decide) ?_
    refine go_goto 144 dX12_chance_140 (by decide) ?_
    exact go_lv [1, 2, 3, 4, 5, 6, 7, 0, 8] rfl (s_X12_chance_144 w k67 hk67 k85 hk85 o0 h0 x1 x2 x3 x4 x6 x8 y1 x11 9 1365 o0 h0 M)
def f_X12_chance_107 (w : Nat) (k67 : Nat → Int32 → Int32 → Int32 → Int64 → Int64 → Int32 → mM → Option (Int32 × mM)) (k85 : Nat → Int32 → Int32 → Int32 → Int64 → Int64 → Int32 → Int64 → Int32 → mM → Option (Int32 × mM)) (o0 : Nat) (x1 : Int32) (x2 : Int32) (x3 : Int32) (x4 : Int64) (x6 : Int64) (x8 : Int32) (x9 : Int64) (x11 : Int32) (xs0 : Int32) (M : mM) : Option (Int32 × mM) := (if xs0 = 0 then (f_X12_chance_126 w k67 k85 o0 x1 x2 x3 x4 x6 x8 x11 xs0 ((10 - x3).toInt64) x9 M) else (f_X12_chance_126 w k67 k85 o0 x1 x2 x3 x4 x6 x8 x11 xs0 (x3.toInt64) x9 M))
set_option maxHeartbeats 4000000 in
set_option maxRecDepth 100000 in
theorem s_X12_chance_107 {l : Launch} {G : mG} {sk : List mS} (w : Nat) (k67 : Nat → Int32 → Int32 → Int32 → Int64 → Int64 → Int32 → mM → Option (Int32 × mM)) (hk67 : ∀ (o0 : Nat) (h0 : isK o0 22) (x1 : Int32) (x2 : Int32) (x3 : Int32) (x4 : Int64) (x6 : Int64) (x8 : Int32) (M : mM), Go muX12_chance (rm 4) 0 0 l G sk (mFin G sk eI) (k67 o0 x1 x2 x3 x4 x6 x8 M) 67 [(0, .ref (gB G + o0)), (1, .int x1), (2, .int x2), (3, .int x3), (4, .long x4), (6, .long x6), (8, .int x8)] [] M) (k85 : Nat → Int32 → Int32 → Int32 → Int64 → Int64 → Int32 → Int64 → Int32 → mM → Option (Int32 × mM)) (hk85 : ∀ (o0 : Nat) (h0 : isK o0 22) (x1 : Int32) (x2 : Int32) (x3 : Int32) (x4 : Int64) (x6 : Int64) (x8 : Int32) (x9 : Int64) (x11 : Int32) (M : mM), Go muX12_chance (rm 4) 0 0 l G sk (mFin G sk eI) (k85 o0 x1 x2 x3 x4 x6 x8 x9 x11 M) 85 [(0, .ref (gB G + o0)), (1, .int x1), (2, .int x2), (3, .int x3), (4, .long x4), (6, .long x6), (8, .int x8), (9, .long x9), (11, .int x11)] [] M) (o0 : Nat) (h0 : isK o0 22) (x1 : Int32) (x2 : Int32) (x3 : Int32) (x4 : Int64) (x6 : Int64) (x8 : Int32) (x9 : Int64) (x11 : Int32) (xs0 : Int32) (M : mM) : Go muX12_chance (rm 4) 0 0 l G sk (mFin G sk eI) (f_X12_chance_107 w k67 k85 o0 x1 x2 x3 x4 x6 x8 x9 x11 xs0 M) 107 [(0, .ref (gB G + o0)), (1, .int x1), (2, .int x2), (3, .int x3), (4, .long x4), (6, .long x6), (8, .int x8), (9, .long x9), (11, .int x11)] [.int xs0] M := by
  unfold f_X12_chance_107
  refine go_istore [(12, .int xs0), (0, .ref (gB G + o0)), (1, .int x1), (2, .int x2), (3, .int x3), (4, .long x4), (6, .long x6), (8, .int x8), (9, .long x9), (11, .int x11)] 109 dX12_chance_107 rfl (by decide) rfl ?_
  refine go_lload 8 111 dX12_chance_109 rfl rfl ?_
  refine go_iload 0 113 dX12_chance_111 rfl rfl ?_
  refine go_if_eq 121 116 dX12_chance_113 rfl (by decide) (fun _ => ?_) (fun _ => ?_)
  · refine go_bipush 10 123 dX12_chance_121 rfl (by decide) ?_
    refine go_iload_n 4 124 dX12_chance_123 rfl rfl ?_
    refine go_isub 125 dX12_chance_124 rfl ?_
    refine go_i2l 126 dX12_chance_125 rfl ?_
    exact go_lv [1, 2, 3, 4, 5, 6, 7, 9, 0] rfl (s_X12_chance_126 w k67 hk67 k85 hk85 o0 h0 x1 x2 x3 x4 x6 x8 x11 xs0 ((10 - x3).toInt64) x9 M)
  · refine go_iload_n 4 117 dX12_chance_116 rfl rfl ?_
    refine go_i2l 118 dX12_chance_117 rfl ?_
    refine go_goto 126 dX12_chance_118 (by decide) ?_
    exact go_lv [1, 2, 3, 4, 5, 6, 7, 9, 0] rfl (s_X12_chance_126 w k67 hk67 k85 hk85 o0 h0 x1 x2 x3 x4 x6 x8 x11 xs0 (x3.toInt64) x9 M)
def f_X12_chance_153 (w : Nat) (k67 : Nat → Int32 → Int32 → Int32 → Int64 → Int64 → Int32 → mM → Option (Int32 × mM)) (o0 : Nat) (x1 : Int32) (x2 : Int32) (x3 : Int32) (x4 : Int64) (x6 : Int64) (x8 : Int32) (x9 : Int64) (M : mM) : Option (Int32 × mM) := bI (f_X12_doesStick w o0 1365 x1 M) fun q2 M1 => (if q2 = 0 then lt (x6 + 0) fun y3 => (k67 o0 x1 x2 x3 x4 y3 (x8 + 1) M1) else lt (x6 + x9) fun y4 => (k67 o0 x1 x2 x3 x4 y4 (x8 + 1) M1))
set_option maxHeartbeats 4000000 in
set_option maxRecDepth 100000 in
theorem s_X12_chance_153 {l : Launch} {G : mG} {sk : List mS} (w : Nat) (k67 : Nat → Int32 → Int32 → Int32 → Int64 → Int64 → Int32 → mM → Option (Int32 × mM)) (hk67 : ∀ (o0 : Nat) (h0 : isK o0 22) (x1 : Int32) (x2 : Int32) (x3 : Int32) (x4 : Int64) (x6 : Int64) (x8 : Int32) (M : mM), Go muX12_chance (rm 4) 0 0 l G sk (mFin G sk eI) (k67 o0 x1 x2 x3 x4 x6 x8 M) 67 [(0, .ref (gB G + o0)), (1, .int x1), (2, .int x2), (3, .int x3), (4, .long x4), (6, .long x6), (8, .int x8)] [] M) (o0 : Nat) (h0 : isK o0 22) (x1 : Int32) (x2 : Int32) (x3 : Int32) (x4 : Int64) (x6 : Int64) (x8 : Int32) (x9 : Int64) (M : mM) : Go muX12_chance (rm 4) 0 0 l G sk (mFin G sk eI) (f_X12_chance_153 w k67 o0 x1 x2 x3 x4 x6 x8 x9 M) 153 [(0, .ref (gB G + o0)), (1, .int x1), (2, .int x2), (3, .int x3), (4, .long x4), (6, .long x6), (8, .int x8), (9, .long x9)] [] M := by
  unfold f_X12_chance_153
  refine go_lload 5 155 dX12_chance_153 rfl rfl ?_
  refine go_aload_n 0 156 dX12_chance_155 rfl rfl ?_
  refine go_sipush 1365 159 dX12_chance_156 rfl (by decide) ?_
  refine go_iload_n 1 160 dX12_chance_159 rfl rfl ?_
  refine go_cVI2 1 clX12 cwX12_301 (m_X12_doesStick w o0 h0 1365 x1 M) h0 163 dX12_chance_160 rfl ⟨Nat.le_of_ble_eq_true rfl, Nat.le_of_ble_eq_true rfl⟩ ⟨Nat.zero_le _, Nat.zero_le _⟩ (Nat.le_of_ble_eq_true rfl) (fun q2 M1 _ => ?_)
  refine go_if_eq 171 166 dX12_chance_163 rfl (by decide) (fun _ => ?_) (fun _ => ?_)
  · refine go_lconst 0 172 dX12_chance_171 rfl (by decide) ?_
    refine go_ladd 173 dX12_chance_172 rfl ?_
    refine go_nmL (fun y3 => ?_)
    refine go_lstore [(6, .long y3), (0, .ref (gB G + o0)), (1, .int x1), (2, .int x2), (3, .int x3), (4, .long x4), (8, .int x8), (9, .long x9)] 175 dX12_chance_173 rfl (by decide) rfl ?_
    refine go_iinc (x8 + 1) 6 [(8, .int (x8 + 1)), (6, .long y3), (0, .ref (gB G + o0)), (1, .int x1), (2, .int x2), (3, .int x3), (4, .long x4), (9, .long x9)] 178 dX12_chance_175 rfl rfl rfl (by decide) rfl ?_
    refine go_goto 67 dX12_chance_178 (by decide) ?_
    exact go_lv [2, 3, 4, 5, 6, 1, 0] rfl (hk67 o0 h0 x1 x2 x3 x4 y3 (x8 + 1) M1)
  · refine go_lload 7 168 dX12_chance_166 rfl rfl ?_
    refine go_goto 172 dX12_chance_168 (by decide) ?_
    refine go_ladd 173 dX12_chance_172 rfl ?_
    refine go_nmL (fun y4 => ?_)
    refine go_lstore [(6, .long y4), (0, .ref (gB G + o0)), (1, .int x1), (2, .int x2), (3, .int x3), (4, .long x4), (8, .int x8), (9, .long x9)] 175 dX12_chance_173 rfl (by decide) rfl ?_
    refine go_iinc (x8 + 1) 6 [(8, .int (x8 + 1)), (6, .long y4), (0, .ref (gB G + o0)), (1, .int x1), (2, .int x2), (3, .int x3), (4, .long x4), (9, .long x9)] 178 dX12_chance_175 rfl rfl rfl (by decide) rfl ?_
    refine go_goto 67 dX12_chance_178 (by decide) ?_
    exact go_lv [2, 3, 4, 5, 6, 1, 0] rfl (hk67 o0 h0 x1 x2 x3 x4 y4 (x8 + 1) M1)
def f_X12_chance_85 (w : Nat) (k67 : Nat → Int32 → Int32 → Int32 → Int64 → Int64 → Int32 → mM → Option (Int32 × mM)) : Nat → Nat → Int32 → Int32 → Int32 → Int64 → Int64 → Int32 → Int64 → Int32 → mM → Option (Int32 × mM)
  | 0, _, _, _, _, _, _, _, _, _, _ => none
  | n + 1, o0, x1, x2, x3, x4, x6, x8, x9, x11, M => (if x2 ≤ x11 then (f_X12_chance_153 w k67 o0 x1 x2 x3 x4 x6 x8 x9 M) else (if ((x8 >>> (x11 &&& 31)) &&& 1) = 1 then (f_X12_chance_107 w k67 (f_X12_chance_85 w k67 n) o0 x1 x2 x3 x4 x6 x8 x9 x11 1 M) else (f_X12_chance_107 w k67 (f_X12_chance_85 w k67 n) o0 x1 x2 x3 x4 x6 x8 x9 x11 0 M)))
set_option maxHeartbeats 4000000 in
set_option maxRecDepth 100000 in
theorem s_X12_chance_85 {l : Launch} {G : mG} {sk : List mS} (w : Nat) (k67 : Nat → Int32 → Int32 → Int32 → Int64 → Int64 → Int32 → mM → Option (Int32 × mM)) (hk67 : ∀ (o0 : Nat) (h0 : isK o0 22) (x1 : Int32) (x2 : Int32) (x3 : Int32) (x4 : Int64) (x6 : Int64) (x8 : Int32) (M : mM), Go muX12_chance (rm 4) 0 0 l G sk (mFin G sk eI) (k67 o0 x1 x2 x3 x4 x6 x8 M) 67 [(0, .ref (gB G + o0)), (1, .int x1), (2, .int x2), (3, .int x3), (4, .long x4), (6, .long x6), (8, .int x8)] [] M) : ∀ (n : Nat) (o0 : Nat) (h0 : isK o0 22) (x1 : Int32) (x2 : Int32) (x3 : Int32) (x4 : Int64) (x6 : Int64) (x8 : Int32) (x9 : Int64) (x11 : Int32) (M : mM), Go muX12_chance (rm 4) 0 0 l G sk (mFin G sk eI) (f_X12_chance_85 w k67 n o0 x1 x2 x3 x4 x6 x8 x9 x11 M) 85 [(0, .ref (gB G + o0)), (1, .int x1), (2, .int x2), (3, .int x3), (4, .long x4), (6, .long x6), (8, .int x8), (9, .long x9), (11, .int x11)] [] M := by
  intro n
  induction n with
  | zero =>
    intros
    exact go_none
  | succ n ih =>
    intro o0 h0 x1 x2 x3 x4 x6 x8 x9 x11 M
    rw [f_X12_chance_85]
    refine go_iload 8 87 dX12_chance_85 rfl rfl ?_
    refine go_iload_n 2 88 dX12_chance_87 rfl rfl ?_
    refine go_icmp_ge 153 91 dX12_chance_88 rfl (by decide) (fun _ => ?_) (fun _ => ?_)
    · exact go_lv [0, 1, 2, 3, 4, 5, 6, 7] rfl (s_X12_chance_153 w k67 hk67 o0 h0 x1 x2 x3 x4 x6 x8 x9 M)
    · refine go_iload 6 93 dX12_chance_91 rfl rfl ?_
      refine go_iload 8 95 dX12_chance_93 rfl rfl ?_
      refine go_ishr 96 dX12_chance_95 rfl ?_
      refine go_iconst 1 97 dX12_chance_96 rfl (by decide) ?_
      refine go_iand 98 dX12_chance_97 rfl ?_
      refine go_iconst 1 99 dX12_chance_98 rfl (by decide) ?_
      refine go_icmp_ne 106 102 dX12_chance_99 rfl (by decide) (fun _ => ?_) (fun _ => ?_)
      · refine go_iconst 0 107 dX12_chance_106 rfl (by decide) ?_
        exact go_lv [0, 1, 2, 3, 4, 5, 6, 7, 8] rfl (s_X12_chance_107 w k67 hk67 (f_X12_chance_85 w k67 n) (fun o0 h0 x1 x2 x3 x4 x6 x8 x9 x11 M => ih o0 h0 x1 x2 x3 x4 x6 x8 x9 x11 M) o0 h0 x1 x2 x3 x4 x6 x8 x9 x11 0 M)
      · refine go_iconst 1 103 dX12_chance_102 rfl (by decide) ?_
        refine go_goto 107 dX12_chance_103 (by decide) ?_
        exact go_lv [0, 1, 2, 3, 4, 5, 6, 7, 8] rfl (s_X12_chance_107 w k67 hk67 (f_X12_chance_85 w k67 n) (fun o0 h0 x1 x2 x3 x4 x6 x8 x9 x11 M => ih o0 h0 x1 x2 x3 x4 x6 x8 x9 x11 M) o0 h0 x1 x2 x3 x4 x6 x8 x9 x11 1 M)
def f_X12_chance_181 (w : Nat) (x4 : Int64) (x6 : Int64) (M : mM) : Option (Int32 × mM) := if x4 = 0 then none else (some ((((x6 * 1000000) / x4).toInt32), M))
set_option maxHeartbeats 4000000 in
set_option maxRecDepth 100000 in
theorem s_X12_chance_181 {l : Launch} {G : mG} {sk : List mS} (w : Nat) (x4 : Int64) (x6 : Int64) (M : mM) : Go muX12_chance (rm 4) 0 0 l G sk (mFin G sk eI) (f_X12_chance_181 w x4 x6 M) 181 [(4, .long x4), (6, .long x6)] [] M := by
  unfold f_X12_chance_181
  refine go_lload 1 183 dX12_chance_181 rfl rfl ?_
  refine go_ldc2 klX12_395 186 dX12_chance_183 rfl ?_
  refine go_lmul 187 dX12_chance_186 rfl ?_
  refine go_lload 0 189 dX12_chance_187 rfl rfl ?_
  refine go_ldiv 190 dX12_chance_189 rfl ?_
  refine go_l2i 191 dX12_chance_190 rfl ?_
  exact go_iret rfl dX12_chance_191
def f_X12_chance_67 (w : Nat) : Nat → Nat → Int32 → Int32 → Int32 → Int64 → Int64 → Int32 → mM → Option (Int32 × mM)
  | 0, _, _, _, _, _, _, _, _ => none
  | n + 1, o0, x1, x2, x3, x4, x6, x8, M => (if ((1 : Int32) <<< (x2 &&& 31)) ≤ x8 then (f_X12_chance_181 w x4 x6 M) else bV (f_X12_triesNow w o0 M) fun M1 => (f_X12_chance_85 w (f_X12_chance_67 w n) w o0 x1 x2 x3 x4 x6 x8 1 0 M1))
set_option maxHeartbeats 4000000 in
set_option maxRecDepth 100000 in
theorem s_X12_chance_67 {l : Launch} {G : mG} {sk : List mS} (w : Nat) : ∀ (n : Nat) (o0 : Nat) (h0 : isK o0 22) (x1 : Int32) (x2 : Int32) (x3 : Int32) (x4 : Int64) (x6 : Int64) (x8 : Int32) (M : mM), Go muX12_chance (rm 4) 0 0 l G sk (mFin G sk eI) (f_X12_chance_67 w n o0 x1 x2 x3 x4 x6 x8 M) 67 [(0, .ref (gB G + o0)), (1, .int x1), (2, .int x2), (3, .int x3), (4, .long x4), (6, .long x6), (8, .int x8)] [] M := by
  intro n
  induction n with
  | zero =>
    intros
    exact go_none
  | succ n ih =>
    intro o0 h0 x1 x2 x3 x4 x6 x8 M
    rw [f_X12_chance_67]
    refine go_iload 6 69 dX12_chance_67 rfl rfl ?_
    refine go_iconst 1 70 dX12_chance_69 rfl (by decide) ?_
    refine go_iload_n 2 71 dX12_chance_70 rfl rfl ?_
    refine go_ishl 72 dX12_chance_71 rfl ?_
    refine go_icmp_ge 181 75 dX12_chance_72 rfl (by decide) (fun _ => ?_) (fun _ => ?_)
    · exact go_lv [4, 5] rfl (s_X12_chance_181 w x4 x6 M)
    · refine go_aload_n 0 76 dX12_chance_75 rfl rfl ?_
      refine go_cVV0 1 clX12 cwX12_372 (m_X12_triesNow w o0 h0 M) h0 79 dX12_chance_76 rfl ⟨Nat.le_of_ble_eq_true rfl, Nat.le_of_ble_eq_true rfl⟩ ⟨Nat.zero_le _, Nat.zero_le _⟩ (Nat.le_of_ble_eq_true rfl) (fun M1 _ => ?_)
      refine go_lconst 1 80 dX12_chance_79 rfl (by decide) ?_
      refine go_lstore [(9, .long 1), (0, .ref (gB G + o0)), (1, .int x1), (2, .int x2), (3, .int x3), (4, .long x4), (6, .long x6), (8, .int x8)] 82 dX12_chance_80 rfl (by decide) rfl ?_
      refine go_iconst 0 83 dX12_chance_82 rfl (by decide) ?_
      refine go_istore [(11, .int 0), (9, .long 1), (0, .ref (gB G + o0)), (1, .int x1), (2, .int x2), (3, .int x3), (4, .long x4), (6, .long x6), (8, .int x8)] 85 dX12_chance_83 rfl (by decide) rfl ?_
      exact go_lv [2, 3, 4, 5, 6, 7, 8, 1, 0] rfl (s_X12_chance_85 w (f_X12_chance_67 w n) (fun o0 h0 x1 x2 x3 x4 x6 x8 M => ih o0 h0 x1 x2 x3 x4 x6 x8 M) w o0 h0 x1 x2 x3 x4 x6 x8 1 0 M1)
def f_X12_chance_64 (w : Nat) (o0 : Nat) (x1 : Int32) (x2 : Int32) (x3 : Int32) (x4 : Int64) (x6 : Int64) (M : mM) : Option (Int32 × mM) := (f_X12_chance_67 w w o0 x1 x2 x3 x4 x6 0 M)
set_option maxHeartbeats 4000000 in
set_option maxRecDepth 100000 in
theorem s_X12_chance_64 {l : Launch} {G : mG} {sk : List mS} (w : Nat) (o0 : Nat) (h0 : isK o0 22) (x1 : Int32) (x2 : Int32) (x3 : Int32) (x4 : Int64) (x6 : Int64) (M : mM) : Go muX12_chance (rm 4) 0 0 l G sk (mFin G sk eI) (f_X12_chance_64 w o0 x1 x2 x3 x4 x6 M) 64 [(0, .ref (gB G + o0)), (1, .int x1), (2, .int x2), (3, .int x3), (4, .long x4), (6, .long x6)] [] M := by
  unfold f_X12_chance_64
  refine go_iconst 0 65 dX12_chance_64 rfl (by decide) ?_
  refine go_istore [(8, .int 0), (0, .ref (gB G + o0)), (1, .int x1), (2, .int x2), (3, .int x3), (4, .long x4), (6, .long x6)] 67 dX12_chance_65 rfl (by decide) rfl ?_
  exact go_lv [1, 2, 3, 4, 5, 6, 0] rfl (s_X12_chance_67 w w o0 h0 x1 x2 x3 x4 x6 0 M)
def f_X12_chance_44 (w : Nat) : Nat → Nat → Int32 → Int32 → Int32 → Int64 → Int64 → Int32 → mM → Option (Int32 × mM)
  | 0, _, _, _, _, _, _, _, _ => none
  | n + 1, o0, x1, x2, x3, x4, x6, x8, M => (if x2 ≤ x8 then (f_X12_chance_64 w o0 x1 x2 x3 x4 x6 M) else lt (x4 * 10) fun y1 => (f_X12_chance_44 w n o0 x1 x2 x3 y1 x6 (x8 + 1) M))
set_option maxHeartbeats 4000000 in
set_option maxRecDepth 100000 in
theorem s_X12_chance_44 {l : Launch} {G : mG} {sk : List mS} (w : Nat) : ∀ (n : Nat) (o0 : Nat) (h0 : isK o0 22) (x1 : Int32) (x2 : Int32) (x3 : Int32) (x4 : Int64) (x6 : Int64) (x8 : Int32) (M : mM), Go muX12_chance (rm 4) 0 0 l G sk (mFin G sk eI) (f_X12_chance_44 w n o0 x1 x2 x3 x4 x6 x8 M) 44 [(0, .ref (gB G + o0)), (1, .int x1), (2, .int x2), (3, .int x3), (4, .long x4), (6, .long x6), (8, .int x8)] [] M := by
  intro n
  induction n with
  | zero =>
    intros
    exact go_none
  | succ n ih =>
    intro o0 h0 x1 x2 x3 x4 x6 x8 M
    rw [f_X12_chance_44]
    refine go_iload 6 46 dX12_chance_44 rfl rfl ?_
    refine go_iload_n 2 47 dX12_chance_46 rfl rfl ?_
    refine go_icmp_ge 64 50 dX12_chance_47 rfl (by decide) (fun _ => ?_) (fun _ => ?_)
    · exact go_lv [0, 1, 2, 3, 4, 5] rfl (s_X12_chance_64 w o0 h0 x1 x2 x3 x4 x6 M)
    · refine go_lload 4 52 dX12_chance_50 rfl rfl ?_
      refine go_ldc2 klX12_155 55 dX12_chance_52 rfl ?_
      refine go_lmul 56 dX12_chance_55 rfl ?_
      refine go_nmL (fun y1 => ?_)
      refine go_lstore [(4, .long y1), (0, .ref (gB G + o0)), (1, .int x1), (2, .int x2), (3, .int x3), (6, .long x6), (8, .int x8)] 58 dX12_chance_56 rfl (by decide) rfl ?_
      refine go_iinc (x8 + 1) 6 [(8, .int (x8 + 1)), (4, .long y1), (0, .ref (gB G + o0)), (1, .int x1), (2, .int x2), (3, .int x3), (6, .long x6)] 61 dX12_chance_58 rfl rfl rfl (by decide) rfl ?_
      refine go_goto 44 dX12_chance_61 (by decide) ?_
      exact go_lv [2, 3, 4, 5, 1, 6, 0] rfl (ih o0 h0 x1 x2 x3 y1 x6 (x8 + 1) M)
def f_X12_chance (w : Nat) (o0 : Nat) (x1 : Int32) (x2 : Int32) (x3 : Int32) (M : mM) : Option (Int32 × mM) := lt (wI M o0 0 0) fun M1 => bI (f_X12_isDoor w o0 x1 M1) fun q3 M2 => (if q3 = 0 then some ((-1), M2) else bI (f_X12_within w x2 1 6 M2) fun q5 M4 => (if q5 = 0 then some ((-1), M4) else bI (f_X12_within w x3 0 10 M4) fun q7 M6 => (if q7 = 0 then some ((-1), M6) else (f_X12_chance_44 w w o0 x1 x2 x3 1 0 0 M6))))
set_option maxHeartbeats 4000000 in
set_option maxRecDepth 100000 in
theorem s_X12_chance {l : Launch} {G : mG} {sk : List mS} (w : Nat) (o0 : Nat) (h0 : isK o0 22) (x1 : Int32) (x2 : Int32) (x3 : Int32) (M : mM) : Go muX12_chance (rm 4) 0 0 l G sk (mFin G sk eI) (f_X12_chance w o0 x1 x2 x3 M) 0 [(0, .ref (gB G + o0)), (1, .int x1), (2, .int x2), (3, .int x3)] [] M := by
  unfold f_X12_chance
  refine go_aload_n 0 1 dX12_chance_0 rfl rfl ?_
  refine go_iconst 0 2 dX12_chance_1 rfl (by decide) ?_
  refine go_putI flX12_1 rfl rfl h0 5 dX12_chance_2 rfl ?_
  refine go_nmM (fun M1 => ?_)
  refine go_aload_n 0 6 dX12_chance_5 rfl rfl ?_
  refine go_iload_n 1 7 dX12_chance_6 rfl rfl ?_
  refine go_cVI1 1 clX12 cwX12_319 (m_X12_isDoor w o0 h0 x1 M1) h0 10 dX12_chance_7 rfl ⟨Nat.le_of_ble_eq_true rfl, Nat.le_of_ble_eq_true rfl⟩ ⟨Nat.zero_le _, Nat.zero_le _⟩ (Nat.le_of_ble_eq_true rfl) (fun q3 M2 _ => ?_)
  refine go_if_eq 33 13 dX12_chance_10 rfl (by decide) (fun _ => ?_) (fun _ => ?_)
  · refine go_iconst (-1) 34 dX12_chance_33 rfl (by decide) ?_
    exact go_iret rfl dX12_chance_34
  · refine go_iload_n 2 14 dX12_chance_13 rfl rfl ?_
    refine go_iconst 1 15 dX12_chance_14 rfl (by decide) ?_
    refine go_bipush 6 17 dX12_chance_15 rfl (by decide) ?_
    refine go_cSI3 0 cwX12_204 (m_X12_within w x2 1 6 M2) 20 dX12_chance_17 rfl ⟨Nat.le_of_ble_eq_true rfl, Nat.le_of_ble_eq_true rfl⟩ ⟨Nat.zero_le _, Nat.zero_le _⟩ (Nat.le_of_ble_eq_true rfl) (fun q5 M4 _ => ?_)
    refine go_if_eq 33 23 dX12_chance_20 rfl (by decide) (fun _ => ?_) (fun _ => ?_)
    · refine go_iconst (-1) 34 dX12_chance_33 rfl (by decide) ?_
      exact go_iret rfl dX12_chance_34
    · refine go_iload_n 3 24 dX12_chance_23 rfl rfl ?_
      refine go_iconst 0 25 dX12_chance_24 rfl (by decide) ?_
      refine go_bipush 10 27 dX12_chance_25 rfl (by decide) ?_
      refine go_cSI3 0 cwX12_204 (m_X12_within w x3 0 10 M4) 30 dX12_chance_27 rfl ⟨Nat.le_of_ble_eq_true rfl, Nat.le_of_ble_eq_true rfl⟩ ⟨Nat.zero_le _, Nat.zero_le _⟩ (Nat.le_of_ble_eq_true rfl) (fun q7 M6 _ => ?_)
      refine go_if_ne 35 33 dX12_chance_30 rfl (by decide) (fun _ => ?_) (fun _ => ?_)
      · refine go_lconst 1 36 dX12_chance_35 rfl (by decide) ?_
        refine go_lstore [(4, .long 1), (0, .ref (gB G + o0)), (1, .int x1), (2, .int x2), (3, .int x3)] 38 dX12_chance_36 rfl (by decide) rfl ?_
        refine go_lconst 0 39 dX12_chance_38 rfl (by decide) ?_
        refine go_lstore [(6, .long 0), (4, .long 1), (0, .ref (gB G + o0)), (1, .int x1), (2, .int x2), (3, .int x3)] 41 dX12_chance_39 rfl (by decide) rfl ?_
        refine go_iconst 0 42 dX12_chance_41 rfl (by decide) ?_
        refine go_istore [(8, .int 0), (6, .long 0), (4, .long 1), (0, .ref (gB G + o0)), (1, .int x1), (2, .int x2), (3, .int x3)] 44 dX12_chance_42 rfl (by decide) rfl ?_
        exact go_lv [3, 4, 5, 6, 2, 1, 0] rfl (s_X12_chance_44 w w o0 h0 x1 x2 x3 1 0 0 M6)
      · refine go_iconst (-1) 34 dX12_chance_33 rfl (by decide) ?_
        exact go_iret rfl dX12_chance_34
theorem m_X12_chance {l : Launch} {G : mG} {sk : List mS} (w : Nat) (o0 : Nat) (h0 : isK o0 22) (x1 : Int32) (x2 : Int32) (x3 : Int32) (M : mM) : Mt l G sk yX12_chance muX12_chance 4 [.ref (gB G + o0), .int x1, .int x2, .int x3] M eI (f_X12_chance w o0 x1 x2 x3 M) := Mt.of (by decide) rfl (Nat.le_of_ble_eq_true rfl) (s_X12_chance w o0 h0 x1 x2 x3 M)
theorem dX12_getsBy_0 : decode cX12_getsBy 0 = .ok (.iload_n 0, 1) := by decide +kernel
theorem dX12_getsBy_1 : decode cX12_getsBy 1 = .ok (.iconst 1, 1) := by decide +kernel
theorem dX12_getsBy_2 : decode cX12_getsBy 2 = .ok (.if_icmp .ne 17, 3) := by decide +kernel
theorem dX12_getsBy_5 : decode cX12_getsBy 5 = .ok (.iload_n 1, 1) := by decide +kernel
theorem dX12_getsBy_6 : decode cX12_getsBy 6 = .ok (.iconst 1, 1) := by decide +kernel
theorem dX12_getsBy_7 : decode cX12_getsBy 7 = .ok (.if_icmp .ne 8, 3) := by decide +kernel
theorem dX12_getsBy_10 : decode cX12_getsBy 10 = .ok (.iload_n 2, 1) := by decide +kernel
theorem dX12_getsBy_11 : decode cX12_getsBy 11 = .ok (.ineg, 1) := by decide +kernel
theorem dX12_getsBy_12 : decode cX12_getsBy 12 = .ok (.goto 18, 3) := by decide +kernel
theorem dX12_getsBy_15 : decode cX12_getsBy 15 = .ok (.iload_n 3, 1) := by decide +kernel
theorem dX12_getsBy_16 : decode cX12_getsBy 16 = .ok (.goto 14, 3) := by decide +kernel
theorem dX12_getsBy_19 : decode cX12_getsBy 19 = .ok (.iload_n 1, 1) := by decide +kernel
theorem dX12_getsBy_20 : decode cX12_getsBy 20 = .ok (.iconst 1, 1) := by decide +kernel
theorem dX12_getsBy_21 : decode cX12_getsBy 21 = .ok (.if_icmp .ne 8, 3) := by decide +kernel
theorem dX12_getsBy_24 : decode cX12_getsBy 24 = .ok (.iload 4, 2) := by decide +kernel
theorem dX12_getsBy_26 : decode cX12_getsBy 26 = .ok (.goto 4, 3) := by decide +kernel
theorem dX12_getsBy_29 : decode cX12_getsBy 29 = .ok (.iconst 0, 1) := by decide +kernel
theorem dX12_getsBy_30 : decode cX12_getsBy 30 = .ok (.ireturn, 1) := by decide +kernel
def f_X12_getsBy (w : Nat) (x0 : Int32) (x1 : Int32) (x2 : Int32) (x3 : Int32) (x4 : Int32) (M : mM) : Option (Int32 × mM) := (if x0 = 1 then (if x1 = 1 then some ((-x2), M) else some (x3, M)) else (if x1 = 1 then some (x4, M) else some (0, M)))
set_option maxHeartbeats 4000000 in
set_option maxRecDepth 100000 in
theorem s_X12_getsBy {l : Launch} {G : mG} {sk : List mS} (w : Nat) (x0 : Int32) (x1 : Int32) (x2 : Int32) (x3 : Int32) (x4 : Int32) (M : mM) : Go muX12_getsBy (rm 0) 0 0 l G sk (mFin G sk eI) (f_X12_getsBy w x0 x1 x2 x3 x4 M) 0 [(0, .int x0), (1, .int x1), (2, .int x2), (3, .int x3), (4, .int x4)] [] M := by
  unfold f_X12_getsBy
  refine go_iload_n 0 1 dX12_getsBy_0 rfl rfl ?_
  refine go_iconst 1 2 dX12_getsBy_1 rfl (by decide) ?_
  refine go_icmp_ne 19 5 dX12_getsBy_2 rfl (by decide) (fun _ => ?_) (fun _ => ?_)
  · refine go_iload_n 1 20 dX12_getsBy_19 rfl rfl ?_
    refine go_iconst 1 21 dX12_getsBy_20 rfl (by decide) ?_
    refine go_icmp_ne 29 24 dX12_getsBy_21 rfl (by decide) (fun _ => ?_) (fun _ => ?_)
    · refine go_iconst 0 30 dX12_getsBy_29 rfl (by decide) ?_
      exact go_iret rfl dX12_getsBy_30
    · refine go_iload 4 26 dX12_getsBy_24 rfl rfl ?_
      refine go_goto 30 dX12_getsBy_26 (by decide) ?_
      exact go_iret rfl dX12_getsBy_30
  · refine go_iload_n 1 6 dX12_getsBy_5 rfl rfl ?_
    refine go_iconst 1 7 dX12_getsBy_6 rfl (by decide) ?_
    refine go_icmp_ne 15 10 dX12_getsBy_7 rfl (by decide) (fun _ => ?_) (fun _ => ?_)
    · refine go_iload_n 3 16 dX12_getsBy_15 rfl rfl ?_
      refine go_goto 30 dX12_getsBy_16 (by decide) ?_
      exact go_iret rfl dX12_getsBy_30
    · refine go_iload_n 2 11 dX12_getsBy_10 rfl rfl ?_
      refine go_ineg 12 dX12_getsBy_11 rfl ?_
      refine go_goto 30 dX12_getsBy_12 (by decide) ?_
      exact go_iret rfl dX12_getsBy_30
theorem m_X12_getsBy {l : Launch} {G : mG} {sk : List mS} (w : Nat) (x0 : Int32) (x1 : Int32) (x2 : Int32) (x3 : Int32) (x4 : Int32) (M : mM) : Mt l G sk yX12_getsBy muX12_getsBy 0 [.int x0, .int x1, .int x2, .int x3, .int x4] M eI (f_X12_getsBy w x0 x1 x2 x3 x4 M) := Mt.of (by decide) rfl (Nat.le_of_ble_eq_true rfl) (s_X12_getsBy w x0 x1 x2 x3 x4 M)
theorem dX12_rests_0 : decode cX12_rests 0 = .ok (.iload_n 1, 1) := by decide +kernel
theorem dX12_rests_1 : decode cX12_rests 1 = .ok (.iconst 0, 1) := by decide +kernel
theorem dX12_rests_2 : decode cX12_rests 2 = .ok (.bipush 9, 2) := by decide +kernel
theorem dX12_rests_4 : decode cX12_rests 4 = .ok (.invokestatic 204, 3) := by decide +kernel
theorem dX12_rests_7 : decode cX12_rests 7 = .ok (.ifCond .eq 33, 3) := by decide +kernel
theorem dX12_rests_10 : decode cX12_rests 10 = .ok (.iload_n 2, 1) := by decide +kernel
theorem dX12_rests_11 : decode cX12_rests 11 = .ok (.iconst 0, 1) := by decide +kernel
theorem dX12_rests_12 : decode cX12_rests 12 = .ok (.bipush 9, 2) := by decide +kernel
theorem dX12_rests_14 : decode cX12_rests 14 = .ok (.invokestatic 204, 3) := by decide +kernel
theorem dX12_rests_17 : decode cX12_rests 17 = .ok (.ifCond .eq 23, 3) := by decide +kernel
theorem dX12_rests_20 : decode cX12_rests 20 = .ok (.iload_n 3, 1) := by decide +kernel
theorem dX12_rests_21 : decode cX12_rests 21 = .ok (.iconst 0, 1) := by decide +kernel
theorem dX12_rests_22 : decode cX12_rests 22 = .ok (.bipush 9, 2) := by decide +kernel
theorem dX12_rests_24 : decode cX12_rests 24 = .ok (.invokestatic 204, 3) := by decide +kernel
theorem dX12_rests_27 : decode cX12_rests 27 = .ok (.ifCond .eq 13, 3) := by decide +kernel
theorem dX12_rests_30 : decode cX12_rests 30 = .ok (.iload 4, 2) := by decide +kernel
theorem dX12_rests_32 : decode cX12_rests 32 = .ok (.iconst (-1), 1) := by decide +kernel
theorem dX12_rests_33 : decode cX12_rests 33 = .ok (.if_icmp .lt 7, 3) := by decide +kernel
theorem dX12_rests_36 : decode cX12_rests 36 = .ok (.iconst 1, 1) := by decide +kernel
theorem dX12_rests_37 : decode cX12_rests 37 = .ok (.goto 4, 3) := by decide +kernel
theorem dX12_rests_40 : decode cX12_rests 40 = .ok (.iconst 0, 1) := by decide +kernel
theorem dX12_rests_41 : decode cX12_rests 41 = .ok (.istore 5, 2) := by decide +kernel
theorem dX12_rests_43 : decode cX12_rests 43 = .ok (.iconst 0, 1) := by decide +kernel
theorem dX12_rests_44 : decode cX12_rests 44 = .ok (.istore 6, 2) := by decide +kernel
theorem dX12_rests_46 : decode cX12_rests 46 = .ok (.iconst (-1), 1) := by decide +kernel
theorem dX12_rests_47 : decode cX12_rests 47 = .ok (.istore 7, 2) := by decide +kernel
theorem dX12_rests_49 : decode cX12_rests 49 = .ok (.iconst 0, 1) := by decide +kernel
theorem dX12_rests_50 : decode cX12_rests 50 = .ok (.istore 8, 2) := by decide +kernel
theorem dX12_rests_52 : decode cX12_rests 52 = .ok (.iload 8, 2) := by decide +kernel
theorem dX12_rests_54 : decode cX12_rests 54 = .ok (.iconst 4, 1) := by decide +kernel
theorem dX12_rests_55 : decode cX12_rests 55 = .ok (.if_icmp .ge 119, 3) := by decide +kernel
theorem dX12_rests_58 : decode cX12_rests 58 = .ok (.iload 5, 2) := by decide +kernel
theorem dX12_rests_60 : decode cX12_rests 60 = .ok (.ifCond .eq 114, 3) := by decide +kernel
theorem dX12_rests_63 : decode cX12_rests 63 = .ok (.iload 8, 2) := by decide +kernel
theorem dX12_rests_65 : decode cX12_rests 65 = .ok (.iconst 2, 1) := by decide +kernel
theorem dX12_rests_66 : decode cX12_rests 66 = .ok (.idiv, 1) := by decide +kernel
theorem dX12_rests_67 : decode cX12_rests 67 = .ok (.istore 9, 2) := by decide +kernel
theorem dX12_rests_69 : decode cX12_rests 69 = .ok (.iload 8, 2) := by decide +kernel
theorem dX12_rests_71 : decode cX12_rests 71 = .ok (.iconst 2, 1) := by decide +kernel
theorem dX12_rests_72 : decode cX12_rests 72 = .ok (.irem, 1) := by decide +kernel
theorem dX12_rests_73 : decode cX12_rests 73 = .ok (.istore 10, 2) := by decide +kernel
theorem dX12_rests_75 : decode cX12_rests 75 = .ok (.iconst 1, 1) := by decide +kernel
theorem dX12_rests_76 : decode cX12_rests 76 = .ok (.iload 9, 2) := by decide +kernel
theorem dX12_rests_78 : decode cX12_rests 78 = .ok (.isub, 1) := by decide +kernel
theorem dX12_rests_79 : decode cX12_rests 79 = .ok (.iload 10, 2) := by decide +kernel
theorem dX12_rests_81 : decode cX12_rests 81 = .ok (.iload_n 1, 1) := by decide +kernel
theorem dX12_rests_82 : decode cX12_rests 82 = .ok (.iload_n 2, 1) := by decide +kernel
theorem dX12_rests_83 : decode cX12_rests 83 = .ok (.iload_n 3, 1) := by decide +kernel
theorem dX12_rests_84 : decode cX12_rests 84 = .ok (.invokestatic 397, 3) := by decide +kernel
theorem dX12_rests_87 : decode cX12_rests 87 = .ok (.iload 9, 2) := by decide +kernel
theorem dX12_rests_89 : decode cX12_rests 89 = .ok (.iload 10, 2) := by decide +kernel
theorem dX12_rests_91 : decode cX12_rests 91 = .ok (.iload_n 1, 1) := by decide +kernel
theorem dX12_rests_92 : decode cX12_rests 92 = .ok (.iload_n 2, 1) := by decide +kernel
theorem dX12_rests_93 : decode cX12_rests 93 = .ok (.iload_n 3, 1) := by decide +kernel
theorem dX12_rests_94 : decode cX12_rests 94 = .ok (.invokestatic 397, 3) := by decide +kernel
theorem dX12_rests_97 : decode cX12_rests 97 = .ok (.if_icmp .gt 32, 3) := by decide +kernel
theorem dX12_rests_100 : decode cX12_rests 100 = .ok (.iconst 1, 1) := by decide +kernel
theorem dX12_rests_101 : decode cX12_rests 101 = .ok (.iload 10, 2) := by decide +kernel
theorem dX12_rests_103 : decode cX12_rests 103 = .ok (.isub, 1) := by decide +kernel
theorem dX12_rests_104 : decode cX12_rests 104 = .ok (.iload 9, 2) := by decide +kernel
theorem dX12_rests_106 : decode cX12_rests 106 = .ok (.iload_n 1, 1) := by decide +kernel
theorem dX12_rests_107 : decode cX12_rests 107 = .ok (.iload_n 2, 1) := by decide +kernel
theorem dX12_rests_108 : decode cX12_rests 108 = .ok (.iload_n 3, 1) := by decide +kernel
theorem dX12_rests_109 : decode cX12_rests 109 = .ok (.invokestatic 397, 3) := by decide +kernel
theorem dX12_rests_112 : decode cX12_rests 112 = .ok (.iload 10, 2) := by decide +kernel
theorem dX12_rests_114 : decode cX12_rests 114 = .ok (.iload 9, 2) := by decide +kernel
theorem dX12_rests_116 : decode cX12_rests 116 = .ok (.iload_n 1, 1) := by decide +kernel
theorem dX12_rests_117 : decode cX12_rests 117 = .ok (.iload_n 2, 1) := by decide +kernel
theorem dX12_rests_118 : decode cX12_rests 118 = .ok (.iload_n 3, 1) := by decide +kernel
theorem dX12_rests_119 : decode cX12_rests 119 = .ok (.invokestatic 397, 3) := by decide +kernel
theorem dX12_rests_122 : decode cX12_rests 122 = .ok (.if_icmp .gt 7, 3) := by decide +kernel
theorem dX12_rests_125 : decode cX12_rests 125 = .ok (.iconst 1, 1) := by decide +kernel
theorem dX12_rests_126 : decode cX12_rests 126 = .ok (.goto 4, 3) := by decide +kernel
theorem dX12_rests_129 : decode cX12_rests 129 = .ok (.iconst 0, 1) := by decide +kernel
theorem dX12_rests_130 : decode cX12_rests 130 = .ok (.istore 11, 2) := by decide +kernel
theorem dX12_rests_132 : decode cX12_rests 132 = .ok (.iload 11, 2) := by decide +kernel
theorem dX12_rests_134 : decode cX12_rests 134 = .ok (.ifCond .eq 15, 3) := by decide +kernel
theorem dX12_rests_137 : decode cX12_rests 137 = .ok (.iload 6, 2) := by decide +kernel
theorem dX12_rests_139 : decode cX12_rests 139 = .ok (.iload 4, 2) := by decide +kernel
theorem dX12_rests_141 : decode cX12_rests 141 = .ok (.if_icmp .ne 8, 3) := by decide +kernel
theorem dX12_rests_144 : decode cX12_rests 144 = .ok (.iload 8, 2) := by decide +kernel
theorem dX12_rests_146 : decode cX12_rests 146 = .ok (.goto 5, 3) := by decide +kernel
theorem dX12_rests_149 : decode cX12_rests 149 = .ok (.iload 7, 2) := by decide +kernel
theorem dX12_rests_151 : decode cX12_rests 151 = .ok (.istore 7, 2) := by decide +kernel
theorem dX12_rests_153 : decode cX12_rests 153 = .ok (.iload 6, 2) := by decide +kernel
theorem dX12_rests_155 : decode cX12_rests 155 = .ok (.iload 11, 2) := by decide +kernel
theorem dX12_rests_157 : decode cX12_rests 157 = .ok (.ifCond .eq 7, 3) := by decide +kernel
theorem dX12_rests_160 : decode cX12_rests 160 = .ok (.iconst 1, 1) := by decide +kernel
theorem dX12_rests_161 : decode cX12_rests 161 = .ok (.goto 4, 3) := by decide +kernel
theorem dX12_rests_164 : decode cX12_rests 164 = .ok (.iconst 0, 1) := by decide +kernel
theorem dX12_rests_165 : decode cX12_rests 165 = .ok (.iadd, 1) := by decide +kernel
theorem dX12_rests_166 : decode cX12_rests 166 = .ok (.istore 6, 2) := by decide +kernel
theorem dX12_rests_168 : decode cX12_rests 168 = .ok (.iinc 8 1, 3) := by decide +kernel
theorem dX12_rests_171 : decode cX12_rests 171 = .ok (.goto (-119), 3) := by decide +kernel
theorem dX12_rests_174 : decode cX12_rests 174 = .ok (.aload_n 0, 1) := by decide +kernel
theorem dX12_rests_175 : decode cX12_rests 175 = .ok (.iload 5, 2) := by decide +kernel
theorem dX12_rests_177 : decode cX12_rests 177 = .ok (.ifCond .eq 17, 3) := by decide +kernel
theorem dX12_rests_180 : decode cX12_rests 180 = .ok (.iload 4, 2) := by decide +kernel
theorem dX12_rests_182 : decode cX12_rests 182 = .ok (.ifCond .lt 8, 3) := by decide +kernel
theorem dX12_rests_185 : decode cX12_rests 185 = .ok (.iload 7, 2) := by decide +kernel
theorem dX12_rests_187 : decode cX12_rests 187 = .ok (.ifCond .lt 7, 3) := by decide +kernel
theorem dX12_rests_190 : decode cX12_rests 190 = .ok (.iconst 0, 1) := by decide +kernel
theorem dX12_rests_191 : decode cX12_rests 191 = .ok (.goto 4, 3) := by decide +kernel
theorem dX12_rests_194 : decode cX12_rests 194 = .ok (.iconst 1, 1) := by decide +kernel
theorem dX12_rests_195 : decode cX12_rests 195 = .ok (.putfield 1, 3) := by decide +kernel
theorem dX12_rests_198 : decode cX12_rests 198 = .ok (.aload_n 0, 1) := by decide +kernel
theorem dX12_rests_199 : decode cX12_rests 199 = .ok (.getfield 1, 3) := by decide +kernel
theorem dX12_rests_202 : decode cX12_rests 202 = .ok (.ifCond .le 7, 3) := by decide +kernel
theorem dX12_rests_205 : decode cX12_rests 205 = .ok (.iconst 0, 1) := by decide +kernel
theorem dX12_rests_206 : decode cX12_rests 206 = .ok (.goto 15, 3) := by decide +kernel
theorem dX12_rests_209 : decode cX12_rests 209 = .ok (.iload 4, 2) := by decide +kernel
theorem dX12_rests_211 : decode cX12_rests 211 = .ok (.ifCond .ge 8, 3) := by decide +kernel
theorem dX12_rests_214 : decode cX12_rests 214 = .ok (.iload 6, 2) := by decide +kernel
theorem dX12_rests_216 : decode cX12_rests 216 = .ok (.goto 5, 3) := by decide +kernel
theorem dX12_rests_219 : decode cX12_rests 219 = .ok (.iload 7, 2) := by decide +kernel
theorem dX12_rests_221 : decode cX12_rests 221 = .ok (.ireturn, 1) := by decide +kernel
def f_X12_rests_151 (w : Nat) (k52 : Nat → Int32 → Int32 → Int32 → Int32 → Int32 → Int32 → Int32 → Int32 → mM → Option (Int32 × mM)) (o0 : Nat) (x1 : Int32) (x2 : Int32) (x3 : Int32) (x4 : Int32) (x5 : Int32) (x6 : Int32) (x8 : Int32) (x11 : Int32) (xs0 : Int32) (M : mM) : Option (Int32 × mM) := (if x11 = 0 then lt (x6 + 0) fun y1 => (k52 o0 x1 x2 x3 x4 x5 y1 xs0 (x8 + 1) M) else lt (x6 + 1) fun y2 => (k52 o0 x1 x2 x3 x4 x5 y2 xs0 (x8 + 1) M))
set_option maxHeartbeats 4000000 in
set_option maxRecDepth 100000 in
theorem s_X12_rests_151 {l : Launch} {G : mG} {sk : List mS} (w : Nat) (k52 : Nat → Int32 → Int32 → Int32 → Int32 → Int32 → Int32 → Int32 → Int32 → mM → Option (Int32 × mM)) (hk52 : ∀ (o0 : Nat) (h0 : isK o0 22) (x1 : Int32) (x2 : Int32) (x3 : Int32) (x4 : Int32) (x5 : Int32) (x6 : Int32) (x7 : Int32) (x8 : Int32) (M : mM), Go muX12_rests (rm 1) 0 0 l G sk (mFin G sk eI) (k52 o0 x1 x2 x3 x4 x5 x6 x7 x8 M) 52 [(0, .ref (gB G + o0)), (1, .int x1), (2, .int x2), (3, .int x3), (4, .int x4), (5, .int x5), (6, .int x6), (7, .int x7), (8, .int x8)] [] M) (o0 : Nat) (h0 : isK o0 22) (x1 : Int32) (x2 : Int32) (x3 : Int32) (x4 : Int32) (x5 : Int32) (x6 : Int32) (x8 : Int32) (x11 : Int32) (xs0 : Int32) (M : mM) : Go muX12_rests (rm 1) 0 0 l G sk (mFin G sk eI) (f_X12_rests_151 w k52 o0 x1 x2 x3 x4 x5 x6 x8 x11 xs0 M) 151 [(0, .ref (gB G + o0)), (1, .int x1), (2, .int x2), (3, .int x3), (4, .int x4), (5, .int x5), (6, .int x6), (8, .int x8), (11, .int x11)] [.int xs0] M := by
  unfold f_X12_rests_151
  refine go_istore [(7, .int xs0), (0, .ref (gB G + o0)), (1, .int x1), (2, .int x2), (3, .int x3), (4, .int x4), (5, .int x5), (6, .int x6), (8, .int x8), (11, .int x11)] 153 dX12_rests_151 rfl (by decide) rfl ?_
  refine go_iload 7 155 dX12_rests_153 rfl rfl ?_
  refine go_iload 9 157 dX12_rests_155 rfl rfl ?_
  refine go_if_eq 164 160 dX12_rests_157 rfl (by decide) (fun _ => ?_) (fun _ => ?_)
  · refine go_iconst 0 165 dX12_rests_164 rfl (by decide) ?_
    refine go_iadd 166 dX12_rests_165 rfl ?_
    refine go_nmI (fun y1 => ?_)
    refine go_istore [(6, .int y1), (7, .int xs0), (0, .ref (gB G + o0)), (1, .int x1), (2, .int x2), (3, .int x3), (4, .int x4), (5, .int x5), (8, .int x8), (11, .int x11)] 168 dX12_rests_166 rfl (by decide) rfl ?_
    refine go_iinc (x8 + 1) 8 [(8, .int (x8 + 1)), (6, .int y1), (7, .int xs0), (0, .ref (gB G + o0)), (1, .int x1), (2, .int x2), (3, .int x3), (4, .int x4), (5, .int x5), (11, .int x11)] 171 dX12_rests_168 rfl rfl rfl (by decide) rfl ?_
    refine go_goto 52 dX12_rests_171 (by decide) ?_
    exact go_lv [3, 4, 5, 6, 7, 8, 1, 2, 0] rfl (hk52 o0 h0 x1 x2 x3 x4 x5 y1 xs0 (x8 + 1) M)
  · refine go_iconst 1 161 dX12_rests_160 rfl (by decide) ?_
    refine go_goto 165 dX12_rests_161 (by decide) ?_
    refine go_iadd 166 dX12_rests_165 rfl ?_
    refine go_nmI (fun y2 => ?_)
    refine go_istore [(6, .int y2), (7, .int xs0), (0, .ref (gB G + o0)), (1, .int x1), (2, .int x2), (3, .int x3), (4, .int x4), (5, .int x5), (8, .int x8), (11, .int x11)] 168 dX12_rests_166 rfl (by decide) rfl ?_
    refine go_iinc (x8 + 1) 8 [(8, .int (x8 + 1)), (6, .int y2), (7, .int xs0), (0, .ref (gB G + o0)), (1, .int x1), (2, .int x2), (3, .int x3), (4, .int x4), (5, .int x5), (11, .int x11)] 171 dX12_rests_168 rfl rfl rfl (by decide) rfl ?_
    refine go_goto 52 dX12_rests_171 (by decide) ?_
    exact go_lv [3, 4, 5, 6, 7, 8, 1, 2, 0] rfl (hk52 o0 h0 x1 x2 x3 x4 x5 y2 xs0 (x8 + 1) M)
def f_X12_rests_149 (w : Nat) (k52 : Nat → Int32 → Int32 → Int32 → Int32 → Int32 → Int32 → Int32 → Int32 → mM → Option (Int32 × mM)) (o0 : Nat) (x1 : Int32) (x2 : Int32) (x3 : Int32) (x4 : Int32) (x5 : Int32) (x6 : Int32) (x7 : Int32) (x8 : Int32) (x11 : Int32) (M : mM) : Option (Int32 × mM) := (f_X12_rests_151 w k52 o0 x1 x2 x3 x4 x5 x6 x8 x11 x7 M)
set_option maxHeartbeats 4000000 in
set_option maxRecDepth 100000 in
theorem s_X12_rests_149 {l : Launch} {G : mG} {sk : List mS} (w : Nat) (k52 : Nat → Int32 → Int32 → Int32 → Int32 → Int32 → Int32 → Int32 → Int32 → mM → Option (Int32 × mM)) (hk52 : ∀ (o0 : Nat) (h0 : isK o0 22) (x1 : Int32) (x2 : Int32) (x3 : Int32) (x4 : Int32) (x5 : Int32) (x6 : Int32) (x7 : Int32) (x8 : Int32) (M : mM), Go muX12_rests (rm 1) 0 0 l G sk (mFin G sk eI) (k52 o0 x1 x2 x3 x4 x5 x6 x7 x8 M) 52 [(0, .ref (gB G + o0)), (1, .int x1), (2, .int x2), (3, .int x3), (4, .int x4), (5, .int x5), (6, .int x6), (7, .int x7), (8, .int x8)] [] M) (o0 : Nat) (h0 : isK o0 22) (x1 : Int32) (x2 : Int32) (x3 : Int32) (x4 : Int32) (x5 : Int32) (x6 : Int32) (x7 : Int32) (x8 : Int32) (x11 : Int32) (M : mM) : Go muX12_rests (rm 1) 0 0 l G sk (mFin G sk eI) (f_X12_rests_149 w k52 o0 x1 x2 x3 x4 x5 x6 x7 x8 x11 M) 149 [(0, .ref (gB G + o0)), (1, .int x1), (2, .int x2), (3, .int x3), (4, .int x4), (5, .int x5), (6, .int x6), (7, .int x7), (8, .int x8), (11, .int x11)] [] M := by
  unfold f_X12_rests_149
  refine go_iload 7 151 dX12_rests_149 rfl rfl ?_
  exact go_lv [0, 1, 2, 3, 4, 5, 6, 8, 9] rfl (s_X12_rests_151 w k52 hk52 o0 h0 x1 x2 x3 x4 x5 x6 x8 x11 x7 M)
def f_X12_rests_130 (w : Nat) (k52 : Nat → Int32 → Int32 → Int32 → Int32 → Int32 → Int32 → Int32 → Int32 → mM → Option (Int32 × mM)) (o0 : Nat) (x1 : Int32) (x2 : Int32) (x3 : Int32) (x4 : Int32) (x5 : Int32) (x6 : Int32) (x7 : Int32) (x8 : Int32) (xs0 : Int32) (M : mM) : Option (Int32 × mM) := (if xs0 = 0 then (f_X12_rests_149 w k52 o0 x1 x2 x3 x4 x5 x6 x7 x8 xs0 M) else (if x6 = x4 then (f_X12_rests_151 w k52 o0 x1 x2 x3 x4 x5 x6 x8 xs0 x8 M) else (f_X12_rests_149 w k52 o0 x1 x2 x3 x4 x5 x6 x7 x8 xs0 M)))
set_option maxHeartbeats 4000000 in
set_option maxRecDepth 100000 in
theorem s_X12_rests_130 {l : Launch} {G : mG} {sk : List mS} (w : Nat) (k52 : Nat → Int32 → Int32 → Int32 → Int32 → Int32 → Int32 → Int32 → Int32 → mM → Option (Int32 × mM)) (hk52 : ∀ (o0 : Nat) (h0 : isK o0 22) (x1 : Int32) (x2 : Int32) (x3 : Int32) (x4 : Int32) (x5 : Int32) (x6 : Int32) (x7 : Int32) (x8 : Int32) (M : mM), Go muX12_rests (rm 1) 0 0 l G sk (mFin G sk eI) (k52 o0 x1 x2 x3 x4 x5 x6 x7 x8 M) 52 [(0, .ref (gB G + o0)), (1, .int x1), (2, .int x2), (3, .int x3), (4, .int x4), (5, .int x5), (6, .int x6), (7, .int x7), (8, .int x8)] [] M) (o0 : Nat) (h0 : isK o0 22) (x1 : Int32) (x2 : Int32) (x3 : Int32) (x4 : Int32) (x5 : Int32) (x6 : Int32) (x7 : Int32) (x8 : Int32) (xs0 : Int32) (M : mM) : Go muX12_rests (rm 1) 0 0 l G sk (mFin G sk eI) (f_X12_rests_130 w k52 o0 x1 x2 x3 x4 x5 x6 x7 x8 xs0 M) 130 [(0, .ref (gB G + o0)), (1, .int x1), (2, .int x2), (3, .int x3), (4, .int x4), (5, .int x5), (6, .int x6), (7, .int x7), (8, .int x8)] [.int xs0] M := by
  unfold f_X12_rests_130
  refine go_istore [(11, .int xs0), (0, .ref (gB G + o0)), (1, .int x1), (2, .int x2), (3, .int x3), (4, .int x4), (5, .int x5), (6, .int x6), (7, .int x7), (8, .int x8)] 132 dX12_rests_130 rfl (by decide) rfl ?_
  refine go_iload 0 134 dX12_rests_132 rfl rfl ?_
  refine go_if_eq 149 137 dX12_rests_134 rfl (by decide) (fun _ => ?_) (fun _ => ?_)
  · exact go_lv [1, 2, 3, 4, 5, 6, 7, 8, 9, 0] rfl (s_X12_rests_149 w k52 hk52 o0 h0 x1 x2 x3 x4 x5 x6 x7 x8 xs0 M)
  · refine go_iload 7 139 dX12_rests_137 rfl rfl ?_
    refine go_iload 5 141 dX12_rests_139 rfl rfl ?_
    refine go_icmp_ne 149 144 dX12_rests_141 rfl (by decide) (fun _ => ?_) (fun _ => ?_)
    · exact go_lv [1, 2, 3, 4, 5, 6, 7, 8, 9, 0] rfl (s_X12_rests_149 w k52 hk52 o0 h0 x1 x2 x3 x4 x5 x6 x7 x8 xs0 M)
    · refine go_iload 9 146 dX12_rests_144 rfl rfl ?_
      refine go_goto 151 dX12_rests_146 (by decide) ?_
      exact go_lv [1, 2, 3, 4, 5, 6, 7, 9, 0] rfl (s_X12_rests_151 w k52 hk52 o0 h0 x1 x2 x3 x4 x5 x6 x8 xs0 x8 M)
def f_X12_rests_129 (w : Nat) (k52 : Nat → Int32 → Int32 → Int32 → Int32 → Int32 → Int32 → Int32 → Int32 → mM → Option (Int32 × mM)) (o0 : Nat) (x1 : Int32) (x2 : Int32) (x3 : Int32) (x4 : Int32) (x5 : Int32) (x6 : Int32) (x7 : Int32) (x8 : Int32) (M : mM) : Option (Int32 × mM) := (f_X12_rests_130 w k52 o0 x1 x2 x3 x4 x5 x6 x7 x8 0 M)
set_option maxHeartbeats 4000000 in
set_option maxRecDepth 100000 in
theorem s_X12_rests_129 {l : Launch} {G : mG} {sk : List mS} (w : Nat) (k52 : Nat → Int32 → Int32 → Int32 → Int32 → Int32 → Int32 → Int32 → Int32 → mM → Option (Int32 × mM)) (hk52 : ∀ (o0 : Nat) (h0 : isK o0 22) (x1 : Int32) (x2 : Int32) (x3 : Int32) (x4 : Int32) (x5 : Int32) (x6 : Int32) (x7 : Int32) (x8 : Int32) (M : mM), Go muX12_rests (rm 1) 0 0 l G sk (mFin G sk eI) (k52 o0 x1 x2 x3 x4 x5 x6 x7 x8 M) 52 [(0, .ref (gB G + o0)), (1, .int x1), (2, .int x2), (3, .int x3), (4, .int x4), (5, .int x5), (6, .int x6), (7, .int x7), (8, .int x8)] [] M) (o0 : Nat) (h0 : isK o0 22) (x1 : Int32) (x2 : Int32) (x3 : Int32) (x4 : Int32) (x5 : Int32) (x6 : Int32) (x7 : Int32) (x8 : Int32) (M : mM) : Go muX12_rests (rm 1) 0 0 l G sk (mFin G sk eI) (f_X12_rests_129 w k52 o0 x1 x2 x3 x4 x5 x6 x7 x8 M) 129 [(0, .ref (gB G + o0)), (1, .int x1), (2, .int x2), (3, .int x3), (4, .int x4), (5, .int x5), (6, .int x6), (7, .int x7), (8, .int x8)] [] M := by
  unfold f_X12_rests_129
  refine go_iconst 0 130 dX12_rests_129 rfl (by decide) ?_
  exact go_lv [0, 1, 2, 3, 4, 5, 6, 7, 8] rfl (s_X12_rests_130 w k52 hk52 o0 h0 x1 x2 x3 x4 x5 x6 x7 x8 0 M)
def f_X12_rests_195 (w : Nat) (o0 : Nat) (x4 : Int32) (x6 : Int32) (x7 : Int32) (xs0 : Int32) (os1 : Nat) (M : mM) : Option (Int32 × mM) := lt (wI M os1 0 xs0) fun M1 => (if (M1.1 o0 0) ≤ 0 then (if 0 ≤ x4 then some (x7, M1) else some (x6, M1)) else some (0, M1))
set_option maxHeartbeats 4000000 in
set_option maxRecDepth 100000 in
theorem s_X12_rests_195 {l : Launch} {G : mG} {sk : List mS} (w : Nat) (o0 : Nat) (h0 : isK o0 22) (x4 : Int32) (x6 : Int32) (x7 : Int32) (xs0 : Int32) (os1 : Nat) (hs1 : isK os1 22) (M : mM) : Go muX12_rests (rm 1) 0 0 l G sk (mFin G sk eI) (f_X12_rests_195 w o0 x4 x6 x7 xs0 os1 M) 195 [(0, .ref (gB G + o0)), (4, .int x4), (6, .int x6), (7, .int x7)] [.int xs0, .ref (gB G + os1)] M := by
  unfold f_X12_rests_195
  refine go_putI flX12_1 rfl rfl hs1 198 dX12_rests_195 rfl ?_
  refine go_nmM (fun M1 => ?_)
  refine go_aload_n 0 199 dX12_rests_198 rfl rfl ?_
  refine go_getI flX12_1 (by decide) h0 202 dX12_rests_199 rfl ?_
  refine go_if_le 209 205 dX12_rests_202 rfl (by decide) (fun _ => ?_) (fun _ => ?_)
  · refine go_iload 1 211 dX12_rests_209 rfl rfl ?_
    refine go_if_ge 219 214 dX12_rests_211 rfl (by decide) (fun _ => ?_) (fun _ => ?_)
    · refine go_iload 3 221 dX12_rests_219 rfl rfl ?_
      exact go_iret rfl dX12_rests_221
    · refine go_iload 2 216 dX12_rests_214 rfl rfl ?_
      refine go_goto 221 dX12_rests_216 (by decide) ?_
      exact go_iret rfl dX12_rests_221
  · refine go_iconst 0 206 dX12_rests_205 rfl (by decide) ?_
    refine go_goto 221 dX12_rests_206 (by decide) ?_
    exact go_iret rfl dX12_rests_221
def f_X12_rests_190 (w : Nat) (o0 : Nat) (x4 : Int32) (x6 : Int32) (x7 : Int32) (os0 : Nat) (M : mM) : Option (Int32 × mM) := (f_X12_rests_195 w o0 x4 x6 x7 0 os0 M)
set_option maxHeartbeats 4000000 in
set_option maxRecDepth 100000 in
theorem s_X12_rests_190 {l : Launch} {G : mG} {sk : List mS} (w : Nat) (o0 : Nat) (h0 : isK o0 22) (x4 : Int32) (x6 : Int32) (x7 : Int32) (os0 : Nat) (hs0 : isK os0 22) (M : mM) : Go muX12_rests (rm 1) 0 0 l G sk (mFin G sk eI) (f_X12_rests_190 w o0 x4 x6 x7 os0 M) 190 [(0, .ref (gB G + o0)), (4, .int x4), (6, .int x6), (7, .int x7)] [.ref (gB G + os0)] M := by
  unfold f_X12_rests_190
  refine go_iconst 0 191 dX12_rests_190 rfl (by decide) ?_
  refine go_goto 195 dX12_rests_191 (by decide) ?_
  exact go_lv [0, 1, 2, 3] rfl (s_X12_rests_195 w o0 h0 x4 x6 x7 0 os0 hs0 M)
def f_X12_rests_194 (w : Nat) (o0 : Nat) (x4 : Int32) (x6 : Int32) (x7 : Int32) (os0 : Nat) (M : mM) : Option (Int32 × mM) := (f_X12_rests_195 w o0 x4 x6 x7 1 os0 M)
set_option maxHeartbeats 4000000 in
set_option maxRecDepth 100000 in
theorem s_X12_rests_194 {l : Launch} {G : mG} {sk : List mS} (w : Nat) (o0 : Nat) (h0 : isK o0 22) (x4 : Int32) (x6 : Int32) (x7 : Int32) (os0 : Nat) (hs0 : isK os0 22) (M : mM) : Go muX12_rests (rm 1) 0 0 l G sk (mFin G sk eI) (f_X12_rests_194 w o0 x4 x6 x7 os0 M) 194 [(0, .ref (gB G + o0)), (4, .int x4), (6, .int x6), (7, .int x7)] [.ref (gB G + os0)] M := by
  unfold f_X12_rests_194
  refine go_iconst 1 195 dX12_rests_194 rfl (by decide) ?_
  exact go_lv [0, 1, 2, 3] rfl (s_X12_rests_195 w o0 h0 x4 x6 x7 1 os0 hs0 M)
def f_X12_rests_174 (w : Nat) (o0 : Nat) (x4 : Int32) (x5 : Int32) (x6 : Int32) (x7 : Int32) (M : mM) : Option (Int32 × mM) := (if x5 = 0 then (f_X12_rests_194 w o0 x4 x6 x7 o0 M) else (if x4 < 0 then (f_X12_rests_190 w o0 x4 x6 x7 o0 M) else (if x7 < 0 then (f_X12_rests_194 w o0 x4 x6 x7 o0 M) else (f_X12_rests_190 w o0 x4 x6 x7 o0 M))))
set_option maxHeartbeats 4000000 in
set_option maxRecDepth 100000 in
theorem s_X12_rests_174 {l : Launch} {G : mG} {sk : List mS} (w : Nat) (o0 : Nat) (h0 : isK o0 22) (x4 : Int32) (x5 : Int32) (x6 : Int32) (x7 : Int32) (M : mM) : Go muX12_rests (rm 1) 0 0 l G sk (mFin G sk eI) (f_X12_rests_174 w o0 x4 x5 x6 x7 M) 174 [(0, .ref (gB G + o0)), (4, .int x4), (5, .int x5), (6, .int x6), (7, .int x7)] [] M := by
  unfold f_X12_rests_174
  refine go_aload_n 0 175 dX12_rests_174 rfl rfl ?_
  refine go_iload 2 177 dX12_rests_175 rfl rfl ?_
  refine go_if_eq 194 180 dX12_rests_177 rfl (by decide) (fun _ => ?_) (fun _ => ?_)
  · exact go_lv [0, 1, 3, 4] rfl (s_X12_rests_194 w o0 h0 x4 x6 x7 o0 h0 M)
  · refine go_iload 1 182 dX12_rests_180 rfl rfl ?_
    refine go_if_lt 190 185 dX12_rests_182 rfl (by decide) (fun _ => ?_) (fun _ => ?_)
    · exact go_lv [0, 1, 3, 4] rfl (s_X12_rests_190 w o0 h0 x4 x6 x7 o0 h0 M)
    · refine go_iload 4 187 dX12_rests_185 rfl rfl ?_
      refine go_if_lt 194 190 dX12_rests_187 rfl (by decide) (fun _ => ?_) (fun _ => ?_)
      · exact go_lv [0, 1, 3, 4] rfl (s_X12_rests_194 w o0 h0 x4 x6 x7 o0 h0 M)
      · exact go_lv [0, 1, 3, 4] rfl (s_X12_rests_190 w o0 h0 x4 x6 x7 o0 h0 M)
def f_X12_rests_52 (w : Nat) : Nat → Nat → Int32 → Int32 → Int32 → Int32 → Int32 → Int32 → Int32 → Int32 → mM → Option (Int32 × mM)
  | 0, _, _, _, _, _, _, _, _, _, _ => none
  | n + 1, o0, x1, x2, x3, x4, x5, x6, x7, x8, M => (if 4 ≤ x8 then (f_X12_rests_174 w o0 x4 x5 x6 x7 M) else (if x5 = 0 then (f_X12_rests_174 w o0 x4 x5 x6 x7 M) else if (2 : Int32) = 0 then none else (lt (x8 / 2) fun y1 => if (2 : Int32) = 0 then none else (lt (x8 - x8 / 2 * 2) fun y2 => bI (f_X12_getsBy w (1 - y1) y2 x1 x2 x3 M) fun q4 M3 => bI (f_X12_getsBy w y1 y2 x1 x2 x3 M3) fun q6 M5 => (if q6 < q4 then (f_X12_rests_129 w (f_X12_rests_52 w n) o0 x1 x2 x3 x4 x5 x6 x7 x8 M5) else bI (f_X12_getsBy w (1 - y2) y1 x1 x2 x3 M5) fun q8 M7 => bI (f_X12_getsBy w y2 y1 x1 x2 x3 M7) fun q10 M9 => (if q10 < q8 then (f_X12_rests_129 w (f_X12_rests_52 w n) o0 x1 x2 x3 x4 x5 x6 x7 x8 M9) else (f_X12_rests_130 w (f_X12_rests_52 w n) o0 x1 x2 x3 x4 x5 x6 x7 x8 1 M9)))))))
set_option maxHeartbeats 4000000 in
set_option maxRecDepth 100000 in
theorem s_X12_rests_52 {l : Launch} {G : mG} {sk : List mS} (w : Nat) : ∀ (n : Nat) (o0 : Nat) (h0 : isK o0 22) (x1 : Int32) (x2 : Int32) (x3 : Int32) (x4 : Int32) (x5 : Int32) (x6 : Int32) (x7 : Int32) (x8 : Int32) (M : mM), Go muX12_rests (rm 1) 0 0 l G sk (mFin G sk eI) (f_X12_rests_52 w n o0 x1 x2 x3 x4 x5 x6 x7 x8 M) 52 [(0, .ref (gB G + o0)), (1, .int x1), (2, .int x2), (3, .int x3), (4, .int x4), (5, .int x5), (6, .int x6), (7, .int x7), (8, .int x8)] [] M := by
  intro n
  induction n with
  | zero =>
    intros
    exact go_none
  | succ n ih =>
    intro o0 h0 x1 x2 x3 x4 x5 x6 x7 x8 M
    rw [f_X12_rests_52]
    refine go_iload 8 54 dX12_rests_52 rfl rfl ?_
    refine go_iconst 4 55 dX12_rests_54 rfl (by decide) ?_
    refine go_icmp_ge 174 58 dX12_rests_55 rfl (by decide) (fun _ => ?_) (fun _ => ?_)
    · exact go_lv [0, 4, 5, 6, 7] rfl (s_X12_rests_174 w o0 h0 x4 x5 x6 x7 M)
    · refine go_iload 5 60 dX12_rests_58 rfl rfl ?_
      refine go_if_eq 174 63 dX12_rests_60 rfl (by decide) (fun _ => ?_) (fun _ => ?_)
      · exact go_lv [0, 4, 5, 6, 7] rfl (s_X12_rests_174 w o0 h0 x4 x5 x6 x7 M)
      · refine go_iload 8 65 dX12_rests_63 rfl rfl ?_
        refine go_iconst 2 66 dX12_rests_65 rfl (by decide) ?_
        refine go_idiv 67 dX12_rests_66 rfl ?_
        refine go_nmI (fun y1 => ?_)
        refine go_istore [(9, .int y1), (0, .ref (gB G + o0)), (1, .int x1), (2, .int x2), (3, .int x3), (4, .int x4), (5, .int x5), (6, .int x6), (7, .int x7), (8, .int x8)] 69 dX12_rests_67 rfl (by decide) rfl ?_
        refine go_iload 9 71 dX12_rests_69 rfl rfl ?_
        refine go_iconst 2 72 dX12_rests_71 rfl (by decide) ?_
        refine go_irem 73 dX12_rests_72 rfl ?_
        refine go_nmI (fun y2 => ?_)
        refine go_istore [(10, .int y2), (9, .int y1), (0, .ref (gB G + o0)), (1, .int x1), (2, .int x2), (3, .int x3), (4, .int x4), (5, .int x5), (6, .int x6), (7, .int x7), (8, .int x8)] 75 dX12_rests_73 rfl (by decide) rfl ?_
        refine go_iconst 1 76 dX12_rests_75 rfl (by decide) ?_
        refine go_iload 1 78 dX12_rests_76 rfl rfl ?_
        refine go_isub 79 dX12_rests_78 rfl ?_
        refine go_iload 0 81 dX12_rests_79 rfl rfl ?_
        refine go_iload_n 3 82 dX12_rests_81 rfl rfl ?_
        refine go_iload_n 4 83 dX12_rests_82 rfl rfl ?_
        refine go_iload_n 5 84 dX12_rests_83 rfl rfl ?_
        refine go_cSI5 0 cwX12_397 (m_X12_getsBy w (1 - y1) y2 x1 x2 x3 M) 87 dX12_rests_84 rfl ⟨Nat.le_of_ble_eq_true rfl, Nat.le_of_ble_eq_true rfl⟩ ⟨Nat.zero_le _, Nat.zero_le _⟩ (Nat.le_of_ble_eq_true rfl) (fun q4 M3 _ => ?_)
        refine go_iload 1 89 dX12_rests_87 rfl rfl ?_
        refine go_iload 0 91 dX12_rests_89 rfl rfl ?_
        refine go_iload_n 3 92 dX12_rests_91 rfl rfl ?_
        refine go_iload_n 4 93 dX12_rests_92 rfl rfl ?_
        refine go_iload_n 5 94 dX12_rests_93 rfl rfl ?_
        refine go_cSI5 0 cwX12_397 (m_X12_getsBy w y1 y2 x1 x2 x3 M3) 97 dX12_rests_94 rfl ⟨Nat.le_of_ble_eq_true rfl, Nat.le_of_ble_eq_true rfl⟩ ⟨Nat.zero_le _, Nat.zero_le _⟩ (Nat.le_of_ble_eq_true rfl) (fun q6 M5 _ => ?_)
        refine go_icmp_gt 129 100 dX12_rests_97 rfl (by decide) (fun _ => ?_) (fun _ => ?_)
        · exact go_lv [2, 3, 4, 5, 6, 7, 8, 9, 10] rfl (s_X12_rests_129 w (f_X12_rests_52 w n) (fun o0 h0 x1 x2 x3 x4 x5 x6 x7 x8 M => ih o0 h0 x1 x2 x3 x4 x5 x6 x7 x8 M) o0 h0 x1 x2 x3 x4 x5 x6 x7 x8 M5)
        · refine go_iconst 1 101 dX12_rests_100 rfl (by decide) ?_
          refine go_iload 0 103 dX12_rests_101 rfl rfl ?_
          refine go_isub 104 dX12_rests_103 rfl ?_
          refine go_iload 1 106 dX12_rests_104 rfl rfl ?_
          refine go_iload_n 3 107 dX12_rests_106 rfl rfl ?_
          refine go_iload_n 4 108 dX12_rests_107 rfl rfl ?_
          refine go_iload_n 5 109 dX12_rests_108 rfl rfl ?_
          refine go_cSI5 0 cwX12_397 (m_X12_getsBy w (1 - y2) y1 x1 x2 x3 M5) 112 dX12_rests_109 rfl ⟨Nat.le_of_ble_eq_true rfl, Nat.le_of_ble_eq_true rfl⟩ ⟨Nat.zero_le _, Nat.zero_le _⟩ (Nat.le_of_ble_eq_true rfl) (fun q8 M7 _ => ?_)
          refine go_iload 0 114 dX12_rests_112 rfl rfl ?_
          refine go_iload 1 116 dX12_rests_114 rfl rfl ?_
          refine go_iload_n 3 117 dX12_rests_116 rfl rfl ?_
          refine go_iload_n 4 118 dX12_rests_117 rfl rfl ?_
          refine go_iload_n 5 119 dX12_rests_118 rfl rfl ?_
          refine go_cSI5 0 cwX12_397 (m_X12_getsBy w y2 y1 x1 x2 x3 M7) 122 dX12_rests_119 rfl ⟨Nat.le_of_ble_eq_true rfl, Nat.le_of_ble_eq_true rfl⟩ ⟨Nat.zero_le _, Nat.zero_le _⟩ (Nat.le_of_ble_eq_true rfl) (fun q10 M9 _ => ?_)
          refine go_icmp_gt 129 125 dX12_rests_122 rfl (by decide) (fun _ => ?_) (fun _ => ?_)
          · exact go_lv [2, 3, 4, 5, 6, 7, 8, 9, 10] rfl (s_X12_rests_129 w (f_X12_rests_52 w n) (fun o0 h0 x1 x2 x3 x4 x5 x6 x7 x8 M => ih o0 h0 x1 x2 x3 x4 x5 x6 x7 x8 M) o0 h0 x1 x2 x3 x4 x5 x6 x7 x8 M9)
          · refine go_iconst 1 126 dX12_rests_125 rfl (by decide) ?_
            refine go_goto 130 dX12_rests_126 (by decide) ?_
            exact go_lv [2, 3, 4, 5, 6, 7, 8, 9, 10] rfl (s_X12_rests_130 w (f_X12_rests_52 w n) (fun o0 h0 x1 x2 x3 x4 x5 x6 x7 x8 M => ih o0 h0 x1 x2 x3 x4 x5 x6 x7 x8 M) o0 h0 x1 x2 x3 x4 x5 x6 x7 x8 1 M9)
def f_X12_rests_41 (w : Nat) (o0 : Nat) (x1 : Int32) (x2 : Int32) (x3 : Int32) (x4 : Int32) (xs0 : Int32) (M : mM) : Option (Int32 × mM) := (f_X12_rests_52 w w o0 x1 x2 x3 x4 xs0 0 (-1) 0 M)
set_option maxHeartbeats 4000000 in
set_option maxRecDepth 100000 in
theorem s_X12_rests_41 {l : Launch} {G : mG} {sk : List mS} (w : Nat) (o0 : Nat) (h0 : isK o0 22) (x1 : Int32) (x2 : Int32) (x3 : Int32) (x4 : Int32) (xs0 : Int32) (M : mM) : Go muX12_rests (rm 1) 0 0 l G sk (mFin G sk eI) (f_X12_rests_41 w o0 x1 x2 x3 x4 xs0 M) 41 [(0, .ref (gB G + o0)), (1, .int x1), (2, .int x2), (3, .int x3), (4, .int x4)] [.int xs0] M := by
  unfold f_X12_rests_41
  refine go_istore [(5, .int xs0), (0, .ref (gB G + o0)), (1, .int x1), (2, .int x2), (3, .int x3), (4, .int x4)] 43 dX12_rests_41 rfl (by decide) rfl ?_
  refine go_iconst 0 44 dX12_rests_43 rfl (by decide) ?_
  refine go_istore [(6, .int 0), (5, .int xs0), (0, .ref (gB G + o0)), (1, .int x1), (2, .int x2), (3, .int x3), (4, .int x4)] 46 dX12_rests_44 rfl (by decide) rfl ?_
  refine go_iconst (-1) 47 dX12_rests_46 rfl (by decide) ?_
  refine go_istore [(7, .int (-1)), (6, .int 0), (5, .int xs0), (0, .ref (gB G + o0)), (1, .int x1), (2, .int x2), (3, .int x3), (4, .int x4)] 49 dX12_rests_47 rfl (by decide) rfl ?_
  refine go_iconst 0 50 dX12_rests_49 rfl (by decide) ?_
  refine go_istore [(8, .int 0), (7, .int (-1)), (6, .int 0), (5, .int xs0), (0, .ref (gB G + o0)), (1, .int x1), (2, .int x2), (3, .int x3), (4, .int x4)] 52 dX12_rests_50 rfl (by decide) rfl ?_
  exact go_lv [4, 5, 6, 7, 8, 3, 2, 1, 0] rfl (s_X12_rests_52 w w o0 h0 x1 x2 x3 x4 xs0 0 (-1) 0 M)
def f_X12_rests_40 (w : Nat) (o0 : Nat) (x1 : Int32) (x2 : Int32) (x3 : Int32) (x4 : Int32) (M : mM) : Option (Int32 × mM) := (f_X12_rests_41 w o0 x1 x2 x3 x4 0 M)
set_option maxHeartbeats 4000000 in
set_option maxRecDepth 100000 in
theorem s_X12_rests_40 {l : Launch} {G : mG} {sk : List mS} (w : Nat) (o0 : Nat) (h0 : isK o0 22) (x1 : Int32) (x2 : Int32) (x3 : Int32) (x4 : Int32) (M : mM) : Go muX12_rests (rm 1) 0 0 l G sk (mFin G sk eI) (f_X12_rests_40 w o0 x1 x2 x3 x4 M) 40 [(0, .ref (gB G + o0)), (1, .int x1), (2, .int x2), (3, .int x3), (4, .int x4)] [] M := by
  unfold f_X12_rests_40
  refine go_iconst 0 41 dX12_rests_40 rfl (by decide) ?_
  exact go_lv [0, 1, 2, 3, 4] rfl (s_X12_rests_41 w o0 h0 x1 x2 x3 x4 0 M)
def f_X12_rests (w : Nat) (o0 : Nat) (x1 : Int32) (x2 : Int32) (x3 : Int32) (x4 : Int32) (M : mM) : Option (Int32 × mM) := bI (f_X12_within w x1 0 9 M) fun q2 M1 => (if q2 = 0 then (f_X12_rests_40 w o0 x1 x2 x3 x4 M1) else bI (f_X12_within w x2 0 9 M1) fun q4 M3 => (if q4 = 0 then (f_X12_rests_40 w o0 x1 x2 x3 x4 M3) else bI (f_X12_within w x3 0 9 M3) fun q6 M5 => (if q6 = 0 then (f_X12_rests_40 w o0 x1 x2 x3 x4 M5) else (if x4 < (-1) then (f_X12_rests_40 w o0 x1 x2 x3 x4 M5) else (f_X12_rests_41 w o0 x1 x2 x3 x4 1 M5)))))
set_option maxHeartbeats 4000000 in
set_option maxRecDepth 100000 in
theorem s_X12_rests {l : Launch} {G : mG} {sk : List mS} (w : Nat) (o0 : Nat) (h0 : isK o0 22) (x1 : Int32) (x2 : Int32) (x3 : Int32) (x4 : Int32) (M : mM) : Go muX12_rests (rm 1) 0 0 l G sk (mFin G sk eI) (f_X12_rests w o0 x1 x2 x3 x4 M) 0 [(0, .ref (gB G + o0)), (1, .int x1), (2, .int x2), (3, .int x3), (4, .int x4)] [] M := by
  unfold f_X12_rests
  refine go_iload_n 1 1 dX12_rests_0 rfl rfl ?_
  refine go_iconst 0 2 dX12_rests_1 rfl (by decide) ?_
  refine go_bipush 9 4 dX12_rests_2 rfl (by decide) ?_
  refine go_cSI3 0 cwX12_204 (m_X12_within w x1 0 9 M) 7 dX12_rests_4 rfl ⟨Nat.le_of_ble_eq_true rfl, Nat.le_of_ble_eq_true rfl⟩ ⟨Nat.zero_le _, Nat.zero_le _⟩ (Nat.le_of_ble_eq_true rfl) (fun q2 M1 _ => ?_)
  refine go_if_eq 40 10 dX12_rests_7 rfl (by decide) (fun _ => ?_) (fun _ => ?_)
  · exact go_lv [0, 1, 2, 3, 4] rfl (s_X12_rests_40 w o0 h0 x1 x2 x3 x4 M1)
  · refine go_iload_n 2 11 dX12_rests_10 rfl rfl ?_
    refine go_iconst 0 12 dX12_rests_11 rfl (by decide) ?_
    refine go_bipush 9 14 dX12_rests_12 rfl (by decide) ?_
    refine go_cSI3 0 cwX12_204 (m_X12_within w x2 0 9 M1) 17 dX12_rests_14 rfl ⟨Nat.le_of_ble_eq_true rfl, Nat.le_of_ble_eq_true rfl⟩ ⟨Nat.zero_le _, Nat.zero_le _⟩ (Nat.le_of_ble_eq_true rfl) (fun q4 M3 _ => ?_)
    refine go_if_eq 40 20 dX12_rests_17 rfl (by decide) (fun _ => ?_) (fun _ => ?_)
    · exact go_lv [0, 1, 2, 3, 4] rfl (s_X12_rests_40 w o0 h0 x1 x2 x3 x4 M3)
    · refine go_iload_n 3 21 dX12_rests_20 rfl rfl ?_
      refine go_iconst 0 22 dX12_rests_21 rfl (by decide) ?_
      refine go_bipush 9 24 dX12_rests_22 rfl (by decide) ?_
      refine go_cSI3 0 cwX12_204 (m_X12_within w x3 0 9 M3) 27 dX12_rests_24 rfl ⟨Nat.le_of_ble_eq_true rfl, Nat.le_of_ble_eq_true rfl⟩ ⟨Nat.zero_le _, Nat.zero_le _⟩ (Nat.le_of_ble_eq_true rfl) (fun q6 M5 _ => ?_)
      refine go_if_eq 40 30 dX12_rests_27 rfl (by decide) (fun _ => ?_) (fun _ => ?_)
      · exact go_lv [0, 1, 2, 3, 4] rfl (s_X12_rests_40 w o0 h0 x1 x2 x3 x4 M5)
      · refine go_iload 4 32 dX12_rests_30 rfl rfl ?_
        refine go_iconst (-1) 33 dX12_rests_32 rfl (by decide) ?_
        refine go_icmp_lt 40 36 dX12_rests_33 rfl (by decide) (fun _ => ?_) (fun _ => ?_)
        · exact go_lv [0, 1, 2, 3, 4] rfl (s_X12_rests_40 w o0 h0 x1 x2 x3 x4 M5)
        · refine go_iconst 1 37 dX12_rests_36 rfl (by decide) ?_
          refine go_goto 41 dX12_rests_37 (by decide) ?_
          exact go_lv [0, 1, 2, 3, 4] rfl (s_X12_rests_41 w o0 h0 x1 x2 x3 x4 1 M5)
theorem m_X12_rests {l : Launch} {G : mG} {sk : List mS} (w : Nat) (o0 : Nat) (h0 : isK o0 22) (x1 : Int32) (x2 : Int32) (x3 : Int32) (x4 : Int32) (M : mM) : Mt l G sk yX12_rests muX12_rests 1 [.ref (gB G + o0), .int x1, .int x2, .int x3, .int x4] M eI (f_X12_rests w o0 x1 x2 x3 x4 M) := Mt.of (by decide) rfl (Nat.le_of_ble_eq_true rfl) (s_X12_rests w o0 h0 x1 x2 x3 x4 M)
theorem dX12_draw_0 : decode cX12_draw 0 = .ok (.aload_n 0, 1) := by decide +kernel
theorem dX12_draw_1 : decode cX12_draw 1 = .ok (.aload_n 0, 1) := by decide +kernel
theorem dX12_draw_2 : decode cX12_draw 2 = .ok (.getfield 401, 3) := by decide +kernel
theorem dX12_draw_5 : decode cX12_draw 5 = .ok (.ldc2_w 405, 3) := by decide +kernel
theorem dX12_draw_8 : decode cX12_draw 8 = .ok (.lmul, 1) := by decide +kernel
theorem dX12_draw_9 : decode cX12_draw 9 = .ok (.ldc2_w 407, 3) := by decide +kernel
theorem dX12_draw_12 : decode cX12_draw 12 = .ok (.ladd, 1) := by decide +kernel
theorem dX12_draw_13 : decode cX12_draw 13 = .ok (.ldc2_w 409, 3) := by decide +kernel
theorem dX12_draw_16 : decode cX12_draw 16 = .ok (.lrem, 1) := by decide +kernel
theorem dX12_draw_17 : decode cX12_draw 17 = .ok (.putfield 401, 3) := by decide +kernel
theorem dX12_draw_20 : decode cX12_draw 20 = .ok (.aload_n 0, 1) := by decide +kernel
theorem dX12_draw_21 : decode cX12_draw 21 = .ok (.getfield 401, 3) := by decide +kernel
theorem dX12_draw_24 : decode cX12_draw 24 = .ok (.ldc2_w 411, 3) := by decide +kernel
theorem dX12_draw_27 : decode cX12_draw 27 = .ok (.ldiv, 1) := by decide +kernel
theorem dX12_draw_28 : decode cX12_draw 28 = .ok (.iload_n 1, 1) := by decide +kernel
theorem dX12_draw_29 : decode cX12_draw 29 = .ok (.i2l, 1) := by decide +kernel
theorem dX12_draw_30 : decode cX12_draw 30 = .ok (.lrem, 1) := by decide +kernel
theorem dX12_draw_31 : decode cX12_draw 31 = .ok (.l2i, 1) := by decide +kernel
theorem dX12_draw_32 : decode cX12_draw 32 = .ok (.ireturn, 1) := by decide +kernel
def f_X12_draw (w : Nat) (o0 : Nat) (x1 : Int32) (M : mM) : Option (Int32 × mM) := if (2147483648 : Int64) = 0 then none else (lt (wL M o0 31 ((((M.2 o0 31) * 1103515245) + 12345) - (((M.2 o0 31) * 1103515245) + 12345) / 2147483648 * 2147483648)) fun M1 => if (65536 : Int64) = 0 then none else (if (x1.toInt64) = 0 then none else (some (((((M1.2 o0 31) / 65536) - ((M1.2 o0 31) / 65536) / (x1.toInt64) * (x1.toInt64)).toInt32), M1))))
set_option maxHeartbeats 4000000 in
set_option maxRecDepth 100000 in
theorem s_X12_draw {l : Launch} {G : mG} {sk : List mS} (w : Nat) (o0 : Nat) (h0 : isK o0 22) (x1 : Int32) (M : mM) : Go muX12_draw (rm 0) 0 0 l G sk (mFin G sk eI) (f_X12_draw w o0 x1 M) 0 [(0, .ref (gB G + o0)), (1, .int x1)] [] M := by
  unfold f_X12_draw
  refine go_aload_n 0 1 dX12_draw_0 rfl rfl ?_
  refine go_aload_n 0 2 dX12_draw_1 rfl rfl ?_
  refine go_getL flX12_401 h0 5 dX12_draw_2 rfl ?_
  refine go_ldc2 klX12_405 8 dX12_draw_5 rfl ?_
  refine go_lmul 9 dX12_draw_8 rfl ?_
  refine go_ldc2 klX12_407 12 dX12_draw_9 rfl ?_
  refine go_ladd 13 dX12_draw_12 rfl ?_
  refine go_ldc2 klX12_409 16 dX12_draw_13 rfl ?_
  refine go_lrem 17 dX12_draw_16 rfl ?_
  refine go_putL flX12_401 rfl rfl h0 20 dX12_draw_17 rfl ?_
  refine go_nmM (fun M1 => ?_)
  refine go_aload_n 0 21 dX12_draw_20 rfl rfl ?_
  refine go_getL flX12_401 h0 24 dX12_draw_21 rfl ?_
  refine go_ldc2 klX12_411 27 dX12_draw_24 rfl ?_
  refine go_ldiv 28 dX12_draw_27 rfl ?_
  refine go_iload_n 1 29 dX12_draw_28 rfl rfl ?_
  refine go_i2l 30 dX12_draw_29 rfl ?_
  refine go_lrem 31 dX12_draw_30 rfl ?_
  refine go_l2i 32 dX12_draw_31 rfl ?_
  exact go_iret rfl dX12_draw_32
theorem m_X12_draw {l : Launch} {G : mG} {sk : List mS} (w : Nat) (o0 : Nat) (h0 : isK o0 22) (x1 : Int32) (M : mM) : Mt l G sk yX12_draw muX12_draw 0 [.ref (gB G + o0), .int x1] M eI (f_X12_draw w o0 x1 M) := Mt.of (by decide) rfl (Nat.le_of_ble_eq_true rfl) (s_X12_draw w o0 h0 x1 M)
theorem dX12_drawsDeed_0 : decode cX12_drawsDeed 0 = .ok (.aload_n 0, 1) := by decide +kernel
theorem dX12_drawsDeed_1 : decode cX12_drawsDeed 1 = .ok (.iconst 5, 1) := by decide +kernel
theorem dX12_drawsDeed_2 : decode cX12_drawsDeed 2 = .ok (.invokevirtual 413, 3) := by decide +kernel
theorem dX12_drawsDeed_5 : decode cX12_drawsDeed 5 = .ok (.istore_n 1, 1) := by decide +kernel
theorem dX12_drawsDeed_6 : decode cX12_drawsDeed 6 = .ok (.iload_n 1, 1) := by decide +kernel
theorem dX12_drawsDeed_7 : decode cX12_drawsDeed 7 = .ok (.ifCond .ne 48, 3) := by decide +kernel
theorem dX12_drawsDeed_10 : decode cX12_drawsDeed 10 = .ok (.aload_n 0, 1) := by decide +kernel
theorem dX12_drawsDeed_11 : decode cX12_drawsDeed 11 = .ok (.aload_n 0, 1) := by decide +kernel
theorem dX12_drawsDeed_12 : decode cX12_drawsDeed 12 = .ok (.invokevirtual 272, 3) := by decide +kernel
theorem dX12_drawsDeed_15 : decode cX12_drawsDeed 15 = .ok (.invokevirtual 413, 3) := by decide +kernel
theorem dX12_drawsDeed_18 : decode cX12_drawsDeed 18 = .ok (.istore_n 2, 1) := by decide +kernel
theorem dX12_drawsDeed_19 : decode cX12_drawsDeed 19 = .ok (.aload_n 0, 1) := by decide +kernel
theorem dX12_drawsDeed_20 : decode cX12_drawsDeed 20 = .ok (.getfield 113, 3) := by decide +kernel
theorem dX12_drawsDeed_23 : decode cX12_drawsDeed 23 = .ok (.sipush 1432, 3) := by decide +kernel
theorem dX12_drawsDeed_26 : decode cX12_drawsDeed 26 = .ok (.iload_n 2, 1) := by decide +kernel
theorem dX12_drawsDeed_27 : decode cX12_drawsDeed 27 = .ok (.iadd, 1) := by decide +kernel
theorem dX12_drawsDeed_28 : decode cX12_drawsDeed 28 = .ok (.dup2, 1) := by decide +kernel
theorem dX12_drawsDeed_29 : decode cX12_drawsDeed 29 = .ok (.iaload, 1) := by decide +kernel
theorem dX12_drawsDeed_30 : decode cX12_drawsDeed 30 = .ok (.aload_n 0, 1) := by decide +kernel
theorem dX12_drawsDeed_31 : decode cX12_drawsDeed 31 = .ok (.getfield 113, 3) := by decide +kernel
theorem dX12_drawsDeed_34 : decode cX12_drawsDeed 34 = .ok (.sipush 1432, 3) := by decide +kernel
theorem dX12_drawsDeed_37 : decode cX12_drawsDeed 37 = .ok (.iload_n 2, 1) := by decide +kernel
theorem dX12_drawsDeed_38 : decode cX12_drawsDeed 38 = .ok (.iadd, 1) := by decide +kernel
theorem dX12_drawsDeed_39 : decode cX12_drawsDeed 39 = .ok (.iaload, 1) := by decide +kernel
theorem dX12_drawsDeed_40 : decode cX12_drawsDeed 40 = .ok (.bipush 20, 2) := by decide +kernel
theorem dX12_drawsDeed_42 : decode cX12_drawsDeed 42 = .ok (.if_icmp .ge 7, 3) := by decide +kernel
theorem dX12_drawsDeed_45 : decode cX12_drawsDeed 45 = .ok (.iconst 1, 1) := by decide +kernel
theorem dX12_drawsDeed_46 : decode cX12_drawsDeed 46 = .ok (.goto 4, 3) := by decide +kernel
theorem dX12_drawsDeed_49 : decode cX12_drawsDeed 49 = .ok (.iconst 0, 1) := by decide +kernel
theorem dX12_drawsDeed_50 : decode cX12_drawsDeed 50 = .ok (.iadd, 1) := by decide +kernel
theorem dX12_drawsDeed_51 : decode cX12_drawsDeed 51 = .ok (.iastore, 1) := by decide +kernel
theorem dX12_drawsDeed_52 : decode cX12_drawsDeed 52 = .ok (.goto 117, 3) := by decide +kernel
theorem dX12_drawsDeed_55 : decode cX12_drawsDeed 55 = .ok (.iload_n 1, 1) := by decide +kernel
theorem dX12_drawsDeed_56 : decode cX12_drawsDeed 56 = .ok (.iconst 1, 1) := by decide +kernel
theorem dX12_drawsDeed_57 : decode cX12_drawsDeed 57 = .ok (.if_icmp .ne 54, 3) := by decide +kernel
theorem dX12_drawsDeed_60 : decode cX12_drawsDeed 60 = .ok (.aload_n 0, 1) := by decide +kernel
theorem dX12_drawsDeed_61 : decode cX12_drawsDeed 61 = .ok (.invokevirtual 279, 3) := by decide +kernel
theorem dX12_drawsDeed_64 : decode cX12_drawsDeed 64 = .ok (.ifCond .le 47, 3) := by decide +kernel
theorem dX12_drawsDeed_67 : decode cX12_drawsDeed 67 = .ok (.aload_n 0, 1) := by decide +kernel
theorem dX12_drawsDeed_68 : decode cX12_drawsDeed 68 = .ok (.aload_n 0, 1) := by decide +kernel
theorem dX12_drawsDeed_69 : decode cX12_drawsDeed 69 = .ok (.invokevirtual 279, 3) := by decide +kernel
theorem dX12_drawsDeed_72 : decode cX12_drawsDeed 72 = .ok (.invokevirtual 413, 3) := by decide +kernel
theorem dX12_drawsDeed_75 : decode cX12_drawsDeed 75 = .ok (.istore_n 2, 1) := by decide +kernel
theorem dX12_drawsDeed_76 : decode cX12_drawsDeed 76 = .ok (.aload_n 0, 1) := by decide +kernel
theorem dX12_drawsDeed_77 : decode cX12_drawsDeed 77 = .ok (.aload_n 0, 1) := by decide +kernel
theorem dX12_drawsDeed_78 : decode cX12_drawsDeed 78 = .ok (.invokevirtual 272, 3) := by decide +kernel
theorem dX12_drawsDeed_81 : decode cX12_drawsDeed 81 = .ok (.invokevirtual 413, 3) := by decide +kernel
theorem dX12_drawsDeed_84 : decode cX12_drawsDeed 84 = .ok (.istore_n 3, 1) := by decide +kernel
theorem dX12_drawsDeed_85 : decode cX12_drawsDeed 85 = .ok (.aload_n 0, 1) := by decide +kernel
theorem dX12_drawsDeed_86 : decode cX12_drawsDeed 86 = .ok (.sipush 1430, 3) := by decide +kernel
theorem dX12_drawsDeed_89 : decode cX12_drawsDeed 89 = .ok (.iload_n 2, 1) := by decide +kernel
theorem dX12_drawsDeed_90 : decode cX12_drawsDeed 90 = .ok (.iload_n 3, 1) := by decide +kernel
theorem dX12_drawsDeed_91 : decode cX12_drawsDeed 91 = .ok (.invokevirtual 333, 3) := by decide +kernel
theorem dX12_drawsDeed_94 : decode cX12_drawsDeed 94 = .ok (.ifCond .eq 14, 3) := by decide +kernel
theorem dX12_drawsDeed_97 : decode cX12_drawsDeed 97 = .ok (.aload_n 0, 1) := by decide +kernel
theorem dX12_drawsDeed_98 : decode cX12_drawsDeed 98 = .ok (.sipush 1430, 3) := by decide +kernel
theorem dX12_drawsDeed_101 : decode cX12_drawsDeed 101 = .ok (.iload_n 2, 1) := by decide +kernel
theorem dX12_drawsDeed_102 : decode cX12_drawsDeed 102 = .ok (.iload_n 3, 1) := by decide +kernel
theorem dX12_drawsDeed_103 : decode cX12_drawsDeed 103 = .ok (.invokevirtual 336, 3) := by decide +kernel
theorem dX12_drawsDeed_106 : decode cX12_drawsDeed 106 = .ok (.iconst 1, 1) := by decide +kernel
theorem dX12_drawsDeed_107 : decode cX12_drawsDeed 107 = .ok (.ireturn, 1) := by decide +kernel
theorem dX12_drawsDeed_108 : decode cX12_drawsDeed 108 = .ok (.goto 61, 3) := by decide +kernel
theorem dX12_drawsDeed_111 : decode cX12_drawsDeed 111 = .ok (.iload_n 1, 1) := by decide +kernel
theorem dX12_drawsDeed_112 : decode cX12_drawsDeed 112 = .ok (.iconst 2, 1) := by decide +kernel
theorem dX12_drawsDeed_113 : decode cX12_drawsDeed 113 = .ok (.if_icmp .ne 56, 3) := by decide +kernel
theorem dX12_drawsDeed_116 : decode cX12_drawsDeed 116 = .ok (.aload_n 0, 1) := by decide +kernel
theorem dX12_drawsDeed_117 : decode cX12_drawsDeed 117 = .ok (.aload_n 0, 1) := by decide +kernel
theorem dX12_drawsDeed_118 : decode cX12_drawsDeed 118 = .ok (.invokevirtual 272, 3) := by decide +kernel
theorem dX12_drawsDeed_121 : decode cX12_drawsDeed 121 = .ok (.invokevirtual 413, 3) := by decide +kernel
theorem dX12_drawsDeed_124 : decode cX12_drawsDeed 124 = .ok (.istore_n 2, 1) := by decide +kernel
theorem dX12_drawsDeed_125 : decode cX12_drawsDeed 125 = .ok (.aload_n 0, 1) := by decide +kernel
theorem dX12_drawsDeed_126 : decode cX12_drawsDeed 126 = .ok (.getfield 113, 3) := by decide +kernel
theorem dX12_drawsDeed_129 : decode cX12_drawsDeed 129 = .ok (.sipush 1432, 3) := by decide +kernel
theorem dX12_drawsDeed_132 : decode cX12_drawsDeed 132 = .ok (.iload_n 2, 1) := by decide +kernel
theorem dX12_drawsDeed_133 : decode cX12_drawsDeed 133 = .ok (.iadd, 1) := by decide +kernel
theorem dX12_drawsDeed_134 : decode cX12_drawsDeed 134 = .ok (.aload_n 0, 1) := by decide +kernel
theorem dX12_drawsDeed_135 : decode cX12_drawsDeed 135 = .ok (.sipush 1430, 3) := by decide +kernel
theorem dX12_drawsDeed_138 : decode cX12_drawsDeed 138 = .ok (.iload_n 2, 1) := by decide +kernel
theorem dX12_drawsDeed_139 : decode cX12_drawsDeed 139 = .ok (.invokevirtual 342, 3) := by decide +kernel
theorem dX12_drawsDeed_142 : decode cX12_drawsDeed 142 = .ok (.ifCond .eq 16, 3) := by decide +kernel
theorem dX12_drawsDeed_145 : decode cX12_drawsDeed 145 = .ok (.aload_n 0, 1) := by decide +kernel
theorem dX12_drawsDeed_146 : decode cX12_drawsDeed 146 = .ok (.getfield 113, 3) := by decide +kernel
theorem dX12_drawsDeed_149 : decode cX12_drawsDeed 149 = .ok (.sipush 1440, 3) := by decide +kernel
theorem dX12_drawsDeed_152 : decode cX12_drawsDeed 152 = .ok (.iload_n 2, 1) := by decide +kernel
theorem dX12_drawsDeed_153 : decode cX12_drawsDeed 153 = .ok (.iadd, 1) := by decide +kernel
theorem dX12_drawsDeed_154 : decode cX12_drawsDeed 154 = .ok (.iaload, 1) := by decide +kernel
theorem dX12_drawsDeed_155 : decode cX12_drawsDeed 155 = .ok (.goto 13, 3) := by decide +kernel
theorem dX12_drawsDeed_158 : decode cX12_drawsDeed 158 = .ok (.aload_n 0, 1) := by decide +kernel
theorem dX12_drawsDeed_159 : decode cX12_drawsDeed 159 = .ok (.getfield 113, 3) := by decide +kernel
theorem dX12_drawsDeed_162 : decode cX12_drawsDeed 162 = .ok (.sipush 1432, 3) := by decide +kernel
theorem dX12_drawsDeed_165 : decode cX12_drawsDeed 165 = .ok (.iload_n 2, 1) := by decide +kernel
theorem dX12_drawsDeed_166 : decode cX12_drawsDeed 166 = .ok (.iadd, 1) := by decide +kernel
theorem dX12_drawsDeed_167 : decode cX12_drawsDeed 167 = .ok (.iaload, 1) := by decide +kernel
theorem dX12_drawsDeed_168 : decode cX12_drawsDeed 168 = .ok (.iastore, 1) := by decide +kernel
theorem dX12_drawsDeed_169 : decode cX12_drawsDeed 169 = .ok (.iconst 0, 1) := by decide +kernel
theorem dX12_drawsDeed_170 : decode cX12_drawsDeed 170 = .ok (.ireturn, 1) := by decide +kernel
def f_X12_drawsDeed_50 (w : Nat) (xs0 : Int32) (xs1 : Int32) (xs2 : Int32) (os3 : Nat) (M : mM) : Option (Int32 × mM) := chk xs2 (sL os3) (lt (wI M os3 xs2.toNatClampNeg (xs1 + xs0)) fun M1 => rtB 0 M1)
set_option maxHeartbeats 4000000 in
set_option maxRecDepth 100000 in
theorem s_X12_drawsDeed_50 {l : Launch} {G : mG} {sk : List mS} (w : Nat) (xs0 : Int32) (xs1 : Int32) (xs2 : Int32) (os3 : Nat) (hs3 : isK os3 0) (M : mM) : Go muX12_drawsDeed (rm 3) 0 0 l G sk (mFin G sk eI) (f_X12_drawsDeed_50 w xs0 xs1 xs2 os3 M) 50 [] [.int xs0, .int xs1, .int xs2, .ref (gB G + os3)] M := by
  unfold f_X12_drawsDeed_50
  refine go_iadd 51 dX12_drawsDeed_50 rfl ?_
  refine go_iast hs3 52 dX12_drawsDeed_51 rfl ?_
  refine go_nmM (fun M1 => ?_)
  refine go_goto 169 dX12_drawsDeed_52 (by decide) ?_
  refine go_iconst 0 170 dX12_drawsDeed_169 rfl (by decide) ?_
  exact go_zret rfl dX12_drawsDeed_170
def f_X12_drawsDeed_111 (w : Nat) (o0 : Nat) (x1 : Int32) (M : mM) : Option (Int32 × mM) := (if x1 = 2 then bI (f_X12_doors w o0 M) fun q2 M1 => bI (f_X12_draw w o0 q2 M1) fun q4 M3 => bI (f_X12_mayForce w o0 1430 q4 M3) fun q6 M5 => (if q6 = 0 then chk (1432 + q4) (sL (rF o0 24)) (chk (1432 + q4) (sL (rF o0 24)) (lt (wI M5 (rF o0 24) (1432 + q4).toNatClampNeg (M5.1 (rF o0 24) (1432 + q4).toNatClampNeg)) fun M7 => rtB 0 M7)) else chk (1440 + q4) (sL (rF o0 24)) (chk (1432 + q4) (sL (rF o0 24)) (lt (wI M5 (rF o0 24) (1432 + q4).toNatClampNeg (M5.1 (rF o0 24) (1440 + q4).toNatClampNeg)) fun M8 => rtB 0 M8))) else rtB 0 M)
set_option maxHeartbeats 4000000 in
set_option maxRecDepth 100000 in
theorem s_X12_drawsDeed_111 {l : Launch} {G : mG} {sk : List mS} (w : Nat) (o0 : Nat) (h0 : isK o0 22) (x1 : Int32) (M : mM) : Go muX12_drawsDeed (rm 3) 0 0 l G sk (mFin G sk eI) (f_X12_drawsDeed_111 w o0 x1 M) 111 [(0, .ref (gB G + o0)), (1, .int x1)] [] M := by
  unfold f_X12_drawsDeed_111
  refine go_iload_n 1 112 dX12_drawsDeed_111 rfl rfl ?_
  refine go_iconst 2 113 dX12_drawsDeed_112 rfl (by decide) ?_
  refine go_icmp_ne 169 116 dX12_drawsDeed_113 rfl (by decide) (fun _ => ?_) (fun _ => ?_)
  · refine go_iconst 0 170 dX12_drawsDeed_169 rfl (by decide) ?_
    exact go_zret rfl dX12_drawsDeed_170
  · refine go_aload_n 0 117 dX12_drawsDeed_116 rfl rfl ?_
    refine go_aload_n 0 118 dX12_drawsDeed_117 rfl rfl ?_
    refine go_cVI0 0 clX12 cwX12_272 (m_X12_doors w o0 h0 M) h0 121 dX12_drawsDeed_118 rfl ⟨Nat.le_of_ble_eq_true rfl, Nat.le_of_ble_eq_true rfl⟩ ⟨Nat.zero_le _, Nat.zero_le _⟩ (Nat.le_of_ble_eq_true rfl) (fun q2 M1 _ => ?_)
    refine go_cVI1 0 clX12 cwX12_413 (m_X12_draw w o0 h0 q2 M1) h0 124 dX12_drawsDeed_121 rfl ⟨Nat.le_of_ble_eq_true rfl, Nat.le_of_ble_eq_true rfl⟩ ⟨Nat.zero_le _, Nat.zero_le _⟩ (Nat.le_of_ble_eq_true rfl) (fun q4 M3 _ => ?_)
    refine go_istore_n [(2, .int q4), (0, .ref (gB G + o0)), (1, .int x1)] 125 dX12_drawsDeed_124 rfl rfl (by decide) rfl ?_
    refine go_aload_n 1 126 dX12_drawsDeed_125 rfl rfl ?_
    refine go_getR flX12_113 h0 129 dX12_drawsDeed_126 rfl ?_
    refine go_sipush 1432 132 dX12_drawsDeed_129 rfl (by decide) ?_
    refine go_iload_n 0 133 dX12_drawsDeed_132 rfl rfl ?_
    refine go_iadd 134 dX12_drawsDeed_133 rfl ?_
    refine go_aload_n 1 135 dX12_drawsDeed_134 rfl rfl ?_
    refine go_sipush 1430 138 dX12_drawsDeed_135 rfl (by decide) ?_
    refine go_iload_n 0 139 dX12_drawsDeed_138 rfl rfl ?_
    refine go_cVI2 2 clX12 cwX12_342 (m_X12_mayForce w o0 h0 1430 q4 M3) h0 142 dX12_drawsDeed_139 rfl ⟨Nat.le_of_ble_eq_true rfl, Nat.le_of_ble_eq_true rfl⟩ ⟨Nat.zero_le _, Nat.zero_le _⟩ (Nat.le_of_ble_eq_true rfl) (fun q6 M5 _ => ?_)
    refine go_if_eq 158 145 dX12_drawsDeed_142 rfl (by decide) (fun _ => ?_) (fun _ => ?_)
    · refine go_aload_n 1 159 dX12_drawsDeed_158 rfl rfl ?_
      refine go_getR flX12_113 h0 162 dX12_drawsDeed_159 rfl ?_
      refine go_sipush 1432 165 dX12_drawsDeed_162 rfl (by decide) ?_
      refine go_iload_n 0 166 dX12_drawsDeed_165 rfl rfl ?_
      refine go_iadd 167 dX12_drawsDeed_166 rfl ?_
      refine go_iald (rk12_24 h0) 168 dX12_drawsDeed_167 rfl ?_
      refine go_iast (rk12_24 h0) 169 dX12_drawsDeed_168 rfl ?_
      refine go_nmM (fun M7 => ?_)
      refine go_iconst 0 170 dX12_drawsDeed_169 rfl (by decide) ?_
      exact go_zret rfl dX12_drawsDeed_170
    · refine go_aload_n 1 146 dX12_drawsDeed_145 rfl rfl ?_
      refine go_getR flX12_113 h0 149 dX12_drawsDeed_146 rfl ?_
      refine go_sipush 1440 152 dX12_drawsDeed_149 rfl (by decide) ?_
      refine go_iload_n 0 153 dX12_drawsDeed_152 rfl rfl ?_
      refine go_iadd 154 dX12_drawsDeed_153 rfl ?_
      refine go_iald (rk12_24 h0) 155 dX12_drawsDeed_154 rfl ?_
      refine go_goto 168 dX12_drawsDeed_155 (by decide) ?_
      refine go_iast (rk12_24 h0) 169 dX12_drawsDeed_168 rfl ?_
      refine go_nmM (fun M8 => ?_)
      refine go_iconst 0 170 dX12_drawsDeed_169 rfl (by decide) ?_
      exact go_zret rfl dX12_drawsDeed_170
def f_X12_drawsDeed (w : Nat) (o0 : Nat) (M : mM) : Option (Int32 × mM) := bI (f_X12_draw w o0 5 M) fun q2 M1 => (if q2 = 0 then bI (f_X12_doors w o0 M1) fun q17 M16 => bI (f_X12_draw w o0 q17 M16) fun q19 M18 => chk (1432 + q19) (sL (rF o0 24)) (chk (1432 + q19) (sL (rF o0 24)) ((if 20 ≤ (M18.1 (rF o0 24) (1432 + q19).toNatClampNeg) then (f_X12_drawsDeed_50 w 0 (M18.1 (rF o0 24) (1432 + q19).toNatClampNeg) (1432 + q19) (rF o0 24) M18) else (f_X12_drawsDeed_50 w 1 (M18.1 (rF o0 24) (1432 + q19).toNatClampNeg) (1432 + q19) (rF o0 24) M18)))) else (if q2 = 1 then bI (f_X12_persons w o0 M1) fun q4 M3 => (if q4 ≤ 0 then (f_X12_drawsDeed_111 w o0 q2 M3) else bI (f_X12_persons w o0 M3) fun q6 M5 => bI (f_X12_draw w o0 q6 M5) fun q8 M7 => bI (f_X12_doors w o0 M7) fun q10 M9 => bI (f_X12_draw w o0 q10 M9) fun q12 M11 => bI (f_X12_mayWalk w o0 1430 q8 q12 M11) fun q14 M13 => (if q14 = 0 then rtB 0 M13 else bV (f_X12_walks w o0 1430 q8 q12 M13) fun M15 => rtB 1 M15)) else (f_X12_drawsDeed_111 w o0 q2 M1)))
set_option maxHeartbeats 4000000 in
set_option maxRecDepth 100000 in
theorem s_X12_drawsDeed {l : Launch} {G : mG} {sk : List mS} (w : Nat) (o0 : Nat) (h0 : isK o0 22) (M : mM) : Go muX12_drawsDeed (rm 3) 0 0 l G sk (mFin G sk eI) (f_X12_drawsDeed w o0 M) 0 [(0, .ref (gB G + o0))] [] M := by
  unfold f_X12_drawsDeed
  refine go_aload_n 0 1 dX12_drawsDeed_0 rfl rfl ?_
  refine go_iconst 5 2 dX12_drawsDeed_1 rfl (by decide) ?_
  refine go_cVI1 0 clX12 cwX12_413 (m_X12_draw w o0 h0 5 M) h0 5 dX12_drawsDeed_2 rfl ⟨Nat.le_of_ble_eq_true rfl, Nat.le_of_ble_eq_true rfl⟩ ⟨Nat.zero_le _, Nat.zero_le _⟩ (Nat.le_of_ble_eq_true rfl) (fun q2 M1 _ => ?_)
  refine go_istore_n [(1, .int q2), (0, .ref (gB G + o0))] 6 dX12_drawsDeed_5 rfl rfl (by decide) rfl ?_
  refine go_iload_n 0 7 dX12_drawsDeed_6 rfl rfl ?_
  refine go_if_ne 55 10 dX12_drawsDeed_7 rfl (by decide) (fun _ => ?_) (fun _ => ?_)
  · refine go_iload_n 0 56 dX12_drawsDeed_55 rfl rfl ?_
    refine go_iconst 1 57 dX12_drawsDeed_56 rfl (by decide) ?_
    refine go_icmp_ne 111 60 dX12_drawsDeed_57 rfl (by decide) (fun _ => ?_) (fun _ => ?_)
    · exact go_lv [1, 0] rfl (s_X12_drawsDeed_111 w o0 h0 q2 M1)
    · refine go_aload_n 1 61 dX12_drawsDeed_60 rfl rfl ?_
      refine go_cVI0 0 clX12 cwX12_279 (m_X12_persons w o0 h0 M1) h0 64 dX12_drawsDeed_61 rfl ⟨Nat.le_of_ble_eq_true rfl, Nat.le_of_ble_eq_true rfl⟩ ⟨Nat.zero_le _, Nat.zero_le _⟩ (Nat.le_of_ble_eq_true rfl) (fun q4 M3 _ => ?_)
      refine go_if_le 111 67 dX12_drawsDeed_64 rfl (by decide) (fun _ => ?_) (fun _ => ?_)
      · exact go_lv [1, 0] rfl (s_X12_drawsDeed_111 w o0 h0 q2 M3)
      · refine go_aload_n 1 68 dX12_drawsDeed_67 rfl rfl ?_
        refine go_aload_n 1 69 dX12_drawsDeed_68 rfl rfl ?_
        refine go_cVI0 0 clX12 cwX12_279 (m_X12_persons w o0 h0 M3) h0 72 dX12_drawsDeed_69 rfl ⟨Nat.le_of_ble_eq_true rfl, Nat.le_of_ble_eq_true rfl⟩ ⟨Nat.zero_le _, Nat.zero_le _⟩ (Nat.le_of_ble_eq_true rfl) (fun q6 M5 _ => ?_)
        refine go_cVI1 0 clX12 cwX12_413 (m_X12_draw w o0 h0 q6 M5) h0 75 dX12_drawsDeed_72 rfl ⟨Nat.le_of_ble_eq_true rfl, Nat.le_of_ble_eq_true rfl⟩ ⟨Nat.zero_le _, Nat.zero_le _⟩ (Nat.le_of_ble_eq_true rfl) (fun q8 M7 _ => ?_)
        refine go_istore_n [(2, .int q8), (1, .int q2), (0, .ref (gB G + o0))] 76 dX12_drawsDeed_75 rfl rfl (by decide) rfl ?_
        refine go_aload_n 2 77 dX12_drawsDeed_76 rfl rfl ?_
        refine go_aload_n 2 78 dX12_drawsDeed_77 rfl rfl ?_
        refine go_cVI0 0 clX12 cwX12_272 (m_X12_doors w o0 h0 M7) h0 81 dX12_drawsDeed_78 rfl ⟨Nat.le_of_ble_eq_true rfl, Nat.le_of_ble_eq_true rfl⟩ ⟨Nat.zero_le _, Nat.zero_le _⟩ (Nat.le_of_ble_eq_true rfl) (fun q10 M9 _ => ?_)
        refine go_cVI1 0 clX12 cwX12_413 (m_X12_draw w o0 h0 q10 M9) h0 84 dX12_drawsDeed_81 rfl ⟨Nat.le_of_ble_eq_true rfl, Nat.le_of_ble_eq_true rfl⟩ ⟨Nat.zero_le _, Nat.zero_le _⟩ (Nat.le_of_ble_eq_true rfl) (fun q12 M11 _ => ?_)
        refine go_istore_n [(3, .int q12), (2, .int q8), (1, .int q2), (0, .ref (gB G + o0))] 85 dX12_drawsDeed_84 rfl rfl (by decide) rfl ?_
        refine go_aload_n 3 86 dX12_drawsDeed_85 rfl rfl ?_
        refine go_sipush 1430 89 dX12_drawsDeed_86 rfl (by decide) ?_
        refine go_iload_n 1 90 dX12_drawsDeed_89 rfl rfl ?_
        refine go_iload_n 0 91 dX12_drawsDeed_90 rfl rfl ?_
        refine go_cVI3 2 clX12 cwX12_333 (m_X12_mayWalk w o0 h0 1430 q8 q12 M11) h0 94 dX12_drawsDeed_91 rfl ⟨Nat.le_of_ble_eq_true rfl, Nat.le_of_ble_eq_true rfl⟩ ⟨Nat.zero_le _, Nat.zero_le _⟩ (Nat.le_of_ble_eq_true rfl) (fun q14 M13 _ => ?_)
        refine go_if_eq 108 97 dX12_drawsDeed_94 rfl (by decide) (fun _ => ?_) (fun _ => ?_)
        · refine go_goto 169 dX12_drawsDeed_108 (by decide) ?_
          refine go_iconst 0 170 dX12_drawsDeed_169 rfl (by decide) ?_
          exact go_zret rfl dX12_drawsDeed_170
        · refine go_aload_n 3 98 dX12_drawsDeed_97 rfl rfl ?_
          refine go_sipush 1430 101 dX12_drawsDeed_98 rfl (by decide) ?_
          refine go_iload_n 1 102 dX12_drawsDeed_101 rfl rfl ?_
          refine go_iload_n 0 103 dX12_drawsDeed_102 rfl rfl ?_
          refine go_cVV3 2 clX12 cwX12_336 (m_X12_walks w o0 h0 1430 q8 q12 M13) h0 106 dX12_drawsDeed_103 rfl ⟨Nat.le_of_ble_eq_true rfl, Nat.le_of_ble_eq_true rfl⟩ ⟨Nat.zero_le _, Nat.zero_le _⟩ (Nat.le_of_ble_eq_true rfl) (fun M15 _ => ?_)
          refine go_iconst 1 107 dX12_drawsDeed_106 rfl (by decide) ?_
          exact go_zret rfl dX12_drawsDeed_107
  · refine go_aload_n 1 11 dX12_drawsDeed_10 rfl rfl ?_
    refine go_aload_n 1 12 dX12_drawsDeed_11 rfl rfl ?_
    refine go_cVI0 0 clX12 cwX12_272 (m_X12_doors w o0 h0 M1) h0 15 dX12_drawsDeed_12 rfl ⟨Nat.le_of_ble_eq_true rfl, Nat.le_of_ble_eq_true rfl⟩ ⟨Nat.zero_le _, Nat.zero_le _⟩ (Nat.le_of_ble_eq_true rfl) (fun q17 M16 _ => ?_)
    refine go_cVI1 0 clX12 cwX12_413 (m_X12_draw w o0 h0 q17 M16) h0 18 dX12_drawsDeed_15 rfl ⟨Nat.le_of_ble_eq_true rfl, Nat.le_of_ble_eq_true rfl⟩ ⟨Nat.zero_le _, Nat.zero_le _⟩ (Nat.le_of_ble_eq_true rfl) (fun q19 M18 _ => ?_)
    refine go_istore_n [(2, .int q19), (1, .int q2), (0, .ref (gB G + o0))] 19 dX12_drawsDeed_18 rfl rfl (by decide) rfl ?_
    refine go_aload_n 2 20 dX12_drawsDeed_19 rfl rfl ?_
    refine go_getR flX12_113 h0 23 dX12_drawsDeed_20 rfl ?_
    refine go_sipush 1432 26 dX12_drawsDeed_23 rfl (by decide) ?_
    refine go_iload_n 0 27 dX12_drawsDeed_26 rfl rfl ?_
    refine go_iadd 28 dX12_drawsDeed_27 rfl ?_
    refine go_dup2 29 dX12_drawsDeed_28 rfl rfl rfl ?_
    refine go_iald (rk12_24 h0) 30 dX12_drawsDeed_29 rfl ?_
    refine go_aload_n 2 31 dX12_drawsDeed_30 rfl rfl ?_
    refine go_getR flX12_113 h0 34 dX12_drawsDeed_31 rfl ?_
    refine go_sipush 1432 37 dX12_drawsDeed_34 rfl (by decide) ?_
    refine go_iload_n 0 38 dX12_drawsDeed_37 rfl rfl ?_
    refine go_iadd 39 dX12_drawsDeed_38 rfl ?_
    refine go_iald (rk12_24 h0) 40 dX12_drawsDeed_39 rfl ?_
    refine go_bipush 20 42 dX12_drawsDeed_40 rfl (by decide) ?_
    refine go_icmp_ge 49 45 dX12_drawsDeed_42 rfl (by decide) (fun _ => ?_) (fun _ => ?_)
    · refine go_iconst 0 50 dX12_drawsDeed_49 rfl (by decide) ?_
      exact go_lv [] rfl (s_X12_drawsDeed_50 w 0 (M18.1 (rF o0 24) (1432 + q19).toNatClampNeg) (1432 + q19) (rF o0 24) (rk12_24 h0) M18)
    · refine go_iconst 1 46 dX12_drawsDeed_45 rfl (by decide) ?_
      refine go_goto 50 dX12_drawsDeed_46 (by decide) ?_
      exact go_lv [] rfl (s_X12_drawsDeed_50 w 1 (M18.1 (rF o0 24) (1432 + q19).toNatClampNeg) (1432 + q19) (rF o0 24) (rk12_24 h0) M18)
theorem m_X12_drawsDeed {l : Launch} {G : mG} {sk : List mS} (w : Nat) (o0 : Nat) (h0 : isK o0 22) (M : mM) : Mt l G sk yX12_drawsDeed muX12_drawsDeed 3 [.ref (gB G + o0)] M eI (f_X12_drawsDeed w o0 M) := Mt.of (by decide) rfl (Nat.le_of_ble_eq_true rfl) (s_X12_drawsDeed w o0 h0 M)
theorem dX12_years_0 : decode cX12_years 0 = .ok (.aload_n 0, 1) := by decide +kernel
theorem dX12_years_1 : decode cX12_years 1 = .ok (.iconst 0, 1) := by decide +kernel
theorem dX12_years_2 : decode cX12_years 2 = .ok (.putfield 1, 3) := by decide +kernel
theorem dX12_years_5 : decode cX12_years 5 = .ok (.iload_n 1, 1) := by decide +kernel
theorem dX12_years_6 : decode cX12_years 6 = .ok (.iconst 0, 1) := by decide +kernel
theorem dX12_years_7 : decode cX12_years 7 = .ok (.sipush 9999, 3) := by decide +kernel
theorem dX12_years_10 : decode cX12_years 10 = .ok (.invokestatic 204, 3) := by decide +kernel
theorem dX12_years_13 : decode cX12_years 13 = .ok (.ifCond .eq 22, 3) := by decide +kernel
theorem dX12_years_16 : decode cX12_years 16 = .ok (.iload_n 2, 1) := by decide +kernel
theorem dX12_years_17 : decode cX12_years 17 = .ok (.iconst 1, 1) := by decide +kernel
theorem dX12_years_18 : decode cX12_years 18 = .ok (.bipush 99, 2) := by decide +kernel
theorem dX12_years_20 : decode cX12_years 20 = .ok (.invokestatic 204, 3) := by decide +kernel
theorem dX12_years_23 : decode cX12_years 23 = .ok (.ifCond .eq 12, 3) := by decide +kernel
theorem dX12_years_26 : decode cX12_years 26 = .ok (.iload_n 3, 1) := by decide +kernel
theorem dX12_years_27 : decode cX12_years 27 = .ok (.iconst 0, 1) := by decide +kernel
theorem dX12_years_28 : decode cX12_years 28 = .ok (.iconst 2, 1) := by decide +kernel
theorem dX12_years_29 : decode cX12_years 29 = .ok (.invokestatic 204, 3) := by decide +kernel
theorem dX12_years_32 : decode cX12_years 32 = .ok (.ifCond .ne 5, 3) := by decide +kernel
theorem dX12_years_35 : decode cX12_years 35 = .ok (.iconst (-1), 1) := by decide +kernel
theorem dX12_years_36 : decode cX12_years 36 = .ok (.ireturn, 1) := by decide +kernel
theorem dX12_years_37 : decode cX12_years 37 = .ok (.aload_n 0, 1) := by decide +kernel
theorem dX12_years_38 : decode cX12_years 38 = .ok (.iconst 0, 1) := by decide +kernel
theorem dX12_years_39 : decode cX12_years 39 = .ok (.sipush 1430, 3) := by decide +kernel
theorem dX12_years_42 : decode cX12_years 42 = .ok (.bipush 23, 2) := by decide +kernel
theorem dX12_years_44 : decode cX12_years 44 = .ok (.invokevirtual 288, 3) := by decide +kernel
theorem dX12_years_47 : decode cX12_years 47 = .ok (.aload_n 0, 1) := by decide +kernel
theorem dX12_years_48 : decode cX12_years 48 = .ok (.iload_n 1, 1) := by decide +kernel
theorem dX12_years_49 : decode cX12_years 49 = .ok (.i2l, 1) := by decide +kernel
theorem dX12_years_50 : decode cX12_years 50 = .ok (.putfield 401, 3) := by decide +kernel
theorem dX12_years_53 : decode cX12_years 53 = .ok (.iconst 0, 1) := by decide +kernel
theorem dX12_years_54 : decode cX12_years 54 = .ok (.istore 4, 2) := by decide +kernel
theorem dX12_years_56 : decode cX12_years 56 = .ok (.iconst 0, 1) := by decide +kernel
theorem dX12_years_57 : decode cX12_years 57 = .ok (.istore 5, 2) := by decide +kernel
theorem dX12_years_59 : decode cX12_years 59 = .ok (.iload 5, 2) := by decide +kernel
theorem dX12_years_61 : decode cX12_years 61 = .ok (.iload_n 2, 1) := by decide +kernel
theorem dX12_years_62 : decode cX12_years 62 = .ok (.if_icmp .ge 40, 3) := by decide +kernel
theorem dX12_years_65 : decode cX12_years 65 = .ok (.iload 4, 2) := by decide +kernel
theorem dX12_years_67 : decode cX12_years 67 = .ok (.aload_n 0, 1) := by decide +kernel
theorem dX12_years_68 : decode cX12_years 68 = .ok (.invokevirtual 272, 3) := by decide +kernel
theorem dX12_years_71 : decode cX12_years 71 = .ok (.ifCond .le 14, 3) := by decide +kernel
theorem dX12_years_74 : decode cX12_years 74 = .ok (.aload_n 0, 1) := by decide +kernel
theorem dX12_years_75 : decode cX12_years 75 = .ok (.invokevirtual 416, 3) := by decide +kernel
theorem dX12_years_78 : decode cX12_years 78 = .ok (.ifCond .eq 7, 3) := by decide +kernel
theorem dX12_years_81 : decode cX12_years 81 = .ok (.iconst 1, 1) := by decide +kernel
theorem dX12_years_82 : decode cX12_years 82 = .ok (.goto 4, 3) := by decide +kernel
theorem dX12_years_85 : decode cX12_years 85 = .ok (.iconst 0, 1) := by decide +kernel
theorem dX12_years_86 : decode cX12_years 86 = .ok (.iadd, 1) := by decide +kernel
theorem dX12_years_87 : decode cX12_years 87 = .ok (.istore 4, 2) := by decide +kernel
theorem dX12_years_89 : decode cX12_years 89 = .ok (.aload_n 0, 1) := by decide +kernel
theorem dX12_years_90 : decode cX12_years 90 = .ok (.sipush 1430, 3) := by decide +kernel
theorem dX12_years_93 : decode cX12_years 93 = .ok (.invokevirtual 328, 3) := by decide +kernel
theorem dX12_years_96 : decode cX12_years 96 = .ok (.iinc 5 1, 3) := by decide +kernel
theorem dX12_years_99 : decode cX12_years 99 = .ok (.goto (-40), 3) := by decide +kernel
theorem dX12_years_102 : decode cX12_years 102 = .ok (.iload_n 3, 1) := by decide +kernel
theorem dX12_years_103 : decode cX12_years 103 = .ok (.ifCond .ne 8, 3) := by decide +kernel
theorem dX12_years_106 : decode cX12_years 106 = .ok (.iload 4, 2) := by decide +kernel
theorem dX12_years_108 : decode cX12_years 108 = .ok (.goto 32, 3) := by decide +kernel
theorem dX12_years_111 : decode cX12_years 111 = .ok (.iload_n 3, 1) := by decide +kernel
theorem dX12_years_112 : decode cX12_years 112 = .ok (.iconst 1, 1) := by decide +kernel
theorem dX12_years_113 : decode cX12_years 113 = .ok (.if_icmp .ne 16, 3) := by decide +kernel
theorem dX12_years_116 : decode cX12_years 116 = .ok (.aload_n 0, 1) := by decide +kernel
theorem dX12_years_117 : decode cX12_years 117 = .ok (.sipush 1430, 3) := by decide +kernel
theorem dX12_years_120 : decode cX12_years 120 = .ok (.invokevirtual 330, 3) := by decide +kernel
theorem dX12_years_123 : decode cX12_years 123 = .ok (.invokestatic 351, 3) := by decide +kernel
theorem dX12_years_126 : decode cX12_years 126 = .ok (.goto 14, 3) := by decide +kernel
theorem dX12_years_129 : decode cX12_years 129 = .ok (.aload_n 0, 1) := by decide +kernel
theorem dX12_years_130 : decode cX12_years 130 = .ok (.sipush 1440, 3) := by decide +kernel
theorem dX12_years_133 : decode cX12_years 133 = .ok (.aload_n 0, 1) := by decide +kernel
theorem dX12_years_134 : decode cX12_years 134 = .ok (.invokevirtual 272, 3) := by decide +kernel
theorem dX12_years_137 : decode cX12_years 137 = .ok (.invokevirtual 419, 3) := by decide +kernel
theorem dX12_years_140 : decode cX12_years 140 = .ok (.ireturn, 1) := by decide +kernel
def f_X12_years_86 (w : Nat) (k59 : Nat → Int32 → Int32 → Int32 → Int32 → mM → Option (Int32 × mM)) (o0 : Nat) (x2 : Int32) (x3 : Int32) (x5 : Int32) (xs0 : Int32) (xs1 : Int32) (M : mM) : Option (Int32 × mM) := lt (xs1 + xs0) fun y1 => bV (f_X12_passes_ w o0 1430 M) fun M2 => (k59 o0 x2 x3 y1 (x5 + 1) M2)
set_option maxHeartbeats 4000000 in
set_option maxRecDepth 100000 in
theorem s_X12_years_86 {l : Launch} {G : mG} {sk : List mS} (w : Nat) (k59 : Nat → Int32 → Int32 → Int32 → Int32 → mM → Option (Int32 × mM)) (hk59 : ∀ (o0 : Nat) (h0 : isK o0 22) (x2 : Int32) (x3 : Int32) (x4 : Int32) (x5 : Int32) (M : mM), Go muX12_years (rm 5) 0 0 l G sk (mFin G sk eI) (k59 o0 x2 x3 x4 x5 M) 59 [(0, .ref (gB G + o0)), (2, .int x2), (3, .int x3), (4, .int x4), (5, .int x5)] [] M) (o0 : Nat) (h0 : isK o0 22) (x2 : Int32) (x3 : Int32) (x5 : Int32) (xs0 : Int32) (xs1 : Int32) (M : mM) : Go muX12_years (rm 5) 0 0 l G sk (mFin G sk eI) (f_X12_years_86 w k59 o0 x2 x3 x5 xs0 xs1 M) 86 [(0, .ref (gB G + o0)), (2, .int x2), (3, .int x3), (5, .int x5)] [.int xs0, .int xs1] M := by
  unfold f_X12_years_86
  refine go_iadd 87 dX12_years_86 rfl ?_
  refine go_nmI (fun y1 => ?_)
  refine go_istore [(4, .int y1), (0, .ref (gB G + o0)), (2, .int x2), (3, .int x3), (5, .int x5)] 89 dX12_years_87 rfl (by decide) rfl ?_
  refine go_aload_n 1 90 dX12_years_89 rfl rfl ?_
  refine go_sipush 1430 93 dX12_years_90 rfl (by decide) ?_
  refine go_cVV1 4 clX12 cwX12_328 (m_X12_passes_ w o0 h0 1430 M) h0 96 dX12_years_93 rfl ⟨Nat.le_of_ble_eq_true rfl, Nat.le_of_ble_eq_true rfl⟩ ⟨Nat.zero_le _, Nat.zero_le _⟩ (Nat.le_of_ble_eq_true rfl) (fun M2 _ => ?_)
  refine go_iinc (x5 + 1) 4 [(5, .int (x5 + 1)), (4, .int y1), (0, .ref (gB G + o0)), (2, .int x2), (3, .int x3)] 99 dX12_years_96 rfl rfl rfl (by decide) rfl ?_
  refine go_goto 59 dX12_years_99 (by decide) ?_
  exact go_lv [2, 3, 4, 1, 0] rfl (hk59 o0 h0 x2 x3 y1 (x5 + 1) M2)
def f_X12_years_85 (w : Nat) (k59 : Nat → Int32 → Int32 → Int32 → Int32 → mM → Option (Int32 × mM)) (o0 : Nat) (x2 : Int32) (x3 : Int32) (x5 : Int32) (xs0 : Int32) (M : mM) : Option (Int32 × mM) := (f_X12_years_86 w k59 o0 x2 x3 x5 0 xs0 M)
set_option maxHeartbeats 4000000 in
set_option maxRecDepth 100000 in
theorem s_X12_years_85 {l : Launch} {G : mG} {sk : List mS} (w : Nat) (k59 : Nat → Int32 → Int32 → Int32 → Int32 → mM → Option (Int32 × mM)) (hk59 : ∀ (o0 : Nat) (h0 : isK o0 22) (x2 : Int32) (x3 : Int32) (x4 : Int32) (x5 : Int32) (M : mM), Go muX12_years (rm 5) 0 0 l G sk (mFin G sk eI) (k59 o0 x2 x3 x4 x5 M) 59 [(0, .ref (gB G + o0)), (2, .int x2), (3, .int x3), (4, .int x4), (5, .int x5)] [] M) (o0 : Nat) (h0 : isK o0 22) (x2 : Int32) (x3 : Int32) (x5 : Int32) (xs0 : Int32) (M : mM) : Go muX12_years (rm 5) 0 0 l G sk (mFin G sk eI) (f_X12_years_85 w k59 o0 x2 x3 x5 xs0 M) 85 [(0, .ref (gB G + o0)), (2, .int x2), (3, .int x3), (5, .int x5)] [.int xs0] M := by
  unfold f_X12_years_85
  refine go_iconst 0 86 dX12_years_85 rfl (by decide) ?_
  exact go_lv [0, 1, 2, 3] rfl (s_X12_years_86 w k59 hk59 o0 h0 x2 x3 x5 0 xs0 M)
def f_X12_years_102 (w : Nat) (o0 : Nat) (x3 : Int32) (x4 : Int32) (M : mM) : Option (Int32 × mM) := (if x3 = 0 then some (x4, M) else (if x3 = 1 then bI (f_X12_sticking w o0 1430 M) fun q6 M5 => bI (f_X12_bits w q6 M5) fun q8 M7 => some (q8, M7) else bI (f_X12_doors w o0 M) fun q2 M1 => bI (f_X12_sumOf w o0 1440 q2 M1) fun q4 M3 => some (q4, M3)))
set_option maxHeartbeats 4000000 in
set_option maxRecDepth 100000 in
theorem s_X12_years_102 {l : Launch} {G : mG} {sk : List mS} (w : Nat) (o0 : Nat) (h0 : isK o0 22) (x3 : Int32) (x4 : Int32) (M : mM) : Go muX12_years (rm 5) 0 0 l G sk (mFin G sk eI) (f_X12_years_102 w o0 x3 x4 M) 102 [(0, .ref (gB G + o0)), (3, .int x3), (4, .int x4)] [] M := by
  unfold f_X12_years_102
  refine go_iload_n 1 103 dX12_years_102 rfl rfl ?_
  refine go_if_ne 111 106 dX12_years_103 rfl (by decide) (fun _ => ?_) (fun _ => ?_)
  · refine go_iload_n 1 112 dX12_years_111 rfl rfl ?_
    refine go_iconst 1 113 dX12_years_112 rfl (by decide) ?_
    refine go_icmp_ne 129 116 dX12_years_113 rfl (by decide) (fun _ => ?_) (fun _ => ?_)
    · refine go_aload_n 0 130 dX12_years_129 rfl rfl ?_
      refine go_sipush 1440 133 dX12_years_130 rfl (by decide) ?_
      refine go_aload_n 0 134 dX12_years_133 rfl rfl ?_
      refine go_cVI0 0 clX12 cwX12_272 (m_X12_doors w o0 h0 M) h0 137 dX12_years_134 rfl ⟨Nat.le_of_ble_eq_true rfl, Nat.le_of_ble_eq_true rfl⟩ ⟨Nat.zero_le _, Nat.zero_le _⟩ (Nat.le_of_ble_eq_true rfl) (fun q2 M1 _ => ?_)
      refine go_cVI2 0 clX12 cwX12_419 (m_X12_sumOf w o0 h0 1440 q2 M1) h0 140 dX12_years_137 rfl ⟨Nat.le_of_ble_eq_true rfl, Nat.le_of_ble_eq_true rfl⟩ ⟨Nat.zero_le _, Nat.zero_le _⟩ (Nat.le_of_ble_eq_true rfl) (fun q4 M3 _ => ?_)
      exact go_iret rfl dX12_years_140
    · refine go_aload_n 0 117 dX12_years_116 rfl rfl ?_
      refine go_sipush 1430 120 dX12_years_117 rfl (by decide) ?_
      refine go_cVI1 2 clX12 cwX12_330 (m_X12_sticking w o0 h0 1430 M) h0 123 dX12_years_120 rfl ⟨Nat.le_of_ble_eq_true rfl, Nat.le_of_ble_eq_true rfl⟩ ⟨Nat.zero_le _, Nat.zero_le _⟩ (Nat.le_of_ble_eq_true rfl) (fun q6 M5 _ => ?_)
      refine go_cSI1 0 cwX12_351 (m_X12_bits w q6 M5) 126 dX12_years_123 rfl ⟨Nat.le_of_ble_eq_true rfl, Nat.le_of_ble_eq_true rfl⟩ ⟨Nat.zero_le _, Nat.zero_le _⟩ (Nat.le_of_ble_eq_true rfl) (fun q8 M7 _ => ?_)
      refine go_goto 140 dX12_years_126 (by decide) ?_
      exact go_iret rfl dX12_years_140
  · refine go_iload 2 108 dX12_years_106 rfl rfl ?_
    refine go_goto 140 dX12_years_108 (by decide) ?_
    exact go_iret rfl dX12_years_140
def f_X12_years_59 (w : Nat) : Nat → Nat → Int32 → Int32 → Int32 → Int32 → mM → Option (Int32 × mM)
  | 0, _, _, _, _, _, _ => none
  | n + 1, o0, x2, x3, x4, x5, M => (if x2 ≤ x5 then (f_X12_years_102 w o0 x3 x4 M) else bI (f_X12_doors w o0 M) fun q2 M1 => (if q2 ≤ 0 then (f_X12_years_85 w (f_X12_years_59 w n) o0 x2 x3 x5 x4 M1) else bI (f_X12_drawsDeed w o0 M1) fun q4 M3 => (if q4 = 0 then (f_X12_years_85 w (f_X12_years_59 w n) o0 x2 x3 x5 x4 M3) else (f_X12_years_86 w (f_X12_years_59 w n) o0 x2 x3 x5 1 x4 M3))))
set_option maxHeartbeats 4000000 in
set_option maxRecDepth 100000 in
theorem s_X12_years_59 {l : Launch} {G : mG} {sk : List mS} (w : Nat) : ∀ (n : Nat) (o0 : Nat) (h0 : isK o0 22) (x2 : Int32) (x3 : Int32) (x4 : Int32) (x5 : Int32) (M : mM), Go muX12_years (rm 5) 0 0 l G sk (mFin G sk eI) (f_X12_years_59 w n o0 x2 x3 x4 x5 M) 59 [(0, .ref (gB G + o0)), (2, .int x2), (3, .int x3), (4, .int x4), (5, .int x5)] [] M := by
  intro n
  induction n with
  | zero =>
    intros
    exact go_none
  | succ n ih =>
    intro o0 h0 x2 x3 x4 x5 M
    rw [f_X12_years_59]
    refine go_iload 4 61 dX12_years_59 rfl rfl ?_
    refine go_iload_n 1 62 dX12_years_61 rfl rfl ?_
    refine go_icmp_ge 102 65 dX12_years_62 rfl (by decide) (fun _ => ?_) (fun _ => ?_)
    · exact go_lv [0, 2, 3] rfl (s_X12_years_102 w o0 h0 x3 x4 M)
    · refine go_iload 3 67 dX12_years_65 rfl rfl ?_
      refine go_aload_n 0 68 dX12_years_67 rfl rfl ?_
      refine go_cVI0 0 clX12 cwX12_272 (m_X12_doors w o0 h0 M) h0 71 dX12_years_68 rfl ⟨Nat.le_of_ble_eq_true rfl, Nat.le_of_ble_eq_true rfl⟩ ⟨Nat.zero_le _, Nat.zero_le _⟩ (Nat.le_of_ble_eq_true rfl) (fun q2 M1 _ => ?_)
      refine go_if_le 85 74 dX12_years_71 rfl (by decide) (fun _ => ?_) (fun _ => ?_)
      · exact go_lv [0, 1, 2, 4] rfl (s_X12_years_85 w (f_X12_years_59 w n) (fun o0 h0 x2 x3 x4 x5 M => ih o0 h0 x2 x3 x4 x5 M) o0 h0 x2 x3 x5 x4 M1)
      · refine go_aload_n 0 75 dX12_years_74 rfl rfl ?_
        refine go_cVI0 3 clX12 cwX12_416 (m_X12_drawsDeed w o0 h0 M1) h0 78 dX12_years_75 rfl ⟨Nat.le_of_ble_eq_true rfl, Nat.le_of_ble_eq_true rfl⟩ ⟨Nat.zero_le _, Nat.zero_le _⟩ (Nat.le_of_ble_eq_true rfl) (fun q4 M3 _ => ?_)
        refine go_if_eq 85 81 dX12_years_78 rfl (by decide) (fun _ => ?_) (fun _ => ?_)
        · exact go_lv [0, 1, 2, 4] rfl (s_X12_years_85 w (f_X12_years_59 w n) (fun o0 h0 x2 x3 x4 x5 M => ih o0 h0 x2 x3 x4 x5 M) o0 h0 x2 x3 x5 x4 M3)
        · refine go_iconst 1 82 dX12_years_81 rfl (by decide) ?_
          refine go_goto 86 dX12_years_82 (by decide) ?_
          exact go_lv [0, 1, 2, 4] rfl (s_X12_years_86 w (f_X12_years_59 w n) (fun o0 h0 x2 x3 x4 x5 M => ih o0 h0 x2 x3 x4 x5 M) o0 h0 x2 x3 x5 1 x4 M3)
def f_X12_years (w : Nat) (o0 : Nat) (x1 : Int32) (x2 : Int32) (x3 : Int32) (M : mM) : Option (Int32 × mM) := lt (wI M o0 0 0) fun M1 => bI (f_X12_within w x1 0 9999 M1) fun q3 M2 => (if q3 = 0 then some ((-1), M2) else bI (f_X12_within w x2 1 99 M2) fun q5 M4 => (if q5 = 0 then some ((-1), M4) else bI (f_X12_within w x3 0 2 M4) fun q7 M6 => (if q7 = 0 then some ((-1), M6) else bV (f_X12_copies w o0 0 1430 23 M6) fun M8 => lt (wL M8 o0 31 (x1.toInt64)) fun M9 => (f_X12_years_59 w w o0 x2 x3 0 0 M9))))
set_option maxHeartbeats 4000000 in
set_option maxRecDepth 100000 in
theorem s_X12_years {l : Launch} {G : mG} {sk : List mS} (w : Nat) (o0 : Nat) (h0 : isK o0 22) (x1 : Int32) (x2 : Int32) (x3 : Int32) (M : mM) : Go muX12_years (rm 5) 0 0 l G sk (mFin G sk eI) (f_X12_years w o0 x1 x2 x3 M) 0 [(0, .ref (gB G + o0)), (1, .int x1), (2, .int x2), (3, .int x3)] [] M := by
  unfold f_X12_years
  refine go_aload_n 0 1 dX12_years_0 rfl rfl ?_
  refine go_iconst 0 2 dX12_years_1 rfl (by decide) ?_
  refine go_putI flX12_1 rfl rfl h0 5 dX12_years_2 rfl ?_
  refine go_nmM (fun M1 => ?_)
  refine go_iload_n 1 6 dX12_years_5 rfl rfl ?_
  refine go_iconst 0 7 dX12_years_6 rfl (by decide) ?_
  refine go_sipush 9999 10 dX12_years_7 rfl (by decide) ?_
  refine go_cSI3 0 cwX12_204 (m_X12_within w x1 0 9999 M1) 13 dX12_years_10 rfl ⟨Nat.le_of_ble_eq_true rfl, Nat.le_of_ble_eq_true rfl⟩ ⟨Nat.zero_le _, Nat.zero_le _⟩ (Nat.le_of_ble_eq_true rfl) (fun q3 M2 _ => ?_)
  refine go_if_eq 35 16 dX12_years_13 rfl (by decide) (fun _ => ?_) (fun _ => ?_)
  · refine go_iconst (-1) 36 dX12_years_35 rfl (by decide) ?_
    exact go_iret rfl dX12_years_36
  · refine go_iload_n 2 17 dX12_years_16 rfl rfl ?_
    refine go_iconst 1 18 dX12_years_17 rfl (by decide) ?_
    refine go_bipush 99 20 dX12_years_18 rfl (by decide) ?_
    refine go_cSI3 0 cwX12_204 (m_X12_within w x2 1 99 M2) 23 dX12_years_20 rfl ⟨Nat.le_of_ble_eq_true rfl, Nat.le_of_ble_eq_true rfl⟩ ⟨Nat.zero_le _, Nat.zero_le _⟩ (Nat.le_of_ble_eq_true rfl) (fun q5 M4 _ => ?_)
    refine go_if_eq 35 26 dX12_years_23 rfl (by decide) (fun _ => ?_) (fun _ => ?_)
    · refine go_iconst (-1) 36 dX12_years_35 rfl (by decide) ?_
      exact go_iret rfl dX12_years_36
    · refine go_iload_n 3 27 dX12_years_26 rfl rfl ?_
      refine go_iconst 0 28 dX12_years_27 rfl (by decide) ?_
      refine go_iconst 2 29 dX12_years_28 rfl (by decide) ?_
      refine go_cSI3 0 cwX12_204 (m_X12_within w x3 0 2 M4) 32 dX12_years_29 rfl ⟨Nat.le_of_ble_eq_true rfl, Nat.le_of_ble_eq_true rfl⟩ ⟨Nat.zero_le _, Nat.zero_le _⟩ (Nat.le_of_ble_eq_true rfl) (fun q7 M6 _ => ?_)
      refine go_if_ne 37 35 dX12_years_32 rfl (by decide) (fun _ => ?_) (fun _ => ?_)
      · refine go_aload_n 0 38 dX12_years_37 rfl rfl ?_
        refine go_iconst 0 39 dX12_years_38 rfl (by decide) ?_
        refine go_sipush 1430 42 dX12_years_39 rfl (by decide) ?_
        refine go_bipush 23 44 dX12_years_42 rfl (by decide) ?_
        refine go_cVV3 0 clX12 cwX12_288 (m_X12_copies w o0 h0 0 1430 23 M6) h0 47 dX12_years_44 rfl ⟨Nat.le_of_ble_eq_true rfl, Nat.le_of_ble_eq_true rfl⟩ ⟨Nat.zero_le _, Nat.zero_le _⟩ (Nat.le_of_ble_eq_true rfl) (fun M8 _ => ?_)
        refine go_aload_n 0 48 dX12_years_47 rfl rfl ?_
        refine go_iload_n 1 49 dX12_years_48 rfl rfl ?_
        refine go_i2l 50 dX12_years_49 rfl ?_
        refine go_putL flX12_401 rfl rfl h0 53 dX12_years_50 rfl ?_
        refine go_nmM (fun M9 => ?_)
        refine go_iconst 0 54 dX12_years_53 rfl (by decide) ?_
        refine go_istore [(4, .int 0), (0, .ref (gB G + o0)), (1, .int x1), (2, .int x2), (3, .int x3)] 56 dX12_years_54 rfl (by decide) rfl ?_
        refine go_iconst 0 57 dX12_years_56 rfl (by decide) ?_
        refine go_istore [(5, .int 0), (4, .int 0), (0, .ref (gB G + o0)), (1, .int x1), (2, .int x2), (3, .int x3)] 59 dX12_years_57 rfl (by decide) rfl ?_
        exact go_lv [2, 4, 5, 1, 0] rfl (s_X12_years_59 w w o0 h0 x2 x3 0 0 M9)
      · refine go_iconst (-1) 36 dX12_years_35 rfl (by decide) ?_
        exact go_iret rfl dX12_years_36
theorem m_X12_years {l : Launch} {G : mG} {sk : List mS} (w : Nat) (o0 : Nat) (h0 : isK o0 22) (x1 : Int32) (x2 : Int32) (x3 : Int32) (M : mM) : Mt l G sk yX12_years muX12_years 5 [.ref (gB G + o0), .int x1, .int x2, .int x3] M eI (f_X12_years w o0 x1 x2 x3 M) := Mt.of (by decide) rfl (Nat.le_of_ble_eq_true rfl) (s_X12_years w o0 h0 x1 x2 x3 M)
theorem dX12_mark_0 : decode cX12_mark 0 = .ok (.aload_n 0, 1) := by decide +kernel
theorem dX12_mark_1 : decode cX12_mark 1 = .ok (.iconst 0, 1) := by decide +kernel
theorem dX12_mark_2 : decode cX12_mark 2 = .ok (.putfield 1, 3) := by decide +kernel
theorem dX12_mark_5 : decode cX12_mark 5 = .ok (.iload_n 1, 1) := by decide +kernel
theorem dX12_mark_6 : decode cX12_mark 6 = .ok (.iconst 0, 1) := by decide +kernel
theorem dX12_mark_7 : decode cX12_mark 7 = .ok (.iconst 3, 1) := by decide +kernel
theorem dX12_mark_8 : decode cX12_mark 8 = .ok (.invokestatic 204, 3) := by decide +kernel
theorem dX12_mark_11 : decode cX12_mark 11 = .ok (.ifCond .eq 16, 3) := by decide +kernel
theorem dX12_mark_14 : decode cX12_mark 14 = .ok (.iload_n 2, 1) := by decide +kernel
theorem dX12_mark_15 : decode cX12_mark 15 = .ok (.ifCond .eq 14, 3) := by decide +kernel
theorem dX12_mark_18 : decode cX12_mark 18 = .ok (.aload_n 0, 1) := by decide +kernel
theorem dX12_mark_19 : decode cX12_mark 19 = .ok (.getfield 116, 3) := by decide +kernel
theorem dX12_mark_22 : decode cX12_mark 22 = .ok (.iload_n 1, 1) := by decide +kernel
theorem dX12_mark_23 : decode cX12_mark 23 = .ok (.baload, 1) := by decide +kernel
theorem dX12_mark_24 : decode cX12_mark 24 = .ok (.ifCond .ne 5, 3) := by decide +kernel
theorem dX12_mark_27 : decode cX12_mark 27 = .ok (.iconst 0, 1) := by decide +kernel
theorem dX12_mark_28 : decode cX12_mark 28 = .ok (.ireturn, 1) := by decide +kernel
theorem dX12_mark_29 : decode cX12_mark 29 = .ok (.aload_n 0, 1) := by decide +kernel
theorem dX12_mark_30 : decode cX12_mark 30 = .ok (.getfield 116, 3) := by decide +kernel
theorem dX12_mark_33 : decode cX12_mark 33 = .ok (.iload_n 1, 1) := by decide +kernel
theorem dX12_mark_34 : decode cX12_mark 34 = .ok (.iconst 1, 1) := by decide +kernel
theorem dX12_mark_35 : decode cX12_mark 35 = .ok (.bastore, 1) := by decide +kernel
theorem dX12_mark_36 : decode cX12_mark 36 = .ok (.aload_n 0, 1) := by decide +kernel
theorem dX12_mark_37 : decode cX12_mark 37 = .ok (.iload_n 2, 1) := by decide +kernel
theorem dX12_mark_38 : decode cX12_mark 38 = .ok (.ifCond .eq 12, 3) := by decide +kernel
theorem dX12_mark_41 : decode cX12_mark 41 = .ok (.bipush 65, 2) := by decide +kernel
theorem dX12_mark_43 : decode cX12_mark 43 = .ok (.iconst 1, 1) := by decide +kernel
theorem dX12_mark_44 : decode cX12_mark 44 = .ok (.iload_n 1, 1) := by decide +kernel
theorem dX12_mark_45 : decode cX12_mark 45 = .ok (.iadd, 1) := by decide +kernel
theorem dX12_mark_46 : decode cX12_mark 46 = .ok (.imul, 1) := by decide +kernel
theorem dX12_mark_47 : decode cX12_mark 47 = .ok (.goto 4, 3) := by decide +kernel
theorem dX12_mark_50 : decode cX12_mark 50 = .ok (.iconst 0, 1) := by decide +kernel
theorem dX12_mark_51 : decode cX12_mark 51 = .ok (.iload_n 2, 1) := by decide +kernel
theorem dX12_mark_52 : decode cX12_mark 52 = .ok (.ifCond .eq 7, 3) := by decide +kernel
theorem dX12_mark_55 : decode cX12_mark 55 = .ok (.iconst 0, 1) := by decide +kernel
theorem dX12_mark_56 : decode cX12_mark 56 = .ok (.goto 9, 3) := by decide +kernel
theorem dX12_mark_59 : decode cX12_mark 59 = .ok (.bipush 65, 2) := by decide +kernel
theorem dX12_mark_61 : decode cX12_mark 61 = .ok (.iconst 1, 1) := by decide +kernel
theorem dX12_mark_62 : decode cX12_mark 62 = .ok (.iload_n 1, 1) := by decide +kernel
theorem dX12_mark_63 : decode cX12_mark 63 = .ok (.iadd, 1) := by decide +kernel
theorem dX12_mark_64 : decode cX12_mark 64 = .ok (.imul, 1) := by decide +kernel
theorem dX12_mark_65 : decode cX12_mark 65 = .ok (.bipush 65, 2) := by decide +kernel
theorem dX12_mark_67 : decode cX12_mark 67 = .ok (.invokevirtual 288, 3) := by decide +kernel
theorem dX12_mark_70 : decode cX12_mark 70 = .ok (.aload_n 0, 1) := by decide +kernel
theorem dX12_mark_71 : decode cX12_mark 71 = .ok (.iload_n 2, 1) := by decide +kernel
theorem dX12_mark_72 : decode cX12_mark 72 = .ok (.ifCond .eq 7, 3) := by decide +kernel
theorem dX12_mark_75 : decode cX12_mark 75 = .ok (.iconst 0, 1) := by decide +kernel
theorem dX12_mark_76 : decode cX12_mark 76 = .ok (.goto 7, 3) := by decide +kernel
theorem dX12_mark_79 : decode cX12_mark 79 = .ok (.aload_n 0, 1) := by decide +kernel
theorem dX12_mark_80 : decode cX12_mark 80 = .ok (.getfield 285, 3) := by decide +kernel
theorem dX12_mark_83 : decode cX12_mark 83 = .ok (.putfield 285, 3) := by decide +kernel
theorem dX12_mark_86 : decode cX12_mark 86 = .ok (.iconst 1, 1) := by decide +kernel
theorem dX12_mark_87 : decode cX12_mark 87 = .ok (.ireturn, 1) := by decide +kernel
def f_X12_mark_65 (w : Nat) (o0 : Nat) (x2 : Int32) (xs0 : Int32) (xs1 : Int32) (os2 : Nat) (M : mM) : Option (Int32 × mM) := bV (f_X12_copies w os2 xs1 xs0 65 M) fun M1 => (if x2 = 0 then lt (wI M1 o0 25 (M1.1 o0 25)) fun M2 => rtB 1 M2 else lt (wI M1 o0 25 0) fun M3 => rtB 1 M3)
set_option maxHeartbeats 4000000 in
set_option maxRecDepth 100000 in
theorem s_X12_mark_65 {l : Launch} {G : mG} {sk : List mS} (w : Nat) (o0 : Nat) (h0 : isK o0 22) (x2 : Int32) (xs0 : Int32) (xs1 : Int32) (os2 : Nat) (hs2 : isK os2 22) (M : mM) : Go muX12_mark (rm 1) 0 0 l G sk (mFin G sk eI) (f_X12_mark_65 w o0 x2 xs0 xs1 os2 M) 65 [(0, .ref (gB G + o0)), (2, .int x2)] [.int xs0, .int xs1, .ref (gB G + os2)] M := by
  unfold f_X12_mark_65
  refine go_bipush 65 67 dX12_mark_65 rfl (by decide) ?_
  refine go_cVV3 0 clX12 cwX12_288 (m_X12_copies w os2 hs2 xs1 xs0 65 M) hs2 70 dX12_mark_67 rfl ⟨Nat.le_of_ble_eq_true rfl, Nat.le_of_ble_eq_true rfl⟩ ⟨Nat.zero_le _, Nat.zero_le _⟩ (Nat.le_of_ble_eq_true rfl) (fun M1 _ => ?_)
  refine go_aload_n 0 71 dX12_mark_70 rfl rfl ?_
  refine go_iload_n 1 72 dX12_mark_71 rfl rfl ?_
  refine go_if_eq 79 75 dX12_mark_72 rfl (by decide) (fun _ => ?_) (fun _ => ?_)
  · refine go_aload_n 0 80 dX12_mark_79 rfl rfl ?_
    refine go_getI flX12_285 (by decide) h0 83 dX12_mark_80 rfl ?_
    refine go_putI flX12_285 rfl rfl h0 86 dX12_mark_83 rfl ?_
    refine go_nmM (fun M2 => ?_)
    refine go_iconst 1 87 dX12_mark_86 rfl (by decide) ?_
    exact go_zret rfl dX12_mark_87
  · refine go_iconst 0 76 dX12_mark_75 rfl (by decide) ?_
    refine go_goto 83 dX12_mark_76 (by decide) ?_
    refine go_putI flX12_285 rfl rfl h0 86 dX12_mark_83 rfl ?_
    refine go_nmM (fun M3 => ?_)
    refine go_iconst 1 87 dX12_mark_86 rfl (by decide) ?_
    exact go_zret rfl dX12_mark_87
def f_X12_mark_51 (w : Nat) (o0 : Nat) (x1 : Int32) (x2 : Int32) (xs0 : Int32) (os1 : Nat) (M : mM) : Option (Int32 × mM) := (if x2 = 0 then (f_X12_mark_65 w o0 x2 (65 * (1 + x1)) xs0 os1 M) else (f_X12_mark_65 w o0 x2 0 xs0 os1 M))
set_option maxHeartbeats 4000000 in
set_option maxRecDepth 100000 in
theorem s_X12_mark_51 {l : Launch} {G : mG} {sk : List mS} (w : Nat) (o0 : Nat) (h0 : isK o0 22) (x1 : Int32) (x2 : Int32) (xs0 : Int32) (os1 : Nat) (hs1 : isK os1 22) (M : mM) : Go muX12_mark (rm 1) 0 0 l G sk (mFin G sk eI) (f_X12_mark_51 w o0 x1 x2 xs0 os1 M) 51 [(0, .ref (gB G + o0)), (1, .int x1), (2, .int x2)] [.int xs0, .ref (gB G + os1)] M := by
  unfold f_X12_mark_51
  refine go_iload_n 2 52 dX12_mark_51 rfl rfl ?_
  refine go_if_eq 59 55 dX12_mark_52 rfl (by decide) (fun _ => ?_) (fun _ => ?_)
  · refine go_bipush 65 61 dX12_mark_59 rfl (by decide) ?_
    refine go_iconst 1 62 dX12_mark_61 rfl (by decide) ?_
    refine go_iload_n 1 63 dX12_mark_62 rfl rfl ?_
    refine go_iadd 64 dX12_mark_63 rfl ?_
    refine go_imul 65 dX12_mark_64 rfl ?_
    exact go_lv [0, 2] rfl (s_X12_mark_65 w o0 h0 x2 (65 * (1 + x1)) xs0 os1 hs1 M)
  · refine go_iconst 0 56 dX12_mark_55 rfl (by decide) ?_
    refine go_goto 65 dX12_mark_56 (by decide) ?_
    exact go_lv [0, 2] rfl (s_X12_mark_65 w o0 h0 x2 0 xs0 os1 hs1 M)
def f_X12_mark_29 (w : Nat) (o0 : Nat) (x1 : Int32) (x2 : Int32) (M : mM) : Option (Int32 × mM) := chk x1 (sL (rF o0 26)) (lt (wI M (rF o0 26) x1.toNatClampNeg (vp_nar .boolean 1)) fun M1 => (if x2 = 0 then (f_X12_mark_51 w o0 x1 x2 0 o0 M1) else (f_X12_mark_51 w o0 x1 x2 (65 * (1 + x1)) o0 M1)))
set_option maxHeartbeats 4000000 in
set_option maxRecDepth 100000 in
theorem s_X12_mark_29 {l : Launch} {G : mG} {sk : List mS} (w : Nat) (o0 : Nat) (h0 : isK o0 22) (x1 : Int32) (x2 : Int32) (M : mM) : Go muX12_mark (rm 1) 0 0 l G sk (mFin G sk eI) (f_X12_mark_29 w o0 x1 x2 M) 29 [(0, .ref (gB G + o0)), (1, .int x1), (2, .int x2)] [] M := by
  unfold f_X12_mark_29
  refine go_aload_n 0 30 dX12_mark_29 rfl rfl ?_
  refine go_getR flX12_116 h0 33 dX12_mark_30 rfl ?_
  refine go_iload_n 1 34 dX12_mark_33 rfl rfl ?_
  refine go_iconst 1 35 dX12_mark_34 rfl (by decide) ?_
  refine go_zast (rk12_26 h0) 36 dX12_mark_35 rfl ?_
  refine go_nmM (fun M1 => ?_)
  refine go_aload_n 0 37 dX12_mark_36 rfl rfl ?_
  refine go_iload_n 2 38 dX12_mark_37 rfl rfl ?_
  refine go_if_eq 50 41 dX12_mark_38 rfl (by decide) (fun _ => ?_) (fun _ => ?_)
  · refine go_iconst 0 51 dX12_mark_50 rfl (by decide) ?_
    exact go_lv [0, 1, 2] rfl (s_X12_mark_51 w o0 h0 x1 x2 0 o0 h0 M1)
  · refine go_bipush 65 43 dX12_mark_41 rfl (by decide) ?_
    refine go_iconst 1 44 dX12_mark_43 rfl (by decide) ?_
    refine go_iload_n 1 45 dX12_mark_44 rfl rfl ?_
    refine go_iadd 46 dX12_mark_45 rfl ?_
    refine go_imul 47 dX12_mark_46 rfl ?_
    refine go_goto 51 dX12_mark_47 (by decide) ?_
    exact go_lv [0, 1, 2] rfl (s_X12_mark_51 w o0 h0 x1 x2 (65 * (1 + x1)) o0 h0 M1)
def f_X12_mark (w : Nat) (o0 : Nat) (x1 : Int32) (x2 : Int32) (M : mM) : Option (Int32 × mM) := lt (wI M o0 0 0) fun M1 => bI (f_X12_within w x1 0 3 M1) fun q3 M2 => (if q3 = 0 then rtB 0 M2 else (if x2 = 0 then (f_X12_mark_29 w o0 x1 x2 M2) else chk x1 (sL (rF o0 26)) ((if (M2.1 (rF o0 26) x1.toNatClampNeg) = 0 then rtB 0 M2 else (f_X12_mark_29 w o0 x1 x2 M2)))))
set_option maxHeartbeats 4000000 in
set_option maxRecDepth 100000 in
theorem s_X12_mark {l : Launch} {G : mG} {sk : List mS} (w : Nat) (o0 : Nat) (h0 : isK o0 22) (x1 : Int32) (x2 : Int32) (M : mM) : Go muX12_mark (rm 1) 0 0 l G sk (mFin G sk eI) (f_X12_mark w o0 x1 x2 M) 0 [(0, .ref (gB G + o0)), (1, .int x1), (2, .int x2)] [] M := by
  unfold f_X12_mark
  refine go_aload_n 0 1 dX12_mark_0 rfl rfl ?_
  refine go_iconst 0 2 dX12_mark_1 rfl (by decide) ?_
  refine go_putI flX12_1 rfl rfl h0 5 dX12_mark_2 rfl ?_
  refine go_nmM (fun M1 => ?_)
  refine go_iload_n 1 6 dX12_mark_5 rfl rfl ?_
  refine go_iconst 0 7 dX12_mark_6 rfl (by decide) ?_
  refine go_iconst 3 8 dX12_mark_7 rfl (by decide) ?_
  refine go_cSI3 0 cwX12_204 (m_X12_within w x1 0 3 M1) 11 dX12_mark_8 rfl ⟨Nat.le_of_ble_eq_true rfl, Nat.le_of_ble_eq_true rfl⟩ ⟨Nat.zero_le _, Nat.zero_le _⟩ (Nat.le_of_ble_eq_true rfl) (fun q3 M2 _ => ?_)
  refine go_if_eq 27 14 dX12_mark_11 rfl (by decide) (fun _ => ?_) (fun _ => ?_)
  · refine go_iconst 0 28 dX12_mark_27 rfl (by decide) ?_
    exact go_zret rfl dX12_mark_28
  · refine go_iload_n 2 15 dX12_mark_14 rfl rfl ?_
    refine go_if_eq 29 18 dX12_mark_15 rfl (by decide) (fun _ => ?_) (fun _ => ?_)
    · exact go_lv [0, 1, 2] rfl (s_X12_mark_29 w o0 h0 x1 x2 M2)
    · refine go_aload_n 0 19 dX12_mark_18 rfl rfl ?_
      refine go_getR flX12_116 h0 22 dX12_mark_19 rfl ?_
      refine go_iload_n 1 23 dX12_mark_22 rfl rfl ?_
      refine go_zald (rk12_26 h0) 24 dX12_mark_23 rfl ?_
      refine go_if_ne 29 27 dX12_mark_24 rfl (by decide) (fun _ => ?_) (fun _ => ?_)
      · exact go_lv [0, 1, 2] rfl (s_X12_mark_29 w o0 h0 x1 x2 M2)
      · refine go_iconst 0 28 dX12_mark_27 rfl (by decide) ?_
        exact go_zret rfl dX12_mark_28
theorem m_X12_mark {l : Launch} {G : mG} {sk : List mS} (w : Nat) (o0 : Nat) (h0 : isK o0 22) (x1 : Int32) (x2 : Int32) (M : mM) : Mt l G sk yX12_mark muX12_mark 1 [.ref (gB G + o0), .int x1, .int x2] M eI (f_X12_mark w o0 x1 x2 M) := Mt.of (by decide) rfl (Nat.le_of_ble_eq_true rfl) (s_X12_mark w o0 h0 x1 x2 M)
theorem dX12_count_0 : decode cX12_count 0 = .ok (.aload_n 0, 1) := by decide +kernel
theorem dX12_count_1 : decode cX12_count 1 = .ok (.iconst 0, 1) := by decide +kernel
theorem dX12_count_2 : decode cX12_count 2 = .ok (.putfield 1, 3) := by decide +kernel
theorem dX12_count_5 : decode cX12_count 5 = .ok (.iload_n 1, 1) := by decide +kernel
theorem dX12_count_6 : decode cX12_count 6 = .ok (.tableswitch 148 0 12 #[66, 66, 66, 73, 80, 91, 97, 104, 115, 122, 130, 138, 143], 66) := by decide +kernel
theorem dX12_count_72 : decode cX12_count 72 = .ok (.aload_n 0, 1) := by decide +kernel
theorem dX12_count_73 : decode cX12_count 73 = .ok (.getfield 83, 3) := by decide +kernel
theorem dX12_count_76 : decode cX12_count 76 = .ok (.iload_n 1, 1) := by decide +kernel
theorem dX12_count_77 : decode cX12_count 77 = .ok (.iaload, 1) := by decide +kernel
theorem dX12_count_78 : decode cX12_count 78 = .ok (.ireturn, 1) := by decide +kernel
theorem dX12_count_79 : decode cX12_count 79 = .ok (.aload_n 0, 1) := by decide +kernel
theorem dX12_count_80 : decode cX12_count 80 = .ok (.getfield 113, 3) := by decide +kernel
theorem dX12_count_83 : decode cX12_count 83 = .ok (.iconst 0, 1) := by decide +kernel
theorem dX12_count_84 : decode cX12_count 84 = .ok (.iaload, 1) := by decide +kernel
theorem dX12_count_85 : decode cX12_count 85 = .ok (.ireturn, 1) := by decide +kernel
theorem dX12_count_86 : decode cX12_count 86 = .ok (.aload_n 0, 1) := by decide +kernel
theorem dX12_count_87 : decode cX12_count 87 = .ok (.aload_n 0, 1) := by decide +kernel
theorem dX12_count_88 : decode cX12_count 88 = .ok (.getfield 113, 3) := by decide +kernel
theorem dX12_count_91 : decode cX12_count 91 = .ok (.iconst 0, 1) := by decide +kernel
theorem dX12_count_92 : decode cX12_count 92 = .ok (.iaload, 1) := by decide +kernel
theorem dX12_count_93 : decode cX12_count 93 = .ok (.invokevirtual 310, 3) := by decide +kernel
theorem dX12_count_96 : decode cX12_count 96 = .ok (.ireturn, 1) := by decide +kernel
theorem dX12_count_97 : decode cX12_count 97 = .ok (.aload_n 0, 1) := by decide +kernel
theorem dX12_count_98 : decode cX12_count 98 = .ok (.iconst 0, 1) := by decide +kernel
theorem dX12_count_99 : decode cX12_count 99 = .ok (.invokevirtual 330, 3) := by decide +kernel
theorem dX12_count_102 : decode cX12_count 102 = .ok (.ireturn, 1) := by decide +kernel
theorem dX12_count_103 : decode cX12_count 103 = .ok (.aload_n 0, 1) := by decide +kernel
theorem dX12_count_104 : decode cX12_count 104 = .ok (.getfield 113, 3) := by decide +kernel
theorem dX12_count_107 : decode cX12_count 107 = .ok (.iconst 1, 1) := by decide +kernel
theorem dX12_count_108 : decode cX12_count 108 = .ok (.iaload, 1) := by decide +kernel
theorem dX12_count_109 : decode cX12_count 109 = .ok (.ireturn, 1) := by decide +kernel
theorem dX12_count_110 : decode cX12_count 110 = .ok (.aload_n 0, 1) := by decide +kernel
theorem dX12_count_111 : decode cX12_count 111 = .ok (.bipush 10, 2) := by decide +kernel
theorem dX12_count_113 : decode cX12_count 113 = .ok (.aload_n 0, 1) := by decide +kernel
theorem dX12_count_114 : decode cX12_count 114 = .ok (.invokevirtual 272, 3) := by decide +kernel
theorem dX12_count_117 : decode cX12_count 117 = .ok (.invokevirtual 419, 3) := by decide +kernel
theorem dX12_count_120 : decode cX12_count 120 = .ok (.ireturn, 1) := by decide +kernel
theorem dX12_count_121 : decode cX12_count 121 = .ok (.aload_n 0, 1) := by decide +kernel
theorem dX12_count_122 : decode cX12_count 122 = .ok (.getfield 104, 3) := by decide +kernel
theorem dX12_count_125 : decode cX12_count 125 = .ok (.iconst 0, 1) := by decide +kernel
theorem dX12_count_126 : decode cX12_count 126 = .ok (.iaload, 1) := by decide +kernel
theorem dX12_count_127 : decode cX12_count 127 = .ok (.ireturn, 1) := by decide +kernel
theorem dX12_count_128 : decode cX12_count 128 = .ok (.aload_n 0, 1) := by decide +kernel
theorem dX12_count_129 : decode cX12_count 129 = .ok (.getfield 113, 3) := by decide +kernel
theorem dX12_count_132 : decode cX12_count 132 = .ok (.bipush 23, 2) := by decide +kernel
theorem dX12_count_134 : decode cX12_count 134 = .ok (.iaload, 1) := by decide +kernel
theorem dX12_count_135 : decode cX12_count 135 = .ok (.ireturn, 1) := by decide +kernel
theorem dX12_count_136 : decode cX12_count 136 = .ok (.aload_n 0, 1) := by decide +kernel
theorem dX12_count_137 : decode cX12_count 137 = .ok (.getfield 113, 3) := by decide +kernel
theorem dX12_count_140 : decode cX12_count 140 = .ok (.bipush 48, 2) := by decide +kernel
theorem dX12_count_142 : decode cX12_count 142 = .ok (.iaload, 1) := by decide +kernel
theorem dX12_count_143 : decode cX12_count 143 = .ok (.ireturn, 1) := by decide +kernel
theorem dX12_count_144 : decode cX12_count 144 = .ok (.aload_n 0, 1) := by decide +kernel
theorem dX12_count_145 : decode cX12_count 145 = .ok (.getfield 285, 3) := by decide +kernel
theorem dX12_count_148 : decode cX12_count 148 = .ok (.ireturn, 1) := by decide +kernel
theorem dX12_count_149 : decode cX12_count 149 = .ok (.aload_n 0, 1) := by decide +kernel
theorem dX12_count_150 : decode cX12_count 150 = .ok (.getfield 11, 3) := by decide +kernel
theorem dX12_count_153 : decode cX12_count 153 = .ok (.ireturn, 1) := by decide +kernel
theorem dX12_count_154 : decode cX12_count 154 = .ok (.iconst (-1), 1) := by decide +kernel
theorem dX12_count_155 : decode cX12_count 155 = .ok (.ireturn, 1) := by decide +kernel
def f_X12_count (w : Nat) (o0 : Nat) (x1 : Int32) (M : mM) : Option (Int32 × mM) := lt (wI M o0 0 0) fun M1 => (if x1.toInt < 0 ∨ 12 < x1.toInt then some ((-1), M1) else (fun z : Int => if z = 0 then chk x1 (sL (rF o0 10)) (some ((M1.1 (rF o0 10) x1.toNatClampNeg), M1)) else if z = 1 then chk x1 (sL (rF o0 10)) (some ((M1.1 (rF o0 10) x1.toNatClampNeg), M1)) else if z = 2 then chk x1 (sL (rF o0 10)) (some ((M1.1 (rF o0 10) x1.toNatClampNeg), M1)) else if z = 3 then chk 0 (sL (rF o0 24)) (some ((M1.1 (rF o0 24) (0 : Int32).toNatClampNeg), M1)) else if z = 4 then chk 0 (sL (rF o0 24)) (bI (f_X12_dampOn w o0 (M1.1 (rF o0 24) (0 : Int32).toNatClampNeg) M1) fun q3 M2 => some (q3, M2)) else if z = 5 then bI (f_X12_sticking w o0 0 M1) fun q5 M4 => some (q5, M4) else if z = 6 then chk 1 (sL (rF o0 24)) (some ((M1.1 (rF o0 24) (1 : Int32).toNatClampNeg), M1)) else if z = 7 then bI (f_X12_doors w o0 M1) fun q7 M6 => bI (f_X12_sumOf w o0 10 q7 M6) fun q9 M8 => some (q9, M8) else if z = 8 then chk 0 (sL (rF o0 21)) (some ((M1.1 (rF o0 21) (0 : Int32).toNatClampNeg), M1)) else if z = 9 then chk 23 (sL (rF o0 24)) (some ((M1.1 (rF o0 24) (23 : Int32).toNatClampNeg), M1)) else if z = 10 then chk 48 (sL (rF o0 24)) (some ((M1.1 (rF o0 24) (48 : Int32).toNatClampNeg), M1)) else if z = 11 then some ((M1.1 o0 25), M1) else some ((M1.1 o0 2), M1)) x1.toInt)
set_option maxHeartbeats 4000000 in
set_option maxRecDepth 100000 in
theorem s_X12_count {l : Launch} {G : mG} {sk : List mS} (w : Nat) (o0 : Nat) (h0 : isK o0 22) (x1 : Int32) (M : mM) : Go muX12_count (rm 3) 0 0 l G sk (mFin G sk eI) (f_X12_count w o0 x1 M) 0 [(0, .ref (gB G + o0)), (1, .int x1)] [] M := by
  unfold f_X12_count
  refine go_aload_n 0 1 dX12_count_0 rfl rfl ?_
  refine go_iconst 0 2 dX12_count_1 rfl (by decide) ?_
  refine go_putI flX12_1 rfl rfl h0 5 dX12_count_2 rfl ?_
  refine go_nmM (fun M1 => ?_)
  refine go_iload_n 1 6 dX12_count_5 rfl rfl ?_
  refine go_tsw (dflt := 148) (lo := 0) (hi := 12) (offs := #[66, 66, 66, 73, 80, 91, 97, 104, 115, 122, 130, 138, 143]) (len := 66) ?_ (fun z : Int => if z = 0 then chk x1 (sL (rF o0 10)) (some ((M1.1 (rF o0 10) x1.toNatClampNeg), M1)) else if z = 1 then chk x1 (sL (rF o0 10)) (some ((M1.1 (rF o0 10) x1.toNatClampNeg), M1)) else if z = 2 then chk x1 (sL (rF o0 10)) (some ((M1.1 (rF o0 10) x1.toNatClampNeg), M1)) else if z = 3 then chk 0 (sL (rF o0 24)) (some ((M1.1 (rF o0 24) (0 : Int32).toNatClampNeg), M1)) else if z = 4 then chk 0 (sL (rF o0 24)) (bI (f_X12_dampOn w o0 (M1.1 (rF o0 24) (0 : Int32).toNatClampNeg) M1) fun q3 M2 => some (q3, M2)) else if z = 5 then bI (f_X12_sticking w o0 0 M1) fun q5 M4 => some (q5, M4) else if z = 6 then chk 1 (sL (rF o0 24)) (some ((M1.1 (rF o0 24) (1 : Int32).toNatClampNeg), M1)) else if z = 7 then bI (f_X12_doors w o0 M1) fun q7 M6 => bI (f_X12_sumOf w o0 10 q7 M6) fun q9 M8 => some (q9, M8) else if z = 8 then chk 0 (sL (rF o0 21)) (some ((M1.1 (rF o0 21) (0 : Int32).toNatClampNeg), M1)) else if z = 9 then chk 23 (sL (rF o0 24)) (some ((M1.1 (rF o0 24) (23 : Int32).toNatClampNeg), M1)) else if z = 10 then chk 48 (sL (rF o0 24)) (some ((M1.1 (rF o0 24) (48 : Int32).toNatClampNeg), M1)) else if z = 11 then some ((M1.1 o0 25), M1) else some ((M1.1 o0 2), M1)) (some ((-1), M1)) 154 (by decide) (fun _ => ?_) (fun g1 g2 => ?_)
  · exact dX12_count_6
  · refine go_iconst (-1) 155 dX12_count_154 rfl (by decide) ?_
    exact go_iret rfl dX12_count_155
  · rcases (show x1.toInt = 0 ∨ x1.toInt = 1 ∨ x1.toInt = 2 ∨ x1.toInt = 3 ∨ x1.toInt = 4 ∨ x1.toInt = 5 ∨ x1.toInt = 6 ∨ x1.toInt = 7 ∨ x1.toInt = 8 ∨ x1.toInt = 9 ∨ x1.toInt = 10 ∨ x1.toInt = 11 ∨ x1.toInt = 12 by omega) with g | g | g | g | g | g | g | g | g | g | g | g | g
    · refine ⟨66, 72, by rw [g]; rfl, by decide, ?_⟩
      rw [g]
      simp only [if_pos, reduceIte, Int.reduceEq, Int.reduceNeg]
      refine go_aload_n 0 73 dX12_count_72 rfl rfl ?_
      refine go_getR flX12_83 h0 76 dX12_count_73 rfl ?_
      refine go_iload_n 1 77 dX12_count_76 rfl rfl ?_
      refine go_iald (rk12_10 h0) 78 dX12_count_77 rfl ?_
      exact go_iret rfl dX12_count_78
    · refine ⟨66, 72, by rw [g]; rfl, by decide, ?_⟩
      rw [g]
      simp only [if_pos, reduceIte, Int.reduceEq, Int.reduceNeg]
      refine go_aload_n 0 73 dX12_count_72 rfl rfl ?_
      refine go_getR flX12_83 h0 76 dX12_count_73 rfl ?_
      refine go_iload_n 1 77 dX12_count_76 rfl rfl ?_
      refine go_iald (rk12_10 h0) 78 dX12_count_77 rfl ?_
      exact go_iret rfl dX12_count_78
    · refine ⟨66, 72, by rw [g]; rfl, by decide, ?_⟩
      rw [g]
      simp only [if_pos, reduceIte, Int.reduceEq, Int.reduceNeg]
      refine go_aload_n 0 73 dX12_count_72 rfl rfl ?_
      refine go_getR flX12_83 h0 76 dX12_count_73 rfl ?_
      refine go_iload_n 1 77 dX12_count_76 rfl rfl ?_
      refine go_iald (rk12_10 h0) 78 dX12_count_77 rfl ?_
      exact go_iret rfl dX12_count_78
    · refine ⟨73, 79, by rw [g]; rfl, by decide, ?_⟩
      rw [g]
      simp only [if_pos, reduceIte, Int.reduceEq, Int.reduceNeg]
      refine go_aload_n 0 80 dX12_count_79 rfl rfl ?_
      refine go_getR flX12_113 h0 83 dX12_count_80 rfl ?_
      refine go_iconst 0 84 dX12_count_83 rfl (by decide) ?_
      refine go_iald (rk12_24 h0) 85 dX12_count_84 rfl ?_
      exact go_iret rfl dX12_count_85
    · refine ⟨80, 86, by rw [g]; rfl, by decide, ?_⟩
      rw [g]
      simp only [if_pos, reduceIte, Int.reduceEq, Int.reduceNeg]
      refine go_aload_n 0 87 dX12_count_86 rfl rfl ?_
      refine go_aload_n 0 88 dX12_count_87 rfl rfl ?_
      refine go_getR flX12_113 h0 91 dX12_count_88 rfl ?_
      refine go_iconst 0 92 dX12_count_91 rfl (by decide) ?_
      refine go_iald (rk12_24 h0) 93 dX12_count_92 rfl ?_
      refine go_cVI1 0 clX12 cwX12_310 (m_X12_dampOn w o0 h0 (M1.1 (rF o0 24) (0 : Int32).toNatClampNeg) M1) h0 96 dX12_count_93 rfl ⟨Nat.le_of_ble_eq_true rfl, Nat.le_of_ble_eq_true rfl⟩ ⟨Nat.zero_le _, Nat.zero_le _⟩ (Nat.le_of_ble_eq_true rfl) (fun q3 M2 _ => ?_)
      exact go_iret rfl dX12_count_96
    · refine ⟨91, 97, by rw [g]; rfl, by decide, ?_⟩
      rw [g]
      simp only [if_pos, reduceIte, Int.reduceEq, Int.reduceNeg]
      refine go_aload_n 0 98 dX12_count_97 rfl rfl ?_
      refine go_iconst 0 99 dX12_count_98 rfl (by decide) ?_
      refine go_cVI1 2 clX12 cwX12_330 (m_X12_sticking w o0 h0 0 M1) h0 102 dX12_count_99 rfl ⟨Nat.le_of_ble_eq_true rfl, Nat.le_of_ble_eq_true rfl⟩ ⟨Nat.zero_le _, Nat.zero_le _⟩ (Nat.le_of_ble_eq_true rfl) (fun q5 M4 _ => ?_)
      exact go_iret rfl dX12_count_102
    · refine ⟨97, 103, by rw [g]; rfl, by decide, ?_⟩
      rw [g]
      simp only [if_pos, reduceIte, Int.reduceEq, Int.reduceNeg]
      refine go_aload_n 0 104 dX12_count_103 rfl rfl ?_
      refine go_getR flX12_113 h0 107 dX12_count_104 rfl ?_
      refine go_iconst 1 108 dX12_count_107 rfl (by decide) ?_
      refine go_iald (rk12_24 h0) 109 dX12_count_108 rfl ?_
      exact go_iret rfl dX12_count_109
    · refine ⟨104, 110, by rw [g]; rfl, by decide, ?_⟩
      rw [g]
      simp only [if_pos, reduceIte, Int.reduceEq, Int.reduceNeg]
      refine go_aload_n 0 111 dX12_count_110 rfl rfl ?_
      refine go_bipush 10 113 dX12_count_111 rfl (by decide) ?_
      refine go_aload_n 0 114 dX12_count_113 rfl rfl ?_
      refine go_cVI0 0 clX12 cwX12_272 (m_X12_doors w o0 h0 M1) h0 117 dX12_count_114 rfl ⟨Nat.le_of_ble_eq_true rfl, Nat.le_of_ble_eq_true rfl⟩ ⟨Nat.zero_le _, Nat.zero_le _⟩ (Nat.le_of_ble_eq_true rfl) (fun q7 M6 _ => ?_)
      refine go_cVI2 0 clX12 cwX12_419 (m_X12_sumOf w o0 h0 10 q7 M6) h0 120 dX12_count_117 rfl ⟨Nat.le_of_ble_eq_true rfl, Nat.le_of_ble_eq_true rfl⟩ ⟨Nat.zero_le _, Nat.zero_le _⟩ (Nat.le_of_ble_eq_true rfl) (fun q9 M8 _ => ?_)
      exact go_iret rfl dX12_count_120
    · refine ⟨115, 121, by rw [g]; rfl, by decide, ?_⟩
      rw [g]
      simp only [if_pos, reduceIte, Int.reduceEq, Int.reduceNeg]
      refine go_aload_n 0 122 dX12_count_121 rfl rfl ?_
      refine go_getR flX12_104 h0 125 dX12_count_122 rfl ?_
      refine go_iconst 0 126 dX12_count_125 rfl (by decide) ?_
      refine go_iald (rk12_21 h0) 127 dX12_count_126 rfl ?_
      exact go_iret rfl dX12_count_127
    · refine ⟨122, 128, by rw [g]; rfl, by decide, ?_⟩
      rw [g]
      simp only [if_pos, reduceIte, Int.reduceEq, Int.reduceNeg]
      refine go_aload_n 0 129 dX12_count_128 rfl rfl ?_
      refine go_getR flX12_113 h0 132 dX12_count_129 rfl ?_
      refine go_bipush 23 134 dX12_count_132 rfl (by decide) ?_
      refine go_iald (rk12_24 h0) 135 dX12_count_134 rfl ?_
      exact go_iret rfl dX12_count_135
    · refine ⟨130, 136, by rw [g]; rfl, by decide, ?_⟩
      rw [g]
      simp only [if_pos, reduceIte, Int.reduceEq, Int.reduceNeg]
      refine go_aload_n 0 137 dX12_count_136 rfl rfl ?_
      refine go_getR flX12_113 h0 140 dX12_count_137 rfl ?_
      refine go_bipush 48 142 dX12_count_140 rfl (by decide) ?_
      refine go_iald (rk12_24 h0) 143 dX12_count_142 rfl ?_
      exact go_iret rfl dX12_count_143
    · refine ⟨138, 144, by rw [g]; rfl, by decide, ?_⟩
      rw [g]
      simp only [if_pos, reduceIte, Int.reduceEq, Int.reduceNeg]
      refine go_aload_n 0 145 dX12_count_144 rfl rfl ?_
      refine go_getI flX12_285 (by decide) h0 148 dX12_count_145 rfl ?_
      exact go_iret rfl dX12_count_148
    · refine ⟨143, 149, by rw [g]; rfl, by decide, ?_⟩
      rw [g]
      simp only [if_pos, reduceIte, Int.reduceEq, Int.reduceNeg]
      refine go_aload_n 0 150 dX12_count_149 rfl rfl ?_
      refine go_getI flX12_11 (by decide) h0 153 dX12_count_150 rfl ?_
      exact go_iret rfl dX12_count_153
theorem m_X12_count {l : Launch} {G : mG} {sk : List mS} (w : Nat) (o0 : Nat) (h0 : isK o0 22) (x1 : Int32) (M : mM) : Mt l G sk yX12_count muX12_count 3 [.ref (gB G + o0), .int x1] M eI (f_X12_count w o0 x1 M) := Mt.of (by decide) rfl (Nat.le_of_ble_eq_true rfl) (s_X12_count w o0 h0 x1 M)
