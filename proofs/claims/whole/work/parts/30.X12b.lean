theorem dX12_house_0 : decode cX12_house 0 = .ok (.aload_n 0, 1) := by decide +kernel
theorem dX12_house_1 : decode cX12_house 1 = .ok (.iconst 0, 1) := by decide +kernel
theorem dX12_house_2 : decode cX12_house 2 = .ok (.putfield 1, 3) := by decide +kernel
theorem dX12_house_5 : decode cX12_house 5 = .ok (.aload_n 0, 1) := by decide +kernel
theorem dX12_house_6 : decode cX12_house 6 = .ok (.invokevirtual 208, 3) := by decide +kernel
theorem dX12_house_9 : decode cX12_house 9 = .ok (.aload_n 0, 1) := by decide +kernel
theorem dX12_house_10 : decode cX12_house 10 = .ok (.iconst 0, 1) := by decide +kernel
theorem dX12_house_11 : decode cX12_house 11 = .ok (.putfield 211, 3) := by decide +kernel
theorem dX12_house_14 : decode cX12_house 14 = .ok (.aload_n 0, 1) := by decide +kernel
theorem dX12_house_15 : decode cX12_house 15 = .ok (.iconst 0, 1) := by decide +kernel
theorem dX12_house_16 : decode cX12_house 16 = .ok (.putfield 190, 3) := by decide +kernel
theorem dX12_house_19 : decode cX12_house 19 = .ok (.aload_n 0, 1) := by decide +kernel
theorem dX12_house_20 : decode cX12_house 20 = .ok (.iconst 0, 1) := by decide +kernel
theorem dX12_house_21 : decode cX12_house 21 = .ok (.putfield 214, 3) := by decide +kernel
theorem dX12_house_24 : decode cX12_house 24 = .ok (.aload_n 0, 1) := by decide +kernel
theorem dX12_house_25 : decode cX12_house 25 = .ok (.bipush 60, 2) := by decide +kernel
theorem dX12_house_27 : decode cX12_house 27 = .ok (.invokevirtual 132, 3) := by decide +kernel
theorem dX12_house_30 : decode cX12_house 30 = .ok (.aload_n 0, 1) := by decide +kernel
theorem dX12_house_31 : decode cX12_house 31 = .ok (.getfield 165, 3) := by decide +kernel
theorem dX12_house_34 : decode cX12_house 34 = .ok (.ifCond .ne 28, 3) := by decide +kernel
theorem dX12_house_37 : decode cX12_house 37 = .ok (.aload_n 0, 1) := by decide +kernel
theorem dX12_house_38 : decode cX12_house 38 = .ok (.getfield 24, 3) := by decide +kernel
theorem dX12_house_41 : decode cX12_house 41 = .ok (.aload_n 0, 1) := by decide +kernel
theorem dX12_house_42 : decode cX12_house 42 = .ok (.getfield 162, 3) := by decide +kernel
theorem dX12_house_45 : decode cX12_house 45 = .ok (.iaload, 1) := by decide +kernel
theorem dX12_house_46 : decode cX12_house 46 = .ok (.ifCond .eq 16, 3) := by decide +kernel
theorem dX12_house_49 : decode cX12_house 49 = .ok (.aload_n 0, 1) := by decide +kernel
theorem dX12_house_50 : decode cX12_house 50 = .ok (.invokevirtual 217, 3) := by decide +kernel
theorem dX12_house_53 : decode cX12_house 53 = .ok (.aload_n 0, 1) := by decide +kernel
theorem dX12_house_54 : decode cX12_house 54 = .ok (.bipush 59, 2) := by decide +kernel
theorem dX12_house_56 : decode cX12_house 56 = .ok (.invokevirtual 220, 3) := by decide +kernel
theorem dX12_house_59 : decode cX12_house 59 = .ok (.goto (-29), 3) := by decide +kernel
theorem dX12_house_62 : decode cX12_house 62 = .ok (.aload_n 0, 1) := by decide +kernel
theorem dX12_house_63 : decode cX12_house 63 = .ok (.getfield 165, 3) := by decide +kernel
theorem dX12_house_66 : decode cX12_house 66 = .ok (.ifCond .le 8, 3) := by decide +kernel
theorem dX12_house_69 : decode cX12_house 69 = .ok (.aload_n 0, 1) := by decide +kernel
theorem dX12_house_70 : decode cX12_house 70 = .ok (.getfield 165, 3) := by decide +kernel
theorem dX12_house_73 : decode cX12_house 73 = .ok (.ireturn, 1) := by decide +kernel
theorem dX12_house_74 : decode cX12_house 74 = .ok (.iconst 0, 1) := by decide +kernel
theorem dX12_house_75 : decode cX12_house 75 = .ok (.istore_n 1, 1) := by decide +kernel
theorem dX12_house_76 : decode cX12_house 76 = .ok (.iload_n 1, 1) := by decide +kernel
theorem dX12_house_77 : decode cX12_house 77 = .ok (.bipush 60, 2) := by decide +kernel
theorem dX12_house_79 : decode cX12_house 79 = .ok (.if_icmp .ge 24, 3) := by decide +kernel
theorem dX12_house_82 : decode cX12_house 82 = .ok (.aload_n 0, 1) := by decide +kernel
theorem dX12_house_83 : decode cX12_house 83 = .ok (.getfield 83, 3) := by decide +kernel
theorem dX12_house_86 : decode cX12_house 86 = .ok (.iload_n 1, 1) := by decide +kernel
theorem dX12_house_87 : decode cX12_house 87 = .ok (.aload_n 0, 1) := by decide +kernel
theorem dX12_house_88 : decode cX12_house 88 = .ok (.getfield 83, 3) := by decide +kernel
theorem dX12_house_91 : decode cX12_house 91 = .ok (.bipush 60, 2) := by decide +kernel
theorem dX12_house_93 : decode cX12_house 93 = .ok (.iload_n 1, 1) := by decide +kernel
theorem dX12_house_94 : decode cX12_house 94 = .ok (.iadd, 1) := by decide +kernel
theorem dX12_house_95 : decode cX12_house 95 = .ok (.iaload, 1) := by decide +kernel
theorem dX12_house_96 : decode cX12_house 96 = .ok (.iastore, 1) := by decide +kernel
theorem dX12_house_97 : decode cX12_house 97 = .ok (.iinc 1 1, 3) := by decide +kernel
theorem dX12_house_100 : decode cX12_house 100 = .ok (.goto (-24), 3) := by decide +kernel
theorem dX12_house_103 : decode cX12_house 103 = .ok (.iconst 0, 1) := by decide +kernel
theorem dX12_house_104 : decode cX12_house 104 = .ok (.istore_n 1, 1) := by decide +kernel
theorem dX12_house_105 : decode cX12_house 105 = .ok (.iload_n 1, 1) := by decide +kernel
theorem dX12_house_106 : decode cX12_house 106 = .ok (.aload_n 0, 1) := by decide +kernel
theorem dX12_house_107 : decode cX12_house 107 = .ok (.getfield 211, 3) := by decide +kernel
theorem dX12_house_110 : decode cX12_house 110 = .ok (.if_icmp .ge 41, 3) := by decide +kernel
theorem dX12_house_113 : decode cX12_house 113 = .ok (.aload_n 0, 1) := by decide +kernel
theorem dX12_house_114 : decode cX12_house 114 = .ok (.getfield 86, 3) := by decide +kernel
theorem dX12_house_117 : decode cX12_house 117 = .ok (.iload_n 1, 1) := by decide +kernel
theorem dX12_house_118 : decode cX12_house 118 = .ok (.aload_n 0, 1) := by decide +kernel
theorem dX12_house_119 : decode cX12_house 119 = .ok (.getfield 86, 3) := by decide +kernel
theorem dX12_house_122 : decode cX12_house 122 = .ok (.sipush 1100, 3) := by decide +kernel
theorem dX12_house_125 : decode cX12_house 125 = .ok (.iload_n 1, 1) := by decide +kernel
theorem dX12_house_126 : decode cX12_house 126 = .ok (.iadd, 1) := by decide +kernel
theorem dX12_house_127 : decode cX12_house 127 = .ok (.iaload, 1) := by decide +kernel
theorem dX12_house_128 : decode cX12_house 128 = .ok (.iastore, 1) := by decide +kernel
theorem dX12_house_129 : decode cX12_house 129 = .ok (.aload_n 0, 1) := by decide +kernel
theorem dX12_house_130 : decode cX12_house 130 = .ok (.getfield 89, 3) := by decide +kernel
theorem dX12_house_133 : decode cX12_house 133 = .ok (.iload_n 1, 1) := by decide +kernel
theorem dX12_house_134 : decode cX12_house 134 = .ok (.aload_n 0, 1) := by decide +kernel
theorem dX12_house_135 : decode cX12_house 135 = .ok (.getfield 89, 3) := by decide +kernel
theorem dX12_house_138 : decode cX12_house 138 = .ok (.sipush 1100, 3) := by decide +kernel
theorem dX12_house_141 : decode cX12_house 141 = .ok (.iload_n 1, 1) := by decide +kernel
theorem dX12_house_142 : decode cX12_house 142 = .ok (.iadd, 1) := by decide +kernel
theorem dX12_house_143 : decode cX12_house 143 = .ok (.iaload, 1) := by decide +kernel
theorem dX12_house_144 : decode cX12_house 144 = .ok (.iastore, 1) := by decide +kernel
theorem dX12_house_145 : decode cX12_house 145 = .ok (.iinc 1 1, 3) := by decide +kernel
theorem dX12_house_148 : decode cX12_house 148 = .ok (.goto (-43), 3) := by decide +kernel
theorem dX12_house_151 : decode cX12_house 151 = .ok (.iconst 0, 1) := by decide +kernel
theorem dX12_house_152 : decode cX12_house 152 = .ok (.istore_n 1, 1) := by decide +kernel
theorem dX12_house_153 : decode cX12_house 153 = .ok (.iload_n 1, 1) := by decide +kernel
theorem dX12_house_154 : decode cX12_house 154 = .ok (.aload_n 0, 1) := by decide +kernel
theorem dX12_house_155 : decode cX12_house 155 = .ok (.getfield 190, 3) := by decide +kernel
theorem dX12_house_158 : decode cX12_house 158 = .ok (.if_icmp .ge 33, 3) := by decide +kernel
theorem dX12_house_161 : decode cX12_house 161 = .ok (.aload_n 0, 1) := by decide +kernel
theorem dX12_house_162 : decode cX12_house 162 = .ok (.getfield 92, 3) := by decide +kernel
theorem dX12_house_165 : decode cX12_house 165 = .ok (.iload_n 1, 1) := by decide +kernel
theorem dX12_house_166 : decode cX12_house 166 = .ok (.aload_n 0, 1) := by decide +kernel
theorem dX12_house_167 : decode cX12_house 167 = .ok (.getfield 95, 3) := by decide +kernel
theorem dX12_house_170 : decode cX12_house 170 = .ok (.iload_n 1, 1) := by decide +kernel
theorem dX12_house_171 : decode cX12_house 171 = .ok (.laload, 1) := by decide +kernel
theorem dX12_house_172 : decode cX12_house 172 = .ok (.lastore, 1) := by decide +kernel
theorem dX12_house_173 : decode cX12_house 173 = .ok (.aload_n 0, 1) := by decide +kernel
theorem dX12_house_174 : decode cX12_house 174 = .ok (.getfield 98, 3) := by decide +kernel
theorem dX12_house_177 : decode cX12_house 177 = .ok (.iload_n 1, 1) := by decide +kernel
theorem dX12_house_178 : decode cX12_house 178 = .ok (.aload_n 0, 1) := by decide +kernel
theorem dX12_house_179 : decode cX12_house 179 = .ok (.getfield 101, 3) := by decide +kernel
theorem dX12_house_182 : decode cX12_house 182 = .ok (.iload_n 1, 1) := by decide +kernel
theorem dX12_house_183 : decode cX12_house 183 = .ok (.iaload, 1) := by decide +kernel
theorem dX12_house_184 : decode cX12_house 184 = .ok (.iastore, 1) := by decide +kernel
theorem dX12_house_185 : decode cX12_house 185 = .ok (.iinc 1 1, 3) := by decide +kernel
theorem dX12_house_188 : decode cX12_house 188 = .ok (.goto (-35), 3) := by decide +kernel
theorem dX12_house_191 : decode cX12_house 191 = .ok (.aload_n 0, 1) := by decide +kernel
theorem dX12_house_192 : decode cX12_house 192 = .ok (.aload_n 0, 1) := by decide +kernel
theorem dX12_house_193 : decode cX12_house 193 = .ok (.getfield 190, 3) := by decide +kernel
theorem dX12_house_196 : decode cX12_house 196 = .ok (.putfield 193, 3) := by decide +kernel
theorem dX12_house_199 : decode cX12_house 199 = .ok (.aload_n 0, 1) := by decide +kernel
theorem dX12_house_200 : decode cX12_house 200 = .ok (.invokevirtual 136, 3) := by decide +kernel
theorem dX12_house_203 : decode cX12_house 203 = .ok (.iconst 0, 1) := by decide +kernel
theorem dX12_house_204 : decode cX12_house 204 = .ok (.ireturn, 1) := by decide +kernel
def f_X12_house_191 (w : Nat) (o0 : Nat) (M : mM) : Option (Int32 × mM) := lt (wI M o0 18 (M.1 o0 19)) fun M1 => bV (f_X12_begins w o0 M1) fun M2 => some (0, M2)
set_option maxHeartbeats 4000000 in
set_option maxRecDepth 100000 in
theorem s_X12_house_191 {l : Launch} {G : mG} {sk : List mS} (w : Nat) (o0 : Nat) (h0 : isK o0 22) (M : mM) : Go muX12_house (rm 65) 0 0 l G sk (mFin G sk eI) (f_X12_house_191 w o0 M) 191 [(0, .ref (gB G + o0))] [] M := by
  unfold f_X12_house_191
  refine go_aload_n 0 192 dX12_house_191 rfl rfl ?_
  refine go_aload_n 0 193 dX12_house_192 rfl rfl ?_
  refine go_getI flX12_190 (by decide) h0 196 dX12_house_193 rfl ?_
  refine go_putI flX12_193 rfl rfl h0 199 dX12_house_196 rfl ?_
  refine go_nmM (fun M1 => ?_)
  refine go_aload_n 0 200 dX12_house_199 rfl rfl ?_
  refine go_cVV0 2 clX12 cwX12_136 (m_X12_begins w o0 h0 M1) h0 203 dX12_house_200 rfl ⟨Nat.le_of_ble_eq_true rfl, Nat.le_of_ble_eq_true rfl⟩ ⟨Nat.zero_le _, Nat.zero_le _⟩ (Nat.le_of_ble_eq_true rfl) (fun M2 _ => ?_)
  refine go_iconst 0 204 dX12_house_203 rfl (by decide) ?_
  exact go_iret rfl dX12_house_204
def f_X12_house_153 (w : Nat) : Nat → Nat → Int32 → mM → Option (Int32 × mM)
  | 0, _, _, _ => none
  | n + 1, o0, x1, M => (if (M.1 o0 19) ≤ x1 then (f_X12_house_191 w o0 M) else chk x1 (sL (rF o0 15)) (chk x1 (sL (rF o0 14)) (lt (wL M (rF o0 14) x1.toNatClampNeg (M.2 (rF o0 15) x1.toNatClampNeg)) fun M1 => chk x1 (sL (rF o0 17)) (chk x1 (sL (rF o0 16)) (lt (wI M1 (rF o0 16) x1.toNatClampNeg (M1.1 (rF o0 17) x1.toNatClampNeg)) fun M2 => (f_X12_house_153 w n o0 (x1 + 1) M2))))))
set_option maxHeartbeats 4000000 in
set_option maxRecDepth 100000 in
theorem s_X12_house_153 {l : Launch} {G : mG} {sk : List mS} (w : Nat) : ∀ (n : Nat) (o0 : Nat) (h0 : isK o0 22) (x1 : Int32) (M : mM), Go muX12_house (rm 65) 0 0 l G sk (mFin G sk eI) (f_X12_house_153 w n o0 x1 M) 153 [(0, .ref (gB G + o0)), (1, .int x1)] [] M := by
  intro n
  induction n with
  | zero =>
    intros
    exact go_none
  | succ n ih =>
    intro o0 h0 x1 M
    rw [f_X12_house_153]
    refine go_iload_n 1 154 dX12_house_153 rfl rfl ?_
    refine go_aload_n 0 155 dX12_house_154 rfl rfl ?_
    refine go_getI flX12_190 (by decide) h0 158 dX12_house_155 rfl ?_
    refine go_icmp_ge 191 161 dX12_house_158 rfl (by decide) (fun _ => ?_) (fun _ => ?_)
    · exact go_lv [0] rfl (s_X12_house_191 w o0 h0 M)
    · refine go_aload_n 0 162 dX12_house_161 rfl rfl ?_
      refine go_getR flX12_92 h0 165 dX12_house_162 rfl ?_
      refine go_iload_n 1 166 dX12_house_165 rfl rfl ?_
      refine go_aload_n 0 167 dX12_house_166 rfl rfl ?_
      refine go_getR flX12_95 h0 170 dX12_house_167 rfl ?_
      refine go_iload_n 1 171 dX12_house_170 rfl rfl ?_
      refine go_lald (rk12_15 h0) 172 dX12_house_171 rfl ?_
      refine go_last (rk12_14 h0) 173 dX12_house_172 rfl ?_
      refine go_nmM (fun M1 => ?_)
      refine go_aload_n 0 174 dX12_house_173 rfl rfl ?_
      refine go_getR flX12_98 h0 177 dX12_house_174 rfl ?_
      refine go_iload_n 1 178 dX12_house_177 rfl rfl ?_
      refine go_aload_n 0 179 dX12_house_178 rfl rfl ?_
      refine go_getR flX12_101 h0 182 dX12_house_179 rfl ?_
      refine go_iload_n 1 183 dX12_house_182 rfl rfl ?_
      refine go_iald (rk12_17 h0) 184 dX12_house_183 rfl ?_
      refine go_iast (rk12_16 h0) 185 dX12_house_184 rfl ?_
      refine go_nmM (fun M2 => ?_)
      refine go_iinc (x1 + 1) 1 [(1, .int (x1 + 1)), (0, .ref (gB G + o0))] 188 dX12_house_185 rfl rfl rfl (by decide) rfl ?_
      refine go_goto 153 dX12_house_188 (by decide) ?_
      exact go_lv [1, 0] rfl (ih o0 h0 (x1 + 1) M2)
def f_X12_house_151 (w : Nat) (o0 : Nat) (M : mM) : Option (Int32 × mM) := (f_X12_house_153 w w o0 0 M)
set_option maxHeartbeats 4000000 in
set_option maxRecDepth 100000 in
theorem s_X12_house_151 {l : Launch} {G : mG} {sk : List mS} (w : Nat) (o0 : Nat) (h0 : isK o0 22) (M : mM) : Go muX12_house (rm 65) 0 0 l G sk (mFin G sk eI) (f_X12_house_151 w o0 M) 151 [(0, .ref (gB G + o0))] [] M := by
  unfold f_X12_house_151
  refine go_iconst 0 152 dX12_house_151 rfl (by decide) ?_
  refine go_istore_n [(1, .int 0), (0, .ref (gB G + o0))] 153 dX12_house_152 rfl rfl (by decide) rfl ?_
  exact go_lv [1, 0] rfl (s_X12_house_153 w w o0 h0 0 M)
def f_X12_house_105 (w : Nat) : Nat → Nat → Int32 → mM → Option (Int32 × mM)
  | 0, _, _, _ => none
  | n + 1, o0, x1, M => (if (M.1 o0 13) ≤ x1 then (f_X12_house_151 w o0 M) else chk (1100 + x1) (sL (rF o0 11)) (chk x1 (sL (rF o0 11)) (lt (wI M (rF o0 11) x1.toNatClampNeg (M.1 (rF o0 11) (1100 + x1).toNatClampNeg)) fun M1 => chk (1100 + x1) (sL (rF o0 12)) (chk x1 (sL (rF o0 12)) (lt (wI M1 (rF o0 12) x1.toNatClampNeg (M1.1 (rF o0 12) (1100 + x1).toNatClampNeg)) fun M2 => (f_X12_house_105 w n o0 (x1 + 1) M2))))))
set_option maxHeartbeats 4000000 in
set_option maxRecDepth 100000 in
theorem s_X12_house_105 {l : Launch} {G : mG} {sk : List mS} (w : Nat) : ∀ (n : Nat) (o0 : Nat) (h0 : isK o0 22) (x1 : Int32) (M : mM), Go muX12_house (rm 65) 0 0 l G sk (mFin G sk eI) (f_X12_house_105 w n o0 x1 M) 105 [(0, .ref (gB G + o0)), (1, .int x1)] [] M := by
  intro n
  induction n with
  | zero =>
    intros
    exact go_none
  | succ n ih =>
    intro o0 h0 x1 M
    rw [f_X12_house_105]
    refine go_iload_n 1 106 dX12_house_105 rfl rfl ?_
    refine go_aload_n 0 107 dX12_house_106 rfl rfl ?_
    refine go_getI flX12_211 (by decide) h0 110 dX12_house_107 rfl ?_
    refine go_icmp_ge 151 113 dX12_house_110 rfl (by decide) (fun _ => ?_) (fun _ => ?_)
    · exact go_lv [0] rfl (s_X12_house_151 w o0 h0 M)
    · refine go_aload_n 0 114 dX12_house_113 rfl rfl ?_
      refine go_getR flX12_86 h0 117 dX12_house_114 rfl ?_
      refine go_iload_n 1 118 dX12_house_117 rfl rfl ?_
      refine go_aload_n 0 119 dX12_house_118 rfl rfl ?_
      refine go_getR flX12_86 h0 122 dX12_house_119 rfl ?_
      refine go_sipush 1100 125 dX12_house_122 rfl (by decide) ?_
      refine go_iload_n 1 126 dX12_house_125 rfl rfl ?_
      refine go_iadd 127 dX12_house_126 rfl ?_
      refine go_iald (rk12_11 h0) 128 dX12_house_127 rfl ?_
      refine go_iast (rk12_11 h0) 129 dX12_house_128 rfl ?_
      refine go_nmM (fun M1 => ?_)
      refine go_aload_n 0 130 dX12_house_129 rfl rfl ?_
      refine go_getR flX12_89 h0 133 dX12_house_130 rfl ?_
      refine go_iload_n 1 134 dX12_house_133 rfl rfl ?_
      refine go_aload_n 0 135 dX12_house_134 rfl rfl ?_
      refine go_getR flX12_89 h0 138 dX12_house_135 rfl ?_
      refine go_sipush 1100 141 dX12_house_138 rfl (by decide) ?_
      refine go_iload_n 1 142 dX12_house_141 rfl rfl ?_
      refine go_iadd 143 dX12_house_142 rfl ?_
      refine go_iald (rk12_12 h0) 144 dX12_house_143 rfl ?_
      refine go_iast (rk12_12 h0) 145 dX12_house_144 rfl ?_
      refine go_nmM (fun M2 => ?_)
      refine go_iinc (x1 + 1) 1 [(1, .int (x1 + 1)), (0, .ref (gB G + o0))] 148 dX12_house_145 rfl rfl rfl (by decide) rfl ?_
      refine go_goto 105 dX12_house_148 (by decide) ?_
      exact go_lv [1, 0] rfl (ih o0 h0 (x1 + 1) M2)
def f_X12_house_103 (w : Nat) (o0 : Nat) (M : mM) : Option (Int32 × mM) := (f_X12_house_105 w w o0 0 M)
set_option maxHeartbeats 4000000 in
set_option maxRecDepth 100000 in
theorem s_X12_house_103 {l : Launch} {G : mG} {sk : List mS} (w : Nat) (o0 : Nat) (h0 : isK o0 22) (M : mM) : Go muX12_house (rm 65) 0 0 l G sk (mFin G sk eI) (f_X12_house_103 w o0 M) 103 [(0, .ref (gB G + o0))] [] M := by
  unfold f_X12_house_103
  refine go_iconst 0 104 dX12_house_103 rfl (by decide) ?_
  refine go_istore_n [(1, .int 0), (0, .ref (gB G + o0))] 105 dX12_house_104 rfl rfl (by decide) rfl ?_
  exact go_lv [1, 0] rfl (s_X12_house_105 w w o0 h0 0 M)
def f_X12_house_76 (w : Nat) : Nat → Nat → Int32 → mM → Option (Int32 × mM)
  | 0, _, _, _ => none
  | n + 1, o0, x1, M => (if 60 ≤ x1 then (f_X12_house_103 w o0 M) else chk (60 + x1) (sL (rF o0 10)) (chk x1 (sL (rF o0 10)) (lt (wI M (rF o0 10) x1.toNatClampNeg (M.1 (rF o0 10) (60 + x1).toNatClampNeg)) fun M1 => (f_X12_house_76 w n o0 (x1 + 1) M1))))
set_option maxHeartbeats 4000000 in
set_option maxRecDepth 100000 in
theorem s_X12_house_76 {l : Launch} {G : mG} {sk : List mS} (w : Nat) : ∀ (n : Nat) (o0 : Nat) (h0 : isK o0 22) (x1 : Int32) (M : mM), Go muX12_house (rm 65) 0 0 l G sk (mFin G sk eI) (f_X12_house_76 w n o0 x1 M) 76 [(0, .ref (gB G + o0)), (1, .int x1)] [] M := by
  intro n
  induction n with
  | zero =>
    intros
    exact go_none
  | succ n ih =>
    intro o0 h0 x1 M
    rw [f_X12_house_76]
    refine go_iload_n 1 77 dX12_house_76 rfl rfl ?_
    refine go_bipush 60 79 dX12_house_77 rfl (by decide) ?_
    refine go_icmp_ge 103 82 dX12_house_79 rfl (by decide) (fun _ => ?_) (fun _ => ?_)
    · exact go_lv [0] rfl (s_X12_house_103 w o0 h0 M)
    · refine go_aload_n 0 83 dX12_house_82 rfl rfl ?_
      refine go_getR flX12_83 h0 86 dX12_house_83 rfl ?_
      refine go_iload_n 1 87 dX12_house_86 rfl rfl ?_
      refine go_aload_n 0 88 dX12_house_87 rfl rfl ?_
      refine go_getR flX12_83 h0 91 dX12_house_88 rfl ?_
      refine go_bipush 60 93 dX12_house_91 rfl (by decide) ?_
      refine go_iload_n 1 94 dX12_house_93 rfl rfl ?_
      refine go_iadd 95 dX12_house_94 rfl ?_
      refine go_iald (rk12_10 h0) 96 dX12_house_95 rfl ?_
      refine go_iast (rk12_10 h0) 97 dX12_house_96 rfl ?_
      refine go_nmM (fun M1 => ?_)
      refine go_iinc (x1 + 1) 1 [(1, .int (x1 + 1)), (0, .ref (gB G + o0))] 100 dX12_house_97 rfl rfl rfl (by decide) rfl ?_
      refine go_goto 76 dX12_house_100 (by decide) ?_
      exact go_lv [1, 0] rfl (ih o0 h0 (x1 + 1) M1)
def f_X12_house_62 (w : Nat) (o0 : Nat) (M : mM) : Option (Int32 × mM) := (if (M.1 o0 8) ≤ 0 then (f_X12_house_76 w w o0 0 M) else some ((M.1 o0 8), M))
set_option maxHeartbeats 4000000 in
set_option maxRecDepth 100000 in
theorem s_X12_house_62 {l : Launch} {G : mG} {sk : List mS} (w : Nat) (o0 : Nat) (h0 : isK o0 22) (M : mM) : Go muX12_house (rm 65) 0 0 l G sk (mFin G sk eI) (f_X12_house_62 w o0 M) 62 [(0, .ref (gB G + o0))] [] M := by
  unfold f_X12_house_62
  refine go_aload_n 0 63 dX12_house_62 rfl rfl ?_
  refine go_getI flX12_165 (by decide) h0 66 dX12_house_63 rfl ?_
  refine go_if_le 74 69 dX12_house_66 rfl (by decide) (fun _ => ?_) (fun _ => ?_)
  · refine go_iconst 0 75 dX12_house_74 rfl (by decide) ?_
    refine go_istore_n [(1, .int 0), (0, .ref (gB G + o0))] 76 dX12_house_75 rfl rfl (by decide) rfl ?_
    exact go_lv [1, 0] rfl (s_X12_house_76 w w o0 h0 0 M)
  · refine go_aload_n 0 70 dX12_house_69 rfl rfl ?_
    refine go_getI flX12_165 (by decide) h0 73 dX12_house_70 rfl ?_
    exact go_iret rfl dX12_house_73
def f_X12_house_30 (w : Nat) : Nat → Nat → mM → Option (Int32 × mM)
  | 0, _, _ => none
  | n + 1, o0, M => (if (M.1 o0 8) = 0 then chk (M.1 o0 7) (sL (rF o0 4)) ((if (M.1 (rF o0 4) (M.1 o0 7).toNatClampNeg) = 0 then (f_X12_house_62 w o0 M) else bV (f_X12_readLine w o0 M) fun M1 => bV (f_X12_takeSign w o0 59 M1) fun M2 => (f_X12_house_30 w n o0 M2))) else (f_X12_house_62 w o0 M))
set_option maxHeartbeats 4000000 in
set_option maxRecDepth 100000 in
theorem s_X12_house_30 {l : Launch} {G : mG} {sk : List mS} (w : Nat) : ∀ (n : Nat) (o0 : Nat) (h0 : isK o0 22) (M : mM), Go muX12_house (rm 65) 0 0 l G sk (mFin G sk eI) (f_X12_house_30 w n o0 M) 30 [(0, .ref (gB G + o0))] [] M := by
  intro n
  induction n with
  | zero =>
    intros
    exact go_none
  | succ n ih =>
    intro o0 h0 M
    rw [f_X12_house_30]
    refine go_aload_n 0 31 dX12_house_30 rfl rfl ?_
    refine go_getI flX12_165 (by decide) h0 34 dX12_house_31 rfl ?_
    refine go_if_ne 62 37 dX12_house_34 rfl (by decide) (fun _ => ?_) (fun _ => ?_)
    · exact go_lv [0] rfl (s_X12_house_62 w o0 h0 M)
    · refine go_aload_n 0 38 dX12_house_37 rfl rfl ?_
      refine go_getR flX12_24 h0 41 dX12_house_38 rfl ?_
      refine go_aload_n 0 42 dX12_house_41 rfl rfl ?_
      refine go_getI flX12_162 (by decide) h0 45 dX12_house_42 rfl ?_
      refine go_iald (rk12_4 h0) 46 dX12_house_45 rfl ?_
      refine go_if_eq 62 49 dX12_house_46 rfl (by decide) (fun _ => ?_) (fun _ => ?_)
      · exact go_lv [0] rfl (s_X12_house_62 w o0 h0 M)
      · refine go_aload_n 0 50 dX12_house_49 rfl rfl ?_
        refine go_cVV0 64 clX12 cwX12_217 (m_X12_readLine w o0 h0 M) h0 53 dX12_house_50 rfl ⟨Nat.le_of_ble_eq_true rfl, Nat.le_of_ble_eq_true rfl⟩ ⟨Nat.zero_le _, Nat.zero_le _⟩ (Nat.le_of_ble_eq_true rfl) (fun M1 _ => ?_)
        refine go_aload_n 0 54 dX12_house_53 rfl rfl ?_
        refine go_bipush 59 56 dX12_house_54 rfl (by decide) ?_
        refine go_cVV1 1 clX12 cwX12_220 (m_X12_takeSign w o0 h0 59 M1) h0 59 dX12_house_56 rfl ⟨Nat.le_of_ble_eq_true rfl, Nat.le_of_ble_eq_true rfl⟩ ⟨Nat.zero_le _, Nat.zero_le _⟩ (Nat.le_of_ble_eq_true rfl) (fun M2 _ => ?_)
        refine go_goto 30 dX12_house_59 (by decide) ?_
        exact go_lv [0] rfl (ih o0 h0 M2)
def f_X12_house (w : Nat) (o0 : Nat) (M : mM) : Option (Int32 × mM) := lt (wI M o0 0 0) fun M1 => bV (f_X12_cutAll w o0 M1) fun M2 => lt (wI M2 o0 13 0) fun M3 => lt (wI M3 o0 19 0) fun M4 => lt (wI M4 o0 20 0) fun M5 => bV (f_X12_standsAsAlways w o0 60 M5) fun M6 => (f_X12_house_30 w w o0 M6)
set_option maxHeartbeats 4000000 in
set_option maxRecDepth 100000 in
theorem s_X12_house {l : Launch} {G : mG} {sk : List mS} (w : Nat) (o0 : Nat) (h0 : isK o0 22) (M : mM) : Go muX12_house (rm 65) 0 0 l G sk (mFin G sk eI) (f_X12_house w o0 M) 0 [(0, .ref (gB G + o0))] [] M := by
  unfold f_X12_house
  refine go_aload_n 0 1 dX12_house_0 rfl rfl ?_
  refine go_iconst 0 2 dX12_house_1 rfl (by decide) ?_
  refine go_putI flX12_1 rfl rfl h0 5 dX12_house_2 rfl ?_
  refine go_nmM (fun M1 => ?_)
  refine go_aload_n 0 6 dX12_house_5 rfl rfl ?_
  refine go_cVV0 2 clX12 cwX12_208 (m_X12_cutAll w o0 h0 M1) h0 9 dX12_house_6 rfl ⟨Nat.le_of_ble_eq_true rfl, Nat.le_of_ble_eq_true rfl⟩ ⟨Nat.zero_le _, Nat.zero_le _⟩ (Nat.le_of_ble_eq_true rfl) (fun M2 _ => ?_)
  refine go_aload_n 0 10 dX12_house_9 rfl rfl ?_
  refine go_iconst 0 11 dX12_house_10 rfl (by decide) ?_
  refine go_putI flX12_211 rfl rfl h0 14 dX12_house_11 rfl ?_
  refine go_nmM (fun M3 => ?_)
  refine go_aload_n 0 15 dX12_house_14 rfl rfl ?_
  refine go_iconst 0 16 dX12_house_15 rfl (by decide) ?_
  refine go_putI flX12_190 rfl rfl h0 19 dX12_house_16 rfl ?_
  refine go_nmM (fun M4 => ?_)
  refine go_aload_n 0 20 dX12_house_19 rfl rfl ?_
  refine go_iconst 0 21 dX12_house_20 rfl (by decide) ?_
  refine go_putI flX12_214 rfl rfl h0 24 dX12_house_21 rfl ?_
  refine go_nmM (fun M5 => ?_)
  refine go_aload_n 0 25 dX12_house_24 rfl rfl ?_
  refine go_bipush 60 27 dX12_house_25 rfl (by decide) ?_
  refine go_cVV1 0 clX12 cwX12_132 (m_X12_standsAsAlways w o0 h0 60 M5) h0 30 dX12_house_27 rfl ⟨Nat.le_of_ble_eq_true rfl, Nat.le_of_ble_eq_true rfl⟩ ⟨Nat.zero_le _, Nat.zero_le _⟩ (Nat.le_of_ble_eq_true rfl) (fun M6 _ => ?_)
  exact go_lv [0] rfl (s_X12_house_30 w w o0 h0 M6)
theorem m_X12_house {l : Launch} {G : mG} {sk : List mS} (w : Nat) (o0 : Nat) (h0 : isK o0 22) (M : mM) : Mt l G sk yX12_house muX12_house 65 [.ref (gB G + o0)] M eI (f_X12_house w o0 M) := Mt.of (by decide) rfl (Nat.le_of_ble_eq_true rfl) (s_X12_house w o0 h0 M)
theorem dX12_days_0 : decode cX12_days 0 = .ok (.aload_n 0, 1) := by decide +kernel
theorem dX12_days_1 : decode cX12_days 1 = .ok (.iconst 0, 1) := by decide +kernel
theorem dX12_days_2 : decode cX12_days 2 = .ok (.putfield 1, 3) := by decide +kernel
theorem dX12_days_5 : decode cX12_days 5 = .ok (.aload_n 0, 1) := by decide +kernel
theorem dX12_days_6 : decode cX12_days 6 = .ok (.invokevirtual 208, 3) := by decide +kernel
theorem dX12_days_9 : decode cX12_days 9 = .ok (.iconst 0, 1) := by decide +kernel
theorem dX12_days_10 : decode cX12_days 10 = .ok (.istore_n 1, 1) := by decide +kernel
theorem dX12_days_11 : decode cX12_days 11 = .ok (.aload_n 0, 1) := by decide +kernel
theorem dX12_days_12 : decode cX12_days 12 = .ok (.getfield 165, 3) := by decide +kernel
theorem dX12_days_15 : decode cX12_days 15 = .ok (.ifCond .ne 133, 3) := by decide +kernel
theorem dX12_days_18 : decode cX12_days 18 = .ok (.aload_n 0, 1) := by decide +kernel
theorem dX12_days_19 : decode cX12_days 19 = .ok (.getfield 24, 3) := by decide +kernel
theorem dX12_days_22 : decode cX12_days 22 = .ok (.aload_n 0, 1) := by decide +kernel
theorem dX12_days_23 : decode cX12_days 23 = .ok (.getfield 162, 3) := by decide +kernel
theorem dX12_days_26 : decode cX12_days 26 = .ok (.iaload, 1) := by decide +kernel
theorem dX12_days_27 : decode cX12_days 27 = .ok (.ifCond .eq 121, 3) := by decide +kernel
theorem dX12_days_30 : decode cX12_days 30 = .ok (.aload_n 0, 1) := by decide +kernel
theorem dX12_days_31 : decode cX12_days 31 = .ok (.bipush 7, 2) := by decide +kernel
theorem dX12_days_33 : decode cX12_days 33 = .ok (.iconst 5, 1) := by decide +kernel
theorem dX12_days_34 : decode cX12_days 34 = .ok (.invokevirtual 187, 3) := by decide +kernel
theorem dX12_days_37 : decode cX12_days 37 = .ok (.istore_n 2, 1) := by decide +kernel
theorem dX12_days_38 : decode cX12_days 38 = .ok (.iload_n 2, 1) := by decide +kernel
theorem dX12_days_39 : decode cX12_days 39 = .ok (.ifCond .ge 11, 3) := by decide +kernel
theorem dX12_days_42 : decode cX12_days 42 = .ok (.aload_n 0, 1) := by decide +kernel
theorem dX12_days_43 : decode cX12_days 43 = .ok (.iconst 1, 1) := by decide +kernel
theorem dX12_days_44 : decode cX12_days 44 = .ok (.invokevirtual 171, 3) := by decide +kernel
theorem dX12_days_47 : decode cX12_days 47 = .ok (.goto 92, 3) := by decide +kernel
theorem dX12_days_50 : decode cX12_days 50 = .ok (.iload_n 1, 1) := by decide +kernel
theorem dX12_days_51 : decode cX12_days 51 = .ok (.bipush 40, 2) := by decide +kernel
theorem dX12_days_53 : decode cX12_days 53 = .ok (.if_icmp .ne 11, 3) := by decide +kernel
theorem dX12_days_56 : decode cX12_days 56 = .ok (.aload_n 0, 1) := by decide +kernel
theorem dX12_days_57 : decode cX12_days 57 = .ok (.iconst 5, 1) := by decide +kernel
theorem dX12_days_58 : decode cX12_days 58 = .ok (.invokevirtual 171, 3) := by decide +kernel
theorem dX12_days_61 : decode cX12_days 61 = .ok (.goto 78, 3) := by decide +kernel
theorem dX12_days_64 : decode cX12_days 64 = .ok (.aload_n 0, 1) := by decide +kernel
theorem dX12_days_65 : decode cX12_days 65 = .ok (.dup, 1) := by decide +kernel
theorem dX12_days_66 : decode cX12_days 66 = .ok (.getfield 162, 3) := by decide +kernel
theorem dX12_days_69 : decode cX12_days 69 = .ok (.iconst 1, 1) := by decide +kernel
theorem dX12_days_70 : decode cX12_days 70 = .ok (.iadd, 1) := by decide +kernel
theorem dX12_days_71 : decode cX12_days 71 = .ok (.putfield 162, 3) := by decide +kernel
theorem dX12_days_74 : decode cX12_days 74 = .ok (.bipush 125, 2) := by decide +kernel
theorem dX12_days_76 : decode cX12_days 76 = .ok (.iconst 3, 1) := by decide +kernel
theorem dX12_days_77 : decode cX12_days 77 = .ok (.iload_n 1, 1) := by decide +kernel
theorem dX12_days_78 : decode cX12_days 78 = .ok (.imul, 1) := by decide +kernel
theorem dX12_days_79 : decode cX12_days 79 = .ok (.iadd, 1) := by decide +kernel
theorem dX12_days_80 : decode cX12_days 80 = .ok (.istore_n 3, 1) := by decide +kernel
theorem dX12_days_81 : decode cX12_days 81 = .ok (.aload_n 0, 1) := by decide +kernel
theorem dX12_days_82 : decode cX12_days 82 = .ok (.getfield 104, 3) := by decide +kernel
theorem dX12_days_85 : decode cX12_days 85 = .ok (.iload_n 3, 1) := by decide +kernel
theorem dX12_days_86 : decode cX12_days 86 = .ok (.iload_n 2, 1) := by decide +kernel
theorem dX12_days_87 : decode cX12_days 87 = .ok (.iastore, 1) := by decide +kernel
theorem dX12_days_88 : decode cX12_days 88 = .ok (.aload_n 0, 1) := by decide +kernel
theorem dX12_days_89 : decode cX12_days 89 = .ok (.getfield 104, 3) := by decide +kernel
theorem dX12_days_92 : decode cX12_days 92 = .ok (.iload_n 3, 1) := by decide +kernel
theorem dX12_days_93 : decode cX12_days 93 = .ok (.iconst 2, 1) := by decide +kernel
theorem dX12_days_94 : decode cX12_days 94 = .ok (.iadd, 1) := by decide +kernel
theorem dX12_days_95 : decode cX12_days 95 = .ok (.iload_n 2, 1) := by decide +kernel
theorem dX12_days_96 : decode cX12_days 96 = .ok (.iconst 1, 1) := by decide +kernel
theorem dX12_days_97 : decode cX12_days 97 = .ok (.if_icmp .ne 14, 3) := by decide +kernel
theorem dX12_days_100 : decode cX12_days 100 = .ok (.aload_n 0, 1) := by decide +kernel
theorem dX12_days_101 : decode cX12_days 101 = .ok (.iconst 0, 1) := by decide +kernel
theorem dX12_days_102 : decode cX12_days 102 = .ok (.bipush 20, 2) := by decide +kernel
theorem dX12_days_104 : decode cX12_days 104 = .ok (.iconst 0, 1) := by decide +kernel
theorem dX12_days_105 : decode cX12_days 105 = .ok (.invokevirtual 230, 3) := by decide +kernel
theorem dX12_days_108 : decode cX12_days 108 = .ok (.goto 4, 3) := by decide +kernel
theorem dX12_days_111 : decode cX12_days 111 = .ok (.iconst 0, 1) := by decide +kernel
theorem dX12_days_112 : decode cX12_days 112 = .ok (.iastore, 1) := by decide +kernel
theorem dX12_days_113 : decode cX12_days 113 = .ok (.aload_n 0, 1) := by decide +kernel
theorem dX12_days_114 : decode cX12_days 114 = .ok (.getfield 104, 3) := by decide +kernel
theorem dX12_days_117 : decode cX12_days 117 = .ok (.iload_n 3, 1) := by decide +kernel
theorem dX12_days_118 : decode cX12_days 118 = .ok (.iconst 1, 1) := by decide +kernel
theorem dX12_days_119 : decode cX12_days 119 = .ok (.iadd, 1) := by decide +kernel
theorem dX12_days_120 : decode cX12_days 120 = .ok (.iload_n 2, 1) := by decide +kernel
theorem dX12_days_121 : decode cX12_days 121 = .ok (.ifCond .ne 7, 3) := by decide +kernel
theorem dX12_days_124 : decode cX12_days 124 = .ok (.iconst 0, 1) := by decide +kernel
theorem dX12_days_125 : decode cX12_days 125 = .ok (.goto 10, 3) := by decide +kernel
theorem dX12_days_128 : decode cX12_days 128 = .ok (.aload_n 0, 1) := by decide +kernel
theorem dX12_days_129 : decode cX12_days 129 = .ok (.iconst 0, 1) := by decide +kernel
theorem dX12_days_130 : decode cX12_days 130 = .ok (.bipush 7, 2) := by decide +kernel
theorem dX12_days_132 : decode cX12_days 132 = .ok (.invokevirtual 183, 3) := by decide +kernel
theorem dX12_days_135 : decode cX12_days 135 = .ok (.iastore, 1) := by decide +kernel
theorem dX12_days_136 : decode cX12_days 136 = .ok (.iinc 1 1, 3) := by decide +kernel
theorem dX12_days_139 : decode cX12_days 139 = .ok (.aload_n 0, 1) := by decide +kernel
theorem dX12_days_140 : decode cX12_days 140 = .ok (.bipush 59, 2) := by decide +kernel
theorem dX12_days_142 : decode cX12_days 142 = .ok (.invokevirtual 220, 3) := by decide +kernel
theorem dX12_days_145 : decode cX12_days 145 = .ok (.goto (-134), 3) := by decide +kernel
theorem dX12_days_148 : decode cX12_days 148 = .ok (.aload_n 0, 1) := by decide +kernel
theorem dX12_days_149 : decode cX12_days 149 = .ok (.getfield 165, 3) := by decide +kernel
theorem dX12_days_152 : decode cX12_days 152 = .ok (.ifCond .le 8, 3) := by decide +kernel
theorem dX12_days_155 : decode cX12_days 155 = .ok (.aload_n 0, 1) := by decide +kernel
theorem dX12_days_156 : decode cX12_days 156 = .ok (.getfield 165, 3) := by decide +kernel
theorem dX12_days_159 : decode cX12_days 159 = .ok (.ireturn, 1) := by decide +kernel
theorem dX12_days_160 : decode cX12_days 160 = .ok (.aload_n 0, 1) := by decide +kernel
theorem dX12_days_161 : decode cX12_days 161 = .ok (.getfield 104, 3) := by decide +kernel
theorem dX12_days_164 : decode cX12_days 164 = .ok (.iconst 0, 1) := by decide +kernel
theorem dX12_days_165 : decode cX12_days 165 = .ok (.iload_n 1, 1) := by decide +kernel
theorem dX12_days_166 : decode cX12_days 166 = .ok (.iastore, 1) := by decide +kernel
theorem dX12_days_167 : decode cX12_days 167 = .ok (.iconst 0, 1) := by decide +kernel
theorem dX12_days_168 : decode cX12_days 168 = .ok (.istore_n 2, 1) := by decide +kernel
theorem dX12_days_169 : decode cX12_days 169 = .ok (.iload_n 2, 1) := by decide +kernel
theorem dX12_days_170 : decode cX12_days 170 = .ok (.iconst 3, 1) := by decide +kernel
theorem dX12_days_171 : decode cX12_days 171 = .ok (.iload_n 1, 1) := by decide +kernel
theorem dX12_days_172 : decode cX12_days 172 = .ok (.imul, 1) := by decide +kernel
theorem dX12_days_173 : decode cX12_days 173 = .ok (.if_icmp .ge 26, 3) := by decide +kernel
theorem dX12_days_176 : decode cX12_days 176 = .ok (.aload_n 0, 1) := by decide +kernel
theorem dX12_days_177 : decode cX12_days 177 = .ok (.getfield 104, 3) := by decide +kernel
theorem dX12_days_180 : decode cX12_days 180 = .ok (.iconst 1, 1) := by decide +kernel
theorem dX12_days_181 : decode cX12_days 181 = .ok (.iload_n 2, 1) := by decide +kernel
theorem dX12_days_182 : decode cX12_days 182 = .ok (.iadd, 1) := by decide +kernel
theorem dX12_days_183 : decode cX12_days 183 = .ok (.aload_n 0, 1) := by decide +kernel
theorem dX12_days_184 : decode cX12_days 184 = .ok (.getfield 104, 3) := by decide +kernel
theorem dX12_days_187 : decode cX12_days 187 = .ok (.bipush 125, 2) := by decide +kernel
theorem dX12_days_189 : decode cX12_days 189 = .ok (.iload_n 2, 1) := by decide +kernel
theorem dX12_days_190 : decode cX12_days 190 = .ok (.iadd, 1) := by decide +kernel
theorem dX12_days_191 : decode cX12_days 191 = .ok (.iaload, 1) := by decide +kernel
theorem dX12_days_192 : decode cX12_days 192 = .ok (.iastore, 1) := by decide +kernel
theorem dX12_days_193 : decode cX12_days 193 = .ok (.iinc 2 1, 3) := by decide +kernel
theorem dX12_days_196 : decode cX12_days 196 = .ok (.goto (-27), 3) := by decide +kernel
theorem dX12_days_199 : decode cX12_days 199 = .ok (.iconst 0, 1) := by decide +kernel
theorem dX12_days_200 : decode cX12_days 200 = .ok (.ireturn, 1) := by decide +kernel
def f_X12_days_139 (w : Nat) (k11 : Nat → Int32 → mM → Option (Int32 × mM)) (o0 : Nat) (x1 : Int32) (M : mM) : Option (Int32 × mM) := bV (f_X12_takeSign w o0 59 M) fun M1 => (k11 o0 x1 M1)
set_option maxHeartbeats 4000000 in
set_option maxRecDepth 100000 in
theorem s_X12_days_139 {l : Launch} {G : mG} {sk : List mS} (w : Nat) (k11 : Nat → Int32 → mM → Option (Int32 × mM)) (hk11 : ∀ (o0 : Nat) (h0 : isK o0 22) (x1 : Int32) (M : mM), Go muX12_days (rm 4) 0 0 l G sk (mFin G sk eI) (k11 o0 x1 M) 11 [(0, .ref (gB G + o0)), (1, .int x1)] [] M) (o0 : Nat) (h0 : isK o0 22) (x1 : Int32) (M : mM) : Go muX12_days (rm 4) 0 0 l G sk (mFin G sk eI) (f_X12_days_139 w k11 o0 x1 M) 139 [(0, .ref (gB G + o0)), (1, .int x1)] [] M := by
  unfold f_X12_days_139
  refine go_aload_n 0 140 dX12_days_139 rfl rfl ?_
  refine go_bipush 59 142 dX12_days_140 rfl (by decide) ?_
  refine go_cVV1 1 clX12 cwX12_220 (m_X12_takeSign w o0 h0 59 M) h0 145 dX12_days_142 rfl ⟨Nat.le_of_ble_eq_true rfl, Nat.le_of_ble_eq_true rfl⟩ ⟨Nat.zero_le _, Nat.zero_le _⟩ (Nat.le_of_ble_eq_true rfl) (fun M1 _ => ?_)
  refine go_goto 11 dX12_days_145 (by decide) ?_
  exact go_lv [0, 1] rfl (hk11 o0 h0 x1 M1)
def f_X12_days_135 (w : Nat) (k11 : Nat → Int32 → mM → Option (Int32 × mM)) (o0 : Nat) (x1 : Int32) (xs0 : Int32) (xs1 : Int32) (os2 : Nat) (M : mM) : Option (Int32 × mM) := chk xs1 (sL os2) (lt (wI M os2 xs1.toNatClampNeg xs0) fun M1 => (f_X12_days_139 w k11 o0 (x1 + 1) M1))
set_option maxHeartbeats 4000000 in
set_option maxRecDepth 100000 in
theorem s_X12_days_135 {l : Launch} {G : mG} {sk : List mS} (w : Nat) (k11 : Nat → Int32 → mM → Option (Int32 × mM)) (hk11 : ∀ (o0 : Nat) (h0 : isK o0 22) (x1 : Int32) (M : mM), Go muX12_days (rm 4) 0 0 l G sk (mFin G sk eI) (k11 o0 x1 M) 11 [(0, .ref (gB G + o0)), (1, .int x1)] [] M) (o0 : Nat) (h0 : isK o0 22) (x1 : Int32) (xs0 : Int32) (xs1 : Int32) (os2 : Nat) (hs2 : isK os2 0) (M : mM) : Go muX12_days (rm 4) 0 0 l G sk (mFin G sk eI) (f_X12_days_135 w k11 o0 x1 xs0 xs1 os2 M) 135 [(0, .ref (gB G + o0)), (1, .int x1)] [.int xs0, .int xs1, .ref (gB G + os2)] M := by
  unfold f_X12_days_135
  refine go_iast hs2 136 dX12_days_135 rfl ?_
  refine go_nmM (fun M1 => ?_)
  refine go_iinc (x1 + 1) 1 [(1, .int (x1 + 1)), (0, .ref (gB G + o0))] 139 dX12_days_136 rfl rfl rfl (by decide) rfl ?_
  exact go_lv [1, 0] rfl (s_X12_days_139 w k11 hk11 o0 h0 (x1 + 1) M1)
def f_X12_days_112 (w : Nat) (k11 : Nat → Int32 → mM → Option (Int32 × mM)) (o0 : Nat) (x1 : Int32) (x2 : Int32) (x3 : Int32) (xs0 : Int32) (xs1 : Int32) (os2 : Nat) (M : mM) : Option (Int32 × mM) := chk xs1 (sL os2) (lt (wI M os2 xs1.toNatClampNeg xs0) fun M1 => (if x2 = 0 then (f_X12_days_135 w k11 o0 x1 0 (x3 + 1) (rF o0 21) M1) else bI (f_X12_takeNumber w o0 0 7 M1) fun q3 M2 => (f_X12_days_135 w k11 o0 x1 q3 (x3 + 1) (rF o0 21) M2)))
set_option maxHeartbeats 4000000 in
set_option maxRecDepth 100000 in
theorem s_X12_days_112 {l : Launch} {G : mG} {sk : List mS} (w : Nat) (k11 : Nat → Int32 → mM → Option (Int32 × mM)) (hk11 : ∀ (o0 : Nat) (h0 : isK o0 22) (x1 : Int32) (M : mM), Go muX12_days (rm 4) 0 0 l G sk (mFin G sk eI) (k11 o0 x1 M) 11 [(0, .ref (gB G + o0)), (1, .int x1)] [] M) (o0 : Nat) (h0 : isK o0 22) (x1 : Int32) (x2 : Int32) (x3 : Int32) (xs0 : Int32) (xs1 : Int32) (os2 : Nat) (hs2 : isK os2 0) (M : mM) : Go muX12_days (rm 4) 0 0 l G sk (mFin G sk eI) (f_X12_days_112 w k11 o0 x1 x2 x3 xs0 xs1 os2 M) 112 [(0, .ref (gB G + o0)), (1, .int x1), (2, .int x2), (3, .int x3)] [.int xs0, .int xs1, .ref (gB G + os2)] M := by
  unfold f_X12_days_112
  refine go_iast hs2 113 dX12_days_112 rfl ?_
  refine go_nmM (fun M1 => ?_)
  refine go_aload_n 0 114 dX12_days_113 rfl rfl ?_
  refine go_getR flX12_104 h0 117 dX12_days_114 rfl ?_
  refine go_iload_n 3 118 dX12_days_117 rfl rfl ?_
  refine go_iconst 1 119 dX12_days_118 rfl (by decide) ?_
  refine go_iadd 120 dX12_days_119 rfl ?_
  refine go_iload_n 2 121 dX12_days_120 rfl rfl ?_
  refine go_if_ne 128 124 dX12_days_121 rfl (by decide) (fun _ => ?_) (fun _ => ?_)
  · refine go_aload_n 0 129 dX12_days_128 rfl rfl ?_
    refine go_iconst 0 130 dX12_days_129 rfl (by decide) ?_
    refine go_bipush 7 132 dX12_days_130 rfl (by decide) ?_
    refine go_cVI2 1 clX12 cwX12_183 (m_X12_takeNumber w o0 h0 0 7 M1) h0 135 dX12_days_132 rfl ⟨Nat.le_of_ble_eq_true rfl, Nat.le_of_ble_eq_true rfl⟩ ⟨Nat.zero_le _, Nat.zero_le _⟩ (Nat.le_of_ble_eq_true rfl) (fun q3 M2 _ => ?_)
    exact go_lv [0, 1] rfl (s_X12_days_135 w k11 hk11 o0 h0 x1 q3 (x3 + 1) (rF o0 21) (rk12_21 h0) M2)
  · refine go_iconst 0 125 dX12_days_124 rfl (by decide) ?_
    refine go_goto 135 dX12_days_125 (by decide) ?_
    exact go_lv [0, 1] rfl (s_X12_days_135 w k11 hk11 o0 h0 x1 0 (x3 + 1) (rF o0 21) (rk12_21 h0) M1)
def f_X12_days_169 (w : Nat) : Nat → Nat → Int32 → Int32 → mM → Option (Int32 × mM)
  | 0, _, _, _, _ => none
  | n + 1, o0, x1, x2, M => (if (3 * x1) ≤ x2 then some (0, M) else chk (125 + x2) (sL (rF o0 21)) (chk (1 + x2) (sL (rF o0 21)) (lt (wI M (rF o0 21) (1 + x2).toNatClampNeg (M.1 (rF o0 21) (125 + x2).toNatClampNeg)) fun M1 => (f_X12_days_169 w n o0 x1 (x2 + 1) M1))))
set_option maxHeartbeats 4000000 in
set_option maxRecDepth 100000 in
theorem s_X12_days_169 {l : Launch} {G : mG} {sk : List mS} (w : Nat) : ∀ (n : Nat) (o0 : Nat) (h0 : isK o0 22) (x1 : Int32) (x2 : Int32) (M : mM), Go muX12_days (rm 4) 0 0 l G sk (mFin G sk eI) (f_X12_days_169 w n o0 x1 x2 M) 169 [(0, .ref (gB G + o0)), (1, .int x1), (2, .int x2)] [] M := by
  intro n
  induction n with
  | zero =>
    intros
    exact go_none
  | succ n ih =>
    intro o0 h0 x1 x2 M
    rw [f_X12_days_169]
    refine go_iload_n 2 170 dX12_days_169 rfl rfl ?_
    refine go_iconst 3 171 dX12_days_170 rfl (by decide) ?_
    refine go_iload_n 1 172 dX12_days_171 rfl rfl ?_
    refine go_imul 173 dX12_days_172 rfl ?_
    refine go_icmp_ge 199 176 dX12_days_173 rfl (by decide) (fun _ => ?_) (fun _ => ?_)
    · refine go_iconst 0 200 dX12_days_199 rfl (by decide) ?_
      exact go_iret rfl dX12_days_200
    · refine go_aload_n 0 177 dX12_days_176 rfl rfl ?_
      refine go_getR flX12_104 h0 180 dX12_days_177 rfl ?_
      refine go_iconst 1 181 dX12_days_180 rfl (by decide) ?_
      refine go_iload_n 2 182 dX12_days_181 rfl rfl ?_
      refine go_iadd 183 dX12_days_182 rfl ?_
      refine go_aload_n 0 184 dX12_days_183 rfl rfl ?_
      refine go_getR flX12_104 h0 187 dX12_days_184 rfl ?_
      refine go_bipush 125 189 dX12_days_187 rfl (by decide) ?_
      refine go_iload_n 2 190 dX12_days_189 rfl rfl ?_
      refine go_iadd 191 dX12_days_190 rfl ?_
      refine go_iald (rk12_21 h0) 192 dX12_days_191 rfl ?_
      refine go_iast (rk12_21 h0) 193 dX12_days_192 rfl ?_
      refine go_nmM (fun M1 => ?_)
      refine go_iinc (x2 + 1) 2 [(2, .int (x2 + 1)), (0, .ref (gB G + o0)), (1, .int x1)] 196 dX12_days_193 rfl rfl rfl (by decide) rfl ?_
      refine go_goto 169 dX12_days_196 (by decide) ?_
      exact go_lv [1, 2, 0] rfl (ih o0 h0 x1 (x2 + 1) M1)
def f_X12_days_148 (w : Nat) (o0 : Nat) (x1 : Int32) (M : mM) : Option (Int32 × mM) := (if (M.1 o0 8) ≤ 0 then chk 0 (sL (rF o0 21)) (lt (wI M (rF o0 21) (0 : Int32).toNatClampNeg x1) fun M1 => (f_X12_days_169 w w o0 x1 0 M1)) else some ((M.1 o0 8), M))
set_option maxHeartbeats 4000000 in
set_option maxRecDepth 100000 in
theorem s_X12_days_148 {l : Launch} {G : mG} {sk : List mS} (w : Nat) (o0 : Nat) (h0 : isK o0 22) (x1 : Int32) (M : mM) : Go muX12_days (rm 4) 0 0 l G sk (mFin G sk eI) (f_X12_days_148 w o0 x1 M) 148 [(0, .ref (gB G + o0)), (1, .int x1)] [] M := by
  unfold f_X12_days_148
  refine go_aload_n 0 149 dX12_days_148 rfl rfl ?_
  refine go_getI flX12_165 (by decide) h0 152 dX12_days_149 rfl ?_
  refine go_if_le 160 155 dX12_days_152 rfl (by decide) (fun _ => ?_) (fun _ => ?_)
  · refine go_aload_n 0 161 dX12_days_160 rfl rfl ?_
    refine go_getR flX12_104 h0 164 dX12_days_161 rfl ?_
    refine go_iconst 0 165 dX12_days_164 rfl (by decide) ?_
    refine go_iload_n 1 166 dX12_days_165 rfl rfl ?_
    refine go_iast (rk12_21 h0) 167 dX12_days_166 rfl ?_
    refine go_nmM (fun M1 => ?_)
    refine go_iconst 0 168 dX12_days_167 rfl (by decide) ?_
    refine go_istore_n [(2, .int 0), (0, .ref (gB G + o0)), (1, .int x1)] 169 dX12_days_168 rfl rfl (by decide) rfl ?_
    exact go_lv [1, 2, 0] rfl (s_X12_days_169 w w o0 h0 x1 0 M1)
  · refine go_aload_n 0 156 dX12_days_155 rfl rfl ?_
    refine go_getI flX12_165 (by decide) h0 159 dX12_days_156 rfl ?_
    exact go_iret rfl dX12_days_159
def f_X12_days_11 (w : Nat) : Nat → Nat → Int32 → mM → Option (Int32 × mM)
  | 0, _, _, _ => none
  | n + 1, o0, x1, M => (if (M.1 o0 8) = 0 then chk (M.1 o0 7) (sL (rF o0 4)) ((if (M.1 (rF o0 4) (M.1 o0 7).toNatClampNeg) = 0 then (f_X12_days_148 w o0 x1 M) else bI (f_X12_wordHere w o0 7 5 M) fun q2 M1 => (if 0 ≤ q2 then (if x1 = 40 then bV (f_X12_wrong w o0 5 M1) fun M8 => (f_X12_days_139 w (f_X12_days_11 w n) o0 x1 M8) else lt (wI M1 o0 7 ((M1.1 o0 7) + 1)) fun M3 => lt (125 + (3 * x1)) fun y4 => chk y4 (sL (rF o0 21)) (lt (wI M3 (rF o0 21) y4.toNatClampNeg q2) fun M5 => (if q2 = 1 then bI (f_X12_takeTold w o0 0 20 0 M5) fun q7 M6 => (f_X12_days_112 w (f_X12_days_11 w n) o0 x1 q2 y4 q7 (y4 + 2) (rF o0 21) M6) else (f_X12_days_112 w (f_X12_days_11 w n) o0 x1 q2 y4 0 (y4 + 2) (rF o0 21) M5)))) else bV (f_X12_wrong w o0 1 M1) fun M9 => (f_X12_days_139 w (f_X12_days_11 w n) o0 x1 M9)))) else (f_X12_days_148 w o0 x1 M))
set_option maxHeartbeats 4000000 in
set_option maxRecDepth 100000 in
theorem s_X12_days_11 {l : Launch} {G : mG} {sk : List mS} (w : Nat) : ∀ (n : Nat) (o0 : Nat) (h0 : isK o0 22) (x1 : Int32) (M : mM), Go muX12_days (rm 4) 0 0 l G sk (mFin G sk eI) (f_X12_days_11 w n o0 x1 M) 11 [(0, .ref (gB G + o0)), (1, .int x1)] [] M := by
  intro n
  induction n with
  | zero =>
    intros
    exact go_none
  | succ n ih =>
    intro o0 h0 x1 M
    rw [f_X12_days_11]
    refine go_aload_n 0 12 dX12_days_11 rfl rfl ?_
    refine go_getI flX12_165 (by decide) h0 15 dX12_days_12 rfl ?_
    refine go_if_ne 148 18 dX12_days_15 rfl (by decide) (fun _ => ?_) (fun _ => ?_)
    · exact go_lv [0, 1] rfl (s_X12_days_148 w o0 h0 x1 M)
    · refine go_aload_n 0 19 dX12_days_18 rfl rfl ?_
      refine go_getR flX12_24 h0 22 dX12_days_19 rfl ?_
      refine go_aload_n 0 23 dX12_days_22 rfl rfl ?_
      refine go_getI flX12_162 (by decide) h0 26 dX12_days_23 rfl ?_
      refine go_iald (rk12_4 h0) 27 dX12_days_26 rfl ?_
      refine go_if_eq 148 30 dX12_days_27 rfl (by decide) (fun _ => ?_) (fun _ => ?_)
      · exact go_lv [0, 1] rfl (s_X12_days_148 w o0 h0 x1 M)
      · refine go_aload_n 0 31 dX12_days_30 rfl rfl ?_
        refine go_bipush 7 33 dX12_days_31 rfl (by decide) ?_
        refine go_iconst 5 34 dX12_days_33 rfl (by decide) ?_
        refine go_cVI2 1 clX12 cwX12_187 (m_X12_wordHere w o0 h0 7 5 M) h0 37 dX12_days_34 rfl ⟨Nat.le_of_ble_eq_true rfl, Nat.le_of_ble_eq_true rfl⟩ ⟨Nat.zero_le _, Nat.zero_le _⟩ (Nat.le_of_ble_eq_true rfl) (fun q2 M1 _ => ?_)
        refine go_istore_n [(2, .int q2), (0, .ref (gB G + o0)), (1, .int x1)] 38 dX12_days_37 rfl rfl (by decide) rfl ?_
        refine go_iload_n 0 39 dX12_days_38 rfl rfl ?_
        refine go_if_ge 50 42 dX12_days_39 rfl (by decide) (fun _ => ?_) (fun _ => ?_)
        · refine go_iload_n 2 51 dX12_days_50 rfl rfl ?_
          refine go_bipush 40 53 dX12_days_51 rfl (by decide) ?_
          refine go_icmp_ne 64 56 dX12_days_53 rfl (by decide) (fun _ => ?_) (fun _ => ?_)
          · refine go_aload_n 1 65 dX12_days_64 rfl rfl ?_
            refine go_dup 66 dX12_days_65 rfl rfl ?_
            refine go_getI flX12_162 (by decide) h0 69 dX12_days_66 rfl ?_
            refine go_iconst 1 70 dX12_days_69 rfl (by decide) ?_
            refine go_iadd 71 dX12_days_70 rfl ?_
            refine go_putI flX12_162 rfl rfl h0 74 dX12_days_71 rfl ?_
            refine go_nmM (fun M3 => ?_)
            refine go_bipush 125 76 dX12_days_74 rfl (by decide) ?_
            refine go_iconst 3 77 dX12_days_76 rfl (by decide) ?_
            refine go_iload_n 2 78 dX12_days_77 rfl rfl ?_
            refine go_imul 79 dX12_days_78 rfl ?_
            refine go_iadd 80 dX12_days_79 rfl ?_
            refine go_nmI (fun y4 => ?_)
            refine go_istore_n [(3, .int y4), (2, .int q2), (0, .ref (gB G + o0)), (1, .int x1)] 81 dX12_days_80 rfl rfl (by decide) rfl ?_
            refine go_aload_n 2 82 dX12_days_81 rfl rfl ?_
            refine go_getR flX12_104 h0 85 dX12_days_82 rfl ?_
            refine go_iload_n 0 86 dX12_days_85 rfl rfl ?_
            refine go_iload_n 1 87 dX12_days_86 rfl rfl ?_
            refine go_iast (rk12_21 h0) 88 dX12_days_87 rfl ?_
            refine go_nmM (fun M5 => ?_)
            refine go_aload_n 2 89 dX12_days_88 rfl rfl ?_
            refine go_getR flX12_104 h0 92 dX12_days_89 rfl ?_
            refine go_iload_n 0 93 dX12_days_92 rfl rfl ?_
            refine go_iconst 2 94 dX12_days_93 rfl (by decide) ?_
            refine go_iadd 95 dX12_days_94 rfl ?_
            refine go_iload_n 1 96 dX12_days_95 rfl rfl ?_
            refine go_iconst 1 97 dX12_days_96 rfl (by decide) ?_
            refine go_icmp_ne 111 100 dX12_days_97 rfl (by decide) (fun _ => ?_) (fun _ => ?_)
            · refine go_iconst 0 112 dX12_days_111 rfl (by decide) ?_
              exact go_lv [2, 3, 1, 0] rfl (s_X12_days_112 w (f_X12_days_11 w n) (fun o0 h0 x1 M => ih o0 h0 x1 M) o0 h0 x1 q2 y4 0 (y4 + 2) (rF o0 21) (rk12_21 h0) M5)
            · refine go_aload_n 2 101 dX12_days_100 rfl rfl ?_
              refine go_iconst 0 102 dX12_days_101 rfl (by decide) ?_
              refine go_bipush 20 104 dX12_days_102 rfl (by decide) ?_
              refine go_iconst 0 105 dX12_days_104 rfl (by decide) ?_
              refine go_cVI3 3 clX12 cwX12_230 (m_X12_takeTold w o0 h0 0 20 0 M5) h0 108 dX12_days_105 rfl ⟨Nat.le_of_ble_eq_true rfl, Nat.le_of_ble_eq_true rfl⟩ ⟨Nat.zero_le _, Nat.zero_le _⟩ (Nat.le_of_ble_eq_true rfl) (fun q7 M6 _ => ?_)
              refine go_goto 112 dX12_days_108 (by decide) ?_
              exact go_lv [2, 3, 1, 0] rfl (s_X12_days_112 w (f_X12_days_11 w n) (fun o0 h0 x1 M => ih o0 h0 x1 M) o0 h0 x1 q2 y4 q7 (y4 + 2) (rF o0 21) (rk12_21 h0) M6)
          · refine go_aload_n 1 57 dX12_days_56 rfl rfl ?_
            refine go_iconst 5 58 dX12_days_57 rfl (by decide) ?_
            refine go_cVV1 0 clX12 cwX12_171 (m_X12_wrong w o0 h0 5 M1) h0 61 dX12_days_58 rfl ⟨Nat.le_of_ble_eq_true rfl, Nat.le_of_ble_eq_true rfl⟩ ⟨Nat.zero_le _, Nat.zero_le _⟩ (Nat.le_of_ble_eq_true rfl) (fun M8 _ => ?_)
            refine go_goto 139 dX12_days_61 (by decide) ?_
            exact go_lv [1, 2] rfl (s_X12_days_139 w (f_X12_days_11 w n) (fun o0 h0 x1 M => ih o0 h0 x1 M) o0 h0 x1 M8)
        · refine go_aload_n 1 43 dX12_days_42 rfl rfl ?_
          refine go_iconst 1 44 dX12_days_43 rfl (by decide) ?_
          refine go_cVV1 0 clX12 cwX12_171 (m_X12_wrong w o0 h0 1 M1) h0 47 dX12_days_44 rfl ⟨Nat.le_of_ble_eq_true rfl, Nat.le_of_ble_eq_true rfl⟩ ⟨Nat.zero_le _, Nat.zero_le _⟩ (Nat.le_of_ble_eq_true rfl) (fun M9 _ => ?_)
          refine go_goto 139 dX12_days_47 (by decide) ?_
          exact go_lv [1, 2] rfl (s_X12_days_139 w (f_X12_days_11 w n) (fun o0 h0 x1 M => ih o0 h0 x1 M) o0 h0 x1 M9)
def f_X12_days (w : Nat) (o0 : Nat) (M : mM) : Option (Int32 × mM) := lt (wI M o0 0 0) fun M1 => bV (f_X12_cutAll w o0 M1) fun M2 => (f_X12_days_11 w w o0 0 M2)
set_option maxHeartbeats 4000000 in
set_option maxRecDepth 100000 in
theorem s_X12_days {l : Launch} {G : mG} {sk : List mS} (w : Nat) (o0 : Nat) (h0 : isK o0 22) (M : mM) : Go muX12_days (rm 4) 0 0 l G sk (mFin G sk eI) (f_X12_days w o0 M) 0 [(0, .ref (gB G + o0))] [] M := by
  unfold f_X12_days
  refine go_aload_n 0 1 dX12_days_0 rfl rfl ?_
  refine go_iconst 0 2 dX12_days_1 rfl (by decide) ?_
  refine go_putI flX12_1 rfl rfl h0 5 dX12_days_2 rfl ?_
  refine go_nmM (fun M1 => ?_)
  refine go_aload_n 0 6 dX12_days_5 rfl rfl ?_
  refine go_cVV0 2 clX12 cwX12_208 (m_X12_cutAll w o0 h0 M1) h0 9 dX12_days_6 rfl ⟨Nat.le_of_ble_eq_true rfl, Nat.le_of_ble_eq_true rfl⟩ ⟨Nat.zero_le _, Nat.zero_le _⟩ (Nat.le_of_ble_eq_true rfl) (fun M2 _ => ?_)
  refine go_iconst 0 10 dX12_days_9 rfl (by decide) ?_
  refine go_istore_n [(1, .int 0), (0, .ref (gB G + o0))] 11 dX12_days_10 rfl rfl (by decide) rfl ?_
  exact go_lv [1, 0] rfl (s_X12_days_11 w w o0 h0 0 M2)
theorem m_X12_days {l : Launch} {G : mG} {sk : List mS} (w : Nat) (o0 : Nat) (h0 : isK o0 22) (M : mM) : Mt l G sk yX12_days muX12_days 4 [.ref (gB G + o0)] M eI (f_X12_days w o0 M) := Mt.of (by decide) rfl (Nat.le_of_ble_eq_true rfl) (s_X12_days w o0 h0 M)
theorem dX12_both_0 : decode cX12_both 0 = .ok (.iload_n 0, 1) := by decide +kernel
theorem dX12_both_1 : decode cX12_both 1 = .ok (.tableswitch 87 4 9 #[39, 43, 47, 51, 62, 73], 39) := by decide +kernel
theorem dX12_both_40 : decode cX12_both 40 = .ok (.iload_n 1, 1) := by decide +kernel
theorem dX12_both_41 : decode cX12_both 41 = .ok (.iload_n 2, 1) := by decide +kernel
theorem dX12_both_42 : decode cX12_both 42 = .ok (.iadd, 1) := by decide +kernel
theorem dX12_both_43 : decode cX12_both 43 = .ok (.ireturn, 1) := by decide +kernel
theorem dX12_both_44 : decode cX12_both 44 = .ok (.iload_n 1, 1) := by decide +kernel
theorem dX12_both_45 : decode cX12_both 45 = .ok (.iload_n 2, 1) := by decide +kernel
theorem dX12_both_46 : decode cX12_both 46 = .ok (.isub, 1) := by decide +kernel
theorem dX12_both_47 : decode cX12_both 47 = .ok (.ireturn, 1) := by decide +kernel
theorem dX12_both_48 : decode cX12_both 48 = .ok (.iload_n 1, 1) := by decide +kernel
theorem dX12_both_49 : decode cX12_both 49 = .ok (.iload_n 2, 1) := by decide +kernel
theorem dX12_both_50 : decode cX12_both 50 = .ok (.imul, 1) := by decide +kernel
theorem dX12_both_51 : decode cX12_both 51 = .ok (.ireturn, 1) := by decide +kernel
theorem dX12_both_52 : decode cX12_both 52 = .ok (.iload_n 1, 1) := by decide +kernel
theorem dX12_both_53 : decode cX12_both 53 = .ok (.iload_n 2, 1) := by decide +kernel
theorem dX12_both_54 : decode cX12_both 54 = .ok (.if_icmp .ge 7, 3) := by decide +kernel
theorem dX12_both_57 : decode cX12_both 57 = .ok (.iconst 1, 1) := by decide +kernel
theorem dX12_both_58 : decode cX12_both 58 = .ok (.goto 4, 3) := by decide +kernel
theorem dX12_both_61 : decode cX12_both 61 = .ok (.iconst 0, 1) := by decide +kernel
theorem dX12_both_62 : decode cX12_both 62 = .ok (.ireturn, 1) := by decide +kernel
theorem dX12_both_63 : decode cX12_both 63 = .ok (.iload_n 1, 1) := by decide +kernel
theorem dX12_both_64 : decode cX12_both 64 = .ok (.iload_n 2, 1) := by decide +kernel
theorem dX12_both_65 : decode cX12_both 65 = .ok (.if_icmp .ne 7, 3) := by decide +kernel
theorem dX12_both_68 : decode cX12_both 68 = .ok (.iconst 1, 1) := by decide +kernel
theorem dX12_both_69 : decode cX12_both 69 = .ok (.goto 4, 3) := by decide +kernel
theorem dX12_both_72 : decode cX12_both 72 = .ok (.iconst 0, 1) := by decide +kernel
theorem dX12_both_73 : decode cX12_both 73 = .ok (.ireturn, 1) := by decide +kernel
theorem dX12_both_74 : decode cX12_both 74 = .ok (.iload_n 1, 1) := by decide +kernel
theorem dX12_both_75 : decode cX12_both 75 = .ok (.ifCond .eq 11, 3) := by decide +kernel
theorem dX12_both_78 : decode cX12_both 78 = .ok (.iload_n 2, 1) := by decide +kernel
theorem dX12_both_79 : decode cX12_both 79 = .ok (.ifCond .eq 7, 3) := by decide +kernel
theorem dX12_both_82 : decode cX12_both 82 = .ok (.iconst 1, 1) := by decide +kernel
theorem dX12_both_83 : decode cX12_both 83 = .ok (.goto 4, 3) := by decide +kernel
theorem dX12_both_86 : decode cX12_both 86 = .ok (.iconst 0, 1) := by decide +kernel
theorem dX12_both_87 : decode cX12_both 87 = .ok (.ireturn, 1) := by decide +kernel
theorem dX12_both_88 : decode cX12_both 88 = .ok (.iload_n 1, 1) := by decide +kernel
theorem dX12_both_89 : decode cX12_both 89 = .ok (.ifCond .ne 7, 3) := by decide +kernel
theorem dX12_both_92 : decode cX12_both 92 = .ok (.iload_n 2, 1) := by decide +kernel
theorem dX12_both_93 : decode cX12_both 93 = .ok (.ifCond .eq 7, 3) := by decide +kernel
theorem dX12_both_96 : decode cX12_both 96 = .ok (.iconst 1, 1) := by decide +kernel
theorem dX12_both_97 : decode cX12_both 97 = .ok (.goto 4, 3) := by decide +kernel
theorem dX12_both_100 : decode cX12_both 100 = .ok (.iconst 0, 1) := by decide +kernel
theorem dX12_both_101 : decode cX12_both 101 = .ok (.ireturn, 1) := by decide +kernel
def f_X12_both_96 (w : Nat) (M : mM) : Option (Int32 × mM) := some (1, M)
set_option maxHeartbeats 4000000 in
set_option maxRecDepth 100000 in
theorem s_X12_both_96 {l : Launch} {G : mG} {sk : List mS} (w : Nat) (M : mM) : Go muX12_both (rm 0) 0 0 l G sk (mFin G sk eI) (f_X12_both_96 w M) 96 [] [] M := by
  unfold f_X12_both_96
  refine go_iconst 1 97 dX12_both_96 rfl (by decide) ?_
  refine go_goto 101 dX12_both_97 (by decide) ?_
  exact go_iret rfl dX12_both_101
def f_X12_both (w : Nat) (x0 : Int32) (x1 : Int32) (x2 : Int32) (M : mM) : Option (Int32 × mM) := (if x0.toInt < 4 ∨ 9 < x0.toInt then (if x1 = 0 then (if x2 = 0 then some (0, M) else (f_X12_both_96 w M)) else (f_X12_both_96 w M)) else (fun z : Int => if z = 4 then some ((x1 + x2), M) else if z = 5 then some ((x1 - x2), M) else if z = 6 then some ((x1 * x2), M) else if z = 7 then (if x2 ≤ x1 then some (0, M) else some (1, M)) else if z = 8 then (if x1 = x2 then some (1, M) else some (0, M)) else (if x1 = 0 then some (0, M) else (if x2 = 0 then some (0, M) else some (1, M)))) x0.toInt)
set_option maxHeartbeats 4000000 in
set_option maxRecDepth 100000 in
theorem s_X12_both {l : Launch} {G : mG} {sk : List mS} (w : Nat) (x0 : Int32) (x1 : Int32) (x2 : Int32) (M : mM) : Go muX12_both (rm 0) 0 0 l G sk (mFin G sk eI) (f_X12_both w x0 x1 x2 M) 0 [(0, .int x0), (1, .int x1), (2, .int x2)] [] M := by
  unfold f_X12_both
  refine go_iload_n 0 1 dX12_both_0 rfl rfl ?_
  refine go_tsw (dflt := 87) (lo := 4) (hi := 9) (offs := #[39, 43, 47, 51, 62, 73]) (len := 39) ?_ (fun z : Int => if z = 4 then some ((x1 + x2), M) else if z = 5 then some ((x1 - x2), M) else if z = 6 then some ((x1 * x2), M) else if z = 7 then (if x2 ≤ x1 then some (0, M) else some (1, M)) else if z = 8 then (if x1 = x2 then some (1, M) else some (0, M)) else (if x1 = 0 then some (0, M) else (if x2 = 0 then some (0, M) else some (1, M)))) ((if x1 = 0 then (if x2 = 0 then some (0, M) else (f_X12_both_96 w M)) else (f_X12_both_96 w M))) 88 (by decide) (fun _ => ?_) (fun g1 g2 => ?_)
  · exact dX12_both_1
  · refine go_iload_n 1 89 dX12_both_88 rfl rfl ?_
    refine go_if_ne 96 92 dX12_both_89 rfl (by decide) (fun _ => ?_) (fun _ => ?_)
    · exact go_lv [] rfl (s_X12_both_96 w M)
    · refine go_iload_n 2 93 dX12_both_92 rfl rfl ?_
      refine go_if_eq 100 96 dX12_both_93 rfl (by decide) (fun _ => ?_) (fun _ => ?_)
      · refine go_iconst 0 101 dX12_both_100 rfl (by decide) ?_
        exact go_iret rfl dX12_both_101
      · exact go_lv [] rfl (s_X12_both_96 w M)
  · rcases (show x0.toInt = 4 ∨ x0.toInt = 5 ∨ x0.toInt = 6 ∨ x0.toInt = 7 ∨ x0.toInt = 8 ∨ x0.toInt = 9 by omega) with g | g | g | g | g | g
    · refine ⟨39, 40, by rw [g]; rfl, by decide, ?_⟩
      rw [g]
      simp only [if_pos, reduceIte, Int.reduceEq, Int.reduceNeg]
      refine go_iload_n 1 41 dX12_both_40 rfl rfl ?_
      refine go_iload_n 2 42 dX12_both_41 rfl rfl ?_
      refine go_iadd 43 dX12_both_42 rfl ?_
      exact go_iret rfl dX12_both_43
    · refine ⟨43, 44, by rw [g]; rfl, by decide, ?_⟩
      rw [g]
      simp only [if_pos, reduceIte, Int.reduceEq, Int.reduceNeg]
      refine go_iload_n 1 45 dX12_both_44 rfl rfl ?_
      refine go_iload_n 2 46 dX12_both_45 rfl rfl ?_
      refine go_isub 47 dX12_both_46 rfl ?_
      exact go_iret rfl dX12_both_47
    · refine ⟨47, 48, by rw [g]; rfl, by decide, ?_⟩
      rw [g]
      simp only [if_pos, reduceIte, Int.reduceEq, Int.reduceNeg]
      refine go_iload_n 1 49 dX12_both_48 rfl rfl ?_
      refine go_iload_n 2 50 dX12_both_49 rfl rfl ?_
      refine go_imul 51 dX12_both_50 rfl ?_
      exact go_iret rfl dX12_both_51
    · refine ⟨51, 52, by rw [g]; rfl, by decide, ?_⟩
      rw [g]
      simp only [if_pos, reduceIte, Int.reduceEq, Int.reduceNeg]
      refine go_iload_n 1 53 dX12_both_52 rfl rfl ?_
      refine go_iload_n 2 54 dX12_both_53 rfl rfl ?_
      refine go_icmp_ge 61 57 dX12_both_54 rfl (by decide) (fun _ => ?_) (fun _ => ?_)
      · refine go_iconst 0 62 dX12_both_61 rfl (by decide) ?_
        exact go_iret rfl dX12_both_62
      · refine go_iconst 1 58 dX12_both_57 rfl (by decide) ?_
        refine go_goto 62 dX12_both_58 (by decide) ?_
        exact go_iret rfl dX12_both_62
    · refine ⟨62, 63, by rw [g]; rfl, by decide, ?_⟩
      rw [g]
      simp only [if_pos, reduceIte, Int.reduceEq, Int.reduceNeg]
      refine go_iload_n 1 64 dX12_both_63 rfl rfl ?_
      refine go_iload_n 2 65 dX12_both_64 rfl rfl ?_
      refine go_icmp_ne 72 68 dX12_both_65 rfl (by decide) (fun _ => ?_) (fun _ => ?_)
      · refine go_iconst 0 73 dX12_both_72 rfl (by decide) ?_
        exact go_iret rfl dX12_both_73
      · refine go_iconst 1 69 dX12_both_68 rfl (by decide) ?_
        refine go_goto 73 dX12_both_69 (by decide) ?_
        exact go_iret rfl dX12_both_73
    · refine ⟨73, 74, by rw [g]; rfl, by decide, ?_⟩
      rw [g]
      simp only [if_pos, reduceIte, Int.reduceEq, Int.reduceNeg]
      refine go_iload_n 1 75 dX12_both_74 rfl rfl ?_
      refine go_if_eq 86 78 dX12_both_75 rfl (by decide) (fun _ => ?_) (fun _ => ?_)
      · refine go_iconst 0 87 dX12_both_86 rfl (by decide) ?_
        exact go_iret rfl dX12_both_87
      · refine go_iload_n 2 79 dX12_both_78 rfl rfl ?_
        refine go_if_eq 86 82 dX12_both_79 rfl (by decide) (fun _ => ?_) (fun _ => ?_)
        · refine go_iconst 0 87 dX12_both_86 rfl (by decide) ?_
          exact go_iret rfl dX12_both_87
        · refine go_iconst 1 83 dX12_both_82 rfl (by decide) ?_
          refine go_goto 87 dX12_both_83 (by decide) ?_
          exact go_iret rfl dX12_both_87
theorem m_X12_both {l : Launch} {G : mG} {sk : List mS} (w : Nat) (x0 : Int32) (x1 : Int32) (x2 : Int32) (M : mM) : Mt l G sk yX12_both muX12_both 0 [.int x0, .int x1, .int x2] M eI (f_X12_both w x0 x1 x2 M) := Mt.of (by decide) rfl (Nat.le_of_ble_eq_true rfl) (s_X12_both w x0 x1 x2 M)
theorem dX12_worthAt_0 : decode cX12_worthAt 0 = .ok (.iconst 0, 1) := by decide +kernel
theorem dX12_worthAt_1 : decode cX12_worthAt 1 = .ok (.istore_n 2, 1) := by decide +kernel
theorem dX12_worthAt_2 : decode cX12_worthAt 2 = .ok (.iload_n 1, 1) := by decide +kernel
theorem dX12_worthAt_3 : decode cX12_worthAt 3 = .ok (.istore_n 3, 1) := by decide +kernel
theorem dX12_worthAt_4 : decode cX12_worthAt 4 = .ok (.aload_n 0, 1) := by decide +kernel
theorem dX12_worthAt_5 : decode cX12_worthAt 5 = .ok (.getfield 86, 3) := by decide +kernel
theorem dX12_worthAt_8 : decode cX12_worthAt 8 = .ok (.iload_n 3, 1) := by decide +kernel
theorem dX12_worthAt_9 : decode cX12_worthAt 9 = .ok (.iaload, 1) := by decide +kernel
theorem dX12_worthAt_10 : decode cX12_worthAt 10 = .ok (.ifCond .eq 130, 3) := by decide +kernel
theorem dX12_worthAt_13 : decode cX12_worthAt 13 = .ok (.aload_n 0, 1) := by decide +kernel
theorem dX12_worthAt_14 : decode cX12_worthAt 14 = .ok (.getfield 86, 3) := by decide +kernel
theorem dX12_worthAt_17 : decode cX12_worthAt 17 = .ok (.iload_n 3, 1) := by decide +kernel
theorem dX12_worthAt_18 : decode cX12_worthAt 18 = .ok (.iaload, 1) := by decide +kernel
theorem dX12_worthAt_19 : decode cX12_worthAt 19 = .ok (.istore 4, 2) := by decide +kernel
theorem dX12_worthAt_21 : decode cX12_worthAt 21 = .ok (.iload 4, 2) := by decide +kernel
theorem dX12_worthAt_23 : decode cX12_worthAt 23 = .ok (.iconst 1, 1) := by decide +kernel
theorem dX12_worthAt_24 : decode cX12_worthAt 24 = .ok (.if_icmp .eq 9, 3) := by decide +kernel
theorem dX12_worthAt_27 : decode cX12_worthAt 27 = .ok (.iload 4, 2) := by decide +kernel
theorem dX12_worthAt_29 : decode cX12_worthAt 29 = .ok (.iconst 2, 1) := by decide +kernel
theorem dX12_worthAt_30 : decode cX12_worthAt 30 = .ok (.if_icmp .ne 41, 3) := by decide +kernel
theorem dX12_worthAt_33 : decode cX12_worthAt 33 = .ok (.aload_n 0, 1) := by decide +kernel
theorem dX12_worthAt_34 : decode cX12_worthAt 34 = .ok (.getfield 110, 3) := by decide +kernel
theorem dX12_worthAt_37 : decode cX12_worthAt 37 = .ok (.iload_n 2, 1) := by decide +kernel
theorem dX12_worthAt_38 : decode cX12_worthAt 38 = .ok (.iload 4, 2) := by decide +kernel
theorem dX12_worthAt_40 : decode cX12_worthAt 40 = .ok (.iconst 1, 1) := by decide +kernel
theorem dX12_worthAt_41 : decode cX12_worthAt 41 = .ok (.if_icmp .ne 12, 3) := by decide +kernel
theorem dX12_worthAt_44 : decode cX12_worthAt 44 = .ok (.aload_n 0, 1) := by decide +kernel
theorem dX12_worthAt_45 : decode cX12_worthAt 45 = .ok (.getfield 89, 3) := by decide +kernel
theorem dX12_worthAt_48 : decode cX12_worthAt 48 = .ok (.iload_n 3, 1) := by decide +kernel
theorem dX12_worthAt_49 : decode cX12_worthAt 49 = .ok (.iaload, 1) := by decide +kernel
theorem dX12_worthAt_50 : decode cX12_worthAt 50 = .ok (.goto 14, 3) := by decide +kernel
theorem dX12_worthAt_53 : decode cX12_worthAt 53 = .ok (.aload_n 0, 1) := by decide +kernel
theorem dX12_worthAt_54 : decode cX12_worthAt 54 = .ok (.getfield 107, 3) := by decide +kernel
theorem dX12_worthAt_57 : decode cX12_worthAt 57 = .ok (.aload_n 0, 1) := by decide +kernel
theorem dX12_worthAt_58 : decode cX12_worthAt 58 = .ok (.getfield 89, 3) := by decide +kernel
theorem dX12_worthAt_61 : decode cX12_worthAt 61 = .ok (.iload_n 3, 1) := by decide +kernel
theorem dX12_worthAt_62 : decode cX12_worthAt 62 = .ok (.iaload, 1) := by decide +kernel
theorem dX12_worthAt_63 : decode cX12_worthAt 63 = .ok (.iaload, 1) := by decide +kernel
theorem dX12_worthAt_64 : decode cX12_worthAt 64 = .ok (.iastore, 1) := by decide +kernel
theorem dX12_worthAt_65 : decode cX12_worthAt 65 = .ok (.iinc 2 1, 3) := by decide +kernel
theorem dX12_worthAt_68 : decode cX12_worthAt 68 = .ok (.goto 66, 3) := by decide +kernel
theorem dX12_worthAt_71 : decode cX12_worthAt 71 = .ok (.iload 4, 2) := by decide +kernel
theorem dX12_worthAt_73 : decode cX12_worthAt 73 = .ok (.iconst 3, 1) := by decide +kernel
theorem dX12_worthAt_74 : decode cX12_worthAt 74 = .ok (.if_icmp .ne 30, 3) := by decide +kernel
theorem dX12_worthAt_77 : decode cX12_worthAt 77 = .ok (.aload_n 0, 1) := by decide +kernel
theorem dX12_worthAt_78 : decode cX12_worthAt 78 = .ok (.getfield 110, 3) := by decide +kernel
theorem dX12_worthAt_81 : decode cX12_worthAt 81 = .ok (.iload_n 2, 1) := by decide +kernel
theorem dX12_worthAt_82 : decode cX12_worthAt 82 = .ok (.iconst 1, 1) := by decide +kernel
theorem dX12_worthAt_83 : decode cX12_worthAt 83 = .ok (.isub, 1) := by decide +kernel
theorem dX12_worthAt_84 : decode cX12_worthAt 84 = .ok (.aload_n 0, 1) := by decide +kernel
theorem dX12_worthAt_85 : decode cX12_worthAt 85 = .ok (.getfield 110, 3) := by decide +kernel
theorem dX12_worthAt_88 : decode cX12_worthAt 88 = .ok (.iload_n 2, 1) := by decide +kernel
theorem dX12_worthAt_89 : decode cX12_worthAt 89 = .ok (.iconst 1, 1) := by decide +kernel
theorem dX12_worthAt_90 : decode cX12_worthAt 90 = .ok (.isub, 1) := by decide +kernel
theorem dX12_worthAt_91 : decode cX12_worthAt 91 = .ok (.iaload, 1) := by decide +kernel
theorem dX12_worthAt_92 : decode cX12_worthAt 92 = .ok (.ifCond .ne 7, 3) := by decide +kernel
theorem dX12_worthAt_95 : decode cX12_worthAt 95 = .ok (.iconst 1, 1) := by decide +kernel
theorem dX12_worthAt_96 : decode cX12_worthAt 96 = .ok (.goto 4, 3) := by decide +kernel
theorem dX12_worthAt_99 : decode cX12_worthAt 99 = .ok (.iconst 0, 1) := by decide +kernel
theorem dX12_worthAt_100 : decode cX12_worthAt 100 = .ok (.iastore, 1) := by decide +kernel
theorem dX12_worthAt_101 : decode cX12_worthAt 101 = .ok (.goto 33, 3) := by decide +kernel
theorem dX12_worthAt_104 : decode cX12_worthAt 104 = .ok (.iinc 2 (-1), 3) := by decide +kernel
theorem dX12_worthAt_107 : decode cX12_worthAt 107 = .ok (.aload_n 0, 1) := by decide +kernel
theorem dX12_worthAt_108 : decode cX12_worthAt 108 = .ok (.getfield 110, 3) := by decide +kernel
theorem dX12_worthAt_111 : decode cX12_worthAt 111 = .ok (.iload_n 2, 1) := by decide +kernel
theorem dX12_worthAt_112 : decode cX12_worthAt 112 = .ok (.iconst 1, 1) := by decide +kernel
theorem dX12_worthAt_113 : decode cX12_worthAt 113 = .ok (.isub, 1) := by decide +kernel
theorem dX12_worthAt_114 : decode cX12_worthAt 114 = .ok (.iload 4, 2) := by decide +kernel
theorem dX12_worthAt_116 : decode cX12_worthAt 116 = .ok (.aload_n 0, 1) := by decide +kernel
theorem dX12_worthAt_117 : decode cX12_worthAt 117 = .ok (.getfield 110, 3) := by decide +kernel
theorem dX12_worthAt_120 : decode cX12_worthAt 120 = .ok (.iload_n 2, 1) := by decide +kernel
theorem dX12_worthAt_121 : decode cX12_worthAt 121 = .ok (.iconst 1, 1) := by decide +kernel
theorem dX12_worthAt_122 : decode cX12_worthAt 122 = .ok (.isub, 1) := by decide +kernel
theorem dX12_worthAt_123 : decode cX12_worthAt 123 = .ok (.iaload, 1) := by decide +kernel
theorem dX12_worthAt_124 : decode cX12_worthAt 124 = .ok (.aload_n 0, 1) := by decide +kernel
theorem dX12_worthAt_125 : decode cX12_worthAt 125 = .ok (.getfield 110, 3) := by decide +kernel
theorem dX12_worthAt_128 : decode cX12_worthAt 128 = .ok (.iload_n 2, 1) := by decide +kernel
theorem dX12_worthAt_129 : decode cX12_worthAt 129 = .ok (.iaload, 1) := by decide +kernel
theorem dX12_worthAt_130 : decode cX12_worthAt 130 = .ok (.invokestatic 269, 3) := by decide +kernel
theorem dX12_worthAt_133 : decode cX12_worthAt 133 = .ok (.iastore, 1) := by decide +kernel
theorem dX12_worthAt_134 : decode cX12_worthAt 134 = .ok (.iinc 3 1, 3) := by decide +kernel
theorem dX12_worthAt_137 : decode cX12_worthAt 137 = .ok (.goto (-133), 3) := by decide +kernel
theorem dX12_worthAt_140 : decode cX12_worthAt 140 = .ok (.aload_n 0, 1) := by decide +kernel
theorem dX12_worthAt_141 : decode cX12_worthAt 141 = .ok (.getfield 110, 3) := by decide +kernel
theorem dX12_worthAt_144 : decode cX12_worthAt 144 = .ok (.iconst 0, 1) := by decide +kernel
theorem dX12_worthAt_145 : decode cX12_worthAt 145 = .ok (.iaload, 1) := by decide +kernel
theorem dX12_worthAt_146 : decode cX12_worthAt 146 = .ok (.ireturn, 1) := by decide +kernel
def f_X12_worthAt_64 (w : Nat) (k4 : Nat → Int32 → Int32 → mM → Option (Int32 × mM)) (o0 : Nat) (x2 : Int32) (x3 : Int32) (xs0 : Int32) (xs1 : Int32) (os2 : Nat) (M : mM) : Option (Int32 × mM) := chk xs1 (sL os2) (lt (wI M os2 xs1.toNatClampNeg xs0) fun M1 => (k4 o0 (x2 + 1) (x3 + 1) M1))
set_option maxHeartbeats 4000000 in
set_option maxRecDepth 100000 in
theorem s_X12_worthAt_64 {l : Launch} {G : mG} {sk : List mS} (w : Nat) (k4 : Nat → Int32 → Int32 → mM → Option (Int32 × mM)) (hk4 : ∀ (o0 : Nat) (h0 : isK o0 22) (x2 : Int32) (x3 : Int32) (M : mM), Go muX12_worthAt (rm 1) 0 0 l G sk (mFin G sk eI) (k4 o0 x2 x3 M) 4 [(0, .ref (gB G + o0)), (2, .int x2), (3, .int x3)] [] M) (o0 : Nat) (h0 : isK o0 22) (x2 : Int32) (x3 : Int32) (xs0 : Int32) (xs1 : Int32) (os2 : Nat) (hs2 : isK os2 0) (M : mM) : Go muX12_worthAt (rm 1) 0 0 l G sk (mFin G sk eI) (f_X12_worthAt_64 w k4 o0 x2 x3 xs0 xs1 os2 M) 64 [(0, .ref (gB G + o0)), (2, .int x2), (3, .int x3)] [.int xs0, .int xs1, .ref (gB G + os2)] M := by
  unfold f_X12_worthAt_64
  refine go_iast hs2 65 dX12_worthAt_64 rfl ?_
  refine go_nmM (fun M1 => ?_)
  refine go_iinc (x2 + 1) 1 [(2, .int (x2 + 1)), (0, .ref (gB G + o0)), (3, .int x3)] 68 dX12_worthAt_65 rfl rfl rfl (by decide) rfl ?_
  refine go_goto 134 dX12_worthAt_68 (by decide) ?_
  refine go_iinc (x3 + 1) 2 [(3, .int (x3 + 1)), (2, .int (x2 + 1)), (0, .ref (gB G + o0))] 137 dX12_worthAt_134 rfl rfl rfl (by decide) rfl ?_
  refine go_goto 4 dX12_worthAt_137 (by decide) ?_
  exact go_lv [2, 1, 0] rfl (hk4 o0 h0 (x2 + 1) (x3 + 1) M1)
def f_X12_worthAt_33 (w : Nat) (k4 : Nat → Int32 → Int32 → mM → Option (Int32 × mM)) (o0 : Nat) (x2 : Int32) (x3 : Int32) (x4 : Int32) (M : mM) : Option (Int32 × mM) := (if x4 = 1 then chk x3 (sL (rF o0 12)) ((f_X12_worthAt_64 w k4 o0 x2 x3 (M.1 (rF o0 12) x3.toNatClampNeg) x2 (rF o0 23) M)) else chk x3 (sL (rF o0 12)) (chk (M.1 (rF o0 12) x3.toNatClampNeg) (sL (rF o0 22)) ((f_X12_worthAt_64 w k4 o0 x2 x3 (M.1 (rF o0 22) (M.1 (rF o0 12) x3.toNatClampNeg).toNatClampNeg) x2 (rF o0 23) M))))
set_option maxHeartbeats 4000000 in
set_option maxRecDepth 100000 in
theorem s_X12_worthAt_33 {l : Launch} {G : mG} {sk : List mS} (w : Nat) (k4 : Nat → Int32 → Int32 → mM → Option (Int32 × mM)) (hk4 : ∀ (o0 : Nat) (h0 : isK o0 22) (x2 : Int32) (x3 : Int32) (M : mM), Go muX12_worthAt (rm 1) 0 0 l G sk (mFin G sk eI) (k4 o0 x2 x3 M) 4 [(0, .ref (gB G + o0)), (2, .int x2), (3, .int x3)] [] M) (o0 : Nat) (h0 : isK o0 22) (x2 : Int32) (x3 : Int32) (x4 : Int32) (M : mM) : Go muX12_worthAt (rm 1) 0 0 l G sk (mFin G sk eI) (f_X12_worthAt_33 w k4 o0 x2 x3 x4 M) 33 [(0, .ref (gB G + o0)), (2, .int x2), (3, .int x3), (4, .int x4)] [] M := by
  unfold f_X12_worthAt_33
  refine go_aload_n 0 34 dX12_worthAt_33 rfl rfl ?_
  refine go_getR flX12_110 h0 37 dX12_worthAt_34 rfl ?_
  refine go_iload_n 1 38 dX12_worthAt_37 rfl rfl ?_
  refine go_iload 3 40 dX12_worthAt_38 rfl rfl ?_
  refine go_iconst 1 41 dX12_worthAt_40 rfl (by decide) ?_
  refine go_icmp_ne 53 44 dX12_worthAt_41 rfl (by decide) (fun _ => ?_) (fun _ => ?_)
  · refine go_aload_n 0 54 dX12_worthAt_53 rfl rfl ?_
    refine go_getR flX12_107 h0 57 dX12_worthAt_54 rfl ?_
    refine go_aload_n 0 58 dX12_worthAt_57 rfl rfl ?_
    refine go_getR flX12_89 h0 61 dX12_worthAt_58 rfl ?_
    refine go_iload_n 2 62 dX12_worthAt_61 rfl rfl ?_
    refine go_iald (rk12_12 h0) 63 dX12_worthAt_62 rfl ?_
    refine go_iald (rk12_22 h0) 64 dX12_worthAt_63 rfl ?_
    exact go_lv [0, 1, 2] rfl (s_X12_worthAt_64 w k4 hk4 o0 h0 x2 x3 (M.1 (rF o0 22) (M.1 (rF o0 12) x3.toNatClampNeg).toNatClampNeg) x2 (rF o0 23) (rk12_23 h0) M)
  · refine go_aload_n 0 45 dX12_worthAt_44 rfl rfl ?_
    refine go_getR flX12_89 h0 48 dX12_worthAt_45 rfl ?_
    refine go_iload_n 2 49 dX12_worthAt_48 rfl rfl ?_
    refine go_iald (rk12_12 h0) 50 dX12_worthAt_49 rfl ?_
    refine go_goto 64 dX12_worthAt_50 (by decide) ?_
    exact go_lv [0, 1, 2] rfl (s_X12_worthAt_64 w k4 hk4 o0 h0 x2 x3 (M.1 (rF o0 12) x3.toNatClampNeg) x2 (rF o0 23) (rk12_23 h0) M)
def f_X12_worthAt_100 (w : Nat) (k4 : Nat → Int32 → Int32 → mM → Option (Int32 × mM)) (o0 : Nat) (x2 : Int32) (x3 : Int32) (xs0 : Int32) (xs1 : Int32) (os2 : Nat) (M : mM) : Option (Int32 × mM) := chk xs1 (sL os2) (lt (wI M os2 xs1.toNatClampNeg xs0) fun M1 => (k4 o0 x2 (x3 + 1) M1))
set_option maxHeartbeats 4000000 in
set_option maxRecDepth 100000 in
theorem s_X12_worthAt_100 {l : Launch} {G : mG} {sk : List mS} (w : Nat) (k4 : Nat → Int32 → Int32 → mM → Option (Int32 × mM)) (hk4 : ∀ (o0 : Nat) (h0 : isK o0 22) (x2 : Int32) (x3 : Int32) (M : mM), Go muX12_worthAt (rm 1) 0 0 l G sk (mFin G sk eI) (k4 o0 x2 x3 M) 4 [(0, .ref (gB G + o0)), (2, .int x2), (3, .int x3)] [] M) (o0 : Nat) (h0 : isK o0 22) (x2 : Int32) (x3 : Int32) (xs0 : Int32) (xs1 : Int32) (os2 : Nat) (hs2 : isK os2 0) (M : mM) : Go muX12_worthAt (rm 1) 0 0 l G sk (mFin G sk eI) (f_X12_worthAt_100 w k4 o0 x2 x3 xs0 xs1 os2 M) 100 [(0, .ref (gB G + o0)), (2, .int x2), (3, .int x3)] [.int xs0, .int xs1, .ref (gB G + os2)] M := by
  unfold f_X12_worthAt_100
  refine go_iast hs2 101 dX12_worthAt_100 rfl ?_
  refine go_nmM (fun M1 => ?_)
  refine go_goto 134 dX12_worthAt_101 (by decide) ?_
  refine go_iinc (x3 + 1) 2 [(3, .int (x3 + 1)), (0, .ref (gB G + o0)), (2, .int x2)] 137 dX12_worthAt_134 rfl rfl rfl (by decide) rfl ?_
  refine go_goto 4 dX12_worthAt_137 (by decide) ?_
  exact go_lv [1, 2, 0] rfl (hk4 o0 h0 x2 (x3 + 1) M1)
def f_X12_worthAt_4 (w : Nat) : Nat → Nat → Int32 → Int32 → mM → Option (Int32 × mM)
  | 0, _, _, _, _ => none
  | n + 1, o0, x2, x3, M => chk x3 (sL (rF o0 11)) ((if (M.1 (rF o0 11) x3.toNatClampNeg) = 0 then chk 0 (sL (rF o0 23)) (some ((M.1 (rF o0 23) (0 : Int32).toNatClampNeg), M)) else chk x3 (sL (rF o0 11)) (lt (M.1 (rF o0 11) x3.toNatClampNeg) fun y1 => (if y1 = 1 then (f_X12_worthAt_33 w (f_X12_worthAt_4 w n) o0 x2 x3 y1 M) else (if y1 = 2 then (f_X12_worthAt_33 w (f_X12_worthAt_4 w n) o0 x2 x3 y1 M) else (if y1 = 3 then chk (x2 - 1) (sL (rF o0 23)) ((if (M.1 (rF o0 23) (x2 - 1).toNatClampNeg) = 0 then (f_X12_worthAt_100 w (f_X12_worthAt_4 w n) o0 x2 x3 1 (x2 - 1) (rF o0 23) M) else (f_X12_worthAt_100 w (f_X12_worthAt_4 w n) o0 x2 x3 0 (x2 - 1) (rF o0 23) M))) else chk ((x2 + (-1)) - 1) (sL (rF o0 23)) (chk (x2 + (-1)) (sL (rF o0 23)) (bI (f_X12_both w y1 (M.1 (rF o0 23) ((x2 + (-1)) - 1).toNatClampNeg) (M.1 (rF o0 23) (x2 + (-1)).toNatClampNeg) M) fun q3 M2 => chk ((x2 + (-1)) - 1) (sL (rF o0 23)) (lt (wI M2 (rF o0 23) ((x2 + (-1)) - 1).toNatClampNeg q3) fun M4 => (f_X12_worthAt_4 w n o0 (x2 + (-1)) (x3 + 1) M4))))))))))
set_option maxHeartbeats 4000000 in
set_option maxRecDepth 100000 in
theorem s_X12_worthAt_4 {l : Launch} {G : mG} {sk : List mS} (w : Nat) : ∀ (n : Nat) (o0 : Nat) (h0 : isK o0 22) (x2 : Int32) (x3 : Int32) (M : mM), Go muX12_worthAt (rm 1) 0 0 l G sk (mFin G sk eI) (f_X12_worthAt_4 w n o0 x2 x3 M) 4 [(0, .ref (gB G + o0)), (2, .int x2), (3, .int x3)] [] M := by
  intro n
  induction n with
  | zero =>
    intros
    exact go_none
  | succ n ih =>
    intro o0 h0 x2 x3 M
    rw [f_X12_worthAt_4]
    refine go_aload_n 0 5 dX12_worthAt_4 rfl rfl ?_
    refine go_getR flX12_86 h0 8 dX12_worthAt_5 rfl ?_
    refine go_iload_n 2 9 dX12_worthAt_8 rfl rfl ?_
    refine go_iald (rk12_11 h0) 10 dX12_worthAt_9 rfl ?_
    refine go_if_eq 140 13 dX12_worthAt_10 rfl (by decide) (fun _ => ?_) (fun _ => ?_)
    · refine go_aload_n 0 141 dX12_worthAt_140 rfl rfl ?_
      refine go_getR flX12_110 h0 144 dX12_worthAt_141 rfl ?_
      refine go_iconst 0 145 dX12_worthAt_144 rfl (by decide) ?_
      refine go_iald (rk12_23 h0) 146 dX12_worthAt_145 rfl ?_
      exact go_iret rfl dX12_worthAt_146
    · refine go_aload_n 0 14 dX12_worthAt_13 rfl rfl ?_
      refine go_getR flX12_86 h0 17 dX12_worthAt_14 rfl ?_
      refine go_iload_n 2 18 dX12_worthAt_17 rfl rfl ?_
      refine go_iald (rk12_11 h0) 19 dX12_worthAt_18 rfl ?_
      refine go_nmI (fun y1 => ?_)
      refine go_istore [(4, .int y1), (0, .ref (gB G + o0)), (2, .int x2), (3, .int x3)] 21 dX12_worthAt_19 rfl (by decide) rfl ?_
      refine go_iload 0 23 dX12_worthAt_21 rfl rfl ?_
      refine go_iconst 1 24 dX12_worthAt_23 rfl (by decide) ?_
      refine go_icmp_eq 33 27 dX12_worthAt_24 rfl (by decide) (fun _ => ?_) (fun _ => ?_)
      · exact go_lv [1, 2, 3, 0] rfl (s_X12_worthAt_33 w (f_X12_worthAt_4 w n) (fun o0 h0 x2 x3 M => ih o0 h0 x2 x3 M) o0 h0 x2 x3 y1 M)
      · refine go_iload 0 29 dX12_worthAt_27 rfl rfl ?_
        refine go_iconst 2 30 dX12_worthAt_29 rfl (by decide) ?_
        refine go_icmp_ne 71 33 dX12_worthAt_30 rfl (by decide) (fun _ => ?_) (fun _ => ?_)
        · refine go_iload 0 73 dX12_worthAt_71 rfl rfl ?_
          refine go_iconst 3 74 dX12_worthAt_73 rfl (by decide) ?_
          refine go_icmp_ne 104 77 dX12_worthAt_74 rfl (by decide) (fun _ => ?_) (fun _ => ?_)
          · refine go_iinc (x2 + (-1)) 2 [(2, .int (x2 + (-1))), (4, .int y1), (0, .ref (gB G + o0)), (3, .int x3)] 107 dX12_worthAt_104 rfl rfl rfl (by decide) rfl ?_
            refine go_aload_n 2 108 dX12_worthAt_107 rfl rfl ?_
            refine go_getR flX12_110 h0 111 dX12_worthAt_108 rfl ?_
            refine go_iload_n 0 112 dX12_worthAt_111 rfl rfl ?_
            refine go_iconst 1 113 dX12_worthAt_112 rfl (by decide) ?_
            refine go_isub 114 dX12_worthAt_113 rfl ?_
            refine go_iload 1 116 dX12_worthAt_114 rfl rfl ?_
            refine go_aload_n 2 117 dX12_worthAt_116 rfl rfl ?_
            refine go_getR flX12_110 h0 120 dX12_worthAt_117 rfl ?_
            refine go_iload_n 0 121 dX12_worthAt_120 rfl rfl ?_
            refine go_iconst 1 122 dX12_worthAt_121 rfl (by decide) ?_
            refine go_isub 123 dX12_worthAt_122 rfl ?_
            refine go_iald (rk12_23 h0) 124 dX12_worthAt_123 rfl ?_
            refine go_aload_n 2 125 dX12_worthAt_124 rfl rfl ?_
            refine go_getR flX12_110 h0 128 dX12_worthAt_125 rfl ?_
            refine go_iload_n 0 129 dX12_worthAt_128 rfl rfl ?_
            refine go_iald (rk12_23 h0) 130 dX12_worthAt_129 rfl ?_
            refine go_cSI3 0 cwX12_269 (m_X12_both w y1 (M.1 (rF o0 23) ((x2 + (-1)) - 1).toNatClampNeg) (M.1 (rF o0 23) (x2 + (-1)).toNatClampNeg) M) 133 dX12_worthAt_130 rfl ⟨Nat.le_of_ble_eq_true rfl, Nat.le_of_ble_eq_true rfl⟩ ⟨Nat.zero_le _, Nat.zero_le _⟩ (Nat.le_of_ble_eq_true rfl) (fun q3 M2 _ => ?_)
            refine go_iast (rk12_23 h0) 134 dX12_worthAt_133 rfl ?_
            refine go_nmM (fun M4 => ?_)
            refine go_iinc (x3 + 1) 3 [(3, .int (x3 + 1)), (2, .int (x2 + (-1))), (4, .int y1), (0, .ref (gB G + o0))] 137 dX12_worthAt_134 rfl rfl rfl (by decide) rfl ?_
            refine go_goto 4 dX12_worthAt_137 (by decide) ?_
            exact go_lv [3, 1, 0] rfl (ih o0 h0 (x2 + (-1)) (x3 + 1) M4)
          · refine go_aload_n 1 78 dX12_worthAt_77 rfl rfl ?_
            refine go_getR flX12_110 h0 81 dX12_worthAt_78 rfl ?_
            refine go_iload_n 2 82 dX12_worthAt_81 rfl rfl ?_
            refine go_iconst 1 83 dX12_worthAt_82 rfl (by decide) ?_
            refine go_isub 84 dX12_worthAt_83 rfl ?_
            refine go_aload_n 1 85 dX12_worthAt_84 rfl rfl ?_
            refine go_getR flX12_110 h0 88 dX12_worthAt_85 rfl ?_
            refine go_iload_n 2 89 dX12_worthAt_88 rfl rfl ?_
            refine go_iconst 1 90 dX12_worthAt_89 rfl (by decide) ?_
            refine go_isub 91 dX12_worthAt_90 rfl ?_
            refine go_iald (rk12_23 h0) 92 dX12_worthAt_91 rfl ?_
            refine go_if_ne 99 95 dX12_worthAt_92 rfl (by decide) (fun _ => ?_) (fun _ => ?_)
            · refine go_iconst 0 100 dX12_worthAt_99 rfl (by decide) ?_
              exact go_lv [1, 2, 3] rfl (s_X12_worthAt_100 w (f_X12_worthAt_4 w n) (fun o0 h0 x2 x3 M => ih o0 h0 x2 x3 M) o0 h0 x2 x3 0 (x2 - 1) (rF o0 23) (rk12_23 h0) M)
            · refine go_iconst 1 96 dX12_worthAt_95 rfl (by decide) ?_
              refine go_goto 100 dX12_worthAt_96 (by decide) ?_
              exact go_lv [1, 2, 3] rfl (s_X12_worthAt_100 w (f_X12_worthAt_4 w n) (fun o0 h0 x2 x3 M => ih o0 h0 x2 x3 M) o0 h0 x2 x3 1 (x2 - 1) (rF o0 23) (rk12_23 h0) M)
        · exact go_lv [1, 2, 3, 0] rfl (s_X12_worthAt_33 w (f_X12_worthAt_4 w n) (fun o0 h0 x2 x3 M => ih o0 h0 x2 x3 M) o0 h0 x2 x3 y1 M)
def f_X12_worthAt (w : Nat) (o0 : Nat) (x1 : Int32) (M : mM) : Option (Int32 × mM) := (f_X12_worthAt_4 w w o0 0 x1 M)
set_option maxHeartbeats 4000000 in
set_option maxRecDepth 100000 in
theorem s_X12_worthAt {l : Launch} {G : mG} {sk : List mS} (w : Nat) (o0 : Nat) (h0 : isK o0 22) (x1 : Int32) (M : mM) : Go muX12_worthAt (rm 1) 0 0 l G sk (mFin G sk eI) (f_X12_worthAt w o0 x1 M) 0 [(0, .ref (gB G + o0)), (1, .int x1)] [] M := by
  unfold f_X12_worthAt
  refine go_iconst 0 1 dX12_worthAt_0 rfl (by decide) ?_
  refine go_istore_n [(2, .int 0), (0, .ref (gB G + o0)), (1, .int x1)] 2 dX12_worthAt_1 rfl rfl (by decide) rfl ?_
  refine go_iload_n 2 3 dX12_worthAt_2 rfl rfl ?_
  refine go_istore_n [(3, .int x1), (2, .int 0), (0, .ref (gB G + o0)), (1, .int x1)] 4 dX12_worthAt_3 rfl rfl (by decide) rfl ?_
  exact go_lv [2, 1, 0] rfl (s_X12_worthAt_4 w w o0 h0 0 x1 M)
theorem m_X12_worthAt {l : Launch} {G : mG} {sk : List mS} (w : Nat) (o0 : Nat) (h0 : isK o0 22) (x1 : Int32) (M : mM) : Mt l G sk yX12_worthAt muX12_worthAt 1 [.ref (gB G + o0), .int x1] M eI (f_X12_worthAt w o0 x1 M) := Mt.of (by decide) rfl (Nat.le_of_ble_eq_true rfl) (s_X12_worthAt w o0 h0 x1 M)
theorem dX12_copies_0 : decode cX12_copies 0 = .ok (.iconst 0, 1) := by decide +kernel
theorem dX12_copies_1 : decode cX12_copies 1 = .ok (.istore 4, 2) := by decide +kernel
theorem dX12_copies_3 : decode cX12_copies 3 = .ok (.iload 4, 2) := by decide +kernel
theorem dX12_copies_5 : decode cX12_copies 5 = .ok (.iload_n 3, 1) := by decide +kernel
theorem dX12_copies_6 : decode cX12_copies 6 = .ok (.if_icmp .ge 27, 3) := by decide +kernel
theorem dX12_copies_9 : decode cX12_copies 9 = .ok (.aload_n 0, 1) := by decide +kernel
theorem dX12_copies_10 : decode cX12_copies 10 = .ok (.getfield 113, 3) := by decide +kernel
theorem dX12_copies_13 : decode cX12_copies 13 = .ok (.iload_n 2, 1) := by decide +kernel
theorem dX12_copies_14 : decode cX12_copies 14 = .ok (.iload 4, 2) := by decide +kernel
theorem dX12_copies_16 : decode cX12_copies 16 = .ok (.iadd, 1) := by decide +kernel
theorem dX12_copies_17 : decode cX12_copies 17 = .ok (.aload_n 0, 1) := by decide +kernel
theorem dX12_copies_18 : decode cX12_copies 18 = .ok (.getfield 113, 3) := by decide +kernel
theorem dX12_copies_21 : decode cX12_copies 21 = .ok (.iload_n 1, 1) := by decide +kernel
theorem dX12_copies_22 : decode cX12_copies 22 = .ok (.iload 4, 2) := by decide +kernel
theorem dX12_copies_24 : decode cX12_copies 24 = .ok (.iadd, 1) := by decide +kernel
theorem dX12_copies_25 : decode cX12_copies 25 = .ok (.iaload, 1) := by decide +kernel
theorem dX12_copies_26 : decode cX12_copies 26 = .ok (.iastore, 1) := by decide +kernel
theorem dX12_copies_27 : decode cX12_copies 27 = .ok (.iinc 4 1, 3) := by decide +kernel
theorem dX12_copies_30 : decode cX12_copies 30 = .ok (.goto (-27), 3) := by decide +kernel
theorem dX12_copies_33 : decode cX12_copies 33 = .ok (.return_, 1) := by decide +kernel
def f_X12_copies_3 (w : Nat) : Nat → Nat → Int32 → Int32 → Int32 → Int32 → mM → Option mM
  | 0, _, _, _, _, _, _ => none
  | n + 1, o0, x1, x2, x3, x4, M => (if x3 ≤ x4 then some M else chk (x1 + x4) (sL (rF o0 24)) (chk (x2 + x4) (sL (rF o0 24)) (lt (wI M (rF o0 24) (x2 + x4).toNatClampNeg (M.1 (rF o0 24) (x1 + x4).toNatClampNeg)) fun M1 => (f_X12_copies_3 w n o0 x1 x2 x3 (x4 + 1) M1))))
set_option maxHeartbeats 4000000 in
set_option maxRecDepth 100000 in
theorem s_X12_copies_3 {l : Launch} {G : mG} {sk : List mS} (w : Nat) : ∀ (n : Nat) (o0 : Nat) (h0 : isK o0 22) (x1 : Int32) (x2 : Int32) (x3 : Int32) (x4 : Int32) (M : mM), Go muX12_copies (rm 0) 0 0 l G sk (mFin G sk eV) (f_X12_copies_3 w n o0 x1 x2 x3 x4 M) 3 [(0, .ref (gB G + o0)), (1, .int x1), (2, .int x2), (3, .int x3), (4, .int x4)] [] M := by
  intro n
  induction n with
  | zero =>
    intros
    exact go_none
  | succ n ih =>
    intro o0 h0 x1 x2 x3 x4 M
    rw [f_X12_copies_3]
    refine go_iload 4 5 dX12_copies_3 rfl rfl ?_
    refine go_iload_n 3 6 dX12_copies_5 rfl rfl ?_
    refine go_icmp_ge 33 9 dX12_copies_6 rfl (by decide) (fun _ => ?_) (fun _ => ?_)
    · exact go_vret rfl dX12_copies_33
    · refine go_aload_n 0 10 dX12_copies_9 rfl rfl ?_
      refine go_getR flX12_113 h0 13 dX12_copies_10 rfl ?_
      refine go_iload_n 2 14 dX12_copies_13 rfl rfl ?_
      refine go_iload 4 16 dX12_copies_14 rfl rfl ?_
      refine go_iadd 17 dX12_copies_16 rfl ?_
      refine go_aload_n 0 18 dX12_copies_17 rfl rfl ?_
      refine go_getR flX12_113 h0 21 dX12_copies_18 rfl ?_
      refine go_iload_n 1 22 dX12_copies_21 rfl rfl ?_
      refine go_iload 4 24 dX12_copies_22 rfl rfl ?_
      refine go_iadd 25 dX12_copies_24 rfl ?_
      refine go_iald (rk12_24 h0) 26 dX12_copies_25 rfl ?_
      refine go_iast (rk12_24 h0) 27 dX12_copies_26 rfl ?_
      refine go_nmM (fun M1 => ?_)
      refine go_iinc (x4 + 1) 4 [(4, .int (x4 + 1)), (0, .ref (gB G + o0)), (1, .int x1), (2, .int x2), (3, .int x3)] 30 dX12_copies_27 rfl rfl rfl (by decide) rfl ?_
      refine go_goto 3 dX12_copies_30 (by decide) ?_
      exact go_lv [1, 2, 3, 4, 0] rfl (ih o0 h0 x1 x2 x3 (x4 + 1) M1)
def f_X12_copies (w : Nat) (o0 : Nat) (x1 : Int32) (x2 : Int32) (x3 : Int32) (M : mM) : Option mM := (f_X12_copies_3 w w o0 x1 x2 x3 0 M)
set_option maxHeartbeats 4000000 in
set_option maxRecDepth 100000 in
theorem s_X12_copies {l : Launch} {G : mG} {sk : List mS} (w : Nat) (o0 : Nat) (h0 : isK o0 22) (x1 : Int32) (x2 : Int32) (x3 : Int32) (M : mM) : Go muX12_copies (rm 0) 0 0 l G sk (mFin G sk eV) (f_X12_copies w o0 x1 x2 x3 M) 0 [(0, .ref (gB G + o0)), (1, .int x1), (2, .int x2), (3, .int x3)] [] M := by
  unfold f_X12_copies
  refine go_iconst 0 1 dX12_copies_0 rfl (by decide) ?_
  refine go_istore [(4, .int 0), (0, .ref (gB G + o0)), (1, .int x1), (2, .int x2), (3, .int x3)] 3 dX12_copies_1 rfl (by decide) rfl ?_
  exact go_lv [1, 2, 3, 4, 0] rfl (s_X12_copies_3 w w o0 h0 x1 x2 x3 0 M)
theorem m_X12_copies {l : Launch} {G : mG} {sk : List mS} (w : Nat) (o0 : Nat) (h0 : isK o0 22) (x1 : Int32) (x2 : Int32) (x3 : Int32) (M : mM) : Mt l G sk yX12_copies muX12_copies 0 [.ref (gB G + o0), .int x1, .int x2, .int x3] M eV (f_X12_copies w o0 x1 x2 x3 M) := Mt.of (by decide) rfl (Nat.le_of_ble_eq_true rfl) (s_X12_copies w o0 h0 x1 x2 x3 M)
theorem dX12_keeps_0 : decode cX12_keeps 0 = .ok (.aload_n 0, 1) := by decide +kernel
theorem dX12_keeps_1 : decode cX12_keeps 1 = .ok (.getfield 285, 3) := by decide +kernel
theorem dX12_keeps_4 : decode cX12_keeps 4 = .ok (.bipush 16, 2) := by decide +kernel
theorem dX12_keeps_6 : decode cX12_keeps 6 = .ok (.if_icmp .ne 47, 3) := by decide +kernel
theorem dX12_keeps_9 : decode cX12_keeps 9 = .ok (.iconst 1, 1) := by decide +kernel
theorem dX12_keeps_10 : decode cX12_keeps 10 = .ok (.istore_n 1, 1) := by decide +kernel
theorem dX12_keeps_11 : decode cX12_keeps 11 = .ok (.iload_n 1, 1) := by decide +kernel
theorem dX12_keeps_12 : decode cX12_keeps 12 = .ok (.bipush 16, 2) := by decide +kernel
theorem dX12_keeps_14 : decode cX12_keeps 14 = .ok (.if_icmp .ge 29, 3) := by decide +kernel
theorem dX12_keeps_17 : decode cX12_keeps 17 = .ok (.aload_n 0, 1) := by decide +kernel
theorem dX12_keeps_18 : decode cX12_keeps 18 = .ok (.bipush 65, 2) := by decide +kernel
theorem dX12_keeps_20 : decode cX12_keeps 20 = .ok (.iconst 5, 1) := by decide +kernel
theorem dX12_keeps_21 : decode cX12_keeps 21 = .ok (.iload_n 1, 1) := by decide +kernel
theorem dX12_keeps_22 : decode cX12_keeps 22 = .ok (.iadd, 1) := by decide +kernel
theorem dX12_keeps_23 : decode cX12_keeps 23 = .ok (.imul, 1) := by decide +kernel
theorem dX12_keeps_24 : decode cX12_keeps 24 = .ok (.bipush 65, 2) := by decide +kernel
theorem dX12_keeps_26 : decode cX12_keeps 26 = .ok (.iconst 5, 1) := by decide +kernel
theorem dX12_keeps_27 : decode cX12_keeps 27 = .ok (.iload_n 1, 1) := by decide +kernel
theorem dX12_keeps_28 : decode cX12_keeps 28 = .ok (.iadd, 1) := by decide +kernel
theorem dX12_keeps_29 : decode cX12_keeps 29 = .ok (.iconst 1, 1) := by decide +kernel
theorem dX12_keeps_30 : decode cX12_keeps 30 = .ok (.isub, 1) := by decide +kernel
theorem dX12_keeps_31 : decode cX12_keeps 31 = .ok (.imul, 1) := by decide +kernel
theorem dX12_keeps_32 : decode cX12_keeps 32 = .ok (.bipush 23, 2) := by decide +kernel
theorem dX12_keeps_34 : decode cX12_keeps 34 = .ok (.invokevirtual 288, 3) := by decide +kernel
theorem dX12_keeps_37 : decode cX12_keeps 37 = .ok (.iinc 1 1, 3) := by decide +kernel
theorem dX12_keeps_40 : decode cX12_keeps 40 = .ok (.goto (-29), 3) := by decide +kernel
theorem dX12_keeps_43 : decode cX12_keeps 43 = .ok (.aload_n 0, 1) := by decide +kernel
theorem dX12_keeps_44 : decode cX12_keeps 44 = .ok (.dup, 1) := by decide +kernel
theorem dX12_keeps_45 : decode cX12_keeps 45 = .ok (.getfield 285, 3) := by decide +kernel
theorem dX12_keeps_48 : decode cX12_keeps 48 = .ok (.iconst 1, 1) := by decide +kernel
theorem dX12_keeps_49 : decode cX12_keeps 49 = .ok (.isub, 1) := by decide +kernel
theorem dX12_keeps_50 : decode cX12_keeps 50 = .ok (.putfield 285, 3) := by decide +kernel
theorem dX12_keeps_53 : decode cX12_keeps 53 = .ok (.aload_n 0, 1) := by decide +kernel
theorem dX12_keeps_54 : decode cX12_keeps 54 = .ok (.iconst 0, 1) := by decide +kernel
theorem dX12_keeps_55 : decode cX12_keeps 55 = .ok (.bipush 65, 2) := by decide +kernel
theorem dX12_keeps_57 : decode cX12_keeps 57 = .ok (.iconst 5, 1) := by decide +kernel
theorem dX12_keeps_58 : decode cX12_keeps 58 = .ok (.aload_n 0, 1) := by decide +kernel
theorem dX12_keeps_59 : decode cX12_keeps 59 = .ok (.getfield 285, 3) := by decide +kernel
theorem dX12_keeps_62 : decode cX12_keeps 62 = .ok (.iadd, 1) := by decide +kernel
theorem dX12_keeps_63 : decode cX12_keeps 63 = .ok (.imul, 1) := by decide +kernel
theorem dX12_keeps_64 : decode cX12_keeps 64 = .ok (.bipush 23, 2) := by decide +kernel
theorem dX12_keeps_66 : decode cX12_keeps 66 = .ok (.invokevirtual 288, 3) := by decide +kernel
theorem dX12_keeps_69 : decode cX12_keeps 69 = .ok (.aload_n 0, 1) := by decide +kernel
theorem dX12_keeps_70 : decode cX12_keeps 70 = .ok (.dup, 1) := by decide +kernel
theorem dX12_keeps_71 : decode cX12_keeps 71 = .ok (.getfield 285, 3) := by decide +kernel
theorem dX12_keeps_74 : decode cX12_keeps 74 = .ok (.iconst 1, 1) := by decide +kernel
theorem dX12_keeps_75 : decode cX12_keeps 75 = .ok (.iadd, 1) := by decide +kernel
theorem dX12_keeps_76 : decode cX12_keeps 76 = .ok (.putfield 285, 3) := by decide +kernel
theorem dX12_keeps_79 : decode cX12_keeps 79 = .ok (.return_, 1) := by decide +kernel
def f_X12_keeps_53 (w : Nat) (o0 : Nat) (M : mM) : Option mM := bV (f_X12_copies w o0 0 (65 * (5 + (M.1 o0 25))) 23 M) fun M1 => lt (wI M1 o0 25 ((M1.1 o0 25) + 1)) fun M2 => some M2
set_option maxHeartbeats 4000000 in
set_option maxRecDepth 100000 in
theorem s_X12_keeps_53 {l : Launch} {G : mG} {sk : List mS} (w : Nat) (o0 : Nat) (h0 : isK o0 22) (M : mM) : Go muX12_keeps (rm 1) 0 0 l G sk (mFin G sk eV) (f_X12_keeps_53 w o0 M) 53 [(0, .ref (gB G + o0))] [] M := by
  unfold f_X12_keeps_53
  refine go_aload_n 0 54 dX12_keeps_53 rfl rfl ?_
  refine go_iconst 0 55 dX12_keeps_54 rfl (by decide) ?_
  refine go_bipush 65 57 dX12_keeps_55 rfl (by decide) ?_
  refine go_iconst 5 58 dX12_keeps_57 rfl (by decide) ?_
  refine go_aload_n 0 59 dX12_keeps_58 rfl rfl ?_
  refine go_getI flX12_285 (by decide) h0 62 dX12_keeps_59 rfl ?_
  refine go_iadd 63 dX12_keeps_62 rfl ?_
  refine go_imul 64 dX12_keeps_63 rfl ?_
  refine go_bipush 23 66 dX12_keeps_64 rfl (by decide) ?_
  refine go_cVV3 0 clX12 cwX12_288 (m_X12_copies w o0 h0 0 (65 * (5 + (M.1 o0 25))) 23 M) h0 69 dX12_keeps_66 rfl ⟨Nat.le_of_ble_eq_true rfl, Nat.le_of_ble_eq_true rfl⟩ ⟨Nat.zero_le _, Nat.zero_le _⟩ (Nat.le_of_ble_eq_true rfl) (fun M1 _ => ?_)
  refine go_aload_n 0 70 dX12_keeps_69 rfl rfl ?_
  refine go_dup 71 dX12_keeps_70 rfl rfl ?_
  refine go_getI flX12_285 (by decide) h0 74 dX12_keeps_71 rfl ?_
  refine go_iconst 1 75 dX12_keeps_74 rfl (by decide) ?_
  refine go_iadd 76 dX12_keeps_75 rfl ?_
  refine go_putI flX12_285 rfl rfl h0 79 dX12_keeps_76 rfl ?_
  refine go_nmM (fun M2 => ?_)
  exact go_vret rfl dX12_keeps_79
def f_X12_keeps_43 (w : Nat) (o0 : Nat) (M : mM) : Option mM := lt (wI M o0 25 ((M.1 o0 25) - 1)) fun M1 => (f_X12_keeps_53 w o0 M1)
set_option maxHeartbeats 4000000 in
set_option maxRecDepth 100000 in
theorem s_X12_keeps_43 {l : Launch} {G : mG} {sk : List mS} (w : Nat) (o0 : Nat) (h0 : isK o0 22) (M : mM) : Go muX12_keeps (rm 1) 0 0 l G sk (mFin G sk eV) (f_X12_keeps_43 w o0 M) 43 [(0, .ref (gB G + o0))] [] M := by
  unfold f_X12_keeps_43
  refine go_aload_n 0 44 dX12_keeps_43 rfl rfl ?_
  refine go_dup 45 dX12_keeps_44 rfl rfl ?_
  refine go_getI flX12_285 (by decide) h0 48 dX12_keeps_45 rfl ?_
  refine go_iconst 1 49 dX12_keeps_48 rfl (by decide) ?_
  refine go_isub 50 dX12_keeps_49 rfl ?_
  refine go_putI flX12_285 rfl rfl h0 53 dX12_keeps_50 rfl ?_
  refine go_nmM (fun M1 => ?_)
  exact go_lv [0] rfl (s_X12_keeps_53 w o0 h0 M1)
def f_X12_keeps_11 (w : Nat) : Nat → Nat → Int32 → mM → Option mM
  | 0, _, _, _ => none
  | n + 1, o0, x1, M => (if 16 ≤ x1 then (f_X12_keeps_43 w o0 M) else bV (f_X12_copies w o0 (65 * (5 + x1)) (65 * ((5 + x1) - 1)) 23 M) fun M1 => (f_X12_keeps_11 w n o0 (x1 + 1) M1))
set_option maxHeartbeats 4000000 in
set_option maxRecDepth 100000 in
theorem s_X12_keeps_11 {l : Launch} {G : mG} {sk : List mS} (w : Nat) : ∀ (n : Nat) (o0 : Nat) (h0 : isK o0 22) (x1 : Int32) (M : mM), Go muX12_keeps (rm 1) 0 0 l G sk (mFin G sk eV) (f_X12_keeps_11 w n o0 x1 M) 11 [(0, .ref (gB G + o0)), (1, .int x1)] [] M := by
  intro n
  induction n with
  | zero =>
    intros
    exact go_none
  | succ n ih =>
    intro o0 h0 x1 M
    rw [f_X12_keeps_11]
    refine go_iload_n 1 12 dX12_keeps_11 rfl rfl ?_
    refine go_bipush 16 14 dX12_keeps_12 rfl (by decide) ?_
    refine go_icmp_ge 43 17 dX12_keeps_14 rfl (by decide) (fun _ => ?_) (fun _ => ?_)
    · exact go_lv [0] rfl (s_X12_keeps_43 w o0 h0 M)
    · refine go_aload_n 0 18 dX12_keeps_17 rfl rfl ?_
      refine go_bipush 65 20 dX12_keeps_18 rfl (by decide) ?_
      refine go_iconst 5 21 dX12_keeps_20 rfl (by decide) ?_
      refine go_iload_n 1 22 dX12_keeps_21 rfl rfl ?_
      refine go_iadd 23 dX12_keeps_22 rfl ?_
      refine go_imul 24 dX12_keeps_23 rfl ?_
      refine go_bipush 65 26 dX12_keeps_24 rfl (by decide) ?_
      refine go_iconst 5 27 dX12_keeps_26 rfl (by decide) ?_
      refine go_iload_n 1 28 dX12_keeps_27 rfl rfl ?_
      refine go_iadd 29 dX12_keeps_28 rfl ?_
      refine go_iconst 1 30 dX12_keeps_29 rfl (by decide) ?_
      refine go_isub 31 dX12_keeps_30 rfl ?_
      refine go_imul 32 dX12_keeps_31 rfl ?_
      refine go_bipush 23 34 dX12_keeps_32 rfl (by decide) ?_
      refine go_cVV3 0 clX12 cwX12_288 (m_X12_copies w o0 h0 (65 * (5 + x1)) (65 * ((5 + x1) - 1)) 23 M) h0 37 dX12_keeps_34 rfl ⟨Nat.le_of_ble_eq_true rfl, Nat.le_of_ble_eq_true rfl⟩ ⟨Nat.zero_le _, Nat.zero_le _⟩ (Nat.le_of_ble_eq_true rfl) (fun M1 _ => ?_)
      refine go_iinc (x1 + 1) 1 [(1, .int (x1 + 1)), (0, .ref (gB G + o0))] 40 dX12_keeps_37 rfl rfl rfl (by decide) rfl ?_
      refine go_goto 11 dX12_keeps_40 (by decide) ?_
      exact go_lv [1, 0] rfl (ih o0 h0 (x1 + 1) M1)
def f_X12_keeps (w : Nat) (o0 : Nat) (M : mM) : Option mM := (if (M.1 o0 25) = 16 then (f_X12_keeps_11 w w o0 1 M) else (f_X12_keeps_53 w o0 M))
set_option maxHeartbeats 4000000 in
set_option maxRecDepth 100000 in
theorem s_X12_keeps {l : Launch} {G : mG} {sk : List mS} (w : Nat) (o0 : Nat) (h0 : isK o0 22) (M : mM) : Go muX12_keeps (rm 1) 0 0 l G sk (mFin G sk eV) (f_X12_keeps w o0 M) 0 [(0, .ref (gB G + o0))] [] M := by
  unfold f_X12_keeps
  refine go_aload_n 0 1 dX12_keeps_0 rfl rfl ?_
  refine go_getI flX12_285 (by decide) h0 4 dX12_keeps_1 rfl ?_
  refine go_bipush 16 6 dX12_keeps_4 rfl (by decide) ?_
  refine go_icmp_ne 53 9 dX12_keeps_6 rfl (by decide) (fun _ => ?_) (fun _ => ?_)
  · exact go_lv [0] rfl (s_X12_keeps_53 w o0 h0 M)
  · refine go_iconst 1 10 dX12_keeps_9 rfl (by decide) ?_
    refine go_istore_n [(1, .int 1), (0, .ref (gB G + o0))] 11 dX12_keeps_10 rfl rfl (by decide) rfl ?_
    exact go_lv [1, 0] rfl (s_X12_keeps_11 w w o0 h0 1 M)
theorem m_X12_keeps {l : Launch} {G : mG} {sk : List mS} (w : Nat) (o0 : Nat) (h0 : isK o0 22) (M : mM) : Mt l G sk yX12_keeps muX12_keeps 1 [.ref (gB G + o0)] M eV (f_X12_keeps w o0 M) := Mt.of (by decide) rfl (Nat.le_of_ble_eq_true rfl) (s_X12_keeps w o0 h0 M)
theorem dX12_rooms_0 : decode cX12_rooms 0 = .ok (.aload_n 0, 1) := by decide +kernel
theorem dX12_rooms_1 : decode cX12_rooms 1 = .ok (.getfield 83, 3) := by decide +kernel
theorem dX12_rooms_4 : decode cX12_rooms 4 = .ok (.iconst 0, 1) := by decide +kernel
theorem dX12_rooms_5 : decode cX12_rooms 5 = .ok (.iaload, 1) := by decide +kernel
theorem dX12_rooms_6 : decode cX12_rooms 6 = .ok (.ireturn, 1) := by decide +kernel
def f_X12_rooms (w : Nat) (o0 : Nat) (M : mM) : Option (Int32 × mM) := chk 0 (sL (rF o0 10)) (some ((M.1 (rF o0 10) (0 : Int32).toNatClampNeg), M))
set_option maxHeartbeats 4000000 in
set_option maxRecDepth 100000 in
theorem s_X12_rooms {l : Launch} {G : mG} {sk : List mS} (w : Nat) (o0 : Nat) (h0 : isK o0 22) (M : mM) : Go muX12_rooms (rm 0) 0 0 l G sk (mFin G sk eI) (f_X12_rooms w o0 M) 0 [(0, .ref (gB G + o0))] [] M := by
  unfold f_X12_rooms
  refine go_aload_n 0 1 dX12_rooms_0 rfl rfl ?_
  refine go_getR flX12_83 h0 4 dX12_rooms_1 rfl ?_
  refine go_iconst 0 5 dX12_rooms_4 rfl (by decide) ?_
  refine go_iald (rk12_10 h0) 6 dX12_rooms_5 rfl ?_
  exact go_iret rfl dX12_rooms_6
theorem m_X12_rooms {l : Launch} {G : mG} {sk : List mS} (w : Nat) (o0 : Nat) (h0 : isK o0 22) (M : mM) : Mt l G sk yX12_rooms muX12_rooms 0 [.ref (gB G + o0)] M eI (f_X12_rooms w o0 M) := Mt.of (by decide) rfl (Nat.le_of_ble_eq_true rfl) (s_X12_rooms w o0 h0 M)
theorem dX12_isRoom_0 : decode cX12_isRoom 0 = .ok (.iload_n 1, 1) := by decide +kernel
theorem dX12_isRoom_1 : decode cX12_isRoom 1 = .ok (.ifCond .lt 15, 3) := by decide +kernel
theorem dX12_isRoom_4 : decode cX12_isRoom 4 = .ok (.iload_n 1, 1) := by decide +kernel
theorem dX12_isRoom_5 : decode cX12_isRoom 5 = .ok (.aload_n 0, 1) := by decide +kernel
theorem dX12_isRoom_6 : decode cX12_isRoom 6 = .ok (.invokevirtual 291, 3) := by decide +kernel
theorem dX12_isRoom_9 : decode cX12_isRoom 9 = .ok (.if_icmp .ge 7, 3) := by decide +kernel
theorem dX12_isRoom_12 : decode cX12_isRoom 12 = .ok (.iconst 1, 1) := by decide +kernel
theorem dX12_isRoom_13 : decode cX12_isRoom 13 = .ok (.goto 4, 3) := by decide +kernel
theorem dX12_isRoom_16 : decode cX12_isRoom 16 = .ok (.iconst 0, 1) := by decide +kernel
theorem dX12_isRoom_17 : decode cX12_isRoom 17 = .ok (.ireturn, 1) := by decide +kernel
def f_X12_isRoom (w : Nat) (o0 : Nat) (x1 : Int32) (M : mM) : Option (Int32 × mM) := (if x1 < 0 then rtB 0 M else bI (f_X12_rooms w o0 M) fun q2 M1 => (if q2 ≤ x1 then rtB 0 M1 else rtB 1 M1))
set_option maxHeartbeats 4000000 in
set_option maxRecDepth 100000 in
theorem s_X12_isRoom {l : Launch} {G : mG} {sk : List mS} (w : Nat) (o0 : Nat) (h0 : isK o0 22) (x1 : Int32) (M : mM) : Go muX12_isRoom (rm 1) 0 0 l G sk (mFin G sk eI) (f_X12_isRoom w o0 x1 M) 0 [(0, .ref (gB G + o0)), (1, .int x1)] [] M := by
  unfold f_X12_isRoom
  refine go_iload_n 1 1 dX12_isRoom_0 rfl rfl ?_
  refine go_if_lt 16 4 dX12_isRoom_1 rfl (by decide) (fun _ => ?_) (fun _ => ?_)
  · refine go_iconst 0 17 dX12_isRoom_16 rfl (by decide) ?_
    exact go_zret rfl dX12_isRoom_17
  · refine go_iload_n 1 5 dX12_isRoom_4 rfl rfl ?_
    refine go_aload_n 0 6 dX12_isRoom_5 rfl rfl ?_
    refine go_cVI0 0 clX12 cwX12_291 (m_X12_rooms w o0 h0 M) h0 9 dX12_isRoom_6 rfl ⟨Nat.le_of_ble_eq_true rfl, Nat.le_of_ble_eq_true rfl⟩ ⟨Nat.zero_le _, Nat.zero_le _⟩ (Nat.le_of_ble_eq_true rfl) (fun q2 M1 _ => ?_)
    refine go_icmp_ge 16 12 dX12_isRoom_9 rfl (by decide) (fun _ => ?_) (fun _ => ?_)
    · refine go_iconst 0 17 dX12_isRoom_16 rfl (by decide) ?_
      exact go_zret rfl dX12_isRoom_17
    · refine go_iconst 1 13 dX12_isRoom_12 rfl (by decide) ?_
      refine go_goto 17 dX12_isRoom_13 (by decide) ?_
      exact go_zret rfl dX12_isRoom_17
theorem m_X12_isRoom {l : Launch} {G : mG} {sk : List mS} (w : Nat) (o0 : Nat) (h0 : isK o0 22) (x1 : Int32) (M : mM) : Mt l G sk yX12_isRoom muX12_isRoom 1 [.ref (gB G + o0), .int x1] M eI (f_X12_isRoom w o0 x1 M) := Mt.of (by decide) rfl (Nat.le_of_ble_eq_true rfl) (s_X12_isRoom w o0 h0 x1 M)
theorem dX12_isDoor_0 : decode cX12_isDoor 0 = .ok (.iload_n 1, 1) := by decide +kernel
theorem dX12_isDoor_1 : decode cX12_isDoor 1 = .ok (.ifCond .lt 15, 3) := by decide +kernel
theorem dX12_isDoor_4 : decode cX12_isDoor 4 = .ok (.iload_n 1, 1) := by decide +kernel
theorem dX12_isDoor_5 : decode cX12_isDoor 5 = .ok (.aload_n 0, 1) := by decide +kernel
theorem dX12_isDoor_6 : decode cX12_isDoor 6 = .ok (.invokevirtual 272, 3) := by decide +kernel
theorem dX12_isDoor_9 : decode cX12_isDoor 9 = .ok (.if_icmp .ge 7, 3) := by decide +kernel
theorem dX12_isDoor_12 : decode cX12_isDoor 12 = .ok (.iconst 1, 1) := by decide +kernel
theorem dX12_isDoor_13 : decode cX12_isDoor 13 = .ok (.goto 4, 3) := by decide +kernel
theorem dX12_isDoor_16 : decode cX12_isDoor 16 = .ok (.iconst 0, 1) := by decide +kernel
theorem dX12_isDoor_17 : decode cX12_isDoor 17 = .ok (.ireturn, 1) := by decide +kernel
def f_X12_isDoor (w : Nat) (o0 : Nat) (x1 : Int32) (M : mM) : Option (Int32 × mM) := (if x1 < 0 then rtB 0 M else bI (f_X12_doors w o0 M) fun q2 M1 => (if q2 ≤ x1 then rtB 0 M1 else rtB 1 M1))
set_option maxHeartbeats 4000000 in
set_option maxRecDepth 100000 in
theorem s_X12_isDoor {l : Launch} {G : mG} {sk : List mS} (w : Nat) (o0 : Nat) (h0 : isK o0 22) (x1 : Int32) (M : mM) : Go muX12_isDoor (rm 1) 0 0 l G sk (mFin G sk eI) (f_X12_isDoor w o0 x1 M) 0 [(0, .ref (gB G + o0)), (1, .int x1)] [] M := by
  unfold f_X12_isDoor
  refine go_iload_n 1 1 dX12_isDoor_0 rfl rfl ?_
  refine go_if_lt 16 4 dX12_isDoor_1 rfl (by decide) (fun _ => ?_) (fun _ => ?_)
  · refine go_iconst 0 17 dX12_isDoor_16 rfl (by decide) ?_
    exact go_zret rfl dX12_isDoor_17
  · refine go_iload_n 1 5 dX12_isDoor_4 rfl rfl ?_
    refine go_aload_n 0 6 dX12_isDoor_5 rfl rfl ?_
    refine go_cVI0 0 clX12 cwX12_272 (m_X12_doors w o0 h0 M) h0 9 dX12_isDoor_6 rfl ⟨Nat.le_of_ble_eq_true rfl, Nat.le_of_ble_eq_true rfl⟩ ⟨Nat.zero_le _, Nat.zero_le _⟩ (Nat.le_of_ble_eq_true rfl) (fun q2 M1 _ => ?_)
    refine go_icmp_ge 16 12 dX12_isDoor_9 rfl (by decide) (fun _ => ?_) (fun _ => ?_)
    · refine go_iconst 0 17 dX12_isDoor_16 rfl (by decide) ?_
      exact go_zret rfl dX12_isDoor_17
    · refine go_iconst 1 13 dX12_isDoor_12 rfl (by decide) ?_
      refine go_goto 17 dX12_isDoor_13 (by decide) ?_
      exact go_zret rfl dX12_isDoor_17
theorem m_X12_isDoor {l : Launch} {G : mG} {sk : List mS} (w : Nat) (o0 : Nat) (h0 : isK o0 22) (x1 : Int32) (M : mM) : Mt l G sk yX12_isDoor muX12_isDoor 1 [.ref (gB G + o0), .int x1] M eI (f_X12_isDoor w o0 x1 M) := Mt.of (by decide) rfl (Nat.le_of_ble_eq_true rfl) (s_X12_isDoor w o0 h0 x1 M)
theorem dX12_isPerson_0 : decode cX12_isPerson 0 = .ok (.iload_n 1, 1) := by decide +kernel
theorem dX12_isPerson_1 : decode cX12_isPerson 1 = .ok (.ifCond .lt 15, 3) := by decide +kernel
theorem dX12_isPerson_4 : decode cX12_isPerson 4 = .ok (.iload_n 1, 1) := by decide +kernel
theorem dX12_isPerson_5 : decode cX12_isPerson 5 = .ok (.aload_n 0, 1) := by decide +kernel
theorem dX12_isPerson_6 : decode cX12_isPerson 6 = .ok (.invokevirtual 279, 3) := by decide +kernel
theorem dX12_isPerson_9 : decode cX12_isPerson 9 = .ok (.if_icmp .ge 7, 3) := by decide +kernel
theorem dX12_isPerson_12 : decode cX12_isPerson 12 = .ok (.iconst 1, 1) := by decide +kernel
theorem dX12_isPerson_13 : decode cX12_isPerson 13 = .ok (.goto 4, 3) := by decide +kernel
theorem dX12_isPerson_16 : decode cX12_isPerson 16 = .ok (.iconst 0, 1) := by decide +kernel
theorem dX12_isPerson_17 : decode cX12_isPerson 17 = .ok (.ireturn, 1) := by decide +kernel
def f_X12_isPerson (w : Nat) (o0 : Nat) (x1 : Int32) (M : mM) : Option (Int32 × mM) := (if x1 < 0 then rtB 0 M else bI (f_X12_persons w o0 M) fun q2 M1 => (if q2 ≤ x1 then rtB 0 M1 else rtB 1 M1))
set_option maxHeartbeats 4000000 in
set_option maxRecDepth 100000 in
theorem s_X12_isPerson {l : Launch} {G : mG} {sk : List mS} (w : Nat) (o0 : Nat) (h0 : isK o0 22) (x1 : Int32) (M : mM) : Go muX12_isPerson (rm 1) 0 0 l G sk (mFin G sk eI) (f_X12_isPerson w o0 x1 M) 0 [(0, .ref (gB G + o0)), (1, .int x1)] [] M := by
  unfold f_X12_isPerson
  refine go_iload_n 1 1 dX12_isPerson_0 rfl rfl ?_
  refine go_if_lt 16 4 dX12_isPerson_1 rfl (by decide) (fun _ => ?_) (fun _ => ?_)
  · refine go_iconst 0 17 dX12_isPerson_16 rfl (by decide) ?_
    exact go_zret rfl dX12_isPerson_17
  · refine go_iload_n 1 5 dX12_isPerson_4 rfl rfl ?_
    refine go_aload_n 0 6 dX12_isPerson_5 rfl rfl ?_
    refine go_cVI0 0 clX12 cwX12_279 (m_X12_persons w o0 h0 M) h0 9 dX12_isPerson_6 rfl ⟨Nat.le_of_ble_eq_true rfl, Nat.le_of_ble_eq_true rfl⟩ ⟨Nat.zero_le _, Nat.zero_le _⟩ (Nat.le_of_ble_eq_true rfl) (fun q2 M1 _ => ?_)
    refine go_icmp_ge 16 12 dX12_isPerson_9 rfl (by decide) (fun _ => ?_) (fun _ => ?_)
    · refine go_iconst 0 17 dX12_isPerson_16 rfl (by decide) ?_
      exact go_zret rfl dX12_isPerson_17
    · refine go_iconst 1 13 dX12_isPerson_12 rfl (by decide) ?_
      refine go_goto 17 dX12_isPerson_13 (by decide) ?_
      exact go_zret rfl dX12_isPerson_17
theorem m_X12_isPerson {l : Launch} {G : mG} {sk : List mS} (w : Nat) (o0 : Nat) (h0 : isK o0 22) (x1 : Int32) (M : mM) : Mt l G sk yX12_isPerson muX12_isPerson 1 [.ref (gB G + o0), .int x1] M eI (f_X12_isPerson w o0 x1 M) := Mt.of (by decide) rfl (Nat.le_of_ble_eq_true rfl) (s_X12_isPerson w o0 h0 x1 M)
theorem dX12_dampOn_0 : decode cX12_dampOn 0 = .ok (.aload_n 0, 1) := by decide +kernel
theorem dX12_dampOn_1 : decode cX12_dampOn 1 = .ok (.getfield 83, 3) := by decide +kernel
theorem dX12_dampOn_4 : decode cX12_dampOn 4 = .ok (.bipush 42, 2) := by decide +kernel
theorem dX12_dampOn_6 : decode cX12_dampOn 6 = .ok (.iload_n 1, 1) := by decide +kernel
theorem dX12_dampOn_7 : decode cX12_dampOn 7 = .ok (.aload_n 0, 1) := by decide +kernel
theorem dX12_dampOn_8 : decode cX12_dampOn 8 = .ok (.getfield 83, 3) := by decide +kernel
theorem dX12_dampOn_11 : decode cX12_dampOn 11 = .ok (.iconst 3, 1) := by decide +kernel
theorem dX12_dampOn_12 : decode cX12_dampOn 12 = .ok (.iaload, 1) := by decide +kernel
theorem dX12_dampOn_13 : decode cX12_dampOn 13 = .ok (.irem, 1) := by decide +kernel
theorem dX12_dampOn_14 : decode cX12_dampOn 14 = .ok (.iadd, 1) := by decide +kernel
theorem dX12_dampOn_15 : decode cX12_dampOn 15 = .ok (.iaload, 1) := by decide +kernel
theorem dX12_dampOn_16 : decode cX12_dampOn 16 = .ok (.ireturn, 1) := by decide +kernel
def f_X12_dampOn (w : Nat) (o0 : Nat) (x1 : Int32) (M : mM) : Option (Int32 × mM) := chk 3 (sL (rF o0 10)) (if (M.1 (rF o0 10) (3 : Int32).toNatClampNeg) = 0 then none else (chk (42 + (x1 - x1 / (M.1 (rF o0 10) (3 : Int32).toNatClampNeg) * (M.1 (rF o0 10) (3 : Int32).toNatClampNeg))) (sL (rF o0 10)) (some ((M.1 (rF o0 10) (42 + (x1 - x1 / (M.1 (rF o0 10) (3 : Int32).toNatClampNeg) * (M.1 (rF o0 10) (3 : Int32).toNatClampNeg))).toNatClampNeg), M))))
set_option maxHeartbeats 4000000 in
set_option maxRecDepth 100000 in
theorem s_X12_dampOn {l : Launch} {G : mG} {sk : List mS} (w : Nat) (o0 : Nat) (h0 : isK o0 22) (x1 : Int32) (M : mM) : Go muX12_dampOn (rm 0) 0 0 l G sk (mFin G sk eI) (f_X12_dampOn w o0 x1 M) 0 [(0, .ref (gB G + o0)), (1, .int x1)] [] M := by
  unfold f_X12_dampOn
  refine go_aload_n 0 1 dX12_dampOn_0 rfl rfl ?_
  refine go_getR flX12_83 h0 4 dX12_dampOn_1 rfl ?_
  refine go_bipush 42 6 dX12_dampOn_4 rfl (by decide) ?_
  refine go_iload_n 1 7 dX12_dampOn_6 rfl rfl ?_
  refine go_aload_n 0 8 dX12_dampOn_7 rfl rfl ?_
  refine go_getR flX12_83 h0 11 dX12_dampOn_8 rfl ?_
  refine go_iconst 3 12 dX12_dampOn_11 rfl (by decide) ?_
  refine go_iald (rk12_10 h0) 13 dX12_dampOn_12 rfl ?_
  refine go_irem 14 dX12_dampOn_13 rfl ?_
  refine go_iadd 15 dX12_dampOn_14 rfl ?_
  refine go_iald (rk12_10 h0) 16 dX12_dampOn_15 rfl ?_
  exact go_iret rfl dX12_dampOn_16
theorem m_X12_dampOn {l : Launch} {G : mG} {sk : List mS} (w : Nat) (o0 : Nat) (h0 : isK o0 22) (x1 : Int32) (M : mM) : Mt l G sk yX12_dampOn muX12_dampOn 0 [.ref (gB G + o0), .int x1] M eI (f_X12_dampOn w o0 x1 M) := Mt.of (by decide) rfl (Nat.le_of_ble_eq_true rfl) (s_X12_dampOn w o0 h0 x1 M)
theorem dX12_overOf_0 : decode cX12_overOf 0 = .ok (.aload_n 0, 1) := by decide +kernel
theorem dX12_overOf_1 : decode cX12_overOf 1 = .ok (.getfield 113, 3) := by decide +kernel
theorem dX12_overOf_4 : decode cX12_overOf 4 = .ok (.iload_n 1, 1) := by decide +kernel
theorem dX12_overOf_5 : decode cX12_overOf 5 = .ok (.bipush 10, 2) := by decide +kernel
theorem dX12_overOf_7 : decode cX12_overOf 7 = .ok (.iadd, 1) := by decide +kernel
theorem dX12_overOf_8 : decode cX12_overOf 8 = .ok (.iload_n 2, 1) := by decide +kernel
theorem dX12_overOf_9 : decode cX12_overOf 9 = .ok (.iadd, 1) := by decide +kernel
theorem dX12_overOf_10 : decode cX12_overOf 10 = .ok (.iaload, 1) := by decide +kernel
theorem dX12_overOf_11 : decode cX12_overOf 11 = .ok (.aload_n 0, 1) := by decide +kernel
theorem dX12_overOf_12 : decode cX12_overOf 12 = .ok (.getfield 113, 3) := by decide +kernel
theorem dX12_overOf_15 : decode cX12_overOf 15 = .ok (.iload_n 1, 1) := by decide +kernel
theorem dX12_overOf_16 : decode cX12_overOf 16 = .ok (.iconst 2, 1) := by decide +kernel
theorem dX12_overOf_17 : decode cX12_overOf 17 = .ok (.iadd, 1) := by decide +kernel
theorem dX12_overOf_18 : decode cX12_overOf 18 = .ok (.iload_n 2, 1) := by decide +kernel
theorem dX12_overOf_19 : decode cX12_overOf 19 = .ok (.iadd, 1) := by decide +kernel
theorem dX12_overOf_20 : decode cX12_overOf 20 = .ok (.iaload, 1) := by decide +kernel
theorem dX12_overOf_21 : decode cX12_overOf 21 = .ok (.isub, 1) := by decide +kernel
theorem dX12_overOf_22 : decode cX12_overOf 22 = .ok (.ireturn, 1) := by decide +kernel
def f_X12_overOf (w : Nat) (o0 : Nat) (x1 : Int32) (x2 : Int32) (M : mM) : Option (Int32 × mM) := chk ((x1 + 10) + x2) (sL (rF o0 24)) (chk ((x1 + 2) + x2) (sL (rF o0 24)) (some (((M.1 (rF o0 24) ((x1 + 10) + x2).toNatClampNeg) - (M.1 (rF o0 24) ((x1 + 2) + x2).toNatClampNeg)), M)))
set_option maxHeartbeats 4000000 in
set_option maxRecDepth 100000 in
theorem s_X12_overOf {l : Launch} {G : mG} {sk : List mS} (w : Nat) (o0 : Nat) (h0 : isK o0 22) (x1 : Int32) (x2 : Int32) (M : mM) : Go muX12_overOf (rm 0) 0 0 l G sk (mFin G sk eI) (f_X12_overOf w o0 x1 x2 M) 0 [(0, .ref (gB G + o0)), (1, .int x1), (2, .int x2)] [] M := by
  unfold f_X12_overOf
  refine go_aload_n 0 1 dX12_overOf_0 rfl rfl ?_
  refine go_getR flX12_113 h0 4 dX12_overOf_1 rfl ?_
  refine go_iload_n 1 5 dX12_overOf_4 rfl rfl ?_
  refine go_bipush 10 7 dX12_overOf_5 rfl (by decide) ?_
  refine go_iadd 8 dX12_overOf_7 rfl ?_
  refine go_iload_n 2 9 dX12_overOf_8 rfl rfl ?_
  refine go_iadd 10 dX12_overOf_9 rfl ?_
  refine go_iald (rk12_24 h0) 11 dX12_overOf_10 rfl ?_
  refine go_aload_n 0 12 dX12_overOf_11 rfl rfl ?_
  refine go_getR flX12_113 h0 15 dX12_overOf_12 rfl ?_
  refine go_iload_n 1 16 dX12_overOf_15 rfl rfl ?_
  refine go_iconst 2 17 dX12_overOf_16 rfl (by decide) ?_
  refine go_iadd 18 dX12_overOf_17 rfl ?_
  refine go_iload_n 2 19 dX12_overOf_18 rfl rfl ?_
  refine go_iadd 20 dX12_overOf_19 rfl ?_
  refine go_iald (rk12_24 h0) 21 dX12_overOf_20 rfl ?_
  refine go_isub 22 dX12_overOf_21 rfl ?_
  exact go_iret rfl dX12_overOf_22
theorem m_X12_overOf {l : Launch} {G : mG} {sk : List mS} (w : Nat) (o0 : Nat) (h0 : isK o0 22) (x1 : Int32) (x2 : Int32) (M : mM) : Mt l G sk yX12_overOf muX12_overOf 0 [.ref (gB G + o0), .int x1, .int x2] M eI (f_X12_overOf w o0 x1 x2 M) := Mt.of (by decide) rfl (Nat.le_of_ble_eq_true rfl) (s_X12_overOf w o0 h0 x1 x2 M)
theorem dX12_isWedged_0 : decode cX12_isWedged 0 = .ok (.aload_n 0, 1) := by decide +kernel
theorem dX12_isWedged_1 : decode cX12_isWedged 1 = .ok (.getfield 113, 3) := by decide +kernel
theorem dX12_isWedged_4 : decode cX12_isWedged 4 = .ok (.iload_n 1, 1) := by decide +kernel
theorem dX12_isWedged_5 : decode cX12_isWedged 5 = .ok (.iconst 1, 1) := by decide +kernel
theorem dX12_isWedged_6 : decode cX12_isWedged 6 = .ok (.iadd, 1) := by decide +kernel
theorem dX12_isWedged_7 : decode cX12_isWedged 7 = .ok (.iaload, 1) := by decide +kernel
theorem dX12_isWedged_8 : decode cX12_isWedged 8 = .ok (.iload_n 2, 1) := by decide +kernel
theorem dX12_isWedged_9 : decode cX12_isWedged 9 = .ok (.ishr, 1) := by decide +kernel
theorem dX12_isWedged_10 : decode cX12_isWedged 10 = .ok (.iconst 1, 1) := by decide +kernel
theorem dX12_isWedged_11 : decode cX12_isWedged 11 = .ok (.iand, 1) := by decide +kernel
theorem dX12_isWedged_12 : decode cX12_isWedged 12 = .ok (.iconst 1, 1) := by decide +kernel
theorem dX12_isWedged_13 : decode cX12_isWedged 13 = .ok (.if_icmp .ne 7, 3) := by decide +kernel
theorem dX12_isWedged_16 : decode cX12_isWedged 16 = .ok (.iconst 1, 1) := by decide +kernel
theorem dX12_isWedged_17 : decode cX12_isWedged 17 = .ok (.goto 4, 3) := by decide +kernel
theorem dX12_isWedged_20 : decode cX12_isWedged 20 = .ok (.iconst 0, 1) := by decide +kernel
theorem dX12_isWedged_21 : decode cX12_isWedged 21 = .ok (.ireturn, 1) := by decide +kernel
def f_X12_isWedged (w : Nat) (o0 : Nat) (x1 : Int32) (x2 : Int32) (M : mM) : Option (Int32 × mM) := chk (x1 + 1) (sL (rF o0 24)) ((if (((M.1 (rF o0 24) (x1 + 1).toNatClampNeg) >>> (x2 &&& 31)) &&& 1) = 1 then rtB 1 M else rtB 0 M))
set_option maxHeartbeats 4000000 in
set_option maxRecDepth 100000 in
theorem s_X12_isWedged {l : Launch} {G : mG} {sk : List mS} (w : Nat) (o0 : Nat) (h0 : isK o0 22) (x1 : Int32) (x2 : Int32) (M : mM) : Go muX12_isWedged (rm 0) 0 0 l G sk (mFin G sk eI) (f_X12_isWedged w o0 x1 x2 M) 0 [(0, .ref (gB G + o0)), (1, .int x1), (2, .int x2)] [] M := by
  unfold f_X12_isWedged
  refine go_aload_n 0 1 dX12_isWedged_0 rfl rfl ?_
  refine go_getR flX12_113 h0 4 dX12_isWedged_1 rfl ?_
  refine go_iload_n 1 5 dX12_isWedged_4 rfl rfl ?_
  refine go_iconst 1 6 dX12_isWedged_5 rfl (by decide) ?_
  refine go_iadd 7 dX12_isWedged_6 rfl ?_
  refine go_iald (rk12_24 h0) 8 dX12_isWedged_7 rfl ?_
  refine go_iload_n 2 9 dX12_isWedged_8 rfl rfl ?_
  refine go_ishr 10 dX12_isWedged_9 rfl ?_
  refine go_iconst 1 11 dX12_isWedged_10 rfl (by decide) ?_
  refine go_iand 12 dX12_isWedged_11 rfl ?_
  refine go_iconst 1 13 dX12_isWedged_12 rfl (by decide) ?_
  refine go_icmp_ne 20 16 dX12_isWedged_13 rfl (by decide) (fun _ => ?_) (fun _ => ?_)
  · refine go_iconst 0 21 dX12_isWedged_20 rfl (by decide) ?_
    exact go_zret rfl dX12_isWedged_21
  · refine go_iconst 1 17 dX12_isWedged_16 rfl (by decide) ?_
    refine go_goto 21 dX12_isWedged_17 (by decide) ?_
    exact go_zret rfl dX12_isWedged_21
theorem m_X12_isWedged {l : Launch} {G : mG} {sk : List mS} (w : Nat) (o0 : Nat) (h0 : isK o0 22) (x1 : Int32) (x2 : Int32) (M : mM) : Mt l G sk yX12_isWedged muX12_isWedged 0 [.ref (gB G + o0), .int x1, .int x2] M eI (f_X12_isWedged w o0 x1 x2 M) := Mt.of (by decide) rfl (Nat.le_of_ble_eq_true rfl) (s_X12_isWedged w o0 h0 x1 x2 M)
theorem dX12_doesStick_0 : decode cX12_doesStick 0 = .ok (.aload_n 0, 1) := by decide +kernel
theorem dX12_doesStick_1 : decode cX12_doesStick 1 = .ok (.iload_n 1, 1) := by decide +kernel
theorem dX12_doesStick_2 : decode cX12_doesStick 2 = .ok (.iload_n 2, 1) := by decide +kernel
theorem dX12_doesStick_3 : decode cX12_doesStick 3 = .ok (.invokevirtual 294, 3) := by decide +kernel
theorem dX12_doesStick_6 : decode cX12_doesStick 6 = .ok (.ifCond .le 16, 3) := by decide +kernel
theorem dX12_doesStick_9 : decode cX12_doesStick 9 = .ok (.aload_n 0, 1) := by decide +kernel
theorem dX12_doesStick_10 : decode cX12_doesStick 10 = .ok (.iload_n 1, 1) := by decide +kernel
theorem dX12_doesStick_11 : decode cX12_doesStick 11 = .ok (.iload_n 2, 1) := by decide +kernel
theorem dX12_doesStick_12 : decode cX12_doesStick 12 = .ok (.invokevirtual 297, 3) := by decide +kernel
theorem dX12_doesStick_15 : decode cX12_doesStick 15 = .ok (.ifCond .ne 7, 3) := by decide +kernel
theorem dX12_doesStick_18 : decode cX12_doesStick 18 = .ok (.iconst 1, 1) := by decide +kernel
theorem dX12_doesStick_19 : decode cX12_doesStick 19 = .ok (.goto 4, 3) := by decide +kernel
theorem dX12_doesStick_22 : decode cX12_doesStick 22 = .ok (.iconst 0, 1) := by decide +kernel
theorem dX12_doesStick_23 : decode cX12_doesStick 23 = .ok (.ireturn, 1) := by decide +kernel
def f_X12_doesStick (w : Nat) (o0 : Nat) (x1 : Int32) (x2 : Int32) (M : mM) : Option (Int32 × mM) := bI (f_X12_overOf w o0 x1 x2 M) fun q2 M1 => (if q2 ≤ 0 then rtB 0 M1 else bI (f_X12_isWedged w o0 x1 x2 M1) fun q4 M3 => (if q4 = 0 then rtB 1 M3 else rtB 0 M3))
set_option maxHeartbeats 4000000 in
set_option maxRecDepth 100000 in
theorem s_X12_doesStick {l : Launch} {G : mG} {sk : List mS} (w : Nat) (o0 : Nat) (h0 : isK o0 22) (x1 : Int32) (x2 : Int32) (M : mM) : Go muX12_doesStick (rm 1) 0 0 l G sk (mFin G sk eI) (f_X12_doesStick w o0 x1 x2 M) 0 [(0, .ref (gB G + o0)), (1, .int x1), (2, .int x2)] [] M := by
  unfold f_X12_doesStick
  refine go_aload_n 0 1 dX12_doesStick_0 rfl rfl ?_
  refine go_iload_n 1 2 dX12_doesStick_1 rfl rfl ?_
  refine go_iload_n 2 3 dX12_doesStick_2 rfl rfl ?_
  refine go_cVI2 0 clX12 cwX12_294 (m_X12_overOf w o0 h0 x1 x2 M) h0 6 dX12_doesStick_3 rfl ⟨Nat.le_of_ble_eq_true rfl, Nat.le_of_ble_eq_true rfl⟩ ⟨Nat.zero_le _, Nat.zero_le _⟩ (Nat.le_of_ble_eq_true rfl) (fun q2 M1 _ => ?_)
  refine go_if_le 22 9 dX12_doesStick_6 rfl (by decide) (fun _ => ?_) (fun _ => ?_)
  · refine go_iconst 0 23 dX12_doesStick_22 rfl (by decide) ?_
    exact go_zret rfl dX12_doesStick_23
  · refine go_aload_n 0 10 dX12_doesStick_9 rfl rfl ?_
    refine go_iload_n 1 11 dX12_doesStick_10 rfl rfl ?_
    refine go_iload_n 2 12 dX12_doesStick_11 rfl rfl ?_
    refine go_cVI2 0 clX12 cwX12_297 (m_X12_isWedged w o0 h0 x1 x2 M1) h0 15 dX12_doesStick_12 rfl ⟨Nat.le_of_ble_eq_true rfl, Nat.le_of_ble_eq_true rfl⟩ ⟨Nat.zero_le _, Nat.zero_le _⟩ (Nat.le_of_ble_eq_true rfl) (fun q4 M3 _ => ?_)
    refine go_if_ne 22 18 dX12_doesStick_15 rfl (by decide) (fun _ => ?_) (fun _ => ?_)
    · refine go_iconst 0 23 dX12_doesStick_22 rfl (by decide) ?_
      exact go_zret rfl dX12_doesStick_23
    · refine go_iconst 1 19 dX12_doesStick_18 rfl (by decide) ?_
      refine go_goto 23 dX12_doesStick_19 (by decide) ?_
      exact go_zret rfl dX12_doesStick_23
theorem m_X12_doesStick {l : Launch} {G : mG} {sk : List mS} (w : Nat) (o0 : Nat) (h0 : isK o0 22) (x1 : Int32) (x2 : Int32) (M : mM) : Mt l G sk yX12_doesStick muX12_doesStick 1 [.ref (gB G + o0), .int x1, .int x2] M eI (f_X12_doesStick w o0 x1 x2 M) := Mt.of (by decide) rfl (Nat.le_of_ble_eq_true rfl) (s_X12_doesStick w o0 h0 x1 x2 M)
theorem dX12_sticking_0 : decode cX12_sticking 0 = .ok (.iconst 0, 1) := by decide +kernel
theorem dX12_sticking_1 : decode cX12_sticking 1 = .ok (.istore_n 2, 1) := by decide +kernel
theorem dX12_sticking_2 : decode cX12_sticking 2 = .ok (.iconst 0, 1) := by decide +kernel
theorem dX12_sticking_3 : decode cX12_sticking 3 = .ok (.istore_n 3, 1) := by decide +kernel
theorem dX12_sticking_4 : decode cX12_sticking 4 = .ok (.iload_n 3, 1) := by decide +kernel
theorem dX12_sticking_5 : decode cX12_sticking 5 = .ok (.aload_n 0, 1) := by decide +kernel
theorem dX12_sticking_6 : decode cX12_sticking 6 = .ok (.invokevirtual 272, 3) := by decide +kernel
theorem dX12_sticking_9 : decode cX12_sticking 9 = .ok (.if_icmp .ge 28, 3) := by decide +kernel
theorem dX12_sticking_12 : decode cX12_sticking 12 = .ok (.iload_n 2, 1) := by decide +kernel
theorem dX12_sticking_13 : decode cX12_sticking 13 = .ok (.aload_n 0, 1) := by decide +kernel
theorem dX12_sticking_14 : decode cX12_sticking 14 = .ok (.iload_n 1, 1) := by decide +kernel
theorem dX12_sticking_15 : decode cX12_sticking 15 = .ok (.iload_n 3, 1) := by decide +kernel
theorem dX12_sticking_16 : decode cX12_sticking 16 = .ok (.invokevirtual 301, 3) := by decide +kernel
theorem dX12_sticking_19 : decode cX12_sticking 19 = .ok (.ifCond .eq 9, 3) := by decide +kernel
theorem dX12_sticking_22 : decode cX12_sticking 22 = .ok (.iconst 1, 1) := by decide +kernel
theorem dX12_sticking_23 : decode cX12_sticking 23 = .ok (.iload_n 3, 1) := by decide +kernel
theorem dX12_sticking_24 : decode cX12_sticking 24 = .ok (.ishl, 1) := by decide +kernel
theorem dX12_sticking_25 : decode cX12_sticking 25 = .ok (.goto 4, 3) := by decide +kernel
theorem dX12_sticking_28 : decode cX12_sticking 28 = .ok (.iconst 0, 1) := by decide +kernel
theorem dX12_sticking_29 : decode cX12_sticking 29 = .ok (.ior, 1) := by decide +kernel
theorem dX12_sticking_30 : decode cX12_sticking 30 = .ok (.istore_n 2, 1) := by decide +kernel
theorem dX12_sticking_31 : decode cX12_sticking 31 = .ok (.iinc 3 1, 3) := by decide +kernel
theorem dX12_sticking_34 : decode cX12_sticking 34 = .ok (.goto (-30), 3) := by decide +kernel
theorem dX12_sticking_37 : decode cX12_sticking 37 = .ok (.iload_n 2, 1) := by decide +kernel
theorem dX12_sticking_38 : decode cX12_sticking 38 = .ok (.ireturn, 1) := by decide +kernel
def f_X12_sticking_4 (w : Nat) : Nat → Nat → Int32 → Int32 → Int32 → mM → Option (Int32 × mM)
  | 0, _, _, _, _, _ => none
  | n + 1, o0, x1, x2, x3, M => bI (f_X12_doors w o0 M) fun q2 M1 => (if q2 ≤ x3 then some (x2, M1) else bI (f_X12_doesStick w o0 x1 x3 M1) fun q4 M3 => (if q4 = 0 then lt (x2 ||| 0) fun y5 => (f_X12_sticking_4 w n o0 x1 y5 (x3 + 1) M3) else lt (x2 ||| ((1 : Int32) <<< (x3 &&& 31))) fun y6 => (f_X12_sticking_4 w n o0 x1 y6 (x3 + 1) M3)))
set_option maxHeartbeats 4000000 in
set_option maxRecDepth 100000 in
theorem s_X12_sticking_4 {l : Launch} {G : mG} {sk : List mS} (w : Nat) : ∀ (n : Nat) (o0 : Nat) (h0 : isK o0 22) (x1 : Int32) (x2 : Int32) (x3 : Int32) (M : mM), Go muX12_sticking (rm 2) 0 0 l G sk (mFin G sk eI) (f_X12_sticking_4 w n o0 x1 x2 x3 M) 4 [(0, .ref (gB G + o0)), (1, .int x1), (2, .int x2), (3, .int x3)] [] M := by
  intro n
  induction n with
  | zero =>
    intros
    exact go_none
  | succ n ih =>
    intro o0 h0 x1 x2 x3 M
    rw [f_X12_sticking_4]
    refine go_iload_n 3 5 dX12_sticking_4 rfl rfl ?_
    refine go_aload_n 0 6 dX12_sticking_5 rfl rfl ?_
    refine go_cVI0 0 clX12 cwX12_272 (m_X12_doors w o0 h0 M) h0 9 dX12_sticking_6 rfl ⟨Nat.le_of_ble_eq_true rfl, Nat.le_of_ble_eq_true rfl⟩ ⟨Nat.zero_le _, Nat.zero_le _⟩ (Nat.le_of_ble_eq_true rfl) (fun q2 M1 _ => ?_)
    refine go_icmp_ge 37 12 dX12_sticking_9 rfl (by decide) (fun _ => ?_) (fun _ => ?_)
    · refine go_iload_n 2 38 dX12_sticking_37 rfl rfl ?_
      exact go_iret rfl dX12_sticking_38
    · refine go_iload_n 2 13 dX12_sticking_12 rfl rfl ?_
      refine go_aload_n 0 14 dX12_sticking_13 rfl rfl ?_
      refine go_iload_n 1 15 dX12_sticking_14 rfl rfl ?_
      refine go_iload_n 3 16 dX12_sticking_15 rfl rfl ?_
      refine go_cVI2 1 clX12 cwX12_301 (m_X12_doesStick w o0 h0 x1 x3 M1) h0 19 dX12_sticking_16 rfl ⟨Nat.le_of_ble_eq_true rfl, Nat.le_of_ble_eq_true rfl⟩ ⟨Nat.zero_le _, Nat.zero_le _⟩ (Nat.le_of_ble_eq_true rfl) (fun q4 M3 _ => ?_)
      refine go_if_eq 28 22 dX12_sticking_19 rfl (by decide) (fun _ => ?_) (fun _ => ?_)
      · refine go_iconst 0 29 dX12_sticking_28 rfl (by decide) ?_
        refine go_ior 30 dX12_sticking_29 rfl ?_
        refine go_nmI (fun y5 => ?_)
        refine go_istore_n [(2, .int y5), (0, .ref (gB G + o0)), (1, .int x1), (3, .int x3)] 31 dX12_sticking_30 rfl rfl (by decide) rfl ?_
        refine go_iinc (x3 + 1) 3 [(3, .int (x3 + 1)), (2, .int y5), (0, .ref (gB G + o0)), (1, .int x1)] 34 dX12_sticking_31 rfl rfl rfl (by decide) rfl ?_
        refine go_goto 4 dX12_sticking_34 (by decide) ?_
        exact go_lv [2, 3, 1, 0] rfl (ih o0 h0 x1 y5 (x3 + 1) M3)
      · refine go_iconst 1 23 dX12_sticking_22 rfl (by decide) ?_
        refine go_iload_n 3 24 dX12_sticking_23 rfl rfl ?_
        refine go_ishl 25 dX12_sticking_24 rfl ?_
        refine go_goto 29 dX12_sticking_25 (by decide) ?_
        refine go_ior 30 dX12_sticking_29 rfl ?_
        refine go_nmI (fun y6 => ?_)
        refine go_istore_n [(2, .int y6), (0, .ref (gB G + o0)), (1, .int x1), (3, .int x3)] 31 dX12_sticking_30 rfl rfl (by decide) rfl ?_
        refine go_iinc (x3 + 1) 3 [(3, .int (x3 + 1)), (2, .int y6), (0, .ref (gB G + o0)), (1, .int x1)] 34 dX12_sticking_31 rfl rfl rfl (by decide) rfl ?_
        refine go_goto 4 dX12_sticking_34 (by decide) ?_
        exact go_lv [2, 3, 1, 0] rfl (ih o0 h0 x1 y6 (x3 + 1) M3)
def f_X12_sticking (w : Nat) (o0 : Nat) (x1 : Int32) (M : mM) : Option (Int32 × mM) := (f_X12_sticking_4 w w o0 x1 0 0 M)
set_option maxHeartbeats 4000000 in
set_option maxRecDepth 100000 in
theorem s_X12_sticking {l : Launch} {G : mG} {sk : List mS} (w : Nat) (o0 : Nat) (h0 : isK o0 22) (x1 : Int32) (M : mM) : Go muX12_sticking (rm 2) 0 0 l G sk (mFin G sk eI) (f_X12_sticking w o0 x1 M) 0 [(0, .ref (gB G + o0)), (1, .int x1)] [] M := by
  unfold f_X12_sticking
  refine go_iconst 0 1 dX12_sticking_0 rfl (by decide) ?_
  refine go_istore_n [(2, .int 0), (0, .ref (gB G + o0)), (1, .int x1)] 2 dX12_sticking_1 rfl rfl (by decide) rfl ?_
  refine go_iconst 0 3 dX12_sticking_2 rfl (by decide) ?_
  refine go_istore_n [(3, .int 0), (2, .int 0), (0, .ref (gB G + o0)), (1, .int x1)] 4 dX12_sticking_3 rfl rfl (by decide) rfl ?_
  exact go_lv [2, 3, 1, 0] rfl (s_X12_sticking_4 w w o0 h0 x1 0 0 M)
theorem m_X12_sticking {l : Launch} {G : mG} {sk : List mS} (w : Nat) (o0 : Nat) (h0 : isK o0 22) (x1 : Int32) (M : mM) : Mt l G sk yX12_sticking muX12_sticking 2 [.ref (gB G + o0), .int x1] M eI (f_X12_sticking w o0 x1 M) := Mt.of (by decide) rfl (Nat.le_of_ble_eq_true rfl) (s_X12_sticking w o0 h0 x1 M)
theorem dX12_moves_0 : decode cX12_moves 0 = .ok (.aload_n 0, 1) := by decide +kernel
theorem dX12_moves_1 : decode cX12_moves 1 = .ok (.iload_n 2, 1) := by decide +kernel
theorem dX12_moves_2 : decode cX12_moves 2 = .ok (.iconst 2, 1) := by decide +kernel
theorem dX12_moves_3 : decode cX12_moves 3 = .ok (.invokevirtual 276, 3) := by decide +kernel
theorem dX12_moves_6 : decode cX12_moves 6 = .ok (.istore 4, 2) := by decide +kernel
theorem dX12_moves_8 : decode cX12_moves 8 = .ok (.iload 4, 2) := by decide +kernel
theorem dX12_moves_10 : decode cX12_moves 10 = .ok (.ifCond .ne 8, 3) := by decide +kernel
theorem dX12_moves_13 : decode cX12_moves 13 = .ok (.bipush 6, 2) := by decide +kernel
theorem dX12_moves_15 : decode cX12_moves 15 = .ok (.goto 24, 3) := by decide +kernel
theorem dX12_moves_18 : decode cX12_moves 18 = .ok (.iload 4, 2) := by decide +kernel
theorem dX12_moves_20 : decode cX12_moves 20 = .ok (.iconst 1, 1) := by decide +kernel
theorem dX12_moves_21 : decode cX12_moves 21 = .ok (.if_icmp .ne 7, 3) := by decide +kernel
theorem dX12_moves_24 : decode cX12_moves 24 = .ok (.iconst 4, 1) := by decide +kernel
theorem dX12_moves_25 : decode cX12_moves 25 = .ok (.goto 14, 3) := by decide +kernel
theorem dX12_moves_28 : decode cX12_moves 28 = .ok (.iload 4, 2) := by decide +kernel
theorem dX12_moves_30 : decode cX12_moves 30 = .ok (.iconst 2, 1) := by decide +kernel
theorem dX12_moves_31 : decode cX12_moves 31 = .ok (.if_icmp .ne 7, 3) := by decide +kernel
theorem dX12_moves_34 : decode cX12_moves 34 = .ok (.iconst 5, 1) := by decide +kernel
theorem dX12_moves_35 : decode cX12_moves 35 = .ok (.goto 4, 3) := by decide +kernel
theorem dX12_moves_38 : decode cX12_moves 38 = .ok (.iconst 3, 1) := by decide +kernel
theorem dX12_moves_39 : decode cX12_moves 39 = .ok (.istore 5, 2) := by decide +kernel
theorem dX12_moves_41 : decode cX12_moves 41 = .ok (.iload 4, 2) := by decide +kernel
theorem dX12_moves_43 : decode cX12_moves 43 = .ok (.ifCond .ne 7, 3) := by decide +kernel
theorem dX12_moves_46 : decode cX12_moves 46 = .ok (.iconst 2, 1) := by decide +kernel
theorem dX12_moves_47 : decode cX12_moves 47 = .ok (.goto 24, 3) := by decide +kernel
theorem dX12_moves_50 : decode cX12_moves 50 = .ok (.iload 4, 2) := by decide +kernel
theorem dX12_moves_52 : decode cX12_moves 52 = .ok (.iconst 1, 1) := by decide +kernel
theorem dX12_moves_53 : decode cX12_moves 53 = .ok (.if_icmp .ne 7, 3) := by decide +kernel
theorem dX12_moves_56 : decode cX12_moves 56 = .ok (.iconst 4, 1) := by decide +kernel
theorem dX12_moves_57 : decode cX12_moves 57 = .ok (.goto 14, 3) := by decide +kernel
theorem dX12_moves_60 : decode cX12_moves 60 = .ok (.iload 4, 2) := by decide +kernel
theorem dX12_moves_62 : decode cX12_moves 62 = .ok (.iconst 2, 1) := by decide +kernel
theorem dX12_moves_63 : decode cX12_moves 63 = .ok (.if_icmp .ne 7, 3) := by decide +kernel
theorem dX12_moves_66 : decode cX12_moves 66 = .ok (.iconst 1, 1) := by decide +kernel
theorem dX12_moves_67 : decode cX12_moves 67 = .ok (.goto 4, 3) := by decide +kernel
theorem dX12_moves_70 : decode cX12_moves 70 = .ok (.iconst 3, 1) := by decide +kernel
theorem dX12_moves_71 : decode cX12_moves 71 = .ok (.istore 6, 2) := by decide +kernel
theorem dX12_moves_73 : decode cX12_moves 73 = .ok (.iload_n 3, 1) := by decide +kernel
theorem dX12_moves_74 : decode cX12_moves 74 = .ok (.iload 5, 2) := by decide +kernel
theorem dX12_moves_76 : decode cX12_moves 76 = .ok (.if_icmp .gt 37, 3) := by decide +kernel
theorem dX12_moves_79 : decode cX12_moves 79 = .ok (.iload_n 3, 1) := by decide +kernel
theorem dX12_moves_80 : decode cX12_moves 80 = .ok (.iload 6, 2) := by decide +kernel
theorem dX12_moves_82 : decode cX12_moves 82 = .ok (.if_icmp .lt 7, 3) := by decide +kernel
theorem dX12_moves_85 : decode cX12_moves 85 = .ok (.iconst 0, 1) := by decide +kernel
theorem dX12_moves_86 : decode cX12_moves 86 = .ok (.goto 26, 3) := by decide +kernel
theorem dX12_moves_89 : decode cX12_moves 89 = .ok (.iload 4, 2) := by decide +kernel
theorem dX12_moves_91 : decode cX12_moves 91 = .ok (.iconst 1, 1) := by decide +kernel
theorem dX12_moves_92 : decode cX12_moves 92 = .ok (.if_icmp .ne 8, 3) := by decide +kernel
theorem dX12_moves_95 : decode cX12_moves 95 = .ok (.bipush (-2), 2) := by decide +kernel
theorem dX12_moves_97 : decode cX12_moves 97 = .ok (.goto 15, 3) := by decide +kernel
theorem dX12_moves_100 : decode cX12_moves 100 = .ok (.iload 4, 2) := by decide +kernel
theorem dX12_moves_102 : decode cX12_moves 102 = .ok (.iconst 2, 1) := by decide +kernel
theorem dX12_moves_103 : decode cX12_moves 103 = .ok (.if_icmp .ne 8, 3) := by decide +kernel
theorem dX12_moves_106 : decode cX12_moves 106 = .ok (.bipush (-3), 2) := by decide +kernel
theorem dX12_moves_108 : decode cX12_moves 108 = .ok (.goto 4, 3) := by decide +kernel
theorem dX12_moves_111 : decode cX12_moves 111 = .ok (.iconst (-1), 1) := by decide +kernel
theorem dX12_moves_112 : decode cX12_moves 112 = .ok (.ireturn, 1) := by decide +kernel
theorem dX12_moves_113 : decode cX12_moves 113 = .ok (.aload_n 0, 1) := by decide +kernel
theorem dX12_moves_114 : decode cX12_moves 114 = .ok (.getfield 107, 3) := by decide +kernel
theorem dX12_moves_117 : decode cX12_moves 117 = .ok (.iconst 0, 1) := by decide +kernel
theorem dX12_moves_118 : decode cX12_moves 118 = .ok (.iload_n 3, 1) := by decide +kernel
theorem dX12_moves_119 : decode cX12_moves 119 = .ok (.iastore, 1) := by decide +kernel
theorem dX12_moves_120 : decode cX12_moves 120 = .ok (.aload_n 0, 1) := by decide +kernel
theorem dX12_moves_121 : decode cX12_moves 121 = .ok (.getfield 107, 3) := by decide +kernel
theorem dX12_moves_124 : decode cX12_moves 124 = .ok (.iconst 1, 1) := by decide +kernel
theorem dX12_moves_125 : decode cX12_moves 125 = .ok (.aload_n 0, 1) := by decide +kernel
theorem dX12_moves_126 : decode cX12_moves 126 = .ok (.getfield 113, 3) := by decide +kernel
theorem dX12_moves_129 : decode cX12_moves 129 = .ok (.iload_n 1, 1) := by decide +kernel
theorem dX12_moves_130 : decode cX12_moves 130 = .ok (.bipush 10, 2) := by decide +kernel
theorem dX12_moves_132 : decode cX12_moves 132 = .ok (.iadd, 1) := by decide +kernel
theorem dX12_moves_133 : decode cX12_moves 133 = .ok (.iload_n 2, 1) := by decide +kernel
theorem dX12_moves_134 : decode cX12_moves 134 = .ok (.iadd, 1) := by decide +kernel
theorem dX12_moves_135 : decode cX12_moves 135 = .ok (.iaload, 1) := by decide +kernel
theorem dX12_moves_136 : decode cX12_moves 136 = .ok (.iastore, 1) := by decide +kernel
theorem dX12_moves_137 : decode cX12_moves 137 = .ok (.aload_n 0, 1) := by decide +kernel
theorem dX12_moves_138 : decode cX12_moves 138 = .ok (.getfield 107, 3) := by decide +kernel
theorem dX12_moves_141 : decode cX12_moves 141 = .ok (.iconst 2, 1) := by decide +kernel
theorem dX12_moves_142 : decode cX12_moves 142 = .ok (.aload_n 0, 1) := by decide +kernel
theorem dX12_moves_143 : decode cX12_moves 143 = .ok (.getfield 113, 3) := by decide +kernel
theorem dX12_moves_146 : decode cX12_moves 146 = .ok (.iload_n 1, 1) := by decide +kernel
theorem dX12_moves_147 : decode cX12_moves 147 = .ok (.iconst 2, 1) := by decide +kernel
theorem dX12_moves_148 : decode cX12_moves 148 = .ok (.iadd, 1) := by decide +kernel
theorem dX12_moves_149 : decode cX12_moves 149 = .ok (.iload_n 2, 1) := by decide +kernel
theorem dX12_moves_150 : decode cX12_moves 150 = .ok (.iadd, 1) := by decide +kernel
theorem dX12_moves_151 : decode cX12_moves 151 = .ok (.iaload, 1) := by decide +kernel
theorem dX12_moves_152 : decode cX12_moves 152 = .ok (.iastore, 1) := by decide +kernel
theorem dX12_moves_153 : decode cX12_moves 153 = .ok (.aload_n 0, 1) := by decide +kernel
theorem dX12_moves_154 : decode cX12_moves 154 = .ok (.getfield 107, 3) := by decide +kernel
theorem dX12_moves_157 : decode cX12_moves 157 = .ok (.iconst 3, 1) := by decide +kernel
theorem dX12_moves_158 : decode cX12_moves 158 = .ok (.aload_n 0, 1) := by decide +kernel
theorem dX12_moves_159 : decode cX12_moves 159 = .ok (.getfield 113, 3) := by decide +kernel
theorem dX12_moves_162 : decode cX12_moves 162 = .ok (.iload_n 1, 1) := by decide +kernel
theorem dX12_moves_163 : decode cX12_moves 163 = .ok (.iconst 0, 1) := by decide +kernel
theorem dX12_moves_164 : decode cX12_moves 164 = .ok (.iadd, 1) := by decide +kernel
theorem dX12_moves_165 : decode cX12_moves 165 = .ok (.iaload, 1) := by decide +kernel
theorem dX12_moves_166 : decode cX12_moves 166 = .ok (.iastore, 1) := by decide +kernel
theorem dX12_moves_167 : decode cX12_moves 167 = .ok (.aload_n 0, 1) := by decide +kernel
theorem dX12_moves_168 : decode cX12_moves 168 = .ok (.getfield 83, 3) := by decide +kernel
theorem dX12_moves_171 : decode cX12_moves 171 = .ok (.iconst 4, 1) := by decide +kernel
theorem dX12_moves_172 : decode cX12_moves 172 = .ok (.iaload, 1) := by decide +kernel
theorem dX12_moves_173 : decode cX12_moves 173 = .ok (.ifCond .ge 7, 3) := by decide +kernel
theorem dX12_moves_176 : decode cX12_moves 176 = .ok (.iconst 1, 1) := by decide +kernel
theorem dX12_moves_177 : decode cX12_moves 177 = .ok (.goto 13, 3) := by decide +kernel
theorem dX12_moves_180 : decode cX12_moves 180 = .ok (.aload_n 0, 1) := by decide +kernel
theorem dX12_moves_181 : decode cX12_moves 181 = .ok (.aload_n 0, 1) := by decide +kernel
theorem dX12_moves_182 : decode cX12_moves 182 = .ok (.getfield 83, 3) := by decide +kernel
theorem dX12_moves_185 : decode cX12_moves 185 = .ok (.iconst 4, 1) := by decide +kernel
theorem dX12_moves_186 : decode cX12_moves 186 = .ok (.iaload, 1) := by decide +kernel
theorem dX12_moves_187 : decode cX12_moves 187 = .ok (.invokevirtual 304, 3) := by decide +kernel
theorem dX12_moves_190 : decode cX12_moves 190 = .ok (.istore 7, 2) := by decide +kernel
theorem dX12_moves_192 : decode cX12_moves 192 = .ok (.iload 7, 2) := by decide +kernel
theorem dX12_moves_194 : decode cX12_moves 194 = .ok (.ifCond .ge 7, 3) := by decide +kernel
theorem dX12_moves_197 : decode cX12_moves 197 = .ok (.iconst 0, 1) := by decide +kernel
theorem dX12_moves_198 : decode cX12_moves 198 = .ok (.goto 17, 3) := by decide +kernel
theorem dX12_moves_201 : decode cX12_moves 201 = .ok (.iload 7, 2) := by decide +kernel
theorem dX12_moves_203 : decode cX12_moves 203 = .ok (.bipush 9, 2) := by decide +kernel
theorem dX12_moves_205 : decode cX12_moves 205 = .ok (.if_icmp .le 8, 3) := by decide +kernel
theorem dX12_moves_208 : decode cX12_moves 208 = .ok (.bipush 9, 2) := by decide +kernel
theorem dX12_moves_210 : decode cX12_moves 210 = .ok (.goto 5, 3) := by decide +kernel
theorem dX12_moves_213 : decode cX12_moves 213 = .ok (.iload 7, 2) := by decide +kernel
theorem dX12_moves_215 : decode cX12_moves 215 = .ok (.ireturn, 1) := by decide +kernel
def f_X12_moves_190 (w : Nat) (xs0 : Int32) (M : mM) : Option (Int32 × mM) := (if 0 ≤ xs0 then (if xs0 ≤ 9 then some (xs0, M) else some (9, M)) else some (0, M))
set_option maxHeartbeats 4000000 in
set_option maxRecDepth 100000 in
theorem s_X12_moves_190 {l : Launch} {G : mG} {sk : List mS} (w : Nat) (xs0 : Int32) (M : mM) : Go muX12_moves (rm 2) 0 0 l G sk (mFin G sk eI) (f_X12_moves_190 w xs0 M) 190 [] [.int xs0] M := by
  unfold f_X12_moves_190
  refine go_istore [(7, .int xs0)] 192 dX12_moves_190 rfl (by decide) rfl ?_
  refine go_iload 0 194 dX12_moves_192 rfl rfl ?_
  refine go_if_ge 201 197 dX12_moves_194 rfl (by decide) (fun _ => ?_) (fun _ => ?_)
  · refine go_iload 0 203 dX12_moves_201 rfl rfl ?_
    refine go_bipush 9 205 dX12_moves_203 rfl (by decide) ?_
    refine go_icmp_le 213 208 dX12_moves_205 rfl (by decide) (fun _ => ?_) (fun _ => ?_)
    · refine go_iload 0 215 dX12_moves_213 rfl rfl ?_
      exact go_iret rfl dX12_moves_215
    · refine go_bipush 9 210 dX12_moves_208 rfl (by decide) ?_
      refine go_goto 215 dX12_moves_210 (by decide) ?_
      exact go_iret rfl dX12_moves_215
  · refine go_iconst 0 198 dX12_moves_197 rfl (by decide) ?_
    refine go_goto 215 dX12_moves_198 (by decide) ?_
    exact go_iret rfl dX12_moves_215
def f_X12_moves_71 (w : Nat) (o0 : Nat) (x1 : Int32) (x2 : Int32) (x3 : Int32) (x4 : Int32) (x5 : Int32) (xs0 : Int32) (M : mM) : Option (Int32 × mM) := (if x5 < x3 then chk 0 (sL (rF o0 22)) (lt (wI M (rF o0 22) (0 : Int32).toNatClampNeg x3) fun M1 => chk ((x1 + 10) + x2) (sL (rF o0 24)) (chk 1 (sL (rF o0 22)) (lt (wI M1 (rF o0 22) (1 : Int32).toNatClampNeg (M1.1 (rF o0 24) ((x1 + 10) + x2).toNatClampNeg)) fun M2 => chk ((x1 + 2) + x2) (sL (rF o0 24)) (chk 2 (sL (rF o0 22)) (lt (wI M2 (rF o0 22) (2 : Int32).toNatClampNeg (M2.1 (rF o0 24) ((x1 + 2) + x2).toNatClampNeg)) fun M3 => chk (x1 + 0) (sL (rF o0 24)) (chk 3 (sL (rF o0 22)) (lt (wI M3 (rF o0 22) (3 : Int32).toNatClampNeg (M3.1 (rF o0 24) (x1 + 0).toNatClampNeg)) fun M4 => chk 4 (sL (rF o0 10)) ((if 0 ≤ (M4.1 (rF o0 10) (4 : Int32).toNatClampNeg) then chk 4 (sL (rF o0 10)) (bI (f_X12_worthAt w o0 (M4.1 (rF o0 10) (4 : Int32).toNatClampNeg) M4) fun q6 M5 => (f_X12_moves_190 w q6 M5)) else (f_X12_moves_190 w 1 M4)))))))))) else (if x3 < xs0 then (if x4 = 1 then some ((-2), M) else (if x4 = 2 then some ((-3), M) else some ((-1), M))) else some (0, M)))
set_option maxHeartbeats 4000000 in
set_option maxRecDepth 100000 in
theorem s_X12_moves_71 {l : Launch} {G : mG} {sk : List mS} (w : Nat) (o0 : Nat) (h0 : isK o0 22) (x1 : Int32) (x2 : Int32) (x3 : Int32) (x4 : Int32) (x5 : Int32) (xs0 : Int32) (M : mM) : Go muX12_moves (rm 2) 0 0 l G sk (mFin G sk eI) (f_X12_moves_71 w o0 x1 x2 x3 x4 x5 xs0 M) 71 [(0, .ref (gB G + o0)), (1, .int x1), (2, .int x2), (3, .int x3), (4, .int x4), (5, .int x5)] [.int xs0] M := by
  unfold f_X12_moves_71
  refine go_istore [(6, .int xs0), (0, .ref (gB G + o0)), (1, .int x1), (2, .int x2), (3, .int x3), (4, .int x4), (5, .int x5)] 73 dX12_moves_71 rfl (by decide) rfl ?_
  refine go_iload_n 4 74 dX12_moves_73 rfl rfl ?_
  refine go_iload 6 76 dX12_moves_74 rfl rfl ?_
  refine go_icmp_gt 113 79 dX12_moves_76 rfl (by decide) (fun _ => ?_) (fun _ => ?_)
  · refine go_aload_n 1 114 dX12_moves_113 rfl rfl ?_
    refine go_getR flX12_107 h0 117 dX12_moves_114 rfl ?_
    refine go_iconst 0 118 dX12_moves_117 rfl (by decide) ?_
    refine go_iload_n 4 119 dX12_moves_118 rfl rfl ?_
    refine go_iast (rk12_22 h0) 120 dX12_moves_119 rfl ?_
    refine go_nmM (fun M1 => ?_)
    refine go_aload_n 1 121 dX12_moves_120 rfl rfl ?_
    refine go_getR flX12_107 h0 124 dX12_moves_121 rfl ?_
    refine go_iconst 1 125 dX12_moves_124 rfl (by decide) ?_
    refine go_aload_n 1 126 dX12_moves_125 rfl rfl ?_
    refine go_getR flX12_113 h0 129 dX12_moves_126 rfl ?_
    refine go_iload_n 2 130 dX12_moves_129 rfl rfl ?_
    refine go_bipush 10 132 dX12_moves_130 rfl (by decide) ?_
    refine go_iadd 133 dX12_moves_132 rfl ?_
    refine go_iload_n 3 134 dX12_moves_133 rfl rfl ?_
    refine go_iadd 135 dX12_moves_134 rfl ?_
    refine go_iald (rk12_24 h0) 136 dX12_moves_135 rfl ?_
    refine go_iast (rk12_22 h0) 137 dX12_moves_136 rfl ?_
    refine go_nmM (fun M2 => ?_)
    refine go_aload_n 1 138 dX12_moves_137 rfl rfl ?_
    refine go_getR flX12_107 h0 141 dX12_moves_138 rfl ?_
    refine go_iconst 2 142 dX12_moves_141 rfl (by decide) ?_
    refine go_aload_n 1 143 dX12_moves_142 rfl rfl ?_
    refine go_getR flX12_113 h0 146 dX12_moves_143 rfl ?_
    refine go_iload_n 2 147 dX12_moves_146 rfl rfl ?_
    refine go_iconst 2 148 dX12_moves_147 rfl (by decide) ?_
    refine go_iadd 149 dX12_moves_148 rfl ?_
    refine go_iload_n 3 150 dX12_moves_149 rfl rfl ?_
    refine go_iadd 151 dX12_moves_150 rfl ?_
    refine go_iald (rk12_24 h0) 152 dX12_moves_151 rfl ?_
    refine go_iast (rk12_22 h0) 153 dX12_moves_152 rfl ?_
    refine go_nmM (fun M3 => ?_)
    refine go_aload_n 1 154 dX12_moves_153 rfl rfl ?_
    refine go_getR flX12_107 h0 157 dX12_moves_154 rfl ?_
    refine go_iconst 3 158 dX12_moves_157 rfl (by decide) ?_
    refine go_aload_n 1 159 dX12_moves_158 rfl rfl ?_
    refine go_getR flX12_113 h0 162 dX12_moves_159 rfl ?_
    refine go_iload_n 2 163 dX12_moves_162 rfl rfl ?_
    refine go_iconst 0 164 dX12_moves_163 rfl (by decide) ?_
    refine go_iadd 165 dX12_moves_164 rfl ?_
    refine go_iald (rk12_24 h0) 166 dX12_moves_165 rfl ?_
    refine go_iast (rk12_22 h0) 167 dX12_moves_166 rfl ?_
    refine go_nmM (fun M4 => ?_)
    refine go_aload_n 1 168 dX12_moves_167 rfl rfl ?_
    refine go_getR flX12_83 h0 171 dX12_moves_168 rfl ?_
    refine go_iconst 4 172 dX12_moves_171 rfl (by decide) ?_
    refine go_iald (rk12_10 h0) 173 dX12_moves_172 rfl ?_
    refine go_if_ge 180 176 dX12_moves_173 rfl (by decide) (fun _ => ?_) (fun _ => ?_)
    · refine go_aload_n 1 181 dX12_moves_180 rfl rfl ?_
      refine go_aload_n 1 182 dX12_moves_181 rfl rfl ?_
      refine go_getR flX12_83 h0 185 dX12_moves_182 rfl ?_
      refine go_iconst 4 186 dX12_moves_185 rfl (by decide) ?_
      refine go_iald (rk12_10 h0) 187 dX12_moves_186 rfl ?_
      refine go_cVI1 1 clX12 cwX12_304 (m_X12_worthAt w o0 h0 (M4.1 (rF o0 10) (4 : Int32).toNatClampNeg) M4) h0 190 dX12_moves_187 rfl ⟨Nat.le_of_ble_eq_true rfl, Nat.le_of_ble_eq_true rfl⟩ ⟨Nat.zero_le _, Nat.zero_le _⟩ (Nat.le_of_ble_eq_true rfl) (fun q6 M5 _ => ?_)
      exact go_lv [] rfl (s_X12_moves_190 w q6 M5)
    · refine go_iconst 1 177 dX12_moves_176 rfl (by decide) ?_
      refine go_goto 190 dX12_moves_177 (by decide) ?_
      exact go_lv [] rfl (s_X12_moves_190 w 1 M4)
  · refine go_iload_n 4 80 dX12_moves_79 rfl rfl ?_
    refine go_iload 0 82 dX12_moves_80 rfl rfl ?_
    refine go_icmp_lt 89 85 dX12_moves_82 rfl (by decide) (fun _ => ?_) (fun _ => ?_)
    · refine go_iload 5 91 dX12_moves_89 rfl rfl ?_
      refine go_iconst 1 92 dX12_moves_91 rfl (by decide) ?_
      refine go_icmp_ne 100 95 dX12_moves_92 rfl (by decide) (fun _ => ?_) (fun _ => ?_)
      · refine go_iload 5 102 dX12_moves_100 rfl rfl ?_
        refine go_iconst 2 103 dX12_moves_102 rfl (by decide) ?_
        refine go_icmp_ne 111 106 dX12_moves_103 rfl (by decide) (fun _ => ?_) (fun _ => ?_)
        · refine go_iconst (-1) 112 dX12_moves_111 rfl (by decide) ?_
          exact go_iret rfl dX12_moves_112
        · refine go_bipush (-3) 108 dX12_moves_106 rfl (by decide) ?_
          refine go_goto 112 dX12_moves_108 (by decide) ?_
          exact go_iret rfl dX12_moves_112
      · refine go_bipush (-2) 97 dX12_moves_95 rfl (by decide) ?_
        refine go_goto 112 dX12_moves_97 (by decide) ?_
        exact go_iret rfl dX12_moves_112
    · refine go_iconst 0 86 dX12_moves_85 rfl (by decide) ?_
      refine go_goto 112 dX12_moves_86 (by decide) ?_
      exact go_iret rfl dX12_moves_112
def f_X12_moves_39 (w : Nat) (o0 : Nat) (x1 : Int32) (x2 : Int32) (x3 : Int32) (x4 : Int32) (xs0 : Int32) (M : mM) : Option (Int32 × mM) := (if x4 = 0 then (f_X12_moves_71 w o0 x1 x2 x3 x4 xs0 2 M) else (if x4 = 1 then (f_X12_moves_71 w o0 x1 x2 x3 x4 xs0 4 M) else (if x4 = 2 then (f_X12_moves_71 w o0 x1 x2 x3 x4 xs0 1 M) else (f_X12_moves_71 w o0 x1 x2 x3 x4 xs0 3 M))))
set_option maxHeartbeats 4000000 in
set_option maxRecDepth 100000 in
theorem s_X12_moves_39 {l : Launch} {G : mG} {sk : List mS} (w : Nat) (o0 : Nat) (h0 : isK o0 22) (x1 : Int32) (x2 : Int32) (x3 : Int32) (x4 : Int32) (xs0 : Int32) (M : mM) : Go muX12_moves (rm 2) 0 0 l G sk (mFin G sk eI) (f_X12_moves_39 w o0 x1 x2 x3 x4 xs0 M) 39 [(0, .ref (gB G + o0)), (1, .int x1), (2, .int x2), (3, .int x3), (4, .int x4)] [.int xs0] M := by
  unfold f_X12_moves_39
  refine go_istore [(5, .int xs0), (0, .ref (gB G + o0)), (1, .int x1), (2, .int x2), (3, .int x3), (4, .int x4)] 41 dX12_moves_39 rfl (by decide) rfl ?_
  refine go_iload 5 43 dX12_moves_41 rfl rfl ?_
  refine go_if_ne 50 46 dX12_moves_43 rfl (by decide) (fun _ => ?_) (fun _ => ?_)
  · refine go_iload 5 52 dX12_moves_50 rfl rfl ?_
    refine go_iconst 1 53 dX12_moves_52 rfl (by decide) ?_
    refine go_icmp_ne 60 56 dX12_moves_53 rfl (by decide) (fun _ => ?_) (fun _ => ?_)
    · refine go_iload 5 62 dX12_moves_60 rfl rfl ?_
      refine go_iconst 2 63 dX12_moves_62 rfl (by decide) ?_
      refine go_icmp_ne 70 66 dX12_moves_63 rfl (by decide) (fun _ => ?_) (fun _ => ?_)
      · refine go_iconst 3 71 dX12_moves_70 rfl (by decide) ?_
        exact go_lv [1, 2, 3, 4, 5, 0] rfl (s_X12_moves_71 w o0 h0 x1 x2 x3 x4 xs0 3 M)
      · refine go_iconst 1 67 dX12_moves_66 rfl (by decide) ?_
        refine go_goto 71 dX12_moves_67 (by decide) ?_
        exact go_lv [1, 2, 3, 4, 5, 0] rfl (s_X12_moves_71 w o0 h0 x1 x2 x3 x4 xs0 1 M)
    · refine go_iconst 4 57 dX12_moves_56 rfl (by decide) ?_
      refine go_goto 71 dX12_moves_57 (by decide) ?_
      exact go_lv [1, 2, 3, 4, 5, 0] rfl (s_X12_moves_71 w o0 h0 x1 x2 x3 x4 xs0 4 M)
  · refine go_iconst 2 47 dX12_moves_46 rfl (by decide) ?_
    refine go_goto 71 dX12_moves_47 (by decide) ?_
    exact go_lv [1, 2, 3, 4, 5, 0] rfl (s_X12_moves_71 w o0 h0 x1 x2 x3 x4 xs0 2 M)
def f_X12_moves (w : Nat) (o0 : Nat) (x1 : Int32) (x2 : Int32) (x3 : Int32) (M : mM) : Option (Int32 × mM) := bI (f_X12_doorOf w o0 x2 2 M) fun q2 M1 => (if q2 = 0 then (f_X12_moves_39 w o0 x1 x2 x3 q2 6 M1) else (if q2 = 1 then (f_X12_moves_39 w o0 x1 x2 x3 q2 4 M1) else (if q2 = 2 then (f_X12_moves_39 w o0 x1 x2 x3 q2 5 M1) else (f_X12_moves_39 w o0 x1 x2 x3 q2 3 M1))))
set_option maxHeartbeats 4000000 in
set_option maxRecDepth 100000 in
theorem s_X12_moves {l : Launch} {G : mG} {sk : List mS} (w : Nat) (o0 : Nat) (h0 : isK o0 22) (x1 : Int32) (x2 : Int32) (x3 : Int32) (M : mM) : Go muX12_moves (rm 2) 0 0 l G sk (mFin G sk eI) (f_X12_moves w o0 x1 x2 x3 M) 0 [(0, .ref (gB G + o0)), (1, .int x1), (2, .int x2), (3, .int x3)] [] M := by
  unfold f_X12_moves
  refine go_aload_n 0 1 dX12_moves_0 rfl rfl ?_
  refine go_iload_n 2 2 dX12_moves_1 rfl rfl ?_
  refine go_iconst 2 3 dX12_moves_2 rfl (by decide) ?_
  refine go_cVI2 0 clX12 cwX12_276 (m_X12_doorOf w o0 h0 x2 2 M) h0 6 dX12_moves_3 rfl ⟨Nat.le_of_ble_eq_true rfl, Nat.le_of_ble_eq_true rfl⟩ ⟨Nat.zero_le _, Nat.zero_le _⟩ (Nat.le_of_ble_eq_true rfl) (fun q2 M1 _ => ?_)
  refine go_istore [(4, .int q2), (0, .ref (gB G + o0)), (1, .int x1), (2, .int x2), (3, .int x3)] 8 dX12_moves_6 rfl (by decide) rfl ?_
  refine go_iload 0 10 dX12_moves_8 rfl rfl ?_
  refine go_if_ne 18 13 dX12_moves_10 rfl (by decide) (fun _ => ?_) (fun _ => ?_)
  · refine go_iload 0 20 dX12_moves_18 rfl rfl ?_
    refine go_iconst 1 21 dX12_moves_20 rfl (by decide) ?_
    refine go_icmp_ne 28 24 dX12_moves_21 rfl (by decide) (fun _ => ?_) (fun _ => ?_)
    · refine go_iload 0 30 dX12_moves_28 rfl rfl ?_
      refine go_iconst 2 31 dX12_moves_30 rfl (by decide) ?_
      refine go_icmp_ne 38 34 dX12_moves_31 rfl (by decide) (fun _ => ?_) (fun _ => ?_)
      · refine go_iconst 3 39 dX12_moves_38 rfl (by decide) ?_
        exact go_lv [1, 2, 3, 4, 0] rfl (s_X12_moves_39 w o0 h0 x1 x2 x3 q2 3 M1)
      · refine go_iconst 5 35 dX12_moves_34 rfl (by decide) ?_
        refine go_goto 39 dX12_moves_35 (by decide) ?_
        exact go_lv [1, 2, 3, 4, 0] rfl (s_X12_moves_39 w o0 h0 x1 x2 x3 q2 5 M1)
    · refine go_iconst 4 25 dX12_moves_24 rfl (by decide) ?_
      refine go_goto 39 dX12_moves_25 (by decide) ?_
      exact go_lv [1, 2, 3, 4, 0] rfl (s_X12_moves_39 w o0 h0 x1 x2 x3 q2 4 M1)
  · refine go_bipush 6 15 dX12_moves_13 rfl (by decide) ?_
    refine go_goto 39 dX12_moves_15 (by decide) ?_
    exact go_lv [1, 2, 3, 4, 0] rfl (s_X12_moves_39 w o0 h0 x1 x2 x3 q2 6 M1)
theorem m_X12_moves {l : Launch} {G : mG} {sk : List mS} (w : Nat) (o0 : Nat) (h0 : isK o0 22) (x1 : Int32) (x2 : Int32) (x3 : Int32) (M : mM) : Mt l G sk yX12_moves muX12_moves 2 [.ref (gB G + o0), .int x1, .int x2, .int x3] M eI (f_X12_moves w o0 x1 x2 x3 M) := Mt.of (by decide) rfl (Nat.le_of_ble_eq_true rfl) (s_X12_moves w o0 h0 x1 x2 x3 M)
theorem dX12_passes_0 : decode cX12_passes 0 = .ok (.iconst 0, 1) := by decide +kernel
theorem dX12_passes_1 : decode cX12_passes 1 = .ok (.istore_n 3, 1) := by decide +kernel
theorem dX12_passes_2 : decode cX12_passes 2 = .ok (.iload_n 3, 1) := by decide +kernel
theorem dX12_passes_3 : decode cX12_passes 3 = .ok (.aload_n 0, 1) := by decide +kernel
theorem dX12_passes_4 : decode cX12_passes 4 = .ok (.invokevirtual 272, 3) := by decide +kernel
theorem dX12_passes_7 : decode cX12_passes 7 = .ok (.if_icmp .ge 64, 3) := by decide +kernel
theorem dX12_passes_10 : decode cX12_passes 10 = .ok (.aload_n 0, 1) := by decide +kernel
theorem dX12_passes_11 : decode cX12_passes 11 = .ok (.getfield 113, 3) := by decide +kernel
theorem dX12_passes_14 : decode cX12_passes 14 = .ok (.iload_n 1, 1) := by decide +kernel
theorem dX12_passes_15 : decode cX12_passes 15 = .ok (.bipush 10, 2) := by decide +kernel
theorem dX12_passes_17 : decode cX12_passes 17 = .ok (.iadd, 1) := by decide +kernel
theorem dX12_passes_18 : decode cX12_passes 18 = .ok (.iload_n 3, 1) := by decide +kernel
theorem dX12_passes_19 : decode cX12_passes 19 = .ok (.iadd, 1) := by decide +kernel
theorem dX12_passes_20 : decode cX12_passes 20 = .ok (.iaload, 1) := by decide +kernel
theorem dX12_passes_21 : decode cX12_passes 21 = .ok (.aload_n 0, 1) := by decide +kernel
theorem dX12_passes_22 : decode cX12_passes 22 = .ok (.iload_n 1, 1) := by decide +kernel
theorem dX12_passes_23 : decode cX12_passes 23 = .ok (.iload_n 3, 1) := by decide +kernel
theorem dX12_passes_24 : decode cX12_passes 24 = .ok (.iload_n 2, 1) := by decide +kernel
theorem dX12_passes_25 : decode cX12_passes 25 = .ok (.invokevirtual 307, 3) := by decide +kernel
theorem dX12_passes_28 : decode cX12_passes 28 = .ok (.iadd, 1) := by decide +kernel
theorem dX12_passes_29 : decode cX12_passes 29 = .ok (.istore 4, 2) := by decide +kernel
theorem dX12_passes_31 : decode cX12_passes 31 = .ok (.aload_n 0, 1) := by decide +kernel
theorem dX12_passes_32 : decode cX12_passes 32 = .ok (.getfield 113, 3) := by decide +kernel
theorem dX12_passes_35 : decode cX12_passes 35 = .ok (.iload_n 1, 1) := by decide +kernel
theorem dX12_passes_36 : decode cX12_passes 36 = .ok (.bipush 10, 2) := by decide +kernel
theorem dX12_passes_38 : decode cX12_passes 38 = .ok (.iadd, 1) := by decide +kernel
theorem dX12_passes_39 : decode cX12_passes 39 = .ok (.iload_n 3, 1) := by decide +kernel
theorem dX12_passes_40 : decode cX12_passes 40 = .ok (.iadd, 1) := by decide +kernel
theorem dX12_passes_41 : decode cX12_passes 41 = .ok (.iload 4, 2) := by decide +kernel
theorem dX12_passes_43 : decode cX12_passes 43 = .ok (.ifCond .ge 7, 3) := by decide +kernel
theorem dX12_passes_46 : decode cX12_passes 46 = .ok (.iconst 0, 1) := by decide +kernel
theorem dX12_passes_47 : decode cX12_passes 47 = .ok (.goto 17, 3) := by decide +kernel
theorem dX12_passes_50 : decode cX12_passes 50 = .ok (.iload 4, 2) := by decide +kernel
theorem dX12_passes_52 : decode cX12_passes 52 = .ok (.bipush 30, 2) := by decide +kernel
theorem dX12_passes_54 : decode cX12_passes 54 = .ok (.if_icmp .le 8, 3) := by decide +kernel
theorem dX12_passes_57 : decode cX12_passes 57 = .ok (.bipush 30, 2) := by decide +kernel
theorem dX12_passes_59 : decode cX12_passes 59 = .ok (.goto 5, 3) := by decide +kernel
theorem dX12_passes_62 : decode cX12_passes 62 = .ok (.iload 4, 2) := by decide +kernel
theorem dX12_passes_64 : decode cX12_passes 64 = .ok (.iastore, 1) := by decide +kernel
theorem dX12_passes_65 : decode cX12_passes 65 = .ok (.iinc 3 1, 3) := by decide +kernel
theorem dX12_passes_68 : decode cX12_passes 68 = .ok (.goto (-66), 3) := by decide +kernel
theorem dX12_passes_71 : decode cX12_passes 71 = .ok (.aload_n 0, 1) := by decide +kernel
theorem dX12_passes_72 : decode cX12_passes 72 = .ok (.getfield 113, 3) := by decide +kernel
theorem dX12_passes_75 : decode cX12_passes 75 = .ok (.iload_n 1, 1) := by decide +kernel
theorem dX12_passes_76 : decode cX12_passes 76 = .ok (.iconst 0, 1) := by decide +kernel
theorem dX12_passes_77 : decode cX12_passes 77 = .ok (.iadd, 1) := by decide +kernel
theorem dX12_passes_78 : decode cX12_passes 78 = .ok (.dup2, 1) := by decide +kernel
theorem dX12_passes_79 : decode cX12_passes 79 = .ok (.iaload, 1) := by decide +kernel
theorem dX12_passes_80 : decode cX12_passes 80 = .ok (.iconst 1, 1) := by decide +kernel
theorem dX12_passes_81 : decode cX12_passes 81 = .ok (.iadd, 1) := by decide +kernel
theorem dX12_passes_82 : decode cX12_passes 82 = .ok (.iastore, 1) := by decide +kernel
theorem dX12_passes_83 : decode cX12_passes 83 = .ok (.return_, 1) := by decide +kernel
def f_X12_passes_71 (w : Nat) (o0 : Nat) (x1 : Int32) (M : mM) : Option mM := chk (x1 + 0) (sL (rF o0 24)) (chk (x1 + 0) (sL (rF o0 24)) (lt (wI M (rF o0 24) (x1 + 0).toNatClampNeg ((M.1 (rF o0 24) (x1 + 0).toNatClampNeg) + 1)) fun M1 => some M1))
set_option maxHeartbeats 4000000 in
set_option maxRecDepth 100000 in
theorem s_X12_passes_71 {l : Launch} {G : mG} {sk : List mS} (w : Nat) (o0 : Nat) (h0 : isK o0 22) (x1 : Int32) (M : mM) : Go muX12_passes (rm 3) 0 0 l G sk (mFin G sk eV) (f_X12_passes_71 w o0 x1 M) 71 [(0, .ref (gB G + o0)), (1, .int x1)] [] M := by
  unfold f_X12_passes_71
  refine go_aload_n 0 72 dX12_passes_71 rfl rfl ?_
  refine go_getR flX12_113 h0 75 dX12_passes_72 rfl ?_
  refine go_iload_n 1 76 dX12_passes_75 rfl rfl ?_
  refine go_iconst 0 77 dX12_passes_76 rfl (by decide) ?_
  refine go_iadd 78 dX12_passes_77 rfl ?_
  refine go_dup2 79 dX12_passes_78 rfl rfl rfl ?_
  refine go_iald (rk12_24 h0) 80 dX12_passes_79 rfl ?_
  refine go_iconst 1 81 dX12_passes_80 rfl (by decide) ?_
  refine go_iadd 82 dX12_passes_81 rfl ?_
  refine go_iast (rk12_24 h0) 83 dX12_passes_82 rfl ?_
  refine go_nmM (fun M1 => ?_)
  exact go_vret rfl dX12_passes_83
def f_X12_passes_2 (w : Nat) : Nat → Nat → Int32 → Int32 → Int32 → mM → Option mM
  | 0, _, _, _, _, _ => none
  | n + 1, o0, x1, x2, x3, M => bI (f_X12_doors w o0 M) fun q2 M1 => (if q2 ≤ x3 then (f_X12_passes_71 w o0 x1 M1) else chk ((x1 + 10) + x3) (sL (rF o0 24)) (bI (f_X12_moves w o0 x1 x3 x2 M1) fun q4 M3 => lt ((M1.1 (rF o0 24) ((x1 + 10) + x3).toNatClampNeg) + q4) fun y5 => (if 0 ≤ y5 then (if y5 ≤ 30 then chk ((x1 + 10) + x3) (sL (rF o0 24)) (lt (wI M3 (rF o0 24) ((x1 + 10) + x3).toNatClampNeg y5) fun M6 => (f_X12_passes_2 w n o0 x1 x2 (x3 + 1) M6)) else chk ((x1 + 10) + x3) (sL (rF o0 24)) (lt (wI M3 (rF o0 24) ((x1 + 10) + x3).toNatClampNeg 30) fun M7 => (f_X12_passes_2 w n o0 x1 x2 (x3 + 1) M7))) else chk ((x1 + 10) + x3) (sL (rF o0 24)) (lt (wI M3 (rF o0 24) ((x1 + 10) + x3).toNatClampNeg 0) fun M8 => (f_X12_passes_2 w n o0 x1 x2 (x3 + 1) M8)))))
set_option maxHeartbeats 4000000 in
set_option maxRecDepth 100000 in
theorem s_X12_passes_2 {l : Launch} {G : mG} {sk : List mS} (w : Nat) : ∀ (n : Nat) (o0 : Nat) (h0 : isK o0 22) (x1 : Int32) (x2 : Int32) (x3 : Int32) (M : mM), Go muX12_passes (rm 3) 0 0 l G sk (mFin G sk eV) (f_X12_passes_2 w n o0 x1 x2 x3 M) 2 [(0, .ref (gB G + o0)), (1, .int x1), (2, .int x2), (3, .int x3)] [] M := by
  intro n
  induction n with
  | zero =>
    intros
    exact go_none
  | succ n ih =>
    intro o0 h0 x1 x2 x3 M
    rw [f_X12_passes_2]
    refine go_iload_n 3 3 dX12_passes_2 rfl rfl ?_
    refine go_aload_n 0 4 dX12_passes_3 rfl rfl ?_
    refine go_cVI0 0 clX12 cwX12_272 (m_X12_doors w o0 h0 M) h0 7 dX12_passes_4 rfl ⟨Nat.le_of_ble_eq_true rfl, Nat.le_of_ble_eq_true rfl⟩ ⟨Nat.zero_le _, Nat.zero_le _⟩ (Nat.le_of_ble_eq_true rfl) (fun q2 M1 _ => ?_)
    refine go_icmp_ge 71 10 dX12_passes_7 rfl (by decide) (fun _ => ?_) (fun _ => ?_)
    · exact go_lv [0, 1] rfl (s_X12_passes_71 w o0 h0 x1 M1)
    · refine go_aload_n 0 11 dX12_passes_10 rfl rfl ?_
      refine go_getR flX12_113 h0 14 dX12_passes_11 rfl ?_
      refine go_iload_n 1 15 dX12_passes_14 rfl rfl ?_
      refine go_bipush 10 17 dX12_passes_15 rfl (by decide) ?_
      refine go_iadd 18 dX12_passes_17 rfl ?_
      refine go_iload_n 3 19 dX12_passes_18 rfl rfl ?_
      refine go_iadd 20 dX12_passes_19 rfl ?_
      refine go_iald (rk12_24 h0) 21 dX12_passes_20 rfl ?_
      refine go_aload_n 0 22 dX12_passes_21 rfl rfl ?_
      refine go_iload_n 1 23 dX12_passes_22 rfl rfl ?_
      refine go_iload_n 3 24 dX12_passes_23 rfl rfl ?_
      refine go_iload_n 2 25 dX12_passes_24 rfl rfl ?_
      refine go_cVI3 2 clX12 cwX12_307 (m_X12_moves w o0 h0 x1 x3 x2 M1) h0 28 dX12_passes_25 rfl ⟨Nat.le_of_ble_eq_true rfl, Nat.le_of_ble_eq_true rfl⟩ ⟨Nat.zero_le _, Nat.zero_le _⟩ (Nat.le_of_ble_eq_true rfl) (fun q4 M3 _ => ?_)
      refine go_iadd 29 dX12_passes_28 rfl ?_
      refine go_nmI (fun y5 => ?_)
      refine go_istore [(4, .int y5), (0, .ref (gB G + o0)), (1, .int x1), (2, .int x2), (3, .int x3)] 31 dX12_passes_29 rfl (by decide) rfl ?_
      refine go_aload_n 1 32 dX12_passes_31 rfl rfl ?_
      refine go_getR flX12_113 h0 35 dX12_passes_32 rfl ?_
      refine go_iload_n 2 36 dX12_passes_35 rfl rfl ?_
      refine go_bipush 10 38 dX12_passes_36 rfl (by decide) ?_
      refine go_iadd 39 dX12_passes_38 rfl ?_
      refine go_iload_n 4 40 dX12_passes_39 rfl rfl ?_
      refine go_iadd 41 dX12_passes_40 rfl ?_
      refine go_iload 0 43 dX12_passes_41 rfl rfl ?_
      refine go_if_ge 50 46 dX12_passes_43 rfl (by decide) (fun _ => ?_) (fun _ => ?_)
      · refine go_iload 0 52 dX12_passes_50 rfl rfl ?_
        refine go_bipush 30 54 dX12_passes_52 rfl (by decide) ?_
        refine go_icmp_le 62 57 dX12_passes_54 rfl (by decide) (fun _ => ?_) (fun _ => ?_)
        · refine go_iload 0 64 dX12_passes_62 rfl rfl ?_
          refine go_iast (rk12_24 h0) 65 dX12_passes_64 rfl ?_
          refine go_nmM (fun M6 => ?_)
          refine go_iinc (x3 + 1) 4 [(3, .int (x3 + 1)), (4, .int y5), (0, .ref (gB G + o0)), (1, .int x1), (2, .int x2)] 68 dX12_passes_65 rfl rfl rfl (by decide) rfl ?_
          refine go_goto 2 dX12_passes_68 (by decide) ?_
          exact go_lv [2, 3, 4, 0] rfl (ih o0 h0 x1 x2 (x3 + 1) M6)
        · refine go_bipush 30 59 dX12_passes_57 rfl (by decide) ?_
          refine go_goto 64 dX12_passes_59 (by decide) ?_
          refine go_iast (rk12_24 h0) 65 dX12_passes_64 rfl ?_
          refine go_nmM (fun M7 => ?_)
          refine go_iinc (x3 + 1) 4 [(3, .int (x3 + 1)), (4, .int y5), (0, .ref (gB G + o0)), (1, .int x1), (2, .int x2)] 68 dX12_passes_65 rfl rfl rfl (by decide) rfl ?_
          refine go_goto 2 dX12_passes_68 (by decide) ?_
          exact go_lv [2, 3, 4, 0] rfl (ih o0 h0 x1 x2 (x3 + 1) M7)
      · refine go_iconst 0 47 dX12_passes_46 rfl (by decide) ?_
        refine go_goto 64 dX12_passes_47 (by decide) ?_
        refine go_iast (rk12_24 h0) 65 dX12_passes_64 rfl ?_
        refine go_nmM (fun M8 => ?_)
        refine go_iinc (x3 + 1) 4 [(3, .int (x3 + 1)), (4, .int y5), (0, .ref (gB G + o0)), (1, .int x1), (2, .int x2)] 68 dX12_passes_65 rfl rfl rfl (by decide) rfl ?_
        refine go_goto 2 dX12_passes_68 (by decide) ?_
        exact go_lv [2, 3, 4, 0] rfl (ih o0 h0 x1 x2 (x3 + 1) M8)
def f_X12_passes (w : Nat) (o0 : Nat) (x1 : Int32) (x2 : Int32) (M : mM) : Option mM := (f_X12_passes_2 w w o0 x1 x2 0 M)
set_option maxHeartbeats 4000000 in
set_option maxRecDepth 100000 in
theorem s_X12_passes {l : Launch} {G : mG} {sk : List mS} (w : Nat) (o0 : Nat) (h0 : isK o0 22) (x1 : Int32) (x2 : Int32) (M : mM) : Go muX12_passes (rm 3) 0 0 l G sk (mFin G sk eV) (f_X12_passes w o0 x1 x2 M) 0 [(0, .ref (gB G + o0)), (1, .int x1), (2, .int x2)] [] M := by
  unfold f_X12_passes
  refine go_iconst 0 1 dX12_passes_0 rfl (by decide) ?_
  refine go_istore_n [(3, .int 0), (0, .ref (gB G + o0)), (1, .int x1), (2, .int x2)] 2 dX12_passes_1 rfl rfl (by decide) rfl ?_
  exact go_lv [1, 2, 3, 0] rfl (s_X12_passes_2 w w o0 h0 x1 x2 0 M)
theorem m_X12_passes {l : Launch} {G : mG} {sk : List mS} (w : Nat) (o0 : Nat) (h0 : isK o0 22) (x1 : Int32) (x2 : Int32) (M : mM) : Mt l G sk yX12_passes muX12_passes 3 [.ref (gB G + o0), .int x1, .int x2] M eV (f_X12_passes w o0 x1 x2 M) := Mt.of (by decide) rfl (Nat.le_of_ble_eq_true rfl) (s_X12_passes w o0 h0 x1 x2 M)
theorem dX12_passes__0 : decode cX12_passes_ 0 = .ok (.aload_n 0, 1) := by decide +kernel
theorem dX12_passes__1 : decode cX12_passes_ 1 = .ok (.iload_n 1, 1) := by decide +kernel
theorem dX12_passes__2 : decode cX12_passes_ 2 = .ok (.aload_n 0, 1) := by decide +kernel
theorem dX12_passes__3 : decode cX12_passes_ 3 = .ok (.aload_n 0, 1) := by decide +kernel
theorem dX12_passes__4 : decode cX12_passes_ 4 = .ok (.getfield 113, 3) := by decide +kernel
theorem dX12_passes__7 : decode cX12_passes_ 7 = .ok (.iload_n 1, 1) := by decide +kernel
theorem dX12_passes__8 : decode cX12_passes_ 8 = .ok (.iconst 0, 1) := by decide +kernel
theorem dX12_passes__9 : decode cX12_passes_ 9 = .ok (.iadd, 1) := by decide +kernel
theorem dX12_passes__10 : decode cX12_passes_ 10 = .ok (.iaload, 1) := by decide +kernel
theorem dX12_passes__11 : decode cX12_passes_ 11 = .ok (.invokevirtual 310, 3) := by decide +kernel
theorem dX12_passes__14 : decode cX12_passes_ 14 = .ok (.invokevirtual 313, 3) := by decide +kernel
theorem dX12_passes__17 : decode cX12_passes_ 17 = .ok (.return_, 1) := by decide +kernel
def f_X12_passes_ (w : Nat) (o0 : Nat) (x1 : Int32) (M : mM) : Option mM := chk (x1 + 0) (sL (rF o0 24)) (bI (f_X12_dampOn w o0 (M.1 (rF o0 24) (x1 + 0).toNatClampNeg) M) fun q2 M1 => bV (f_X12_passes w o0 x1 q2 M1) fun M3 => some M3)
set_option maxHeartbeats 4000000 in
set_option maxRecDepth 100000 in
theorem s_X12_passes_ {l : Launch} {G : mG} {sk : List mS} (w : Nat) (o0 : Nat) (h0 : isK o0 22) (x1 : Int32) (M : mM) : Go muX12_passes_ (rm 4) 0 0 l G sk (mFin G sk eV) (f_X12_passes_ w o0 x1 M) 0 [(0, .ref (gB G + o0)), (1, .int x1)] [] M := by
  unfold f_X12_passes_
  refine go_aload_n 0 1 dX12_passes__0 rfl rfl ?_
  refine go_iload_n 1 2 dX12_passes__1 rfl rfl ?_
  refine go_aload_n 0 3 dX12_passes__2 rfl rfl ?_
  refine go_aload_n 0 4 dX12_passes__3 rfl rfl ?_
  refine go_getR flX12_113 h0 7 dX12_passes__4 rfl ?_
  refine go_iload_n 1 8 dX12_passes__7 rfl rfl ?_
  refine go_iconst 0 9 dX12_passes__8 rfl (by decide) ?_
  refine go_iadd 10 dX12_passes__9 rfl ?_
  refine go_iald (rk12_24 h0) 11 dX12_passes__10 rfl ?_
  refine go_cVI1 0 clX12 cwX12_310 (m_X12_dampOn w o0 h0 (M.1 (rF o0 24) (x1 + 0).toNatClampNeg) M) h0 14 dX12_passes__11 rfl ⟨Nat.le_of_ble_eq_true rfl, Nat.le_of_ble_eq_true rfl⟩ ⟨Nat.zero_le _, Nat.zero_le _⟩ (Nat.le_of_ble_eq_true rfl) (fun q2 M1 _ => ?_)
  refine go_cVV2 3 clX12 cwX12_313 (m_X12_passes w o0 h0 x1 q2 M1) h0 17 dX12_passes__14 rfl ⟨Nat.le_of_ble_eq_true rfl, Nat.le_of_ble_eq_true rfl⟩ ⟨Nat.zero_le _, Nat.zero_le _⟩ (Nat.le_of_ble_eq_true rfl) (fun M3 _ => ?_)
  exact go_vret rfl dX12_passes__17
theorem m_X12_passes_ {l : Launch} {G : mG} {sk : List mS} (w : Nat) (o0 : Nat) (h0 : isK o0 22) (x1 : Int32) (M : mM) : Mt l G sk yX12_passes_ muX12_passes_ 4 [.ref (gB G + o0), .int x1] M eV (f_X12_passes_ w o0 x1 M) := Mt.of (by decide) rfl (Nat.le_of_ble_eq_true rfl) (s_X12_passes_ w o0 h0 x1 M)
theorem dX12_behind_0 : decode cX12_behind 0 = .ok (.aload_n 0, 1) := by decide +kernel
theorem dX12_behind_1 : decode cX12_behind 1 = .ok (.iload_n 1, 1) := by decide +kernel
theorem dX12_behind_2 : decode cX12_behind 2 = .ok (.iconst 0, 1) := by decide +kernel
theorem dX12_behind_3 : decode cX12_behind 3 = .ok (.invokevirtual 276, 3) := by decide +kernel
theorem dX12_behind_6 : decode cX12_behind 6 = .ok (.iload_n 2, 1) := by decide +kernel
theorem dX12_behind_7 : decode cX12_behind 7 = .ok (.if_icmp .ne 12, 3) := by decide +kernel
theorem dX12_behind_10 : decode cX12_behind 10 = .ok (.aload_n 0, 1) := by decide +kernel
theorem dX12_behind_11 : decode cX12_behind 11 = .ok (.iload_n 1, 1) := by decide +kernel
theorem dX12_behind_12 : decode cX12_behind 12 = .ok (.iconst 1, 1) := by decide +kernel
theorem dX12_behind_13 : decode cX12_behind 13 = .ok (.invokevirtual 276, 3) := by decide +kernel
theorem dX12_behind_16 : decode cX12_behind 16 = .ok (.goto 23, 3) := by decide +kernel
theorem dX12_behind_19 : decode cX12_behind 19 = .ok (.aload_n 0, 1) := by decide +kernel
theorem dX12_behind_20 : decode cX12_behind 20 = .ok (.iload_n 1, 1) := by decide +kernel
theorem dX12_behind_21 : decode cX12_behind 21 = .ok (.iconst 1, 1) := by decide +kernel
theorem dX12_behind_22 : decode cX12_behind 22 = .ok (.invokevirtual 276, 3) := by decide +kernel
theorem dX12_behind_25 : decode cX12_behind 25 = .ok (.iload_n 2, 1) := by decide +kernel
theorem dX12_behind_26 : decode cX12_behind 26 = .ok (.if_icmp .ne 12, 3) := by decide +kernel
theorem dX12_behind_29 : decode cX12_behind 29 = .ok (.aload_n 0, 1) := by decide +kernel
theorem dX12_behind_30 : decode cX12_behind 30 = .ok (.iload_n 1, 1) := by decide +kernel
theorem dX12_behind_31 : decode cX12_behind 31 = .ok (.iconst 0, 1) := by decide +kernel
theorem dX12_behind_32 : decode cX12_behind 32 = .ok (.invokevirtual 276, 3) := by decide +kernel
theorem dX12_behind_35 : decode cX12_behind 35 = .ok (.goto 4, 3) := by decide +kernel
theorem dX12_behind_38 : decode cX12_behind 38 = .ok (.iconst (-1), 1) := by decide +kernel
theorem dX12_behind_39 : decode cX12_behind 39 = .ok (.ireturn, 1) := by decide +kernel
def f_X12_behind (w : Nat) (o0 : Nat) (x1 : Int32) (x2 : Int32) (M : mM) : Option (Int32 × mM) := bI (f_X12_doorOf w o0 x1 0 M) fun q2 M1 => (if q2 = x2 then bI (f_X12_doorOf w o0 x1 1 M1) fun q8 M7 => some (q8, M7) else bI (f_X12_doorOf w o0 x1 1 M1) fun q4 M3 => (if q4 = x2 then bI (f_X12_doorOf w o0 x1 0 M3) fun q6 M5 => some (q6, M5) else some ((-1), M3)))
set_option maxHeartbeats 4000000 in
set_option maxRecDepth 100000 in
theorem s_X12_behind {l : Launch} {G : mG} {sk : List mS} (w : Nat) (o0 : Nat) (h0 : isK o0 22) (x1 : Int32) (x2 : Int32) (M : mM) : Go muX12_behind (rm 1) 0 0 l G sk (mFin G sk eI) (f_X12_behind w o0 x1 x2 M) 0 [(0, .ref (gB G + o0)), (1, .int x1), (2, .int x2)] [] M := by
  unfold f_X12_behind
  refine go_aload_n 0 1 dX12_behind_0 rfl rfl ?_
  refine go_iload_n 1 2 dX12_behind_1 rfl rfl ?_
  refine go_iconst 0 3 dX12_behind_2 rfl (by decide) ?_
  refine go_cVI2 0 clX12 cwX12_276 (m_X12_doorOf w o0 h0 x1 0 M) h0 6 dX12_behind_3 rfl ⟨Nat.le_of_ble_eq_true rfl, Nat.le_of_ble_eq_true rfl⟩ ⟨Nat.zero_le _, Nat.zero_le _⟩ (Nat.le_of_ble_eq_true rfl) (fun q2 M1 _ => ?_)
  refine go_iload_n 2 7 dX12_behind_6 rfl rfl ?_
  refine go_icmp_ne 19 10 dX12_behind_7 rfl (by decide) (fun _ => ?_) (fun _ => ?_)
  · refine go_aload_n 0 20 dX12_behind_19 rfl rfl ?_
    refine go_iload_n 1 21 dX12_behind_20 rfl rfl ?_
    refine go_iconst 1 22 dX12_behind_21 rfl (by decide) ?_
    refine go_cVI2 0 clX12 cwX12_276 (m_X12_doorOf w o0 h0 x1 1 M1) h0 25 dX12_behind_22 rfl ⟨Nat.le_of_ble_eq_true rfl, Nat.le_of_ble_eq_true rfl⟩ ⟨Nat.zero_le _, Nat.zero_le _⟩ (Nat.le_of_ble_eq_true rfl) (fun q4 M3 _ => ?_)
    refine go_iload_n 2 26 dX12_behind_25 rfl rfl ?_
    refine go_icmp_ne 38 29 dX12_behind_26 rfl (by decide) (fun _ => ?_) (fun _ => ?_)
    · refine go_iconst (-1) 39 dX12_behind_38 rfl (by decide) ?_
      exact go_iret rfl dX12_behind_39
    · refine go_aload_n 0 30 dX12_behind_29 rfl rfl ?_
      refine go_iload_n 1 31 dX12_behind_30 rfl rfl ?_
      refine go_iconst 0 32 dX12_behind_31 rfl (by decide) ?_
      refine go_cVI2 0 clX12 cwX12_276 (m_X12_doorOf w o0 h0 x1 0 M3) h0 35 dX12_behind_32 rfl ⟨Nat.le_of_ble_eq_true rfl, Nat.le_of_ble_eq_true rfl⟩ ⟨Nat.zero_le _, Nat.zero_le _⟩ (Nat.le_of_ble_eq_true rfl) (fun q6 M5 _ => ?_)
      refine go_goto 39 dX12_behind_35 (by decide) ?_
      exact go_iret rfl dX12_behind_39
  · refine go_aload_n 0 11 dX12_behind_10 rfl rfl ?_
    refine go_iload_n 1 12 dX12_behind_11 rfl rfl ?_
    refine go_iconst 1 13 dX12_behind_12 rfl (by decide) ?_
    refine go_cVI2 0 clX12 cwX12_276 (m_X12_doorOf w o0 h0 x1 1 M1) h0 16 dX12_behind_13 rfl ⟨Nat.le_of_ble_eq_true rfl, Nat.le_of_ble_eq_true rfl⟩ ⟨Nat.zero_le _, Nat.zero_le _⟩ (Nat.le_of_ble_eq_true rfl) (fun q8 M7 _ => ?_)
    refine go_goto 39 dX12_behind_16 (by decide) ?_
    exact go_iret rfl dX12_behind_39
theorem m_X12_behind {l : Launch} {G : mG} {sk : List mS} (w : Nat) (o0 : Nat) (h0 : isK o0 22) (x1 : Int32) (x2 : Int32) (M : mM) : Mt l G sk yX12_behind muX12_behind 1 [.ref (gB G + o0), .int x1, .int x2] M eI (f_X12_behind w o0 x1 x2 M) := Mt.of (by decide) rfl (Nat.le_of_ble_eq_true rfl) (s_X12_behind w o0 h0 x1 x2 M)
theorem dX12_mayWalk_0 : decode cX12_mayWalk 0 = .ok (.aload_n 0, 1) := by decide +kernel
theorem dX12_mayWalk_1 : decode cX12_mayWalk 1 = .ok (.iload_n 1, 1) := by decide +kernel
theorem dX12_mayWalk_2 : decode cX12_mayWalk 2 = .ok (.iload_n 3, 1) := by decide +kernel
theorem dX12_mayWalk_3 : decode cX12_mayWalk 3 = .ok (.invokevirtual 301, 3) := by decide +kernel
theorem dX12_mayWalk_6 : decode cX12_mayWalk 6 = .ok (.ifCond .ne 26, 3) := by decide +kernel
theorem dX12_mayWalk_9 : decode cX12_mayWalk 9 = .ok (.aload_n 0, 1) := by decide +kernel
theorem dX12_mayWalk_10 : decode cX12_mayWalk 10 = .ok (.iload_n 3, 1) := by decide +kernel
theorem dX12_mayWalk_11 : decode cX12_mayWalk 11 = .ok (.aload_n 0, 1) := by decide +kernel
theorem dX12_mayWalk_12 : decode cX12_mayWalk 12 = .ok (.getfield 113, 3) := by decide +kernel
theorem dX12_mayWalk_15 : decode cX12_mayWalk 15 = .ok (.iload_n 1, 1) := by decide +kernel
theorem dX12_mayWalk_16 : decode cX12_mayWalk 16 = .ok (.bipush 18, 2) := by decide +kernel
theorem dX12_mayWalk_18 : decode cX12_mayWalk 18 = .ok (.iadd, 1) := by decide +kernel
theorem dX12_mayWalk_19 : decode cX12_mayWalk 19 = .ok (.iload_n 2, 1) := by decide +kernel
theorem dX12_mayWalk_20 : decode cX12_mayWalk 20 = .ok (.iadd, 1) := by decide +kernel
theorem dX12_mayWalk_21 : decode cX12_mayWalk 21 = .ok (.iaload, 1) := by decide +kernel
theorem dX12_mayWalk_22 : decode cX12_mayWalk 22 = .ok (.invokevirtual 316, 3) := by decide +kernel
theorem dX12_mayWalk_25 : decode cX12_mayWalk 25 = .ok (.ifCond .lt 7, 3) := by decide +kernel
theorem dX12_mayWalk_28 : decode cX12_mayWalk 28 = .ok (.iconst 1, 1) := by decide +kernel
theorem dX12_mayWalk_29 : decode cX12_mayWalk 29 = .ok (.goto 4, 3) := by decide +kernel
theorem dX12_mayWalk_32 : decode cX12_mayWalk 32 = .ok (.iconst 0, 1) := by decide +kernel
theorem dX12_mayWalk_33 : decode cX12_mayWalk 33 = .ok (.ireturn, 1) := by decide +kernel
def f_X12_mayWalk (w : Nat) (o0 : Nat) (x1 : Int32) (x2 : Int32) (x3 : Int32) (M : mM) : Option (Int32 × mM) := bI (f_X12_doesStick w o0 x1 x3 M) fun q2 M1 => (if q2 = 0 then chk ((x1 + 18) + x2) (sL (rF o0 24)) (bI (f_X12_behind w o0 x3 (M1.1 (rF o0 24) ((x1 + 18) + x2).toNatClampNeg) M1) fun q4 M3 => (if q4 < 0 then rtB 0 M3 else rtB 1 M3)) else rtB 0 M1)
set_option maxHeartbeats 4000000 in
set_option maxRecDepth 100000 in
theorem s_X12_mayWalk {l : Launch} {G : mG} {sk : List mS} (w : Nat) (o0 : Nat) (h0 : isK o0 22) (x1 : Int32) (x2 : Int32) (x3 : Int32) (M : mM) : Go muX12_mayWalk (rm 2) 0 0 l G sk (mFin G sk eI) (f_X12_mayWalk w o0 x1 x2 x3 M) 0 [(0, .ref (gB G + o0)), (1, .int x1), (2, .int x2), (3, .int x3)] [] M := by
  unfold f_X12_mayWalk
  refine go_aload_n 0 1 dX12_mayWalk_0 rfl rfl ?_
  refine go_iload_n 1 2 dX12_mayWalk_1 rfl rfl ?_
  refine go_iload_n 3 3 dX12_mayWalk_2 rfl rfl ?_
  refine go_cVI2 1 clX12 cwX12_301 (m_X12_doesStick w o0 h0 x1 x3 M) h0 6 dX12_mayWalk_3 rfl ⟨Nat.le_of_ble_eq_true rfl, Nat.le_of_ble_eq_true rfl⟩ ⟨Nat.zero_le _, Nat.zero_le _⟩ (Nat.le_of_ble_eq_true rfl) (fun q2 M1 _ => ?_)
  refine go_if_ne 32 9 dX12_mayWalk_6 rfl (by decide) (fun _ => ?_) (fun _ => ?_)
  · refine go_iconst 0 33 dX12_mayWalk_32 rfl (by decide) ?_
    exact go_zret rfl dX12_mayWalk_33
  · refine go_aload_n 0 10 dX12_mayWalk_9 rfl rfl ?_
    refine go_iload_n 3 11 dX12_mayWalk_10 rfl rfl ?_
    refine go_aload_n 0 12 dX12_mayWalk_11 rfl rfl ?_
    refine go_getR flX12_113 h0 15 dX12_mayWalk_12 rfl ?_
    refine go_iload_n 1 16 dX12_mayWalk_15 rfl rfl ?_
    refine go_bipush 18 18 dX12_mayWalk_16 rfl (by decide) ?_
    refine go_iadd 19 dX12_mayWalk_18 rfl ?_
    refine go_iload_n 2 20 dX12_mayWalk_19 rfl rfl ?_
    refine go_iadd 21 dX12_mayWalk_20 rfl ?_
    refine go_iald (rk12_24 h0) 22 dX12_mayWalk_21 rfl ?_
    refine go_cVI2 1 clX12 cwX12_316 (m_X12_behind w o0 h0 x3 (M1.1 (rF o0 24) ((x1 + 18) + x2).toNatClampNeg) M1) h0 25 dX12_mayWalk_22 rfl ⟨Nat.le_of_ble_eq_true rfl, Nat.le_of_ble_eq_true rfl⟩ ⟨Nat.zero_le _, Nat.zero_le _⟩ (Nat.le_of_ble_eq_true rfl) (fun q4 M3 _ => ?_)
    refine go_if_lt 32 28 dX12_mayWalk_25 rfl (by decide) (fun _ => ?_) (fun _ => ?_)
    · refine go_iconst 0 33 dX12_mayWalk_32 rfl (by decide) ?_
      exact go_zret rfl dX12_mayWalk_33
    · refine go_iconst 1 29 dX12_mayWalk_28 rfl (by decide) ?_
      refine go_goto 33 dX12_mayWalk_29 (by decide) ?_
      exact go_zret rfl dX12_mayWalk_33
theorem m_X12_mayWalk {l : Launch} {G : mG} {sk : List mS} (w : Nat) (o0 : Nat) (h0 : isK o0 22) (x1 : Int32) (x2 : Int32) (x3 : Int32) (M : mM) : Mt l G sk yX12_mayWalk muX12_mayWalk 2 [.ref (gB G + o0), .int x1, .int x2, .int x3] M eI (f_X12_mayWalk w o0 x1 x2 x3 M) := Mt.of (by decide) rfl (Nat.le_of_ble_eq_true rfl) (s_X12_mayWalk w o0 h0 x1 x2 x3 M)
theorem dX12_mayForce_0 : decode cX12_mayForce 0 = .ok (.aload_n 0, 1) := by decide +kernel
theorem dX12_mayForce_1 : decode cX12_mayForce 1 = .ok (.iload_n 1, 1) := by decide +kernel
theorem dX12_mayForce_2 : decode cX12_mayForce 2 = .ok (.iload_n 2, 1) := by decide +kernel
theorem dX12_mayForce_3 : decode cX12_mayForce 3 = .ok (.invokevirtual 301, 3) := by decide +kernel
theorem dX12_mayForce_6 : decode cX12_mayForce 6 = .ok (.ifCond .eq 17, 3) := by decide +kernel
theorem dX12_mayForce_9 : decode cX12_mayForce 9 = .ok (.aload_n 0, 1) := by decide +kernel
theorem dX12_mayForce_10 : decode cX12_mayForce 10 = .ok (.iload_n 1, 1) := by decide +kernel
theorem dX12_mayForce_11 : decode cX12_mayForce 11 = .ok (.iload_n 2, 1) := by decide +kernel
theorem dX12_mayForce_12 : decode cX12_mayForce 12 = .ok (.invokevirtual 294, 3) := by decide +kernel
theorem dX12_mayForce_15 : decode cX12_mayForce 15 = .ok (.iconst 2, 1) := by decide +kernel
theorem dX12_mayForce_16 : decode cX12_mayForce 16 = .ok (.if_icmp .gt 7, 3) := by decide +kernel
theorem dX12_mayForce_19 : decode cX12_mayForce 19 = .ok (.iconst 1, 1) := by decide +kernel
theorem dX12_mayForce_20 : decode cX12_mayForce 20 = .ok (.goto 4, 3) := by decide +kernel
theorem dX12_mayForce_23 : decode cX12_mayForce 23 = .ok (.iconst 0, 1) := by decide +kernel
theorem dX12_mayForce_24 : decode cX12_mayForce 24 = .ok (.ireturn, 1) := by decide +kernel
def f_X12_mayForce (w : Nat) (o0 : Nat) (x1 : Int32) (x2 : Int32) (M : mM) : Option (Int32 × mM) := bI (f_X12_doesStick w o0 x1 x2 M) fun q2 M1 => (if q2 = 0 then rtB 0 M1 else bI (f_X12_overOf w o0 x1 x2 M1) fun q4 M3 => (if 2 < q4 then rtB 0 M3 else rtB 1 M3))
set_option maxHeartbeats 4000000 in
set_option maxRecDepth 100000 in
theorem s_X12_mayForce {l : Launch} {G : mG} {sk : List mS} (w : Nat) (o0 : Nat) (h0 : isK o0 22) (x1 : Int32) (x2 : Int32) (M : mM) : Go muX12_mayForce (rm 2) 0 0 l G sk (mFin G sk eI) (f_X12_mayForce w o0 x1 x2 M) 0 [(0, .ref (gB G + o0)), (1, .int x1), (2, .int x2)] [] M := by
  unfold f_X12_mayForce
  refine go_aload_n 0 1 dX12_mayForce_0 rfl rfl ?_
  refine go_iload_n 1 2 dX12_mayForce_1 rfl rfl ?_
  refine go_iload_n 2 3 dX12_mayForce_2 rfl rfl ?_
  refine go_cVI2 1 clX12 cwX12_301 (m_X12_doesStick w o0 h0 x1 x2 M) h0 6 dX12_mayForce_3 rfl ⟨Nat.le_of_ble_eq_true rfl, Nat.le_of_ble_eq_true rfl⟩ ⟨Nat.zero_le _, Nat.zero_le _⟩ (Nat.le_of_ble_eq_true rfl) (fun q2 M1 _ => ?_)
  refine go_if_eq 23 9 dX12_mayForce_6 rfl (by decide) (fun _ => ?_) (fun _ => ?_)
  · refine go_iconst 0 24 dX12_mayForce_23 rfl (by decide) ?_
    exact go_zret rfl dX12_mayForce_24
  · refine go_aload_n 0 10 dX12_mayForce_9 rfl rfl ?_
    refine go_iload_n 1 11 dX12_mayForce_10 rfl rfl ?_
    refine go_iload_n 2 12 dX12_mayForce_11 rfl rfl ?_
    refine go_cVI2 0 clX12 cwX12_294 (m_X12_overOf w o0 h0 x1 x2 M1) h0 15 dX12_mayForce_12 rfl ⟨Nat.le_of_ble_eq_true rfl, Nat.le_of_ble_eq_true rfl⟩ ⟨Nat.zero_le _, Nat.zero_le _⟩ (Nat.le_of_ble_eq_true rfl) (fun q4 M3 _ => ?_)
    refine go_iconst 2 16 dX12_mayForce_15 rfl (by decide) ?_
    refine go_icmp_gt 23 19 dX12_mayForce_16 rfl (by decide) (fun _ => ?_) (fun _ => ?_)
    · refine go_iconst 0 24 dX12_mayForce_23 rfl (by decide) ?_
      exact go_zret rfl dX12_mayForce_24
    · refine go_iconst 1 20 dX12_mayForce_19 rfl (by decide) ?_
      refine go_goto 24 dX12_mayForce_20 (by decide) ?_
      exact go_zret rfl dX12_mayForce_24
theorem m_X12_mayForce {l : Launch} {G : mG} {sk : List mS} (w : Nat) (o0 : Nat) (h0 : isK o0 22) (x1 : Int32) (x2 : Int32) (M : mM) : Mt l G sk yX12_mayForce muX12_mayForce 2 [.ref (gB G + o0), .int x1, .int x2] M eI (f_X12_mayForce w o0 x1 x2 M) := Mt.of (by decide) rfl (Nat.le_of_ble_eq_true rfl) (s_X12_mayForce w o0 h0 x1 x2 M)
theorem dX12_mayWedge_0 : decode cX12_mayWedge 0 = .ok (.aload_n 0, 1) := by decide +kernel
theorem dX12_mayWedge_1 : decode cX12_mayWedge 1 = .ok (.iload_n 1, 1) := by decide +kernel
theorem dX12_mayWedge_2 : decode cX12_mayWedge 2 = .ok (.iload_n 2, 1) := by decide +kernel
theorem dX12_mayWedge_3 : decode cX12_mayWedge 3 = .ok (.invokevirtual 297, 3) := by decide +kernel
theorem dX12_mayWedge_6 : decode cX12_mayWedge 6 = .ok (.ifCond .ne 12, 3) := by decide +kernel
theorem dX12_mayWedge_9 : decode cX12_mayWedge 9 = .ok (.aload_n 0, 1) := by decide +kernel
theorem dX12_mayWedge_10 : decode cX12_mayWedge 10 = .ok (.iload_n 1, 1) := by decide +kernel
theorem dX12_mayWedge_11 : decode cX12_mayWedge 11 = .ok (.iload_n 2, 1) := by decide +kernel
theorem dX12_mayWedge_12 : decode cX12_mayWedge 12 = .ok (.invokevirtual 301, 3) := by decide +kernel
theorem dX12_mayWedge_15 : decode cX12_mayWedge 15 = .ok (.ifCond .ne 7, 3) := by decide +kernel
theorem dX12_mayWedge_18 : decode cX12_mayWedge 18 = .ok (.iconst 1, 1) := by decide +kernel
theorem dX12_mayWedge_19 : decode cX12_mayWedge 19 = .ok (.goto 4, 3) := by decide +kernel
theorem dX12_mayWedge_22 : decode cX12_mayWedge 22 = .ok (.iconst 0, 1) := by decide +kernel
theorem dX12_mayWedge_23 : decode cX12_mayWedge 23 = .ok (.ireturn, 1) := by decide +kernel
def f_X12_mayWedge_18 (w : Nat) (M : mM) : Option (Int32 × mM) := rtB 1 M
set_option maxHeartbeats 4000000 in
set_option maxRecDepth 100000 in
theorem s_X12_mayWedge_18 {l : Launch} {G : mG} {sk : List mS} (w : Nat) (M : mM) : Go muX12_mayWedge (rm 2) 0 0 l G sk (mFin G sk eI) (f_X12_mayWedge_18 w M) 18 [] [] M := by
  unfold f_X12_mayWedge_18
  refine go_iconst 1 19 dX12_mayWedge_18 rfl (by decide) ?_
  refine go_goto 23 dX12_mayWedge_19 (by decide) ?_
  exact go_zret rfl dX12_mayWedge_23
def f_X12_mayWedge (w : Nat) (o0 : Nat) (x1 : Int32) (x2 : Int32) (M : mM) : Option (Int32 × mM) := bI (f_X12_isWedged w o0 x1 x2 M) fun q2 M1 => (if q2 = 0 then bI (f_X12_doesStick w o0 x1 x2 M1) fun q4 M3 => (if q4 = 0 then (f_X12_mayWedge_18 w M3) else rtB 0 M3) else (f_X12_mayWedge_18 w M1))
set_option maxHeartbeats 4000000 in
set_option maxRecDepth 100000 in
theorem s_X12_mayWedge {l : Launch} {G : mG} {sk : List mS} (w : Nat) (o0 : Nat) (h0 : isK o0 22) (x1 : Int32) (x2 : Int32) (M : mM) : Go muX12_mayWedge (rm 2) 0 0 l G sk (mFin G sk eI) (f_X12_mayWedge w o0 x1 x2 M) 0 [(0, .ref (gB G + o0)), (1, .int x1), (2, .int x2)] [] M := by
  unfold f_X12_mayWedge
  refine go_aload_n 0 1 dX12_mayWedge_0 rfl rfl ?_
  refine go_iload_n 1 2 dX12_mayWedge_1 rfl rfl ?_
  refine go_iload_n 2 3 dX12_mayWedge_2 rfl rfl ?_
  refine go_cVI2 0 clX12 cwX12_297 (m_X12_isWedged w o0 h0 x1 x2 M) h0 6 dX12_mayWedge_3 rfl ⟨Nat.le_of_ble_eq_true rfl, Nat.le_of_ble_eq_true rfl⟩ ⟨Nat.zero_le _, Nat.zero_le _⟩ (Nat.le_of_ble_eq_true rfl) (fun q2 M1 _ => ?_)
  refine go_if_ne 18 9 dX12_mayWedge_6 rfl (by decide) (fun _ => ?_) (fun _ => ?_)
  · exact go_lv [] rfl (s_X12_mayWedge_18 w M1)
  · refine go_aload_n 0 10 dX12_mayWedge_9 rfl rfl ?_
    refine go_iload_n 1 11 dX12_mayWedge_10 rfl rfl ?_
    refine go_iload_n 2 12 dX12_mayWedge_11 rfl rfl ?_
    refine go_cVI2 1 clX12 cwX12_301 (m_X12_doesStick w o0 h0 x1 x2 M1) h0 15 dX12_mayWedge_12 rfl ⟨Nat.le_of_ble_eq_true rfl, Nat.le_of_ble_eq_true rfl⟩ ⟨Nat.zero_le _, Nat.zero_le _⟩ (Nat.le_of_ble_eq_true rfl) (fun q4 M3 _ => ?_)
    refine go_if_ne 22 18 dX12_mayWedge_15 rfl (by decide) (fun _ => ?_) (fun _ => ?_)
    · refine go_iconst 0 23 dX12_mayWedge_22 rfl (by decide) ?_
      exact go_zret rfl dX12_mayWedge_23
    · exact go_lv [] rfl (s_X12_mayWedge_18 w M3)
theorem m_X12_mayWedge {l : Launch} {G : mG} {sk : List mS} (w : Nat) (o0 : Nat) (h0 : isK o0 22) (x1 : Int32) (x2 : Int32) (M : mM) : Mt l G sk yX12_mayWedge muX12_mayWedge 2 [.ref (gB G + o0), .int x1, .int x2] M eI (f_X12_mayWedge w o0 x1 x2 M) := Mt.of (by decide) rfl (Nat.le_of_ble_eq_true rfl) (s_X12_mayWedge w o0 h0 x1 x2 M)
theorem dX12_walks_0 : decode cX12_walks 0 = .ok (.aload_n 0, 1) := by decide +kernel
theorem dX12_walks_1 : decode cX12_walks 1 = .ok (.getfield 113, 3) := by decide +kernel
theorem dX12_walks_4 : decode cX12_walks 4 = .ok (.iload_n 1, 1) := by decide +kernel
theorem dX12_walks_5 : decode cX12_walks 5 = .ok (.bipush 18, 2) := by decide +kernel
theorem dX12_walks_7 : decode cX12_walks 7 = .ok (.iadd, 1) := by decide +kernel
theorem dX12_walks_8 : decode cX12_walks 8 = .ok (.iload_n 2, 1) := by decide +kernel
theorem dX12_walks_9 : decode cX12_walks 9 = .ok (.iadd, 1) := by decide +kernel
theorem dX12_walks_10 : decode cX12_walks 10 = .ok (.aload_n 0, 1) := by decide +kernel
theorem dX12_walks_11 : decode cX12_walks 11 = .ok (.iload_n 3, 1) := by decide +kernel
theorem dX12_walks_12 : decode cX12_walks 12 = .ok (.aload_n 0, 1) := by decide +kernel
theorem dX12_walks_13 : decode cX12_walks 13 = .ok (.getfield 113, 3) := by decide +kernel
theorem dX12_walks_16 : decode cX12_walks 16 = .ok (.iload_n 1, 1) := by decide +kernel
theorem dX12_walks_17 : decode cX12_walks 17 = .ok (.bipush 18, 2) := by decide +kernel
theorem dX12_walks_19 : decode cX12_walks 19 = .ok (.iadd, 1) := by decide +kernel
theorem dX12_walks_20 : decode cX12_walks 20 = .ok (.iload_n 2, 1) := by decide +kernel
theorem dX12_walks_21 : decode cX12_walks 21 = .ok (.iadd, 1) := by decide +kernel
theorem dX12_walks_22 : decode cX12_walks 22 = .ok (.iaload, 1) := by decide +kernel
theorem dX12_walks_23 : decode cX12_walks 23 = .ok (.invokevirtual 316, 3) := by decide +kernel
theorem dX12_walks_26 : decode cX12_walks 26 = .ok (.iastore, 1) := by decide +kernel
theorem dX12_walks_27 : decode cX12_walks 27 = .ok (.return_, 1) := by decide +kernel
def f_X12_walks (w : Nat) (o0 : Nat) (x1 : Int32) (x2 : Int32) (x3 : Int32) (M : mM) : Option mM := chk ((x1 + 18) + x2) (sL (rF o0 24)) (bI (f_X12_behind w o0 x3 (M.1 (rF o0 24) ((x1 + 18) + x2).toNatClampNeg) M) fun q2 M1 => chk ((x1 + 18) + x2) (sL (rF o0 24)) (lt (wI M1 (rF o0 24) ((x1 + 18) + x2).toNatClampNeg q2) fun M3 => some M3))
set_option maxHeartbeats 4000000 in
set_option maxRecDepth 100000 in
theorem s_X12_walks {l : Launch} {G : mG} {sk : List mS} (w : Nat) (o0 : Nat) (h0 : isK o0 22) (x1 : Int32) (x2 : Int32) (x3 : Int32) (M : mM) : Go muX12_walks (rm 2) 0 0 l G sk (mFin G sk eV) (f_X12_walks w o0 x1 x2 x3 M) 0 [(0, .ref (gB G + o0)), (1, .int x1), (2, .int x2), (3, .int x3)] [] M := by
  unfold f_X12_walks
  refine go_aload_n 0 1 dX12_walks_0 rfl rfl ?_
  refine go_getR flX12_113 h0 4 dX12_walks_1 rfl ?_
  refine go_iload_n 1 5 dX12_walks_4 rfl rfl ?_
  refine go_bipush 18 7 dX12_walks_5 rfl (by decide) ?_
  refine go_iadd 8 dX12_walks_7 rfl ?_
  refine go_iload_n 2 9 dX12_walks_8 rfl rfl ?_
  refine go_iadd 10 dX12_walks_9 rfl ?_
  refine go_aload_n 0 11 dX12_walks_10 rfl rfl ?_
  refine go_iload_n 3 12 dX12_walks_11 rfl rfl ?_
  refine go_aload_n 0 13 dX12_walks_12 rfl rfl ?_
  refine go_getR flX12_113 h0 16 dX12_walks_13 rfl ?_
  refine go_iload_n 1 17 dX12_walks_16 rfl rfl ?_
  refine go_bipush 18 19 dX12_walks_17 rfl (by decide) ?_
  refine go_iadd 20 dX12_walks_19 rfl ?_
  refine go_iload_n 2 21 dX12_walks_20 rfl rfl ?_
  refine go_iadd 22 dX12_walks_21 rfl ?_
  refine go_iald (rk12_24 h0) 23 dX12_walks_22 rfl ?_
  refine go_cVI2 1 clX12 cwX12_316 (m_X12_behind w o0 h0 x3 (M.1 (rF o0 24) ((x1 + 18) + x2).toNatClampNeg) M) h0 26 dX12_walks_23 rfl ⟨Nat.le_of_ble_eq_true rfl, Nat.le_of_ble_eq_true rfl⟩ ⟨Nat.zero_le _, Nat.zero_le _⟩ (Nat.le_of_ble_eq_true rfl) (fun q2 M1 _ => ?_)
  refine go_iast (rk12_24 h0) 27 dX12_walks_26 rfl ?_
  refine go_nmM (fun M3 => ?_)
  exact go_vret rfl dX12_walks_27
theorem m_X12_walks {l : Launch} {G : mG} {sk : List mS} (w : Nat) (o0 : Nat) (h0 : isK o0 22) (x1 : Int32) (x2 : Int32) (x3 : Int32) (M : mM) : Mt l G sk yX12_walks muX12_walks 2 [.ref (gB G + o0), .int x1, .int x2, .int x3] M eV (f_X12_walks w o0 x1 x2 x3 M) := Mt.of (by decide) rfl (Nat.le_of_ble_eq_true rfl) (s_X12_walks w o0 h0 x1 x2 x3 M)
theorem dX12_bits_0 : decode cX12_bits 0 = .ok (.iconst 0, 1) := by decide +kernel
theorem dX12_bits_1 : decode cX12_bits 1 = .ok (.istore_n 1, 1) := by decide +kernel
theorem dX12_bits_2 : decode cX12_bits 2 = .ok (.iconst 0, 1) := by decide +kernel
theorem dX12_bits_3 : decode cX12_bits 3 = .ok (.istore_n 2, 1) := by decide +kernel
theorem dX12_bits_4 : decode cX12_bits 4 = .ok (.iload_n 2, 1) := by decide +kernel
theorem dX12_bits_5 : decode cX12_bits 5 = .ok (.bipush 30, 2) := by decide +kernel
theorem dX12_bits_7 : decode cX12_bits 7 = .ok (.if_icmp .ge 17, 3) := by decide +kernel
theorem dX12_bits_10 : decode cX12_bits 10 = .ok (.iload_n 1, 1) := by decide +kernel
theorem dX12_bits_11 : decode cX12_bits 11 = .ok (.iload_n 0, 1) := by decide +kernel
theorem dX12_bits_12 : decode cX12_bits 12 = .ok (.iload_n 2, 1) := by decide +kernel
theorem dX12_bits_13 : decode cX12_bits 13 = .ok (.ishr, 1) := by decide +kernel
theorem dX12_bits_14 : decode cX12_bits 14 = .ok (.iconst 1, 1) := by decide +kernel
theorem dX12_bits_15 : decode cX12_bits 15 = .ok (.iand, 1) := by decide +kernel
theorem dX12_bits_16 : decode cX12_bits 16 = .ok (.iadd, 1) := by decide +kernel
theorem dX12_bits_17 : decode cX12_bits 17 = .ok (.istore_n 1, 1) := by decide +kernel
theorem dX12_bits_18 : decode cX12_bits 18 = .ok (.iinc 2 1, 3) := by decide +kernel
theorem dX12_bits_21 : decode cX12_bits 21 = .ok (.goto (-17), 3) := by decide +kernel
theorem dX12_bits_24 : decode cX12_bits 24 = .ok (.iload_n 1, 1) := by decide +kernel
theorem dX12_bits_25 : decode cX12_bits 25 = .ok (.ireturn, 1) := by decide +kernel
def f_X12_bits_4 (w : Nat) : Nat → Int32 → Int32 → Int32 → mM → Option (Int32 × mM)
  | 0, _, _, _, _ => none
  | n + 1, x0, x1, x2, M => (if 30 ≤ x2 then some (x1, M) else lt (x1 + ((x0 >>> (x2 &&& 31)) &&& 1)) fun y1 => (f_X12_bits_4 w n x0 y1 (x2 + 1) M))
set_option maxHeartbeats 4000000 in
set_option maxRecDepth 100000 in
theorem s_X12_bits_4 {l : Launch} {G : mG} {sk : List mS} (w : Nat) : ∀ (n : Nat) (x0 : Int32) (x1 : Int32) (x2 : Int32) (M : mM), Go muX12_bits (rm 0) 0 0 l G sk (mFin G sk eI) (f_X12_bits_4 w n x0 x1 x2 M) 4 [(0, .int x0), (1, .int x1), (2, .int x2)] [] M := by
  intro n
  induction n with
  | zero =>
    intros
    exact go_none
  | succ n ih =>
    intro x0 x1 x2 M
    rw [f_X12_bits_4]
    refine go_iload_n 2 5 dX12_bits_4 rfl rfl ?_
    refine go_bipush 30 7 dX12_bits_5 rfl (by decide) ?_
    refine go_icmp_ge 24 10 dX12_bits_7 rfl (by decide) (fun _ => ?_) (fun _ => ?_)
    · refine go_iload_n 1 25 dX12_bits_24 rfl rfl ?_
      exact go_iret rfl dX12_bits_25
    · refine go_iload_n 1 11 dX12_bits_10 rfl rfl ?_
      refine go_iload_n 0 12 dX12_bits_11 rfl rfl ?_
      refine go_iload_n 2 13 dX12_bits_12 rfl rfl ?_
      refine go_ishr 14 dX12_bits_13 rfl ?_
      refine go_iconst 1 15 dX12_bits_14 rfl (by decide) ?_
      refine go_iand 16 dX12_bits_15 rfl ?_
      refine go_iadd 17 dX12_bits_16 rfl ?_
      refine go_nmI (fun y1 => ?_)
      refine go_istore_n [(1, .int y1), (0, .int x0), (2, .int x2)] 18 dX12_bits_17 rfl rfl (by decide) rfl ?_
      refine go_iinc (x2 + 1) 2 [(2, .int (x2 + 1)), (1, .int y1), (0, .int x0)] 21 dX12_bits_18 rfl rfl rfl (by decide) rfl ?_
      refine go_goto 4 dX12_bits_21 (by decide) ?_
      exact go_lv [2, 1, 0] rfl (ih x0 y1 (x2 + 1) M)
def f_X12_bits (w : Nat) (x0 : Int32) (M : mM) : Option (Int32 × mM) := (f_X12_bits_4 w w x0 0 0 M)
set_option maxHeartbeats 4000000 in
set_option maxRecDepth 100000 in
theorem s_X12_bits {l : Launch} {G : mG} {sk : List mS} (w : Nat) (x0 : Int32) (M : mM) : Go muX12_bits (rm 0) 0 0 l G sk (mFin G sk eI) (f_X12_bits w x0 M) 0 [(0, .int x0)] [] M := by
  unfold f_X12_bits
  refine go_iconst 0 1 dX12_bits_0 rfl (by decide) ?_
  refine go_istore_n [(1, .int 0), (0, .int x0)] 2 dX12_bits_1 rfl rfl (by decide) rfl ?_
  refine go_iconst 0 3 dX12_bits_2 rfl (by decide) ?_
  refine go_istore_n [(2, .int 0), (1, .int 0), (0, .int x0)] 4 dX12_bits_3 rfl rfl (by decide) rfl ?_
  exact go_lv [2, 1, 0] rfl (s_X12_bits_4 w w x0 0 0 M)
theorem m_X12_bits {l : Launch} {G : mG} {sk : List mS} (w : Nat) (x0 : Int32) (M : mM) : Mt l G sk yX12_bits muX12_bits 0 [.int x0] M eI (f_X12_bits w x0 M) := Mt.of (by decide) rfl (Nat.le_of_ble_eq_true rfl) (s_X12_bits w x0 M)
theorem dX12_sumOf_0 : decode cX12_sumOf 0 = .ok (.iconst 0, 1) := by decide +kernel
theorem dX12_sumOf_1 : decode cX12_sumOf 1 = .ok (.istore_n 3, 1) := by decide +kernel
theorem dX12_sumOf_2 : decode cX12_sumOf 2 = .ok (.iconst 0, 1) := by decide +kernel
theorem dX12_sumOf_3 : decode cX12_sumOf 3 = .ok (.istore 4, 2) := by decide +kernel
theorem dX12_sumOf_5 : decode cX12_sumOf 5 = .ok (.iload 4, 2) := by decide +kernel
theorem dX12_sumOf_7 : decode cX12_sumOf 7 = .ok (.iload_n 2, 1) := by decide +kernel
theorem dX12_sumOf_8 : decode cX12_sumOf 8 = .ok (.if_icmp .ge 21, 3) := by decide +kernel
theorem dX12_sumOf_11 : decode cX12_sumOf 11 = .ok (.iload_n 3, 1) := by decide +kernel
theorem dX12_sumOf_12 : decode cX12_sumOf 12 = .ok (.aload_n 0, 1) := by decide +kernel
theorem dX12_sumOf_13 : decode cX12_sumOf 13 = .ok (.getfield 113, 3) := by decide +kernel
theorem dX12_sumOf_16 : decode cX12_sumOf 16 = .ok (.iload_n 1, 1) := by decide +kernel
theorem dX12_sumOf_17 : decode cX12_sumOf 17 = .ok (.iload 4, 2) := by decide +kernel
theorem dX12_sumOf_19 : decode cX12_sumOf 19 = .ok (.iadd, 1) := by decide +kernel
theorem dX12_sumOf_20 : decode cX12_sumOf 20 = .ok (.iaload, 1) := by decide +kernel
theorem dX12_sumOf_21 : decode cX12_sumOf 21 = .ok (.iadd, 1) := by decide +kernel
theorem dX12_sumOf_22 : decode cX12_sumOf 22 = .ok (.istore_n 3, 1) := by decide +kernel
theorem dX12_sumOf_23 : decode cX12_sumOf 23 = .ok (.iinc 4 1, 3) := by decide +kernel
theorem dX12_sumOf_26 : decode cX12_sumOf 26 = .ok (.goto (-21), 3) := by decide +kernel
theorem dX12_sumOf_29 : decode cX12_sumOf 29 = .ok (.iload_n 3, 1) := by decide +kernel
theorem dX12_sumOf_30 : decode cX12_sumOf 30 = .ok (.ireturn, 1) := by decide +kernel
def f_X12_sumOf_5 (w : Nat) : Nat → Nat → Int32 → Int32 → Int32 → Int32 → mM → Option (Int32 × mM)
  | 0, _, _, _, _, _, _ => none
  | n + 1, o0, x1, x2, x3, x4, M => (if x2 ≤ x4 then some (x3, M) else chk (x1 + x4) (sL (rF o0 24)) (lt (x3 + (M.1 (rF o0 24) (x1 + x4).toNatClampNeg)) fun y1 => (f_X12_sumOf_5 w n o0 x1 x2 y1 (x4 + 1) M)))
set_option maxHeartbeats 4000000 in
set_option maxRecDepth 100000 in
theorem s_X12_sumOf_5 {l : Launch} {G : mG} {sk : List mS} (w : Nat) : ∀ (n : Nat) (o0 : Nat) (h0 : isK o0 22) (x1 : Int32) (x2 : Int32) (x3 : Int32) (x4 : Int32) (M : mM), Go muX12_sumOf (rm 0) 0 0 l G sk (mFin G sk eI) (f_X12_sumOf_5 w n o0 x1 x2 x3 x4 M) 5 [(0, .ref (gB G + o0)), (1, .int x1), (2, .int x2), (3, .int x3), (4, .int x4)] [] M := by
  intro n
  induction n with
  | zero =>
    intros
    exact go_none
  | succ n ih =>
    intro o0 h0 x1 x2 x3 x4 M
    rw [f_X12_sumOf_5]
    refine go_iload 4 7 dX12_sumOf_5 rfl rfl ?_
    refine go_iload_n 2 8 dX12_sumOf_7 rfl rfl ?_
    refine go_icmp_ge 29 11 dX12_sumOf_8 rfl (by decide) (fun _ => ?_) (fun _ => ?_)
    · refine go_iload_n 3 30 dX12_sumOf_29 rfl rfl ?_
      exact go_iret rfl dX12_sumOf_30
    · refine go_iload_n 3 12 dX12_sumOf_11 rfl rfl ?_
      refine go_aload_n 0 13 dX12_sumOf_12 rfl rfl ?_
      refine go_getR flX12_113 h0 16 dX12_sumOf_13 rfl ?_
      refine go_iload_n 1 17 dX12_sumOf_16 rfl rfl ?_
      refine go_iload 4 19 dX12_sumOf_17 rfl rfl ?_
      refine go_iadd 20 dX12_sumOf_19 rfl ?_
      refine go_iald (rk12_24 h0) 21 dX12_sumOf_20 rfl ?_
      refine go_iadd 22 dX12_sumOf_21 rfl ?_
      refine go_nmI (fun y1 => ?_)
      refine go_istore_n [(3, .int y1), (0, .ref (gB G + o0)), (1, .int x1), (2, .int x2), (4, .int x4)] 23 dX12_sumOf_22 rfl rfl (by decide) rfl ?_
      refine go_iinc (x4 + 1) 4 [(4, .int (x4 + 1)), (3, .int y1), (0, .ref (gB G + o0)), (1, .int x1), (2, .int x2)] 26 dX12_sumOf_23 rfl rfl rfl (by decide) rfl ?_
      refine go_goto 5 dX12_sumOf_26 (by decide) ?_
      exact go_lv [2, 3, 4, 1, 0] rfl (ih o0 h0 x1 x2 y1 (x4 + 1) M)
def f_X12_sumOf (w : Nat) (o0 : Nat) (x1 : Int32) (x2 : Int32) (M : mM) : Option (Int32 × mM) := (f_X12_sumOf_5 w w o0 x1 x2 0 0 M)
set_option maxHeartbeats 4000000 in
set_option maxRecDepth 100000 in
theorem s_X12_sumOf {l : Launch} {G : mG} {sk : List mS} (w : Nat) (o0 : Nat) (h0 : isK o0 22) (x1 : Int32) (x2 : Int32) (M : mM) : Go muX12_sumOf (rm 0) 0 0 l G sk (mFin G sk eI) (f_X12_sumOf w o0 x1 x2 M) 0 [(0, .ref (gB G + o0)), (1, .int x1), (2, .int x2)] [] M := by
  unfold f_X12_sumOf
  refine go_iconst 0 1 dX12_sumOf_0 rfl (by decide) ?_
  refine go_istore_n [(3, .int 0), (0, .ref (gB G + o0)), (1, .int x1), (2, .int x2)] 2 dX12_sumOf_1 rfl rfl (by decide) rfl ?_
  refine go_iconst 0 3 dX12_sumOf_2 rfl (by decide) ?_
  refine go_istore [(4, .int 0), (3, .int 0), (0, .ref (gB G + o0)), (1, .int x1), (2, .int x2)] 5 dX12_sumOf_3 rfl (by decide) rfl ?_
  exact go_lv [2, 3, 4, 1, 0] rfl (s_X12_sumOf_5 w w o0 h0 x1 x2 0 0 M)
theorem m_X12_sumOf {l : Launch} {G : mG} {sk : List mS} (w : Nat) (o0 : Nat) (h0 : isK o0 22) (x1 : Int32) (x2 : Int32) (M : mM) : Mt l G sk yX12_sumOf muX12_sumOf 0 [.ref (gB G + o0), .int x1, .int x2] M eI (f_X12_sumOf w o0 x1 x2 M) := Mt.of (by decide) rfl (Nat.le_of_ble_eq_true rfl) (s_X12_sumOf w o0 h0 x1 x2 M)
theorem dX12_door_0 : decode cX12_door 0 = .ok (.aload_n 0, 1) := by decide +kernel
theorem dX12_door_1 : decode cX12_door 1 = .ok (.iconst 0, 1) := by decide +kernel
theorem dX12_door_2 : decode cX12_door 2 = .ok (.putfield 1, 3) := by decide +kernel
theorem dX12_door_5 : decode cX12_door 5 = .ok (.aload_n 0, 1) := by decide +kernel
theorem dX12_door_6 : decode cX12_door 6 = .ok (.iload_n 1, 1) := by decide +kernel
theorem dX12_door_7 : decode cX12_door 7 = .ok (.invokevirtual 319, 3) := by decide +kernel
theorem dX12_door_10 : decode cX12_door 10 = .ok (.ifCond .eq 13, 3) := by decide +kernel
theorem dX12_door_13 : decode cX12_door 13 = .ok (.iload_n 2, 1) := by decide +kernel
theorem dX12_door_14 : decode cX12_door 14 = .ok (.iconst 0, 1) := by decide +kernel
theorem dX12_door_15 : decode cX12_door 15 = .ok (.bipush 6, 2) := by decide +kernel
theorem dX12_door_17 : decode cX12_door 17 = .ok (.invokestatic 204, 3) := by decide +kernel
theorem dX12_door_20 : decode cX12_door 20 = .ok (.ifCond .ne 6, 3) := by decide +kernel
theorem dX12_door_23 : decode cX12_door 23 = .ok (.bipush (-2), 2) := by decide +kernel
theorem dX12_door_25 : decode cX12_door 25 = .ok (.ireturn, 1) := by decide +kernel
theorem dX12_door_26 : decode cX12_door 26 = .ok (.iload_n 2, 1) := by decide +kernel
theorem dX12_door_27 : decode cX12_door 27 = .ok (.tableswitch 78 3 6 #[29, 38, 48, 63], 29) := by decide +kernel
theorem dX12_door_56 : decode cX12_door 56 = .ok (.aload_n 0, 1) := by decide +kernel
theorem dX12_door_57 : decode cX12_door 57 = .ok (.getfield 113, 3) := by decide +kernel
theorem dX12_door_60 : decode cX12_door 60 = .ok (.iconst 2, 1) := by decide +kernel
theorem dX12_door_61 : decode cX12_door 61 = .ok (.iload_n 1, 1) := by decide +kernel
theorem dX12_door_62 : decode cX12_door 62 = .ok (.iadd, 1) := by decide +kernel
theorem dX12_door_63 : decode cX12_door 63 = .ok (.iaload, 1) := by decide +kernel
theorem dX12_door_64 : decode cX12_door 64 = .ok (.ireturn, 1) := by decide +kernel
theorem dX12_door_65 : decode cX12_door 65 = .ok (.aload_n 0, 1) := by decide +kernel
theorem dX12_door_66 : decode cX12_door 66 = .ok (.getfield 113, 3) := by decide +kernel
theorem dX12_door_69 : decode cX12_door 69 = .ok (.bipush 10, 2) := by decide +kernel
theorem dX12_door_71 : decode cX12_door 71 = .ok (.iload_n 1, 1) := by decide +kernel
theorem dX12_door_72 : decode cX12_door 72 = .ok (.iadd, 1) := by decide +kernel
theorem dX12_door_73 : decode cX12_door 73 = .ok (.iaload, 1) := by decide +kernel
theorem dX12_door_74 : decode cX12_door 74 = .ok (.ireturn, 1) := by decide +kernel
theorem dX12_door_75 : decode cX12_door 75 = .ok (.aload_n 0, 1) := by decide +kernel
theorem dX12_door_76 : decode cX12_door 76 = .ok (.iconst 0, 1) := by decide +kernel
theorem dX12_door_77 : decode cX12_door 77 = .ok (.iload_n 1, 1) := by decide +kernel
theorem dX12_door_78 : decode cX12_door 78 = .ok (.invokevirtual 297, 3) := by decide +kernel
theorem dX12_door_81 : decode cX12_door 81 = .ok (.ifCond .eq 7, 3) := by decide +kernel
theorem dX12_door_84 : decode cX12_door 84 = .ok (.iconst 1, 1) := by decide +kernel
theorem dX12_door_85 : decode cX12_door 85 = .ok (.goto 4, 3) := by decide +kernel
theorem dX12_door_88 : decode cX12_door 88 = .ok (.iconst 0, 1) := by decide +kernel
theorem dX12_door_89 : decode cX12_door 89 = .ok (.ireturn, 1) := by decide +kernel
theorem dX12_door_90 : decode cX12_door 90 = .ok (.aload_n 0, 1) := by decide +kernel
theorem dX12_door_91 : decode cX12_door 91 = .ok (.iconst 0, 1) := by decide +kernel
theorem dX12_door_92 : decode cX12_door 92 = .ok (.iload_n 1, 1) := by decide +kernel
theorem dX12_door_93 : decode cX12_door 93 = .ok (.invokevirtual 301, 3) := by decide +kernel
theorem dX12_door_96 : decode cX12_door 96 = .ok (.ifCond .eq 7, 3) := by decide +kernel
theorem dX12_door_99 : decode cX12_door 99 = .ok (.iconst 1, 1) := by decide +kernel
theorem dX12_door_100 : decode cX12_door 100 = .ok (.goto 4, 3) := by decide +kernel
theorem dX12_door_103 : decode cX12_door 103 = .ok (.iconst 0, 1) := by decide +kernel
theorem dX12_door_104 : decode cX12_door 104 = .ok (.ireturn, 1) := by decide +kernel
theorem dX12_door_105 : decode cX12_door 105 = .ok (.aload_n 0, 1) := by decide +kernel
theorem dX12_door_106 : decode cX12_door 106 = .ok (.iload_n 1, 1) := by decide +kernel
theorem dX12_door_107 : decode cX12_door 107 = .ok (.iload_n 2, 1) := by decide +kernel
theorem dX12_door_108 : decode cX12_door 108 = .ok (.invokevirtual 276, 3) := by decide +kernel
theorem dX12_door_111 : decode cX12_door 111 = .ok (.ireturn, 1) := by decide +kernel
def f_X12_door (w : Nat) (o0 : Nat) (x1 : Int32) (x2 : Int32) (M : mM) : Option (Int32 × mM) := lt (wI M o0 0 0) fun M1 => bI (f_X12_isDoor w o0 x1 M1) fun q3 M2 => (if q3 = 0 then some ((-2), M2) else bI (f_X12_within w x2 0 6 M2) fun q5 M4 => (if q5 = 0 then some ((-2), M4) else (if x2.toInt < 3 ∨ 6 < x2.toInt then bI (f_X12_doorOf w o0 x1 x2 M4) fun q7 M6 => some (q7, M6) else (fun z : Int => if z = 3 then chk (2 + x1) (sL (rF o0 24)) (some ((M4.1 (rF o0 24) (2 + x1).toNatClampNeg), M4)) else if z = 4 then chk (10 + x1) (sL (rF o0 24)) (some ((M4.1 (rF o0 24) (10 + x1).toNatClampNeg), M4)) else if z = 5 then bI (f_X12_isWedged w o0 0 x1 M4) fun q9 M8 => (if q9 = 0 then some (0, M8) else some (1, M8)) else bI (f_X12_doesStick w o0 0 x1 M4) fun q11 M10 => (if q11 = 0 then some (0, M10) else some (1, M10))) x2.toInt)))
set_option maxHeartbeats 4000000 in
set_option maxRecDepth 100000 in
theorem s_X12_door {l : Launch} {G : mG} {sk : List mS} (w : Nat) (o0 : Nat) (h0 : isK o0 22) (x1 : Int32) (x2 : Int32) (M : mM) : Go muX12_door (rm 2) 0 0 l G sk (mFin G sk eI) (f_X12_door w o0 x1 x2 M) 0 [(0, .ref (gB G + o0)), (1, .int x1), (2, .int x2)] [] M := by
  unfold f_X12_door
  refine go_aload_n 0 1 dX12_door_0 rfl rfl ?_
  refine go_iconst 0 2 dX12_door_1 rfl (by decide) ?_
  refine go_putI flX12_1 rfl rfl h0 5 dX12_door_2 rfl ?_
  refine go_nmM (fun M1 => ?_)
  refine go_aload_n 0 6 dX12_door_5 rfl rfl ?_
  refine go_iload_n 1 7 dX12_door_6 rfl rfl ?_
  refine go_cVI1 1 clX12 cwX12_319 (m_X12_isDoor w o0 h0 x1 M1) h0 10 dX12_door_7 rfl ⟨Nat.le_of_ble_eq_true rfl, Nat.le_of_ble_eq_true rfl⟩ ⟨Nat.zero_le _, Nat.zero_le _⟩ (Nat.le_of_ble_eq_true rfl) (fun q3 M2 _ => ?_)
  refine go_if_eq 23 13 dX12_door_10 rfl (by decide) (fun _ => ?_) (fun _ => ?_)
  · refine go_bipush (-2) 25 dX12_door_23 rfl (by decide) ?_
    exact go_iret rfl dX12_door_25
  · refine go_iload_n 2 14 dX12_door_13 rfl rfl ?_
    refine go_iconst 0 15 dX12_door_14 rfl (by decide) ?_
    refine go_bipush 6 17 dX12_door_15 rfl (by decide) ?_
    refine go_cSI3 0 cwX12_204 (m_X12_within w x2 0 6 M2) 20 dX12_door_17 rfl ⟨Nat.le_of_ble_eq_true rfl, Nat.le_of_ble_eq_true rfl⟩ ⟨Nat.zero_le _, Nat.zero_le _⟩ (Nat.le_of_ble_eq_true rfl) (fun q5 M4 _ => ?_)
    refine go_if_ne 26 23 dX12_door_20 rfl (by decide) (fun _ => ?_) (fun _ => ?_)
    · refine go_iload_n 2 27 dX12_door_26 rfl rfl ?_
      refine go_tsw (dflt := 78) (lo := 3) (hi := 6) (offs := #[29, 38, 48, 63]) (len := 29) ?_ (fun z : Int => if z = 3 then chk (2 + x1) (sL (rF o0 24)) (some ((M4.1 (rF o0 24) (2 + x1).toNatClampNeg), M4)) else if z = 4 then chk (10 + x1) (sL (rF o0 24)) (some ((M4.1 (rF o0 24) (10 + x1).toNatClampNeg), M4)) else if z = 5 then bI (f_X12_isWedged w o0 0 x1 M4) fun q9 M8 => (if q9 = 0 then some (0, M8) else some (1, M8)) else bI (f_X12_doesStick w o0 0 x1 M4) fun q11 M10 => (if q11 = 0 then some (0, M10) else some (1, M10))) (bI (f_X12_doorOf w o0 x1 x2 M4) fun q7 M6 => some (q7, M6)) 105 (by decide) (fun _ => ?_) (fun g1 g2 => ?_)
      · exact dX12_door_27
      · refine go_aload_n 0 106 dX12_door_105 rfl rfl ?_
        refine go_iload_n 1 107 dX12_door_106 rfl rfl ?_
        refine go_iload_n 2 108 dX12_door_107 rfl rfl ?_
        refine go_cVI2 0 clX12 cwX12_276 (m_X12_doorOf w o0 h0 x1 x2 M4) h0 111 dX12_door_108 rfl ⟨Nat.le_of_ble_eq_true rfl, Nat.le_of_ble_eq_true rfl⟩ ⟨Nat.zero_le _, Nat.zero_le _⟩ (Nat.le_of_ble_eq_true rfl) (fun q7 M6 _ => ?_)
        exact go_iret rfl dX12_door_111
      · rcases (show x2.toInt = 3 ∨ x2.toInt = 4 ∨ x2.toInt = 5 ∨ x2.toInt = 6 by omega) with g | g | g | g
        · refine ⟨29, 56, by rw [g]; rfl, by decide, ?_⟩
          rw [g]
          simp only [if_pos, reduceIte, Int.reduceEq, Int.reduceNeg]
          refine go_aload_n 0 57 dX12_door_56 rfl rfl ?_
          refine go_getR flX12_113 h0 60 dX12_door_57 rfl ?_
          refine go_iconst 2 61 dX12_door_60 rfl (by decide) ?_
          refine go_iload_n 1 62 dX12_door_61 rfl rfl ?_
          refine go_iadd 63 dX12_door_62 rfl ?_
          refine go_iald (rk12_24 h0) 64 dX12_door_63 rfl ?_
          exact go_iret rfl dX12_door_64
        · refine ⟨38, 65, by rw [g]; rfl, by decide, ?_⟩
          rw [g]
          simp only [if_pos, reduceIte, Int.reduceEq, Int.reduceNeg]
          refine go_aload_n 0 66 dX12_door_65 rfl rfl ?_
          refine go_getR flX12_113 h0 69 dX12_door_66 rfl ?_
          refine go_bipush 10 71 dX12_door_69 rfl (by decide) ?_
          refine go_iload_n 1 72 dX12_door_71 rfl rfl ?_
          refine go_iadd 73 dX12_door_72 rfl ?_
          refine go_iald (rk12_24 h0) 74 dX12_door_73 rfl ?_
          exact go_iret rfl dX12_door_74
        · refine ⟨48, 75, by rw [g]; rfl, by decide, ?_⟩
          rw [g]
          simp only [if_pos, reduceIte, Int.reduceEq, Int.reduceNeg]
          refine go_aload_n 0 76 dX12_door_75 rfl rfl ?_
          refine go_iconst 0 77 dX12_door_76 rfl (by decide) ?_
          refine go_iload_n 1 78 dX12_door_77 rfl rfl ?_
          refine go_cVI2 0 clX12 cwX12_297 (m_X12_isWedged w o0 h0 0 x1 M4) h0 81 dX12_door_78 rfl ⟨Nat.le_of_ble_eq_true rfl, Nat.le_of_ble_eq_true rfl⟩ ⟨Nat.zero_le _, Nat.zero_le _⟩ (Nat.le_of_ble_eq_true rfl) (fun q9 M8 _ => ?_)
          refine go_if_eq 88 84 dX12_door_81 rfl (by decide) (fun _ => ?_) (fun _ => ?_)
          · refine go_iconst 0 89 dX12_door_88 rfl (by decide) ?_
            exact go_iret rfl dX12_door_89
          · refine go_iconst 1 85 dX12_door_84 rfl (by decide) ?_
            refine go_goto 89 dX12_door_85 (by decide) ?_
            exact go_iret rfl dX12_door_89
        · refine ⟨63, 90, by rw [g]; rfl, by decide, ?_⟩
          rw [g]
          simp only [if_pos, reduceIte, Int.reduceEq, Int.reduceNeg]
          refine go_aload_n 0 91 dX12_door_90 rfl rfl ?_
          refine go_iconst 0 92 dX12_door_91 rfl (by decide) ?_
          refine go_iload_n 1 93 dX12_door_92 rfl rfl ?_
          refine go_cVI2 1 clX12 cwX12_301 (m_X12_doesStick w o0 h0 0 x1 M4) h0 96 dX12_door_93 rfl ⟨Nat.le_of_ble_eq_true rfl, Nat.le_of_ble_eq_true rfl⟩ ⟨Nat.zero_le _, Nat.zero_le _⟩ (Nat.le_of_ble_eq_true rfl) (fun q11 M10 _ => ?_)
          refine go_if_eq 103 99 dX12_door_96 rfl (by decide) (fun _ => ?_) (fun _ => ?_)
          · refine go_iconst 0 104 dX12_door_103 rfl (by decide) ?_
            exact go_iret rfl dX12_door_104
          · refine go_iconst 1 100 dX12_door_99 rfl (by decide) ?_
            refine go_goto 104 dX12_door_100 (by decide) ?_
            exact go_iret rfl dX12_door_104
    · refine go_bipush (-2) 25 dX12_door_23 rfl (by decide) ?_
      exact go_iret rfl dX12_door_25
theorem m_X12_door {l : Launch} {G : mG} {sk : List mS} (w : Nat) (o0 : Nat) (h0 : isK o0 22) (x1 : Int32) (x2 : Int32) (M : mM) : Mt l G sk yX12_door muX12_door 2 [.ref (gB G + o0), .int x1, .int x2] M eI (f_X12_door w o0 x1 x2 M) := Mt.of (by decide) rfl (Nat.le_of_ble_eq_true rfl) (s_X12_door w o0 h0 x1 x2 M)
theorem dX12_person_0 : decode cX12_person 0 = .ok (.aload_n 0, 1) := by decide +kernel
theorem dX12_person_1 : decode cX12_person 1 = .ok (.iconst 0, 1) := by decide +kernel
theorem dX12_person_2 : decode cX12_person 2 = .ok (.putfield 1, 3) := by decide +kernel
theorem dX12_person_5 : decode cX12_person 5 = .ok (.aload_n 0, 1) := by decide +kernel
theorem dX12_person_6 : decode cX12_person 6 = .ok (.iload_n 1, 1) := by decide +kernel
theorem dX12_person_7 : decode cX12_person 7 = .ok (.invokevirtual 322, 3) := by decide +kernel
theorem dX12_person_10 : decode cX12_person 10 = .ok (.ifCond .eq 15, 3) := by decide +kernel
theorem dX12_person_13 : decode cX12_person 13 = .ok (.aload_n 0, 1) := by decide +kernel
theorem dX12_person_14 : decode cX12_person 14 = .ok (.getfield 113, 3) := by decide +kernel
theorem dX12_person_17 : decode cX12_person 17 = .ok (.bipush 18, 2) := by decide +kernel
theorem dX12_person_19 : decode cX12_person 19 = .ok (.iload_n 1, 1) := by decide +kernel
theorem dX12_person_20 : decode cX12_person 20 = .ok (.iadd, 1) := by decide +kernel
theorem dX12_person_21 : decode cX12_person 21 = .ok (.iaload, 1) := by decide +kernel
theorem dX12_person_22 : decode cX12_person 22 = .ok (.goto 4, 3) := by decide +kernel
theorem dX12_person_25 : decode cX12_person 25 = .ok (.iconst (-1), 1) := by decide +kernel
theorem dX12_person_26 : decode cX12_person 26 = .ok (.ireturn, 1) := by decide +kernel
def f_X12_person (w : Nat) (o0 : Nat) (x1 : Int32) (M : mM) : Option (Int32 × mM) := lt (wI M o0 0 0) fun M1 => bI (f_X12_isPerson w o0 x1 M1) fun q3 M2 => (if q3 = 0 then some ((-1), M2) else chk (18 + x1) (sL (rF o0 24)) (some ((M2.1 (rF o0 24) (18 + x1).toNatClampNeg), M2)))
set_option maxHeartbeats 4000000 in
set_option maxRecDepth 100000 in
theorem s_X12_person {l : Launch} {G : mG} {sk : List mS} (w : Nat) (o0 : Nat) (h0 : isK o0 22) (x1 : Int32) (M : mM) : Go muX12_person (rm 2) 0 0 l G sk (mFin G sk eI) (f_X12_person w o0 x1 M) 0 [(0, .ref (gB G + o0)), (1, .int x1)] [] M := by
  unfold f_X12_person
  refine go_aload_n 0 1 dX12_person_0 rfl rfl ?_
  refine go_iconst 0 2 dX12_person_1 rfl (by decide) ?_
  refine go_putI flX12_1 rfl rfl h0 5 dX12_person_2 rfl ?_
  refine go_nmM (fun M1 => ?_)
  refine go_aload_n 0 6 dX12_person_5 rfl rfl ?_
  refine go_iload_n 1 7 dX12_person_6 rfl rfl ?_
  refine go_cVI1 1 clX12 cwX12_322 (m_X12_isPerson w o0 h0 x1 M1) h0 10 dX12_person_7 rfl ⟨Nat.le_of_ble_eq_true rfl, Nat.le_of_ble_eq_true rfl⟩ ⟨Nat.zero_le _, Nat.zero_le _⟩ (Nat.le_of_ble_eq_true rfl) (fun q3 M2 _ => ?_)
  refine go_if_eq 25 13 dX12_person_10 rfl (by decide) (fun _ => ?_) (fun _ => ?_)
  · refine go_iconst (-1) 26 dX12_person_25 rfl (by decide) ?_
    exact go_iret rfl dX12_person_26
  · refine go_aload_n 0 14 dX12_person_13 rfl rfl ?_
    refine go_getR flX12_113 h0 17 dX12_person_14 rfl ?_
    refine go_bipush 18 19 dX12_person_17 rfl (by decide) ?_
    refine go_iload_n 1 20 dX12_person_19 rfl rfl ?_
    refine go_iadd 21 dX12_person_20 rfl ?_
    refine go_iald (rk12_24 h0) 22 dX12_person_21 rfl ?_
    refine go_goto 26 dX12_person_22 (by decide) ?_
    exact go_iret rfl dX12_person_26
theorem m_X12_person {l : Launch} {G : mG} {sk : List mS} (w : Nat) (o0 : Nat) (h0 : isK o0 22) (x1 : Int32) (M : mM) : Mt l G sk yX12_person muX12_person 2 [.ref (gB G + o0), .int x1] M eI (f_X12_person w o0 x1 M) := Mt.of (by decide) rfl (Nat.le_of_ble_eq_true rfl) (s_X12_person w o0 h0 x1 M)
theorem dX12_day_0 : decode cX12_day 0 = .ok (.aload_n 0, 1) := by decide +kernel
theorem dX12_day_1 : decode cX12_day 1 = .ok (.iconst 0, 1) := by decide +kernel
theorem dX12_day_2 : decode cX12_day 2 = .ok (.putfield 1, 3) := by decide +kernel
theorem dX12_day_5 : decode cX12_day 5 = .ok (.aload_n 0, 1) := by decide +kernel
theorem dX12_day_6 : decode cX12_day 6 = .ok (.invokevirtual 325, 3) := by decide +kernel
theorem dX12_day_9 : decode cX12_day 9 = .ok (.aload_n 0, 1) := by decide +kernel
theorem dX12_day_10 : decode cX12_day 10 = .ok (.iconst 0, 1) := by decide +kernel
theorem dX12_day_11 : decode cX12_day 11 = .ok (.invokevirtual 328, 3) := by decide +kernel
theorem dX12_day_14 : decode cX12_day 14 = .ok (.aload_n 0, 1) := by decide +kernel
theorem dX12_day_15 : decode cX12_day 15 = .ok (.iconst 0, 1) := by decide +kernel
theorem dX12_day_16 : decode cX12_day 16 = .ok (.invokevirtual 330, 3) := by decide +kernel
theorem dX12_day_19 : decode cX12_day 19 = .ok (.ireturn, 1) := by decide +kernel
def f_X12_day (w : Nat) (o0 : Nat) (M : mM) : Option (Int32 × mM) := lt (wI M o0 0 0) fun M1 => bV (f_X12_keeps w o0 M1) fun M2 => bV (f_X12_passes_ w o0 0 M2) fun M3 => bI (f_X12_sticking w o0 0 M3) fun q5 M4 => some (q5, M4)
set_option maxHeartbeats 4000000 in
set_option maxRecDepth 100000 in
theorem s_X12_day {l : Launch} {G : mG} {sk : List mS} (w : Nat) (o0 : Nat) (h0 : isK o0 22) (M : mM) : Go muX12_day (rm 5) 0 0 l G sk (mFin G sk eI) (f_X12_day w o0 M) 0 [(0, .ref (gB G + o0))] [] M := by
  unfold f_X12_day
  refine go_aload_n 0 1 dX12_day_0 rfl rfl ?_
  refine go_iconst 0 2 dX12_day_1 rfl (by decide) ?_
  refine go_putI flX12_1 rfl rfl h0 5 dX12_day_2 rfl ?_
  refine go_nmM (fun M1 => ?_)
  refine go_aload_n 0 6 dX12_day_5 rfl rfl ?_
  refine go_cVV0 1 clX12 cwX12_325 (m_X12_keeps w o0 h0 M1) h0 9 dX12_day_6 rfl ⟨Nat.le_of_ble_eq_true rfl, Nat.le_of_ble_eq_true rfl⟩ ⟨Nat.zero_le _, Nat.zero_le _⟩ (Nat.le_of_ble_eq_true rfl) (fun M2 _ => ?_)
  refine go_aload_n 0 10 dX12_day_9 rfl rfl ?_
  refine go_iconst 0 11 dX12_day_10 rfl (by decide) ?_
  refine go_cVV1 4 clX12 cwX12_328 (m_X12_passes_ w o0 h0 0 M2) h0 14 dX12_day_11 rfl ⟨Nat.le_of_ble_eq_true rfl, Nat.le_of_ble_eq_true rfl⟩ ⟨Nat.zero_le _, Nat.zero_le _⟩ (Nat.le_of_ble_eq_true rfl) (fun M3 _ => ?_)
  refine go_aload_n 0 15 dX12_day_14 rfl rfl ?_
  refine go_iconst 0 16 dX12_day_15 rfl (by decide) ?_
  refine go_cVI1 2 clX12 cwX12_330 (m_X12_sticking w o0 h0 0 M3) h0 19 dX12_day_16 rfl ⟨Nat.le_of_ble_eq_true rfl, Nat.le_of_ble_eq_true rfl⟩ ⟨Nat.zero_le _, Nat.zero_le _⟩ (Nat.le_of_ble_eq_true rfl) (fun q5 M4 _ => ?_)
  exact go_iret rfl dX12_day_19
theorem m_X12_day {l : Launch} {G : mG} {sk : List mS} (w : Nat) (o0 : Nat) (h0 : isK o0 22) (M : mM) : Mt l G sk yX12_day muX12_day 5 [.ref (gB G + o0)] M eI (f_X12_day w o0 M) := Mt.of (by decide) rfl (Nat.le_of_ble_eq_true rfl) (s_X12_day w o0 h0 M)
theorem dX12_walk_0 : decode cX12_walk 0 = .ok (.aload_n 0, 1) := by decide +kernel
theorem dX12_walk_1 : decode cX12_walk 1 = .ok (.iconst 0, 1) := by decide +kernel
theorem dX12_walk_2 : decode cX12_walk 2 = .ok (.putfield 1, 3) := by decide +kernel
theorem dX12_walk_5 : decode cX12_walk 5 = .ok (.aload_n 0, 1) := by decide +kernel
theorem dX12_walk_6 : decode cX12_walk 6 = .ok (.iload_n 1, 1) := by decide +kernel
theorem dX12_walk_7 : decode cX12_walk 7 = .ok (.invokevirtual 322, 3) := by decide +kernel
theorem dX12_walk_10 : decode cX12_walk 10 = .ok (.ifCond .eq 21, 3) := by decide +kernel
theorem dX12_walk_13 : decode cX12_walk 13 = .ok (.aload_n 0, 1) := by decide +kernel
theorem dX12_walk_14 : decode cX12_walk 14 = .ok (.iload_n 2, 1) := by decide +kernel
theorem dX12_walk_15 : decode cX12_walk 15 = .ok (.invokevirtual 319, 3) := by decide +kernel
theorem dX12_walk_18 : decode cX12_walk 18 = .ok (.ifCond .eq 13, 3) := by decide +kernel
theorem dX12_walk_21 : decode cX12_walk 21 = .ok (.aload_n 0, 1) := by decide +kernel
theorem dX12_walk_22 : decode cX12_walk 22 = .ok (.iconst 0, 1) := by decide +kernel
theorem dX12_walk_23 : decode cX12_walk 23 = .ok (.iload_n 1, 1) := by decide +kernel
theorem dX12_walk_24 : decode cX12_walk 24 = .ok (.iload_n 2, 1) := by decide +kernel
theorem dX12_walk_25 : decode cX12_walk 25 = .ok (.invokevirtual 333, 3) := by decide +kernel
theorem dX12_walk_28 : decode cX12_walk 28 = .ok (.ifCond .ne 5, 3) := by decide +kernel
theorem dX12_walk_31 : decode cX12_walk 31 = .ok (.iconst (-1), 1) := by decide +kernel
theorem dX12_walk_32 : decode cX12_walk 32 = .ok (.ireturn, 1) := by decide +kernel
theorem dX12_walk_33 : decode cX12_walk 33 = .ok (.aload_n 0, 1) := by decide +kernel
theorem dX12_walk_34 : decode cX12_walk 34 = .ok (.invokevirtual 325, 3) := by decide +kernel
theorem dX12_walk_37 : decode cX12_walk 37 = .ok (.aload_n 0, 1) := by decide +kernel
theorem dX12_walk_38 : decode cX12_walk 38 = .ok (.iconst 0, 1) := by decide +kernel
theorem dX12_walk_39 : decode cX12_walk 39 = .ok (.iload_n 1, 1) := by decide +kernel
theorem dX12_walk_40 : decode cX12_walk 40 = .ok (.iload_n 2, 1) := by decide +kernel
theorem dX12_walk_41 : decode cX12_walk 41 = .ok (.invokevirtual 336, 3) := by decide +kernel
theorem dX12_walk_44 : decode cX12_walk 44 = .ok (.aload_n 0, 1) := by decide +kernel
theorem dX12_walk_45 : decode cX12_walk 45 = .ok (.getfield 113, 3) := by decide +kernel
theorem dX12_walk_48 : decode cX12_walk 48 = .ok (.bipush 18, 2) := by decide +kernel
theorem dX12_walk_50 : decode cX12_walk 50 = .ok (.iload_n 1, 1) := by decide +kernel
theorem dX12_walk_51 : decode cX12_walk 51 = .ok (.iadd, 1) := by decide +kernel
theorem dX12_walk_52 : decode cX12_walk 52 = .ok (.iaload, 1) := by decide +kernel
theorem dX12_walk_53 : decode cX12_walk 53 = .ok (.ireturn, 1) := by decide +kernel
def f_X12_walk (w : Nat) (o0 : Nat) (x1 : Int32) (x2 : Int32) (M : mM) : Option (Int32 × mM) := lt (wI M o0 0 0) fun M1 => bI (f_X12_isPerson w o0 x1 M1) fun q3 M2 => (if q3 = 0 then some ((-1), M2) else bI (f_X12_isDoor w o0 x2 M2) fun q5 M4 => (if q5 = 0 then some ((-1), M4) else bI (f_X12_mayWalk w o0 0 x1 x2 M4) fun q7 M6 => (if q7 = 0 then some ((-1), M6) else bV (f_X12_keeps w o0 M6) fun M8 => bV (f_X12_walks w o0 0 x1 x2 M8) fun M9 => chk (18 + x1) (sL (rF o0 24)) (some ((M9.1 (rF o0 24) (18 + x1).toNatClampNeg), M9)))))
set_option maxHeartbeats 4000000 in
set_option maxRecDepth 100000 in
theorem s_X12_walk {l : Launch} {G : mG} {sk : List mS} (w : Nat) (o0 : Nat) (h0 : isK o0 22) (x1 : Int32) (x2 : Int32) (M : mM) : Go muX12_walk (rm 3) 0 0 l G sk (mFin G sk eI) (f_X12_walk w o0 x1 x2 M) 0 [(0, .ref (gB G + o0)), (1, .int x1), (2, .int x2)] [] M := by
  unfold f_X12_walk
  refine go_aload_n 0 1 dX12_walk_0 rfl rfl ?_
  refine go_iconst 0 2 dX12_walk_1 rfl (by decide) ?_
  refine go_putI flX12_1 rfl rfl h0 5 dX12_walk_2 rfl ?_
  refine go_nmM (fun M1 => ?_)
  refine go_aload_n 0 6 dX12_walk_5 rfl rfl ?_
  refine go_iload_n 1 7 dX12_walk_6 rfl rfl ?_
  refine go_cVI1 1 clX12 cwX12_322 (m_X12_isPerson w o0 h0 x1 M1) h0 10 dX12_walk_7 rfl ⟨Nat.le_of_ble_eq_true rfl, Nat.le_of_ble_eq_true rfl⟩ ⟨Nat.zero_le _, Nat.zero_le _⟩ (Nat.le_of_ble_eq_true rfl) (fun q3 M2 _ => ?_)
  refine go_if_eq 31 13 dX12_walk_10 rfl (by decide) (fun _ => ?_) (fun _ => ?_)
  · refine go_iconst (-1) 32 dX12_walk_31 rfl (by decide) ?_
    exact go_iret rfl dX12_walk_32
  · refine go_aload_n 0 14 dX12_walk_13 rfl rfl ?_
    refine go_iload_n 2 15 dX12_walk_14 rfl rfl ?_
    refine go_cVI1 1 clX12 cwX12_319 (m_X12_isDoor w o0 h0 x2 M2) h0 18 dX12_walk_15 rfl ⟨Nat.le_of_ble_eq_true rfl, Nat.le_of_ble_eq_true rfl⟩ ⟨Nat.zero_le _, Nat.zero_le _⟩ (Nat.le_of_ble_eq_true rfl) (fun q5 M4 _ => ?_)
    refine go_if_eq 31 21 dX12_walk_18 rfl (by decide) (fun _ => ?_) (fun _ => ?_)
    · refine go_iconst (-1) 32 dX12_walk_31 rfl (by decide) ?_
      exact go_iret rfl dX12_walk_32
    · refine go_aload_n 0 22 dX12_walk_21 rfl rfl ?_
      refine go_iconst 0 23 dX12_walk_22 rfl (by decide) ?_
      refine go_iload_n 1 24 dX12_walk_23 rfl rfl ?_
      refine go_iload_n 2 25 dX12_walk_24 rfl rfl ?_
      refine go_cVI3 2 clX12 cwX12_333 (m_X12_mayWalk w o0 h0 0 x1 x2 M4) h0 28 dX12_walk_25 rfl ⟨Nat.le_of_ble_eq_true rfl, Nat.le_of_ble_eq_true rfl⟩ ⟨Nat.zero_le _, Nat.zero_le _⟩ (Nat.le_of_ble_eq_true rfl) (fun q7 M6 _ => ?_)
      refine go_if_ne 33 31 dX12_walk_28 rfl (by decide) (fun _ => ?_) (fun _ => ?_)
      · refine go_aload_n 0 34 dX12_walk_33 rfl rfl ?_
        refine go_cVV0 1 clX12 cwX12_325 (m_X12_keeps w o0 h0 M6) h0 37 dX12_walk_34 rfl ⟨Nat.le_of_ble_eq_true rfl, Nat.le_of_ble_eq_true rfl⟩ ⟨Nat.zero_le _, Nat.zero_le _⟩ (Nat.le_of_ble_eq_true rfl) (fun M8 _ => ?_)
        refine go_aload_n 0 38 dX12_walk_37 rfl rfl ?_
        refine go_iconst 0 39 dX12_walk_38 rfl (by decide) ?_
        refine go_iload_n 1 40 dX12_walk_39 rfl rfl ?_
        refine go_iload_n 2 41 dX12_walk_40 rfl rfl ?_
        refine go_cVV3 2 clX12 cwX12_336 (m_X12_walks w o0 h0 0 x1 x2 M8) h0 44 dX12_walk_41 rfl ⟨Nat.le_of_ble_eq_true rfl, Nat.le_of_ble_eq_true rfl⟩ ⟨Nat.zero_le _, Nat.zero_le _⟩ (Nat.le_of_ble_eq_true rfl) (fun M9 _ => ?_)
        refine go_aload_n 0 45 dX12_walk_44 rfl rfl ?_
        refine go_getR flX12_113 h0 48 dX12_walk_45 rfl ?_
        refine go_bipush 18 50 dX12_walk_48 rfl (by decide) ?_
        refine go_iload_n 1 51 dX12_walk_50 rfl rfl ?_
        refine go_iadd 52 dX12_walk_51 rfl ?_
        refine go_iald (rk12_24 h0) 53 dX12_walk_52 rfl ?_
        exact go_iret rfl dX12_walk_53
      · refine go_iconst (-1) 32 dX12_walk_31 rfl (by decide) ?_
        exact go_iret rfl dX12_walk_32
theorem m_X12_walk {l : Launch} {G : mG} {sk : List mS} (w : Nat) (o0 : Nat) (h0 : isK o0 22) (x1 : Int32) (x2 : Int32) (M : mM) : Mt l G sk yX12_walk muX12_walk 3 [.ref (gB G + o0), .int x1, .int x2] M eI (f_X12_walk w o0 x1 x2 M) := Mt.of (by decide) rfl (Nat.le_of_ble_eq_true rfl) (s_X12_walk w o0 h0 x1 x2 M)
theorem dX12_plane_0 : decode cX12_plane 0 = .ok (.aload_n 0, 1) := by decide +kernel
theorem dX12_plane_1 : decode cX12_plane 1 = .ok (.iconst 0, 1) := by decide +kernel
theorem dX12_plane_2 : decode cX12_plane 2 = .ok (.putfield 1, 3) := by decide +kernel
theorem dX12_plane_5 : decode cX12_plane 5 = .ok (.aload_n 0, 1) := by decide +kernel
theorem dX12_plane_6 : decode cX12_plane 6 = .ok (.iload_n 1, 1) := by decide +kernel
theorem dX12_plane_7 : decode cX12_plane 7 = .ok (.invokevirtual 319, 3) := by decide +kernel
theorem dX12_plane_10 : decode cX12_plane 10 = .ok (.ifCond .eq 16, 3) := by decide +kernel
theorem dX12_plane_13 : decode cX12_plane 13 = .ok (.aload_n 0, 1) := by decide +kernel
theorem dX12_plane_14 : decode cX12_plane 14 = .ok (.getfield 113, 3) := by decide +kernel
theorem dX12_plane_17 : decode cX12_plane 17 = .ok (.iconst 2, 1) := by decide +kernel
theorem dX12_plane_18 : decode cX12_plane 18 = .ok (.iload_n 1, 1) := by decide +kernel
theorem dX12_plane_19 : decode cX12_plane 19 = .ok (.iadd, 1) := by decide +kernel
theorem dX12_plane_20 : decode cX12_plane 20 = .ok (.iaload, 1) := by decide +kernel
theorem dX12_plane_21 : decode cX12_plane 21 = .ok (.bipush 20, 2) := by decide +kernel
theorem dX12_plane_23 : decode cX12_plane 23 = .ok (.if_icmp .lt 5, 3) := by decide +kernel
theorem dX12_plane_26 : decode cX12_plane 26 = .ok (.iconst (-1), 1) := by decide +kernel
theorem dX12_plane_27 : decode cX12_plane 27 = .ok (.ireturn, 1) := by decide +kernel
theorem dX12_plane_28 : decode cX12_plane 28 = .ok (.aload_n 0, 1) := by decide +kernel
theorem dX12_plane_29 : decode cX12_plane 29 = .ok (.invokevirtual 325, 3) := by decide +kernel
theorem dX12_plane_32 : decode cX12_plane 32 = .ok (.aload_n 0, 1) := by decide +kernel
theorem dX12_plane_33 : decode cX12_plane 33 = .ok (.getfield 113, 3) := by decide +kernel
theorem dX12_plane_36 : decode cX12_plane 36 = .ok (.iconst 2, 1) := by decide +kernel
theorem dX12_plane_37 : decode cX12_plane 37 = .ok (.iload_n 1, 1) := by decide +kernel
theorem dX12_plane_38 : decode cX12_plane 38 = .ok (.iadd, 1) := by decide +kernel
theorem dX12_plane_39 : decode cX12_plane 39 = .ok (.dup2, 1) := by decide +kernel
theorem dX12_plane_40 : decode cX12_plane 40 = .ok (.iaload, 1) := by decide +kernel
theorem dX12_plane_41 : decode cX12_plane 41 = .ok (.iconst 1, 1) := by decide +kernel
theorem dX12_plane_42 : decode cX12_plane 42 = .ok (.iadd, 1) := by decide +kernel
theorem dX12_plane_43 : decode cX12_plane 43 = .ok (.iastore, 1) := by decide +kernel
theorem dX12_plane_44 : decode cX12_plane 44 = .ok (.aload_n 0, 1) := by decide +kernel
theorem dX12_plane_45 : decode cX12_plane 45 = .ok (.getfield 113, 3) := by decide +kernel
theorem dX12_plane_48 : decode cX12_plane 48 = .ok (.iconst 2, 1) := by decide +kernel
theorem dX12_plane_49 : decode cX12_plane 49 = .ok (.iload_n 1, 1) := by decide +kernel
theorem dX12_plane_50 : decode cX12_plane 50 = .ok (.iadd, 1) := by decide +kernel
theorem dX12_plane_51 : decode cX12_plane 51 = .ok (.iaload, 1) := by decide +kernel
theorem dX12_plane_52 : decode cX12_plane 52 = .ok (.ireturn, 1) := by decide +kernel
def f_X12_plane (w : Nat) (o0 : Nat) (x1 : Int32) (M : mM) : Option (Int32 × mM) := lt (wI M o0 0 0) fun M1 => bI (f_X12_isDoor w o0 x1 M1) fun q3 M2 => (if q3 = 0 then some ((-1), M2) else chk (2 + x1) (sL (rF o0 24)) ((if (M2.1 (rF o0 24) (2 + x1).toNatClampNeg) < 20 then bV (f_X12_keeps w o0 M2) fun M4 => chk (2 + x1) (sL (rF o0 24)) (chk (2 + x1) (sL (rF o0 24)) (lt (wI M4 (rF o0 24) (2 + x1).toNatClampNeg ((M4.1 (rF o0 24) (2 + x1).toNatClampNeg) + 1)) fun M5 => chk (2 + x1) (sL (rF o0 24)) (some ((M5.1 (rF o0 24) (2 + x1).toNatClampNeg), M5)))) else some ((-1), M2))))
set_option maxHeartbeats 4000000 in
set_option maxRecDepth 100000 in
theorem s_X12_plane {l : Launch} {G : mG} {sk : List mS} (w : Nat) (o0 : Nat) (h0 : isK o0 22) (x1 : Int32) (M : mM) : Go muX12_plane (rm 2) 0 0 l G sk (mFin G sk eI) (f_X12_plane w o0 x1 M) 0 [(0, .ref (gB G + o0)), (1, .int x1)] [] M := by
  unfold f_X12_plane
  refine go_aload_n 0 1 dX12_plane_0 rfl rfl ?_
  refine go_iconst 0 2 dX12_plane_1 rfl (by decide) ?_
  refine go_putI flX12_1 rfl rfl h0 5 dX12_plane_2 rfl ?_
  refine go_nmM (fun M1 => ?_)
  refine go_aload_n 0 6 dX12_plane_5 rfl rfl ?_
  refine go_iload_n 1 7 dX12_plane_6 rfl rfl ?_
  refine go_cVI1 1 clX12 cwX12_319 (m_X12_isDoor w o0 h0 x1 M1) h0 10 dX12_plane_7 rfl ⟨Nat.le_of_ble_eq_true rfl, Nat.le_of_ble_eq_true rfl⟩ ⟨Nat.zero_le _, Nat.zero_le _⟩ (Nat.le_of_ble_eq_true rfl) (fun q3 M2 _ => ?_)
  refine go_if_eq 26 13 dX12_plane_10 rfl (by decide) (fun _ => ?_) (fun _ => ?_)
  · refine go_iconst (-1) 27 dX12_plane_26 rfl (by decide) ?_
    exact go_iret rfl dX12_plane_27
  · refine go_aload_n 0 14 dX12_plane_13 rfl rfl ?_
    refine go_getR flX12_113 h0 17 dX12_plane_14 rfl ?_
    refine go_iconst 2 18 dX12_plane_17 rfl (by decide) ?_
    refine go_iload_n 1 19 dX12_plane_18 rfl rfl ?_
    refine go_iadd 20 dX12_plane_19 rfl ?_
    refine go_iald (rk12_24 h0) 21 dX12_plane_20 rfl ?_
    refine go_bipush 20 23 dX12_plane_21 rfl (by decide) ?_
    refine go_icmp_lt 28 26 dX12_plane_23 rfl (by decide) (fun _ => ?_) (fun _ => ?_)
    · refine go_aload_n 0 29 dX12_plane_28 rfl rfl ?_
      refine go_cVV0 1 clX12 cwX12_325 (m_X12_keeps w o0 h0 M2) h0 32 dX12_plane_29 rfl ⟨Nat.le_of_ble_eq_true rfl, Nat.le_of_ble_eq_true rfl⟩ ⟨Nat.zero_le _, Nat.zero_le _⟩ (Nat.le_of_ble_eq_true rfl) (fun M4 _ => ?_)
      refine go_aload_n 0 33 dX12_plane_32 rfl rfl ?_
      refine go_getR flX12_113 h0 36 dX12_plane_33 rfl ?_
      refine go_iconst 2 37 dX12_plane_36 rfl (by decide) ?_
      refine go_iload_n 1 38 dX12_plane_37 rfl rfl ?_
      refine go_iadd 39 dX12_plane_38 rfl ?_
      refine go_dup2 40 dX12_plane_39 rfl rfl rfl ?_
      refine go_iald (rk12_24 h0) 41 dX12_plane_40 rfl ?_
      refine go_iconst 1 42 dX12_plane_41 rfl (by decide) ?_
      refine go_iadd 43 dX12_plane_42 rfl ?_
      refine go_iast (rk12_24 h0) 44 dX12_plane_43 rfl ?_
      refine go_nmM (fun M5 => ?_)
      refine go_aload_n 0 45 dX12_plane_44 rfl rfl ?_
      refine go_getR flX12_113 h0 48 dX12_plane_45 rfl ?_
      refine go_iconst 2 49 dX12_plane_48 rfl (by decide) ?_
      refine go_iload_n 1 50 dX12_plane_49 rfl rfl ?_
      refine go_iadd 51 dX12_plane_50 rfl ?_
      refine go_iald (rk12_24 h0) 52 dX12_plane_51 rfl ?_
      exact go_iret rfl dX12_plane_52
    · refine go_iconst (-1) 27 dX12_plane_26 rfl (by decide) ?_
      exact go_iret rfl dX12_plane_27
theorem m_X12_plane {l : Launch} {G : mG} {sk : List mS} (w : Nat) (o0 : Nat) (h0 : isK o0 22) (x1 : Int32) (M : mM) : Mt l G sk yX12_plane muX12_plane 2 [.ref (gB G + o0), .int x1] M eI (f_X12_plane w o0 x1 M) := Mt.of (by decide) rfl (Nat.le_of_ble_eq_true rfl) (s_X12_plane w o0 h0 x1 M)
theorem dX12_wedge_0 : decode cX12_wedge 0 = .ok (.aload_n 0, 1) := by decide +kernel
theorem dX12_wedge_1 : decode cX12_wedge 1 = .ok (.iconst 0, 1) := by decide +kernel
theorem dX12_wedge_2 : decode cX12_wedge 2 = .ok (.putfield 1, 3) := by decide +kernel
theorem dX12_wedge_5 : decode cX12_wedge 5 = .ok (.aload_n 0, 1) := by decide +kernel
theorem dX12_wedge_6 : decode cX12_wedge 6 = .ok (.iload_n 1, 1) := by decide +kernel
theorem dX12_wedge_7 : decode cX12_wedge 7 = .ok (.invokevirtual 319, 3) := by decide +kernel
theorem dX12_wedge_10 : decode cX12_wedge 10 = .ok (.ifCond .eq 12, 3) := by decide +kernel
theorem dX12_wedge_13 : decode cX12_wedge 13 = .ok (.aload_n 0, 1) := by decide +kernel
theorem dX12_wedge_14 : decode cX12_wedge 14 = .ok (.iconst 0, 1) := by decide +kernel
theorem dX12_wedge_15 : decode cX12_wedge 15 = .ok (.iload_n 1, 1) := by decide +kernel
theorem dX12_wedge_16 : decode cX12_wedge 16 = .ok (.invokevirtual 339, 3) := by decide +kernel
theorem dX12_wedge_19 : decode cX12_wedge 19 = .ok (.ifCond .ne 5, 3) := by decide +kernel
theorem dX12_wedge_22 : decode cX12_wedge 22 = .ok (.iconst (-1), 1) := by decide +kernel
theorem dX12_wedge_23 : decode cX12_wedge 23 = .ok (.ireturn, 1) := by decide +kernel
theorem dX12_wedge_24 : decode cX12_wedge 24 = .ok (.aload_n 0, 1) := by decide +kernel
theorem dX12_wedge_25 : decode cX12_wedge 25 = .ok (.invokevirtual 325, 3) := by decide +kernel
theorem dX12_wedge_28 : decode cX12_wedge 28 = .ok (.aload_n 0, 1) := by decide +kernel
theorem dX12_wedge_29 : decode cX12_wedge 29 = .ok (.getfield 113, 3) := by decide +kernel
theorem dX12_wedge_32 : decode cX12_wedge 32 = .ok (.iconst 1, 1) := by decide +kernel
theorem dX12_wedge_33 : decode cX12_wedge 33 = .ok (.dup2, 1) := by decide +kernel
theorem dX12_wedge_34 : decode cX12_wedge 34 = .ok (.iaload, 1) := by decide +kernel
theorem dX12_wedge_35 : decode cX12_wedge 35 = .ok (.iconst 1, 1) := by decide +kernel
theorem dX12_wedge_36 : decode cX12_wedge 36 = .ok (.iload_n 1, 1) := by decide +kernel
theorem dX12_wedge_37 : decode cX12_wedge 37 = .ok (.ishl, 1) := by decide +kernel
theorem dX12_wedge_38 : decode cX12_wedge 38 = .ok (.ixor, 1) := by decide +kernel
theorem dX12_wedge_39 : decode cX12_wedge 39 = .ok (.iastore, 1) := by decide +kernel
theorem dX12_wedge_40 : decode cX12_wedge 40 = .ok (.aload_n 0, 1) := by decide +kernel
theorem dX12_wedge_41 : decode cX12_wedge 41 = .ok (.getfield 113, 3) := by decide +kernel
theorem dX12_wedge_44 : decode cX12_wedge 44 = .ok (.iconst 1, 1) := by decide +kernel
theorem dX12_wedge_45 : decode cX12_wedge 45 = .ok (.iaload, 1) := by decide +kernel
theorem dX12_wedge_46 : decode cX12_wedge 46 = .ok (.iload_n 1, 1) := by decide +kernel
theorem dX12_wedge_47 : decode cX12_wedge 47 = .ok (.ishr, 1) := by decide +kernel
theorem dX12_wedge_48 : decode cX12_wedge 48 = .ok (.iconst 1, 1) := by decide +kernel
theorem dX12_wedge_49 : decode cX12_wedge 49 = .ok (.iand, 1) := by decide +kernel
theorem dX12_wedge_50 : decode cX12_wedge 50 = .ok (.ireturn, 1) := by decide +kernel
def f_X12_wedge (w : Nat) (o0 : Nat) (x1 : Int32) (M : mM) : Option (Int32 × mM) := lt (wI M o0 0 0) fun M1 => bI (f_X12_isDoor w o0 x1 M1) fun q3 M2 => (if q3 = 0 then some ((-1), M2) else bI (f_X12_mayWedge w o0 0 x1 M2) fun q5 M4 => (if q5 = 0 then some ((-1), M4) else bV (f_X12_keeps w o0 M4) fun M6 => chk 1 (sL (rF o0 24)) (chk 1 (sL (rF o0 24)) (lt (wI M6 (rF o0 24) (1 : Int32).toNatClampNeg ((M6.1 (rF o0 24) (1 : Int32).toNatClampNeg) ^^^ ((1 : Int32) <<< (x1 &&& 31)))) fun M7 => chk 1 (sL (rF o0 24)) (some ((((M7.1 (rF o0 24) (1 : Int32).toNatClampNeg) >>> (x1 &&& 31)) &&& 1), M7))))))
set_option maxHeartbeats 4000000 in
set_option maxRecDepth 100000 in
theorem s_X12_wedge {l : Launch} {G : mG} {sk : List mS} (w : Nat) (o0 : Nat) (h0 : isK o0 22) (x1 : Int32) (M : mM) : Go muX12_wedge (rm 3) 0 0 l G sk (mFin G sk eI) (f_X12_wedge w o0 x1 M) 0 [(0, .ref (gB G + o0)), (1, .int x1)] [] M := by
  unfold f_X12_wedge
  refine go_aload_n 0 1 dX12_wedge_0 rfl rfl ?_
  refine go_iconst 0 2 dX12_wedge_1 rfl (by decide) ?_
  refine go_putI flX12_1 rfl rfl h0 5 dX12_wedge_2 rfl ?_
  refine go_nmM (fun M1 => ?_)
  refine go_aload_n 0 6 dX12_wedge_5 rfl rfl ?_
  refine go_iload_n 1 7 dX12_wedge_6 rfl rfl ?_
  refine go_cVI1 1 clX12 cwX12_319 (m_X12_isDoor w o0 h0 x1 M1) h0 10 dX12_wedge_7 rfl ⟨Nat.le_of_ble_eq_true rfl, Nat.le_of_ble_eq_true rfl⟩ ⟨Nat.zero_le _, Nat.zero_le _⟩ (Nat.le_of_ble_eq_true rfl) (fun q3 M2 _ => ?_)
  refine go_if_eq 22 13 dX12_wedge_10 rfl (by decide) (fun _ => ?_) (fun _ => ?_)
  · refine go_iconst (-1) 23 dX12_wedge_22 rfl (by decide) ?_
    exact go_iret rfl dX12_wedge_23
  · refine go_aload_n 0 14 dX12_wedge_13 rfl rfl ?_
    refine go_iconst 0 15 dX12_wedge_14 rfl (by decide) ?_
    refine go_iload_n 1 16 dX12_wedge_15 rfl rfl ?_
    refine go_cVI2 2 clX12 cwX12_339 (m_X12_mayWedge w o0 h0 0 x1 M2) h0 19 dX12_wedge_16 rfl ⟨Nat.le_of_ble_eq_true rfl, Nat.le_of_ble_eq_true rfl⟩ ⟨Nat.zero_le _, Nat.zero_le _⟩ (Nat.le_of_ble_eq_true rfl) (fun q5 M4 _ => ?_)
    refine go_if_ne 24 22 dX12_wedge_19 rfl (by decide) (fun _ => ?_) (fun _ => ?_)
    · refine go_aload_n 0 25 dX12_wedge_24 rfl rfl ?_
      refine go_cVV0 1 clX12 cwX12_325 (m_X12_keeps w o0 h0 M4) h0 28 dX12_wedge_25 rfl ⟨Nat.le_of_ble_eq_true rfl, Nat.le_of_ble_eq_true rfl⟩ ⟨Nat.zero_le _, Nat.zero_le _⟩ (Nat.le_of_ble_eq_true rfl) (fun M6 _ => ?_)
      refine go_aload_n 0 29 dX12_wedge_28 rfl rfl ?_
      refine go_getR flX12_113 h0 32 dX12_wedge_29 rfl ?_
      refine go_iconst 1 33 dX12_wedge_32 rfl (by decide) ?_
      refine go_dup2 34 dX12_wedge_33 rfl rfl rfl ?_
      refine go_iald (rk12_24 h0) 35 dX12_wedge_34 rfl ?_
      refine go_iconst 1 36 dX12_wedge_35 rfl (by decide) ?_
      refine go_iload_n 1 37 dX12_wedge_36 rfl rfl ?_
      refine go_ishl 38 dX12_wedge_37 rfl ?_
      refine go_ixor 39 dX12_wedge_38 rfl ?_
      refine go_iast (rk12_24 h0) 40 dX12_wedge_39 rfl ?_
      refine go_nmM (fun M7 => ?_)
      refine go_aload_n 0 41 dX12_wedge_40 rfl rfl ?_
      refine go_getR flX12_113 h0 44 dX12_wedge_41 rfl ?_
      refine go_iconst 1 45 dX12_wedge_44 rfl (by decide) ?_
      refine go_iald (rk12_24 h0) 46 dX12_wedge_45 rfl ?_
      refine go_iload_n 1 47 dX12_wedge_46 rfl rfl ?_
      refine go_ishr 48 dX12_wedge_47 rfl ?_
      refine go_iconst 1 49 dX12_wedge_48 rfl (by decide) ?_
      refine go_iand 50 dX12_wedge_49 rfl ?_
      exact go_iret rfl dX12_wedge_50
    · refine go_iconst (-1) 23 dX12_wedge_22 rfl (by decide) ?_
      exact go_iret rfl dX12_wedge_23
theorem m_X12_wedge {l : Launch} {G : mG} {sk : List mS} (w : Nat) (o0 : Nat) (h0 : isK o0 22) (x1 : Int32) (M : mM) : Mt l G sk yX12_wedge muX12_wedge 3 [.ref (gB G + o0), .int x1] M eI (f_X12_wedge w o0 x1 M) := Mt.of (by decide) rfl (Nat.le_of_ble_eq_true rfl) (s_X12_wedge w o0 h0 x1 M)
theorem dX12_force_0 : decode cX12_force 0 = .ok (.aload_n 0, 1) := by decide +kernel
theorem dX12_force_1 : decode cX12_force 1 = .ok (.iconst 0, 1) := by decide +kernel
theorem dX12_force_2 : decode cX12_force 2 = .ok (.putfield 1, 3) := by decide +kernel
theorem dX12_force_5 : decode cX12_force 5 = .ok (.aload_n 0, 1) := by decide +kernel
theorem dX12_force_6 : decode cX12_force 6 = .ok (.iload_n 1, 1) := by decide +kernel
theorem dX12_force_7 : decode cX12_force 7 = .ok (.invokevirtual 319, 3) := by decide +kernel
theorem dX12_force_10 : decode cX12_force 10 = .ok (.ifCond .eq 12, 3) := by decide +kernel
theorem dX12_force_13 : decode cX12_force 13 = .ok (.aload_n 0, 1) := by decide +kernel
theorem dX12_force_14 : decode cX12_force 14 = .ok (.iconst 0, 1) := by decide +kernel
theorem dX12_force_15 : decode cX12_force 15 = .ok (.iload_n 1, 1) := by decide +kernel
theorem dX12_force_16 : decode cX12_force 16 = .ok (.invokevirtual 342, 3) := by decide +kernel
theorem dX12_force_19 : decode cX12_force 19 = .ok (.ifCond .ne 5, 3) := by decide +kernel
theorem dX12_force_22 : decode cX12_force 22 = .ok (.iconst (-1), 1) := by decide +kernel
theorem dX12_force_23 : decode cX12_force 23 = .ok (.ireturn, 1) := by decide +kernel
theorem dX12_force_24 : decode cX12_force 24 = .ok (.aload_n 0, 1) := by decide +kernel
theorem dX12_force_25 : decode cX12_force 25 = .ok (.invokevirtual 325, 3) := by decide +kernel
theorem dX12_force_28 : decode cX12_force 28 = .ok (.aload_n 0, 1) := by decide +kernel
theorem dX12_force_29 : decode cX12_force 29 = .ok (.getfield 113, 3) := by decide +kernel
theorem dX12_force_32 : decode cX12_force 32 = .ok (.iconst 2, 1) := by decide +kernel
theorem dX12_force_33 : decode cX12_force 33 = .ok (.iload_n 1, 1) := by decide +kernel
theorem dX12_force_34 : decode cX12_force 34 = .ok (.iadd, 1) := by decide +kernel
theorem dX12_force_35 : decode cX12_force 35 = .ok (.aload_n 0, 1) := by decide +kernel
theorem dX12_force_36 : decode cX12_force 36 = .ok (.getfield 113, 3) := by decide +kernel
theorem dX12_force_39 : decode cX12_force 39 = .ok (.bipush 10, 2) := by decide +kernel
theorem dX12_force_41 : decode cX12_force 41 = .ok (.iload_n 1, 1) := by decide +kernel
theorem dX12_force_42 : decode cX12_force 42 = .ok (.iadd, 1) := by decide +kernel
theorem dX12_force_43 : decode cX12_force 43 = .ok (.iaload, 1) := by decide +kernel
theorem dX12_force_44 : decode cX12_force 44 = .ok (.iastore, 1) := by decide +kernel
theorem dX12_force_45 : decode cX12_force 45 = .ok (.aload_n 0, 1) := by decide +kernel
theorem dX12_force_46 : decode cX12_force 46 = .ok (.getfield 113, 3) := by decide +kernel
theorem dX12_force_49 : decode cX12_force 49 = .ok (.iconst 2, 1) := by decide +kernel
theorem dX12_force_50 : decode cX12_force 50 = .ok (.iload_n 1, 1) := by decide +kernel
theorem dX12_force_51 : decode cX12_force 51 = .ok (.iadd, 1) := by decide +kernel
theorem dX12_force_52 : decode cX12_force 52 = .ok (.iaload, 1) := by decide +kernel
theorem dX12_force_53 : decode cX12_force 53 = .ok (.ireturn, 1) := by decide +kernel
def f_X12_force (w : Nat) (o0 : Nat) (x1 : Int32) (M : mM) : Option (Int32 × mM) := lt (wI M o0 0 0) fun M1 => bI (f_X12_isDoor w o0 x1 M1) fun q3 M2 => (if q3 = 0 then some ((-1), M2) else bI (f_X12_mayForce w o0 0 x1 M2) fun q5 M4 => (if q5 = 0 then some ((-1), M4) else bV (f_X12_keeps w o0 M4) fun M6 => chk (10 + x1) (sL (rF o0 24)) (chk (2 + x1) (sL (rF o0 24)) (lt (wI M6 (rF o0 24) (2 + x1).toNatClampNeg (M6.1 (rF o0 24) (10 + x1).toNatClampNeg)) fun M7 => chk (2 + x1) (sL (rF o0 24)) (some ((M7.1 (rF o0 24) (2 + x1).toNatClampNeg), M7))))))
set_option maxHeartbeats 4000000 in
set_option maxRecDepth 100000 in
theorem s_X12_force {l : Launch} {G : mG} {sk : List mS} (w : Nat) (o0 : Nat) (h0 : isK o0 22) (x1 : Int32) (M : mM) : Go muX12_force (rm 3) 0 0 l G sk (mFin G sk eI) (f_X12_force w o0 x1 M) 0 [(0, .ref (gB G + o0)), (1, .int x1)] [] M := by
  unfold f_X12_force
  refine go_aload_n 0 1 dX12_force_0 rfl rfl ?_
  refine go_iconst 0 2 dX12_force_1 rfl (by decide) ?_
  refine go_putI flX12_1 rfl rfl h0 5 dX12_force_2 rfl ?_
  refine go_nmM (fun M1 => ?_)
  refine go_aload_n 0 6 dX12_force_5 rfl rfl ?_
  refine go_iload_n 1 7 dX12_force_6 rfl rfl ?_
  refine go_cVI1 1 clX12 cwX12_319 (m_X12_isDoor w o0 h0 x1 M1) h0 10 dX12_force_7 rfl ⟨Nat.le_of_ble_eq_true rfl, Nat.le_of_ble_eq_true rfl⟩ ⟨Nat.zero_le _, Nat.zero_le _⟩ (Nat.le_of_ble_eq_true rfl) (fun q3 M2 _ => ?_)
  refine go_if_eq 22 13 dX12_force_10 rfl (by decide) (fun _ => ?_) (fun _ => ?_)
  · refine go_iconst (-1) 23 dX12_force_22 rfl (by decide) ?_
    exact go_iret rfl dX12_force_23
  · refine go_aload_n 0 14 dX12_force_13 rfl rfl ?_
    refine go_iconst 0 15 dX12_force_14 rfl (by decide) ?_
    refine go_iload_n 1 16 dX12_force_15 rfl rfl ?_
    refine go_cVI2 2 clX12 cwX12_342 (m_X12_mayForce w o0 h0 0 x1 M2) h0 19 dX12_force_16 rfl ⟨Nat.le_of_ble_eq_true rfl, Nat.le_of_ble_eq_true rfl⟩ ⟨Nat.zero_le _, Nat.zero_le _⟩ (Nat.le_of_ble_eq_true rfl) (fun q5 M4 _ => ?_)
    refine go_if_ne 24 22 dX12_force_19 rfl (by decide) (fun _ => ?_) (fun _ => ?_)
    · refine go_aload_n 0 25 dX12_force_24 rfl rfl ?_
      refine go_cVV0 1 clX12 cwX12_325 (m_X12_keeps w o0 h0 M4) h0 28 dX12_force_25 rfl ⟨Nat.le_of_ble_eq_true rfl, Nat.le_of_ble_eq_true rfl⟩ ⟨Nat.zero_le _, Nat.zero_le _⟩ (Nat.le_of_ble_eq_true rfl) (fun M6 _ => ?_)
      refine go_aload_n 0 29 dX12_force_28 rfl rfl ?_
      refine go_getR flX12_113 h0 32 dX12_force_29 rfl ?_
      refine go_iconst 2 33 dX12_force_32 rfl (by decide) ?_
      refine go_iload_n 1 34 dX12_force_33 rfl rfl ?_
      refine go_iadd 35 dX12_force_34 rfl ?_
      refine go_aload_n 0 36 dX12_force_35 rfl rfl ?_
      refine go_getR flX12_113 h0 39 dX12_force_36 rfl ?_
      refine go_bipush 10 41 dX12_force_39 rfl (by decide) ?_
      refine go_iload_n 1 42 dX12_force_41 rfl rfl ?_
      refine go_iadd 43 dX12_force_42 rfl ?_
      refine go_iald (rk12_24 h0) 44 dX12_force_43 rfl ?_
      refine go_iast (rk12_24 h0) 45 dX12_force_44 rfl ?_
      refine go_nmM (fun M7 => ?_)
      refine go_aload_n 0 46 dX12_force_45 rfl rfl ?_
      refine go_getR flX12_113 h0 49 dX12_force_46 rfl ?_
      refine go_iconst 2 50 dX12_force_49 rfl (by decide) ?_
      refine go_iload_n 1 51 dX12_force_50 rfl rfl ?_
      refine go_iadd 52 dX12_force_51 rfl ?_
      refine go_iald (rk12_24 h0) 53 dX12_force_52 rfl ?_
      exact go_iret rfl dX12_force_53
    · refine go_iconst (-1) 23 dX12_force_22 rfl (by decide) ?_
      exact go_iret rfl dX12_force_23
theorem m_X12_force {l : Launch} {G : mG} {sk : List mS} (w : Nat) (o0 : Nat) (h0 : isK o0 22) (x1 : Int32) (M : mM) : Mt l G sk yX12_force muX12_force 3 [.ref (gB G + o0), .int x1] M eI (f_X12_force w o0 x1 M) := Mt.of (by decide) rfl (Nat.le_of_ble_eq_true rfl) (s_X12_force w o0 h0 x1 M)
theorem dX12_undo_0 : decode cX12_undo 0 = .ok (.aload_n 0, 1) := by decide +kernel
theorem dX12_undo_1 : decode cX12_undo 1 = .ok (.iconst 0, 1) := by decide +kernel
theorem dX12_undo_2 : decode cX12_undo 2 = .ok (.putfield 1, 3) := by decide +kernel
theorem dX12_undo_5 : decode cX12_undo 5 = .ok (.aload_n 0, 1) := by decide +kernel
theorem dX12_undo_6 : decode cX12_undo 6 = .ok (.getfield 285, 3) := by decide +kernel
theorem dX12_undo_9 : decode cX12_undo 9 = .ok (.ifCond .ne 5, 3) := by decide +kernel
theorem dX12_undo_12 : decode cX12_undo 12 = .ok (.iconst 0, 1) := by decide +kernel
theorem dX12_undo_13 : decode cX12_undo 13 = .ok (.ireturn, 1) := by decide +kernel
theorem dX12_undo_14 : decode cX12_undo 14 = .ok (.aload_n 0, 1) := by decide +kernel
theorem dX12_undo_15 : decode cX12_undo 15 = .ok (.dup, 1) := by decide +kernel
theorem dX12_undo_16 : decode cX12_undo 16 = .ok (.getfield 285, 3) := by decide +kernel
theorem dX12_undo_19 : decode cX12_undo 19 = .ok (.iconst 1, 1) := by decide +kernel
theorem dX12_undo_20 : decode cX12_undo 20 = .ok (.isub, 1) := by decide +kernel
theorem dX12_undo_21 : decode cX12_undo 21 = .ok (.putfield 285, 3) := by decide +kernel
theorem dX12_undo_24 : decode cX12_undo 24 = .ok (.aload_n 0, 1) := by decide +kernel
theorem dX12_undo_25 : decode cX12_undo 25 = .ok (.bipush 65, 2) := by decide +kernel
theorem dX12_undo_27 : decode cX12_undo 27 = .ok (.iconst 5, 1) := by decide +kernel
theorem dX12_undo_28 : decode cX12_undo 28 = .ok (.aload_n 0, 1) := by decide +kernel
theorem dX12_undo_29 : decode cX12_undo 29 = .ok (.getfield 285, 3) := by decide +kernel
theorem dX12_undo_32 : decode cX12_undo 32 = .ok (.iadd, 1) := by decide +kernel
theorem dX12_undo_33 : decode cX12_undo 33 = .ok (.imul, 1) := by decide +kernel
theorem dX12_undo_34 : decode cX12_undo 34 = .ok (.iconst 0, 1) := by decide +kernel
theorem dX12_undo_35 : decode cX12_undo 35 = .ok (.bipush 23, 2) := by decide +kernel
theorem dX12_undo_37 : decode cX12_undo 37 = .ok (.invokevirtual 288, 3) := by decide +kernel
theorem dX12_undo_40 : decode cX12_undo 40 = .ok (.iconst 1, 1) := by decide +kernel
theorem dX12_undo_41 : decode cX12_undo 41 = .ok (.ireturn, 1) := by decide +kernel
def f_X12_undo (w : Nat) (o0 : Nat) (M : mM) : Option (Int32 × mM) := lt (wI M o0 0 0) fun M1 => (if (M1.1 o0 25) = 0 then rtB 0 M1 else lt (wI M1 o0 25 ((M1.1 o0 25) - 1)) fun M2 => bV (f_X12_copies w o0 (65 * (5 + (M2.1 o0 25))) 0 23 M2) fun M3 => rtB 1 M3)
set_option maxHeartbeats 4000000 in
set_option maxRecDepth 100000 in
theorem s_X12_undo {l : Launch} {G : mG} {sk : List mS} (w : Nat) (o0 : Nat) (h0 : isK o0 22) (M : mM) : Go muX12_undo (rm 1) 0 0 l G sk (mFin G sk eI) (f_X12_undo w o0 M) 0 [(0, .ref (gB G + o0))] [] M := by
  unfold f_X12_undo
  refine go_aload_n 0 1 dX12_undo_0 rfl rfl ?_
  refine go_iconst 0 2 dX12_undo_1 rfl (by decide) ?_
  refine go_putI flX12_1 rfl rfl h0 5 dX12_undo_2 rfl ?_
  refine go_nmM (fun M1 => ?_)
  refine go_aload_n 0 6 dX12_undo_5 rfl rfl ?_
  refine go_getI flX12_285 (by decide) h0 9 dX12_undo_6 rfl ?_
  refine go_if_ne 14 12 dX12_undo_9 rfl (by decide) (fun _ => ?_) (fun _ => ?_)
  · refine go_aload_n 0 15 dX12_undo_14 rfl rfl ?_
    refine go_dup 16 dX12_undo_15 rfl rfl ?_
    refine go_getI flX12_285 (by decide) h0 19 dX12_undo_16 rfl ?_
    refine go_iconst 1 20 dX12_undo_19 rfl (by decide) ?_
    refine go_isub 21 dX12_undo_20 rfl ?_
    refine go_putI flX12_285 rfl rfl h0 24 dX12_undo_21 rfl ?_
    refine go_nmM (fun M2 => ?_)
    refine go_aload_n 0 25 dX12_undo_24 rfl rfl ?_
    refine go_bipush 65 27 dX12_undo_25 rfl (by decide) ?_
    refine go_iconst 5 28 dX12_undo_27 rfl (by decide) ?_
    refine go_aload_n 0 29 dX12_undo_28 rfl rfl ?_
    refine go_getI flX12_285 (by decide) h0 32 dX12_undo_29 rfl ?_
    refine go_iadd 33 dX12_undo_32 rfl ?_
    refine go_imul 34 dX12_undo_33 rfl ?_
    refine go_iconst 0 35 dX12_undo_34 rfl (by decide) ?_
    refine go_bipush 23 37 dX12_undo_35 rfl (by decide) ?_
    refine go_cVV3 0 clX12 cwX12_288 (m_X12_copies w o0 h0 (65 * (5 + (M2.1 o0 25))) 0 23 M2) h0 40 dX12_undo_37 rfl ⟨Nat.le_of_ble_eq_true rfl, Nat.le_of_ble_eq_true rfl⟩ ⟨Nat.zero_le _, Nat.zero_le _⟩ (Nat.le_of_ble_eq_true rfl) (fun M3 _ => ?_)
    refine go_iconst 1 41 dX12_undo_40 rfl (by decide) ?_
    exact go_zret rfl dX12_undo_41
  · refine go_iconst 0 13 dX12_undo_12 rfl (by decide) ?_
    exact go_zret rfl dX12_undo_13
theorem m_X12_undo {l : Launch} {G : mG} {sk : List mS} (w : Nat) (o0 : Nat) (h0 : isK o0 22) (M : mM) : Mt l G sk yX12_undo muX12_undo 1 [.ref (gB G + o0)] M eI (f_X12_undo w o0 M) := Mt.of (by decide) rfl (Nat.le_of_ble_eq_true rfl) (s_X12_undo w o0 h0 M)
theorem dX12_can_0 : decode cX12_can 0 = .ok (.iload_n 1, 1) := by decide +kernel
theorem dX12_can_1 : decode cX12_can 1 = .ok (.ifCond .eq 84, 3) := by decide +kernel
theorem dX12_can_4 : decode cX12_can 4 = .ok (.aload_n 0, 1) := by decide +kernel
theorem dX12_can_5 : decode cX12_can 5 = .ok (.iload_n 2, 1) := by decide +kernel
theorem dX12_can_6 : decode cX12_can 6 = .ok (.invokevirtual 319, 3) := by decide +kernel
theorem dX12_can_9 : decode cX12_can 9 = .ok (.ifCond .eq 80, 3) := by decide +kernel
theorem dX12_can_12 : decode cX12_can 12 = .ok (.iload_n 1, 1) := by decide +kernel
theorem dX12_can_13 : decode cX12_can 13 = .ok (.iconst 1, 1) := by decide +kernel
theorem dX12_can_14 : decode cX12_can 14 = .ok (.if_icmp .ne 18, 3) := by decide +kernel
theorem dX12_can_17 : decode cX12_can 17 = .ok (.aload_n 0, 1) := by decide +kernel
theorem dX12_can_18 : decode cX12_can 18 = .ok (.sipush 1365, 3) := by decide +kernel
theorem dX12_can_21 : decode cX12_can 21 = .ok (.iload_n 3, 1) := by decide +kernel
theorem dX12_can_22 : decode cX12_can 22 = .ok (.iload_n 2, 1) := by decide +kernel
theorem dX12_can_23 : decode cX12_can 23 = .ok (.invokevirtual 333, 3) := by decide +kernel
theorem dX12_can_26 : decode cX12_can 26 = .ok (.ifCond .eq 63, 3) := by decide +kernel
theorem dX12_can_29 : decode cX12_can 29 = .ok (.goto 56, 3) := by decide +kernel
theorem dX12_can_32 : decode cX12_can 32 = .ok (.iload_n 1, 1) := by decide +kernel
theorem dX12_can_33 : decode cX12_can 33 = .ok (.iconst 2, 1) := by decide +kernel
theorem dX12_can_34 : decode cX12_can 34 = .ok (.if_icmp .ne 21, 3) := by decide +kernel
theorem dX12_can_37 : decode cX12_can 37 = .ok (.aload_n 0, 1) := by decide +kernel
theorem dX12_can_38 : decode cX12_can 38 = .ok (.getfield 113, 3) := by decide +kernel
theorem dX12_can_41 : decode cX12_can 41 = .ok (.sipush 1367, 3) := by decide +kernel
theorem dX12_can_44 : decode cX12_can 44 = .ok (.iload_n 2, 1) := by decide +kernel
theorem dX12_can_45 : decode cX12_can 45 = .ok (.iadd, 1) := by decide +kernel
theorem dX12_can_46 : decode cX12_can 46 = .ok (.iaload, 1) := by decide +kernel
theorem dX12_can_47 : decode cX12_can 47 = .ok (.bipush 20, 2) := by decide +kernel
theorem dX12_can_49 : decode cX12_can 49 = .ok (.if_icmp .ge 40, 3) := by decide +kernel
theorem dX12_can_52 : decode cX12_can 52 = .ok (.goto 33, 3) := by decide +kernel
theorem dX12_can_55 : decode cX12_can 55 = .ok (.iload_n 1, 1) := by decide +kernel
theorem dX12_can_56 : decode cX12_can 56 = .ok (.iconst 3, 1) := by decide +kernel
theorem dX12_can_57 : decode cX12_can 57 = .ok (.if_icmp .ne 17, 3) := by decide +kernel
theorem dX12_can_60 : decode cX12_can 60 = .ok (.aload_n 0, 1) := by decide +kernel
theorem dX12_can_61 : decode cX12_can 61 = .ok (.sipush 1365, 3) := by decide +kernel
theorem dX12_can_64 : decode cX12_can 64 = .ok (.iload_n 2, 1) := by decide +kernel
theorem dX12_can_65 : decode cX12_can 65 = .ok (.invokevirtual 339, 3) := by decide +kernel
theorem dX12_can_68 : decode cX12_can 68 = .ok (.ifCond .eq 21, 3) := by decide +kernel
theorem dX12_can_71 : decode cX12_can 71 = .ok (.goto 14, 3) := by decide +kernel
theorem dX12_can_74 : decode cX12_can 74 = .ok (.aload_n 0, 1) := by decide +kernel
theorem dX12_can_75 : decode cX12_can 75 = .ok (.sipush 1365, 3) := by decide +kernel
theorem dX12_can_78 : decode cX12_can 78 = .ok (.iload_n 2, 1) := by decide +kernel
theorem dX12_can_79 : decode cX12_can 79 = .ok (.invokevirtual 342, 3) := by decide +kernel
theorem dX12_can_82 : decode cX12_can 82 = .ok (.ifCond .eq 7, 3) := by decide +kernel
theorem dX12_can_85 : decode cX12_can 85 = .ok (.iconst 1, 1) := by decide +kernel
theorem dX12_can_86 : decode cX12_can 86 = .ok (.goto 4, 3) := by decide +kernel
theorem dX12_can_89 : decode cX12_can 89 = .ok (.iconst 0, 1) := by decide +kernel
theorem dX12_can_90 : decode cX12_can 90 = .ok (.ireturn, 1) := by decide +kernel
def f_X12_can_85 (w : Nat) (M : mM) : Option (Int32 × mM) := rtB 1 M
set_option maxHeartbeats 4000000 in
set_option maxRecDepth 100000 in
theorem s_X12_can_85 {l : Launch} {G : mG} {sk : List mS} (w : Nat) (M : mM) : Go muX12_can (rm 3) 0 0 l G sk (mFin G sk eI) (f_X12_can_85 w M) 85 [] [] M := by
  unfold f_X12_can_85
  refine go_iconst 1 86 dX12_can_85 rfl (by decide) ?_
  refine go_goto 90 dX12_can_86 (by decide) ?_
  exact go_zret rfl dX12_can_90
def f_X12_can (w : Nat) (o0 : Nat) (x1 : Int32) (x2 : Int32) (x3 : Int32) (M : mM) : Option (Int32 × mM) := (if x1 = 0 then (f_X12_can_85 w M) else bI (f_X12_isDoor w o0 x2 M) fun q2 M1 => (if q2 = 0 then rtB 0 M1 else (if x1 = 1 then bI (f_X12_mayWalk w o0 1365 x3 x2 M1) fun q8 M7 => (if q8 = 0 then rtB 0 M7 else (f_X12_can_85 w M7)) else (if x1 = 2 then chk (1367 + x2) (sL (rF o0 24)) ((if 20 ≤ (M1.1 (rF o0 24) (1367 + x2).toNatClampNeg) then rtB 0 M1 else (f_X12_can_85 w M1))) else (if x1 = 3 then bI (f_X12_mayWedge w o0 1365 x2 M1) fun q6 M5 => (if q6 = 0 then rtB 0 M5 else (f_X12_can_85 w M5)) else bI (f_X12_mayForce w o0 1365 x2 M1) fun q4 M3 => (if q4 = 0 then rtB 0 M3 else (f_X12_can_85 w M3)))))))
set_option maxHeartbeats 4000000 in
set_option maxRecDepth 100000 in
theorem s_X12_can {l : Launch} {G : mG} {sk : List mS} (w : Nat) (o0 : Nat) (h0 : isK o0 22) (x1 : Int32) (x2 : Int32) (x3 : Int32) (M : mM) : Go muX12_can (rm 3) 0 0 l G sk (mFin G sk eI) (f_X12_can w o0 x1 x2 x3 M) 0 [(0, .ref (gB G + o0)), (1, .int x1), (2, .int x2), (3, .int x3)] [] M := by
  unfold f_X12_can
  refine go_iload_n 1 1 dX12_can_0 rfl rfl ?_
  refine go_if_eq 85 4 dX12_can_1 rfl (by decide) (fun _ => ?_) (fun _ => ?_)
  · exact go_lv [] rfl (s_X12_can_85 w M)
  · refine go_aload_n 0 5 dX12_can_4 rfl rfl ?_
    refine go_iload_n 2 6 dX12_can_5 rfl rfl ?_
    refine go_cVI1 1 clX12 cwX12_319 (m_X12_isDoor w o0 h0 x2 M) h0 9 dX12_can_6 rfl ⟨Nat.le_of_ble_eq_true rfl, Nat.le_of_ble_eq_true rfl⟩ ⟨Nat.zero_le _, Nat.zero_le _⟩ (Nat.le_of_ble_eq_true rfl) (fun q2 M1 _ => ?_)
    refine go_if_eq 89 12 dX12_can_9 rfl (by decide) (fun _ => ?_) (fun _ => ?_)
    · refine go_iconst 0 90 dX12_can_89 rfl (by decide) ?_
      exact go_zret rfl dX12_can_90
    · refine go_iload_n 1 13 dX12_can_12 rfl rfl ?_
      refine go_iconst 1 14 dX12_can_13 rfl (by decide) ?_
      refine go_icmp_ne 32 17 dX12_can_14 rfl (by decide) (fun _ => ?_) (fun _ => ?_)
      · refine go_iload_n 1 33 dX12_can_32 rfl rfl ?_
        refine go_iconst 2 34 dX12_can_33 rfl (by decide) ?_
        refine go_icmp_ne 55 37 dX12_can_34 rfl (by decide) (fun _ => ?_) (fun _ => ?_)
        · refine go_iload_n 1 56 dX12_can_55 rfl rfl ?_
          refine go_iconst 3 57 dX12_can_56 rfl (by decide) ?_
          refine go_icmp_ne 74 60 dX12_can_57 rfl (by decide) (fun _ => ?_) (fun _ => ?_)
          · refine go_aload_n 0 75 dX12_can_74 rfl rfl ?_
            refine go_sipush 1365 78 dX12_can_75 rfl (by decide) ?_
            refine go_iload_n 2 79 dX12_can_78 rfl rfl ?_
            refine go_cVI2 2 clX12 cwX12_342 (m_X12_mayForce w o0 h0 1365 x2 M1) h0 82 dX12_can_79 rfl ⟨Nat.le_of_ble_eq_true rfl, Nat.le_of_ble_eq_true rfl⟩ ⟨Nat.zero_le _, Nat.zero_le _⟩ (Nat.le_of_ble_eq_true rfl) (fun q4 M3 _ => ?_)
            refine go_if_eq 89 85 dX12_can_82 rfl (by decide) (fun _ => ?_) (fun _ => ?_)
            · refine go_iconst 0 90 dX12_can_89 rfl (by decide) ?_
              exact go_zret rfl dX12_can_90
            · exact go_lv [] rfl (s_X12_can_85 w M3)
          · refine go_aload_n 0 61 dX12_can_60 rfl rfl ?_
            refine go_sipush 1365 64 dX12_can_61 rfl (by decide) ?_
            refine go_iload_n 2 65 dX12_can_64 rfl rfl ?_
            refine go_cVI2 2 clX12 cwX12_339 (m_X12_mayWedge w o0 h0 1365 x2 M1) h0 68 dX12_can_65 rfl ⟨Nat.le_of_ble_eq_true rfl, Nat.le_of_ble_eq_true rfl⟩ ⟨Nat.zero_le _, Nat.zero_le _⟩ (Nat.le_of_ble_eq_true rfl) (fun q6 M5 _ => ?_)
            refine go_if_eq 89 71 dX12_can_68 rfl (by decide) (fun _ => ?_) (fun _ => ?_)
            · refine go_iconst 0 90 dX12_can_89 rfl (by decide) ?_
              exact go_zret rfl dX12_can_90
            · refine go_goto 85 dX12_can_71 (by decide) ?_
              exact go_lv [] rfl (s_X12_can_85 w M5)
        · refine go_aload_n 0 38 dX12_can_37 rfl rfl ?_
          refine go_getR flX12_113 h0 41 dX12_can_38 rfl ?_
          refine go_sipush 1367 44 dX12_can_41 rfl (by decide) ?_
          refine go_iload_n 2 45 dX12_can_44 rfl rfl ?_
          refine go_iadd 46 dX12_can_45 rfl ?_
          refine go_iald (rk12_24 h0) 47 dX12_can_46 rfl ?_
          refine go_bipush 20 49 dX12_can_47 rfl (by decide) ?_
          refine go_icmp_ge 89 52 dX12_can_49 rfl (by decide) (fun _ => ?_) (fun _ => ?_)
          · refine go_iconst 0 90 dX12_can_89 rfl (by decide) ?_
            exact go_zret rfl dX12_can_90
          · refine go_goto 85 dX12_can_52 (by decide) ?_
            exact go_lv [] rfl (s_X12_can_85 w M1)
      · refine go_aload_n 0 18 dX12_can_17 rfl rfl ?_
        refine go_sipush 1365 21 dX12_can_18 rfl (by decide) ?_
        refine go_iload_n 3 22 dX12_can_21 rfl rfl ?_
        refine go_iload_n 2 23 dX12_can_22 rfl rfl ?_
        refine go_cVI3 2 clX12 cwX12_333 (m_X12_mayWalk w o0 h0 1365 x3 x2 M1) h0 26 dX12_can_23 rfl ⟨Nat.le_of_ble_eq_true rfl, Nat.le_of_ble_eq_true rfl⟩ ⟨Nat.zero_le _, Nat.zero_le _⟩ (Nat.le_of_ble_eq_true rfl) (fun q8 M7 _ => ?_)
        refine go_if_eq 89 29 dX12_can_26 rfl (by decide) (fun _ => ?_) (fun _ => ?_)
        · refine go_iconst 0 90 dX12_can_89 rfl (by decide) ?_
          exact go_zret rfl dX12_can_90
        · refine go_goto 85 dX12_can_29 (by decide) ?_
          exact go_lv [] rfl (s_X12_can_85 w M7)
theorem m_X12_can {l : Launch} {G : mG} {sk : List mS} (w : Nat) (o0 : Nat) (h0 : isK o0 22) (x1 : Int32) (x2 : Int32) (x3 : Int32) (M : mM) : Mt l G sk yX12_can muX12_can 3 [.ref (gB G + o0), .int x1, .int x2, .int x3] M eI (f_X12_can w o0 x1 x2 x3 M) := Mt.of (by decide) rfl (Nat.le_of_ble_eq_true rfl) (s_X12_can w o0 h0 x1 x2 x3 M)
theorem dX12_shutIn_0 : decode cX12_shutIn 0 = .ok (.iconst 0, 1) := by decide +kernel
theorem dX12_shutIn_1 : decode cX12_shutIn 1 = .ok (.istore_n 2, 1) := by decide +kernel
theorem dX12_shutIn_2 : decode cX12_shutIn 2 = .ok (.iconst 0, 1) := by decide +kernel
theorem dX12_shutIn_3 : decode cX12_shutIn 3 = .ok (.istore_n 3, 1) := by decide +kernel
theorem dX12_shutIn_4 : decode cX12_shutIn 4 = .ok (.iload_n 3, 1) := by decide +kernel
theorem dX12_shutIn_5 : decode cX12_shutIn 5 = .ok (.aload_n 0, 1) := by decide +kernel
theorem dX12_shutIn_6 : decode cX12_shutIn 6 = .ok (.invokevirtual 279, 3) := by decide +kernel
theorem dX12_shutIn_9 : decode cX12_shutIn 9 = .ok (.if_icmp .ge 120, 3) := by decide +kernel
theorem dX12_shutIn_12 : decode cX12_shutIn 12 = .ok (.iconst 0, 1) := by decide +kernel
theorem dX12_shutIn_13 : decode cX12_shutIn 13 = .ok (.istore 4, 2) := by decide +kernel
theorem dX12_shutIn_15 : decode cX12_shutIn 15 = .ok (.iconst 0, 1) := by decide +kernel
theorem dX12_shutIn_16 : decode cX12_shutIn 16 = .ok (.istore 5, 2) := by decide +kernel
theorem dX12_shutIn_18 : decode cX12_shutIn 18 = .ok (.iconst 0, 1) := by decide +kernel
theorem dX12_shutIn_19 : decode cX12_shutIn 19 = .ok (.istore 6, 2) := by decide +kernel
theorem dX12_shutIn_21 : decode cX12_shutIn 21 = .ok (.iload 6, 2) := by decide +kernel
theorem dX12_shutIn_23 : decode cX12_shutIn 23 = .ok (.aload_n 0, 1) := by decide +kernel
theorem dX12_shutIn_24 : decode cX12_shutIn 24 = .ok (.invokevirtual 272, 3) := by decide +kernel
theorem dX12_shutIn_27 : decode cX12_shutIn 27 = .ok (.if_icmp .ge 76, 3) := by decide +kernel
theorem dX12_shutIn_30 : decode cX12_shutIn 30 = .ok (.aload_n 0, 1) := by decide +kernel
theorem dX12_shutIn_31 : decode cX12_shutIn 31 = .ok (.iload 6, 2) := by decide +kernel
theorem dX12_shutIn_33 : decode cX12_shutIn 33 = .ok (.aload_n 0, 1) := by decide +kernel
theorem dX12_shutIn_34 : decode cX12_shutIn 34 = .ok (.getfield 113, 3) := by decide +kernel
theorem dX12_shutIn_37 : decode cX12_shutIn 37 = .ok (.iload_n 1, 1) := by decide +kernel
theorem dX12_shutIn_38 : decode cX12_shutIn 38 = .ok (.bipush 18, 2) := by decide +kernel
theorem dX12_shutIn_40 : decode cX12_shutIn 40 = .ok (.iadd, 1) := by decide +kernel
theorem dX12_shutIn_41 : decode cX12_shutIn 41 = .ok (.iload_n 3, 1) := by decide +kernel
theorem dX12_shutIn_42 : decode cX12_shutIn 42 = .ok (.iadd, 1) := by decide +kernel
theorem dX12_shutIn_43 : decode cX12_shutIn 43 = .ok (.iaload, 1) := by decide +kernel
theorem dX12_shutIn_44 : decode cX12_shutIn 44 = .ok (.invokevirtual 316, 3) := by decide +kernel
theorem dX12_shutIn_47 : decode cX12_shutIn 47 = .ok (.ifCond .lt 7, 3) := by decide +kernel
theorem dX12_shutIn_50 : decode cX12_shutIn 50 = .ok (.iconst 1, 1) := by decide +kernel
theorem dX12_shutIn_51 : decode cX12_shutIn 51 = .ok (.goto 4, 3) := by decide +kernel
theorem dX12_shutIn_54 : decode cX12_shutIn 54 = .ok (.iconst 0, 1) := by decide +kernel
theorem dX12_shutIn_55 : decode cX12_shutIn 55 = .ok (.istore 7, 2) := by decide +kernel
theorem dX12_shutIn_57 : decode cX12_shutIn 57 = .ok (.iload 4, 2) := by decide +kernel
theorem dX12_shutIn_59 : decode cX12_shutIn 59 = .ok (.iload 7, 2) := by decide +kernel
theorem dX12_shutIn_61 : decode cX12_shutIn 61 = .ok (.ifCond .eq 7, 3) := by decide +kernel
theorem dX12_shutIn_64 : decode cX12_shutIn 64 = .ok (.iconst 1, 1) := by decide +kernel
theorem dX12_shutIn_65 : decode cX12_shutIn 65 = .ok (.goto 4, 3) := by decide +kernel
theorem dX12_shutIn_68 : decode cX12_shutIn 68 = .ok (.iconst 0, 1) := by decide +kernel
theorem dX12_shutIn_69 : decode cX12_shutIn 69 = .ok (.iadd, 1) := by decide +kernel
theorem dX12_shutIn_70 : decode cX12_shutIn 70 = .ok (.istore 4, 2) := by decide +kernel
theorem dX12_shutIn_72 : decode cX12_shutIn 72 = .ok (.iload 5, 2) := by decide +kernel
theorem dX12_shutIn_74 : decode cX12_shutIn 74 = .ok (.iload 7, 2) := by decide +kernel
theorem dX12_shutIn_76 : decode cX12_shutIn 76 = .ok (.ifCond .eq 17, 3) := by decide +kernel
theorem dX12_shutIn_79 : decode cX12_shutIn 79 = .ok (.aload_n 0, 1) := by decide +kernel
theorem dX12_shutIn_80 : decode cX12_shutIn 80 = .ok (.iload_n 1, 1) := by decide +kernel
theorem dX12_shutIn_81 : decode cX12_shutIn 81 = .ok (.iload 6, 2) := by decide +kernel
theorem dX12_shutIn_83 : decode cX12_shutIn 83 = .ok (.invokevirtual 301, 3) := by decide +kernel
theorem dX12_shutIn_86 : decode cX12_shutIn 86 = .ok (.ifCond .ne 7, 3) := by decide +kernel
theorem dX12_shutIn_89 : decode cX12_shutIn 89 = .ok (.iconst 1, 1) := by decide +kernel
theorem dX12_shutIn_90 : decode cX12_shutIn 90 = .ok (.goto 4, 3) := by decide +kernel
theorem dX12_shutIn_93 : decode cX12_shutIn 93 = .ok (.iconst 0, 1) := by decide +kernel
theorem dX12_shutIn_94 : decode cX12_shutIn 94 = .ok (.iadd, 1) := by decide +kernel
theorem dX12_shutIn_95 : decode cX12_shutIn 95 = .ok (.istore 5, 2) := by decide +kernel
theorem dX12_shutIn_97 : decode cX12_shutIn 97 = .ok (.iinc 6 1, 3) := by decide +kernel
theorem dX12_shutIn_100 : decode cX12_shutIn 100 = .ok (.goto (-79), 3) := by decide +kernel
theorem dX12_shutIn_103 : decode cX12_shutIn 103 = .ok (.iload_n 2, 1) := by decide +kernel
theorem dX12_shutIn_104 : decode cX12_shutIn 104 = .ok (.iload 4, 2) := by decide +kernel
theorem dX12_shutIn_106 : decode cX12_shutIn 106 = .ok (.ifCond .le 14, 3) := by decide +kernel
theorem dX12_shutIn_109 : decode cX12_shutIn 109 = .ok (.iload 5, 2) := by decide +kernel
theorem dX12_shutIn_111 : decode cX12_shutIn 111 = .ok (.ifCond .ne 9, 3) := by decide +kernel
theorem dX12_shutIn_114 : decode cX12_shutIn 114 = .ok (.iconst 1, 1) := by decide +kernel
theorem dX12_shutIn_115 : decode cX12_shutIn 115 = .ok (.iload_n 3, 1) := by decide +kernel
theorem dX12_shutIn_116 : decode cX12_shutIn 116 = .ok (.ishl, 1) := by decide +kernel
theorem dX12_shutIn_117 : decode cX12_shutIn 117 = .ok (.goto 4, 3) := by decide +kernel
theorem dX12_shutIn_120 : decode cX12_shutIn 120 = .ok (.iconst 0, 1) := by decide +kernel
theorem dX12_shutIn_121 : decode cX12_shutIn 121 = .ok (.ior, 1) := by decide +kernel
theorem dX12_shutIn_122 : decode cX12_shutIn 122 = .ok (.istore_n 2, 1) := by decide +kernel
theorem dX12_shutIn_123 : decode cX12_shutIn 123 = .ok (.iinc 3 1, 3) := by decide +kernel
theorem dX12_shutIn_126 : decode cX12_shutIn 126 = .ok (.goto (-122), 3) := by decide +kernel
theorem dX12_shutIn_129 : decode cX12_shutIn 129 = .ok (.iload_n 2, 1) := by decide +kernel
theorem dX12_shutIn_130 : decode cX12_shutIn 130 = .ok (.ireturn, 1) := by decide +kernel
def f_X12_shutIn_69 (w : Nat) (k4 : Nat → Int32 → Int32 → Int32 → mM → Option (Int32 × mM)) (k21 : Nat → Int32 → Int32 → Int32 → Int32 → Int32 → Int32 → mM → Option (Int32 × mM)) (o0 : Nat) (x1 : Int32) (x2 : Int32) (x3 : Int32) (x5 : Int32) (x6 : Int32) (x7 : Int32) (xs0 : Int32) (xs1 : Int32) (M : mM) : Option (Int32 × mM) := lt (xs1 + xs0) fun y1 => (if x7 = 0 then lt (x5 + 0) fun y2 => (k21 o0 x1 x2 x3 y1 y2 (x6 + 1) M) else bI (f_X12_doesStick w o0 x1 x6 M) fun q4 M3 => (if q4 = 0 then lt (x5 + 1) fun y6 => (k21 o0 x1 x2 x3 y1 y6 (x6 + 1) M3) else lt (x5 + 0) fun y5 => (k21 o0 x1 x2 x3 y1 y5 (x6 + 1) M3)))
set_option maxHeartbeats 4000000 in
set_option maxRecDepth 100000 in
theorem s_X12_shutIn_69 {l : Launch} {G : mG} {sk : List mS} (w : Nat) (k4 : Nat → Int32 → Int32 → Int32 → mM → Option (Int32 × mM)) (hk4 : ∀ (o0 : Nat) (h0 : isK o0 22) (x1 : Int32) (x2 : Int32) (x3 : Int32) (M : mM), Go muX12_shutIn (rm 2) 0 0 l G sk (mFin G sk eI) (k4 o0 x1 x2 x3 M) 4 [(0, .ref (gB G + o0)), (1, .int x1), (2, .int x2), (3, .int x3)] [] M) (k21 : Nat → Int32 → Int32 → Int32 → Int32 → Int32 → Int32 → mM → Option (Int32 × mM)) (hk21 : ∀ (o0 : Nat) (h0 : isK o0 22) (x1 : Int32) (x2 : Int32) (x3 : Int32) (x4 : Int32) (x5 : Int32) (x6 : Int32) (M : mM), Go muX12_shutIn (rm 2) 0 0 l G sk (mFin G sk eI) (k21 o0 x1 x2 x3 x4 x5 x6 M) 21 [(0, .ref (gB G + o0)), (1, .int x1), (2, .int x2), (3, .int x3), (4, .int x4), (5, .int x5), (6, .int x6)] [] M) (o0 : Nat) (h0 : isK o0 22) (x1 : Int32) (x2 : Int32) (x3 : Int32) (x5 : Int32) (x6 : Int32) (x7 : Int32) (xs0 : Int32) (xs1 : Int32) (M : mM) : Go muX12_shutIn (rm 2) 0 0 l G sk (mFin G sk eI) (f_X12_shutIn_69 w k4 k21 o0 x1 x2 x3 x5 x6 x7 xs0 xs1 M) 69 [(0, .ref (gB G + o0)), (1, .int x1), (2, .int x2), (3, .int x3), (5, .int x5), (6, .int x6), (7, .int x7)] [.int xs0, .int xs1] M := by
  unfold f_X12_shutIn_69
  refine go_iadd 70 dX12_shutIn_69 rfl ?_
  refine go_nmI (fun y1 => ?_)
  refine go_istore [(4, .int y1), (0, .ref (gB G + o0)), (1, .int x1), (2, .int x2), (3, .int x3), (5, .int x5), (6, .int x6), (7, .int x7)] 72 dX12_shutIn_70 rfl (by decide) rfl ?_
  refine go_iload 5 74 dX12_shutIn_72 rfl rfl ?_
  refine go_iload 7 76 dX12_shutIn_74 rfl rfl ?_
  refine go_if_eq 93 79 dX12_shutIn_76 rfl (by decide) (fun _ => ?_) (fun _ => ?_)
  · refine go_iconst 0 94 dX12_shutIn_93 rfl (by decide) ?_
    refine go_iadd 95 dX12_shutIn_94 rfl ?_
    refine go_nmI (fun y2 => ?_)
    refine go_istore [(5, .int y2), (4, .int y1), (0, .ref (gB G + o0)), (1, .int x1), (2, .int x2), (3, .int x3), (6, .int x6), (7, .int x7)] 97 dX12_shutIn_95 rfl (by decide) rfl ?_
    refine go_iinc (x6 + 1) 6 [(6, .int (x6 + 1)), (5, .int y2), (4, .int y1), (0, .ref (gB G + o0)), (1, .int x1), (2, .int x2), (3, .int x3), (7, .int x7)] 100 dX12_shutIn_97 rfl rfl rfl (by decide) rfl ?_
    refine go_goto 21 dX12_shutIn_100 (by decide) ?_
    exact go_lv [3, 4, 5, 6, 2, 1, 0] rfl (hk21 o0 h0 x1 x2 x3 y1 y2 (x6 + 1) M)
  · refine go_aload_n 1 80 dX12_shutIn_79 rfl rfl ?_
    refine go_iload_n 2 81 dX12_shutIn_80 rfl rfl ?_
    refine go_iload 6 83 dX12_shutIn_81 rfl rfl ?_
    refine go_cVI2 1 clX12 cwX12_301 (m_X12_doesStick w o0 h0 x1 x6 M) h0 86 dX12_shutIn_83 rfl ⟨Nat.le_of_ble_eq_true rfl, Nat.le_of_ble_eq_true rfl⟩ ⟨Nat.zero_le _, Nat.zero_le _⟩ (Nat.le_of_ble_eq_true rfl) (fun q4 M3 _ => ?_)
    refine go_if_ne 93 89 dX12_shutIn_86 rfl (by decide) (fun _ => ?_) (fun _ => ?_)
    · refine go_iconst 0 94 dX12_shutIn_93 rfl (by decide) ?_
      refine go_iadd 95 dX12_shutIn_94 rfl ?_
      refine go_nmI (fun y5 => ?_)
      refine go_istore [(5, .int y5), (4, .int y1), (0, .ref (gB G + o0)), (1, .int x1), (2, .int x2), (3, .int x3), (6, .int x6), (7, .int x7)] 97 dX12_shutIn_95 rfl (by decide) rfl ?_
      refine go_iinc (x6 + 1) 6 [(6, .int (x6 + 1)), (5, .int y5), (4, .int y1), (0, .ref (gB G + o0)), (1, .int x1), (2, .int x2), (3, .int x3), (7, .int x7)] 100 dX12_shutIn_97 rfl rfl rfl (by decide) rfl ?_
      refine go_goto 21 dX12_shutIn_100 (by decide) ?_
      exact go_lv [3, 4, 5, 6, 2, 1, 0] rfl (hk21 o0 h0 x1 x2 x3 y1 y5 (x6 + 1) M3)
    · refine go_iconst 1 90 dX12_shutIn_89 rfl (by decide) ?_
      refine go_goto 94 dX12_shutIn_90 (by decide) ?_
      refine go_iadd 95 dX12_shutIn_94 rfl ?_
      refine go_nmI (fun y6 => ?_)
      refine go_istore [(5, .int y6), (4, .int y1), (0, .ref (gB G + o0)), (1, .int x1), (2, .int x2), (3, .int x3), (6, .int x6), (7, .int x7)] 97 dX12_shutIn_95 rfl (by decide) rfl ?_
      refine go_iinc (x6 + 1) 6 [(6, .int (x6 + 1)), (5, .int y6), (4, .int y1), (0, .ref (gB G + o0)), (1, .int x1), (2, .int x2), (3, .int x3), (7, .int x7)] 100 dX12_shutIn_97 rfl rfl rfl (by decide) rfl ?_
      refine go_goto 21 dX12_shutIn_100 (by decide) ?_
      exact go_lv [3, 4, 5, 6, 2, 1, 0] rfl (hk21 o0 h0 x1 x2 x3 y1 y6 (x6 + 1) M3)
def f_X12_shutIn_55 (w : Nat) (k4 : Nat → Int32 → Int32 → Int32 → mM → Option (Int32 × mM)) (k21 : Nat → Int32 → Int32 → Int32 → Int32 → Int32 → Int32 → mM → Option (Int32 × mM)) (o0 : Nat) (x1 : Int32) (x2 : Int32) (x3 : Int32) (x4 : Int32) (x5 : Int32) (x6 : Int32) (xs0 : Int32) (M : mM) : Option (Int32 × mM) := (if xs0 = 0 then (f_X12_shutIn_69 w k4 k21 o0 x1 x2 x3 x5 x6 xs0 0 x4 M) else (f_X12_shutIn_69 w k4 k21 o0 x1 x2 x3 x5 x6 xs0 1 x4 M))
set_option maxHeartbeats 4000000 in
set_option maxRecDepth 100000 in
theorem s_X12_shutIn_55 {l : Launch} {G : mG} {sk : List mS} (w : Nat) (k4 : Nat → Int32 → Int32 → Int32 → mM → Option (Int32 × mM)) (hk4 : ∀ (o0 : Nat) (h0 : isK o0 22) (x1 : Int32) (x2 : Int32) (x3 : Int32) (M : mM), Go muX12_shutIn (rm 2) 0 0 l G sk (mFin G sk eI) (k4 o0 x1 x2 x3 M) 4 [(0, .ref (gB G + o0)), (1, .int x1), (2, .int x2), (3, .int x3)] [] M) (k21 : Nat → Int32 → Int32 → Int32 → Int32 → Int32 → Int32 → mM → Option (Int32 × mM)) (hk21 : ∀ (o0 : Nat) (h0 : isK o0 22) (x1 : Int32) (x2 : Int32) (x3 : Int32) (x4 : Int32) (x5 : Int32) (x6 : Int32) (M : mM), Go muX12_shutIn (rm 2) 0 0 l G sk (mFin G sk eI) (k21 o0 x1 x2 x3 x4 x5 x6 M) 21 [(0, .ref (gB G + o0)), (1, .int x1), (2, .int x2), (3, .int x3), (4, .int x4), (5, .int x5), (6, .int x6)] [] M) (o0 : Nat) (h0 : isK o0 22) (x1 : Int32) (x2 : Int32) (x3 : Int32) (x4 : Int32) (x5 : Int32) (x6 : Int32) (xs0 : Int32) (M : mM) : Go muX12_shutIn (rm 2) 0 0 l G sk (mFin G sk eI) (f_X12_shutIn_55 w k4 k21 o0 x1 x2 x3 x4 x5 x6 xs0 M) 55 [(0, .ref (gB G + o0)), (1, .int x1), (2, .int x2), (3, .int x3), (4, .int x4), (5, .int x5), (6, .int x6)] [.int xs0] M := by
  unfold f_X12_shutIn_55
  refine go_istore [(7, .int xs0), (0, .ref (gB G + o0)), (1, .int x1), (2, .int x2), (3, .int x3), (4, .int x4), (5, .int x5), (6, .int x6)] 57 dX12_shutIn_55 rfl (by decide) rfl ?_
  refine go_iload 5 59 dX12_shutIn_57 rfl rfl ?_
  refine go_iload 0 61 dX12_shutIn_59 rfl rfl ?_
  refine go_if_eq 68 64 dX12_shutIn_61 rfl (by decide) (fun _ => ?_) (fun _ => ?_)
  · refine go_iconst 0 69 dX12_shutIn_68 rfl (by decide) ?_
    exact go_lv [1, 2, 3, 4, 6, 7, 0] rfl (s_X12_shutIn_69 w k4 hk4 k21 hk21 o0 h0 x1 x2 x3 x5 x6 xs0 0 x4 M)
  · refine go_iconst 1 65 dX12_shutIn_64 rfl (by decide) ?_
    refine go_goto 69 dX12_shutIn_65 (by decide) ?_
    exact go_lv [1, 2, 3, 4, 6, 7, 0] rfl (s_X12_shutIn_69 w k4 hk4 k21 hk21 o0 h0 x1 x2 x3 x5 x6 xs0 1 x4 M)
def f_X12_shutIn_103 (w : Nat) (k4 : Nat → Int32 → Int32 → Int32 → mM → Option (Int32 × mM)) (o0 : Nat) (x1 : Int32) (x2 : Int32) (x3 : Int32) (x4 : Int32) (x5 : Int32) (M : mM) : Option (Int32 × mM) := (if x4 ≤ 0 then lt (x2 ||| 0) fun y1 => (k4 o0 x1 y1 (x3 + 1) M) else (if x5 = 0 then lt (x2 ||| ((1 : Int32) <<< (x3 &&& 31))) fun y3 => (k4 o0 x1 y3 (x3 + 1) M) else lt (x2 ||| 0) fun y2 => (k4 o0 x1 y2 (x3 + 1) M)))
set_option maxHeartbeats 4000000 in
set_option maxRecDepth 100000 in
theorem s_X12_shutIn_103 {l : Launch} {G : mG} {sk : List mS} (w : Nat) (k4 : Nat → Int32 → Int32 → Int32 → mM → Option (Int32 × mM)) (hk4 : ∀ (o0 : Nat) (h0 : isK o0 22) (x1 : Int32) (x2 : Int32) (x3 : Int32) (M : mM), Go muX12_shutIn (rm 2) 0 0 l G sk (mFin G sk eI) (k4 o0 x1 x2 x3 M) 4 [(0, .ref (gB G + o0)), (1, .int x1), (2, .int x2), (3, .int x3)] [] M) (o0 : Nat) (h0 : isK o0 22) (x1 : Int32) (x2 : Int32) (x3 : Int32) (x4 : Int32) (x5 : Int32) (M : mM) : Go muX12_shutIn (rm 2) 0 0 l G sk (mFin G sk eI) (f_X12_shutIn_103 w k4 o0 x1 x2 x3 x4 x5 M) 103 [(0, .ref (gB G + o0)), (1, .int x1), (2, .int x2), (3, .int x3), (4, .int x4), (5, .int x5)] [] M := by
  unfold f_X12_shutIn_103
  refine go_iload_n 2 104 dX12_shutIn_103 rfl rfl ?_
  refine go_iload 4 106 dX12_shutIn_104 rfl rfl ?_
  refine go_if_le 120 109 dX12_shutIn_106 rfl (by decide) (fun _ => ?_) (fun _ => ?_)
  · refine go_iconst 0 121 dX12_shutIn_120 rfl (by decide) ?_
    refine go_ior 122 dX12_shutIn_121 rfl ?_
    refine go_nmI (fun y1 => ?_)
    refine go_istore_n [(2, .int y1), (0, .ref (gB G + o0)), (1, .int x1), (3, .int x3), (4, .int x4), (5, .int x5)] 123 dX12_shutIn_122 rfl rfl (by decide) rfl ?_
    refine go_iinc (x3 + 1) 3 [(3, .int (x3 + 1)), (2, .int y1), (0, .ref (gB G + o0)), (1, .int x1), (4, .int x4), (5, .int x5)] 126 dX12_shutIn_123 rfl rfl rfl (by decide) rfl ?_
    refine go_goto 4 dX12_shutIn_126 (by decide) ?_
    exact go_lv [2, 3, 1, 0] rfl (hk4 o0 h0 x1 y1 (x3 + 1) M)
  · refine go_iload 5 111 dX12_shutIn_109 rfl rfl ?_
    refine go_if_ne 120 114 dX12_shutIn_111 rfl (by decide) (fun _ => ?_) (fun _ => ?_)
    · refine go_iconst 0 121 dX12_shutIn_120 rfl (by decide) ?_
      refine go_ior 122 dX12_shutIn_121 rfl ?_
      refine go_nmI (fun y2 => ?_)
      refine go_istore_n [(2, .int y2), (0, .ref (gB G + o0)), (1, .int x1), (3, .int x3), (4, .int x4), (5, .int x5)] 123 dX12_shutIn_122 rfl rfl (by decide) rfl ?_
      refine go_iinc (x3 + 1) 3 [(3, .int (x3 + 1)), (2, .int y2), (0, .ref (gB G + o0)), (1, .int x1), (4, .int x4), (5, .int x5)] 126 dX12_shutIn_123 rfl rfl rfl (by decide) rfl ?_
      refine go_goto 4 dX12_shutIn_126 (by decide) ?_
      exact go_lv [2, 3, 1, 0] rfl (hk4 o0 h0 x1 y2 (x3 + 1) M)
    · refine go_iconst 1 115 dX12_shutIn_114 rfl (by decide) ?_
      refine go_iload_n 3 116 dX12_shutIn_115 rfl rfl ?_
      refine go_ishl 117 dX12_shutIn_116 rfl ?_
      refine go_goto 121 dX12_shutIn_117 (by decide) ?_
      refine go_ior 122 dX12_shutIn_121 rfl ?_
      refine go_nmI (fun y3 => ?_)
      refine go_istore_n [(2, .int y3), (0, .ref (gB G + o0)), (1, .int x1), (3, .int x3), (4, .int x4), (5, .int x5)] 123 dX12_shutIn_122 rfl rfl (by decide) rfl ?_
      refine go_iinc (x3 + 1) 3 [(3, .int (x3 + 1)), (2, .int y3), (0, .ref (gB G + o0)), (1, .int x1), (4, .int x4), (5, .int x5)] 126 dX12_shutIn_123 rfl rfl rfl (by decide) rfl ?_
      refine go_goto 4 dX12_shutIn_126 (by decide) ?_
      exact go_lv [2, 3, 1, 0] rfl (hk4 o0 h0 x1 y3 (x3 + 1) M)
def f_X12_shutIn_21 (w : Nat) (k4 : Nat → Int32 → Int32 → Int32 → mM → Option (Int32 × mM)) : Nat → Nat → Int32 → Int32 → Int32 → Int32 → Int32 → Int32 → mM → Option (Int32 × mM)
  | 0, _, _, _, _, _, _, _, _ => none
  | n + 1, o0, x1, x2, x3, x4, x5, x6, M => bI (f_X12_doors w o0 M) fun q2 M1 => (if q2 ≤ x6 then (f_X12_shutIn_103 w k4 o0 x1 x2 x3 x4 x5 M1) else chk ((x1 + 18) + x3) (sL (rF o0 24)) (bI (f_X12_behind w o0 x6 (M1.1 (rF o0 24) ((x1 + 18) + x3).toNatClampNeg) M1) fun q4 M3 => (if q4 < 0 then (f_X12_shutIn_55 w k4 (f_X12_shutIn_21 w k4 n) o0 x1 x2 x3 x4 x5 x6 0 M3) else (f_X12_shutIn_55 w k4 (f_X12_shutIn_21 w k4 n) o0 x1 x2 x3 x4 x5 x6 1 M3))))
set_option maxHeartbeats 4000000 in
set_option maxRecDepth 100000 in
theorem s_X12_shutIn_21 {l : Launch} {G : mG} {sk : List mS} (w : Nat) (k4 : Nat → Int32 → Int32 → Int32 → mM → Option (Int32 × mM)) (hk4 : ∀ (o0 : Nat) (h0 : isK o0 22) (x1 : Int32) (x2 : Int32) (x3 : Int32) (M : mM), Go muX12_shutIn (rm 2) 0 0 l G sk (mFin G sk eI) (k4 o0 x1 x2 x3 M) 4 [(0, .ref (gB G + o0)), (1, .int x1), (2, .int x2), (3, .int x3)] [] M) : ∀ (n : Nat) (o0 : Nat) (h0 : isK o0 22) (x1 : Int32) (x2 : Int32) (x3 : Int32) (x4 : Int32) (x5 : Int32) (x6 : Int32) (M : mM), Go muX12_shutIn (rm 2) 0 0 l G sk (mFin G sk eI) (f_X12_shutIn_21 w k4 n o0 x1 x2 x3 x4 x5 x6 M) 21 [(0, .ref (gB G + o0)), (1, .int x1), (2, .int x2), (3, .int x3), (4, .int x4), (5, .int x5), (6, .int x6)] [] M := by
  intro n
  induction n with
  | zero =>
    intros
    exact go_none
  | succ n ih =>
    intro o0 h0 x1 x2 x3 x4 x5 x6 M
    rw [f_X12_shutIn_21]
    refine go_iload 6 23 dX12_shutIn_21 rfl rfl ?_
    refine go_aload_n 0 24 dX12_shutIn_23 rfl rfl ?_
    refine go_cVI0 0 clX12 cwX12_272 (m_X12_doors w o0 h0 M) h0 27 dX12_shutIn_24 rfl ⟨Nat.le_of_ble_eq_true rfl, Nat.le_of_ble_eq_true rfl⟩ ⟨Nat.zero_le _, Nat.zero_le _⟩ (Nat.le_of_ble_eq_true rfl) (fun q2 M1 _ => ?_)
    refine go_icmp_ge 103 30 dX12_shutIn_27 rfl (by decide) (fun _ => ?_) (fun _ => ?_)
    · exact go_lv [0, 1, 2, 3, 4, 5] rfl (s_X12_shutIn_103 w k4 hk4 o0 h0 x1 x2 x3 x4 x5 M1)
    · refine go_aload_n 0 31 dX12_shutIn_30 rfl rfl ?_
      refine go_iload 6 33 dX12_shutIn_31 rfl rfl ?_
      refine go_aload_n 0 34 dX12_shutIn_33 rfl rfl ?_
      refine go_getR flX12_113 h0 37 dX12_shutIn_34 rfl ?_
      refine go_iload_n 1 38 dX12_shutIn_37 rfl rfl ?_
      refine go_bipush 18 40 dX12_shutIn_38 rfl (by decide) ?_
      refine go_iadd 41 dX12_shutIn_40 rfl ?_
      refine go_iload_n 3 42 dX12_shutIn_41 rfl rfl ?_
      refine go_iadd 43 dX12_shutIn_42 rfl ?_
      refine go_iald (rk12_24 h0) 44 dX12_shutIn_43 rfl ?_
      refine go_cVI2 1 clX12 cwX12_316 (m_X12_behind w o0 h0 x6 (M1.1 (rF o0 24) ((x1 + 18) + x3).toNatClampNeg) M1) h0 47 dX12_shutIn_44 rfl ⟨Nat.le_of_ble_eq_true rfl, Nat.le_of_ble_eq_true rfl⟩ ⟨Nat.zero_le _, Nat.zero_le _⟩ (Nat.le_of_ble_eq_true rfl) (fun q4 M3 _ => ?_)
      refine go_if_lt 54 50 dX12_shutIn_47 rfl (by decide) (fun _ => ?_) (fun _ => ?_)
      · refine go_iconst 0 55 dX12_shutIn_54 rfl (by decide) ?_
        exact go_lv [0, 1, 2, 3, 4, 5, 6] rfl (s_X12_shutIn_55 w k4 hk4 (f_X12_shutIn_21 w k4 n) (fun o0 h0 x1 x2 x3 x4 x5 x6 M => ih o0 h0 x1 x2 x3 x4 x5 x6 M) o0 h0 x1 x2 x3 x4 x5 x6 0 M3)
      · refine go_iconst 1 51 dX12_shutIn_50 rfl (by decide) ?_
        refine go_goto 55 dX12_shutIn_51 (by decide) ?_
        exact go_lv [0, 1, 2, 3, 4, 5, 6] rfl (s_X12_shutIn_55 w k4 hk4 (f_X12_shutIn_21 w k4 n) (fun o0 h0 x1 x2 x3 x4 x5 x6 M => ih o0 h0 x1 x2 x3 x4 x5 x6 M) o0 h0 x1 x2 x3 x4 x5 x6 1 M3)
def f_X12_shutIn_4 (w : Nat) : Nat → Nat → Int32 → Int32 → Int32 → mM → Option (Int32 × mM)
  | 0, _, _, _, _, _ => none
  | n + 1, o0, x1, x2, x3, M => bI (f_X12_persons w o0 M) fun q2 M1 => (if q2 ≤ x3 then some (x2, M1) else (f_X12_shutIn_21 w (f_X12_shutIn_4 w n) w o0 x1 x2 x3 0 0 0 M1))
set_option maxHeartbeats 4000000 in
set_option maxRecDepth 100000 in
theorem s_X12_shutIn_4 {l : Launch} {G : mG} {sk : List mS} (w : Nat) : ∀ (n : Nat) (o0 : Nat) (h0 : isK o0 22) (x1 : Int32) (x2 : Int32) (x3 : Int32) (M : mM), Go muX12_shutIn (rm 2) 0 0 l G sk (mFin G sk eI) (f_X12_shutIn_4 w n o0 x1 x2 x3 M) 4 [(0, .ref (gB G + o0)), (1, .int x1), (2, .int x2), (3, .int x3)] [] M := by
  intro n
  induction n with
  | zero =>
    intros
    exact go_none
  | succ n ih =>
    intro o0 h0 x1 x2 x3 M
    rw [f_X12_shutIn_4]
    refine go_iload_n 3 5 dX12_shutIn_4 rfl rfl ?_
    refine go_aload_n 0 6 dX12_shutIn_5 rfl rfl ?_
    refine go_cVI0 0 clX12 cwX12_279 (m_X12_persons w o0 h0 M) h0 9 dX12_shutIn_6 rfl ⟨Nat.le_of_ble_eq_true rfl, Nat.le_of_ble_eq_true rfl⟩ ⟨Nat.zero_le _, Nat.zero_le _⟩ (Nat.le_of_ble_eq_true rfl) (fun q2 M1 _ => ?_)
    refine go_icmp_ge 129 12 dX12_shutIn_9 rfl (by decide) (fun _ => ?_) (fun _ => ?_)
    · refine go_iload_n 2 130 dX12_shutIn_129 rfl rfl ?_
      exact go_iret rfl dX12_shutIn_130
    · refine go_iconst 0 13 dX12_shutIn_12 rfl (by decide) ?_
      refine go_istore [(4, .int 0), (0, .ref (gB G + o0)), (1, .int x1), (2, .int x2), (3, .int x3)] 15 dX12_shutIn_13 rfl (by decide) rfl ?_
      refine go_iconst 0 16 dX12_shutIn_15 rfl (by decide) ?_
      refine go_istore [(5, .int 0), (4, .int 0), (0, .ref (gB G + o0)), (1, .int x1), (2, .int x2), (3, .int x3)] 18 dX12_shutIn_16 rfl (by decide) rfl ?_
      refine go_iconst 0 19 dX12_shutIn_18 rfl (by decide) ?_
      refine go_istore [(6, .int 0), (5, .int 0), (4, .int 0), (0, .ref (gB G + o0)), (1, .int x1), (2, .int x2), (3, .int x3)] 21 dX12_shutIn_19 rfl (by decide) rfl ?_
      exact go_lv [3, 4, 5, 6, 2, 1, 0] rfl (s_X12_shutIn_21 w (f_X12_shutIn_4 w n) (fun o0 h0 x1 x2 x3 M => ih o0 h0 x1 x2 x3 M) w o0 h0 x1 x2 x3 0 0 0 M1)
def f_X12_shutIn (w : Nat) (o0 : Nat) (x1 : Int32) (M : mM) : Option (Int32 × mM) := (f_X12_shutIn_4 w w o0 x1 0 0 M)
set_option maxHeartbeats 4000000 in
set_option maxRecDepth 100000 in
theorem s_X12_shutIn {l : Launch} {G : mG} {sk : List mS} (w : Nat) (o0 : Nat) (h0 : isK o0 22) (x1 : Int32) (M : mM) : Go muX12_shutIn (rm 2) 0 0 l G sk (mFin G sk eI) (f_X12_shutIn w o0 x1 M) 0 [(0, .ref (gB G + o0)), (1, .int x1)] [] M := by
  unfold f_X12_shutIn
  refine go_iconst 0 1 dX12_shutIn_0 rfl (by decide) ?_
  refine go_istore_n [(2, .int 0), (0, .ref (gB G + o0)), (1, .int x1)] 2 dX12_shutIn_1 rfl rfl (by decide) rfl ?_
  refine go_iconst 0 3 dX12_shutIn_2 rfl (by decide) ?_
  refine go_istore_n [(3, .int 0), (2, .int 0), (0, .ref (gB G + o0)), (1, .int x1)] 4 dX12_shutIn_3 rfl rfl (by decide) rfl ?_
  exact go_lv [2, 3, 1, 0] rfl (s_X12_shutIn_4 w w o0 h0 x1 0 0 M)
theorem m_X12_shutIn {l : Launch} {G : mG} {sk : List mS} (w : Nat) (o0 : Nat) (h0 : isK o0 22) (x1 : Int32) (M : mM) : Mt l G sk yX12_shutIn muX12_shutIn 2 [.ref (gB G + o0), .int x1] M eI (f_X12_shutIn w o0 x1 M) := Mt.of (by decide) rfl (Nat.le_of_ble_eq_true rfl) (s_X12_shutIn w o0 h0 x1 M)
theorem dX12_judged_0 : decode cX12_judged 0 = .ok (.aload_n 0, 1) := by decide +kernel
theorem dX12_judged_1 : decode cX12_judged 1 = .ok (.iconst 0, 1) := by decide +kernel
theorem dX12_judged_2 : decode cX12_judged 2 = .ok (.putfield 1, 3) := by decide +kernel
theorem dX12_judged_5 : decode cX12_judged 5 = .ok (.iload_n 1, 1) := by decide +kernel
theorem dX12_judged_6 : decode cX12_judged 6 = .ok (.iconst 0, 1) := by decide +kernel
theorem dX12_judged_7 : decode cX12_judged 7 = .ok (.iconst 2, 1) := by decide +kernel
theorem dX12_judged_8 : decode cX12_judged 8 = .ok (.invokestatic 204, 3) := by decide +kernel
theorem dX12_judged_11 : decode cX12_judged 11 = .ok (.ifCond .ne 6, 3) := by decide +kernel
theorem dX12_judged_14 : decode cX12_judged 14 = .ok (.bipush (-2), 2) := by decide +kernel
theorem dX12_judged_16 : decode cX12_judged 16 = .ok (.ireturn, 1) := by decide +kernel
theorem dX12_judged_17 : decode cX12_judged 17 = .ok (.aload_n 0, 1) := by decide +kernel
theorem dX12_judged_18 : decode cX12_judged 18 = .ok (.sipush 1365, 3) := by decide +kernel
theorem dX12_judged_21 : decode cX12_judged 21 = .ok (.invokevirtual 282, 3) := by decide +kernel
theorem dX12_judged_24 : decode cX12_judged 24 = .ok (.iconst (-1), 1) := by decide +kernel
theorem dX12_judged_25 : decode cX12_judged 25 = .ok (.istore_n 2, 1) := by decide +kernel
theorem dX12_judged_26 : decode cX12_judged 26 = .ok (.iconst (-1), 1) := by decide +kernel
theorem dX12_judged_27 : decode cX12_judged 27 = .ok (.istore_n 3, 1) := by decide +kernel
theorem dX12_judged_28 : decode cX12_judged 28 = .ok (.iconst 0, 1) := by decide +kernel
theorem dX12_judged_29 : decode cX12_judged 29 = .ok (.istore 4, 2) := by decide +kernel
theorem dX12_judged_31 : decode cX12_judged 31 = .ok (.iload 4, 2) := by decide +kernel
theorem dX12_judged_33 : decode cX12_judged 33 = .ok (.aload_n 0, 1) := by decide +kernel
theorem dX12_judged_34 : decode cX12_judged 34 = .ok (.getfield 104, 3) := by decide +kernel
theorem dX12_judged_37 : decode cX12_judged 37 = .ok (.iconst 0, 1) := by decide +kernel
theorem dX12_judged_38 : decode cX12_judged 38 = .ok (.iaload, 1) := by decide +kernel
theorem dX12_judged_39 : decode cX12_judged 39 = .ok (.if_icmp .ge 222, 3) := by decide +kernel
theorem dX12_judged_42 : decode cX12_judged 42 = .ok (.aload_n 0, 1) := by decide +kernel
theorem dX12_judged_43 : decode cX12_judged 43 = .ok (.getfield 104, 3) := by decide +kernel
theorem dX12_judged_46 : decode cX12_judged 46 = .ok (.iconst 1, 1) := by decide +kernel
theorem dX12_judged_47 : decode cX12_judged 47 = .ok (.iconst 3, 1) := by decide +kernel
theorem dX12_judged_48 : decode cX12_judged 48 = .ok (.iload 4, 2) := by decide +kernel
theorem dX12_judged_50 : decode cX12_judged 50 = .ok (.imul, 1) := by decide +kernel
theorem dX12_judged_51 : decode cX12_judged 51 = .ok (.iadd, 1) := by decide +kernel
theorem dX12_judged_52 : decode cX12_judged 52 = .ok (.iaload, 1) := by decide +kernel
theorem dX12_judged_53 : decode cX12_judged 53 = .ok (.istore 5, 2) := by decide +kernel
theorem dX12_judged_55 : decode cX12_judged 55 = .ok (.aload_n 0, 1) := by decide +kernel
theorem dX12_judged_56 : decode cX12_judged 56 = .ok (.getfield 104, 3) := by decide +kernel
theorem dX12_judged_59 : decode cX12_judged 59 = .ok (.iconst 2, 1) := by decide +kernel
theorem dX12_judged_60 : decode cX12_judged 60 = .ok (.iconst 3, 1) := by decide +kernel
theorem dX12_judged_61 : decode cX12_judged 61 = .ok (.iload 4, 2) := by decide +kernel
theorem dX12_judged_63 : decode cX12_judged 63 = .ok (.imul, 1) := by decide +kernel
theorem dX12_judged_64 : decode cX12_judged 64 = .ok (.iadd, 1) := by decide +kernel
theorem dX12_judged_65 : decode cX12_judged 65 = .ok (.iaload, 1) := by decide +kernel
theorem dX12_judged_66 : decode cX12_judged 66 = .ok (.istore 6, 2) := by decide +kernel
theorem dX12_judged_68 : decode cX12_judged 68 = .ok (.aload_n 0, 1) := by decide +kernel
theorem dX12_judged_69 : decode cX12_judged 69 = .ok (.getfield 104, 3) := by decide +kernel
theorem dX12_judged_72 : decode cX12_judged 72 = .ok (.iconst 3, 1) := by decide +kernel
theorem dX12_judged_73 : decode cX12_judged 73 = .ok (.iconst 3, 1) := by decide +kernel
theorem dX12_judged_74 : decode cX12_judged 74 = .ok (.iload 4, 2) := by decide +kernel
theorem dX12_judged_76 : decode cX12_judged 76 = .ok (.imul, 1) := by decide +kernel
theorem dX12_judged_77 : decode cX12_judged 77 = .ok (.iadd, 1) := by decide +kernel
theorem dX12_judged_78 : decode cX12_judged 78 = .ok (.iaload, 1) := by decide +kernel
theorem dX12_judged_79 : decode cX12_judged 79 = .ok (.istore 7, 2) := by decide +kernel
theorem dX12_judged_81 : decode cX12_judged 81 = .ok (.aload_n 0, 1) := by decide +kernel
theorem dX12_judged_82 : decode cX12_judged 82 = .ok (.iload 5, 2) := by decide +kernel
theorem dX12_judged_84 : decode cX12_judged 84 = .ok (.iload 6, 2) := by decide +kernel
theorem dX12_judged_86 : decode cX12_judged 86 = .ok (.iload 7, 2) := by decide +kernel
theorem dX12_judged_88 : decode cX12_judged 88 = .ok (.invokevirtual 345, 3) := by decide +kernel
theorem dX12_judged_91 : decode cX12_judged 91 = .ok (.istore 8, 2) := by decide +kernel
theorem dX12_judged_93 : decode cX12_judged 93 = .ok (.iload 8, 2) := by decide +kernel
theorem dX12_judged_95 : decode cX12_judged 95 = .ok (.ifCond .ne 12, 3) := by decide +kernel
theorem dX12_judged_98 : decode cX12_judged 98 = .ok (.iload_n 2, 1) := by decide +kernel
theorem dX12_judged_99 : decode cX12_judged 99 = .ok (.ifCond .ge 8, 3) := by decide +kernel
theorem dX12_judged_102 : decode cX12_judged 102 = .ok (.iload 4, 2) := by decide +kernel
theorem dX12_judged_104 : decode cX12_judged 104 = .ok (.goto 4, 3) := by decide +kernel
theorem dX12_judged_107 : decode cX12_judged 107 = .ok (.iload_n 2, 1) := by decide +kernel
theorem dX12_judged_108 : decode cX12_judged 108 = .ok (.istore_n 2, 1) := by decide +kernel
theorem dX12_judged_109 : decode cX12_judged 109 = .ok (.iload 5, 2) := by decide +kernel
theorem dX12_judged_111 : decode cX12_judged 111 = .ok (.ifCond .ne 13, 3) := by decide +kernel
theorem dX12_judged_114 : decode cX12_judged 114 = .ok (.aload_n 0, 1) := by decide +kernel
theorem dX12_judged_115 : decode cX12_judged 115 = .ok (.sipush 1365, 3) := by decide +kernel
theorem dX12_judged_118 : decode cX12_judged 118 = .ok (.invokevirtual 328, 3) := by decide +kernel
theorem dX12_judged_121 : decode cX12_judged 121 = .ok (.goto 113, 3) := by decide +kernel
theorem dX12_judged_124 : decode cX12_judged 124 = .ok (.iload 8, 2) := by decide +kernel
theorem dX12_judged_126 : decode cX12_judged 126 = .ok (.ifCond .eq 23, 3) := by decide +kernel
theorem dX12_judged_129 : decode cX12_judged 129 = .ok (.iload 5, 2) := by decide +kernel
theorem dX12_judged_131 : decode cX12_judged 131 = .ok (.iconst 1, 1) := by decide +kernel
theorem dX12_judged_132 : decode cX12_judged 132 = .ok (.if_icmp .ne 17, 3) := by decide +kernel
theorem dX12_judged_135 : decode cX12_judged 135 = .ok (.aload_n 0, 1) := by decide +kernel
theorem dX12_judged_136 : decode cX12_judged 136 = .ok (.sipush 1365, 3) := by decide +kernel
theorem dX12_judged_139 : decode cX12_judged 139 = .ok (.iload 7, 2) := by decide +kernel
theorem dX12_judged_141 : decode cX12_judged 141 = .ok (.iload 6, 2) := by decide +kernel
theorem dX12_judged_143 : decode cX12_judged 143 = .ok (.invokevirtual 336, 3) := by decide +kernel
theorem dX12_judged_146 : decode cX12_judged 146 = .ok (.goto 88, 3) := by decide +kernel
theorem dX12_judged_149 : decode cX12_judged 149 = .ok (.iload 8, 2) := by decide +kernel
theorem dX12_judged_151 : decode cX12_judged 151 = .ok (.ifCond .eq 27, 3) := by decide +kernel
theorem dX12_judged_154 : decode cX12_judged 154 = .ok (.iload 5, 2) := by decide +kernel
theorem dX12_judged_156 : decode cX12_judged 156 = .ok (.iconst 2, 1) := by decide +kernel
theorem dX12_judged_157 : decode cX12_judged 157 = .ok (.if_icmp .ne 21, 3) := by decide +kernel
theorem dX12_judged_160 : decode cX12_judged 160 = .ok (.aload_n 0, 1) := by decide +kernel
theorem dX12_judged_161 : decode cX12_judged 161 = .ok (.getfield 113, 3) := by decide +kernel
theorem dX12_judged_164 : decode cX12_judged 164 = .ok (.sipush 1367, 3) := by decide +kernel
theorem dX12_judged_167 : decode cX12_judged 167 = .ok (.iload 6, 2) := by decide +kernel
theorem dX12_judged_169 : decode cX12_judged 169 = .ok (.iadd, 1) := by decide +kernel
theorem dX12_judged_170 : decode cX12_judged 170 = .ok (.dup2, 1) := by decide +kernel
theorem dX12_judged_171 : decode cX12_judged 171 = .ok (.iaload, 1) := by decide +kernel
theorem dX12_judged_172 : decode cX12_judged 172 = .ok (.iconst 1, 1) := by decide +kernel
theorem dX12_judged_173 : decode cX12_judged 173 = .ok (.iadd, 1) := by decide +kernel
theorem dX12_judged_174 : decode cX12_judged 174 = .ok (.iastore, 1) := by decide +kernel
theorem dX12_judged_175 : decode cX12_judged 175 = .ok (.goto 59, 3) := by decide +kernel
theorem dX12_judged_178 : decode cX12_judged 178 = .ok (.iload 8, 2) := by decide +kernel
theorem dX12_judged_180 : decode cX12_judged 180 = .ok (.ifCond .eq 27, 3) := by decide +kernel
theorem dX12_judged_183 : decode cX12_judged 183 = .ok (.iload 5, 2) := by decide +kernel
theorem dX12_judged_185 : decode cX12_judged 185 = .ok (.iconst 3, 1) := by decide +kernel
theorem dX12_judged_186 : decode cX12_judged 186 = .ok (.if_icmp .ne 21, 3) := by decide +kernel
theorem dX12_judged_189 : decode cX12_judged 189 = .ok (.aload_n 0, 1) := by decide +kernel
theorem dX12_judged_190 : decode cX12_judged 190 = .ok (.getfield 113, 3) := by decide +kernel
theorem dX12_judged_193 : decode cX12_judged 193 = .ok (.sipush 1366, 3) := by decide +kernel
theorem dX12_judged_196 : decode cX12_judged 196 = .ok (.dup2, 1) := by decide +kernel
theorem dX12_judged_197 : decode cX12_judged 197 = .ok (.iaload, 1) := by decide +kernel
theorem dX12_judged_198 : decode cX12_judged 198 = .ok (.iconst 1, 1) := by decide +kernel
theorem dX12_judged_199 : decode cX12_judged 199 = .ok (.iload 6, 2) := by decide +kernel
theorem dX12_judged_201 : decode cX12_judged 201 = .ok (.ishl, 1) := by decide +kernel
theorem dX12_judged_202 : decode cX12_judged 202 = .ok (.ixor, 1) := by decide +kernel
theorem dX12_judged_203 : decode cX12_judged 203 = .ok (.iastore, 1) := by decide +kernel
theorem dX12_judged_204 : decode cX12_judged 204 = .ok (.goto 30, 3) := by decide +kernel
theorem dX12_judged_207 : decode cX12_judged 207 = .ok (.iload 8, 2) := by decide +kernel
theorem dX12_judged_209 : decode cX12_judged 209 = .ok (.ifCond .eq 25, 3) := by decide +kernel
theorem dX12_judged_212 : decode cX12_judged 212 = .ok (.aload_n 0, 1) := by decide +kernel
theorem dX12_judged_213 : decode cX12_judged 213 = .ok (.getfield 113, 3) := by decide +kernel
theorem dX12_judged_216 : decode cX12_judged 216 = .ok (.sipush 1367, 3) := by decide +kernel
theorem dX12_judged_219 : decode cX12_judged 219 = .ok (.iload 6, 2) := by decide +kernel
theorem dX12_judged_221 : decode cX12_judged 221 = .ok (.iadd, 1) := by decide +kernel
theorem dX12_judged_222 : decode cX12_judged 222 = .ok (.aload_n 0, 1) := by decide +kernel
theorem dX12_judged_223 : decode cX12_judged 223 = .ok (.getfield 113, 3) := by decide +kernel
theorem dX12_judged_226 : decode cX12_judged 226 = .ok (.sipush 1375, 3) := by decide +kernel
theorem dX12_judged_229 : decode cX12_judged 229 = .ok (.iload 6, 2) := by decide +kernel
theorem dX12_judged_231 : decode cX12_judged 231 = .ok (.iadd, 1) := by decide +kernel
theorem dX12_judged_232 : decode cX12_judged 232 = .ok (.iaload, 1) := by decide +kernel
theorem dX12_judged_233 : decode cX12_judged 233 = .ok (.iastore, 1) := by decide +kernel
theorem dX12_judged_234 : decode cX12_judged 234 = .ok (.iload_n 3, 1) := by decide +kernel
theorem dX12_judged_235 : decode cX12_judged 235 = .ok (.ifCond .ge 18, 3) := by decide +kernel
theorem dX12_judged_238 : decode cX12_judged 238 = .ok (.aload_n 0, 1) := by decide +kernel
theorem dX12_judged_239 : decode cX12_judged 239 = .ok (.sipush 1365, 3) := by decide +kernel
theorem dX12_judged_242 : decode cX12_judged 242 = .ok (.invokevirtual 348, 3) := by decide +kernel
theorem dX12_judged_245 : decode cX12_judged 245 = .ok (.ifCond .eq 8, 3) := by decide +kernel
theorem dX12_judged_248 : decode cX12_judged 248 = .ok (.iload 4, 2) := by decide +kernel
theorem dX12_judged_250 : decode cX12_judged 250 = .ok (.goto 4, 3) := by decide +kernel
theorem dX12_judged_253 : decode cX12_judged 253 = .ok (.iload_n 3, 1) := by decide +kernel
theorem dX12_judged_254 : decode cX12_judged 254 = .ok (.istore_n 3, 1) := by decide +kernel
theorem dX12_judged_255 : decode cX12_judged 255 = .ok (.iinc 4 1, 3) := by decide +kernel
theorem dX12_judged_258 : decode cX12_judged 258 = .ok (.goto (-227), 3) := by decide +kernel
theorem dX12_judged_261 : decode cX12_judged 261 = .ok (.iload_n 1, 1) := by decide +kernel
theorem dX12_judged_262 : decode cX12_judged 262 = .ok (.ifCond .ne 7, 3) := by decide +kernel
theorem dX12_judged_265 : decode cX12_judged 265 = .ok (.iload_n 2, 1) := by decide +kernel
theorem dX12_judged_266 : decode cX12_judged 266 = .ok (.goto 22, 3) := by decide +kernel
theorem dX12_judged_269 : decode cX12_judged 269 = .ok (.iload_n 1, 1) := by decide +kernel
theorem dX12_judged_270 : decode cX12_judged 270 = .ok (.iconst 1, 1) := by decide +kernel
theorem dX12_judged_271 : decode cX12_judged 271 = .ok (.if_icmp .ne 7, 3) := by decide +kernel
theorem dX12_judged_274 : decode cX12_judged 274 = .ok (.iload_n 3, 1) := by decide +kernel
theorem dX12_judged_275 : decode cX12_judged 275 = .ok (.goto 13, 3) := by decide +kernel
theorem dX12_judged_278 : decode cX12_judged 278 = .ok (.aload_n 0, 1) := by decide +kernel
theorem dX12_judged_279 : decode cX12_judged 279 = .ok (.sipush 1365, 3) := by decide +kernel
theorem dX12_judged_282 : decode cX12_judged 282 = .ok (.invokevirtual 330, 3) := by decide +kernel
theorem dX12_judged_285 : decode cX12_judged 285 = .ok (.invokestatic 351, 3) := by decide +kernel
theorem dX12_judged_288 : decode cX12_judged 288 = .ok (.ireturn, 1) := by decide +kernel
def f_X12_judged_234 (w : Nat) (k31 : Nat → Int32 → Int32 → Int32 → Int32 → mM → Option (Int32 × mM)) (o0 : Nat) (x1 : Int32) (x2 : Int32) (x3 : Int32) (x4 : Int32) (M : mM) : Option (Int32 × mM) := (if 0 ≤ x3 then (k31 o0 x1 x2 x3 (x4 + 1) M) else bI (f_X12_shutIn w o0 1365 M) fun q2 M1 => (if q2 = 0 then (k31 o0 x1 x2 x3 (x4 + 1) M1) else (k31 o0 x1 x2 x4 (x4 + 1) M1)))
set_option maxHeartbeats 4000000 in
set_option maxRecDepth 100000 in
theorem s_X12_judged_234 {l : Launch} {G : mG} {sk : List mS} (w : Nat) (k31 : Nat → Int32 → Int32 → Int32 → Int32 → mM → Option (Int32 × mM)) (hk31 : ∀ (o0 : Nat) (h0 : isK o0 22) (x1 : Int32) (x2 : Int32) (x3 : Int32) (x4 : Int32) (M : mM), Go muX12_judged (rm 5) 0 0 l G sk (mFin G sk eI) (k31 o0 x1 x2 x3 x4 M) 31 [(0, .ref (gB G + o0)), (1, .int x1), (2, .int x2), (3, .int x3), (4, .int x4)] [] M) (o0 : Nat) (h0 : isK o0 22) (x1 : Int32) (x2 : Int32) (x3 : Int32) (x4 : Int32) (M : mM) : Go muX12_judged (rm 5) 0 0 l G sk (mFin G sk eI) (f_X12_judged_234 w k31 o0 x1 x2 x3 x4 M) 234 [(0, .ref (gB G + o0)), (1, .int x1), (2, .int x2), (3, .int x3), (4, .int x4)] [] M := by
  unfold f_X12_judged_234
  refine go_iload_n 3 235 dX12_judged_234 rfl rfl ?_
  refine go_if_ge 253 238 dX12_judged_235 rfl (by decide) (fun _ => ?_) (fun _ => ?_)
  · refine go_iload_n 3 254 dX12_judged_253 rfl rfl ?_
    refine go_istore_n [(3, .int x3), (0, .ref (gB G + o0)), (1, .int x1), (2, .int x2), (4, .int x4)] 255 dX12_judged_254 rfl rfl (by decide) rfl ?_
    refine go_iinc (x4 + 1) 4 [(4, .int (x4 + 1)), (3, .int x3), (0, .ref (gB G + o0)), (1, .int x1), (2, .int x2)] 258 dX12_judged_255 rfl rfl rfl (by decide) rfl ?_
    refine go_goto 31 dX12_judged_258 (by decide) ?_
    exact go_lv [2, 3, 4, 1, 0] rfl (hk31 o0 h0 x1 x2 x3 (x4 + 1) M)
  · refine go_aload_n 0 239 dX12_judged_238 rfl rfl ?_
    refine go_sipush 1365 242 dX12_judged_239 rfl (by decide) ?_
    refine go_cVI1 2 clX12 cwX12_348 (m_X12_shutIn w o0 h0 1365 M) h0 245 dX12_judged_242 rfl ⟨Nat.le_of_ble_eq_true rfl, Nat.le_of_ble_eq_true rfl⟩ ⟨Nat.zero_le _, Nat.zero_le _⟩ (Nat.le_of_ble_eq_true rfl) (fun q2 M1 _ => ?_)
    refine go_if_eq 253 248 dX12_judged_245 rfl (by decide) (fun _ => ?_) (fun _ => ?_)
    · refine go_iload_n 3 254 dX12_judged_253 rfl rfl ?_
      refine go_istore_n [(3, .int x3), (0, .ref (gB G + o0)), (1, .int x1), (2, .int x2), (4, .int x4)] 255 dX12_judged_254 rfl rfl (by decide) rfl ?_
      refine go_iinc (x4 + 1) 4 [(4, .int (x4 + 1)), (3, .int x3), (0, .ref (gB G + o0)), (1, .int x1), (2, .int x2)] 258 dX12_judged_255 rfl rfl rfl (by decide) rfl ?_
      refine go_goto 31 dX12_judged_258 (by decide) ?_
      exact go_lv [2, 3, 4, 1, 0] rfl (hk31 o0 h0 x1 x2 x3 (x4 + 1) M1)
    · refine go_iload 4 250 dX12_judged_248 rfl rfl ?_
      refine go_goto 254 dX12_judged_250 (by decide) ?_
      refine go_istore_n [(3, .int x4), (0, .ref (gB G + o0)), (1, .int x1), (2, .int x2), (4, .int x4)] 255 dX12_judged_254 rfl rfl (by decide) rfl ?_
      refine go_iinc (x4 + 1) 4 [(4, .int (x4 + 1)), (3, .int x4), (0, .ref (gB G + o0)), (1, .int x1), (2, .int x2)] 258 dX12_judged_255 rfl rfl rfl (by decide) rfl ?_
      refine go_goto 31 dX12_judged_258 (by decide) ?_
      exact go_lv [2, 3, 4, 1, 0] rfl (hk31 o0 h0 x1 x2 x4 (x4 + 1) M1)
def f_X12_judged_207 (w : Nat) (k31 : Nat → Int32 → Int32 → Int32 → Int32 → mM → Option (Int32 × mM)) (o0 : Nat) (x1 : Int32) (x2 : Int32) (x3 : Int32) (x4 : Int32) (x6 : Int32) (x8 : Int32) (M : mM) : Option (Int32 × mM) := (if x8 = 0 then (f_X12_judged_234 w k31 o0 x1 x2 x3 x4 M) else chk (1375 + x6) (sL (rF o0 24)) (chk (1367 + x6) (sL (rF o0 24)) (lt (wI M (rF o0 24) (1367 + x6).toNatClampNeg (M.1 (rF o0 24) (1375 + x6).toNatClampNeg)) fun M1 => (f_X12_judged_234 w k31 o0 x1 x2 x3 x4 M1))))
set_option maxHeartbeats 4000000 in
set_option maxRecDepth 100000 in
theorem s_X12_judged_207 {l : Launch} {G : mG} {sk : List mS} (w : Nat) (k31 : Nat → Int32 → Int32 → Int32 → Int32 → mM → Option (Int32 × mM)) (hk31 : ∀ (o0 : Nat) (h0 : isK o0 22) (x1 : Int32) (x2 : Int32) (x3 : Int32) (x4 : Int32) (M : mM), Go muX12_judged (rm 5) 0 0 l G sk (mFin G sk eI) (k31 o0 x1 x2 x3 x4 M) 31 [(0, .ref (gB G + o0)), (1, .int x1), (2, .int x2), (3, .int x3), (4, .int x4)] [] M) (o0 : Nat) (h0 : isK o0 22) (x1 : Int32) (x2 : Int32) (x3 : Int32) (x4 : Int32) (x6 : Int32) (x8 : Int32) (M : mM) : Go muX12_judged (rm 5) 0 0 l G sk (mFin G sk eI) (f_X12_judged_207 w k31 o0 x1 x2 x3 x4 x6 x8 M) 207 [(0, .ref (gB G + o0)), (1, .int x1), (2, .int x2), (3, .int x3), (4, .int x4), (6, .int x6), (8, .int x8)] [] M := by
  unfold f_X12_judged_207
  refine go_iload 6 209 dX12_judged_207 rfl rfl ?_
  refine go_if_eq 234 212 dX12_judged_209 rfl (by decide) (fun _ => ?_) (fun _ => ?_)
  · exact go_lv [0, 1, 2, 3, 4] rfl (s_X12_judged_234 w k31 hk31 o0 h0 x1 x2 x3 x4 M)
  · refine go_aload_n 0 213 dX12_judged_212 rfl rfl ?_
    refine go_getR flX12_113 h0 216 dX12_judged_213 rfl ?_
    refine go_sipush 1367 219 dX12_judged_216 rfl (by decide) ?_
    refine go_iload 5 221 dX12_judged_219 rfl rfl ?_
    refine go_iadd 222 dX12_judged_221 rfl ?_
    refine go_aload_n 0 223 dX12_judged_222 rfl rfl ?_
    refine go_getR flX12_113 h0 226 dX12_judged_223 rfl ?_
    refine go_sipush 1375 229 dX12_judged_226 rfl (by decide) ?_
    refine go_iload 5 231 dX12_judged_229 rfl rfl ?_
    refine go_iadd 232 dX12_judged_231 rfl ?_
    refine go_iald (rk12_24 h0) 233 dX12_judged_232 rfl ?_
    refine go_iast (rk12_24 h0) 234 dX12_judged_233 rfl ?_
    refine go_nmM (fun M1 => ?_)
    exact go_lv [0, 1, 2, 3, 4] rfl (s_X12_judged_234 w k31 hk31 o0 h0 x1 x2 x3 x4 M1)
def f_X12_judged_178 (w : Nat) (k31 : Nat → Int32 → Int32 → Int32 → Int32 → mM → Option (Int32 × mM)) (o0 : Nat) (x1 : Int32) (x2 : Int32) (x3 : Int32) (x4 : Int32) (x5 : Int32) (x6 : Int32) (x8 : Int32) (M : mM) : Option (Int32 × mM) := (if x8 = 0 then (f_X12_judged_207 w k31 o0 x1 x2 x3 x4 x6 x8 M) else (if x5 = 3 then chk 1366 (sL (rF o0 24)) (chk 1366 (sL (rF o0 24)) (lt (wI M (rF o0 24) (1366 : Int32).toNatClampNeg ((M.1 (rF o0 24) (1366 : Int32).toNatClampNeg) ^^^ ((1 : Int32) <<< (x6 &&& 31)))) fun M1 => (f_X12_judged_234 w k31 o0 x1 x2 x3 x4 M1))) else (f_X12_judged_207 w k31 o0 x1 x2 x3 x4 x6 x8 M)))
set_option maxHeartbeats 4000000 in
set_option maxRecDepth 100000 in
theorem s_X12_judged_178 {l : Launch} {G : mG} {sk : List mS} (w : Nat) (k31 : Nat → Int32 → Int32 → Int32 → Int32 → mM → Option (Int32 × mM)) (hk31 : ∀ (o0 : Nat) (h0 : isK o0 22) (x1 : Int32) (x2 : Int32) (x3 : Int32) (x4 : Int32) (M : mM), Go muX12_judged (rm 5) 0 0 l G sk (mFin G sk eI) (k31 o0 x1 x2 x3 x4 M) 31 [(0, .ref (gB G + o0)), (1, .int x1), (2, .int x2), (3, .int x3), (4, .int x4)] [] M) (o0 : Nat) (h0 : isK o0 22) (x1 : Int32) (x2 : Int32) (x3 : Int32) (x4 : Int32) (x5 : Int32) (x6 : Int32) (x8 : Int32) (M : mM) : Go muX12_judged (rm 5) 0 0 l G sk (mFin G sk eI) (f_X12_judged_178 w k31 o0 x1 x2 x3 x4 x5 x6 x8 M) 178 [(0, .ref (gB G + o0)), (1, .int x1), (2, .int x2), (3, .int x3), (4, .int x4), (5, .int x5), (6, .int x6), (8, .int x8)] [] M := by
  unfold f_X12_judged_178
  refine go_iload 7 180 dX12_judged_178 rfl rfl ?_
  refine go_if_eq 207 183 dX12_judged_180 rfl (by decide) (fun _ => ?_) (fun _ => ?_)
  · exact go_lv [0, 1, 2, 3, 4, 6, 7] rfl (s_X12_judged_207 w k31 hk31 o0 h0 x1 x2 x3 x4 x6 x8 M)
  · refine go_iload 5 185 dX12_judged_183 rfl rfl ?_
    refine go_iconst 3 186 dX12_judged_185 rfl (by decide) ?_
    refine go_icmp_ne 207 189 dX12_judged_186 rfl (by decide) (fun _ => ?_) (fun _ => ?_)
    · exact go_lv [0, 1, 2, 3, 4, 6, 7] rfl (s_X12_judged_207 w k31 hk31 o0 h0 x1 x2 x3 x4 x6 x8 M)
    · refine go_aload_n 0 190 dX12_judged_189 rfl rfl ?_
      refine go_getR flX12_113 h0 193 dX12_judged_190 rfl ?_
      refine go_sipush 1366 196 dX12_judged_193 rfl (by decide) ?_
      refine go_dup2 197 dX12_judged_196 rfl rfl rfl ?_
      refine go_iald (rk12_24 h0) 198 dX12_judged_197 rfl ?_
      refine go_iconst 1 199 dX12_judged_198 rfl (by decide) ?_
      refine go_iload 6 201 dX12_judged_199 rfl rfl ?_
      refine go_ishl 202 dX12_judged_201 rfl ?_
      refine go_ixor 203 dX12_judged_202 rfl ?_
      refine go_iast (rk12_24 h0) 204 dX12_judged_203 rfl ?_
      refine go_nmM (fun M1 => ?_)
      refine go_goto 234 dX12_judged_204 (by decide) ?_
      exact go_lv [0, 1, 2, 3, 4] rfl (s_X12_judged_234 w k31 hk31 o0 h0 x1 x2 x3 x4 M1)
def f_X12_judged_149 (w : Nat) (k31 : Nat → Int32 → Int32 → Int32 → Int32 → mM → Option (Int32 × mM)) (o0 : Nat) (x1 : Int32) (x2 : Int32) (x3 : Int32) (x4 : Int32) (x5 : Int32) (x6 : Int32) (x8 : Int32) (M : mM) : Option (Int32 × mM) := (if x8 = 0 then (f_X12_judged_178 w k31 o0 x1 x2 x3 x4 x5 x6 x8 M) else (if x5 = 2 then chk (1367 + x6) (sL (rF o0 24)) (chk (1367 + x6) (sL (rF o0 24)) (lt (wI M (rF o0 24) (1367 + x6).toNatClampNeg ((M.1 (rF o0 24) (1367 + x6).toNatClampNeg) + 1)) fun M1 => (f_X12_judged_234 w k31 o0 x1 x2 x3 x4 M1))) else (f_X12_judged_178 w k31 o0 x1 x2 x3 x4 x5 x6 x8 M)))
set_option maxHeartbeats 4000000 in
set_option maxRecDepth 100000 in
theorem s_X12_judged_149 {l : Launch} {G : mG} {sk : List mS} (w : Nat) (k31 : Nat → Int32 → Int32 → Int32 → Int32 → mM → Option (Int32 × mM)) (hk31 : ∀ (o0 : Nat) (h0 : isK o0 22) (x1 : Int32) (x2 : Int32) (x3 : Int32) (x4 : Int32) (M : mM), Go muX12_judged (rm 5) 0 0 l G sk (mFin G sk eI) (k31 o0 x1 x2 x3 x4 M) 31 [(0, .ref (gB G + o0)), (1, .int x1), (2, .int x2), (3, .int x3), (4, .int x4)] [] M) (o0 : Nat) (h0 : isK o0 22) (x1 : Int32) (x2 : Int32) (x3 : Int32) (x4 : Int32) (x5 : Int32) (x6 : Int32) (x8 : Int32) (M : mM) : Go muX12_judged (rm 5) 0 0 l G sk (mFin G sk eI) (f_X12_judged_149 w k31 o0 x1 x2 x3 x4 x5 x6 x8 M) 149 [(0, .ref (gB G + o0)), (1, .int x1), (2, .int x2), (3, .int x3), (4, .int x4), (5, .int x5), (6, .int x6), (8, .int x8)] [] M := by
  unfold f_X12_judged_149
  refine go_iload 7 151 dX12_judged_149 rfl rfl ?_
  refine go_if_eq 178 154 dX12_judged_151 rfl (by decide) (fun _ => ?_) (fun _ => ?_)
  · exact go_lv [0, 1, 2, 3, 4, 5, 6, 7] rfl (s_X12_judged_178 w k31 hk31 o0 h0 x1 x2 x3 x4 x5 x6 x8 M)
  · refine go_iload 5 156 dX12_judged_154 rfl rfl ?_
    refine go_iconst 2 157 dX12_judged_156 rfl (by decide) ?_
    refine go_icmp_ne 178 160 dX12_judged_157 rfl (by decide) (fun _ => ?_) (fun _ => ?_)
    · exact go_lv [0, 1, 2, 3, 4, 5, 6, 7] rfl (s_X12_judged_178 w k31 hk31 o0 h0 x1 x2 x3 x4 x5 x6 x8 M)
    · refine go_aload_n 0 161 dX12_judged_160 rfl rfl ?_
      refine go_getR flX12_113 h0 164 dX12_judged_161 rfl ?_
      refine go_sipush 1367 167 dX12_judged_164 rfl (by decide) ?_
      refine go_iload 6 169 dX12_judged_167 rfl rfl ?_
      refine go_iadd 170 dX12_judged_169 rfl ?_
      refine go_dup2 171 dX12_judged_170 rfl rfl rfl ?_
      refine go_iald (rk12_24 h0) 172 dX12_judged_171 rfl ?_
      refine go_iconst 1 173 dX12_judged_172 rfl (by decide) ?_
      refine go_iadd 174 dX12_judged_173 rfl ?_
      refine go_iast (rk12_24 h0) 175 dX12_judged_174 rfl ?_
      refine go_nmM (fun M1 => ?_)
      refine go_goto 234 dX12_judged_175 (by decide) ?_
      exact go_lv [0, 1, 2, 3, 4] rfl (s_X12_judged_234 w k31 hk31 o0 h0 x1 x2 x3 x4 M1)
def f_X12_judged_108 (w : Nat) (k31 : Nat → Int32 → Int32 → Int32 → Int32 → mM → Option (Int32 × mM)) (o0 : Nat) (x1 : Int32) (x3 : Int32) (x4 : Int32) (x5 : Int32) (x6 : Int32) (x7 : Int32) (x8 : Int32) (xs0 : Int32) (M : mM) : Option (Int32 × mM) := (if x5 = 0 then bV (f_X12_passes_ w o0 1365 M) fun M2 => (f_X12_judged_234 w k31 o0 x1 xs0 x3 x4 M2) else (if x8 = 0 then (f_X12_judged_149 w k31 o0 x1 xs0 x3 x4 x5 x6 x8 M) else (if x5 = 1 then bV (f_X12_walks w o0 1365 x7 x6 M) fun M1 => (f_X12_judged_234 w k31 o0 x1 xs0 x3 x4 M1) else (f_X12_judged_149 w k31 o0 x1 xs0 x3 x4 x5 x6 x8 M))))
set_option maxHeartbeats 4000000 in
set_option maxRecDepth 100000 in
theorem s_X12_judged_108 {l : Launch} {G : mG} {sk : List mS} (w : Nat) (k31 : Nat → Int32 → Int32 → Int32 → Int32 → mM → Option (Int32 × mM)) (hk31 : ∀ (o0 : Nat) (h0 : isK o0 22) (x1 : Int32) (x2 : Int32) (x3 : Int32) (x4 : Int32) (M : mM), Go muX12_judged (rm 5) 0 0 l G sk (mFin G sk eI) (k31 o0 x1 x2 x3 x4 M) 31 [(0, .ref (gB G + o0)), (1, .int x1), (2, .int x2), (3, .int x3), (4, .int x4)] [] M) (o0 : Nat) (h0 : isK o0 22) (x1 : Int32) (x3 : Int32) (x4 : Int32) (x5 : Int32) (x6 : Int32) (x7 : Int32) (x8 : Int32) (xs0 : Int32) (M : mM) : Go muX12_judged (rm 5) 0 0 l G sk (mFin G sk eI) (f_X12_judged_108 w k31 o0 x1 x3 x4 x5 x6 x7 x8 xs0 M) 108 [(0, .ref (gB G + o0)), (1, .int x1), (3, .int x3), (4, .int x4), (5, .int x5), (6, .int x6), (7, .int x7), (8, .int x8)] [.int xs0] M := by
  unfold f_X12_judged_108
  refine go_istore_n [(2, .int xs0), (0, .ref (gB G + o0)), (1, .int x1), (3, .int x3), (4, .int x4), (5, .int x5), (6, .int x6), (7, .int x7), (8, .int x8)] 109 dX12_judged_108 rfl rfl (by decide) rfl ?_
  refine go_iload 5 111 dX12_judged_109 rfl rfl ?_
  refine go_if_ne 124 114 dX12_judged_111 rfl (by decide) (fun _ => ?_) (fun _ => ?_)
  · refine go_iload 8 126 dX12_judged_124 rfl rfl ?_
    refine go_if_eq 149 129 dX12_judged_126 rfl (by decide) (fun _ => ?_) (fun _ => ?_)
    · exact go_lv [1, 2, 0, 3, 4, 5, 6, 8] rfl (s_X12_judged_149 w k31 hk31 o0 h0 x1 xs0 x3 x4 x5 x6 x8 M)
    · refine go_iload 5 131 dX12_judged_129 rfl rfl ?_
      refine go_iconst 1 132 dX12_judged_131 rfl (by decide) ?_
      refine go_icmp_ne 149 135 dX12_judged_132 rfl (by decide) (fun _ => ?_) (fun _ => ?_)
      · exact go_lv [1, 2, 0, 3, 4, 5, 6, 8] rfl (s_X12_judged_149 w k31 hk31 o0 h0 x1 xs0 x3 x4 x5 x6 x8 M)
      · refine go_aload_n 1 136 dX12_judged_135 rfl rfl ?_
        refine go_sipush 1365 139 dX12_judged_136 rfl (by decide) ?_
        refine go_iload 7 141 dX12_judged_139 rfl rfl ?_
        refine go_iload 6 143 dX12_judged_141 rfl rfl ?_
        refine go_cVV3 2 clX12 cwX12_336 (m_X12_walks w o0 h0 1365 x7 x6 M) h0 146 dX12_judged_143 rfl ⟨Nat.le_of_ble_eq_true rfl, Nat.le_of_ble_eq_true rfl⟩ ⟨Nat.zero_le _, Nat.zero_le _⟩ (Nat.le_of_ble_eq_true rfl) (fun M1 _ => ?_)
        refine go_goto 234 dX12_judged_146 (by decide) ?_
        exact go_lv [1, 2, 0, 3, 4] rfl (s_X12_judged_234 w k31 hk31 o0 h0 x1 xs0 x3 x4 M1)
  · refine go_aload_n 1 115 dX12_judged_114 rfl rfl ?_
    refine go_sipush 1365 118 dX12_judged_115 rfl (by decide) ?_
    refine go_cVV1 4 clX12 cwX12_328 (m_X12_passes_ w o0 h0 1365 M) h0 121 dX12_judged_118 rfl ⟨Nat.le_of_ble_eq_true rfl, Nat.le_of_ble_eq_true rfl⟩ ⟨Nat.zero_le _, Nat.zero_le _⟩ (Nat.le_of_ble_eq_true rfl) (fun M2 _ => ?_)
    refine go_goto 234 dX12_judged_121 (by decide) ?_
    exact go_lv [1, 2, 0, 3, 4] rfl (s_X12_judged_234 w k31 hk31 o0 h0 x1 xs0 x3 x4 M2)
def f_X12_judged_107 (w : Nat) (k31 : Nat → Int32 → Int32 → Int32 → Int32 → mM → Option (Int32 × mM)) (o0 : Nat) (x1 : Int32) (x2 : Int32) (x3 : Int32) (x4 : Int32) (x5 : Int32) (x6 : Int32) (x7 : Int32) (x8 : Int32) (M : mM) : Option (Int32 × mM) := (f_X12_judged_108 w k31 o0 x1 x3 x4 x5 x6 x7 x8 x2 M)
set_option maxHeartbeats 4000000 in
set_option maxRecDepth 100000 in
theorem s_X12_judged_107 {l : Launch} {G : mG} {sk : List mS} (w : Nat) (k31 : Nat → Int32 → Int32 → Int32 → Int32 → mM → Option (Int32 × mM)) (hk31 : ∀ (o0 : Nat) (h0 : isK o0 22) (x1 : Int32) (x2 : Int32) (x3 : Int32) (x4 : Int32) (M : mM), Go muX12_judged (rm 5) 0 0 l G sk (mFin G sk eI) (k31 o0 x1 x2 x3 x4 M) 31 [(0, .ref (gB G + o0)), (1, .int x1), (2, .int x2), (3, .int x3), (4, .int x4)] [] M) (o0 : Nat) (h0 : isK o0 22) (x1 : Int32) (x2 : Int32) (x3 : Int32) (x4 : Int32) (x5 : Int32) (x6 : Int32) (x7 : Int32) (x8 : Int32) (M : mM) : Go muX12_judged (rm 5) 0 0 l G sk (mFin G sk eI) (f_X12_judged_107 w k31 o0 x1 x2 x3 x4 x5 x6 x7 x8 M) 107 [(0, .ref (gB G + o0)), (1, .int x1), (2, .int x2), (3, .int x3), (4, .int x4), (5, .int x5), (6, .int x6), (7, .int x7), (8, .int x8)] [] M := by
  unfold f_X12_judged_107
  refine go_iload_n 2 108 dX12_judged_107 rfl rfl ?_
  exact go_lv [0, 1, 3, 4, 5, 6, 7, 8] rfl (s_X12_judged_108 w k31 hk31 o0 h0 x1 x3 x4 x5 x6 x7 x8 x2 M)
def f_X12_judged_261 (w : Nat) (o0 : Nat) (x1 : Int32) (x2 : Int32) (x3 : Int32) (M : mM) : Option (Int32 × mM) := (if x1 = 0 then some (x2, M) else (if x1 = 1 then some (x3, M) else bI (f_X12_sticking w o0 1365 M) fun q2 M1 => bI (f_X12_bits w q2 M1) fun q4 M3 => some (q4, M3)))
set_option maxHeartbeats 4000000 in
set_option maxRecDepth 100000 in
theorem s_X12_judged_261 {l : Launch} {G : mG} {sk : List mS} (w : Nat) (o0 : Nat) (h0 : isK o0 22) (x1 : Int32) (x2 : Int32) (x3 : Int32) (M : mM) : Go muX12_judged (rm 5) 0 0 l G sk (mFin G sk eI) (f_X12_judged_261 w o0 x1 x2 x3 M) 261 [(0, .ref (gB G + o0)), (1, .int x1), (2, .int x2), (3, .int x3)] [] M := by
  unfold f_X12_judged_261
  refine go_iload_n 1 262 dX12_judged_261 rfl rfl ?_
  refine go_if_ne 269 265 dX12_judged_262 rfl (by decide) (fun _ => ?_) (fun _ => ?_)
  · refine go_iload_n 1 270 dX12_judged_269 rfl rfl ?_
    refine go_iconst 1 271 dX12_judged_270 rfl (by decide) ?_
    refine go_icmp_ne 278 274 dX12_judged_271 rfl (by decide) (fun _ => ?_) (fun _ => ?_)
    · refine go_aload_n 0 279 dX12_judged_278 rfl rfl ?_
      refine go_sipush 1365 282 dX12_judged_279 rfl (by decide) ?_
      refine go_cVI1 2 clX12 cwX12_330 (m_X12_sticking w o0 h0 1365 M) h0 285 dX12_judged_282 rfl ⟨Nat.le_of_ble_eq_true rfl, Nat.le_of_ble_eq_true rfl⟩ ⟨Nat.zero_le _, Nat.zero_le _⟩ (Nat.le_of_ble_eq_true rfl) (fun q2 M1 _ => ?_)
      refine go_cSI1 0 cwX12_351 (m_X12_bits w q2 M1) 288 dX12_judged_285 rfl ⟨Nat.le_of_ble_eq_true rfl, Nat.le_of_ble_eq_true rfl⟩ ⟨Nat.zero_le _, Nat.zero_le _⟩ (Nat.le_of_ble_eq_true rfl) (fun q4 M3 _ => ?_)
      exact go_iret rfl dX12_judged_288
    · refine go_iload_n 3 275 dX12_judged_274 rfl rfl ?_
      refine go_goto 288 dX12_judged_275 (by decide) ?_
      exact go_iret rfl dX12_judged_288
  · refine go_iload_n 2 266 dX12_judged_265 rfl rfl ?_
    refine go_goto 288 dX12_judged_266 (by decide) ?_
    exact go_iret rfl dX12_judged_288
def f_X12_judged_31 (w : Nat) : Nat → Nat → Int32 → Int32 → Int32 → Int32 → mM → Option (Int32 × mM)
  | 0, _, _, _, _, _, _ => none
  | n + 1, o0, x1, x2, x3, x4, M => chk 0 (sL (rF o0 21)) ((if (M.1 (rF o0 21) (0 : Int32).toNatClampNeg) ≤ x4 then (f_X12_judged_261 w o0 x1 x2 x3 M) else chk (1 + (3 * x4)) (sL (rF o0 21)) (lt (M.1 (rF o0 21) (1 + (3 * x4)).toNatClampNeg) fun y1 => chk (2 + (3 * x4)) (sL (rF o0 21)) (lt (M.1 (rF o0 21) (2 + (3 * x4)).toNatClampNeg) fun y2 => chk (3 + (3 * x4)) (sL (rF o0 21)) (lt (M.1 (rF o0 21) (3 + (3 * x4)).toNatClampNeg) fun y3 => bI (f_X12_can w o0 y1 y2 y3 M) fun q5 M4 => (if q5 = 0 then (if 0 ≤ x2 then (f_X12_judged_107 w (f_X12_judged_31 w n) o0 x1 x2 x3 x4 y1 y2 y3 q5 M4) else (f_X12_judged_108 w (f_X12_judged_31 w n) o0 x1 x3 x4 y1 y2 y3 q5 x4 M4)) else (f_X12_judged_107 w (f_X12_judged_31 w n) o0 x1 x2 x3 x4 y1 y2 y3 q5 M4)))))))
set_option maxHeartbeats 4000000 in
set_option maxRecDepth 100000 in
theorem s_X12_judged_31 {l : Launch} {G : mG} {sk : List mS} (w : Nat) : ∀ (n : Nat) (o0 : Nat) (h0 : isK o0 22) (x1 : Int32) (x2 : Int32) (x3 : Int32) (x4 : Int32) (M : mM), Go muX12_judged (rm 5) 0 0 l G sk (mFin G sk eI) (f_X12_judged_31 w n o0 x1 x2 x3 x4 M) 31 [(0, .ref (gB G + o0)), (1, .int x1), (2, .int x2), (3, .int x3), (4, .int x4)] [] M := by
  intro n
  induction n with
  | zero =>
    intros
    exact go_none
  | succ n ih =>
    intro o0 h0 x1 x2 x3 x4 M
    rw [f_X12_judged_31]
    refine go_iload 4 33 dX12_judged_31 rfl rfl ?_
    refine go_aload_n 0 34 dX12_judged_33 rfl rfl ?_
    refine go_getR flX12_104 h0 37 dX12_judged_34 rfl ?_
    refine go_iconst 0 38 dX12_judged_37 rfl (by decide) ?_
    refine go_iald (rk12_21 h0) 39 dX12_judged_38 rfl ?_
    refine go_icmp_ge 261 42 dX12_judged_39 rfl (by decide) (fun _ => ?_) (fun _ => ?_)
    · exact go_lv [0, 1, 2, 3] rfl (s_X12_judged_261 w o0 h0 x1 x2 x3 M)
    · refine go_aload_n 0 43 dX12_judged_42 rfl rfl ?_
      refine go_getR flX12_104 h0 46 dX12_judged_43 rfl ?_
      refine go_iconst 1 47 dX12_judged_46 rfl (by decide) ?_
      refine go_iconst 3 48 dX12_judged_47 rfl (by decide) ?_
      refine go_iload 4 50 dX12_judged_48 rfl rfl ?_
      refine go_imul 51 dX12_judged_50 rfl ?_
      refine go_iadd 52 dX12_judged_51 rfl ?_
      refine go_iald (rk12_21 h0) 53 dX12_judged_52 rfl ?_
      refine go_nmI (fun y1 => ?_)
      refine go_istore [(5, .int y1), (0, .ref (gB G + o0)), (1, .int x1), (2, .int x2), (3, .int x3), (4, .int x4)] 55 dX12_judged_53 rfl (by decide) rfl ?_
      refine go_aload_n 1 56 dX12_judged_55 rfl rfl ?_
      refine go_getR flX12_104 h0 59 dX12_judged_56 rfl ?_
      refine go_iconst 2 60 dX12_judged_59 rfl (by decide) ?_
      refine go_iconst 3 61 dX12_judged_60 rfl (by decide) ?_
      refine go_iload 5 63 dX12_judged_61 rfl rfl ?_
      refine go_imul 64 dX12_judged_63 rfl ?_
      refine go_iadd 65 dX12_judged_64 rfl ?_
      refine go_iald (rk12_21 h0) 66 dX12_judged_65 rfl ?_
      refine go_nmI (fun y2 => ?_)
      refine go_istore [(6, .int y2), (5, .int y1), (0, .ref (gB G + o0)), (1, .int x1), (2, .int x2), (3, .int x3), (4, .int x4)] 68 dX12_judged_66 rfl (by decide) rfl ?_
      refine go_aload_n 2 69 dX12_judged_68 rfl rfl ?_
      refine go_getR flX12_104 h0 72 dX12_judged_69 rfl ?_
      refine go_iconst 3 73 dX12_judged_72 rfl (by decide) ?_
      refine go_iconst 3 74 dX12_judged_73 rfl (by decide) ?_
      refine go_iload 6 76 dX12_judged_74 rfl rfl ?_
      refine go_imul 77 dX12_judged_76 rfl ?_
      refine go_iadd 78 dX12_judged_77 rfl ?_
      refine go_iald (rk12_21 h0) 79 dX12_judged_78 rfl ?_
      refine go_nmI (fun y3 => ?_)
      refine go_istore [(7, .int y3), (6, .int y2), (5, .int y1), (0, .ref (gB G + o0)), (1, .int x1), (2, .int x2), (3, .int x3), (4, .int x4)] 81 dX12_judged_79 rfl (by decide) rfl ?_
      refine go_aload_n 3 82 dX12_judged_81 rfl rfl ?_
      refine go_iload 2 84 dX12_judged_82 rfl rfl ?_
      refine go_iload 1 86 dX12_judged_84 rfl rfl ?_
      refine go_iload 0 88 dX12_judged_86 rfl rfl ?_
      refine go_cVI3 3 clX12 cwX12_345 (m_X12_can w o0 h0 y1 y2 y3 M) h0 91 dX12_judged_88 rfl ⟨Nat.le_of_ble_eq_true rfl, Nat.le_of_ble_eq_true rfl⟩ ⟨Nat.zero_le _, Nat.zero_le _⟩ (Nat.le_of_ble_eq_true rfl) (fun q5 M4 _ => ?_)
      refine go_istore [(8, .int q5), (7, .int y3), (6, .int y2), (5, .int y1), (0, .ref (gB G + o0)), (1, .int x1), (2, .int x2), (3, .int x3), (4, .int x4)] 93 dX12_judged_91 rfl (by decide) rfl ?_
      refine go_iload 0 95 dX12_judged_93 rfl rfl ?_
      refine go_if_ne 107 98 dX12_judged_95 rfl (by decide) (fun _ => ?_) (fun _ => ?_)
      · exact go_lv [4, 5, 6, 7, 8, 3, 2, 1, 0] rfl (s_X12_judged_107 w (f_X12_judged_31 w n) (fun o0 h0 x1 x2 x3 x4 M => ih o0 h0 x1 x2 x3 x4 M) o0 h0 x1 x2 x3 x4 y1 y2 y3 q5 M4)
      · refine go_iload_n 6 99 dX12_judged_98 rfl rfl ?_
        refine go_if_ge 107 102 dX12_judged_99 rfl (by decide) (fun _ => ?_) (fun _ => ?_)
        · exact go_lv [4, 5, 6, 7, 8, 3, 2, 1, 0] rfl (s_X12_judged_107 w (f_X12_judged_31 w n) (fun o0 h0 x1 x2 x3 x4 M => ih o0 h0 x1 x2 x3 x4 M) o0 h0 x1 x2 x3 x4 y1 y2 y3 q5 M4)
        · refine go_iload 8 104 dX12_judged_102 rfl rfl ?_
          refine go_goto 108 dX12_judged_104 (by decide) ?_
          exact go_lv [4, 5, 7, 8, 3, 2, 1, 0] rfl (s_X12_judged_108 w (f_X12_judged_31 w n) (fun o0 h0 x1 x2 x3 x4 M => ih o0 h0 x1 x2 x3 x4 M) o0 h0 x1 x3 x4 y1 y2 y3 q5 x4 M4)
def f_X12_judged (w : Nat) (o0 : Nat) (x1 : Int32) (M : mM) : Option (Int32 × mM) := lt (wI M o0 0 0) fun M1 => bI (f_X12_within w x1 0 2 M1) fun q3 M2 => (if q3 = 0 then some ((-2), M2) else bV (f_X12_starts w o0 1365 M2) fun M4 => (f_X12_judged_31 w w o0 x1 (-1) (-1) 0 M4))
set_option maxHeartbeats 4000000 in
set_option maxRecDepth 100000 in
theorem s_X12_judged {l : Launch} {G : mG} {sk : List mS} (w : Nat) (o0 : Nat) (h0 : isK o0 22) (x1 : Int32) (M : mM) : Go muX12_judged (rm 5) 0 0 l G sk (mFin G sk eI) (f_X12_judged w o0 x1 M) 0 [(0, .ref (gB G + o0)), (1, .int x1)] [] M := by
  unfold f_X12_judged
  refine go_aload_n 0 1 dX12_judged_0 rfl rfl ?_
  refine go_iconst 0 2 dX12_judged_1 rfl (by decide) ?_
  refine go_putI flX12_1 rfl rfl h0 5 dX12_judged_2 rfl ?_
  refine go_nmM (fun M1 => ?_)
  refine go_iload_n 1 6 dX12_judged_5 rfl rfl ?_
  refine go_iconst 0 7 dX12_judged_6 rfl (by decide) ?_
  refine go_iconst 2 8 dX12_judged_7 rfl (by decide) ?_
  refine go_cSI3 0 cwX12_204 (m_X12_within w x1 0 2 M1) 11 dX12_judged_8 rfl ⟨Nat.le_of_ble_eq_true rfl, Nat.le_of_ble_eq_true rfl⟩ ⟨Nat.zero_le _, Nat.zero_le _⟩ (Nat.le_of_ble_eq_true rfl) (fun q3 M2 _ => ?_)
  refine go_if_ne 17 14 dX12_judged_11 rfl (by decide) (fun _ => ?_) (fun _ => ?_)
  · refine go_aload_n 0 18 dX12_judged_17 rfl rfl ?_
    refine go_sipush 1365 21 dX12_judged_18 rfl (by decide) ?_
    refine go_cVV1 1 clX12 cwX12_282 (m_X12_starts w o0 h0 1365 M2) h0 24 dX12_judged_21 rfl ⟨Nat.le_of_ble_eq_true rfl, Nat.le_of_ble_eq_true rfl⟩ ⟨Nat.zero_le _, Nat.zero_le _⟩ (Nat.le_of_ble_eq_true rfl) (fun M4 _ => ?_)
    refine go_iconst (-1) 25 dX12_judged_24 rfl (by decide) ?_
    refine go_istore_n [(2, .int (-1)), (0, .ref (gB G + o0)), (1, .int x1)] 26 dX12_judged_25 rfl rfl (by decide) rfl ?_
    refine go_iconst (-1) 27 dX12_judged_26 rfl (by decide) ?_
    refine go_istore_n [(3, .int (-1)), (2, .int (-1)), (0, .ref (gB G + o0)), (1, .int x1)] 28 dX12_judged_27 rfl rfl (by decide) rfl ?_
    refine go_iconst 0 29 dX12_judged_28 rfl (by decide) ?_
    refine go_istore [(4, .int 0), (3, .int (-1)), (2, .int (-1)), (0, .ref (gB G + o0)), (1, .int x1)] 31 dX12_judged_29 rfl (by decide) rfl ?_
    exact go_lv [3, 4, 2, 1, 0] rfl (s_X12_judged_31 w w o0 h0 x1 (-1) (-1) 0 M4)
  · refine go_bipush (-2) 16 dX12_judged_14 rfl (by decide) ?_
    exact go_iret rfl dX12_judged_16
theorem m_X12_judged {l : Launch} {G : mG} {sk : List mS} (w : Nat) (o0 : Nat) (h0 : isK o0 22) (x1 : Int32) (M : mM) : Mt l G sk yX12_judged muX12_judged 5 [.ref (gB G + o0), .int x1] M eI (f_X12_judged w o0 x1 M) := Mt.of (by decide) rfl (Nat.le_of_ble_eq_true rfl) (s_X12_judged w o0 h0 x1 M)
theorem dX12_shut_0 : decode cX12_shut 0 = .ok (.aload_n 0, 1) := by decide +kernel
theorem dX12_shut_1 : decode cX12_shut 1 = .ok (.iconst 0, 1) := by decide +kernel
theorem dX12_shut_2 : decode cX12_shut 2 = .ok (.putfield 1, 3) := by decide +kernel
theorem dX12_shut_5 : decode cX12_shut 5 = .ok (.aload_n 0, 1) := by decide +kernel
theorem dX12_shut_6 : decode cX12_shut 6 = .ok (.iconst 0, 1) := by decide +kernel
theorem dX12_shut_7 : decode cX12_shut 7 = .ok (.invokevirtual 348, 3) := by decide +kernel
theorem dX12_shut_10 : decode cX12_shut 10 = .ok (.ireturn, 1) := by decide +kernel
def f_X12_shut (w : Nat) (o0 : Nat) (M : mM) : Option (Int32 × mM) := lt (wI M o0 0 0) fun M1 => bI (f_X12_shutIn w o0 0 M1) fun q3 M2 => some (q3, M2)
set_option maxHeartbeats 4000000 in
set_option maxRecDepth 100000 in
theorem s_X12_shut {l : Launch} {G : mG} {sk : List mS} (w : Nat) (o0 : Nat) (h0 : isK o0 22) (M : mM) : Go muX12_shut (rm 3) 0 0 l G sk (mFin G sk eI) (f_X12_shut w o0 M) 0 [(0, .ref (gB G + o0))] [] M := by
  unfold f_X12_shut
  refine go_aload_n 0 1 dX12_shut_0 rfl rfl ?_
  refine go_iconst 0 2 dX12_shut_1 rfl (by decide) ?_
  refine go_putI flX12_1 rfl rfl h0 5 dX12_shut_2 rfl ?_
  refine go_nmM (fun M1 => ?_)
  refine go_aload_n 0 6 dX12_shut_5 rfl rfl ?_
  refine go_iconst 0 7 dX12_shut_6 rfl (by decide) ?_
  refine go_cVI1 2 clX12 cwX12_348 (m_X12_shutIn w o0 h0 0 M1) h0 10 dX12_shut_7 rfl ⟨Nat.le_of_ble_eq_true rfl, Nat.le_of_ble_eq_true rfl⟩ ⟨Nat.zero_le _, Nat.zero_le _⟩ (Nat.le_of_ble_eq_true rfl) (fun q3 M2 _ => ?_)
  exact go_iret rfl dX12_shut_10
theorem m_X12_shut {l : Launch} {G : mG} {sk : List mS} (w : Nat) (o0 : Nat) (h0 : isK o0 22) (M : mM) : Mt l G sk yX12_shut muX12_shut 3 [.ref (gB G + o0)] M eI (f_X12_shut w o0 M) := Mt.of (by decide) rfl (Nat.le_of_ble_eq_true rfl) (s_X12_shut w o0 h0 M)
theorem dX12_onFrom_0 : decode cX12_onFrom 0 = .ok (.iload_n 1, 1) := by decide +kernel
theorem dX12_onFrom_1 : decode cX12_onFrom 1 = .ok (.istore_n 3, 1) := by decide +kernel
theorem dX12_onFrom_2 : decode cX12_onFrom 2 = .ok (.iconst 0, 1) := by decide +kernel
theorem dX12_onFrom_3 : decode cX12_onFrom 3 = .ok (.istore 4, 2) := by decide +kernel
theorem dX12_onFrom_5 : decode cX12_onFrom 5 = .ok (.iload 4, 2) := by decide +kernel
theorem dX12_onFrom_7 : decode cX12_onFrom 7 = .ok (.aload_n 0, 1) := by decide +kernel
theorem dX12_onFrom_8 : decode cX12_onFrom 8 = .ok (.invokevirtual 272, 3) := by decide +kernel
theorem dX12_onFrom_11 : decode cX12_onFrom 11 = .ok (.if_icmp .ge 96, 3) := by decide +kernel
theorem dX12_onFrom_14 : decode cX12_onFrom 14 = .ok (.aload_n 0, 1) := by decide +kernel
theorem dX12_onFrom_15 : decode cX12_onFrom 15 = .ok (.iload 4, 2) := by decide +kernel
theorem dX12_onFrom_17 : decode cX12_onFrom 17 = .ok (.iconst 0, 1) := by decide +kernel
theorem dX12_onFrom_18 : decode cX12_onFrom 18 = .ok (.invokevirtual 276, 3) := by decide +kernel
theorem dX12_onFrom_21 : decode cX12_onFrom 21 = .ok (.istore 5, 2) := by decide +kernel
theorem dX12_onFrom_23 : decode cX12_onFrom 23 = .ok (.aload_n 0, 1) := by decide +kernel
theorem dX12_onFrom_24 : decode cX12_onFrom 24 = .ok (.iload 4, 2) := by decide +kernel
theorem dX12_onFrom_26 : decode cX12_onFrom 26 = .ok (.iconst 1, 1) := by decide +kernel
theorem dX12_onFrom_27 : decode cX12_onFrom 27 = .ok (.invokevirtual 276, 3) := by decide +kernel
theorem dX12_onFrom_30 : decode cX12_onFrom 30 = .ok (.istore 6, 2) := by decide +kernel
theorem dX12_onFrom_32 : decode cX12_onFrom 32 = .ok (.iload_n 2, 1) := by decide +kernel
theorem dX12_onFrom_33 : decode cX12_onFrom 33 = .ok (.iload 4, 2) := by decide +kernel
theorem dX12_onFrom_35 : decode cX12_onFrom 35 = .ok (.ishr, 1) := by decide +kernel
theorem dX12_onFrom_36 : decode cX12_onFrom 36 = .ok (.iconst 1, 1) := by decide +kernel
theorem dX12_onFrom_37 : decode cX12_onFrom 37 = .ok (.iand, 1) := by decide +kernel
theorem dX12_onFrom_38 : decode cX12_onFrom 38 = .ok (.iconst 1, 1) := by decide +kernel
theorem dX12_onFrom_39 : decode cX12_onFrom 39 = .ok (.if_icmp .ne 7, 3) := by decide +kernel
theorem dX12_onFrom_42 : decode cX12_onFrom 42 = .ok (.iconst 1, 1) := by decide +kernel
theorem dX12_onFrom_43 : decode cX12_onFrom 43 = .ok (.goto 4, 3) := by decide +kernel
theorem dX12_onFrom_46 : decode cX12_onFrom 46 = .ok (.iconst 0, 1) := by decide +kernel
theorem dX12_onFrom_47 : decode cX12_onFrom 47 = .ok (.istore 7, 2) := by decide +kernel
theorem dX12_onFrom_49 : decode cX12_onFrom 49 = .ok (.iload_n 3, 1) := by decide +kernel
theorem dX12_onFrom_50 : decode cX12_onFrom 50 = .ok (.iload 7, 2) := by decide +kernel
theorem dX12_onFrom_52 : decode cX12_onFrom 52 = .ok (.ifCond .eq 20, 3) := by decide +kernel
theorem dX12_onFrom_55 : decode cX12_onFrom 55 = .ok (.iload_n 1, 1) := by decide +kernel
theorem dX12_onFrom_56 : decode cX12_onFrom 56 = .ok (.iload 5, 2) := by decide +kernel
theorem dX12_onFrom_58 : decode cX12_onFrom 58 = .ok (.ishr, 1) := by decide +kernel
theorem dX12_onFrom_59 : decode cX12_onFrom 59 = .ok (.iconst 1, 1) := by decide +kernel
theorem dX12_onFrom_60 : decode cX12_onFrom 60 = .ok (.iand, 1) := by decide +kernel
theorem dX12_onFrom_61 : decode cX12_onFrom 61 = .ok (.iconst 1, 1) := by decide +kernel
theorem dX12_onFrom_62 : decode cX12_onFrom 62 = .ok (.if_icmp .ne 10, 3) := by decide +kernel
theorem dX12_onFrom_65 : decode cX12_onFrom 65 = .ok (.iconst 1, 1) := by decide +kernel
theorem dX12_onFrom_66 : decode cX12_onFrom 66 = .ok (.iload 6, 2) := by decide +kernel
theorem dX12_onFrom_68 : decode cX12_onFrom 68 = .ok (.ishl, 1) := by decide +kernel
theorem dX12_onFrom_69 : decode cX12_onFrom 69 = .ok (.goto 4, 3) := by decide +kernel
theorem dX12_onFrom_72 : decode cX12_onFrom 72 = .ok (.iconst 0, 1) := by decide +kernel
theorem dX12_onFrom_73 : decode cX12_onFrom 73 = .ok (.ior, 1) := by decide +kernel
theorem dX12_onFrom_74 : decode cX12_onFrom 74 = .ok (.istore_n 3, 1) := by decide +kernel
theorem dX12_onFrom_75 : decode cX12_onFrom 75 = .ok (.iload_n 3, 1) := by decide +kernel
theorem dX12_onFrom_76 : decode cX12_onFrom 76 = .ok (.iload 7, 2) := by decide +kernel
theorem dX12_onFrom_78 : decode cX12_onFrom 78 = .ok (.ifCond .eq 20, 3) := by decide +kernel
theorem dX12_onFrom_81 : decode cX12_onFrom 81 = .ok (.iload_n 1, 1) := by decide +kernel
theorem dX12_onFrom_82 : decode cX12_onFrom 82 = .ok (.iload 6, 2) := by decide +kernel
theorem dX12_onFrom_84 : decode cX12_onFrom 84 = .ok (.ishr, 1) := by decide +kernel
theorem dX12_onFrom_85 : decode cX12_onFrom 85 = .ok (.iconst 1, 1) := by decide +kernel
theorem dX12_onFrom_86 : decode cX12_onFrom 86 = .ok (.iand, 1) := by decide +kernel
theorem dX12_onFrom_87 : decode cX12_onFrom 87 = .ok (.iconst 1, 1) := by decide +kernel
theorem dX12_onFrom_88 : decode cX12_onFrom 88 = .ok (.if_icmp .ne 10, 3) := by decide +kernel
theorem dX12_onFrom_91 : decode cX12_onFrom 91 = .ok (.iconst 1, 1) := by decide +kernel
theorem dX12_onFrom_92 : decode cX12_onFrom 92 = .ok (.iload 5, 2) := by decide +kernel
theorem dX12_onFrom_94 : decode cX12_onFrom 94 = .ok (.ishl, 1) := by decide +kernel
theorem dX12_onFrom_95 : decode cX12_onFrom 95 = .ok (.goto 4, 3) := by decide +kernel
theorem dX12_onFrom_98 : decode cX12_onFrom 98 = .ok (.iconst 0, 1) := by decide +kernel
theorem dX12_onFrom_99 : decode cX12_onFrom 99 = .ok (.ior, 1) := by decide +kernel
theorem dX12_onFrom_100 : decode cX12_onFrom 100 = .ok (.istore_n 3, 1) := by decide +kernel
theorem dX12_onFrom_101 : decode cX12_onFrom 101 = .ok (.iinc 4 1, 3) := by decide +kernel
theorem dX12_onFrom_104 : decode cX12_onFrom 104 = .ok (.goto (-99), 3) := by decide +kernel
theorem dX12_onFrom_107 : decode cX12_onFrom 107 = .ok (.iload_n 3, 1) := by decide +kernel
theorem dX12_onFrom_108 : decode cX12_onFrom 108 = .ok (.ireturn, 1) := by decide +kernel
def f_X12_onFrom_73 (w : Nat) (k5 : Nat → Int32 → Int32 → Int32 → Int32 → mM → Option (Int32 × mM)) (o0 : Nat) (x1 : Int32) (x2 : Int32) (x4 : Int32) (x5 : Int32) (x6 : Int32) (x7 : Int32) (xs0 : Int32) (xs1 : Int32) (M : mM) : Option (Int32 × mM) := lt (xs1 ||| xs0) fun y1 => (if x7 = 0 then lt (y1 ||| 0) fun y2 => (k5 o0 x1 x2 y2 (x4 + 1) M) else (if ((x1 >>> (x6 &&& 31)) &&& 1) = 1 then lt (y1 ||| ((1 : Int32) <<< (x5 &&& 31))) fun y4 => (k5 o0 x1 x2 y4 (x4 + 1) M) else lt (y1 ||| 0) fun y3 => (k5 o0 x1 x2 y3 (x4 + 1) M)))
set_option maxHeartbeats 4000000 in
set_option maxRecDepth 100000 in
theorem s_X12_onFrom_73 {l : Launch} {G : mG} {sk : List mS} (w : Nat) (k5 : Nat → Int32 → Int32 → Int32 → Int32 → mM → Option (Int32 × mM)) (hk5 : ∀ (o0 : Nat) (h0 : isK o0 22) (x1 : Int32) (x2 : Int32) (x3 : Int32) (x4 : Int32) (M : mM), Go muX12_onFrom (rm 1) 0 0 l G sk (mFin G sk eI) (k5 o0 x1 x2 x3 x4 M) 5 [(0, .ref (gB G + o0)), (1, .int x1), (2, .int x2), (3, .int x3), (4, .int x4)] [] M) (o0 : Nat) (h0 : isK o0 22) (x1 : Int32) (x2 : Int32) (x4 : Int32) (x5 : Int32) (x6 : Int32) (x7 : Int32) (xs0 : Int32) (xs1 : Int32) (M : mM) : Go muX12_onFrom (rm 1) 0 0 l G sk (mFin G sk eI) (f_X12_onFrom_73 w k5 o0 x1 x2 x4 x5 x6 x7 xs0 xs1 M) 73 [(0, .ref (gB G + o0)), (1, .int x1), (2, .int x2), (4, .int x4), (5, .int x5), (6, .int x6), (7, .int x7)] [.int xs0, .int xs1] M := by
  unfold f_X12_onFrom_73
  refine go_ior 74 dX12_onFrom_73 rfl ?_
  refine go_nmI (fun y1 => ?_)
  refine go_istore_n [(3, .int y1), (0, .ref (gB G + o0)), (1, .int x1), (2, .int x2), (4, .int x4), (5, .int x5), (6, .int x6), (7, .int x7)] 75 dX12_onFrom_74 rfl rfl (by decide) rfl ?_
  refine go_iload_n 0 76 dX12_onFrom_75 rfl rfl ?_
  refine go_iload 7 78 dX12_onFrom_76 rfl rfl ?_
  refine go_if_eq 98 81 dX12_onFrom_78 rfl (by decide) (fun _ => ?_) (fun _ => ?_)
  · refine go_iconst 0 99 dX12_onFrom_98 rfl (by decide) ?_
    refine go_ior 100 dX12_onFrom_99 rfl ?_
    refine go_nmI (fun y2 => ?_)
    refine go_istore_n [(3, .int y2), (0, .ref (gB G + o0)), (1, .int x1), (2, .int x2), (4, .int x4), (5, .int x5), (6, .int x6), (7, .int x7)] 101 dX12_onFrom_100 rfl rfl (by decide) rfl ?_
    refine go_iinc (x4 + 1) 4 [(4, .int (x4 + 1)), (3, .int y2), (0, .ref (gB G + o0)), (1, .int x1), (2, .int x2), (5, .int x5), (6, .int x6), (7, .int x7)] 104 dX12_onFrom_101 rfl rfl rfl (by decide) rfl ?_
    refine go_goto 5 dX12_onFrom_104 (by decide) ?_
    exact go_lv [2, 3, 4, 1, 0] rfl (hk5 o0 h0 x1 x2 y2 (x4 + 1) M)
  · refine go_iload_n 2 82 dX12_onFrom_81 rfl rfl ?_
    refine go_iload 6 84 dX12_onFrom_82 rfl rfl ?_
    refine go_ishr 85 dX12_onFrom_84 rfl ?_
    refine go_iconst 1 86 dX12_onFrom_85 rfl (by decide) ?_
    refine go_iand 87 dX12_onFrom_86 rfl ?_
    refine go_iconst 1 88 dX12_onFrom_87 rfl (by decide) ?_
    refine go_icmp_ne 98 91 dX12_onFrom_88 rfl (by decide) (fun _ => ?_) (fun _ => ?_)
    · refine go_iconst 0 99 dX12_onFrom_98 rfl (by decide) ?_
      refine go_ior 100 dX12_onFrom_99 rfl ?_
      refine go_nmI (fun y3 => ?_)
      refine go_istore_n [(3, .int y3), (0, .ref (gB G + o0)), (1, .int x1), (2, .int x2), (4, .int x4), (5, .int x5), (6, .int x6), (7, .int x7)] 101 dX12_onFrom_100 rfl rfl (by decide) rfl ?_
      refine go_iinc (x4 + 1) 4 [(4, .int (x4 + 1)), (3, .int y3), (0, .ref (gB G + o0)), (1, .int x1), (2, .int x2), (5, .int x5), (6, .int x6), (7, .int x7)] 104 dX12_onFrom_101 rfl rfl rfl (by decide) rfl ?_
      refine go_goto 5 dX12_onFrom_104 (by decide) ?_
      exact go_lv [2, 3, 4, 1, 0] rfl (hk5 o0 h0 x1 x2 y3 (x4 + 1) M)
    · refine go_iconst 1 92 dX12_onFrom_91 rfl (by decide) ?_
      refine go_iload 5 94 dX12_onFrom_92 rfl rfl ?_
      refine go_ishl 95 dX12_onFrom_94 rfl ?_
      refine go_goto 99 dX12_onFrom_95 (by decide) ?_
      refine go_ior 100 dX12_onFrom_99 rfl ?_
      refine go_nmI (fun y4 => ?_)
      refine go_istore_n [(3, .int y4), (0, .ref (gB G + o0)), (1, .int x1), (2, .int x2), (4, .int x4), (5, .int x5), (6, .int x6), (7, .int x7)] 101 dX12_onFrom_100 rfl rfl (by decide) rfl ?_
      refine go_iinc (x4 + 1) 4 [(4, .int (x4 + 1)), (3, .int y4), (0, .ref (gB G + o0)), (1, .int x1), (2, .int x2), (5, .int x5), (6, .int x6), (7, .int x7)] 104 dX12_onFrom_101 rfl rfl rfl (by decide) rfl ?_
      refine go_goto 5 dX12_onFrom_104 (by decide) ?_
      exact go_lv [2, 3, 4, 1, 0] rfl (hk5 o0 h0 x1 x2 y4 (x4 + 1) M)
def f_X12_onFrom_72 (w : Nat) (k5 : Nat → Int32 → Int32 → Int32 → Int32 → mM → Option (Int32 × mM)) (o0 : Nat) (x1 : Int32) (x2 : Int32) (x4 : Int32) (x5 : Int32) (x6 : Int32) (x7 : Int32) (xs0 : Int32) (M : mM) : Option (Int32 × mM) := (f_X12_onFrom_73 w k5 o0 x1 x2 x4 x5 x6 x7 0 xs0 M)
set_option maxHeartbeats 4000000 in
set_option maxRecDepth 100000 in
theorem s_X12_onFrom_72 {l : Launch} {G : mG} {sk : List mS} (w : Nat) (k5 : Nat → Int32 → Int32 → Int32 → Int32 → mM → Option (Int32 × mM)) (hk5 : ∀ (o0 : Nat) (h0 : isK o0 22) (x1 : Int32) (x2 : Int32) (x3 : Int32) (x4 : Int32) (M : mM), Go muX12_onFrom (rm 1) 0 0 l G sk (mFin G sk eI) (k5 o0 x1 x2 x3 x4 M) 5 [(0, .ref (gB G + o0)), (1, .int x1), (2, .int x2), (3, .int x3), (4, .int x4)] [] M) (o0 : Nat) (h0 : isK o0 22) (x1 : Int32) (x2 : Int32) (x4 : Int32) (x5 : Int32) (x6 : Int32) (x7 : Int32) (xs0 : Int32) (M : mM) : Go muX12_onFrom (rm 1) 0 0 l G sk (mFin G sk eI) (f_X12_onFrom_72 w k5 o0 x1 x2 x4 x5 x6 x7 xs0 M) 72 [(0, .ref (gB G + o0)), (1, .int x1), (2, .int x2), (4, .int x4), (5, .int x5), (6, .int x6), (7, .int x7)] [.int xs0] M := by
  unfold f_X12_onFrom_72
  refine go_iconst 0 73 dX12_onFrom_72 rfl (by decide) ?_
  exact go_lv [0, 1, 2, 3, 4, 5, 6] rfl (s_X12_onFrom_73 w k5 hk5 o0 h0 x1 x2 x4 x5 x6 x7 0 xs0 M)
def f_X12_onFrom_47 (w : Nat) (k5 : Nat → Int32 → Int32 → Int32 → Int32 → mM → Option (Int32 × mM)) (o0 : Nat) (x1 : Int32) (x2 : Int32) (x3 : Int32) (x4 : Int32) (x5 : Int32) (x6 : Int32) (xs0 : Int32) (M : mM) : Option (Int32 × mM) := (if xs0 = 0 then (f_X12_onFrom_72 w k5 o0 x1 x2 x4 x5 x6 xs0 x3 M) else (if ((x1 >>> (x5 &&& 31)) &&& 1) = 1 then (f_X12_onFrom_73 w k5 o0 x1 x2 x4 x5 x6 xs0 ((1 : Int32) <<< (x6 &&& 31)) x3 M) else (f_X12_onFrom_72 w k5 o0 x1 x2 x4 x5 x6 xs0 x3 M)))
set_option maxHeartbeats 4000000 in
set_option maxRecDepth 100000 in
theorem s_X12_onFrom_47 {l : Launch} {G : mG} {sk : List mS} (w : Nat) (k5 : Nat → Int32 → Int32 → Int32 → Int32 → mM → Option (Int32 × mM)) (hk5 : ∀ (o0 : Nat) (h0 : isK o0 22) (x1 : Int32) (x2 : Int32) (x3 : Int32) (x4 : Int32) (M : mM), Go muX12_onFrom (rm 1) 0 0 l G sk (mFin G sk eI) (k5 o0 x1 x2 x3 x4 M) 5 [(0, .ref (gB G + o0)), (1, .int x1), (2, .int x2), (3, .int x3), (4, .int x4)] [] M) (o0 : Nat) (h0 : isK o0 22) (x1 : Int32) (x2 : Int32) (x3 : Int32) (x4 : Int32) (x5 : Int32) (x6 : Int32) (xs0 : Int32) (M : mM) : Go muX12_onFrom (rm 1) 0 0 l G sk (mFin G sk eI) (f_X12_onFrom_47 w k5 o0 x1 x2 x3 x4 x5 x6 xs0 M) 47 [(0, .ref (gB G + o0)), (1, .int x1), (2, .int x2), (3, .int x3), (4, .int x4), (5, .int x5), (6, .int x6)] [.int xs0] M := by
  unfold f_X12_onFrom_47
  refine go_istore [(7, .int xs0), (0, .ref (gB G + o0)), (1, .int x1), (2, .int x2), (3, .int x3), (4, .int x4), (5, .int x5), (6, .int x6)] 49 dX12_onFrom_47 rfl (by decide) rfl ?_
  refine go_iload_n 4 50 dX12_onFrom_49 rfl rfl ?_
  refine go_iload 0 52 dX12_onFrom_50 rfl rfl ?_
  refine go_if_eq 72 55 dX12_onFrom_52 rfl (by decide) (fun _ => ?_) (fun _ => ?_)
  · exact go_lv [1, 2, 3, 5, 6, 7, 0] rfl (s_X12_onFrom_72 w k5 hk5 o0 h0 x1 x2 x4 x5 x6 xs0 x3 M)
  · refine go_iload_n 2 56 dX12_onFrom_55 rfl rfl ?_
    refine go_iload 6 58 dX12_onFrom_56 rfl rfl ?_
    refine go_ishr 59 dX12_onFrom_58 rfl ?_
    refine go_iconst 1 60 dX12_onFrom_59 rfl (by decide) ?_
    refine go_iand 61 dX12_onFrom_60 rfl ?_
    refine go_iconst 1 62 dX12_onFrom_61 rfl (by decide) ?_
    refine go_icmp_ne 72 65 dX12_onFrom_62 rfl (by decide) (fun _ => ?_) (fun _ => ?_)
    · exact go_lv [1, 2, 3, 5, 6, 7, 0] rfl (s_X12_onFrom_72 w k5 hk5 o0 h0 x1 x2 x4 x5 x6 xs0 x3 M)
    · refine go_iconst 1 66 dX12_onFrom_65 rfl (by decide) ?_
      refine go_iload 7 68 dX12_onFrom_66 rfl rfl ?_
      refine go_ishl 69 dX12_onFrom_68 rfl ?_
      refine go_goto 73 dX12_onFrom_69 (by decide) ?_
      exact go_lv [1, 2, 3, 5, 6, 7, 0] rfl (s_X12_onFrom_73 w k5 hk5 o0 h0 x1 x2 x4 x5 x6 xs0 ((1 : Int32) <<< (x6 &&& 31)) x3 M)
def f_X12_onFrom_5 (w : Nat) : Nat → Nat → Int32 → Int32 → Int32 → Int32 → mM → Option (Int32 × mM)
  | 0, _, _, _, _, _, _ => none
  | n + 1, o0, x1, x2, x3, x4, M => bI (f_X12_doors w o0 M) fun q2 M1 => (if q2 ≤ x4 then some (x3, M1) else bI (f_X12_doorOf w o0 x4 0 M1) fun q4 M3 => bI (f_X12_doorOf w o0 x4 1 M3) fun q6 M5 => (if ((x2 >>> (x4 &&& 31)) &&& 1) = 1 then (f_X12_onFrom_47 w (f_X12_onFrom_5 w n) o0 x1 x2 x3 x4 q4 q6 1 M5) else (f_X12_onFrom_47 w (f_X12_onFrom_5 w n) o0 x1 x2 x3 x4 q4 q6 0 M5)))
set_option maxHeartbeats 4000000 in
set_option maxRecDepth 100000 in
theorem s_X12_onFrom_5 {l : Launch} {G : mG} {sk : List mS} (w : Nat) : ∀ (n : Nat) (o0 : Nat) (h0 : isK o0 22) (x1 : Int32) (x2 : Int32) (x3 : Int32) (x4 : Int32) (M : mM), Go muX12_onFrom (rm 1) 0 0 l G sk (mFin G sk eI) (f_X12_onFrom_5 w n o0 x1 x2 x3 x4 M) 5 [(0, .ref (gB G + o0)), (1, .int x1), (2, .int x2), (3, .int x3), (4, .int x4)] [] M := by
  intro n
  induction n with
  | zero =>
    intros
    exact go_none
  | succ n ih =>
    intro o0 h0 x1 x2 x3 x4 M
    rw [f_X12_onFrom_5]
    refine go_iload 4 7 dX12_onFrom_5 rfl rfl ?_
    refine go_aload_n 0 8 dX12_onFrom_7 rfl rfl ?_
    refine go_cVI0 0 clX12 cwX12_272 (m_X12_doors w o0 h0 M) h0 11 dX12_onFrom_8 rfl ⟨Nat.le_of_ble_eq_true rfl, Nat.le_of_ble_eq_true rfl⟩ ⟨Nat.zero_le _, Nat.zero_le _⟩ (Nat.le_of_ble_eq_true rfl) (fun q2 M1 _ => ?_)
    refine go_icmp_ge 107 14 dX12_onFrom_11 rfl (by decide) (fun _ => ?_) (fun _ => ?_)
    · refine go_iload_n 3 108 dX12_onFrom_107 rfl rfl ?_
      exact go_iret rfl dX12_onFrom_108
    · refine go_aload_n 0 15 dX12_onFrom_14 rfl rfl ?_
      refine go_iload 4 17 dX12_onFrom_15 rfl rfl ?_
      refine go_iconst 0 18 dX12_onFrom_17 rfl (by decide) ?_
      refine go_cVI2 0 clX12 cwX12_276 (m_X12_doorOf w o0 h0 x4 0 M1) h0 21 dX12_onFrom_18 rfl ⟨Nat.le_of_ble_eq_true rfl, Nat.le_of_ble_eq_true rfl⟩ ⟨Nat.zero_le _, Nat.zero_le _⟩ (Nat.le_of_ble_eq_true rfl) (fun q4 M3 _ => ?_)
      refine go_istore [(5, .int q4), (0, .ref (gB G + o0)), (1, .int x1), (2, .int x2), (3, .int x3), (4, .int x4)] 23 dX12_onFrom_21 rfl (by decide) rfl ?_
      refine go_aload_n 1 24 dX12_onFrom_23 rfl rfl ?_
      refine go_iload 5 26 dX12_onFrom_24 rfl rfl ?_
      refine go_iconst 1 27 dX12_onFrom_26 rfl (by decide) ?_
      refine go_cVI2 0 clX12 cwX12_276 (m_X12_doorOf w o0 h0 x4 1 M3) h0 30 dX12_onFrom_27 rfl ⟨Nat.le_of_ble_eq_true rfl, Nat.le_of_ble_eq_true rfl⟩ ⟨Nat.zero_le _, Nat.zero_le _⟩ (Nat.le_of_ble_eq_true rfl) (fun q6 M5 _ => ?_)
      refine go_istore [(6, .int q6), (5, .int q4), (0, .ref (gB G + o0)), (1, .int x1), (2, .int x2), (3, .int x3), (4, .int x4)] 32 dX12_onFrom_30 rfl (by decide) rfl ?_
      refine go_iload_n 4 33 dX12_onFrom_32 rfl rfl ?_
      refine go_iload 6 35 dX12_onFrom_33 rfl rfl ?_
      refine go_ishr 36 dX12_onFrom_35 rfl ?_
      refine go_iconst 1 37 dX12_onFrom_36 rfl (by decide) ?_
      refine go_iand 38 dX12_onFrom_37 rfl ?_
      refine go_iconst 1 39 dX12_onFrom_38 rfl (by decide) ?_
      refine go_icmp_ne 46 42 dX12_onFrom_39 rfl (by decide) (fun _ => ?_) (fun _ => ?_)
      · refine go_iconst 0 47 dX12_onFrom_46 rfl (by decide) ?_
        exact go_lv [2, 3, 4, 5, 6, 1, 0] rfl (s_X12_onFrom_47 w (f_X12_onFrom_5 w n) (fun o0 h0 x1 x2 x3 x4 M => ih o0 h0 x1 x2 x3 x4 M) o0 h0 x1 x2 x3 x4 q4 q6 0 M5)
      · refine go_iconst 1 43 dX12_onFrom_42 rfl (by decide) ?_
        refine go_goto 47 dX12_onFrom_43 (by decide) ?_
        exact go_lv [2, 3, 4, 5, 6, 1, 0] rfl (s_X12_onFrom_47 w (f_X12_onFrom_5 w n) (fun o0 h0 x1 x2 x3 x4 M => ih o0 h0 x1 x2 x3 x4 M) o0 h0 x1 x2 x3 x4 q4 q6 1 M5)
def f_X12_onFrom (w : Nat) (o0 : Nat) (x1 : Int32) (x2 : Int32) (M : mM) : Option (Int32 × mM) := (f_X12_onFrom_5 w w o0 x1 x2 x1 0 M)
set_option maxHeartbeats 4000000 in
set_option maxRecDepth 100000 in
theorem s_X12_onFrom {l : Launch} {G : mG} {sk : List mS} (w : Nat) (o0 : Nat) (h0 : isK o0 22) (x1 : Int32) (x2 : Int32) (M : mM) : Go muX12_onFrom (rm 1) 0 0 l G sk (mFin G sk eI) (f_X12_onFrom w o0 x1 x2 M) 0 [(0, .ref (gB G + o0)), (1, .int x1), (2, .int x2)] [] M := by
  unfold f_X12_onFrom
  refine go_iload_n 1 1 dX12_onFrom_0 rfl rfl ?_
  refine go_istore_n [(3, .int x1), (0, .ref (gB G + o0)), (1, .int x1), (2, .int x2)] 2 dX12_onFrom_1 rfl rfl (by decide) rfl ?_
  refine go_iconst 0 3 dX12_onFrom_2 rfl (by decide) ?_
  refine go_istore [(4, .int 0), (3, .int x1), (0, .ref (gB G + o0)), (1, .int x1), (2, .int x2)] 5 dX12_onFrom_3 rfl (by decide) rfl ?_
  exact go_lv [2, 3, 4, 1, 0] rfl (s_X12_onFrom_5 w w o0 h0 x1 x2 x1 0 M)
theorem m_X12_onFrom {l : Launch} {G : mG} {sk : List mS} (w : Nat) (o0 : Nat) (h0 : isK o0 22) (x1 : Int32) (x2 : Int32) (M : mM) : Mt l G sk yX12_onFrom muX12_onFrom 1 [.ref (gB G + o0), .int x1, .int x2] M eI (f_X12_onFrom w o0 x1 x2 M) := Mt.of (by decide) rfl (Nat.le_of_ble_eq_true rfl) (s_X12_onFrom w o0 h0 x1 x2 M)
