/-! ===== SwollenHouse.rests: it returns, or throws ===== -/
def rmR (d : Nat) : Room := { frames := d, cells := 1, slots := 6, locals := 64 * d }
def rQ (G : mG) (sk : List mS) (x : Option Int32 × mM) : Array Value → State → Outcome → State → Prop := fun a st o t => ∃ v, x.1 = some v ∧ mQ G sk (some (.int v), x.2) a st o t
def rX (G : mG) (sk : List mS) (x : Option Int32 × mM) : String → State → State → Prop := fun E st t => x.1 = none ∧ E = vzE ∧ Wd G sk x.2 t.heap ∧ va_F (gA G) st t
def rP (G : mG) (s : State) (args : Array Value) (below : List Frame) : Prop := vzX G s ∧ ∃ m, s.frames = .invoking m args :: below ∧ s.methodNamed? yX11_rests = some m
def finR (G : mG) (sk : List mS) : Option Int32 × mM → State → Array Value → List Frame → State → Prop := fun x s args below t => rP G s args below → vx_MQ below (rQ G sk x) (rX G sk x) args s 1 6 (gA G) t
theorem codX11_rests : Cond.code yX11_rests cX11_rests 7 (some .int) ∈ mT := cwL_7.2.2.2.2.1
section RR
variable {R : Room} {l : Launch} {G : mG} {sk : List mS} {pc : Nat} {lv : List (Nat × Value)} {st : List Value} {M : mM}
theorem vz_imp {p : Program} {l : Launch} {e : Env} {R : Room} {s : State} {m : MethodId} {args : Array Value} {below : List Frame} {meth : Method} {c : Code} {H : Heap} {locs : List Loc} {cells slots : Nat} {Q Q' : State → Prop} {g : JFrame} (h : ∀ t, Q t → Q' t) (k : W p l e R s m args below meth c H locs cells slots Q g) : W p l e R s m args below meth c H locs cells slots Q' g := fun T hT X => by
  obtain ⟨t, a, b⟩ := k T hT X
  exact ⟨t, a, h t b⟩
theorem go_iretR {v : Int32} (hd : decode muX11_rests.2.1 pc = .ok (.ireturn, 1)) (hk : 1 ≤ R.cells ∧ 6 ≤ R.slots) : Go muX11_rests R 0 0 l G sk (finR G sk) (some (some v, M)) pc lv [.int v] M := by
  intro p e s m args below meth cd H locs ls x C hf hW hS hl
  cases hf
  refine vz_imp (fun t h _ => h) (vx_ret (Qc := rQ G sk (some v, M)) (XC := rX G sk (some v, M)) (mc := 1) (ms := 6) (free := gA G) ?_)
  refine W.widen (k := 1) (n := 6) (Nat.zero_le _) (Nat.zero_le _) ?_
  exact W.iret C.1 C.2.1 C.2.2.2.2.2.2.2.1 (fun t ht hw => ⟨v, rfl, mQ_end (r := (some (.int v), M)) hW hS t ht hw⟩) hS.2.2 hd C.2.2.2.2.2.2.1
theorem go_thr (hlt : l.stackTraces = false) {is : Nat} {text : String} (hist : (is = 343 ∧ text = "no such heirs") ∨ (is = 352 ∧ text = "no such rest")) (d0 : decode cX11_rests pc = .ok (.new 341, 3)) (d3 : decode cX11_rests (pc + 3) = .ok (.dup, 1)) (d4 : decode cX11_rests (pc + 4) = .ok (.ldc_w is, 3)) (d7 : decode cX11_rests (pc + 7) = .ok (.invokespecial 345, 3)) (d10 : decode cX11_rests (pc + 10) = .ok (.athrow, 1)) : Go muX11_rests (rmR 6) 0 0 l G sk (finR G sk) (some (none, M)) pc lv [] M := by
  intro p e s m args below meth cd H locs ls x C hf hW hS hl
  cases hf
  intro T hT X
  by_cases hP : rP G s args below
  · obtain ⟨hx, m', hfr, hn⟩ := id hP
    have em : m' = m := by
      have := hfr.symm.trans X.frames
      simp only [List.cons.injEq, Frame.invoking.injEq, and_true] at this
      exact this
    subst em
    have hout : ∀ z ∈ cd.exceptionTable.toList, covers z (pc + 10) = false := by
      obtain ⟨meth9, c9, h1, h2, -, -, -, -, h7, -⟩ := Cond.code_spec hn (C.2.2.2.2.1 _ codX11_rests)
      cases Option.some.inj (h1.symm.trans X.method)
      cases Option.some.inj (h2.symm.trans X.code)
      intro z hz
      rw [Array.isEmpty_iff.mp h7] at hz
      cases hz
    have hstr : ∃ a, vk_R RX11 is text a s := by
      rcases hist with ⟨rfl, rfl⟩ | ⟨rfl, rfl⟩
      · exact hx.2.2.1
      · exact hx.2.2.2.1
    obtain ⟨sa, hstr⟩ := hstr
    have kp : ∀ a : Nat, a < G.2.2.1.size → ¬ gA G a → s.heap[a]? = G.2.2.1[a]? := fun a ha _ => C.2.2.2.2.2.2.2.2.2.1 a ha
    have hT1 : va_F (gA G) s { s with heap := H } := hS.F rfl
    exact vz_imp (fun t h _ => h) (vz_throw (Qc := rQ G sk (none, M)) (XC := rX G sk (none, M)) (mc := 1) (ms := 6) (free := gA G) C.1 C.2.1 hlt C.2.2.2.1 hstr (hx.words C.2.2.2.2.1) (hx.1.kept kp) (hx.2.1.kept kp) hS (hl.1.trans C.2.2.1.symm) d0 d3 d4 d7 d10 hout (Nat.le_of_ble_eq_true rfl) (Nat.le_of_ble_eq_true rfl) (Nat.le_of_ble_eq_true rfl) (Nat.le_of_ble_eq_true rfl) C.2.2.2.2.2.2.1
      (fun t hal h1 h2 => ⟨rfl, rfl, fun k q hk => (hW k q hk).kept (h2 _ (hW k q hk).lt), Nat.le_trans hS.1 h1, fun q hq hA => by rw [h2 q (Nat.lt_of_lt_of_le hq hS.1)]; exact hS.2.1 q hq hA⟩) hS.2.2 (Nat.le_refl _) (Nat.le_refl _)) T hT X
  · exact ⟨_, Steps.refl _, fun h => absurd h hP⟩
end RR
theorem dX11_rests_0 : decode cX11_rests 0 = .ok (.iload_n 1, 1) := by decide +kernel
theorem dX11_rests_1 : decode cX11_rests 1 = .ok (.invokestatic 338, 3) := by decide +kernel
theorem dX11_rests_4 : decode cX11_rests 4 = .ok (.ifCond .eq 23, 3) := by decide +kernel
theorem dX11_rests_7 : decode cX11_rests 7 = .ok (.iload_n 2, 1) := by decide +kernel
theorem dX11_rests_8 : decode cX11_rests 8 = .ok (.invokestatic 338, 3) := by decide +kernel
theorem dX11_rests_11 : decode cX11_rests 11 = .ok (.ifCond .eq 16, 3) := by decide +kernel
theorem dX11_rests_14 : decode cX11_rests 14 = .ok (.iload_n 3, 1) := by decide +kernel
theorem dX11_rests_15 : decode cX11_rests 15 = .ok (.invokestatic 338, 3) := by decide +kernel
theorem dX11_rests_18 : decode cX11_rests 18 = .ok (.ifCond .eq 9, 3) := by decide +kernel
theorem dX11_rests_21 : decode cX11_rests 21 = .ok (.iload 4, 2) := by decide +kernel
theorem dX11_rests_23 : decode cX11_rests 23 = .ok (.iconst (-1), 1) := by decide +kernel
theorem dX11_rests_24 : decode cX11_rests 24 = .ok (.if_icmp .ge 14, 3) := by decide +kernel
theorem dX11_rests_27 : decode cX11_rests 27 = .ok (.new 341, 3) := by decide +kernel
theorem dX11_rests_30 : decode cX11_rests 30 = .ok (.dup, 1) := by decide +kernel
theorem dX11_rests_31 : decode cX11_rests 31 = .ok (.ldc_w 343, 3) := by decide +kernel
theorem dX11_rests_34 : decode cX11_rests 34 = .ok (.invokespecial 345, 3) := by decide +kernel
theorem dX11_rests_37 : decode cX11_rests 37 = .ok (.athrow, 1) := by decide +kernel
theorem dX11_rests_38 : decode cX11_rests 38 = .ok (.iconst 0, 1) := by decide +kernel
theorem dX11_rests_39 : decode cX11_rests 39 = .ok (.istore 5, 2) := by decide +kernel
theorem dX11_rests_41 : decode cX11_rests 41 = .ok (.iconst 0, 1) := by decide +kernel
theorem dX11_rests_42 : decode cX11_rests 42 = .ok (.istore 6, 2) := by decide +kernel
theorem dX11_rests_44 : decode cX11_rests 44 = .ok (.iload 6, 2) := by decide +kernel
theorem dX11_rests_46 : decode cX11_rests 46 = .ok (.iconst 4, 1) := by decide +kernel
theorem dX11_rests_47 : decode cX11_rests 47 = .ok (.if_icmp .ge 42, 3) := by decide +kernel
theorem dX11_rests_50 : decode cX11_rests 50 = .ok (.iload 6, 2) := by decide +kernel
theorem dX11_rests_52 : decode cX11_rests 52 = .ok (.iconst 1, 1) := by decide +kernel
theorem dX11_rests_53 : decode cX11_rests 53 = .ok (.ishr, 1) := by decide +kernel
theorem dX11_rests_54 : decode cX11_rests 54 = .ok (.iload 6, 2) := by decide +kernel
theorem dX11_rests_56 : decode cX11_rests 56 = .ok (.iconst 1, 1) := by decide +kernel
theorem dX11_rests_57 : decode cX11_rests 57 = .ok (.iand, 1) := by decide +kernel
theorem dX11_rests_58 : decode cX11_rests 58 = .ok (.iload_n 1, 1) := by decide +kernel
theorem dX11_rests_59 : decode cX11_rests 59 = .ok (.iload_n 2, 1) := by decide +kernel
theorem dX11_rests_60 : decode cX11_rests 60 = .ok (.iload_n 3, 1) := by decide +kernel
theorem dX11_rests_61 : decode cX11_rests 61 = .ok (.invokestatic 348, 3) := by decide +kernel
theorem dX11_rests_64 : decode cX11_rests 64 = .ok (.ifCond .ne 6, 3) := by decide +kernel
theorem dX11_rests_67 : decode cX11_rests 67 = .ok (.goto 16, 3) := by decide +kernel
theorem dX11_rests_70 : decode cX11_rests 70 = .ok (.iload 5, 2) := by decide +kernel
theorem dX11_rests_72 : decode cX11_rests 72 = .ok (.iload 4, 2) := by decide +kernel
theorem dX11_rests_74 : decode cX11_rests 74 = .ok (.if_icmp .ne 6, 3) := by decide +kernel
theorem dX11_rests_77 : decode cX11_rests 77 = .ok (.iload 6, 2) := by decide +kernel
theorem dX11_rests_79 : decode cX11_rests 79 = .ok (.ireturn, 1) := by decide +kernel
theorem dX11_rests_80 : decode cX11_rests 80 = .ok (.iinc 5 1, 3) := by decide +kernel
theorem dX11_rests_83 : decode cX11_rests 83 = .ok (.iinc 6 1, 3) := by decide +kernel
theorem dX11_rests_86 : decode cX11_rests 86 = .ok (.goto (-42), 3) := by decide +kernel
theorem dX11_rests_89 : decode cX11_rests 89 = .ok (.iload 4, 2) := by decide +kernel
theorem dX11_rests_91 : decode cX11_rests 91 = .ok (.iconst (-1), 1) := by decide +kernel
theorem dX11_rests_92 : decode cX11_rests 92 = .ok (.if_icmp .eq 14, 3) := by decide +kernel
theorem dX11_rests_95 : decode cX11_rests 95 = .ok (.new 341, 3) := by decide +kernel
theorem dX11_rests_98 : decode cX11_rests 98 = .ok (.dup, 1) := by decide +kernel
theorem dX11_rests_99 : decode cX11_rests 99 = .ok (.ldc_w 352, 3) := by decide +kernel
theorem dX11_rests_102 : decode cX11_rests 102 = .ok (.invokespecial 345, 3) := by decide +kernel
theorem dX11_rests_105 : decode cX11_rests 105 = .ok (.athrow, 1) := by decide +kernel
theorem dX11_rests_106 : decode cX11_rests 106 = .ok (.iload 5, 2) := by decide +kernel
theorem dX11_rests_108 : decode cX11_rests 108 = .ok (.ireturn, 1) := by decide +kernel
theorem s_X11_rests_27 {l : Launch} {G : mG} {sk : List mS} (hlt : l.stackTraces = false) (w : Nat) (x1 x2 x3 x4 : Int32) (M : mM) : Go muX11_rests (rmR 6) 0 0 l G sk (finR G sk) (f_X11_rests_27 w M) 27 [(0, .ref (gB G + 0)), (1, .int x1), (2, .int x2), (3, .int x3), (4, .int x4)] [] M := by
  unfold f_X11_rests_27
  exact go_thr hlt (Or.inl ⟨rfl, rfl⟩) dX11_rests_27 dX11_rests_30 dX11_rests_31 dX11_rests_34 dX11_rests_37
set_option maxHeartbeats 4000000 in
set_option maxRecDepth 100000 in
theorem s_X11_rests_44 {l : Launch} {G : mG} {sk : List mS} (hlt : l.stackTraces = false) (w : Nat) (x1 x2 x3 x4 : Int32) : ∀ (n : Nat) (x5 x6 : Int32) (M : mM), Go muX11_rests (rmR 6) 0 0 l G sk (finR G sk) (f_X11_rests_44 w n x1 x2 x3 x4 x5 x6 M) 44 [(0, .ref (gB G + 0)), (1, .int x1), (2, .int x2), (3, .int x3), (4, .int x4), (5, .int x5), (6, .int x6)] [] M := by
  intro n
  induction n with
  | zero =>
    intros
    exact go_none
  | succ n ih =>
    intro x5 x6 M
    rw [f_X11_rests_44]
    refine go_iload 6 46 dX11_rests_44 rfl rfl ?_
    refine go_iconst 4 47 dX11_rests_46 rfl (by decide) ?_
    refine go_icmp_ge 89 50 dX11_rests_47 rfl (by decide) (fun _ => ?_) (fun _ => ?_)
    · unfold f_X11_rests_89
      refine go_iload 4 91 dX11_rests_89 rfl rfl ?_
      refine go_iconst (-1) 92 dX11_rests_91 rfl (by decide) ?_
      refine go_icmp_eq 106 95 dX11_rests_92 rfl (by decide) (fun _ => ?_) (fun _ => ?_)
      · refine go_iload 5 108 dX11_rests_106 rfl rfl ?_
        exact go_iretR dX11_rests_108 ⟨Nat.le_of_ble_eq_true rfl, Nat.le_of_ble_eq_true rfl⟩
      · exact go_thr hlt (Or.inr ⟨rfl, rfl⟩) dX11_rests_95 dX11_rests_98 dX11_rests_99 dX11_rests_102 dX11_rests_105
    · refine go_iload 6 52 dX11_rests_50 rfl rfl ?_
      refine go_iconst 1 53 dX11_rests_52 rfl (by decide) ?_
      refine go_ishr 54 dX11_rests_53 rfl ?_
      refine go_iload 6 56 dX11_rests_54 rfl rfl ?_
      refine go_iconst 1 57 dX11_rests_56 rfl (by decide) ?_
      refine go_iand 58 dX11_rests_57 rfl ?_
      refine go_iload_n 1 59 dX11_rests_58 rfl rfl ?_
      refine go_iload_n 2 60 dX11_rests_59 rfl rfl ?_
      refine go_iload_n 3 61 dX11_rests_60 rfl rfl ?_
      refine go_cSI5 1 cwX11_348 (m_X11_isRest w (x6 >>> ((1 : Int32) &&& 31)) (x6 &&& 1) x1 x2 x3 M) 64 dX11_rests_61 rfl ⟨Nat.le_of_ble_eq_true rfl, Nat.le_of_ble_eq_true rfl⟩ ⟨Nat.zero_le _, Nat.zero_le _⟩ (Nat.le_of_ble_eq_true rfl) (fun q2 M1 _ => ?_)
      refine go_if_ne 70 67 dX11_rests_64 rfl (by decide) (fun _ => ?_) (fun _ => ?_)
      · refine go_iload 5 72 dX11_rests_70 rfl rfl ?_
        refine go_iload 4 74 dX11_rests_72 rfl rfl ?_
        refine go_icmp_ne 80 77 dX11_rests_74 rfl (by decide) (fun _ => ?_) (fun _ => ?_)
        · refine go_iinc (x5 + 1) 5 [(5, .int (x5 + 1)), (0, .ref (gB G + 0)), (1, .int x1), (2, .int x2), (3, .int x3), (4, .int x4), (6, .int x6)] 83 dX11_rests_80 rfl rfl rfl (by decide) rfl ?_
          refine go_iinc (x6 + 1) 6 [(6, .int (x6 + 1)), (5, .int (x5 + 1)), (0, .ref (gB G + 0)), (1, .int x1), (2, .int x2), (3, .int x3), (4, .int x4)] 86 dX11_rests_83 rfl rfl rfl (by decide) rfl ?_
          refine go_goto 44 dX11_rests_86 (by decide) ?_
          exact go_lv [2, 3, 4, 5, 6, 1, 0] rfl (ih (x5 + 1) (x6 + 1) M1)
        · refine go_iload 6 79 dX11_rests_77 rfl rfl ?_
          exact go_iretR dX11_rests_79 ⟨Nat.le_of_ble_eq_true rfl, Nat.le_of_ble_eq_true rfl⟩
      · refine go_goto 83 dX11_rests_67 (by decide) ?_
        refine go_iinc (x6 + 1) 6 [(6, .int (x6 + 1)), (0, .ref (gB G + 0)), (1, .int x1), (2, .int x2), (3, .int x3), (4, .int x4), (5, .int x5)] 86 dX11_rests_83 rfl rfl rfl (by decide) rfl ?_
        refine go_goto 44 dX11_rests_86 (by decide) ?_
        exact go_lv [1, 2, 3, 4, 5, 6, 0] rfl (ih x5 (x6 + 1) M1)
set_option maxHeartbeats 4000000 in
set_option maxRecDepth 100000 in
theorem s_X11_rests {l : Launch} {G : mG} {sk : List mS} (hlt : l.stackTraces = false) (w : Nat) (x1 x2 x3 x4 : Int32) (M : mM) : Go muX11_rests (rmR 6) 0 0 l G sk (finR G sk) (f_X11_rests w 0 x1 x2 x3 x4 M) 0 [(0, .ref (gB G + 0)), (1, .int x1), (2, .int x2), (3, .int x3), (4, .int x4)] [] M := by
  unfold f_X11_rests
  refine go_iload_n 1 1 dX11_rests_0 rfl rfl ?_
  refine go_cSI1 0 cwX11_338 (m_X11_isStake w x1 M) 4 dX11_rests_1 rfl ⟨Nat.le_of_ble_eq_true rfl, Nat.le_of_ble_eq_true rfl⟩ ⟨Nat.zero_le _, Nat.zero_le _⟩ (Nat.le_of_ble_eq_true rfl) (fun q2 M1 _ => ?_)
  refine go_if_eq 27 7 dX11_rests_4 rfl (by decide) (fun _ => s_X11_rests_27 hlt w x1 x2 x3 x4 M1) (fun _ => ?_)
  refine go_iload_n 2 8 dX11_rests_7 rfl rfl ?_
  refine go_cSI1 0 cwX11_338 (m_X11_isStake w x2 M1) 11 dX11_rests_8 rfl ⟨Nat.le_of_ble_eq_true rfl, Nat.le_of_ble_eq_true rfl⟩ ⟨Nat.zero_le _, Nat.zero_le _⟩ (Nat.le_of_ble_eq_true rfl) (fun q4 M3 _ => ?_)
  refine go_if_eq 27 14 dX11_rests_11 rfl (by decide) (fun _ => s_X11_rests_27 hlt w x1 x2 x3 x4 M3) (fun _ => ?_)
  refine go_iload_n 3 15 dX11_rests_14 rfl rfl ?_
  refine go_cSI1 0 cwX11_338 (m_X11_isStake w x3 M3) 18 dX11_rests_15 rfl ⟨Nat.le_of_ble_eq_true rfl, Nat.le_of_ble_eq_true rfl⟩ ⟨Nat.zero_le _, Nat.zero_le _⟩ (Nat.le_of_ble_eq_true rfl) (fun q6 M5 _ => ?_)
  refine go_if_eq 27 21 dX11_rests_18 rfl (by decide) (fun _ => s_X11_rests_27 hlt w x1 x2 x3 x4 M5) (fun _ => ?_)
  refine go_iload 4 23 dX11_rests_21 rfl rfl ?_
  refine go_iconst (-1) 24 dX11_rests_23 rfl (by decide) ?_
  refine go_icmp_ge 38 27 dX11_rests_24 rfl (by decide) (fun _ => ?_) (fun _ => s_X11_rests_27 hlt w x1 x2 x3 x4 M5)
  refine go_iconst 0 39 dX11_rests_38 rfl (by decide) ?_
  refine go_istore [(5, .int 0), (0, .ref (gB G + 0)), (1, .int x1), (2, .int x2), (3, .int x3), (4, .int x4)] 41 dX11_rests_39 rfl (by decide) rfl ?_
  refine go_iconst 0 42 dX11_rests_41 rfl (by decide) ?_
  refine go_istore [(6, .int 0), (5, .int 0), (0, .ref (gB G + 0)), (1, .int x1), (2, .int x2), (3, .int x3), (4, .int x4)] 44 dX11_rests_42 rfl (by decide) rfl ?_
  exact go_lv [2, 3, 4, 5, 6, 1, 0] rfl (s_X11_rests_44 hlt w x1 x2 x3 x4 w 0 0 M5)
/-- its contract -/
def rPc (G : mG) (sk : List mS) (av : List Value) (M : mM) : Array Value → State → Prop := va_Pc av (fun U => (Wd G sk M U.heap ∧ gK G U ∧ (∀ q, q < gB G → U.heap[q]? = G.2.2.1[q]?) ∧ gB G ≤ U.heap.size) ∧ vzX G U)
theorem rPc_blind (G : mG) (sk : List mS) (av : List Value) (M : mM) : FrameBlind (rPc G sk av M) := fun a U g mk q => ⟨q.1, ⟨q.2.1.1, q.2.1.2.1.moved (Vm.Alike.refl U.vm), q.2.1.2.2⟩, q.2.2.warm (State.WarmedH.refl U)⟩
theorem m_X11_rests {l : Launch} {G : mG} {sk : List mS} (hlt : l.stackTraces = false) (hsk : skOK sk) (w : Nat) (x1 x2 x3 x4 : Int32) (M : mM) {x : Option Int32 × mM} (hf : f_X11_rests w 0 x1 x2 x3 x4 M = some x) : vx_Met l yX11_rests (.code yX11_rests cX11_rests 7 (some .int) :: mT) (rmR 6) (rPc G sk [.ref (gB G + 0), .int x1, .int x2, .int x3, .int x4] M) (rQ G sk x) (rX G sk x) 1 6 (gA G) := by
  refine vx_ofW (cc := cX11_rests) (maxL := 7) (ret := some .int) (by decide) rfl ?_
  intro p e s m args below meth c s₁ B hml htab hv
  obtain ⟨rfl, ⟨hW, hK, hb, hz⟩, hx⟩ := hv
  have hts := atoms_spec (ws := .code yX11_rests cX11_rests 7 (some .int) :: mT) B.pre
  have hown' : s.vm.findClass RX11 = some m.cls := findClass_of_methodNamed B.named
  have hl := lv_entry [.ref (gB G + 0), .int x1, .int x2, .int x3, .int x4] (n := 7) (Nat.le_of_ble_eq_true rfl)
  rw [lg_entry_eq]
  intro T hT X
  exact vz_imp (fun t h => h ⟨hx, m, X.frames, B.named⟩) (s_X11_rests hlt w x1 x2 x3 x4 M p e s m _ below meth c s.heap [] _ x ⟨B.exec, B.bytes, hml, hown', fun w hw => hts w (List.mem_cons_of_mem _ hw), hK, B.notSynchronized, B.returns, hsk, hb, hz⟩ hf hW va_S.rf hl) T hT X
