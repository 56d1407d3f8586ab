/-! ===== SwollenHouseLaw.rests: the call, and the catch ===== -/
abbrev muL_rests : mU := (RL, cL_rests, 7, some .int)
abbrev hhL : List (Nat × Nat × Nat × Nat) := [(0, 14, 17, 13)]
theorem codL_rests : Cond.codeWith yL_rests cL_rests 7 (some .int) hhL ∈ mT := mT_at (w := Cond.codeWith yL_rests cL_rests 7 (some .int) hhL) 1219 (by decide +kernel) rfl
theorem clkL_13 : Cond.classLink RL 13 vzE ∈ mT := mT_at (w := Cond.classLink RL 13 vzE) 1220 (by decide +kernel) rfl
def rPw (G : mG) (s : State) (args : Array Value) (below : List Frame) : Prop := vzX G s ∧ ∃ m, s.frames = .invoking m args :: below ∧ s.methodNamed? yL_rests = some m
def finW (G : mG) : Int32 × mM → State → Array Value → List Frame → State → Prop := fun r s args below t => rPw G s args below → MQ below (mQ G skL (eI r)) args s 1 6 (gA G) t
section RW
variable {p : Program} {l : Launch} {e : Env} {R : Room} {s : State} {m : MethodId} {args : Array Value} {below : List Frame} {meth : Method} {c : Code} {H : Heap} {locs : List Loc} {kc ks : Nat} {Q : State → Prop} {pc : Nat} {ls : Array Slot} {rest st0 : List Value} {a : Array Value} {G : mG} {sk : List mS}
theorem vz_run {x : Option Int32 × mM} (hr : vx_Run p l e R s m args below meth c H locs kc ks 1 6 (F0 m pc ls st0) rest (rQ G sk x a) (rX G sk x) (gA G)) (hS : va_S (gA G) s.heap H locs)
    (kk : ∀ (v : Int32) (H1 : Heap) (locs1 : List Loc), x.1 = some v → Wd G sk x.2 H1 → va_S (gA G) s.heap H1 locs1 → W p l e R s m args below meth c H1 locs1 (kc + 1) (ks + 6) Q (F0 m (pc + 3) ls (.int v :: rest)))
    (kx : ∀ (q : Addr) (ce : Cell) (H1 : Heap) (locs1 : List Loc), x.1 = none → Wd G sk x.2 H1 → va_S (gA G) s.heap H1 locs1 → H1[q]? = some ce → ce.vm = .none → s.vm.findClass vzE = some ce.cls → vx_W p l e R s m args below meth c H1 locs1 (kc + 1) (ks + 6) Q (F0 m pc ls rest) q) : W p l e R s m args below meth c H locs kc ks Q (F0 m pc ls st0) := by
  intro T hT X
  rcases hr T hT X with ⟨v, st₀, t, T', L, h0, X', hL, e1, e2, ⟨v', hx, hv, hW, hF⟩, st⟩ | ⟨q, st₀, t, T', L, E, ce, h0, X', hL, e1, e2, ⟨hx, rfl, hW, hF⟩, hce, hcv, hcl, st⟩
  · cases hv
    obtain ⟨-, -, k3⟩ := vx_keep h0 e1 hS (fun _ _ h => h) (fun _ h => h) hL hF
    obtain ⟨t2, a1, b1⟩ := kk v' T'.heap (locs ++ L) hx (by rw [e1]; exact hW) k3 T' rfl X'
    exact ⟨t2, st t2 a1, b1⟩
  · obtain ⟨-, -, k3⟩ := vx_keep h0 e1 hS (fun _ _ h => h) (fun _ h => h) hL hF
    obtain ⟨t2, a1, b1⟩ := kx q ce T'.heap (locs ++ L) hx (by rw [e1]; exact hW) k3 (by rw [e1]; exact hce) hcv hcl T' rfl X'
    exact ⟨t2, st.trans a1, b1⟩
theorem vz_wrun {mc ms : Nat} {r : Option Value × mM} (hr : va_Run p l e R s m args below meth c H locs kc ks mc ms (F0 m pc ls st0) rest (mQ G sk r a) (gA G)) (hS : va_S (gA G) s.heap H locs)
    (kk : ∀ (H1 : Heap) (locs1 : List Loc), Wd G sk r.2 H1 → va_S (gA G) s.heap H1 locs1 → W p l e R s m args below meth c H1 locs1 (kc + mc) (ks + ms) Q (F0 m (pc + 3) ls (r.1.toList ++ rest))) : W p l e R s m args below meth c H locs kc ks Q (F0 m pc ls st0) := by
  intro T hT X
  obtain ⟨v, st₀, t, T', L, h0, X', hL, e1, e2, ⟨hv, hW, hF⟩, st⟩ := hr T hT X
  cases hv
  obtain ⟨-, -, k3⟩ := vx_keep h0 e1 hS (fun _ _ h => h) (fun _ h => h) hL hF
  obtain ⟨t2, a1, b1⟩ := kk T'.heap (locs ++ L) (by rw [e1]; exact hW) k3 T' rfl X'
  exact ⟨t2, st t2 a1, b1⟩
end RW
section RL2
variable {l : Launch} {G : mG} {pc : Nat} {lv : List (Nat × Value)} {M : mM}
theorem go_iretW {v : Int32} (hd : decode muL_rests.2.1 pc = .ok (.ireturn, 1)) : Go muL_rests (rmR 7) 1 6 l G skL (finW G) (some (v, M)) pc lv [.int v] M := by
  intro p e s m args below meth cd H locs ls x C hf hW hS hl
  cases hf
  refine vz_imp (fun t h _ => h) ?_
  exact W.iret C.1 C.2.1 C.2.2.2.2.2.2.2.1 (mQ_end (r := eI (v, M)) hW hS) hS.2.2 hd C.2.2.2.2.2.2.1
theorem go_outst {v : Int64} {f : Option (Int32 × mM)} (pc' : Nat) (hd : decode muL_rests.2.1 pc = .ok (.lastore, 1)) (hp : pc + 1 = pc') (kk : Go muL_rests (rmR 7) 1 6 l G skL (finW G) f pc' lv [] (wL M 185 0 v)) : Go muL_rests (rmR 7) 1 6 l G skL (finW G) f pc lv [.long v, .int 0, .ref (gB G + 185)] M := by
  subst hp
  intro p e s m args below meth cd H locs ls x C hf hW hS hl
  have hs' : skL[185]? = some (.inl (1, 1, [])) := by decide +kernel
  exact va_last (ws := mW G skL M) C.1 C.2.1 C.2.2.2.2.2.1.1 hW (mW_D G skL M) hS 185 1 (mW_get M hs') rfl (by unfold vp_in; decide) hd (fun H1 locs1 hP1 _ hS1 => kk p e s m args below meth cd H1 locs1 ls x C hf (by unfold Wd; rw [← mW_set hs' (show mE G (wL M 185 0 v) 185 (.inl (1, 1, [])) = .inl (G.2.1 1, 1, .inr (.inl (vp_updL (M.2 185) 0 v))) by show Sum.inl (_, _, Sum.inr (Sum.inl _)) = _; rw [wL_on]) wL_off]; exact hP1) hS1 hl)
set_option maxHeartbeats 4000000 in
theorem go_restsX (hlt : l.stackTraces = false) (w : Nat) (p0 p1 p2 p3 : Int32) {x : Option Int32 × mM} (hx : f_X11_rests w 0 p0 p1 p2 p3 M = some x) {f : Option (Int32 × mM)} (hd : decode muL_rests.2.1 9 = .ok (.invokevirtual 7, 3))
    (kr : ∀ v, x.1 = some v → Go muL_rests (rmR 7) 1 6 l G skL (finW G) f 12 lv [.int v, .int 0, .ref (gB G + 185)] x.2)
    (kx : x.1 = none → ∀ q : Nat, Go muL_rests (rmR 7) 1 6 l G skL (finW G) f 17 lv [.ref q] x.2) : Go muL_rests (rmR 7) 0 0 l G skL (finW G) f 9 lv [.int p3, .int p2, .int p1, .int p0, .ref (gB G + 0), .int 0, .ref (gB G + 185)] M := by
  intro p e s m args below meth cd H locs ls z C hf hW hS hl
  intro T hT X
  by_cases hP : rPw G s args below
  · obtain ⟨hvz, m', hfr, hn⟩ := id hP
    have em : m' = m := by
      have := hfr.symm.trans X.frames
      simp only [List.cons.injEq, Frame.invoking.injEq, and_true] at this
      exact this
    subst em
    have htab : cd.exceptionTable.toList = tableOf hhL := by
      obtain ⟨m9, meth9, c9, hn9, h1, h2, -, -, h6, -⟩ := Cond.codeWith_spec (C.2.2.2.2.1 _ codL_rests)
      cases Option.some.inj (hn9.symm.trans hn)
      cases Option.some.inj (h1.symm.trans X.method)
      cases Option.some.inj (h2.symm.trans X.code)
      rw [← h6, table_eq]
    obtain ⟨fs, hs⟩ := isK_obj isK0 clX11.2.2.2.2
    obtain ⟨c1, c2, c3, c4, c5, c6, c7⟩ := cwL_7
    have hs' := C.2.2.2.2.2.2.2.2.1.get hs
    have kp : ∀ q, q < gB G → H[q]? = G.2.2.1[q]? := fun q hq => by rw [hS.2.1 q (Nat.lt_of_lt_of_le hq C.2.2.2.2.2.2.2.2.2.2) (Nat.not_le.mpr hq)]; exact C.2.2.2.2.2.2.2.2.2.1 q hq
    refine vz_run (vx_runV (As := [.int p0, .int p1, .int p2, .int p3]) (rest := [.int 0, .ref (gB G + 185)]) (b := gB G + 0) (n := 4) ⟨C.1, C.2.1, C.2.2.1, C.2.2.2.1, C.2.2.2.2.1⟩ (m_X11_rests hlt C.2.2.2.2.2.2.2.2.1 w p0 p1 p2 p3 M hx) (cwV 4 C.2.2.2.2.1 (fun w hw => ?_) rfl rfl rfl c6 ⟨Nat.le_of_ble_eq_true rfl, Nat.le_of_ble_eq_true rfl⟩) ⟨rPc_blind _ _ _ _, va_recv (q := (_, TX11, 15)) C.2.2.2.2.2.1.1 hW clX11.1 (mW_get M hs'), fun U hU hWd => ⟨rfl, ⟨by rw [hU]; exact hW, C.2.2.2.2.2.1.moved hWd.alike, fun q hq => by rw [hU]; exact kp q hq, by rw [hU]; exact Nat.le_trans C.2.2.2.2.2.2.2.2.2.2 hS.1⟩, hvz.warm hWd⟩⟩ rfl rfl hl.1 rfl (Nat.le_of_ble_eq_true rfl) hd ⟨Nat.le_of_ble_eq_true rfl, Nat.le_of_ble_eq_true rfl⟩) hS
      (fun v H1 locs1 hv hW1 hS1 => kr v hv p e s _ args below meth cd H1 locs1 ls z C hf hW1 hS1 hl)
      (fun q ce H1 locs1 hv hW1 hS1 hce hcv hcl => vz_catch (own := RL) (name := vzE) (E := vzE) C.2.2.2.1 ⟨0, 14, 17, 13⟩ (by rw [htab]; rfl) (by decide) (by decide) (C.2.2.2.2.1 _ clkL_13) (va_tabs rfl rfl (hvz.2.2.2.2 _ List.mem_cons_self)) hce hcv hcl (kx hv q p e s _ args below meth cd H1 locs1 ls z C hf hW1 hS1 hl)) T hT X
    unfold wsV at hw
    rcases List.mem_append.mp hw with h | h
    · simp only [List.mem_cons, List.not_mem_nil, or_false] at h
      rcases h with rfl | rfl | rfl | rfl
      · exact mT_good _ c1
      · exact mT_good _ c2
      · exact mT_good _ c3
      · exact mT_good _ c4
    · exact mT_code c5 w h
  · exact ⟨_, Steps.refl _, fun h => absurd h hP⟩
end RL2
def fLR (x : Option Int32 × mM) : Int32 × mM := match x.1 with
  | some v => (0, wL x.2 185 0 v.toInt64)
  | none => (1, x.2)
theorem fLR_eq {w : Nat} {p0 p1 p2 p3 : Int32} {M : mM} {x : Option Int32 × mM} (hx : f_X11_rests w 0 p0 p1 p2 p3 M = some x) : f_L_rests w p0 p1 p2 p3 M = some (fLR x) := by
  unfold f_L_rests
  rw [hx]
  obtain ⟨o, N⟩ := x
  cases o <;> rfl
theorem fLR_of {w : Nat} {p0 p1 p2 p3 : Int32} {M : mM} {r : Int32 × mM} (h : f_L_rests w p0 p1 p2 p3 M = some r) : ∃ x, f_X11_rests w 0 p0 p1 p2 p3 M = some x ∧ fLR x = r := by
  cases hx : f_X11_rests w 0 p0 p1 p2 p3 M with
  | none => unfold f_L_rests at h; rw [hx] at h; cases h
  | some x => exact ⟨x, rfl, Option.some.inj ((fLR_eq hx).symm.trans h)⟩
theorem dL_rests_0 : decode cL_rests 0 = .ok (.aload 5, 2) := by decide +kernel
theorem dL_rests_2 : decode cL_rests 2 = .ok (.iconst 0, 1) := by decide +kernel
theorem dL_rests_3 : decode cL_rests 3 = .ok (.aload_n 0, 1) := by decide +kernel
theorem dL_rests_4 : decode cL_rests 4 = .ok (.iload_n 1, 1) := by decide +kernel
theorem dL_rests_5 : decode cL_rests 5 = .ok (.iload_n 2, 1) := by decide +kernel
theorem dL_rests_6 : decode cL_rests 6 = .ok (.iload_n 3, 1) := by decide +kernel
theorem dL_rests_7 : decode cL_rests 7 = .ok (.iload 4, 2) := by decide +kernel
theorem dL_rests_9 : decode cL_rests 9 = .ok (.invokevirtual 7, 3) := by decide +kernel
theorem dL_rests_12 : decode cL_rests 12 = .ok (.i2l, 1) := by decide +kernel
theorem dL_rests_13 : decode cL_rests 13 = .ok (.lastore, 1) := by decide +kernel
theorem dL_rests_14 : decode cL_rests 14 = .ok (.goto 7, 3) := by decide +kernel
theorem dL_rests_17 : decode cL_rests 17 = .ok (.astore 6, 2) := by decide +kernel
theorem dL_rests_19 : decode cL_rests 19 = .ok (.iconst 1, 1) := by decide +kernel
theorem dL_rests_20 : decode cL_rests 20 = .ok (.ireturn, 1) := by decide +kernel
theorem dL_rests_21 : decode cL_rests 21 = .ok (.iconst 0, 1) := by decide +kernel
theorem dL_rests_22 : decode cL_rests 22 = .ok (.ireturn, 1) := by decide +kernel
set_option maxHeartbeats 4000000 in
set_option maxRecDepth 100000 in
theorem s_L_rests {l : Launch} {G : mG} (hlt : l.stackTraces = false) (w : Nat) (p0 p1 p2 p3 : Int32) (M : mM) {x : Option Int32 × mM} (hx : f_X11_rests w 0 p0 p1 p2 p3 M = some x) : Go muL_rests (rmR 7) 0 0 l G skL (finW G) (some (fLR x)) 0 [(0, .ref (gB G + 0)), (1, .int p0), (2, .int p1), (3, .int p2), (4, .int p3), (5, .ref (gB G + 185))] [] M := by
  refine go_aload 5 2 dL_rests_0 rfl rfl ?_
  refine go_iconst 0 3 dL_rests_2 rfl (by decide) ?_
  refine go_aload_n 0 4 dL_rests_3 rfl rfl ?_
  refine go_iload_n 1 5 dL_rests_4 rfl rfl ?_
  refine go_iload_n 2 6 dL_rests_5 rfl rfl ?_
  refine go_iload_n 3 7 dL_rests_6 rfl rfl ?_
  refine go_iload 4 9 dL_rests_7 rfl rfl ?_
  refine go_restsX hlt w p0 p1 p2 p3 hx dL_rests_9 (fun v hv => ?_) (fun hv q => ?_)
  · have e : fLR x = (0, wL x.2 185 0 v.toInt64) := by unfold fLR; rw [hv]
    rw [e]
    refine go_i2l 13 dL_rests_12 rfl ?_
    refine go_outst 14 dL_rests_13 rfl ?_
    refine go_goto 21 dL_rests_14 (by decide) ?_
    refine go_iconst 0 22 dL_rests_21 rfl (by decide) ?_
    exact go_iretW dL_rests_22
  · have e : fLR x = (1, x.2) := by unfold fLR; rw [hv]
    rw [e]
    refine go_astore [(6, .ref q), (0, .ref (gB G + 0)), (1, .int p0), (2, .int p1), (3, .int p2), (4, .int p3), (5, .ref (gB G + 185))] 19 dL_rests_17 rfl (by decide) rfl ?_
    refine go_iconst 1 20 dL_rests_19 rfl (by decide) ?_
    exact go_iretW dL_rests_20
theorem m_L_rests {l : Launch} {G : mG} (hlt : l.stackTraces = false) (w : Nat) (p0 p1 p2 p3 : Int32) (M : mM) {x : Option Int32 × mM} (hx : f_X11_rests w 0 p0 p1 p2 p3 M = some x) : Met l yL_rests (.codeWith yL_rests cL_rests 7 (some .int) hhL :: mT) (rmR 7) (rPc G skL [.ref (gB G + 0), .int p0, .int p1, .int p2, .int p3, .ref (gB G + 185)] M) (mQ G skL (eI (fLR x))) 1 6 (gA G) := by
  refine va_MetW (cc := cL_rests) (maxL := 7) (ret := some .int) (hh := hhL) (by decide) rfl ?_
  intro p e s m args below meth c s₁ B hml hv
  obtain ⟨rfl, ⟨hW, hK, hb, hz⟩, hvz⟩ := hv
  have hts := atoms_spec (ws := .codeWith yL_rests cL_rests 7 (some .int) hhL :: mT) B.pre
  have hown' : s.vm.findClass RL = some m.cls := findClass_of_methodNamed B.named
  have hl := lv_entry [.ref (gB G + 0), .int p0, .int p1, .int p2, .int p3, .ref (gB G + 185)] (n := 7) (Nat.le_of_ble_eq_true rfl)
  rw [lg_entry_eq]
  intro T hT X
  exact vz_imp (fun t h => h ⟨hvz, m, X.frames, B.named⟩) (s_L_rests hlt w p0 p1 p2 p3 M hx p e s m _ below meth c s.heap [] _ (fLR x) ⟨B.exec, B.bytes, hml, hown', fun w hw => hts w (List.mem_cons_of_mem _ hw), hK, B.notSynchronized, B.returns, skL_ok, hb, hz⟩ rfl hW va_S.rf hl) T hT X
