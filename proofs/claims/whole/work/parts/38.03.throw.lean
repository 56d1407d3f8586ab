/-! ===== throw new NoSuchElementException(text): its first constructor's link is at 13 here (the bundle's is at 7); the rows follow the bundle's own ===== -/
abbrev vzE : String := "java/util/NoSuchElementException"
def vzB : ByteArray := ⟨#[0x2a, 0x2b, 0xb7, 0x00, 0x0d, 0xb1]⟩
theorem vzB_0 : decode vzB 0 = .ok (.aload_n 0, 1) := by decide +kernel
theorem vzB_1 : decode vzB 1 = .ok (.aload_n 1, 1) := by decide +kernel
theorem vzB_2 : decode vzB 2 = .ok (.invokespecial 13, 3) := by decide +kernel
theorem vzB_5 : decode vzB 5 = .ok (.return_, 1) := by decide +kernel
def vzP : List Cond := Bundle.passSAtoms vzE "java/lang/RuntimeException" 13 vzB
def vzK : List Cond := Bundle.chainSAtoms "java/lang/RuntimeException" ["java/lang/Exception"]
def vzR : List Cond := [.methodLink RX11 345 (Bundle.initS vzE), .instantiable vzE 6, .castable vzE vzE, .selects vzE Bundle.tFill0 Bundle.tFill0, .selects vzE Bundle.tFill Bundle.tFill,
   .lays vzE Bundle.tN "cause" "Ljava/lang/Throwable;", .lays vzE Bundle.tN "stackTrace" Bundle.steD, .lays vzE Bundle.tN "suppressedExceptions" Bundle.listD, .lays vzE Bundle.tN "detailMessage" "Ljava/lang/String;",
   .fieldLink Bundle.tN 198 Bundle.tN "backtrace" "Ljava/lang/Object;", .lays Bundle.tN Bundle.tN "backtrace" "Ljava/lang/Object;", .lays vzE Bundle.tN "backtrace" "Ljava/lang/Object;"]
def vzA : List Cond := Bundle.throwableAtoms ++ Bundle.throwableSAtoms ++ vzP ++ vzK ++ vzR
def vzW : List Cond := Cond.classLink RX11 341 vzE :: Cond.initialized vzE :: vzA.filter vx_no
theorem vzW_ot : ∀ w ∈ vzW, vx_ot w = true := by decide +kernel
def vzN : List Cond := [.castable vzE vzE, .declares (Bundle.initS "java/lang/RuntimeException"), .declares (Bundle.initS "java/lang/Exception"), .declares (Bundle.initS Bundle.tN)]
theorem vzW_sp : ∀ w ∈ vzW, w ∈ vzN ∨ goodWord w = true := by decide +kernel
theorem vzN_in : ∀ w ∈ vzN, w ∈ lw_tbl := by decide +kernel
theorem vzW_in : ∀ w ∈ vzW, w ∈ lw_tbl := by decide +kernel
section VZT
variable {p : Program} {l : Launch} {e : Env} {R : Room} {s : State} {m₀ : MethodId} {args : Array Value} {below : List Frame} {meth : Method} {c : Code} {W0 : State} {cells slots : Nat}
set_option maxHeartbeats 1000000 in
theorem vz_ctor (X : Stand p l e R s m₀ args below meth c W0 [] cells slots) (hexec : p.tables.exec = Jvm.exec) (htr : e.platform.stackTraces = false) (hown : s.vm.findClass RX11 = some m₀.cls)
    (h : ∀ a ∈ vzA, a.before args s = true) (hU : (Cond.isRef (.static Bundle.tN "UNASSIGNED_STACK" Bundle.steD)).before args s = true) (hN : (Cond.isRef (.static Bundle.tN "SUPPRESSED_SENTINEL" Bundle.listD)).before args s = true)
    {a : Addr} {cX : ClassId} {kX : Class} (hfoundX : s.vm.findClass vzE = some cX) (hkX : s.vm.classes[cX]? = some kX) (hcell : W0.heap[a]? = some (freshCell cX kX)) (hnew : s.heap.size ≤ a)
    {msg : Value} (hmsg : msg.isRef = true)
    {g : JFrame} (hg : g.method = m₀) (hsize : g.locals.size = c.maxLocals) (hlocked : g.locked = none) (hentered : g.entered = []) {rest : List Value} (hstack : g.stack = msg :: .ref a :: .ref a :: rest)
    (hd6 : decode c.code g.pc = .ok (.invokespecial 345, 3)) (hd9 : decode c.code (g.pc + 3) = .ok (.athrow, 1)) (hout : ∀ x ∈ c.exceptionTable.toList, covers x (g.pc + 3) = false)
    (hRframes : 5 < R.frames) (hRlocals : 2 * g.monitorRoom + ((Value.ref a :: rest).map fun v => v.category).sum + 81 ≤ R.locals) (hlocks : meth.locks = false) :
    ∃ U : State, Steps p.tables e below (W0.setTop g) U ∧ U.status = .running ∧ Ended U below (.threw a) ∧ s.WarmedH U.vm ∧ s.sameButNew ({ U with vm := s.vm } : State) [] cells slots ∧
      ∃ ce, U.heap[a]? = some ce ∧ s.vm.findClass vzE = some ce.cls ∧ ce.vm = .none := by
  have howns : e.platform.frameOwnsMonitors = true := by rw [X.admits.platform]
  have hfin : e.platform.finalization = false := by rw [X.admits.platform]
  have hpl : e.platform.magicAccessors = ({} : Platform).magicAccessors := by rw [X.admits.platform]
  have inT : ∀ x, x ∈ Bundle.throwableAtoms → x.before args s = true := fun x hx => h x (by simp [vzA, hx])
  have inS : ∀ x, x ∈ Bundle.throwableSAtoms → x.before args s = true := fun x hx => h x (by simp [vzA, hx])
  have inP : ∀ x, x ∈ vzP → x.before args s = true := fun x hx => h x (by simp [vzA, hx])
  have inK : ∀ x, x ∈ vzK → x.before args s = true := fun x hx => h x (by simp [vzA, hx])
  have inR : ∀ x, x ∈ vzR → x.holds args s none s [] = true := fun x hx => h x (by simp [vzA, hx])
  obtain ⟨T, Z0, L, -, Y⟩ := ThrowableC.of_atoms (args := args) howns hfin hpl inT
  obtain ⟨Z, M, LZ, LM, hnZ⟩ := Init0T.ofS_atoms (args := args) hpl L Y inS
  obtain ⟨P1, L1, hP1m, hsup⟩ := PassC.ofS_atoms (args := args) (s := s) hpl (X := vzE) (Y := "java/lang/RuntimeException") (index := 13) (bytes := vzB) (by decide) (by decide) vzB_0 vzB_1 vzB_2 vzB_5 inP
  obtain ⟨P2, Ps, hlen, L2, hL, hP2m, hlink2, hlink⟩ := Bundle.chainS (args := args) hpl hnZ ["java/lang/Exception"] "java/lang/RuntimeException" (by decide) (by decide) inK
  have hlen : Ps.length = 1 := hlen
  have hfound : s.vm.findClass vzE = some P1.m.cls := findClass_of_methodNamed hP1m
  cases Option.some.inj (hfoundX.symm.trans hfound)
  obtain ⟨c1, kX', hc1, hk, hord, -, -, hn6⟩ := Cond.instantiable_spec (inR (.instantiable vzE 6) (by simp [vzR]))
  cases Option.some.inj (hc1.symm.trans hfound)
  cases Option.some.inj (hkX.symm.trans hk)
  have hsel0 : selectMethod e.platform s.vm P1.m.cls T.fill0 = .method T.fill0 := by
    obtain ⟨c2, r2, m2, q1, q2, q3, q4, -⟩ := Cond.selects_spec (inR (.selects vzE Bundle.tFill0 Bundle.tFill0) (by simp [vzR]))
    cases Option.some.inj (q1.symm.trans hfound)
    cases Option.some.inj (q2.symm.trans (State.methodFound?_of_named Y.fill0 (by decide)))
    cases Option.some.inj (q3.symm.trans Y.fill0)
    rw [Launch.admits_selectMethod X.admits]; exact q4
  have hselF : selectMethod e.platform s.vm P1.m.cls T.fill = .method T.fill := by
    obtain ⟨c2, r2, m2, q1, q2, q3, q4, -⟩ := Cond.selects_spec (inR (.selects vzE Bundle.tFill Bundle.tFill) (by simp [vzR]))
    cases Option.some.inj (q1.symm.trans hfound)
    cases Option.some.inj (q2.symm.trans (State.methodFound?_of_named Y.fill (by decide)))
    cases Option.some.inj (q3.symm.trans Y.fill)
    rw [Launch.admits_selectMethod X.admits]; exact q4
  obtain ⟨cellS0, hcS0, hiss⟩ := Y.statics
  obtain ⟨u0, hu0⟩ := Cond.staticRefV Y.unassigned L.unassignedStatic L.statics hcS0 hiss hU
  obtain ⟨sen, hsen⟩ := Cond.staticRefV Y.sentinel L.sentinelStatic L.statics hcS0 hiss hN
  obtain ⟨ci198, i198, fB, hk198, hg198, ha198, hsB, -, hnB, htB, hffB⟩ := Cond.ownField (t := .object "java/lang/Object") Y.found L.cls (by decide +kernel) (inR (.fieldLink Bundle.tN 198 Bundle.tN "backtrace" "Ljava/lang/Object;") (by simp [vzR])) (inR (.lays Bundle.tN Bundle.tN "backtrace" "Ljava/lang/Object;") (by simp [vzR])) e.platform hpl
  obtain ⟨cellS, hcS', heS, -, hkeep⟩ := X.same.2.2.2.2.2 T.aS cellS0 hcS0
  have hcellS : W0.heap[T.aS]? = some cellS := hcS'
  have hknownS : cellS.vm ≠ .unknown := by
    rw [heS]; intro hu
    rw [show cellS0.vm = .unknown from hu] at hiss
    cases hiss
  have hneS : T.aS ≠ a := Nat.ne_of_lt (Nat.lt_of_lt_of_le (Array.getElem?_eq_some_iff.mp hcS0).1 hnew)
  obtain ⟨iM, hffM⟩ := Y.msg
  obtain ⟨tyC, dC, hdC, hdnC⟩ := Cond.laysAt hfound hk Y.cause (inR (.lays vzE Bundle.tN "cause" "Ljava/lang/Throwable;") (by simp [vzR]))
  obtain ⟨tyS, dS, hdS, hdnS⟩ := Cond.laysAt hfound hk Y.stack (inR (.lays vzE Bundle.tN "stackTrace" Bundle.steD) (by simp [vzR]))
  obtain ⟨tyP, dP, hdP, hdnP⟩ := Cond.laysAt hfound hk Y.supp (inR (.lays vzE Bundle.tN "suppressedExceptions" Bundle.listD) (by simp [vzR]))
  obtain ⟨tyM, dM, hdM, hdnM⟩ := Cond.laysAt hfound hk hffM (inR (.lays vzE Bundle.tN "detailMessage" "Ljava/lang/String;") (by simp [vzR]))
  obtain ⟨tyB, dB, hdB, hdnB⟩ := Cond.laysAt hfound hk hffB (inR (.lays vzE Bundle.tN "backtrace" "Ljava/lang/Object;") (by simp [vzR]))
  have bC := Cond.laysApart hdB hdC hdnB hdnC (by rw [hnB, Y.causeName]; decide)
  have bS := Cond.laysApart hdB hdS hdnB hdnS (by rw [hnB, Y.stackName]; decide)
  have bP := Cond.laysApart hdB hdP hdnB hdnP (by rw [hnB, Y.suppName]; decide)
  have hskip : SkipFacts T e.platform s (fun u => u) u0 ((preparedCellV T.toThrowableT (freshCell P1.m.cls kX) a u0 sen).withEntry W0.cur) :=
    ⟨{ ci198 := ci198, i198 := i198, fBack := fB }, ⟨hk198, hg198, ha198, hsB⟩, by
      have := fresh_default (c := P1.m.cls) tyB
      rw [htB] at this
      simpa [preparedCellV, Cell.setSlot, Cell.withEntry, Array.getElem?_setIfInBounds, bC, bS, bP, bC.symm, bS.symm, bP.symm, defaultValue] using this, fun _ _ => rfl⟩
  obtain ⟨tm, methC, cdC, kC, vm₁, hnC, -, -, -, -, -, -, -, hW₁, st1⟩ := Steps.initColdS (tb := p.tables) (e := e) (below := below) (s := s) (U := W0) X.here hexec X.warmed hpl hown (t := Bundle.initS vzE) rfl rfl (by decide)
    (inR (.methodLink RX11 345 (Bundle.initS vzE)) (by simp [vzR])) (inP (.instanceMethod (Bundle.initS vzE)) (by simp [vzP, Bundle.passSAtoms])) (bytes := vzB) (maxL := 2) (inP (.code (Bundle.initS vzE) vzB 2 none) (by simp [vzP, Bundle.passSAtoms]))
    (f := g) hg (a := a) (msg := msg) (rest := .ref a :: rest) hstack hd6
  cases Option.some.inj (hnC.symm.trans hP1m)
  have X₁ := X.noted hW₁
  have hlink1 : P1.sup = firstOf (Z.m T.toThrowableT) ((P2 :: Ps).map (·.toPassT)) := Option.some.inj (hsup.symm.trans hP2m)
  obtain ⟨vm₂, X₂, st2⟩ := X₁.ctorMessageOffV hexec (g := { g with stack := .ref a :: rest }) hg hsize T L Z LZ M LM (P1 :: P2 :: Ps)
    (fun P hP => by
      rcases List.mem_cons.mp hP with rfl | hP
      · exact L1
      · rcases List.mem_cons.mp hP with rfl | hP
        · exact L2
        · exact hL P hP) ⟨hlink1, hlink2, hlink⟩ (u0 := u0) (sen := sen) (self := a) hmsg (cell := freshCell P1.m.cls kX) (cellS := cellS)
    hcell (fun _ => by simp) (by simp) rfl rfl hsel0 hselF hcellS hneS hknownS (by rw [hkeep _ (by simp)]; exact hu0) (by rw [hkeep _ (by simp)]; exact hsen)
    (Takes.of_laid hk hord tyC (by rw [Y.causeType]; rfl)) (Takes.of_laid hk hord tyS (by rw [Y.stackType]; exact fits_refV_array _ u0)) (Takes.of_laid hk hord tyP (by rw [Y.suppType]; exact fits_refV_object _ sen))
    (Takes.of_laid hk hord tyM (by rw [Y.msgType]; exact fits_refV_object _ ⟨msg, hmsg⟩)) Y.objLocals hskip htr [] hd6
    (by simp only [List.length_cons, hlen]; omega) (by simp only [List.length_cons, hlen]; omega)
  obtain ⟨hwalk, hrun, hended, hWU, hsame⟩ := X₂.athrowLeaves hexec (g := { g with stack := .ref a :: rest, pc := g.pc + 3 }) hg hlocked hentered hout (a := a) (rest := rest) rfl hd9
  have hlt : a < ((W0.setVm vm₁).setVm vm₂).heap.size := (Array.getElem?_eq_some_iff.mp hcell).1
  have hU := heapAt_setCell_self (s := (W0.setVm vm₁).setVm vm₂) (plainBareV T.toThrowableT (freshCell P1.m.cls kX) a u0 sen msg) hlt
  refine ⟨_, st1 _ (fun acts => ?_), hrun, hended, hWU, hsame.weaken (fun y hy hlt' => ?_) (Nat.le_refl _) (Nat.le_refl _), _, hU, hfound, rfl⟩
  · rw [doInvoke_state]
    exact st2 _ hwalk
  · rcases List.mem_append.mp hy with h1 | h1
    · exact h1
    · exfalso
      have hb : y.base = a := by
        simp only [List.mem_cons, List.not_mem_nil, or_false] at h1
        rcases h1 with rfl | rfl | rfl | rfl | rfl <;> rfl
      rw [hb] at hlt'
      exact Nat.not_lt.mpr hnew hlt'
end VZT
