/-! ===== the making of the objects: the list of shapes grows ===== -/
def nestL : List (String × Nat × MethodName × String) := [(RX11, 9, yX6_init, RX11), (RX6, 39, yX3_init, RX11), (RX11, 21, yX10_init, RX11), (RX11, 67, yX8_init, RX11), (RX4, 9, yX8_init, RX11)]
def nX (U : State) : Prop := va_AO RX9 U ∧ va_AO RX4 U ∧ ∀ q ∈ nestL, va_Nw (.methodLinkNest q.1 q.2.1 q.2.2.1 q.2.2.2) U
theorem nX.warm {s U : State} (hW : s.WarmedH U.vm) (h : nX s) : nX U := ⟨h.1.moved hW.alike, h.2.1.moved hW.alike, fun q hq => (h.2.2 q hq).warmM hW⟩
theorem nX.same {s U : State} (hv : s.vm = U.vm) (h : nX s) : nX U := ⟨h.1.moved (by rw [hv]; exact Vm.Alike.refl _), h.2.1.moved (by rw [hv]; exact Vm.Alike.refl _), fun q hq => (h.2.2 q hq).same rfl hv⟩
def nCx (ini : Bool) (μ : mU) (G : mG) (p : Program) (s : State) (m : MethodId) (args : Array Value) (meth : Method) (c : Code) : Prop :=
  p.tables.exec = Jvm.exec ∧ c.code = μ.2.1 ∧ c.maxLocals = μ.2.2.1 ∧ s.vm.findClass μ.1 = some m.cls ∧ (∀ w ∈ mT, w.before args s = true) ∧ gK G s ∧ meth.locks = false ∧ meth.sig.returnType = μ.2.2.2 ∧ (∀ q, q < gB G → s.heap[q]? = G.2.2.1[q]?) ∧ gB G ≤ s.heap.size ∧ nX s ∧ (ini = true → meth.name = "<init>")
def GoC {α : Type} (ini : Bool) (μ : mU) (R : Room) (kc ks : Nat) (l : Launch) (G : mG) (fin : α → State → Array Value → List Frame → State → Prop) (f : Option α) (pc : Nat) (lv : List (Nat × Value)) (st : List Value) (sk : List mS) (M : mM) : Prop :=
  ∀ (p : Program) (e : Env) (s : State) (m : MethodId) (args : Array Value) (below : List Frame) (meth : Method) (c : Code) (H : Heap) (locs : List Loc) (ls : Array Slot) (x : α),
    nCx ini μ G p s m args meth c → f = some x → Wd G sk M H → s.heap.size + kc = gB G + sk.length → va_S (gA G) s.heap H locs → lv_has ls μ.2.2.1 lv → W p l e R s m args below meth c H locs kc ks (fin x s args below) (F0 m pc ls st)
def szS (sh : mS) : Nat := match sh with
  | .inl q => q.2.1
  | .inr q => q.2.length
def dk (t : Nat) : Option Nat ⊕ Bool := match t with
  | 1 => .inr true
  | 2 => .inl none
  | _ => .inr false
def frS (c : Nat) : mS := .inr (c, ((fkd[c]?).getD []).map dk)
def mZ0 (M : mM) (n : Nat) : Prop := M.1 n = (fun _ => 0) ∧ M.2 n = (fun _ => 0)
/-- a fresh cell behind the rest -/
theorem mW_app {G : mG} {sk : List mS} {M : mM} {sh : mS} : mW G (sk ++ [sh]) M = mW G sk M ++ [(gB G + sk.length, mE G M sk.length sh)] := by
  unfold mW
  rw [List.mapIdx_append]
  simp
theorem W.bound {p : Program} {l : Launch} {e : Env} {R : Room} {s : State} {m : MethodId} {args : Array Value} {below : List Frame} {meth : Method} {c : Code} {H : Heap} {locs : List Loc} {cells slots : Nat} {Q : State → Prop} {g : JFrame} (k : H.size ≤ s.heap.size + cells → W p l e R s m args below meth c H locs cells slots Q g) : W p l e R s m args below meth c H locs cells slots Q g := fun T hT X => k (by rw [← hT]; exact X.same.2.2.1) T hT X
theorem wd_size {G : mG} {sk : List mS} {M : mM} {H : Heap} (hW : Wd G sk M H) (h : gB G ≤ H.size) : gB G + sk.length ≤ H.size := by
  rcases Nat.eq_zero_or_pos sk.length with h0 | h0
  · omega
  · have h1 : sk.length - 1 < sk.length := by omega
    have := (hW (sk.length - 1) _ (mW_get M (List.getElem?_eq_getElem h1))).lt
    simp only at this
    omega
section GOC
variable {α : Type} {ini : Bool} {μ : mU} {R : Room} {kc ks : Nat} {l : Launch} {G : mG} {sk : List mS} {fin : α → State → Array Value → List Frame → State → Prop} {f : Option α} {pc : Nat} {lv : List (Nat × Value)} {st : List Value} {M : mM}
theorem wd_app {H H1 : Heap} {sh : mS} (hW : Wd G sk M H) (hz : H.size = gB G + sk.length) (o1 : ∀ q, q < H.size → H1[q]? = H[q]?) (ha : va_at G.1 vwCl (gB G + sk.length, mE G M sk.length sh) H1) : Wd G (sk ++ [sh]) M H1 := by
  unfold Wd
  rw [mW_app]
  refine va_P.app (hW.kept fun k x hx => o1 x.1 ((hW k x hx).lt)) (fun k x hx => ?_)
  have hz : k < 1 := (List.getElem?_eq_some_iff.mp hx).1
  rw [show k = 0 by omega] at hx
  cases hx
  exact ha
theorem vs_app {s : State} {H H1 : Heap} {locs : List Loc} (hS : va_S (gA G) s.heap H locs) (h1 : H.size ≤ H1.size) (o1 : ∀ q, q < H.size → H1[q]? = H[q]?) : va_S (gA G) s.heap H1 locs := ⟨Nat.le_trans hS.1 h1, fun x g1 g2 => (o1 x (Nat.lt_of_lt_of_le g1 hS.1)).trans (hS.2.1 x g1 g2), hS.2.2⟩
theorem aC_of {s : State} (hK : gK G s) {kd : Nat} {ty : FieldType} (ht : (gT G)[kd]? = some (G.2.1 kd, ty)) (hkd : ty = .int ∨ ty = .long ∨ ty = .boolean ∨ ty = .byte) {cA : ClassId} (hN : s.vm.findClass ("[" ++ ty.toString) = some cA) : cA = G.2.1 kd := by
  have h := (hK.1.2 kd _ ht).2
  rcases hkd with rfl | rfl | rfl | rfl <;> exact Option.some.inj (hN.symm.trans h)
theorem goC_newa {kd : Nat} (sh : mS) {atype : ArrayType} {ty : FieldType} (hty : newarray.typeOf atype = ty) (ht : (gT G)[kd]? = some (G.2.1 kd, ty)) (hkd : ty = .int ∨ ty = .long ∨ ty = .boolean ∨ ty = .byte) (harr : Cond.arrayClass ty ∈ mT) {n : Int32} {N : Nat} (hs : sh = .inl (kd, N, [])) (he : ∀ (cA : ClassId), cA = G.2.1 kd → mZ0 M sk.length → ∃ a0, mE G M sk.length sh = .inl (cA, a0) ∧ vp_cell cA a0 = arrV cA N (fun _ => defaultValue ty)) (hz : mZ0 M sk.length) (hn : ¬ n < 0) (hN : n.toNatClampNeg = N) (hb : N * componentBytes ty ≤ 536870912) (h1 : kc + 1 ≤ R.cells) (h2 : ks + N ≤ R.slots) (pc' : Nat) (hd : decode μ.2.1 pc = .ok (.newarray atype, 2)) (hp : pc + 2 = pc') (k : GoC ini μ R (kc + 1) (ks + N) l G fin f pc' lv (.ref (gB G + sk.length) :: st) (sk ++ [sh]) M) : GoC ini μ R kc ks l G fin f pc lv (.int n :: st) sk M := by
  subst hp; subst hty
  intro p e s m args below meth c H locs ls x C hf hW hH hS hl
  refine W.bound fun hbd => ?_
  have hE := hH
  have hH : H.size = gB G + sk.length := by have := wd_size hW (Nat.le_trans C.2.2.2.2.2.2.2.2.2.1 hS.1); omega
  refine va_newaK C.1 C.2.1 (C.2.2.2.2.1 _ harr) (g := F0 m pc ls (.int n :: st)) rfl hd rfl hn hN hb h1 h2 hH fun H1 cA e1 z1 o1 hAr hNm => ?_
  have hc := aC_of C.2.2.2.2.2.1 ht hkd hNm
  obtain ⟨a0, g1, g2⟩ := he cA hc hz
  refine k p e s m args below meth c H1 locs ls x C hf (wd_app hW hH (by rw [hH]; exact o1) ?_) (by simp; omega) (vs_app hS (by omega) (by rw [hH]; exact o1)) hl
  rw [g1]
  show H1[gB G + sk.length]? = some (vp_cell cA a0)
  rw [g2]; exact e1
theorem he_int {n : Nat} {kd N : Nat} (h : kd = 0 ∨ kd = 2 ∨ kd = 3) {ty : FieldType} (hd : defaultValue ty = .int 0) : ∀ (cA : ClassId), cA = G.2.1 kd → mZ0 M n → ∃ a0, mE G M n (.inl (kd, N, [])) = .inl (cA, a0) ∧ vp_cell cA a0 = arrV cA N (fun _ => defaultValue ty) := by
  intro cA hc hz
  refine ⟨(N, .inl (M.1 n)), ?_, ?_⟩
  · rcases h with rfl | rfl | rfl <;> rw [hc] <;> rfl
  · rw [vp_cell_i, hz.1, hd]
theorem he_long {n : Nat} {N : Nat} : ∀ (cA : ClassId), cA = G.2.1 1 → mZ0 M n → ∃ a0, mE G M n (.inl (1, N, [])) = .inl (cA, a0) ∧ vp_cell cA a0 = arrV cA N (fun _ => defaultValue .long) := by
  intro cA hc hz
  refine ⟨(N, .inr (.inl (M.2 n))), ?_, ?_⟩
  · rw [hc]; rfl
  · rw [vp_cell_l, hz.2]; rfl
theorem goC_newq {kd : Nat} {Cn : String} {idx : Nat} (hao : ∀ s : State, nX s → va_AO Cn s) (ht : (gT G)[kd]? = some (G.2.1 kd, .object Cn)) (hkd : kd = 4 ∨ kd = 5) (hcl : Cond.classLink μ.1 idx Cn ∈ mT) {n : Int32} {N : Nat} (hn : ¬ n < 0) (hN : n.toNatClampNeg = N) (hb : N * 4 ≤ 536870912) (h1 : kc + 1 ≤ R.cells) (h2 : ks + N ≤ R.slots) (pc' : Nat) (hd : decode μ.2.1 pc = .ok (.anewarray idx, 3)) (hp : pc + 3 = pc') (k : GoC ini μ R (kc + 1) (ks + N) l G fin f pc' lv (.ref (gB G + sk.length) :: st) (sk ++ [.inl (kd, N, List.replicate N none)]) M) : GoC ini μ R kc ks l G fin f pc lv (.int n :: st) sk M := by
  subst hp; subst hN
  intro p e s m args below meth c H locs ls x C hf hW hH hS hl
  refine W.bound fun hbd => ?_
  have hE := hH
  have hH : H.size = gB G + sk.length := by have := wd_size hW (Nat.le_trans C.2.2.2.2.2.2.2.2.2.1 hS.1); omega
  refine W.anew C.1 C.2.1 C.2.2.2.1 (C.2.2.2.2.1 _ hcl) (va_AO.use (hao s C.2.2.2.2.2.2.2.2.2.2.1)) (g := F0 m pc ls (.int n :: st)) rfl hd rfl hn hb h1 h2 fun cA kA comp f1 f2 f3 f4 => ?_
  generalize hH1 : H.push ({ cls := cA, slots := Array.replicate n.toNatClampNeg .null, vm := .none } : Cell) = H1
  have z1 : H1.size = H.size + 1 := by rw [← hH1, Array.size_push]
  have e1 : H1[H.size]? = some (arrV cA n.toNatClampNeg (fun _ => .null)) := by rw [← hH1, Array.getElem?_push_size, ← arrV_new]
  have o1 : ∀ q, q < H.size → H1[q]? = H[q]? := fun q hq => by rw [← hH1, Array.getElem?_push, if_neg (Nat.ne_of_lt hq)]
  have hRA : va_RA s (G.2.1 kd) (.object Cn) := (C.2.2.2.2.2.1.1.2 kd _ ht).2
  have hc : cA = G.2.1 kd := by
    obtain ⟨_, _, _, _, _, h4⟩ := hRA
    exact Option.some.inj (f1.symm.trans h4)
  rw [hH]
  refine k p e s m args below meth c H1 locs ls x C hf (wd_app hW hH o1 ?_) (by simp; omega) (vs_app hS (by omega) o1) hl
  rw [hH] at e1
  have key : mE G M sk.length (.inl (kd, n.toNatClampNeg, List.replicate n.toNatClampNeg none)) = .inl (cA, n.toNatClampNeg, .inr (.inr (.inr (.inr (fun j => ((List.replicate n.toNatClampNeg (none : Option Nat)).getD j none).map (fun z => gB G + z)))))) := by
    rcases hkd with rfl | rfl <;> rw [hc] <;> rfl
  rw [key]
  show H1[gB G + sk.length]? = some (vp_cell cA _)
  rw [e1, vp_cell_q]
  congr 2
  funext j
  have : (List.replicate n.toNatClampNeg (none : Option Nat)).getD j none = none := by
    rw [List.getD_eq_getElem?_getD, List.getElem?_replicate]
    split <;> rfl
  rw [this]; rfl
theorem goC_new {c idx N : Nat} {Cn : String} {T : u_T} {ty : Nat → FieldType} (K : mCl c Cn T N ty) (hdf : ∀ j, j < N → ∃ t, fK c j = some t ∧ defaultValue (ty j) = (match t with | 1 => .long 0 | 2 => .null | _ => .int 0)) (hlen : ((fkd[c]?).getD []).length = N) (hcl : Cond.classLink μ.1 idx Cn ∈ mT) (hins : Cond.instantiable Cn N ∈ mT) (hini : Cond.initialized Cn ∈ mT) (hz : mZ0 M sk.length) (h1 : kc + 1 ≤ R.cells) (h2 : ks + N ≤ R.slots) (pc' : Nat) (hd : decode μ.2.1 pc = .ok (.new idx, 3)) (hp : pc + 3 = pc') (k : GoC ini μ R (kc + 1) (ks + N) l G fin f pc' lv (.ref (gB G + sk.length) :: st) (sk ++ [frS c]) M) : GoC ini μ R kc ks l G fin f pc lv st sk M := by
  subst hp
  intro p e s m args below meth cd H locs ls x C hf hW hH hS hl
  have hKn := C.2.2.2.2.2.1.1.1 c _ K.1
  refine W.bound fun hbd => ?_
  have hE := hH
  have hH : H.size = gB G + sk.length := by have := wd_size hW (Nat.le_trans C.2.2.2.2.2.2.2.2.2.1 hS.1); omega
  refine W.newcK C.1 C.2.1 C.2.2.2.1 (C.2.2.2.2.1 _ hcl) (C.2.2.2.2.1 _ hins) (C.2.2.2.2.1 _ hini) (g := F0 m pc ls st) rfl hd h1 h2 hKn.2.1 hH fun H1 kC hkC e1 z1 o1 => ?_
  refine k p e s m args below meth cd H1 locs ls x C hf (wd_app hW hH (by rw [hH]; exact o1) ?_) (by simp; omega) (vs_app hS (by omega) (by rw [hH]; exact o1)) hl
  refine ⟨_, K.1, (u_born ty C.2.2.2.2.1 K.2.1 hKn hkC e1 K.2.2.1).to fun j hj => ?_⟩
  obtain ⟨t, q1, q2⟩ := hdf j hj
  rw [q2]
  have q3 : ((fkd[c]?).getD [])[j]? = some t := by
    unfold fK at q1
    cases hq : fkd[c]? with
    | none => rw [hq] at q1; cases q1
    | some ks => rw [hq] at q1; exact q1
  show _ = ((((fkd[c]?).getD []).map dk).mapIdx (mF G M sk.length)).getD j .null
  rw [List.getD_eq_getElem?_getD, List.getElem?_mapIdx, List.getElem?_map, q3]
  match t with
  | 0 => show Value.int 0 = Value.int (M.1 sk.length j); rw [hz.1]
  | 1 => show Value.long 0 = Value.long (M.2 sk.length j); rw [hz.2]
  | 2 => rfl
  | n + 3 => show Value.int 0 = Value.int (M.1 sk.length j); rw [hz.1]
def pRc (sk : List mS) (o c k r : Nat) (K : List mS → Option α) : Option α := match sk[o]? with
  | some (.inr q) => if q.1 = c ∧ k < q.2.length then K (sk.set o (.inr (c, q.2.set k (.inl (some r))))) else none
  | _ => none
def gRc (sk : List mS) (o c k : Nat) (K : Nat → Option α) : Option α := match sk[o]? with
  | some (.inr q) => if q.1 = c then (match q.2[k]? with
    | some (.inl (some r)) => K r
    | _ => none) else none
  | _ => none
theorem mW_setS {o : Nat} {sh : mS} (h : o < sk.length) : mW G (sk.set o sh) M = (mW G sk M).set o (gB G + o, mE G M o sh) := by
  apply List.ext_getElem?
  intro i
  by_cases hi : i = o
  · subst hi
    rw [mW_get M (List.getElem?_set_self h), List.getElem?_set_self (by simpa [mW] using h)]
  · rw [List.getElem?_set_ne (Ne.symm hi)]
    simp only [mW, List.getElem?_mapIdx]
    rw [List.getElem?_set_ne (Ne.symm hi)]
theorem goC_putF {idx c N k o r : Nat} {Cn : String} {T : u_T} {ty : Nat → FieldType} {K : List mS → Option α} (F : mFl μ.1 idx c Cn T N ty k 2) (hi : ini = true) (hown : Cn = μ.1) (hfn : (T k).2.2.2 = true) (hfit : ∀ a, fits (ty k) (.ref a) = true) (hnar : ∀ a, narrow (ty k) (.ref a) = .ref a) (pc' : Nat) (hd : decode μ.2.1 pc = .ok (.putfield idx, 3)) (hp : pc + 3 = pc') (kk : ∀ fs, sk[o]? = some (.inr (c, fs)) → GoC ini μ R kc ks l G fin (K (sk.set o (.inr (c, fs.set k (.inl (some r)))))) pc' lv st (sk.set o (.inr (c, fs.set k (.inl (some r))))) M) : GoC ini μ R kc ks l G fin (pRc sk o c k r K) pc lv (.ref (gB G + r) :: .ref (gB G + o) :: st) sk M := by
  subst hp
  intro p e s m args below meth cd H locs ls x C hf hW hH hS hl
  unfold pRc at hf
  split at hf
  · rename_i q hq
    split at hf
    · rename_i hqc
      obtain ⟨c', fs⟩ := q
      obtain ⟨rfl, hlt⟩ := hqc
      obtain ⟨⟨h1, h2, h3, h4, h5⟩, g1, g2, g3, g4⟩ := F
      refine va_putF (ws := mW G sk M) C.1 C.2.1 C.2.2.2.2.1 h2 ty h3 h4 C.2.2.2.1 C.2.2.2.2.2.1.1 hW (mW_D G sk M) hS o (fs := fs.mapIdx (mF G M o)) (mW_get M hq) h1 k g1 (C.2.2.2.2.1 _ g2) (by rw [g3]; exact fun _ h => h) hfn (C.2.2.2.2.2.2.2.2.2.2.2 hi) (g3.trans hown) (ty := ty k) (v := .ref (gB G + r)) (h3 k g1) (hnar _) (hfit _) (by simpa using hlt) hd (fun H1 locs1 hP1 hD1 hS1 => ?_)
      refine kk fs hq p e s m args below meth cd H1 locs1 ls x C hf ?_ (by simpa using hH) hS1 hl
      unfold Wd
      rw [mW_setS (List.getElem?_eq_some_iff.mp hq).1]
      have e1 : mE G M o (.inr (c', fs.set k (.inl (some r)))) = .inr (c', (fs.mapIdx (mF G M o)).set k (.ref (gB G + r))) := by
        show Sum.inr (c', _) = _
        congr 2
        apply List.ext_getElem?
        intro i
        by_cases hik : i = k
        · subst hik
          rw [List.getElem?_mapIdx, List.getElem?_set_self hlt, List.getElem?_set_self (by simpa using hlt)]; rfl
        · rw [List.getElem?_mapIdx, List.getElem?_set_ne (Ne.symm hik), List.getElem?_set_ne (Ne.symm hik), List.getElem?_mapIdx]
      rw [e1]; exact hP1
    · cases hf
  · cases hf
theorem goC_getR {idx c N k o : Nat} {Cn : String} {T : u_T} {ty : Nat → FieldType} {K : Nat → Option α} (F : mFl μ.1 idx c Cn T N ty k 2) (pc' : Nat) (hd : decode μ.2.1 pc = .ok (.getfield idx, 3)) (hp : pc + 3 = pc') (kk : ∀ r, GoC ini μ R kc ks l G fin (K r) pc' lv (.ref (gB G + r) :: st) sk M) : GoC ini μ R kc ks l G fin (gRc sk o c k K) pc lv (.ref (gB G + o) :: st) sk M := by
  subst hp
  intro p e s m args below meth cd H locs ls x C hf hW hH hS hl
  unfold gRc at hf
  split at hf
  · rename_i q hq
    split at hf
    · rename_i hqc
      split at hf
      · rename_i r hr
        obtain ⟨c', fs⟩ := q
        have hqc : c' = c := hqc
        subst hqc
        obtain ⟨⟨h1, h2, h3, h4, h5⟩, g1, g2, g3, g4⟩ := F
        exact va_get (ws := mW G sk M) C.1 C.2.1 C.2.2.2.2.1 h2 C.2.2.2.1 C.2.2.2.2.2.1.1 hW o (fs := fs.mapIdx (mF G M o)) (mW_get M hq) h1 k g1 (C.2.2.2.2.1 _ g2) (by rw [g3]; exact fun _ h => h) (v := .ref (gB G + r)) (by rw [List.getElem?_mapIdx, hr]; rfl) hd (kk r p e s m args below meth cd H locs ls x C hf hW hH hS hl)
      · cases hf
    · cases hf
  · cases hf
def aSc (sk : List mS) (a kd c v : Nat) (i : Nat) (K : List mS → Option α) : Option α := match sk[a]?, sk[v]? with
  | some (.inl q), some (.inr u) => if q.1 = kd ∧ u.1 = c ∧ i < q.2.1 ∧ q.2.2.length = q.2.1 then K (sk.set a (.inl (kd, q.2.1, q.2.2.set i (some v)))) else none
  | _, _ => none
theorem goC_aast {a kd c v N : Nat} {Cn : String} {T : u_T} {ty : Nat → FieldType} {K : List mS → Option α} (KC : mCl c Cn T N ty) (ht : (gT G)[kd]? = some (G.2.1 kd, .object Cn)) (hkd : kd = 4 ∨ kd = 5) {i : Int32} {j : Nat} (hi : ¬ i < 0) (hj : i.toNatClampNeg = j) (pc' : Nat) (hd : decode μ.2.1 pc = .ok (.aastore, 1)) (hp : pc + 1 = pc') (kk : ∀ sk', GoC ini μ R kc ks l G fin (K sk') pc' lv st sk' M) : GoC ini μ R kc ks l G fin (aSc sk a kd c v j K) pc lv (.ref (gB G + v) :: .int i :: .ref (gB G + a) :: st) sk M := by
  subst hp; subst hj
  intro p e s m args below meth cd H locs ls x C hf hW hH hS hl
  unfold aSc at hf
  split at hf
  · rename_i q u hq hu
    split at hf
    · rename_i hc
      obtain ⟨k', n, rs⟩ := q
      obtain ⟨c', fs⟩ := u
      obtain ⟨e1, e2, e3, e4⟩ := hc
      have e1 : k' = kd := e1
      have e2 : c' = c := e2
      subst e1; subst e2
      have hE : mE G M a (.inl (k', n, rs)) = .inl (G.2.1 k', n, .inr (.inr (.inr (.inr (fun j => (rs.getD j none).map (fun z => gB G + z)))))) := by rcases hkd with rfl | rfl <;> rfl
      have hE2 : mE G M a (.inl (k', n, rs.set i.toNatClampNeg (some v))) = .inl (G.2.1 k', n, .inr (.inr (.inr (.inr (va_up (fun j => (rs.getD j none).map (fun z => gB G + z)) i.toNatClampNeg (some (gB G + v))))))) := by
        have : mE G M a (.inl (k', n, rs.set i.toNatClampNeg (some v))) = .inl (G.2.1 k', n, .inr (.inr (.inr (.inr (fun j => ((rs.set i.toNatClampNeg (some v)).getD j none).map (fun z => gB G + z)))))) := by rcases hkd with rfl | rfl <;> rfl
        rw [this]
        congr 7
        funext j
        unfold va_up
        rw [List.getD_eq_getElem?_getD, List.getElem?_set]
        have e3' : i.toNatClampNeg < rs.length := by simp only at e3 e4; omega
        by_cases hji : j = i.toNatClampNeg
        · subst hji
          simp [e3']
        · simp [hji, Ne.symm hji, List.getD_eq_getElem?_getD]
      have hget : (mW G sk M)[a]? = some (gB G + a, .inl (G.2.1 k', n, .inr (.inr (.inr (.inr (fun j => (rs.getD j none).map (fun z => gB G + z))))))) := by rw [mW_get M hq, hE]
      refine va_astq (ws := mW G sk M) C.1 C.2.1 C.2.2.2.2.2.1.1 hW (mW_D G sk M) hS a k' v c' (r := (Cn, T, N)) hget ht (mW_get M hu) KC.1 (i := i) (by unfold vp_in; rintro (h | h); exact hi h; exact absurd h (Nat.not_le.mpr e3)) hd (fun H1 locs1 hP1 hD1 hS1 => ?_)
      refine kk _ p e s m args below meth cd H1 locs1 ls x C hf ?_ (by simpa using hH) hS1 hl
      unfold Wd
      rw [mW_setS (List.getElem?_eq_some_iff.mp hq).1, hE2]
      exact hP1
    · cases hf
  · cases hf
end GOC
section GOC2
variable {α : Type} {ini : Bool} {μ : mU} {R : Room} {kc ks : Nat} {l : Launch} {G : mG} {sk : List mS} {fin : α → State → Array Value → List Frame → State → Prop} {f : Option α} {pc : Nat} {lv : List (Nat × Value)} {st : List Value} {M : mM}
theorem goC_iconst {n : Int} (v : Int32) (pc' : Nat) (hd : decode μ.2.1 pc = .ok (.iconst n, 1)) (hp : pc + 1 = pc') (hv : Int32.ofInt n = v) (k : GoC ini μ R kc ks l G fin f pc' lv (.int v :: st) sk M) : GoC ini μ R kc ks l G fin f pc lv (st) sk M := by
  subst hp
  intro p e s m args below meth c H locs ls x C hf hW hH hS hl
  exact lv_iconst C.1 C.2.1 hd hv (k p e s m args below meth c H locs ls x C hf hW hH hS hl)
theorem goC_bipush {n : Int} (v : Int32) (pc' : Nat) (hd : decode μ.2.1 pc = .ok (.bipush n, 2)) (hp : pc + 2 = pc') (hv : (Int8.ofInt n).toInt32 = v) (k : GoC ini μ R kc ks l G fin f pc' lv (.int v :: st) sk M) : GoC ini μ R kc ks l G fin f pc lv (st) sk M := by
  subst hp
  intro p e s m args below meth c H locs ls x C hf hW hH hS hl
  exact lv_bipush C.1 C.2.1 hd hv (k p e s m args below meth c H locs ls x C hf hW hH hS hl)
theorem goC_sipush {n : Int} (v : Int32) (pc' : Nat) (hd : decode μ.2.1 pc = .ok (.sipush n, 3)) (hp : pc + 3 = pc') (hv : (Int16.ofInt n).toInt32 = v) (k : GoC ini μ R kc ks l G fin f pc' lv (.int v :: st) sk M) : GoC ini μ R kc ks l G fin f pc lv (st) sk M := by
  subst hp
  intro p e s m args below meth c H locs ls x C hf hW hH hS hl
  exact lv_sipush C.1 C.2.1 hd hv (k p e s m args below meth c H locs ls x C hf hW hH hS hl)
theorem goC_dup {v : Value} (pc' : Nat) (hd : decode μ.2.1 pc = .ok (.dup, 1)) (hp : pc + 1 = pc') (hc : v.category = 1) (k : GoC ini μ R kc ks l G fin f pc' lv (v :: v :: st) sk M) : GoC ini μ R kc ks l G fin f pc lv (v :: st) sk M := by
  subst hp
  intro p e s m args below meth c H locs ls x C hf hW hH hS hl
  exact lv_dup C.1 C.2.1 hd hc (k p e s m args below meth c H locs ls x C hf hW hH hS hl)
theorem goC_iload_n {x : Int32} (q : Nat) {i : Fin 4} (pc' : Nat) (hd : decode μ.2.1 pc = .ok (.iload_n i, 1)) (hp : pc + 1 = pc') (hl0 : lv[q]? = some ((i : Nat), .int x)) (k : GoC ini μ R kc ks l G fin f pc' lv (.int x :: st) sk M) : GoC ini μ R kc ks l G fin f pc lv st sk M := by
  subst hp
  intro p e s m args below meth c H locs ls x C hf hW hH hS hl
  exact lv_iload_n C.1 C.2.1 hd rfl (lv_at hl q hl0) (k p e s m args below meth c H locs ls x C hf hW hH hS hl)
theorem goC_aload_n {x : Nat} (q : Nat) {i : Fin 4} (pc' : Nat) (hd : decode μ.2.1 pc = .ok (.aload_n i, 1)) (hp : pc + 1 = pc') (hl0 : lv[q]? = some ((i : Nat), .ref x)) (k : GoC ini μ R kc ks l G fin f pc' lv (.ref x :: st) sk M) : GoC ini μ R kc ks l G fin f pc lv st sk M := by
  subst hp
  intro p e s m args below meth c H locs ls x C hf hW hH hS hl
  exact lv_aload_n C.1 C.2.1 hd rfl (lv_at hl q hl0) (k p e s m args below meth c H locs ls x C hf hW hH hS hl)
theorem goC_istore {x : Int32} {i : Nat} (lv' : List (Nat × Value)) (pc' : Nat) (hd : decode μ.2.1 pc = .ok (.istore i, 2)) (hp : pc + 2 = pc') (hn : i < μ.2.2.1) (hv : (i, Value.int x) :: lv.filter (fun q => !(q.1 == i) && !(q.1 + 1 == i && q.2.category == 2)) = lv') (k : GoC ini μ R kc ks l G fin f pc' lv' st sk M) : GoC ini μ R kc ks l G fin f pc lv (.int x :: st) sk M := by
  subst hp
  intro p e s m args below meth c H locs ls x C hf hW hH hS hl
  exact lv_istore C.1 C.2.1 hd hl hn hv (fun ls hl => k p e s m args below meth c H locs ls x C hf hW hH hS hl)
theorem goC_istore_n {x : Int32} {i : Nat} {j : Fin 4} (lv' : List (Nat × Value)) (pc' : Nat) (hd : decode μ.2.1 pc = .ok (.istore_n j, 1)) (hp : pc + 1 = pc') (hj : (j : Nat) = i) (hn : i < μ.2.2.1) (hv : (i, Value.int x) :: lv.filter (fun q => !(q.1 == i) && !(q.1 + 1 == i && q.2.category == 2)) = lv') (k : GoC ini μ R kc ks l G fin f pc' lv' st sk M) : GoC ini μ R kc ks l G fin f pc lv (.int x :: st) sk M := by
  subst hp
  intro p e s m args below meth c H locs ls x C hf hW hH hS hl
  exact lv_istore_n C.1 C.2.1 hd hj hl hn hv (fun ls hl => k p e s m args below meth c H locs ls x C hf hW hH hS hl)
theorem goC_astore {x : Nat} {i : Nat} (lv' : List (Nat × Value)) (pc' : Nat) (hd : decode μ.2.1 pc = .ok (.astore i, 2)) (hp : pc + 2 = pc') (hn : i < μ.2.2.1) (hv : (i, Value.ref x) :: lv.filter (fun q => !(q.1 == i) && !(q.1 + 1 == i && q.2.category == 2)) = lv') (k : GoC ini μ R kc ks l G fin f pc' lv' st sk M) : GoC ini μ R kc ks l G fin f pc lv (.ref x :: st) sk M := by
  subst hp
  intro p e s m args below meth c H locs ls x C hf hW hH hS hl
  exact lv_astore C.1 C.2.1 hd hl hn hv (fun ls hl => k p e s m args below meth c H locs ls x C hf hW hH hS hl)
theorem goC_astore_n {x : Nat} {i : Nat} {j : Fin 4} (lv' : List (Nat × Value)) (pc' : Nat) (hd : decode μ.2.1 pc = .ok (.astore_n j, 1)) (hp : pc + 1 = pc') (hj : (j : Nat) = i) (hn : i < μ.2.2.1) (hv : (i, Value.ref x) :: lv.filter (fun q => !(q.1 == i) && !(q.1 + 1 == i && q.2.category == 2)) = lv') (k : GoC ini μ R kc ks l G fin f pc' lv' st sk M) : GoC ini μ R kc ks l G fin f pc lv (.ref x :: st) sk M := by
  subst hp
  intro p e s m args below meth c H locs ls x C hf hW hH hS hl
  exact lv_astore_n C.1 C.2.1 hd hj hl hn hv (fun ls hl => k p e s m args below meth c H locs ls x C hf hW hH hS hl)
theorem goC_iinc {x : Int32} {i : Nat} {n : Int} (v : Int32) (q : Nat) (lv' : List (Nat × Value)) (pc' : Nat) (hd : decode μ.2.1 pc = .ok (.iinc i n, 3)) (hp : pc + 3 = pc') (hq : lv[q]? = some (i, .int x)) (hx : x + Int32.ofInt n = v) (hn : i < μ.2.2.1) (hv : (i, Value.int v) :: lv.filter (fun q => !(q.1 == i) && !(q.1 + 1 == i && q.2.category == 2)) = lv') (k : GoC ini μ R kc ks l G fin f pc' lv' st sk M) : GoC ini μ R kc ks l G fin f pc lv st sk M := by
  subst hp
  intro p e s m args below meth c H locs ls x C hf hW hH hS hl
  exact lv_iinc C.1 C.2.1 hd hl hq hx hn hv (fun ls hl => k p e s m args below meth c H locs ls x C hf hW hH hS hl)
theorem goC_goto {off : Int} (tgt : Nat) (hd : decode μ.2.1 pc = .ok (.goto off, 3)) (ht : (pc : Int) + off = (tgt : Int)) (k : GoC ini μ R kc ks l G fin f tgt lv st sk M) : GoC ini μ R kc ks l G fin f pc lv st sk M := by
  intro p e s m args below meth c H locs ls x C hf hW hH hS hl
  exact lv_goto C.1 C.2.1 hd ht (k p e s m args below meth c H locs ls x C hf hW hH hS hl)
theorem goC_geT {x y : Int32} {off : Int} (tgt : Nat) (hd : decode μ.2.1 pc = .ok (.if_icmp .ge off, 3)) (ht : (pc : Int) + off = (tgt : Int)) (h : y ≤ x) (kt : GoC ini μ R kc ks l G fin f tgt lv st sk M) : GoC ini μ R kc ks l G fin f pc lv (.int y :: .int x :: st) sk M := by
  intro p e s m args below meth c H locs ls x C hf hW hH hS hl
  exact lv_icmp_ge C.1 C.2.1 hd ht (fun _ => kt p e s m args below meth c H locs ls x C hf hW hH hS hl) (fun h' => absurd h h')
theorem goC_geF {x y : Int32} {off : Int} (tgt pc' : Nat) (hd : decode μ.2.1 pc = .ok (.if_icmp .ge off, 3)) (ht : (pc : Int) + off = (tgt : Int)) (hp : pc + 3 = pc') (h : ¬ y ≤ x) (kf : GoC ini μ R kc ks l G fin f pc' lv st sk M) : GoC ini μ R kc ks l G fin f pc lv (.int y :: .int x :: st) sk M := by
  subst hp
  intro p e s m args below meth c H locs ls x C hf hW hH hS hl
  exact lv_icmp_ge C.1 C.2.1 hd ht (fun h' => absurd h' h) (fun _ => kf p e s m args below meth c H locs ls x C hf hW hH hS hl)
theorem goC_ldc2 {idx : Nat} {v : Int64} (hw : Cond.constantLong μ.1 idx v ∈ mT) (pc' : Nat) (hd : decode μ.2.1 pc = .ok (.ldc2_w idx, 3)) (hp : pc + 3 = pc') (kk : GoC ini μ R kc ks l G fin f pc' lv (.long v :: st) sk M) : GoC ini μ R kc ks l G fin f pc lv st sk M := by
  subst hp
  intro p e s m args below meth c H locs ls x C hf hW hH hS hl
  exact lv_ldc2 C.1 C.2.1 C.2.2.2.1 (C.2.2.2.2.1 _ hw) hd (kk p e s m args below meth c H locs ls x C hf hW hH hS hl)
theorem goC_objInit {idx : Nat} {a : Nat} (h1 : Cond.methodLink μ.1 idx Lib.objectInit ∈ mT) (h2 : Cond.instanceMethod Lib.objectInit ∈ mT) (h3 : Cond.code Lib.objectInit ⟨#[0xb1]⟩ 1 none ∈ mT) (pc' : Nat) (hd : decode μ.2.1 pc = .ok (.invokespecial idx, 3)) (hp : pc + 3 = pc') (hr : 1 ≤ R.frames) (hr2 : (st.map fun v => v.category).sum + 12 ≤ R.locals) (kk : GoC ini μ R kc ks l G fin f pc' lv st sk M) : GoC ini μ R kc ks l G fin f pc lv (.ref a :: st) sk M := by
  subst hp
  intro p e s m args below meth c H locs ls x C hf hW hH hS hl
  exact W.objInit C.1 C.2.1 C.2.2.2.1 (C.2.2.2.2.1 _ h1) (C.2.2.2.2.1 _ h2) (C.2.2.2.2.1 _ h3) (g := F0 m pc ls (.ref a :: st)) rfl (hl.1.trans C.2.2.1.symm) rfl hd hr (by show 2 * 0 + _ + 12 ≤ R.locals; omega) (kk p e s m args below meth c H locs ls x C hf hW hH hS hl)
def lSc (sk : List mS) (a n : Nat) (f : Option α) : Option α := if sk[a]? = some (.inl (1, n, [])) then f else none
theorem goC_last {a n : Nat} {i : Int32} {v : Int64} (hi : ¬ (i < 0 ∨ n ≤ i.toNatClampNeg)) (pc' : Nat) (hd : decode μ.2.1 pc = .ok (.lastore, 1)) (hp : pc + 1 = pc') (kk : GoC ini μ R kc ks l G fin f pc' lv st sk (wL M a i.toNatClampNeg v)) : GoC ini μ R kc ks l G fin (lSc sk a n f) pc lv (.long v :: .int i :: .ref (gB G + a) :: st) sk M := by
  subst hp
  intro p e s m args below meth c H locs ls x C hf hW hH hS hl
  unfold lSc at hf
  split at hf
  · rename_i hs
    exact va_last (ws := mW G sk M) C.1 C.2.1 C.2.2.2.2.2.1.1 hW (mW_D G sk M) hS a 1 (mW_get M hs) rfl hi hd (fun H1 locs1 hP1 _ hS1 => kk p e s m args below meth c H1 locs1 ls x C hf (by unfold Wd; rw [← mW_set hs (show mE G (wL M a i.toNatClampNeg v) a (.inl (1, n, [])) = .inl (G.2.1 1, n, .inr (.inl (vp_updL (M.2 a) i.toNatClampNeg v))) by show Sum.inl (_, _, Sum.inr (Sum.inl _)) = _; rw [wL_on]) wL_off]; exact hP1) hH hS1 hl)
  · cases hf
theorem goC_lv (is : List Nat) {lv' : List (Nat × Value)} (h : lv_pick lv is = lv') (k : GoC ini μ R kc ks l G fin f pc lv' st sk M) : GoC ini μ R kc ks l G fin f pc lv st sk M := by
  intro p e s m args below meth c H locs ls x C hf hW hH hS hl
  exact k p e s m args below meth c H locs ls x C hf hW hH hS (lv_sub hl is h)
end GOC2
/-! contracts of constructors -/
def rmC (d mc ms : Nat) : Room := { frames := d, cells := mc, slots := ms, locals := 64 * d }
def nP (G : mG) (av : List Value) (sk : List mS) (M : mM) : Array Value → State → Prop := va_Pc av (fun U => Wd G sk M U.heap ∧ gK G U ∧ (∀ q, q < gB G → U.heap[q]? = G.2.2.1[q]?) ∧ U.heap.size = gB G + sk.length ∧ nX U)
def nQ (G : mG) (r : List mS × mM) : Array Value → State → Outcome → State → Prop := fun _ st o t => o = .returned none ∧ Wd G r.1 r.2 t.heap ∧ va_F (gA G) st t
def nFin (G : mG) (mc ms : Nat) : List mS × mM → State → Array Value → List Frame → State → Prop := fun x s args below => MQ below (nQ G x) args s mc ms (gA G)
def MtC (l : Launch) (G : mG) (y : MethodName) (μ : mU) (d mc ms : Nat) (av : List Value) (sk : List mS) (M : mM) (f : Option (List mS × mM)) : Prop :=
  ∀ x, f = some x → Met l y (.code y μ.2.1 μ.2.2.1 μ.2.2.2 :: mT) (rmC d mc ms) (nP G av sk M) (nQ G x) mc ms (gA G)
theorem nP_blind (G : mG) (av : List Value) (sk : List mS) (M : mM) : FrameBlind (nP G av sk M) := fun a U g mk q => ⟨q.1, q.2.1, q.2.2.1.moved (Vm.Alike.refl U.vm), q.2.2.2.1, q.2.2.2.2.1, q.2.2.2.2.2.same rfl⟩
theorem MtC.of {l : Launch} {G : mG} {y : MethodName} {μ : mU} {d mc ms : Nat} {av : List Value} {sk : List mS} {M : mM} {f : Option (List mS × mM)} (hy : plainName y.cls = true) (hown : y.cls = μ.1) (hnm : y.name = "<init>") (hlen : (lg_sl av).length ≤ μ.2.2.1) (h : GoC true μ (rmC d mc ms) 0 0 l G (nFin G mc ms) f 0 (lv_args 0 av) [] sk M) : MtC l G y μ d mc ms av sk M f := by
  intro x hf
  refine Met.ofW (cc := μ.2.1) (maxL := μ.2.2.1) (ret := μ.2.2.2) hy rfl ?_
  intro p e s m args below meth c s₁ B hml hv
  obtain ⟨rfl, hW, hK, hb, hz, hn⟩ := hv
  have hts := atoms_spec (ws := .code y μ.2.1 μ.2.2.1 μ.2.2.2 :: mT) B.pre
  have hown' : s.vm.findClass μ.1 = some m.cls := by rw [← hown]; exact findClass_of_methodNamed B.named
  have hin : meth.name = y.name := (name_of_methodNamed B.named B.method).1
  have hl := lv_entry av (n := μ.2.2.1) hlen
  rw [lg_entry_eq]
  exact h p e s m _ below meth c s.heap [] _ x ⟨B.exec, B.bytes, hml, hown', fun w hw => hts w (List.mem_cons_of_mem _ hw), hK, B.notSynchronized, B.returns, hb, by omega, hn, fun _ => hin.trans hnm⟩ hf hW (by omega) va_S.rf hl
theorem goC_vret {μ : mU} {R : Room} {l : Launch} {G : mG} {pc : Nat} {lv : List (Nat × Value)} {M : mM} {sk : List mS} {mc ms : Nat} (hr : μ.2.2.2 = none) (hd : decode μ.2.1 pc = .ok (.return_, 1)) : GoC true μ R mc ms l G (nFin G mc ms) (some (sk, M)) pc lv [] sk M := by
  intro p e s m args below meth cd H locs ls x C hf hW hH hS hl
  cases hf
  exact W.vret C.1 C.2.1 (C.2.2.2.2.2.2.2.1.trans hr) (fun t ht _ => ⟨rfl, by rw [ht]; exact hW, hS.F ht⟩) hS.2.2 hd C.2.2.2.2.2.2.1
theorem w_runC {p : Program} {l : Launch} {e : Env} {R : Room} {s : State} {m : MethodId} {args : Array Value} {below : List Frame} {meth : Method} {c : Code} {H : Heap} {locs : List Loc} {kc ks mc ms : Nat} {Q : State → Prop} {pc : Nat} {ls : Array Slot} {rest st0 : List Value} {a : Array Value} {G : mG} {r : List mS × mM}
    (hr : va_Run p l e R s m args below meth c H locs kc ks mc ms (F0 m pc ls st0) rest (nQ G r a) (gA G)) (hS : va_S (gA G) s.heap H locs)
    (kk : ∀ (H1 : Heap) (locs1 : List Loc), Wd G r.1 r.2 H1 → va_S (gA G) s.heap H1 locs1 → W p l e R s m args below meth c H1 locs1 (kc + mc) (ks + ms) Q (F0 m (pc + 3) ls rest)) : W p l e R s m args below meth c H locs kc ks Q (F0 m pc ls st0) := by
  intro T hT X
  obtain ⟨v, st₀, t, T', L, h0, X', hL, e1, e2, ⟨hv, hW, hz, hk⟩, st⟩ := hr T hT X
  cases hv
  rw [h0] at hz hk
  obtain ⟨t2, a1, b1⟩ := kk T'.heap (locs ++ L) (by rw [e1]; exact hW)
    ⟨Nat.le_trans hS.1 (by rw [e1]; exact hz), fun q h1 h2 => by rw [e1, hk q (Nat.lt_of_lt_of_le h1 hS.1) h2]; exact hS.2.1 q h1 h2, fun q hq => by
      rcases List.mem_append.mp hq with h | h
      · exact hS.2.2 q h
      · exact hL q h⟩ T' rfl X'
  exact ⟨t2, st t2 a1, b1⟩
def bC {α : Type} (g : Option (List mS × mM)) (n : Nat) (k : List mS → mM → Option α) : Option α := match g with
  | none => none
  | some q => if q.1.length = n then k q.1 q.2 else none
section CALLI
variable {α : Type} {ini : Bool} {μ : mU} {R : Room} {kc ks mc ms : Nat} {l : Launch} {G : mG} {fin : α → State → Array Value → List Frame → State → Prop} {pc : Nat} {lv : List (Nat × Value)} {sk : List mS} {M : mM}
variable {idx n : Nat} {y : MethodName} {μ' : mU} {g : Option (List mS × mM)} {k : List mS → mM → Option α} {As rest : List Value} {o : Nat}
def mCi (own : String) (idx : Nat) (y : MethodName) (μ' : mU) (n : Nat) : Prop := (Cond.methodLink own idx y ∈ mT ∨ (own, idx, y, RX11) ∈ nestL) ∧ Cond.instanceMethod y ∈ mT ∧ Cond.initialized y.cls ∈ mT ∧ Cond.code y μ'.2.1 μ'.2.2.1 none ∈ mT ∧ y.name = "<init>" ∧ (y.cls ≠ "java/lang/invoke/MethodHandle" ∧ y.cls ≠ "java/lang/invoke/VarHandle" ∧ (parseMethodDescriptor y.desc).map (fun d => d.parameters.length) = some n) ∧ μ'.2.2.1 ≤ 45 ∧ μ'.2.2.2 = none
theorem goC_callI (d' : Nat) (cw : mCi μ.1 idx y μ' n) (hM : MtC l G y μ' d' mc ms (.ref (gB G + o) :: As) sk M g) (hn : As.length = n) (pc' : Nat) (hd : decode μ.2.1 pc = .ok (.invokespecial idx, 3)) (hp : pc + 3 = pc') (hr : d' + 1 ≤ R.frames ∧ 64 * (d' + 1) ≤ R.locals) (hk : kc + mc ≤ R.cells ∧ ks + ms ≤ R.slots) (hst : (rest.map fun v => v.category).sum ≤ 8) (kk : ∀ sk' M', g = some (sk', M') → GoC ini μ R (kc + mc) (ks + ms) l G fin (k sk' M') pc' lv rest sk' M') : GoC ini μ R kc ks l G fin (bC g (sk.length + mc) k) pc lv (As.reverse ++ .ref (gB G + o) :: rest) sk M := by
  subst hp
  intro p e s m args below meth cd H locs ls x C hf hW hH hS hl
  cases hg : g with
  | none => rw [hg] at hf; cases hf
  | some z =>
    rw [hg] at hf
    unfold bC at hf
    simp only at hf
    split at hf
    · rename_i hz
      obtain ⟨c1, c2, c3, c4, c5, c6, c7, c8⟩ := cw
      refine W.bound fun hbd => ?_
      have hHs : H.size = gB G + sk.length := by have := wd_size hW (Nat.le_trans C.2.2.2.2.2.2.2.2.2.1 hS.1); omega
      have hM' := hM z hg
      rw [c8] at hM'
      have hpre : PreS s H (nP G (.ref (gB G + o) :: As) sk M) (.ref (gB G + o) :: As) := ⟨nP_blind _ _ _ _, fun U hU hWd => ⟨rfl, by rw [hU]; exact hW, C.2.2.2.2.2.1.moved hWd.alike, fun q hq => by rw [hU, hS.2.1 q (Nat.lt_of_lt_of_le hq C.2.2.2.2.2.2.2.2.2.1) (Nat.not_le.mpr hq)]; exact C.2.2.2.2.2.2.2.2.1 q hq, by rw [hU]; exact hHs, C.2.2.2.2.2.2.2.2.2.2.1.warm hWd⟩⟩
      have hG : GoodIn mT (.code y μ'.2.1 μ'.2.2.1 none :: mT) := fun w hw => (List.mem_cons.mp hw).elim (fun e => mT_good w (e ▸ c4)) (mT_good w)
      have hrun : va_Run p l e R s m args below meth cd H locs kc ks mc ms (F0 m pc ls (As.reverse ++ .ref (gB G + o) :: rest)) rest (nQ G z (Value.ref (gB G + o) :: As).toArray) (gA G) := by
        rcases c1 with c1 | c1
        · exact va_runI (As := As) (rest := rest) (b := gB G + o) ⟨C.1, C.2.1, C.2.2.1, C.2.2.2.1, C.2.2.2.2.1⟩ hM' (cwI n C.2.2.2.2.1 hG rfl rfl rfl (C.2.2.2.2.1 _ c3) (C.2.2.2.2.1 _ c1) (C.2.2.2.2.1 _ c2) c5 c6 ⟨hr.1, by show 8 + (μ'.2.2.1 + 11) + 64 * d' ≤ R.locals; omega⟩) hpre rfl hn hl.1 rfl (lv_room hst) hd hk
        · exact va_runIN (As := As) (rest := rest) (b := gB G + o) (host := RX11) ⟨C.1, C.2.1, C.2.2.1, C.2.2.2.1, C.2.2.2.2.1⟩ hM' ⟨va_cnB n C.2.2.2.2.1 hG rfl rfl rfl (C.2.2.2.2.2.2.2.2.2.2.1.2.2 _ c1) (C.2.2.2.2.1 _ c3) c6 ⟨hr.1, by show 8 + (μ'.2.2.1 + 11) + 64 * d' ≤ R.locals; omega⟩, c5, C.2.2.2.2.1 _ c2⟩ hpre rfl hn hl.1 rfl (lv_room hst) hd hk
      exact w_runC hrun hS (fun H1 locs1 hW1 hS1 => kk z.1 z.2 hg p e s m args below meth cd H1 locs1 ls x C hf hW1 (by omega) hS1 hl)
    · cases hf
end CALLI
