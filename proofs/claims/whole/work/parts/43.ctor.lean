section CALLI2
variable {α : Type} {ini : Bool} {μ : mU} {R : Room} {kc ks mc ms : Nat} {l : Launch} {G : mG} {fin : α → State → Array Value → List Frame → State → Prop} {pc : Nat} {lv : List (Nat × Value)} {sk : List mS} {M : mM}
variable {idx n : Nat} {y : MethodName} {μ' : mU} {As rest : List Value} {o : Nat}
def mZ : mM := (fun _ _ => 0, fun _ _ => 0)
def zS (g : Option (List mS)) : Option (List mS × mM) := g.map (fun s => (s, mZ))
def bS (g : Option (List mS)) (n : Nat) (k : List mS → Option α) : Option α := bC (zS g) n (fun s _ => k s)
theorem goC_callZ (d' : Nat) {gs : Option (List mS)} {kS : List mS → Option α} (cw : mCi μ.1 idx y μ' n) (hM : MtC l G y μ' d' mc ms (.ref (gB G + o) :: As) sk mZ (zS gs)) (hn : As.length = n) (pc' : Nat) (hd : decode μ.2.1 pc = .ok (.invokespecial idx, 3)) (hp : pc + 3 = pc') (hr : d' + 1 ≤ R.frames ∧ 64 * (d' + 1) ≤ R.locals) (hk : kc + mc ≤ R.cells ∧ ks + ms ≤ R.slots) (hst : (rest.map fun v => v.category).sum ≤ 8) (kk : ∀ sk', GoC ini μ R (kc + mc) (ks + ms) l G fin (kS sk') pc' lv rest sk' mZ) : GoC ini μ R kc ks l G fin (bS gs (sk.length + mc) kS) pc lv (As.reverse ++ .ref (gB G + o) :: rest) sk mZ := by
  unfold bS
  refine goC_callI d' cw hM hn pc' hd hp hr hk hst (fun sk' M' h => ?_)
  unfold zS at h
  obtain ⟨z, hz, he⟩ := Option.map_eq_some_iff.mp h
  obtain ⟨rfl, rfl⟩ := Prod.mk.inj he
  exact kk _
theorem goC_nmS {f' : List mS → Option α} {st : List Value} (h : ∀ s' : List mS, GoC ini μ R kc ks l G fin (f' s') pc lv st s' M) : GoC ini μ R kc ks l G fin (lt sk f') pc lv st sk M := h sk
theorem goC_nmM {f' : mM → Option α} {st : List Value} (h : ∀ N : mM, GoC ini μ R kc ks l G fin (f' N) pc lv st sk N) : GoC ini μ R kc ks l G fin (lt M f') pc lv st sk M := h M
def lenC (sk : List mS) (n : Nat) (f : Option α) : Option α := if sk.length = n then f else none
theorem goC_len {i : Nat} {f : Option α} {st : List Value} (h : sk.length = i → GoC ini μ R kc ks l G fin f pc lv st sk M) : GoC ini μ R kc ks l G fin (lenC sk i f) pc lv st sk M := by
  intro p e s m args below meth cd H locs ls x C hf hW hH hS hl
  unfold lenC at hf
  split at hf
  · rename_i hz
    exact h hz p e s m args below meth cd H locs ls x C hf hW hH hS hl
  · cases hf
theorem mz_mZ (n : Nat) : mZ0 mZ n := ⟨rfl, rfl⟩
theorem mz_step {a n j : Nat} {v : Int64} (h : mZ0 M n) (hn : n ≠ a) : mZ0 (wL M a j v) n := ⟨h.1, by show (if n = a then _ else M.2 n) = _; rw [if_neg hn]; exact h.2⟩
def skC (sk : List mS) (f : Option α) : Option α := if decide (sk = skF) = true then f else none
theorem goC_skC {f : Option α} {st : List Value} (h : sk = skF → GoC ini μ R kc ks l G fin f pc lv st sk M) : GoC ini μ R kc ks l G fin (skC sk f) pc lv st sk M := by
  intro p e s m args below meth cd H locs ls x C hf hW hH hS hl
  unfold skC at hf
  generalize hd : decide (sk = skF) = d at hf
  cases d with
  | true => exact h (of_decide_eq_true hd) p e s m args below meth cd H locs ls x C hf hW hH hS hl
  | false => cases hf
theorem goC_callV (d' : Nat) {c N : Nat} {Cn : String} {T : u_T} {ty : Nat → FieldType} {gV : Option mM} {kV : mM → Option α} (hsk : skOK sk) (K : mCl c Cn T N ty) (cw : mCw μ.1 idx Cn y μ' n) (hM : Mt l G sk y μ' d' (.ref (gB G + o) :: As) M eV gV) (ho : isK o (10 + c)) (hn : As.length = n) (pc' : Nat) (hd : decode μ.2.1 pc = .ok (.invokevirtual idx, 3)) (hp : pc + 3 = pc') (hr : d' + 1 ≤ R.frames ∧ 64 * (d' + 1) ≤ R.locals) (hk : kc ≤ R.cells ∧ ks ≤ R.slots) (hst : (rest.map fun v => v.category).sum ≤ 8) (kk : ∀ N, GoC ini μ R kc ks l G fin (kV N) pc' lv rest sk N) : GoC ini μ R kc ks l G fin (bV gV kV) pc lv (As.reverse ++ .ref (gB G + o) :: rest) sk M := by
  subst hp
  intro p e s m args below meth cd H locs ls x C hf hW hH hS hl
  rw [bV_in] at hf
  obtain ⟨z, hz, hf⟩ := Option.bind_eq_some_iff.mp hf
  obtain ⟨fs, hs⟩ := isK_obj ho K.2.2.2.2
  obtain ⟨c1, c2, c3, c4, c5, c6, c7⟩ := cw
  have hs' := hsk.get hs
  refine w_run (va_runV (As := As) (rest := rest) (b := gB G + o) ⟨C.1, C.2.1, C.2.2.1, C.2.2.2.1, C.2.2.2.2.1⟩ (hM hsk z hz) (cwV n C.2.2.2.2.1 (fun w hw => ?_) rfl rfl rfl c6 ⟨hr.1, by show 8 + (μ'.2.2.1 + 11) + 64 * d' ≤ R.locals; omega⟩) ⟨mP_blind _ _ _ _, va_recv (q := (_, T, N)) C.2.2.2.2.2.1.1 hW K.1 (mW_get M hs'), fun U hU hWd => ⟨rfl, by rw [hU]; exact hW, C.2.2.2.2.2.1.moved hWd.alike, fun q hq => by rw [hU, hS.2.1 q (Nat.lt_of_lt_of_le hq C.2.2.2.2.2.2.2.2.2.1) (Nat.not_le.mpr hq)]; exact C.2.2.2.2.2.2.2.2.1 q hq, by rw [hU]; exact Nat.le_trans C.2.2.2.2.2.2.2.2.2.1 hS.1⟩⟩ rfl hn hl.1 rfl (lv_room hst) hd ⟨by omega, by omega⟩) hS (fun H1 locs1 hW1 hS1 => kk z p e s m args below meth cd H1 locs1 ls x C hf hW1 hH hS1 hl)
  unfold wsV at hw
  rcases List.mem_append.mp hw with h | h
  · simp only [List.mem_cons, List.not_mem_nil, or_false] at h
    rcases h with rfl | rfl | rfl | rfl
    · exact mT_good _ c1
    · exact mT_good _ c2
    · exact mT_good _ c3
    · exact mT_good _ c4
  · exact mT_code c5 w h
end CALLI2
section CTZ
variable {α β : Type} {ini : Bool} {μ : mU} {R : Room} {kc ks : Nat} {l : Launch} {G : mG} {sk : List mS} {fin : α → State → Array Value → List Frame → State → Prop} {f : Option α} {pc : Nat} {lv : List (Nat × Value)} {st : List Value} {M : mM}
theorem goC_nmN {e : Nat} {f' : Nat → Option α} (h : ∀ n : Nat, GoC ini μ R kc ks l G fin (f' n) pc lv (.ref (gB G + n) :: st) sk M) : GoC ini μ R kc ks l G fin (lt e f') pc lv (.ref (gB G + e) :: st) sk M := h e
theorem goC_nmMz {a : Nat} {f' : mM → Option α} (hz : ∀ n, n ≠ a → mZ0 M n) (h : ∀ N : mM, (∀ n, n ≠ a → mZ0 N n) → GoC ini μ R kc ks l G fin (f' N) pc lv st sk N) : GoC ini μ R kc ks l G fin (lt M f') pc lv st sk M := h M hz
theorem goC_putFN {idx c N k o r : Nat} {Cn : String} {T : u_T} {ty : Nat → FieldType} {K : List mS → Option α} (F : mFl μ.1 idx c Cn T N ty k 2) (hi : ini = true) (hown : Cn = μ.1) (hfn : (T k).2.2.2 = true) (hfit : ∀ a, fits (ty k) (.ref a) = true) (hnar : ∀ a, narrow (ty k) (.ref a) = .ref a) (pc' : Nat) (hd : decode μ.2.1 pc = .ok (.putfield idx, 3)) (hp : pc + 3 = pc') (kk : ∀ sk', GoC ini μ R kc ks l G fin (K sk') pc' lv st sk' M) : GoC ini μ R kc ks l G fin (pRc sk o c k r K) pc lv (.ref (gB G + r) :: .ref (gB G + o) :: st) sk M := goC_putF F hi hown hfn hfit hnar pc' hd hp (fun _ _ => kk _)
theorem goC_map {e : β → α} {g : Option β} (h : GoC ini μ R kc ks l G (fun x => fin (e x)) g pc lv st sk M) : GoC ini μ R kc ks l G fin (g.map e) pc lv st sk M := by
  intro p ee s m args below meth cd H locs ls x C hf hW hH hS hl
  obtain ⟨z, hz, rfl⟩ := Option.map_eq_some_iff.mp hf
  exact h p ee s m args below meth cd H locs ls z C hz hW hH hS hl
end CTZ
abbrev nFinZ (G : mG) (mc ms : Nat) : List mS → State → Array Value → List Frame → State → Prop := fun x => nFin G mc ms (x, mZ)
theorem goC_vretZ {μ : mU} {R : Room} {l : Launch} {G : mG} {pc : Nat} {lv : List (Nat × Value)} {sk : List mS} {mc ms : Nat} (hr : μ.2.2.2 = none) (hd : decode μ.2.1 pc = .ok (.return_, 1)) : GoC true μ R mc ms l G (nFinZ G mc ms) (some sk) pc lv [] sk mZ := by
  intro p e s m args below meth cd H locs ls x C hf hW hH hS hl
  cases hf
  exact goC_vret hr hd p e s m args below meth cd H locs ls (sk, mZ) C rfl hW hH hS hl
theorem skOK_F : skOK skF := ⟨[], (List.append_nil _).symm⟩
