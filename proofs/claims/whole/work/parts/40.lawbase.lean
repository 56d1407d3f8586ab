def f_X11_rests_27 (w : Nat) (M : mM) : Option (Option Int32 × mM) := some (none, M)
def f_X11_rests_89 (w : Nat) (x4 : Int32) (x5 : Int32) (M : mM) : Option (Option Int32 × mM) := (if x4 = (-1) then some (some x5, M) else some (none, M))
def f_X11_rests_44 (w : Nat) : Nat → Int32 → Int32 → Int32 → Int32 → Int32 → Int32 → mM → Option (Option Int32 × mM)
  | 0, _, _, _, _, _, _, _ => none
  | n + 1, x1, x2, x3, x4, x5, x6, M => (if 4 ≤ x6 then (f_X11_rests_89 w x4 x5 M) else bI (f_X11_isRest w (x6 >>> ((1 : Int32) &&& 31)) (x6 &&& 1) x1 x2 x3 M) fun q2 M1 => (if q2 = 0 then (f_X11_rests_44 w n x1 x2 x3 x4 x5 (x6 + 1) M1) else (if x5 = x4 then some (some x6, M1) else (f_X11_rests_44 w n x1 x2 x3 x4 (x5 + 1) (x6 + 1) M1))))
def f_X11_rests (w : Nat) (o0 : Nat) (x1 : Int32) (x2 : Int32) (x3 : Int32) (x4 : Int32) (M : mM) : Option (Option Int32 × mM) := bI (f_X11_isStake w x1 M) fun q2 M1 => (if q2 = 0 then (f_X11_rests_27 w M1) else bI (f_X11_isStake w x2 M1) fun q4 M3 => (if q4 = 0 then (f_X11_rests_27 w M3) else bI (f_X11_isStake w x3 M3) fun q6 M5 => (if q6 = 0 then (f_X11_rests_27 w M5) else (if (-1) ≤ x4 then (f_X11_rests_44 w w x1 x2 x3 x4 0 0 M5) else (f_X11_rests_27 w M5)))))
def f_L_rests (w : Nat) (p0 p1 p2 p3 : Int32) (M : mM) : Option (Int32 × mM) := match f_X11_rests w 0 p0 p1 p2 p3 M with
  | none => none
  | some (some v, N) => some (0, wL N 185 0 v.toInt64)
  | some (none, N) => some (1, N)
def skL : List mS := skF ++ [.inl (1, 1, [])]
theorem skL_ok : skOK skL := ⟨_, rfl⟩
abbrev muL_law : mU := (RL, cL_law, 7, ret)
theorem isK0 : isK 0 21 := by unfold isK; decide +kernel
theorem isK163 : isK 163 22 := by unfold isK; decide +kernel
def lawX (G : mG) (b L : Nat) (xs : Nat → Int32) (s : State) (args : Array Value) : Prop := va_X b L xs s s.heap ∧ b < s.heap.size ∧ s.heap.size = gB G ∧ args = #[Value.ref b] ∧ vzX G s
def finL (G : mG) (b L : Nat) (xs : Nat → Int32) : Unit → State → Array Value → List Frame → State → Prop := fun _ s args below t => lawX G b L xs s args → lw_Z below args s t
theorem W.triv {p : Program} {l : Launch} {e : Env} {R : Room} {s : State} {m : MethodId} {args : Array Value} {below : List Frame} {meth : Method} {c : Code} {H : Heap} {locs : List Loc} {cells slots : Nat} {Q : State → Prop} {g : JFrame} (h : ∀ t, Q t) : W p l e R s m args below meth c H locs cells slots Q g := fun T _ _ => ⟨T.setTop g, Steps.refl _, h _⟩
theorem W.imp {p : Program} {l : Launch} {e : Env} {R : Room} {s : State} {m : MethodId} {args : Array Value} {below : List Frame} {meth : Method} {c : Code} {H : Heap} {locs : List Loc} {cells slots : Nat} {Q Q' : State → Prop} {g : JFrame} (h : ∀ t, Q t → Q' t) (k : W p l e R s m args below meth c H locs cells slots Q g) : W p l e R s m args below meth c H locs cells slots Q' g := fun T hT X => by
  obtain ⟨t, a, b⟩ := k T hT X
  exact ⟨t, a, h t b⟩
section LAW
variable {R : Room} {kc ks : Nat} {l : Launch} {G : mG} {b L : Nat} {xs : Nat → Int32} {f : Option Unit} {pc : Nat} {lv : List (Nat × Value)} {st : List Value} {M : mM}
theorem go_sld {i : Int32} (pc' : Nat) (hd : decode muL_law.2.1 pc = .ok (.iaload, 1)) (hp : pc + 1 = pc') (kk : Go muL_law R kc ks l G skL (finL G b L xs) f pc' lv (.int (xs i.toNatClampNeg) :: st) M) : Go muL_law R kc ks l G skL (finL G b L xs) (chk i L f) pc lv (.int i :: .ref b :: st) M := by
  subst hp
  intro p e s m args below meth cd H locs ls x C hf hW hS hl
  obtain ⟨hin, hf⟩ := chk_in hf
  by_cases hX : lawX G b L xs s args
  · exact va_sld C.1 C.2.1 hX.1 hX.2.1 (by unfold gA; rw [← hX.2.2.1]; exact Nat.not_le.mpr hX.2.1) hS hin hd (kk p e s m args below meth cd H locs ls x C hf hW hS hl)
  · exact W.triv fun t h => absurd h hX
theorem go_slen (pc' : Nat) (hd : decode muL_law.2.1 pc = .ok (.arraylength, 1)) (hp : pc + 1 = pc') (kk : Go muL_law R kc ks l G skL (finL G b L xs) f pc' lv (.int (Int32.ofNat L) :: st) M) : Go muL_law R kc ks l G skL (finL G b L xs) f pc lv (.ref b :: st) M := by
  subst hp
  intro p e s m args below meth cd H locs ls x C hf hW hS hl
  by_cases hX : lawX G b L xs s args
  · exact va_slen C.1 C.2.1 hX.1 hX.2.1 (by unfold gA; rw [← hX.2.2.1]; exact Nat.not_le.mpr hX.2.1) hS hd (kk p e s m args below meth cd H locs ls x C hf hW hS hl)
  · exact W.triv fun t h => absurd h hX
theorem go_outld (pc' : Nat) (hd : decode muL_law.2.1 pc = .ok (.laload, 1)) (hp : pc + 1 = pc') (kk : Go muL_law R kc ks l G skL (finL G b L xs) f pc' lv (.long (M.2 185 0) :: st) M) : Go muL_law R kc ks l G skL (finL G b L xs) f pc lv (.int 0 :: .ref (gB G + 185) :: st) M := by
  subst hp
  intro p e s m args below meth cd H locs ls x C hf hW hS hl
  exact va_lald (ws := mW G skL M) C.1 C.2.1 C.2.2.2.2.2.1.1 hW 185 1 (mW_get M (sh := .inl (1, 1, [])) (by decide +kernel)) rfl (by unfold vp_in; decide) hd (kk p e s m args below meth cd H locs ls x C hf hW hS hl)
def lwR (v : Int32) : Option Unit := if v = 1 then some () else none
theorem go_lawret {v : Int32} (hd : decode muL_law.2.1 pc = .ok (.ireturn, 1)) (hk : kc ≤ room_1.cells ∧ ks ≤ room_1.slots) : Go muL_law room_1 kc ks l G skL (finL G b L xs) (lwR v) pc lv [.int v] M := by
  intro p e s m args below meth cd H locs ls x C hf hW hS hl
  unfold lwR at hf
  split at hf
  · rename_i hv
    subst hv
    by_cases hX : lawX G b L xs s args
    · obtain ⟨-, -, hsz, rfl, -⟩ := hX
      refine va_forget (fun q hq => by rw [hsz]; exact hS.2.2 q hq) ?_
      refine W.widen (k := 600128) (n := 7301098) hk.1 hk.2 ?_
      exact W.imp (fun t h _ => h) (lw_ret C.1 C.2.1 C.2.2.2.2.2.2.2.1 C.2.2.2.2.2.2.1 hd)
    · exact W.triv fun t h => absurd h hX
  · cases hf
end LAW
def lawRests (w : Nat) (l : Launch) (G : mG) (b L : Nat) (xs : Nat → Int32) : Prop := ∀ (kc ks : Nat) (p0 p1 p2 p3 : Int32) (M : mM), (kc + 1 ≤ room_1.cells ∧ ks + 16 ≤ room_1.slots) → ∀ {pc : Nat} {lv : List (Nat × Value)} {k : Int32 → mM → Option Unit} (pc' : Nat), decode muL_law.2.1 pc = .ok (.invokestatic 185, 3) → pc + 3 = pc' → (∀ (r : Int32) (N : mM), f_L_rests w p0 p1 p2 p3 M = some (r, N) → Go muL_law room_1 (kc + 1) (ks + 16) l G skL (finL G b L xs) (k r N) pc' lv [.int r] N) → Go muL_law room_1 kc ks l G skL (finL G b L xs) (bI (f_L_rests w p0 p1 p2 p3 M) k) pc lv [.ref (gB G + 185), .int p3, .int p2, .int p1, .int p0, .ref (gB G + 0)] M
