/-! ===== the house read: drafts, names ===== -/
abbrev DS : Type := HP × HX × NE
/-- the draft in the class -/
def DC (M : mM) (s : DS) : Prop := PlC M 13 s.1 ∧ (M.1 13 3 = nI (xN s.2.1) ∧ (∀ j, j < xN s.2.1 → M.1 21 j = nI (xD s.2.1 j)) ∧ LwC M 22 (xL s.2.1)) ∧ NmC M 13 s.2.2
def lwN (L : Lw) : Nat := if L.1 = 0 then 0 else L.1 + 1
def XE (K : mM) (x : HX) : Prop := K.1 169 63 = nI (if xN x = 0 then 1 else xN x) ∧ (xN x = 0 → K.1 169 102 = 0) ∧ (∀ j, j < xN x → K.1 169 (102 + j) = nI (xD x j)) ∧ K.1 169 64 = (if (xL x).1 = 0 then -1 else 0) ∧ K.1 163 13 = nI (lwN (xL x)) ∧ (0 < (xL x).1 → K.1 170 (1100 + (xL x).1) = 0) ∧ (∀ j, j < (xL x).1 → K.1 170 (1100 + j) = nI ((xL x).2.1 j) ∧ K.1 171 (1100 + j) = nI ((xL x).2.2 j)) ∧ K.1 163 20 = nI ((if xN x = 0 then 0 else 1) + (if (xL x).1 = 0 then 0 else 2))
/-- the draft in the reference -/
def DR (K : mM) (s : DS) : Prop := PlR K 60 s.1 ∧ XE K s.2.1 ∧ NmR K 173 175 19 s.2.2
def okD (s : DS) : Prop := okP s.1 ∧ okE s.1 s.2.2 ∧ s.2.2.1 = pR s.1 + pP s.1 ∧ xN s.2.1 ≤ 12 ∧ (∀ j, j < xN s.2.1 → xD s.2.1 j ≤ 9) ∧ (xL s.2.1).1 ≤ 999 ∧ (0 < (xL s.2.1).1 → hOK (xL s.2.1) 1)
def FrD (M N : mM) : Prop := (∀ c, (c < 13 ∨ 23 < c) → c ≠ 25 → N.1 c = M.1 c) ∧ (∀ c j, c ≠ 14 → c ≠ 15 → (c ≠ 25 ∨ j ≠ 5) → N.2 c j = M.2 c j) ∧ N.1 25 1 = M.1 25 1
def FrE (M N : mM) : Prop := (∀ c, c ≠ 163 → c ≠ 169 → c ≠ 170 → c ≠ 171 → c ≠ 175 → N.1 c = M.1 c) ∧ (∀ c, c ≠ 173 → N.2 c = M.2 c) ∧ (∀ j, j ≠ 7 → j ≠ 8 → j ≠ 13 → j ≠ 19 → j ≠ 20 → N.1 163 j = M.1 163 j) ∧ (∀ j, j < 60 → N.1 169 j = M.1 169 j) ∧ ∀ j, j < 1100 → N.1 170 j = M.1 170 j ∧ N.1 171 j = M.1 171 j
/-- a line, read by both -/
def Lns (t : TX) (m : Nat) (M0 K0 : mM) (i0 : Nat) (rc : Option (Int32 × mM)) (rr : Option mM) : Prop := ∃ N K, FrD M0 N ∧ FrE K0 K ∧ ((∃ i s, rc = some (1, N) ∧ rr = some K ∧ i0 < i ∧ AtC N t i ∧ AtR K t m i ∧ DC N s ∧ DR K s ∧ okD s) ∨ ∃ e, rc = some (0, N) ∧ rr = some K ∧ ErC N e ∧ ErR K e)
def nAdd (E : NE) (l : List Nat) (c : Nat) : NE := (E.1 + 1, fun j => if j = E.1 then l else E.2.1 j, fun j => if j = E.1 then c else E.2.2 j)
section DRAFT
variable {t : TX} {p : HP} {E : NE} {s : DS} {M N K : mM}
theorem rI (M : mM) (c k : Nat) (y : Int32) (a j : Nat) : (wI M c k y).1 a j = if a = c then (if j = k then y else M.1 a j) else M.1 a j := by
  by_cases q : a = c
  · rw [if_pos q, wI_set, q, setC_at]
    by_cases z : j = k
    · rw [if_pos z, z, upd_at]
    · rw [if_neg z, upd_ne _ _ z]
  · rw [if_neg q, wI_set, setC_ne _ _ q]
theorem rI2 (M : mM) (c k : Nat) (y : Int32) : (wI M c k y).2 = M.2 := rfl
theorem rIc (M : mM) (c k : Nat) (y : Int32) {a : Nat} (h : a ≠ c) : (wI M c k y).1 a = M.1 a := by rw [wI_set, setC_ne _ _ h]
theorem rL (M : mM) (c k : Nat) (y : Int64) (a j : Nat) : (wL M c k y).2 a j = if a = c then (if j = k then y else M.2 a j) else M.2 a j := by
  by_cases q : a = c
  · rw [if_pos q]
    by_cases z : j = k
    · rw [if_pos z, z, q, wL_at]
    · rw [if_neg z, wL_ne _ _ (Or.inr z)]
  · rw [if_neg q, wL_ne _ _ (Or.inl q)]
theorem rLc (M : mM) (c k : Nat) (y : Int64) {a : Nat} (h : a ≠ c) : (wL M c k y).2 a = M.2 a := funext fun j => wL_ne _ _ (Or.inl h)
theorem FrD.rf (M : mM) : FrD M M := ⟨fun _ _ _ => rfl, fun _ _ _ _ _ => rfl, rfl⟩
theorem FrD.tr (f : FrD M N) (g : FrD N K) : FrD M K := ⟨fun c a b => (g.1 c a b).trans (f.1 c a b), fun c j a b d => (g.2.1 c j a b d).trans (f.2.1 c j a b d), g.2.2.trans f.2.2⟩
theorem FrB.d (f : FrB M N) : FrD M N := ⟨fun c _ h => f.1 c h, fun c j _ _ h => f.2.1 c j h, f.2.2⟩
theorem FrL.d (f : FrL M N) : FrD M N := ⟨fun c a h => f.1 c (by omega) (by omega) h, fun c j _ _ h => f.2.1 c j h, f.2.2⟩
theorem FrE.rf (M : mM) : FrE M M := ⟨fun _ _ _ _ _ _ => rfl, fun _ _ => rfl, fun _ _ _ _ _ _ => rfl, fun _ _ => rfl, fun _ _ => ⟨rfl, rfl⟩⟩
theorem FrE.tr (f : FrE M N) (g : FrE N K) : FrE M K := ⟨fun c a b d e h => (g.1 c a b d e h).trans (f.1 c a b d e h), fun c h => (g.2.1 c h).trans (f.2.1 c h), fun j a b d e h => (g.2.2.1 j a b d e h).trans (f.2.2.1 j a b d e h), fun j h => (g.2.2.2.1 j h).trans (f.2.2.2.1 j h), fun j h => ⟨((g.2.2.2.2 j h).1).trans (f.2.2.2.2 j h).1, ((g.2.2.2.2 j h).2).trans (f.2.2.2.2 j h).2⟩⟩
theorem FrZ.e (f : FrZ M N) : FrE M N := ⟨fun c h1 _ h3 h4 _ => f.1 c h1 h3 h4, fun c _ => by rw [f.2.1], fun j a b d _ _ => f.2.2.1 j a b d, fun j _ => by rw [f.1 169 (by decide) (by decide) (by decide)], fun j h => f.2.2.2 j h⟩
theorem FrY.e (f : FrY M N) : FrE M N := f.z.e
theorem PlC.fro {o : Nat} (h : PlC M o p) (e : ∀ c, o ≤ c → c ≤ o + 7 → N.1 c = M.1 c) : PlC N o p := by
  obtain ⟨h1, h2, h3, h4, h5⟩ := h
  refine ⟨by rw [e o (by omega) (by omega)]; exact h1, by rw [e o (by omega) (by omega)]; exact h2, by rw [e o (by omega) (by omega)]; exact h3, fun d hd => ?_, fun q hq => ?_⟩
  · rw [e (o + 4) (by omega) (by omega), e (o + 5) (by omega) (by omega), e (o + 6) (by omega) (by omega), e (o + 7) (by omega) (by omega)]; exact h4 d hd
  · rw [e (o + 3) (by omega) (by omega)]; exact h5 q hq
theorem DC.fb (h : DC M s) (f : FrB M N) : DC N s := by
  obtain ⟨h1, ⟨h2, h3, h4⟩, h5⟩ := h
  refine ⟨h1.fro fun c _ _ => f.1 c (by omega), ⟨?_, fun j hj => ?_, h4.fb f⟩, fun j hj => ?_⟩
  · rw [f.1 13 (by decide)]; exact h2
  · rw [f.1 21 (by decide)]; exact h3 j hj
  · rw [f.2.1 (13 + 1) _ (Or.inl (by decide)), f.2.1 (13 + 2) _ (Or.inl (by decide))]; exact h5 j hj
theorem XE.fr {x : HX} (h : XE M x) (e1 : ∀ j, 63 ≤ j → (j ≤ 64 ∨ 102 ≤ j) → N.1 169 j = M.1 169 j) (e2 : N.1 163 13 = M.1 163 13) (e3 : N.1 163 20 = M.1 163 20) (e4 : N.1 170 = M.1 170) (e5 : N.1 171 = M.1 171) : XE N x := by
  obtain ⟨h1, h2, h3, h4, h5, h6, h7, h8⟩ := h
  refine ⟨by rw [e1 63 (by omega) (by omega)]; exact h1, fun q => by rw [e1 102 (by omega) (by omega)]; exact h2 q, fun j hj => by rw [e1 _ (by omega) (by omega)]; exact h3 j hj, by rw [e1 64 (by omega) (by omega)]; exact h4, by rw [e2]; exact h5, fun q => by rw [e4]; exact h6 q, fun j hj => by rw [e4, e5]; exact h7 j hj, by rw [e3]; exact h8⟩
theorem DR.fy (h : DR M s) (f : FrY M N) : DR N s := by
  obtain ⟨h1, h2, h3, h4⟩ := h
  refine ⟨h1.fr (f.1 169 (by decide)), h2.fr (fun j _ _ => by rw [f.1 169 (by decide)]) (f.2.2 13 (by decide) (by decide)) (f.2.2 20 (by decide) (by decide)) (f.1 170 (by decide)) (f.1 171 (by decide)), by rw [f.2.2 19 (by decide) (by decide)]; exact h3, fun j hj => by rw [f.2.1, f.1 175 (by decide)]; exact h4 j hj⟩
/-- the line's end -/
theorem lend (w : Nat) (hw : 1100 ≤ w) (ht : okT t) {M0 K0 : mM} {m i i0 : Nat} (fM : FrD M0 M) (fK : FrE K0 K) (aC : AtC M t i) (aR : AtR K t m i) (dC : DC M s) (dR : DR K s) (ok : okD s) (hi : i0 ≤ i) : Lns t m M0 K0 i0 (bI (f_X10_takeSign w 25 59 M) fun q M1 => rtB q M1) (f_X12_takeSign w 163 59 K) := by
  obtain ⟨N, n1, n2⟩ := X10_takeSign_eq w hw ht aC (c := 59) (by omega)
  obtain ⟨K1, k1, k2, k3⟩ := X12_takeSign_eq w ht aR (c := 59) (by omega)
  refine ⟨N, K1, fM.tr n1.d, fK.tr k2.e, ?_⟩
  rcases n2 with ⟨y1, y2, y3⟩ | ⟨y1, y2, y3⟩
  · rcases k3 with ⟨z1, z2⟩ | ⟨z1, z2⟩
    · refine Or.inl ⟨i + 1, s, ?_, k1, by omega, y3, z2, dC.fb n1, dR.fy k2, ok⟩
      rw [show f_X10_takeSign w 25 59 M = _ from y2, bI_some]; rfl
    · rw [y1] at z1; cases z1
  · rcases k3 with ⟨z1, z2⟩ | ⟨z1, z2⟩
    · rw [y1] at z1; cases z1
    · refine Or.inr ⟨_, ?_, k1, y3, z2⟩
      rw [show f_X10_takeSign w 25 59 M = _ from y2, bI_some]; rfl
theorem lerr (w : Nat) {M0 K0 : mM} {m i0 e : Nat} (fM : FrD M0 M) (fK : FrE K0 K) (eC : ErC M e) (eR : ErR K e) {rc : Option (Int32 × mM)} (hc : rc = some (0, M)) : Lns t m M0 K0 i0 rc (f_X12_takeSign w 163 59 K) := ⟨M, K, fM, fK, Or.inr ⟨e, hc, X12_takeSign_er w 59 eR, eC, eR⟩⟩
/-! names added -/
theorem nlk_add (E : NE) (l l' : List Nat) (c : Nat) : ∀ n, n ≤ E.1 → nlk (nAdd E l c) l' n = nlk E l' n := by
  intro n
  induction n with
  | zero => intro _; rfl
  | succ n ih =>
    intro hn
    have e1 : (nAdd E l c).2.1 n = E.2.1 n := if_neg (by omega)
    have e2 : (nAdd E l c).2.2 n = E.2.2 n := if_neg (by omega)
    rw [nlk, nlk, ih (by omega), e1, e2]
theorem nmd_add (E : NE) (l l' : List Nat) (c : Nat) : nmd (nAdd E l c) l' = match nmd E l' with
    | some c => some c
    | none => if l = l' then some c else none := by
  show nlk (nAdd E l c) l' (E.1 + 1) = _
  have e1 : (nAdd E l c).2.1 E.1 = l := if_pos rfl
  have e2 : (nAdd E l c).2.2 E.1 = c := if_pos rfl
  rw [nlk, nlk_add E l l' c E.1 (by omega), e1, e2]
  rfl
theorem nmd_no (oE : ∀ i, i < E.1 → True) {l : List Nat} (e : nmd E l = none) : ∀ j, j < E.1 → E.2.1 j ≠ l := nlk_none _ e
theorem NmR.add {a b k : Nat} (h : NmR M a b k E) (l : List Nat) (c : Nat) (e1 : N.1 163 k = nI (E.1 + 1)) (e2 : ∀ j, j < E.1 → N.2 a j = M.2 a j ∧ N.1 b j = M.1 b j) (e3 : N.2 a E.1 = rvW l) (e4 : N.1 b E.1 = nI c) : NmR N a b k (nAdd E l c) := by
  refine ⟨e1, fun j hj => ?_⟩
  have hj : j < E.1 + 1 := hj
  show N.2 a j = rvW (if j = E.1 then l else E.2.1 j) ∧ N.1 b j = nI (if j = E.1 then c else E.2.2 j)
  by_cases q : j = E.1
  · rw [if_pos q, if_pos q, q]; exact ⟨e3, e4⟩
  · rw [if_neg q, if_neg q, (e2 j (by omega)).1, (e2 j (by omega)).2]; exact h.2 j (by omega)
def rAdd (p : HP) : HP := ((pR p + 1, pD p, pP p), p.2)
def sAdd (p : HP) (r : Nat) : HP := ((pR p, pD p, pP p + 1), pA p, pB p, pW p, pG p, fun q => if q = pP p then r else pS p q)
theorem okE_new (oE : okE p E) (e : E.1 = pR p + pP p) {l : List Nat} (hl : okW l) (hno : nmd E l = none) {c : Nat} {p' : HP} (hc : (c = pR p ∧ pR p' = pR p + 1 ∧ pP p' = pP p) ∨ (c = 20 + pP p ∧ pR p' = pR p ∧ pP p' = pP p + 1)) (h12 : E.1 < 12) : okE p' (nAdd E l c) := by
  obtain ⟨o1, o2, o3, o4, o5⟩ := oE
  have hno := nlk_none _ hno
  have at1 : ∀ j, j < E.1 → (nAdd E l c).2.1 j = E.2.1 j ∧ (nAdd E l c).2.2 j = E.2.2 j := fun j hj => ⟨if_neg (by omega), if_neg (by omega)⟩
  have at2 : (nAdd E l c).2.1 E.1 = l ∧ (nAdd E l c).2.2 E.1 = c := ⟨if_pos rfl, if_pos rfl⟩
  refine ⟨by show E.1 + 1 ≤ 12; omega, fun j hj => ?_, fun i j hi hj q => ?_, fun r hr => ?_, fun r hr => ?_⟩
  · have hj : j < E.1 + 1 := hj
    by_cases z : j = E.1
    · rw [z, at2.1, at2.2]; exact ⟨hl, by omega⟩
    · rw [(at1 j (by omega)).1, (at1 j (by omega)).2]
      have := o2 j (by omega)
      exact ⟨this.1, by omega⟩
  · have hi : i < E.1 + 1 := hi
    have hj : j < E.1 + 1 := hj
    by_cases zi : i = E.1 <;> by_cases zj : j = E.1
    · omega
    · rw [zi, at2.1, (at1 j (by omega)).1] at q
      exact absurd q.symm (hno j (by omega))
    · rw [zj, at2.1, (at1 i (by omega)).1] at q
      exact absurd q (hno i (by omega))
    · rw [(at1 i (by omega)).1, (at1 j (by omega)).1] at q
      exact o3 i j (by omega) (by omega) q
  · rcases hc with ⟨h1, h2, h3⟩ | ⟨h1, h2, h3⟩
    · by_cases z : r = pR p
      · exact ⟨E.1, by show E.1 < E.1 + 1; omega, by rw [at2.2]; omega⟩
      · obtain ⟨j, hj, q⟩ := o4 r (by omega)
        exact ⟨j, by show j < E.1 + 1; omega, by rw [(at1 j hj).2]; exact q⟩
    · obtain ⟨j, hj, q⟩ := o4 r (by omega)
      exact ⟨j, by show j < E.1 + 1; omega, by rw [(at1 j hj).2]; exact q⟩
  · rcases hc with ⟨h1, h2, h3⟩ | ⟨h1, h2, h3⟩
    · obtain ⟨j, hj, q⟩ := o5 r (by omega)
      exact ⟨j, by show j < E.1 + 1; omega, by rw [(at1 j hj).2]; exact q⟩
    · by_cases z : r = pP p
      · exact ⟨E.1, by show E.1 < E.1 + 1; omega, by rw [at2.2]; omega⟩
      · obtain ⟨j, hj, q⟩ := o5 r (by omega)
        exact ⟨j, by show j < E.1 + 1; omega, by rw [(at1 j hj).2]; exact q⟩
/-! a new name -/
def nwq (t : TX) (i : Nat) (E : NE) : Nat := if isN t i then (match nmd E (tkW t (psn t i)) with
  | some _ => 3
  | none => 0) else 1
theorem isN_1 {i : Nat} (e : isN t i = true) : tkK t (psn t i) = 1 := by unfold isN at e; rw [Bool.and_eq_true, decide_eq_true_eq] at e; exact e.1
theorem X2_isNewName_eq (w : Nat) (hw : 1100 ≤ w) (hp : okP p) {i : Nat} (h : AtC M t i) (hM : M.1 13 0 = nI (pR p)) (hM2 : M.1 13 2 = nI (pP p)) (oE : okE p E) (hE : NmC M 13 E) : (nwq t i E = 0 ∧ f_X2_isNewName w 27 13 M = some (1, M) ∧ isN t i = true ∧ nmd E (tkW t (psn t i)) = none) ∨ ∃ N, nwq t i E ≠ 0 ∧ f_X2_isNewName w 27 13 M = some (0, N) ∧ FrB M N ∧ ErC N (er t i (nwq t i E)) := by
  have e1 := X10_isName_eq w hw h
  unfold f_X2_isNewName nwq
  rw [r27_0, e1, bI_some]
  cases q : isN t i
  · rw [if_pos (show b2i false = 0 from rfl), if_neg (show ¬ (false = true) by decide)]
    obtain ⟨N, a, b, d⟩ := X10_refuse_eq w (c := 1) h
    exact Or.inr ⟨N, by decide, by rw [show f_X10_refuse w 25 1 M = _ from a, bI_some]; rfl, b, d⟩
  · have hk := isN_1 q
    have hl := tkW_ok (psn_le (t := t) i) hk
    have hv : M.2 25 5 = cvW (tkW t (psn t i)) := h.2.2.2.2.1 hk
    have e2 := X6_roomNamed_eq w (by omega) hp rfl hM oE hE hl
    have e3 := X6_personNamed_eq w (by omega) hp (Or.inl rfl) hM2 oE (fun j hj => (hE j hj).2) hl
    rw [if_neg (show ¬ b2i true = 0 by decide), if_pos (show true = true from rfl), hv, e2, bI_some]
    cases z : nmd E (tkW t (psn t i)) with
    | none =>
      rw [z] at e3
      refine Or.inl ⟨rfl, ?_, rfl, rfl⟩
      rw [if_pos (show rmI none = -1 from rfl), hv, e3, bI_some, if_pos (show psI none = -1 from rfl)]; rfl
    | some c =>
      obtain ⟨N, a, b, d⟩ := X10_refuse_eq w (c := 3) h
      have h49 : f_X2_isNewName_49 w 27 M = some (0, N) := by
        unfold f_X2_isNewName_49
        rw [r27_0, show f_X10_refuse w 25 3 M = _ from a, bI_some]; rfl
      refine Or.inr ⟨N, show (3 : Nat) ≠ 0 by decide, ?_, b, d⟩
      obtain ⟨j, j1, j2, j3⟩ := nlk_some _ z
      have hcd := (oE.2.1 j j1).2
      have hp1 := hp.1
      have hp2 := hp.2.2.1
      by_cases c20 : c < 20
      · rw [if_neg (show ¬ rmI (some c) = -1 by show ¬ (if c < 20 then nI c else -1) = -1; rw [if_pos c20]; exact m1_ne c (by omega)), h49]
      · rw [z] at e3
        rw [if_pos (show rmI (some c) = -1 from if_neg c20), hv, e3, bI_some, if_neg (show ¬ psI (some c) = -1 by show ¬ (if c < 20 then -1 else nI (c - 20)) = -1; rw [if_neg c20]; exact m1_ne _ (by omega)), h49]
/-- the name, read by the reference -/
theorem X12_readName_eq (w : Nat) (hw : 1100 ≤ w) (ht : okT t) (hp : okP p) {m i : Nat} (h : AtR M t m i) (hk : tkK t (psn t i) ≠ 0) (oE : okE p E) (eE : E.1 = pR p + pP p) (hE : NmR M 173 175 19 E) {x base lim cnt : Nat} (hx : (x = 0 ∧ base = 0 ∧ lim = 7 ∧ cnt = pR p) ∨ (x = 2 ∧ base = 20 ∧ lim = 5 ∧ cnt = pP p)) (hc : M.1 169 (60 + x) = nI cnt) : ∃ N, f_X12_readName w 163 (nI x) (nI lim) (nI base) M = some N ∧ ((cnt = lim ∧ FrY M N ∧ ErR N (er t i 5)) ∨ (cnt < lim ∧ nwq t (i + 1) E ≠ 0 ∧ FrY M N ∧ ErR N (er t (i + 1) (nwq t (i + 1) E))) ∨ (cnt < lim ∧ nwq t (i + 1) E = 0 ∧ AtR N t m (i + 2) ∧ NmR N 173 175 19 (nAdd E (tkW t (psn t (i + 1))) (base + cnt)) ∧ N.1 169 = upd (M.1 169) (60 + x) (nI (cnt + 1)) ∧ (∀ c, c ≠ 163 → c ≠ 169 → c ≠ 175 → N.1 c = M.1 c) ∧ (∀ c, c ≠ 173 → N.2 c = M.2 c) ∧ ∀ j, j ≠ 7 → j ≠ 8 → j ≠ 19 → N.1 163 j = M.1 163 j)) := by
  have hp1 := hp.1
  have hp2 := hp.2.2.1
  have hm := h.1.1
  have him := h.2.1
  unfold f_X12_readName
  rw [r163_10, l169, show (60 : Int32) + nI x = nI (60 + x) from nI_add 60 x, chk_nI _ (by omega) (by omega), nI_clamp (by omega), hc, lt_eq]
  by_cases q : cnt = lim
  · obtain ⟨K1, a1, a2, a3⟩ := X12_wrong_eq w ht (c := 5) h (by omega) (by omega)
    rw [if_pos (by rw [q]), show f_X12_wrong w 163 5 M = _ from a1, bV_some]
    exact ⟨K1, rfl, Or.inl ⟨q, a2, a3⟩⟩
  · obtain ⟨f1, h1⟩ := h.step hk
    rw [if_neg (fun e => q ((nI_eq (by omega) (by omega)).mp e)), h.2.2.1, nI_1, lt_eq]
    generalize hM1 : wI M 163 7 (nI (i + 1)) = M1 at f1 h1 ⊢
    have hcl : cnt < lim := by omega
    rw [X12_isName_eq w hw h1, bI_some]
    have er61 : ∀ (N : mM) (e : Nat), ErR N e → f_X12_readName_61 w 163 (nI x) (nI base) (nI cnt) N = some N := fun N e hE => by
      unfold f_X12_readName_61
      rw [if_neg hE.ne]
    cases z : isN t (i + 1)
    · obtain ⟨K1, a1, a2, a3⟩ := X12_wrong_eq w ht (c := 1) h1 (by omega) (by omega)
      have nw : nwq t (i + 1) E = 1 := by unfold nwq; rw [z]; rfl
      rw [if_pos (show b2i false = 0 from rfl), show f_X12_wrong w 163 1 M1 = _ from a1, bV_some, er61 K1 _ a3]
      exact ⟨K1, rfl, Or.inr (Or.inl ⟨hcl, by rw [nw]; decide, f1.tr a2, by rw [nw]; exact a3⟩)⟩
    · have hk1 := isN_1 z
      have hE1 : NmR M1 173 175 19 E := ⟨by rw [f1.2.2 19 (by decide) (by decide)]; exact hE.1, fun j hj => by rw [f1.2.1, f1.1 175 (by decide)]; exact hE.2 j hj⟩
      rw [if_neg (show ¬ b2i true = 0 by decide), show f_X12_nameAt w 163 1 M1 = _ from X12_nameAt_eq w (by omega) h1 hk1 oE true hE1, bI_some]
      cases nm : nmd E (tkW t (psn t (i + 1))) with
      | some c =>
        have nw : nwq t (i + 1) E = 3 := by unfold nwq; rw [z, nm]; rfl
        obtain ⟨K1, a1, a2, a3⟩ := X12_wrong_eq w ht (c := 3) h1 (by omega) (by omega)
        obtain ⟨j, j1, j2, j3⟩ := nlk_some _ nm
        have hcd := (oE.2.1 j j1).2
        rw [if_neg (show ¬ cdI (some c) < 0 from fun e => by have := (nI_ltI (a := c) (b := 0) (by omega) (by omega)).mp e; omega), show f_X12_wrong w 163 3 M1 = _ from a1, bV_some, er61 K1 _ a3]
        exact ⟨K1, rfl, Or.inr (Or.inl ⟨hcl, by rw [nw]; decide, f1.tr a2, by rw [nw]; exact a3⟩)⟩
      | none =>
        have nw : nwq t (i + 1) E = 0 := by unfold nwq; rw [z, nm]; rfl
        have hi1 := h1.nx (by omega)
        have g0 : M1.1 163 8 = 0 := h1.2.2.2.1
        have g1 : M1.1 163 7 = nI (i + 1) := h1.2.2.1
        have g2 : M1.1 163 19 = nI E.1 := hE1.1
        have g3 : M1.2 167 (i + 1) = rvW (tkW t (psn t (i + 1))) := (h1.1.2.2.2 (i + 1) (by omega)).2.2.1 hk1
        have g4 : M1.1 169 (60 + x) = nI cnt := by rw [f1.1 169 (by decide)]; exact hc
        have hE12 : E.1 < 12 := by omega
        have key : f_X12_readName_61 w 163 (nI x) (nI base) (nI cnt) M1 = some (wI (wI (wI (wI (wL M1 173 E.1 (rvW (tkW t (psn t (i + 1))))) 175 E.1 (nI (base + cnt))) 163 19 (nI (E.1 + 1))) 163 7 (nI (i + 2))) 169 (60 + x) (nI (cnt + 1))) := by
          unfold f_X12_readName_61
          rw [g0, if_pos rfl, g1, g2, r163_6, r163_15, r163_17, r163_10, l167, l173, l175, l169, chk_nI _ (by omega) (by omega), chk_nI _ (by omega) (by omega), nI_clamp (by omega), nI_clamp (by omega), g3, lt_eq, wL_1, g2, chk_nI _ (by omega) (by omega), nI_clamp (by omega), nI_add, lt_eq, rI _ _ _ _ 163 19, if_neg (by decide), wL_1, g2, nI_1, lt_eq, rI _ _ _ _ 163 7, if_pos rfl, if_neg (by decide), rI _ _ _ _ 163 7, if_neg (by decide), wL_1, g1, nI_1, lt_eq, show (60 : Int32) + nI x = nI (60 + x) from nI_add 60 x, chk_nI _ (by omega) (by omega), chk_nI _ (by omega) (by omega), nI_clamp (by omega), rIc _ _ _ _ (show 169 ≠ 163 by decide), rIc _ _ _ _ (show 169 ≠ 163 by decide), rIc _ _ _ _ (show 169 ≠ 175 by decide), wL_1, g4, nI_1, lt_eq]
        rw [if_pos (show cdI none < 0 by decide), key]
        refine ⟨_, rfl, Or.inr (Or.inr ⟨hcl, nw, ?_, ?_, ?_, fun c h1 h2 h3 => ?_, fun c h1 => ?_, fun j a b d => ?_⟩)⟩
        · obtain ⟨a1, a2, a3, a4, a5⟩ := h1
          refine ⟨a1.fr ?_ ?_ ?_, by omega, ?_, ?_, fun k hk => ?_⟩
          · rw [rIc _ _ _ _ (by decide), rIc _ _ _ _ (by decide), rIc _ _ _ _ (by decide), rIc _ _ _ _ (by decide), wL_1]
          · rw [rIc _ _ _ _ (by decide), rIc _ _ _ _ (by decide), rIc _ _ _ _ (by decide), rIc _ _ _ _ (by decide), wL_1]
          · rw [rI2, rI2, rI2, rI2, rLc _ _ _ _ (by decide)]
          · rw [rIc _ _ _ _ (by decide), rI, if_pos rfl, if_pos rfl]
          · rw [rIc _ _ _ _ (by decide), rI, if_pos rfl, if_neg (by decide), rI, if_pos rfl, if_neg (by decide), rIc _ _ _ _ (by decide), wL_1]; exact a4
          · rw [rI2, rI2, rI2, rI2, rLc _ _ _ _ (by decide)]; exact a5 k hk
        · refine hE1.add _ _ ?_ (fun j hj => ⟨?_, ?_⟩) ?_ ?_
          · rw [rIc _ _ _ _ (by decide), rI, if_pos rfl, if_neg (by decide), rI, if_pos rfl, if_pos rfl]
          · rw [rI2, rI2, rI2, rI2, rL, if_pos rfl, if_neg (by omega)]
          · rw [rIc _ _ _ _ (by decide), rIc _ _ _ _ (by decide), rIc _ _ _ _ (by decide), rI, if_pos rfl, if_neg (by omega), wL_1]
          · rw [rI2, rI2, rI2, rI2, rL, if_pos rfl, if_pos rfl]
          · rw [rIc _ _ _ _ (by decide), rIc _ _ _ _ (by decide), rIc _ _ _ _ (by decide), rI, if_pos rfl, if_pos rfl]
        · rw [wI_set, setC_at, rIc _ _ _ _ (by decide), rIc _ _ _ _ (by decide), rIc _ _ _ _ (by decide), wL_1, f1.1 169 (by decide)]
        · rw [rIc _ _ _ _ h2, rIc _ _ _ _ h1, rIc _ _ _ _ h1, rIc _ _ _ _ h3, wL_1]; exact f1.1 c h1
        · rw [rI2, rI2, rI2, rI2, rLc _ _ _ _ h1, f1.2.1]
        · rw [rIc _ _ _ _ (by decide), rI, if_pos rfl, if_neg a, rI, if_pos rfl, if_neg d, rIc _ _ _ _ (by decide), wL_1]; exact f1.2.2 j a b
end DRAFT
