/-! ===== judged ===== -/
abbrev LN : Type := Nat × (Nat → Nat) × (Nat → Nat) × (Nat → Nat)
def okLn (p : HP) (L : LN) : Prop := L.1 ≤ 40 ∧ ∀ i, i < L.1 → L.2.1 i ≤ 4 ∧ L.2.2.1 i < 8 ∧ L.2.2.2 i < 8 ∧ (L.2.1 i = 1 → L.2.2.2 i < pP p)
def LiC (M : mM) (L : LN) : Prop := M.1 0 13 = nI L.1 ∧ ∀ i, i < L.1 → M.1 30 i = nI (L.2.1 i + 8 * L.2.2.1 i + 64 * L.2.2.2 i)
def LiR (M : mM) (L : LN) : Prop := M.1 176 0 = nI L.1 ∧ ∀ i, i < L.1 → M.1 176 (1 + 3 * i) = nI (L.2.1 i) ∧ M.1 176 (2 + 3 * i) = nI (L.2.2.1 i) ∧ M.1 176 (3 + 3 * i) = nI (L.2.2.2 i)
/-- what the class's questions may write, judged and years among them -/
def FC2 (M N : mM) : Prop := (∀ c, c ∉ [12, 35, 36, 37, 38, 157, 158, 159, 161, 162] → N.1 c = M.1 c) ∧ ∀ c j, (c ≠ 0 ∨ j ≠ 14) → N.2 c j = M.2 c j
def FrT2 (M N : mM) : Prop := (∀ c, c ∉ [177, 178, 179, 181, 182, 183, 184] → N.1 c = M.1 c) ∧ (∀ c j, (c ≠ 163 ∨ j ≠ 31) → N.2 c j = M.2 c j) ∧ ∀ j, j < 1365 → N.1 179 j = M.1 179 j
def Al2 (f g : mM → Option (Int32 × mM)) (M : mM) : Prop := ∃ v N K, f M = some (v, N) ∧ FC2 M N ∧ g N = some (v, K) ∧ FrT2 (th0 N) K
theorem FC.two {M N : mM} (f : FC M N) : FC2 M N := ⟨fun c hc => f.1 c (fun q => hc (by simp at q ⊢; omega)), fun c j _ => by rw [f.2]⟩
theorem FrT.two {M N : mM} (f : FrT M N) : FrT2 M N := ⟨f.1.1, fun c j _ => by rw [f.1.2], f.2⟩
theorem Al.two {f g : mM → Option (Int32 × mM)} {M : mM} (a : Al f g M) : Al2 f g M := by
  obtain ⟨v, N, K, e1, f1, e2, f2⟩ := a
  exact ⟨v, N, K, e1, f1.two, e2, f2.two⟩
def shM (p : HP) (h : HS) : Int32 := mask (fun q => shq p h (sPl h q)) 0 0 (pP p)
/-- the judging of the first i lines: the state, the first that couldn't be, the first with one shut in -/
def jst (p : HP) (x : HX) (L : LN) : Nat → HS × Int32 × Int32
  | 0 => (beg p, -1, -1)
  | i + 1 =>
    ((jdw p x (jst p x L i).1 (L.2.1 i) (L.2.2.1 i) (L.2.2.2 i)).2,
     (if (jdw p x (jst p x L i).1 (L.2.1 i) (L.2.2.1 i) (L.2.2.2 i)).1 then (jst p x L i).2.1 else if (jst p x L i).2.1 = -1 then nI i else (jst p x L i).2.1),
     if (jst p x L i).2.2 = -1 then (if shM p (jdw p x (jst p x L i).1 (L.2.1 i) (L.2.2.1 i) (L.2.2.2 i)).2 = 0 then -1 else nI i) else (jst p x L i).2.2)
section JUDGED
variable {p : HP} {x : HX} {h : HS} {L : LN} {M N : mM}
theorem jst_ok (hp : okP p) (ol : okLn p L) : ∀ i, i ≤ L.1 → okS p (jst p x L i).1 ∧ sDay (jst p x L i).1 ≤ i := by
  intro i
  induction i with
  | zero => intro _; exact ⟨beg_ok hp, Nat.le_refl _⟩
  | succ i ih =>
    intro hi
    obtain ⟨a, b⟩ := ih (by omega)
    have h40 := ol.1
    have := jdw_ok (x := x) hp a (by omega) (L.2.1 i) (L.2.2.1 i) (L.2.2.2 i)
    exact ⟨this.1, by have := this.2; show sDay (jdw p x (jst p x L i).1 (L.2.1 i) (L.2.2.1 i) (L.2.2.2 i)).2 ≤ i + 1; omega⟩
theorem jst_v : ∀ i, i ≤ 1000 → ((jst p x L i).2.1 = -1 ∨ ∃ n, n < i ∧ (jst p x L i).2.1 = nI n) ∧ ((jst p x L i).2.2 = -1 ∨ ∃ n, n < i ∧ (jst p x L i).2.2 = nI n) := by
  intro i
  induction i with
  | zero => intro _; exact ⟨Or.inl rfl, Or.inl rfl⟩
  | succ i ih =>
    intro hi
    obtain ⟨a, b⟩ := ih (by omega)
    refine ⟨?_, ?_⟩
    · rw [show (jst p x L (i + 1)).2.1 = (if (jdw p x (jst p x L i).1 (L.2.1 i) (L.2.2.1 i) (L.2.2.2 i)).1 then (jst p x L i).2.1 else if (jst p x L i).2.1 = -1 then nI i else (jst p x L i).2.1) from rfl]
      split
      · rcases a with a | ⟨n, hn, a⟩
        · exact Or.inl a
        · exact Or.inr ⟨n, by omega, a⟩
      · split
        · exact Or.inr ⟨i, by omega, rfl⟩
        · rcases a with a | ⟨n, hn, a⟩
          · exact Or.inl a
          · exact Or.inr ⟨n, by omega, a⟩
    · rw [show (jst p x L (i + 1)).2.2 = (if (jst p x L i).2.2 = -1 then (if shM p (jdw p x (jst p x L i).1 (L.2.1 i) (L.2.2.1 i) (L.2.2.2 i)).2 = 0 then -1 else nI i) else (jst p x L i).2.2) from rfl]
      split
      · split
        · exact Or.inl rfl
        · exact Or.inr ⟨i, by omega, rfl⟩
      · rcases b with b | ⟨n, hn, b⟩
        · exact Or.inl b
        · exact Or.inr ⟨n, by omega, b⟩
theorem v_ge {y : Int32} {i : Nat} (hi : i ≤ 1000) (e : y = -1 ∨ ∃ n, n < i ∧ y = nI n) : (0 ≤ y ↔ ¬ y = -1) := by
  rcases e with e | ⟨n, hn, e⟩
  · rw [e]; decide
  · rw [e]
    exact ⟨fun _ => m1_ne n (by omega), fun _ => (nI_leI (a := 0) (by omega) (by omega)).mpr (by omega)⟩
def jvl (p : HP) (x : HX) (L : LN) (a : Int32) : Int32 := if a = 0 then (jst p x L L.1).2.1 else if a = 1 then (jst p x L L.1).2.2 else nI (pop (stkM p (jst p x L L.1).1))
theorem mem35 : 35 ∈ [31, 35, 41, 45, 49, 53, 57, 61, 65, 69, 73, 77, 81, 85, 89, 93, 97, 101, 119, 130, 141, 152] := by decide
theorem X11_judged_26_eq (w : Nat) (hw : 1100 ≤ w) (Q : QC p x h M) (ol : okLn p L) (hl : LiC M L) (a : Int32) : ∃ N, (bV (f_X9_begin w 35 M) fun M1 => f_X11_judged_26 w w 0 a (-1) (-1) 0 M1) = some (jvl p x L a, N) ∧ Fr [12, 35, 36, 37, 38] M N := by
  have hp := Q.1
  have hx := Q.2.1
  have h40 := ol.1
  obtain ⟨M1, e1, f1, s1⟩ := X9_begin_eq w (by omega) mem35 (by omega) hp Q.2.2.2.2.1
  rw [e1, bV_some]
  refine loopX (fun i (s : (Int32 × Int32) × mM) => Fr [12, 35, 36, 37, 38] M s.2 ∧ StC s.2 35 p (jst p x L i).1 ∧ s.1 = (jst p x L i).2) (fun n (s : (Int32 × Int32) × mM) i => f_X11_judged_26 w n 0 a s.1.1 s.1.2 (nI i) s.2) L.1 (fun r => ∃ N, r = some (jvl p x L a, N) ∧ Fr [12, 35, 36, 37, 38] M N) ?_ ?_ L.1 w 0 ((-1, -1), M1) (by omega) (by omega) ⟨f1.mono (by decide), s1, rfl⟩
  · rintro n ⟨⟨y, z⟩, N⟩ ⟨f, s, e⟩
    have f : Fr [12, 35, 36, 37, 38] M N := f
    have s : StC N 35 p (jst p x L L.1).1 := s
    have e : (y, z) = (jst p x L L.1).2 := e
    have ey : y = (jst p x L L.1).2.1 := congrArg Prod.fst e
    have ez : z = (jst p x L L.1).2.2 := congrArg Prod.snd e
    have cN : PlC N 1 p := Q.2.2.2.2.1.fr (fun c h1 => f.1 c (by simp; omega))
    have l0 : N.1 0 13 = nI L.1 := by rw [f.1 0 (by decide)]; exact hl.1
    refine ⟨N, ?_, f⟩
    show f_X11_judged_26 w (n + 1) 0 a y z (nI L.1) N = _
    rw [f_X11_judged_26, l0, if_pos (Int32.le_refl _)]
    unfold f_X11_judged_95 jvl
    rw [r0_7, X9_stuckDoors_eq w (by omega) mem35 hp (jst_ok hp ol L.1 (Nat.le_refl _)).1 s cN.2.1, bI_some, J6_bitCount_eq w (stk_8 hp), bI_some, ey, ez]
    by_cases a0 : a = 0
    · rw [if_pos a0, if_pos a0]
    · rw [if_neg a0, if_neg a0]
      by_cases a1 : a = 1
      · rw [if_pos a1, if_pos a1]
      · rw [if_neg a1, if_neg a1]
  · rintro n ⟨⟨y, z⟩, N⟩ i hi ⟨f, s, e⟩
    have f : Fr [12, 35, 36, 37, 38] M N := f
    have s : StC N 35 p (jst p x L i).1 := s
    have e : (y, z) = (jst p x L i).2 := e
    have ey : y = (jst p x L i).2.1 := congrArg Prod.fst e
    have ez : z = (jst p x L i).2.2 := congrArg Prod.snd e
    have cN : PlC N 1 p := Q.2.2.2.2.1.fr (fun c h1 => f.1 c (by simp; omega))
    have xN : XC N 1 x := Q.2.2.2.2.2.1.fr (fun c h1 => f.1 c (by simp; omega))
    have l0 : N.1 0 13 = nI L.1 := by rw [f.1 0 (by decide)]; exact hl.1
    have l1 : N.1 30 i = nI (L.2.1 i + 8 * L.2.2.1 i + 64 * L.2.2.2 i) := by rw [f.1 30 (by decide)]; exact hl.2 i hi
    obtain ⟨o1, o2, o3, o5⟩ := ol.2 i hi
    obtain ⟨K, eK, fK, sK⟩ := X9_followLine_eqw w hw mem35 (by omega) hp hx (jst_ok (x := x) hp ol i (by omega)).1 cN xN s o1 o2 o3 o5
    have cK : PlC K 1 p := cN.fr (fun c h1 => fK.1 c (by simp; omega))
    have okK := (jst_ok (x := x) hp ol (i + 1) (by omega)).1
    have sh := X9_shutPersons_eq w (by omega) mem35 hp okK cK sK
    have e71 : ∀ y' : Int32, f_X11_judged_71 w (f_X11_judged_26 w n) 0 a y' z (nI i) K = f_X11_judged_26 w n 0 a y' (jst p x L (i + 1)).2.2 (nI (i + 1)) K := fun y' => by
      unfold f_X11_judged_71
      show _ = f_X11_judged_26 w n 0 a y' (if (jst p x L i).2.2 = -1 then (if shM p (jst p x L (i + 1)).1 = 0 then -1 else nI i) else (jst p x L i).2.2) (nI (i + 1)) K
      rw [r0_7, sh, bI_some, nI_1, ez]
      by_cases q : (jst p x L i).2.2 = -1
      · rw [if_pos q, if_pos q, q]
        show (if shM p (jst p x L (i + 1)).1 = 0 then _ else _) = _
        by_cases q2 : shM p (jst p x L (i + 1)).1 = 0
        · rw [if_pos q2, if_pos q2]
        · rw [if_neg q2, if_neg q2]
      · rw [if_neg q, if_neg q]
    refine Or.inr ⟨((jst p x L (i + 1)).2, K), ?_, f.tr fK, sK, rfl⟩
    show f_X11_judged_26 w (n + 1) 0 a y z (nI i) N = f_X11_judged_26 w n 0 a (jst p x L (i + 1)).2.1 (jst p x L (i + 1)).2.2 (nI (i + 1)) K
    rw [f_X11_judged_26, l0, if_neg (fun h => by have := (nI_leI (by omega) (by omega)).mp h; omega), if_neg (fun h => by have := (nI_leI (a := 40) (by omega) (by omega)).mp h; omega), r0_5, r0_7, l30, chk_nI _ (by omega) (by omega), nI_clamp (by omega), l1, eK, bI_some, e71, e71, ey]
    show _ = f_X11_judged_26 w n 0 a (if (jdw p x (jst p x L i).1 (L.2.1 i) (L.2.2.1 i) (L.2.2.2 i)).1 then (jst p x L i).2.1 else if (jst p x L i).2.1 = -1 then nI i else (jst p x L i).2.1) _ _ K
    cases (jdw p x (jst p x L i).1 (L.2.1 i) (L.2.2.1 i) (L.2.2.2 i)).1
    · rw [if_pos (show b2i false = 0 from rfl), if_neg (show ¬ (false = true) by decide)]
      by_cases q : (jst p x L i).2.1 = -1
      · rw [if_pos q, if_pos q]
      · rw [if_neg q, if_neg q]
    · rw [if_neg (show ¬ b2i true = 0 by decide), if_pos (show true = true from rfl)]
/-! the reference -/
theorem X12_can_eq (w : Nat) {b : Nat} (hb : b = 1365) (hp : okP p) (hh : okS p h) (hc : PlR M 0 p) (hs : StR M b p h) {k d q : Nat} (hk : k ≤ 4) (hd : k = 0 ∨ d < pD p) (hq : k = 1 → q < pP p) : f_X12_can w 163 (nI k) (nI d) (nI q) M = some (b2i (jdo p x h k d q).1, M) := by
  subst hb
  have hD := hp.2.1
  unfold f_X12_can f_X12_can_85
  have hkk : k = 0 ∨ k = 1 ∨ k = 2 ∨ k = 3 ∨ k = 4 := by omega
  rcases hkk with rfl | rfl | rfl | rfl | rfl
  · rw [if_pos (by decide)]; rfl
  · have hd := hd.resolve_left (by decide)
    rw [if_neg (by decide), X12_isDoor_eq w _ hc, has_yes hd (by omega), bI_some, if_neg (show ¬ (1 : Int32) = 0 by decide), if_pos (by decide), show f_X12_mayWalk w 163 1365 (nI q) (nI d) M = _ from X12_mayWalk_in (by omega) hp hh hc hs w (hq rfl) hd, bI_some]
    show _ = some (b2i (wkq p h q d), M)
    cases wkq p h q d <;> rfl
  · have hd := hd.resolve_left (by decide)
    have hgb := (hh.2.1 d hd).1
    rw [if_neg (by decide), X12_isDoor_eq w _ hc, has_yes hd (by omega), bI_some, if_neg (show ¬ (1 : Int32) = 0 by decide), if_neg (by decide), if_pos (by decide), r163_24, l179, show (1367 : Int32) + nI d = nI (1365 + 2 + d) by show nI 1367 + nI d = _; rw [nI_add], chk_nI _ (by omega) (by omega), nI_clamp (by omega), (hs.2.2.1 d hd).1]
    show _ = some (b2i (decide (sGap h d < 20)), M)
    by_cases e : sGap h d < 20
    · rw [if_neg (show ¬ (20 : Int32) ≤ nI _ from fun e2 => by have := (nI_leI (a := 20) (by omega) (by omega)).mp e2; omega), decide_eq_true e]; rfl
    · rw [if_pos (show (20 : Int32) ≤ nI _ from (nI_leI (a := 20) (by omega) (by omega)).mpr (by omega)), decide_eq_false e]; rfl
  · have hd := hd.resolve_left (by decide)
    rw [if_neg (by decide), X12_isDoor_eq w _ hc, has_yes hd (by omega), bI_some, if_neg (show ¬ (1 : Int32) = 0 by decide), if_neg (by decide), if_neg (by decide), if_pos (by decide), show f_X12_mayWedge w 163 1365 (nI d) M = _ from X12_mayWedge_in (by omega) hp hh hc hs w hd, bI_some]
    show _ = some (b2i (!stk h d), M)
    cases stk h d <;> rfl
  · have hd := hd.resolve_left (by decide)
    rw [if_neg (by decide), X12_isDoor_eq w _ hc, has_yes hd (by omega), bI_some, if_neg (show ¬ (1 : Int32) = 0 by decide), if_neg (by decide), if_neg (by decide), if_neg (by decide), show f_X12_mayForce w 163 1365 (nI d) M = _ from X12_mayForce_in (by omega) hp hh hc hs w hd, bI_some]
    show _ = some (b2i (fcq h d), M)
    cases fcq h d <;> rfl
theorem X12_judged_108_eq (w : Nat) (hw : 1100 ≤ w) (hp : okP p) (hx : okX x) (hh : okS p h) (hday : sDay h + 1 < 100000) (hc : PlR M 0 p) (hxc : XR M 0 0 x) (hs : StR M 1365 p h) {k d q : Nat} (hk : k ≤ 4) (hd : k = 0 ∨ d < pD p) (hq : k = 1 → q < pP p) (k31 : Nat → Int32 → Int32 → Int32 → Int32 → mM → Option (Int32 × mM)) (a y z i : Int32) : ∃ N, FrT M N ∧ StR N 1365 p (jdo p x h k d q).2 ∧ f_X12_judged_108 w k31 163 a z i (nI k) (nI d) (nI q) (b2i (jdo p x h k d q).1) y M = f_X12_judged_234 w k31 163 a y z i N := by
  have hD := hp.2.1
  have hP := hp.2.2.1
  have fw : ∀ j v, 1365 ≤ j → FrT M (wI M 179 j v) := fun j v hj => ⟨(Fr.rf _ M).wI (by decide) _ _, fun i hi => by rw [wI_set, setC_at, upd_ne _ _ (by omega)]⟩
  unfold f_X12_judged_108
  have hkk : k = 0 ∨ k = 1 ∨ k = 2 ∨ k = 3 ∨ k = 4 := by omega
  rcases hkk with rfl | rfl | rfl | rfl | rfl
  · obtain ⟨N, e, f, s, j⟩ := X12_passes__eq w hw hp hx hh hc hxc (b := 1365) (by omega) hs
    refine ⟨N, ⟨f.mono (by decide), fun i hi => j i (by omega)⟩, s, ?_⟩
    rw [if_pos (by decide), show f_X12_passes_ w 163 1365 M = _ from e, bV_some]
  · have hd := hd.resolve_left (by decide)
    have hq := hq rfl
    rw [if_neg (by decide)]
    show ∃ N, FrT M N ∧ StR N 1365 p (if wkq p h q d then _ else h) ∧ (if b2i (wkq p h q d) = 0 then _ else _) = _
    cases ew : wkq p h q d
    · refine ⟨M, FrT.rf M, hs, ?_⟩
      rw [if_pos (show b2i false = 0 from rfl)]
      show f_X12_judged_149 w k31 163 a y z i (nI 1) (nI d) (b2i (wkq p h q d)) M = _
      rw [ew]
      unfold f_X12_judged_149 f_X12_judged_178 f_X12_judged_207
      rw [if_pos (show b2i false = 0 from rfl), if_pos (show b2i false = 0 from rfl), if_pos (show b2i false = 0 from rfl)]
    · have ea : adj p (sPl h q) d = true := by unfold wkq at ew; rw [Bool.and_eq_true] at ew; exact ew.2
      refine ⟨wI M 179 (1365 + 18 + q) (nI (bhn p d (sPl h q))), fw _ _ (by omega), hs.l hp hq _, ?_⟩
      rw [if_neg (show ¬ b2i true = 0 by decide), if_pos (by decide), show f_X12_walks w 163 1365 (nI q) (nI d) M = _ from X12_walks_in (b := 1365) (by omega) hp hh hc hs w hq hd ea, bV_some]
  · have hd := hd.resolve_left (by decide)
    rw [if_neg (by decide), if_neg (show ¬ nI 2 = 1 by decide), ite_self]
    show ∃ N, FrT M N ∧ StR N 1365 p (if sGap h d < 20 then _ else h) ∧ f_X12_judged_149 w k31 163 a y z i (nI 2) (nI d) (b2i (decide (sGap h d < 20))) M = _
    by_cases e : sGap h d < 20
    · rw [if_pos e, decide_eq_true e]
      refine ⟨wI M 179 (1365 + 2 + d) (nI (sGap h d + 1)), fw _ _ (by omega), hs.g hp hd _, ?_⟩
      unfold f_X12_judged_149
      rw [if_neg (show ¬ b2i true = 0 by decide), if_pos (by decide), r163_24, l179, show (1367 : Int32) + nI d = nI (1365 + 2 + d) by show nI 1367 + nI d = _; rw [nI_add], chk_nI _ (by omega) (by omega), chk_nI _ (by omega) (by omega), nI_clamp (by omega), (hs.2.2.1 d hd).1, nI_1, lt_eq]
    · rw [if_neg e, decide_eq_false e]
      refine ⟨M, FrT.rf M, hs, ?_⟩
      unfold f_X12_judged_149 f_X12_judged_178 f_X12_judged_207
      rw [if_pos (show b2i false = 0 from rfl), if_pos (show b2i false = 0 from rfl), if_pos (show b2i false = 0 from rfl)]
  · have hd := hd.resolve_left (by decide)
    rw [if_neg (by decide), if_neg (show ¬ nI 3 = 1 by decide), ite_self]
    show ∃ N, FrT M N ∧ StR N 1365 p (if stk h d then h else _) ∧ f_X12_judged_149 w k31 163 a y z i (nI 3) (nI d) (b2i (!stk h d)) M = _
    cases es : stk h d
    · refine ⟨wI M 179 (1365 + 1) (sWed h ^^^ one d), fw _ _ (by omega), hs.w _, ?_⟩
      have gw : M.1 179 1366 = sWed h := hs.2.1
      unfold f_X12_judged_149 f_X12_judged_178
      rw [if_neg (show ¬ b2i (!false) = 0 by decide), if_neg (by decide), if_neg (show ¬ b2i (!false) = 0 by decide), if_pos (by decide), r163_24, l179, show chk (1366 : Int32) 1495 = chk (nI 1366) 1495 from rfl, chk_nI _ (by omega) (by omega), chk_nI _ (by omega) (by omega), show (1366 : Int32).toNatClampNeg = 1366 from rfl, gw, lt_eq]
      rfl
    · refine ⟨M, FrT.rf M, hs, ?_⟩
      unfold f_X12_judged_149 f_X12_judged_178 f_X12_judged_207
      rw [if_pos (show b2i (!true) = 0 from rfl), if_pos (show b2i (!true) = 0 from rfl), if_pos (show b2i (!true) = 0 from rfl)]
  · have hd := hd.resolve_left (by decide)
    rw [if_neg (by decide), if_neg (show ¬ nI 4 = 1 by decide), ite_self]
    show ∃ N, FrT M N ∧ StR N 1365 p (if fcq h d then _ else h) ∧ f_X12_judged_149 w k31 163 a y z i (nI 4) (nI d) (b2i (fcq h d)) M = _
    cases es : fcq h d
    · refine ⟨M, FrT.rf M, hs, ?_⟩
      unfold f_X12_judged_149 f_X12_judged_178 f_X12_judged_207
      rw [if_pos (show b2i false = 0 from rfl), if_pos (show b2i false = 0 from rfl), if_pos (show b2i false = 0 from rfl)]
    · refine ⟨wI M 179 (1365 + 2 + d) (nI (sSw h d)), fw _ _ (by omega), hs.g hp hd _, ?_⟩
      unfold f_X12_judged_149 f_X12_judged_178 f_X12_judged_207
      rw [if_neg (show ¬ b2i true = 0 by decide), if_neg (by decide), if_neg (show ¬ b2i true = 0 by decide), if_neg (by decide), if_neg (show ¬ b2i true = 0 by decide), r163_24, l179, show (1375 : Int32) + nI d = nI (1365 + 10 + d) by show nI 1375 + nI d = _; rw [nI_add], show (1367 : Int32) + nI d = nI (1365 + 2 + d) by show nI 1367 + nI d = _; rw [nI_add], chk_nI _ (by omega) (by omega), chk_nI _ (by omega) (by omega), nI_clamp (by omega), nI_clamp (by omega), (hs.2.2.1 d hd).2, lt_eq]
theorem X12_can_eqw (w : Nat) {b : Nat} (hb : b = 1365) (hp : okP p) (hh : okS p h) (hc : PlR M 0 p) (hs : StR M b p h) {k d q : Nat} (hk : k ≤ 4) (hd8 : d < 8) (hq : k = 1 → q < pP p) : f_X12_can w 163 (nI k) (nI d) (nI q) M = some (b2i (jdw p x h k d q).1, M) := by
  by_cases z : k ≠ 0 ∧ pD p ≤ d
  · have hD := hp.2.1
    have e : jdw p x h k d q = (false, h) := by unfold jdw; rw [if_pos z]
    rw [e]
    unfold f_X12_can
    rw [if_neg (show ¬ nI k = 0 from fun e => z.1 ((nI_eq (b := 0) (by omega) (by omega)).mp e)), X12_isDoor_eq w _ hc, has_no (Or.inr ((nI_leI (by omega) (by omega)).mpr z.2)), bI_some, if_pos rfl]; rfl
  · have e : jdw p x h k d q = jdo p x h k d q := by unfold jdw; rw [if_neg z]
    rw [e]
    exact X12_can_eq w hb hp hh hc hs hk (by omega) hq
theorem X12_judged_108_eqw (w : Nat) (hw : 1100 ≤ w) (hp : okP p) (hx : okX x) (hh : okS p h) (hday : sDay h + 1 < 100000) (hc : PlR M 0 p) (hxc : XR M 0 0 x) (hs : StR M 1365 p h) {k d q : Nat} (hk : k ≤ 4) (hd8 : d < 8) (hq : k = 1 → q < pP p) (k31 : Nat → Int32 → Int32 → Int32 → Int32 → mM → Option (Int32 × mM)) (a y z i : Int32) : ∃ N, FrT M N ∧ StR N 1365 p (jdw p x h k d q).2 ∧ f_X12_judged_108 w k31 163 a z i (nI k) (nI d) (nI q) (b2i (jdw p x h k d q).1) y M = f_X12_judged_234 w k31 163 a y z i N := by
  by_cases zz : k ≠ 0 ∧ pD p ≤ d
  · have e : jdw p x h k d q = (false, h) := by unfold jdw; rw [if_pos zz]
    rw [e]
    refine ⟨M, FrT.rf M, hs, ?_⟩
    unfold f_X12_judged_108 f_X12_judged_149 f_X12_judged_178 f_X12_judged_207
    rw [if_neg (show ¬ nI k = 0 from fun e => zz.1 ((nI_eq (b := 0) (by omega) (by omega)).mp e)), if_pos (show b2i false = 0 from rfl), if_pos (show b2i false = 0 from rfl), if_pos (show b2i false = 0 from rfl), if_pos (show b2i false = 0 from rfl)]
  · have e : jdw p x h k d q = jdo p x h k d q := by unfold jdw; rw [if_neg zz]
    rw [e]
    exact X12_judged_108_eq w hw hp hx hh hday hc hxc hs hk (by omega) hq k31 a y z i
theorem X11_judged_eq (w : Nat) (hw : 1100 ≤ w) (Q : QC p x h M) (R : QF p x h M) (ol : okLn p L) (hl : LiC M L) (hlr : LiR M L) (a : Int32) : Al2 (f_X11_judged w 0 a) (f_X12_judged w 163 a) M := by
  have hp := Q.1
  have hx := Q.2.1
  have h40 := ol.1
  by_cases a0 : a < 0
  · refine (Al.of ⟨-2, by unfold f_X11_judged; rw [if_pos a0], ?_⟩).two
    unfold f_X12_judged
    rw [lt_eq, X12_within_eq, bI_some, decide_eq_true a0]; rfl
  by_cases a1 : 2 < a
  · refine (Al.of ⟨-2, by unfold f_X11_judged; rw [if_neg a0, if_neg (Int32.not_le.mpr a1)], ?_⟩).two
    unfold f_X12_judged
    rw [lt_eq, X12_within_eq, bI_some, decide_eq_true a1, Bool.not_true, Bool.and_false]; rfl
  obtain ⟨N, e, f⟩ := X11_judged_26_eq w hw Q ol hl a
  have R2 : QF p x h (th0 N) := (R.fr (N := N) (fun c h1 h2 => f.1 c (by simp; omega)) (fun j _ => by rw [f.1 179 (by decide)])).th0
  have hl2 : LiR (th0 N) L := by
    have e176 : (th0 N).1 176 = M.1 176 := by rw [th0_1 _ (by decide), f.1 176 (by decide)]
    unfold LiR
    rw [e176]; exact hlr
  obtain ⟨M1, e1, f1, j1, s1⟩ := X12_starts_eq w (by omega) (b := 1365) (by omega) hp R2.2.2.2.2.1
  have fT1 : FrT (th0 N) M1 := ⟨f1.mono (by decide), fun i hi => j1 i (by omega)⟩
  have key : ∃ K, f_X12_judged_31 w w 163 a (-1) (-1) 0 M1 = some (jvl p x L a, K) ∧ FrT (th0 N) K := by
    refine loopX (fun i (s : (Int32 × Int32) × mM) => FrT (th0 N) s.2 ∧ StR s.2 1365 p (jst p x L i).1 ∧ s.1 = (jst p x L i).2) (fun n (s : (Int32 × Int32) × mM) i => f_X12_judged_31 w n 163 a s.1.1 s.1.2 (nI i) s.2) L.1 (fun r => ∃ K, r = some (jvl p x L a, K) ∧ FrT (th0 N) K) ?_ ?_ L.1 w 0 ((-1, -1), M1) (by omega) (by omega) ⟨fT1, s1, rfl⟩
    · rintro n ⟨⟨y, z⟩, K⟩ ⟨fK, s, e⟩
      have fK : FrT (th0 N) K := fK
      have s : StR K 1365 p (jst p x L L.1).1 := s
      have e : (y, z) = (jst p x L L.1).2 := e
      have ey : y = (jst p x L L.1).2.1 := congrArg Prod.fst e
      have ez : z = (jst p x L L.1).2.2 := congrArg Prod.snd e
      have l0 : K.1 176 0 = nI L.1 := by rw [fK.1.1 176 (by decide)]; exact hl2.1
      have hst := X12_sticking_eq w (by omega) (b := 1365) (by omega) hp (jst_ok (x := x) hp ol L.1 (Nat.le_refl _)).1 s (fK.plr R2.2.2.2.2.1).2.1
      refine ⟨K, ?_, fK⟩
      show f_X12_judged_31 w (n + 1) 163 a y z (nI L.1) K = _
      rw [f_X12_judged_31, r163_21, l176, show chk (0 : Int32) 250 = chk (nI 0) 250 from rfl, chk_nI _ (by omega) (by omega), show (0 : Int32).toNatClampNeg = 0 from rfl, l0, if_pos (Int32.le_refl _)]
      unfold f_X12_judged_261 jvl
      rw [show f_X12_sticking w 163 1365 K = _ from hst, bI_some, X12_bits_eq w (by omega) (stk_8 hp), bI_some, ey, ez]
      by_cases a0 : a = 0
      · rw [if_pos a0, if_pos a0]
      · rw [if_neg a0, if_neg a0]
        by_cases a1 : a = 1
        · rw [if_pos a1, if_pos a1]
        · rw [if_neg a1, if_neg a1]
    · rintro n ⟨⟨y, z⟩, K⟩ i hi ⟨fK, s, e⟩
      have fK : FrT (th0 N) K := fK
      have s : StR K 1365 p (jst p x L i).1 := s
      have e : (y, z) = (jst p x L i).2 := e
      have ey : y = (jst p x L i).2.1 := congrArg Prod.fst e
      have ez : z = (jst p x L i).2.2 := congrArg Prod.snd e
      have hrK := fK.plr R2.2.2.2.2.1
      have e176 : K.1 176 = (th0 N).1 176 := fK.1.1 176 (by decide)
      have l0 : K.1 176 0 = nI L.1 := by rw [e176]; exact hl2.1
      obtain ⟨q1, q2, q3⟩ := hl2.2 i hi
      rw [← e176] at q1 q2 q3
      obtain ⟨o1, o2, o3, o5⟩ := ol.2 i hi
      obtain ⟨oki, dayi⟩ := jst_ok (x := x) hp ol i (by omega)
      have okK := (jst_ok (x := x) hp ol (i + 1) (by omega)).1
      have hcan := X12_can_eqw (x := x) w rfl hp oki hrK s o1 o2 o5
      have h108 := fun y' => X12_judged_108_eqw w hw hp hx oki (by omega) hrK (fK.xr R2.2.2.2.2.2.1) s o1 o2 o5 (f_X12_judged_31 w n) a y' z (nI i)
      have fin : ∀ y' (K2 : mM), FrT K K2 → StR K2 1365 p (jst p x L (i + 1)).1 → f_X12_judged_234 w (f_X12_judged_31 w n) 163 a y' z (nI i) K2 = f_X12_judged_31 w n 163 a y' (jst p x L (i + 1)).2.2 (nI (i + 1)) K2 := fun y' K2 f2 s2 => by
        have sh := X12_shutIn_eq w (by omega) (b := 1365) (by omega) hp okK (f2.plr hrK) s2
        unfold f_X12_judged_234
        show _ = f_X12_judged_31 w n 163 a y' (if (jst p x L i).2.2 = -1 then (if shM p (jst p x L (i + 1)).1 = 0 then -1 else nI i) else (jst p x L i).2.2) (nI (i + 1)) K2
        have hz := (jst_v (p := p) (x := x) (L := L) i (by omega)).2
        rw [show f_X12_shutIn w 163 1365 K2 = _ from sh, bI_some, nI_1, ez]
        by_cases q : (jst p x L i).2.2 = -1
        · rw [if_neg (fun e => (v_ge (by omega) hz).mp e q), if_pos q, q]
          show (if shM p (jst p x L (i + 1)).1 = 0 then _ else _) = _
          by_cases q2 : shM p (jst p x L (i + 1)).1 = 0
          · rw [if_pos q2, if_pos q2]
          · rw [if_neg q2, if_neg q2]
        · rw [if_pos ((v_ge (by omega) hz).mpr q), if_neg q]
      refine Or.inr ?_
      have estep : f_X12_judged_31 w (n + 1) 163 a y z (nI i) K = f_X12_judged_108 w (f_X12_judged_31 w n) 163 a z (nI i) (nI (L.2.1 i)) (nI (L.2.2.1 i)) (nI (L.2.2.2 i)) (b2i (jdw p x (jst p x L i).1 (L.2.1 i) (L.2.2.1 i) (L.2.2.2 i)).1) (jst p x L (i + 1)).2.1 K := by
        rw [f_X12_judged_31, r163_21, l176, show chk (0 : Int32) 250 = chk (nI 0) 250 from rfl, chk_nI _ (by omega) (by omega), show (0 : Int32).toNatClampNeg = 0 from rfl, l0, if_neg (fun h => by have := (nI_leI (by omega) (by omega)).mp h; omega), show (3 : Int32) * nI i = nI (3 * i) from pk_mul 3 i, show (1 : Int32) + nI (3 * i) = nI (1 + 3 * i) from nI_add 1 _, show (2 : Int32) + nI (3 * i) = nI (2 + 3 * i) from nI_add 2 _, show (3 : Int32) + nI (3 * i) = nI (3 + 3 * i) from nI_add 3 _, chk_nI _ (by omega) (by omega), nI_clamp (by omega), q1, lt_eq, chk_nI _ (by omega) (by omega), nI_clamp (by omega), q2, lt_eq, chk_nI _ (by omega) (by omega), nI_clamp (by omega), q3, lt_eq, hcan, bI_some]
        unfold f_X12_judged_107
        have hy := (jst_v (p := p) (x := x) (L := L) i (by omega)).1
        show _ = f_X12_judged_108 w (f_X12_judged_31 w n) 163 a z (nI i) _ _ _ _ (if (jdw p x (jst p x L i).1 (L.2.1 i) (L.2.2.1 i) (L.2.2.2 i)).1 then (jst p x L i).2.1 else if (jst p x L i).2.1 = -1 then nI i else (jst p x L i).2.1) K
        rw [ey]
        cases (jdw p x (jst p x L i).1 (L.2.1 i) (L.2.2.1 i) (L.2.2.2 i)).1
        · rw [if_pos (show b2i false = 0 from rfl), if_neg (show ¬ (false = true) by decide)]
          by_cases q : (jst p x L i).2.1 = -1
          · rw [if_neg (fun e => (v_ge (by omega) hy).mp e q), if_pos q]
          · rw [if_pos ((v_ge (by omega) hy).mpr q), if_neg q]
        · rw [if_neg (show ¬ b2i true = 0 by decide), if_pos (show true = true from rfl)]
      obtain ⟨K2, f2, s2, e2⟩ := h108 (jst p x L (i + 1)).2.1
      exact ⟨((jst p x L (i + 1)).2, K2), estep.trans (e2.trans (fin _ K2 f2 s2)), fK.tr f2, s2, rfl⟩
  obtain ⟨K, eK, fK⟩ := key
  refine ⟨jvl p x L a, N, K, ?_, ⟨fun c hc => f.1 c (fun q => hc (by simp at q ⊢; omega)), fun c j _ => by rw [f.2]⟩, ?_, fK.two⟩
  · unfold f_X11_judged
    rw [if_neg a0, if_pos (Int32.not_lt.mp a1), r0_7, e]
  · unfold f_X12_judged
    rw [lt_eq, show wI N 163 0 0 = th0 N from rfl, X12_within_eq, bI_some, decide_eq_false a0, decide_eq_false a1, if_neg (by decide), show f_X12_starts w 163 1365 (th0 N) = _ from e1, bV_some, eK]
end JUDGED
