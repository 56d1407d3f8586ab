/-! ===== years by draws ===== -/
def drA (a : Nat) : Nat := (a * 1103515245 + 12345) % 2147483648
def drV (a n : Nat) : Nat := drA a / 65536 % n
/-- a drawn deed: what is drawn next, the state, did one walk -/
def ydo (p : HP) (a : Nat) (h : HS) : (Nat × HS) × Bool :=
  if drV a 5 = 0 then ((drA (drA a), if sGap h (drV (drA a) (pD p)) < 20 then gSet h (drV (drA a) (pD p)) (sGap h (drV (drA a) (pD p)) + 1) else h), false)
  else if drV a 5 = 1 then
    (if pP p = 0 then ((drA a, h), false) else ((drA (drA (drA a)), if wkq p h (drV (drA a) (pP p)) (drV (drA (drA a)) (pD p)) then lSet h (drV (drA a) (pP p)) (bhn p (drV (drA (drA a)) (pD p)) (sPl h (drV (drA a) (pP p)))) else h), wkq p h (drV (drA a) (pP p)) (drV (drA (drA a)) (pD p))))
  else if drV a 5 = 2 then ((drA (drA a), if fcq h (drV (drA a) (pD p)) then gSet h (drV (drA a) (pD p)) (sSw h (drV (drA a) (pD p))) else h), false)
  else ((drA a, h), false)
section YEARS
variable {p : HP} {x : HX} {h : HS} {M N : mM}
theorem drA_lt (a : Nat) : drA a < 2147483648 := Nat.mod_lt _ (by omega)
theorem drV_lt (a : Nat) {n : Nat} (hn : 0 < n) : drV a n < n := Nat.mod_lt _ hn
theorem dr_step {a : Nat} (ha : a < 2147483648) : lN a * 1103515245 + 12345 - (lN a * 1103515245 + 12345) / 2147483648 * 2147483648 = lN (drA a) := by
  have e : lN a * 1103515245 + 12345 = lN (a * 1103515245 + 12345) := by
    rw [show lN a * 1103515245 = lN (a * 1103515245) from lN_mul a 1103515245]
    exact lN_add _ 12345
  rw [e]
  exact pk_lRem (b := 2147483648) (by omega) (by omega) (by omega)
theorem dr_val {a n : Nat} (hn : 0 < n) (hn2 : n < 1000) : (lN (drA a) / 65536 - lN (drA a) / 65536 / (nI n).toInt64 * (nI n).toInt64).toInt32 = nI (drV a n) := by
  have h1 := drA_lt a
  have h2 : drA a / 65536 ≤ drA a := Nat.div_le_self _ _
  rw [nI_l (by omega), show lN (drA a) / 65536 = lN (drA a / 65536) from pk_lDiv (b := 65536) (by omega) (by omega) (by omega), pk_lRem (by omega) hn (by omega), lN_i]
  rfl
def setL (M : mM) (c k : Nat) (y : Int64) : mM := wL M c k y
theorem wL_1 (M : mM) (c k : Nat) (y : Int64) : (wL M c k y).1 = M.1 := rfl
theorem wL_at (M : mM) (c k : Nat) (y : Int64) : (wL M c k y).2 c k = y := by
  unfold wL
  simp [vp_updL]
theorem wL_ne (M : mM) {c k a j : Nat} (y : Int64) (h : a ≠ c ∨ j ≠ k) : (wL M c k y).2 a j = M.2 a j := by
  show (if a = c then vp_updL (M.2 a) k y else M.2 a) j = _
  by_cases q : a = c
  · rw [if_pos q]; exact pk_uLn (h.resolve_left (fun e => e q))
  · rw [if_neg q]
theorem X11_drawBelow_eq (w : Nat) {a n : Nat} (ha : a < 2147483648) (hn : 0 < n) (hn2 : n < 1000) (hM : M.2 0 14 = lN a) : f_X11_drawBelow w 0 (nI n) M = some (nI (drV a n), wL M 0 14 (lN (drA a))) := by
  unfold f_X11_drawBelow
  rw [if_neg (by decide), hM, dr_step ha, lt_eq, if_neg (nI_nle hn (by omega)), if_neg (by decide), if_neg (show ¬ (nI n).toInt64 = 0 by rw [nI_l (by omega)]; exact fun e => by have := (pk_lEQ (b := 0) (by omega) (by omega)).mp e; omega), wL_at, dr_val hn hn2]
theorem X12_draw_eq (w : Nat) {a n : Nat} (ha : a < 2147483648) (hn : 0 < n) (hn2 : n < 1000) (hM : M.2 163 31 = lN a) : f_X12_draw w 163 (nI n) M = some (nI (drV a n), wL M 163 31 (lN (drA a))) := by
  unfold f_X12_draw
  rw [if_neg (by decide), hM, dr_step ha, lt_eq, if_neg (by decide), if_neg (show ¬ (nI n).toInt64 = 0 by rw [nI_l (by omega)]; exact fun e => by have := (pk_lEQ (b := 0) (by omega) (by omega)).mp e; omega), wL_at, dr_val hn hn2]
theorem ydo_ok (hp : okP p) (hh : okS p h) (hD : 0 < pD p) (a : Nat) : okS p (ydo p a h).1.2 ∧ sDay (ydo p a h).1.2 = sDay h ∧ (ydo p a h).1.1 < 2147483648 := by
  have l1 := drV_lt (drA a) hD
  have l2 := drV_lt (drA (drA a)) hD
  unfold ydo
  split
  · refine ⟨?_, ?_, drA_lt _⟩
    · show okS p (if sGap h (drV (drA a) (pD p)) < 20 then _ else h)
      split
      · exact okS_g hh (by omega)
      · exact hh
    · show sDay (if sGap h (drV (drA a) (pD p)) < 20 then _ else h) = _
      split <;> rfl
  · split
    · split
      · exact ⟨hh, rfl, drA_lt _⟩
      · refine ⟨?_, ?_, drA_lt _⟩
        · show okS p (if wkq p h (drV (drA a) (pP p)) (drV (drA (drA a)) (pD p)) then _ else h)
          split
          · exact okS_l hh (bhn_lt hp l2 _)
          · exact hh
        · show sDay (if wkq p h (drV (drA a) (pP p)) (drV (drA (drA a)) (pD p)) then _ else h) = _
          split <;> rfl
    · split
      · refine ⟨?_, ?_, drA_lt _⟩
        · show okS p (if fcq h (drV (drA a) (pD p)) then _ else h)
          split
          · exact okS_g hh (hh.2.1 _ l1).2
          · exact hh
        · show sDay (if fcq h (drV (drA a) (pD p)) then _ else h) = _
          split <;> rfl
      · exact ⟨hh, rfl, drA_lt _⟩
/-- the class's memory while years go by -/
def YC (M N : mM) : Prop := (∀ c, c ∉ [12, 35, 36, 37, 38] → N.1 c = M.1 c) ∧ ∀ c j, (c ≠ 0 ∨ j ≠ 14) → N.2 c j = M.2 c j
theorem YC.rf (M : mM) : YC M M := ⟨fun _ _ => rfl, fun _ _ _ => rfl⟩
theorem YC.tr {K : mM} (f : YC M N) (g : YC N K) : YC M K := ⟨fun c h => (g.1 c h).trans (f.1 c h), fun c j h => (g.2 c j h).trans (f.2 c j h)⟩
theorem YC.wL (f : YC M N) (y : Int64) : YC M (wL N 0 14 y) := ⟨fun c h => f.1 c h, fun c j h => by rw [wL_ne _ _ h]; exact f.2 c j h⟩
theorem YC.ofr {X : List Nat} (f : Fr X M N) (hX : ∀ c, c ∈ X → c = 12 ∨ (35 ≤ c ∧ c ≤ 38)) : YC M N := ⟨fun c h => f.1 c (fun q => by have := hX c q; simp at h; omega), fun c j _ => by rw [f.2]⟩
theorem StC.wL {o : Nat} (hs : StC M o p h) (c k : Nat) (y : Int64) : StC (wL M c k y) o p h := hs
theorem X11_makeDrawnDeed_eq (w : Nat) (hp : okP p) (hh : okS p h) (hc : PlC M 1 p) (hs : StC M 35 p h) (hD0 : 0 < pD p) {a : Nat} (ha : a < 2147483648) (hM : M.2 0 14 = lN a) : ∃ N, f_X11_makeDrawnDeed w 0 M = some (b2i (ydo p a h).2, N) ∧ YC M N ∧ N.2 0 14 = lN (ydo p a h).1.1 ∧ StC N 35 p (ydo p a h).1.2 := by
  have hD := hp.2.1
  have hP := hp.2.2.1
  have l1 := drV_lt (drA a) hD0
  have l2 := drV_lt (drA (drA a)) hD0
  have l5 := drV_lt a (n := 5) (by omega)
  have hD1 : M.1 1 1 = nI (pD p) := hc.2.1
  have hP1 : M.1 1 2 = nI (pP p) := hc.2.2.1
  have d1 := X11_drawBelow_eq w ha (n := 5) (by omega) (by omega) hM
  have d2 := X11_drawBelow_eq w (M := wL M 0 14 (lN (drA a))) (drA_lt a) hD0 (by omega) (wL_at _ _ _ _)
  have hc2 : PlC (wL (wL M 0 14 (lN (drA a))) 0 14 (lN (drA (drA a)))) 1 p := hc
  have hs2 : StC (wL (wL M 0 14 (lN (drA a))) 0 14 (lN (drA (drA a)))) 35 p h := hs
  have y2 : YC M (wL (wL M 0 14 (lN (drA a))) 0 14 (lN (drA (drA a)))) := ((YC.rf M).wL _).wL _
  unfold f_X11_makeDrawnDeed ydo
  rw [show f_X11_drawBelow w 0 5 M = _ from d1, bI_some, r0_0, r0_7, wL_1, hD1, hP1]
  by_cases c0 : drV a 5 = 0
  · rw [if_pos (by rw [c0]; rfl), if_pos c0, d2, bI_some]
    have hcan := X9_canPlane_in mem35 hp hh hc2 hs2 w l1
    unfold f_X9_planeIfCan
    rw [hcan, bI_some]
    by_cases e : sGap h (drV (drA a) (pD p)) < 20
    · rw [decide_eq_true e, if_neg (show ¬ b2i true = 0 by decide), X9_makePlaning_in mem35 hp hh hc2 hs2 w l1, bV_some]
      refine ⟨_, rfl, y2.tr (YC.ofr ((Fr.rf [36] _).wI (by decide) _ _) (by decide)), ?_, ?_⟩
      · rw [wI_set, setC_2]; exact wL_at _ _ _ _
      · show StC _ 35 p (if sGap h (drV (drA a) (pD p)) < 20 then _ else h)
        rw [if_pos e]; exact hs2.g _ _
    · rw [decide_eq_false e]
      refine ⟨_, rfl, y2, wL_at _ _ _ _, ?_⟩
      show StC _ 35 p (if sGap h (drV (drA a) (pD p)) < 20 then _ else h)
      rw [if_neg e]; exact hs2
  · rw [if_neg (show ¬ nI (drV a 5) = 0 from fun e => c0 ((nI_eq (b := 0) (by omega) (by omega)).mp e)), if_neg c0]
    by_cases c1 : drV a 5 = 1
    · rw [if_pos (by rw [c1]; rfl), if_pos c1]
      by_cases p0 : pP p = 0
      · rw [if_pos (by rw [p0]; decide), if_pos p0]
        unfold f_X11_makeDrawnDeed_79
        rw [c1, if_neg (by decide)]
        exact ⟨_, rfl, (YC.rf M).wL _, wL_at _ _ _ _, hs⟩
      · have l3 := drV_lt (drA a) (show 0 < pP p by omega)
        have d3 := X11_drawBelow_eq w (M := wL M 0 14 (lN (drA a))) (drA_lt a) (show 0 < pP p by omega) (by omega) (wL_at _ _ _ _)
        have d4 := X11_drawBelow_eq w (M := wL (wL M 0 14 (lN (drA a))) 0 14 (lN (drA (drA a)))) (drA_lt (drA a)) hD0 (by omega) (wL_at _ _ _ _)
        have y3 : YC M (wL (wL (wL M 0 14 (lN (drA a))) 0 14 (lN (drA (drA a)))) 0 14 (lN (drA (drA (drA a))))) := y2.wL _
        have hs3 : StC (wL (wL (wL M 0 14 (lN (drA a))) 0 14 (lN (drA (drA a)))) 0 14 (lN (drA (drA (drA a))))) 35 p h := hs
        have hc3 : PlC (wL (wL (wL M 0 14 (lN (drA a))) 0 14 (lN (drA (drA a)))) 0 14 (lN (drA (drA (drA a))))) 1 p := hc
        rw [if_neg (nI_nle (by omega) (by omega)), if_neg p0, d3, bI_some, show (wL (wL M 0 14 (lN (drA a))) 0 14 (lN (drA (drA a)))).1 1 1 = nI (pD p) from hD1, d4, bI_some]
        have hcan := X9_canWalk_in mem35 hp hh hc3 hs3 w l3 l2
        unfold f_X9_walkIfCan
        rw [hcan, bI_some]
        cases ew : wkq p h (drV (drA a) (pP p)) (drV (drA (drA a)) (pD p))
        · refine ⟨_, rfl, y3, wL_at _ _ _ _, ?_⟩
          exact hs3
        · have ea : adj p (sPl h (drV (drA a) (pP p))) (drV (drA (drA a)) (pD p)) = true := by unfold wkq at ew; rw [Bool.and_eq_true] at ew; exact ew.2
          rw [if_neg (show ¬ b2i true = 0 by decide), X9_makeWalk_in mem35 hp hh hc3 hs3 w l3 l2 ea, bV_some]
          refine ⟨_, rfl, y3.tr (YC.ofr ((Fr.rf [38] _).wI (by decide) _ _) (by decide)), ?_, hs3.l _ _⟩
          rw [wI_set, setC_2]; exact wL_at _ _ _ _
    · rw [if_neg (show ¬ nI (drV a 5) = 1 from fun e => c1 ((nI_eq (b := 1) (by omega) (by omega)).mp e)), if_neg c1]
      unfold f_X11_makeDrawnDeed_79
      by_cases c2 : drV a 5 = 2
      · rw [if_pos (by rw [c2]; rfl), if_pos c2, r0_0, r0_7, show (wL M 0 14 (lN (drA a))).1 1 1 = nI (pD p) from hD1, d2, bI_some]
        have hcan := X9_canForce_in mem35 hp hh hc2 hs2 w l1
        unfold f_X9_forceIfCan
        rw [hcan, bI_some]
        cases es : fcq h (drV (drA a) (pD p))
        · exact ⟨_, rfl, y2, wL_at _ _ _ _, hs2⟩
        · rw [if_neg (show ¬ b2i true = 0 by decide), X9_makeForcing_in mem35 hp hh hc2 hs2 w l1, bV_some]
          refine ⟨_, rfl, y2.tr (YC.ofr ((Fr.rf [36] _).wI (by decide) _ _) (by decide)), ?_, hs2.g _ _⟩
          rw [wI_set, setC_2]; exact wL_at _ _ _ _
      · rw [if_neg (show ¬ nI (drV a 5) = 2 from fun e => c2 ((nI_eq (b := 2) (by omega) (by omega)).mp e)), if_neg c2]
        exact ⟨_, rfl, (YC.rf M).wL _, wL_at _ _ _ _, hs⟩
/-- the reference's memory while years go by -/
theorem FrT2.rf (M : mM) : FrT2 M M := ⟨fun _ _ => rfl, fun _ _ _ => rfl, fun _ _ => rfl⟩
theorem FrT2.tr {K : mM} (f : FrT2 M N) (g : FrT2 N K) : FrT2 M K := ⟨fun c h => (g.1 c h).trans (f.1 c h), fun c j h => (g.2.1 c j h).trans (f.2.1 c j h), fun j h => (g.2.2 j h).trans (f.2.2 j h)⟩
theorem FrT2.wL (f : FrT2 M N) (y : Int64) : FrT2 M (wL N 163 31 y) := ⟨fun c h => f.1 c h, fun c j h => by rw [wL_ne _ _ h]; exact f.2.1 c j h, fun j h => f.2.2 j h⟩
theorem FrT2.w9 (f : FrT2 M N) {j : Nat} (hj : 1365 ≤ j) (y : Int32) : FrT2 M (wI N 179 j y) := ⟨fun c h => by rw [wI_set, setC_ne _ _ (by simp at h; omega)]; exact f.1 c h, fun c k h => by rw [wI_set, setC_2]; exact f.2.1 c k h, fun k h => by rw [wI_set, setC_at, upd_ne _ _ (by omega)]; exact f.2.2 k h⟩
theorem StR.same {b j : Nat} (hs : StR M b p h) (y : Int32) (e : y = M.1 179 j) : StR (wI M 179 j y) b p h := by
  have e179 : (wI M 179 j y).1 179 = M.1 179 := by
    rw [wI_set, setC_at]
    funext k
    by_cases q : k = j
    · subst q; rw [upd_at, e]
    · rw [upd_ne _ _ q]
  unfold StR at hs ⊢
  rw [e179]; exact hs
theorem X12_drawsDeed_eq (w : Nat) (hp : okP p) (hh : okS p h) (hc : PlR M 0 p) (hs : StR M 1430 p h) (hD0 : 0 < pD p) {a : Nat} (ha : a < 2147483648) (hM : M.2 163 31 = lN a) : ∃ N, f_X12_drawsDeed w 163 M = some (b2i (ydo p a h).2, N) ∧ FrT2 M N ∧ N.2 163 31 = lN (ydo p a h).1.1 ∧ StR N 1430 p (ydo p a h).1.2 := by
  have hD := hp.2.1
  have hP := hp.2.2.1
  have l1 := drV_lt (drA a) hD0
  have l2 := drV_lt (drA (drA a)) hD0
  have l5 := drV_lt a (n := 5) (by omega)
  have hD1 : M.1 169 1 = nI (pD p) := hc.2.1
  have hP1 : M.1 169 2 = nI (pP p) := hc.2.2.1
  have d1 := X12_draw_eq w ha (n := 5) (by omega) (by omega) hM
  have d2 := X12_draw_eq w (M := wL M 163 31 (lN (drA a))) (drA_lt a) hD0 (by omega) (wL_at _ _ _ _)
  have hc2 : PlR (wL (wL M 163 31 (lN (drA a))) 163 31 (lN (drA (drA a)))) 0 p := hc
  have hs2 : StR (wL (wL M 163 31 (lN (drA a))) 163 31 (lN (drA (drA a)))) 1430 p h := hs
  have y2 : FrT2 M (wL (wL M 163 31 (lN (drA a))) 163 31 (lN (drA (drA a)))) := ((FrT2.rf M).wL _).wL _
  have at2 : ∀ (K : mM) (j : Nat) (y : Int32), (wI K 179 j y).2 = K.2 := fun K j y => by rw [wI_set, setC_2]
  unfold f_X12_drawsDeed ydo
  rw [show f_X12_draw w 163 5 M = _ from d1, bI_some, X12_doors_eq, bI_some, X12_persons_eq, bI_some, show (wL M 163 31 (lN (drA a))).1 169 1 = nI (pD p) from hD1, show (wL M 163 31 (lN (drA a))).1 169 2 = nI (pP p) from hP1]
  by_cases c0 : drV a 5 = 0
  · have g := (hs2.2.2.1 _ l1).1
    have gb := (hh.2.1 _ l1).1
    rw [if_pos (by rw [c0]; rfl), if_pos c0, d2, bI_some, show (1432 : Int32) + nI (drV (drA a) (pD p)) = nI (1430 + 2 + drV (drA a) (pD p)) from nI_add 1432 _, r163_24, l179, chk_nI _ (by omega) (by omega), chk_nI _ (by omega) (by omega), nI_clamp (by omega), g]
    unfold f_X12_drawsDeed_50
    rw [l179, chk_nI _ (by omega) (by omega), chk_nI _ (by omega) (by omega), nI_clamp (by omega), lt_eq, lt_eq]
    by_cases e : sGap h (drV (drA a) (pD p)) < 20
    · rw [if_neg (show ¬ (20 : Int32) ≤ nI _ from fun e2 => by have := (nI_leI (a := 20) (by omega) (by omega)).mp e2; omega), nI_1]
      refine ⟨_, rfl, y2.w9 (by omega) _, ?_, ?_⟩
      · rw [at2]; exact wL_at _ _ _ _
      · show StR _ 1430 p (if sGap h (drV (drA a) (pD p)) < 20 then _ else h)
        rw [if_pos e]; exact hs2.g hp l1 _
    · rw [if_pos (show (20 : Int32) ≤ nI _ from (nI_leI (a := 20) (by omega) (by omega)).mpr (by omega)), Int32.add_zero]
      refine ⟨_, rfl, y2.w9 (by omega) _, ?_, ?_⟩
      · rw [at2]; exact wL_at _ _ _ _
      · show StR _ 1430 p (if sGap h (drV (drA a) (pD p)) < 20 then _ else h)
        rw [if_neg e]; exact hs2.same _ g.symm
  · rw [if_neg (show ¬ nI (drV a 5) = 0 from fun e => c0 ((nI_eq (b := 0) (by omega) (by omega)).mp e)), if_neg c0]
    by_cases c1 : drV a 5 = 1
    · rw [if_pos (by rw [c1]; rfl), if_pos c1]
      by_cases p0 : pP p = 0
      · rw [if_pos (by rw [p0]; decide), if_pos p0]
        unfold f_X12_drawsDeed_111
        rw [c1, if_neg (by decide)]
        exact ⟨_, rfl, (FrT2.rf M).wL _, wL_at _ _ _ _, hs⟩
      · have l3 := drV_lt (drA a) (show 0 < pP p by omega)
        have d3 := X12_draw_eq w (M := wL M 163 31 (lN (drA a))) (drA_lt a) (show 0 < pP p by omega) (by omega) (wL_at _ _ _ _)
        have d4 := X12_draw_eq w (M := wL (wL M 163 31 (lN (drA a))) 163 31 (lN (drA (drA a)))) (drA_lt (drA a)) hD0 (by omega) (wL_at _ _ _ _)
        have y3 : FrT2 M (wL (wL (wL M 163 31 (lN (drA a))) 163 31 (lN (drA (drA a)))) 163 31 (lN (drA (drA (drA a))))) := y2.wL _
        have hs3 : StR (wL (wL (wL M 163 31 (lN (drA a))) 163 31 (lN (drA (drA a)))) 163 31 (lN (drA (drA (drA a))))) 1430 p h := hs
        have hc3 : PlR (wL (wL (wL M 163 31 (lN (drA a))) 163 31 (lN (drA (drA a)))) 163 31 (lN (drA (drA (drA a))))) 0 p := hc
        rw [if_neg (nI_nle (by omega) (by omega)), if_neg p0, X12_persons_eq, bI_some, show (wL M 163 31 (lN (drA a))).1 169 2 = nI (pP p) from hP1, d3, bI_some, X12_doors_eq, bI_some, show (wL (wL M 163 31 (lN (drA a))) 163 31 (lN (drA (drA a)))).1 169 1 = nI (pD p) from hD1, d4, bI_some]
        have hcan := X12_mayWalk_in (b := 1430) (by omega) hp hh hc3 hs3 w l3 l2
        rw [show f_X12_mayWalk w 163 1430 (nI (drV (drA a) (pP p))) (nI (drV (drA (drA a)) (pD p))) _ = _ from hcan, bI_some]
        cases ew : wkq p h (drV (drA a) (pP p)) (drV (drA (drA a)) (pD p))
        · exact ⟨_, rfl, y3, wL_at _ _ _ _, hs3⟩
        · have ea : adj p (sPl h (drV (drA a) (pP p))) (drV (drA (drA a)) (pD p)) = true := by unfold wkq at ew; rw [Bool.and_eq_true] at ew; exact ew.2
          rw [if_neg (show ¬ b2i true = 0 by decide), show f_X12_walks w 163 1430 (nI (drV (drA a) (pP p))) (nI (drV (drA (drA a)) (pD p))) _ = _ from X12_walks_in (b := 1430) (by omega) hp hh hc3 hs3 w l3 l2 ea, bV_some]
          refine ⟨_, rfl, y3.w9 (by omega) _, ?_, hs3.l hp l3 _⟩
          rw [at2]; exact wL_at _ _ _ _
    · rw [if_neg (show ¬ nI (drV a 5) = 1 from fun e => c1 ((nI_eq (b := 1) (by omega) (by omega)).mp e)), if_neg c1]
      unfold f_X12_drawsDeed_111
      by_cases c2 : drV a 5 = 2
      · have g := (hs2.2.2.1 _ l1).1
        have g2 := (hs2.2.2.1 _ l1).2
        rw [if_pos (by rw [c2]; rfl), if_pos c2, X12_doors_eq, bI_some, show (wL M 163 31 (lN (drA a))).1 169 1 = nI (pD p) from hD1, d2, bI_some, show f_X12_mayForce w 163 1430 (nI (drV (drA a) (pD p))) _ = _ from X12_mayForce_in (b := 1430) (by omega) hp hh hc2 hs2 w l1, bI_some, show (1432 : Int32) + nI (drV (drA a) (pD p)) = nI (1430 + 2 + drV (drA a) (pD p)) from nI_add 1432 _, show (1440 : Int32) + nI (drV (drA a) (pD p)) = nI (1430 + 10 + drV (drA a) (pD p)) from nI_add 1440 _, r163_24, l179, chk_nI _ (by omega) (by omega), chk_nI _ (by omega) (by omega), chk_nI _ (by omega) (by omega), chk_nI _ (by omega) (by omega), nI_clamp (by omega), nI_clamp (by omega), g2, lt_eq, lt_eq]
        cases es : fcq h (drV (drA a) (pD p))
        · refine ⟨_, rfl, y2.w9 (by omega) _, ?_, hs2.same _ rfl⟩
          rw [at2]; exact wL_at _ _ _ _
        · refine ⟨_, rfl, y2.w9 (by omega) _, ?_, hs2.g hp l1 _⟩
          rw [at2]; exact wL_at _ _ _ _
      · rw [if_neg (show ¬ nI (drV a 5) = 2 from fun e => c2 ((nI_eq (b := 2) (by omega) (by omega)).mp e)), if_neg c2]
        exact ⟨_, rfl, (FrT2.rf M).wL _, wL_at _ _ _ _, hs⟩
end YEARS
