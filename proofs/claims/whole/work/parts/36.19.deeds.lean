/-! ===== day, walk, plane, wedge, force, undo ===== -/
/-- what a deed of the class may write -/
def Fe (M N : mM) : Prop := (∀ c, c ≠ 12 → (c < 31 ∨ 34 < c) → c ≠ 39 → (c < 41 ∨ 104 < c) → N.1 c = M.1 c) ∧ N.2 = M.2
/-- what a deed of the reference may write -/
def FdR (M N : mM) : Prop := (∀ c, c ≠ 163 → c ≠ 177 → c ≠ 178 → c ≠ 179 → N.1 c = M.1 c) ∧ N.2 = M.2 ∧ (∀ j, j ≠ 25 → N.1 163 j = M.1 163 j) ∧ ∀ j, 23 ≤ j → (j < 325 ∨ 1365 ≤ j) → N.1 179 j = M.1 179 j
/-- both programs did the same, and stand alike -/
def De (f g : mM → Option (Int32 × mM)) (p : HP) (B : Nat) (M : mM) : Prop := ∃ v h' H' N K, f M = some (v, N) ∧ Fe M N ∧ StC N 31 p h' ∧ HiC N p H' ∧ g N = some (v, K) ∧ FdR (th0 N) K ∧ StR K 0 p h' ∧ HiR K p H' ∧ okS p h' ∧ sDay h' ≤ B + 1 ∧ H'.1 ≤ 16 ∧ ∀ i, i < H'.1 → okS p (H'.2 i) ∧ sDay (H'.2 i) ≤ B + 1
def okHi (p : HP) (B : Nat) (H : HI) : Prop := H.1 ≤ 16 ∧ ∀ i, i < H.1 → okS p (H.2 i) ∧ sDay (H.2 i) ≤ B
section DD
variable {p : HP} {x : HX} {h : HS} {H : HI} {M N : mM} {B : Nat}
theorem Fe.rf (M : mM) : Fe M M := ⟨fun _ _ _ _ _ => rfl, rfl⟩
theorem FdR.rf (M : mM) : FdR M M := ⟨fun _ _ _ _ _ => rfl, rfl, fun _ _ => rfl, fun _ _ _ => rfl⟩
theorem Fe.ofH {M N : mM} (f : FrH M N) : Fe M N := ⟨fun c _ _ h3 h4 => f.1 c h3 h4, f.2⟩
theorem Fe.tr {K : mM} (f : Fe M N) (g : Fe N K) : Fe M K := ⟨fun c a b d e => (g.1 c a b d e).trans (f.1 c a b d e), g.2.trans f.2⟩
theorem Fe.ofr {X : List Nat} (f : Fr X M N) (hX : ∀ c, c ∈ X → c = 12 ∨ (31 ≤ c ∧ c ≤ 34)) : Fe M N := ⟨fun c a b _ _ => f.1 c (fun q => by have := hX c q; omega), f.2⟩
theorem FdR.ofK (f : FrK M N) : FdR M N := ⟨fun c a _ _ b => f.1 c a b, f.2.1, f.2.2.1, fun j _ h2 => f.2.2.2 j h2⟩
theorem FdR.tr {K : mM} (f : FdR M N) (g : FdR N K) : FdR M K := ⟨fun c a b d e => (g.1 c a b d e).trans (f.1 c a b d e), g.2.1.trans f.2.1, fun j hj => (g.2.2.1 j hj).trans (f.2.2.1 j hj), fun j h1 h2 => (g.2.2.2 j h1 h2).trans (f.2.2.2 j h1 h2)⟩
theorem FdR.w179 {j : Nat} (hj : j < 23) (y : Int32) : FdR M (wI M 179 j y) := ⟨fun c _ _ _ h => by rw [wI_set, setC_ne _ _ h], by rw [wI_set, setC_2], fun k _ => by rw [wI_set, setC_ne _ _ (by decide)], fun k h1 _ => by rw [wI_set, setC_at, upd_ne _ _ (by omega)]⟩
theorem HiC.fr (hi : HiC M p H) (e : ∀ c, c = 39 ∨ (41 ≤ c ∧ c ≤ 104) → N.1 c = M.1 c) : HiC N p H := by
  obtain ⟨a, t, ht, b, c, d⟩ := hi
  refine ⟨a, t, ht, by rw [e 39 (by omega)]; exact b, by rw [e 39 (by omega)]; exact c, fun i hi => (d i hi).fr (fun z h1 h2 => e z ?_)⟩
  unfold hcell at h1 h2
  omega
theorem HiR.fr (hp : okP p) (h16 : H.1 ≤ 16) (hi : HiR M p H) (e1 : N.1 163 25 = M.1 163 25) (e2 : ∀ j, 325 ≤ j → j < 1365 → N.1 179 j = M.1 179 j) : HiR N p H :=
  ⟨by rw [e1]; exact hi.1, fun i hi2 => (hi.2 i hi2).fr hp (fun j h1 h2 => e2 j (by omega) (by omega))⟩
theorem okHi_psh (oh : okS p h) (o : okHi p B H) (hB : sDay h ≤ B) : ∀ i, i < (psh h H).1 → okS p ((psh h H).2 i) ∧ sDay ((psh h H).2 i) ≤ B + 1 := fun i hi => by
  have hi : i < (if H.1 = 16 then 16 else H.1 + 1) := hi
  show okS p (if i = 0 then h else H.2 (i - 1)) ∧ sDay (if i = 0 then h else H.2 (i - 1)) ≤ _
  by_cases q : i = 0
  · rw [if_pos q]; exact ⟨oh, by omega⟩
  · rw [if_neg q]
    have := o.2 (i - 1) (by split at hi <;> omega)
    exact ⟨this.1, by omega⟩
theorem psh_16 (o : okHi p B H) : (psh h H).1 ≤ 16 := by
  have := o.1
  show (if H.1 = 16 then 16 else H.1 + 1) ≤ 16
  split <;> omega
/-- nothing done -/
theorem De.no {f g : mM → Option (Int32 × mM)} (Q : QC p x h M) (R : QF p x h M) (hi : HiC M p H) (hj : HiR M p H) (o : okHi p B H) (hB : sDay h ≤ B) (v : Int32) (e1 : f M = some (v, M)) (e2 : g M = some (v, th0 M)) : De f g p B M :=
  ⟨v, h, H, M, th0 M, e1, Fe.rf M, Q.2.2.2.2.2.2, hi, e2, FdR.rf _, R.th0.2.2.2.2.2.2, HiR.fr Q.1 o.1 hj rfl (fun j _ _ => by rw [th0_1 _ (by decide)]), Q.2.2.1, by omega, o.1, fun i hi => ⟨(o.2 i hi).1, by have := (o.2 i hi).2; omega⟩⟩
/-- a deed that keeps the state first, then writes it -/
theorem De.yes {f g : mM → Option (Int32 × mM)} {h' : HS} (Q : QC p x h M) (R : QF p x h M) (hi : HiC M p H) (hj : HiR M p H) (o : okHi p B H) (hB : sDay h ≤ B) (w : Nat) (hw : 1100 ≤ w) (v : Int32) (oh : okS p h') (hd : sDay h' ≤ sDay h + 1) (c : ∀ K, f_X1_keep w 39 31 M = some K → PlC K 1 p → XC K 1 x → StC K 31 p h → ∃ N, f M = some (v, N) ∧ Fe K N ∧ (∀ c, c = 39 ∨ (41 ≤ c ∧ c ≤ 104) → N.1 c = K.1 c) ∧ StC N 31 p h') (r : ∀ N K, QF p x h N → f_X12_keeps w 163 (th0 N) = some K → QF p x h K → ∃ K2, g N = some (v, K2) ∧ FdR K K2 ∧ (∀ j, 325 ≤ j → j < 1365 → K2.1 179 j = K.1 179 j) ∧ K2.1 163 25 = K.1 163 25 ∧ StR K2 0 p h') : De f g p B M := by
  have hp := Q.1
  obtain ⟨K, eK, fK, hK⟩ := X1_keep_eq w hp Q.2.2.2.2.2.2 hi
  obtain ⟨N, eN, fN, kN, sN⟩ := c K eK (Q.2.2.2.2.1.fr (fun c h1 => fK.1 c (by omega) (by omega))) (Q.2.2.2.2.2.1.fr (fun c h1 => fK.1 c (by omega) (by omega))) (Q.2.2.2.2.2.2.fr (fun c h1 h2 => fK.1 c (by omega) (by omega)))
  have feN : Fe M N := (Fe.ofH fK).tr fN
  have RN : QF p x h N := R.fr (fun c h1 h2 => feN.1 c (by omega) (by omega) (by omega) (by omega)) (fun j _ => by rw [feN.1 179 (by decide) (by decide) (by decide) (by decide)])
  have hjN : HiR (th0 N) p H := HiR.fr hp o.1 hj (by show N.1 163 25 = _; rw [feN.1 163 (by decide) (by decide) (by decide) (by decide)]) (fun j _ _ => by rw [th0_1 _ (by decide), feN.1 179 (by decide) (by decide) (by decide) (by decide)])
  obtain ⟨L, eL, fL, hL⟩ := X12_keeps_eq w (by omega) hp RN.th0.2.2.2.2.2.2 o.1 hjN
  have RL : QF p x h L := RN.th0.fr (fun c h1 h2 => fL.1 c (by omega) (by omega)) (fun j hj => fL.2.2.2 j (by omega))
  obtain ⟨K2, e2, f2, k2, k25, s2⟩ := r N L RN eL RL
  exact ⟨v, h', psh h H, N, K2, eN, feN, sN, hK.fr kN, e2, (FdR.ofK fL).tr f2, s2, hL.fr hp (psh_16 o) k25 k2, oh, by omega, psh_16 o, okHi_psh Q.2.2.1 o hB⟩
theorem X11_day_eq (w : Nat) (hw : 1100 ≤ w) (Q : QC p x h M) (R : QF p x h M) (hi : HiC M p H) (hj : HiR M p H) (o : okHi p B H) (hB : sDay h ≤ B) : De (f_X11_day w 0) (f_X12_day w 163) p B M := by
  have hp := Q.1
  have hx := Q.2.1
  have hh := Q.2.2.1
  have hda := Q.2.2.2.1
  have oh : okS p (nx p x (dmp x (sDay h)) h) := okS_nx hh (by omega)
  refine De.yes Q R hi hj o hB w hw (stkM p (nx p x (dmp x (sDay h)) h)) oh (Nat.le_refl _) ?_ ?_
  · intro K eK cK xK sK
    obtain ⟨N, eN, fN, sN⟩ := X9_passDay_eq w hw mem31 hp hx hh cK xK sK
    have cN : PlC N 1 p := cK.fr (fun c h1 => fN.1 c (by simp; omega))
    refine ⟨N, ?_, Fe.ofr fN (by decide), fun c hc => fN.1 c (by simp; omega), sN⟩
    unfold f_X11_day
    rw [r0_8, r0_6, eK, bV_some, eN, bV_some, X9_stuckDoors_eq w (by omega) mem31 hp oh sN cN.2.1, bI_some]
  · intro N K RN eK RK
    obtain ⟨K2, e2, f2, s2, j2⟩ := X12_passes__eq w hw hp hx hh RK.2.2.2.2.1 RK.2.2.2.2.2.1 (b := 0) (by omega) RK.2.2.2.2.2.2
    have hst := X12_sticking_eq w (by omega) (b := 0) (by omega) hp oh s2 (RK.2.2.2.2.1.fr (f2.1 169 (by decide))).2.1
    refine ⟨K2, ?_, ⟨fun c h1 h2 h3 h4 => f2.1 c (by simp; omega), f2.2, fun j _ => by rw [f2.1 163 (by decide)], fun j h1 _ => j2 j (by omega)⟩, fun j h1 h2 => j2 j (by omega), by rw [f2.1 163 (by decide)], s2⟩
    unfold f_X12_day
    rw [lt_eq, show wI N 163 0 0 = th0 N from rfl, eK, bV_some, show f_X12_passes_ w 163 0 K = _ from e2, bV_some, show f_X12_sticking w 163 0 K2 = _ from hst, bI_some]
theorem X11_walk_eq (w : Nat) (hw : 1100 ≤ w) (Q : QC p x h M) (R : QF p x h M) (hi : HiC M p H) (hj : HiR M p H) (o : okHi p B H) (hB : sDay h ≤ B) (a b : Int32) : De (f_X11_walk w 0 a b) (f_X12_walk w 163 a b) p B M := by
  have hp := Q.1
  have hh := Q.2.2.1
  have hc := Q.2.2.2.2.1
  have hs := Q.2.2.2.2.2.2
  have hP := hp.2.2.1
  have hD := hp.2.1
  have hr0 := R.th0.2.2.2.2.1
  rcases ix3 a (show pP p < 2 ^ 31 by omega) with q | ⟨i, hia, rfl⟩
  · refine De.no Q R hi hj o hB (-1) ?_ ?_
    · unfold f_X11_walk; rw [r0_6, X9_canWalk_no mem31 hp hh hc hs w (Or.inl q)]; rfl
    · unfold f_X12_walk; rw [lt_eq, show wI M 163 0 0 = th0 M from rfl, X12_isPerson_eq w a hr0, has_no q]; rfl
  rcases ix3 b (show pD p < 2 ^ 31 by omega) with q | ⟨d, hd, rfl⟩
  · refine De.no Q R hi hj o hB (-1) ?_ ?_
    · unfold f_X11_walk; rw [r0_6, X9_canWalk_no mem31 hp hh hc hs w (Or.inr q)]; rfl
    · unfold f_X12_walk; rw [lt_eq, show wI M 163 0 0 = th0 M from rfl, X12_isPerson_eq w _ hr0, has_yes hia (by omega), bI_some, if_neg (by decide), X12_isDoor_eq w b hr0, has_no q]; rfl
  have rA : ∀ N, QF p x h N → f_X12_walk w 163 (nI i) (nI d) N = if b2i (wkq p h i d) = 0 then some (-1, th0 N) else bV (f_X12_keeps w 163 (th0 N)) fun M8 => bV (f_X12_walks w 163 0 (nI i) (nI d) M8) fun M9 => chk (18 + nI i) (sL (rF 163 24)) (some (M9.1 (rF 163 24) (18 + nI i).toNatClampNeg, M9)) := fun N RN => by
    have r0 := RN.th0.2.2.2.2.1
    have hm := X12_mayWalk_in (b := 0) (by omega) hp hh r0 RN.th0.2.2.2.2.2.2 w hia hd
    unfold f_X12_walk
    rw [lt_eq, show wI N 163 0 0 = th0 N from rfl, X12_isPerson_eq w _ r0, has_yes hia (by omega), bI_some, if_neg (by decide), X12_isDoor_eq w _ r0, has_yes hd (by omega), bI_some, if_neg (by decide), show f_X12_mayWalk w 163 0 (nI i) (nI d) (th0 N) = _ from hm, bI_some]
  cases ew : wkq p h i d
  · refine De.no Q R hi hj o hB (-1) ?_ ?_
    · unfold f_X11_walk; rw [r0_6, X9_canWalk_in mem31 hp hh hc hs w hia hd, bI_some, ew]; rfl
    · rw [rA M R, ew]; rfl
  · have ea : adj p (sPl h i) d = true := by unfold wkq at ew; rw [Bool.and_eq_true] at ew; exact ew.2
    have hbl := bhn_lt hp hd (sPl h i)
    refine De.yes Q R hi hj o hB w hw (nI (bhn p d (sPl h i))) (h' := lSet h i (bhn p d (sPl h i))) (okS_l hh hbl) (by show sDay h ≤ _; omega) ?_ ?_
    · intro K eK cK xK sK
      refine ⟨wI K 34 i (nI (bhn p d (sPl h i))), ?_, ?_, fun c hc => by rw [wI_set, setC_ne _ _ (by omega)], sK.l i _⟩
      · unfold f_X11_walk
        rw [r0_6, r0_8, X9_canWalk_in mem31 hp hh hc hs w hia hd, bI_some, ew, if_neg (by decide), eK, bV_some, X9_makeWalk_in mem31 hp hh cK sK w hia hd ea, bV_some, r31_5, l34, chk_nI _ (by omega) (by omega), nI_clamp (by omega), wI_set, setC_at, upd_at]
      · exact Fe.ofr ((Fr.rf [34] K).wI (by decide) _ _) (by decide)
    · intro N K RN eK RK
      have hwk := X12_walks_in (b := 0) (by omega) hp hh RK.2.2.2.2.1 RK.2.2.2.2.2.2 w hia hd ea
      have sK := StR.l hp RK.2.2.2.2.2.2 hia (bhn p d (sPl h i))
      rw [Nat.zero_add] at hwk sK
      refine ⟨wI K 179 (18 + i) (nI (bhn p d (sPl h i))), ?_, FdR.w179 (by omega) _, fun j h1 _ => by rw [wI_set, setC_at, upd_ne _ _ (by omega)], by rw [wI_set, setC_ne _ _ (by decide)], sK⟩
      rw [rA N RN, ew, if_neg (by decide), eK, bV_some, show f_X12_walks w 163 0 (nI i) (nI d) K = _ from hwk, bV_some, r163_24, l179, show (18 : Int32) + nI i = nI (18 + i) by rw [nx_lit, nI_add], chk_nI _ (by omega) (by omega), nI_clamp (by omega), wI_set, setC_at, upd_at]
theorem X11_plane_eq (w : Nat) (hw : 1100 ≤ w) (Q : QC p x h M) (R : QF p x h M) (hi : HiC M p H) (hj : HiR M p H) (o : okHi p B H) (hB : sDay h ≤ B) (b : Int32) : De (f_X11_plane w 0 b) (f_X12_plane w 163 b) p B M := by
  have hp := Q.1
  have hh := Q.2.2.1
  have hc := Q.2.2.2.2.1
  have hs := Q.2.2.2.2.2.2
  have hD := hp.2.1
  have hr0 := R.th0.2.2.2.2.1
  rcases ix3 b (show pD p < 2 ^ 31 by omega) with q | ⟨d, hd, rfl⟩
  · refine De.no Q R hi hj o hB (-1) ?_ ?_
    · unfold f_X11_plane; rw [r0_6, X9_canPlane_no mem31 hp hh hc hs w q]; rfl
    · unfold f_X12_plane; rw [lt_eq, show wI M 163 0 0 = th0 M from rfl, X12_isDoor_eq w b hr0, has_no q]; rfl
  have hgb := (hh.2.1 d hd).1
  have gR : ∀ N, QF p x h N → N.1 179 (2 + d) = nI (sGap h d) := fun N RN => by
    have := (RN.2.2.2.2.2.2.2.2.1 d hd).1
    rw [Nat.zero_add] at this; exact this
  have rA : ∀ N, QF p x h N → f_X12_plane w 163 (nI d) N = if sGap h d < 20 then bV (f_X12_keeps w 163 (th0 N)) (fun M4 => some (M4.1 179 (2 + d) + 1, wI M4 179 (2 + d) (M4.1 179 (2 + d) + 1))) else some (-1, th0 N) := fun N RN => by
    have r0 := RN.th0.2.2.2.2.1
    unfold f_X12_plane
    rw [lt_eq, show wI N 163 0 0 = th0 N from rfl, X12_isDoor_eq w _ r0, has_yes hd (by omega), bI_some, if_neg (by decide), r163_24, l179, show (2 : Int32) + nI d = nI (2 + d) by rw [nx_lit, nI_add], chk_nI _ (by omega) (by omega), nI_clamp (by omega), gR _ RN.th0]
    by_cases q : sGap h d < 20
    · rw [if_pos (show nI _ < (20 : Int32) from (nI_ltI (b := 20) (by omega) (by omega)).mpr q), if_pos q]
      congr 1
      funext M4
      rw [chk_nI _ (by omega) (by omega), chk_nI _ (by omega) (by omega), lt_eq, chk_nI _ (by omega) (by omega), wI_set, setC_at, upd_at]
    · rw [if_neg (show ¬ nI _ < (20 : Int32) from fun e => q ((nI_ltI (b := 20) (by omega) (by omega)).mp e)), if_neg q]
  by_cases q : sGap h d < 20
  · refine De.yes Q R hi hj o hB w hw (nI (sGap h d + 1)) (h' := gSet h d (sGap h d + 1)) (okS_g hh (by omega)) (by show sDay h ≤ _; omega) ?_ ?_
    · intro K eK cK xK sK
      refine ⟨wI K 32 d (nI (sGap h d + 1)), ?_, ?_, fun c hc => by rw [wI_set, setC_ne _ _ (by omega)], sK.g d _⟩
      · unfold f_X11_plane
        rw [r0_6, r0_8, X9_canPlane_in mem31 hp hh hc hs w hd, bI_some, decide_eq_true q, if_neg (by decide), eK, bV_some, X9_makePlaning_in mem31 hp hh cK sK w hd, bV_some, r31_3, l32, chk_nI _ (by omega) (by omega), nI_clamp (by omega), wI_set, setC_at, upd_at]
      · exact Fe.ofr ((Fr.rf [32] K).wI (by decide) _ _) (by decide)
    · intro N K RN eK RK
      have sK := StR.g hp RK.2.2.2.2.2.2 hd (sGap h d + 1)
      rw [Nat.zero_add] at sK
      refine ⟨wI K 179 (2 + d) (nI (sGap h d + 1)), ?_, FdR.w179 (by omega) _, fun j h1 _ => by rw [wI_set, setC_at, upd_ne _ _ (by omega)], by rw [wI_set, setC_ne _ _ (by decide)], sK⟩
      rw [rA N RN, if_pos q, eK, bV_some, gR K RK, nI_1]
  · refine De.no Q R hi hj o hB (-1) ?_ ?_
    · unfold f_X11_plane; rw [r0_6, X9_canPlane_in mem31 hp hh hc hs w hd, bI_some, decide_eq_false q]; rfl
    · rw [rA M R, if_neg q]
theorem X11_wedge_eq (w : Nat) (hw : 1100 ≤ w) (Q : QC p x h M) (R : QF p x h M) (hi : HiC M p H) (hj : HiR M p H) (o : okHi p B H) (hB : sDay h ≤ B) (b : Int32) : De (f_X11_wedge w 0 b) (f_X12_wedge w 163 b) p B M := by
  have hp := Q.1
  have hh := Q.2.2.1
  have hc := Q.2.2.2.2.1
  have hs := Q.2.2.2.2.2.2
  have hD := hp.2.1
  have hr0 := R.th0.2.2.2.2.1
  rcases ix3 b (show pD p < 2 ^ 31 by omega) with q | ⟨d, hd, rfl⟩
  · refine De.no Q R hi hj o hB (-1) ?_ ?_
    · unfold f_X11_wedge; rw [r0_6, X9_canWedge_no mem31 hp hh hc hs w q]; rfl
    · unfold f_X12_wedge; rw [lt_eq, show wI M 163 0 0 = th0 M from rfl, X12_isDoor_eq w b hr0, has_no q]; rfl
  have rA : ∀ N, QF p x h N → f_X12_wedge w 163 (nI d) N = if b2i (!stk h d) = 0 then some (-1, th0 N) else bV (f_X12_keeps w 163 (th0 N)) (fun M6 => some (b2i (bit (M6.1 179 1 ^^^ one d) d), wI M6 179 1 (M6.1 179 1 ^^^ one d))) := fun N RN => by
    have r0 := RN.th0.2.2.2.2.1
    have hm := X12_mayWedge_in (b := 0) (by omega) hp hh r0 RN.th0.2.2.2.2.2.2 w hd
    unfold f_X12_wedge
    rw [lt_eq, show wI N 163 0 0 = th0 N from rfl, X12_isDoor_eq w _ r0, has_yes hd (by omega), bI_some, if_neg (by decide), show f_X12_mayWedge w 163 0 (nI d) (th0 N) = _ from hm, bI_some, r163_24, l179, show (1 : Int32).toNatClampNeg = 1 from rfl]
    congr 2
    funext M6
    rw [show chk (1 : Int32) 1495 = chk (nI 1) 1495 from rfl, chk_nI _ (by omega) (by omega), chk_nI _ (by omega) (by omega), lt_eq, chk_nI _ (by omega) (by omega), wI_set, setC_at, upd_at, bit_b]
    rw [wI_set]
    rfl
  cases es : stk h d
  · refine De.yes Q R hi hj o hB w hw (b2i (bit (sWed h ^^^ one d) d)) (h' := wSet h (sWed h ^^^ one d)) (okS_w hh _) (by show sDay h ≤ _; omega) ?_ ?_
    · intro K eK cK xK sK
      refine ⟨wI K 31 2 (sWed h ^^^ one d), ?_, ?_, fun c hc => by rw [wI_set, setC_ne _ _ (by omega)], sK.w _⟩
      · unfold f_X11_wedge
        rw [r0_6, r0_8, X9_canWedge_in mem31 hp hh hc hs w hd, bI_some, es, if_neg (by decide), eK, bV_some, X9_turnWedge_in mem31 hp hh cK sK w d, bV_some, X9_hasWedge_eq, bI_some, wI_set, setC_at, upd_at]
        cases bit (sWed h ^^^ one d) d <;> rfl
      · exact Fe.ofr ((Fr.rf [31] K).wI (by decide) _ _) (by decide)
    · intro N K RN eK RK
      have sK := StR.w RK.2.2.2.2.2.2 (sWed h ^^^ one d)
      rw [Nat.zero_add] at sK
      have gw : K.1 179 1 = sWed h := RK.2.2.2.2.2.2.2.1
      refine ⟨wI K 179 1 (sWed h ^^^ one d), ?_, FdR.w179 (by omega) _, fun j h1 _ => by rw [wI_set, setC_at, upd_ne _ _ (by omega)], by rw [wI_set, setC_ne _ _ (by decide)], sK⟩
      rw [rA N RN, es, if_neg (by decide), eK, bV_some, gw]
  · refine De.no Q R hi hj o hB (-1) ?_ ?_
    · unfold f_X11_wedge; rw [r0_6, X9_canWedge_in mem31 hp hh hc hs w hd, bI_some, es]; rfl
    · rw [rA M R, es]; rfl
theorem X11_force_eq (w : Nat) (hw : 1100 ≤ w) (Q : QC p x h M) (R : QF p x h M) (hi : HiC M p H) (hj : HiR M p H) (o : okHi p B H) (hB : sDay h ≤ B) (b : Int32) : De (f_X11_force w 0 b) (f_X12_force w 163 b) p B M := by
  have hp := Q.1
  have hh := Q.2.2.1
  have hc := Q.2.2.2.2.1
  have hs := Q.2.2.2.2.2.2
  have hD := hp.2.1
  have hr0 := R.th0.2.2.2.2.1
  rcases ix3 b (show pD p < 2 ^ 31 by omega) with q | ⟨d, hd, rfl⟩
  · refine De.no Q R hi hj o hB (-1) ?_ ?_
    · unfold f_X11_force; rw [r0_6, X9_canForce_no mem31 hp hh hc hs w q]; rfl
    · unfold f_X12_force; rw [lt_eq, show wI M 163 0 0 = th0 M from rfl, X12_isDoor_eq w b hr0, has_no q]; rfl
  have rA : ∀ N, QF p x h N → f_X12_force w 163 (nI d) N = if b2i (fcq h d) = 0 then some (-1, th0 N) else bV (f_X12_keeps w 163 (th0 N)) (fun M6 => some (M6.1 179 (10 + d), wI M6 179 (2 + d) (M6.1 179 (10 + d)))) := fun N RN => by
    have r0 := RN.th0.2.2.2.2.1
    have hm := X12_mayForce_in (b := 0) (by omega) hp hh r0 RN.th0.2.2.2.2.2.2 w hd
    unfold f_X12_force
    rw [lt_eq, show wI N 163 0 0 = th0 N from rfl, X12_isDoor_eq w _ r0, has_yes hd (by omega), bI_some, if_neg (by decide), show f_X12_mayForce w 163 0 (nI d) (th0 N) = _ from hm, bI_some, r163_24, l179, show (2 : Int32) + nI d = nI (2 + d) by rw [nx_lit, nI_add], show (10 : Int32) + nI d = nI (10 + d) by rw [nx_lit, nI_add], nI_clamp (by omega), nI_clamp (by omega)]
    congr 2
    funext M6
    rw [chk_nI _ (by omega) (by omega), chk_nI _ (by omega) (by omega), lt_eq, chk_nI _ (by omega) (by omega), wI_set, setC_at, upd_at]
  have hsb := (hh.2.1 d hd).2
  cases es : fcq h d
  · refine De.no Q R hi hj o hB (-1) ?_ ?_
    · unfold f_X11_force; rw [r0_6, X9_canForce_in mem31 hp hh hc hs w hd, bI_some, es]; rfl
    · rw [rA M R, es]; rfl
  · refine De.yes Q R hi hj o hB w hw (nI (sSw h d)) (h' := gSet h d (sSw h d)) (okS_g hh hsb) (by show sDay h ≤ _; omega) ?_ ?_
    · intro K eK cK xK sK
      refine ⟨wI K 32 d (nI (sSw h d)), ?_, ?_, fun c hc => by rw [wI_set, setC_ne _ _ (by omega)], sK.g d _⟩
      · unfold f_X11_force
        rw [r0_6, r0_8, X9_canForce_in mem31 hp hh hc hs w hd, bI_some, es, if_neg (by decide), eK, bV_some, X9_makeForcing_in mem31 hp hh cK sK w hd, bV_some, r31_3, l32, chk_nI _ (by omega) (by omega), nI_clamp (by omega), wI_set, setC_at, upd_at]
      · exact Fe.ofr ((Fr.rf [32] K).wI (by decide) _ _) (by decide)
    · intro N K RN eK RK
      have sK := StR.g hp RK.2.2.2.2.2.2 hd (sSw h d)
      rw [Nat.zero_add] at sK
      have gs : K.1 179 (10 + d) = nI (sSw h d) := by
        have := (RK.2.2.2.2.2.2.2.2.1 d hd).2
        rw [Nat.zero_add] at this; exact this
      refine ⟨wI K 179 (2 + d) (nI (sSw h d)), ?_, FdR.w179 (by omega) _, fun j h1 _ => by rw [wI_set, setC_at, upd_ne _ _ (by omega)], by rw [wI_set, setC_ne _ _ (by decide)], sK⟩
      rw [rA N RN, es, if_neg (by decide), eK, bV_some, gs]
theorem X11_undo_eq (w : Nat) (hw : 1100 ≤ w) (Q : QC p x h M) (R : QF p x h M) (hi : HiC M p H) (hj : HiR M p H) (o : okHi p B H) (hB : sDay h ≤ B) : De (f_X11_undo w 0) (f_X12_undo w 163) p B M := by
  have hp := Q.1
  have h16 := o.1
  rcases X1_bringBack_eq w hp hi with ⟨h0, e⟩ | ⟨h0, N, e, f, s, i2⟩
  · refine De.no Q R hi hj o hB 0 ?_ ?_
    · unfold f_X11_undo; rw [r0_8, r0_6, e]; rfl
    · unfold f_X12_undo
      rw [lt_eq, show wI M 163 0 0 = th0 M from rfl, show (th0 M).1 163 25 = M.1 163 25 from rfl, hj.1, h0, if_pos (show nI 0 = 0 from rfl)]; rfl
  · have e25 : N.1 163 25 = nI H.1 := by rw [f.1 163 (by decide)]; exact hj.1
    have e179 : N.1 179 = M.1 179 := f.1 179 (by decide)
    have t25 : (th0 N).1 163 25 = nI H.1 := e25
    have g25 : (wI (th0 N) 163 25 (nI (H.1 - 1))).1 163 25 = nI (H.1 - 1) := by rw [wI_set, setC_at, upd_at]
    obtain ⟨K, eK, fK, k1, k2⟩ := X12_copies_eq w (a := 65 * (5 + (H.1 - 1))) (b := 0) (m := 23) (by omega) (by omega) (by omega) (by omega) (wI (th0 N) 163 25 (nI (H.1 - 1)))
    have w179 : (wI (th0 N) 163 25 (nI (H.1 - 1))).1 179 = M.1 179 := by rw [wI_set, setC_ne _ _ (by decide), th0_1 _ (by decide), e179]
    have o0 := o.2 0 h0
    refine ⟨1, H.2 0, ppd H, N, K, ?_, ?_, s, i2, ?_, ?_, ?_, ?_, o0.1, by have := o0.2; omega, by show H.1 - 1 ≤ 16; omega, fun i hi => ?_⟩
    · unfold f_X11_undo; rw [r0_8, r0_6, e]; rfl
    · exact ⟨fun c h1 h2 h3 h4 => f.1 c (by simp; omega), f.2⟩
    · unfold f_X12_undo
      rw [lt_eq, show wI N 163 0 0 = th0 N from rfl, t25, if_neg (show ¬ nI H.1 = 0 from fun q => by have := (nI_eq (b := 0) (by omega) (by omega)).mp q; omega), show nI H.1 - 1 = nI (H.1 - 1) from pk_sub (b := 1) (by omega), lt_eq, g25, show (5 : Int32) + nI (H.1 - 1) = nI (5 + (H.1 - 1)) from nI_add 5 _, show (65 : Int32) * nI (5 + (H.1 - 1)) = nI (65 * (5 + (H.1 - 1))) from pk_mul 65 _, show f_X12_copies w 163 (nI (65 * (5 + (H.1 - 1)))) 0 23 _ = some K from eK, bV_some]
      rfl
    · refine ⟨fun c h1 h2 h3 h4 => ?_, ?_, fun j hj => ?_, fun j h1 _ => ?_⟩
      · rw [fK.1 c (by simp; exact h4), wI_set, setC_ne _ _ h1]
      · rw [fK.2, wI_set, setC_2]
      · rw [fK.1 163 (by decide), wI_set, setC_at, upd_ne _ _ hj]
      · rw [k2 j (by omega), wI_set, setC_ne _ _ (by decide)]
    · have h1 := hj.2 0 h0
      rw [show H.1 - 1 - 0 = H.1 - 1 by omega] at h1
      exact h1.copy hp (fun k hk => by rw [k1 k hk, w179])
    · refine ⟨by rw [fK.1 163 (by decide)]; exact g25, fun i hi => ?_⟩
      have hi : i < H.1 - 1 := hi
      have h1 := hj.2 (i + 1) (by omega)
      show StR K (65 * (5 + (H.1 - 1 - 1 - i))) p (H.2 (i + 1))
      rw [show H.1 - 1 - 1 - i = H.1 - 1 - (i + 1) by omega]
      exact h1.fr hp (fun j h2 h3 => by rw [k2 j (by omega), w179])
    · have hi : i < H.1 - 1 := hi
      have h1 := o.2 (i + 1) (by omega)
      exact ⟨h1.1, by have := h1.2; show sDay (H.2 (i + 1)) ≤ _; omega⟩
end DD
