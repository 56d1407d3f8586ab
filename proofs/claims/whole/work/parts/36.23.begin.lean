/-! ===== the begin; a told line ===== -/
def beg (p : HP) : HS := (0, 0, pG p, fun _ => 0, pS p)
section BEG
variable {p : HP} {x : HX} {h : HS} {M N : mM}
theorem beg_ok (hp : okP p) : okS p (beg p) := ⟨by show 0 < 100000; omega, fun d hd => ⟨by have := (hp.2.2.2.1 d hd).2.2.2.1; show pG p d ≤ 30; omega, by show 0 ≤ 30; omega⟩, fun q hq => hp.2.2.2.2 q hq⟩
theorem X9_begin_eq (w : Nat) (hw : 40 ≤ w) {o : Nat} (ho : o ∈ [31, 35, 41, 45, 49, 53, 57, 61, 65, 69, 73, 77, 81, 85, 89, 93, 97, 101, 119, 130, 141, 152]) (ho2 : 31 ≤ o) (hp : okP p) (hc : PlC M 1 p) : ∃ N, f_X9_begin w o M = some N ∧ Fr [o, o + 1, o + 2, o + 3] M N ∧ StC N o p (beg p) := by
  have hD := hp.2.1
  have hP := hp.2.2.1
  obtain ⟨a0, a3, a4, a5, b1, b2, b3⟩ := stF o ho
  unfold f_X9_begin
  rw [lt_eq, lt_eq]
  have f0 : Fr [o, o + 1, o + 2, o + 3] M (wI (wI M o 1 0) o 2 0) := ((Fr.rf _ M).wI (by simp) _ _).wI (by simp) _ _
  refine loopX (fun k (N : mM) => Fr [o, o + 1, o + 2, o + 3] M N ∧ N.1 o 1 = 0 ∧ N.1 o 2 = 0 ∧ ∀ d, d < k → N.1 (o + 1) d = M.1 8 d ∧ N.1 (o + 2) d = 0) (fun n (N : mM) k => f_X9_begin_12 w n o (nI k) N) 8 (fun r => ∃ N, r = some N ∧ Fr [o, o + 1, o + 2, o + 3] M N ∧ StC N o p (beg p)) ?_ ?_ 8 w 0 (wI (wI M o 1 0) o 2 0) (by omega) (by omega) ⟨f0, by rw [wI_set, setC_at, upd_ne _ _ (by decide), wI_set, setC_at, upd_at], by rw [wI_set, setC_at, upd_at], fun d hd => by omega⟩
  · rintro n N ⟨f, i1, i2, i3⟩
    rw [f_X9_begin_12, if_pos (by decide)]
    unfold f_X9_begin_46
    rw [a0, a5, b3, r1_6, l4, show cpk (0 : Int32) 0 5 5 5 = cpk (nI 0) (nI 0) (nI 5) 5 5 from rfl, cpk_ok _ (by omega) (by omega) (by omega), lt_eq, show (0 : Int32).toNatClampNeg = 0 from rfl, show (5 : Int32).toNatClampNeg = 5 from rfl, cI_set]
    refine ⟨_, rfl, f.set (by simp) _, ?_, ?_, fun d hd => ⟨?_, ?_⟩, fun q hq => ?_⟩
    · rw [setC_ne _ _ (by omega)]; exact i1
    · rw [setC_ne _ _ (by omega)]; exact i2
    · rw [setC_ne _ _ (by omega), (i3 d (by omega)).1]; exact (hc.2.2.2.1 d hd).2.2.2
    · rw [setC_ne _ _ (by omega), (i3 d (by omega)).2]; rfl
    · rw [setC_at, cpy_in _ _ (by omega), f.1 4 (by simp; omega)]; exact hc.2.2.2.2 q hq
  · rintro n N k hk ⟨f, i1, i2, i3⟩
    have g8 : N.1 8 = M.1 8 := f.1 8 (by simp; omega)
    refine Or.inr ⟨wI (wI N (o + 1) k (M.1 8 k)) (o + 2) k 0, ?_, (f.wI (by simp) _ _).wI (by simp) _ _, ?_, ?_, fun d hd => ?_⟩
    · rw [f_X9_begin_12, if_neg (fun e => by have := (nI_leI (a := 8) (by omega) (by omega)).mp e; omega), a0, a3, a4, b1, b2, r1_10, l8, chk_nI _ (by omega) (by omega), chk_nI _ (by omega) (by omega), nI_clamp (by omega), lt_eq, chk_nI _ (by omega) (by omega), lt_eq, g8, nI_1]
    · rw [wI_set, setC_ne _ _ (by omega), wI_set, setC_ne _ _ (by omega)]; exact i1
    · rw [wI_set, setC_ne _ _ (by omega), wI_set, setC_ne _ _ (by omega)]; exact i2
    · refine ⟨?_, ?_⟩
      · rw [wI_set, setC_ne _ _ (by omega), wI_set, setC_at]
        by_cases q : d = k
        · subst q; rw [upd_at]
        · rw [upd_ne _ _ q]; exact (i3 d (by omega)).1
      · rw [wI_set, setC_at]
        by_cases q : d = k
        · subst q; rw [upd_at]
        · rw [upd_ne _ _ q, wI_set, setC_ne _ _ (by omega)]; exact (i3 d (by omega)).2
theorem X12_starts_eq (w : Nat) (hw : 40 ≤ w) {b : Nat} (hb : b ≤ 1430) (hp : okP p) (hc : PlR M 0 p) : ∃ N, f_X12_starts w 163 (nI b) M = some N ∧ Fr [179] M N ∧ (∀ j, (j < b ∨ b + 23 ≤ j) → N.1 179 j = M.1 179 j) ∧ StR N b p (beg p) := by
  have hD := hp.2.1
  have hP := hp.2.2.1
  unfold f_X12_starts
  refine loopX (fun k (N : mM) => Fr [179] M N ∧ (∀ j, (j < b ∨ b + 23 ≤ j) → N.1 179 j = M.1 179 j) ∧ ∀ j, j < k → N.1 179 (b + j) = 0) (fun n (N : mM) k => f_X12_starts_2 w n 163 (nI b) (nI k) N) 23 (fun r => ∃ N, r = some N ∧ Fr [179] M N ∧ (∀ j, (j < b ∨ b + 23 ≤ j) → N.1 179 j = M.1 179 j) ∧ StR N b p (beg p)) ?_ ?_ 23 w 0 M (by omega) (by omega) ⟨Fr.rf _ _, fun _ _ => rfl, fun j hj => by omega⟩
  · rintro n N ⟨f, i1, i2⟩
    rw [f_X12_starts_2, if_pos (by decide)]
    unfold f_X12_starts_23
    refine loopX (fun k (K : mM) => Fr [179] M K ∧ (∀ j, (j < b ∨ b + 23 ≤ j) → K.1 179 j = M.1 179 j) ∧ (∀ j, j < 23 → (j < 2 ∨ 2 + k ≤ j) → K.1 179 (b + j) = 0) ∧ ∀ d, d < k → K.1 179 (b + 2 + d) = nI (pG p d)) (fun n (K : mM) k => f_X12_starts_25 w n 163 (nI b) (nI k) K) (pD p) (fun r => ∃ N, r = some N ∧ Fr [179] M N ∧ (∀ j, (j < b ∨ b + 23 ≤ j) → N.1 179 j = M.1 179 j) ∧ StR N b p (beg p)) ?_ ?_ (pD p) w 0 N (by omega) (by omega) ⟨f, i1, fun j hj _ => i2 j hj, fun d hd => by omega⟩
    · rintro n K ⟨fK, j1, j2, j3⟩
      have rK : PlR K 0 p := hc.fr (fK.1 169 (by decide))
      rw [f_X12_starts_25, X12_doors_eq, bI_some, show K.1 169 1 = nI (pD p) from rK.2.1, if_pos (Int32.le_refl _)]
      unfold f_X12_starts_55
      refine loopX (fun k (L : mM) => Fr [179] M L ∧ (∀ j, (j < b ∨ b + 23 ≤ j) → L.1 179 j = M.1 179 j) ∧ (∀ j, j < 18 → L.1 179 (b + j) = K.1 179 (b + j)) ∧ ∀ q, q < k → L.1 179 (b + 18 + q) = nI (pS p q)) (fun n (L : mM) k => f_X12_starts_57 w n 163 (nI b) (nI k) L) (pP p) (fun r => ∃ N, r = some N ∧ Fr [179] M N ∧ (∀ j, (j < b ∨ b + 23 ≤ j) → N.1 179 j = M.1 179 j) ∧ StR N b p (beg p)) ?_ ?_ (pP p) w 0 K (by omega) (by omega) ⟨fK, j1, fun _ _ => rfl, fun q hq => by omega⟩
      · rintro n L ⟨fL, k1, k2, k3⟩
        have rL : PlR L 0 p := hc.fr (fL.1 169 (by decide))
        rw [f_X12_starts_57, X12_persons_eq, bI_some, show L.1 169 2 = nI (pP p) from rL.2.2.1, if_pos (Int32.le_refl _)]
        refine ⟨L, rfl, fL, k1, ?_, ?_, fun d hd => ⟨?_, ?_⟩, fun q hq => k3 q hq⟩
        · have e1 := k2 0 (by omega)
          have e2 := j2 0 (by omega) (by omega)
          rw [Nat.add_zero] at e1 e2
          rw [e1, e2]; rfl
        · rw [k2 1 (by omega), j2 1 (by omega) (by omega)]; rfl
        · rw [Nat.add_assoc, k2 (2 + d) (by omega), ← Nat.add_assoc]; exact j3 d hd
        · rw [Nat.add_assoc, k2 (10 + d) (by omega), j2 (10 + d) (by omega) (by omega)]; rfl
      · rintro n L k hk ⟨fL, k1, k2, k3⟩
        have rL : PlR L 0 p := hc.fr (fL.1 169 (by decide))
        have g : L.1 169 (37 + k) = nI (pS p k) := by have := rL.2.2.2.2 k hk; rw [Nat.zero_add] at this; exact this
        refine Or.inr ⟨wI L 179 (b + 18 + k) (nI (pS p k)), ?_, fL.wI (by decide) _ _, fun j hj => ?_, fun j hj => ?_, fun q hq => ?_⟩
        · rw [f_X12_starts_57, X12_persons_eq, bI_some, show L.1 169 2 = nI (pP p) from rL.2.2.1, if_neg (fun h => by have := (nI_leI (by omega) (by omega)).mp h; omega), r163_10, r163_24, l169, l179, show (37 : Int32) + nI k = nI (37 + k) from nI_add 37 k, chk_nI _ (by omega) (by omega), show nI b + 18 + nI k = nI (b + 18 + k) by show nI b + nI 18 + nI k = _; rw [nI_add, nI_add], chk_nI _ (by omega) (by omega), nI_clamp (by omega), nI_clamp (by omega), g, lt_eq, nI_1]
        · rw [wI_set, setC_at, upd_ne _ _ (by omega)]; exact k1 j hj
        · rw [wI_set, setC_at, upd_ne _ _ (by omega)]; exact k2 j hj
        · rw [wI_set, setC_at]
          by_cases z : q = k
          · subst z; rw [upd_at]
          · rw [upd_ne _ _ (by omega)]; exact k3 q (by omega)
    · rintro n K k hk ⟨fK, j1, j2, j3⟩
      have rK : PlR K 0 p := hc.fr (fK.1 169 (by decide))
      have g : K.1 169 (8 + 4 * k) = nI (pG p k) := by have := (rK.2.2.2.1 k hk).2.2.2; rw [Nat.zero_add] at this; exact this
      refine Or.inr ⟨wI K 179 (b + 2 + k) (nI (pG p k)), ?_, fK.wI (by decide) _ _, fun j hj => ?_, fun j hj hj2 => ?_, fun d hd => ?_⟩
      · rw [f_X12_starts_25, X12_doors_eq, bI_some, show K.1 169 1 = nI (pD p) from rK.2.1, if_neg (fun h => by have := (nI_leI (by omega) (by omega)).mp h; omega), X12_doorOf3 w (by omega), bI_some, r163_24, l179, show nI b + 2 + nI k = nI (b + 2 + k) by show nI b + nI 2 + nI k = _; rw [nI_add, nI_add], chk_nI _ (by omega) (by omega), nI_clamp (by omega), g, lt_eq, nI_1]
      · rw [wI_set, setC_at, upd_ne _ _ (by omega)]; exact j1 j hj
      · rw [wI_set, setC_at, upd_ne _ _ (by omega)]; exact j2 j hj (by omega)
      · rw [wI_set, setC_at]
        by_cases z : d = k
        · subst z; rw [upd_at]
        · rw [upd_ne _ _ (by omega)]; exact j3 d (by omega)
  · rintro n N k hk ⟨f, i1, i2⟩
    refine Or.inr ⟨wI N 179 (b + k) 0, ?_, f.wI (by decide) _ _, fun j hj => ?_, fun j hj => ?_⟩
    · rw [f_X12_starts_2, if_neg (fun e => by have := (nI_leI (a := 23) (by omega) (by omega)).mp e; omega), nI_add, r163_24, l179, chk_nI _ (by omega) (by omega), nI_clamp (by omega), lt_eq, nI_1]
    · rw [wI_set, setC_at, upd_ne _ _ (by omega)]; exact i1 j hj
    · rw [wI_set, setC_at]
      by_cases z : j = k
      · subst z; rw [upd_at]
      · rw [upd_ne _ _ (by omega)]; exact i2 j (by omega)
/-- a line done on a state: can it be, and what then -/
def jdo (p : HP) (x : HX) (h : HS) (k d q : Nat) : Bool × HS := if k = 0 then (true, nx p x (dmp x (sDay h)) h) else if k = 1 then (wkq p h q d, if wkq p h q d then lSet h q (bhn p d (sPl h q)) else h) else if k = 2 then (decide (sGap h d < 20), if sGap h d < 20 then gSet h d (sGap h d + 1) else h) else if k = 3 then (!stk h d, if stk h d then h else wSet h (sWed h ^^^ one d)) else (fcq h d, if fcq h d then gSet h d (sSw h d) else h)
theorem jdo_ok (hp : okP p) (hh : okS p h) (hday : sDay h + 1 < 100000) {k d q : Nat} (hd : k = 0 ∨ d < pD p) : okS p (jdo p x h k d q).2 ∧ sDay (jdo p x h k d q).2 ≤ sDay h + 1 := by
  unfold jdo
  by_cases k0 : k = 0
  · rw [if_pos k0]; exact ⟨okS_nx hh hday, Nat.le_refl _⟩
  · have hd := hd.resolve_left k0
    rw [if_neg k0]
    split
    · show okS p (if wkq p h q d then _ else h) ∧ sDay (if wkq p h q d then _ else h) ≤ _
      split
      · exact ⟨okS_l hh (bhn_lt hp hd _), by show sDay h ≤ _; omega⟩
      · exact ⟨hh, by omega⟩
    · split
      · show okS p (if sGap h d < 20 then _ else h) ∧ sDay (if sGap h d < 20 then _ else h) ≤ _
        split
        · exact ⟨okS_g hh (by omega), by show sDay h ≤ _; omega⟩
        · exact ⟨hh, by omega⟩
      · split
        · show okS p (if stk h d then h else _) ∧ sDay (if stk h d then h else _) ≤ _
          split
          · exact ⟨hh, by omega⟩
          · exact ⟨okS_w hh _, by show sDay h ≤ _; omega⟩
        · show okS p (if fcq h d then _ else h) ∧ sDay (if fcq h d then _ else h) ≤ _
          split
          · exact ⟨okS_g hh (hh.2.1 d hd).2, by show sDay h ≤ _; omega⟩
          · exact ⟨hh, by omega⟩
theorem lin_dec : ∀ k, k < 8 → ∀ d, d < 8 → ∀ q, q < 8 → nI (k + 8 * d + 64 * q) &&& 7 = nI k ∧ (nI (k + 8 * d + 64 * q) >>> ((3 : Int32) &&& 31)) &&& 7 = nI d ∧ nI (k + 8 * d + 64 * q) >>> ((6 : Int32) &&& 31) = nI q := by decide +kernel
theorem X9_followLine_eq (w : Nat) (hw : 1100 ≤ w) {o : Nat} (ho : o ∈ [31, 35, 41, 45, 49, 53, 57, 61, 65, 69, 73, 77, 81, 85, 89, 93, 97, 101, 119, 130, 141, 152]) (ho2 : 31 ≤ o) (hp : okP p) (hx : okX x) (hh : okS p h) (hc : PlC M 1 p) (hxc : XC M 1 x) (hs : StC M o p h) {k d q : Nat} (hk : k ≤ 4) (hd8 : d < 8) (hq8 : q < 8) (hd : k = 0 ∨ d < pD p) (hq : k = 1 → q < pP p) : ∃ N, f_X9_followLine w o (nI (k + 8 * d + 64 * q)) M = some (b2i (jdo p x h k d q).1, N) ∧ Fr [12, o, o + 1, o + 2, o + 3] M N ∧ StC N o p (jdo p x h k d q).2 := by
  obtain ⟨l1, l2, l3⟩ := lin_dec k (by omega) d hd8 q hq8
  unfold f_X9_followLine
  rw [l1, l2, l3, lt_eq]
  have hkk : k = 0 ∨ k = 1 ∨ k = 2 ∨ k = 3 ∨ k = 4 := by omega
  rcases hkk with rfl | rfl | rfl | rfl | rfl
  · obtain ⟨N, e, f, s⟩ := X9_passDay_eq w hw ho hp hx hh hc hxc hs
    refine ⟨N, ?_, f.mono (fun c hc => by simp at hc ⊢; omega), s⟩
    rw [if_pos (by decide), e, bV_some]; rfl
  · have hd := hd.resolve_left (by decide)
    have hq := hq rfl
    have hcan := X9_canWalk_in ho hp hh hc hs w hq hd
    rw [if_neg (by decide)]
    dsimp only
    rw [if_pos (by decide)]
    unfold f_X9_walkIfCan
    rw [hcan, bI_some]
    cases ew : wkq p h q d
    · refine ⟨M, ?_, Fr.rf _ _, ?_⟩
      · show _ = some (b2i (wkq p h q d), M); rw [ew]; rfl
      · show StC M o p (if wkq p h q d then _ else h); rw [ew]; exact hs
    · have ea : adj p (sPl h q) d = true := by unfold wkq at ew; rw [Bool.and_eq_true] at ew; exact ew.2
      refine ⟨wI M (o + 3) q (nI (bhn p d (sPl h q))), ?_, (Fr.rf _ M).wI (by simp) _ _, ?_⟩
      · rw [if_neg (show ¬ b2i true = 0 by decide), X9_makeWalk_in ho hp hh hc hs w hq hd ea, bV_some]
        show _ = some (b2i (wkq p h q d), _); rw [ew]; rfl
      · show StC _ o p (if wkq p h q d then _ else h); rw [ew]; exact hs.l q _
  · have hd := hd.resolve_left (by decide)
    have hcan := X9_canPlane_in ho hp hh hc hs w hd
    rw [if_neg (by decide)]
    dsimp only
    rw [if_neg (by decide), if_pos (by decide)]
    unfold f_X9_planeIfCan
    rw [hcan, bI_some]
    by_cases e : sGap h d < 20
    · refine ⟨wI M (o + 1) d (nI (sGap h d + 1)), ?_, (Fr.rf _ M).wI (by simp) _ _, ?_⟩
      · rw [decide_eq_true e, if_neg (show ¬ b2i true = 0 by decide), X9_makePlaning_in ho hp hh hc hs w hd, bV_some]
        show _ = some (b2i (decide (sGap h d < 20)), _); rw [decide_eq_true e]; rfl
      · show StC _ o p (if sGap h d < 20 then _ else h); rw [if_pos e]; exact hs.g d _
    · refine ⟨M, ?_, Fr.rf _ _, ?_⟩
      · show _ = some (b2i (decide (sGap h d < 20)), _); rw [decide_eq_false e]; rfl
      · show StC _ o p (if sGap h d < 20 then _ else h); rw [if_neg e]; exact hs
  · have hd := hd.resolve_left (by decide)
    have hcan := X9_canWedge_in ho hp hh hc hs w hd
    rw [if_neg (by decide)]
    dsimp only
    rw [if_neg (by decide), if_neg (by decide), if_pos (by decide)]
    unfold f_X9_wedgeIfCan
    rw [hcan, bI_some]
    cases es : stk h d
    · refine ⟨wI M o 2 (sWed h ^^^ one d), ?_, (Fr.rf _ M).wI (by simp) _ _, ?_⟩
      · rw [if_neg (show ¬ b2i (!false) = 0 by decide), X9_turnWedge_in ho hp hh hc hs w d, bV_some]
        show _ = some (b2i (!stk h d), _); rw [es]; rfl
      · show StC _ o p (if stk h d then h else _); rw [es]; exact hs.w _
    · refine ⟨M, ?_, Fr.rf _ _, ?_⟩
      · show _ = some (b2i (!stk h d), _); rw [es]; rfl
      · show StC _ o p (if stk h d then h else _); rw [es]; exact hs
  · have hd := hd.resolve_left (by decide)
    have hcan := X9_canForce_in ho hp hh hc hs w hd
    rw [if_neg (by decide)]
    dsimp only
    rw [if_neg (by decide), if_neg (by decide), if_neg (by decide)]
    unfold f_X9_forceIfCan
    rw [hcan, bI_some]
    cases es : fcq h d
    · refine ⟨M, ?_, Fr.rf _ _, ?_⟩
      · show _ = some (b2i (fcq h d), _); rw [es]; rfl
      · show StC _ o p (if fcq h d then _ else h); rw [es]; exact hs
    · refine ⟨wI M (o + 1) d (nI (sSw h d)), ?_, (Fr.rf _ M).wI (by simp) _ _, ?_⟩
      · rw [if_neg (show ¬ b2i true = 0 by decide), X9_makeForcing_in ho hp hh hc hs w hd, bV_some]
        show _ = some (b2i (fcq h d), _); rw [es]; rfl
      · show StC _ o p (if fcq h d then _ else h); rw [es]; exact hs.g d _
/-- the same, the door perhaps not there -/
def jdw (p : HP) (x : HX) (h : HS) (k d q : Nat) : Bool × HS := if k ≠ 0 ∧ pD p ≤ d then (false, h) else jdo p x h k d q
theorem jdw_ok (hp : okP p) (hh : okS p h) (hday : sDay h + 1 < 100000) (k d q : Nat) : okS p (jdw p x h k d q).2 ∧ sDay (jdw p x h k d q).2 ≤ sDay h + 1 := by
  unfold jdw
  split
  · exact ⟨hh, by show sDay h ≤ _; omega⟩
  · exact jdo_ok hp hh hday (by omega)
theorem X9_followLine_eqw (w : Nat) (hw : 1100 ≤ w) {o : Nat} (ho : o ∈ [31, 35, 41, 45, 49, 53, 57, 61, 65, 69, 73, 77, 81, 85, 89, 93, 97, 101, 119, 130, 141, 152]) (ho2 : 31 ≤ o) (hp : okP p) (hx : okX x) (hh : okS p h) (hc : PlC M 1 p) (hxc : XC M 1 x) (hs : StC M o p h) {k d q : Nat} (hk : k ≤ 4) (hd8 : d < 8) (hq8 : q < 8) (hq : k = 1 → q < pP p) : ∃ N, f_X9_followLine w o (nI (k + 8 * d + 64 * q)) M = some (b2i (jdw p x h k d q).1, N) ∧ Fr [12, o, o + 1, o + 2, o + 3] M N ∧ StC N o p (jdw p x h k d q).2 := by
  by_cases z : k ≠ 0 ∧ pD p ≤ d
  · have hD := hp.2.1
    have e : jdw p x h k d q = (false, h) := by unfold jdw; rw [if_pos z]
    obtain ⟨l1, l2, l3⟩ := lin_dec k (by omega) d hd8 q hq8
    have zd : nI d < 0 ∨ nI (pD p) ≤ nI d := Or.inr ((nI_leI (by omega) (by omega)).mpr z.2)
    rw [e]
    refine ⟨M, ?_, Fr.rf _ _, hs⟩
    unfold f_X9_followLine
    rw [l1, l2, l3, lt_eq]
    have hkk : k = 1 ∨ k = 2 ∨ k = 3 ∨ k = 4 := by omega
    rcases hkk with rfl | rfl | rfl | rfl
    · rw [if_neg (by decide)]
      dsimp only
      rw [if_pos (by decide)]
      unfold f_X9_walkIfCan
      rw [X9_canWalk_no ho hp hh hc hs w (Or.inr zd), bI_some]; rfl
    · rw [if_neg (by decide)]
      dsimp only
      rw [if_neg (by decide), if_pos (by decide)]
      unfold f_X9_planeIfCan
      rw [X9_canPlane_no ho hp hh hc hs w zd, bI_some]; rfl
    · rw [if_neg (by decide)]
      dsimp only
      rw [if_neg (by decide), if_neg (by decide), if_pos (by decide)]
      unfold f_X9_wedgeIfCan
      rw [X9_canWedge_no ho hp hh hc hs w zd, bI_some]; rfl
    · rw [if_neg (by decide)]
      dsimp only
      rw [if_neg (by decide), if_neg (by decide), if_neg (by decide)]
      unfold f_X9_forceIfCan
      rw [X9_canForce_no ho hp hh hc hs w zd, bI_some]; rfl
  · have e : jdw p x h k d q = jdo p x h k d q := by unfold jdw; rw [if_neg z]
    rw [e]
    exact X9_followLine_eq w hw ho ho2 hp hx hh hc hxc hs hk hd8 hq8 (by omega) hq
end BEG
