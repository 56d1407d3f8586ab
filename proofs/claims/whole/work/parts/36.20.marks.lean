/-! ===== feel, say, mark ===== -/
def UCf (M : mM) (o k : Nat) (u : FU) : Prop := M.1 o 0 = nI k ∧ ∀ i, i < k → M.1 (o + 1) i = nI (uFd u i) ∧ M.1 (o + 2) i = nI (uFn u i) ∧ M.1 (o + 3) i = b2i (uFs u i)
def UCs (M : mM) (o k : Nat) (u : FU) : Prop := M.1 o 1 = nI k ∧ ∀ i, i < k → M.1 (o + 4) i = nI (uSr u i) ∧ M.1 (o + 5) i = nI (uSn u i)
section MARKS
variable {p : HP} {x : HX} {h : HS} {u : FU} {M N : mM}
theorem UC.two {o : Nat} : UC M o u ↔ UCf M o (uF u) u ∧ UCs M o (uS u) u := ⟨fun ⟨a, b, c, d⟩ => ⟨⟨a, c⟩, b, d⟩, fun ⟨⟨a, c⟩, b, d⟩ => ⟨a, b, c, d⟩⟩
theorem ruF : ∀ o ∈ [105, 113, 124, 135, 146], rF o 2 = o + 1 ∧ rF o 3 = o + 2 ∧ rF o 4 = o + 3 ∧ rF o 5 = o + 4 ∧ rF o 6 = o + 5 ∧ sL (o + 1) = 8 ∧ sL (o + 2) = 8 ∧ sL (o + 3) = 8 ∧ sL (o + 4) = 8 ∧ sL (o + 5) = 8 := by decide +kernel
theorem nar_b (b : Bool) : vp_nar .boolean (b2i b) = b2i b := by cases b <;> decide
theorem UCf.fr {o k : Nat} (hu : UCf M o k u) (e0 : N.1 o 0 = M.1 o 0) (e : ∀ c, o < c → c ≤ o + 3 → N.1 c = M.1 c) : UCf N o k u := by
  unfold UCf at hu ⊢
  rw [e0, e (o + 1) (by omega) (by omega), e (o + 2) (by omega) (by omega), e (o + 3) (by omega) (by omega)]
  exact hu
theorem UCs.fr {o k : Nat} (hu : UCs M o k u) (e0 : N.1 o 1 = M.1 o 1) (e : ∀ c, o + 4 ≤ c → c ≤ o + 5 → N.1 c = M.1 c) : UCs N o k u := by
  unfold UCs at hu ⊢
  rw [e0, e (o + 4) (by omega) (by omega), e (o + 5) (by omega) (by omega)]
  exact hu
theorem X8_addFelt_eq (w : Nat) {o k : Nat} (ho : o ∈ [105, 113, 124, 135, 146]) (hu : UCf M o k u) (hk : k < 8) : ∃ N, f_X8_addFelt w o (nI (uFd u k)) (nI (uFn u k)) (b2i (uFs u k)) M = some (1, N) ∧ Fr [o, o + 1, o + 2, o + 3] M N ∧ N.1 o 1 = M.1 o 1 ∧ UCf N o (k + 1) u := by
  obtain ⟨a2, a3, a4, -, -, b1, b2, b3, -, -⟩ := ruF o ho
  obtain ⟨e0, e1⟩ := hu
  have g1 : (wI M (o + 1) k (nI (uFd u k))).1 o = M.1 o := by rw [wI_set, setC_ne _ _ (by omega)]
  have g2 : (wI (wI M (o + 1) k (nI (uFd u k))) (o + 2) k (nI (uFn u k))).1 o = M.1 o := by rw [wI_set, setC_ne _ _ (by omega), g1]
  have g3 : (wI (wI (wI M (o + 1) k (nI (uFd u k))) (o + 2) k (nI (uFn u k))) (o + 3) k (b2i (uFs u k))).1 o = M.1 o := by rw [wI_set, setC_ne _ _ (by omega), g2]
  refine ⟨wI (wI (wI (wI M (o + 1) k (nI (uFd u k))) (o + 2) k (nI (uFn u k))) (o + 3) k (b2i (uFs u k))) o 0 (nI (k + 1)), ?_, ((((Fr.rf _ M).wI (by simp) _ _).wI (by simp) _ _).wI (by simp) _ _).wI (by simp) _ _, ?_, ?_, fun i hi => ?_⟩
  · unfold f_X8_addFelt
    rw [a2, a3, a4, b1, b2, b3, e0, if_pos (show nI k < 8 from (nI_ltI (b := 8) (by omega) (by omega)).mpr hk), chk_nI _ (by omega) (by omega), nI_clamp (by omega), lt_eq, g1, e0, chk_nI _ (by omega) (by omega), nI_clamp (by omega), lt_eq, g2, e0, chk_nI _ (by omega) (by omega), nI_clamp (by omega), nar_b, lt_eq, g3, e0, nI_1, lt_eq]
    rfl
  · rw [wI_set, setC_at, upd_ne _ _ (by decide), g3]
  · rw [wI_set, setC_at, upd_at]
  · by_cases q : i = k
    · subst q
      refine ⟨?_, ?_, ?_⟩
      · rw [wI_set, setC_ne _ _ (by omega), wI_set, setC_ne _ _ (by omega), wI_set, setC_ne _ _ (by omega), wI_set, setC_at, upd_at]
      · rw [wI_set, setC_ne _ _ (by omega), wI_set, setC_ne _ _ (by omega), wI_set, setC_at, upd_at]
      · rw [wI_set, setC_ne _ _ (by omega), wI_set, setC_at, upd_at]
    · obtain ⟨c1, c2, c3⟩ := e1 i (by omega)
      refine ⟨?_, ?_, ?_⟩
      · rw [wI_set, setC_ne _ _ (by omega), wI_set, setC_ne _ _ (by omega), wI_set, setC_ne _ _ (by omega), wI_set, setC_at, upd_ne _ _ q]; exact c1
      · rw [wI_set, setC_ne _ _ (by omega), wI_set, setC_ne _ _ (by omega), wI_set, setC_at, upd_ne _ _ q, wI_set, setC_ne _ _ (by omega)]; exact c2
      · rw [wI_set, setC_ne _ _ (by omega), wI_set, setC_at, upd_ne _ _ q, wI_set, setC_ne _ _ (by omega), wI_set, setC_ne _ _ (by omega)]; exact c3
theorem X8_addSaid_eq (w : Nat) {o k : Nat} (ho : o ∈ [105, 113, 124, 135, 146]) (hu : UCs M o k u) (hk : k < 8) : ∃ N, f_X8_addSaid w o (nI (uSr u k)) (nI (uSn u k)) M = some (1, N) ∧ Fr [o, o + 4, o + 5] M N ∧ N.1 o 0 = M.1 o 0 ∧ UCs N o (k + 1) u := by
  obtain ⟨-, -, -, a5, a6, -, -, -, b4, b5⟩ := ruF o ho
  obtain ⟨e0, e1⟩ := hu
  have g1 : (wI M (o + 4) k (nI (uSr u k))).1 o = M.1 o := by rw [wI_set, setC_ne _ _ (by omega)]
  have g2 : (wI (wI M (o + 4) k (nI (uSr u k))) (o + 5) k (nI (uSn u k))).1 o = M.1 o := by rw [wI_set, setC_ne _ _ (by omega), g1]
  refine ⟨wI (wI (wI M (o + 4) k (nI (uSr u k))) (o + 5) k (nI (uSn u k))) o 1 (nI (k + 1)), ?_, (((Fr.rf _ M).wI (by simp) _ _).wI (by simp) _ _).wI (by simp) _ _, ?_, ?_, fun i hi => ?_⟩
  · unfold f_X8_addSaid
    rw [a5, a6, b4, b5, e0, if_pos (show nI k < 8 from (nI_ltI (b := 8) (by omega) (by omega)).mpr hk), chk_nI _ (by omega) (by omega), nI_clamp (by omega), lt_eq, g1, e0, chk_nI _ (by omega) (by omega), nI_clamp (by omega), lt_eq, g2, e0, nI_1, lt_eq]
    rfl
  · rw [wI_set, setC_at, upd_ne _ _ (by decide), g2]
  · rw [wI_set, setC_at, upd_at]
  · by_cases q : i = k
    · subst q
      refine ⟨?_, ?_⟩
      · rw [wI_set, setC_ne _ _ (by omega), wI_set, setC_ne _ _ (by omega), wI_set, setC_at, upd_at]
      · rw [wI_set, setC_ne _ _ (by omega), wI_set, setC_at, upd_at]
    · obtain ⟨c1, c2⟩ := e1 i (by omega)
      refine ⟨?_, ?_⟩
      · rw [wI_set, setC_ne _ _ (by omega), wI_set, setC_ne _ _ (by omega), wI_set, setC_at, upd_ne _ _ q]; exact c1
      · rw [wI_set, setC_ne _ _ (by omega), wI_set, setC_at, upd_ne _ _ q, wI_set, setC_ne _ _ (by omega)]; exact c2
theorem X8_copyFrom_eq (w : Nat) (hw : 40 ≤ w) {o o1 : Nat} (ho : o ∈ [105, 113, 124, 135, 146]) (ho1 : o1 ∈ [105, 113, 124, 135, 146]) (hne : o + 6 ≤ o1 ∨ o1 + 6 ≤ o) (h8 : uF u ≤ 8) (h9 : uS u ≤ 8) (hu : UC M o1 u) : ∃ N, f_X8_copyFrom w o o1 M = some N ∧ Fr [o, o + 1, o + 2, o + 3, o + 4, o + 5] M N ∧ UC N o u := by
  obtain ⟨a2, a3, a4, a5, a6, b1, b2, b3, b4, b5⟩ := ruF o1 ho1
  unfold f_X8_copyFrom
  rw [lt_eq]
  have f0 : Fr [o, o + 1, o + 2, o + 3, o + 4, o + 5] M (wI M o 0 0) := (Fr.rf _ M).wI (by simp) _ _
  refine loopX (fun k (N : mM) => Fr [o, o + 1, o + 2, o + 3, o + 4, o + 5] M N ∧ UCf N o k u) (fun n (N : mM) k => f_X8_copyFrom_7 w n o o1 (nI k) N) (uF u) (fun r => ∃ N, r = some N ∧ Fr [o, o + 1, o + 2, o + 3, o + 4, o + 5] M N ∧ UC N o u) ?_ ?_ (uF u) w 0 (wI M o 0 0) (by omega) (by omega) ⟨f0, by rw [wI_set, setC_at, upd_at]; rfl, fun i hi => by omega⟩
  · rintro n N ⟨f, i⟩
    have hu1 : UC N o1 u := hu.fr (fun c h1 h2 => f.1 c (by simp; omega))
    rw [f_X8_copyFrom_7, hu1.1, if_pos (Int32.le_refl _)]
    unfold f_X8_copyFrom_44
    rw [lt_eq]
    have f2 : Fr [o, o + 1, o + 2, o + 3, o + 4, o + 5] M (wI N o 1 0) := f.wI (by simp) _ _
    refine loopX (fun k (K : mM) => Fr [o, o + 1, o + 2, o + 3, o + 4, o + 5] M K ∧ UCf K o (uF u) u ∧ UCs K o k u) (fun n (K : mM) k => f_X8_copyFrom_51 w n o o1 (nI k) K) (uS u) (fun r => ∃ N, r = some N ∧ Fr [o, o + 1, o + 2, o + 3, o + 4, o + 5] M N ∧ UC N o u) ?_ ?_ (uS u) w 0 (wI N o 1 0) (by omega) (by omega) ⟨f2, i.fr (by rw [wI_set, setC_at, upd_ne _ _ (by decide)]) (fun c h1 h2 => by rw [wI_set, setC_ne _ _ (by omega)]), by rw [wI_set, setC_at, upd_at]; rfl, fun i hi => by omega⟩
    · rintro n K ⟨fK, i1, i2⟩
      have hu2 : UC K o1 u := hu.fr (fun c h1 h2 => fK.1 c (by simp; omega))
      rw [f_X8_copyFrom_51, hu2.2.1, if_pos (Int32.le_refl _)]
      exact ⟨K, rfl, fK, UC.two.mpr ⟨i1, i2⟩⟩
    · rintro n K k hk ⟨fK, i1, i2⟩
      have hu2 : UC K o1 u := hu.fr (fun c h1 h2 => fK.1 c (by simp; omega))
      obtain ⟨c1, c2⟩ := hu2.2.2.2 k hk
      obtain ⟨L, eL, fL, l0, iL⟩ := X8_addSaid_eq w ho i2 (by omega)
      refine Or.inr ⟨L, ?_, fK.tr (fL.mono (fun c hc => by simp at hc ⊢; omega)), i1.fr l0 (fun c h1 h2 => fL.1 c (by simp; omega)), iL⟩
      rw [f_X8_copyFrom_51, hu2.2.1, if_neg (fun h => by have := (nI_leI (by omega) (by omega)).mp h; omega), a5, a6, b4, b5, chk_nI _ (by omega) (by omega), chk_nI _ (by omega) (by omega), nI_clamp (by omega), c1, c2, eL, bI_some, nI_1]
  · rintro n N k hk ⟨f, i⟩
    have hu1 : UC N o1 u := hu.fr (fun c h1 h2 => f.1 c (by simp; omega))
    obtain ⟨c1, c2, c3⟩ := hu1.2.2.1 k hk
    obtain ⟨L, eL, fL, l0, iL⟩ := X8_addFelt_eq w ho i (by omega)
    refine Or.inr ⟨L, ?_, f.tr (fL.mono (fun c hc => by simp at hc ⊢; omega)), iL⟩
    rw [f_X8_copyFrom_7, hu1.1, if_neg (fun h => by have := (nI_leI (by omega) (by omega)).mp h; omega), a2, a3, a4, b1, b2, b3, chk_nI _ (by omega) (by omega), chk_nI _ (by omega) (by omega), chk_nI _ (by omega) (by omega), nI_clamp (by omega), c1, c2, c3, eL, bI_some, nI_1]
/-- what the reference's feel and say may write -/
def FdU (M N : mM) : Prop := (∀ c, c ≠ 179 → N.1 c = M.1 c) ∧ N.2 = M.2 ∧ ∀ j, (j < 23 ∨ 65 ≤ j) → N.1 179 j = M.1 179 j
theorem FdU.rf (M : mM) : FdU M M := ⟨fun _ _ => rfl, rfl, fun _ _ => rfl⟩
theorem FdU.w {j : Nat} (f : FdU M N) (h1 : 23 ≤ j) (h2 : j < 65) (y : Int32) : FdU M (wI N 179 j y) := ⟨fun c hc => by rw [wI_set, setC_ne _ _ hc]; exact f.1 c hc, by rw [wI_set, setC_2]; exact f.2.1, fun k hk => by rw [wI_set, setC_at, upd_ne _ _ (by omega)]; exact f.2.2 k hk⟩
def Sy (f g : mM → Option (Int32 × mM)) (p : HP) (M : mM) : Prop := ∃ v u' N K, f M = some (v, N) ∧ Fr [105, 106, 107, 108, 109, 110] M N ∧ UC N 105 u' ∧ okU p u' ∧ g N = some (v, K) ∧ FdU (th0 N) K ∧ UR K 0 u'
theorem Sy.no {f g : mM → Option (Int32 × mM)} (ou : okU p u) (hu : UC M 105 u) (hv : UR M 0 u) (v : Int32) (e1 : f M = some (v, M)) (e2 : g M = some (v, th0 M)) : Sy f g p M := ⟨v, u, M, th0 M, e1, Fr.rf _ _, hu, ou, e2, FdU.rf _, hv.fr ou (fun j _ _ => by rw [th0_1 _ (by decide)])⟩
theorem X11_say_eq (w : Nat) (hw : 1100 ≤ w) (Q : QC p x h M) (R : QF p x h M) (ou : okU p u) (hu : UC M 105 u) (hv : UR M 0 u) (a b : Int32) : Sy (f_X11_say w 0 a b) (f_X12_say w 163 a b) p M := by
  have hp := Q.1
  have hR := hp.1
  have hc := Q.2.2.2.2.1
  have hr0 := R.th0.2.2.2.2.1
  have u2 := ou.2.1
  rcases ix3 a (show pR p < 2 ^ 31 by omega) with q | ⟨r, hr, rfl⟩
  · refine Sy.no ou hu hv 0 ?_ ?_
    · unfold f_X11_say; rw [r0_0, X6_hasRoom_eq w a hc, has_no q]; rfl
    · unfold f_X12_say; rw [lt_eq, show wI M 163 0 0 = th0 M from rfl, X12_isRoom_eq w a hr0, has_no q]; rfl
  rcases ix3 b (n := 41) (by decide) with q | ⟨m, hm, rfl⟩
  · refine Sy.no ou hu hv 0 ?_ ?_
    · unfold f_X11_say
      rw [r0_0, X6_hasRoom_eq w _ hc, has_yes hr (by omega), bI_some, if_neg (by decide)]
      by_cases q0 : b < 0
      · rw [if_pos q0]; rfl
      · rw [if_neg q0, if_neg (fun e => absurd (Int32.le_trans (q.resolve_left q0) e) (by decide))]; rfl
    · unfold f_X12_say
      rw [lt_eq, show wI M 163 0 0 = th0 M from rfl, X12_isRoom_eq w _ hr0, has_yes hr (by omega), bI_some, if_neg (by decide), X12_within_eq, bI_some]
      by_cases q0 : b < 0
      · rw [decide_eq_true q0]; rfl
      · rw [decide_eq_true (Int32.lt_of_lt_of_le (show (40 : Int32) < nI 41 by decide) (q.resolve_left q0)), Bool.not_true, Bool.and_false]; rfl
  have n0 : ¬ nI m < 0 := nI_pos (by omega)
  have n1 : ¬ (40 : Int32) < nI m := fun e => by have := (nI_ltI (a := 40) (by omega) (by omega)).mp e; omega
  have eC : f_X11_say w 0 (nI r) (nI m) M = bI (f_X8_addSaid w 105 (nI r) (nI m) M) fun q4 M3 => rtB q4 M3 := by
    unfold f_X11_say
    rw [r0_0, X6_hasRoom_eq w _ hc, has_yes hr (by omega), bI_some, if_neg (by decide), if_neg n0, if_pos (Int32.not_lt.mp n1), r0_9]
  have eR : ∀ N, QF p x h N → UR N 0 u → f_X12_say w 163 (nI r) (nI m) N = if uS u = 8 then some (0, th0 N) else some (1, wI (wI (wI (th0 N) 179 (49 + 2 * uS u) (nI r)) 179 (50 + 2 * uS u) (nI m)) 179 48 (nI (uS u + 1))) := fun N RN hvN => by
    have r0 := RN.th0.2.2.2.2.1
    have g : (th0 N).1 179 48 = nI (uS u) := hvN.2.1
    unfold f_X12_say
    rw [lt_eq, show wI N 163 0 0 = th0 N from rfl, X12_isRoom_eq w _ r0, has_yes hr (by omega), bI_some, if_neg (by decide), X12_within_eq, bI_some, decide_eq_false n0, decide_eq_false n1, if_neg (by decide), r163_24, l179, show chk (48 : Int32) 1495 = chk (nI 48) 1495 from rfl, chk_nI _ (by omega) (by omega), show (48 : Int32).toNatClampNeg = 48 from rfl, g]
    by_cases q : uS u = 8
    · rw [if_pos (by rw [q]; rfl), if_pos q]; rfl
    · rw [if_neg (show ¬ nI (uS u) = 8 from fun e => q ((nI_eq (b := 8) (by omega) (by omega)).mp e)), if_neg q, chk_nI _ (by omega) (by omega), show (49 : Int32) + 2 * nI (uS u) = nI (49 + 2 * uS u) by rw [show (2 : Int32) * nI (uS u) = nI (2 * uS u) from pk_mul 2 _]; exact nI_add 49 _, lt_eq, chk_nI _ (by omega) (by omega), nI_clamp (by omega), lt_eq, nI_1, show 49 + 2 * uS u + 1 = 50 + 2 * uS u by omega, chk_nI _ (by omega) (by omega), nI_clamp (by omega), lt_eq, chk_nI _ (by omega) (by omega), chk_nI _ (by omega) (by omega), lt_eq]
      have g2 : (wI (wI (th0 N) 179 (49 + 2 * uS u) (nI r)) 179 (50 + 2 * uS u) (nI m)).1 179 48 = nI (uS u) := by
        rw [wI_set, setC_at, upd_ne _ _ (by omega), wI_set, setC_at, upd_ne _ _ (by omega), g]
      rw [g2, nI_1]; rfl
  by_cases q : uS u = 8
  · refine Sy.no ou hu hv 0 ?_ ?_
    · rw [eC]
      unfold f_X8_addSaid
      rw [hu.2.1, q, if_neg (by decide)]; rfl
    · rw [eR M R hv, if_pos q]
  · have hu' : UCs M 105 (uS u) (u.1, uS u + 1, (fun i => if i = uS u then r else uSr u i), fun i => if i = uS u then m else uSn u i) := ⟨hu.2.1, fun i hi => by
      obtain ⟨c1, c2⟩ := hu.2.2.2 i hi
      refine ⟨?_, ?_⟩
      · rw [c1]; show _ = nI (if i = uS u then r else uSr u i); rw [if_neg (by omega)]
      · rw [c2]; show _ = nI (if i = uS u then m else uSn u i); rw [if_neg (by omega)]⟩
    obtain ⟨N, eN, fN, n0', iN⟩ := X8_addSaid_eq w (by decide) hu' (by omega)
    have e1 : uSr (u.1, uS u + 1, (fun i => if i = uS u then r else uSr u i), fun i => if i = uS u then m else uSn u i) (uS u) = r := if_pos rfl
    have e2 : uSn (u.1, uS u + 1, (fun i => if i = uS u then r else uSr u i), fun i => if i = uS u then m else uSn u i) (uS u) = m := if_pos rfl
    rw [e1, e2] at eN
    have RN : QF p x h N := R.fr (fun c h1 h2 => fN.1 c (by simp; omega)) (fun j _ => by rw [fN.1 179 (by decide)])
    have hvN : UR N 0 u := hv.fr ou (fun j _ _ => by rw [fN.1 179 (by decide)])
    refine ⟨1, (u.1, uS u + 1, (fun i => if i = uS u then r else uSr u i), fun i => if i = uS u then m else uSn u i), N, _, ?_, fN.mono (by decide), UC.two.mpr ⟨(UC.two.mp hu).1.fr n0' (fun c h1 h2 => fN.1 c (by simp; omega)), iN⟩, ⟨ou.1, by show uS u + 1 ≤ 8; omega, ou.2.2.1, fun i hi => ?_⟩, (eR N RN hvN).trans (if_neg q), ((((FdU.rf _).w (by omega) (by omega) _).w (by omega) (by omega) _).w (by omega) (by omega) _), ?_⟩
    · rw [eC, eN]; rfl
    · have hi : i < uS u + 1 := hi
      show (if i = uS u then r else uSr u i) < pR p ∧ (if i = uS u then m else uSn u i) ≤ 40
      by_cases z : i = uS u
      · rw [if_pos z, if_pos z]; exact ⟨hr, by omega⟩
      · rw [if_neg z, if_neg z]; exact ou.2.2.2 i (by omega)
    · have E : ∀ j, j ≠ 48 → j ≠ 49 + 2 * uS u → j ≠ 50 + 2 * uS u → (wI (wI (wI (th0 N) 179 (49 + 2 * uS u) (nI r)) 179 (50 + 2 * uS u) (nI m)) 179 48 (nI (uS u + 1))).1 179 j = N.1 179 j := fun j h1 h2 h3 => by
        rw [wI_set, setC_at, upd_ne _ _ h1, wI_set, setC_at, upd_ne _ _ h3, wI_set, setC_at, upd_ne _ _ h2, th0_1 _ (by decide)]
      have u1 := ou.1
      refine ⟨by rw [E _ (by omega) (by omega) (by omega)]; exact hvN.1, by rw [Nat.zero_add, wI_set, setC_at, upd_at]; rfl, fun i hi => ?_, fun i hi => ?_⟩
      · have hi : i < uF u := hi
        refine ⟨?_, ?_, ?_⟩
        · rw [E _ (by omega) (by omega) (by omega)]; exact (hvN.2.2.1 i hi).1
        · rw [E _ (by omega) (by omega) (by omega)]; exact (hvN.2.2.1 i hi).2.1
        · rw [E _ (by omega) (by omega) (by omega)]; exact (hvN.2.2.1 i hi).2.2
      · have hi : i < uS u + 1 := hi
        show _ = nI (if i = uS u then r else uSr u i) ∧ _ = nI (if i = uS u then m else uSn u i)
        by_cases z : i = uS u
        · subst z
          rw [if_pos rfl, if_pos rfl, Nat.zero_add, Nat.zero_add]
          refine ⟨?_, ?_⟩
          · rw [wI_set, setC_at, upd_ne _ _ (by omega), wI_set, setC_at, upd_ne _ _ (by omega), wI_set, setC_at, upd_at]
          · rw [wI_set, setC_at, upd_ne _ _ (by omega), wI_set, setC_at, upd_at]
        · rw [if_neg z, if_neg z]
          refine ⟨?_, ?_⟩
          · rw [E _ (by omega) (by omega) (by omega)]; exact (hvN.2.2.2 i (by omega)).1
          · rw [E _ (by omega) (by omega) (by omega)]; exact (hvN.2.2.2 i (by omega)).2
end MARKS
