/-! ===== feel, mark ===== -/
section FEEL
variable {p : HP} {x : HX} {h : HS} {u : FU} {M N : mM}
theorem X11_feel_eq (w : Nat) (hw : 1100 ≤ w) (Q : QC p x h M) (R : QF p x h M) (ou : okU p u) (hu : UC M 105 u) (hv : UR M 0 u) (a b : Int32) (s : Bool) : Sy (f_X11_feel w 0 a b (b2i s)) (f_X12_feel w 163 a b (b2i s)) p M := by
  have hp := Q.1
  have hD := hp.2.1
  have hc := Q.2.2.2.2.1
  have hr0 := R.th0.2.2.2.2.1
  have u1 := ou.1
  have u2 := ou.2.1
  rcases ix3 a (show pD p < 2 ^ 31 by omega) with q | ⟨d, hd, rfl⟩
  · refine Sy.no ou hu hv 0 ?_ ?_
    · unfold f_X11_feel; rw [r0_0, X6_hasDoor_eq w a hc, has_no q]; rfl
    · unfold f_X12_feel; rw [lt_eq, show wI M 163 0 0 = th0 M from rfl, X12_isDoor_eq w a hr0, has_no q]; rfl
  have bad : (b < 1 ∨ 30 < b) → Sy (f_X11_feel w 0 (nI d) b (b2i s)) (f_X12_feel w 163 (nI d) b (b2i s)) p M := fun q => by
    refine Sy.no ou hu hv 0 ?_ ?_
    · unfold f_X11_feel
      rw [r0_0, X6_hasDoor_eq w _ hc, has_yes hd (by omega), bI_some, if_neg (by decide)]
      by_cases q0 : b < 1
      · rw [if_pos q0]; rfl
      · rw [if_neg q0, if_neg (Int32.not_le.mpr (q.resolve_left q0))]; rfl
    · unfold f_X12_feel
      rw [lt_eq, show wI M 163 0 0 = th0 M from rfl, X12_isDoor_eq w _ hr0, has_yes hd (by omega), bI_some, if_neg (by decide), X12_within_eq, bI_some]
      by_cases q0 : b < 1
      · rw [decide_eq_true q0]; rfl
      · rw [decide_eq_true (q.resolve_left q0), Bool.not_true, Bool.and_false]; rfl
  by_cases n0 : b < 1
  · exact bad (Or.inl n0)
  by_cases n1 : 30 < b
  · exact bad (Or.inr n1)
  obtain ⟨m, hm, rfl⟩ := nI_of2 (n := 30) (M := 30) rfl (fun e => n0 (Int32.lt_trans e (by decide))) (Int32.not_lt.mp n1)
  have hm1 : 1 ≤ m := by
    rcases Nat.eq_zero_or_pos m with e | e
    · subst e; exact absurd (show nI 0 < 1 by decide) n0
    · exact e
  have eC : f_X11_feel w 0 (nI d) (nI m) (b2i s) M = bI (f_X8_addFelt w 105 (nI d) (nI m) (b2i s) M) fun q4 M3 => rtB q4 M3 := by
    unfold f_X11_feel
    rw [r0_0, X6_hasDoor_eq w _ hc, has_yes hd (by omega), bI_some, if_neg (by decide), if_neg n0, if_pos (Int32.not_lt.mp n1), r0_9]
  have eR : ∀ N, QF p x h N → UR N 0 u → f_X12_feel w 163 (nI d) (nI m) (b2i s) N = if uF u = 8 then some (0, th0 N) else some (1, wI (wI (wI (wI (th0 N) 179 (24 + 3 * uF u) (nI d)) 179 (25 + 3 * uF u) (nI m)) 179 (26 + 3 * uF u) (b2i s)) 179 23 (nI (uF u + 1))) := fun N RN hvN => by
    have r0 := RN.th0.2.2.2.2.1
    have g : (th0 N).1 179 23 = nI (uF u) := hvN.1
    unfold f_X12_feel
    rw [lt_eq, show wI N 163 0 0 = th0 N from rfl, X12_isDoor_eq w _ r0, has_yes hd (by omega), bI_some, if_neg (by decide), X12_within_eq, bI_some, decide_eq_false n0, decide_eq_false n1, if_neg (by decide), r163_24, l179, show chk (23 : Int32) 1495 = chk (nI 23) 1495 from rfl, chk_nI _ (by omega) (by omega), show (23 : Int32).toNatClampNeg = 23 from rfl, g]
    by_cases q : uF u = 8
    · rw [if_pos (by rw [q]; rfl), if_pos q]; rfl
    · rw [if_neg (show ¬ nI (uF u) = 8 from fun e => q ((nI_eq (b := 8) (by omega) (by omega)).mp e)), if_neg q, chk_nI _ (by omega) (by omega), show (24 : Int32) + 3 * nI (uF u) = nI (24 + 3 * uF u) by rw [show (3 : Int32) * nI (uF u) = nI (3 * uF u) from pk_mul 3 _]; exact nI_add 24 _, lt_eq, chk_nI _ (by omega) (by omega), nI_clamp (by omega), lt_eq, nI_1, show 24 + 3 * uF u + 1 = 25 + 3 * uF u by omega, chk_nI _ (by omega) (by omega), nI_clamp (by omega), lt_eq, show nI (24 + 3 * uF u) + 2 = nI (26 + 3 * uF u) by show nI _ + nI 2 = _; rw [nI_add]; exact congrArg nI (by omega)]
      have e86 : f_X12_feel_86 w 163 (b2i s) (nI (26 + 3 * uF u)) 179 (wI (wI (th0 N) 179 (24 + 3 * uF u) (nI d)) 179 (25 + 3 * uF u) (nI m)) = some (1, wI (wI (wI (wI (th0 N) 179 (24 + 3 * uF u) (nI d)) 179 (25 + 3 * uF u) (nI m)) 179 (26 + 3 * uF u) (b2i s)) 179 23 (nI (uF u + 1))) := by
        have g2 : (wI (wI (wI (th0 N) 179 (24 + 3 * uF u) (nI d)) 179 (25 + 3 * uF u) (nI m)) 179 (26 + 3 * uF u) (b2i s)).1 179 23 = nI (uF u) := by
          rw [wI_set, setC_at, upd_ne _ _ (by omega), wI_set, setC_at, upd_ne _ _ (by omega), wI_set, setC_at, upd_ne _ _ (by omega), g]
        unfold f_X12_feel_86
        rw [r163_24, l179, chk_nI _ (by omega) (by omega), nI_clamp (by omega), lt_eq, show chk (23 : Int32) 1495 = chk (nI 23) 1495 from rfl, chk_nI _ (by omega) (by omega), chk_nI _ (by omega) (by omega), show (23 : Int32).toNatClampNeg = 23 from rfl, g2, nI_1, lt_eq]; rfl
      cases s
      · rw [if_pos (show b2i false = 0 from rfl)]; exact e86
      · rw [if_neg (show ¬ b2i true = 0 by decide)]; exact e86
  by_cases q : uF u = 8
  · refine Sy.no ou hu hv 0 ?_ ?_
    · rw [eC]
      unfold f_X8_addFelt
      rw [hu.1, q, if_neg (by decide)]; rfl
    · rw [eR M R hv, if_pos q]
  · have hu' : UCf M 105 (uF u) ((uF u + 1, (fun i => if i = uF u then d else uFd u i), (fun i => if i = uF u then m else uFn u i), fun i => if i = uF u then s else uFs u i), u.2) := ⟨hu.1, fun i hi => by
      obtain ⟨c1, c2, c3⟩ := hu.2.2.1 i hi
      refine ⟨?_, ?_, ?_⟩
      · rw [c1]; show _ = nI (if i = uF u then d else uFd u i); rw [if_neg (by omega)]
      · rw [c2]; show _ = nI (if i = uF u then m else uFn u i); rw [if_neg (by omega)]
      · rw [c3]; show _ = b2i (if i = uF u then s else uFs u i); rw [if_neg (by omega)]⟩
    obtain ⟨N, eN, fN, n0', iN⟩ := X8_addFelt_eq w (by decide) hu' (by omega)
    have e1 : uFd ((uF u + 1, (fun i => if i = uF u then d else uFd u i), (fun i => if i = uF u then m else uFn u i), fun i => if i = uF u then s else uFs u i), u.2) (uF u) = d := if_pos rfl
    have e2 : uFn ((uF u + 1, (fun i => if i = uF u then d else uFd u i), (fun i => if i = uF u then m else uFn u i), fun i => if i = uF u then s else uFs u i), u.2) (uF u) = m := if_pos rfl
    have e3 : uFs ((uF u + 1, (fun i => if i = uF u then d else uFd u i), (fun i => if i = uF u then m else uFn u i), fun i => if i = uF u then s else uFs u i), u.2) (uF u) = s := if_pos rfl
    rw [e1, e2, e3] at eN
    have RN : QF p x h N := R.fr (fun c h1 h2 => fN.1 c (by simp; omega)) (fun j _ => by rw [fN.1 179 (by decide)])
    have hvN : UR N 0 u := hv.fr ou (fun j _ _ => by rw [fN.1 179 (by decide)])
    refine ⟨1, ((uF u + 1, (fun i => if i = uF u then d else uFd u i), (fun i => if i = uF u then m else uFn u i), fun i => if i = uF u then s else uFs u i), u.2), N, _, ?_, fN.mono (by decide), UC.two.mpr ⟨iN, (UC.two.mp hu).2.fr n0' (fun c h1 h2 => fN.1 c (by simp; omega))⟩, ⟨by show uF u + 1 ≤ 8; omega, ou.2.1, fun i hi => ?_, ou.2.2.2⟩, (eR N RN hvN).trans (if_neg q), (((((FdU.rf _).w (by omega) (by omega) _).w (by omega) (by omega) _).w (by omega) (by omega) _).w (by omega) (by omega) _), ?_⟩
    · rw [eC, eN]; rfl
    · have hi : i < uF u + 1 := hi
      show (if i = uF u then d else uFd u i) < pD p ∧ 1 ≤ (if i = uF u then m else uFn u i) ∧ (if i = uF u then m else uFn u i) ≤ 30
      by_cases z : i = uF u
      · rw [if_pos z, if_pos z]; exact ⟨hd, hm1, hm⟩
      · rw [if_neg z, if_neg z]; exact ou.2.2.1 i (by omega)
    · have E : ∀ j, j ≠ 23 → j ≠ 24 + 3 * uF u → j ≠ 25 + 3 * uF u → j ≠ 26 + 3 * uF u → (wI (wI (wI (wI (th0 N) 179 (24 + 3 * uF u) (nI d)) 179 (25 + 3 * uF u) (nI m)) 179 (26 + 3 * uF u) (b2i s)) 179 23 (nI (uF u + 1))).1 179 j = N.1 179 j := fun j h1 h2 h3 h4 => by
        rw [wI_set, setC_at, upd_ne _ _ h1, wI_set, setC_at, upd_ne _ _ h4, wI_set, setC_at, upd_ne _ _ h3, wI_set, setC_at, upd_ne _ _ h2, th0_1 _ (by decide)]
      refine ⟨by rw [Nat.zero_add, wI_set, setC_at, upd_at]; rfl, by rw [E _ (by omega) (by omega) (by omega) (by omega)]; exact hvN.2.1, fun i hi => ?_, fun i hi => ?_⟩
      · have hi : i < uF u + 1 := hi
        show _ = nI (if i = uF u then d else uFd u i) ∧ _ = nI (if i = uF u then m else uFn u i) ∧ _ = b2i (if i = uF u then s else uFs u i)
        by_cases z : i = uF u
        · subst z
          rw [if_pos rfl, if_pos rfl, if_pos rfl, Nat.zero_add, Nat.zero_add, Nat.zero_add]
          refine ⟨?_, ?_, ?_⟩
          · rw [wI_set, setC_at, upd_ne _ _ (by omega), wI_set, setC_at, upd_ne _ _ (by omega), wI_set, setC_at, upd_ne _ _ (by omega), wI_set, setC_at, upd_at]
          · rw [wI_set, setC_at, upd_ne _ _ (by omega), wI_set, setC_at, upd_ne _ _ (by omega), wI_set, setC_at, upd_at]
          · rw [wI_set, setC_at, upd_ne _ _ (by omega), wI_set, setC_at, upd_at]
        · rw [if_neg z, if_neg z, if_neg z]
          obtain ⟨c1, c2, c3⟩ := hvN.2.2.1 i (by omega)
          refine ⟨?_, ?_, ?_⟩
          · rw [E _ (by omega) (by omega) (by omega) (by omega)]; exact c1
          · rw [E _ (by omega) (by omega) (by omega) (by omega)]; exact c2
          · rw [E _ (by omega) (by omega) (by omega) (by omega)]; exact c3
      · have hi : i < uS u := hi
        refine ⟨?_, ?_⟩
        · rw [E _ (by omega) (by omega) (by omega) (by omega)]; exact (hvN.2.2.2 i hi).1
        · rw [E _ (by omega) (by omega) (by omega) (by omega)]; exact (hvN.2.2.2 i hi).2
end FEEL
