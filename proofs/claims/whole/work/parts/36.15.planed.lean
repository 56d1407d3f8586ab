/-! ===== planed ===== -/
section PLT
variable {p : HP} {x : HX} {h : HS} {M N : mM}
theorem rFst_uni {m n s t : Nat} (a : rFst p x h m n s) (b : rFst p x h m n t) : s = t := by
  rcases Nat.lt_trichotomy s t with q | q | q
  · exact absurd a.2.1 (b.2.2 s q)
  · exact q
  · exact absurd b.2.1 (a.2.2 t q)
theorem rAns_uni {m : Nat} {v v' : Int32} {r r' : Nat → Int32} (a : rAns p x h m v r) (b : rAns p x h m v' r') : v = v' ∧ ∀ n, n ≤ 3 → v = nI n → ∀ i, i < n → r i = r' i := by
  rcases a with ⟨e, a⟩ | ⟨n, hn, e, a, s, a1, a2⟩ <;> rcases b with ⟨e', b⟩ | ⟨n', hn', e', b, s', b1, b2⟩
  · refine ⟨e.trans e'.symm, fun n hn en => ?_⟩
    have : nI n < 0 := by rw [← en, e]; decide
    exact absurd this (nI_pos (by omega))
  · exact absurd b1.2.1 (a n' hn' s' b1.1)
  · exact absurd a1.2.1 (b n hn s a1.1)
  · have hnn : n = n' := by
      rcases Nat.lt_trichotomy n n' with q | q | q
      · exact absurd a1.2.1 (b n q s a1.1)
      · exact q
      · exact absurd b1.2.1 (a n' q s' b1.1)
    subst hnn
    have hss := rFst_uni a1 b1
    subst hss
    refine ⟨e.trans e'.symm, fun k hk ek i hi => ?_⟩
    rw [e] at ek
    have hkn := (nI_eq (by omega) (by omega)).mp ek
    subst hkn
    rw [a2 i hi, b2 i hi]
theorem X12_planed_29_eq (w : Nat) (hw : 1100 ≤ w) (R : QF p x h M) {m : Nat} (hm : m ≤ 30) (y : Int32) : ∃ N v, FrT M N ∧ rAns p x h m v (N.1 182) ∧ f_X12_planed_29 w w 163 (nI m) y 0 M = if v = -1 then some (-2, N) else f_X12_planed_75 w 163 y v N := by
  have hp := R.1
  have hD := hp.2.1
  refine loopX (fun k (K : mM) => FrT M K ∧ ∀ d, d < k → K.1 183 d = nI (sGap h d)) (fun f (K : mM) k => f_X12_planed_29 w f 163 (nI m) y (nI k) K) (pD p) (fun r => ∃ N v, FrT M N ∧ rAns p x h m v (N.1 182) ∧ r = if v = -1 then some (-2, N) else f_X12_planed_75 w 163 y v N) ?_ ?_ (pD p) w 0 M (by omega) (by omega) ⟨FrT.rf _, fun d hd => by omega⟩
  · rintro f K ⟨fK, i⟩
    rw [f_X12_planed_29, X12_doors_eq, bI_some, show K.1 169 1 = nI (pD p) from (fK.plr R.2.2.2.2.1).2.1, if_pos (Int32.le_refl _)]
    unfold f_X12_planed_57
    refine loopX (fun n (L : mM) => FrT M L ∧ (∀ d, d < pD p → L.1 183 d = nI (sGap h d)) ∧ ∀ k, k < n → rNo p x h m k) (fun f (L : mM) n => f_X12_planed_59 w f 163 (nI m) y (nI n) L) 4 (fun r => ∃ N v, FrT M N ∧ rAns p x h m v (N.1 182) ∧ r = if v = -1 then some (-2, N) else f_X12_planed_75 w 163 y v N) ?_ ?_ 4 w 0 K (by omega) (by omega) ⟨fK, i, fun k hk => by omega⟩
    · rintro f L ⟨fL, j1, j2⟩
      rw [f_X12_planed_59, if_pos (by decide)]
      exact ⟨L, -1, fL, Or.inl ⟨rfl, fun n hn => j2 n (by omega)⟩, by rw [if_pos rfl]⟩
    · rintro f L n hn ⟨fL, j1, j2⟩
      have P0 : pfx p h 0 0 L := ⟨fun i hi => by omega, fun d hd => by rw [j1 d hd]; rfl, fun i hi => by omega, fun i hi => by omega⟩
      have key := X12_doesPlane_eq (p := p) (x := x) (h := h) w hw (m := m) (n := n) hm (by omega) n 0 60 0 0 L (by omega) (by omega) (by rw [Nat.pow_zero]; omega) (R.frt fL) P0 (fun _ => rfl) (fun h => by omega)
      obtain ⟨N, b, eN, fN, n3, -, nF, nT⟩ := key
      have hz : ∀ s, s < pD p ^ n → s / pD p ^ n = 0 := fun s hs => Nat.div_eq_of_lt hs
      rw [f_X12_planed_59, if_neg (fun q => by have := (nI_ltI (a := 3) (by omega) (by omega)).mp q; omega), show f_X12_doesPlane w 60 163 0 (nI n) 0 (nI m) L = _ from eN, bI_some, nI_1]
      cases b
      · rw [if_pos (show b2i false = 0 from rfl)]
        refine Or.inr ⟨N, rfl, fL.tr fN, fun d hd => by rw [n3 d hd]; exact j1 d hd, fun k hk => ?_⟩
        by_cases q : k = n
        · subst q; exact fun s hs => nF rfl s hs (hz s hs)
        · exact j2 k (by omega)
      · rw [if_neg (show ¬ b2i true = 0 by decide)]
        obtain ⟨s, s1, s2, s3, s4, s5⟩ := nT rfl
        refine Or.inl ⟨N, nI n, fL.tr fN, Or.inr ⟨n, by omega, rfl, j2, s, ⟨s1, s3, fun t ht => s4 t ht (hz t (by omega))⟩, s5⟩, ?_⟩
        rw [if_neg (fun e => by have h1 : nI n < 0 := by rw [e]; decide
                                exact nI_pos (by omega) h1)]
  · rintro f K k hk ⟨fK, i⟩
    have g : K.1 179 (2 + k) = nI (sGap h k) := by
      rw [fK.2 _ (by omega)]
      have := (R.2.2.2.2.2.2.2.2.1 k hk).1
      rw [Nat.zero_add] at this; exact this
    refine Or.inr ⟨wI K 183 k (nI (sGap h k)), ?_, fK.tr ⟨(Fr.rf _ K).wI (by decide) _ _, fun i _ => by rw [wI_set, setC_ne _ _ (by decide)]⟩, fun d hd => ?_⟩
    · rw [f_X12_planed_29, X12_doors_eq, bI_some, show K.1 169 1 = nI (pD p) from (fK.plr R.2.2.2.2.1).2.1, if_neg (fun h => by have := (nI_leI (by omega) (by omega)).mp h; omega), r163_24, r163_29, l179, l183, show (2 : Int32) + nI k = nI (2 + k) by rw [nx_lit, nI_add], chk_nI _ (by omega) (by omega), chk_nI _ (by omega) (by omega), nI_clamp (by omega), nI_clamp (by omega), g, lt_eq, nI_1]
    · rw [wI_set, setC_at]
      by_cases q : d = k
      · subst q; rw [upd_at]
      · rw [upd_ne _ _ q]; exact i d (by omega)
theorem FC.ofp {M N : mM} (f : Fr [12, 161, 162] M N) : FC M N := f.mono (by decide)
theorem X12_within_eq (w : Nat) (y l u : Int32) (N : mM) : f_X12_within w y l u N = some (b2i (!decide (y < l) && !decide (u < y)), N) := by
  unfold f_X12_within
  by_cases q1 : y < l
  · rw [if_pos q1, decide_eq_true q1]; rfl
  · rw [if_neg q1, decide_eq_false q1]
    by_cases q2 : u < y
    · rw [if_pos q2, decide_eq_true q2]; rfl
    · rw [if_neg q2, decide_eq_false q2]; rfl
theorem X11_planed_eq (w : Nat) (hw : 1100 ≤ w) (Q : QC p x h M) (R : QF p x h M) (a y : Int32) : Al (f_X11_planed w 0 a y) (f_X12_planed w 163 a y) M := by
  by_cases a0 : a < 0
  · refine Al.of ⟨-2, by unfold f_X11_planed; rw [if_pos a0], ?_⟩
    unfold f_X12_planed
    rw [lt_eq, X12_within_eq, bI_some, decide_eq_true a0]; rfl
  by_cases a1 : 30 < a
  · refine Al.of ⟨-2, by unfold f_X11_planed; rw [if_neg a0, if_pos a1], ?_⟩
    unfold f_X12_planed
    rw [lt_eq, X12_within_eq, bI_some, decide_eq_true a1, Bool.not_true, Bool.and_false]; rfl
  obtain ⟨m, hm, rfl⟩ := nI_of2 (n := 30) (M := 30) rfl a0 (Int32.not_lt.mp a1)
  by_cases y0 : -1 ≤ y
  · obtain ⟨N, v, e, f, A⟩ := X7_fewest_eq w hw Q hm
    have R2 := (R.fc (FC.ofp f)).th0
    by_cases y1 : 2 < y
    · -- y > 2
      refine ⟨-2, N, th0 N, ?_, FC.ofp f, ?_, FrT.rf _⟩
      · unfold f_X11_planed
        rw [if_neg a0, if_neg a1, if_pos y0, r0_12, e, bI_some]
        rcases A with ⟨ev, -⟩ | ⟨n, hn, ev, -⟩
        · rw [if_pos ev]
        · have ne : ¬ nI n = -1 := fun e => by
            have h1 : nI n < 0 := by rw [e]; decide
            exact nI_pos (by omega) h1
          have hy3 : (3 : Int32) ≤ y := by
            have := Int32.lt_iff_toInt_lt.mp y1
            rw [Int32.le_iff_toInt_le]
            have e2 : (2 : Int32).toInt = 2 := rfl
            have e3 : (3 : Int32).toInt = 3 := rfl
            omega
          rw [ev, if_neg ne, if_neg (fun e => by rw [e] at y1; exact absurd y1 (by decide)), if_pos (Int32.le_trans (show nI n ≤ 3 from (nI_leI (b := 3) (by omega) (by omega)).mpr hn) hy3)]
      · unfold f_X12_planed
        rw [lt_eq, X12_within_eq, bI_some, decide_eq_false a0, decide_eq_false a1, if_neg (by decide), X12_within_eq, bI_some, decide_eq_true y1, Bool.not_true, Bool.and_false]; rfl
    · obtain ⟨K, v', fK, A', e'⟩ := X12_planed_29_eq w hw R2 hm y
      obtain ⟨ev, er⟩ := rAns_uni A A'
      subst ev
      have y0' : ¬ y < -1 := Int32.not_lt.mpr y0
      have er' : f_X12_planed w 163 (nI m) y N = if v = -1 then some (-2, K) else f_X12_planed_75 w 163 y v K := by
        unfold f_X12_planed
        rw [lt_eq, X12_within_eq, bI_some, decide_eq_false a0, decide_eq_false a1, if_neg (by decide), X12_within_eq, bI_some, decide_eq_false y0', decide_eq_false y1, if_neg (by decide), show wI N 163 0 0 = th0 N from rfl, e']
      have ec : f_X11_planed w 0 (nI m) y M = if v = -1 then some (-2, N) else if y = -1 then some (v, N) else if v ≤ y then some (-2, N) else if 3 ≤ y then some (-2, N) else chk y 3 (some (N.1 161 y.toNatClampNeg, N)) := by
        unfold f_X11_planed
        rw [if_neg a0, if_neg a1, if_pos y0, r0_12, e, bI_some, r160_3, l161]
      by_cases v1 : v = -1
      · exact ⟨-2, N, K, by rw [ec, if_pos v1], FC.ofp f, by rw [er', if_pos v1], fK⟩
      · rcases A with ⟨ev, -⟩ | ⟨n, hn, ev, -, -⟩
        · exact absurd ev v1
        · unfold f_X12_planed_75 at er'
          rw [if_neg v1] at ec er'
          by_cases yy : y = -1
          · exact ⟨v, N, K, by rw [ec, if_pos yy], FC.ofp f, by rw [er', if_pos yy], fK⟩
          · rw [if_neg yy] at ec er'
            by_cases vy : v ≤ y
            · exact ⟨-2, N, K, by rw [ec, if_pos vy], FC.ofp f, by rw [er', if_pos vy], fK⟩
            · rw [if_neg vy] at ec er'
              have yge : ¬ y < 0 := fun q => yy (by
                have h1 := Int32.lt_iff_toInt_lt.mp q
                have h2 := Int32.le_iff_toInt_le.mp y0
                have e2 : (0 : Int32).toInt = 0 := rfl
                have e3 : (-1 : Int32).toInt = -1 := rfl
                refine Int32.toInt_inj.mp ?_
                omega)
              obtain ⟨i, hi, rfl⟩ := nI_of2 (n := 2) (M := 2) rfl yge (Int32.not_lt.mp y1)
              have hin : i < n := by
                rcases Nat.lt_or_ge i n with q | q
                · exact q
                · exact absurd (by rw [ev]; exact (nI_leI (by omega) (by omega)).mpr q) vy
              rw [if_neg (show ¬ (3 : Int32) ≤ nI i from fun q => by have := (nI_leI (a := 3) (by omega) (by omega)).mp q; omega), chk_nI _ (by omega) (by omega), nI_clamp (by omega)] at ec
              rw [r163_28, l182, chk_nI _ (by omega) (by omega), nI_clamp (by omega)] at er'
              exact ⟨N.1 161 i, N, K, ec, FC.ofp f, by rw [er', er n hn ev i hin], fK⟩
  · have y0' : y < -1 := Int32.not_le.mp y0
    refine Al.of ⟨-2, by unfold f_X11_planed; rw [if_neg a0, if_neg a1, if_neg y0], ?_⟩
    unfold f_X12_planed
    rw [lt_eq, X12_within_eq, bI_some, decide_eq_false a0, decide_eq_false a1, if_neg (by decide), X12_within_eq, bI_some, decide_eq_true y0']; rfl
end PLT
