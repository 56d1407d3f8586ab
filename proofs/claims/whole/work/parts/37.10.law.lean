/-! ===== the law read: levels, parts ===== -/
section LAWS
variable {t : TX} {L : Lw} {M N K : mM}
theorem whole_loop (w : Nat) {m : Nat} (r0 r1 r2 r3 r4 : Nat → Int32 → mM → Option mM) (x : Int32) : RLoop w t m 0 (fun K => r1 163 x K) (fun n K => f_X12_whole_5 w r0 r1 r2 r3 r4 n 163 x K) := by
  refine ⟨fun n K i a e => ?_, fun n K i op a e => ?_, fun n K e h => ?_⟩
  · have h1 := X12_isWord_eq w a (k := 17) (by omega)
    have h2 := X12_isWord_eq w a (k := 18) (by omega)
    unfold jop at e
    rw [if_pos rfl] at e
    refine ⟨K, ?_, FrY.rf K, a⟩
    show f_X12_whole_5 w r0 r1 r2 r3 r4 (n + 1) 163 x K = _
    rw [f_X12_whole_5, show f_X12_isWord w 163 17 K = _ from h1, bI_some]
    cases e1 : isW t i 17
    · rw [if_pos (show b2i false = 0 from rfl), show f_X12_isWord w 163 18 K = _ from h2, bI_some]
      cases e2 : isW t i 18
      · rw [if_pos (show b2i false = 0 from rfl)]
      · rw [e1, e2] at e; cases e
    · rw [e1] at e; cases e
  · have h1 := X12_isWord_eq w a (k := 17) (by omega)
    have h2 := X12_isWord_eq w a (k := 18) (by omega)
    obtain ⟨-, -, hk, -⟩ := jop_op e
    obtain ⟨f, d⟩ := a.step hk
    refine ⟨_, f, d, ?_⟩
    unfold jop at e
    rw [if_pos rfl] at e
    show f_X12_whole_5 w r0 r1 r2 r3 r4 (n + 1) 163 x K = _
    have e23 : f_X12_whole_23 w r0 r1 r2 r3 r4 (f_X12_whole_5 w r0 r1 r2 r3 r4 n) 163 x K = bV (r1 163 x (wI K 163 7 (nI (i + 1)))) fun M4 => if b2i (isW t i 17) = 0 then f_X12_whole_57 w r0 r1 r2 r3 r4 (f_X12_whole_5 w r0 r1 r2 r3 r4 n) 163 x 10 163 M4 else f_X12_whole_57 w r0 r1 r2 r3 r4 (f_X12_whole_5 w r0 r1 r2 r3 r4 n) 163 x 9 163 M4 := by
      unfold f_X12_whole_23
      rw [show f_X12_isWord w 163 17 K = _ from h1, bI_some, a.2.2.1, nI_1, lt_eq]
    rw [f_X12_whole_5, show f_X12_isWord w 163 17 K = _ from h1, bI_some, show f_X12_isWord w 163 18 K = _ from h2, bI_some, e23]
    cases e1 : isW t i 17
    · cases e2 : isW t i 18
      · rw [e1, e2] at e; cases e
      · rw [e1, e2] at e
        have hop : op = 10 := (Option.some.inj e).symm
        subst hop
        rfl
    · rw [e1] at e
      have hop : op = 9 := (Option.some.inj e).symm
      subst hop
      rfl
  · refine ⟨K, ?_, FrY.rf K, h⟩
    show f_X12_whole_5 w r0 r1 r2 r3 r4 (n + 1) 163 x K = _
    rw [f_X12_whole_5, X12_isWord_er w _ h, bI_some, if_pos rfl, X12_isWord_er w _ h, bI_some, if_pos rfl]
theorem sums_loop (w : Nat) (ht : okT t) {m : Nat} (r0 r1 r2 r3 r4 : Nat → Int32 → mM → Option mM) (x : Int32) : RLoop w t m 2 (fun K => r3 163 x K) (fun n K => f_X12_sums_5 w r0 r1 r2 r3 r4 n 163 x K) := by
  refine ⟨fun n K i a e => ?_, fun n K i op a e => ?_, fun n K e h => ?_⟩
  · have h1 := X12_isSign_eq w ht a (c := 43) (by omega)
    have h2 := X12_isSign_eq w ht a (c := 45) (by omega)
    unfold jop at e
    rw [if_neg (by decide), if_neg (by decide), if_neg (by decide)] at e
    refine ⟨K, ?_, FrY.rf K, a⟩
    show f_X12_sums_5 w r0 r1 r2 r3 r4 (n + 1) 163 x K = _
    rw [f_X12_sums_5, show f_X12_isSign w 163 43 K = _ from h1, bI_some]
    cases e1 : isS t i 43
    · rw [if_pos (show b2i false = 0 from rfl), show f_X12_isSign w 163 45 K = _ from h2, bI_some]
      cases e2 : isS t i 45
      · rw [if_pos (show b2i false = 0 from rfl)]
      · rw [e1, e2] at e; cases e
    · rw [e1] at e; cases e
  · have h1 := X12_isSign_eq w ht a (c := 43) (by omega)
    have h2 := X12_isSign_eq w ht a (c := 45) (by omega)
    obtain ⟨-, -, hk, -⟩ := jop_op e
    obtain ⟨f, d⟩ := a.step hk
    refine ⟨_, f, d, ?_⟩
    unfold jop at e
    rw [if_neg (by decide), if_neg (by decide), if_neg (by decide)] at e
    show f_X12_sums_5 w r0 r1 r2 r3 r4 (n + 1) 163 x K = _
    have e23 : f_X12_sums_23 w r0 r1 r2 r3 r4 (f_X12_sums_5 w r0 r1 r2 r3 r4 n) 163 x K = bV (r3 163 x (wI K 163 7 (nI (i + 1)))) fun M4 => if b2i (isS t i 43) = 0 then f_X12_sums_55 w r0 r1 r2 r3 r4 (f_X12_sums_5 w r0 r1 r2 r3 r4 n) 163 x 5 163 M4 else f_X12_sums_55 w r0 r1 r2 r3 r4 (f_X12_sums_5 w r0 r1 r2 r3 r4 n) 163 x 4 163 M4 := by
      unfold f_X12_sums_23
      rw [show f_X12_isSign w 163 43 K = _ from h1, bI_some, a.2.2.1, nI_1, lt_eq]
    rw [f_X12_sums_5, show f_X12_isSign w 163 43 K = _ from h1, bI_some, show f_X12_isSign w 163 45 K = _ from h2, bI_some, e23]
    cases e1 : isS t i 43
    · cases e2 : isS t i 45
      · rw [e1, e2] at e; cases e
      · rw [e1, e2] at e
        have hop : op = 5 := (Option.some.inj e).symm
        subst hop
        rfl
    · rw [e1] at e
      have hop : op = 4 := (Option.some.inj e).symm
      subst hop
      rfl
  · refine ⟨K, ?_, FrY.rf K, h⟩
    show f_X12_sums_5 w r0 r1 r2 r3 r4 (n + 1) 163 x K = _
    rw [f_X12_sums_5, X12_isSign_er w _ h, bI_some, if_pos rfl, X12_isSign_er w _ h, bI_some, if_pos rfl]
theorem products_loop (w : Nat) (ht : okT t) {m : Nat} (r0 r1 r2 r3 r4 : Nat → Int32 → mM → Option mM) (x : Int32) : RLoop w t m 3 (fun K => r4 163 x K) (fun n K => f_X12_products_5 w r0 r1 r2 r3 r4 n 163 x K) := by
  refine ⟨fun n K i a e => ?_, fun n K i op a e => ?_, fun n K e h => ?_⟩
  · obtain ⟨N, h1, h2, h3⟩ := X12_hasSign_eq w ht a (c := 42) (by omega)
    unfold jop at e
    rw [if_neg (by decide), if_neg (by decide), if_pos rfl] at e
    have e1 : isS t i 42 = false := by
      cases e1 : isS t i 42
      · rfl
      · rw [e1] at e; cases e
    rw [e1] at h1 h3
    refine ⟨N, ?_, h2, h3⟩
    show f_X12_products_5 w r0 r1 r2 r3 r4 (n + 1) 163 x K = _
    rw [f_X12_products_5, show f_X12_hasSign w 163 42 K = _ from h1, bI_some, if_pos (show b2i false = 0 from rfl)]
  · obtain ⟨N, h1, h2, h3⟩ := X12_hasSign_eq w ht a (c := 42) (by omega)
    unfold jop at e
    rw [if_neg (by decide), if_neg (by decide), if_pos rfl] at e
    cases e1 : isS t i 42
    · rw [e1] at e; cases e
    · rw [e1] at h1 h3 e
      have hop : op = 6 := (Option.some.inj e).symm
      subst hop
      refine ⟨N, h2, h3, ?_⟩
      show f_X12_products_5 w r0 r1 r2 r3 r4 (n + 1) 163 x K = _
      rw [f_X12_products_5, show f_X12_hasSign w 163 42 K = _ from h1, bI_some, if_neg (show ¬ b2i true = 0 by decide)]
      rfl
  · obtain ⟨N, h1, h2, h3⟩ := X12_hasSign_er w 42 h
    refine ⟨N, ?_, h2, h3⟩
    show f_X12_products_5 w r0 r1 r2 r3 r4 (n + 1) 163 x K = _
    rw [f_X12_products_5, h1, bI_some, if_pos rfl]
/-- level 1: once at most -/
theorem jone (w : Nat) (hw : 1100 ≤ w) (ht : okT t) {m dep : Nat} (hm : m ≤ 1000) (r0 : Nat → Nat → Int32 → Int32 → mM → Option (Int32 × mM)) (r1 : Nat → Nat → Int32 → mM → Option (Int32 × mM)) (s0 s1 s2 s3 s4 : Nat → Int32 → mM → Option mM) (h : Nat) (hh : h + 2 ≤ 30) (IH : ∀ M K i L, AtC M t i → LwC M 22 L → AtR K t m i → LwE K L → L.1 + 1 ≤ i → hOK L (h + 1) → LJ t m M K i L (h + 1) (r0 25 22 (nI 2) (nI dep) M) (s2 163 (nI dep) K)) (M0 K0 : mM) (i0 : Nat) (L0 : Lw) (hL0 : L0.1 + 1 ≤ i0) (i : Nat) (L : Lw) (M K : mM) (fM : FrL M0 M) (fK : FrZ K0 K) (aC : AtC M t i) (lC : LwC M 22 L) (aR : AtR K t m i) (lR : LwE K L) (hi : i0 < i) (hl : L0.1 < L.1) (hli : L.1 + i0 ≤ L0.1 + i) (hok : hOK L (h + 1)) : LJ t m M0 K0 i0 L0 h (f_X2_readTerm_43 w r0 r1 w 25 22 (nI 1) (nI dep) 1 0 M) (bI (f_X12_isSign w 163 60 K) fun q3 M2 => bI (f_X12_hasSign w 163 60 M2) fun q5 M4 => (if q5 = 0 then bI (f_X12_hasSign w 163 61 M4) fun q7 M6 => (if q7 = 0 then some M6 else (f_X12_test_30 w s0 s1 s2 s3 s4 163 (nI dep) q3 M6)) else (f_X12_test_30 w s0 s1 s2 s3 s4 163 (nI dep) q3 M4))) := by
  obtain ⟨w2, rfl⟩ : ∃ q, w = q + 2 := ⟨w - 2, by omega⟩
  have him := aR.2.1
  have hj := X2_joinOn_eq (w2 + 2) ht aC (lev := 1) (by omega)
  have g1 := X12_isSign_eq (w2 + 2) ht aR (c := 60) (by omega)
  obtain ⟨K1, a1, a2, a3⟩ := X12_hasSign_eq (w2 + 2) ht aR (c := 60) (by omega)
  have eC : f_X2_readTerm_43 (w2 + 2) r0 r1 (w2 + 2) 25 22 (nI 1) (nI dep) 1 0 M = if jcI (jop t 1 i) = 0 then f_X2_readTerm_62 (w2 + 2) r0 r1 M else bV (f_X10_advance (w2 + 2) 25 M) fun M3 => bI (r0 25 22 (nI 2) (nI dep) M3) fun q5 M4 => if q5 = 0 then rtB 0 M4 else bV (f_X3_put (w2 + 2) 22 (jcI (jop t 1 i)) M4) fun M6 => rtB 1 M6 := by
    rw [f_X2_readTerm_43, if_neg (by decide), hj, bI_some]
    rfl
  rw [eC, show f_X12_isSign (w2 + 2) 163 60 K = _ from g1, bI_some, show f_X12_hasSign (w2 + 2) 163 60 K = _ from a1, bI_some]
  -- a join found: op, the reference at K2 behind it
  have go : ∀ (op : Nat) (K2 : mM), jop t 1 i = some op → FrY K K2 → AtR K2 t m (i + 1) → LJ t m M0 K0 i0 L0 h (if jcI (jop t 1 i) = 0 then f_X2_readTerm_62 (w2 + 2) r0 r1 M else bV (f_X10_advance (w2 + 2) 25 M) fun M3 => bI (r0 25 22 (nI 2) (nI dep) M3) fun q5 M4 => if q5 = 0 then rtB 0 M4 else bV (f_X3_put (w2 + 2) 22 (jcI (jop t 1 i)) M4) fun M6 => rtB 1 M6) (bV (s2 163 (nI dep) K2) fun M1 => bV (f_X12_emit (w2 + 2) 163 (nI op) (nI 0) M1) fun M2 => some M2) := fun op K2 e f2 d2 => by
    obtain ⟨o1, o2, o3, o4⟩ := jop_op e
    obtain ⟨M1, m1, m2, m3⟩ := aC.adv (w2 + 2) hw ht
    rw [e, if_neg o4, m1, bV_some]
    obtain ⟨N, K3, fN, fK3, res⟩ := IH M1 K2 (i + 1) L m3 (lC.fb m2.b) d2 (lR.fy f2) (by omega) hok
    rcases res with ⟨i2, L2, c1, c2, b1, b2, b3, b4, b5, b6, b7, b8⟩ | ⟨e2, n2, j, c1, c2, b1, b2, b3, b4, b5⟩
    · have hi2 := b3.2.1
      obtain ⟨N2, p1, p2, p3, p4⟩ := X3_put_eq (w2 + 2) b2 (by omega) op 0 b1
      obtain ⟨K4, q1, q2, q3, q4⟩ := X12_emit_eq (w2 + 2) b4 (by omega) op 0 b3
      refine ⟨N2, K4, ((fM.tr m2.b.l).tr fN).tr p2, ((fK.tr f2.z).tr fK3).tr q2, Or.inl ⟨i2, lAdd L2 op 0, ?_, ?_, p3, p4, q3, q4, by omega, by show L0.1 < L2.1 + 1; omega, by show L2.1 + 1 + i0 ≤ _; omega, hOK_add b8 (Or.inr (Or.inr (Or.inr ⟨o1, o2, by omega, by omega, by omega⟩)))⟩⟩
      · rw [c1, bI_some, if_neg (by decide), show f_X3_put (w2 + 2) 22 (jcI (some op)) N = _ from p1, bV_some]; rfl
      · rw [c2, bV_some, q1, bV_some]
    · obtain ⟨K4, q1, q2, q3, q4⟩ := X12_emit_er (w2 + 2) b3 (by omega) op 0 b2
      refine ⟨N, K4, (fM.tr m2.b.l).tr fN, ((fK.tr f2.z).tr fK3).tr q2, Or.inr ⟨e2, n2 + 1, j, ?_, ?_, b1, q3, q4, b4, by omega⟩⟩
      · rw [c1, bI_some, if_pos rfl]; rfl
      · rw [c2, bV_some, q1, bV_some]
  cases e60 : isS t i 60
  · rw [e60] at a3
    have a3 : AtR K1 t m i := a3
    obtain ⟨K2, b1, b2, b3⟩ := X12_hasSign_eq (w2 + 2) ht a3 (c := 61) (by omega)
    rw [if_pos (show b2i false = 0 from rfl), show f_X12_hasSign (w2 + 2) 163 61 K1 = _ from b1, bI_some]
    cases e61 : isS t i 61
    · have e : jop t 1 i = none := by unfold jop; rw [if_neg (by decide), if_pos rfl, e60, e61]; rfl
      rw [e61] at b3
      rw [if_pos (show b2i false = 0 from rfl), e]
      exact ⟨M, K2, fM, fK.tr (a2.tr b2).z, Or.inl ⟨i, L, by rw [if_pos (show jcI none = 0 from rfl)]; rfl, rfl, aC, lC, b3, lR.fy (a2.tr b2), hi, hl, hli, hok⟩⟩
    · have e : jop t 1 i = some 8 := by unfold jop; rw [if_neg (by decide), if_pos rfl, e60, e61]; rfl
      rw [e61] at b3
      rw [if_neg (show ¬ b2i true = 0 by decide)]
      exact go 8 K2 e (a2.tr b2) b3
  · have e : jop t 1 i = some 7 := by unfold jop; rw [if_neg (by decide), if_pos rfl, e60]; rfl
    rw [e60] at a3
    rw [if_neg (show ¬ b2i true = 0 by decide)]
    exact go 7 K1 e a2 a3
end LAWS
