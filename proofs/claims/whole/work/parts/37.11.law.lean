/-! ===== the law read: a part, and all ===== -/
section LAWP
variable {t : TX} {L : Lw} {M N K : mM}
theorem X2_factTold_eq (w : Nat) {i : Nat} (h : AtC M t i) : ∃ v, f_X2_factTold w 25 M = some (v, M) ∧ ((v = 0 ∧ ∀ k, k < 4 → isW t i (19 + k) = false) ∨ ∃ k, k < 4 ∧ v = ccI 2 k ∧ isW t i (19 + k) = true) := by
  have e1 := X10_isWord_eq w h (k := 19) (by omega) (show (7824756 : Int64) = _ by decide +kernel)
  have e2 := X10_isWord_eq w h (k := 20) (by omega) (show (495924374636 : Int64) = _ by decide +kernel)
  have e3 := X10_isWord_eq w h (k := 21) (by omega) (show (495806669669 : Int64) = _ by decide +kernel)
  have e4 := X10_isWord_eq w h (k := 22) (by omega) (show (1684108389 : Int64) = _ by decide +kernel)
  unfold f_X2_factTold
  rw [e1, bI_some]
  cases q1 : isW t i 19
  · rw [if_pos (show b2i false = 0 from rfl), e2, bI_some]
    cases q2 : isW t i 20
    · rw [if_pos (show b2i false = 0 from rfl), e3, bI_some]
      cases q3 : isW t i 21
      · rw [if_pos (show b2i false = 0 from rfl), e4, bI_some]
        cases q4 : isW t i 22
        · refine ⟨0, rfl, Or.inl ⟨rfl, fun k hk => ?_⟩⟩
          have : k = 0 ∨ k = 1 ∨ k = 2 ∨ k = 3 := by omega
          rcases this with rfl | rfl | rfl | rfl
          · exact q1
          · exact q2
          · exact q3
          · exact q4
        · exact ⟨-4, rfl, Or.inr ⟨3, by omega, rfl, q4⟩⟩
      · exact ⟨-3, rfl, Or.inr ⟨2, by omega, rfl, q3⟩⟩
    · exact ⟨-2, rfl, Or.inr ⟨1, by omega, rfl, q2⟩⟩
  · exact ⟨-1, rfl, Or.inr ⟨0, by omega, rfl, q1⟩⟩
theorem isW_1 {i k : Nat} (e : isW t i k = true) : tkK t (psn t i) = 1 := by unfold isW at e; rw [Bool.and_eq_true, decide_eq_true_eq] at e; exact e.1
theorem isS_3 {i k : Nat} (e : isS t i k = true) : tkK t (psn t i) = 3 := by unfold isS at e; rw [Bool.and_eq_true, decide_eq_true_eq] at e; exact e.1
theorem isW_uni {i k k' : Nat} (hk : k < 23) (hk' : k' < 23) (e1 : isW t i k = true) (e2 : isW t i k' = true) : k = k' := by
  unfold isW at e1 e2
  rw [Bool.and_eq_true, decide_eq_true_eq, decide_eq_true_eq] at e1 e2
  exact kw_inj k hk k' hk' (e1.2.symm.trans e2.2)
theorem jpart (w : Nat) (hw : 1100 ≤ w) (ht : okT t) {m dep : Nat} (hm : m ≤ 1000) (hdep : dep ≤ 5) (r0 : Nat → Nat → Int32 → Int32 → mM → Option (Int32 × mM)) (r1 : Nat → Nat → Int32 → mM → Option (Int32 × mM)) (s0 s1 s2 s3 s4 : Nat → Int32 → mM → Option mM) (h : Nat) (hh : h ≤ 24) (IHw : dep < 5 → ∀ M K i L, AtC M t i → LwC M 22 L → AtR K t m i → LwE K L → L.1 + 1 ≤ i → hOK L h → LJ t m M K i L h (r0 25 22 0 (nI (dep + 1)) M) (s0 163 (nI (dep + 1)) K)) (IHp : dep < 5 → ∀ M K i L, AtC M t i → LwC M 22 L → AtR K t m i → LwE K L → L.1 + 1 ≤ i → hOK L h → LJ t m M K i L h (r1 25 22 (nI (dep + 1)) M) (s4 163 (nI (dep + 1)) K)) (i : Nat) (aC : AtC M t i) (lC : LwC M 22 L) (aR : AtR K t m i) (lR : LwE K L) (hL : L.1 + 1 ≤ i) (hok : hOK L h) : LJ t m M K i L h (f_X2_readPart_b w r0 r1 25 22 (nI dep) M) (f_X12_takePart_b w s0 s1 s2 s3 s4 163 (nI dep) K) := by
  have him := aR.2.1
  have h8 := aR.2.2.2.1
  have h7 := aR.2.2.1
  have hle := kind_lt (t := t) (psn t i)
  have c40 := X10_isSign_eq w ht aC (c := 40) (by omega)
  have c16 := X10_isWord_eq w aC (k := 16) (by omega) (show (7237492 : Int64) = _ by decide +kernel)
  obtain ⟨fv, cfv, hfv⟩ := X2_factTold_eq w aC
  have r40 := X12_isSign_eq w ht aR (c := 40) (by omega)
  have r16 := X12_isWord_eq w aR (k := 16) (by omega)
  obtain ⟨rv, rfv, hrv⟩ := X12_wordHere_eq w hw (a := 19) (n := 4) aR (by omega)
  have k3 : M.1 25 3 = nI (tkK t (psn t i)) := aC.2.2.1
  have ka := (aR.1.2.2.2 i him).1
  -- the beginnings
  have eC : f_X2_readPart_b w r0 r1 25 22 (nI dep) M = if (isS t i 40 || isW t i 16 || !decide (fv = 0) || decide (tkK t (psn t i) = 2)) = true then f_X2_readPart_50 w r0 r1 25 22 (nI dep) (b2i (isS t i 40)) (b2i (isW t i 16)) fv M else bI (f_X10_refuse w 25 1 M) fun q8 M7 => rtB q8 M7 := by
    unfold f_X2_readPart_b
    rw [show f_X10_isSign w 25 40 M = _ from c40, bI_some, c16, bI_some, cfv, bI_some, k3]
    cases isS t i 40
    · rw [if_pos (show b2i false = 0 from rfl)]
      cases isW t i 16
      · rw [if_pos (show b2i false = 0 from rfl)]
        by_cases q : fv = 0
        · rw [if_pos q, decide_eq_true q]
          by_cases q2 : tkK t (psn t i) = 2
          · rw [if_pos (by rw [q2]; rfl), decide_eq_true q2]; rfl
          · rw [if_neg (show ¬ nI _ = 2 from fun e => q2 ((nI_eq (b := 2) (by omega) (by omega)).mp e)), decide_eq_false q2]; rfl
        · rw [if_neg q, decide_eq_false q]; rfl
      · rfl
    · rfl
  have eR : f_X12_takePart_b w s0 s1 s2 s3 s4 163 (nI dep) K = f_X12_takePart_26 w s0 s1 s2 s3 s4 163 (nI dep) (b2i (decide (tkK t (psn t i) = 2))) K := by
    unfold f_X12_takePart_b
    have hm' := aR.1.1
    rw [h8, if_pos (show (0 : Int32) ≤ 0 by decide), h7, r163_4, l165, chk_nI _ (by omega) (by omega), nI_clamp (by omega), ka]
    by_cases q2 : tkK t (psn t i) = 2
    · rw [if_pos (by rw [q2]; rfl), decide_eq_true q2]; rfl
    · rw [if_neg (show ¬ nI _ = 2 from fun e => q2 ((nI_eq (b := 2) (by omega) (by omega)).mp e)), decide_eq_false q2]; rfl
  have fv0 : (fv = 0) ↔ rv = -1 := by
    rcases hfv with ⟨a1, a2⟩ | ⟨k, a0, a1, a2⟩ <;> rcases hrv with ⟨b1, b2⟩ | ⟨k', b0, b1, b2⟩
    · exact ⟨fun _ => b1, fun _ => a1⟩
    · rw [a2 k' b0] at b2; cases b2
    · rw [b2 k a0] at a2; cases a2
    · refine ⟨fun e => ?_, fun e => ?_⟩
      · rw [a1] at e
        exact absurd e ((by decide +kernel : ∀ k, k < 4 → ccI 2 k ≠ 0) k a0)
      · rw [b1] at e
        exact absurd e (m1_ne k' (by omega))
  rw [eC, eR]
  cases any : (isS t i 40 || isW t i 16 || !decide (fv = 0) || decide (tkK t (psn t i) = 2))
  · -- nothing that can be
    rw [Bool.or_eq_false_iff, Bool.or_eq_false_iff, Bool.or_eq_false_iff] at any
    obtain ⟨⟨⟨n1, n2⟩, n3⟩, n4⟩ := any
    have hf : fv = 0 := by
      by_cases q : fv = 0
      · exact q
      · rw [decide_eq_false q] at n3; cases n3
    obtain ⟨N, a, b, d⟩ := X10_refuse_eq w (c := 1) aC
    obtain ⟨K1, a1, a2, a3⟩ := X12_wrong_eq w ht (c := 1) aR (by omega) (by omega)
    refine ⟨N, K1, b.l, a2.z, Or.inr ⟨_, L.1, i, ?_, ?_, d, a3, by rw [a2.2.2 13 (by decide) (by decide)]; exact lR.1, him, by omega⟩⟩
    · rw [if_neg (by decide), show f_X10_refuse w 25 1 M = _ from a, bI_some]; rfl
    · unfold f_X12_takePart_26 f_X12_takePart_79
      rw [show f_X12_wordHere w 163 19 4 K = _ from rfv, bI_some, if_neg (by rw [fv0.mp hf]; decide), n4, if_pos (show b2i false = 0 from rfl), show f_X12_isSign w 163 40 K = _ from r40, bI_some, n1, if_pos (show b2i false = 0 from rfl), show f_X12_isWord w 163 16 K = _ from r16, bI_some, n2, if_pos (show b2i false = 0 from rfl), show f_X12_wrong w 163 1 K = _ from a1, bV_some, if_neg a3.nle]
  · rw [if_pos (show true = true from rfl)]
    have hk : tkK t (psn t i) ≠ 0 := by
      rw [Bool.or_eq_true, Bool.or_eq_true, Bool.or_eq_true] at any
      rcases any with ((q | q) | q) | q
      · exact isS_k q
      · exact isW_k q
      · rcases hfv with ⟨a1, a2⟩ | ⟨k, a0, a1, a2⟩
        · rw [decide_eq_true a1] at q; cases q
        · exact isW_k a2
      · rw [decide_eq_true_eq] at q; omega
    have eR2 : f_X12_takePart_26 w s0 s1 s2 s3 s4 163 (nI dep) (b2i (decide (tkK t (psn t i) = 2))) K = f_X12_takePart_69 w s0 s1 s2 s3 s4 163 (nI dep) (b2i (decide (tkK t (psn t i) = 2))) rv K := by
      unfold f_X12_takePart_26
      rw [show f_X12_wordHere w 163 19 4 K = _ from rfv, bI_some]
      by_cases q0 : fv = 0
      · rw [if_neg (by rw [fv0.mp q0]; decide)]
        by_cases q2 : tkK t (psn t i) = 2
        · rw [decide_eq_true q2, if_neg (show ¬ b2i true = 0 by decide)]
        · rw [decide_eq_false q2, if_pos (show b2i false = 0 from rfl), show f_X12_isSign w 163 40 K = _ from r40, bI_some]
          cases e40 : isS t i 40
          · rw [if_pos (show b2i false = 0 from rfl), show f_X12_isWord w 163 16 K = _ from r16, bI_some]
            cases e16 : isW t i 16
            · rw [e40, e16, decide_eq_true q0, decide_eq_false q2] at any; cases any
            · rw [if_neg (show ¬ b2i true = 0 by decide)]
          · rw [if_neg (show ¬ b2i true = 0 by decide)]
      · rcases hrv with ⟨b1, b2⟩ | ⟨k', b0, b1, b2⟩
        · exact absurd (fv0.mpr b1) q0
        · rw [if_pos (ge0 (by omega) b1)]
    rw [eR2]
    unfold f_X2_readPart_50 f_X12_takePart_69
    by_cases d5 : dep = 5
    · -- too deep
      obtain ⟨N, a, b, d⟩ := X10_refuse_eq w (c := 5) aC
      obtain ⟨K1, a1, a2, a3⟩ := X12_wrong_eq w ht (c := 5) aR (by omega) (by omega)
      refine ⟨N, K1, b.l, a2.z, Or.inr ⟨_, L.1, i, ?_, ?_, d, a3, by rw [a2.2.2 13 (by decide) (by decide)]; exact lR.1, him, by omega⟩⟩
      · rw [d5, if_neg (by decide), show f_X10_refuse w 25 5 M = _ from a, bI_some]; rfl
      · unfold f_X12_takePart_79
        rw [if_pos (by rw [d5]; rfl), show f_X12_wrong w 163 5 K = _ from a1, bV_some, if_neg a3.nle]
    · obtain ⟨M1, m1, m2, m3⟩ := aC.adv w hw ht
      obtain ⟨K1, w1, w2, w3⟩ := X12_hasWord_eq w aR (k := 16) (by omega)
      have lC1 := lC.fb m2.b
      unfold f_X12_takePart_79
      rw [if_pos (show nI dep < 5 from (nI_ltI (b := 5) (by omega) (by omega)).mpr (by omega)), lt_eq, m1, bV_some, nI_1, if_neg (show ¬ nI dep = 5 from fun e => d5 ((nI_eq (b := 5) (by omega) (by omega)).mp e)), h8, if_pos (show (0 : Int32) ≤ 0 by decide), show f_X12_hasWord w 163 16 K = _ from w1, bI_some]
      cases e16 : isW t i 16
      · rw [e16] at w3
        have w3 : AtR K1 t m i := w3
        obtain ⟨K2, v1, v2, v3⟩ := X12_hasSign_eq w ht w3 (c := 40) (by omega)
        rw [if_pos (show b2i false = 0 from rfl), if_pos (show b2i false = 0 from rfl), show f_X12_hasSign w 163 40 K1 = _ from v1, bI_some]
        cases e40 : isS t i 40
        · -- a fact or a number
          rw [e40] at v3
          have v3 : AtR K2 t m i := v3
          have f2 : FrY K K2 := w2.tr v2
          rw [if_pos (show b2i false = 0 from rfl), if_pos (show b2i false = 0 from rfl)]
          unfold f_X2_readPart_142 f_X12_takePart_147 f_X12_takePart_165
          -- both put one code
          have put : ∀ (op arg : Nat), ((op = 1 ∧ arg < 10000 ∧ h < 32 ∧ h + 1 = h + 1) ∨ (op = 2 ∧ arg < 4 ∧ h < 32 ∧ h + 1 = h + 1) ∨ (op = 3 ∧ 1 ≤ h ∧ h ≤ 32 ∧ h + 1 = h) ∨ (4 ≤ op ∧ op ≤ 10 ∧ 2 ≤ h ∧ h ≤ 32 ∧ h + 1 = h - 1)) → LJ t m M K i L h (bV (f_X3_put w 22 (ccI op arg) M1) fun M1 => rtB 1 M1) (bV (f_X12_emit w 163 (nI op) (nI arg) K2) fun M1 => lt (wI M1 163 7 (M1.1 163 7 + 1)) fun M2 => some M2) := fun op arg hs => by
            obtain ⟨N2, p1, p2, p3, p4⟩ := X3_put_eq w lC1 (by omega) op arg m3
            obtain ⟨K3, q1, q2, q3, q4⟩ := X12_emit_eq w (lR.fy f2) (by omega) op arg v3
            obtain ⟨f, d⟩ := q3.step hk
            refine ⟨N2, _, m2.b.l.tr p2, (f2.z.tr q2).tr f.z, Or.inl ⟨i + 1, lAdd L op arg, ?_, ?_, p3, p4, d, q4.fy f, by omega, by show L.1 < L.1 + 1; omega, by show L.1 + 1 + i ≤ _; omega, hOK_add hok hs⟩⟩
            · rw [p1, bV_some]; rfl
            · rw [q1, bV_some, q3.2.2.1, nI_1, lt_eq]
          by_cases q2 : tkK t (psn t i) = 2
          · have hf : fv = 0 := by
              rcases hfv with ⟨a1, -⟩ | ⟨k, a0, a1, a2⟩
              · exact a1
              · have := isW_1 a2; omega
            have hm' := v3.1.1
            have hn := tkN_lt (psn_le (t := t) i) q2
            have kv := (v3.1.2.2.2 i him).2.2.2.1 q2
            rw [if_pos hf, decide_eq_true q2, if_neg (show ¬ b2i true = 0 by decide), if_neg (show ¬ b2i true = 0 by decide), v3.2.2.1, r163_6, l167, chk_nI _ (by omega) (by omega), nI_clamp (by omega), kv, lN_i, aC.2.2.2.2.2.1 q2, lN_i]
            exact put 1 (tkN t (psn t i)) (Or.inl ⟨rfl, hn, by omega, rfl⟩)
          · have hf : ¬ fv = 0 := fun q => by rw [e40, e16, decide_eq_true q, decide_eq_false q2] at any; cases any
            rw [if_neg hf, decide_eq_false q2, if_pos (show b2i false = 0 from rfl), if_pos (show b2i false = 0 from rfl)]
            rcases hfv with ⟨a1, -⟩ | ⟨k, a0, a1, a2⟩
            · exact absurd a1 hf
            · rcases hrv with ⟨b1, b2⟩ | ⟨k', b0, b1, b2⟩
              · exact absurd (fv0.mpr b1) hf
              · have := isW_uni (by omega) (by omega) a2 b2
                have hkk : k = k' := by omega
                subst hkk
                rw [a1, b1]
                exact put 2 k (Or.inr (Or.inl ⟨rfl, a0, by omega, rfl⟩))
        · -- in brackets
          rw [e40] at v3
          have v3 : AtR K2 t m (i + 1) := v3
          have f2 : FrY K K2 := w2.tr v2
          rw [if_neg (show ¬ b2i true = 0 by decide), if_neg (show ¬ b2i true = 0 by decide)]
          obtain ⟨N, K3, fN, fK3, res⟩ := IHw (by omega) M1 K2 (i + 1) L m3 lC1 v3 (lR.fy f2) (by omega) hok
          rcases res with ⟨i2, L2, c1, c2, b1, b2, b3, b4, b5, b6, b7, b8⟩ | ⟨e2, n2, j, c1, c2, b1, b2, b3, b4, b5⟩
          · obtain ⟨N2, n1, res2⟩ := X10_takeSign_eq w hw ht b1 (c := 41) (by omega)
            obtain ⟨K4, q1, q2, q3⟩ := X12_takeSign_eq w ht b3 (c := 41) (by omega)
            rcases res2 with ⟨y1, y2, y3⟩ | ⟨y1, y2, y3⟩
            · rcases q3 with ⟨z1, z2⟩ | ⟨z1, z2⟩
              · refine ⟨N2, K4, (m2.b.l.tr fN).tr n1.l, (f2.z.tr fK3).tr q2.z, Or.inl ⟨i2 + 1, L2, ?_, ?_, y3, b2.fb n1, z2, b4.fy q2, by omega, b6, by omega, b8⟩⟩
                · rw [c1, bI_some, if_neg (by decide), show f_X10_takeSign w 25 41 N = _ from y2, bI_some, if_neg (by decide)]; rfl
                · rw [c2, bV_some, show f_X12_takeSign w 163 41 K3 = _ from q1, bV_some]
              · rw [y1] at z1; cases z1
            · rcases q3 with ⟨z1, z2⟩ | ⟨z1, z2⟩
              · rw [y1] at z1; cases z1
              · refine ⟨N2, K4, (m2.b.l.tr fN).tr n1.l, (f2.z.tr fK3).tr q2.z, Or.inr ⟨_, L2.1, i2, ?_, ?_, y3, z2, by rw [q2.2.2 13 (by decide) (by decide)]; exact b4.1, b3.2.1, by omega⟩⟩
                · rw [c1, bI_some, if_neg (by decide), show f_X10_takeSign w 25 41 N = _ from y2, bI_some, if_pos rfl]; rfl
                · rw [c2, bV_some, show f_X12_takeSign w 163 41 K3 = _ from q1, bV_some]
          · refine ⟨N, K3, m2.b.l.tr fN, f2.z.tr fK3, Or.inr ⟨e2, n2, j, ?_, ?_, b1, b2, b3, b4, by omega⟩⟩
            · rw [c1, bI_some, if_pos rfl]; rfl
            · rw [c2, bV_some, X12_takeSign_er w 41 b2, bV_some]
      · -- not
        have e40 : isS t i 40 = false := by
          cases q : isS t i 40
          · rfl
          · have a := isS_3 q
            have b := isW_1 e16
            omega
        rw [e16] at w3
        have w3 : AtR K1 t m (i + 1) := w3
        rw [e40, if_pos (show b2i false = 0 from rfl), if_neg (show ¬ b2i true = 0 by decide), if_neg (show ¬ b2i true = 0 by decide)]
        obtain ⟨N, K3, fN, fK3, res⟩ := IHp (by omega) M1 K1 (i + 1) L m3 lC1 w3 (lR.fy w2) (by omega) hok
        rcases res with ⟨i2, L2, c1, c2, b1, b2, b3, b4, b5, b6, b7, b8⟩ | ⟨e2, n2, j, c1, c2, b1, b2, b3, b4, b5⟩
        · have hi2 := b3.2.1
          obtain ⟨N2, p1, p2, p3, p4⟩ := X3_put_eq w b2 (by omega) 3 0 b1
          obtain ⟨K4, q1, q2, q3, q4⟩ := X12_emit_eq w b4 (by omega) 3 0 b3
          refine ⟨N2, K4, (m2.b.l.tr fN).tr p2, (w2.z.tr fK3).tr q2, Or.inl ⟨i2, lAdd L2 3 0, ?_, ?_, p3, p4, q3, q4, by omega, by show L.1 < L2.1 + 1; omega, by show L2.1 + 1 + i ≤ _; omega, hOK_add b8 (Or.inr (Or.inr (Or.inl ⟨rfl, by omega, by omega, rfl⟩)))⟩⟩
          · rw [c1, bI_some, if_neg (by decide), show f_X3_put w 22 (-5) N = _ from p1, bV_some]; rfl
          · rw [c2, bV_some, show f_X12_emit w 163 3 0 K3 = _ from q1, bV_some]
        · obtain ⟨K4, q1, q2, q3, q4⟩ := X12_emit_er w b3 (by omega) 3 0 b2
          refine ⟨N, K4, m2.b.l.tr fN, (w2.z.tr fK3).tr q2, Or.inr ⟨e2, n2 + 1, j, ?_, ?_, b1, q3, q4, b4, by omega⟩⟩
          · rw [c1, bI_some, if_pos rfl]; rfl
          · rw [c2, bV_some, show f_X12_emit w 163 3 0 K3 = _ from q1, bV_some]
end LAWP
