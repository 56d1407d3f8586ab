/-! ===== opened, cut ===== -/
section OP
variable {p : HP} {h : HS} {M : mM}
theorem psM_in (hp : okP p) (T : Int32) : inR (pP p) (psM p h T) := fun i hi e => by
  have hP := hp.2.2.1
  unfold psM at e
  rw [mask_bt _ _ _ (by omega) i hi, b_0, Bool.false_or, Bool.and_eq_true, decide_eq_true_eq] at e
  omega
theorem coM_in (hp : okP p) (opn : Int32) (a : Nat) : inR 8 (coM p h opn a) := fun i hi e => by
  have hP := hp.2.2.1
  unfold coM at e
  rw [b_and, Bool.and_eq_true] at e
  have := psM_in hp _ i hi e.1
  omega
/-- the pairs that can meet -/
def prs (p : HP) (h : HS) (opn : Int32) : Int32 := nI (itG (fun k c => c + pop (coM p h opn k)) (pP p) 0 0) / 2
theorem X9_pairsTogether_eq (w : Nat) (hw : 40 ≤ w) {o : Nat} (ho : o ∈ [31, 35, 41, 45, 49, 53, 57, 61, 65, 69, 73, 77, 81, 85, 89, 93, 97, 101, 119, 130, 141, 152]) (hp : okP p) (hh : okS p h) (hc : PlC M 1 p) (hs : StC M o p h) (opn : Int32) : f_X9_pairsTogether w o opn M = some (prs p h opn, M) := by
  have hP := hp.2.2.1
  obtain ⟨e0, -, -, e3, -, -, e6⟩ := stF o ho
  unfold f_X9_pairsTogether
  refine loopP (fun n c k => f_X9_pairsTogether_4 w n o opn (nI c) (nI k) M) _ (fun c => some (nI c / 2, M)) (pP p) ?_ ?_ (by omega) 0
  · intro n c
    simp (discharger := omega) only [f_X9_pairsTogether_4, e0, hc.2.2.1, lit_s, nI_add, pk_mul, nI_clamp, chk_nI, bI_s, bV_s, ltv_s, nI_leI, nI_ltI, nI_eq, bitN0, bitN1, oneN, b2i0, b2i1, b2it, b2if, rtB_b, if_pos, if_neg, if_true, if_false, Bool.false_eq_true, Bool.true_eq_false, ite_self, or_n0]
  · intro n c k hk
    simp (discharger := omega) only [f_X9_pairsTogether_4, e0, hc.2.2.1, X9_companyOf_eq w (show 9 ≤ w by omega) ho hp hh hc hs opn hk, J6_bitCount_eq w (coM_in hp opn k), lit_s, nI_add, pk_mul, nI_clamp, chk_nI, bI_s, bV_s, ltv_s, nI_leI, nI_ltI, nI_eq, bitN0, bitN1, oneN, b2i0, b2i1, b2it, b2if, rtB_b, if_pos, if_neg, if_true, if_false, Bool.false_eq_true, Bool.true_eq_false, ite_self, or_n0]
theorem X12_pairsBy_eq (w : Nat) (hw : 40 ≤ w) (hp : okP p) (hh : okS p h) (hc : PlR M 0 p) (hs : StR M 0 p h) (opn : Int32) : f_X12_pairsBy w 163 opn M = some (prs p h opn, M) := by
  have hP := hp.2.2.1
  have hPc : M.1 169 2 = nI (pP p) := hc.2.2.1
  unfold f_X12_pairsBy
  refine loopP (fun n c k => f_X12_pairsBy_4 w n 163 opn (nI c) (nI k) M) _ (fun c => some (nI c / 2, M)) (pP p) ?_ ?_ (by omega) 0
  · intro n c
    simp (discharger := omega) only [f_X12_pairsBy_4, X12_persons_eq, hPc, lit_s, nI_add, pk_mul, nI_clamp, chk_nI, bI_s, bV_s, ltv_s, nI_leI, nI_ltI, nI_eq, bitN0, bitN1, oneN, b2i0, b2i1, b2it, b2if, rtB_b, if_pos, if_neg, if_true, if_false, Bool.false_eq_true, Bool.true_eq_false, ite_self, or_n0]
  · intro n c k hk
    simp (discharger := omega) only [f_X12_pairsBy_4, X12_persons_eq, hPc, X12_companyBy_eq w (show 9 ≤ w by omega) hp hh hc hs opn hk, X12_bits_eq w hw (coM_in hp opn k), lit_s, nI_add, pk_mul, nI_clamp, chk_nI, bI_s, bV_s, ltv_s, nI_leI, nI_ltI, nI_eq, bitN0, bitN1, oneN, b2i0, b2i1, b2it, b2if, rtB_b, if_pos, if_neg, if_true, if_false, Bool.false_eq_true, Bool.true_eq_false, ite_self, or_n0]
def opG (p : HP) (h : HS) (k : Nat) (s : Int32 × Int32) : Int32 × Int32 := if prs p h (opM p h ||| one k) ≤ s.1 then s else (prs p h (opM p h ||| one k), nI k)
theorem X11_opened_eq (w : Nat) (hw : 40 ≤ w) (q : QR p h M) : ∃ v, f_X11_opened w 0 M = some (v, M) ∧ f_X12_opened w 163 M = some (v, th0 M) := by
  have q0 := q.th0
  obtain ⟨hp, hh, hc, hr, hs, ht⟩ := q
  obtain ⟨-, -, -, hr0, -, ht0⟩ := q0
  have hD := hp.2.1
  have hDc : (th0 M).1 169 1 = nI (pD p) := hr0.2.1
  have hon : f_X12_openNow w 163 (nI 0) (th0 M) = some (opM p h, th0 M) := X12_openNow_eq w (by omega) (b := 0) (by omega) hp hh hr0 ht0
  unfold f_X11_opened f_X12_opened
  rw [r0_6, X9_openDoors_eq w (by omega) mem31 hp hh hc hs, bI_some, X9_pairsTogether_eq w hw mem31 hp hh hc hs, bI_some, lt_eq, show wI M 163 0 0 = th0 M from rfl, show f_X12_openNow w 163 0 (th0 M) = _ from hon, bI_some, X12_pairsBy_eq w hw hp hh hr0 ht0, bI_some]
  refine ⟨(itG (opG p h) (pD p) 0 (prs p h (opM p h), -1)).2, ?_, ?_⟩
  · refine loopG (fun _ (s : Int32 × Int32) => prs p h (opM p h) ≤ s.1) (fun n (s : Int32 × Int32) k => f_X11_opened_22 w n 0 (opM p h) s.1 s.2 (nI k) M) (opG p h) (fun s => some (s.2, M)) (pD p) ?_ ?_ (pD p) w 0 (prs p h (opM p h), -1) (by omega) (by omega) (Int32.le_refl (prs p h (opM p h)))
    · intro n s _
      simp (discharger := omega) only [f_X11_opened_22, r0_0, hc.2.1, lit_s, nI_add, pk_mul, nI_clamp, chk_nI, bI_s, bV_s, ltv_s, nI_leI, nI_ltI, nI_eq, bitN0, bitN1, oneN, b2i0, b2i1, b2it, b2if, rtB_b, if_pos, if_neg, if_true, if_false, Bool.false_eq_true, Bool.true_eq_false, ite_self, or_n0]
    · intro n s k hk hI
      have g := X9_isStuck_eq w mem31 hp hh hs hk
      simp (discharger := omega) only [f_X11_opened_22, r0_0, r0_6, hc.2.1, g, X9_pairsTogether_eq w hw mem31 hp hh hc hs, lit_s, nI_add, pk_mul, nI_clamp, chk_nI, bI_s, bV_s, ltv_s, nI_leI, nI_ltI, nI_eq, bitN0, bitN1, oneN, b2i0, b2i1, b2it, b2if, rtB_b, if_pos, if_neg, if_true, if_false, Bool.false_eq_true, Bool.true_eq_false, ite_self, or_n0]
      have hle : prs p h (opM p h) ≤ (opG p h k s).1 := by
        unfold opG
        by_cases e : prs p h (opM p h ||| one k) ≤ s.1
        · rw [if_pos e]; exact hI
        · rw [if_neg e]; exact Int32.le_trans hI (Int32.le_of_lt (Int32.not_le.mp e))
      refine ⟨?_, hle⟩
      by_cases e1 : stk h k = true
      · unfold opG
        by_cases e : prs p h (opM p h ||| one k) ≤ s.1
        · simp [e1, e]
        · simp [e1, e]
      · have e1 := Bool.eq_false_iff.mpr e1
        have e2 : opM p h ||| one k = opM p h := b_ext fun i hi => by
          rw [b_or, bt_one (by omega) hi]
          by_cases q : i = k
          · subst q; rw [bt_op hp hi, decide_eq_true hk, e1]; rfl
          · rw [decide_eq_false q, Bool.or_false]
        unfold opG
        rw [e2, if_pos e1, if_pos hI]
  · refine loopP (fun n (s : Int32 × Int32) k => f_X12_opened_22 w n 163 (opM p h) s.2 s.1 (nI k) (th0 M)) (opG p h) (fun s => some (s.2, th0 M)) (pD p) ?_ ?_ (by omega) (prs p h (opM p h), -1)
    · intro n s
      simp (discharger := omega) only [f_X12_opened_22, X12_doors_eq, hDc, lit_s, nI_add, pk_mul, nI_clamp, chk_nI, bI_s, bV_s, ltv_s, nI_leI, nI_ltI, nI_eq, bitN0, bitN1, oneN, b2i0, b2i1, b2it, b2if, rtB_b, if_pos, if_neg, if_true, if_false, Bool.false_eq_true, Bool.true_eq_false, ite_self, or_n0]
    · intro n s k hk
      simp (discharger := omega) only [f_X12_opened_22, X12_doors_eq, hDc, X12_pairsBy_eq w hw hp hh hr0 ht0, f_X12_opened_55, lit_s, nI_add, pk_mul, nI_clamp, chk_nI, bI_s, bV_s, ltv_s, nI_leI, nI_ltI, nI_eq, bitN0, bitN1, oneN, b2i0, b2i1, b2it, b2if, rtB_b, if_pos, if_neg, if_true, if_false, Bool.false_eq_true, Bool.true_eq_false, ite_self, or_n0]
      unfold opG
      by_cases e : prs p h (opM p h ||| one k) ≤ s.1
      · simp only [if_pos e]
      · simp only [if_neg e]
end OP
