/-! ===== the class's tokens ===== -/
def nvC (t : TX) (s : Nat) : Nat → Int64
  | 0 => 0
  | k + 1 => nvC t s k * 10 + (nI (t.2 (s + k)) - 48).toInt64
section LEX2
variable {t : TX} {M N : mM}
theorem nmb_le {s : Nat} : ∀ k, (∀ j, j < k → dgt (t.2 (s + j)) = true) → nmb t s k < 10 ^ k := by
  intro k
  induction k with
  | zero => intro _; show 0 < 1; omega
  | succ k ih =>
    intro h
    have h1 := ih (fun j hj => h j (by omega))
    have h2 := h k (by omega)
    unfold dgt at h2
    rw [Bool.and_eq_true, decide_eq_true_eq, decide_eq_true_eq] at h2
    unfold nmb
    rw [Nat.pow_succ]
    omega
theorem nvC_eq {s : Nat} : ∀ k, k ≤ 4 → (∀ j, j < k → dgt (t.2 (s + j)) = true) → nvC t s k = lN (nmb t s k) := by
  intro k
  induction k with
  | zero => intro _ _; rfl
  | succ k ih =>
    intro hk h
    have h2 := h k (by omega)
    unfold dgt at h2
    rw [Bool.and_eq_true, decide_eq_true_eq, decide_eq_true_eq] at h2
    unfold nvC nmb
    rw [ih (by omega) (fun j hj => h j (by omega)), show lN (nmb t s k) * 10 = lN (nmb t s k * 10) from lN_mul _ 10, show nI (t.2 (s + k)) - 48 = nI (t.2 (s + k) - 48) from pk_sub (b := 48) (by omega), nI_l (by omega), lN_add, Nat.mul_comm]
theorem X10_readNumber_eq (w : Nat) (hw : 1100 ≤ w) (ht : okT t) (hT : TpC M t) {s : Nat} (hs : s < t.1) (h2 : M.1 25 2 = nI s) (h4 : M.1 25 4 = nI s) (h5 : M.2 25 5 = 0) : ∃ N, f_X10_readNumber w 25 M = some N ∧ FrA M N ∧ N.1 25 2 = nI (run t dgt s) ∧ N.1 25 3 = nI (if run t dgt s - s ≤ 4 then 2 else 4) ∧ N.1 25 4 = nI s ∧ N.2 25 5 = nvC t s (run t dgt s - s) := by
  have h1000 := ht.1
  obtain ⟨r1, r2, r3, r4⟩ := run_sp (t := t) dgt (show s ≤ t.1 by omega)
  unfold f_X10_readNumber
  refine loopX (fun k (N : mM) => s ≤ k ∧ FrA M N ∧ N.1 25 2 = nI k ∧ N.1 25 4 = nI s ∧ N.2 25 5 = nvC t s (k - s)) (fun n (N : mM) k => f_X10_readNumber_0 w n 25 N) (run t dgt s) (fun r => ∃ N, r = some N ∧ FrA M N ∧ N.1 25 2 = nI (run t dgt s) ∧ N.1 25 3 = nI (if run t dgt s - s ≤ 4 then 2 else 4) ∧ N.1 25 4 = nI s ∧ N.2 25 5 = nvC t s (run t dgt s - s)) ?_ ?_ (run t dgt s - s) w s M (by omega) (by omega) ⟨Nat.le_refl _, FrA.rf M, h2, h4, by rw [Nat.sub_self]; exact h5⟩
  · rintro n N ⟨k1, f, i2, i4, i5⟩
    have tN := hT.fa f
    have e61 : ∃ K, f_X10_readNumber_65 w 25 N = some K ∧ FrA M K ∧ K.1 25 2 = nI (run t dgt s) ∧ K.1 25 3 = nI (if run t dgt s - s ≤ 4 then 2 else 4) ∧ K.1 25 4 = nI s ∧ K.2 25 5 = nvC t s (run t dgt s - s) := by
      unfold f_X10_readNumber_65
      rw [i2, i4, pk_sub (by omega), lt_eq, lt_eq]
      by_cases q : run t dgt s - s ≤ 4
      · rw [if_neg (show ¬ (4 : Int32) < nI _ from fun e => by have := (nI_ltI (a := 4) (by omega) (by omega)).mp e; omega), if_pos q]
        exact ⟨_, rfl, f.w (by decide) (by decide) _, by rw [wI25, if_neg (by decide)]; exact i2, by rw [wI25, if_pos rfl]; rfl, by rw [wI25, if_neg (by decide)]; exact i4, i5⟩
      · rw [if_pos (show (4 : Int32) < nI _ from (nI_ltI (a := 4) (by omega) (by omega)).mpr (by omega)), if_neg q]
        exact ⟨_, rfl, f.w (by decide) (by decide) _, by rw [wI25, if_neg (by decide)]; exact i2, by rw [wI25, if_pos rfl]; rfl, by rw [wI25, if_neg (by decide)]; exact i4, i5⟩
    rw [f_X10_readNumber_0, tN.1, i2]
    by_cases q : t.1 ≤ run t dgt s
    · rw [if_pos ((nI_leI (by omega) (by omega)).mpr q)]; exact e61
    · have hc := okB_lt (ht.2 (run t dgt s) (by omega))
      rw [if_neg (fun e => q ((nI_leI (by omega) (by omega)).mp e)), r25_0, l26, chk_nI _ (by omega) (by omega), nI_clamp (by omega), tN.2 _ (by omega), X10_isDigit_eq w (by omega), bI_some, r4 (by omega), if_pos (show b2i false = 0 from rfl)]; exact e61
  · rintro n N k hk ⟨k1, f, i2, i4, i5⟩
    have tN := hT.fa f
    have hc := okB_lt (ht.2 k (by omega))
    refine Or.inr ⟨wI (wL N 25 5 (nvC t s (k - s) * 10 + (nI (t.2 k) - 48).toInt64)) 25 2 (nI (k + 1)), ?_, by omega, (f.l _).w (by decide) (by decide) _, by rw [wI25, if_pos rfl], by rw [wI25, if_neg (by decide)]; exact i4, ?_⟩
    · rw [f_X10_readNumber_0, tN.1, i2, if_neg (fun e => by have := (nI_leI (by omega) (by omega)).mp e; omega), r25_0, l26, chk_nI _ (by omega) (by omega), nI_clamp (by omega), tN.2 _ (by omega), X10_isDigit_eq w (by omega), bI_some, r3 k k1 hk, if_neg (show ¬ b2i true = 0 by decide), i2, chk_nI _ (by omega) (by omega), nI_clamp (by omega), tN.2 _ (by omega), i5, lt_eq, show (wL N 25 5 (nvC t s (k - s) * 10 + (nI (t.2 k) - 48).toInt64)).1 25 2 = nI k from i2, nI_1, lt_eq]
    · rw [wI_set, setC_2, wL_at, show k + 1 - s = (k - s) + 1 by omega]
      show _ = nvC t s (k - s) * 10 + (nI (t.2 (s + (k - s))) - 48).toInt64
      rw [show s + (k - s) = k by omega]
theorem X10_advance_eq (w : Nat) (hw : 1100 ≤ w) (ht : okT t) (hT : TpC M t) {i : Nat} (hi : i ≤ t.1) (h2 : M.1 25 2 = nI i) : ∃ N, f_X10_advance w 25 M = some N ∧ FrA M N ∧ TkC N t i := by
  have h1000 := ht.1
  obtain ⟨r1, r2, r3, r4⟩ := run_sp (t := t) blk hi
  obtain ⟨z1, z2⟩ := skp_le hi
  unfold f_X10_advance
  refine loopX (fun k (N : mM) => i ≤ k ∧ FrA M N ∧ N.1 25 2 = nI k) (fun n (N : mM) k => f_X10_advance_0 w n 25 N) (skp t i) (fun r => ∃ N, r = some N ∧ FrA M N ∧ TkC N t i) ?_ ?_ (skp t i - i) w i M (by omega) (by omega) ⟨Nat.le_refl _, FrA.rf M, h2⟩
  · rintro n N ⟨k1, f, i2⟩
    have tN := hT.fa f
    have e39 : ∃ K, f_X10_advance_39 w 25 N = some K ∧ FrA M K ∧ TkC K t i := by
      unfold f_X10_advance_39
      rw [i2, lt_eq, lt_eq]
      have f2 : FrA M (wL (wI N 25 4 (nI (skp t i))) 25 5 0) := (f.w (by decide) (by decide) _).l _
      have tN2 := hT.fa f2
      have g2 : (wL (wI N 25 4 (nI (skp t i))) 25 5 0).1 25 2 = nI (skp t i) := by rw [wL_1, wI25, if_neg (by decide)]; exact i2
      have g4 : (wL (wI N 25 4 (nI (skp t i))) 25 5 0).1 25 4 = nI (skp t i) := by rw [wL_1, wI25, if_pos rfl]
      have g5 : (wL (wI N 25 4 (nI (skp t i))) 25 5 0).2 25 5 = 0 := wL_at _ _ _ _
      rw [g2, tN2.1]
      by_cases q : skp t i < t.1
      · have hc := okB_lt (ht.2 (skp t i) q)
        rw [if_pos ((nI_ltI (by omega) (by omega)).mpr q), r25_0, l26, chk_nI _ (by omega) (by omega), nI_clamp (by omega), tN2.2 _ q, X10_isLetter_eq w (by omega), bI_some]
        cases el : ltr (t.2 (skp t i))
        · rw [if_pos (show b2i false = 0 from rfl), g2, chk_nI _ (by omega) (by omega), nI_clamp (by omega), tN2.2 _ q, X10_isDigit_eq w (by omega), bI_some]
          cases ed : dgt (t.2 (skp t i))
          · have eE : tkE t i = skp t i + 1 := by unfold tkE tkC; rw [if_pos q, el, ed]; rfl
            have eK : tkK t i = if sgn (t.2 (skp t i)) then 3 else 4 := by unfold tkK tkC; rw [if_pos q, el, ed]; rfl
            rw [if_pos (show b2i false = 0 from rfl), g2, chk_nI _ (by omega) (by omega), nI_clamp (by omega), tN2.2 _ q, lt_eq, show (wL (wL (wI N 25 4 (nI (skp t i))) 25 5 0) 25 5 (nI (t.2 (skp t i))).toInt64).1 25 2 = nI (skp t i) from g2, chk_nI _ (by omega) (by omega), nI_clamp (by omega), show (wL (wL (wI N 25 4 (nI (skp t i))) 25 5 0) 25 5 (nI (t.2 (skp t i))).toInt64).1 26 (skp t i) = nI (t.2 (skp t i)) from tN2.2 _ q, X10_isSignOfOwn_eq w (by omega), bI_some, nI_l (by omega)]
            unfold f_X10_advance_150
            have f3 : FrA M (wL (wL (wI N 25 4 (nI (skp t i))) 25 5 0) 25 5 (lN (t.2 (skp t i)))) := f2.l _
            have fin : ∀ y : Int32, y = nI (tkK t i) → ∃ K, (lt (wI (wL (wL (wI N 25 4 (nI (skp t i))) 25 5 0) 25 5 (lN (t.2 (skp t i)))) 25 3 y) fun M1 => lt (wI M1 25 2 (M1.1 25 2 + 1)) fun M2 => some M2) = some K ∧ FrA M K ∧ TkC K t i := fun y hy => by
              have g3 : (wI (wL (wL (wI N 25 4 (nI (skp t i))) 25 5 0) 25 5 (lN (t.2 (skp t i)))) 25 3 y).1 25 2 = nI (skp t i) := by rw [wI25, if_neg (by decide)]; exact g2
              rw [lt_eq, g3, nI_1, lt_eq]
              refine ⟨_, rfl, (f3.w (by decide) (by decide) _).w (by decide) (by decide) _, by rw [wI25, if_pos rfl, eE], by rw [wI25, if_neg (by decide), wI25, if_pos rfl, hy], by rw [wI25, if_neg (by decide), wI25, if_neg (by decide)]; exact g4, fun h => ?_, fun h => ?_, fun h => ?_⟩
              · rw [eK] at h; split at h <;> cases h
              · rw [eK] at h; split at h <;> cases h
              · rw [wI_set, setC_2, wI_set, setC_2, wL_at]; rfl
            cases es : sgn (t.2 (skp t i))
            · rw [if_pos (show b2i false = 0 from rfl)]
              exact fin 4 (by rw [eK, es]; rfl)
            · rw [if_neg (show ¬ b2i true = 0 by decide)]
              exact fin 3 (by rw [eK, es]; rfl)
          · have eE : tkE t i = run t dgt (skp t i) := by unfold tkE tkC; rw [if_pos q, el, ed]; rfl
            have eK : tkK t i = if run t dgt (skp t i) - skp t i ≤ 4 then 2 else 4 := by unfold tkK; rw [if_pos q, eE]; unfold tkC; rw [el, ed]; rfl
            obtain ⟨K, eKK, fK, k2, k3, k4, k5⟩ := X10_readNumber_eq w hw ht tN2 q g2 g4 g5
            rw [if_neg (show ¬ b2i true = 0 by decide), eKK, bV_some]
            refine ⟨K, rfl, f2.tr fK, by rw [eE]; exact k2, by rw [eK]; exact k3, k4, fun h => ?_, fun h => ?_, fun h => ?_⟩
            · rw [eK] at h; split at h <;> cases h
            · have h4 : run t dgt (skp t i) - skp t i ≤ 4 := by
                rw [eK] at h
                by_cases z : run t dgt (skp t i) - skp t i ≤ 4
                · exact z
                · rw [if_neg z] at h; cases h
              rw [k5, nvC_eq _ h4 (fun j hj => (run_sp dgt z2).2.2.1 _ (by omega) (by omega))]
              unfold tkN
              rw [eE]
            · rw [eK] at h; split at h <;> cases h
        · have eE : tkE t i = run t ltr (skp t i) := by unfold tkE tkC; rw [if_pos q, el]; rfl
          have eK : tkK t i = if run t ltr (skp t i) - skp t i ≤ 8 then 1 else 4 := by unfold tkK; rw [if_pos q, eE]; unfold tkC; rw [el]; rfl
          obtain ⟨K, eKK, fK, k2, k3, k4, k5⟩ := X10_readWord_eq w hw ht tN2 q g2 g4 g5
          rw [if_neg (show ¬ b2i true = 0 by decide), eKK, bV_some]
          refine ⟨K, rfl, f2.tr fK, by rw [eE]; exact k2, by rw [eK]; exact k3, k4, fun h => ?_, fun h => ?_, fun h => ?_⟩
          · rw [k5]
            unfold tkW
            rw [eE]
          · rw [eK] at h; split at h <;> cases h
          · rw [eK] at h; split at h <;> cases h
      · have eE : tkE t i = skp t i := by unfold tkE; rw [if_neg q]
        have eK : tkK t i = 0 := by unfold tkK; rw [if_neg q]
        rw [if_neg (fun e => q ((nI_ltI (by omega) (by omega)).mp e)), lt_eq]
        refine ⟨_, rfl, f2.w (by decide) (by decide) _, by rw [wI25, if_neg (by decide), eE]; exact g2, by rw [wI25, if_pos rfl, eK]; rfl, by rw [wI25, if_neg (by decide)]; exact g4, fun h => ?_, fun h => ?_, fun h => ?_⟩
        · rw [eK] at h; cases h
        · rw [eK] at h; cases h
        · rw [eK] at h; cases h
    rw [f_X10_advance_0, tN.1, i2]
    by_cases q : t.1 ≤ skp t i
    · rw [if_pos ((nI_leI (by omega) (by omega)).mpr q)]; exact e39
    · have hc := okB_lt (ht.2 (skp t i) (by omega))
      rw [if_neg (fun e => q ((nI_leI (by omega) (by omega)).mp e)), r25_0, l26, chk_nI _ (by omega) (by omega), nI_clamp (by omega), tN.2 _ (by omega), X10_isBlank_eq w (by omega), bI_some, show blk (t.2 (skp t i)) = false from r4 (by show skp t i < t.1; omega), if_pos (show b2i false = 0 from rfl)]; exact e39
  · rintro n N k hk ⟨k1, f, i2⟩
    have tN := hT.fa f
    have hc := okB_lt (ht.2 k (by omega))
    refine Or.inr ⟨wI N 25 2 (nI (k + 1)), ?_, by omega, f.w (by decide) (by decide) _, by rw [wI25, if_pos rfl]⟩
    rw [f_X10_advance_0, tN.1, i2, if_neg (fun e => by have := (nI_leI (by omega) (by omega)).mp e; omega), r25_0, l26, chk_nI _ (by omega) (by omega), nI_clamp (by omega), tN.2 _ (by omega), X10_isBlank_eq w (by omega), bI_some, r3 k k1 hk, if_neg (show ¬ b2i true = 0 by decide), i2, nI_1, lt_eq]
/-- the class stands at token i -/
def AtC (M : mM) (t : TX) (i : Nat) : Prop := TpC M t ∧ TkC M t (psn t i)
theorem AtC.adv (w : Nat) (hw : 1100 ≤ w) (ht : okT t) {i : Nat} (h : AtC M t i) : ∃ N, f_X10_advance w 25 M = some N ∧ FrA M N ∧ AtC N t (i + 1) := by
  obtain ⟨N, e, f, k⟩ := X10_advance_eq w hw ht h.1 (psn_le (t := t) (i + 1)) h.2.1
  exact ⟨N, e, f, h.1.fa f, k⟩
theorem X10_rewind_eq (w : Nat) (hw : 1100 ≤ w) (ht : okT t) (hT : TpC M t) : ∃ N, f_X10_rewind w 25 M = some N ∧ FrA M N ∧ AtC N t 0 := by
  have f0 : FrA M (wI M 25 2 0) := (FrA.rf M).w (by decide) (by decide) _
  obtain ⟨N, e, f, k⟩ := X10_advance_eq w hw ht (hT.fa f0) (i := 0) (by omega) (by rw [wI25, if_pos rfl]; rfl)
  refine ⟨N, ?_, f0.tr f, (hT.fa f0).fa f, k⟩
  unfold f_X10_rewind
  rw [lt_eq, e]; rfl
end LEX2
