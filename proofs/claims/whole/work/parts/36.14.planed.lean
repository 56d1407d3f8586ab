/-! ===== planed: the reference's recursion ===== -/
section PLS
variable {p : HP} {x : HX} {h : HS} {M N : mM}
theorem dg_pre {D n k j s sk : Nat} (hn : k + j = n) (e : s / D ^ j = sk) {i : Nat} (hi : i < k) : dg D n s i = dg D k sk i := by
  unfold dg
  rw [← e, Nat.div_div_eq_div_mul, ← Nat.pow_add, show n - 1 - i = j + (k - 1 - i) by omega]
theorem cnt_mono {f : Nat → Bool} {a : Nat} : ∀ b, a ≤ b → cnt f a ≤ cnt f b := by
  intro b
  induction b with
  | zero => intro h; rw [show a = 0 by omega]; exact Nat.le_refl _
  | succ b ih =>
    intro h
    by_cases q : a = b + 1
    · subst q; exact Nat.le_refl _
    · exact Nat.le_trans (ih (by omega)) (Nat.le_add_right _ _)
theorem tms_pre {D n k j s sk : Nat} (hn : k + j = n) (e : s / D ^ j = sk) (d : Nat) : tms D k sk d ≤ tms D n s d := by
  have h1 : tms D k sk d = cnt (fun i => decide (dg D n s i = d)) k := cnt_cong k (fun i hi => by rw [dg_pre hn e hi])
  rw [h1]
  exact cnt_mono n (by omega)
theorem dg_last {D k sk d : Nat} (hd : d < D) : dg D (k + 1) (sk * D + d) k = d := by
  unfold dg
  rw [show k + 1 - 1 - k = 0 by omega, Nat.pow_zero, Nat.div_one, Nat.mul_comm, Nat.mul_add_mod, Nat.mod_eq_of_lt hd]
theorem div_last {D sk d : Nat} (hd : d < D) : (sk * D + d) / D ^ 1 = sk := by
  rw [Nat.pow_one, Nat.mul_comm, Nat.mul_add_div (by omega), Nat.div_eq_of_lt hd, Nat.add_zero]
theorem tms_last {D k sk d : Nat} (hd : d < D) (e : Nat) : tms D (k + 1) (sk * D + d) e = tms D k sk e + (if d = e then 1 else 0) := by
  have h1 : tms D (k + 1) (sk * D + d) e = cnt (fun i => decide (dg D (k + 1) (sk * D + d) i = e)) k + (if decide (dg D (k + 1) (sk * D + d) k = e) = true then 1 else 0) := rfl
  rw [h1, dg_last hd]
  have h2 : cnt (fun i => decide (dg D (k + 1) (sk * D + d) i = e)) k = tms D k sk e := cnt_cong k (fun i hi => by rw [dg_pre (k := k) (j := 1) rfl (div_last hd) hi])
  rw [h2]
  by_cases q : d = e
  · rw [if_pos q, decide_eq_true q]; rfl
  · rw [if_neg q, decide_eq_false q]; rfl
/-- the prefix sk of k places stands in the reference -/
def pfx (p : HP) (h : HS) (k sk : Nat) (M : mM) : Prop := (∀ i, i < k → M.1 182 i = nI (dg (pD p) k sk i)) ∧ (∀ d, d < pD p → M.1 183 d = nI (sGap h d + tms (pD p) k sk d)) ∧ cap p h k sk
/-- what a search below the prefix sk leaves -/
def dpR (p : HP) (x : HX) (h : HS) (m n k j sk : Nat) (M : mM) (r : Option (Int32 × mM)) : Prop := ∃ N b, r = some (b2i b, N) ∧ FrT M N ∧ (∀ d, d < pD p → N.1 183 d = M.1 183 d) ∧ (∀ i, i < k → N.1 182 i = M.1 182 i) ∧ (b = false → ∀ s, s < pD p ^ n → s / pD p ^ j = sk → ¬ rowP p x h m n s) ∧ (b = true → ∃ s, s < pD p ^ n ∧ s / pD p ^ j = sk ∧ rowP p x h m n s ∧ (∀ t, t < s → t / pD p ^ j = sk → ¬ rowP p x h m n t) ∧ ∀ i, i < n → N.1 182 i = nI (dg (pD p) n s i))
theorem X12_doesPlane_eq (w : Nat) (hw : 1100 ≤ w) {m n : Nat} (hm : m ≤ 30) (hn : n ≤ 3) : ∀ (j k dep sk last : Nat) (M : mM), k + j = n → j < dep → sk < pD p ^ k → QF p x h M → pfx p h k sk M → (k = 0 → last = 0) → (0 < k → last = dg (pD p) k sk (k - 1)) → dpR p x h m n k j sk M (f_X12_doesPlane w dep 163 (nI k) (nI n) (nI last) (nI m) M) := by
  intro j
  induction j with
  | zero =>
    intro k dep sk last M hk hdep hsk R P _ _
    obtain ⟨dep, rfl⟩ : ∃ q, dep = q + 1 := ⟨dep - 1, by omega⟩
    have hk : k = n := by omega
    subst hk
    obtain ⟨N, b, e, f, e2, e3, hb⟩ := X12_areOne_eq w hw R (hg_ok R.2.2.1 P.2.2) P.2.1 hm
    have hrow : b = true ↔ rowP p x h m k sk := ⟨fun q => ⟨P.2.2, hb.mp q⟩, fun q => hb.mpr q.2⟩
    refine ⟨N, b, ?_, f, fun d _ => by rw [e3], fun i _ => by rw [e2], fun q s hs es r => ?_, fun q => ⟨sk, hsk, by rw [Nat.pow_zero, Nat.div_one], hrow.mp q, fun t ht et => ?_, fun i hi => by rw [e2]; exact P.1 i hi⟩⟩
    · show f_X12_doesPlane_b w (fS1 w dep) 163 (nI k) (nI k) (nI last) (nI m) M = _
      unfold f_X12_doesPlane_b
      rw [if_pos rfl, e, bI_some, rtB_b]
    · rw [Nat.pow_zero, Nat.div_one] at es
      subst es
      rw [hrow.mpr r] at q; cases q
    · rw [Nat.pow_zero, Nat.div_one] at et
      omega
  | succ j ih =>
    intro k dep sk last M hk hdep hsk R P hl0 hl1
    obtain ⟨dep, rfl⟩ : ∃ q, dep = q + 1 := ⟨dep - 1, by omega⟩
    have hp := R.1
    have hD := hp.2.1
    have hh := R.2.2.1
    have hDD : ∀ s, s / pD p ^ (j + 1) = s / pD p ^ j / pD p := fun s => by rw [Nat.pow_succ, Nat.div_div_eq_div_mul]
    show dpR p x h m n k (j + 1) sk M (f_X12_doesPlane_b w (fS1 w dep) 163 (nI k) (nI n) (nI last) (nI m) M)
    unfold f_X12_doesPlane_b
    rw [if_neg (fun e => by have := (nI_eq (by omega) (by omega)).mp e; omega)]
    by_cases hlast : pD p ≤ last
    · -- no door is left
      have hDz : pD p = 0 := by
        rcases Nat.eq_zero_or_pos (pD p) with q | q
        · exact q
        · rcases Nat.eq_zero_or_pos k with k0 | k0
          · rw [hl0 k0] at hlast; omega
          · rw [hl1 k0] at hlast
            have := dg_lt (n := k) (s := sk) (i := k - 1) q
            omega
      have hlz : last = 0 := by
        rcases Nat.eq_zero_or_pos k with k0 | k0
        · exact hl0 k0
        · rw [hDz, Nat.zero_pow k0] at hsk; omega
      obtain ⟨w2, rfl⟩ : ∃ q, w = q + 1 := ⟨w - 1, by omega⟩
      refine ⟨M, false, ?_, FrT.rf _, fun _ _ => rfl, fun _ _ => rfl, fun _ s hs => ?_, fun e => (by cases e)⟩
      · rw [f_X12_doesPlane_15, X12_doors_eq, bI_some, show M.1 169 1 = nI (pD p) from R.2.2.2.2.1.2.1, if_pos ((nI_leI (by omega) (by omega)).mpr (by omega))]; rfl
      · rw [hDz, Nat.zero_pow (by omega)] at hs; omega
    have hD0 : 0 < pD p := by omega
    refine loopX (fun d (K : mM) => last ≤ d ∧ FrT M K ∧ (∀ e, e < pD p → K.1 183 e = M.1 183 e) ∧ (∀ i, i < k → K.1 182 i = M.1 182 i) ∧ ∀ s, s < pD p ^ n → s / pD p ^ (j + 1) = sk → s / pD p ^ j % pD p < d → ¬ rowP p x h m n s) (fun f (K : mM) d => f_X12_doesPlane_15 w (fS1 w dep) f 163 (nI k) (nI n) (nI m) (nI d) K) (pD p) (fun r => dpR p x h m n k (j + 1) sk M r) ?_ ?_ (pD p - last) w last M (by omega) (by omega) ⟨Nat.le_refl _, FrT.rf _, fun _ _ => rfl, fun _ _ => rfl, fun s hs es hd r => ?_⟩
    · rintro f K ⟨-, fK, i1, i2, i3⟩
      rw [f_X12_doesPlane_15, X12_doors_eq, bI_some, show K.1 169 1 = nI (pD p) from (fK.plr R.2.2.2.2.1).2.1, if_pos (Int32.le_refl _)]
      exact ⟨K, false, rfl, fK, i1, i2, fun _ s hs es => i3 s hs es (Nat.mod_lt _ hD0), fun e => (by cases e)⟩
    · rintro f K d hd ⟨hld, fK, i1, i2, i3⟩
      have g3 : K.1 183 d = nI (sGap h d + tms (pD p) k sk d) := by rw [i1 d hd]; exact P.2.1 d hd
      have hgb := (hh.2.1 d hd).1
      have htb := tms_le (pD p) k sk d
      rw [f_X12_doesPlane_15, X12_doors_eq, bI_some, show K.1 169 1 = nI (pD p) from (fK.plr R.2.2.2.2.1).2.1, if_neg (fun h => by have := (nI_leI (by omega) (by omega)).mp h; omega), r163_29, r163_28, l183, l182, chk_nI _ (by omega) (by omega), nI_clamp (by omega), g3, nI_1]
      have pre : ∀ s, s / pD p ^ (j + 1) = sk → s / pD p ^ j % pD p = d → s / pD p ^ j = sk * pD p + d := fun s es ed => by
        have := Nat.div_add_mod (s / pD p ^ j) (pD p)
        rw [← hDD, es, ed, Nat.mul_comm] at this
        exact this.symm
      by_cases q : 20 ≤ sGap h d + tms (pD p) k sk d
      · rw [if_pos (show (20 : Int32) ≤ nI _ from (nI_leI (a := 20) (by omega) (by omega)).mpr q)]
        refine Or.inr ⟨K, rfl, by omega, fK, i1, i2, fun s hs es hsd r => ?_⟩
        by_cases e : s / pD p ^ j % pD p = d
        · have es2 := pre s es e
          have hk1 : dg (pD p) n s k = d := by
            rw [dg_pre (k := k + 1) (j := j) (by omega) es2 (by omega), dg_last hd]
          have c2 := r.1.2 k (by omega)
          rw [hk1] at c2
          have t2 := tms_pre (k := k + 1) (j := j) (n := n) (by omega) es2 d
          rw [tms_last hd, if_pos rfl] at t2
          omega
        · exact i3 s hs es (by omega) r
      · rw [if_neg (show ¬ (20 : Int32) ≤ nI _ from fun e => q ((nI_leI (a := 20) (by omega) (by omega)).mp e)), chk_nI _ (by omega) (by omega), chk_nI _ (by omega) (by omega), nI_1, lt_eq, chk_nI _ (by omega) (by omega), nI_clamp (by omega), lt_eq, nI_1]
        -- down
        have fM1 : FrT K (wI (wI K 183 d (nI (sGap h d + tms (pD p) k sk d + 1))) 182 k (nI d)) := ⟨((Fr.rf _ K).wI (by decide) _ _).wI (by decide) _ _, fun i _ => by rw [wI_set, setC_ne _ _ (by decide), wI_set, setC_ne _ _ (by decide)]⟩
        have e182 : (wI (wI K 183 d (nI (sGap h d + tms (pD p) k sk d + 1))) 182 k (nI d)).1 182 = upd (K.1 182) k (nI d) := by rw [wI_set, setC_at, wI_set, setC_ne _ _ (by decide)]
        have e183 : (wI (wI K 183 d (nI (sGap h d + tms (pD p) k sk d + 1))) 182 k (nI d)).1 183 = upd (K.1 183) d (nI (sGap h d + tms (pD p) k sk d + 1)) := by rw [wI_set, setC_ne _ _ (by decide), wI_set, setC_at]
        have R1 := R.frt (fK.tr fM1)
        have sk1 : sk * pD p + d < pD p ^ (k + 1) := by
          rw [Nat.pow_succ]
          calc sk * pD p + d < sk * pD p + pD p := by omega
            _ = (sk + 1) * pD p := by rw [Nat.succ_mul]
            _ ≤ pD p ^ k * pD p := Nat.mul_le_mul_right _ hsk
        have P1 : pfx p h (k + 1) (sk * pD p + d) (wI (wI K 183 d (nI (sGap h d + tms (pD p) k sk d + 1))) 182 k (nI d)) := by
          refine ⟨fun i hi => ?_, fun e he => ?_, fun i hi => ?_, fun i hi => ?_⟩
          · rw [e182]
            by_cases q2 : i = k
            · subst q2; rw [upd_at, dg_last hd]
            · rw [upd_ne _ _ q2, i2 i (by omega), P.1 i (by omega), dg_pre (k := k) (j := 1) rfl (div_last hd) (by omega)]
          · rw [e183, tms_last hd]
            by_cases q2 : e = d
            · subst q2; rw [upd_at, if_pos rfl, Nat.add_assoc]
            · rw [upd_ne _ _ q2, i1 e he, P.2.1 e he, if_neg (fun h => q2 h.symm), Nat.add_zero]
          · by_cases q2 : i + 1 = k
            · rw [dg_pre (k := k) (j := 1) rfl (div_last hd) (show i < k by omega), q2, dg_last hd]
              rw [hl1 (by omega), show k - 1 = i by omega] at hld
              exact hld
            · rw [dg_pre (k := k) (j := 1) rfl (div_last hd) (show i < k by omega), dg_pre (k := k) (j := 1) rfl (div_last hd) (show i + 1 < k by omega)]
              exact P.2.2.1 i (by omega)
          · rw [tms_last hd]
            by_cases q2 : i = k
            · subst q2
              rw [dg_last hd, if_pos rfl]; omega
            · rw [dg_pre (k := k) (j := 1) rfl (div_last hd) (show i < k by omega)]
              have c2 := P.2.2.2 i (by omega)
              by_cases q3 : d = dg (pD p) k sk i
              · rw [if_pos q3, ← q3]; omega
              · rw [if_neg q3]; omega
        obtain ⟨N, b, eN, fN, n3, n2, nF, nT⟩ := ih (k + 1) dep (sk * pD p + d) d _ (by omega) (by omega) sk1 R1 P1 (fun h => by omega) (fun _ => by rw [Nat.add_sub_cancel, dg_last hd])
        have eN : fS1 w dep 163 (nI (k + 1)) (nI n) (nI d) (nI m) (wI (wI K 183 d (nI (sGap h d + tms (pD p) k sk d + 1))) 182 k (nI d)) = some (b2i b, N) := eN
        have gN : N.1 183 d = nI (sGap h d + tms (pD p) k sk d + 1) := by rw [n3 d hd, e183, upd_at]
        have fN2 : FrT M (wI N 183 d (nI (sGap h d + tms (pD p) k sk d))) := ((fK.tr fM1).tr fN).tr ⟨(Fr.rf _ N).wI (by decide) _ _, fun i _ => by rw [wI_set, setC_ne _ _ (by decide)]⟩
        have j1 : ∀ e, e < pD p → (wI N 183 d (nI (sGap h d + tms (pD p) k sk d))).1 183 e = M.1 183 e := fun e he => by
          rw [wI_set, setC_at]
          by_cases q2 : e = d
          · subst q2; rw [upd_at, P.2.1 e he]
          · rw [upd_ne _ _ q2, n3 e he, e183, upd_ne _ _ q2]; exact i1 e he
        have e182N : (wI N 183 d (nI (sGap h d + tms (pD p) k sk d))).1 182 = N.1 182 := by rw [wI_set, setC_ne _ _ (by decide)]
        have j2 : ∀ i, i < k → (wI N 183 d (nI (sGap h d + tms (pD p) k sk d))).1 182 i = M.1 182 i := fun i hi => by
          rw [e182N, n2 i (by omega), e182, upd_ne _ _ (by omega)]; exact i2 i hi
        rw [eN, bI_some, chk_nI _ (by omega) (by omega), chk_nI _ (by omega) (by omega), gN, show nI (sGap h d + tms (pD p) k sk d + 1) - 1 = nI (sGap h d + tms (pD p) k sk d) from pk_sub (b := 1) (by omega), lt_eq]
        cases b
        · rw [if_pos (show b2i false = 0 from rfl)]
          refine Or.inr ⟨_, rfl, by omega, fN2, j1, j2, fun s hs es hsd => ?_⟩
          by_cases e : s / pD p ^ j % pD p = d
          · exact nF rfl s hs (pre s es e)
          · exact i3 s hs es (by omega)
        · rw [if_neg (show ¬ b2i true = 0 by decide)]
          obtain ⟨s, s1, s2, s3, s4, s5⟩ := nT rfl
          refine Or.inl ⟨_, true, rfl, fN2, j1, j2, fun e => (by cases e), fun _ => ⟨s, s1, ?_, s3, fun t ht et => ?_, fun i hi => by rw [e182N]; exact s5 i hi⟩⟩
          · rw [hDD, s2]
            have := div_last (sk := sk) hd
            rw [Nat.pow_one] at this; exact this
          · have htd : t / pD p ^ j ≤ sk * pD p + d := by
              rw [← s2]; exact Nat.div_le_div_right (by omega)
            have hte := Nat.div_add_mod (t / pD p ^ j) (pD p)
            rw [← hDD, et, Nat.mul_comm] at hte
            by_cases e : t / pD p ^ j % pD p = d
            · exact s4 t ht (pre t et e)
            · exact i3 t (by omega) et (by omega)
    · rcases Nat.eq_zero_or_pos k with k0 | k0
      · rw [hl0 k0] at hd; omega
      · have es2 : s / pD p ^ j = sk * pD p + s / pD p ^ j % pD p := by
          have := Nat.div_add_mod (s / pD p ^ j) (pD p)
          rw [← hDD, es, Nat.mul_comm] at this
          exact this.symm
        have hlt := Nat.mod_lt (s / pD p ^ j) hD0
        have d1 : dg (pD p) n s k = s / pD p ^ j % pD p := by
          rw [dg_pre (k := k + 1) (j := j) (by omega) es2 (by omega), dg_last hlt]
        have d2 : dg (pD p) n s (k - 1) = last := by
          rw [dg_pre (k := k) (j := j + 1) (by omega) es (by omega), hl1 k0]
        have := r.1.1 (k - 1) (by omega)
        rw [show k - 1 + 1 = k by omega, d1, d2] at this
        omega
end PLS
