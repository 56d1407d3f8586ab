/-! ===== the reference's tokens ===== -/
def TkR (M : mM) (t : TX) (i k : Nat) : Prop := M.1 165 k = nI (tkK t i) ∧ M.1 166 k = nI (skp t i) ∧ (tkK t i = 1 → M.2 167 k = rvW (tkW t i)) ∧ (tkK t i = 2 → M.2 167 k = lN (tkN t i)) ∧ (tkK t i = 3 → M.2 167 k = lN (tkC t i))
/-- all tokens of the text, the end being the m-th -/
def RT (M : mM) (t : TX) (m : Nat) : Prop := m ≤ 1000 ∧ tkK t (psn t m) = 0 ∧ (∀ j, j < m → tkK t (psn t j) ≠ 0) ∧ ∀ j, j ≤ m → TkR M t (psn t j) j
def FrX (M N : mM) : Prop := (∀ c, c ≠ 163 → c ≠ 165 → c ≠ 166 → N.1 c = M.1 c) ∧ (∀ c j, c ≠ 167 → N.2 c j = M.2 c j) ∧ ∀ j, j ≠ 2 → j ≠ 3 → j ≠ 7 → j ≠ 8 → N.1 163 j = M.1 163 j
section CUT
variable {t : TX} {M N : mM}
theorem FrX.rf (M : mM) : FrX M M := ⟨fun _ _ _ _ => rfl, fun _ _ _ => rfl, fun _ _ _ _ _ => rfl⟩
theorem FrX.tr {K : mM} (f : FrX M N) (g : FrX N K) : FrX M K := ⟨fun c a b d => (g.1 c a b d).trans (f.1 c a b d), fun c j h => (g.2.1 c j h).trans (f.2.1 c j h), fun j a b c d => (g.2.2 j a b c d).trans (f.2.2 j a b c d)⟩
theorem FrX.w (f : FrX M N) {c : Nat} (hc : c = 165 ∨ c = 166) (k : Nat) (y : Int32) : FrX M (wI N c k y) := ⟨fun a h1 h2 h3 => by rw [wI_set, setC_ne _ _ (by omega)]; exact f.1 a h1 h2 h3, fun a j h => by rw [wI_set, setC_2]; exact f.2.1 a j h, fun j h1 h2 h3 h4 => by rw [wI_set, setC_ne _ _ (by omega)]; exact f.2.2 j h1 h2 h3 h4⟩
theorem FrX.w3 (f : FrX M N) {j : Nat} (hj : j = 2 ∨ j = 3 ∨ j = 7 ∨ j = 8) (y : Int32) : FrX M (wI N 163 j y) := ⟨fun a h1 h2 h3 => by rw [wI_set, setC_ne _ _ h1]; exact f.1 a h1 h2 h3, fun a j h => by rw [wI_set, setC_2]; exact f.2.1 a j h, fun k h1 h2 h3 h4 => by rw [wI_set, setC_at, upd_ne _ _ (by omega)]; exact f.2.2 k h1 h2 h3 h4⟩
theorem FrX.l (f : FrX M N) (k : Nat) (y : Int64) : FrX M (wL N 167 k y) := ⟨fun a h1 h2 h3 => f.1 a h1 h2 h3, fun a j h => by rw [wL_ne _ _ (Or.inl h)]; exact f.2.1 a j h, fun j h1 h2 h3 h4 => f.2.2 j h1 h2 h3 h4⟩
theorem TkR.fr {i k : Nat} (h : TkR M t i k) (e1 : N.1 165 k = M.1 165 k) (e2 : N.1 166 k = M.1 166 k) (e3 : N.2 167 k = M.2 167 k) : TkR N t i k := by
  unfold TkR at h ⊢
  rw [e1, e2, e3]; exact h
theorem X12_rank_eq (w : Nat) {c : Nat} (hc : c < 256) (h : ltr c = true) (M : mM) : f_X12_rank w (nI c) M = some (nI (c - 96), M) := by
  unfold f_X12_rank
  rw [X12_isLetter_eq w hc, bI_some, h, if_neg (show ¬ b2i true = 0 by decide)]
  unfold ltr at h
  rw [Bool.and_eq_true, decide_eq_true_eq] at h
  rw [show nI c - 96 = nI (c - 96) from pk_sub (b := 96) (by omega)]
/-- the next token is written -/
theorem tok_wr {k s : Nat} (ht : okT t) (hs : s < t.1) (hks : k ≤ s) (hsk : skp t (psn t k) = s) {K2 v : Int32} {x5 : Int64} (h0 : ∀ j, j < k → TkR M t (psn t j) j) (h166 : M.1 166 k = nI s) (hv : v = nI (tkK t (psn t k))) (h5 : (tkK t (psn t k) = 1 → x5 = rvW (tkW t (psn t k))) ∧ (tkK t (psn t k) = 2 → x5 = lN (tkN t (psn t k))) ∧ (tkK t (psn t k) = 3 → x5 = lN (tkC t (psn t k)))) : (∀ j, j < k + 1 → TkR (wL (wI M 165 k v) 167 k x5) t (psn t j) j) := by
  intro j hj
  by_cases q : j = k
  · subst q
    refine ⟨?_, ?_, fun h => ?_, fun h => ?_, fun h => ?_⟩
    · rw [wL_1, wI_set, setC_at, upd_at, hv]
    · rw [wL_1, wI_set, setC_ne _ _ (by decide), h166, hsk]
    · rw [wL_at]; exact h5.1 h
    · rw [wL_at]; exact h5.2.1 h
    · rw [wL_at]; exact h5.2.2 h
  · exact (h0 j (by omega)).fr (by rw [wL_1, wI_set, setC_at, upd_ne _ _ q]) (by rw [wL_1, wI_set, setC_ne _ _ (by decide)]) (by rw [wL_ne _ _ (Or.inr q), wI_set, setC_2])
theorem X12_cutAll_265_eq (w : Nat) (k17 : Nat → Int32 → Int32 → mM → Option mM) {k : Nat} (hk : k ≤ 1000) (y : Int32) (x5 : Int64) (M : mM) : f_X12_cutAll_265 w k17 163 (nI k) y x5 M = k17 163 (nI (k + 1)) y (wL M 167 k x5) := by
  unfold f_X12_cutAll_265
  rw [r163_6, l167, chk_nI _ (by omega) (by omega), nI_clamp (by omega), lt_eq, nI_1]
theorem X12_cutAll_70_eq (w : Nat) (hw : 1100 ≤ w) (ht : okT t) {k s : Nat} (hk : k ≤ 1000) (hs : s < t.1) (h3 : M.1 163 3 = nI t.1) (hT : ∀ i, i < t.1 → M.1 164 i = nI (t.2 i)) (k17 : Nat → Int32 → Int32 → mM → Option mM) : ∃ x5, (run t ltr s - s ≤ 8 → x5 = rvW (wdl t s (run t ltr s - s))) ∧ f_X12_cutAll_70 w k17 w 163 (nI k) (nI s) (nI s) 0 M = k17 163 (nI (k + 1)) (nI (run t ltr s)) (wL (wI M 165 k (nI (if run t ltr s - s ≤ 8 then 1 else 4))) 167 k x5) := by
  have h1000 := ht.1
  obtain ⟨r1, r2, r3, r4⟩ := run_sp (t := t) ltr (show s ≤ t.1 by omega)
  refine loopX (fun i (x5 : Int64) => s ≤ i ∧ (i - s ≤ 8 → x5 = rvW (wdl t s (i - s)))) (fun n (x5 : Int64) i => f_X12_cutAll_70 w k17 n 163 (nI k) (nI i) (nI s) x5 M) (run t ltr s) (fun r => ∃ x5, (run t ltr s - s ≤ 8 → x5 = rvW (wdl t s (run t ltr s - s))) ∧ r = k17 163 (nI (k + 1)) (nI (run t ltr s)) (wL (wI M 165 k (nI (if run t ltr s - s ≤ 8 then 1 else 4))) 167 k x5)) ?_ ?_ (run t ltr s - s) w s 0 (by omega) (by omega) ⟨Nat.le_refl _, fun _ => by rw [Nat.sub_self]; rfl⟩
  · rintro n x5 ⟨i1, i2⟩
    refine ⟨x5, i2, ?_⟩
    have e129 : f_X12_cutAll_129 w k17 163 (nI k) (nI (run t ltr s)) (nI s) x5 M = k17 163 (nI (k + 1)) (nI (run t ltr s)) (wL (wI M 165 k (nI (if run t ltr s - s ≤ 8 then 1 else 4))) 167 k x5) := by
      unfold f_X12_cutAll_129 f_X12_cutAll_148
      rw [pk_sub (by omega), r163_4, l165, chk_nI _ (by omega) (by omega), chk_nI _ (by omega) (by omega), nI_clamp (by omega), lt_eq, lt_eq, X12_cutAll_265_eq w k17 hk, X12_cutAll_265_eq w k17 hk]
      by_cases q : run t ltr s - s ≤ 8
      · rw [if_pos (show nI _ ≤ (8 : Int32) from (nI_leI (b := 8) (by omega) (by omega)).mpr q), if_pos q]; rfl
      · rw [if_neg (show ¬ nI _ ≤ (8 : Int32) from fun e => q ((nI_leI (b := 8) (by omega) (by omega)).mp e)), if_neg q]; rfl
    rw [f_X12_cutAll_70, h3]
    by_cases q : t.1 ≤ run t ltr s
    · rw [if_pos ((nI_leI (by omega) (by omega)).mpr q)]; exact e129
    · have hc := okB_lt (ht.2 (run t ltr s) (by omega))
      rw [if_neg (fun e => q ((nI_leI (by omega) (by omega)).mp e)), r163_1, l164, chk_nI _ (by omega) (by omega), nI_clamp (by omega), hT _ (by omega), X12_isLetter_eq w (by omega), bI_some, r4 (by omega), if_pos (show b2i false = 0 from rfl)]; exact e129
  · rintro n x5 i hi ⟨i1, i2⟩
    have hc := okB_lt (ht.2 i (by omega))
    have hl := r3 i i1 hi
    refine Or.inr ?_
    rw [f_X12_cutAll_70, h3, if_neg (fun e => by have := (nI_leI (by omega) (by omega)).mp e; omega), r163_1, l164, chk_nI _ (by omega) (by omega), nI_clamp (by omega), hT _ (by omega), X12_isLetter_eq w (by omega), bI_some, hl, if_neg (show ¬ b2i true = 0 by decide), pk_sub (by omega), nI_1]
    by_cases q : i - s < 8
    · rw [if_neg (show ¬ (8 : Int32) ≤ nI _ from fun e => by have := (nI_leI (a := 8) (by omega) (by omega)).mp e; omega), chk_nI _ (by omega) (by omega), hT _ (by omega), X12_rank_eq w (by omega) hl, bI_some, lt_eq]
      refine ⟨_, rfl, by omega, fun _ => ?_⟩
      rw [show i + 1 - s = (i - s) + 1 by omega]
      show _ = rvW (wdl t s (i - s) ++ [t.2 (s + (i - s))])
      rw [rvW_snoc, show s + (i - s) = i by omega, i2 (by omega)]
    · rw [if_pos (show (8 : Int32) ≤ nI _ from (nI_leI (a := 8) (by omega) (by omega)).mpr (by omega))]
      exact ⟨x5, rfl, by omega, fun h => by omega⟩
theorem X12_cutAll_159_eq (w : Nat) (hw : 1100 ≤ w) (ht : okT t) {k s : Nat} (hk : k ≤ 1000) (hs : s < t.1) (h3 : M.1 163 3 = nI t.1) (hT : ∀ i, i < t.1 → M.1 164 i = nI (t.2 i)) (k17 : Nat → Int32 → Int32 → mM → Option mM) : ∃ x5, (run t dgt s - s ≤ 4 → x5 = lN (nmb t s (run t dgt s - s))) ∧ f_X12_cutAll_159 w k17 w 163 (nI k) (nI s) (nI s) 0 M = k17 163 (nI (k + 1)) (nI (run t dgt s)) (wL (wI M 165 k (nI (if run t dgt s - s ≤ 4 then 2 else 4))) 167 k x5) := by
  have h1000 := ht.1
  obtain ⟨r1, r2, r3, r4⟩ := run_sp (t := t) dgt (show s ≤ t.1 by omega)
  refine loopX (fun i (x5 : Int64) => s ≤ i ∧ (i - s ≤ 4 → x5 = lN (nmb t s (i - s)))) (fun n (x5 : Int64) i => f_X12_cutAll_159 w k17 n 163 (nI k) (nI i) (nI s) x5 M) (run t dgt s) (fun r => ∃ x5, (run t dgt s - s ≤ 4 → x5 = lN (nmb t s (run t dgt s - s))) ∧ r = k17 163 (nI (k + 1)) (nI (run t dgt s)) (wL (wI M 165 k (nI (if run t dgt s - s ≤ 4 then 2 else 4))) 167 k x5)) ?_ ?_ (run t dgt s - s) w s 0 (by omega) (by omega) ⟨Nat.le_refl _, fun _ => by rw [Nat.sub_self]; rfl⟩
  · rintro n x5 ⟨i1, i2⟩
    refine ⟨x5, i2, ?_⟩
    have e129 : f_X12_cutAll_218 w k17 163 (nI k) (nI (run t dgt s)) (nI s) x5 M = k17 163 (nI (k + 1)) (nI (run t dgt s)) (wL (wI M 165 k (nI (if run t dgt s - s ≤ 4 then 2 else 4))) 167 k x5) := by
      unfold f_X12_cutAll_218 f_X12_cutAll_236
      rw [pk_sub (by omega), r163_4, l165, chk_nI _ (by omega) (by omega), chk_nI _ (by omega) (by omega), nI_clamp (by omega), lt_eq, lt_eq, X12_cutAll_265_eq w k17 hk, X12_cutAll_265_eq w k17 hk]
      by_cases q : run t dgt s - s ≤ 4
      · rw [if_pos (show nI _ ≤ (4 : Int32) from (nI_leI (b := 4) (by omega) (by omega)).mpr q), if_pos q]; rfl
      · rw [if_neg (show ¬ nI _ ≤ (4 : Int32) from fun e => q ((nI_leI (b := 4) (by omega) (by omega)).mp e)), if_neg q]; rfl
    rw [f_X12_cutAll_159, h3]
    by_cases q : t.1 ≤ run t dgt s
    · rw [if_pos ((nI_leI (by omega) (by omega)).mpr q)]; exact e129
    · have hc := okB_lt (ht.2 (run t dgt s) (by omega))
      rw [if_neg (fun e => q ((nI_leI (by omega) (by omega)).mp e)), r163_1, l164, chk_nI _ (by omega) (by omega), nI_clamp (by omega), hT _ (by omega), X12_isDigit_eq w (by omega), bI_some, r4 (by omega), if_pos (show b2i false = 0 from rfl)]; exact e129
  · rintro n x5 i hi ⟨i1, i2⟩
    have hc := okB_lt (ht.2 i (by omega))
    have hl := r3 i i1 hi
    have hl2 := hl
    unfold dgt at hl2
    rw [Bool.and_eq_true, decide_eq_true_eq, decide_eq_true_eq] at hl2
    refine Or.inr ?_
    rw [f_X12_cutAll_159, h3, if_neg (fun e => by have := (nI_leI (by omega) (by omega)).mp e; omega), r163_1, l164, chk_nI _ (by omega) (by omega), nI_clamp (by omega), hT _ (by omega), X12_isDigit_eq w (by omega), bI_some, hl, if_neg (show ¬ b2i true = 0 by decide), pk_sub (by omega), nI_1]
    by_cases q : i - s < 4
    · rw [if_neg (show ¬ (4 : Int32) ≤ nI _ from fun e => by have := (nI_leI (a := 4) (by omega) (by omega)).mp e; omega), chk_nI _ (by omega) (by omega), hT _ (by omega), lt_eq]
      refine ⟨_, rfl, by omega, fun _ => ?_⟩
      rw [show i + 1 - s = (i - s) + 1 by omega, i2 (by omega)]
      show _ = lN (10 * nmb t s (i - s) + (t.2 (s + (i - s)) - 48))
      rw [show s + (i - s) = i by omega, show (10 : Int64) * lN (nmb t s (i - s)) = lN (10 * nmb t s (i - s)) from lN_mul 10 _, nI_l (by omega), lN_add, show lN (10 * nmb t s (i - s) + t.2 i) - 48 = lN (10 * nmb t s (i - s) + t.2 i - 48) from lN_sub (b := 48) (by omega)]
      exact congrArg lN (by omega)
    · rw [if_pos (show (4 : Int32) ≤ nI _ from (nI_leI (a := 4) (by omega) (by omega)).mpr (by omega))]
      exact ⟨x5, rfl, by omega, fun h => by omega⟩
theorem skp_bl {s : Nat} (hs : s < t.1) (e : blk (t.2 s) = true) : skp t (s + 1) = skp t s := by
  obtain ⟨a, b, c, d⟩ := run_sp (t := t) blk (show s + 1 ≤ t.1 by omega)
  exact (run_uni (show s ≤ run t blk (s + 1) by omega) b (fun k h1 h2 => by
    by_cases z : k = s
    · subst z; exact e
    · exact c k (by omega) h2) d).symm
theorem skp_no {s : Nat} (hs : s ≤ t.1) (e : s < t.1 → blk (t.2 s) = false) : skp t s = s := run_uni (Nat.le_refl _) hs (fun k h1 h2 => by omega) e
theorem X12_cutAll_17_eq (w : Nat) (hw : 1100 ≤ w) (ht : okT t) : ∀ (m f k s : Nat) (M : mM), t.1 - s ≤ m → m < f → k ≤ s → s ≤ t.1 → skp t s = skp t (psn t k) → M.1 163 3 = nI t.1 → (∀ i, i < t.1 → M.1 164 i = nI (t.2 i)) → (∀ j, j < k → TkR M t (psn t j) j ∧ tkK t (psn t j) ≠ 0) → ∃ K e, f_X12_cutAll_17 w f 163 (nI k) (nI s) M = some K ∧ FrX M K ∧ K.1 163 2 = M.1 163 2 ∧ K.1 163 7 = 0 ∧ K.1 163 8 = 0 ∧ RT K t e := by
  intro m
  induction m with
  | zero =>
    intro f k s M hm hf hks hs hsk h3 hT hd
    have h1000 := ht.1
    obtain ⟨f, rfl⟩ : ∃ q, f = q + 1 := ⟨f - 1, by omega⟩
    have hse : s = t.1 := by omega
    have hend : tkK t (psn t k) = 0 := by
      unfold tkK
      rw [if_neg]
      rw [← hsk, skp_no hs (fun h => by omega)]
      omega
    rw [f_X12_cutAll_17, h3, if_pos ((nI_leI (by omega) (by omega)).mpr (by omega))]
    unfold f_X12_cutAll_279
    have g3 : (wI M 165 k 0).1 163 3 = nI t.1 := by rw [wI_set, setC_ne _ _ (by decide)]; exact h3
    rw [r163_4, r163_5, l165, l166, chk_nI _ (by omega) (by omega), nI_clamp (by omega), lt_eq, chk_nI _ (by omega) (by omega), g3, lt_eq, lt_eq, lt_eq]
    refine ⟨_, k, rfl, (((((FrX.rf M).w (Or.inl rfl) _ _).w (Or.inr rfl) _ _).w3 (by omega) _).w3 (by omega) _), ?_, ?_, ?_, by omega, hend, fun j hj => (hd j hj).2, fun j hj => ?_⟩
    · rw [wI_set, setC_at, upd_ne _ _ (by decide), wI_set, setC_at, upd_ne _ _ (by decide), wI_set, setC_ne _ _ (by decide), wI_set, setC_ne _ _ (by decide)]
    · rw [wI_set, setC_at, upd_ne _ _ (by decide), wI_set, setC_at, upd_at]
    · rw [wI_set, setC_at, upd_at]
    · by_cases z : j = k
      · subst z
        refine ⟨?_, ?_, fun h => ?_, fun h => ?_, fun h => ?_⟩
        · rw [wI_set, setC_ne _ _ (by decide), wI_set, setC_ne _ _ (by decide), wI_set, setC_ne _ _ (by decide), wI_set, setC_at, upd_at, hend]; rfl
        · rw [wI_set, setC_ne _ _ (by decide), wI_set, setC_ne _ _ (by decide), wI_set, setC_at, upd_at, ← hsk, skp_no hs (fun h => by omega), hse]
        · rw [hend] at h; cases h
        · rw [hend] at h; cases h
        · rw [hend] at h; cases h
      · refine (hd j (by omega)).1.fr ?_ ?_ ?_
        · rw [wI_set, setC_ne _ _ (by decide), wI_set, setC_ne _ _ (by decide), wI_set, setC_ne _ _ (by decide), wI_set, setC_at, upd_ne _ _ z]
        · rw [wI_set, setC_ne _ _ (by decide), wI_set, setC_ne _ _ (by decide), wI_set, setC_at, upd_ne _ _ z, wI_set, setC_ne _ _ (by decide)]
        · rw [wI_set, setC_2, wI_set, setC_2, wI_set, setC_2, wI_set, setC_2]
  | succ m ih =>
    intro f k s M hm hf hks hs hsk h3 hT hd
    have h1000 := ht.1
    by_cases hse : t.1 ≤ s
    · exact ih f k s M (by omega) (by omega) hks hs hsk h3 hT hd
    obtain ⟨f, rfl⟩ : ∃ q, f = q + 1 := ⟨f - 1, by omega⟩
    have hs' : s < t.1 := by omega
    have hc := okB_lt (ht.2 s hs')
    rw [f_X12_cutAll_17, h3, if_neg (fun e => by have := (nI_leI (by omega) (by omega)).mp e; omega), r163_1, l164, chk_nI _ (by omega) (by omega), nI_clamp (by omega), hT s hs', lt_eq, nI_1]
    cases hb : blk (t.2 s)
    · -- a token
      have hskp : skp t s = s := skp_no hs (fun _ => hb)
      have hsk2 : skp t (psn t k) = s := by rw [← hsk, hskp]
      obtain ⟨-, tE, tK, tW, tN⟩ := tk_skp hsk
      have tC : tkC t (psn t k) = t.2 s := by unfold tkC; rw [hsk2]
      unfold blk at hb
      rw [Bool.or_eq_false_iff, decide_eq_false_iff_not, decide_eq_false_iff_not] at hb
      rw [if_neg (show ¬ nI (t.2 s) = 10 from fun e => hb.1 ((nI_eq (b := 10) (by omega) (by omega)).mp e)), if_neg (show ¬ nI (t.2 s) = 32 from fun e => hb.2 ((nI_eq (b := 32) (by omega) (by omega)).mp e)), r163_5, l166, chk_nI _ (by omega) (by omega), nI_clamp (by omega), lt_eq, X12_isLetter_eq w (by omega), bI_some, X12_isDigit_eq w (by omega), bI_some, lt_eq, X12_isSignOf_eq w (by omega), bI_some]
      have f1 : FrX M (wI M 166 k (nI s)) := (FrX.rf M).w (Or.inr rfl) _ _
      have h31 : (wI M 166 k (nI s)).1 163 3 = nI t.1 := by rw [wI_set, setC_ne _ _ (by decide)]; exact h3
      have hT1 : ∀ i, i < t.1 → (wI M 166 k (nI s)).1 164 i = nI (t.2 i) := fun i hi => by rw [wI_set, setC_ne _ _ (by decide)]; exact hT i hi
      have hd1 : ∀ j, j < k → TkR (wI M 166 k (nI s)) t (psn t j) j := fun j hj => (hd j hj).1.fr (by rw [wI_set, setC_ne _ _ (by decide)]) (by rw [wI_set, setC_at, upd_ne _ _ (by omega)]) (by rw [wI_set, setC_2])
      have h166 : (wI M 166 k (nI s)).1 166 k = nI s := by rw [wI_set, setC_at, upd_at]
      -- going on behind a written token
      have go : ∀ (e : Nat) (v : Int32) (x5 : Int64), s < e → e ≤ t.1 → e = tkE t (psn t k) → v = nI (tkK t (psn t k)) → tkK t (psn t k) ≠ 0 → ((tkK t (psn t k) = 1 → x5 = rvW (tkW t (psn t k))) ∧ (tkK t (psn t k) = 2 → x5 = lN (tkN t (psn t k))) ∧ (tkK t (psn t k) = 3 → x5 = lN (tkC t (psn t k)))) → ∃ K z, f_X12_cutAll_17 w f 163 (nI (k + 1)) (nI e) (wL (wI (wI M 166 k (nI s)) 165 k v) 167 k x5) = some K ∧ FrX M K ∧ K.1 163 2 = M.1 163 2 ∧ K.1 163 7 = 0 ∧ K.1 163 8 = 0 ∧ RT K t z := fun e v x5 h1 h2 he hv hnz h5 => by
        have f2 : FrX M (wL (wI (wI M 166 k (nI s)) 165 k v) 167 k x5) := (f1.w (Or.inl rfl) _ _).l _ _
        have hall := tok_wr (K2 := 0) ht hs' hks hsk2 hd1 h166 hv h5
        obtain ⟨K, z, a1, a2, a3, a4, a5, a6⟩ := ih f (k + 1) e (wL (wI (wI M 166 k (nI s)) 165 k v) 167 k x5) (by omega) (by omega) (by omega) h2 (by rw [he]; rfl) (by rw [wL_1, wI_set, setC_ne _ _ (by decide)]; exact h31) (fun i hi => by rw [wL_1, wI_set, setC_ne _ _ (by decide)]; exact hT1 i hi) (fun j hj => ⟨hall j hj, by
          by_cases q : j = k
          · subst q; exact hnz
          · exact (hd j (by omega)).2⟩)
        refine ⟨K, z, a1, f2.tr a2, ?_, a4, a5, a6⟩
        rw [a3, wL_1, wI_set, setC_ne _ _ (by decide), wI_set, setC_ne _ _ (by decide)]
      cases el : ltr (t.2 s)
      · rw [if_pos (show b2i false = 0 from rfl)]
        cases ed : dgt (t.2 s)
        · rw [if_pos (show b2i false = 0 from rfl)]
          have eE : tkE t (psn t k) = s + 1 := by rw [← tE]; unfold tkE; rw [hskp, if_pos hs']; unfold tkC; rw [hskp, el, ed]; rfl
          have eK : tkK t (psn t k) = if sgn (t.2 s) then 3 else 4 := by rw [← tK]; unfold tkK; rw [hskp, if_pos hs']; unfold tkC; rw [hskp, el, ed]; rfl
          unfold f_X12_cutAll_261
          rw [r163_4, l165, chk_nI _ (by omega) (by omega), chk_nI _ (by omega) (by omega), nI_clamp (by omega), lt_eq, lt_eq, X12_cutAll_265_eq w _ (by omega), X12_cutAll_265_eq w _ (by omega), nI_l (by omega)]
          cases es : sgn (t.2 s)
          · rw [if_pos (show b2i false = 0 from rfl), nI_1]
            exact go (s + 1) 4 _ (by omega) (by omega) eE.symm (by rw [eK, es]; rfl) (by rw [eK, es]; decide) ⟨fun h => (by rw [eK, es] at h; cases h), fun h => (by rw [eK, es] at h; cases h), fun h => by rw [tC]⟩
          · rw [if_neg (show ¬ b2i true = 0 by decide), nI_1]
            exact go (s + 1) 3 _ (by omega) (by omega) eE.symm (by rw [eK, es]; rfl) (by rw [eK, es]; decide) ⟨fun h => (by rw [eK, es] at h; cases h), fun h => (by rw [eK, es] at h; cases h), fun h => by rw [tC]⟩
        · rw [if_neg (show ¬ b2i true = 0 by decide)]
          have eE : tkE t (psn t k) = run t dgt s := by rw [← tE]; unfold tkE; rw [hskp, if_pos hs']; unfold tkC; rw [hskp, el, ed]; rfl
          have eK : tkK t (psn t k) = if run t dgt s - s ≤ 4 then 2 else 4 := by unfold tkK; rw [hsk2, if_pos hs', eE, tC, el, ed]; rfl
          obtain ⟨x5, hx, e70⟩ := X12_cutAll_159_eq w hw ht (k := k) (by omega) hs' h31 hT1 (f_X12_cutAll_17 w f)
          rw [e70]
          have hrp := run_pos hs' ed
          have hrl := (run_sp (t := t) dgt hs).2.1
          refine go (run t dgt s) _ x5 hrp hrl eE.symm (by rw [eK]) (by rw [eK]; split <;> decide) ⟨fun h => (by rw [eK] at h; split at h <;> cases h), fun h => ?_, fun h => (by rw [eK] at h; split at h <;> cases h)⟩
          have h4 : run t dgt s - s ≤ 4 := by
            rw [eK] at h
            by_cases z : run t dgt s - s ≤ 4
            · exact z
            · rw [if_neg z] at h; cases h
          rw [hx h4]
          unfold tkN
          rw [hsk2, eE]
      · rw [if_neg (show ¬ b2i true = 0 by decide)]
        have eE : tkE t (psn t k) = run t ltr s := by rw [← tE]; unfold tkE; rw [hskp, if_pos hs']; unfold tkC; rw [hskp, el]; rfl
        have eK : tkK t (psn t k) = if run t ltr s - s ≤ 8 then 1 else 4 := by unfold tkK; rw [hsk2, if_pos hs', eE, tC, el]; rfl
        obtain ⟨x5, hx, e70⟩ := X12_cutAll_70_eq w hw ht (k := k) (by omega) hs' h31 hT1 (f_X12_cutAll_17 w f)
        rw [e70]
        have hrp := run_pos hs' el
        have hrl := (run_sp (t := t) ltr hs).2.1
        refine go (run t ltr s) _ x5 hrp hrl eE.symm (by rw [eK]) (by rw [eK]; split <;> decide) ⟨fun h => ?_, fun h => (by rw [eK] at h; split at h <;> cases h), fun h => (by rw [eK] at h; split at h <;> cases h)⟩
        have h4 : run t ltr s - s ≤ 8 := by
          rw [eK] at h
          by_cases z : run t ltr s - s ≤ 8
          · exact z
          · rw [if_neg z] at h; cases h
        rw [hx h4]
        unfold tkW
        rw [hsk2, eE]
    · -- a blank
      have hgo := ih f k (s + 1) M (by omega) (by omega) (by omega) (by omega) (by rw [skp_bl hs' hb]; exact hsk) h3 hT hd
      unfold blk at hb
      by_cases z : t.2 s = 10
      · rw [if_pos (by rw [z]; rfl)]; exact hgo
      · rw [decide_eq_false z, Bool.false_or, decide_eq_true_eq] at hb
        rw [if_neg (show ¬ nI (t.2 s) = 10 from fun e => z ((nI_eq (b := 10) (by omega) (by omega)).mp e)), if_pos (by rw [hb]; rfl)]; exact hgo
theorem X12_cutAll_eq (w : Nat) (hw : 1100 ≤ w) (ht : okT t) (hT : TpR M t) : ∃ K e, f_X12_cutAll w 163 M = some K ∧ FrX M K ∧ K.1 163 2 = 0 ∧ K.1 163 7 = 0 ∧ K.1 163 8 = 0 ∧ RT K t e := by
  have h1000 := ht.1
  have f0 : FrX M (wI (wI M 163 3 (nI t.1)) 163 2 0) := ((FrX.rf M).w3 (by omega) _).w3 (by omega) _
  obtain ⟨K, e, a1, a2, a3, a4, a5, a6⟩ := X12_cutAll_17_eq w hw ht 1000 w 0 0 (wI (wI M 163 3 (nI t.1)) 163 2 0) (by omega) (by omega) (by omega) (by omega) rfl (by rw [wI_set, setC_at, upd_ne _ _ (by decide), wI_set, setC_at, upd_at]) (fun i hi => by rw [f0.1 164 (by decide) (by decide) (by decide)]; exact hT.2 i hi) (fun j hj => by omega)
  refine ⟨K, e, ?_, f0.tr a2, by rw [a3, wI_set, setC_at, upd_at], a4, a5, a6⟩
  unfold f_X12_cutAll
  rw [hT.1, lt_eq, lt_eq]
  exact a1
end CUT
