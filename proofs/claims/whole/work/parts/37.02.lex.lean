/-! ===== words, numbers, signs of a text ===== -/
def rn (t : TX) (q : Nat → Bool) : Nat → Nat → Nat
  | 0, i => i
  | j + 1, i => if q (t.2 i) then rn t q j (i + 1) else i
def run (t : TX) (q : Nat → Bool) (i : Nat) : Nat := rn t q (t.1 - i) i
def blk (c : Nat) : Bool := decide (c = 10) || decide (c = 32)
def ltr (c : Nat) : Bool := decide (97 ≤ c) && decide (c ≤ 122)
def dgt (c : Nat) : Bool := decide (48 ≤ c) && decide (c ≤ 57)
def sgn (c : Nat) : Bool := decide (40 ≤ c ∧ c ≤ 43) || decide (c = 45) || decide (59 ≤ c ∧ c ≤ 61)
/-- the begin of the token from i on, its kind, its end -/
def skp (t : TX) (i : Nat) : Nat := run t blk i
def tkC (t : TX) (i : Nat) : Nat := t.2 (skp t i)
def tkE (t : TX) (i : Nat) : Nat := if skp t i < t.1 then (if ltr (tkC t i) then run t ltr (skp t i) else if dgt (tkC t i) then run t dgt (skp t i) else skp t i + 1) else skp t i
def tkK (t : TX) (i : Nat) : Nat := if skp t i < t.1 then (if ltr (tkC t i) then (if tkE t i - skp t i ≤ 8 then 1 else 4) else if dgt (tkC t i) then (if tkE t i - skp t i ≤ 4 then 2 else 4) else if sgn (tkC t i) then 3 else 4) else 0
def wdl (t : TX) (s : Nat) : Nat → List Nat
  | 0 => []
  | k + 1 => wdl t s k ++ [t.2 (s + k)]
def tkW (t : TX) (i : Nat) : List Nat := wdl t (skp t i) (tkE t i - skp t i)
def nmb (t : TX) (s : Nat) : Nat → Nat
  | 0 => 0
  | k + 1 => 10 * nmb t s k + (t.2 (s + k) - 48)
def tkN (t : TX) (i : Nat) : Nat := nmb t (skp t i) (tkE t i - skp t i)
/-- a word as the class has it, as the reference has it -/
def cvW : List Nat → Int64 := List.foldl (fun v b => (v <<< ((8 : Int32).toInt64 &&& 63)) ||| (nI b).toInt64) 0
def rvW : List Nat → Int64 := List.foldl (fun v b => 37 * v + (nI (b - 96)).toInt64) 0
def psn (t : TX) : Nat → Nat
  | 0 => 0
  | i + 1 => tkE t (psn t i)
section LEX
variable {t : TX} {M N : mM}
theorem rn_sp (q : Nat → Bool) : ∀ j i, i ≤ rn t q j i ∧ rn t q j i ≤ i + j ∧ (∀ k, i ≤ k → k < rn t q j i → q (t.2 k) = true) ∧ (rn t q j i < i + j → q (t.2 (rn t q j i)) = false) := by
  intro j
  induction j with
  | zero => intro i; exact ⟨Nat.le_refl _, Nat.le_refl _, fun k h1 h2 => by have : k < i := h2; omega, fun h => by have : i < i + 0 := h; omega⟩
  | succ j ih =>
    intro i
    unfold rn
    cases e : q (t.2 i)
    · rw [if_neg (by decide)]
      exact ⟨Nat.le_refl _, by omega, fun k h1 h2 => by omega, fun _ => e⟩
    · rw [if_pos rfl]
      obtain ⟨a, b, c, d⟩ := ih (i + 1)
      refine ⟨by omega, by omega, fun k h1 h2 => ?_, fun h => d (by omega)⟩
      by_cases z : k = i
      · subst z; exact e
      · exact c k (by omega) h2
theorem run_sp (q : Nat → Bool) {i : Nat} (hi : i ≤ t.1) : i ≤ run t q i ∧ run t q i ≤ t.1 ∧ (∀ k, i ≤ k → k < run t q i → q (t.2 k) = true) ∧ (run t q i < t.1 → q (t.2 (run t q i)) = false) := by
  obtain ⟨a, b, c, d⟩ := rn_sp (t := t) q (t.1 - i) i
  exact ⟨a, by show rn t q (t.1 - i) i ≤ _; omega, c, fun h => d (by have : rn t q (t.1 - i) i < t.1 := h; omega)⟩
theorem run_uni {q : Nat → Bool} {i e : Nat} (hi : i ≤ e) (he : e ≤ t.1) (h1 : ∀ k, i ≤ k → k < e → q (t.2 k) = true) (h2 : e < t.1 → q (t.2 e) = false) : run t q i = e := by
  obtain ⟨a, b, c, d⟩ := run_sp (t := t) q (show i ≤ t.1 by omega)
  rcases Nat.lt_trichotomy (run t q i) e with z | z | z
  · have := d (by omega)
    rw [h1 _ a z] at this; cases this
  · exact z
  · have := h2 (by omega)
    rw [c e hi z] at this; cases this
theorem run_pos {q : Nat → Bool} {i : Nat} (hi : i < t.1) (e : q (t.2 i) = true) : i < run t q i := by
  obtain ⟨a, b, c, d⟩ := run_sp (t := t) q (show i ≤ t.1 by omega)
  rcases Nat.lt_or_ge i (run t q i) with z | z
  · exact z
  · have z2 : run t q i = i := by omega
    have := d (by omega)
    rw [z2, e] at this; cases this
theorem skp_le {i : Nat} (hi : i ≤ t.1) : i ≤ skp t i ∧ skp t i ≤ t.1 := ⟨(run_sp blk hi).1, (run_sp blk hi).2.1⟩
theorem tkE_le {i : Nat} (hi : i ≤ t.1) : skp t i ≤ tkE t i ∧ tkE t i ≤ t.1 ∧ (skp t i < t.1 → skp t i < tkE t i) := by
  obtain ⟨a, b⟩ := skp_le hi
  unfold tkE
  by_cases z : skp t i < t.1
  · rw [if_pos z]
    cases e1 : ltr (tkC t i)
    · rw [if_neg (by decide)]
      cases e2 : dgt (tkC t i)
      · rw [if_neg (by decide)]; exact ⟨by omega, by omega, fun _ => by omega⟩
      · rw [if_pos rfl]
        have := run_pos z e2
        exact ⟨by omega, (run_sp dgt b).2.1, fun _ => this⟩
    · rw [if_pos rfl]
      have := run_pos z e1
      exact ⟨by omega, (run_sp ltr b).2.1, fun _ => this⟩
  · rw [if_neg z]; exact ⟨Nat.le_refl _, b, fun h => absurd h z⟩
theorem psn_le : ∀ i, psn t i ≤ t.1 := by
  intro i
  induction i with
  | zero => exact Nat.zero_le _
  | succ i ih => exact (tkE_le ih).2.1
theorem tk_skp {i j : Nat} (e : skp t j = skp t i) : tkC t j = tkC t i ∧ tkE t j = tkE t i ∧ tkK t j = tkK t i ∧ tkW t j = tkW t i ∧ tkN t j = tkN t i := by
  have h1 : tkC t j = tkC t i := by unfold tkC; rw [e]
  have h2 : tkE t j = tkE t i := by unfold tkE; rw [e, h1]
  exact ⟨h1, h2, by unfold tkK; rw [e, h1, h2], by unfold tkW; rw [e, h2], by unfold tkN; rw [e, h2]⟩
/-! the tests of a sign -/
theorem X10_isBlank_eq (w : Nat) {c : Nat} (hc : c < 256) (M : mM) : f_X10_isBlank w (nI c) M = some (b2i (blk c), M) := by
  unfold f_X10_isBlank f_X10_isBlank_12 blk
  by_cases q1 : c = 10
  · rw [if_pos (by rw [q1]; rfl), decide_eq_true q1]; rfl
  · rw [if_neg (show ¬ nI c = 10 from fun e => q1 ((nI_eq (b := 10) (by omega) (by omega)).mp e)), decide_eq_false q1]
    by_cases q2 : c = 32
    · rw [if_pos (by rw [q2]; rfl), decide_eq_true q2]; rfl
    · rw [if_neg (show ¬ nI c = 32 from fun e => q2 ((nI_eq (b := 32) (by omega) (by omega)).mp e)), decide_eq_false q2]; rfl
theorem rng_if {c a b : Nat} (hc : c < 256) (ha : a < 256) (hb : b < 256) (M : mM) : (if nI c < nI a then rtB 0 M else if nI b < nI c then rtB 0 M else rtB 1 M) = some (b2i (decide (a ≤ c) && decide (c ≤ b)), M) := by
  by_cases q1 : c < a
  · rw [if_pos ((nI_ltI (by omega) (by omega)).mpr q1), decide_eq_false (by omega)]; rfl
  · rw [if_neg (fun e => q1 ((nI_ltI (by omega) (by omega)).mp e)), decide_eq_true (by omega)]
    by_cases q2 : b < c
    · rw [if_pos ((nI_ltI (by omega) (by omega)).mpr q2), decide_eq_false (by omega)]; rfl
    · rw [if_neg (fun e => q2 ((nI_ltI (by omega) (by omega)).mp e)), decide_eq_true (by omega)]; rfl
theorem X10_isLetter_eq (w : Nat) {c : Nat} (hc : c < 256) (M : mM) : f_X10_isLetter w (nI c) M = some (b2i (ltr c), M) := rng_if (a := 97) (b := 122) hc (by omega) (by omega) M
theorem X10_isDigit_eq (w : Nat) {c : Nat} (hc : c < 256) (M : mM) : f_X10_isDigit w (nI c) M = some (b2i (dgt c), M) := rng_if (a := 48) (b := 57) hc (by omega) (by omega) M
theorem X12_isLetter_eq (w : Nat) {c : Nat} (hc : c < 256) (M : mM) : f_X12_isLetter w (nI c) M = some (b2i (ltr c), M) := rng_if (a := 97) (b := 122) hc (by omega) (by omega) M
theorem X12_isDigit_eq (w : Nat) {c : Nat} (hc : c < 256) (M : mM) : f_X12_isDigit w (nI c) M = some (b2i (dgt c), M) := rng_if (a := 48) (b := 57) hc (by omega) (by omega) M
def fst1 (r : Option (Int32 × mM)) : Int32 := match r with
  | some z => z.1
  | none => 7
theorem X10_sign_all : ∀ c, c < 256 → fst1 (f_X10_isSignOfOwn 0 (nI c) (fun _ _ => 0, fun _ _ => 0)) = b2i (sgn c) := by decide +kernel
theorem X12_sign_all : ∀ c, c < 256 → fst1 (f_X12_isSignOf 0 (nI c) (fun _ _ => 0, fun _ _ => 0)) = b2i (sgn c) := by decide +kernel
theorem X10_isSignOfOwn_ex (w : Nat) (x : Int32) (M : mM) : f_X10_isSignOfOwn w x M = some (fst1 (f_X10_isSignOfOwn 0 x (fun _ _ => 0, fun _ _ => 0)), M) := by
  unfold f_X10_isSignOfOwn f_X10_isSignOfOwn_12 f_X10_isSignOfOwn_30
  by_cases q1 : x < 40
  · simp only [if_pos q1]
    by_cases q2 : x = 45
    · simp only [if_pos q2]; rfl
    · simp only [if_neg q2]
      by_cases q3 : x < 59
      · simp only [if_pos q3]; rfl
      · simp only [if_neg q3]
        by_cases q4 : 61 < x
        · simp only [if_pos q4]; rfl
        · simp only [if_neg q4]; rfl
  · simp only [if_neg q1]
    by_cases q0 : x ≤ 43
    · simp only [if_pos q0]; rfl
    · simp only [if_neg q0]
      by_cases q2 : x = 45
      · simp only [if_pos q2]; rfl
      · simp only [if_neg q2]
        by_cases q3 : x < 59
        · simp only [if_pos q3]; rfl
        · simp only [if_neg q3]
          by_cases q4 : 61 < x
          · simp only [if_pos q4]; rfl
          · simp only [if_neg q4]; rfl
theorem X10_isSignOfOwn_eq (w : Nat) {c : Nat} (hc : c < 256) (M : mM) : f_X10_isSignOfOwn w (nI c) M = some (b2i (sgn c), M) := by rw [X10_isSignOfOwn_ex, X10_sign_all c hc]
theorem X12_isSignOf_ex (w : Nat) (x : Int32) (M : mM) : f_X12_isSignOf w x M = some (fst1 (f_X12_isSignOf 0 x (fun _ _ => 0, fun _ _ => 0)), M) := by
  unfold f_X12_isSignOf f_X12_isSignOf_48
  by_cases q1 : x = 40
  · simp only [if_pos q1]; rfl
  simp only [if_neg q1]
  by_cases q2 : x = 41
  · simp only [if_pos q2]; rfl
  simp only [if_neg q2]
  by_cases q3 : x = 59
  · simp only [if_pos q3]; rfl
  simp only [if_neg q3]
  by_cases q4 : x = 61
  · simp only [if_pos q4]; rfl
  simp only [if_neg q4]
  by_cases q5 : x = 60
  · simp only [if_pos q5]; rfl
  simp only [if_neg q5]
  by_cases q6 : x = 43
  · simp only [if_pos q6]; rfl
  simp only [if_neg q6]
  by_cases q7 : x = 45
  · simp only [if_pos q7]; rfl
  simp only [if_neg q7]
  by_cases q8 : x = 42
  · simp only [if_pos q8]; rfl
  simp only [if_neg q8]; rfl
theorem X12_isSignOf_eq (w : Nat) {c : Nat} (hc : c < 256) (M : mM) : f_X12_isSignOf w (nI c) M = some (b2i (sgn c), M) := by rw [X12_isSignOf_ex, X12_sign_all c hc]
/-! the class's advance -/
def FrA (M N : mM) : Prop := (∀ c, c ≠ 25 → N.1 c = M.1 c) ∧ (∀ c j, (c ≠ 25 ∨ j ≠ 5) → N.2 c j = M.2 c j) ∧ N.1 25 1 = M.1 25 1 ∧ N.1 25 6 = M.1 25 6
theorem FrA.rf (M : mM) : FrA M M := ⟨fun _ _ => rfl, fun _ _ _ => rfl, rfl, rfl⟩
theorem FrA.tr {K : mM} (f : FrA M N) (g : FrA N K) : FrA M K := ⟨fun c h => (g.1 c h).trans (f.1 c h), fun c j h => (g.2.1 c j h).trans (f.2.1 c j h), g.2.2.1.trans f.2.2.1, g.2.2.2.trans f.2.2.2⟩
theorem FrA.w (f : FrA M N) {j : Nat} (h1 : j ≠ 1) (h2 : j ≠ 6) (y : Int32) : FrA M (wI N 25 j y) := ⟨fun c h => by rw [wI_set, setC_ne _ _ h]; exact f.1 c h, fun c k h => by rw [wI_set, setC_2]; exact f.2.1 c k h, by rw [wI_set, setC_at, upd_ne _ _ (fun e => h1 e.symm)]; exact f.2.2.1, by rw [wI_set, setC_at, upd_ne _ _ (fun e => h2 e.symm)]; exact f.2.2.2⟩
theorem FrA.l (f : FrA M N) (y : Int64) : FrA M (wL N 25 5 y) := ⟨fun c h => f.1 c h, fun c k h => by rw [wL_ne _ _ h]; exact f.2.1 c k h, f.2.2.1, f.2.2.2⟩
theorem TpC.fa (h : TpC M t) (f : FrA M N) : TpC N t := ⟨by rw [f.2.2.1]; exact h.1, fun i hi => by rw [f.1 26 (by decide)]; exact h.2 i hi⟩
theorem wI25 (M : mM) (j : Nat) (y : Int32) (k : Nat) : (wI M 25 j y).1 25 k = if k = j then y else M.1 25 k := by
  rw [wI_set, setC_at]
  by_cases q : k = j
  · subst q; rw [upd_at, if_pos rfl]
  · rw [upd_ne _ _ q, if_neg q]
theorem okB_lt {b : Nat} (h : okB b) : b < 127 := by unfold okB at h; omega
/-- the token from i on, as the class holds it -/
def TkC (M : mM) (t : TX) (i : Nat) : Prop := M.1 25 2 = nI (tkE t i) ∧ M.1 25 3 = nI (tkK t i) ∧ M.1 25 4 = nI (skp t i) ∧ (tkK t i = 1 → M.2 25 5 = cvW (tkW t i)) ∧ (tkK t i = 2 → M.2 25 5 = lN (tkN t i)) ∧ (tkK t i = 3 → M.2 25 5 = lN (tkC t i))
theorem cvW_snoc (l : List Nat) (b : Nat) : cvW (l ++ [b]) = (cvW l <<< ((8 : Int32).toInt64 &&& 63)) ||| (nI b).toInt64 := by unfold cvW; rw [List.foldl_append]; rfl
theorem rvW_snoc (l : List Nat) (b : Nat) : rvW (l ++ [b]) = 37 * rvW l + (nI (b - 96)).toInt64 := by unfold rvW; rw [List.foldl_append]; rfl
theorem X10_readWord_eq (w : Nat) (hw : 1100 ≤ w) (ht : okT t) (hT : TpC M t) {s : Nat} (hs : s < t.1) (h2 : M.1 25 2 = nI s) (h4 : M.1 25 4 = nI s) (h5 : M.2 25 5 = 0) : ∃ N, f_X10_readWord w 25 M = some N ∧ FrA M N ∧ N.1 25 2 = nI (run t ltr s) ∧ N.1 25 3 = nI (if run t ltr s - s ≤ 8 then 1 else 4) ∧ N.1 25 4 = nI s ∧ N.2 25 5 = cvW (wdl t s (run t ltr s - s)) := by
  have h1000 := ht.1
  obtain ⟨r1, r2, r3, r4⟩ := run_sp (t := t) ltr (show s ≤ t.1 by omega)
  unfold f_X10_readWord
  refine loopX (fun k (N : mM) => s ≤ k ∧ FrA M N ∧ N.1 25 2 = nI k ∧ N.1 25 4 = nI s ∧ N.2 25 5 = cvW (wdl t s (k - s))) (fun n (N : mM) k => f_X10_readWord_0 w n 25 N) (run t ltr s) (fun r => ∃ N, r = some N ∧ FrA M N ∧ N.1 25 2 = nI (run t ltr s) ∧ N.1 25 3 = nI (if run t ltr s - s ≤ 8 then 1 else 4) ∧ N.1 25 4 = nI s ∧ N.2 25 5 = cvW (wdl t s (run t ltr s - s))) ?_ ?_ (run t ltr s - s) w s M (by omega) (by omega) ⟨Nat.le_refl _, FrA.rf M, h2, h4, by rw [Nat.sub_self]; exact h5⟩
  · rintro n N ⟨k1, f, i2, i4, i5⟩
    have tN := hT.fa f
    have e61 : ∃ K, f_X10_readWord_61 w 25 N = some K ∧ FrA M K ∧ K.1 25 2 = nI (run t ltr s) ∧ K.1 25 3 = nI (if run t ltr s - s ≤ 8 then 1 else 4) ∧ K.1 25 4 = nI s ∧ K.2 25 5 = cvW (wdl t s (run t ltr s - s)) := by
      unfold f_X10_readWord_61
      rw [i2, i4, pk_sub (by omega), lt_eq, lt_eq]
      by_cases q : run t ltr s - s ≤ 8
      · rw [if_neg (show ¬ (8 : Int32) < nI _ from fun e => by have := (nI_ltI (a := 8) (by omega) (by omega)).mp e; omega), if_pos q]
        exact ⟨_, rfl, f.w (by decide) (by decide) _, by rw [wI25, if_neg (by decide)]; exact i2, by rw [wI25, if_pos rfl]; rfl, by rw [wI25, if_neg (by decide)]; exact i4, i5⟩
      · rw [if_pos (show (8 : Int32) < nI _ from (nI_ltI (a := 8) (by omega) (by omega)).mpr (by omega)), if_neg q]
        exact ⟨_, rfl, f.w (by decide) (by decide) _, by rw [wI25, if_neg (by decide)]; exact i2, by rw [wI25, if_pos rfl]; rfl, by rw [wI25, if_neg (by decide)]; exact i4, i5⟩
    rw [f_X10_readWord_0, tN.1, i2]
    by_cases q : t.1 ≤ run t ltr s
    · rw [if_pos ((nI_leI (by omega) (by omega)).mpr q)]; exact e61
    · have hc := okB_lt (ht.2 (run t ltr s) (by omega))
      rw [if_neg (fun e => q ((nI_leI (by omega) (by omega)).mp e)), r25_0, l26, chk_nI _ (by omega) (by omega), nI_clamp (by omega), tN.2 _ (by omega), X10_isLetter_eq w (by omega), bI_some, r4 (by omega), if_pos (show b2i false = 0 from rfl)]; exact e61
  · rintro n N k hk ⟨k1, f, i2, i4, i5⟩
    have tN := hT.fa f
    have hc := okB_lt (ht.2 k (by omega))
    refine Or.inr ⟨wI (wL N 25 5 ((cvW (wdl t s (k - s)) <<< ((8 : Int32).toInt64 &&& 63)) ||| (nI (t.2 k)).toInt64)) 25 2 (nI (k + 1)), ?_, by omega, (f.l _).w (by decide) (by decide) _, by rw [wI25, if_pos rfl], by rw [wI25, if_neg (by decide)]; exact i4, ?_⟩
    · rw [f_X10_readWord_0, tN.1, i2, if_neg (fun e => by have := (nI_leI (by omega) (by omega)).mp e; omega), r25_0, l26, chk_nI _ (by omega) (by omega), nI_clamp (by omega), tN.2 _ (by omega), X10_isLetter_eq w (by omega), bI_some, r3 k k1 hk, if_neg (show ¬ b2i true = 0 by decide), i2, chk_nI _ (by omega) (by omega), nI_clamp (by omega), tN.2 _ (by omega), i5, lt_eq, show (wL N 25 5 ((cvW (wdl t s (k - s)) <<< ((8 : Int32).toInt64 &&& 63)) ||| (nI (t.2 k)).toInt64)).1 25 2 = nI k from i2, nI_1, lt_eq]
    · rw [wI_set, setC_2, wL_at, show k + 1 - s = (k - s) + 1 by omega]
      show _ = cvW (wdl t s (k - s) ++ [t.2 (s + (k - s))])
      rw [cvW_snoc, show s + (k - s) = k by omega]
end LEX
