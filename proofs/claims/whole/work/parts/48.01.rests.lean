/-! ===== heirs at rest ===== -/
def gnB (o h : Bool) (a b c : Int32) : Int32 := if o then (if h then -a else b) else (if h then c else 0)
def rstB (o h : Bool) (a b c : Int32) : Bool := decide (¬ gnB o h a b c < gnB (!o) h a b c) && decide (¬ gnB h o a b c < gnB (!h) o a b c)
def rsK (a b c : Int32) (k : Nat) : Bool := rstB (decide (2 ≤ k)) (decide (k % 2 = 1)) a b c
section RESTS
variable {M N : mM}
theorem m1_of {x : Int32} (h : -1 ≤ x) (h2 : x < 0) : x = -1 := by
  rw [Int32.le_iff_toInt_le] at h
  rw [Int32.lt_iff_toInt_lt] at h2
  have e1 : (-1 : Int32).toInt = -1 := rfl
  have e0 : (0 : Int32).toInt = 0 := rfl
  rw [e1] at h
  rw [e0] at h2
  exact Int32.toInt_inj.mp (by rw [e1]; omega)
theorem one_sub (o : Bool) : (1 : Int32) - b2i o = b2i (!o) := by cases o <;> rfl
theorem b2i_1 (o : Bool) : b2i o = 1 ↔ o = true := by cases o <;> decide
theorem X11_gain_eq (w : Nat) (o h : Bool) (a b c : Int32) (M : mM) : f_X11_gain w (b2i o) (b2i h) a b c M = some (gnB o h a b c, M) := by
  unfold f_X11_gain gnB
  cases o
  · rw [if_neg (show ¬ b2i false = 1 by decide), if_neg (show ¬ (false = true) by decide)]
    cases h
    · rw [if_neg (show ¬ b2i false = 1 by decide), if_neg (show ¬ (false = true) by decide)]
    · rw [if_pos (show b2i true = 1 from rfl), if_pos rfl]
  · rw [if_pos (show b2i true = 1 from rfl), if_pos rfl]
    cases h
    · rw [if_neg (show ¬ b2i false = 1 by decide), if_neg (show ¬ (false = true) by decide)]
    · rw [if_pos (show b2i true = 1 from rfl), if_pos rfl]
theorem X12_getsBy_eq (w : Nat) (o h : Bool) (a b c : Int32) (M : mM) : f_X12_getsBy w (b2i o) (b2i h) a b c M = some (gnB o h a b c, M) := X11_gain_eq w o h a b c M
theorem X11_isRest_eq (w : Nat) (o h : Bool) (a b c : Int32) (M : mM) : f_X11_isRest w (b2i o) (b2i h) a b c M = some (b2i (rstB o h a b c), M) := by
  unfold f_X11_isRest rstB
  rw [one_sub, one_sub, X11_gain_eq, bI_some, X11_gain_eq, bI_some]
  by_cases q1 : gnB o h a b c < gnB (!o) h a b c
  · rw [if_pos q1, decide_eq_false (not_not_intro q1)]; rfl
  · rw [if_neg q1, decide_eq_true q1, X11_gain_eq, bI_some, X11_gain_eq, bI_some]
    by_cases q2 : gnB h o a b c < gnB (!h) o a b c
    · rw [if_pos q2, decide_eq_false (not_not_intro q2)]; rfl
    · rw [if_neg q2, decide_eq_true q2]; rfl
theorem rs_c : ∀ k, k < 4 → nI k >>> ((1 : Int32) &&& 31) = b2i (decide (2 ≤ k)) ∧ nI k &&& 1 = b2i (decide (k % 2 = 1)) ∧ nI k / 2 = b2i (decide (2 ≤ k)) ∧ nI k - nI k / 2 * 2 = b2i (decide (k % 2 = 1)) := by decide +kernel
theorem rs_cs (w n : Nat) (a b c x4 x5 : Int32) {k : Nat} (hk : k < 4) (M : mM) : f_X11_rests_44 w (n + 1) a b c x4 x5 (nI k) M = if rsK a b c k then (if x5 = x4 then some (some (nI k), M) else f_X11_rests_44 w n a b c x4 (x5 + 1) (nI (k + 1)) M) else f_X11_rests_44 w n a b c x4 x5 (nI (k + 1)) M := by
  rw [f_X11_rests_44, if_neg (show ¬ (4 : Int32) ≤ nI k from fun e => by have := (nI_leI (a := 4) (by omega) (by omega)).mp e; omega), (rs_c k hk).1, (rs_c k hk).2.1, X11_isRest_eq, bI_some, nI_1]
  unfold rsK
  cases rstB (decide (2 ≤ k)) (decide (k % 2 = 1)) a b c
  · rw [if_pos (show b2i false = 0 from rfl), if_neg (show ¬ (false = true) by decide)]
  · rw [if_neg (show ¬ b2i true = 0 by decide), if_pos rfl]
theorem rs_ce (w n : Nat) (a b c x4 x5 : Int32) (M : mM) : f_X11_rests_44 w (n + 1) a b c x4 x5 (nI 4) M = if x4 = -1 then some (some x5, M) else some (none, M) := by
  rw [f_X11_rests_44, if_pos (by decide)]; rfl
theorem rs_rs (w n : Nat) (a b c x4 x6 x7 : Int32) {k : Nat} (hk : k < 4) (M : mM) : f_X12_rests_52 w (n + 1) 163 a b c x4 1 x6 x7 (nI k) M = if rsK a b c k then (if x6 = x4 then f_X12_rests_52 w n 163 a b c x4 1 (x6 + 1) (nI k) (nI (k + 1)) M else f_X12_rests_52 w n 163 a b c x4 1 (x6 + 1) x7 (nI (k + 1)) M) else f_X12_rests_52 w n 163 a b c x4 1 x6 x7 (nI (k + 1)) M := by
  have h2 : ¬ (2 : Int32) = 0 := by decide
  have h129 : f_X12_rests_129 w (f_X12_rests_52 w n) 163 a b c x4 1 x6 x7 (nI k) M = f_X12_rests_52 w n 163 a b c x4 1 x6 x7 (nI (k + 1)) M := by
    unfold f_X12_rests_129 f_X12_rests_130 f_X12_rests_149 f_X12_rests_151
    rw [if_pos rfl, if_pos rfl, lt_eq, Int32.add_zero, nI_1]
  have h130 : f_X12_rests_130 w (f_X12_rests_52 w n) 163 a b c x4 1 x6 x7 (nI k) 1 M = if x6 = x4 then f_X12_rests_52 w n 163 a b c x4 1 (x6 + 1) (nI k) (nI (k + 1)) M else f_X12_rests_52 w n 163 a b c x4 1 (x6 + 1) x7 (nI (k + 1)) M := by
    have h1 : ¬ (1 : Int32) = 0 := by decide
    unfold f_X12_rests_130 f_X12_rests_149 f_X12_rests_151
    rw [if_neg h1, if_neg h1, lt_eq, nI_1, if_neg h1, lt_eq]
  rw [f_X12_rests_52, if_neg (show ¬ (4 : Int32) ≤ nI k from fun e => by have := (nI_leI (a := 4) (by omega) (by omega)).mp e; omega), if_neg (show ¬ (1 : Int32) = 0 by decide), if_neg h2, lt_eq, if_neg h2, lt_eq, (rs_c k hk).2.2.2, (rs_c k hk).2.2.1, one_sub, one_sub, X12_getsBy_eq, bI_some, X12_getsBy_eq, bI_some]
  unfold rsK rstB
  by_cases q1 : gnB (decide (2 ≤ k)) (decide (k % 2 = 1)) a b c < gnB (!decide (2 ≤ k)) (decide (k % 2 = 1)) a b c
  · rw [if_pos q1, decide_eq_false (not_not_intro q1), Bool.false_and, if_neg (show ¬ (false = true) by decide), h129]
  · rw [if_neg q1, decide_eq_true q1, Bool.true_and, X12_getsBy_eq, bI_some, X12_getsBy_eq, bI_some]
    by_cases q2 : gnB (decide (k % 2 = 1)) (decide (2 ≤ k)) a b c < gnB (!decide (k % 2 = 1)) (decide (2 ≤ k)) a b c
    · rw [if_pos q2, decide_eq_false (not_not_intro q2), if_neg (show ¬ (false = true) by decide), h129]
    · rw [if_neg q2, decide_eq_true q2, if_pos rfl, h130]
theorem rs_re (w n : Nat) (a b c x4 x6 x7 : Int32) (M : mM) : f_X12_rests_52 w (n + 1) 163 a b c x4 1 x6 x7 (nI 4) M = f_X12_rests_174 w 163 x4 1 x6 x7 M := by
  rw [f_X12_rests_52, if_pos (by decide)]
theorem rs_195 (w : Nat) (x4 x6 x7 xs : Int32) (M : mM) : f_X12_rests_195 w 163 x4 x6 x7 xs 163 M = if xs ≤ 0 then (if 0 ≤ x4 then some (x7, wI M 163 0 xs) else some (x6, wI M 163 0 xs)) else some (0, wI M 163 0 xs) := by
  unfold f_X12_rests_195
  rw [lt_eq, w163, if_pos rfl]
/-- behind the hit the reference keeps it -/
theorem rs_hit (w : Nat) (a b c : Int32) {z j : Nat} (hz : z < 4) (hj : j < 4) (M : mM) : ∀ (r k n c' : Nat), k + r = 4 → r < n → z < c' → c' ≤ k → f_X12_rests_52 w n 163 a b c (nI z) 1 (nI c') (nI j) (nI k) M = some (nI j, wI M 163 0 0) := by
  intro r
  induction r with
  | zero =>
    intro k n c' hk hn h1 h2
    obtain ⟨n, rfl⟩ : ∃ q, n = q + 1 := ⟨n - 1, by omega⟩
    have : k = 4 := by omega
    subst this
    rw [rs_re]
    unfold f_X12_rests_174 f_X12_rests_190
    rw [if_neg (show ¬ (1 : Int32) = 0 by decide), if_neg (show ¬ nI z < 0 from fun e => by have := (nI_ltI (b := 0) (by omega) (by omega)).mp e; omega), if_neg (show ¬ nI j < 0 from fun e => by have := (nI_ltI (b := 0) (by omega) (by omega)).mp e; omega), rs_195, if_pos (by decide), if_pos (show (0 : Int32) ≤ nI z from (nI_leI (a := 0) (by omega) (by omega)).mpr (by omega))]
  | succ r ih =>
    intro k n c' hk hn h1 h2
    obtain ⟨n, rfl⟩ : ∃ q, n = q + 1 := ⟨n - 1, by omega⟩
    rw [rs_rs w n a b c _ _ _ (by omega), if_neg (show ¬ nI c' = nI z from fun e => by have := (nI_eq (by omega) (by omega)).mp e; omega), nI_1, ih (k + 1) n (c' + 1) (by omega) (by omega) (by omega) (by omega), ih (k + 1) n c' (by omega) (by omega) (by omega) (by omega), ite_self]
/-- what the class comes to, and what the reference -/
def rsR (M : mM) (rc : Option (Option Int32 × mM)) (rr : Option (Int32 × mM)) : Prop := (∃ v, rc = some (some v, M) ∧ rr = some (v, wI M 163 0 0)) ∨ (rc = some (none, M) ∧ rr = some (0, wI M 163 0 1))
theorem rs_loop (w : Nat) (a b c x4 : Int32) (hx : ¬ x4 < -1) (M : mM) : ∀ (r k n n' z : Nat), k + r = 4 → r < n → r < n' → z ≤ k → rsR M (f_X11_rests_44 w n a b c x4 (nI z) (nI k) M) (f_X12_rests_52 w n' 163 a b c x4 1 (nI z) (-1) (nI k) M) := by
  intro r
  induction r with
  | zero =>
    intro k n n' z hk hn hn' hz
    obtain ⟨n, rfl⟩ : ∃ q, n = q + 1 := ⟨n - 1, by omega⟩
    obtain ⟨n', rfl⟩ : ∃ q, n' = q + 1 := ⟨n' - 1, by omega⟩
    have : k = 4 := by omega
    subst this
    rw [rs_ce, rs_re]
    unfold f_X12_rests_174 f_X12_rests_190 f_X12_rests_194
    rw [if_neg (show ¬ (1 : Int32) = 0 by decide), rs_195, rs_195, if_pos (show (0 : Int32) ≤ 0 by decide), if_neg (show ¬ (1 : Int32) ≤ 0 by decide), if_pos (show (-1 : Int32) < 0 by decide)]
    by_cases q : x4 = -1
    · subst q
      rw [if_pos rfl, if_pos (by decide), if_neg (by decide)]
      exact Or.inl ⟨_, rfl, rfl⟩
    · have h0 : ¬ x4 < 0 := fun e => by
        rcases Int32.lt_or_le x4 (-1) with h | h
        · exact hx h
        · exact q (m1_of h e)
      rw [if_neg q, if_neg h0]
      exact Or.inr ⟨rfl, rfl⟩
  | succ r ih =>
    intro k n n' z hk hn hn' hz
    obtain ⟨n, rfl⟩ : ∃ q, n = q + 1 := ⟨n - 1, by omega⟩
    obtain ⟨n', rfl⟩ : ∃ q, n' = q + 1 := ⟨n' - 1, by omega⟩
    rw [rs_cs w n a b c _ _ (by omega), rs_rs w n' a b c _ _ _ (by omega)]
    cases rsK a b c k
    · rw [if_neg (by decide), if_neg (by decide)]
      exact ih (k + 1) n n' z (by omega) (by omega) (by omega) (by omega)
    · rw [if_pos rfl, if_pos rfl, nI_1]
      by_cases q : nI z = x4
      · subst q
        rw [if_pos rfl, if_pos rfl, rs_hit w a b c (by omega) (by omega) M r (k + 1) n' (z + 1) (by omega) (by omega) (by omega) (by omega)]
        exact Or.inl ⟨_, rfl, rfl⟩
      · rw [if_neg q, if_neg q]
        exact ih (k + 1) n n' (z + 1) (by omega) (by omega) (by omega) (by omega)
theorem rs_eq (w : Nat) (hw : 1100 ≤ w) (a b c x4 : Int32) (M : mM) : rsR M (f_X11_rests w 0 a b c x4 M) (f_X12_rests w 163 a b c x4 M) := by
  have bad : rsR M (f_X11_rests_27 w M) (f_X12_rests_40 w 163 a b c x4 M) := by
    obtain ⟨w, rfl⟩ : ∃ q, w = q + 1 := ⟨w - 1, by omega⟩
    unfold f_X11_rests_27 f_X12_rests_40 f_X12_rests_41
    rw [f_X12_rests_52, if_neg (by decide), if_pos rfl]
    unfold f_X12_rests_174 f_X12_rests_194
    rw [if_pos rfl, rs_195, if_neg (by decide)]
    exact Or.inr ⟨rfl, rfl⟩
  have good : ¬ x4 < -1 → rsR M (f_X11_rests_44 w w a b c x4 0 0 M) (f_X12_rests_41 w 163 a b c x4 1 M) := fun h => rs_loop w a b c x4 h M 4 0 w w 0 (by omega) (by omega) (by omega) (by omega)
  have st : ∀ x : Int32, ∃ q : Bool, f_X11_isStake w x M = some (b2i q, M) ∧ f_X12_within w x 0 9 M = some (b2i q, M) := fun x => by
    unfold f_X11_isStake f_X12_within
    by_cases q1 : x < 0
    · exact ⟨false, by rw [if_pos q1]; rfl, by rw [if_pos q1]; rfl⟩
    · by_cases q2 : 9 < x
      · exact ⟨false, by rw [if_neg q1, if_pos q2]; rfl, by rw [if_neg q1, if_pos q2]; rfl⟩
      · exact ⟨true, by rw [if_neg q1, if_neg q2]; rfl, by rw [if_neg q1, if_neg q2]; rfl⟩
  obtain ⟨q1, a1, b1⟩ := st a
  obtain ⟨q2, a2, b2⟩ := st b
  obtain ⟨q3, a3, b3⟩ := st c
  unfold f_X11_rests f_X12_rests
  rw [a1, b1, bI_some, bI_some]
  cases q1
  · rw [if_pos (show b2i false = 0 from rfl), if_pos (show b2i false = 0 from rfl)]; exact bad
  · rw [if_neg (show ¬ b2i true = 0 by decide), if_neg (show ¬ b2i true = 0 by decide), a2, b2, bI_some, bI_some]
    cases q2
    · rw [if_pos (show b2i false = 0 from rfl), if_pos (show b2i false = 0 from rfl)]; exact bad
    · rw [if_neg (show ¬ b2i true = 0 by decide), if_neg (show ¬ b2i true = 0 by decide), a3, b3, bI_some, bI_some]
      cases q3
      · rw [if_pos (show b2i false = 0 from rfl), if_pos (show b2i false = 0 from rfl)]; exact bad
      · rw [if_neg (show ¬ b2i true = 0 by decide), if_neg (show ¬ b2i true = 0 by decide)]
        by_cases q : x4 < -1
        · rw [if_neg (Int32.not_le.mpr q), if_pos q]; exact bad
        · rw [if_pos (Int32.not_lt.mp q), if_neg q]; exact good q
end RESTS
