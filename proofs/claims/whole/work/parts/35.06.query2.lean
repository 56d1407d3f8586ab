/-! ===== asked of this day: person, alone, rattles, worst, deep ===== -/
section Q2
variable {p : HP} {h : HS} {M : mM}
theorem X11_person_eq (w : Nat) (q : QR p h M) (x : Int32) : ∃ v, f_X11_person w 0 x M = some (v, M) ∧ f_X12_person w 163 x M = some (v, th0 M) := by
  have q0 := q.th0
  obtain ⟨hp, hh, hc, hr, hs, ht⟩ := q
  obtain ⟨-, -, -, hr0, -, ht0⟩ := q0
  have hP := hp.2.2.1
  unfold f_X11_person f_X12_person
  rw [r0_0, r0_6, r31_5, X6_hasPerson_eq w x hc, lt_eq, show wI M 163 0 0 = th0 M from rfl, X12_isPerson_eq w x hr0]
  rcases ix3 x (show pP p < 2 ^ 31 by omega) with a | ⟨j, hj, rfl⟩
  · rw [has_no a, has_no a]
    exact ⟨_, rfl, rfl⟩
  · have e1 := hs.2.2.2 j hj
    have e2 := ht0.2.2.2 j hj
    rw [Nat.zero_add] at e2
    rw [has_yes hj (by omega), has_yes hj (by omega), bI_some, bI_some, if_neg (by decide), if_neg (by decide), l34, chk_ok _ rfl (by omega) (by decide), nI_clamp (by omega), r163_24, l179, show 18 + nI j = nI (18 + j) by rw [nx_lit, nI_add], chk_ok _ rfl (by omega) (by decide), nI_clamp (by omega), e1, e2]
    exact ⟨_, rfl, rfl⟩
theorem X11_alone_12_eq (w : Nat) (hw : 9 ≤ w) (hp : okP p) (hh : okS p h) (hc : PlC M 1 p) (hs : StC M 31 p h) (opn : Int32) : ∀ (j n k : Nat) (x : Int32), k + j = pP p → j < n → f_X11_alone_12 w n 0 opn x (nI k) M = some (mask (fun a => decide (coM p h opn a = 0)) x k j, M) := by
  have hP := hp.2.2.1
  intro j
  induction j with
  | zero =>
    intro n k x hk hn
    obtain ⟨n, rfl⟩ : ∃ m, n = m + 1 := ⟨n - 1, by omega⟩
    rw [f_X11_alone_12, r0_0, hc.2.2.1, if_pos ((nI_leI (by omega) (by omega)).mpr (by omega))]
    rfl
  | succ j ih =>
    intro n k x hk hn
    obtain ⟨n, rfl⟩ : ∃ m, n = m + 1 := ⟨n - 1, by omega⟩
    rw [f_X11_alone_12, r0_0, hc.2.2.1, if_neg (fun h => by have := (nI_leI (by omega) (by omega)).mp h; omega), r0_6, X9_companyOf_eq w hw mem31 hp hh hc hs _ (by omega), bI_some, nI_1]
    unfold mask
    by_cases e : coM p h opn k = 0
    · rw [if_pos e, lt_eq, if_pos (decide_eq_true e)]
      exact ih n (k + 1) _ (by omega) (by omega)
    · rw [if_neg e, if_neg (by rw [decide_eq_false e]; decide)]
      exact ih n (k + 1) _ (by omega) (by omega)
theorem X12_alone_9_eq (w : Nat) (hw : 9 ≤ w) (hp : okP p) (hh : okS p h) (hc : PlR M 0 p) (hs : StR M 0 p h) : ∀ (j n k : Nat) (x : Int32), k + j = pP p → j < n → f_X12_alone_9 w n 163 x (nI k) M = some (mask (fun a => decide (coM p h (opM p h) a = 0)) x k j, M) := by
  have hP := hp.2.2.1
  have hPc : M.1 169 2 = nI (pP p) := hc.2.2.1
  have hon := X12_openNow_eq w hw (b := 0) (by omega) hp hh hc hs
  intro j
  induction j with
  | zero =>
    intro n k x hk hn
    obtain ⟨n, rfl⟩ : ∃ m, n = m + 1 := ⟨n - 1, by omega⟩
    rw [f_X12_alone_9, X12_persons_eq, bI_some, hPc, if_pos ((nI_leI (by omega) (by omega)).mpr (by omega))]
    rfl
  | succ j ih =>
    intro n k x hk hn
    obtain ⟨n, rfl⟩ : ∃ m, n = m + 1 := ⟨n - 1, by omega⟩
    rw [f_X12_alone_9, X12_persons_eq, bI_some, hPc, if_neg (fun h => by have := (nI_leI (by omega) (by omega)).mp h; omega), show f_X12_openNow w 163 0 M = some (opM p h, M) from hon, bI_some, X12_companyBy_eq w hw hp hh hc hs _ (by omega), bI_some, nI_1, mask_or0]
    unfold mask
    by_cases e : coM p h (opM p h) k = 0
    · rw [if_pos e, lt_eq, if_pos (decide_eq_true e)]
      exact ih n (k + 1) _ (by omega) (by omega)
    · rw [if_neg e, lt_eq, if_neg (by rw [decide_eq_false e]; decide)]
      exact ih n (k + 1) _ (by omega) (by omega)
theorem X11_alone_eq (w : Nat) (hw : 9 ≤ w) (q : QR p h M) : ∃ v, f_X11_alone w 0 M = some (v, M) ∧ f_X12_alone w 163 M = some (v, th0 M) := by
  have q0 := q.th0
  obtain ⟨hp, hh, hc, hr, hs, ht⟩ := q
  obtain ⟨-, -, -, hr0, -, ht0⟩ := q0
  have hP := hp.2.2.1
  unfold f_X11_alone f_X12_alone
  rw [r0_6, X9_openDoors_eq w hw mem31 hp hh hc hs, bI_some, lt_eq, show wI M 163 0 0 = th0 M from rfl]
  exact ⟨_, X11_alone_12_eq w hw hp hh hc hs _ (pP p) w 0 0 (by omega) (by omega), X12_alone_9_eq w hw hp hh hr0 ht0 (pP p) w 0 0 (by omega) (by omega)⟩
theorem lt6 {a b : Nat} (ha : a ≤ 1000) (hb : b ≤ 1000) : (-6 : Int32) < nI b - nI a ↔ a < b + 6 := by
  rw [Int32.lt_iff_toInt_lt, pk_sub_toInt (by omega) (by omega)]
  show (-6 : Int) < (b : Int) - a ↔ _
  omega
theorem X11_rattles_4_eq (w : Nat) (hp : okP p) (hh : okS p h) (hc : PlC M 1 p) (hs : StC M 31 p h) : ∀ (j n k : Nat) (x : Int32), k + j = pD p → j < n → f_X11_rattles_4 w n 0 x (nI k) M = some (mask (fun d => !decide (sGap h d < sSw h d + 6)) x k j, M) := by
  have hD := hp.2.1
  intro j
  induction j with
  | zero =>
    intro n k x hk hn
    obtain ⟨n, rfl⟩ : ∃ m, n = m + 1 := ⟨n - 1, by omega⟩
    rw [f_X11_rattles_4, r0_0, hc.2.1, if_pos ((nI_leI (by omega) (by omega)).mpr (by omega))]
    rfl
  | succ j ih =>
    intro n k x hk hn
    obtain ⟨n, rfl⟩ : ∃ m, n = m + 1 := ⟨n - 1, by omega⟩
    obtain ⟨g1, g2⟩ := hs.2.2.1 k (by omega)
    have hb := hh.2.1 k (by omega)
    rw [f_X11_rattles_4, r0_0, hc.2.1, if_neg (fun h => by have := (nI_leI (by omega) (by omega)).mp h; omega), r0_6, r31_3, r31_4, l32, l33, chk_ok _ rfl (by omega) (by decide), chk_ok _ rfl (by omega) (by decide), nI_clamp (by omega), g1, g2, show nI (sSw h k) + 6 = nI (sSw h k + 6) by rw [nx_lit, nI_add], nI_1]
    unfold mask
    by_cases e : sGap h k < sSw h k + 6
    · rw [if_pos ((nI_ltI (by omega) (by omega)).mpr e), if_neg (by rw [decide_eq_true e]; decide)]
      exact ih n (k + 1) _ (by omega) (by omega)
    · rw [if_neg (fun h => e ((nI_ltI (by omega) (by omega)).mp h)), lt_eq, if_pos (by rw [decide_eq_false e]; decide)]
      exact ih n (k + 1) _ (by omega) (by omega)
theorem X12_rattles_9_eq (w : Nat) (hp : okP p) (hh : okS p h) (hc : PlR M 0 p) (hs : StR M 0 p h) : ∀ (j n k : Nat) (x : Int32), k + j = pD p → j < n → f_X12_rattles_9 w n 163 x (nI k) M = some (mask (fun d => !decide (sGap h d < sSw h d + 6)) x k j, M) := by
  have hD := hp.2.1
  have hDc : M.1 169 1 = nI (pD p) := hc.2.1
  intro j
  induction j with
  | zero =>
    intro n k x hk hn
    obtain ⟨n, rfl⟩ : ∃ m, n = m + 1 := ⟨n - 1, by omega⟩
    rw [f_X12_rattles_9, X12_doors_eq, bI_some, hDc, if_pos ((nI_leI (by omega) (by omega)).mpr (by omega))]
    rfl
  | succ j ih =>
    intro n k x hk hn
    obtain ⟨n, rfl⟩ : ∃ m, n = m + 1 := ⟨n - 1, by omega⟩
    have hb := hh.2.1 k (by omega)
    rw [f_X12_rattles_9, X12_doors_eq, bI_some, hDc, if_neg (fun h => by have := (nI_leI (by omega) (by omega)).mp h; omega), show f_X12_overOf w 163 0 (nI k) M = _ from X12_overOf_eq w (b := 0) (by omega) hp hs (by omega), bI_some, nI_1, mask_or0]
    unfold mask
    by_cases e : sGap h k < sSw h k + 6
    · rw [if_pos ((lt6 (by omega) (by omega)).mpr e), lt_eq, if_neg (by rw [decide_eq_true e]; decide)]
      exact ih n (k + 1) _ (by omega) (by omega)
    · rw [if_neg (fun h => e ((lt6 (by omega) (by omega)).mp h)), lt_eq, if_pos (by rw [decide_eq_false e]; decide)]
      exact ih n (k + 1) _ (by omega) (by omega)
theorem X11_rattles_eq (w : Nat) (hw : 9 ≤ w) (q : QR p h M) : ∃ v, f_X11_rattles w 0 M = some (v, M) ∧ f_X12_rattles w 163 M = some (v, th0 M) := by
  have q0 := q.th0
  obtain ⟨hp, hh, hc, hr, hs, ht⟩ := q
  obtain ⟨-, -, -, hr0, -, ht0⟩ := q0
  have hD := hp.2.1
  exact ⟨_, X11_rattles_4_eq w hp hh hc hs (pD p) w 0 0 (by omega) (by omega), X12_rattles_9_eq w hp hh hr0 ht0 (pD p) w 0 0 (by omega) (by omega)⟩
/-- the worst door: most over its gap among those that stick, the first of them -/
def wsL (h : HS) : Nat → Nat → Int32 → Nat → Int32
  | 0, _, b, _ => b
  | j + 1, k, b, m => if stk h k && decide (m < sSw h k - sGap h k) then wsL h j (k + 1) (nI k) (sSw h k - sGap h k) else wsL h j (k + 1) b m
theorem stk_lt {d : Nat} (e : stk h d = true) : sGap h d < sSw h d := by
  unfold stk at e
  rw [Bool.and_eq_true, decide_eq_true_eq] at e
  exact e.1
theorem X11_worst_6_eq (w : Nat) (hp : okP p) (hh : okS p h) (hc : PlC M 1 p) (hs : StC M 31 p h) : ∀ (j n k : Nat) (x : Int32) (m : Nat), k + j = pD p → j < n → m ≤ 30 → f_X11_worst_6 w n 0 x (nI m) (nI k) M = some (wsL h j k x m, M) := by
  have hD := hp.2.1
  intro j
  induction j with
  | zero =>
    intro n k x m hk hn hm
    obtain ⟨n, rfl⟩ : ∃ m, n = m + 1 := ⟨n - 1, by omega⟩
    rw [f_X11_worst_6, r0_0, hc.2.1, if_pos ((nI_leI (by omega) (by omega)).mpr (by omega))]
    rfl
  | succ j ih =>
    intro n k x m hk hn hm
    obtain ⟨n, rfl⟩ : ∃ m, n = m + 1 := ⟨n - 1, by omega⟩
    obtain ⟨g1, g2⟩ := hs.2.2.1 k (by omega)
    have hb := hh.2.1 k (by omega)
    rw [f_X11_worst_6, r0_0, hc.2.1, if_neg (fun h => by have := (nI_leI (by omega) (by omega)).mp h; omega), r0_6, r31_3, r31_4, l32, l33, chk_ok _ rfl (by omega) (by decide), chk_ok _ rfl (by omega) (by decide), nI_clamp (by omega), g1, g2, lt_eq, X9_isStuck_eq w mem31 hp hh hs (by omega), bI_some, nI_1]
    unfold wsL
    cases e : stk h k
    · rw [if_pos (show b2i false = 0 from rfl), Bool.false_and, if_neg (by decide)]
      exact ih n (k + 1) x m (by omega) (by omega) hm
    · have hl := stk_lt e
      rw [if_neg (by decide), Bool.true_and, pk_sub (by omega)]
      by_cases e2 : m < sSw h k - sGap h k
      · rw [if_neg (fun hq => by have := (nI_leI (by omega) (by omega)).mp hq; omega), if_pos (decide_eq_true e2)]
        exact ih n (k + 1) _ _ (by omega) (by omega) (by omega)
      · rw [if_pos ((nI_leI (by omega) (by omega)).mpr (by omega)), if_neg (by rw [decide_eq_false e2]; decide)]
        exact ih n (k + 1) x m (by omega) (by omega) hm
theorem X12_worst_11_eq (w : Nat) (hp : okP p) (hh : okS p h) (hc : PlR M 0 p) (hs : StR M 0 p h) : ∀ (j n k : Nat) (x : Int32) (m : Nat), k + j = pD p → j < n → m ≤ 30 → f_X12_worst_11 w n 163 x (nI m) (nI k) M = some (wsL h j k x m, M) := by
  have hD := hp.2.1
  have hDc : M.1 169 1 = nI (pD p) := hc.2.1
  intro j
  induction j with
  | zero =>
    intro n k x m hk hn hm
    obtain ⟨n, rfl⟩ : ∃ m, n = m + 1 := ⟨n - 1, by omega⟩
    rw [f_X12_worst_11, X12_doors_eq, bI_some, hDc, if_pos ((nI_leI (by omega) (by omega)).mpr (by omega))]
    rfl
  | succ j ih =>
    intro n k x m hk hn hm
    obtain ⟨n, rfl⟩ : ∃ m, n = m + 1 := ⟨n - 1, by omega⟩
    have hb := hh.2.1 k (by omega)
    have ho : f_X12_overOf w 163 0 (nI k) M = some (nI (sSw h k) - nI (sGap h k), M) := X12_overOf_eq w (b := 0) (by omega) hp hs (by omega)
    rw [f_X12_worst_11, X12_doors_eq, bI_some, hDc, if_neg (fun h => by have := (nI_leI (by omega) (by omega)).mp h; omega), show f_X12_doesStick w 163 0 (nI k) M = _ from X12_doesStick_eq w (b := 0) (by omega) hp hh hs (by omega), bI_some, ho, bI_some]
    unfold wsL
    cases e : stk h k
    · rw [if_pos (show b2i false = 0 from rfl), Bool.false_and, if_neg (by decide)]
      unfold f_X12_worst_42 f_X12_worst_43 f_X12_worst_55
      rw [if_pos rfl, if_pos rfl, nI_1]
      exact ih n (k + 1) x m (by omega) (by omega) hm
    · have hl := stk_lt e
      rw [if_neg (by decide), Bool.true_and, pk_sub (by omega)]
      by_cases e2 : m < sSw h k - sGap h k
      · rw [if_neg (fun hq => by have := (nI_leI (by omega) (by omega)).mp hq; omega), if_pos (decide_eq_true e2)]
        unfold f_X12_worst_43 f_X12_worst_55
        rw [if_neg (by decide), if_neg (by decide), ho, bI_some, pk_sub (by omega), nI_1]
        exact ih n (k + 1) _ _ (by omega) (by omega) (by omega)
      · rw [if_pos ((nI_leI (by omega) (by omega)).mpr (by omega)), if_neg (by rw [decide_eq_false e2]; decide)]
        unfold f_X12_worst_42 f_X12_worst_43 f_X12_worst_55
        rw [if_pos rfl, if_pos rfl, nI_1]
        exact ih n (k + 1) x m (by omega) (by omega) hm
theorem X11_worst_eq (w : Nat) (hw : 9 ≤ w) (q : QR p h M) : ∃ v, f_X11_worst w 0 M = some (v, M) ∧ f_X12_worst w 163 M = some (v, th0 M) := by
  have q0 := q.th0
  obtain ⟨hp, hh, hc, hr, hs, ht⟩ := q
  obtain ⟨-, -, -, hr0, -, ht0⟩ := q0
  have hD := hp.2.1
  exact ⟨_, X11_worst_6_eq w hp hh hc hs (pD p) w 0 (-1) 0 (by omega) (by omega) (by omega), X12_worst_11_eq w hp hh hr0 ht0 (pD p) w 0 (-1) 0 (by omega) (by omega) (by omega)⟩
end Q2
