/-! ===== asked of this day: range, company, alone, rattles ===== -/
/-- the day's state as both programs hold it -/
def QR (p : HP) (h : HS) (M : mM) : Prop := okP p ∧ okS p h ∧ PlC M 1 p ∧ PlR M 0 p ∧ StC M 31 p h ∧ StR M 0 p h
def th0 (M : mM) : mM := wI M 163 0 0
theorem th0_1 (M : mM) {c : Nat} (h : c ≠ 163) : (th0 M).1 c = M.1 c := if_neg h
theorem QR.th0 {p : HP} {h : HS} {M : mM} (q : QR p h M) : QR p h (th0 M) := q
theorem mask_bt {q : Nat → Bool} : ∀ (n k : Nat) (x : Int32), k + n ≤ 32 → ∀ i, i < 32 → bt (mask q x k n) i = (bt x i || (decide (k ≤ i ∧ i < k + n) && q i)) := by
  intro n
  induction n with
  | zero =>
    intro k x _ i hi
    rw [decide_eq_false (by omega), Bool.false_and, Bool.or_false]; rfl
  | succ n ih =>
    intro k x hk i hi
    unfold mask
    rw [ih (k + 1) _ (by omega) i hi]
    by_cases hik : i = k
    · subst hik
      rw [decide_eq_false (by omega), decide_eq_true (by omega), Bool.false_and, Bool.or_false, Bool.true_and]
      cases q i
      · rw [if_neg (by decide), Bool.or_false]
      · rw [if_pos rfl, b_or]
        show (bt x i || bt (one i) i) = _
        rw [bt_one hi hi, decide_eq_true rfl]
    · have e1 : bt (if q k = true then x ||| (1 : Int32) <<< (nI k &&& 31) else x) i = bt x i := by
        cases q k
        · rw [if_neg (by decide)]
        · rw [if_pos rfl, b_or]
          show (bt x i || bt (one k) i) = _
          rw [bt_one (by omega) hi, decide_eq_false hik, Bool.or_false]
      rw [e1]
      by_cases h2 : k + 1 ≤ i ∧ i < k + 1 + n
      · rw [decide_eq_true h2, decide_eq_true (by omega)]
      · rw [decide_eq_false h2, decide_eq_false (by omega)]
/-- the doors that can be gone through -/
def opM (p : HP) (h : HS) : Int32 := ((1 : Int32) <<< (nI (pD p) &&& 31) - 1) &&& (stkM p h ^^^ (-1))
theorem mem31 : 31 ∈ [31, 35, 41, 45, 49, 53, 57, 61, 65, 69, 73, 77, 81, 85, 89, 93, 97, 101, 119, 130, 141, 152] := by decide
section QRY
variable {p : HP} {h : HS} {M : mM}
theorem X9_openDoors_eq (w : Nat) (hw : 9 ≤ w) {o : Nat} (ho : o ∈ [31, 35, 41, 45, 49, 53, 57, 61, 65, 69, 73, 77, 81, 85, 89, 93, 97, 101, 119, 130, 141, 152]) (hp : okP p) (hh : okS p h) (hc : PlC M 1 p) (hs : StC M o p h) : f_X9_openDoors w o M = some (opM p h, M) := by
  unfold f_X9_openDoors f_X6_allDoors
  rw [(stF o ho).1, bI_some, X9_stuckDoors_eq w hw ho hp hh hs hc.2.1, bI_some, hc.2.1]
  rfl
theorem X12_openNow_eq (w : Nat) (hw : 9 ≤ w) {b : Nat} (hb : b ≤ 1430) (hp : okP p) (hh : okS p h) (hc : PlR M 0 p) (hs : StR M b p h) : f_X12_openNow w 163 (nI b) M = some (opM p h, M) := by
  unfold f_X12_openNow
  rw [X12_doors_eq, bI_some, X12_sticking_eq w hw hb hp hh hs hc.2.1, bI_some, show M.1 169 1 = nI (pD p) from hc.2.1]
  rfl
theorem ix3 (x : Int32) {n : Nat} (hn : n < 2 ^ 31) : (x < 0 ∨ nI n ≤ x) ∨ ∃ j, j < n ∧ x = nI j := by
  rcases pk_ix x hn with a | a | a
  · exact Or.inl (Or.inl a)
  · exact Or.inl (Or.inr a)
  · exact Or.inr a
theorem has_no {x : Int32} {n : Nat} (hx : x < 0 ∨ nI n ≤ x) (N : mM) : (if x < 0 then rtB 0 N else if nI n ≤ x then rtB 0 N else rtB 1 N) = some (0, N) := by
  by_cases a : x < 0
  · rw [if_pos a]; rfl
  · rw [if_neg a, if_pos (hx.resolve_left a)]; rfl
theorem has_yes {j n : Nat} (hj : j < n) (hn : n < 2 ^ 31) (N : mM) : (if nI j < 0 then rtB 0 N else if nI n ≤ nI j then rtB 0 N else rtB 1 N) = some (1, N) := by
  rw [if_neg (nI_pos (by omega)), if_neg (nI_ge hj hn)]; rfl
theorem X6_hasRoom_eq (w : Nat) (x : Int32) (hc : PlC M 1 p) : f_X6_hasRoom w 1 x M = (if x < 0 then rtB 0 M else if nI (pR p) ≤ x then rtB 0 M else rtB 1 M) := by
  unfold f_X6_hasRoom; rw [hc.1]
theorem X6_hasDoor_eq (w : Nat) (x : Int32) (hc : PlC M 1 p) : f_X6_hasDoor w 1 x M = (if x < 0 then rtB 0 M else if nI (pD p) ≤ x then rtB 0 M else rtB 1 M) := by
  unfold f_X6_hasDoor; rw [hc.2.1]
theorem X6_hasPerson_eq (w : Nat) (x : Int32) (hc : PlC M 1 p) : f_X6_hasPerson w 1 x M = (if x < 0 then rtB 0 M else if nI (pP p) ≤ x then rtB 0 M else rtB 1 M) := by
  unfold f_X6_hasPerson; rw [hc.2.2.1]
theorem X12_isRoom_eq (w : Nat) (x : Int32) (hc : PlR M 0 p) : f_X12_isRoom w 163 x M = (if x < 0 then rtB 0 M else if nI (pR p) ≤ x then rtB 0 M else rtB 1 M) := by
  unfold f_X12_isRoom; rw [X12_rooms_eq, bI_some, show M.1 169 0 = nI (pR p) from hc.1]
theorem X12_isDoor_eq (w : Nat) (x : Int32) (hc : PlR M 0 p) : f_X12_isDoor w 163 x M = (if x < 0 then rtB 0 M else if nI (pD p) ≤ x then rtB 0 M else rtB 1 M) := by
  unfold f_X12_isDoor; rw [X12_doors_eq, bI_some, show M.1 169 1 = nI (pD p) from hc.2.1]
theorem X12_isPerson_eq (w : Nat) (x : Int32) (hc : PlR M 0 p) : f_X12_isPerson w 163 x M = (if x < 0 then rtB 0 M else if nI (pP p) ≤ x then rtB 0 M else rtB 1 M) := by
  unfold f_X12_isPerson; rw [X12_persons_eq, bI_some, show M.1 169 2 = nI (pP p) from hc.2.2.1]
theorem X11_range_eq (w : Nat) (hw : 9 ≤ w) (q : QR p h M) (x : Int32) : ∃ v, f_X11_range w 0 x M = some (v, M) ∧ f_X12_range w 163 x M = some (v, th0 M) := by
  have q0 := q.th0
  obtain ⟨hp, hh, hc, hr, hs, ht⟩ := q
  obtain ⟨-, -, -, hr0, -, ht0⟩ := q0
  have hR := hp.1
  unfold f_X11_range f_X12_range
  rw [r0_0, r0_6, X6_hasRoom_eq w x hc, lt_eq, show wI M 163 0 0 = th0 M from rfl, X12_isRoom_eq w x hr0]
  rcases ix3 x (show pR p < 2 ^ 31 by omega) with a | ⟨j, hj, rfl⟩
  · rw [has_no a, has_no a]
    exact ⟨_, rfl, rfl⟩
  · rw [has_yes hj (by omega), has_yes hj (by omega), bI_some, bI_some, if_neg (by decide), if_neg (by decide), X9_openDoors_eq w hw mem31 hp hh hc hs, bI_some, show (0 : Int32) = nI 0 from rfl, X12_openNow_eq w hw (by omega) hp hh hr0 ht0, bI_some, X6_roomsReached_eq w hw hp hc _ hj, bI_some, X12_rangeBy_eq w hw hp hr0, bI_some]
    exact ⟨_, rfl, rfl⟩
/-- the persons in the rooms T -/
def psM (p : HP) (h : HS) (T : Int32) : Int32 := mask (fun q => bit T (sPl h q)) 0 0 (pP p)
theorem X9_personsIn_4_eq (w : Nat) {o : Nat} (ho : o ∈ [31, 35, 41, 45, 49, 53, 57, 61, 65, 69, 73, 77, 81, 85, 89, 93, 97, 101, 119, 130, 141, 152]) (hp : okP p) (hh : okS p h) (hc : PlC M 1 p) (hs : StC M o p h) (T : Int32) : ∀ (j n k : Nat) (x : Int32), k + j = pP p → j < n → f_X9_personsIn_4 w n o T x (nI k) M = some (mask (fun q => bit T (sPl h q)) x k j, M) := by
  have hP := hp.2.2.1
  intro j
  induction j with
  | zero =>
    intro n k x hk hn
    obtain ⟨n, rfl⟩ : ∃ m, n = m + 1 := ⟨n - 1, by omega⟩
    rw [f_X9_personsIn_4, (stF o ho).1, hc.2.2.1, if_pos ((nI_leI (by omega) (by omega)).mpr (by omega))]
    rfl
  | succ j ih =>
    intro n k x hk hn
    obtain ⟨n, rfl⟩ : ∃ m, n = m + 1 := ⟨n - 1, by omega⟩
    obtain ⟨e0, -, -, e3, -, -, e6⟩ := stF o ho
    rw [f_X9_personsIn_4, e0, hc.2.2.1, if_neg (fun h => by have := (nI_leI (by omega) (by omega)).mp h; omega), e3, e6, chk_ok _ rfl (by omega) (by decide), nI_clamp (by omega), hs.2.2.2 k (by omega), nI_1]
    unfold mask
    cases hb : bit T (sPl h k)
    · rw [if_pos ((bit_0 _ _).mpr hb), if_neg (by decide)]
      exact ih n (k + 1) x (by omega) (by omega)
    · rw [if_neg (fun e => by rw [bit_0] at e; rw [e] at hb; cases hb), lt_eq, if_pos rfl]
      exact ih n (k + 1) _ (by omega) (by omega)
/-- whom a can meet -/
def coM (p : HP) (h : HS) (opn : Int32) (a : Nat) : Int32 := psM p h (rng p opn (sPl h a)) &&& (one a ^^^ (-1))
theorem X9_companyOf_eq (w : Nat) (hw : 9 ≤ w) {o : Nat} (ho : o ∈ [31, 35, 41, 45, 49, 53, 57, 61, 65, 69, 73, 77, 81, 85, 89, 93, 97, 101, 119, 130, 141, 152]) (hp : okP p) (hh : okS p h) (hc : PlC M 1 p) (hs : StC M o p h) (opn : Int32) {a : Nat} (ha : a < pP p) : f_X9_companyOf w o (nI a) opn M = some (coM p h opn a, M) := by
  have hP := hp.2.2.1
  obtain ⟨e0, -, -, e3, -, -, e6⟩ := stF o ho
  unfold f_X9_companyOf f_X9_personsIn
  rw [e0, e3, e6, chk_ok _ rfl (by omega) (by decide), nI_clamp (by omega), hs.2.2.2 a ha, X6_roomsReached_eq w hw hp hc _ (hh.2.2 a ha), bI_some, show (0 : Int32) = nI 0 from rfl, X9_personsIn_4_eq w ho hp hh hc hs _ (pP p) w 0 _ (by omega) (by omega), bI_some]
  rfl
theorem X12_companyBy_21_eq (w : Nat) (hp : okP p) (hh : okS p h) (hc : PlR M 0 p) (hs : StR M 0 p h) (T : Int32) {a : Nat} (ha : a < pP p) : ∀ (j n k : Nat) (x : Int32), k + j = pP p → j < n → f_X12_companyBy_21 w n 163 (nI a) T x (nI k) M = some (mask (fun q => !decide (q = a) && bit T (sPl h q)) x k j, M) := by
  have hP := hp.2.2.1
  have hPc : M.1 169 2 = nI (pP p) := hc.2.2.1
  intro j
  induction j with
  | zero =>
    intro n k x hk hn
    obtain ⟨n, rfl⟩ : ∃ m, n = m + 1 := ⟨n - 1, by omega⟩
    rw [f_X12_companyBy_21, X12_persons_eq, bI_some, hPc, if_pos ((nI_leI (by omega) (by omega)).mpr (by omega))]
    rfl
  | succ j ih =>
    intro n k x hk hn
    obtain ⟨n, rfl⟩ : ∃ m, n = m + 1 := ⟨n - 1, by omega⟩
    have hq := hs.2.2.2 k (by omega)
    rw [Nat.zero_add] at hq
    rw [f_X12_companyBy_21, X12_persons_eq, bI_some, hPc, if_neg (fun h => by have := (nI_leI (by omega) (by omega)).mp h; omega), nI_1, mask_or0]
    unfold mask
    by_cases hka : k = a
    · subst hka
      rw [if_pos rfl, decide_eq_true rfl, lt_eq, if_neg (by simp)]
      exact ih n (k + 1) x (by omega) (by omega)
    · rw [if_neg (fun e => hka ((nI_eq (by omega) (by omega)).mp e)), decide_eq_false hka, r163_24, l179, show 18 + nI k = nI (18 + k) by rw [nx_lit, nI_add], chk_ok _ rfl (by omega) (by decide), nI_clamp (by omega), hq]
      cases hb : bit T (sPl h k)
      · rw [if_neg (fun e => by rw [bit_1] at e; rw [e] at hb; cases hb), lt_eq, if_neg (by simp)]
        exact ih n (k + 1) x (by omega) (by omega)
      · rw [if_pos ((bit_1 _ _).mpr hb), lt_eq, if_pos (show (!false && true) = true from rfl)]
        exact ih n (k + 1) _ (by omega) (by omega)
theorem co_eq (hp : okP p) (T : Int32) {a : Nat} (ha : a < pP p) : mask (fun q => !decide (q = a) && bit T (sPl h q)) 0 0 (pP p) = psM p h T &&& (one a ^^^ (-1)) := by
  have hP := hp.2.2.1
  apply b_ext
  intro i hi
  unfold psM
  rw [b_and, b_xor, mask_bt _ _ _ (by omega) i hi, mask_bt _ _ _ (by omega) i hi, b_0, bt_one (by omega) hi, b_m1 i hi, Bool.false_or, Bool.false_or]
  cases decide (i = a) <;> cases bit T (sPl h i) <;> simp
theorem X12_companyBy_eq (w : Nat) (hw : 9 ≤ w) (hp : okP p) (hh : okS p h) (hc : PlR M 0 p) (hs : StR M 0 p h) (opn : Int32) {a : Nat} (ha : a < pP p) : f_X12_companyBy w 163 (nI a) opn M = some (coM p h opn a, M) := by
  have hP := hp.2.2.1
  have hq := hs.2.2.2 a ha
  rw [Nat.zero_add] at hq
  unfold f_X12_companyBy
  rw [r163_24, l179, show 18 + nI a = nI (18 + a) by rw [nx_lit, nI_add], chk_ok _ rfl (by omega) (by decide), nI_clamp (by omega), hq, X12_rangeBy_eq w hw hp hc, bI_some, show (0 : Int32) = nI 0 from rfl, X12_companyBy_21_eq w hp hh hc hs _ ha (pP p) w 0 _ (by omega) (by omega), show nI 0 = (0 : Int32) from rfl, co_eq hp _ ha]
  rfl
theorem X11_company_eq (w : Nat) (hw : 9 ≤ w) (q : QR p h M) (x : Int32) : ∃ v, f_X11_company w 0 x M = some (v, M) ∧ f_X12_company w 163 x M = some (v, th0 M) := by
  have q0 := q.th0
  obtain ⟨hp, hh, hc, hr, hs, ht⟩ := q
  obtain ⟨-, -, -, hr0, -, ht0⟩ := q0
  have hP := hp.2.2.1
  unfold f_X11_company f_X12_company
  rw [r0_0, r0_6, X6_hasPerson_eq w x hc, lt_eq, show wI M 163 0 0 = th0 M from rfl, X12_isPerson_eq w x hr0]
  rcases ix3 x (show pP p < 2 ^ 31 by omega) with a | ⟨j, hj, rfl⟩
  · rw [has_no a, has_no a]
    exact ⟨_, rfl, rfl⟩
  · rw [has_yes hj (by omega), has_yes hj (by omega), bI_some, bI_some, if_neg (by decide), if_neg (by decide), X9_openDoors_eq w hw mem31 hp hh hc hs, bI_some, show (0 : Int32) = nI 0 from rfl, X12_openNow_eq w hw (by omega) hp hh hr0 ht0, bI_some, X9_companyOf_eq w hw mem31 hp hh hc hs _ hj, bI_some, X12_companyBy_eq w hw hp hh hr0 ht0 _ hj, bI_some]
    exact ⟨_, rfl, rfl⟩
end QRY
