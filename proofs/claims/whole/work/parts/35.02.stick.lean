/-! ===== the state of the system, in numbers ===== -/
abbrev HP : Type := (Nat × Nat × Nat) × (Nat → Nat) × (Nat → Nat) × (Nat → Nat) × (Nat → Nat) × (Nat → Nat)
abbrev HS : Type := Nat × Int32 × (Nat → Nat) × (Nat → Nat) × (Nat → Nat)
def pR (h : HP) : Nat := h.1.1
def pD (h : HP) : Nat := h.1.2.1
def pP (h : HP) : Nat := h.1.2.2
def pA (h : HP) : Nat → Nat := h.2.1
def pB (h : HP) : Nat → Nat := h.2.2.1
def pW (h : HP) : Nat → Nat := h.2.2.2.1
def pG (h : HP) : Nat → Nat := h.2.2.2.2.1
def pS (h : HP) : Nat → Nat := h.2.2.2.2.2
def sDay (h : HS) : Nat := h.1
def sWed (h : HS) : Int32 := h.2.1
def sGap (h : HS) : Nat → Nat := h.2.2.1
def sSw (h : HS) : Nat → Nat := h.2.2.2.1
def sPl (h : HS) : Nat → Nat := h.2.2.2.2
def okP (h : HP) : Prop := pR h ≤ 7 ∧ pD h ≤ 8 ∧ pP h ≤ 5 ∧ (∀ d, d < pD h → pA h d < pR h ∧ pB h d < pR h ∧ pW h d < 4 ∧ pG h d ≤ 12 ∧ pA h d ≠ pB h d) ∧ ∀ p, p < pP h → pS h p < pR h
def okS (p : HP) (h : HS) : Prop := sDay h < 100000 ∧ (∀ d, d < pD p → sGap h d ≤ 30 ∧ sSw h d ≤ 30) ∧ ∀ q, q < pP p → sPl h q < pR p
/-- the class's Plan at cell o, the reference's house at place b of cell 169 -/
def PlC (M : mM) (o : Nat) (h : HP) : Prop := M.1 o 0 = nI (pR h) ∧ M.1 o 1 = nI (pD h) ∧ M.1 o 2 = nI (pP h) ∧ (∀ d, d < pD h → M.1 (o + 4) d = nI (pA h d) ∧ M.1 (o + 5) d = nI (pB h d) ∧ M.1 (o + 6) d = nI (pW h d) ∧ M.1 (o + 7) d = nI (pG h d)) ∧ ∀ q, q < pP h → M.1 (o + 3) q = nI (pS h q)
def PlR (M : mM) (b : Nat) (h : HP) : Prop := M.1 169 b = nI (pR h) ∧ M.1 169 (b + 1) = nI (pD h) ∧ M.1 169 (b + 2) = nI (pP h) ∧ (∀ d, d < pD h → M.1 169 (b + 5 + 4 * d) = nI (pA h d) ∧ M.1 169 (b + 6 + 4 * d) = nI (pB h d) ∧ M.1 169 (b + 7 + 4 * d) = nI (pW h d) ∧ M.1 169 (b + 8 + 4 * d) = nI (pG h d)) ∧ ∀ q, q < pP h → M.1 169 (b + 37 + q) = nI (pS h q)
/-- the class's State at cell o, the reference's state at place b of cell 179 -/
def StC (M : mM) (o : Nat) (p : HP) (h : HS) : Prop := M.1 o 1 = nI (sDay h) ∧ M.1 o 2 = sWed h ∧ (∀ d, d < pD p → M.1 (o + 1) d = nI (sGap h d) ∧ M.1 (o + 2) d = nI (sSw h d)) ∧ ∀ q, q < pP p → M.1 (o + 3) q = nI (sPl h q)
def StR (M : mM) (b : Nat) (p : HP) (h : HS) : Prop := M.1 179 b = nI (sDay h) ∧ M.1 179 (b + 1) = sWed h ∧ (∀ d, d < pD p → M.1 179 (b + 2 + d) = nI (sGap h d) ∧ M.1 179 (b + 10 + d) = nI (sSw h d)) ∧ ∀ q, q < pP p → M.1 179 (b + 18 + q) = nI (sPl h q)
/-- a door sticks: swollen over its gap, and not wedged -/
def stk (h : HS) (d : Nat) : Bool := decide (sGap h d < sSw h d) && !bit (sWed h) d
def stkM (p : HP) (h : HS) : Int32 := mask (stk h) 0 0 (pD p)
theorem mask_or0 (x : Int32) : x ||| 0 = x := by simp
theorem X9_hasWedge_eq (w o : Nat) (d : Nat) (M : mM) : f_X9_hasWedge w o (nI d) M = some (b2i (bit (M.1 o 2) d), M) := by
  unfold f_X9_hasWedge
  by_cases h : bit (M.1 o 2) d = true
  · rw [if_neg (fun e => by rw [bit_0] at e; rw [e] at h; cases h), h]; rfl
  · have h := Bool.eq_false_iff.mpr h
    rw [if_pos ((bit_0 _ _).mpr h), h]; rfl
section STK
variable {p : HP} {h : HS} {M : mM}
theorem X9_isStuck_eq (w : Nat) {o : Nat} (ho : o ∈ [31, 35, 41, 45, 49, 53, 57, 61, 65, 69, 73, 77, 81, 85, 89, 93, 97, 101, 119, 130, 141, 152]) (hp : okP p) (hh : okS p h) (hs : StC M o p h) {d : Nat} (hd : d < pD p) : f_X9_isStuck w o (nI d) M = some (b2i (stk h d), M) := by
  obtain ⟨-, h1, h2, -, h3, h4, -⟩ := stF o ho
  obtain ⟨e0, e1, e2, e3⟩ := hs
  obtain ⟨g1, g2⟩ := e2 d hd
  have hd8 : d < 8 := Nat.lt_of_lt_of_le hd hp.2.1
  have hb := hh.2.1 d hd
  unfold f_X9_isStuck
  rw [h1, h2, h3, h4, chk_ok _ rfl hd8 (by decide), chk_ok _ rfl hd8 (by decide), nI_clamp (by omega), X9_hasWedge_eq, bI_some, g1, g2, e1]
  unfold stk
  by_cases hg : sGap h d < sSw h d
  · rw [if_neg (fun hc => by have := (nI_leI (by omega) (by omega)).mp hc; omega), decide_eq_true hg]
    cases bit (sWed h) d <;> rfl
  · rw [if_pos ((nI_leI (by omega) (by omega)).mpr (by omega)), decide_eq_false hg]; rfl
theorem X9_stuckDoors_4_eq (w : Nat) {o : Nat} (ho : o ∈ [31, 35, 41, 45, 49, 53, 57, 61, 65, 69, 73, 77, 81, 85, 89, 93, 97, 101, 119, 130, 141, 152]) (hp : okP p) (hh : okS p h) (hs : StC M o p h) (hD : M.1 1 1 = nI (pD p)) : ∀ (j n k : Nat) (x : Int32), k + j = pD p → j < n → f_X9_stuckDoors_4 w n o x (nI k) M = some (mask (stk h) x k j, M) := by
  have hD8 := hp.2.1
  intro j
  induction j with
  | zero =>
    intro n k x hk hn
    obtain ⟨n, rfl⟩ : ∃ m, n = m + 1 := ⟨n - 1, by omega⟩
    rw [f_X9_stuckDoors_4, (stF o ho).1, hD, if_pos ((nI_leI (by omega) (by omega)).mpr (by omega))]
    rfl
  | succ j ih =>
    intro n k x hk hn
    obtain ⟨n, rfl⟩ : ∃ m, n = m + 1 := ⟨n - 1, by omega⟩
    rw [f_X9_stuckDoors_4, (stF o ho).1, hD, if_neg (fun h => by have := (nI_leI (by omega) (by omega)).mp h; omega), X9_isStuck_eq w ho hp hh hs (by omega), bI_some, nI_1]
    unfold mask
    cases hs : stk h k
    · exact ih n (k + 1) x (by omega) (by omega)
    · exact ih n (k + 1) _ (by omega) (by omega)
theorem X9_stuckDoors_eq (w : Nat) (hw : 9 ≤ w) {o : Nat} (ho : o ∈ [31, 35, 41, 45, 49, 53, 57, 61, 65, 69, 73, 77, 81, 85, 89, 93, 97, 101, 119, 130, 141, 152]) (hp : okP p) (hh : okS p h) (hs : StC M o p h) (hD : M.1 1 1 = nI (pD p)) : f_X9_stuckDoors w o M = some (stkM p h, M) :=
  X9_stuckDoors_4_eq w ho hp hh hs hD (pD p) w 0 0 (by omega) (by have := hp.2.1; omega)
theorem X12_doors_eq (w : Nat) (M : mM) : f_X12_doors w 163 M = some (M.1 169 1, M) := by
  unfold f_X12_doors
  rw [r163_10, l169]; rfl
theorem X12_rooms_eq (w : Nat) (M : mM) : f_X12_rooms w 163 M = some (M.1 169 0, M) := by
  unfold f_X12_rooms
  rw [r163_10, l169]; rfl
theorem X12_persons_eq (w : Nat) (M : mM) : f_X12_persons w 163 M = some (M.1 169 2, M) := by
  unfold f_X12_persons
  rw [r163_10, l169]; rfl
theorem X12_isWedged_eq (w : Nat) {b : Nat} (hb : b ≤ 1430) (d : Nat) (M : mM) : f_X12_isWedged w 163 (nI b) (nI d) M = some (b2i (bit (M.1 179 (b + 1)) d), M) := by
  unfold f_X12_isWedged
  rw [r163_24, l179, nI_1, chk_ok _ rfl (by omega) (by decide), nI_clamp (by omega)]
  by_cases h : bit (M.1 179 (b + 1)) d = true
  · rw [if_pos ((bit_1 _ _).mpr h), h]; rfl
  · rw [if_neg (fun e => h ((bit_1 _ _).mp e)), Bool.eq_false_iff.mpr h]; rfl
theorem X12_overOf_eq (w : Nat) {b : Nat} (hb : b ≤ 1430) (hp : okP p) (hs : StR M b p h) {d : Nat} (hd : d < pD p) : f_X12_overOf w 163 (nI b) (nI d) M = some (nI (sSw h d) - nI (sGap h d), M) := by
  have hd8 : d < 8 := Nat.lt_of_lt_of_le hd hp.2.1
  obtain ⟨g1, g2⟩ := hs.2.2.1 d hd
  unfold f_X12_overOf
  rw [r163_24, l179, show nI b + 10 + nI d = nI (b + 10 + d) by rw [nx_lit, nI_add, nI_add], show nI b + 2 + nI d = nI (b + 2 + d) by rw [nx_lit, nI_add, nI_add], chk_ok _ rfl (by omega) (by decide), chk_ok _ rfl (by omega) (by decide), nI_clamp (by omega), nI_clamp (by omega), g1, g2]
theorem sub_le0 {a b : Nat} (ha : a ≤ 1000) (hb : b ≤ 1000) : nI a - nI b ≤ 0 ↔ a ≤ b := by
  rw [Int32.le_iff_toInt_le, pk_sub_toInt (by omega) (by omega)]
  show (a : Int) - b ≤ 0 ↔ _
  omega
theorem X12_doesStick_eq (w : Nat) {b : Nat} (hb : b ≤ 1430) (hp : okP p) (hh : okS p h) (hs : StR M b p h) {d : Nat} (hd : d < pD p) : f_X12_doesStick w 163 (nI b) (nI d) M = some (b2i (stk h d), M) := by
  have hbd := hh.2.1 d hd
  unfold f_X12_doesStick
  rw [X12_overOf_eq w hb hp hs hd, bI_some, X12_isWedged_eq w hb, bI_some, hs.2.1]
  unfold stk
  by_cases hg : sGap h d < sSw h d
  · rw [if_neg (fun hc => by have := (sub_le0 (by omega) (by omega)).mp hc; omega), decide_eq_true hg]
    cases bit (sWed h) d <;> rfl
  · rw [if_pos ((sub_le0 (by omega) (by omega)).mpr (by omega)), decide_eq_false hg]; rfl
theorem X12_sticking_4_eq (w : Nat) {b : Nat} (hb : b ≤ 1430) (hp : okP p) (hh : okS p h) (hs : StR M b p h) (hD : M.1 169 1 = nI (pD p)) : ∀ (j n k : Nat) (x : Int32), k + j = pD p → j < n → f_X12_sticking_4 w n 163 (nI b) x (nI k) M = some (mask (stk h) x k j, M) := by
  have hD8 := hp.2.1
  intro j
  induction j with
  | zero =>
    intro n k x hk hn
    obtain ⟨n, rfl⟩ : ∃ m, n = m + 1 := ⟨n - 1, by omega⟩
    rw [f_X12_sticking_4, X12_doors_eq, bI_some, hD, if_pos ((nI_leI (by omega) (by omega)).mpr (by omega))]
    rfl
  | succ j ih =>
    intro n k x hk hn
    obtain ⟨n, rfl⟩ : ∃ m, n = m + 1 := ⟨n - 1, by omega⟩
    rw [f_X12_sticking_4, X12_doors_eq, bI_some, hD, if_neg (fun h => by have := (nI_leI (by omega) (by omega)).mp h; omega), X12_doesStick_eq w hb hp hh hs (by omega), bI_some, nI_1, mask_or0]
    unfold mask
    cases hs : stk h k
    · exact ih n (k + 1) x (by omega) (by omega)
    · exact ih n (k + 1) _ (by omega) (by omega)
theorem X12_sticking_eq (w : Nat) (hw : 9 ≤ w) {b : Nat} (hb : b ≤ 1430) (hp : okP p) (hh : okS p h) (hs : StR M b p h) (hD : M.1 169 1 = nI (pD p)) : f_X12_sticking w 163 (nI b) M = some (stkM p h, M) :=
  X12_sticking_4_eq w hb hp hh hs hD (pD p) w 0 0 (by omega) (by have := hp.2.1; omega)
end STK
