/-! ===== asked of this day: deep, shut ===== -/
section Q3
variable {p : HP} {h : HS} {M : mM}
/-- how many steps S still grows, at most j -/
def dp (p : HP) (opn : Int32) : Nat → Int32 → Nat
  | 0, _ => 0
  | j + 1, S => if onM p opn S = S then 0 else 1 + dp p opn j (onM p opn S)
theorem dp_fix {opn S : Int32} (e : onM p opn S = S) : ∀ j, dp p opn j S = 0 := by
  intro j
  cases j with
  | zero => rfl
  | succ j => unfold dp; rw [if_pos e]
theorem dp_le (opn : Int32) : ∀ (j : Nat) (S : Int32), dp p opn j S ≤ j := by
  intro j
  induction j with
  | zero => intro S; exact Nat.le_refl _
  | succ j ih => intro S; unfold dp; have := ih (onM p opn S); split <;> omega
theorem X11_deep_31_eq (w : Nat) (hw : 9 ≤ w) (hp : okP p) (hc : PlC M 1 p) (opn : Int32) : ∀ (j n k : Nat) (S : Int32) (c : Nat), k + j = 7 → j < n → True → f_X11_deep_31 w n 0 opn S (nI c) (nI k) M = some (nI (c + dp p opn j S), M) := by
  intro j
  induction j with
  | zero =>
    intro n k S c hk hn _
    obtain ⟨n, rfl⟩ : ∃ m, n = m + 1 := ⟨n - 1, by omega⟩
    rw [f_X11_deep_31, show (7 : Int32) = nI 7 from rfl, if_pos ((nI_leI (by omega) (by omega)).mpr (by omega))]
    rfl
  | succ j ih =>
    intro n k S c hk hn hcc
    obtain ⟨n, rfl⟩ : ∃ m, n = m + 1 := ⟨n - 1, by omega⟩
    rw [f_X11_deep_31, show (7 : Int32) = nI 7 from rfl, if_neg (fun h => by have := (nI_leI (by omega) (by omega)).mp h; omega), r0_0, X6_oneDoorOn_eq w hw hp hc, bI_some, nI_1, nI_1]
    unfold dp
    by_cases e : onM p opn S = S
    · rw [if_pos e, if_pos e, e, ih n (k + 1) S c (by omega) (by omega) hcc, dp_fix e]
    · rw [if_neg e, if_neg e, ih n (k + 1) _ (c + 1) (by omega) (by omega) trivial, Nat.add_assoc]
theorem X12_deep_21_eq (w : Nat) (hw : 9 ≤ w) (hp : okP p) (hh : okS p h) (hc : PlR M 0 p) (hs : StR M 0 p h) : ∀ (j n : Nat) (S : Int32) (c : Nat), j < n → onM p (opM p h) (itM p (opM p h) j S) = itM p (opM p h) j S → f_X12_deep_21 w n 163 S (nI c) M = some (nI (c + dp p (opM p h) (j + 1) S), M) := by
  have hon : f_X12_openNow w 163 0 M = some (opM p h, M) := X12_openNow_eq w hw (b := 0) (by omega) hp hh hc hs
  intro j
  induction j with
  | zero =>
    intro n S c hn hf
    obtain ⟨n, rfl⟩ : ∃ m, n = m + 1 := ⟨n - 1, by omega⟩
    have hf : onM p (opM p h) S = S := hf
    rw [f_X12_deep_21, hon, bI_some, X12_onFrom_eq w hw hp hc, bI_some, if_pos hf, dp_fix hf]
    rfl
  | succ j ih =>
    intro n S c hn hf
    obtain ⟨n, rfl⟩ : ∃ m, n = m + 1 := ⟨n - 1, by omega⟩
    rw [f_X12_deep_21, hon, bI_some, X12_onFrom_eq w hw hp hc, bI_some]
    by_cases e : onM p (opM p h) S = S
    · rw [if_pos e, dp_fix e]; rfl
    · rw [if_neg e, hon, bI_some, X12_onFrom_eq w hw hp hc, bI_some, nI_1, ih n _ (c + 1) (by omega) hf]
      show _ = some (nI (c + dp p (opM p h) ((j + 1) + 1) S), M)
      rw [show dp p (opM p h) ((j + 1) + 1) S = 1 + dp p (opM p h) (j + 1) (onM p (opM p h) S) by rw [dp, if_neg e], Nat.add_assoc]
theorem X11_deep_eq (w : Nat) (hw : 9 ≤ w) (q : QR p h M) (x : Int32) : ∃ v, f_X11_deep w 0 x M = some (v, M) ∧ f_X12_deep w 163 x M = some (v, th0 M) := by
  have q0 := q.th0
  obtain ⟨hp, hh, hc, hr, hs, ht⟩ := q
  obtain ⟨-, -, -, hr0, -, ht0⟩ := q0
  have hR := hp.1
  unfold f_X11_deep f_X12_deep
  rw [r0_0, r0_6, X6_hasRoom_eq w x hc, lt_eq, show wI M 163 0 0 = th0 M from rfl, X12_isRoom_eq w x hr0]
  rcases ix3 x (show pR p < 2 ^ 31 by omega) with a | ⟨j, hj, rfl⟩
  · rw [has_no a, has_no a]
    exact ⟨_, rfl, rfl⟩
  · rw [has_yes hj (by omega), has_yes hj (by omega), bI_some, bI_some, if_neg (by decide), if_neg (by decide), X9_openDoors_eq w hw mem31 hp hh hc hs, bI_some, lt_eq, lt_eq]
    have hf := itM_end hp (opM p h) 6 (one j) (inR_one hj (by omega)) (by have := cnt_one hj (show pR p ≤ 32 by omega); omega)
    refine ⟨nI (0 + dp p (opM p h) 7 (one j)), X11_deep_31_eq w hw hp hc _ 7 w 0 _ 0 (by omega) (by omega) trivial, X12_deep_21_eq w hw hp hh hr0 ht0 6 w _ 0 (by omega) hf⟩
/-! shut -/
def adj (p : HP) (r d : Nat) : Bool := decide (pA p d = r) || decide (pB p d = r)
def cntF (q : Nat → Bool) (k : Nat) : Nat → Nat
  | 0 => 0
  | j + 1 => (if q k then 1 else 0) + cntF q (k + 1) j
theorem cntF_0 {q : Nat → Bool} : ∀ (j k : Nat), cntF q k j = 0 ↔ ∀ d, k ≤ d → d < k + j → q d = false := by
  intro j
  induction j with
  | zero => intro k; exact ⟨fun _ d h1 h2 => by omega, fun _ => rfl⟩
  | succ j ih =>
    intro k
    unfold cntF
    have h1 := ih (k + 1)
    constructor
    · intro h0 d h2 h3
      cases e : q k
      · rw [e] at h0
        simp only [Bool.false_eq_true, if_false, Nat.zero_add] at h0
        by_cases hd : d = k
        · rw [hd]; exact e
        · exact h1.mp h0 d (by omega) (by omega)
      · rw [e] at h0; simp only [if_true] at h0; omega
    · intro h0
      rw [h0 k (by omega) (by omega), h1.mpr (fun d h2 h3 => h0 d (by omega) (by omega))]; rfl
theorem cntF_le {q : Nat → Bool} : ∀ (j k : Nat), cntF q k j ≤ j := by
  intro j
  induction j with
  | zero => intro k; exact Nat.le_refl _
  | succ j ih => intro k; unfold cntF; have := ih (k + 1); split <;> omega
theorem onL_bt (opn S : Int32) : ∀ (j k : Nat) (acc : Int32) (i : Nat), bt (onL p opn S j k acc) i = true ↔ bt acc i = true ∨ ∃ d, k ≤ d ∧ d < k + j ∧ bt (dAdd p opn S d) i = true := by
  intro j
  induction j with
  | zero => intro k acc i; exact ⟨Or.inl, fun h => h.elim id (fun ⟨d, h1, h2, _⟩ => by omega)⟩
  | succ j ih =>
    intro k acc i
    unfold onL
    rw [ih (k + 1), b_or, Bool.or_eq_true]
    constructor
    · rintro ((h1 | h1) | ⟨d, h1, h2, h3⟩)
      · exact Or.inl h1
      · exact Or.inr ⟨k, by omega, by omega, h1⟩
      · exact Or.inr ⟨d, by omega, by omega, h3⟩
    · rintro (h1 | ⟨d, h1, h2, h3⟩)
      · exact Or.inl (Or.inl h1)
      · by_cases e : d = k
        · subst e; exact Or.inl (Or.inr h3)
        · exact Or.inr ⟨d, by omega, by omega, h3⟩
theorem on_one (hp : okP p) (opn : Int32) {r : Nat} (hr : r < 32) : onM p opn (one r) = one r ↔ ∀ d, d < pD p → bit opn d = true → adj p r d = false := by
  have hR := hp.1
  constructor
  · intro e d hd ho
    obtain ⟨ha, hb, -, -, hne⟩ := hp.2.2.2.1 d hd
    refine Bool.eq_false_iff.mpr fun hadj => ?_
    unfold adj at hadj
    rw [Bool.or_eq_true, decide_eq_true_eq, decide_eq_true_eq] at hadj
    have key : ∀ i, i < 32 → bt (dAdd p opn (one r) d) i = true → i = r := fun i hi h1 => by
      have h2 := (onL_bt (p := p) opn (one r) (pD p) 0 (one r) i).mpr (Or.inr ⟨d, by omega, by omega, h1⟩)
      have h3 : bt (onM p opn (one r)) i = true := h2
      rw [e, bt_one hr hi, decide_eq_true_eq] at h3
      exact h3
    rcases hadj with q | q
    · have := key (pB p d) (by omega) (by
        unfold dAdd
        rw [if_pos ho, b_or, q, bit_bt _ hr, bt_one hr hr, decide_eq_true rfl, if_pos rfl, bt_one (by omega) (by omega), decide_eq_true rfl]; rfl)
      exact hne (q.trans this.symm)
    · have := key (pA p d) (by omega) (by
        unfold dAdd
        rw [if_pos ho, b_or, q, bit_bt _ hr, bt_one hr hr, decide_eq_true rfl, if_pos rfl, bt_one (k := pA p d) (by omega) (by omega), decide_eq_true rfl, Bool.or_true])
      exact hne (this.trans q.symm)
  · intro hn
    apply b_ext
    intro i hi
    cases e : bt (one r) i
    · refine Bool.eq_false_iff.mpr fun h1 => ?_
      rcases (onL_bt (p := p) opn (one r) (pD p) 0 (one r) i).mp h1 with h2 | ⟨d, -, h3, h4⟩
      · rw [e] at h2; cases h2
      · have h3 : d < pD p := by omega
        unfold dAdd at h4
        cases ho : bit opn d
        · rw [ho, if_neg (by decide), b_0] at h4; cases h4
        · have h5 := hn d h3 ho
          unfold adj at h5
          rw [Bool.or_eq_false_iff, decide_eq_false_iff_not, decide_eq_false_iff_not] at h5
          obtain ⟨ha, hb, -, -, -⟩ := hp.2.2.2.1 d h3
          rw [ho, if_pos rfl, bit_bt _ (by omega), bit_bt _ (by omega), bt_one hr (by omega), bt_one hr (by omega), decide_eq_false h5.1, decide_eq_false h5.2] at h4
          simp only [Bool.false_eq_true, if_false, b_or, b_0, Bool.or_self] at h4
    · exact onM_sub opn (one r) i hi e
end Q3
