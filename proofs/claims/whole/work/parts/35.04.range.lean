/-! ===== where one gets to through open doors ===== -/
def cnt (p : Nat → Bool) : Nat → Nat
  | 0 => 0
  | n + 1 => cnt p n + (if p n then 1 else 0)
theorem cnt_le {p q : Nat → Bool} : ∀ n, (∀ k, k < n → p k = true → q k = true) → cnt p n ≤ cnt q n := by
  intro n
  induction n with
  | zero => intro _; exact Nat.le_refl _
  | succ n ih =>
    intro h
    have h1 := ih (fun k hk => h k (by omega))
    have h2 := h n (by omega)
    unfold cnt
    cases e1 : p n
    · simp only [Bool.false_eq_true, if_false]; omega
    · rw [h2 e1]; simp only [if_true]; omega
theorem cnt_lt {p q : Nat → Bool} : ∀ n, (∀ k, k < n → p k = true → q k = true) → (∃ i, i < n ∧ q i = true ∧ p i = false) → cnt p n < cnt q n := by
  intro n
  induction n with
  | zero => rintro _ ⟨i, hi, -⟩; omega
  | succ n ih =>
    rintro h ⟨i, hi, h1, h2⟩
    have h3 := h n (by omega)
    unfold cnt
    by_cases e : i = n
    · subst e
      have := cnt_le i (fun k hk => h k (by omega))
      rw [h1, h2]; simp only [Bool.false_eq_true, if_false, if_true]; omega
    · have := ih (fun k hk => h k (by omega)) ⟨i, by omega, h1, h2⟩
      cases e1 : p n
      · simp only [Bool.false_eq_true, if_false]; omega
      · rw [h3 e1]; simp only [if_true]; omega
theorem cnt_max (p : Nat → Bool) : ∀ n, cnt p n ≤ n := by
  intro n
  induction n with
  | zero => exact Nat.le_refl _
  | succ n ih => unfold cnt; split <;> omega
theorem cnt_all {p : Nat → Bool} : ∀ n, n ≤ cnt p n → ∀ i, i < n → p i = true := by
  intro n
  induction n with
  | zero => intro _ i hi; omega
  | succ n ih =>
    intro h i hi
    have := cnt_max p n
    unfold cnt at h
    cases e : p n
    · rw [e] at h; simp only [Bool.false_eq_true, if_false] at h; omega
    · by_cases q : i = n
      · rw [q]; exact e
      · refine ih ?_ i (by omega)
        rw [e] at h; simp only [if_true] at h; omega
/-- a set of rooms below R alone -/
def inR (R : Nat) (S : Int32) : Prop := ∀ i, i < 32 → bt S i = true → i < R
theorem inR_or {R : Nat} {S T : Int32} (h1 : inR R S) (h2 : inR R T) : inR R (S ||| T) := fun i hi h => by
  rw [b_or, Bool.or_eq_true] at h
  exact h.elim (h1 i hi) (h2 i hi)
theorem inR_0 (R : Nat) : inR R 0 := fun i _ h => by rw [b_0] at h; cases h
theorem inR_one {R k : Nat} (hk : k < R) (hR : R ≤ 32) : inR R (one k) := fun i hi h => by
  rw [bt_one (by omega) hi, decide_eq_true_eq] at h
  omega
section RNG
variable {p : HP}
theorem dAdd_in (hp : okP p) (opn S : Int32) {k : Nat} (hk : k < pD p) : inR (pR p) (dAdd p opn S k) := by
  obtain ⟨ha, hb, -, -⟩ := hp.2.2.2.1 k hk
  have hR := hp.1
  unfold dAdd
  split
  · refine inR_or ?_ ?_
    · split
      · exact inR_one hb (by omega)
      · exact inR_0 _
    · split
      · exact inR_one ha (by omega)
      · exact inR_0 _
  · exact inR_0 _
theorem onL_in (hp : okP p) (opn S : Int32) : ∀ (j k : Nat) (acc : Int32), k + j ≤ pD p → inR (pR p) acc → inR (pR p) (onL p opn S j k acc) := by
  intro j
  induction j with
  | zero => intro k acc _ h; exact h
  | succ j ih => intro k acc hk h; exact ih (k + 1) _ (by omega) (inR_or h (dAdd_in hp opn S (by omega)))
theorem onL_sub (opn S : Int32) : ∀ (j k : Nat) (acc : Int32), sub acc (onL p opn S j k acc) := by
  intro j
  induction j with
  | zero => intro k acc; exact sub_rf _
  | succ j ih => intro k acc i hi h; exact ih (k + 1) _ i hi (sub_or _ (sub_rf acc) i hi h)
theorem onM_in (hp : okP p) (opn : Int32) {S : Int32} (h : inR (pR p) S) : inR (pR p) (onM p opn S) := onL_in hp opn S _ 0 S (by omega) h
theorem onM_sub (opn S : Int32) : sub S (onM p opn S) := onL_sub opn S _ 0 S
def itM (p : HP) (opn : Int32) : Nat → Int32 → Int32
  | 0, S => S
  | n + 1, S => itM p opn n (onM p opn S)
theorem itM_fix {opn S : Int32} (h : onM p opn S = S) : ∀ n, itM p opn n S = S := by
  intro n
  induction n with
  | zero => rfl
  | succ n ih => unfold itM; rw [h]; exact ih
theorem itM_add (opn : Int32) : ∀ (n m : Nat) (S : Int32), itM p opn (n + m) S = itM p opn m (itM p opn n S) := by
  intro n
  induction n with
  | zero => intro m S; rw [Nat.zero_add]; rfl
  | succ n ih => intro m S; rw [show n + 1 + m = (n + m) + 1 by omega]; exact ih m _
theorem itM_end (hp : okP p) (opn : Int32) : ∀ (n : Nat) (S : Int32), inR (pR p) S → pR p ≤ cnt (bt S) (pR p) + n → onM p opn (itM p opn n S) = itM p opn n S := by
  have hR := hp.1
  intro n
  induction n with
  | zero =>
    intro S hS hc
    show onM p opn S = S
    apply b_ext
    intro i hi
    cases e : bt (onM p opn S) i
    · cases e2 : bt S i
      · rfl
      · have := onM_sub (p := p) opn S i hi e2
        rw [e] at this; cases this
    · exact (cnt_all _ (by omega) i (onM_in hp opn hS i hi e)).symm
  | succ n ih =>
    intro S hS hc
    by_cases hf : onM p opn S = S
    · rw [itM_fix hf]; exact hf
    · refine ih _ (onM_in hp opn hS) ?_
      have h1 : cnt (bt S) (pR p) < cnt (bt (onM p opn S)) (pR p) := by
        refine cnt_lt _ (fun k hk h => onM_sub opn S k (by omega) h) ?_
        refine Classical.byContradiction fun hn => hf (b_ext fun i hi => ?_)
        cases e : bt (onM p opn S) i
        · cases e2 : bt S i
          · rfl
          · have := onM_sub (p := p) opn S i hi e2
            rw [e] at this; cases this
        · cases e2 : bt S i
          · exact absurd ⟨i, onM_in hp opn hS i hi e, e, e2⟩ hn
          · rfl
      omega
theorem cnt_one {k R : Nat} (hk : k < R) (hR : R ≤ 32) : 1 ≤ cnt (bt (one k)) R := by
  have h := cnt_lt (p := fun _ => false) (q := bt (one k)) R (fun _ _ h => by cases h) ⟨k, hk, by rw [bt_one (by omega) (by omega)]; exact decide_eq_true rfl, rfl⟩
  omega
/-- the rooms that one gets to from room r -/
def rng (p : HP) (opn : Int32) (r : Nat) : Int32 := itM p opn 7 (one r)
theorem rng_eq (hp : okP p) (opn : Int32) {r : Nat} (hr : r < pR p) : itM p opn (pR p - 1) (one r) = rng p opn r := by
  have hR := hp.1
  have h1 := itM_end hp opn (pR p - 1) (one r) (inR_one hr (by omega)) (by have := cnt_one hr (show pR p ≤ 32 by omega); omega)
  unfold rng
  rw [show 7 = (pR p - 1) + (8 - pR p) by omega, itM_add, itM_fix h1]
variable {M : mM}
theorem X12_rangeBy_7_eq (w : Nat) (hw : 9 ≤ w) (hp : okP p) (hc : PlR M 0 p) (opn : Int32) : ∀ (j n k : Nat) (S : Int32), k + j = 7 → j < n → f_X12_rangeBy_7 w n 163 opn S (nI k) M = some (itM p opn j S, M) := by
  intro j
  induction j with
  | zero =>
    intro n k S hk hn
    obtain ⟨n, rfl⟩ : ∃ m, n = m + 1 := ⟨n - 1, by omega⟩
    rw [f_X12_rangeBy_7, show (7 : Int32) = nI 7 from rfl, if_pos ((nI_leI (by omega) (by omega)).mpr (by omega))]
    rfl
  | succ j ih =>
    intro n k S hk hn
    obtain ⟨n, rfl⟩ : ∃ m, n = m + 1 := ⟨n - 1, by omega⟩
    rw [f_X12_rangeBy_7, show (7 : Int32) = nI 7 from rfl, if_neg (fun h => by have := (nI_leI (by omega) (by omega)).mp h; omega), X12_onFrom_eq w hw hp hc, bI_some, nI_1]
    exact ih n (k + 1) _ (by omega) (by omega)
theorem X12_rangeBy_eq (w : Nat) (hw : 9 ≤ w) (hp : okP p) (hc : PlR M 0 p) (opn : Int32) (r : Nat) : f_X12_rangeBy w 163 (nI r) opn M = some (rng p opn r, M) := by
  unfold f_X12_rangeBy
  rw [lt_eq]
  exact X12_rangeBy_7_eq w hw hp hc opn 7 w 0 _ (by omega) (by omega)
theorem X6_roomsReached_7_eq (w : Nat) (hw : 9 ≤ w) (hp : okP p) (hc : PlC M 1 p) (opn : Int32) : ∀ (j n k : Nat) (S : Int32), k + j = pR p → j < n → f_X6_roomsReached_7 w n 1 opn S (nI k) M = some (itM p opn j S, M) := by
  have hR := hp.1
  intro j
  induction j with
  | zero =>
    intro n k S hk hn
    obtain ⟨n, rfl⟩ : ∃ m, n = m + 1 := ⟨n - 1, by omega⟩
    rw [f_X6_roomsReached_7, hc.1, if_pos ((nI_leI (by omega) (by omega)).mpr (by omega))]
    rfl
  | succ j ih =>
    intro n k S hk hn
    obtain ⟨n, rfl⟩ : ∃ m, n = m + 1 := ⟨n - 1, by omega⟩
    rw [f_X6_roomsReached_7, hc.1, if_neg (fun h => by have := (nI_leI (by omega) (by omega)).mp h; omega), X6_oneDoorOn_eq w hw hp hc, bI_some, nI_1]
    by_cases hf : onM p opn S = S
    · rw [if_pos hf, itM_fix hf]; rfl
    · rw [if_neg hf]
      exact ih n (k + 1) _ (by omega) (by omega)
theorem X6_roomsReached_eq (w : Nat) (hw : 9 ≤ w) (hp : okP p) (hc : PlC M 1 p) (opn : Int32) {r : Nat} (hr : r < pR p) : f_X6_roomsReached w 1 (nI r) opn M = some (rng p opn r, M) := by
  have hR := hp.1
  unfold f_X6_roomsReached
  rw [lt_eq, ← rng_eq hp opn hr]
  exact X6_roomsReached_7_eq w hw hp hc opn (pR p - 1) w 1 _ (by omega) (by omega)
end RNG
