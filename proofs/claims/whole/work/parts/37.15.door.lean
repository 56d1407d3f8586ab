/-! ===== the house read: doors ===== -/
def oAdd (p : HP) (a b v g : Nat) : HP := ((pR p, pD p + 1, pP p), (fun d => if d = pD p then a else pA p d), (fun d => if d = pD p then b else pB p d), (fun d => if d = pD p then v else pW p d), (fun d => if d = pD p then g else pG p d), pS p)
/-- the rooms that a room has doors to, and itself -/
def jmk (p : HP) (a : Nat) : Nat → Int32
  | 0 => one a
  | k + 1 => if pA p k = a then jmk p a k ||| one (pB p k) else if pB p k = a then jmk p a k ||| one (pA p k) else jmk p a k ||| 0
def exq (p : HP) (a b : Nat) : Nat → Bool
  | 0 => false
  | k + 1 => exq p a b k || decide (bhd p k a = nI b)
section DOORS
variable {t : TX} {p : HP} {E : NE} {s : DS} {M N K : mM}
theorem bit_jmk (hp : okP p) {a b : Nat} (ha : a < pR p) (hb : b < pR p) : ∀ k, k ≤ pD p → bit (jmk p a k) b = (decide (b = a) || exq p a b k) := by
  have hR := hp.1
  intro k
  induction k with
  | zero => intro _; rw [jmk, exq, bit_bt _ (by omega), bt_one (by omega) (by omega), Bool.or_false]
  | succ k ih =>
    intro hk
    have ih := ih (by omega)
    rw [bit_bt _ (by omega)] at ih ⊢
    obtain ⟨h1, h2, -⟩ := hp.2.2.2.1 k (by omega)
    have hor : ∀ x y : Int32, bt (x ||| y) b = (bt x b || bt y b) := fun x y => b_or x y b
    rw [jmk, exq]
    unfold bhd
    by_cases q1 : pA p k = a
    · rw [if_pos q1, if_pos q1, hor, ih, bt_one (by omega) (by omega), Bool.or_assoc]
      congr 2
      by_cases z : b = pB p k
      · rw [decide_eq_true z, decide_eq_true (by rw [z])]
      · rw [decide_eq_false z, decide_eq_false (fun e => z ((nI_eq (by omega) (by omega)).mp e).symm)]
    · rw [if_neg q1, if_neg q1]
      by_cases q2 : pB p k = a
      · rw [if_pos q2, if_pos q2, hor, ih, bt_one (by omega) (by omega), Bool.or_assoc]
        congr 2
        by_cases z : b = pA p k
        · rw [decide_eq_true z, decide_eq_true (by rw [z])]
        · rw [decide_eq_false z, decide_eq_false (fun e => z ((nI_eq (by omega) (by omega)).mp e).symm)]
      · rw [if_neg q2, if_neg q2, hor, ih, b_0, Bool.or_false, decide_eq_false (show ¬ (-1 : Int32) = nI b from fun e => m1_ne b (by omega) e.symm), Bool.or_false]
theorem X6_roomBehind_13 (w : Nat) (hp : okP p) (hc : PlC M 13 p) {d r : Nat} (hd : d < pD p) (hr : r < 100) : f_X6_roomBehind w 13 (nI d) (nI r) M = some (bhd p d r, M) := by
  have hD := hp.2.1
  have hR := hp.1
  obtain ⟨ha, hb, -⟩ := hp.2.2.2.1 d hd
  obtain ⟨a1, a2, -⟩ := hc.2.2.2.1 d hd
  have a1 : M.1 17 d = _ := a1
  have a2 : M.1 18 d = _ := a2
  unfold f_X6_roomBehind bhd
  rw [r13_7, r13_8, l17, l18, chk_nI _ (by omega) (by omega), chk_nI _ (by omega) (by omega), chk_nI _ (by omega) (by omega), chk_nI _ (by omega) (by omega), nI_clamp (by omega), a1, a2]
  by_cases q : pA p d = r
  · rw [if_pos (by rw [q]), if_pos q]
  · rw [if_neg (fun e => q ((nI_eq (by omega) (by omega)).mp e)), if_neg q]
    by_cases q2 : pB p d = r
    · rw [if_pos (by rw [q2]), if_pos q2]
    · rw [if_neg (fun e => q2 ((nI_eq (by omega) (by omega)).mp e)), if_neg q2]
theorem exq_up {a b : Nat} : ∀ n k, exq p a b k = true → exq p a b (k + n) = true := by
  intro n
  induction n with
  | zero => intro k h; exact h
  | succ n ih => intro k h; rw [← Nat.add_assoc, exq, ih k h, Bool.true_or]
theorem X6_hasDoorBetween_eq (w : Nat) (hw : 1100 ≤ w) (hp : okP p) (hc : PlC M 13 p) {a b : Nat} (ha : a < 100) : f_X6_hasDoorBetween w 13 (nI a) (nI b) M = some (b2i (exq p a b (pD p)), M) := by
  have hD := hp.2.1
  unfold f_X6_hasDoorBetween
  have key : ∀ r j n, pD p - j = r → j ≤ pD p → r < n → exq p a b j = false → f_X6_hasDoorBetween_2 w n 13 (nI a) (nI b) (nI j) M = some (b2i (exq p a b (pD p)), M) := by
    intro r
    induction r with
    | zero =>
      intro j n hr hj hn e
      obtain ⟨n, rfl⟩ : ∃ k, n = k + 1 := ⟨n - 1, by omega⟩
      have : j = pD p := by omega
      rw [f_X6_hasDoorBetween_2, hc.2.1, if_pos (by rw [this]; exact Int32.le_refl _), ← this, e]; rfl
    | succ r ih =>
      intro j n hr hj hn e
      obtain ⟨n, rfl⟩ : ∃ k, n = k + 1 := ⟨n - 1, by omega⟩
      rw [f_X6_hasDoorBetween_2, hc.2.1, if_neg (fun z => by have := (nI_leI (by omega) (by omega)).mp z; omega), X6_roomBehind_13 w hp hc (by omega) ha, bI_some]
      by_cases q : bhd p j a = nI b
      · rw [if_pos q, show pD p = (j + 1) + (pD p - (j + 1)) by omega, exq_up _ _ (show exq p a b (j + 1) = true by rw [exq, decide_eq_true q, Bool.or_true])]; rfl
      · rw [if_neg q, nI_1]
        exact ih (j + 1) n (by omega) (by omega) (by omega) (by rw [exq, e, decide_eq_false q]; rfl)
  exact key (pD p) 0 w (by omega) (by omega) (by omega) rfl
/-- the loop over doors ends, whatever it finds -/
theorem rd45_any (w : Nat) (K : mM) {D : Nat} (hD : D ≤ 8) (a : Int32) : ∀ r j n x, D - j = r → j ≤ D → r < n → ∃ y, f_X12_readDoor_45 w n 163 (nI D) a x (nI j) K = f_X12_readDoor_120 w 163 (nI D) a y K := by
  intro r
  induction r with
  | zero =>
    intro j n x hr hj hn
    obtain ⟨n, rfl⟩ : ∃ k, n = k + 1 := ⟨n - 1, by omega⟩
    have : j = D := by omega
    exact ⟨x, by rw [f_X12_readDoor_45, if_pos (by rw [this]; exact Int32.le_refl _)]⟩
  | succ r ih =>
    intro j n x hr hj hn
    obtain ⟨n, rfl⟩ : ∃ k, n = k + 1 := ⟨n - 1, by omega⟩
    have e65 : (65 : Int32) + 4 * nI j = nI (65 + 4 * j) := by
      rw [show (4 : Int32) * nI j = nI (4 * j) from pk_mul 4 j]; exact nI_add 65 _
    rw [f_X12_readDoor_45, if_neg (fun z => by have := (nI_leI (by omega) (by omega)).mp z; omega), e65, lt_eq, r163_10, l169, nI_1, nI_1, chk_nI _ (by omega) (by omega)]
    by_cases q1 : K.1 169 (nI (65 + 4 * j)).toNatClampNeg = a
    · rw [if_pos q1, chk_nI _ (by omega) (by omega), lt_eq]
      exact ih (j + 1) n _ (by omega) (by omega) (by omega)
    · rw [if_neg q1, chk_nI _ (by omega) (by omega)]
      by_cases q2 : K.1 169 (nI (65 + 4 * j + 1)).toNatClampNeg = a
      · rw [if_pos q2, chk_nI _ (by omega) (by omega), lt_eq]
        exact ih (j + 1) n _ (by omega) (by omega) (by omega)
      · rw [if_neg q2, lt_eq]
        exact ih (j + 1) n _ (by omega) (by omega) (by omega)
theorem rd45_eq (w : Nat) (hp : okP p) (hc : PlR K 60 p) {a : Nat} (ha : a < pR p) : ∀ r j n, pD p - j = r → j ≤ pD p → r < n → f_X12_readDoor_45 w n 163 (nI (pD p)) (nI a) (jmk p a j) (nI j) K = f_X12_readDoor_120 w 163 (nI (pD p)) (nI a) (jmk p a (pD p)) K := by
  have hD := hp.2.1
  have hR := hp.1
  intro r
  induction r with
  | zero =>
    intro j n hr hj hn
    obtain ⟨n, rfl⟩ : ∃ k, n = k + 1 := ⟨n - 1, by omega⟩
    have : j = pD p := by omega
    rw [f_X12_readDoor_45, if_pos (by rw [this]; exact Int32.le_refl _), this]
  | succ r ih =>
    intro j n hr hj hn
    obtain ⟨n, rfl⟩ : ∃ k, n = k + 1 := ⟨n - 1, by omega⟩
    obtain ⟨h1, h2, -⟩ := hp.2.2.2.1 j (by omega)
    obtain ⟨g1, g2, -⟩ := hc.2.2.2.1 j (by omega)
    have g1 : K.1 169 (65 + 4 * j) = nI (pA p j) := g1
    have g2 : K.1 169 (65 + 4 * j + 1) = nI (pB p j) := by rw [show 65 + 4 * j + 1 = 60 + 6 + 4 * j by omega]; exact g2
    have e65 : (65 : Int32) + 4 * nI j = nI (65 + 4 * j) := by
      rw [show (4 : Int32) * nI j = nI (4 * j) from pk_mul 4 j]; exact nI_add 65 _
    rw [f_X12_readDoor_45, if_neg (fun z => by have := (nI_leI (by omega) (by omega)).mp z; omega), e65, lt_eq, r163_10, l169, nI_1, nI_1, chk_nI _ (by omega) (by omega), nI_clamp (by omega), nI_clamp (by omega), g1, g2]
    have ih := ih (j + 1) n (by omega) (by omega) (by omega)
    rw [jmk] at ih
    by_cases q1 : pA p j = a
    · rw [if_pos (by rw [q1]), chk_nI _ (by omega) (by omega), lt_eq]
      rw [if_pos q1] at ih
      exact ih
    · rw [if_neg (fun e => q1 ((nI_eq (by omega) (by omega)).mp e)), chk_nI _ (by omega) (by omega)]
      rw [if_neg q1] at ih
      by_cases q2 : pB p j = a
      · rw [if_pos (by rw [q2]), chk_nI _ (by omega) (by omega), lt_eq]
        rw [if_pos q2] at ih
        exact ih
      · rw [if_neg (fun e => q2 ((nI_eq (by omega) (by omega)).mp e)), lt_eq]
        rw [if_neg q2] at ih
        exact ih
theorem rd120_er (w : Nat) {e : Nat} (h : ErR K e) (a b c : Int32) : ∃ K1, f_X12_readDoor_120 w 163 a b c K = some K1 ∧ FrY K K1 ∧ ErR K1 e := by
  obtain ⟨K1, a1, a2, a3⟩ := X12_takeTold_er w h 1 0 c
  obtain ⟨K2, b1, b2, b3⟩ := X12_takeOne_er w a3 12 4
  obtain ⟨K3, c1, c2, c3⟩ := X12_takeWord_er w 2 b3
  refine ⟨K3, ?_, a2.tr (b2.tr c2), c3⟩
  unfold f_X12_readDoor_120 f_X12_takeAfter
  rw [a1, bI_some, b1, bI_some, c1, bV_some, X12_takeNumber_er w 0 12 c3, bI_some, bI_some, if_neg c3.ne]
theorem tRes_mk {i : Nat} (mk : Int32) (hp : okP p) (oE : okE p E) : (∀ c, tRes t i E 0 0 = .inl c → tRes t i E 0 mk = .inl c) ∧ ∀ v, tRes t i E 0 0 = .inr v → tRes t i E 0 mk = if bit mk v then .inl 3 else .inr v := by
  have b0 : ∀ k, k < 32 → bit 0 k = false := fun k hk => by rw [bit_bt _ hk, b_0]
  unfold tRes
  cases isN t i
  · exact ⟨fun c h => h, fun v h => by cases h⟩
  · rw [if_pos rfl, if_pos rfl]
    cases nmd E (tkW t (psn t i)) with
    | none => exact ⟨fun c h => h, fun v h => by cases h⟩
    | some c =>
      show (∀ c', (if 0 ≤ c ∧ c ≤ 0 + 6 then (if bit 0 (c - 0) then Sum.inl 3 else Sum.inr (c - 0)) else Sum.inl 2) = Sum.inl c' → (if 0 ≤ c ∧ c ≤ 0 + 6 then (if bit mk (c - 0) then Sum.inl 3 else Sum.inr (c - 0)) else Sum.inl 2) = Sum.inl c') ∧ ∀ v, (if 0 ≤ c ∧ c ≤ 0 + 6 then (if bit 0 (c - 0) then Sum.inl 3 else Sum.inr (c - 0)) else Sum.inl 2) = Sum.inr v → (if 0 ≤ c ∧ c ≤ 0 + 6 then (if bit mk (c - 0) then Sum.inl 3 else Sum.inr (c - 0)) else Sum.inl 2) = if bit mk v then Sum.inl 3 else Sum.inr v
      by_cases q : 0 ≤ c ∧ c ≤ 0 + 6
      · rw [if_pos q, if_pos q, b0 _ (by omega), if_neg (show ¬ (false = true) by decide)]
        exact ⟨fun c' h => (by cases h), fun v h => (by rw [Sum.inr.inj h])⟩
      · rw [if_neg q, if_neg q]
        exact ⟨fun c' h => h, fun v h => by cases h⟩
theorem X2_woodTold_eq (w : Nat) {i : Nat} (h : AtC M t i) : ∃ v, f_X2_woodTold w 27 M = some (v, M) ∧ ((v = -1 ∧ ∀ k, k < 4 → isW t i (12 + k) = false) ∨ ∃ k, k < 4 ∧ v = nI k ∧ isW t i (12 + k) = true) := by
  have e1 := X10_isWord_eq w h (k := 12) (by omega) (show (7299435 : Int64) = _ by decide +kernel)
  have e2 := X10_isWord_eq w h (k := 13) (by omega) (show (1885957733 : Int64) = _ by decide +kernel)
  have e3 := X10_isWord_eq w h (k := 14) (by omega) (show (6646893 : Int64) = _ by decide +kernel)
  have e4 := X10_isWord_eq w h (k := 15) (by omega) (show (1818848613 : Int64) = _ by decide +kernel)
  unfold f_X2_woodTold
  rw [r27_0, e1, bI_some]
  cases q1 : isW t i 12
  · rw [if_pos (show b2i false = 0 from rfl), e2, bI_some]
    cases q2 : isW t i 13
    · rw [if_pos (show b2i false = 0 from rfl), e3, bI_some]
      cases q3 : isW t i 14
      · rw [if_pos (show b2i false = 0 from rfl), e4, bI_some]
        cases q4 : isW t i 15
        · refine ⟨-1, rfl, Or.inl ⟨rfl, fun k hk => ?_⟩⟩
          have : k = 0 ∨ k = 1 ∨ k = 2 ∨ k = 3 := by omega
          rcases this with rfl | rfl | rfl | rfl
          · exact q1
          · exact q2
          · exact q3
          · exact q4
        · exact ⟨3, rfl, Or.inr ⟨3, by omega, rfl, q4⟩⟩
      · exact ⟨2, rfl, Or.inr ⟨2, by omega, rfl, q3⟩⟩
    · exact ⟨1, rfl, Or.inr ⟨1, by omega, rfl, q2⟩⟩
  · exact ⟨0, rfl, Or.inr ⟨0, by omega, rfl, q1⟩⟩
end DOORS
