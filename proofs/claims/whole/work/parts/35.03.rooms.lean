/-! Int32 by its bits: the family bt out of kit/laws/BITS.to-paste, pasted; then what both programs do with sets of rooms and doors -/
def bt (x : Int32) (i : Nat) : Bool := x.toBitVec.getLsbD i
theorem b_ext {x y : Int32} (h : ∀ i, i < 32 → bt x i = bt y i) : x = y := Int32.toBitVec_inj.mp (BitVec.eq_of_getLsbD_eq (fun i hi => h i hi))
theorem b_or (x y : Int32) (i : Nat) : bt (x ||| y) i = (bt x i || bt y i) := by unfold bt; rw [Int32.toBitVec_or, BitVec.getLsbD_or]
theorem b_and (x y : Int32) (i : Nat) : bt (x &&& y) i = (bt x i && bt y i) := by unfold bt; rw [Int32.toBitVec_and, BitVec.getLsbD_and]
theorem b_xor (x y : Int32) (i : Nat) : bt (x ^^^ y) i = (bt x i ^^ bt y i) := by unfold bt; rw [Int32.toBitVec_xor, BitVec.getLsbD_xor]
theorem b_big {x : Int32} {i : Nat} (h : 32 ≤ i) : bt x i = false := BitVec.getLsbD_of_ge _ _ h
theorem b_255 (i : Nat) : bt 255 i = decide (i < 8) := by
  rcases Nat.lt_or_ge i 32 with h | h
  · exact (by decide +kernel : ∀ i, i < 32 → bt 255 i = decide (i < 8)) i h
  · rw [b_big h, decide_eq_false (by omega)]
theorem b_65535 (i : Nat) : bt 65535 i = decide (i < 16) := by
  rcases Nat.lt_or_ge i 32 with h | h
  · exact (by decide +kernel : ∀ i, i < 32 → bt 65535 i = decide (i < 16)) i h
  · rw [b_big h, decide_eq_false (by omega)]
theorem b_m1 : ∀ i, i < 32 → bt (-1) i = true := by decide +kernel
theorem b_0 (i : Nat) : bt 0 i = false := BitVec.getLsbD_zero
theorem s_l : ∀ n, n < 32 → ((nI n &&& 31).toBitVec.smod 32).toNat = n := by decide +kernel
theorem s_u : ∀ n, n < 32 → (((nI n).toUInt32 &&& Int32.toUInt32 31).toBitVec % 32).toNat = n := by decide +kernel
theorem b_shl (n : Nat) (hn : n < 32) (x : Int32) {i : Nat} (hi : i < 32) : bt (x <<< (nI n &&& 31)) i = (decide (n ≤ i) && bt x (i - n)) := by
  unfold bt
  rw [Int32.toBitVec_shiftLeft]
  show (x.toBitVec <<< ((nI n &&& 31).toBitVec.smod 32).toNat).getLsbD i = _
  rw [s_l n hn, BitVec.getLsbD_shiftLeft]
  rcases Nat.lt_or_ge i n with h | h
  · simp [h, Nat.not_le.mpr h]
  · simp [hi, h, Nat.not_lt.mpr h]
theorem b_ushr (n : Nat) (hn : n < 32) (x : Int32) (i : Nat) : bt ((x.toUInt32 >>> ((nI n).toUInt32 &&& Int32.toUInt32 31)).toInt32) i = bt x (n + i) := by
  show (x.toUInt32 >>> ((nI n).toUInt32 &&& Int32.toUInt32 31)).toBitVec.getLsbD i = x.toUInt32.toBitVec.getLsbD (n + i)
  rw [UInt32.toBitVec_shiftRight]
  show (x.toUInt32.toBitVec >>> (((nI n).toUInt32 &&& Int32.toUInt32 31).toBitVec % 32).toNat).getLsbD i = _
  rw [s_u n hn, BitVec.getLsbD_ushiftRight]
theorem b_sshr (n : Nat) (hn : n < 32) (x : Int32) {i : Nat} (hi : i < 32) : bt (x >>> (nI n &&& 31)) i = if n + i < 32 then bt x (n + i) else bt x 31 := by
  unfold bt
  rw [Int32.toBitVec_shiftRight]
  show (x.toBitVec.sshiftRight ((nI n &&& 31).toBitVec.smod 32).toNat).getLsbD i = _
  rw [s_l n hn, BitVec.getLsbD_sshiftRight, BitVec.msb_eq_getLsbD_last]
  simp [hi]
def one (k : Nat) : Int32 := (1 : Int32) <<< (nI k &&& 31)
theorem b_1 (i : Nat) : bt 1 i = decide (i = 0) := by
  rcases Nat.lt_or_ge i 32 with h | h
  · exact (by decide +kernel : ∀ i, i < 32 → bt 1 i = decide (i = 0)) i h
  · rw [b_big h, decide_eq_false (by omega)]
theorem bt_one {k i : Nat} (hk : k < 32) (hi : i < 32) : bt (one k) i = decide (i = k) := by
  unfold one
  rw [b_shl k hk 1 hi, b_1]
  by_cases h : i = k
  · subst h; simp
  · rw [decide_eq_false h]
    by_cases h2 : k ≤ i
    · rw [decide_eq_false (show ¬ i - k = 0 by omega), Bool.and_false]
    · rw [decide_eq_false h2, Bool.false_and]
theorem bit_bt (x : Int32) {d : Nat} (hd : d < 32) : bit x d = bt x d := by
  have key : (x >>> (nI d &&& 31)) &&& 1 = if bt x d then 1 else 0 := by
    apply b_ext
    intro i hi
    rw [b_and, b_1, b_sshr d hd x hi]
    by_cases h : i = 0
    · subst h
      rw [Nat.add_zero, if_pos hd]
      cases bt x d
      · rw [if_neg (by decide), b_0]; rfl
      · rw [if_pos rfl, b_1]; rfl
    · rw [decide_eq_false h, Bool.and_false]
      cases bt x d
      · rw [if_neg (by decide), b_0]
      · rw [if_pos rfl, b_1, decide_eq_false h]
  unfold bit
  rw [key]
  cases bt x d <;> decide
theorem or_as (x y z : Int32) : x ||| y ||| z = x ||| (y ||| z) := b_ext fun i _ => by rw [b_or, b_or, b_or, b_or, Bool.or_assoc]
theorem or_0 (x : Int32) : x ||| 0 = x := b_ext fun i _ => by rw [b_or, b_0, Bool.or_false]
theorem or_self' (x : Int32) : x ||| x = x := b_ext fun i _ => by rw [b_or, Bool.or_self]
def sub (x y : Int32) : Prop := ∀ i, i < 32 → bt x i = true → bt y i = true
theorem sub_rf (x : Int32) : sub x x := fun _ _ h => h
theorem sub_or {x y : Int32} (z : Int32) (h : sub x y) : sub x (y ||| z) := fun i hi hx => by rw [b_or, h i hi hx]; rfl
/-- what one door adds to the rooms S -/
def dAdd (p : HP) (opn S : Int32) (k : Nat) : Int32 := if bit opn k then (if bit S (pA p k) then one (pB p k) else 0) ||| (if bit S (pB p k) then one (pA p k) else 0) else 0
def onL (p : HP) (opn S : Int32) : Nat → Nat → Int32 → Int32
  | 0, _, acc => acc
  | j + 1, k, acc => onL p opn S j (k + 1) (acc ||| dAdd p opn S k)
/-- through one open door, from the rooms S -/
def onM (p : HP) (opn S : Int32) : Int32 := onL p opn S (pD p) 0 S
theorem ends_add {p : HP} {S acc : Int32} {a b : Nat} (ha : a < 32) (hb : b < 32) (hs : sub S acc) : (if S &&& (one a ||| one b) = 0 then acc else acc ||| (one a ||| one b)) = acc ||| ((if bit S a then one b else 0) ||| (if bit S b then one a else 0)) := by
  rw [bit_bt S ha, bit_bt S hb]
  by_cases h : S &&& (one a ||| one b) = 0
  · have h1 : ∀ i, i < 32 → (bt S i && (decide (i = a) || decide (i = b))) = false := fun i hi => by
      have := congrArg (fun z => bt z i) h
      simp only [b_and, b_or, bt_one ha hi, bt_one hb hi, b_0] at this
      exact this
    have e1 : bt S a = false := by simpa using h1 a ha
    have e2 : bt S b = false := by simpa using h1 b hb
    rw [if_pos h, e1, e2]
    simp only [Bool.false_eq_true, if_false]
    rw [or_0, or_0]
  · rw [if_neg h]
    have h1 : bt S a = true ∨ bt S b = true := by
      cases e1 : bt S a
      · cases e2 : bt S b
        · exact absurd (b_ext fun i hi => by
            rw [b_and, b_or, bt_one ha hi, bt_one hb hi, b_0]
            by_cases q1 : i = a
            · subst q1; rw [e1]; rfl
            · by_cases q2 : i = b
              · subst q2; rw [e2]; rfl
              · rw [decide_eq_false q1, decide_eq_false q2]; simp) h
        · exact Or.inr rfl
      · exact Or.inl rfl
    apply b_ext
    intro i hi
    have sa := hs a ha
    have sb := hs b hb
    rw [b_or, b_or, b_or, b_or, bt_one ha hi, bt_one hb hi]
    cases e1 : bt S a <;> cases e2 : bt S b
    · rw [e1, e2] at h1; rcases h1 with h1 | h1 <;> cases h1
    · have sb := sb e2
      simp only [Bool.false_eq_true, if_false, if_true, b_0, bt_one ha hi]
      by_cases q2 : i = b
      · subst q2; rw [sb]; simp
      · simp [q2]
    · have sa := sa e1
      simp only [Bool.false_eq_true, if_false, if_true, b_0, bt_one hb hi]
      by_cases q2 : i = a
      · subst q2; rw [sa]; simp
      · simp [q2]
    · simp only [if_true, bt_one ha hi, bt_one hb hi]
      by_cases q1 : i = a <;> by_cases q2 : i = b <;> simp [q1, q2]
section ROOMS
variable {p : HP} {M : mM}
theorem X6_oneDoorOn_5_eq (w : Nat) (hp : okP p) (hc : PlC M 1 p) (opn S : Int32) : ∀ (j n k : Nat) (acc : Int32), k + j = pD p → j < n → sub S acc → f_X6_oneDoorOn_5 w n 1 S opn acc (nI k) M = some (onL p opn S j k acc, M) := by
  obtain ⟨hR, hD, hP, hdo, -⟩ := hc
  have hD8 := hp.2.1
  intro j
  induction j with
  | zero =>
    intro n k acc hk hn hs
    obtain ⟨n, rfl⟩ : ∃ m, n = m + 1 := ⟨n - 1, by omega⟩
    rw [f_X6_oneDoorOn_5, hD, if_pos ((nI_leI (by omega) (by omega)).mpr (by omega))]
    rfl
  | succ j ih =>
    intro n k acc hk hn hs
    obtain ⟨n, rfl⟩ : ∃ m, n = m + 1 := ⟨n - 1, by omega⟩
    obtain ⟨ga, gb, -, -⟩ := hdo k (by omega)
    obtain ⟨ra, rb, -, -⟩ := hp.2.2.2.1 k (by omega)
    have hR7 := hp.1
    rw [f_X6_oneDoorOn_5, hD, if_neg (fun h => by have := (nI_leI (by omega) (by omega)).mp h; omega), r1_7, r1_8, l5, l6, chk_ok _ rfl (by omega) (by decide), chk_ok _ rfl (by omega) (by decide), nI_clamp (by omega), nI_1]
    have ga : M.1 5 k = nI (pA p k) := ga
    have gb : M.1 6 k = nI (pB p k) := gb
    rw [ga, gb, lt_eq]
    have key := ends_add (p := p) (S := S) (acc := acc) (a := pA p k) (b := pB p k) (by omega) (by omega) hs
    unfold onL
    have hs2 : sub S (acc ||| dAdd p opn S k) := sub_or _ hs
    by_cases ho : bit opn k = true
    · rw [if_neg (fun e => by rw [bit_0] at e; rw [e] at ho; cases ho)]
      have e1 : acc ||| dAdd p opn S k = if S &&& (one (pA p k) ||| one (pB p k)) = 0 then acc else acc ||| (one (pA p k) ||| one (pB p k)) := by rw [key]; unfold dAdd; rw [if_pos ho]
      show (if S &&& (one (pA p k) ||| one (pB p k)) = 0 then _ else lt (acc ||| (one (pA p k) ||| one (pB p k))) _) = _
      rw [e1] at hs2 ⊢
      by_cases he : S &&& (one (pA p k) ||| one (pB p k)) = 0
      · rw [if_pos he] at hs2 ⊢
        rw [if_pos he]
        exact ih n (k + 1) acc (by omega) (by omega) hs2
      · rw [if_neg he] at hs2 ⊢
        rw [if_neg he]
        exact ih n (k + 1) _ (by omega) (by omega) hs2
    · have ho := Bool.eq_false_iff.mpr ho
      have e1 : acc ||| dAdd p opn S k = acc := by unfold dAdd; rw [if_neg (by rw [ho]; decide), or_0]
      rw [if_pos ((bit_0 _ _).mpr ho), e1]
      exact ih n (k + 1) acc (by omega) (by omega) hs
theorem X6_oneDoorOn_eq (w : Nat) (hw : 9 ≤ w) (hp : okP p) (hc : PlC M 1 p) (opn S : Int32) : f_X6_oneDoorOn w 1 S opn M = some (onM p opn S, M) :=
  X6_oneDoorOn_5_eq w hp hc opn S (pD p) w 0 S (by omega) (by have := hp.2.1; omega) (sub_rf S)
theorem X12_doorOf_eq (w : Nat) {d j : Nat} (hd : d < 8) (hj : j < 4) (M : mM) : f_X12_doorOf w 163 (nI d) (nI j) M = some (M.1 169 (5 + 4 * d + j), M) := by
  unfold f_X12_doorOf
  rw [r163_10, l169, show 5 + 4 * nI d + nI j = nI (5 + 4 * d + j) by rw [nx_lit, nx_lit, pk_mul, nI_add, nI_add], chk_ok _ rfl (by omega) (by decide), nI_clamp (by omega)]
theorem X12_doorOf0 (w : Nat) {d : Nat} (hd : d < 8) (M : mM) : f_X12_doorOf w 163 (nI d) 0 M = some (M.1 169 (5 + 4 * d), M) := X12_doorOf_eq w hd (j := 0) (by decide) M
theorem X12_doorOf1 (w : Nat) {d : Nat} (hd : d < 8) (M : mM) : f_X12_doorOf w 163 (nI d) 1 M = some (M.1 169 (6 + 4 * d), M) := by
  rw [show 6 + 4 * d = 5 + 4 * d + 1 by omega]; exact X12_doorOf_eq w hd (j := 1) (by decide) M
theorem X12_doorOf2 (w : Nat) {d : Nat} (hd : d < 8) (M : mM) : f_X12_doorOf w 163 (nI d) 2 M = some (M.1 169 (7 + 4 * d), M) := by
  rw [show 7 + 4 * d = 5 + 4 * d + 2 by omega]; exact X12_doorOf_eq w hd (j := 2) (by decide) M
theorem X12_doorOf3 (w : Nat) {d : Nat} (hd : d < 8) (M : mM) : f_X12_doorOf w 163 (nI d) 3 M = some (M.1 169 (8 + 4 * d), M) := by
  rw [show 8 + 4 * d = 5 + 4 * d + 3 by omega]; exact X12_doorOf_eq w hd (j := 3) (by decide) M
theorem X12_onFrom_st (w : Nat) (k5 : Nat → Int32 → Int32 → Int32 → Int32 → mM → Option (Int32 × mM)) (opn S acc : Int32) (k a b : Nat) (N : mM) : (if ((opn >>> (nI k &&& 31)) &&& 1) = 1 then (f_X12_onFrom_47 w k5 163 S opn acc (nI k) (nI a) (nI b) 1 N) else (f_X12_onFrom_47 w k5 163 S opn acc (nI k) (nI a) (nI b) 0 N)) = k5 163 S opn (acc ||| (if bit opn k then (if bit S a then one b else 0) ||| (if bit S b then one a else 0) else 0)) (nI (k + 1)) N := by
  cases ho : bit opn k
  · rw [if_neg (fun e => by rw [bit_1] at e; rw [e] at ho; cases ho), if_neg (by decide)]
    simp only [f_X12_onFrom_47, f_X12_onFrom_72, f_X12_onFrom_73, lt_eq, if_true, or_0, nI_1]
  · rw [if_pos ((bit_1 _ _).mpr ho), if_pos rfl]
    unfold f_X12_onFrom_47
    rw [if_neg (by decide)]
    cases h1 : bit S a <;> cases h2 : bit S b
    · rw [if_neg (fun e => by rw [bit_1] at e; rw [e] at h1; cases h1)]
      unfold f_X12_onFrom_72 f_X12_onFrom_73
      rw [lt_eq, if_neg (by decide), if_neg (fun e => by rw [bit_1] at e; rw [e] at h2; cases h2), lt_eq]
      simp only [Bool.false_eq_true, if_false, or_0, nI_1]
    · rw [if_neg (fun e => by rw [bit_1] at e; rw [e] at h1; cases h1)]
      unfold f_X12_onFrom_72 f_X12_onFrom_73
      rw [lt_eq, if_neg (by decide), if_pos ((bit_1 _ _).mpr h2), lt_eq]
      simp only [Bool.false_eq_true, if_false, if_true, or_0, nI_1]
      rw [show (0 : Int32) ||| one a = one a from b_ext fun i _ => by rw [b_or, b_0, Bool.false_or]]
      rfl
    · rw [if_pos ((bit_1 _ _).mpr h1)]
      unfold f_X12_onFrom_73
      rw [lt_eq, if_neg (by decide), if_neg (fun e => by rw [bit_1] at e; rw [e] at h2; cases h2), lt_eq]
      simp only [Bool.false_eq_true, if_false, if_true, or_0, nI_1]
      rfl
    · rw [if_pos ((bit_1 _ _).mpr h1)]
      unfold f_X12_onFrom_73
      rw [lt_eq, if_neg (by decide), if_pos ((bit_1 _ _).mpr h2), lt_eq]
      simp only [if_true, nI_1, or_as]
      rfl
theorem X12_onFrom_5_eq (w : Nat) (hp : okP p) (hc : PlR M 0 p) (opn S : Int32) : ∀ (j n k : Nat) (acc : Int32), k + j = pD p → j < n → f_X12_onFrom_5 w n 163 S opn acc (nI k) M = some (onL p opn S j k acc, M) := by
  obtain ⟨hR, hD, hP, hdo, -⟩ := hc
  have hD : M.1 169 1 = nI (pD p) := hD
  have hD8 := hp.2.1
  intro j
  induction j with
  | zero =>
    intro n k acc hk hn
    obtain ⟨n, rfl⟩ : ∃ m, n = m + 1 := ⟨n - 1, by omega⟩
    rw [f_X12_onFrom_5, X12_doors_eq, bI_some, hD, if_pos ((nI_leI (by omega) (by omega)).mpr (by omega))]
    rfl
  | succ j ih =>
    intro n k acc hk hn
    obtain ⟨n, rfl⟩ : ∃ m, n = m + 1 := ⟨n - 1, by omega⟩
    obtain ⟨ga, gb, -, -⟩ := hdo k (by omega)
    rw [Nat.zero_add] at ga gb
    rw [f_X12_onFrom_5, X12_doors_eq, bI_some, hD, if_neg (fun h => by have := (nI_leI (by omega) (by omega)).mp h; omega), X12_doorOf0 w (by omega), bI_some, X12_doorOf1 w (by omega), bI_some, ga, gb, X12_onFrom_st]
    exact ih n (k + 1) _ (by omega) (by omega)
theorem X12_onFrom_eq (w : Nat) (hw : 9 ≤ w) (hp : okP p) (hc : PlR M 0 p) (opn S : Int32) : f_X12_onFrom w 163 S opn M = some (onM p opn S, M) :=
  X12_onFrom_5_eq w hp hc opn S (pD p) w 0 S (by omega) (by have := hp.2.1; omega)
end ROOMS
