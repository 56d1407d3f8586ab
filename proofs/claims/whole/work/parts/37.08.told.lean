/-! ===== the told: a name, one of some words ===== -/
/-- a told name: which, or what is wrong -/
def tRes (t : TX) (i : Nat) (E : NE) (base : Nat) (mk : Int32) : Nat ⊕ Nat := if isN t i then (match nmd E (tkW t (psn t i)) with
  | some c => if base ≤ c ∧ c ≤ base + 6 then (if bit mk (c - base) then .inl 3 else .inr (c - base)) else .inl 2
  | none => .inl 2) else .inl 1
section TOLDS
variable {t : TX} {p : HP} {E : NE} {M N : mM}
theorem X12_takeTold_87_er (w : Nat) {e : Nat} (h : ErR M e) (x : Int32) : ∃ N, f_X12_takeTold_87 w 163 x M = some (0, N) ∧ FrY M N ∧ ErR N e := by
  unfold f_X12_takeTold_87 f_X12_takeTold_104
  rw [if_neg h.nle, lt_eq]
  have h2 := h.w7 (M.1 163 7 + 0)
  rw [if_neg h2.nle]
  exact ⟨_, rfl, (FrY.rf M).w (Or.inl rfl) _, h2⟩
theorem X12_takeTold_er (w : Nat) {e : Nat} (h : ErR M e) (a b c : Int32) : ∃ N, f_X12_takeTold w 163 a b c M = some (0, N) ∧ FrY M N ∧ ErR N e := by
  unfold f_X12_takeTold f_X12_takeTold_19 f_X12_takeTold_37 f_X12_takeTold_65
  rw [if_neg h.ne, if_neg h.nle, if_neg h.ne, if_neg h.ne]
  exact X12_takeTold_87_er w h _
theorem X12_takeTold_eq (w : Nat) (hw : 1100 ≤ w) (ht : okT t) {m i : Nat} (h : AtR M t m i) (oE : okE p E) (hp : pR p ≤ 7 ∧ pP p ≤ 5) (b : Bool) (hE : NmR M (if b then 173 else 172) (if b then 175 else 174) (if b then 19 else 18) E) {base : Nat} (hb : base ≤ 20) (mk : Int32) : ∃ N, FrY M N ∧ ((∃ v, tRes t i E base mk = .inr v ∧ f_X12_takeTold w 163 (b2i b) (nI base) mk M = some (nI v, N) ∧ AtR N t m (i + 1)) ∨ ∃ c, tRes t i E base mk = .inl c ∧ 1 ≤ c ∧ c ≤ 5 ∧ f_X12_takeTold w 163 (b2i b) (nI base) mk M = some (0, N) ∧ ErR N (er t i c)) := by
  have h8 := h.2.2.2.1
  have hR := hp.1
  have hP := hp.2
  unfold f_X12_takeTold tRes
  rw [h8, if_pos rfl, X12_isName_eq w hw h, bI_some]
  cases en : isN t i
  · obtain ⟨K, a1, a2, a3⟩ := X12_wrong_eq w ht (c := 1) h (by omega) (by omega)
    obtain ⟨L, b1, b2, b3⟩ := X12_takeTold_87_er w a3 (-1)
    refine ⟨L, a2.tr b2, Or.inr ⟨1, by rw [if_neg (by decide)], by omega, by omega, ?_, b3⟩⟩
    unfold f_X12_takeTold_19 f_X12_takeTold_37 f_X12_takeTold_65
    rw [if_pos (show b2i false = 0 from rfl), show f_X12_wrong w 163 1 M = _ from a1, bV_some, if_neg a3.nle, if_neg a3.ne, if_neg a3.ne, b1]
  · have hk : tkK t (psn t i) = 1 := by unfold isN at en; rw [Bool.and_eq_true, decide_eq_true_eq] at en; exact en.1
    rw [if_neg (show ¬ b2i true = 0 by decide), if_pos (show true = true from rfl)]
    unfold f_X12_takeTold_19 f_X12_takeTold_37
    rw [h8, if_pos (show (0 : Int32) ≤ 0 by decide), X12_nameAt_eq w (by omega) h hk oE b hE, bI_some, h8, if_pos rfl, X12_within_eq, bI_some]
    -- what is wrong by 2
    have two : ∀ v : Int32, (!decide (v < 0) && !decide (6 < v)) = false → ∃ N, FrY M N ∧ ErR N (er t i 2) ∧ (if b2i (!decide (v < 0) && !decide (6 < v)) = 0 then bV (f_X12_wrong w 163 2 M) fun M3 => f_X12_takeTold_87 w 163 v M3 else f_X12_takeTold_65 w 163 mk v M) = some (0, N) := fun v hv => by
      obtain ⟨K, a1, a2, a3⟩ := X12_wrong_eq w ht (c := 2) h (by omega) (by omega)
      obtain ⟨L, b1, b2, b3⟩ := X12_takeTold_87_er w a3 v
      refine ⟨L, a2.tr b2, b3, ?_⟩
      rw [hv, if_pos (show b2i false = 0 from rfl), show f_X12_wrong w 163 2 M = _ from a1, bV_some, b1]
    cases ec : nmd E (tkW t (psn t i)) with
    | none =>
      have hv : (!decide (cdI none - nI base < 0) && !decide (6 < cdI none - nI base)) = false := by
        have : cdI none - nI base < 0 := by
          show (-1 : Int32) - nI base < 0
          exact (by decide +kernel : ∀ k, k ≤ 20 → (-1 : Int32) - nI k < 0) base hb
        rw [decide_eq_true this]; rfl
      obtain ⟨L, b2, b3, b1⟩ := two _ hv
      exact ⟨L, b2, Or.inr ⟨2, rfl, by omega, by omega, b1, b3⟩⟩
    | some c =>
      obtain ⟨j, j1, j2, j3⟩ := nlk_some _ ec
      have hc25 : c ≤ 25 := by rcases (oE.2.1 j j1).2 with q | q <;> omega
      show ∃ N, FrY M N ∧ ((∃ v, (if base ≤ c ∧ c ≤ base + 6 then (if bit mk (c - base) then Sum.inl 3 else Sum.inr (c - base)) else Sum.inl 2) = Sum.inr v ∧ _) ∨ ∃ z, (if base ≤ c ∧ c ≤ base + 6 then (if bit mk (c - base) then Sum.inl 3 else Sum.inr (c - base)) else Sum.inl 2) = Sum.inl z ∧ _)
      have e6 : (6 : Int32).toInt = 6 := rfl
      have e0 : (0 : Int32).toInt = 0 := rfl
      have esub := pk_sub_toInt (a := c) (b := base) (by omega) (by omega)
      by_cases q : base ≤ c ∧ c ≤ base + 6
      · rw [if_pos q]
        have hv : (!decide (cdI (some c) - nI base < 0) && !decide (6 < cdI (some c) - nI base)) = true := by
          have h1 : ¬ nI c - nI base < 0 := fun e => by have := Int32.lt_iff_toInt_lt.mp e; omega
          have h2 : ¬ (6 : Int32) < nI c - nI base := fun e => by have := Int32.lt_iff_toInt_lt.mp e; omega
          show (!decide (nI c - nI base < 0) && !decide (6 < nI c - nI base)) = true
          rw [decide_eq_false h1, decide_eq_false h2]; rfl
        rw [hv, if_neg (show ¬ b2i true = 0 by decide), show cdI (some c) - nI base = nI (c - base) from pk_sub q.1]
        unfold f_X12_takeTold_65
        rw [h8, if_pos rfl]
        cases eb : bit mk (c - base)
        · obtain ⟨f, d⟩ := h.step (isN_k en)
          refine ⟨_, f, Or.inl ⟨c - base, by rw [if_neg (by decide)], ?_, d⟩⟩
          unfold f_X12_takeTold_87 f_X12_takeTold_104
          rw [if_neg (fun e => by rw [bit_1] at e; rw [e] at eb; cases eb), h8, if_pos (show (0 : Int32) ≤ 0 by decide), h.2.2.1, nI_1, lt_eq, show (wI M 163 7 (nI (i + 1))).1 163 8 = 0 by rw [w163, if_neg (by decide)]; exact h8, if_pos (show (0 : Int32) ≤ 0 by decide)]
        · obtain ⟨K, a1, a2, a3⟩ := X12_wrong_eq w ht (c := 3) h (by omega) (by omega)
          obtain ⟨L, b1, b2, b3⟩ := X12_takeTold_87_er w a3 (nI (c - base))
          refine ⟨L, a2.tr b2, Or.inr ⟨3, by rw [if_pos rfl], by omega, by omega, ?_, b3⟩⟩
          rw [if_pos ((bit_1 _ _).mpr eb), show f_X12_wrong w 163 3 M = _ from a1, bV_some, b1]
      · rw [if_neg q]
        have hv : (!decide (cdI (some c) - nI base < 0) && !decide (6 < cdI (some c) - nI base)) = false := by
          show (!decide (nI c - nI base < 0) && !decide (6 < nI c - nI base)) = false
          by_cases q2 : base ≤ c
          · have h2 : (6 : Int32) < nI c - nI base := Int32.lt_iff_toInt_lt.mpr (by omega)
            rw [decide_eq_true h2, Bool.not_true, Bool.and_false]
          · have h1 : nI c - nI base < 0 := Int32.lt_iff_toInt_lt.mpr (by omega)
            rw [decide_eq_true h1]; rfl
        obtain ⟨L, b2, b3, b1⟩ := two _ hv
        exact ⟨L, b2, Or.inr ⟨2, rfl, by omega, by omega, b1, b3⟩⟩
theorem X12_takeOne_34_er (w : Nat) {e : Nat} (h : ErR M e) (x : Int32) : ∃ N, f_X12_takeOne_34 w 163 x M = some (0, N) ∧ FrY M N ∧ ErR N e := by
  unfold f_X12_takeOne_34 f_X12_takeOne_51
  rw [if_neg h.nle, lt_eq]
  have h2 := h.w7 (M.1 163 7 + 0)
  rw [if_neg h2.nle]
  exact ⟨_, rfl, (FrY.rf M).w (Or.inl rfl) _, h2⟩
theorem X12_takeOne_er (w : Nat) {e : Nat} (h : ErR M e) (a b : Int32) : ∃ N, f_X12_takeOne w 163 a b M = some (0, N) ∧ FrY M N ∧ ErR N e := by
  unfold f_X12_takeOne f_X12_takeOne_17
  rw [if_neg h.nle, if_neg h.ne]
  exact X12_takeOne_34_er w h _
theorem X12_takeOne_eq (w : Nat) (hw : 1100 ≤ w) (ht : okT t) {m i a n : Nat} (h : AtR M t m i) (ha : a + n ≤ 23) : ∃ N, FrY M N ∧ ((∃ k, k < n ∧ isW t i (a + k) = true ∧ f_X12_takeOne w 163 (nI a) (nI n) M = some (nI k, N) ∧ AtR N t m (i + 1)) ∨ ((∀ k, k < n → isW t i (a + k) = false) ∧ f_X12_takeOne w 163 (nI a) (nI n) M = some (0, N) ∧ ErR N (er t i 1))) := by
  have h8 := h.2.2.2.1
  obtain ⟨v, ev, hv⟩ := X12_wordHere_eq w hw h ha
  unfold f_X12_takeOne f_X12_takeOne_17
  rw [h8, if_pos (show (0 : Int32) ≤ 0 by decide), ev, bI_some, h8, if_pos rfl]
  rcases hv with ⟨v1, v2⟩ | ⟨k, hk, v1, v2⟩
  · obtain ⟨K, a1, a2, a3⟩ := X12_wrong_eq w ht (c := 1) h (by omega) (by omega)
    obtain ⟨L, b1, b2, b3⟩ := X12_takeOne_34_er w a3 v
    refine ⟨L, a2.tr b2, Or.inr ⟨v2, ?_, b3⟩⟩
    rw [if_neg (by rw [v1]; decide), show f_X12_wrong w 163 1 M = _ from a1, bV_some, b1]
  · obtain ⟨f, d⟩ := h.step (isW_k v2)
    refine ⟨_, f, Or.inl ⟨k, hk, v2, ?_, d⟩⟩
    unfold f_X12_takeOne_34 f_X12_takeOne_51
    rw [if_pos (ge0 (by omega) v1), h8, if_pos (show (0 : Int32) ≤ 0 by decide), h.2.2.1, nI_1, lt_eq, show (wI M 163 7 (nI (i + 1))).1 163 8 = 0 by rw [w163, if_neg (by decide)]; exact h8, if_pos (show (0 : Int32) ≤ 0 by decide), v1]
/-! the class's told rooms and walkers -/
theorem X2_roomTold_eq (w : Nat) (hw : 1100 ≤ w) (hp : okP p) {i : Nat} (h : AtC M t i) (hM : M.1 13 0 = nI (pR p)) (oE : okE p E) (hE : NmC M 13 E) : ∃ N, FrB M N ∧ ((∃ v, tRes t i E 0 0 = .inr v ∧ v < pR p ∧ f_X2_roomTold w 27 13 M = some (nI v, N) ∧ N = M) ∨ ∃ c, tRes t i E 0 0 = .inl c ∧ f_X2_roomTold w 27 13 M = some (-1, N) ∧ ErC N (er t i c)) := by
  have hR := hp.1
  have hP := hp.2.2.1
  unfold f_X2_roomTold f_X2_roomTold_25 f_X2_roomTold_50 tRes
  have hin := X10_isName_eq w hw h
  rw [r27_0, hin, bI_some]
  have b0 : ∀ k, k < 32 → bit 0 k = false := fun k hk => by rw [bit_bt _ hk, b_0]
  cases en : isN t i
  · obtain ⟨N, a, b, d⟩ := X10_refuse_eq w (c := 1) h
    refine ⟨N, b, Or.inr ⟨1, by rw [if_neg (by decide)], ?_, d⟩⟩
    rw [if_pos (show b2i false = 0 from rfl), if_pos rfl, hin, bI_some, en, if_pos (show b2i false = 0 from rfl), show f_X10_refuse w 25 1 M = _ from a, bI_some]
  · have hk : tkK t (psn t i) = 1 := by unfold isN at en; rw [Bool.and_eq_true, decide_eq_true_eq] at en; exact en.1
    rw [if_neg (show ¬ b2i true = 0 by decide), if_pos (show true = true from rfl), h.2.2.2.2.1 hk, X6_roomNamed_eq w (by omega) hp rfl hM oE hE (tkW_ok (psn_le i) hk), bI_some]
    have two : ∃ N, FrB M N ∧ (bI (f_X10_refuse w 25 2 M) fun q2 M1 => some ((-1 : Int32), M1)) = some (-1, N) ∧ ErC N (er t i 2) := by
      obtain ⟨N, a, b, d⟩ := X10_refuse_eq w (c := 2) h
      exact ⟨N, b, by rw [show f_X10_refuse w 25 2 M = _ from a, bI_some], d⟩
    cases ec : nmd E (tkW t (psn t i)) with
    | none =>
      obtain ⟨N, b, a, d⟩ := two
      exact ⟨N, b, Or.inr ⟨2, rfl, by rw [if_pos (show rmI none = -1 from rfl), hin, bI_some, en, if_neg (show ¬ b2i true = 0 by decide)]; exact a, d⟩⟩
    | some c =>
      obtain ⟨j, j1, j2, j3⟩ := nlk_some _ ec
      show ∃ N, FrB M N ∧ ((∃ v, (if 0 ≤ c ∧ c ≤ 0 + 6 then (if bit 0 (c - 0) then Sum.inl 3 else Sum.inr (c - 0)) else Sum.inl 2) = Sum.inr v ∧ _) ∨ ∃ z, (if 0 ≤ c ∧ c ≤ 0 + 6 then (if bit 0 (c - 0) then Sum.inl 3 else Sum.inr (c - 0)) else Sum.inl 2) = Sum.inl z ∧ _)
      rcases (oE.2.1 j j1).2 with q | q
      · refine ⟨M, FrB.rf M, Or.inl ⟨c, ?_, by omega, ?_, rfl⟩⟩
        · rw [if_pos (by omega), b0 (c - 0) (by omega), if_neg (by decide), Nat.sub_zero]
        · have e : rmI (some c) = nI c := by show (if c < 20 then nI c else -1) = _; rw [if_pos (by omega)]
          rw [e, if_neg (m1_ne c (by omega))]
      · obtain ⟨N, b, a, d⟩ := two
        refine ⟨N, b, Or.inr ⟨2, by rw [if_neg (by omega)], ?_, d⟩⟩
        have e : rmI (some c) = -1 := by show (if c < 20 then nI c else -1) = _; rw [if_neg (by omega)]
        rw [e, if_pos rfl, hin, bI_some, en, if_neg (show ¬ b2i true = 0 by decide)]; exact a
theorem X0_walkerTold_eq (w : Nat) (hw : 1100 ≤ w) (hp : okP p) {i : Nat} (h : AtC M t i) (hM : M.1 1 2 = nI (pP p)) (oE : okE p E) (hE : ∀ j, j < E.1 → 20 ≤ E.2.2 j → M.2 3 (E.2.2 j - 20) = cvW (E.2.1 j)) : ∃ N, FrB M N ∧ ((∃ v, tRes t i E 20 0 = .inr v ∧ v < pP p ∧ f_X0_walkerTold w 28 1 M = some (nI v, N) ∧ N = M) ∨ ∃ c, tRes t i E 20 0 = .inl c ∧ f_X0_walkerTold w 28 1 M = some (-1, N) ∧ ErC N (er t i c)) := by
  have hR := hp.1
  have hP := hp.2.2.1
  unfold f_X0_walkerTold f_X0_walkerTold_25 f_X0_walkerTold_50 tRes
  have hin := X10_isName_eq w hw h
  rw [r28_0, hin, bI_some]
  have b0 : ∀ k, k < 32 → bit 0 k = false := fun k hk => by rw [bit_bt _ hk, b_0]
  cases en : isN t i
  · obtain ⟨N, a, b, d⟩ := X10_refuse_eq w (c := 1) h
    refine ⟨N, b, Or.inr ⟨1, by rw [if_neg (by decide)], ?_, d⟩⟩
    rw [if_pos (show b2i false = 0 from rfl), if_pos rfl, hin, bI_some, en, if_pos (show b2i false = 0 from rfl), show f_X10_refuse w 25 1 M = _ from a, bI_some]
  · have hk : tkK t (psn t i) = 1 := by unfold isN at en; rw [Bool.and_eq_true, decide_eq_true_eq] at en; exact en.1
    rw [if_neg (show ¬ b2i true = 0 by decide), if_pos (show true = true from rfl), h.2.2.2.2.1 hk, X6_personNamed_eq w (by omega) hp (Or.inr rfl) hM oE hE (tkW_ok (psn_le i) hk), bI_some]
    have two : ∃ N, FrB M N ∧ (bI (f_X10_refuse w 25 2 M) fun q2 M1 => some ((-1 : Int32), M1)) = some (-1, N) ∧ ErC N (er t i 2) := by
      obtain ⟨N, a, b, d⟩ := X10_refuse_eq w (c := 2) h
      exact ⟨N, b, by rw [show f_X10_refuse w 25 2 M = _ from a, bI_some], d⟩
    cases ec : nmd E (tkW t (psn t i)) with
    | none =>
      obtain ⟨N, b, a, d⟩ := two
      exact ⟨N, b, Or.inr ⟨2, rfl, by rw [if_pos (show psI none = -1 from rfl), hin, bI_some, en, if_neg (show ¬ b2i true = 0 by decide)]; exact a, d⟩⟩
    | some c =>
      obtain ⟨j, j1, j2, j3⟩ := nlk_some _ ec
      show ∃ N, FrB M N ∧ ((∃ v, (if 20 ≤ c ∧ c ≤ 20 + 6 then (if bit 0 (c - 20) then Sum.inl 3 else Sum.inr (c - 20)) else Sum.inl 2) = Sum.inr v ∧ _) ∨ ∃ z, (if 20 ≤ c ∧ c ≤ 20 + 6 then (if bit 0 (c - 20) then Sum.inl 3 else Sum.inr (c - 20)) else Sum.inl 2) = Sum.inl z ∧ _)
      rcases (oE.2.1 j j1).2 with q | q
      · obtain ⟨N, b, a, d⟩ := two
        refine ⟨N, b, Or.inr ⟨2, by rw [if_neg (by omega)], ?_, d⟩⟩
        have e : psI (some c) = -1 := by show (if c < 20 then -1 else nI (c - 20)) = _; rw [if_pos (by omega)]
        rw [e, if_pos rfl, hin, bI_some, en, if_neg (show ¬ b2i true = 0 by decide)]; exact a
      · refine ⟨M, FrB.rf M, Or.inl ⟨c - 20, ?_, by omega, ?_, rfl⟩⟩
        · rw [if_pos (by omega), b0 (c - 20) (by omega), if_neg (by decide)]
        · have e : psI (some c) = nI (c - 20) := by show (if c < 20 then -1 else nI (c - 20)) = _; rw [if_neg (by omega)]
          rw [e, if_neg (m1_ne _ (by omega))]
end TOLDS
