/-! ===== shut ===== -/
section Q4
variable {p : HP} {h : HS} {M : mM}
theorem bt_all : ∀ D, D ≤ 8 → ∀ i, i < 32 → bt ((1 : Int32) <<< (nI D &&& 31) - 1) i = decide (i < D) := by decide +kernel
theorem bt_stk (hp : okP p) {i : Nat} (hi : i < 32) : bt (stkM p h) i = (decide (i < pD p) && stk h i) := by
  have := hp.2.1
  unfold stkM
  rw [mask_bt _ _ _ (by omega) i hi, b_0, Bool.false_or]
  by_cases e : i < pD p
  · rw [decide_eq_true e, decide_eq_true (by omega)]
  · rw [decide_eq_false e, decide_eq_false (by omega)]
theorem bt_op (hp : okP p) {i : Nat} (hi : i < 32) : bt (opM p h) i = (decide (i < pD p) && !stk h i) := by
  unfold opM
  rw [b_and, bt_all _ hp.2.1 i hi, b_xor, b_m1 i hi, bt_stk hp hi]
  cases decide (i < pD p) <;> cases stk h i <;> rfl
/-- a room whose doors all stick, and that has doors -/
def shq (p : HP) (h : HS) (r : Nat) : Bool := decide (onM p (opM p h) (one r) = one r) && !decide (onM p (stkM p h) (one r) = one r)
theorem X9_shutPersons_eq (w : Nat) (hw : 9 ≤ w) {o : Nat} (ho : o ∈ [31, 35, 41, 45, 49, 53, 57, 61, 65, 69, 73, 77, 81, 85, 89, 93, 97, 101, 119, 130, 141, 152]) (hp : okP p) (hh : okS p h) (hc : PlC M 1 p) (hs : StC M o p h) : f_X9_shutPersons w o M = some (mask (fun q => shq p h (sPl h q)) 0 0 (pP p), M) := by
  have hP := hp.2.2.1
  obtain ⟨e0, -, -, e3, -, -, e6⟩ := stF o ho
  unfold f_X9_shutPersons f_X6_allDoors
  rw [X9_stuckDoors_eq w hw ho hp hh hs hc.2.1, bI_some, e0, bI_some, hc.2.1, lt_eq, ← itG_mask]
  show f_X9_shutPersons_22 w w o (stkM p h) (opM p h) 0 (nI 0) M = _
  refine loopP (fun n x k => f_X9_shutPersons_22 w n o (stkM p h) (opM p h) x (nI k) M) _ (fun x => some (x, M)) (pP p) ?_ ?_ (by omega) 0
  · intro n x
    simp (discharger := omega) only [f_X9_shutPersons_22, e0, hc.2.2.1, lit_s, nI_add, pk_mul, nI_clamp, chk_nI, bI_s, bV_s, ltv_s, nI_leI, nI_ltI, nI_eq, bitN0, bitN1, oneN, b2i0, b2i1, b2it, b2if, rtB_b, if_pos, if_neg, if_true, if_false, Bool.false_eq_true, Bool.true_eq_false, ite_self, or_n0]
  · intro n x k hk
    have g := hs.2.2.2 k hk
    simp (discharger := omega) only [f_X9_shutPersons_22, e0, e3, e6, hc.2.2.1, g, X6_oneDoorOn_eq w hw hp hc, lit_s, nI_add, pk_mul, nI_clamp, chk_nI, bI_s, bV_s, ltv_s, nI_leI, nI_ltI, nI_eq, bitN0, bitN1, oneN, b2i0, b2i1, b2it, b2if, rtB_b, if_pos, if_neg, if_true, if_false, Bool.false_eq_true, Bool.true_eq_false, ite_self, or_n0]
    by_cases a : onM p (opM p h) (one (sPl h k)) = one (sPl h k)
    · by_cases b : onM p (stkM p h) (one (sPl h k)) = one (sPl h k)
      · simp [orB, shq, a, b]
      · simp [orB, shq, a, b]
    · simp [orB, shq, a]
theorem itG_2 (A B : Nat → Bool) : ∀ j k (s : Nat × Nat), itG (fun d (s : Nat × Nat) => (s.1 + (if A d then 1 else 0), s.2 + (if B d then 1 else 0))) j k s = (s.1 + cntF A k j, s.2 + cntF B k j) := by
  intro j
  induction j with
  | zero => intro k s; rfl
  | succ j ih => intro k s; unfold itG cntF; rw [ih]; simp only [Nat.add_assoc]
theorem shq_cnt (hp : okP p) {r : Nat} (hr : r < 32) : shq p h r = (decide (0 < cntF (adj p r) 0 (pD p)) && decide (cntF (fun d => adj p r d && !stk h d) 0 (pD p) = 0)) := by
  have hD := hp.2.1
  have o1 := on_one hp (opM p h) hr
  have o2 := on_one hp (stkM p h) hr
  have k1 : onM p (opM p h) (one r) = one r ↔ cntF (fun d => adj p r d && !stk h d) 0 (pD p) = 0 := by
    rw [o1, cntF_0]
    constructor
    · intro g d _ hd
      have := g d (by omega)
      rw [bit_bt _ (by omega), bt_op hp (by omega), decide_eq_true (show d < pD p by omega), Bool.true_and] at this
      cases e : stk h d
      · rw [e] at this; rw [this rfl]; rfl
      · simp
    · intro g d hd hb
      have := g d (by omega) (by omega)
      rw [bit_bt _ (by omega), bt_op hp (by omega), decide_eq_true hd, Bool.true_and] at hb
      rw [hb] at this
      simpa using this
  unfold shq
  by_cases e1 : onM p (opM p h) (one r) = one r
  · have c1 := k1.mp e1
    rw [decide_eq_true e1, decide_eq_true c1, Bool.true_and, Bool.and_true]
    have k2 : onM p (stkM p h) (one r) = one r ↔ cntF (adj p r) 0 (pD p) = 0 := by
      rw [o2, cntF_0]
      constructor
      · intro g d _ hd
        have g1 := g d (by omega)
        have g2 := (cntF_0 _ _).mp c1 d (by omega) (by omega)
        rw [bit_bt _ (by omega), bt_stk hp (by omega), decide_eq_true (show d < pD p by omega), Bool.true_and] at g1
        cases e : stk h d
        · rw [e] at g2; simpa using g2
        · exact g1 e
      · intro g d hd _
        exact g d (by omega) (by omega)
    by_cases e2 : onM p (stkM p h) (one r) = one r
    · rw [decide_eq_true e2, k2.mp e2]; rfl
    · rw [decide_eq_false e2, decide_eq_true (Nat.pos_of_ne_zero (fun e => e2 (k2.mpr e)))]; rfl
  · rw [decide_eq_false e1, decide_eq_false (fun e => e1 (k1.mpr e)), Bool.and_false]; rfl
/-- where door d leads from r -/
def bhd (p : HP) (d r : Nat) : Int32 := if pA p d = r then nI (pB p d) else if pB p d = r then nI (pA p d) else -1
theorem X12_behind_eq (w : Nat) (hp : okP p) (hc : PlR M 0 p) {d r : Nat} (hd : d < pD p) (hr : r < 100) : f_X12_behind w 163 (nI d) (nI r) M = some (bhd p d r, M) := by
  obtain ⟨ga, gb, -, -⟩ := hc.2.2.2.1 d hd
  obtain ⟨ra, rb, -, -⟩ := hp.2.2.2.1 d hd
  have hD := hp.2.1
  have hR := hp.1
  rw [Nat.zero_add] at ga gb
  unfold f_X12_behind bhd
  rw [X12_doorOf0 w (by omega), bI_some, X12_doorOf1 w (by omega), bI_some, ga, gb, bI_some, X12_doorOf0 w (by omega), bI_some, ga]
  simp (discharger := omega) only [nI_eq]
  split
  · rfl
  · split <;> rfl
theorem bhd_neg {d r : Nat} (hp : okP p) (hd : d < pD p) : (bhd p d r < nI 0) = (adj p r d = false) := by
  obtain ⟨ra, rb, -, -⟩ := hp.2.2.2.1 d hd
  have hR := hp.1
  unfold bhd adj
  by_cases a : pA p d = r
  · rw [if_pos a, decide_eq_true a]
    exact propext ⟨fun e => absurd e (nI_pos (by omega)), fun e => by cases e⟩
  · rw [if_neg a, decide_eq_false a]
    by_cases b : pB p d = r
    · rw [if_pos b, decide_eq_true b]
      exact propext ⟨fun e => absurd e (nI_pos (by omega)), fun e => by cases e⟩
    · rw [if_neg b, decide_eq_false b]
      exact propext ⟨fun _ => rfl, fun _ => by decide⟩
theorem X12_shutIn_21_eq (w : Nat) (hw : 9 ≤ w) {b : Nat} (hb : b ≤ 1430) (hp : okP p) (hh : okS p h) (hc : PlR M 0 p) (hs : StR M b p h) (k4 : Nat → Int32 → Int32 → Int32 → mM → Option (Int32 × mM)) (x : Int32) {q : Nat} (hq : q < pP p) : f_X12_shutIn_21 w k4 w 163 (nI b) x (nI q) 0 0 0 M = k4 163 (nI b) (orB (fun q => shq p h (sPl h q)) q x) (nI (q + 1)) M := by
  have hP := hp.2.2.1
  have hD := hp.2.1
  have hR := hp.1
  have hDc : M.1 169 1 = nI (pD p) := hc.2.1
  have g := hs.2.2.2 q hq
  have hr := hh.2.2 q hq
  have main := loopP (fun n (s : Nat × Nat) k => f_X12_shutIn_21 w k4 n 163 (nI b) x (nI q) (nI s.1) (nI s.2) (nI k) M) (fun d s => (s.1 + (if adj p (sPl h q) d then 1 else 0), s.2 + (if adj p (sPl h q) d && !stk h d then 1 else 0))) (fun s => f_X12_shutIn_103 w k4 163 (nI b) x (nI q) (nI s.1) (nI s.2) M) (pD p) (by
    intro n s
    simp (discharger := omega) only [f_X12_shutIn_21, X12_doors_eq, hDc, lit_s, nI_add, pk_mul, nI_clamp, chk_nI, bI_s, bV_s, ltv_s, nI_leI, nI_ltI, nI_eq, bitN0, bitN1, oneN, b2i0, b2i1, b2it, b2if, rtB_b, if_pos, if_neg, if_true, if_false, Bool.false_eq_true, Bool.true_eq_false, ite_self, or_n0]) (by
    intro n s k hk
    simp (discharger := omega) only [f_X12_shutIn_21, X12_doors_eq, hDc, r163_24, l179, g, X12_behind_eq w hp hc hk, bhd_neg hp hk, f_X12_shutIn_55, f_X12_shutIn_69, X12_doesStick_eq w hb hp hh hs hk, lit_s, nI_add, pk_mul, nI_clamp, chk_nI, bI_s, bV_s, ltv_s, nI_leI, nI_ltI, nI_eq, bitN0, bitN1, oneN, b2i0, b2i1, b2it, b2if, rtB_b, if_pos, if_neg, if_true, if_false, Bool.false_eq_true, Bool.true_eq_false, ite_self, or_n0]
    cases adj p (sPl h q) k <;> cases stk h k <;> rfl) (show pD p < w by omega) (0, 0)
  refine main.trans ?_
  rw [itG_2]
  have c1 := cntF_le (q := adj p (sPl h q)) (pD p) 0
  have c2 := cntF_le (q := fun d => adj p (sPl h q) d && !stk h d) (pD p) 0
  have key := shq_cnt (h := h) hp (show sPl h q < 32 by omega)
  simp (discharger := omega) only [f_X12_shutIn_103, Nat.zero_add, lit_s, nI_add, pk_mul, nI_clamp, chk_nI, bI_s, bV_s, ltv_s, nI_leI, nI_ltI, nI_eq, bitN0, bitN1, oneN, b2i0, b2i1, b2it, b2if, rtB_b, if_pos, if_neg, if_true, if_false, Bool.false_eq_true, Bool.true_eq_false, ite_self, or_n0]
  simp only [orB, key]
  by_cases a : 0 < cntF (adj p (sPl h q)) 0 (pD p)
  · rw [if_neg (show ¬ cntF (adj p (sPl h q)) 0 (pD p) ≤ 0 by omega), decide_eq_true a, Bool.true_and]
    by_cases b : cntF (fun d => adj p (sPl h q) d && !stk h d) 0 (pD p) = 0
    · rw [if_pos b, decide_eq_true b]; rfl
    · rw [if_neg b, decide_eq_false b]; rfl
  · rw [if_pos (show cntF (adj p (sPl h q)) 0 (pD p) ≤ 0 by omega), decide_eq_false a]; rfl
theorem X12_shutIn_eq (w : Nat) (hw : 9 ≤ w) {b : Nat} (hb : b ≤ 1430) (hp : okP p) (hh : okS p h) (hc : PlR M 0 p) (hs : StR M b p h) : f_X12_shutIn w 163 (nI b) M = some (mask (fun q => shq p h (sPl h q)) 0 0 (pP p), M) := by
  have hP := hp.2.2.1
  have hPc : M.1 169 2 = nI (pP p) := hc.2.2.1
  unfold f_X12_shutIn
  rw [← itG_mask]
  refine loopP (fun n x k => f_X12_shutIn_4 w n 163 (nI b) x (nI k) M) _ (fun x => some (x, M)) (pP p) ?_ ?_ (by omega) 0
  · intro n x
    simp (discharger := omega) only [f_X12_shutIn_4, X12_persons_eq, hPc, lit_s, nI_add, pk_mul, nI_clamp, chk_nI, bI_s, bV_s, ltv_s, nI_leI, nI_ltI, nI_eq, bitN0, bitN1, oneN, b2i0, b2i1, b2it, b2if, rtB_b, if_pos, if_neg, if_true, if_false, Bool.false_eq_true, Bool.true_eq_false, ite_self, or_n0]
  · intro n x k hk
    have g := X12_shutIn_21_eq w hw hb hp hh hc hs (f_X12_shutIn_4 w n) x hk
    rw [f_X12_shutIn_4, X12_persons_eq, bI_some, hPc, if_neg (fun h => by have := (nI_leI (by omega) (by omega)).mp h; omega)]
    exact g
theorem X11_shut_eq (w : Nat) (hw : 9 ≤ w) (q : QR p h M) : ∃ v, f_X11_shut w 0 M = some (v, M) ∧ f_X12_shut w 163 M = some (v, th0 M) := by
  have q0 := q.th0
  obtain ⟨hp, hh, hc, hr, hs, ht⟩ := q
  obtain ⟨-, -, -, hr0, -, ht0⟩ := q0
  unfold f_X11_shut f_X12_shut
  rw [r0_6, X9_shutPersons_eq w hw mem31 hp hh hc hs, bI_some, lt_eq, show wI M 163 0 0 = th0 M from rfl, show f_X12_shutIn w 163 0 (th0 M) = _ from X12_shutIn_eq w hw (b := 0) (by omega) hp hh hr0 ht0, bI_some]
  exact ⟨_, rfl, rfl⟩
end Q4
