/-! ===== counting bits; bride, spared, opened ===== -/
section BC
variable {p : HP} {h : HS} {M : mM}
def pop (x : Int32) : Nat := cnt (bt x) 8
theorem bits_all : ∀ m, m < 256 → itG (fun k (s : Int32) => s + ((nI m >>> (nI k &&& nI 31)) &&& nI 1)) 30 0 0 = nI (pop (nI m)) := by decide +kernel
theorem in8 {x : Int32} (h : inR 8 x) : ∃ m, m < 256 ∧ x = nI m := by
  obtain ⟨j, hj, e⟩ := pk_andE x (m := 255) 8 (by decide)
  refine ⟨j, hj, ?_⟩
  rw [← e]
  apply b_ext
  intro i hi
  rw [b_and, b_255]
  cases e2 : bt x i
  · rfl
  · rw [decide_eq_true (h i hi e2)]; rfl
theorem X12_bits_eq (w : Nat) (hw : 40 ≤ w) {x : Int32} (hx : inR 8 x) (M : mM) : f_X12_bits w x M = some (nI (pop x), M) := by
  obtain ⟨m, hm, rfl⟩ := in8 hx
  unfold f_X12_bits
  refine (loopP (fun n s k => f_X12_bits_4 w n (nI m) s (nI k) M) (fun k (s : Int32) => s + ((nI m >>> (nI k &&& nI 31)) &&& nI 1)) (fun s => some (s, M)) 30 ?_ ?_ (by omega) 0).trans (by rw [bits_all m hm])
  · intro n s
    simp (discharger := omega) only [f_X12_bits_4, lit_s, nI_add, pk_mul, nI_clamp, chk_nI, bI_s, bV_s, ltv_s, nI_leI, nI_ltI, nI_eq, bitN0, bitN1, oneN, b2i0, b2i1, b2it, b2if, rtB_b, if_pos, if_neg, if_true, if_false, Bool.false_eq_true, Bool.true_eq_false, ite_self, or_n0]
  · intro n s k hk
    simp (discharger := omega) only [f_X12_bits_4, lit_s, nI_add, pk_mul, nI_clamp, chk_nI, bI_s, bV_s, ltv_s, nI_leI, nI_ltI, nI_eq, bitN0, bitN1, oneN, b2i0, b2i1, b2it, b2if, rtB_b, if_pos, if_neg, if_true, if_false, Bool.false_eq_true, Bool.true_eq_false, ite_self, or_n0]
def bcF (x : Int32) : Int32 := match f_J6_bitCount_0f7a4 0 x (fun _ _ => 0, fun _ _ => 0) with
  | some r => r.1
  | none => 0
theorem J6_all : ∀ m, m < 256 → bcF (nI m) = nI (pop (nI m)) := by decide +kernel
theorem J6_bitCount_eq (w : Nat) {x : Int32} (hx : inR 8 x) (M : mM) : f_J6_bitCount_0f7a4 w x M = some (nI (pop x), M) := by
  obtain ⟨m, hm, rfl⟩ := in8 hx
  rw [← J6_all m hm]
  rfl
theorem pop_le (x : Int32) : pop x ≤ 8 := cnt_max _ 8
theorem inR_8 {R : Nat} {x : Int32} (h : inR R x) (hR : R ≤ 8) : inR 8 x := fun i hi e => Nat.lt_of_lt_of_le (h i hi e) hR
/-! bride -/
def brG (p : HP) (h : HS) (k : Nat) (s : Int32 × Nat) : Int32 × Nat := if s.2 ≤ pop (rng p (opM p h) (sPl h k)) then s else (nI k, pop (rng p (opM p h) (sPl h k)))
theorem X11_bride_16_eq (w : Nat) (hw : 40 ≤ w) (hp : okP p) (hh : okS p h) (hc : PlC M 1 p) (hs : StC M 31 p h) : f_X11_bride_16 w w 0 (opM p h) (-1) 8 0 M = some ((itG (brG p h) (pP p) 0 (-1, 8)).1, M) := by
  have hR := hp.1
  have hP := hp.2.2.1
  have hI : ∀ k, k < pP p → inR 8 (rng p (opM p h) (sPl h k)) := fun k hk => inR_8 (rng_in hp _ (hh.2.2 k hk)) (by omega)
  refine loopG (fun _ (s : Int32 × Nat) => s.2 ≤ 8) (fun n (s : Int32 × Nat) k => f_X11_bride_16 w n 0 (opM p h) s.1 (nI s.2) (nI k) M) (brG p h) (fun s => some (s.1, M)) (pP p) ?_ ?_ (pP p) w 0 (-1, 8) (by omega) (by omega) (Nat.le_refl _)
  · intro n s _
    simp (discharger := omega) only [f_X11_bride_16, r0_0, hc.2.2.1, lit_s, nI_add, pk_mul, nI_clamp, chk_nI, bI_s, bV_s, ltv_s, nI_leI, nI_ltI, nI_eq, bitN0, bitN1, oneN, b2i0, b2i1, b2it, b2if, rtB_b, if_pos, if_neg, if_true, if_false, Bool.false_eq_true, Bool.true_eq_false, ite_self, or_n0]
  · intro n s k hk hs8
    have g := hs.2.2.2 k hk
    have hl := pop_le (rng p (opM p h) (sPl h k))
    simp (discharger := omega) only [f_X11_bride_16, r0_0, r0_6, r31_5, l34, hc.2.2.1, g, X6_roomsReached_eq w (show 9 ≤ w by omega) hp hc (opM p h) (hh.2.2 k hk), J6_bitCount_eq w (hI k hk), brG, lit_s, nI_add, pk_mul, nI_clamp, chk_nI, bI_s, bV_s, ltv_s, nI_leI, nI_ltI, nI_eq, bitN0, bitN1, oneN, b2i0, b2i1, b2it, b2if, rtB_b, if_pos, if_neg, if_true, if_false, Bool.false_eq_true, Bool.true_eq_false, ite_self, or_n0]
    by_cases e : s.2 ≤ pop (rng p (opM p h) (sPl h k))
    · simp only [if_pos e]; exact ⟨trivial, hs8⟩
    · simp only [if_neg e]; exact ⟨trivial, hl⟩
theorem X12_bride_12_eq (w : Nat) (hw : 40 ≤ w) (hp : okP p) (hh : okS p h) (hc : PlR M 0 p) (hs : StR M 0 p h) : f_X12_bride_12 w w 163 (-1) 8 0 M = some ((itG (brG p h) (pP p) 0 (-1, 8)).1, M) := by
  have hR := hp.1
  have hP := hp.2.2.1
  have hPc : M.1 169 2 = nI (pP p) := hc.2.2.1
  have hon : f_X12_openNow w 163 (nI 0) M = some (opM p h, M) := X12_openNow_eq w (by omega) (b := 0) (by omega) hp hh hc hs
  have hI : ∀ k, k < pP p → inR 8 (rng p (opM p h) (sPl h k)) := fun k hk => inR_8 (rng_in hp _ (hh.2.2 k hk)) (by omega)
  refine loopG (fun _ (s : Int32 × Nat) => s.2 ≤ 8) (fun n (s : Int32 × Nat) k => f_X12_bride_12 w n 163 s.1 (nI s.2) (nI k) M) (brG p h) (fun s => some (s.1, M)) (pP p) ?_ ?_ (pP p) w 0 (-1, 8) (by omega) (by omega) (Nat.le_refl _)
  · intro n s _
    simp (discharger := omega) only [f_X12_bride_12, X12_persons_eq, hPc, lit_s, nI_add, pk_mul, nI_clamp, chk_nI, bI_s, bV_s, ltv_s, nI_leI, nI_ltI, nI_eq, bitN0, bitN1, oneN, b2i0, b2i1, b2it, b2if, rtB_b, if_pos, if_neg, if_true, if_false, Bool.false_eq_true, Bool.true_eq_false, ite_self, or_n0]
  · intro n s k hk hs8
    have g := hs.2.2.2 k hk
    rw [Nat.zero_add] at g
    have hl := pop_le (rng p (opM p h) (sPl h k))
    simp (discharger := omega) only [f_X12_bride_12, f_X12_bride_54, X12_persons_eq, r163_24, l179, hPc, g, hon, X12_rangeBy_eq w (show 9 ≤ w by omega) hp hc, X12_bits_eq w hw (hI k hk), brG, lit_s, nI_add, pk_mul, nI_clamp, chk_nI, bI_s, bV_s, ltv_s, nI_leI, nI_ltI, nI_eq, bitN0, bitN1, oneN, b2i0, b2i1, b2it, b2if, rtB_b, if_pos, if_neg, if_true, if_false, Bool.false_eq_true, Bool.true_eq_false, ite_self, or_n0]
    by_cases e : s.2 ≤ pop (rng p (opM p h) (sPl h k))
    · simp only [if_pos e]; exact ⟨trivial, hs8⟩
    · simp only [if_neg e]; exact ⟨trivial, hl⟩
theorem X11_bride_eq (w : Nat) (hw : 40 ≤ w) (q : QR p h M) : ∃ v, f_X11_bride w 0 M = some (v, M) ∧ f_X12_bride w 163 M = some (v, th0 M) := by
  have q0 := q.th0
  obtain ⟨hp, hh, hc, hr, hs, ht⟩ := q
  obtain ⟨-, -, -, hr0, -, ht0⟩ := q0
  unfold f_X11_bride f_X12_bride
  rw [r0_6, X9_openDoors_eq w (by omega) mem31 hp hh hc hs, bI_some, lt_eq, show wI M 163 0 0 = th0 M from rfl]
  exact ⟨_, X11_bride_16_eq w hw hp hh hc hs, X12_bride_12_eq w hw hp hh hr0 ht0⟩
/-! spared -/
theorem X6_isJoined_eq (w : Nat) (hw : 9 ≤ w) (hp : okP p) (hc : PlC M 1 p) (opn : Int32) {r x : Nat} (hr : r < pR p) (hx : x < 32) : f_X6_isJoined w 1 (nI r) (nI x) opn M = some (b2i (jn p opn r x), M) := by
  unfold f_X6_isJoined
  simp (discharger := omega) only [X6_roomsReached_eq w hw hp hc opn hr, lit_s, nI_add, pk_mul, nI_clamp, chk_nI, bI_s, bV_s, ltv_s, nI_leI, nI_ltI, nI_eq, bitN0, bitN1, oneN, b2i0, b2i1, b2it, b2if, rtB_b, if_pos, if_neg, if_true, if_false, Bool.false_eq_true, Bool.true_eq_false, ite_self, or_n0]
  rw [bit_bt _ hx]
  show (if jn p opn r x = false then _ else _) = _
  cases jn p opn r x <;> rfl
def less (opn : Int32) (d : Nat) : Int32 := opn &&& (one d ^^^ (-1))
theorem bit_less (opn : Int32) {d i : Nat} (hd : d < 32) (hi : i < 32) : bit (less opn d) i = (bit opn i && !decide (i = d)) := by
  rw [bit_bt _ hi, bit_bt _ hi]
  unfold less
  rw [b_and, b_xor, b_m1 i hi, bt_one hd hi]
  cases decide (i = d) <;> rfl
theorem spared_iff (hp : okP p) (opn : Int32) {d : Nat} (hd : d < pD p) (ho : bit opn d = true) : jn p (less opn d) (pA p d) (pB p d) = true ↔ ∀ r, r < pR p → rng p opn r = rng p (less opn d) r := by
  have hD := hp.2.1
  have hR := hp.1
  obtain ⟨ha, hb, -, -, -⟩ := hp.2.2.2.1 d hd
  constructor
  · intro hj r hr
    apply b_ext
    intro i hi
    have k1 : jn p opn r i = true → jn p (less opn d) r i = true := jn_min hp (C := fun i => jn p (less opn d) r i = true) (fun e he hoe => by
      by_cases q : e = d
      · subst q
        constructor
        · intro h1; exact jn_tr hp _ hr (by omega) (by omega) h1 hj
        · intro h1; exact jn_tr hp _ hr (by omega) (by omega) h1 (jn_sy hp _ ha (by omega) hj)
      · rw [jn_cl hp (less opn d) hr e he (by rw [bit_less opn (by omega) (by omega), hoe, decide_eq_false q]; rfl)]) (by omega) (jn_refl _ (by omega)) i hi
    have k2 : jn p (less opn d) r i = true → jn p opn r i = true := jn_min hp (C := fun i => jn p opn r i = true) (fun e he hoe => by
      rw [bit_less opn (by omega) (by omega), Bool.and_eq_true] at hoe
      rw [jn_cl hp opn hr e he hoe.1]) (by omega) (jn_refl _ (by omega)) i hi
    show jn p opn r i = jn p (less opn d) r i
    cases e1 : jn p opn r i <;> cases e2 : jn p (less opn d) r i
    · rfl
    · rw [k2 e2] at e1; cases e1
    · rw [k1 e1] at e2; cases e2
    · rfl
  · intro g
    unfold jn
    rw [← g _ ha]
    show jn p opn (pA p d) (pB p d) = true
    rw [← jn_cl hp opn ha d hd ho]
    exact jn_refl _ (by omega)
def spq (p : HP) (opn : Int32) (d : Nat) : Bool := bit opn d && jn p (less opn d) (pA p d) (pB p d)
theorem and_one0 (x : Int32) {d : Nat} (hd : d < 32) : (x &&& one d = nI 0) = (bit x d = false) := by
  rw [bit_bt _ hd]
  refine propext ⟨fun e => ?_, fun e => b_ext fun i hi => ?_⟩
  · have := congrArg (fun z => bt z d) e
    simp only [b_and, bt_one hd hd, show nI 0 = (0 : Int32) from rfl, b_0] at this
    simpa using this
  · rw [b_and, bt_one hd hi, show nI 0 = (0 : Int32) from rfl, b_0]
    by_cases q : i = d
    · subst q; rw [e]; rfl
    · rw [decide_eq_false q, Bool.and_false]
theorem X11_spared_eq (w : Nat) (hw : 40 ≤ w) (q : QR p h M) : ∃ v, f_X11_spared w 0 M = some (v, M) ∧ f_X12_spared w 163 M = some (v, th0 M) := by
  have q0 := q.th0
  obtain ⟨hp, hh, hc, hr, hs, ht⟩ := q
  obtain ⟨-, -, -, hr0, -, ht0⟩ := q0
  have hR := hp.1
  have hD := hp.2.1
  have hRc : (th0 M).1 169 0 = nI (pR p) := hr0.1
  have hDc : (th0 M).1 169 1 = nI (pD p) := hr0.2.1
  have hon : f_X12_openNow w 163 (nI 0) (th0 M) = some (opM p h, th0 M) := X12_openNow_eq w (by omega) (b := 0) (by omega) hp hh hr0 ht0
  unfold f_X11_spared f_X12_spared
  rw [r0_6, X9_openDoors_eq w (by omega) mem31 hp hh hc hs, bI_some, lt_eq, show wI M 163 0 0 = th0 M from rfl, show f_X12_openNow w 163 0 (th0 M) = _ from hon, bI_some]
  refine ⟨itG (orB (spq p (opM p h))) (pD p) 0 0, ?_, ?_⟩
  · refine loopP (fun n x k => f_X11_spared_12 w n 0 (opM p h) x (nI k) M) _ (fun x => some (x, M)) (pD p) ?_ ?_ (by omega) 0
    · intro n x
      simp (discharger := omega) only [f_X11_spared_12, r0_0, hc.2.1, lit_s, nI_add, pk_mul, nI_clamp, chk_nI, bI_s, bV_s, ltv_s, nI_leI, nI_ltI, nI_eq, bitN0, bitN1, oneN, b2i0, b2i1, b2it, b2if, rtB_b, if_pos, if_neg, if_true, if_false, Bool.false_eq_true, Bool.true_eq_false, ite_self, or_n0]
    · intro n x k hk
      obtain ⟨ga, gb, -, -⟩ := hc.2.2.2.1 k hk
      obtain ⟨ha, hb, -, -, -⟩ := hp.2.2.2.1 k hk
      have ga : M.1 5 k = nI (pA p k) := ga
      have gb : M.1 6 k = nI (pB p k) := gb
      have gj := X6_isJoined_eq w (show 9 ≤ w by omega) hp hc (less (opM p h) k) ha (show pB p k < 32 by omega)
      simp (discharger := omega) only [f_X11_spared_12, r0_0, r1_7, r1_8, l5, l6, hc.2.1, ga, gb, and_one0, lit_s, nI_add, pk_mul, nI_clamp, chk_nI, bI_s, bV_s, ltv_s, nI_leI, nI_ltI, nI_eq, bitN0, bitN1, oneN, b2i0, b2i1, b2it, b2if, rtB_b, if_pos, if_neg, if_true, if_false, Bool.false_eq_true, Bool.true_eq_false, ite_self, or_n0]
      show (if bit (opM p h) k = false then _ else bI (f_X6_isJoined w 1 (nI (pA p k)) (nI (pB p k)) (less (opM p h) k) M) _) = _
      simp (discharger := omega) only [gj, lit_s, nI_add, pk_mul, nI_clamp, chk_nI, bI_s, bV_s, ltv_s, nI_leI, nI_ltI, nI_eq, bitN0, bitN1, oneN, b2i0, b2i1, b2it, b2if, rtB_b, if_pos, if_neg, if_true, if_false, Bool.false_eq_true, Bool.true_eq_false, ite_self, or_n0]
      by_cases e1 : bit (opM p h) k = true
      · by_cases e2 : jn p (less (opM p h) k) (pA p k) (pB p k) = true
        · simp [orB, spq, e1, e2]
        · simp [orB, spq, e1, e2]
      · simp [orB, spq, e1]
  · refine loopP (fun n x k => f_X12_spared_15 w n 163 (opM p h) x (nI k) (th0 M)) _ (fun x => some (x, th0 M)) (pD p) ?_ ?_ (by omega) 0
    · intro n x
      simp (discharger := omega) only [f_X12_spared_15, X12_doors_eq, hDc, lit_s, nI_add, pk_mul, nI_clamp, chk_nI, bI_s, bV_s, ltv_s, nI_leI, nI_ltI, nI_eq, bitN0, bitN1, oneN, b2i0, b2i1, b2it, b2if, rtB_b, if_pos, if_neg, if_true, if_false, Bool.false_eq_true, Bool.true_eq_false, ite_self, or_n0]
    · intro n x k hk
      have e42 : ∀ b : Bool, f_X12_spared_42 w (f_X12_spared_15 w n) w 163 (opM p h) x (nI k) (b2i b) (nI 0) (th0 M) = f_X12_spared_92 w (f_X12_spared_15 w n) 163 (opM p h) x (nI k) (b2i (itG (fun j b => b && decide (rng p (opM p h) j = rng p (less (opM p h) k) j)) (pR p) 0 b)) (th0 M) := fun b => loopP (fun m (b : Bool) j => f_X12_spared_42 w (f_X12_spared_15 w n) m 163 (opM p h) x (nI k) (b2i b) (nI j) (th0 M)) (fun j b => b && decide (rng p (opM p h) j = rng p (less (opM p h) k) j)) (fun b => f_X12_spared_92 w (f_X12_spared_15 w n) 163 (opM p h) x (nI k) (b2i b) (th0 M)) (pR p) (by
          intro m b
          simp (discharger := omega) only [f_X12_spared_42, X12_rooms_eq, hRc, lit_s, nI_add, pk_mul, nI_clamp, chk_nI, bI_s, bV_s, ltv_s, nI_leI, nI_ltI, nI_eq, bitN0, bitN1, oneN, b2i0, b2i1, b2it, b2if, rtB_b, if_pos, if_neg, if_true, if_false, Bool.false_eq_true, Bool.true_eq_false, ite_self, or_n0]) (by
          intro m b j hj
          have g1 := X12_rangeBy_eq w (show 9 ≤ w by omega) hp hr0 (opM p h) j
          have g2 := X12_rangeBy_eq w (show 9 ≤ w by omega) hp hr0 (less (opM p h) k) j
          rw [f_X12_spared_42, X12_rooms_eq, bI_some, hRc, if_neg (fun h => by have := (nI_leI (by omega) (by omega)).mp h; omega), nI_1]
          cases b
          · rfl
          · rw [if_neg (by decide), g1, bI_some]
            show bI (f_X12_rangeBy w 163 (nI j) (less (opM p h) k) (th0 M)) _ = _
            rw [g2, bI_some, Bool.true_and]
            by_cases e : rng p (opM p h) j = rng p (less (opM p h) k) j
            · rw [if_pos e, decide_eq_true e]; rfl
            · rw [if_neg e, decide_eq_false e]; rfl) (show pR p < w by omega) b
      have hsp : ∀ b : Bool, (b = true → bit (opM p h) k = true) → itG (fun j b => b && decide (rng p (opM p h) j = rng p (less (opM p h) k) j)) (pR p) 0 b = (b && jn p (less (opM p h) k) (pA p k) (pB p k)) := fun b hb => by
        apply bool_iff
        rw [itG_all, Bool.and_eq_true]
        constructor
        · rintro ⟨h1, h2⟩
          exact ⟨h1, (spared_iff hp (opM p h) hk (hb h1)).mpr fun r hr => of_decide_eq_true (h2 r (by omega) (by omega))⟩
        · rintro ⟨h1, h2⟩
          exact ⟨h1, fun r _ hr => decide_eq_true ((spared_iff hp (opM p h) hk (hb h1)).mp h2 r (by omega))⟩
      have e37 : ∀ b : Bool, (b = true → bit (opM p h) k = true) → f_X12_spared_37 w (f_X12_spared_15 w n) 163 (opM p h) x (nI k) (b2i b) (th0 M) = f_X12_spared_15 w n 163 (opM p h) (if (b && jn p (less (opM p h) k) (pA p k) (pB p k)) = true then x ||| one k else x) (nI (k + 1)) (th0 M) := fun b hb => by
        unfold f_X12_spared_37
        rw [show (0 : Int32) = nI 0 from rfl, e42 b, hsp b hb]
        cases (b && jn p (less (opM p h) k) (pA p k) (pB p k))
        · simp (discharger := omega) only [f_X12_spared_92, lit_s, nI_add, pk_mul, nI_clamp, chk_nI, bI_s, bV_s, ltv_s, nI_leI, nI_ltI, nI_eq, bitN0, bitN1, oneN, b2i0, b2i1, b2it, b2if, rtB_b, if_pos, if_neg, if_true, if_false, Bool.false_eq_true, Bool.true_eq_false, ite_self, or_n0]
        · simp (discharger := omega) only [f_X12_spared_92, lit_s, nI_add, pk_mul, nI_clamp, chk_nI, bI_s, bV_s, ltv_s, nI_leI, nI_ltI, nI_eq, bitN0, bitN1, oneN, b2i0, b2i1, b2it, b2if, rtB_b, if_pos, if_neg, if_true, if_false, Bool.false_eq_true, Bool.true_eq_false, ite_self, or_n0]
      rw [f_X12_spared_15, X12_doors_eq, bI_some, hDc, if_neg (fun h => by have := (nI_leI (by omega) (by omega)).mp h; omega)]
      unfold orB spq
      by_cases e : bit (opM p h) k = true
      · rw [if_pos ((bit_1 _ _).mpr e), e]
        exact e37 true (fun _ => e)
      · have h0 := e37 false (fun h => by cases h)
        rw [if_neg (fun h => e ((bit_1 _ _).mp h)), Bool.eq_false_iff.mpr e]
        exact h0
end BC
