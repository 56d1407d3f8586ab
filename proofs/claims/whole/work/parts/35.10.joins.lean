/-! ===== being joined by open doors ===== -/
section JN
variable {p : HP} {h : HS} {M : mM}
/-- one gets from r to x -/
def jn (p : HP) (opn : Int32) (r x : Nat) : Bool := bt (rng p opn r) x
theorem onM_cl {opn T : Int32} (hp : okP p) (e : onM p opn T = T) : ∀ d, d < pD p → bit opn d = true → bt T (pA p d) = bt T (pB p d) := by
  intro d hd ho
  have hR := hp.1
  obtain ⟨ha, hb, -, -, -⟩ := hp.2.2.2.1 d hd
  have key : ∀ i, i < 32 → bt (dAdd p opn T d) i = true → bt T i = true := fun i hi h1 => by
    have h2 : bt (onM p opn T) i = true := (onL_bt (p := p) opn T (pD p) 0 T i).mpr (Or.inr ⟨d, by omega, by omega, h1⟩)
    rw [e] at h2; exact h2
  have ka := key (pA p d) (by omega)
  have kb := key (pB p d) (by omega)
  unfold dAdd at ka kb
  rw [if_pos ho, bit_bt _ (by omega), bit_bt _ (by omega), b_or] at ka kb
  cases e1 : bt T (pA p d) <;> cases e2 : bt T (pB p d)
  · rfl
  · rw [e1, e2, if_pos rfl, bt_one (by omega) (by omega), decide_eq_true rfl, Bool.or_true] at ka
    exact ka rfl
  · rw [e1, e2, if_pos rfl, bt_one (by omega) (by omega), decide_eq_true rfl, Bool.true_or] at kb
    exact (kb rfl).symm
  · rfl
theorem onM_min {opn : Int32} (hp : okP p) {C : Nat → Prop} (hC : ∀ d, d < pD p → bit opn d = true → (C (pA p d) ↔ C (pB p d))) {S : Int32} (hS : ∀ i, i < 32 → bt S i = true → C i) : ∀ i, i < 32 → bt (onM p opn S) i = true → C i := by
  have hR := hp.1
  intro i hi h1
  rcases (onL_bt (p := p) opn S (pD p) 0 S i).mp h1 with h2 | ⟨d, -, h3, h4⟩
  · exact hS i hi h2
  · have h3 : d < pD p := by omega
    obtain ⟨ha, hb, -, -, -⟩ := hp.2.2.2.1 d h3
    unfold dAdd at h4
    cases ho : bit opn d
    · rw [ho, if_neg (by decide), b_0] at h4; cases h4
    · rw [ho, if_pos rfl, b_or, bit_bt _ (by omega), bit_bt _ (by omega), Bool.or_eq_true] at h4
      rcases h4 with h4 | h4
      · cases e : bt S (pA p d)
        · rw [e, if_neg (by decide), b_0] at h4; cases h4
        · rw [e, if_pos rfl, bt_one (by omega) hi, decide_eq_true_eq] at h4
          rw [h4]; exact (hC d h3 ho).mp (hS _ (by omega) e)
      · cases e : bt S (pB p d)
        · rw [e, if_neg (by decide), b_0] at h4; cases h4
        · rw [e, if_pos rfl, bt_one (by omega) hi, decide_eq_true_eq] at h4
          rw [h4]; exact (hC d h3 ho).mpr (hS _ (by omega) e)
theorem itM_min {opn : Int32} (hp : okP p) {C : Nat → Prop} (hC : ∀ d, d < pD p → bit opn d = true → (C (pA p d) ↔ C (pB p d))) : ∀ (n : Nat) (S : Int32), (∀ i, i < 32 → bt S i = true → C i) → ∀ i, i < 32 → bt (itM p opn n S) i = true → C i := by
  intro n
  induction n with
  | zero => intro S hS; exact hS
  | succ n ih => intro S hS; exact ih _ (onM_min hp hC hS)
theorem jn_min {opn : Int32} (hp : okP p) {C : Nat → Prop} (hC : ∀ d, d < pD p → bit opn d = true → (C (pA p d) ↔ C (pB p d))) {r : Nat} (hr : r < 32) (h : C r) : ∀ i, i < 32 → jn p opn r i = true → C i :=
  itM_min hp hC 7 (one r) fun i hi e => by
    rw [bt_one hr hi, decide_eq_true_eq] at e; rw [e]; exact h
theorem rng_fix (hp : okP p) (opn : Int32) {r : Nat} (hr : r < pR p) : onM p opn (rng p opn r) = rng p opn r := by
  have hR := hp.1
  exact itM_end hp opn 7 (one r) (inR_one hr (by omega)) (by have := cnt_one hr (show pR p ≤ 32 by omega); omega)
theorem itM_sub (opn : Int32) : ∀ (n : Nat) (S : Int32), sub S (itM p opn n S) := by
  intro n
  induction n with
  | zero => intro S; exact sub_rf S
  | succ n ih => intro S i hi h; exact ih _ i hi (onM_sub opn S i hi h)
theorem jn_refl (opn : Int32) {r : Nat} (hr : r < 32) : jn p opn r r = true := itM_sub opn 7 (one r) r hr (by rw [bt_one hr hr]; exact decide_eq_true rfl)
theorem itM_in (hp : okP p) (opn : Int32) : ∀ (n : Nat) (S : Int32), inR (pR p) S → inR (pR p) (itM p opn n S) := by
  intro n
  induction n with
  | zero => intro S h; exact h
  | succ n ih => intro S h; exact ih _ (onM_in hp opn h)
theorem rng_in (hp : okP p) (opn : Int32) {r : Nat} (hr : r < pR p) : inR (pR p) (rng p opn r) := itM_in hp opn 7 _ (inR_one hr (by have := hp.1; omega))
theorem jn_cl (hp : okP p) (opn : Int32) {r : Nat} (hr : r < pR p) : ∀ d, d < pD p → bit opn d = true → jn p opn r (pA p d) = jn p opn r (pB p d) := onM_cl hp (rng_fix hp opn hr)
theorem jn_tr (hp : okP p) (opn : Int32) {r x y : Nat} (hr : r < pR p) (hx : x < 32) (hy : y < 32) (h1 : jn p opn r x = true) (h2 : jn p opn x y = true) : jn p opn r y = true :=
  jn_min hp (C := fun i => jn p opn r i = true) (fun d hd ho => by rw [jn_cl hp opn hr d hd ho]) hx h1 y hy h2
theorem jn_lt (hp : okP p) (opn : Int32) {r x : Nat} (hr : r < pR p) (hx : x < 32) (h : jn p opn r x = true) : x < pR p := rng_in hp opn hr x hx h
theorem jn_sy (hp : okP p) (opn : Int32) {r x : Nat} (hr : r < pR p) (hx : x < 32) (h1 : jn p opn r x = true) : jn p opn x r = true := by
  have hR := hp.1
  refine jn_min hp (C := fun i => i < pR p ∧ jn p opn i r = true) (fun d hd ho => ?_) (r := r) (by omega) ⟨hr, jn_refl opn (by omega)⟩ x hx h1 |>.2
  obtain ⟨ha, hb, -, -, -⟩ := hp.2.2.2.1 d hd
  constructor
  · rintro ⟨-, h2⟩
    refine ⟨hb, jn_tr hp opn hb (by omega) (by omega) ?_ h2⟩
    rw [jn_cl hp opn hb d hd ho]; exact jn_refl opn (by omega)
  · rintro ⟨-, h2⟩
    refine ⟨ha, jn_tr hp opn ha (by omega) (by omega) ?_ h2⟩
    rw [← jn_cl hp opn ha d hd ho]; exact jn_refl opn (by omega)
/-- no room below k is joined to k -/
def fst (p : HP) (opn : Int32) (k : Nat) : Bool := decide (rng p opn k &&& ((1 : Int32) <<< (nI k &&& 31) - 1) = 0)
theorem fst_iff (hp : okP p) (opn : Int32) {k : Nat} (hk : k < pR p) : fst p opn k = true ↔ ∀ i, i < k → jn p opn k i = false := by
  have hR := hp.1
  unfold fst
  rw [decide_eq_true_eq]
  constructor
  · intro e i hi
    have := congrArg (fun z => bt z i) e
    simp only [b_and, b_0, bt_all k (by omega) i (by omega), decide_eq_true hi, Bool.and_true] at this
    exact this
  · intro g
    apply b_ext
    intro i hi
    rw [b_and, b_0, bt_all k (by omega) i hi]
    by_cases e : i < k
    · have : bt (rng p opn k) i = false := g i e
      rw [this]; rfl
    · rw [decide_eq_false e, Bool.and_false]
/-! parts -/
theorem itG_snd {σ τ : Type} (g : Nat → σ × τ → σ × τ) (g2 : Nat → τ → τ) (e : ∀ k s, (g k s).2 = g2 k s.2) : ∀ j k s, (itG g j k s).2 = itG g2 j k s.2 := by
  intro j
  induction j with
  | zero => intro k s; rfl
  | succ j ih => intro k s; unfold itG; rw [ih, e]
def ptG (p : HP) (opn : Int32) (k : Nat) (s : Int32 × Nat) : Int32 × Nat := (if fst p opn k then s.1 ||| rng p opn k else s.1, s.2 + (if fst p opn k then 1 else 0))
theorem X11_parts_15_eq (w : Nat) (hw : 9 ≤ w) (hp : okP p) (hc : PlC M 1 p) (opn : Int32) : f_X11_parts_15 w w 0 opn 0 0 0 M = some (nI (itG (fun k c => c + (if fst p opn k then 1 else 0)) (pR p) 0 0), M) := by
  have hR := hp.1
  have main := loopG (fun k (s : Int32 × Nat) => ∀ i, i < 32 → (bt s.1 i = true ↔ ∃ r, r < k ∧ jn p opn r i = true)) (fun n (s : Int32 × Nat) k => f_X11_parts_15 w n 0 opn s.1 (nI s.2) (nI k) M) (ptG p opn) (fun s => some (nI s.2, M)) (pR p) (by
    intro n s _
    simp (discharger := omega) only [f_X11_parts_15, r0_0, hc.1, lit_s, nI_add, pk_mul, nI_clamp, chk_nI, bI_s, bV_s, ltv_s, nI_leI, nI_ltI, nI_eq, bitN0, bitN1, oneN, b2i0, b2i1, b2it, b2if, rtB_b, if_pos, if_neg, if_true, if_false, Bool.false_eq_true, Bool.true_eq_false, ite_self, or_n0]) (by
    intro n s k hk hI
    have hb : bit s.1 k = !fst p opn k := by
      rw [bit_bt _ (by omega)]
      cases e : fst p opn k
      · refine (hI k (by omega)).mpr ?_
        refine Classical.byContradiction fun hn => ?_
        have := (fst_iff hp opn hk).mpr (fun i hi => Bool.eq_false_iff.mpr fun h2 => hn ⟨i, hi, jn_sy hp opn hk (by omega) h2⟩)
        rw [e] at this; cases this
      · refine Bool.eq_false_iff.mpr fun h1 => ?_
        obtain ⟨r, hr, h2⟩ := (hI k (by omega)).mp h1
        have := (fst_iff hp opn hk).mp e r hr
        rw [jn_sy hp opn (by omega) (by omega) h2] at this; cases this
    constructor
    · simp (discharger := omega) only [f_X11_parts_15, r0_0, hc.1, X6_roomsReached_eq w hw hp hc opn hk, hb, ptG, lit_s, nI_add, pk_mul, nI_clamp, chk_nI, bI_s, bV_s, ltv_s, nI_leI, nI_ltI, nI_eq, bitN0, bitN1, oneN, b2i0, b2i1, b2it, b2if, rtB_b, if_pos, if_neg, if_true, if_false, Bool.false_eq_true, Bool.true_eq_false, ite_self, or_n0]
      cases fst p opn k <;> rfl
    · intro i hi
      unfold ptG
      cases e : fst p opn k
      · simp only [Bool.false_eq_true, if_false]
        rw [hI i hi]
        constructor
        · rintro ⟨r, hr, h1⟩; exact ⟨r, by omega, h1⟩
        · rintro ⟨r, hr, h1⟩
          by_cases hrk : r = k
          · subst hrk
            have hb2 : bt s.1 r = true := by rw [← bit_bt _ (by omega), hb, e]; rfl
            obtain ⟨r2, hr2, h2⟩ := (hI r (by omega)).mp hb2
            exact ⟨r2, hr2, jn_tr hp opn (by omega) (by omega) hi h2 h1⟩
          · exact ⟨r, by omega, h1⟩
      · simp only [if_true]
        rw [b_or, Bool.or_eq_true, hI i hi]
        constructor
        · rintro (⟨r, hr, h1⟩ | h1)
          · exact ⟨r, by omega, h1⟩
          · exact ⟨k, by omega, h1⟩
        · rintro ⟨r, hr, h1⟩
          by_cases hrk : r = k
          · subst hrk; exact Or.inr h1
          · exact Or.inl ⟨r, by omega, h1⟩) (pR p) w 0 (0, 0) (by omega) (by omega) (fun i hi => ⟨fun e => absurd e (by rw [b_0]; decide), fun ⟨r, hr, _⟩ => by omega⟩)
  refine main.trans ?_
  rw [itG_snd (ptG p opn) (fun k c => c + (if fst p opn k then 1 else 0)) (fun _ _ => rfl)]
theorem X12_parts_9_eq (w : Nat) (hw : 9 ≤ w) (hp : okP p) (hh : okS p h) (hc : PlR M 0 p) (hs : StR M 0 p h) : f_X12_parts_9 w w 163 0 0 M = some (nI (itG (fun k c => c + (if fst p (opM p h) k then 1 else 0)) (pR p) 0 0), M) := by
  have hR := hp.1
  have hRc : M.1 169 0 = nI (pR p) := hc.1
  have hon : f_X12_openNow w 163 (nI 0) M = some (opM p h, M) := X12_openNow_eq w hw (b := 0) (by omega) hp hh hc hs
  refine loopP (fun n c k => f_X12_parts_9 w n 163 (nI c) (nI k) M) _ (fun c => some (nI c, M)) (pR p) ?_ ?_ (by omega) 0
  · intro n c
    simp (discharger := omega) only [f_X12_parts_9, X12_rooms_eq, hRc, lit_s, nI_add, pk_mul, nI_clamp, chk_nI, bI_s, bV_s, ltv_s, nI_leI, nI_ltI, nI_eq, bitN0, bitN1, oneN, b2i0, b2i1, b2it, b2if, rtB_b, if_pos, if_neg, if_true, if_false, Bool.false_eq_true, Bool.true_eq_false, ite_self, or_n0]
  · intro n c k hk
    simp (discharger := omega) only [f_X12_parts_9, X12_rooms_eq, hRc, X12_rangeBy_eq w hw hp hc, hon, lit_s, nI_add, pk_mul, nI_clamp, chk_nI, bI_s, bV_s, ltv_s, nI_leI, nI_ltI, nI_eq, bitN0, bitN1, oneN, b2i0, b2i1, b2it, b2if, rtB_b, if_pos, if_neg, if_true, if_false, Bool.false_eq_true, Bool.true_eq_false, ite_self, or_n0]
    by_cases e : rng p (opM p h) k &&& (one k - nI 1) = nI 0
    · have e2 : fst p (opM p h) k = true := decide_eq_true e
      rw [if_pos e, if_pos e2]
    · have e2 : fst p (opM p h) k = false := decide_eq_false e
      rw [if_neg e, e2]; rfl
theorem X11_parts_eq (w : Nat) (hw : 9 ≤ w) (q : QR p h M) : ∃ v, f_X11_parts w 0 M = some (v, M) ∧ f_X12_parts w 163 M = some (v, th0 M) := by
  have q0 := q.th0
  obtain ⟨hp, hh, hc, hr, hs, ht⟩ := q
  obtain ⟨-, -, -, hr0, -, ht0⟩ := q0
  unfold f_X11_parts f_X12_parts
  rw [r0_6, X9_openDoors_eq w hw mem31 hp hh hc hs, bI_some, lt_eq, show wI M 163 0 0 = th0 M from rfl]
  exact ⟨_, X11_parts_15_eq w hw hp hc _, X12_parts_9_eq w hw hp hh hr0 ht0⟩
end JN
