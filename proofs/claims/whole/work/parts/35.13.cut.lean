/-! ===== cut ===== -/
section CUT
variable {p : HP} {h : HS} {M : mM}
theorem itG_rel {σ τ : Type} (Rel : Nat → σ → τ → Prop) (g1 : Nat → σ → σ) (g2 : Nat → τ → τ) {K : Nat} (hs : ∀ k s t, k < K → Rel k s t → Rel (k + 1) (g1 k s) (g2 k t)) : ∀ j k s t, k + j ≤ K → Rel k s t → Rel (k + j) (itG g1 j k s) (itG g2 j k t) := by
  intro j
  induction j with
  | zero => intro k s t _ h; exact h
  | succ j ih =>
    intro k s t hk h
    unfold itG
    rw [show k + (j + 1) = k + 1 + j by omega]
    exact ih (k + 1) _ _ (by omega) (hs k s t (by omega) h)
theorem itG_add {σ : Type} (g : Nat → σ → σ) : ∀ a b k s, itG g (a + b) k s = itG g b (k + a) (itG g a k s) := by
  intro a
  induction a with
  | zero => intro b k s; rw [Nat.zero_add]; rfl
  | succ a ih =>
    intro b k s
    rw [show a + 1 + b = (a + b) + 1 by omega]
    show itG g (a + b) (k + 1) (g k s) = itG g b (k + (a + 1)) (itG g a (k + 1) (g k s))
    rw [ih, show k + 1 + a = k + (a + 1) by omega]
theorem itG_id {σ : Type} (g : Nat → σ → σ) (s : σ) : ∀ b k, (∀ i, k ≤ i → i < k + b → g i s = s) → itG g b k s = s := by
  intro b
  induction b with
  | zero => intro k _; rfl
  | succ b ih =>
    intro k h
    unfold itG
    rw [h k (by omega) (by omega)]
    exact ih (k + 1) (fun i h1 h2 => h i (by omega) (by omega))
theorem nI_and (a b : Nat) : nI a &&& nI b = nI (a &&& b) := Int32.toBitVec_inj.mp (by rw [Int32.toBitVec_and]; exact BitVec.ofNat_and.symm)
theorem one_pow : ∀ D, D ≤ 8 → one D = nI (2 ^ D) := by decide +kernel
theorem in_pow : ∀ D, D ≤ 8 → ∀ m, m < 256 → (∀ i, i < 8 → bt (nI m) i = true → i < D) → m < 2 ^ D := by decide +kernel
theorem bt_nI8 : ∀ m, m < 256 → inR 8 (nI m) := fun m hm i hi h => (by decide +kernel : ∀ m, m < 256 → ∀ i, i < 32 → bt (nI m) i = true → i < 8) m hm i hi h
theorem sub_le {k m : Nat} (hk : k < 256) (hm : m < 256) (e : nI k &&& (nI m ^^^ (-1)) = 0) : k ≤ m := by
  have h1 : nI k &&& nI m = nI k := b_ext fun i hi => by
    have := congrArg (fun z => bt z i) e
    simp only [b_and, b_xor, b_0, b_m1 i hi] at this
    rw [b_and]
    cases e1 : bt (nI k) i <;> cases e2 : bt (nI m) i <;> simp_all
  rw [nI_and] at h1
  have h2 := Nat.and_le_right (n := k) (m := m)
  have h3 : (k &&& m) = k := (nI_eq (by omega) (by omega)).mp h1
  omega
theorem sub_pop {k m : Nat} (hk : k < m) (hm : m < 256) (e : nI k &&& (nI m ^^^ (-1)) = 0) : pop (nI k) < pop (nI m) := by
  have hs : ∀ i, i < 32 → bt (nI k) i = true → bt (nI m) i = true := fun i hi h1 => by
    have := congrArg (fun z => bt z i) e
    simp only [b_and, b_xor, b_0, b_m1 i hi, h1] at this
    simpa using this
  refine cnt_lt 8 (fun i hi => hs i (by omega)) ?_
  refine Classical.byContradiction fun hn => ?_
  have : nI k = nI m := b_ext fun i hi => by
    cases e1 : bt (nI k) i
    · cases e2 : bt (nI m) i
      · rfl
      · exact absurd ⟨i, bt_nI8 m hm i hi e2, e2, e1⟩ hn
    · exact (hs i hi e1).symm
  have := (nI_eq (by omega) (by omega)).mp this
  omega
/-- the rooms r and x are parted when the doors S are shut -/
def ctq (p : HP) (opn : Int32) (r x : Nat) (S : Int32) : Bool := !jn p (opn &&& (S ^^^ (-1))) r x
def cuC (p : HP) (opn : Int32) (r x k : Nat) (s : Int32) : Int32 := if pop s ≤ pop (nI k) then s else if nI k &&& (opn ^^^ (-1)) = 0 then (if ctq p opn r x (nI k) then nI k else s) else s
def cuR (p : HP) (opn : Int32) (r x k : Nat) (t : Int32) : Int32 := if nI k &&& (opn ^^^ (-1)) = 0 then (if t < 0 then (if ctq p opn r x (nI k) then nI k else t) else if pop t ≤ pop (nI k) then t else (if ctq p opn r x (nI k) then nI k else t)) else t
def cuI (m k : Nat) (s t : Int32) : Prop := (t = -1 ∧ s = nI m ∧ k ≤ m) ∨ (t = s ∧ ∃ j, j < 256 ∧ s = nI j)
theorem ctq_all {opn : Int32} (hp : okP p) {r x : Nat} (hr : r < pR p) (hx : x < pR p) (hne : r ≠ x) : ctq p opn r x opn = true := by
  have hR := hp.1
  unfold ctq
  rw [show opn &&& (opn ^^^ (-1)) = 0 from b_ext fun i hi => by rw [b_and, b_xor, b_m1 i hi, b_0]; cases bt opn i <;> rfl]
  cases e : jn p 0 r x
  · rfl
  · have := jn_min hp (opn := 0) (C := fun i => i = r) (fun d hd ho => by rw [bit_bt _ (by have := hp.2.1; omega), b_0] at ho; cases ho) (by omega) rfl x (by omega) e
    exact absurd this.symm hne
theorem cu_step {m : Nat} (hp : okP p) {r x : Nat} (hr : r < pR p) (hx : x < pR p) (hne : r ≠ x) (hm : m < 256) : ∀ k s t, k < 256 → cuI m k s t → cuI m (k + 1) (cuC p (nI m) r x k s) (cuR p (nI m) r x k t) := by
  intro k s t hk hI
  rcases hI with ⟨rfl, rfl, h3⟩ | ⟨rfl, j, hj, rfl⟩
  · unfold cuC cuR
    by_cases e : nI k &&& (nI m ^^^ (-1)) = 0
    · rw [if_pos e, if_pos e, if_pos (show (-1 : Int32) < 0 by decide)]
      by_cases q : k = m
      · subst q
        rw [if_pos (Nat.le_refl _), ctq_all hp hr hx hne]
        exact Or.inr ⟨rfl, k, hm, rfl⟩
      · have hl := sub_pop (by omega) hm e
        rw [if_neg (by omega)]
        cases ctq p (nI m) r x (nI k)
        · exact Or.inl ⟨rfl, rfl, by omega⟩
        · exact Or.inr ⟨rfl, k, hk, rfl⟩
    · have q : k ≠ m := fun q => e (by subst q; exact b_ext fun i hi => by rw [b_and, b_xor, b_m1 i hi, b_0]; cases bt (nI k) i <;> rfl)
      rw [if_neg e, if_neg e]
      refine Or.inl ⟨rfl, ?_, by omega⟩
      split <;> rfl
  · unfold cuC cuR
    rw [if_neg (show ¬ nI j < 0 from nI_pos (by omega))]
    refine Or.inr ?_
    by_cases e : nI k &&& (nI m ^^^ (-1)) = 0
    · rw [if_pos e, if_pos e]
      by_cases q : pop (nI j) ≤ pop (nI k)
      · rw [if_pos q]; exact ⟨rfl, j, hj, rfl⟩
      · rw [if_neg q]
        cases ctq p (nI m) r x (nI k)
        · exact ⟨rfl, j, hj, rfl⟩
        · exact ⟨rfl, k, hk, rfl⟩
    · rw [if_neg e, if_neg e]
      refine ⟨?_, j, hj, ?_⟩
      · split <;> rfl
      · split <;> rfl
theorem X11_cut_43_eq (w : Nat) (hw : 300 ≤ w) (hp : okP p) (hc : PlC M 1 p) (opn : Int32) {r x : Nat} (hr : r < pR p) (hx : x < pR p) (s0 : Int32) (h0 : inR 8 s0) : f_X11_cut_43 w w 0 (nI r) (nI x) opn s0 0 M = some (itG (cuC p opn r x) 256 0 s0, M) := by
  have hR := hp.1
  refine loopG (fun _ (s : Int32) => inR 8 s) (fun n (s : Int32) k => f_X11_cut_43 w n 0 (nI r) (nI x) opn s (nI k) M) (cuC p opn r x) (fun s => some (s, M)) 256 ?_ ?_ 256 w 0 s0 (by omega) (by omega) h0
  · intro n s _
    simp (discharger := omega) only [f_X11_cut_43, lit_s, nI_add, pk_mul, nI_clamp, chk_nI, bI_s, bV_s, ltv_s, nI_leI, nI_ltI, nI_eq, bitN0, bitN1, oneN, b2i0, b2i1, b2it, b2if, rtB_b, if_pos, if_neg, if_true, if_false, Bool.false_eq_true, Bool.true_eq_false, ite_self, or_n0]
  · intro n s k hk hI
    have g1 := J6_bitCount_eq w hI
    have g2 := J6_bitCount_eq w (bt_nI8 k hk)
    have l1 := pop_le s
    have l2 := pop_le (nI k)
    have gj := X6_isJoined_eq w (show 9 ≤ w by omega) hp hc (opn &&& (nI k ^^^ (-1))) hr (show x < 32 by omega)
    rw [f_X11_cut_43, if_neg (fun h => by have := (nI_leI (a := 256) (b := k) (by omega) (by omega)).mp h; omega), g2, bI_some, g1, bI_some]
    unfold cuC
    by_cases e1 : pop s ≤ pop (nI k)
    · rw [if_pos ((nI_leI (by omega) (by omega)).mpr e1), if_pos e1]
      unfold f_X11_cut_77 f_X11_cut_78
      rw [if_pos rfl, nI_1]
      exact ⟨rfl, hI⟩
    · rw [if_neg (fun h => e1 ((nI_leI (by omega) (by omega)).mp h)), if_neg e1]
      by_cases e2 : nI k &&& (opn ^^^ (-1)) = 0
      · rw [if_pos e2, if_pos e2]
        unfold f_X11_cut_78
        rw [if_neg (by decide), r0_0, gj, bI_some, nI_1]
        unfold ctq
        cases jn p (opn &&& (nI k ^^^ (-1))) r x
        · exact ⟨rfl, bt_nI8 k hk⟩
        · exact ⟨rfl, hI⟩
      · rw [if_neg e2, if_neg e2]
        unfold f_X11_cut_77 f_X11_cut_78
        rw [if_pos rfl, nI_1]
        exact ⟨rfl, hI⟩
theorem X12_cut_40_eq (w : Nat) (hw : 300 ≤ w) (hp : okP p) (hc : PlR M 0 p) (opn : Int32) {r x : Nat} (hr : r < pR p) (hx : x < pR p) : f_X12_cut_40 w w 163 (nI r) (nI x) opn (-1) 0 M = some (itG (cuR p opn r x) (2 ^ pD p) 0 (-1), M) := by
  have hR := hp.1
  have hD := hp.2.1
  have hDc : M.1 169 1 = nI (pD p) := hc.2.1
  have hle : 2 ^ pD p ≤ 2 ^ 8 := Nat.pow_le_pow_right (by omega) hD
  have hone : (1 : Int32) <<< (nI (pD p) &&& 31) = nI (2 ^ pD p) := one_pow _ hD
  refine loopG (fun _ (s : Int32) => s = -1 ∨ ∃ j, j < 256 ∧ s = nI j) (fun n (s : Int32) k => f_X12_cut_40 w n 163 (nI r) (nI x) opn s (nI k) M) (cuR p opn r x) (fun s => some (s, M)) (2 ^ pD p) ?_ ?_ (2 ^ pD p) w 0 (-1) (by omega) (by omega) (Or.inl rfl)
  · intro n s _
    rw [f_X12_cut_40, X12_doors_eq, bI_some, hDc, hone, if_pos (Int32.le_refl _)]
  · intro n s k hk hI
    have hk8 : k < 256 := by omega
    have g2 := X12_bits_eq w (by omega) (bt_nI8 k hk8) M
    have l2 := pop_le (nI k)
    have gr := X12_rangeBy_eq w (show 9 ≤ w by omega) hp hc (opn &&& (nI k ^^^ (-1))) r
    rw [f_X12_cut_40, X12_doors_eq, bI_some, hDc, hone, if_neg (fun h => by have := (nI_leI (by omega) (by omega)).mp h; omega)]
    have e83 : f_X12_cut_83 w (f_X12_cut_40 w n) 163 (nI r) (nI x) opn s (nI k) 1 M = f_X12_cut_40 w n 163 (nI r) (nI x) opn (if ctq p opn r x (nI k) then nI k else s) (nI (k + 1)) M := by
      unfold f_X12_cut_83
      rw [if_neg (by decide), gr, bI_some, nI_1]
      unfold ctq jn
      rw [← bit_bt _ (show x < 32 by omega)]
      cases e : bit (rng p (opn &&& (nI k ^^^ (-1))) r) x
      · rw [if_pos ((bit_0 _ _).mpr e)]; rfl
      · rw [if_neg (fun h => by rw [(bit_0 _ _).mp h] at e; cases e)]; rfl
    have inv : (if ctq p opn r x (nI k) then nI k else s) = -1 ∨ ∃ j, j < 256 ∧ (if ctq p opn r x (nI k) then nI k else s) = nI j := by
      cases ctq p opn r x (nI k)
      · exact hI
      · exact Or.inr ⟨k, hk8, rfl⟩
    unfold cuR
    by_cases e2 : nI k &&& (opn ^^^ (-1)) = 0
    · rw [if_pos e2, if_pos e2]
      by_cases e3 : s < 0
      · rw [if_pos e3, if_pos e3]
        unfold f_X12_cut_78
        exact ⟨e83, inv⟩
      · have hI2 : ∃ j, j < 256 ∧ s = nI j := hI.resolve_left (fun q => e3 (by rw [q]; decide))
        have g1 := X12_bits_eq w (by omega) (show inR 8 s by obtain ⟨j, hj, rfl⟩ := hI2; exact bt_nI8 j hj) M
        have l1 := pop_le s
        rw [if_neg e3, if_neg e3, g2, bI_some, g1, bI_some]
        by_cases e1 : pop s ≤ pop (nI k)
        · rw [if_pos ((nI_leI (by omega) (by omega)).mpr e1), if_pos e1]
          unfold f_X12_cut_82 f_X12_cut_83
          rw [if_pos rfl, nI_1]
          exact ⟨rfl, hI⟩
        · rw [if_neg (fun h => e1 ((nI_leI (by omega) (by omega)).mp h)), if_neg e1]
          unfold f_X12_cut_78
          exact ⟨e83, inv⟩
    · rw [if_neg e2, if_neg e2]
      unfold f_X12_cut_82 f_X12_cut_83
      rw [if_pos rfl, nI_1]
      exact ⟨rfl, hI⟩
theorem X11_cut_eq (w : Nat) (hw : 300 ≤ w) (q : QR p h M) (x y : Int32) : ∃ v, f_X11_cut w 0 x y M = some (v, M) ∧ f_X12_cut w 163 x y M = some (v, th0 M) := by
  have q0 := q.th0
  obtain ⟨hp, hh, hc, hr, hs, ht⟩ := q
  obtain ⟨-, -, -, hr0, -, ht0⟩ := q0
  have hR := hp.1
  have hD := hp.2.1
  have hle : 2 ^ pD p ≤ 2 ^ 8 := Nat.pow_le_pow_right (by omega) hD
  unfold f_X11_cut f_X12_cut
  rw [r0_0, r0_6, X6_hasRoom_eq w x hc, lt_eq, show wI M 163 0 0 = th0 M from rfl, X12_isRoom_eq w x hr0]
  rcases ix3 x (show pR p < 2 ^ 31 by omega) with a | ⟨i, hi, rfl⟩
  · rw [has_no a, has_no a]
    exact ⟨_, rfl, rfl⟩
  · rw [has_yes hi (by omega), has_yes hi (by omega), bI_some, bI_some, if_neg (by decide), if_neg (by decide), X6_hasRoom_eq w y hc, X12_isRoom_eq w y hr0]
    rcases ix3 y (show pR p < 2 ^ 31 by omega) with a | ⟨j, hj, rfl⟩
    · rw [has_no a, has_no a]
      exact ⟨_, rfl, rfl⟩
    · rw [has_yes hj (by omega), has_yes hj (by omega), bI_some, bI_some, if_neg (show ¬ ((1 : Int32) = 0) by decide), if_neg (show ¬ ((1 : Int32) = 0) by decide)]
      by_cases hij : i = j
      · subst hij
        rw [if_pos rfl, if_pos rfl]
        exact ⟨_, rfl, rfl⟩
      · have hne : ¬ nI i = nI j := fun e => hij ((nI_eq (by omega) (by omega)).mp e)
        have hon : f_X12_openNow w 163 0 (th0 M) = some (opM p h, th0 M) := X12_openNow_eq w (by omega) (b := 0) (by omega) hp hh hr0 ht0
        have hin : inR 8 (opM p h) := fun i hi e => by
          rw [bt_op hp hi, Bool.and_eq_true, decide_eq_true_eq] at e; omega
        obtain ⟨m, hm, em⟩ := in8 hin
        have hmD : m < 2 ^ pD p := in_pow _ hD m hm (fun i hi e => by
          rw [← em, bt_op hp (by omega), Bool.and_eq_true, decide_eq_true_eq] at e; exact e.1)
        rw [if_neg hne, if_neg hne, X9_openDoors_eq w (by omega) mem31 hp hh hc hs, bI_some, hon, bI_some, X11_cut_43_eq w hw hp hc _ hi hj _ hin, X12_cut_40_eq w hw hp hr0 _ hi hj]
        refine ⟨_, rfl, ?_⟩
        have rel := itG_rel (cuI m) (cuC p (nI m) i j) (cuR p (nI m) i j) (K := 256) (cu_step hp hi hj hij hm) (2 ^ pD p) 0 (nI m) (-1) (by omega) (Or.inl ⟨rfl, rfl, by omega⟩)
        rw [em]
        rcases rel with ⟨-, -, h3⟩ | ⟨h1, h2⟩
        · omega
        · rw [h1]
          have e256 : 256 = 2 ^ pD p + (256 - 2 ^ pD p) := by omega
          have e1 := itG_add (cuC p (nI m) i j) (2 ^ pD p) (256 - 2 ^ pD p) 0 (nI m)
          have e2 := itG_id (cuC p (nI m) i j) (itG (cuC p (nI m) i j) (2 ^ pD p) 0 (nI m)) (256 - 2 ^ pD p) (0 + 2 ^ pD p) (by
            intro k h3 h4
            unfold cuC
            split
            · rfl
            · rw [if_neg (fun e => by have := sub_le (k := k) (by omega) hm e; omega)])
          rw [e2, ← e256] at e1
          rw [e1]
end CUT
