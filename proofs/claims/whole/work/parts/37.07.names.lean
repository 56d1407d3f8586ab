/-! ===== names ===== -/
/-- the names told, in their order: how many, the words, the codes (rooms from 0, persons from 20) -/
abbrev NE : Type := Nat × (Nat → List Nat) × (Nat → Nat)
def okE (p : HP) (E : NE) : Prop := E.1 ≤ 12 ∧ (∀ j, j < E.1 → okW (E.2.1 j) ∧ (E.2.2 j < pR p ∨ (20 ≤ E.2.2 j ∧ E.2.2 j < 20 + pP p))) ∧ (∀ i j, i < E.1 → j < E.1 → E.2.1 i = E.2.1 j → i = j) ∧ (∀ r, r < pR p → ∃ j, j < E.1 ∧ E.2.2 j = r) ∧ ∀ q, q < pP p → ∃ j, j < E.1 ∧ E.2.2 j = 20 + q
/-- the code of a word, none told -/
def nlk (E : NE) (l : List Nat) : Nat → Option Nat
  | 0 => none
  | j + 1 => match nlk E l j with
    | some c => some c
    | none => if E.2.1 j = l then some (E.2.2 j) else none
def nmd (E : NE) (l : List Nat) : Option Nat := nlk E l E.1
/-- the draft's names in the class (o = 13), the plan's (o = 1: persons alone) -/
def NmC (M : mM) (o : Nat) (E : NE) : Prop := ∀ j, j < E.1 → (E.2.2 j < 20 → M.2 (o + 1) (E.2.2 j) = cvW (E.2.1 j)) ∧ (20 ≤ E.2.2 j → M.2 (o + 2) (E.2.2 j - 20) = cvW (E.2.1 j))
def NmR (M : mM) (a b k : Nat) (E : NE) : Prop := M.1 163 k = nI E.1 ∧ ∀ j, j < E.1 → M.2 a j = rvW (E.2.1 j) ∧ M.1 b j = nI (E.2.2 j)
section NAMES
variable {t : TX} {p : HP} {E : NE} {M N : mM}
theorem nlk_some {l : List Nat} {c : Nat} : ∀ n, nlk E l n = some c → ∃ j, j < n ∧ E.2.1 j = l ∧ E.2.2 j = c := by
  intro n
  induction n with
  | zero => intro h; cases h
  | succ n ih =>
    intro h
    unfold nlk at h
    cases e : nlk E l n with
    | some d =>
      rw [e] at h
      have hd : d = c := Option.some.inj h
      subst hd
      obtain ⟨j, h1, h2, h3⟩ := ih e
      exact ⟨j, by omega, h2, h3⟩
    | none =>
      rw [e] at h
      by_cases q : E.2.1 n = l
      · have h : (if E.2.1 n = l then some (E.2.2 n) else none) = some c := h
        rw [if_pos q] at h
        exact ⟨n, by omega, q, Option.some.inj h⟩
      · have h : (if E.2.1 n = l then some (E.2.2 n) else none) = some c := h
        rw [if_neg q] at h; cases h
theorem nlk_none {l : List Nat} : ∀ n, nlk E l n = none → ∀ j, j < n → E.2.1 j ≠ l := by
  intro n
  induction n with
  | zero => intro _ j hj; omega
  | succ n ih =>
    intro h j hj
    unfold nlk at h
    cases e : nlk E l n with
    | some d => rw [e] at h; cases h
    | none =>
      rw [e] at h
      have h : (if E.2.1 n = l then some (E.2.2 n) else none) = none := h
      by_cases q : E.2.1 n = l
      · rw [if_pos q] at h; cases h
      · by_cases z : j = n
        · subst z; exact q
        · exact ih e j (by omega)
/-- codes and words are told each of the other -/
theorem nmd_iff (o : okE p E) {l : List Nat} {j : Nat} (hj : j < E.1) (e : E.2.1 j = l) : nmd E l = some (E.2.2 j) := by
  cases h : nmd E l with
  | some c =>
    obtain ⟨i, h1, h2, h3⟩ := nlk_some _ h
    have := o.2.2.1 i j h1 hj (h2.trans e.symm)
    subst this; rw [h3]
  | none => exact absurd e (nlk_none _ h j hj)
def rmI (c : Option Nat) : Int32 := match c with
  | some c => if c < 20 then nI c else -1
  | none => -1
def psI (c : Option Nat) : Int32 := match c with
  | some c => if c < 20 then -1 else nI (c - 20)
  | none => -1
theorem X6_roomNamed_eq (w : Nat) (hw : 40 ≤ w) (hp : okP p) {o : Nat} (ho : o = 13) (hM : M.1 o 0 = nI (pR p)) (oE : okE p E) (hE : NmC M o E) {l : List Nat} (hl : okW l) : f_X6_roomNamed w o (cvW l) M = some (rmI (nmd E l), M) := by
  subst ho
  have hR := hp.1
  have hP := hp.2.2.1
  unfold f_X6_roomNamed
  refine loopX (fun k (_ : Unit) => ∀ c, c < k → nmd E l ≠ some c) (fun n (_ : Unit) k => f_X6_roomNamed_2 w n 13 (cvW l) (nI k) M) (pR p) (fun r => r = some (rmI (nmd E l), M)) ?_ ?_ (pR p) w 0 () (by omega) (by omega) (fun c hc => by omega)
  · rintro n _ h
    rw [f_X6_roomNamed_2, hM, if_pos (Int32.le_refl _)]
    cases e : nmd E l with
    | none => rfl
    | some c =>
      obtain ⟨j, h1, h2, h3⟩ := nlk_some _ e
      rcases (oE.2.1 j h1).2 with q | q
      · exact absurd e (h c (by omega))
      · show _ = some ((if c < 20 then nI c else -1), M)
        rw [if_neg (by omega)]
  · rintro n _ k hk h
    obtain ⟨j, h1, h2⟩ := oE.2.2.2.1 k hk
    have g := (hE j h1).1 (by omega)
    rw [h2] at g
    have g : M.2 14 k = cvW (E.2.1 j) := g
    rw [f_X6_roomNamed_2, hM, if_neg (fun e => by have := (nI_leI (by omega) (by omega)).mp e; omega), r13_4, l14, chk_nI _ (by omega) (by omega), nI_clamp (by omega), g, nI_1]
    by_cases q : E.2.1 j = l
    · refine Or.inl ?_
      have e := nmd_iff oE h1 q
      rw [if_pos ((lg_cmp_eq _ _).mpr (by rw [q])), e, h2]
      show _ = some ((if k < 20 then nI k else -1), M)
      rw [if_pos (by omega)]
    · refine Or.inr ⟨(), ?_, fun c hc e => ?_⟩
      · rw [if_neg (fun e => q ((cvW_inj (oE.2.1 j h1).1 hl).mp ((lg_cmp_eq _ _).mp e)))]
      · by_cases z : c = k
        · subst z
          obtain ⟨i, i1, i2, i3⟩ := nlk_some _ e
          have g2 := (hE i i1).1 (by omega)
          rw [i3] at g2
          have g2 : M.2 14 c = cvW (E.2.1 i) := g2
          rw [g] at g2
          exact q (((cvW_inj (oE.2.1 j h1).1 (oE.2.1 i i1).1).mp g2).trans i2)
        · exact h c (by omega) e
theorem X6_personNamed_eq (w : Nat) (hw : 40 ≤ w) (hp : okP p) {o : Nat} (ho : o = 13 ∨ o = 1) (hM : M.1 o 2 = nI (pP p)) (oE : okE p E) (hE : ∀ j, j < E.1 → 20 ≤ E.2.2 j → M.2 (o + 2) (E.2.2 j - 20) = cvW (E.2.1 j)) {l : List Nat} (hl : okW l) : f_X6_personNamed w o (cvW l) M = some (psI (nmd E l), M) := by
  have hR := hp.1
  have hP := hp.2.2.1
  have hr5 : rF o 5 = o + 2 ∧ sL (o + 2) = 5 := by rcases ho with rfl | rfl <;> decide +kernel
  unfold f_X6_personNamed
  refine loopX (fun k (_ : Unit) => ∀ c, c < k → nmd E l ≠ some (20 + c)) (fun n (_ : Unit) k => f_X6_personNamed_2 w n o (cvW l) (nI k) M) (pP p) (fun r => r = some (psI (nmd E l), M)) ?_ ?_ (pP p) w 0 () (by omega) (by omega) (fun c hc => by omega)
  · rintro n _ h
    rw [f_X6_personNamed_2, hM, if_pos (Int32.le_refl _)]
    cases e : nmd E l with
    | none => rfl
    | some c =>
      obtain ⟨j, h1, h2, h3⟩ := nlk_some _ e
      rcases (oE.2.1 j h1).2 with q | q
      · show _ = some ((if c < 20 then -1 else nI (c - 20)), M)
        rw [if_pos (by omega)]
      · exact absurd e (by rw [show c = 20 + (c - 20) by omega]; exact h (c - 20) (by omega))
  · rintro n _ k hk h
    obtain ⟨j, h1, h2⟩ := oE.2.2.2.2 k hk
    have g := hE j h1 (by omega)
    rw [h2, show 20 + k - 20 = k by omega] at g
    rw [f_X6_personNamed_2, hM, if_neg (fun e => by have := (nI_leI (by omega) (by omega)).mp e; omega), hr5.1, hr5.2, chk_nI _ (by omega) (by omega), nI_clamp (by omega), g, nI_1]
    by_cases q : E.2.1 j = l
    · refine Or.inl ?_
      have e := nmd_iff oE h1 q
      rw [if_pos ((lg_cmp_eq _ _).mpr (by rw [q])), e, h2]
      show _ = some ((if 20 + k < 20 then -1 else nI (20 + k - 20)), M)
      rw [if_neg (by omega), show 20 + k - 20 = k by omega]
    · refine Or.inr ⟨(), ?_, fun c hc e => ?_⟩
      · rw [if_neg (fun e => q ((cvW_inj (oE.2.1 j h1).1 hl).mp ((lg_cmp_eq _ _).mp e)))]
      · by_cases z : c = k
        · subst z
          obtain ⟨i, i1, i2, i3⟩ := nlk_some _ e
          have g2 := hE i i1 (by omega)
          rw [i3, show 20 + c - 20 = c by omega, g] at g2
          exact q (((cvW_inj (oE.2.1 j h1).1 (oE.2.1 i i1).1).mp g2).trans i2)
        · exact h c (by omega) e
/-! the reference -/
theorem X12_wordHere_eq (w : Nat) (hw : 1100 ≤ w) {m i a n : Nat} (h : AtR M t m i) (ha : a + n ≤ 23) : ∃ v, f_X12_wordHere w 163 (nI a) (nI n) M = some (v, M) ∧ ((v = -1 ∧ ∀ k, k < n → isW t i (a + k) = false) ∨ ∃ k, k < n ∧ v = nI k ∧ isW t i (a + k) = true) := by
  have uni : ∀ k k', k < n → k' < n → isW t i (a + k) = true → isW t i (a + k') = true → k = k' := fun k k' h1 h2 e1 e2 => by
    unfold isW at e1 e2
    rw [Bool.and_eq_true, decide_eq_true_eq, decide_eq_true_eq] at e1 e2
    have := kw_inj (a + k) (by omega) (a + k') (by omega) (e1.2.symm.trans e2.2)
    omega
  unfold f_X12_wordHere
  refine loopX (fun j (v : Int32) => (v = -1 ∧ ∀ k, k < j → isW t i (a + k) = false) ∨ ∃ k, k < n ∧ v = nI k ∧ isW t i (a + k) = true) (fun f (v : Int32) j => f_X12_wordHere_5 w f 163 (nI a) (nI n) v (nI j) M) n (fun r => ∃ v, r = some (v, M) ∧ ((v = -1 ∧ ∀ k, k < n → isW t i (a + k) = false) ∨ ∃ k, k < n ∧ v = nI k ∧ isW t i (a + k) = true)) ?_ ?_ n w 0 (-1) (by omega) (by omega) (Or.inl ⟨rfl, fun k hk => by omega⟩)
  · rintro f v hv
    rw [f_X12_wordHere_5, if_pos (Int32.le_refl _)]
    exact ⟨v, rfl, hv⟩
  · rintro f v j hj hv
    refine Or.inr ?_
    rw [f_X12_wordHere_5, if_neg (fun e => by have := (nI_leI (by omega) (by omega)).mp e; omega), nI_add, X12_isWord_eq w h (by omega), bI_some, nI_1]
    cases e : isW t i (a + j)
    · rw [if_pos (show b2i false = 0 from rfl)]
      refine ⟨v, rfl, ?_⟩
      rcases hv with ⟨v1, v2⟩ | hv
      · refine Or.inl ⟨v1, fun k hk => ?_⟩
        by_cases z : k = j
        · subst z; exact e
        · exact v2 k (by omega)
      · exact Or.inr hv
    · rw [if_neg (show ¬ b2i true = 0 by decide)]
      exact ⟨nI j, rfl, Or.inr ⟨j, hj, rfl, e⟩⟩
theorem X12_wordHere_er (w : Nat) (hw : 1100 ≤ w) {e a n : Nat} (h : ErR M e) (hn : n ≤ 23) : f_X12_wordHere w 163 (nI a) (nI n) M = some (-1, M) := by
  unfold f_X12_wordHere
  refine loopX (fun j (v : Int32) => v = -1) (fun f (v : Int32) j => f_X12_wordHere_5 w f 163 (nI a) (nI n) v (nI j) M) n (fun r => r = some (-1, M)) ?_ ?_ n w 0 (-1) (by omega) (by omega) rfl
  · rintro f v rfl
    rw [f_X12_wordHere_5, if_pos (Int32.le_refl _)]
  · rintro f v j hj rfl
    refine Or.inr ⟨-1, ?_, rfl⟩
    rw [f_X12_wordHere_5, if_neg (fun e => by have := (nI_leI (by omega) (by omega)).mp e; omega), X12_isWord_er w _ h, bI_some, if_pos rfl, nI_1]
theorem ge0 {v : Int32} {k : Nat} (hk : k < 1000) (e : v = nI k) : 0 ≤ v := by rw [e]; exact (nI_leI (a := 0) (by omega) (by omega)).mpr (by omega)
theorem alB_all {f : Nat → Bool} : ∀ n, alB f n = true ↔ ∀ k, k < n → f k = true := by
  intro n
  induction n with
  | zero => exact ⟨fun _ k hk => by omega, fun _ => rfl⟩
  | succ n ih =>
    unfold alB
    rw [Bool.and_eq_true, ih]
    constructor
    · rintro ⟨a, b⟩ k hk
      by_cases z : k = n
      · subst z; exact b
      · exact a k (by omega)
    · intro a
      exact ⟨fun k hk => a k (by omega), a n (by omega)⟩
theorem X12_isName_eq (w : Nat) (hw : 1100 ≤ w) {m i : Nat} (h : AtR M t m i) : f_X12_isName w 163 M = some (b2i (isN t i), M) := by
  have h' := h
  obtain ⟨hR, him, h7, h8, -⟩ := h
  obtain ⟨a1, -⟩ := hR.2.2.2 i him
  have hm := hR.1
  have hle := kind_lt (t := t) (psn t i)
  obtain ⟨v, ev, hv⟩ := X12_wordHere_eq w hw (a := 0) (n := 19) h' (by omega)
  unfold f_X12_isName isN
  rw [h8, if_pos rfl, h7, r163_4, l165, chk_nI _ (by omega) (by omega), nI_clamp (by omega), a1]
  by_cases q : tkK t (psn t i) = 1
  · rw [if_pos (by rw [q]; rfl), decide_eq_true q, Bool.true_and, show f_X12_wordHere w 163 0 19 M = _ from ev, bI_some]
    rcases hv with ⟨v1, v2⟩ | ⟨k, hk, v1, v2⟩
    · rw [if_neg (by rw [v1]; decide), (alB_all 19).mpr (fun k hk => by
        have := v2 k hk
        unfold isW at this
        rw [decide_eq_true q, Bool.true_and, Nat.zero_add] at this
        rw [this]; rfl)]; rfl
    · rw [if_pos (ge0 (by omega) v1), alB_no (f := fun k => !decide (tkW t (psn t i) = kw k)) (k := k) (by
        unfold isW at v2
        rw [decide_eq_true q, Bool.true_and, Nat.zero_add] at v2
        show (!decide (tkW t (psn t i) = kw k)) = false
        rw [v2]; rfl) 19 hk]; rfl
  · rw [if_neg (show ¬ nI _ = 1 from fun e => q ((nI_eq (b := 1) (by omega) (by omega)).mp e)), decide_eq_false q]; rfl
theorem X12_isName_er (w : Nat) {e : Nat} (h : ErR M e) : f_X12_isName w 163 M = some (0, M) := by
  unfold f_X12_isName; rw [if_neg h.ne]; rfl
def cdI (c : Option Nat) : Int32 := match c with
  | some c => nI c
  | none => -1
/-- x = 1: the draft's names; x = 0: the plan's -/
theorem X12_nameAt_eq (w : Nat) (hw : 40 ≤ w) {m i : Nat} (h : AtR M t m i) (hk : tkK t (psn t i) = 1) (oE : okE p E) (b : Bool) (hE : NmR M (if b then 173 else 172) (if b then 175 else 174) (if b then 19 else 18) E) : f_X12_nameAt w 163 (b2i b) M = some (cdI (nmd E (tkW t (psn t i))), M) := by
  obtain ⟨hR, him, h7, h8, -⟩ := h
  obtain ⟨-, -, a3, -, -⟩ := hR.2.2.2 i him
  have hm := hR.1
  have h12 := oE.1
  have hv := a3 hk
  have hlw := tkW_ok (psn_le (t := t) i) hk
  obtain ⟨hn, hE2⟩ := hE
  unfold f_X12_nameAt
  have key : ∀ j n, nlk E (tkW t (psn t i)) j = none → j ≤ E.1 → E.1 - j < n → f_X12_nameAt_2 w n 163 (b2i b) (nI j) M = some (cdI (nmd E (tkW t (psn t i))), M) := by
    intro j
    generalize hd : E.1 - j = d
    induction d generalizing j with
    | zero =>
      intro n hno hj hn2
      obtain ⟨n, rfl⟩ : ∃ k, n = k + 1 := ⟨n - 1, by omega⟩
      have hje : j = E.1 := by omega
      have e : nmd E (tkW t (psn t i)) = none := by unfold nmd; rw [← hje]; exact hno
      rw [f_X12_nameAt_2]
      unfold f_X12_nameAt_18
      rw [e]
      cases b
      · rw [if_pos (show b2i false = 0 from rfl), show M.1 163 18 = nI E.1 from hn, if_pos (by rw [hje]; exact Int32.le_refl _)]; rfl
      · rw [if_neg (show ¬ b2i true = 0 by decide), show M.1 163 19 = nI E.1 from hn, if_pos (by rw [hje]; exact Int32.le_refl _)]; rfl
    | succ d ih =>
      intro n hno hj hn2
      obtain ⟨n, rfl⟩ : ∃ k, n = k + 1 := ⟨n - 1, by omega⟩
      obtain ⟨e1, e2⟩ := hE2 j (by omega)
      have hcmp : lg_cmp (rvW (E.2.1 j)) (rvW (tkW t (psn t i))) = 0 ↔ E.2.1 j = tkW t (psn t i) := by rw [lg_cmp_eq, rvW_inj (oE.2.1 j (by omega)).1 hlw]
      rw [f_X12_nameAt_2]
      unfold f_X12_nameAt_18 f_X12_nameAt_40 f_X12_nameAt_53
      have nx : ∀ q : ¬ E.2.1 j = tkW t (psn t i), nlk E (tkW t (psn t i)) (j + 1) = none := fun q => by
        unfold nlk
        rw [hno]
        show (if E.2.1 j = tkW t (psn t i) then some (E.2.2 j) else none) = none
        rw [if_neg q]
      cases b
      · have e1 : M.2 172 j = _ := e1
        have e2 : M.1 174 j = _ := e2
        rw [if_pos (show b2i false = 0 from rfl), show M.1 163 18 = nI E.1 from hn, if_neg (fun e => by have := (nI_leI (by omega) (by omega)).mp e; omega), if_pos (show b2i false = 0 from rfl), r163_14, r163_16, r163_6, l172, l174, l167, chk_nI _ (by omega) (by omega), h7, chk_nI _ (by omega) (by omega), nI_clamp (by omega), nI_clamp (by omega), e1, hv, nI_1]
        by_cases q : E.2.1 j = tkW t (psn t i)
        · rw [if_pos (hcmp.mpr q), if_pos (show b2i false = 0 from rfl), chk_nI _ (by omega) (by omega), e2, nmd_iff oE (by omega) q]; rfl
        · rw [if_neg (fun e => q (hcmp.mp e))]
          exact ih (j + 1) (by omega) n (nx q) (by omega) (by omega)
      · have e1 : M.2 173 j = _ := e1
        have e2 : M.1 175 j = _ := e2
        rw [if_neg (show ¬ b2i true = 0 by decide), show M.1 163 19 = nI E.1 from hn, if_neg (fun e => by have := (nI_leI (by omega) (by omega)).mp e; omega), if_neg (show ¬ b2i true = 0 by decide), r163_15, r163_17, r163_6, l173, l175, l167, chk_nI _ (by omega) (by omega), h7, chk_nI _ (by omega) (by omega), nI_clamp (by omega), nI_clamp (by omega), e1, hv, nI_1]
        by_cases q : E.2.1 j = tkW t (psn t i)
        · rw [if_pos (hcmp.mpr q), if_neg (show ¬ b2i true = 0 by decide), chk_nI _ (by omega) (by omega), e2, nmd_iff oE (by omega) q]; rfl
        · rw [if_neg (fun e => q (hcmp.mp e))]
          exact ih (j + 1) (by omega) n (nx q) (by omega) (by omega)
  exact key 0 w rfl (by omega) (by omega)
end NAMES
