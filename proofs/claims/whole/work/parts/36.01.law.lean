/-! ===== the law of swelling ===== -/
/-- M with s for cell c -/
def setC (M : mM) (c : Nat) (s : Nat → Int32) : mM := (fun a => if a = c then s else M.1 a, M.2)
theorem setC_at (M : mM) (c : Nat) (s : Nat → Int32) : (setC M c s).1 c = s := if_pos rfl
theorem setC_ne (M : mM) {c a : Nat} (s : Nat → Int32) (h : a ≠ c) : (setC M c s).1 a = M.1 a := if_neg h
theorem setC_2 (M : mM) (c : Nat) (s : Nat → Int32) : (setC M c s).2 = M.2 := rfl
theorem setC_id (M : mM) (c : Nat) : setC M c (M.1 c) = M := by
  refine Prod.ext (funext fun a => ?_) rfl
  show (if a = c then M.1 c else M.1 a) = M.1 a
  split
  · next h => rw [h]
  · rfl
theorem setC_set (M : mM) (c : Nat) (s t : Nat → Int32) : setC (setC M c s) c t = setC M c t := by
  refine Prod.ext (funext fun a => ?_) rfl
  show (if a = c then t else (if a = c then s else M.1 a)) = (if a = c then t else M.1 a)
  split <;> rfl
theorem wI_set (M : mM) (c k : Nat) (v : Int32) : wI M c k v = setC M c (upd (M.1 c) k v) := by
  refine Prod.ext (funext fun a => ?_) rfl
  show (if a = c then upd (M.1 a) k v else M.1 a) = (if a = c then upd (M.1 c) k v else M.1 a)
  split
  · next h => rw [h]
  · rfl
theorem upd_at (s : Nat → Int32) (k : Nat) (v : Int32) : upd s k v k = v := by unfold upd; simp
theorem upd_ne (s : Nat → Int32) {k j : Nat} (v : Int32) (h : j ≠ k) : upd s k v j = s j := by unfold upd; simp [h]
abbrev Lw : Type := Nat × (Nat → Nat) × (Nat → Nat)
/-- two values joined -/
def bin (op : Nat) (x y : Int32) : Int32 := if op = 4 then x + y else if op = 5 then x - y else if op = 6 then x * y else if op = 7 then (if x < y then 1 else 0) else if op = 8 then (if x = y then 1 else 0) else if op = 9 then (if x = 0 then 0 else if y = 0 then 0 else 1) else (if x = 0 then (if y = 0 then 0 else 1) else 1)
def evS (fc : Nat → Int32) (L : Lw) (i : Nat) (t : Nat × (Nat → Int32)) : Nat × (Nat → Int32) := if L.2.1 i = 1 then (t.1 + 1, upd t.2 t.1 (nI (L.2.2 i))) else if L.2.1 i = 2 then (t.1 + 1, upd t.2 t.1 (fc (L.2.2 i))) else if L.2.1 i = 3 then (t.1, upd t.2 (t.1 - 1) (if t.2 (t.1 - 1) = 0 then 1 else 0)) else (t.1 - 1, upd t.2 (t.1 - 2) (bin (L.2.1 i) (t.2 (t.1 - 2)) (t.2 (t.1 - 1))))
/-- the heights H fit the law -/
def okH (L : Lw) (H : Nat → Nat) : Prop := H 0 = 0 ∧ (∀ i, i < L.1 → (L.2.1 i = 1 ∧ L.2.2 i < 10000 ∧ H i < 32 ∧ H (i + 1) = H i + 1) ∨ (L.2.1 i = 2 ∧ L.2.2 i < 4 ∧ H i < 32 ∧ H (i + 1) = H i + 1) ∨ (L.2.1 i = 3 ∧ 1 ≤ H i ∧ H i ≤ 32 ∧ H (i + 1) = H i) ∨ (4 ≤ L.2.1 i ∧ L.2.1 i ≤ 10 ∧ 2 ≤ H i ∧ H i ≤ 32 ∧ H (i + 1) = H i - 1)) ∧ 1 ≤ H L.1
def okL (L : Lw) : Prop := L.1 ≤ 999 ∧ (0 < L.1 → ∃ H, okH L H)
def lwV (fc : Nat → Int32) (L : Lw) : Int32 := if L.1 = 0 then 1 else (itG (evS fc L) L.1 0 (0, fun _ => 0)).2 0
theorem evS_1 {fc : Nat → Int32} {L : Lw} {i : Nat} (a : L.2.1 i = 1) (t : Nat × (Nat → Int32)) : evS fc L i t = (t.1 + 1, upd t.2 t.1 (nI (L.2.2 i))) := by unfold evS; rw [if_pos a]
theorem evS_2 {fc : Nat → Int32} {L : Lw} {i : Nat} (a : L.2.1 i = 2) (t : Nat × (Nat → Int32)) : evS fc L i t = (t.1 + 1, upd t.2 t.1 (fc (L.2.2 i))) := by unfold evS; rw [if_neg (by omega), if_pos a]
theorem evS_3 {fc : Nat → Int32} {L : Lw} {i : Nat} (a : L.2.1 i = 3) (t : Nat × (Nat → Int32)) : evS fc L i t = (t.1, upd t.2 (t.1 - 1) (if t.2 (t.1 - 1) = 0 then 1 else 0)) := by unfold evS; rw [if_neg (by omega), if_neg (by omega), if_pos a]
theorem evS_4 {fc : Nat → Int32} {L : Lw} {i : Nat} (a : 4 ≤ L.2.1 i) (t : Nat × (Nat → Int32)) : evS fc L i t = (t.1 - 1, upd t.2 (t.1 - 2) (bin (L.2.1 i) (t.2 (t.1 - 2)) (t.2 (t.1 - 1)))) := by unfold evS; rw [if_neg (by omega), if_neg (by omega), if_neg (by omega)]
theorem evS_top {fc : Nat → Int32} {L : Lw} {H : Nat → Nat} (hH : okH L H) {i : Nat} (hi : i < L.1) (t : Nat × (Nat → Int32)) (ht : t.1 = H i) : (evS fc L i t).1 = H (i + 1) := by
  rcases hH.2.1 i hi with ⟨a, -, -, e⟩ | ⟨a, -, -, e⟩ | ⟨a, -, -, e⟩ | ⟨a, b, -, -, e⟩
  · rw [evS_1 a, e, ← ht]
  · rw [evS_2 a, e, ← ht]
  · rw [evS_3 a, e, ← ht]
  · rw [evS_4 a, e, ← ht]
theorem evS_rel {fc : Nat → Int32} {L : Lw} {H : Nat → Nat} (hH : okH L H) {i : Nat} (hi : i < L.1) (t u : Nat × (Nat → Int32)) (ht : t.1 = H i) (hu : u.1 = H i) (h : ∀ j, j < H i → t.2 j = u.2 j) : ∀ j, j < H (i + 1) → (evS fc L i t).2 j = (evS fc L i u).2 j := by
  intro j hj
  rcases hH.2.1 i hi with ⟨a, -, -, e⟩ | ⟨a, -, -, e⟩ | ⟨a, a2, -, e⟩ | ⟨a, b, a2, -, e⟩
  · rw [evS_1 a, evS_1 a]
    show upd t.2 t.1 _ j = upd u.2 u.1 _ j
    rw [ht, hu]
    by_cases q : j = H i
    · rw [q, upd_at, upd_at]
    · rw [upd_ne _ _ q, upd_ne _ _ q]; exact h j (by omega)
  · rw [evS_2 a, evS_2 a]
    show upd t.2 t.1 _ j = upd u.2 u.1 _ j
    rw [ht, hu]
    by_cases q : j = H i
    · rw [q, upd_at, upd_at]
    · rw [upd_ne _ _ q, upd_ne _ _ q]; exact h j (by omega)
  · rw [evS_3 a, evS_3 a]
    show upd t.2 (t.1 - 1) (if t.2 (t.1 - 1) = 0 then 1 else 0) j = upd u.2 (u.1 - 1) (if u.2 (u.1 - 1) = 0 then 1 else 0) j
    rw [ht, hu, h (H i - 1) (by omega)]
    by_cases q : j = H i - 1
    · rw [q, upd_at, upd_at]
    · rw [upd_ne _ _ q, upd_ne _ _ q]; exact h j (by omega)
  · rw [evS_4 a, evS_4 a]
    show upd t.2 (t.1 - 2) (bin (L.2.1 i) (t.2 (t.1 - 2)) (t.2 (t.1 - 1))) j = upd u.2 (u.1 - 2) (bin (L.2.1 i) (u.2 (u.1 - 2)) (u.2 (u.1 - 1))) j
    rw [ht, hu, h (H i - 1) (by omega), h (H i - 2) (by omega)]
    by_cases q : j = H i - 2
    · rw [q, upd_at, upd_at]
    · rw [upd_ne _ _ q, upd_ne _ _ q]; exact h j (by omega)
theorem lwV_of {fc : Nat → Int32} {L : Lw} {H : Nat → Nat} (hH : okH L H) (h0 : 0 < L.1) (s : Nat → Int32) : (itG (evS fc L) L.1 0 (0, s)).2 0 = lwV fc L := by
  unfold lwV
  rw [if_neg (by omega)]
  have := itG_rel (fun k (t u : Nat × (Nat → Int32)) => t.1 = H k ∧ u.1 = H k ∧ ∀ j, j < H k → t.2 j = u.2 j) (evS fc L) (evS fc L) (K := L.1) (fun k t u hk ⟨a, b, c⟩ => ⟨evS_top hH hk t a, evS_top hH hk u b, evS_rel hH hk t u a b c⟩) L.1 0 (0, s) (0, fun _ => 0) (by omega) ⟨hH.1.symm, hH.1.symm, fun j hj => by rw [hH.1] at hj; omega⟩
  rw [Nat.zero_add] at this
  exact this.2.2 0 (by have := hH.2.2; omega)
/-- a law's sign in the class's code -/
def ccI (op arg : Nat) : Int32 := if op = 1 then nI arg else if op = 2 then - nI (arg + 1) else if op = 3 then -5 else if op = 4 then -10 else if op = 5 then -11 else if op = 6 then -12 else if op = 7 then -8 else if op = 8 then -9 else if op = 9 then -6 else -7
/-- the class's law at cell o, its signs at o + 1 -/
def LwC (M : mM) (o : Nat) (L : Lw) : Prop := M.1 o 2 = nI L.1 ∧ ∀ i, i < L.1 → M.1 (o + 1) i = ccI (L.2.1 i) (L.2.2 i)
/-- the reference's law, that of the house at place b, its codes from place a on -/
def LwR (M : mM) (b a : Nat) (L : Lw) : Prop := (L.1 = 0 → M.1 169 (b + 4) = -1) ∧ (0 < L.1 → M.1 169 (b + 4) = 0 ∧ M.1 170 (a + L.1) = 0) ∧ ∀ i, i < L.1 → M.1 170 (a + i) = nI (L.2.1 i) ∧ M.1 171 (a + i) = nI (L.2.2 i)
def fc4 (x1 x2 x3 x4 : Int32) (k : Nat) : Int32 := if k = 0 then x1 else if k = 1 then x2 else if k = 2 then x3 else x4
theorem X3_fact_eq (w : Nat) (x1 x2 x3 x4 : Int32) (M : mM) : ∀ k, k < 4 → f_X3_fact w (- nI (k + 1)) x1 x2 x3 x4 M = some (fc4 x1 x2 x3 x4 k, M) := by
  intro k hk
  have : k = 0 ∨ k = 1 ∨ k = 2 ∨ k = 3 := by omega
  rcases this with rfl | rfl | rfl | rfl <;> rfl
theorem X3_joined_eq (w : Nat) (x y : Int32) (M : mM) : ∀ op, 4 ≤ op → op ≤ 10 → f_X3_joined w (ccI op 0) x y M = some (bin op x y, M) := by
  intro op h1 h2
  have : op = 4 ∨ op = 5 ∨ op = 6 ∨ op = 7 ∨ op = 8 ∨ op = 9 ∨ op = 10 := by omega
  rcases this with rfl | rfl | rfl | rfl | rfl | rfl | rfl
  · rfl
  · rfl
  · rfl
  · show (if y ≤ x then some ((0 : Int32), M) else some (1, M)) = some (if x < y then 1 else 0, M)
    by_cases q : x < y
    · rw [if_neg (Int32.not_le.mpr q), if_pos q]
    · rw [if_pos (Int32.not_lt.mp q), if_neg q]
  · show (if x = y then some ((1 : Int32), M) else some (0, M)) = some (if x = y then 1 else 0, M)
    split <;> rfl
  · show (if x = 0 then some ((0 : Int32), M) else if y = 0 then some (0, M) else some (1, M)) = some (if x = 0 then 0 else if y = 0 then 0 else 1, M)
    split
    · rfl
    · split <;> rfl
  · show (if x = 0 then (if y = 0 then some ((0 : Int32), M) else some (1, M)) else some (1, M)) = some (if x = 0 then (if y = 0 then 0 else 1) else 1, M)
    split
    · split <;> rfl
    · rfl
theorem cc_lit : ∀ op, 4 ≤ op → op ≤ 10 → ccI op 0 < -4 ∧ ccI op 0 ≠ -5 := by
  intro op h1 h2
  have : op = 4 ∨ op = 5 ∨ op = 6 ∨ op = 7 ∨ op = 8 ∨ op = 9 ∨ op = 10 := by omega
  rcases this with rfl | rfl | rfl | rfl | rfl | rfl | rfl <;> decide
theorem cc_arg {op : Nat} (arg : Nat) (h : 3 ≤ op) : ccI op arg = ccI op 0 := by
  unfold ccI; simp only [if_neg (show ¬ op = 1 by omega), if_neg (show ¬ op = 2 by omega)]
theorem cc_fact : ∀ k, k < 4 → ¬ (- nI (k + 1) < -4) ∧ - nI (k + 1) < 0 := by decide +kernel
theorem nI_nlt4 {n : Nat} (h : n < 2147483648) : ¬ nI n < -4 := fun e => by
  have h1 : ¬ nI n < 0 := nI_pos h
  exact h1 (Int32.lt_trans e (by decide))
theorem upd_set (M : mM) (c : Nat) (s : Nat → Int32) (k : Nat) (v : Int32) : wI (setC M c s) c k v = setC M c (upd s k v) := by
  rw [wI_set, setC_at, setC_set]
theorem X3_valueBy_eq (w : Nat) (hw : 1100 ≤ w) {M : mM} {L : Lw} (hL : okL L) (hc : LwC M 10 L) (x1 x2 x3 x4 : Int32) : ∃ s, f_X3_valueBy w 10 x1 x2 x3 x4 M = some (lwV (fc4 x1 x2 x3 x4) L, setC M 12 s) := by
  obtain ⟨hlen, hok⟩ := hL
  unfold f_X3_valueBy
  rw [hc.1]
  by_cases h0 : L.1 = 0
  · refine ⟨M.1 12, ?_⟩
    rw [h0, if_pos (show nI 0 = 0 from rfl), setC_id]
    unfold lwV
    rw [if_pos h0]
  · obtain ⟨H, hH⟩ := hok (by omega)
    rw [if_neg (show ¬ nI L.1 = 0 from fun e => h0 ((nI_eq (b := 0) (by omega) (by omega)).mp e))]
    refine ⟨(itG (evS (fc4 x1 x2 x3 x4) L) L.1 0 (0, M.1 12)).2, ?_⟩
    rw [← lwV_of hH (by omega) (M.1 12)]
    have key := loopG (fun k (t : Nat × (Nat → Int32)) => t.1 = H k) (fun n (t : Nat × (Nat → Int32)) k => f_X3_valueBy_15 w n 10 x1 x2 x3 x4 (nI t.1) (nI k) (setC M 12 t.2)) (evS (fc4 x1 x2 x3 x4) L) (fun t => some (t.2 0, setC M 12 t.2)) L.1 (by
      intro n t ht
      rw [f_X3_valueBy_15, setC_ne _ _ (show 10 ≠ 12 by decide), hc.1, if_pos (Int32.le_refl _), r10_1, l12, show (0 : Int32) = nI 0 from rfl, chk_nI _ (by omega) (by omega), nI_clamp (by omega), setC_at]) (by
      intro n t k hk ht
      refine ⟨?_, evS_top hH hk t ht⟩
      have g : M.1 11 k = ccI (L.2.1 k) (L.2.2 k) := hc.2 k hk
      rw [f_X3_valueBy_15, setC_ne _ _ (show 10 ≠ 12 by decide), hc.1, if_neg (fun h => by have := (nI_leI (by omega) (by omega)).mp h; omega), r10_0, r10_1, l11, l12, chk_nI _ (by omega) (by omega), nI_clamp (by omega), setC_ne _ _ (show 11 ≠ 12 by decide), g, lt_eq]
      rcases hH.2.1 k hk with ⟨a, a2, a3, -⟩ | ⟨a, a2, a3, -⟩ | ⟨a, a2, a3, -⟩ | ⟨a, b, a2, a3, -⟩
      · have e1 : ccI (L.2.1 k) (L.2.2 k) = nI (L.2.2 k) := by unfold ccI; rw [if_pos a]
        rw [e1, evS_1 a, if_neg (nI_nlt4 (by omega)), if_neg (fun h => by have := (nI_leI (a := 32) (by omega) (by omega)).mp h; omega), if_neg (nI_pos (by omega))]
        unfold f_X3_valueBy_73
        rw [l12, chk_nI _ (by omega) (by omega), nI_clamp (by omega), lt_eq, upd_set, nI_1, nI_1]
      · have e1 : ccI (L.2.1 k) (L.2.2 k) = - nI (L.2.2 k + 1) := by unfold ccI; rw [if_neg (by omega), if_pos a]
        rw [e1, evS_2 a, if_neg (cc_fact _ a2).1, if_neg (fun h => by have := (nI_leI (a := 32) (by omega) (by omega)).mp h; omega), if_pos (cc_fact _ a2).2, X3_fact_eq w x1 x2 x3 x4 _ _ a2, bI_some]
        unfold f_X3_valueBy_73
        rw [l12, chk_nI _ (by omega) (by omega), nI_clamp (by omega), lt_eq, upd_set, nI_1, nI_1]
      · have e1 : ccI (L.2.1 k) (L.2.2 k) = -5 := by unfold ccI; rw [if_neg (by omega), if_neg (by omega), if_pos a]
        have e2 : nI t.1 - 1 = nI (t.1 - 1) := pk_sub (b := 1) (by omega)
        rw [e1, evS_3 a, if_pos (by decide), if_pos rfl, if_neg (fun h => by have := (nI_ltI (b := 1) (by omega) (by omega)).mp h; omega), e2, chk_nI _ (by omega) (by omega), nI_clamp (by omega), setC_at]
        unfold f_X3_valueBy_118
        rw [l12, chk_nI _ (by omega) (by omega), chk_nI _ (by omega) (by omega), nI_clamp (by omega), lt_eq, lt_eq, upd_set, upd_set, nI_1]
        by_cases q : t.2 (t.1 - 1) = 0
        · rw [if_pos q, if_pos q]
        · rw [if_neg q, if_neg q]
      · have e1 : ccI (L.2.1 k) (L.2.2 k) = ccI (L.2.1 k) 0 := cc_arg _ (by omega)
        have e2 : nI t.1 - 1 = nI (t.1 - 1) := pk_sub (b := 1) (by omega)
        have e3 : nI t.1 - 2 = nI (t.1 - 2) := pk_sub (b := 2) (by omega)
        have e4 : nI t.1 + (-1) = nI (t.1 - 1) := by rw [← e2, Int32.sub_eq_add_neg]
        obtain ⟨c1, c2⟩ := cc_lit _ a b
        rw [e1, evS_4 a, if_pos c1, if_neg c2]
        unfold f_X3_valueBy_122
        rw [if_neg (fun h => by have := (nI_ltI (b := 2) (by omega) (by omega)).mp h; omega), r10_1, l12, e2, e3, e4, chk_nI _ (by omega) (by omega), chk_nI _ (by omega) (by omega), nI_clamp (by omega), nI_clamp (by omega), setC_at, X3_joined_eq w _ _ _ _ a b, bI_some, chk_nI _ (by omega) (by omega), lt_eq, upd_set, nI_1]) L.1 w 0 (0, M.1 12) (by omega) (by omega) hH.1.symm
    rw [setC_id] at key
    exact key
