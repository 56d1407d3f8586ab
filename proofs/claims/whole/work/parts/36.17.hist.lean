/-! ===== what is kept to be undone ===== -/
abbrev HI : Type := Nat × (Nat → HS)
def psh (h : HS) (H : HI) : HI := (if H.1 = 16 then 16 else H.1 + 1, fun i => if i = 0 then h else H.2 (i - 1))
def ppd (H : HI) : HI := (H.1 - 1, fun i => H.2 (i + 1))
/-- where the i-th last kept state lies in the class -/
def hcell (t i : Nat) : Nat := 41 + 4 * ((t + 16 - i) % 16)
def HiC (M : mM) (p : HP) (H : HI) : Prop := H.1 ≤ 16 ∧ ∃ t, t < 16 ∧ M.1 39 1 = nI t ∧ M.1 39 2 = nI H.1 ∧ ∀ i, i < H.1 → StC M (hcell t i) p (H.2 i)
def HiR (M : mM) (p : HP) (H : HI) : Prop := M.1 163 25 = nI H.1 ∧ ∀ i, i < H.1 → StR M (65 * (5 + (H.1 - 1 - i))) p (H.2 i)
section HIST
variable {p : HP} {x : HX} {h : HS} {H : HI} {M N : mM}
theorem rA40 : ∀ k, k < 16 → rA 40 k = 41 + 4 * k := by decide +kernel
theorem st41 : ∀ k, k < 16 → 41 + 4 * k ∈ [31, 35, 41, 45, 49, 53, 57, 61, 65, 69, 73, 77, 81, 85, 89, 93, 97, 101, 119, 130, 141, 152] := by decide
theorem cpk0 {α : Type} (n a b : Nat) (f : Option α) (h1 : n ≤ a) (h2 : n ≤ b) (h3 : n < 1000) : cpk (nI 0) (nI 0) (nI n) a b f = f := cpk_ok f h1 h2 (by omega)
theorem X9_copyFrom_eq (w : Nat) {o o1 : Nat} (ho : o ∈ [31, 35, 41, 45, 49, 53, 57, 61, 65, 69, 73, 77, 81, 85, 89, 93, 97, 101, 119, 130, 141, 152]) (ho1 : o1 ∈ [31, 35, 41, 45, 49, 53, 57, 61, 65, 69, 73, 77, 81, 85, 89, 93, 97, 101, 119, 130, 141, 152]) (hne : o + 4 ≤ o1 ∨ o1 + 4 ≤ o) (hp : okP p) (hs : StC M o1 p h) : ∃ N, f_X9_copyFrom w o o1 M = some N ∧ Fr [o, o + 1, o + 2, o + 3] M N ∧ StC N o p h := by
  have hD := hp.2.1
  have hP := hp.2.2.1
  obtain ⟨-, a3, a4, a5, b1, b2, b3⟩ := stF o ho
  obtain ⟨-, c3, c4, c5, d1, d2, d3⟩ := stF o1 ho1
  obtain ⟨e0, e1, e2, e3⟩ := hs
  refine ⟨setC (setC (setC (wI (wI M o 1 (M.1 o1 1)) o 2 (M.1 o1 2)) (o + 1) (va_cpy (M.1 (o1 + 1)) (M.1 (o + 1)) 0 0 8)) (o + 2) (va_cpy (M.1 (o1 + 2)) (M.1 (o + 2)) 0 0 8)) (o + 3) (va_cpy (M.1 (o1 + 3)) (M.1 (o + 3)) 0 0 5), ?_, ?_, ?_⟩
  · unfold f_X9_copyFrom
    rw [a3, a4, a5, c3, c4, c5, b1, b2, b3, d1, d2, d3, lt_eq, lt_eq]
    rw [show cpk (0 : Int32) 0 8 8 8 = cpk (nI 0) (nI 0) (nI 8) 8 8 from rfl, show cpk (0 : Int32) 0 5 5 5 = cpk (nI 0) (nI 0) (nI 5) 5 5 from rfl, cpk0 _ _ _ _ (by omega) (by omega) (by omega), lt_eq, cpk0 _ _ _ _ (by omega) (by omega) (by omega), lt_eq, cpk0 _ _ _ _ (by omega) (by omega) (by omega), lt_eq, show (0 : Int32).toNatClampNeg = 0 from rfl, show (8 : Int32).toNatClampNeg = 8 from rfl, show (5 : Int32).toNatClampNeg = 5 from rfl, cI_set, cI_set, cI_set]
    have g1 : (wI M o 1 (M.1 o1 1)).1 o1 = M.1 o1 := by rw [wI_set, setC_ne _ _ (by omega)]
    have g2 : ∀ c, c ≠ o → (wI (wI M o 1 (M.1 o1 1)) o 2 (M.1 o1 2)).1 c = M.1 c := fun c hc => by rw [wI_set, setC_ne _ _ hc, wI_set, setC_ne _ _ hc]
    rw [g1, setC_ne _ _ (show o1 + 3 ≠ o + 2 by omega), setC_ne _ _ (show o1 + 3 ≠ o + 1 by omega), setC_ne _ _ (show o + 3 ≠ o + 2 by omega), setC_ne _ _ (show o + 3 ≠ o + 1 by omega), setC_ne _ _ (show o1 + 2 ≠ o + 1 by omega), setC_ne _ _ (show o + 2 ≠ o + 1 by omega), g2 (o1 + 1) (by omega), g2 (o + 1) (by omega), g2 (o1 + 2) (by omega), g2 (o + 2) (by omega), g2 (o1 + 3) (by omega), g2 (o + 3) (by omega)]
  · exact ((((((Fr.rf _ M).wI (by simp) _ _).wI (by simp) _ _).set (by simp) _).set (by simp) _).set (by simp) _)
  · have eo : (setC (setC (setC (wI (wI M o 1 (M.1 o1 1)) o 2 (M.1 o1 2)) (o + 1) (va_cpy (M.1 (o1 + 1)) (M.1 (o + 1)) 0 0 8)) (o + 2) (va_cpy (M.1 (o1 + 2)) (M.1 (o + 2)) 0 0 8)) (o + 3) (va_cpy (M.1 (o1 + 3)) (M.1 (o + 3)) 0 0 5)).1 o = upd (upd (M.1 o) 1 (M.1 o1 1)) 2 (M.1 o1 2) := by
      rw [setC_ne _ _ (by omega), setC_ne _ _ (by omega), setC_ne _ _ (by omega), wI_set, setC_at, wI_set, setC_at]
    refine ⟨?_, ?_, fun d hd => ⟨?_, ?_⟩, fun q hq => ?_⟩
    · rw [eo, upd_ne _ _ (by decide), upd_at]; exact e0
    · rw [eo, upd_at]; exact e1
    · rw [setC_ne _ _ (by omega), setC_ne _ _ (by omega), setC_at, cpy_in _ _ (by omega)]; exact (e2 d hd).1
    · rw [setC_ne _ _ (by omega), setC_at, cpy_in _ _ (by omega)]; exact (e2 d hd).2
    · rw [setC_at, cpy_in _ _ (by omega)]; exact e3 q hq
/-- what the keeping may write -/
def FrH (M N : mM) : Prop := (∀ c, c ≠ 39 → (c < 41 ∨ 104 < c) → N.1 c = M.1 c) ∧ N.2 = M.2
theorem X1_keep_eq (w : Nat) (hp : okP p) (hs : StC M 31 p h) (hi : HiC M p H) : ∃ N, f_X1_keep w 39 31 M = some N ∧ FrH M N ∧ HiC N p (psh h H) := by
  obtain ⟨h16, t, ht, e1, e2, e3⟩ := hi
  have et : nI t + 1 - (nI t + 1) / 16 * 16 = nI ((t + 1) % 16) := by
    rw [nI_1]; exact pk_rem (d := 16) (by omega) (by omega) (by omega)
  have htm : (t + 1) % 16 < 16 := Nat.mod_lt _ (by omega)
  have eM1 : (wI M 39 1 (nI ((t + 1) % 16))).1 39 1 = nI ((t + 1) % 16) := by rw [wI_set, setC_at, upd_at]
  have hs1 : StC (wI M 39 1 (nI ((t + 1) % 16))) 31 p h := hs.fr (fun c h1 h2 => by rw [wI_set, setC_ne _ _ (by omega)])
  obtain ⟨K, eK, fK, sK⟩ := X9_copyFrom_eq w (st41 _ htm) mem31 (by omega) hp hs1
  have eK2 : K.1 39 2 = nI H.1 := by rw [fK.1 39 (by simp; omega), wI_set, setC_at, upd_ne _ _ (by decide)]; exact e2
  have emn : mnI 16 (nI H.1 + 1) = nI (psh h H).1 := by
    rw [nI_1]
    show mnI (nI 16) (nI (H.1 + 1)) = nI (if H.1 = 16 then 16 else H.1 + 1)
    unfold mnI
    by_cases q : H.1 = 16
    · rw [if_pos q, if_neg (fun e => by have := (nI_ltI (by omega) (by omega)).mp e; omega)]
    · rw [if_neg q]
      by_cases q2 : H.1 + 1 < 16
      · rw [if_pos ((nI_ltI (by omega) (by omega)).mpr q2)]
      · rw [if_neg (fun e => q2 ((nI_ltI (by omega) (by omega)).mp e))]
        exact congrArg nI (by omega)
  refine ⟨wI K 39 2 (nI (psh h H).1), ?_, ⟨fun c h1 h2 => ?_, ?_⟩, ?_, (t + 1) % 16, htm, ?_, ?_, fun i hi => ?_⟩
  · unfold f_X1_keep
    rw [if_neg (by decide), e1, et, lt_eq, eM1, r39_0, l40, chk_nI _ (by omega) (by omega), nI_clamp (by omega), rA40 _ htm, eK, bV_some, eK2, emn, lt_eq]
  · rw [wI_set, setC_ne _ _ h1, fK.1 c (by simp; omega), wI_set, setC_ne _ _ h1]
  · rw [wI_set, setC_2, fK.2, wI_set, setC_2]
  · show (if H.1 = 16 then 16 else H.1 + 1) ≤ 16
    split <;> omega
  · rw [wI_set, setC_at, upd_ne _ _ (by decide), fK.1 39 (by simp; omega), eM1]
  · rw [wI_set, setC_at, upd_at]
  · have hi2 : i < (if H.1 = 16 then 16 else H.1 + 1) := hi
    have sK2 : ∀ o g, (41 ≤ o) → StC K o p g → StC (wI K 39 2 (nI (psh h H).1)) o p g := fun o g ho hg => hg.fr (fun c h1 h2 => by rw [wI_set, setC_ne _ _ (by omega)])
    refine sK2 _ _ (by unfold hcell; omega) ?_
    by_cases q : i = 0
    · subst q
      show StC K (hcell ((t + 1) % 16) 0) p h
      unfold hcell
      rw [Nat.sub_zero, show ((t + 1) % 16 + 16) % 16 = (t + 1) % 16 by omega]
      exact sK
    · have e4 : (psh h H).2 i = H.2 (i - 1) := if_neg q
      have e5 : hcell ((t + 1) % 16) i = hcell t (i - 1) := by unfold hcell; split at hi2 <;> omega
      have hlt : i - 1 < H.1 := by split at hi2 <;> omega
      rw [e4, e5]
      have h0 := e3 (i - 1) hlt
      refine h0.fr (fun c h1 h2 => ?_)
      have hne : 41 + 4 * ((t + 1) % 16) + 3 < hcell t (i - 1) ∨ hcell t (i - 1) + 3 < 41 + 4 * ((t + 1) % 16) := by
        unfold hcell
        split at hi2 <;> omega
      have h41 : 41 ≤ hcell t (i - 1) := by unfold hcell; omega
      rw [fK.1 c (by simp; omega), wI_set, setC_ne _ _ (by omega)]
theorem X1_bringBack_eq (w : Nat) (hp : okP p) (hi : HiC M p H) : (H.1 = 0 ∧ f_X1_bringBack w 39 31 M = some (0, M)) ∨ (0 < H.1 ∧ ∃ N, f_X1_bringBack w 39 31 M = some (1, N) ∧ Fr [39, 31, 32, 33, 34] M N ∧ StC N 31 p (H.2 0) ∧ HiC N p (ppd H)) := by
  obtain ⟨h16, t, ht, e1, e2, e3⟩ := hi
  unfold f_X1_bringBack
  rw [e2]
  by_cases q : H.1 = 0
  · refine Or.inl ⟨q, ?_⟩
    rw [q, if_pos (show nI 0 = 0 from rfl)]; rfl
  · refine Or.inr ⟨by omega, ?_⟩
    have s0 := e3 0 (by omega)
    have ec : hcell t 0 = 41 + 4 * t := by unfold hcell; omega
    rw [ec] at s0
    obtain ⟨K, eK, fK, sK⟩ := X9_copyFrom_eq w mem31 (st41 t ht) (by omega) hp s0
    have eK1 : K.1 39 1 = nI t := by rw [fK.1 39 (by decide)]; exact e1
    have eK2 : K.1 39 2 = nI H.1 := by rw [fK.1 39 (by decide)]; exact e2
    have et : nI t + 16 - 1 - (nI t + 16 - 1) / 16 * 16 = nI ((t + 15) % 16) := by
      rw [show nI t + 16 - 1 = nI (t + 15) by show nI t + nI 16 - nI 1 = _; rw [nI_add]; exact pk_sub (b := 1) (by omega)]
      exact pk_rem (d := 16) (by omega) (by omega) (by omega)
    have fN : Fr [39, 31, 32, 33, 34] M (wI (wI K 39 1 (nI ((t + 15) % 16))) 39 2 (nI (H.1 - 1))) := ((fK.mono (by decide)).wI (by decide) _ _).wI (by decide) _ _
    refine ⟨wI (wI K 39 1 (nI ((t + 15) % 16))) 39 2 (nI (H.1 - 1)), ?_, fN, sK.fr (fun c h1 h2 => by rw [wI_set, setC_ne _ _ (by omega), wI_set, setC_ne _ _ (by omega)]), by show H.1 - 1 ≤ 16; omega, (t + 15) % 16, Nat.mod_lt _ (by omega), ?_, ?_, fun i hi => ?_⟩
    · rw [if_neg (show ¬ nI H.1 = 0 from fun e => q ((nI_eq (b := 0) (by omega) (by omega)).mp e)), e1, r39_0, l40, chk_nI _ (by omega) (by omega), nI_clamp (by omega), rA40 t ht, eK, bV_some, if_neg (by decide), eK1, et, lt_eq, show (wI K 39 1 (nI ((t + 15) % 16))).1 39 2 = nI H.1 by rw [wI_set, setC_at, upd_ne _ _ (by decide)]; exact eK2, show nI H.1 - 1 = nI (H.1 - 1) from pk_sub (b := 1) (by omega), lt_eq]
      rfl
    · rw [wI_set, setC_at, upd_ne _ _ (by decide), wI_set, setC_at, upd_at]
    · rw [wI_set, setC_at, upd_at]; rfl
    · have hi2 : i < H.1 - 1 := hi
      have h0 := e3 (i + 1) (by omega)
      rw [show hcell ((t + 15) % 16) i = hcell t (i + 1) by unfold hcell; omega]
      show StC _ _ p (H.2 (i + 1))
      refine h0.fr (fun c h1 h2 => ?_)
      have : 41 ≤ hcell t (i + 1) := by unfold hcell; omega
      exact fN.1 c (by simp; omega)
/-! the reference -/
def FrK (M N : mM) : Prop := (∀ c, c ≠ 163 → c ≠ 179 → N.1 c = M.1 c) ∧ N.2 = M.2 ∧ (∀ j, j ≠ 25 → N.1 163 j = M.1 163 j) ∧ ∀ j, (j < 325 ∨ 1365 ≤ j) → N.1 179 j = M.1 179 j
theorem X12_keeps_53_eq (w : Nat) (hw : 40 ≤ w) (hp : okP p) (hs : StR M 0 p h) {n : Nat} {U : Nat → HS} (hn : n < 16) (e1 : M.1 163 25 = nI n) (e2 : ∀ i, i < n → StR M (65 * (5 + (n - 1 - i))) p (U i)) : ∃ N, f_X12_keeps_53 w 163 M = some N ∧ FrK M N ∧ HiR N p (n + 1, fun i => if i = 0 then h else U (i - 1)) := by
  have hD := hp.2.1
  have hP := hp.2.2.1
  obtain ⟨K, eK, fK, k1, k2⟩ := X12_copies_eq w (a := 0) (b := 65 * (5 + n)) (m := 23) (by omega) (by omega) (by omega) (by omega) M
  have eK25 : K.1 163 25 = nI n := by rw [fK.1 163 (by decide)]; exact e1
  refine ⟨wI K 163 25 (nI (n + 1)), ?_, ⟨fun c h1 h2 => ?_, ?_, fun j hj => ?_, fun j hj => ?_⟩, ?_, fun i hi => ?_⟩
  · unfold f_X12_keeps_53
    rw [e1, show (65 : Int32) * (5 + nI n) = nI (65 * (5 + n)) by rw [show (5 : Int32) + nI n = nI (5 + n) from nI_add 5 n]; exact pk_mul 65 (5 + n), show f_X12_copies w 163 0 (nI (65 * (5 + n))) 23 M = some K from eK, bV_some, eK25, nI_1, lt_eq]
  · rw [wI_set, setC_ne _ _ h1]; exact fK.1 c (by simp; exact h2)
  · rw [wI_set, setC_2]; exact fK.2
  · rw [wI_set, setC_at, upd_ne _ _ hj, fK.1 163 (by decide)]
  · rw [wI_set, setC_ne _ _ (by decide)]; exact k2 j (by omega)
  · rw [wI_set, setC_at, upd_at]
  · have hi : i < n + 1 := hi
    have e179 : (wI K 163 25 (nI (n + 1))).1 179 = K.1 179 := by rw [wI_set, setC_ne _ _ (by decide)]
    show StR _ (65 * (5 + (n + 1 - 1 - i))) p (if i = 0 then h else U (i - 1))
    by_cases q : i = 0
    · subst q
      rw [if_pos rfl, show n + 1 - 1 - 0 = n by omega]
      exact hs.copy hp (fun k hk => by rw [e179, k1 k hk])
    · rw [if_neg q, show n + 1 - 1 - i = n - 1 - (i - 1) by omega]
      exact (e2 (i - 1) (by omega)).fr hp (fun j h1 h2 => by rw [e179, k2 j (by omega)])
theorem X12_keeps_eq (w : Nat) (hw : 40 ≤ w) (hp : okP p) (hs : StR M 0 p h) (h16 : H.1 ≤ 16) (hi : HiR M p H) : ∃ N, f_X12_keeps w 163 M = some N ∧ FrK M N ∧ HiR N p (psh h H) := by
  obtain ⟨e1, e2⟩ := hi
  unfold f_X12_keeps
  rw [e1]
  by_cases q : H.1 = 16
  · rw [if_pos (by rw [q]; rfl)]
    have key : ∃ N, f_X12_keeps_11 w w 163 1 M = f_X12_keeps_43 w 163 N ∧ Fr [179] M N ∧ (∀ j, (j < 325 ∨ 1365 ≤ j) → N.1 179 j = M.1 179 j) ∧ ∀ a, a < 15 → ∀ i, i < 23 → N.1 179 (65 * (5 + a) + i) = M.1 179 (65 * (5 + (a + 1)) + i) := by
      refine loopX (fun k (N : mM) => 1 ≤ k ∧ Fr [179] M N ∧ (∀ j, (j < 325 ∨ 65 * (5 + (k - 1)) ≤ j) → N.1 179 j = M.1 179 j) ∧ ∀ a, a + 1 < k → ∀ i, i < 23 → N.1 179 (65 * (5 + a) + i) = M.1 179 (65 * (5 + (a + 1)) + i)) (fun n (N : mM) k => f_X12_keeps_11 w n 163 (nI k) N) 16 (fun r => ∃ N, r = f_X12_keeps_43 w 163 N ∧ Fr [179] M N ∧ (∀ j, (j < 325 ∨ 1365 ≤ j) → N.1 179 j = M.1 179 j) ∧ ∀ a, a < 15 → ∀ i, i < 23 → N.1 179 (65 * (5 + a) + i) = M.1 179 (65 * (5 + (a + 1)) + i)) ?_ ?_ 15 w 1 M (by omega) (by omega) ⟨by omega, Fr.rf _ _, fun _ _ => rfl, fun a ha => by omega⟩
      · rintro n N ⟨-, f, i1, i2⟩
        rw [f_X12_keeps_11, if_pos (by decide)]
        exact ⟨N, rfl, f, fun j hj => i1 j (by omega), fun a ha => i2 a (by omega)⟩
      · rintro n N k hk ⟨hk1, f, i1, i2⟩
        obtain ⟨K, eK, fK, k1, k2⟩ := X12_copies_eq w (a := 65 * (5 + k)) (b := 65 * (5 + (k - 1))) (m := 23) (by omega) (by omega) (by omega) (by omega) N
        refine Or.inr ⟨K, ?_, by omega, f.tr fK, fun j hj => ?_, fun a ha i hi => ?_⟩
        · rw [f_X12_keeps_11, if_neg (fun e => by have := (nI_leI (a := 16) (by omega) (by omega)).mp e; omega), show (5 : Int32) + nI k = nI (5 + k) from nI_add 5 k, show (65 : Int32) * nI (5 + k) = nI (65 * (5 + k)) from pk_mul 65 (5 + k), show nI (5 + k) - 1 = nI (5 + (k - 1)) by rw [show 5 + (k - 1) = 5 + k - 1 by omega]; exact pk_sub (b := 1) (by omega), show (65 : Int32) * nI (5 + (k - 1)) = nI (65 * (5 + (k - 1))) from pk_mul 65 _, show f_X12_copies w 163 (nI (65 * (5 + k))) (nI (65 * (5 + (k - 1)))) 23 N = some K from eK, bV_some, nI_1]
        · rw [k2 j (by omega)]; exact i1 j (by omega)
        · by_cases q2 : a + 1 = k
          · have : k - 1 = a := by omega
            rw [this] at k1
            rw [k1 i hi, ← q2]
            exact i1 _ (by omega)
          · rw [k2 _ (by omega)]; exact i2 a (by omega) i hi
    obtain ⟨N, eN, fN, i1, i2⟩ := key
    rw [eN]
    unfold f_X12_keeps_43
    have eN25 : N.1 163 25 = nI 16 := by rw [fN.1 163 (by decide), e1, q]
    rw [eN25, show nI 16 - 1 = nI 15 from rfl, lt_eq]
    have sN : StR (wI N 163 25 (nI 15)) 0 p h := hs.fr hp (fun j h1 h2 => by rw [wI_set, setC_ne _ _ (by decide), i1 j (by omega)])
    obtain ⟨K, eK, fK, hK⟩ := X12_keeps_53_eq w hw hp sN (n := 15) (U := H.2) (by omega) (by rw [wI_set, setC_at, upd_at]) (fun i hi => by
      have h0 := e2 i (by omega)
      rw [q] at h0
      have h1 : StR N (65 * (5 + (15 - 1 - i))) p (H.2 i) := h0.copy hp (fun k hk => by
        rw [i2 (15 - 1 - i) (by omega) k hk, show 15 - 1 - i + 1 = 16 - 1 - i by omega])
      exact h1.fr hp (fun j _ _ => by rw [wI_set, setC_ne _ _ (by decide)]))
    refine ⟨K, eK, ⟨fun c h1 h2 => ?_, ?_, fun j hj => ?_, fun j hj => ?_⟩, ?_⟩
    · rw [fK.1 c h1 h2, wI_set, setC_ne _ _ h1, fN.1 c (by simp; exact h2)]
    · rw [fK.2.1, wI_set, setC_2]; exact fN.2
    · rw [fK.2.2.1 j hj, wI_set, setC_at, upd_ne _ _ hj, fN.1 163 (by decide)]
    · rw [fK.2.2.2 j hj, wI_set, setC_ne _ _ (by decide)]; exact i1 j hj
    · unfold psh
      rw [if_pos q]
      exact hK
  · rw [if_neg (show ¬ nI H.1 = 16 from fun e => q ((nI_eq (b := 16) (by omega) (by omega)).mp e))]
    obtain ⟨K, eK, fK, hK⟩ := X12_keeps_53_eq w hw hp hs (n := H.1) (U := H.2) (by omega) e1 e2
    refine ⟨K, eK, fK, ?_⟩
    unfold psh
    rw [if_neg q]
    exact hK
end HIST
