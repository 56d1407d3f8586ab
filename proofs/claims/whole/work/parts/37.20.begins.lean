/-! ===== the reference copies what it read; both begin ===== -/
section BEGINS
variable {t : TX} {p : HP} {E : NE} {s : DS} {M N K : mM} {L : Lw}
theorem rf76 (w : Nat) (K : mM) : ∀ (r k n : Nat) (K' : mM), k + r = 60 → r < n → (∀ c, c ≠ 169 → K'.1 c = K.1 c) → K'.2 = K.2 → (∀ j, j < k → K'.1 169 j = K.1 169 (60 + j)) → (∀ j, 60 ≤ j → K'.1 169 j = K.1 169 j) → ∃ N, f_X12_house_76 w n 163 (nI k) K' = f_X12_house_103 w 163 N ∧ (∀ c, c ≠ 169 → N.1 c = K.1 c) ∧ N.2 = K.2 ∧ ∀ j, j < 60 → N.1 169 j = K.1 169 (60 + j) := by
  intro r
  induction r with
  | zero =>
    intro k n K' hk hn g1 g2 g3 g4
    obtain ⟨n, rfl⟩ : ∃ z, n = z + 1 := ⟨n - 1, by omega⟩
    have : k = 60 := by omega
    subst this
    exact ⟨K', by rw [f_X12_house_76, if_pos (by decide)], g1, g2, g3⟩
  | succ r ih =>
    intro k n K' hk hn g1 g2 g3 g4
    obtain ⟨n, rfl⟩ : ∃ z, n = z + 1 := ⟨n - 1, by omega⟩
    rw [f_X12_house_76, if_neg (show ¬ (60 : Int32) ≤ nI k from fun e => by have := (nI_leI (a := 60) (by omega) (by omega)).mp e; omega), r163_10, l169, show (60 : Int32) + nI k = nI (60 + k) from nI_add 60 k, chk_nI _ (by omega) (by omega), chk_nI _ (by omega) (by omega), nI_clamp (show k < 2147483648 by omega), nI_clamp (show 60 + k < 2147483648 by omega), g4 (60 + k) (by omega), lt_eq, nI_1]
    refine ih (k + 1) n _ (by omega) (by omega) (fun c h => ?_) g2 (fun j hj => ?_) (fun j hj => ?_)
    · rw [rIc _ _ _ _ h]; exact g1 c h
    · rw [rI, if_pos rfl]
      by_cases z : j = k
      · rw [if_pos z, z]
      · rw [if_neg z]; exact g3 j (by omega)
    · rw [rI, if_pos rfl, if_neg (by omega)]; exact g4 j hj
theorem rf105 (w : Nat) (K : mM) {C : Nat} (hC : C ≤ 1000) (h13 : K.1 163 13 = nI C) : ∀ (r k n : Nat) (K' : mM), k + r = C → r < n → (∀ c, c ≠ 170 → c ≠ 171 → K'.1 c = K.1 c) → K'.2 = K.2 → (∀ j, j < k → K'.1 170 j = K.1 170 (1100 + j) ∧ K'.1 171 j = K.1 171 (1100 + j)) → (∀ j, 1100 ≤ j → K'.1 170 j = K.1 170 j ∧ K'.1 171 j = K.1 171 j) → ∃ N, f_X12_house_105 w n 163 (nI k) K' = f_X12_house_151 w 163 N ∧ (∀ c, c ≠ 170 → c ≠ 171 → N.1 c = K.1 c) ∧ N.2 = K.2 ∧ ∀ j, j < C → N.1 170 j = K.1 170 (1100 + j) ∧ N.1 171 j = K.1 171 (1100 + j) := by
  intro r
  induction r with
  | zero =>
    intro k n K' hk hn g1 g2 g3 g4
    obtain ⟨n, rfl⟩ : ∃ z, n = z + 1 := ⟨n - 1, by omega⟩
    have : k = C := by omega
    subst this
    exact ⟨K', by rw [f_X12_house_105, g1 163 (by decide) (by decide), h13, if_pos (Int32.le_refl _)], g1, g2, g3⟩
  | succ r ih =>
    intro k n K' hk hn g1 g2 g3 g4
    obtain ⟨n, rfl⟩ : ∃ z, n = z + 1 := ⟨n - 1, by omega⟩
    rw [f_X12_house_105, g1 163 (by decide) (by decide), h13, if_neg (fun e => by have := (nI_leI (by omega) (by omega)).mp e; omega), r163_11, r163_12, l170, l171, show (1100 : Int32) + nI k = nI (1100 + k) from nI_add 1100 k, chk_nI _ (by omega) (by omega), chk_nI _ (by omega) (by omega), nI_clamp (show k < 2147483648 by omega), nI_clamp (show 1100 + k < 2147483648 by omega), (g4 (1100 + k) (by omega)).1, lt_eq, chk_nI _ (by omega) (by omega), chk_nI _ (by omega) (by omega), rIc _ _ _ _ (show 171 ≠ 170 by decide), (g4 (1100 + k) (by omega)).2, lt_eq, nI_1]
    refine ih (k + 1) n _ (by omega) (by omega) (fun c h h2 => ?_) g2 (fun j hj => ?_) (fun j hj => ?_)
    · rw [rIc _ _ _ _ h2, rIc _ _ _ _ h]; exact g1 c h h2
    · rw [rIc _ _ _ _ (show 170 ≠ 171 by decide), rI, if_pos rfl, rI, if_pos rfl, rIc _ _ _ _ (show 171 ≠ 170 by decide)]
      by_cases z : j = k
      · rw [if_pos z, if_pos z, z]; exact ⟨rfl, rfl⟩
      · rw [if_neg z, if_neg z]; exact g3 j (by omega)
    · rw [rIc _ _ _ _ (show 170 ≠ 171 by decide), rI, if_pos rfl, if_neg (by omega), rI, if_pos rfl, if_neg (by omega), rIc _ _ _ _ (show 171 ≠ 170 by decide)]; exact g4 j hj
theorem rf153 (w : Nat) (K : mM) {C : Nat} (hC : C ≤ 12) (h19 : K.1 163 19 = nI C) : ∀ (r k n : Nat) (K' : mM), k + r = C → r < n → (∀ c, c ≠ 174 → K'.1 c = K.1 c) → (∀ c, c ≠ 172 → K'.2 c = K.2 c) → (∀ j, j < k → K'.2 172 j = K.2 173 j ∧ K'.1 174 j = K.1 175 j) → ∃ N, f_X12_house_153 w n 163 (nI k) K' = f_X12_house_191 w 163 N ∧ (∀ c, c ≠ 174 → N.1 c = K.1 c) ∧ (∀ c, c ≠ 172 → N.2 c = K.2 c) ∧ ∀ j, j < C → N.2 172 j = K.2 173 j ∧ N.1 174 j = K.1 175 j := by
  intro r
  induction r with
  | zero =>
    intro k n K' hk hn g1 g2 g3
    obtain ⟨n, rfl⟩ : ∃ z, n = z + 1 := ⟨n - 1, by omega⟩
    have : k = C := by omega
    subst this
    exact ⟨K', by rw [f_X12_house_153, g1 163 (by decide), h19, if_pos (Int32.le_refl _)], g1, g2, g3⟩
  | succ r ih =>
    intro k n K' hk hn g1 g2 g3
    obtain ⟨n, rfl⟩ : ∃ z, n = z + 1 := ⟨n - 1, by omega⟩
    rw [f_X12_house_153, g1 163 (by decide), h19, if_neg (fun e => by have := (nI_leI (by omega) (by omega)).mp e; omega), r163_14, r163_15, r163_16, r163_17, l172, l173, l174, l175, chk_nI _ (by omega) (by omega), chk_nI _ (by omega) (by omega), nI_clamp (show k < 2147483648 by omega), g2 173 (by decide), lt_eq, chk_nI _ (by omega) (by omega), chk_nI _ (by omega) (by omega), wL_1, g1 175 (by decide), lt_eq, nI_1]
    refine ih (k + 1) n _ (by omega) (by omega) (fun c h => ?_) (fun c h => ?_) (fun j hj => ?_)
    · rw [rIc _ _ _ _ h, wL_1]; exact g1 c h
    · rw [rI2, rLc _ _ _ _ h]; exact g2 c h
    · rw [rI2, rL, if_pos rfl, rI, if_pos rfl, wL_1]
      by_cases z : j = k
      · rw [if_pos z, if_pos z, z]; exact ⟨rfl, rfl⟩
      · rw [if_neg z, if_neg z]; exact g3 j (by omega)
theorem bg35 (w : Nat) (M : mM) {n : Nat} (hn : 5 ≤ n) : ∃ N, f_X12_begins_35 w n 163 0 M = some N ∧ Fr [180] M N ∧ ∀ k, k < 4 → N.1 180 k = 0 := by
  obtain ⟨n, rfl⟩ : ∃ z, n = z + 1 + 1 + 1 + 1 + 1 := ⟨n - 5, by omega⟩
  refine ⟨wI (wI (wI (wI M 180 0 0) 180 1 0) 180 2 0) 180 3 0, ?_, ((((Fr.rf _ M).wI (by decide) _ _).wI (by decide) _ _).wI (by decide) _ _).wI (by decide) _ _, fun k hk => ?_⟩
  · have c0 : (0 : Int32).toNatClampNeg = 0 := rfl
    have c1 : (1 : Int32).toNatClampNeg = 1 := rfl
    have c2 : (2 : Int32).toNatClampNeg = 2 := rfl
    have c3 : (3 : Int32).toNatClampNeg = 3 := rfl
    have v0 : vp_nar .boolean 0 = 0 := rfl
    rw [f_X12_begins_35, if_neg (by decide), r163_26, l180, v0, show chk (0 : Int32) 4 = chk (nI 0) 4 (α := mM) from rfl, chk_nI _ (by omega) (by omega), lt_eq, c0, show (0 : Int32) + 1 = 1 from rfl, f_X12_begins_35, if_neg (by decide), r163_26, l180, v0, show chk (1 : Int32) 4 = chk (nI 1) 4 (α := mM) from rfl, chk_nI _ (by omega) (by omega), lt_eq, c1, show (1 : Int32) + 1 = 2 from rfl, f_X12_begins_35, if_neg (by decide), r163_26, l180, v0, show chk (2 : Int32) 4 = chk (nI 2) 4 (α := mM) from rfl, chk_nI _ (by omega) (by omega), lt_eq, c2, show (2 : Int32) + 1 = 3 from rfl, f_X12_begins_35, if_neg (by decide), r163_26, l180, v0, show chk (3 : Int32) 4 = chk (nI 3) 4 (α := mM) from rfl, chk_nI _ (by omega) (by omega), lt_eq, c3, show (3 : Int32) + 1 = 4 from rfl, f_X12_begins_35, if_pos (by decide)]
  · rw [rI, if_pos rfl, rI, if_pos rfl, rI, if_pos rfl, rI, if_pos rfl]
    have : k = 0 ∨ k = 1 ∨ k = 2 ∨ k = 3 := by omega
    rcases this with rfl | rfl | rfl | rfl <;> rfl
theorem X12_begins_eq (w : Nat) (hw : 1100 ≤ w) (hp : okP p) (hc : PlR M 0 p) : ∃ N, f_X12_begins w 163 M = some N ∧ (∀ c, c ≠ 163 → c ≠ 176 → c ≠ 179 → c ≠ 180 → N.1 c = M.1 c) ∧ N.2 = M.2 ∧ (∀ j, j ≠ 25 → N.1 163 j = M.1 163 j) ∧ N.1 163 25 = 0 ∧ N.1 176 0 = 0 ∧ N.1 179 23 = 0 ∧ N.1 179 48 = 0 ∧ (∀ k, k < 4 → N.1 180 k = 0) ∧ StR N 0 p (beg p) := by
  obtain ⟨N, n1, n2, n3, n4⟩ := X12_starts_eq w (by omega) (b := 0) (by omega) hp hc
  obtain ⟨K, k1, k2, k3⟩ := bg35 w (wI (wI (wI (wI N 179 23 0) 179 48 0) 176 0 0) 163 25 0) (n := w) (by omega)
  refine ⟨K, ?_, fun c h1 h2 h3 h4 => ?_, ?_, fun j hj => ?_, ?_, ?_, ?_, ?_, k3, ?_⟩
  · unfold f_X12_begins
    rw [show f_X12_starts w 163 0 M = _ from n1, bV_some, r163_24, r163_21, l179, l176, show (23 : Int32) = nI 23 from rfl, show (48 : Int32) = nI 48 from rfl, chk_nI _ (by omega) (by omega), nI_clamp (show 23 < 2147483648 by omega), lt_eq, chk_nI _ (by omega) (by omega), nI_clamp (show 48 < 2147483648 by omega), lt_eq, show chk (0 : Int32) 250 = chk (nI 0) 250 (α := mM) from rfl, chk_nI _ (by omega) (by omega), show (0 : Int32).toNatClampNeg = 0 from rfl, lt_eq, lt_eq, k1]
  · rw [k2.1 c (by simp; omega), rIc _ _ _ _ h1, rIc _ _ _ _ h2, rIc _ _ _ _ h3, rIc _ _ _ _ h3]; exact n2.1 c (by simp; omega)
  · rw [k2.2]; exact n2.2
  · rw [k2.1 163 (by decide), w163, if_neg hj, rIc _ _ _ _ (by decide), rIc _ _ _ _ (by decide), rIc _ _ _ _ (by decide), n2.1 163 (by decide)]
  · rw [k2.1 163 (by decide), w163, if_pos rfl]
  · rw [k2.1 176 (by decide), rIc _ _ _ _ (by decide), rI, if_pos rfl, if_pos rfl]
  · rw [k2.1 179 (by decide), rIc _ _ _ _ (by decide), rIc _ _ _ _ (by decide), rI, if_pos rfl, if_neg (by decide), rI, if_pos rfl, if_pos rfl]
  · rw [k2.1 179 (by decide), rIc _ _ _ _ (by decide), rIc _ _ _ _ (by decide), rI, if_pos rfl, if_pos rfl]
  · refine n4.fr hp fun j _ h2 => ?_
    rw [k2.1 179 (by decide), rIc _ _ _ _ (by decide), rIc _ _ _ _ (by decide), rI, if_pos rfl, if_neg (by omega), rI, if_pos rfl, if_neg (by omega)]
theorem sa38 (w : Nat) (M : mM) {n : Nat} (hn : 5 ≤ n) : ∃ N, f_X11_startAnew_38 w n 0 0 M = some N ∧ Fr [112, 123, 134, 145] M N ∧ (∀ k, k < 4 → N.1 (112 + 11 * k) 2 = 0) := by
  obtain ⟨n, rfl⟩ : ∃ z, n = z + 1 + 1 + 1 + 1 + 1 := ⟨n - 5, by omega⟩
  refine ⟨wI (wI (wI (wI M 112 2 0) 123 2 0) 134 2 0) 145 2 0, ?_, ((((Fr.rf _ M).wI (by decide) _ _).wI (by decide) _ _).wI (by decide) _ _).wI (by decide) _ _, fun k hk => ?_⟩
  · have c0 : (0 : Int32).toNatClampNeg = 0 := rfl
    have c1 : (1 : Int32).toNatClampNeg = 1 := rfl
    have c2 : (2 : Int32).toNatClampNeg = 2 := rfl
    have c3 : (3 : Int32).toNatClampNeg = 3 := rfl
    have v0 : (0 : Int32) = 0 ∨ (0 : Int32) = 1 := Or.inl rfl
    rw [f_X11_startAnew_38, if_neg (by decide), r0_10, l111, show chk (0 : Int32) 4 = chk (nI 0) 4 (α := mM) from rfl, chk_nI _ (by omega) (by omega), if_pos v0, lt_eq, c0, e111_0, show (0 : Int32) + 1 = 1 from rfl, f_X11_startAnew_38, if_neg (by decide), r0_10, l111, show chk (1 : Int32) 4 = chk (nI 1) 4 (α := mM) from rfl, chk_nI _ (by omega) (by omega), if_pos v0, lt_eq, c1, e111_1, show (1 : Int32) + 1 = 2 from rfl, f_X11_startAnew_38, if_neg (by decide), r0_10, l111, show chk (2 : Int32) 4 = chk (nI 2) 4 (α := mM) from rfl, chk_nI _ (by omega) (by omega), if_pos v0, lt_eq, c2, e111_2, show (2 : Int32) + 1 = 3 from rfl, f_X11_startAnew_38, if_neg (by decide), r0_10, l111, show chk (3 : Int32) 4 = chk (nI 3) 4 (α := mM) from rfl, chk_nI _ (by omega) (by omega), if_pos v0, lt_eq, c3, e111_3, show (3 : Int32) + 1 = 4 from rfl, f_X11_startAnew_38, if_pos (by decide)]
  · have : k = 0 ∨ k = 1 ∨ k = 2 ∨ k = 3 := by omega
    rcases this with rfl | rfl | rfl | rfl
    · rw [rIc _ _ _ _ (by decide), rIc _ _ _ _ (by decide), rIc _ _ _ _ (by decide), rI, if_pos rfl, if_pos rfl]
    · rw [rIc _ _ _ _ (by decide), rIc _ _ _ _ (by decide), rI, if_pos rfl, if_pos rfl]
    · rw [rIc _ _ _ _ (by decide), rI, if_pos rfl, if_pos rfl]
    · rw [rI, if_pos rfl, if_pos rfl]
theorem X11_startAnew_eq (w : Nat) (hw : 1100 ≤ w) (hp : okP p) (hc : PlC M 1 p) : ∃ N, f_X11_startAnew w 0 M = some N ∧ Fr [0, 31, 32, 33, 34, 39, 105, 112, 123, 134, 145] M N ∧ StC N 31 p (beg p) ∧ N.1 0 13 = 0 ∧ N.1 39 2 = 0 ∧ N.1 39 1 = M.1 39 1 ∧ N.1 105 0 = 0 ∧ N.1 105 1 = 0 ∧ ∀ k, k < 4 → N.1 (112 + 11 * k) 2 = 0 := by
  obtain ⟨N, n1, n2, n3⟩ := X9_begin_eq w (by omega) (o := 31) mem31 (by omega) hp hc
  obtain ⟨K, k1, k2, k3⟩ := sa38 w (wI (wI (wI (wI N 0 13 0) 39 2 0) 105 0 0) 105 1 0) (n := w) (by omega)
  have fN : Fr [0, 31, 32, 33, 34, 39, 105, 112, 123, 134, 145] M N := ⟨fun c hc => n2.1 c (by simp at hc ⊢; omega), n2.2⟩
  have fK : Fr [0, 31, 32, 33, 34, 39, 105, 112, 123, 134, 145] (wI (wI (wI (wI N 0 13 0) 39 2 0) 105 0 0) 105 1 0) K := ⟨fun c hc => k2.1 c (by simp at hc ⊢; omega), k2.2⟩
  refine ⟨K, ?_, (((((fN.wI (by decide) _ _).wI (by decide) _ _).wI (by decide) _ _).wI (by decide) _ _)).tr fK, ?_, ?_, ?_, ?_, ?_, ?_, k3⟩
  · unfold f_X11_startAnew
    rw [r0_6, r0_8, r0_9, n1, bV_some, lt_eq, lt_eq, lt_eq, lt_eq, k1]
  · exact n3.fr fun c h1 h2 => by rw [k2.1 c (by simp; omega), rIc _ _ _ _ (by omega), rIc _ _ _ _ (by omega), rIc _ _ _ _ (by omega), rIc _ _ _ _ (by omega)]
  · rw [k2.1 0 (by decide), rIc _ _ _ _ (by decide), rIc _ _ _ _ (by decide), rIc _ _ _ _ (by decide), rI, if_pos rfl, if_pos rfl]
  · rw [k2.1 39 (by decide), rIc _ _ _ _ (by decide), rIc _ _ _ _ (by decide), rI, if_pos rfl, if_pos rfl]
  · rw [k2.1 39 (by decide), rIc _ _ _ _ (by decide), rIc _ _ _ _ (by decide), rI, if_pos rfl, if_neg (by decide), rIc _ _ _ _ (by decide), n2.1 39 (by decide)]
  · rw [k2.1 105 (by decide), rI, if_pos rfl, if_neg (by decide), rI, if_pos rfl, if_pos rfl]
  · rw [k2.1 105 (by decide), rI, if_pos rfl, if_pos rfl]
/-- the reference's last steps of a told house -/
theorem rf_house (w : Nat) (hw : 1100 ≤ w) (h8 : K.1 163 8 = 0) (dR : DR K s) (ok : okD s) : ∃ N, f_X12_house_62 w 163 K = some (0, N) ∧ (∀ c, c ≠ 163 → c ≠ 169 → c ≠ 170 → c ≠ 171 → c ≠ 174 → c ≠ 176 → c ≠ 179 → c ≠ 180 → N.1 c = K.1 c) ∧ (∀ c, c ≠ 172 → N.2 c = K.2 c) ∧ (∀ j, j ≠ 18 → j ≠ 25 → N.1 163 j = K.1 163 j) ∧ N.1 163 25 = 0 ∧ N.1 176 0 = 0 ∧ N.1 179 23 = 0 ∧ N.1 179 48 = 0 ∧ (∀ k, k < 4 → N.1 180 k = 0) ∧ StR N 0 s.1 (beg s.1) ∧ PlR N 0 s.1 ∧ XR N 0 0 (xF s.2.1) ∧ NmR N 172 174 18 s.2.2 := by
  obtain ⟨p, x, E⟩ := s
  obtain ⟨⟨d1, d2, d3, d4, d5⟩, ⟨x1, x2, x3, x4, x5, x6, x7, x8⟩, y1, y2⟩ := dR
  obtain ⟨o1, o2, o3, o4, o5, o6, o7⟩ := ok
  have o1 : okP p := o1
  have o4 : xN x ≤ 12 := o4
  have o6 : (xL x).1 ≤ 999 := o6
  have o2 : E.1 ≤ 12 := o2.1
  have hD := o1.2.1
  have hP := o1.2.2.1
  have hC : lwN (xL x) ≤ 1000 := by unfold lwN; split <;> omega
  obtain ⟨K1, a1, a2, a3, a4⟩ := rf76 w K 60 0 w K (by omega) (by omega) (fun _ _ => rfl) rfl (fun j hj => absurd hj (Nat.not_lt_zero _)) (fun _ _ => rfl)
  have h13 : K1.1 163 13 = nI (lwN (xL x)) := by rw [a2 163 (by decide)]; exact x5
  obtain ⟨K2, b1, b2, b3, b4⟩ := rf105 w K1 hC h13 (lwN (xL x)) 0 w K1 (by omega) (by omega) (fun _ _ _ => rfl) rfl (fun j hj => absurd hj (Nat.not_lt_zero _)) (fun _ _ => ⟨rfl, rfl⟩)
  have h19 : K2.1 163 19 = nI E.1 := by rw [b2 163 (by decide) (by decide), a2 163 (by decide)]; exact y1
  obtain ⟨K3, c1, c2, c3, c4⟩ := rf153 w K2 o2 h19 E.1 0 w K2 (by omega) (by omega) (fun _ _ => rfl) (fun _ _ => rfl) (fun j hj => absurd hj (Nat.not_lt_zero _))
  have g169 : ∀ j, j < 60 → (wI K3 163 18 (K3.1 163 19)).1 169 j = K.1 169 (60 + j) := fun j hj => by rw [rIc _ _ _ _ (by decide), c2 169 (by decide), b2 169 (by decide) (by decide)]; exact a4 j hj
  have pl : PlR (wI K3 163 18 (K3.1 163 19)) 0 p := by
    refine ⟨?_, ?_, ?_, fun d hd => ⟨?_, ?_, ?_, ?_⟩, fun q hq => ?_⟩
    · rw [g169 0 (by omega)]; exact d1
    · rw [g169 (0 + 1) (by omega)]; exact d2
    · rw [g169 (0 + 2) (by omega)]; exact d3
    · have hd : d < pD p := hd
      rw [g169 _ (by omega), show 60 + (0 + 5 + 4 * d) = 60 + 5 + 4 * d by omega]; exact (d4 d hd).1
    · have hd : d < pD p := hd
      rw [g169 _ (by omega), show 60 + (0 + 6 + 4 * d) = 60 + 6 + 4 * d by omega]; exact (d4 d hd).2.1
    · have hd : d < pD p := hd
      rw [g169 _ (by omega), show 60 + (0 + 7 + 4 * d) = 60 + 7 + 4 * d by omega]; exact (d4 d hd).2.2.1
    · have hd : d < pD p := hd
      rw [g169 _ (by omega), show 60 + (0 + 8 + 4 * d) = 60 + 8 + 4 * d by omega]; exact (d4 d hd).2.2.2
    · have hq : q < pP p := hq
      rw [g169 _ (by omega), show 60 + (0 + 37 + q) = 60 + 37 + q by omega]; exact d5 q hq
  obtain ⟨N, e1, e2, e3, e4, e5, e6, e7, e8, e9, e10⟩ := X12_begins_eq w hw o1 pl
  have z169 : ∀ j, j < 60 → N.1 169 j = K.1 169 (60 + j) := fun j hj => by rw [e2 169 (by decide) (by decide) (by decide) (by decide)]; exact g169 j hj
  have z170 : ∀ j, j < lwN (xL x) → N.1 170 j = K.1 170 (1100 + j) ∧ N.1 171 j = K.1 171 (1100 + j) := fun j hj => by
    rw [e2 170 (by decide) (by decide) (by decide) (by decide), e2 171 (by decide) (by decide) (by decide) (by decide), rIc _ _ _ _ (by decide), rIc _ _ _ _ (by decide), c2 170 (by decide), c2 171 (by decide), (b4 j hj).1, (b4 j hj).2, a2 170 (by decide), a2 171 (by decide)]; exact ⟨rfl, rfl⟩
  refine ⟨N, ?_, fun c h1 h2 h3 h4 h5 h6 h7 h8 => ?_, fun c h => ?_, fun j h1 h2 => ?_, e5, e6, e7, e8, e9, e10, pl.fr (e2 169 (by decide) (by decide) (by decide) (by decide)), ⟨?_, fun i hi => ?_, fun hl => ?_, fun hl => ⟨?_, ?_⟩, fun i hi => ?_⟩, ?_, fun j hj => ?_⟩
  · unfold f_X12_house_62
    rw [h8, if_pos (by decide), show f_X12_house_76 w w 163 0 K = _ from a1]
    unfold f_X12_house_103
    rw [show f_X12_house_105 w w 163 0 K1 = _ from b1]
    unfold f_X12_house_151
    rw [show f_X12_house_153 w w 163 0 K2 = _ from c1]
    unfold f_X12_house_191
    rw [lt_eq, e1, bV_some]
  · rw [e2 c h1 h6 h7 h8, rIc _ _ _ _ h1, c2 c h5, b2 c h3 h4, a2 c h2]
  · rw [e3, rI2, c3 c h, b3, a3]
  · rw [e4 j h2, w163, if_neg h1, c2 163 (by decide), b2 163 (by decide) (by decide), a2 163 (by decide)]
  · rw [z169 (0 + 3) (by omega)]; exact x1
  · have hi : i < (if xN x = 0 then 1 else xN x) := hi
    rw [z169 (0 + 42 + i) (by split at hi <;> omega)]
    show _ = nI ((if xN x = 0 then fz else xD x) i)
    by_cases z : xN x = 0
    · rw [if_pos z] at hi ⊢
      have : i = 0 := by omega
      subst this
      exact x2 z
    · rw [if_neg z] at hi ⊢
      rw [show 60 + (0 + 42 + i) = 102 + i by omega]; exact x3 i hi
  · have hl : (xL x).1 = 0 := hl
    have x4 : K.1 169 64 = (if (xL x).1 = 0 then -1 else 0) := x4
    rw [z169 (0 + 4) (by omega)]
    show K.1 169 64 = -1
    rw [x4, if_pos hl]
  · have hl : 0 < (xL x).1 := hl
    have x4 : K.1 169 64 = (if (xL x).1 = 0 then -1 else 0) := x4
    rw [z169 (0 + 4) (by omega)]
    show K.1 169 64 = 0
    rw [x4, if_neg (by omega)]
  · have hl : 0 < (xL x).1 := hl
    show N.1 170 (0 + (xL x).1) = 0
    rw [Nat.zero_add, (z170 _ (by unfold lwN; rw [if_neg (by omega)]; omega)).1]; exact x6 hl
  · have hi : i < (xL x).1 := hi
    show N.1 170 (0 + i) = nI ((xL x).2.1 i) ∧ N.1 171 (0 + i) = nI ((xL x).2.2 i)
    have := z170 i (by unfold lwN; rw [if_neg (by omega)]; omega)
    rw [Nat.zero_add, this.1, this.2]; exact x7 i hi
  · rw [e4 18 (by decide), w163, if_pos rfl, c2 163 (by decide)]; exact h19
  · have hj : j < E.1 := hj
    rw [e3, rI2, e2 174 (by decide) (by decide) (by decide) (by decide), rIc _ _ _ _ (by decide), (c4 j hj).1, (c4 j hj).2, b3, a3, b2 175 (by decide) (by decide), a2 175 (by decide)]; exact y2 j hj
end BEGINS
