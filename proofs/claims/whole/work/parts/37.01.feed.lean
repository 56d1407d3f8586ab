/-! ===== the tape: feed ===== -/
abbrev TX : Type := Nat × (Nat → Nat)
abbrev okB (b : Nat) : Prop := b = 10 ∨ (32 ≤ b ∧ b ≤ 126)
def okT (t : TX) : Prop := t.1 ≤ 1000 ∧ ∀ i, i < t.1 → okB (t.2 i)
def TpC (M : mM) (t : TX) : Prop := M.1 25 1 = nI t.1 ∧ ∀ i, i < t.1 → M.1 26 i = nI (t.2 i)
def TpR (M : mM) (t : TX) : Prop := M.1 163 2 = nI t.1 ∧ ∀ i, i < t.1 → M.1 164 i = nI (t.2 i)
def tAdd (t : TX) (b : Nat) : TX := if okB b ∧ t.1 < 1000 then (t.1 + 1, fun i => if i = t.1 then b else t.2 i) else t
/-- byte k of a long, from below -/
def byt (x : Int64) (k : Nat) : Nat := ((x >>> ((nI (8 * k)).toInt64 &&& 63)).toInt32 &&& 255).toBitVec.toNat % 256
def tLong (t : TX) (x : Int64) : Nat → TX
  | 0 => t
  | k + 1 => tLong (tAdd t (byt x k)) x k
section FEED
variable {t : TX} {M N : mM}
theorem tAdd_ok (h : okT t) (b : Nat) : okT (tAdd t b) := by
  unfold tAdd
  split
  · next q =>
    refine ⟨by show t.1 + 1 ≤ 1000; omega, fun i hi => ?_⟩
    have hi : i < t.1 + 1 := hi
    show okB (if i = t.1 then b else t.2 i)
    split
    · exact q.1
    · exact h.2 i (by omega)
  · exact h
theorem tLong_ok (x : Int64) : ∀ k (t : TX), okT t → okT (tLong t x k) := by
  intro k
  induction k with
  | zero => intro t h; exact h
  | succ k ih => intro t h; exact ih _ (tAdd_ok h _)
theorem byte_eq (x : Int64) (k : Nat) : (x >>> ((nI (8 * k)).toInt64 &&& 63)).toInt32 &&& 255 = nI (byt x k) ∧ byt x k < 256 := by
  obtain ⟨j, hj, e⟩ := pk_andE ((x >>> ((nI (8 * k)).toInt64 &&& 63)).toInt32) (m := 255) 8 (by decide)
  have hb : byt x k = j := by
    unfold byt
    rw [e, pk_tn (by omega)]
    exact Nat.mod_eq_of_lt hj
  rw [hb]
  exact ⟨e, hj⟩
theorem byte_eq64 (x : Int64) (k : Nat) : ((x >>> ((nI (8 * k)).toInt64 &&& 63)) &&& 255).toInt32 = nI (byt x k) := by
  rw [← (byte_eq x k).1, Int64.toInt32_and]
  rfl
theorem nar_by : ∀ b, b < 127 → vp_nar .byte ((nI b).toInt8.toInt32) = nI b := by decide +kernel
theorem okB_if {α : Type} {b : Nat} (hb : b < 256) (x y : α) : (if nI b = 10 then x else if nI b < 32 then y else if 126 < nI b then y else x) = if okB b then x else y := by
  by_cases q1 : b = 10
  · rw [if_pos (by rw [q1]; rfl), if_pos (Or.inl q1)]
  · rw [if_neg (show ¬ nI b = 10 from fun e => q1 ((nI_eq (b := 10) (by omega) (by omega)).mp e))]
    by_cases q2 : b < 32
    · rw [if_pos (show nI b < 32 from (nI_ltI (b := 32) (by omega) (by omega)).mpr q2), if_neg (by omega)]
    · rw [if_neg (show ¬ nI b < 32 from fun e => q2 ((nI_ltI (b := 32) (by omega) (by omega)).mp e))]
      by_cases q3 : 126 < b
      · rw [if_pos (show (126 : Int32) < nI b from (nI_ltI (a := 126) (by omega) (by omega)).mpr q3), if_neg (by omega)]
      · rw [if_neg (show ¬ (126 : Int32) < nI b from fun e => q3 ((nI_ltI (a := 126) (by omega) (by omega)).mp e)), if_pos (by omega)]
theorem X10_putSign_eq (w : Nat) (ht : okT t) (hM : TpC M t) {b : Nat} (hb : b < 256) : ∃ N, f_X10_putSign w 25 (nI b) M = some N ∧ Fr [25, 26] M N ∧ TpC N (tAdd t b) := by
  have h1000 := ht.1
  obtain ⟨e1, e2⟩ := hM
  have e : f_X10_putSign w 25 (nI b) M = if okB b then f_X10_putSign_18 w 25 (nI b) M else f_X10_putSign_22 w 25 (nI b) M := by
    unfold f_X10_putSign
    exact okB_if hb _ _
  rw [e]
  unfold f_X10_putSign_18 f_X10_putSign_22 f_X10_putSign_23 tAdd
  by_cases q : okB b
  · have hb127 : b < 127 := by omega
    rw [if_pos q, if_neg (by decide), e1]
    by_cases q2 : t.1 < 1000
    · have g1 : (wI M 26 t.1 (nI b)).1 25 1 = nI t.1 := by rw [wI_set, setC_ne _ _ (by decide)]; exact e1
      rw [if_neg (show ¬ (1000 : Int32) ≤ nI t.1 from fun e => by have := (nI_leI (a := 1000) (by omega) (by omega)).mp e; omega), if_pos ⟨q, q2⟩, r25_0, l26, chk_nI _ (by omega) (by omega), nI_clamp (by omega), nar_by b hb127, lt_eq, g1, nI_1, lt_eq]
      refine ⟨_, rfl, ((Fr.rf _ M).wI (by decide) _ _).wI (by decide) _ _, by rw [wI_set, setC_at, upd_at], fun i hi => ?_⟩
      have hi : i < t.1 + 1 := hi
      rw [wI_set, setC_ne _ _ (by decide), wI_set, setC_at]
      show _ = nI (if i = t.1 then b else t.2 i)
      by_cases z : i = t.1
      · subst z; rw [upd_at, if_pos rfl]
      · rw [upd_ne _ _ z, if_neg z]; exact e2 i (by omega)
    · rw [if_pos (show (1000 : Int32) ≤ nI t.1 from (nI_leI (a := 1000) (by omega) (by omega)).mpr (by omega)), if_neg (fun h => q2 h.2)]
      exact ⟨M, rfl, Fr.rf _ _, e1, e2⟩
  · rw [if_neg q, if_pos rfl, if_neg (fun h => q h.1)]
    exact ⟨M, rfl, Fr.rf _ _, e1, e2⟩
theorem X10_putBytes_3_eq (w : Nat) (x : Int64) : ∀ (k f : Nat) (t : TX) (M : mM), k ≤ 8 → k < f → okT t → TpC M t → ∃ N, f_X10_putBytes_3 w f 25 x (nI (8 * k) - 8) M = some N ∧ Fr [25, 26] M N ∧ TpC N (tLong t x k) := by
  intro k
  induction k with
  | zero =>
    intro f t M _ hf _ hM
    obtain ⟨f, rfl⟩ : ∃ m, f = m + 1 := ⟨f - 1, by omega⟩
    rw [f_X10_putBytes_3, if_pos (by decide)]
    exact ⟨M, rfl, Fr.rf _ _, hM⟩
  | succ k ih =>
    intro f t M hk hf ht hM
    obtain ⟨f, rfl⟩ : ∃ m, f = m + 1 := ⟨f - 1, by omega⟩
    have e : nI (8 * (k + 1)) - 8 = nI (8 * k) := pk_sub (b := 8) (by omega)
    obtain ⟨N, e1, f1, h1⟩ := X10_putSign_eq w ht hM (byte_eq x k).2
    obtain ⟨K, e2, f2, h2⟩ := ih f (tAdd t (byt x k)) N (by omega) (by omega) (tAdd_ok ht _) h1
    refine ⟨K, ?_, f1.tr f2, h2⟩
    rw [f_X10_putBytes_3, e, if_neg (nI_pos (by omega)), byte_eq64, e1, bV_some, ← Int32.sub_eq_add_neg]
    exact e2
theorem X10_putBytes_eq (w : Nat) (hw : 40 ≤ w) (x : Int64) (ht : okT t) (hM : TpC M t) : ∃ N, f_X10_putBytes w 25 x M = some N ∧ Fr [25, 26] M N ∧ TpC N (tLong t x 8) := X10_putBytes_3_eq w x 8 w t M (by omega) (by omega) ht hM
/-- what the reference's feed may write -/
def FfR (M N : mM) : Prop := (∀ c, c ≠ 163 → c ≠ 164 → N.1 c = M.1 c) ∧ N.2 = M.2 ∧ ∀ j, j ≠ 2 → N.1 163 j = M.1 163 j
theorem FfR.rf (M : mM) : FfR M M := ⟨fun _ _ _ => rfl, rfl, fun _ _ => rfl⟩
theorem FfR.tr {K : mM} (f : FfR M N) (g : FfR N K) : FfR M K := ⟨fun c a b => (g.1 c a b).trans (f.1 c a b), g.2.1.trans f.2.1, fun j h => (g.2.2 j h).trans (f.2.2 j h)⟩
theorem X12_lay_3_eq (w : Nat) (x : Int64) : ∀ (k f : Nat) (t : TX) (M : mM), k ≤ 8 → k < f → okT t → TpR M t → ∃ N, f_X12_lay_3 w f 163 x (nI (8 * k) - 8) M = some N ∧ FfR M N ∧ TpR N (tLong t x k) := by
  intro k
  induction k with
  | zero =>
    intro f t M _ hf _ hM
    obtain ⟨f, rfl⟩ : ∃ m, f = m + 1 := ⟨f - 1, by omega⟩
    rw [f_X12_lay_3, if_pos (by decide)]
    exact ⟨M, rfl, FfR.rf M, hM⟩
  | succ k ih =>
    intro f t M hk hf ht hM
    obtain ⟨f, rfl⟩ : ∃ m, f = m + 1 := ⟨f - 1, by omega⟩
    have e : nI (8 * (k + 1)) - 8 = nI (8 * k) := pk_sub (b := 8) (by omega)
    have h1000 := ht.1
    have hb := (byte_eq x k).2
    have key : ∃ N, f_X12_lay_3 w (f + 1) 163 x (nI (8 * (k + 1)) - 8) M = f_X12_lay_3 w f 163 x (nI (8 * k) - 8) N ∧ FfR M N ∧ TpR N (tAdd t (byt x k)) := by
      obtain ⟨e1, e2⟩ := hM
      rw [f_X12_lay_3, e, if_neg (nI_pos (by omega)), (byte_eq x k).1, lt_eq]
      rw [okB_if hb, ← Int32.sub_eq_add_neg]
      unfold tAdd f_X12_lay_38
      by_cases q : okB (byt x k)
      · rw [if_pos q, e1, ← Int32.sub_eq_add_neg]
        by_cases q2 : t.1 < 1000
        · have g1 : (wI M 164 t.1 (nI (byt x k))).1 163 2 = nI t.1 := by rw [wI_set, setC_ne _ _ (by decide)]; exact e1
          rw [if_neg (show ¬ (1000 : Int32) ≤ nI t.1 from fun e => by have := (nI_leI (a := 1000) (by omega) (by omega)).mp e; omega), if_pos ⟨q, q2⟩, r163_1, l164, chk_nI _ (by omega) (by omega), nI_clamp (by omega), lt_eq, g1, nI_1, lt_eq]
          refine ⟨_, rfl, ⟨fun c h1 h2 => by rw [wI_set, setC_ne _ _ h1, wI_set, setC_ne _ _ h2], by rw [wI_set, setC_2, wI_set, setC_2], fun j hj => by rw [wI_set, setC_at, upd_ne _ _ hj, wI_set, setC_ne _ _ (by decide)]⟩, by rw [wI_set, setC_at, upd_at], fun i hi => ?_⟩
          have hi : i < t.1 + 1 := hi
          rw [wI_set, setC_ne _ _ (by decide), wI_set, setC_at]
          show _ = nI (if i = t.1 then byt x k else t.2 i)
          by_cases z : i = t.1
          · subst z; rw [upd_at, if_pos rfl]
          · rw [upd_ne _ _ z, if_neg z]; exact e2 i (by omega)
        · rw [if_pos (show (1000 : Int32) ≤ nI t.1 from (nI_leI (a := 1000) (by omega) (by omega)).mpr (by omega)), if_neg (fun h => q2 h.2)]
          exact ⟨M, rfl, FfR.rf M, e1, e2⟩
      · rw [if_neg q, if_neg (fun h => q h.1)]
        exact ⟨M, rfl, FfR.rf M, e1, e2⟩
    obtain ⟨N, e1, f1, h1⟩ := key
    obtain ⟨K, e2, f2, h2⟩ := ih f (tAdd t (byt x k)) N (by omega) (by omega) (tAdd_ok ht _) h1
    exact ⟨K, e1.trans e2, f1.tr f2, h2⟩
theorem X12_lay_eq (w : Nat) (hw : 40 ≤ w) (x : Int64) (ht : okT t) (hM : TpR M t) : ∃ N, f_X12_lay w 163 x M = some N ∧ FfR M N ∧ TpR N (tLong t x 8) := X12_lay_3_eq w x 8 w t M (by omega) (by omega) ht hM
theorem X11_feed_eq (w : Nat) (hw : 40 ≤ w) (ht : okT t) (hC : TpC M t) (hR : TpR M t) (x y z : Int64) : ∃ v t' N K, okT t' ∧ f_X11_feed w 0 x y z M = some (v, N) ∧ Fr [25, 26] M N ∧ TpC N t' ∧ f_X12_feed w 163 x y z N = some (v, K) ∧ FfR (th0 N) K ∧ TpR K t' := by
  obtain ⟨N1, a1, b1, c1⟩ := X10_putBytes_eq w hw x ht hC
  have o1 := tLong_ok x 8 t ht
  obtain ⟨N2, a2, b2, c2⟩ := X10_putBytes_eq w hw y o1 c1
  have o2 := tLong_ok y 8 _ o1
  obtain ⟨N3, a3, b3, c3⟩ := X10_putBytes_eq w hw z o2 c2
  have o3 := tLong_ok z 8 _ o2
  have fN := (b1.tr b2).tr b3
  have hR2 : TpR (th0 N3) t := by
    have e163 : (th0 N3).1 163 2 = M.1 163 2 := by show N3.1 163 2 = _; rw [fN.1 163 (by decide)]
    have e164 : (th0 N3).1 164 = M.1 164 := by rw [th0_1 _ (by decide), fN.1 164 (by decide)]
    exact ⟨by rw [e163]; exact hR.1, fun i hi => by rw [e164]; exact hR.2 i hi⟩
  obtain ⟨K1, d1, g1, p1⟩ := X12_lay_eq w hw x ht hR2
  obtain ⟨K2, d2, g2, p2⟩ := X12_lay_eq w hw y o1 p1
  obtain ⟨K3, d3, g3, p3⟩ := X12_lay_eq w hw z o2 p2
  refine ⟨nI (tLong (tLong (tLong t x 8) y 8) z 8).1, _, N3, K3, o3, ?_, fN, c3, ?_, (g1.tr g2).tr g3, p3⟩
  · unfold f_X11_feed
    rw [r0_2, a1, bV_some, a2, bV_some, a3, bV_some, c3.1]
  · unfold f_X12_feed
    rw [lt_eq, show wI N3 163 0 0 = th0 N3 from rfl, d1, bV_some, d2, bV_some, d3, bV_some, p3.1]
end FEED
