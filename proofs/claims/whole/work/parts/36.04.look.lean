/-! ===== the days ahead ===== -/
/-- the state n days ahead -/
def fut (p : HP) (x : HX) (h : HS) : Nat → HS
  | 0 => h
  | n + 1 => nx p x (dmp x (sDay h + n)) (fut p x h n)
section LOOK
variable {p : HP} {x : HX} {h : HS} {M N : mM}
theorem fut_day (n : Nat) : sDay (fut p x h n) = sDay h + n := by
  induction n with
  | zero => rfl
  | succ n ih => show sDay (fut p x h n) + 1 = _; rw [ih]; omega
theorem fut_gap (n : Nat) : sGap (fut p x h n) = sGap h := by
  induction n with
  | zero => rfl
  | succ n ih => exact ih
theorem fut_wed (n : Nat) : sWed (fut p x h n) = sWed h := by
  induction n with
  | zero => rfl
  | succ n ih => exact ih
theorem fut_pl (n : Nat) : sPl (fut p x h n) = sPl h := by
  induction n with
  | zero => rfl
  | succ n ih => exact ih
theorem fut_ok (hh : okS p h) {n : Nat} (hn : sDay h + n < 100000) : okS p (fut p x h n) := by
  induction n with
  | zero => exact hh
  | succ n ih => exact okS_nx (ih (by omega)) (by rw [fut_day]; omega)
theorem X12_copies_eq (w : Nat) {a b m : Nat} (hw : m < w) (ha : a + m ≤ 1495) (hb : b + m ≤ 1495) (hd : a + m ≤ b ∨ b + m ≤ a) (M : mM) : ∃ N, f_X12_copies w 163 (nI a) (nI b) (nI m) M = some N ∧ Fr [179] M N ∧ (∀ k, k < m → N.1 179 (b + k) = M.1 179 (a + k)) ∧ ∀ j, (j < b ∨ b + m ≤ j) → N.1 179 j = M.1 179 j := by
  unfold f_X12_copies
  refine loopX (fun k N => Fr [179] M N ∧ (∀ i, i < k → N.1 179 (b + i) = M.1 179 (a + i)) ∧ ∀ j, (j < b ∨ b + k ≤ j) → N.1 179 j = M.1 179 j) (fun n N k => f_X12_copies_3 w n 163 (nI a) (nI b) (nI m) (nI k) N) m (fun r => ∃ N, r = some N ∧ Fr [179] M N ∧ (∀ k, k < m → N.1 179 (b + k) = M.1 179 (a + k)) ∧ ∀ j, (j < b ∨ b + m ≤ j) → N.1 179 j = M.1 179 j) ?_ ?_ m w 0 M (by omega) (by omega) ⟨Fr.rf _ _, fun i hi => by omega, fun _ _ => rfl⟩
  · rintro n N ⟨f, i1, i2⟩
    rw [f_X12_copies_3, if_pos (Int32.le_refl _)]
    exact ⟨N, rfl, f, i1, i2⟩
  · rintro n N k hk ⟨f, i1, i2⟩
    refine Or.inr ⟨wI N 179 (b + k) (N.1 179 (a + k)), ?_, f.wI (by decide) _ _, ?_, ?_⟩
    · rw [f_X12_copies_3, if_neg (fun h => by have := (nI_leI (by omega) (by omega)).mp h; omega), nI_add, nI_add, r163_24, l179, chk_nI _ (by omega) (by omega), chk_nI _ (by omega) (by omega), nI_clamp (by omega), nI_clamp (by omega), lt_eq, nI_1]
    · intro i hi
      rw [wI_set, setC_at]
      by_cases q : i = k
      · subst q; rw [upd_at]; exact i2 _ (by omega)
      · rw [upd_ne _ _ (by omega)]; exact i1 i (by omega)
    · intro j hj
      rw [wI_set, setC_at, upd_ne _ _ (by omega)]; exact i2 j (by omega)
theorem StR.copy {a b : Nat} (hp : okP p) (hs : StR M a p h) (e : ∀ k, k < 23 → N.1 179 (b + k) = M.1 179 (a + k)) : StR N b p h := by
  have hD := hp.2.1
  have hP := hp.2.2.1
  obtain ⟨h1, h2, h3, h4⟩ := hs
  refine ⟨?_, ?_, fun d hd => ⟨?_, ?_⟩, fun q hq => ?_⟩
  · have := e 0 (by omega); rw [Nat.add_zero, Nat.add_zero] at this; rw [this]; exact h1
  · rw [e 1 (by omega)]; exact h2
  · rw [Nat.add_assoc, e (2 + d) (by omega), ← Nat.add_assoc]; exact (h3 d hd).1
  · rw [Nat.add_assoc, e (10 + d) (by omega), ← Nat.add_assoc]; exact (h3 d hd).2
  · rw [Nat.add_assoc, e (18 + q) (by omega), ← Nat.add_assoc]; exact h4 q hq
/-- what the reference's trials leave as it was -/
def FrT (M N : mM) : Prop := Fr [177, 178, 179, 181, 182, 183, 184] M N ∧ ∀ j, j < 1365 → N.1 179 j = M.1 179 j
theorem FrT.rf (M : mM) : FrT M M := ⟨Fr.rf _ _, fun _ _ => rfl⟩
theorem FrT.tr {K : mM} (h1 : FrT M N) (h2 : FrT N K) : FrT M K := ⟨h1.1.tr h2.1, fun j hj => (h2.2 j hj).trans (h1.2 j hj)⟩
theorem FrT.plr (f : FrT M N) (hc : PlR M 0 p) : PlR N 0 p := hc.fr (f.1.1 169 (by decide))
theorem FrT.xr (f : FrT M N) (hc : XR M 0 0 x) : XR N 0 0 x := hc.fr (f.1.1 169 (by decide)) (f.1.1 170 (by decide)) (f.1.1 171 (by decide))
theorem FrT.str (hp : okP p) (f : FrT M N) {b : Nat} (hb : b + 23 ≤ 1365) (hs : StR M b p h) : StR N b p h := hs.fr hp (fun j _ h2 => f.2 j (by omega))
theorem X12_triesNow_eq (w : Nat) (hw : 40 ≤ w) (hp : okP p) (hs : StR M 0 p h) : ∃ N, f_X12_triesNow w 163 M = some N ∧ FrT M N ∧ StR N 1365 p h := by
  obtain ⟨N, e, f, e1, e2⟩ := X12_copies_eq w (a := 0) (b := 1365) (m := 23) (by omega) (by omega) (by omega) (by omega) M
  refine ⟨N, ?_, ⟨f.mono (by decide), fun j hj => e2 j (by omega)⟩, hs.copy hp e1⟩
  unfold f_X12_triesNow
  rw [show f_X12_copies w 163 0 1365 23 M = some N from e]; rfl
theorem X12_trial_pass (w : Nat) (hw : 1100 ≤ w) (hp : okP p) (hx : okX x) (hh : okS p h) (hc : PlR M 0 p) (hxc : XR M 0 0 x) {n : Nat} (hn : sDay h + n < 100000) (hs : StR M 1365 p (fut p x h n)) : ∃ N, f_X12_passes_ w 163 1365 M = some N ∧ FrT M N ∧ StR N 1365 p (fut p x h (n + 1)) := by
  obtain ⟨N, e, f, s, j⟩ := X12_passes__eq w hw hp hx (fut_ok hh hn) hc hxc (b := 1365) (by omega) hs
  rw [fut_day] at s
  exact ⟨N, e, ⟨f.mono (by decide), fun i hi => j i (by omega)⟩, s⟩
theorem mask_succ (q : Nat → Bool) : ∀ (n k : Nat) (y : Int32), mask q y k (n + 1) = if q (k + n) then mask q y k n ||| one (k + n) else mask q y k n := by
  intro n
  induction n with
  | zero => intro k y; rfl
  | succ n ih =>
    intro k y
    show mask q _ (k + 1) (n + 1) = _
    rw [ih, show k + 1 + n = k + (n + 1) by omega]
    rfl
theorem mask_not (hp : okP p) : mask (fun d => !stk h d) 0 0 (pD p) = opM p h := b_ext fun i hi => by
  have hD := hp.2.1
  rw [mask_bt _ _ _ (by omega) i hi, b_0, Bool.false_or, bt_op hp hi]
  by_cases e : i < pD p
  · rw [decide_eq_true e, decide_eq_true (by omega)]
  · rw [decide_eq_false e, decide_eq_false (by omega)]
theorem X5_sticksAt_eq (w : Nat) (hp : okP p) (hh : okS p h) (hs : StC M 31 p h) {d v : Nat} (hd : d < pD p) (hv : v ≤ 30) : f_X5_sticksAt w 156 (nI d) (nI v) M = some (b2i (decide (sGap h d < v) && !bit (sWed h) d), M) := by
  have hD := hp.2.1
  have hb := hh.2.1 d hd
  have g : M.1 32 d = nI (sGap h d) := (hs.2.2.1 d hd).1
  have gw : M.1 31 2 = sWed h := hs.2.1
  unfold f_X5_sticksAt
  rw [r156_0, r31_3, l32, chk_nI _ (by omega) (by omega), nI_clamp (by omega), g, X9_hasWedge_eq, bI_some, gw]
  by_cases e : sGap h d < v
  · rw [if_neg (fun q => by have := (nI_leI (by omega) (by omega)).mp q; omega), decide_eq_true e]
    cases bit (sWed h) d <;> rfl
  · rw [if_pos ((nI_leI (by omega) (by omega)).mpr (by omega)), decide_eq_false e]; rfl
theorem cpy_in (s t : Nat → Int32) {n j : Nat} (h : j < n) : va_cpy s t 0 0 n j = s j := by
  unfold va_cpy; simp [h]
theorem cI_set (M : mM) (a sp b dp n : Nat) : cI M a sp b dp n = setC M b (va_cpy (M.1 a) (M.1 b) sp dp n) := rfl
theorem cpk_ok {α : Type} {n a b : Nat} (f : Option α) (h1 : n ≤ a) (h2 : n ≤ b) (h3 : n < 2147483648) : cpk (nI 0) (nI 0) (nI n) a b f = f := by
  unfold cpk
  have e0 : (nI 0).toNatClampNeg = 0 := rfl
  rw [if_neg]
  rintro (q | q | q | q | q)
  · exact absurd q (by decide)
  · exact absurd q (by decide)
  · exact nI_pos h3 q
  · rw [nI_clamp h3, e0] at q; omega
  · rw [nI_clamp h3, e0] at q; omega
theorem X5_lookAt_eq (w : Nat) (hw : 1100 ≤ w) (hp : okP p) (hx : okX x) (hh : okS p h) (hc : PlC M 1 p) (hxc : XC M 1 x) (hs : StC M 31 p h) {k : Nat} (hk : k ≤ 60) (hday : sDay h + k < 100000) (hl : 0 < k → ∀ d, d < pD p → M.1 158 d = nI (sSw (fut p x h (k - 1)) d)) : ∃ N, f_X5_lookAt w 156 (nI k) M = some N ∧ Fr [12, 157, 158] M N ∧ (∀ d, d < pD p → N.1 158 d = nI (sSw (fut p x h k) d)) ∧ N.1 157 k = opM p (fut p x h k) ∧ ∀ j, j ≠ k → N.1 157 j = M.1 157 j := by
  have hD := hp.2.1
  unfold f_X5_lookAt
  rw [r156_0, r156_1, r156_2, r156_3, r31_4, l33, l157, l158]
  by_cases hk0 : k = 0
  · subst hk0
    have hsN : StC (setC M 158 (va_cpy (M.1 33) (M.1 158) 0 0 8)) 31 p h := hs.fr (fun c h1 h2 => setC_ne _ _ (by omega))
    have hcN : PlC (setC M 158 (va_cpy (M.1 33) (M.1 158) 0 0 8)) 1 p := hc.fr (fun c h1 => setC_ne _ _ (by omega))
    rw [if_pos (show nI 0 = 0 from rfl), show cpk (0 : Int32) 0 8 8 8 = cpk (nI 0) (nI 0) (nI 8) 8 8 from rfl, cpk_ok _ (by omega) (by omega) (by omega), lt_eq, show (0 : Int32).toNatClampNeg = 0 from rfl, show (8 : Int32).toNatClampNeg = 8 from rfl, cI_set, X9_openDoors_eq w (by omega) mem31 hp hh hcN hsN, bI_some, show (0 : Int32) = nI 0 from rfl, chk_nI _ (by omega) (by omega), lt_eq, wI_set]
    refine ⟨_, rfl, ((Fr.rf _ M).set (by decide) _).set (by decide) _, fun d hd => ?_, ?_, fun j hj => ?_⟩
    · rw [setC_ne _ _ (by decide), setC_at, cpy_in _ _ (by omega)]
      exact (hs.2.2.1 d hd).2
    · rw [setC_at, upd_at]; rfl
    · rw [setC_at, upd_ne _ _ hj, setC_ne _ _ (by decide)]
  · have hl := hl (by omega)
    have gd : M.1 31 1 = nI (sDay h) := hs.1
    have ey : nI (sDay h) + nI k - 1 = nI (sDay h + (k - 1)) := by rw [nI_add, show (1 : Int32) = nI 1 from rfl, pk_sub (by omega)]; congr 1; omega
    have hm : dmp x (sDay h + (k - 1)) ≤ 9 := hx.2.2.1 _ (Nat.mod_lt _ hx.1)
    have hok := fut_ok (x := x) hh (n := k - 1) (by omega)
    rw [if_neg (show ¬ nI k = 0 from fun e => hk0 ((nI_eq (b := 0) (by omega) (by omega)).mp e)), gd, ey, lt_eq, X6_dampOn_eq w hx hxc (by omega), bI_some, chk_nI _ (by omega) (by omega), nI_clamp (by omega), lt_eq]
    have efut : fut p x h k = nx p x (dmp x (sDay h + (k - 1))) (fut p x h (k - 1)) := by
      obtain ⟨q, rfl⟩ : ∃ q, k = q + 1 := ⟨k - 1, by omega⟩
      rfl
    have esw : ∀ d, sSw (fut p x h k) d = nxt (xL x) (pW p d) (sSw (fut p x h (k - 1)) d) (sGap h d) (dmp x (sDay h + (k - 1))) (sDay h + (k - 1)) := fun d => by
      rw [efut]; show nxt _ _ _ (sGap (fut p x h (k - 1)) d) _ (sDay (fut p x h (k - 1))) = _; rw [fut_gap, fut_day]
    have estk : ∀ d, stk (fut p x h k) d = (decide (sGap h d < sSw (fut p x h k) d) && !bit (sWed h) d) := fun d => by
      unfold stk; rw [fut_gap, fut_wed]
    refine loopX (fun i N => Fr [12, 157, 158] M N ∧ (∀ d, d < pD p → i ≤ d → N.1 158 d = nI (sSw (fut p x h (k - 1)) d)) ∧ (∀ d, d < i → N.1 158 d = nI (sSw (fut p x h k) d)) ∧ N.1 157 k = mask (fun d => !stk (fut p x h k) d) 0 0 i ∧ ∀ j, j ≠ k → N.1 157 j = M.1 157 j) (fun n N i => f_X5_lookAt_67 w n 156 (nI k) (nI (sDay h + (k - 1))) (nI (dmp x (sDay h + (k - 1)))) (nI i) N) (pD p) (fun r => ∃ N, r = some N ∧ Fr [12, 157, 158] M N ∧ (∀ d, d < pD p → N.1 158 d = nI (sSw (fut p x h k) d)) ∧ N.1 157 k = opM p (fut p x h k) ∧ ∀ j, j ≠ k → N.1 157 j = M.1 157 j) ?_ ?_ (pD p) w 0 _ (by omega) (by omega) ?_
    · rintro n N ⟨f, i1, i2, i3, i4⟩
      rw [f_X5_lookAt_67, r156_1, f.1 1 (by decide), hc.2.1, if_pos (Int32.le_refl _)]
      exact ⟨N, rfl, f, fun d hd => i2 d hd, by rw [i3, mask_not hp], i4⟩
    · rintro n N i hi ⟨f, i1, i2, i3, i4⟩
      refine Or.inr ?_
      have hcN : PlC N 1 p := hc.fr (fun c h1 => f.1 c (by simp; omega))
      have hxN : XC N 1 x := hxc.fr (fun c h1 => f.1 c (by simp; omega))
      have gg : N.1 32 i = nI (sGap h i) := by rw [f.1 32 (by decide)]; exact (hs.2.2.1 i hi).1
      have hle : sSw (fut p x h k) i ≤ 30 := ((fut_ok (x := x) hh hday).2.1 i hi).2
      obtain ⟨s, hsn⟩ := X6_swollenNext_eq w hw hp hx hcN hxN (gap := sGap h i) (day := sDay h + (k - 1)) hi (hok.2.1 i hi).2 hm
      rw [← esw] at hsn
      have fN1 : Fr [12, 157, 158] M (wI (setC N 12 s) 158 i (nI (sSw (fut p x h k) i))) := (f.set (by decide) _).wI (by decide) _ _
      have hsN : StC (wI (setC N 12 s) 158 i (nI (sSw (fut p x h k) i))) 31 p h := hs.fr (fun c h1 h2 => fN1.1 c (by simp; omega))
      have gst := X5_sticksAt_eq w hp hh hsN hi hle
      rw [← estk] at gst
      have e158 : (wI (setC N 12 s) 158 i (nI (sSw (fut p x h k) i))).1 158 = upd (N.1 158) i (nI (sSw (fut p x h k) i)) := by rw [wI_set, setC_at, setC_ne _ _ (by decide)]
      have e157 : (wI (setC N 12 s) 158 i (nI (sSw (fut p x h k) i))).1 157 = N.1 157 := by rw [wI_set, setC_ne _ _ (by decide), setC_ne _ _ (by decide)]
      have com : f_X5_lookAt_67 w (n + 1) 156 (nI k) (nI (sDay h + (k - 1))) (nI (dmp x (sDay h + (k - 1)))) (nI i) N = (if b2i (stk (fut p x h k) i) = 0 then f_X5_lookAt_67 w n 156 (nI k) (nI (sDay h + (k - 1))) (nI (dmp x (sDay h + (k - 1)))) (nI (i + 1)) (wI (wI (setC N 12 s) 158 i (nI (sSw (fut p x h k) i))) 157 k (N.1 157 k ||| one i)) else f_X5_lookAt_67 w n 156 (nI k) (nI (sDay h + (k - 1))) (nI (dmp x (sDay h + (k - 1)))) (nI (i + 1)) (wI (setC N 12 s) 158 i (nI (sSw (fut p x h k) i)))) := by
        rw [f_X5_lookAt_67, r156_1, r156_0, r156_2, r156_3, r31_3, l158, l157, l32, f.1 1 (by decide), hc.2.1, if_neg (fun h => by have := (nI_leI (by omega) (by omega)).mp h; omega), chk_nI _ (by omega) (by omega), chk_nI _ (by omega) (by omega), nI_clamp (by omega), i1 i hi (by omega), gg, hsn, bI_some, chk_nI _ (by omega) (by omega), lt_eq, chk_nI _ (by omega) (by omega), e158, upd_at, gst, bI_some, chk_nI _ (by omega) (by omega), chk_nI _ (by omega) (by omega), nI_clamp (by omega), e157, lt_eq, nI_1]
        rfl
      rw [com]
      cases es : stk (fut p x h k) i
      · rw [if_pos (show b2i false = 0 from rfl)]
        refine ⟨_, rfl, fN1.wI (by decide) _ _, fun d hd hid => ?_, fun d hd => ?_, ?_, fun j hj => ?_⟩
        · rw [wI_set, setC_ne _ _ (by decide), e158, upd_ne _ _ (by omega)]; exact i1 d hd (by omega)
        · rw [wI_set, setC_ne _ _ (by decide), e158]
          by_cases q : d = i
          · subst q; rw [upd_at]
          · rw [upd_ne _ _ q]; exact i2 d (by omega)
        · rw [wI_set, setC_at, upd_at, i3, mask_succ, Nat.zero_add, es]; rfl
        · rw [wI_set, setC_at, upd_ne _ _ hj, e157]; exact i4 j hj
      · rw [if_neg (show ¬ b2i true = 0 by decide)]
        refine ⟨_, rfl, fN1, fun d hd hid => ?_, fun d hd => ?_, ?_, fun j hj => ?_⟩
        · rw [e158, upd_ne _ _ (by omega)]; exact i1 d hd (by omega)
        · rw [e158]
          by_cases q : d = i
          · subst q; rw [upd_at]
          · rw [upd_ne _ _ q]; exact i2 d (by omega)
        · rw [e157, i3, mask_succ, Nat.zero_add, es]; rfl
        · rw [e157]; exact i4 j hj
    · refine ⟨(Fr.rf _ M).wI (by decide) _ _, fun d hd _ => ?_, fun d hd => by omega, ?_, fun j hj => ?_⟩
      · rw [wI_set, setC_ne _ _ (by decide)]; exact hl d hd
      · rw [wI_set, setC_at, upd_at]; rfl
      · rw [wI_set, setC_at, upd_ne _ _ hj]
end LOOK
