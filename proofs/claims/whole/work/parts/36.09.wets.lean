/-! ===== how damp it must have been: wets, tries ===== -/
/-- the state n days on, each with damp m -/
def fm (p : HP) (x : HX) (m : Nat) (h : HS) : Nat → HS
  | 0 => h
  | n + 1 => nx p x m (fm p x m h n)
section WETS
variable {p : HP} {x : HX} {h : HS} {u : FU} {M N : mM}
theorem fm_day (m n : Nat) : sDay (fm p x m h n) = sDay h + n := by
  induction n with
  | zero => rfl
  | succ n ih => show sDay (fm p x m h n) + 1 = _; rw [ih]; omega
theorem fm_gap (m n : Nat) : sGap (fm p x m h n) = sGap h := by
  induction n with
  | zero => rfl
  | succ n ih => exact ih
theorem fm_wed (m n : Nat) : sWed (fm p x m h n) = sWed h := by
  induction n with
  | zero => rfl
  | succ n ih => exact ih
theorem fm_ok (hh : okS p h) {m n : Nat} (hn : sDay h + n < 100000) : okS p (fm p x m h n) := by
  induction n with
  | zero => exact hh
  | succ n ih => exact okS_nx (ih (by omega)) (by rw [fm_day]; omega)
theorem fm_sw (m k d : Nat) : sSw (fm p x m h (k + 1)) d = nxt (xL x) (pW p d) (sSw (fm p x m h k) d) (sGap h d) m (sDay h + k) := by
  show nxt _ _ _ (sGap (fm p x m h k) d) _ (sDay (fm p x m h k)) = _
  rw [fm_gap, fm_day]
theorem fm_stk (m k d : Nat) : stk (fm p x m h k) d = (decide (sGap h d < sSw (fm p x m h k) d) && !bit (sWed h) d) := by
  unfold stk; rw [fm_gap, fm_wed]
theorem X5_swollenBehind_eq (w : Nat) (hw : 1100 ≤ w) (Q : QC p x h M) {d k m : Nat} (hdd : d < pD p) (hk : k ≤ 60) (hm : m ≤ 9) : ∃ N, f_X5_swollenBehind w 156 (nI d) (nI (sGap h d)) (nI k) (nI m) M = some (nI (sSw (fm p x m h k) d), N) ∧ Fr [12] M N := by
  obtain ⟨hp, hx, hh, hd, hc, hxc, hs⟩ := Q
  have hD := hp.2.1
  have g1 : M.1 33 d = nI (sSw h d) := (hs.2.2.1 d hdd).2
  have gd : M.1 31 1 = nI (sDay h) := hs.1
  have hm1 : ¬ nI m = -1 := fun e => by
    have h1 : ¬ nI m < 0 := nI_pos (by omega)
    exact h1 (by rw [e]; decide)
  unfold f_X5_swollenBehind
  rw [r156_0, r31_4, l33, chk_nI _ (by omega) (by omega), nI_clamp (by omega), g1, lt_eq]
  refine loopX (fun k (s : Nat × mM) => Fr [12] M s.2 ∧ s.1 = sSw (fm p x m h k) d) (fun n (s : Nat × mM) i => f_X5_swollenBehind_14 w n 156 (nI d) (nI (sGap h d)) (nI k) (nI m) (nI s.1) (nI i) s.2) k (fun r => ∃ N, r = some (nI (sSw (fm p x m h k) d), N) ∧ Fr [12] M N) ?_ ?_ k w 0 (sSw h d, M) (by omega) (by omega) ⟨Fr.rf _ _, rfl⟩
  · rintro n ⟨s, N⟩ ⟨f, e⟩
    have e : s = _ := e
    rw [f_X5_swollenBehind_14, if_pos (Int32.le_refl _), e]
    exact ⟨N, rfl, f⟩
  · rintro n ⟨s, N⟩ i hi ⟨f, e⟩
    have e : s = _ := e
    have f : Fr [12] M N := f
    subst e
    refine Or.inr ?_
    have hcN : PlC N 1 p := hc.fr (fun c h1 => f.1 c (by simp; omega))
    have hxN : XC N 1 x := hxc.fr (fun c h1 => f.1 c (by simp; omega))
    obtain ⟨s, hsn⟩ := X6_swollenNext_eq w hw hp hx hcN hxN (gap := sGap h d) (m := m) (day := sDay h + i) hdd ((fm_ok (x := x) hh (m := m) (n := i) (by omega)).2.1 d hdd).2 hm
    rw [← fm_sw] at hsn
    refine ⟨(sSw (fm p x m h (i + 1)) d, setC N 12 s), ?_, f.set (by decide) _, rfl⟩
    show f_X5_swollenBehind_14 w (n + 1) 156 (nI d) (nI (sGap h d)) (nI k) (nI m) (nI (sSw (fm p x m h i) d)) (nI i) N = f_X5_swollenBehind_14 w n 156 (nI d) (nI (sGap h d)) (nI k) (nI m) (nI (sSw (fm p x m h (i + 1)) d)) (nI (i + 1)) (setC N 12 s)
    rw [f_X5_swollenBehind_14, if_neg (fun q => by have := (nI_leI (by omega) (by omega)).mp q; omega), r156_0, f.1 31 (by decide), gd, nI_add, lt_eq, if_neg hm1]
    unfold f_X5_swollenBehind_52
    rw [r156_1, hsn, bI_some, nI_1]
/-- with damp m each day, the rumour i is true -/
def agq (p : HP) (x : HX) (h : HS) (u : FU) (m i : Nat) : Bool := stk (fm p x m h (uFn u i)) (uFd u i) == uFs u i
def wq (p : HP) (x : HX) (h : HS) (u : FU) (m : Nat) : Bool := alB (agq p x h u m) (uF u)
theorem alB_no {f : Nat → Bool} {k : Nat} (e : f k = false) : ∀ n, k < n → alB f n = false := by
  intro n
  induction n with
  | zero => intro h; omega
  | succ n ih =>
    intro h
    unfold alB
    by_cases q : k = n
    · subst q; rw [e, Bool.and_false]
    · rw [ih (by omega)]; rfl
theorem b2i_inj {a b : Bool} (e : b2i a = b2i b) : a = b := by cases a <;> cases b <;> first | rfl | exact absurd e (by decide)
theorem X5_agreesWith_eq (w : Nat) (hw : 1100 ≤ w) (Q : QC p x h M) (ou : okU p u) (hu : UC M 105 u) {m : Nat} (hm : m ≤ 9) : ∃ N, f_X5_agreesWith w 156 105 (nI m) M = some (b2i (wq p x h u m), N) ∧ Fr [12] M N := by
  have hp := Q.1
  have hD := hp.2.1
  obtain ⟨u1, u2, u3, u4⟩ := ou
  unfold f_X5_agreesWith
  refine loopX (fun k (N : mM) => Fr [12] M N ∧ alB (agq p x h u m) k = true) (fun n (N : mM) k => f_X5_agreesWith_2 w n 156 105 (nI m) (nI k) N) (uF u) (fun r => ∃ N, r = some (b2i (wq p x h u m), N) ∧ Fr [12] M N) ?_ ?_ (uF u) w 0 M (by omega) (by omega) ⟨Fr.rf _ _, rfl⟩
  · rintro n N ⟨f, e⟩
    have huN : UC N 105 u := hu.fr (fun c h1 h2 => f.1 c (by simp; omega))
    rw [f_X5_agreesWith_2, huN.1, if_pos (Int32.le_refl _)]
    unfold wq
    rw [e]
    exact ⟨N, rfl, f⟩
  · rintro n N k hk ⟨f, e⟩
    have huN : UC N 105 u := hu.fr (fun c h1 h2 => f.1 c (by simp; omega))
    have QN : QC p x h N := Q.fr (fun c hc => f.1 c (by simp; omega))
    obtain ⟨g1, g2, g3⟩ := huN.2.2.1 k hk
    have g1 : N.1 106 k = nI (uFd u k) := g1
    have g2 : N.1 107 k = nI (uFn u k) := g2
    obtain ⟨d1, d2, d3⟩ := u3 k hk
    obtain ⟨K, eK, fK⟩ := X5_swollenBehind_eq w hw QN (d := uFd u k) (k := uFn u k) (m := m) d1 (by omega) hm
    have fMK := f.tr fK
    have hsK : StC K 31 p h := QN.2.2.2.2.2.2.fr (fun c h1 h2 => fK.1 c (by simp; omega))
    have gg : N.1 32 (uFd u k) = nI (sGap h (uFd u k)) := (QN.2.2.2.2.2.2.2.2.1 _ d1).1
    have g3 : K.1 108 k = b2i (uFs u k) := by rw [fK.1 108 (by decide)]; exact g3
    have hst := X5_sticksAt_eq w hp Q.2.2.1 hsK d1 (v := sSw (fm p x m h (uFn u k)) (uFd u k)) ((fm_ok (x := x) Q.2.2.1 (by have := Q.2.2.2.1; omega)).2.1 _ d1).2
    rw [← fm_stk] at hst
    have e0 : f_X5_agreesWith_2 w (n + 1) 156 105 (nI m) (nI k) N = if b2i (stk (fm p x m h (uFn u k)) (uFd u k)) = b2i (uFs u k) then f_X5_agreesWith_2 w n 156 105 (nI m) (nI (k + 1)) K else rtB 0 K := by
      rw [f_X5_agreesWith_2, huN.1, if_neg (fun h => by have := (nI_leI (by omega) (by omega)).mp h; omega), if_neg (fun h => by have := (nI_leI (a := 8) (by omega) (by omega)).mp h; omega), r105_2, r105_3, r105_4, l106, l107, l108, chk_nI _ (by omega) (by omega), nI_clamp (by omega), g1, lt_eq, r156_0, r31_3, l32, chk_nI _ (by omega) (by omega), chk_nI _ (by omega) (by omega), nI_clamp (by omega), gg, g2, eK, bI_some, hst, bI_some, chk_nI _ (by omega) (by omega), g3, nI_1]
    rw [e0]
    by_cases q : stk (fm p x m h (uFn u k)) (uFd u k) = uFs u k
    · rw [if_pos (by rw [q])]
      refine Or.inr ⟨K, rfl, fMK, ?_⟩
      unfold alB agq
      rw [q, beq_self_eq_true, Bool.and_true]
      exact e
    · rw [if_neg (fun e => q (b2i_inj e))]
      refine Or.inl ?_
      unfold wq
      rw [alB_no (k := k) (by unfold agq; exact beq_eq_false_iff_ne.mpr q) _ hk]
      exact ⟨K, rfl, fMK⟩
def wqM (p : HP) (x : HX) (h : HS) (u : FU) : Int32 := mask (wq p x h u) 0 0 10
theorem X5_wetsBy_eq (w : Nat) (hw : 1100 ≤ w) (Q : QC p x h M) (ou : okU p u) (hu : UC M 105 u) : ∃ N, f_X5_wetsBy w 156 105 M = some (wqM p x h u, N) ∧ Fr [12] M N := by
  unfold f_X5_wetsBy
  refine loopX (fun k (s : Int32 × mM) => Fr [12] M s.2 ∧ s.1 = mask (wq p x h u) 0 0 k) (fun n (s : Int32 × mM) k => f_X5_wetsBy_4 w n 156 105 s.1 (nI k) s.2) 10 (fun r => ∃ N, r = some (wqM p x h u, N) ∧ Fr [12] M N) ?_ ?_ 10 w 0 (0, M) (by omega) (by omega) ⟨Fr.rf _ _, rfl⟩
  · rintro n ⟨X, N⟩ ⟨f, e⟩
    have e : X = _ := e
    rw [f_X5_wetsBy_4, if_pos (by decide), e]
    exact ⟨N, rfl, f⟩
  · rintro n ⟨X, N⟩ k hk ⟨f, e⟩
    have e : X = _ := e
    have f : Fr [12] M N := f
    subst e
    have huN : UC N 105 u := hu.fr (fun c h1 h2 => f.1 c (by simp; omega))
    have QN : QC p x h N := Q.fr (fun c hc => f.1 c (by simp; omega))
    obtain ⟨K, eK, fK⟩ := X5_agreesWith_eq w hw QN ou huN (m := k) (by omega)
    refine Or.inr ⟨(mask (wq p x h u) 0 0 (k + 1), K), ?_, f.tr fK, rfl⟩
    show f_X5_wetsBy_4 w (n + 1) 156 105 (mask (wq p x h u) 0 0 k) (nI k) N = f_X5_wetsBy_4 w n 156 105 (mask (wq p x h u) 0 0 (k + 1)) (nI (k + 1)) K
    rw [f_X5_wetsBy_4, if_neg (fun h => by have := (nI_leI (a := 10) (by omega) (by omega)).mp h; omega), eK, bI_some, nI_1, mask_succ, Nat.zero_add]
    cases wq p x h u k <;> rfl
theorem bit_b (y : Int32) (d : Nat) : (y >>> (nI d &&& 31)) &&& 1 = b2i (bit y d) := by
  cases e : bit y d
  · exact (bit_0 y d).mpr e
  · exact (bit_1 y d).mpr e
theorem X12_wetsNow_eq (w : Nat) (hw : 1100 ≤ w) (R : QF p x h M) (ou : okU p u) (hu : UR M 0 u) : ∃ N, f_X12_wetsNow w 163 M = some (wqM p x h u, N) ∧ FrT M N ∧ ∀ m k, m < 10 → 1 ≤ k → k ≤ 30 → N.1 184 (31 * m + k) = stkM p (fm p x m h k) := by
  obtain ⟨hp, hx, hh, hd, hr, hxr, ht⟩ := R
  have hD := hp.2.1
  unfold f_X12_wetsNow
  refine loopX (fun m (s : Int32 × mM) => FrT M s.2 ∧ s.1 = mask (wq p x h u) 0 0 m ∧ ∀ a k, a < m → 1 ≤ k → k ≤ 30 → s.2.1 184 (31 * a + k) = stkM p (fm p x a h k)) (fun n (s : Int32 × mM) k => f_X12_wetsNow_4 w n 163 s.1 (nI k) s.2) 10 (fun r => ∃ N, r = some (wqM p x h u, N) ∧ FrT M N ∧ ∀ m k, m < 10 → 1 ≤ k → k ≤ 30 → N.1 184 (31 * m + k) = stkM p (fm p x m h k)) ?_ ?_ 10 w 0 (0, M) (by omega) (by omega) ⟨FrT.rf _, rfl, fun a k ha => by omega⟩
  · rintro n ⟨X, N⟩ ⟨f, e, i⟩
    have e : X = _ := e
    rw [f_X12_wetsNow_4, if_pos (by decide), e]
    exact ⟨N, rfl, f, i⟩
  · rintro n ⟨X, N⟩ m hm ⟨f, e, i⟩
    have e : X = _ := e
    have f : FrT M N := f
    have i : ∀ a k, a < m → 1 ≤ k → k ≤ 30 → N.1 184 (31 * a + k) = stkM p (fm p x a h k) := i
    subst e
    obtain ⟨M1, e1, f1, s1⟩ := X12_triesNow_eq w (by omega) hp (f.str hp (by omega) ht)
    have i1 : ∀ a k, a < m → 1 ≤ k → k ≤ 30 → M1.1 184 (31 * a + k) = stkM p (fm p x a h k) := by
      obtain ⟨N3, e3, f3, -, -⟩ := X12_copies_eq w (a := 0) (b := 1365) (m := 23) (by omega) (by omega) (by omega) (by omega) N
      have : N3 = M1 := by
        have h0 := e1
        unfold f_X12_triesNow at h0
        rw [show f_X12_copies w 163 0 1365 23 N = some N3 from e3] at h0
        exact Option.some.inj h0
      subst this
      intro a k h1 h2 h3
      rw [f3.1 184 (by decide)]; exact i a k h1 h2 h3
    refine Or.inr ?_
    show ∃ t : Int32 × mM, f_X12_wetsNow_4 w (n + 1) 163 (mask (wq p x h u) 0 0 m) (nI m) N = f_X12_wetsNow_4 w n 163 t.1 (nI (m + 1)) t.2 ∧ _
    rw [f_X12_wetsNow_4, if_neg (fun h => by have := (nI_leI (a := 10) (by omega) (by omega)).mp h; omega), e1, bV_some]
    refine loopX (fun k (K : mM) => FrT M K ∧ StR K 1365 p (fm p x m h (k - 1)) ∧ 1 ≤ k ∧ (∀ a k, a < m → 1 ≤ k → k ≤ 30 → K.1 184 (31 * a + k) = stkM p (fm p x a h k)) ∧ ∀ j, 1 ≤ j → j < k → K.1 184 (31 * m + j) = stkM p (fm p x m h j)) (fun n2 (K : mM) k => f_X12_wetsNow_16 w (f_X12_wetsNow_4 w n) n2 163 (mask (wq p x h u) 0 0 m) (nI m) (nI k) K) 31 (fun r => ∃ t : Int32 × mM, r = f_X12_wetsNow_4 w n 163 t.1 (nI (m + 1)) t.2 ∧ FrT M t.2 ∧ t.1 = mask (wq p x h u) 0 0 (m + 1) ∧ ∀ a k, a < m + 1 → 1 ≤ k → k ≤ 30 → t.2.1 184 (31 * a + k) = stkM p (fm p x a h k)) ?_ ?_ 30 w 1 M1 (by omega) (by omega) ⟨f.tr f1, s1, by omega, i1, fun j h1 h2 => by omega⟩
    · rintro n2 K ⟨fK, -, -, j1, j2⟩
      have huK : UR K 0 u := hu.fr ou (fun j h1 h2 => by rw [fK.2 j (by omega)])
      obtain ⟨u1, u2, u3, u4⟩ := ou
      have h23 : K.1 179 23 = nI (uF u) := huK.1
      rw [f_X12_wetsNow_16, if_pos (by decide)]
      unfold f_X12_wetsNow_54
      refine loopX (fun k (b : Bool) => b = alB (agq p x h u m) k) (fun n3 (b : Bool) k => f_X12_wetsNow_59 w (f_X12_wetsNow_4 w n) n3 163 (mask (wq p x h u) 0 0 m) (nI m) (b2i b) (nI k) K) (uF u) (fun r => ∃ t : Int32 × mM, r = f_X12_wetsNow_4 w n 163 t.1 (nI (m + 1)) t.2 ∧ FrT M t.2 ∧ t.1 = mask (wq p x h u) 0 0 (m + 1) ∧ ∀ a k, a < m + 1 → 1 ≤ k → k ≤ 30 → t.2.1 184 (31 * a + k) = stkM p (fm p x a h k)) ?_ ?_ (uF u) w 0 true (by omega) (by omega) rfl
      · intro n3 b eb
        refine ⟨(mask (wq p x h u) 0 0 (m + 1), K), ?_, fK, rfl, fun a k h1 h2 h3 => ?_⟩
        · show f_X12_wetsNow_59 w (f_X12_wetsNow_4 w n) (n3 + 1) 163 (mask (wq p x h u) 0 0 m) (nI m) (b2i b) (nI (uF u)) K = f_X12_wetsNow_4 w n 163 (mask (wq p x h u) 0 0 (m + 1)) (nI (m + 1)) K
          rw [f_X12_wetsNow_59, r163_24, l179, show (23 : Int32) = nI 23 from rfl, chk_nI _ (by omega) (by omega), nI_clamp (by omega), h23, if_pos (Int32.le_refl _)]
          unfold f_X12_wetsNow_137
          rw [nI_1, or_0, mask_succ, Nat.zero_add, eb]
          show _ = f_X12_wetsNow_4 w n 163 (if wq p x h u m = true then _ else _) _ _
          rw [show alB (agq p x h u m) (uF u) = wq p x h u m from rfl]
          cases wq p x h u m <;> rfl
        · by_cases q : a = m
          · subst q; exact j2 k h2 (by omega)
          · exact j1 a k (by omega) h2 h3
      · intro n3 b k hk eb
        refine Or.inr ⟨alB (agq p x h u m) (k + 1), ?_, rfl⟩
        have hag : agq p x h u m k = true ↔ b2i (bit (stkM p (fm p x m h (uFn u k))) (uFd u k)) = b2i (uFs u k) := by
          have := (u3 k hk).1
          rw [bit_bt _ (by omega), bt_stk hp (by omega), decide_eq_true this, Bool.true_and]
          unfold agq
          rw [beq_iff_eq]
          exact ⟨fun e => by rw [e], b2i_inj⟩
        obtain ⟨d1, d2, d3⟩ := u3 k hk
        obtain ⟨g1, g2, g3⟩ := huK.2.2.1 k hk
        rw [Nat.zero_add] at g1 g2 g3
        rw [f_X12_wetsNow_59, r163_24, l179, show (23 : Int32) = nI 23 from rfl, chk_nI _ (by omega) (by omega), nI_clamp (by omega), h23, if_neg (fun h => by have := (nI_leI (by omega) (by omega)).mp h; omega), show (24 : Int32) + 3 * nI k = nI (24 + 3 * k) by rw [nx_lit, nx_lit, pk_mul, nI_add], lt_eq, nI_1, nI_1, show nI (24 + 3 * k) + 2 = nI (26 + 3 * k) by show nI _ + nI 2 = _; rw [nI_add]; exact congrArg nI (by omega), show 24 + 3 * k + 1 = 25 + 3 * k by omega]
        unfold alB
        rw [← eb]
        cases b
        · rw [if_pos (show b2i false = 0 from rfl)]; rfl
        · rw [if_neg (show ¬ b2i true = 0 by decide), chk_nI _ (by omega) (by omega), nI_clamp (by omega), g2, show (31 : Int32) * nI m + nI (uFn u k) = nI (31 * m + uFn u k) by rw [nx_lit, pk_mul, nI_add], r163_30, l184, chk_nI _ (by omega) (by omega), chk_nI _ (by omega) (by omega), chk_nI _ (by omega) (by omega), nI_clamp (by omega), nI_clamp (by omega), nI_clamp (by omega), g1, g3, j2 _ d2 (by omega), bit_b, Bool.true_and]
          cases ea : agq p x h u m k
          · rw [if_neg (fun e => by rw [hag.mpr e] at ea; cases ea)]; rfl
          · rw [if_pos (hag.mp ea)]; rfl
    · rintro n2 K k hk ⟨fK, sK, k1, j1, j2⟩
      obtain ⟨K2, e2, f2, s2, j3⟩ := X12_passes_eq w hw hp hx (fm_ok (x := x) hh (m := m) (n := k - 1) (by omega)) (fK.plr hr) (fK.xr hxr) (b := 1365) (m := m) (by omega) sK (by omega)
      have ek : nx p x m (fm p x m h (k - 1)) = fm p x m h k := by
        obtain ⟨q, rfl⟩ : ∃ q, k = q + 1 := ⟨k - 1, by omega⟩
        rfl
      rw [ek] at s2
      have fT : FrT K K2 := ⟨f2.mono (by decide), fun j hj => j3 j (by omega)⟩
      have hst := X12_sticking_eq w (by omega) (b := 1365) (by omega) hp (fm_ok (x := x) hh (m := m) (n := k) (by omega)) s2 ((fK.tr fT).plr hr).2.1
      have fW : FrT K2 (wI K2 184 (31 * m + k) (stkM p (fm p x m h k))) := ⟨(Fr.rf _ _).wI (by decide) _ _, fun j _ => by rw [wI_set, setC_ne _ _ (by decide)]⟩
      refine Or.inr ⟨wI K2 184 (31 * m + k) (stkM p (fm p x m h k)), ?_, (fK.tr fT).tr fW, ?_, by omega, fun a j h1 h2 h3 => ?_, fun j h1 h2 => ?_⟩
      · rw [f_X12_wetsNow_16, if_neg (fun q => by have := (nI_ltI (a := 30) (by omega) (by omega)).mp q; omega), show f_X12_passes w 163 1365 (nI m) K = _ from e2, bV_some, show f_X12_sticking w 163 1365 K2 = _ from hst, bI_some, show (31 : Int32) * nI m + nI k = nI (31 * m + k) by rw [nx_lit, pk_mul, nI_add], r163_30, l184, chk_nI _ (by omega) (by omega), nI_clamp (by omega), lt_eq, nI_1]
      · exact s2.fr hp (fun j _ _ => by rw [wI_set, setC_ne _ _ (by decide)])
      · rw [wI_set, setC_at, upd_ne _ _ (by omega), f2.1 184 (by decide)]; exact j1 a j h1 h2 h3
      · rw [wI_set, setC_at]
        by_cases q : j = k
        · subst q; rw [upd_at]
        · rw [upd_ne _ _ (by omega), f2.1 184 (by decide)]; exact j2 j h1 (by omega)
theorem FC.of12 {M N : mM} (f : Fr [12] M N) : FC M N := f.mono (by decide)
theorem X11_wets_eq (w : Nat) (hw : 1100 ≤ w) (Q : QC p x h M) (R : QF p x h M) (ou : okU p u) (hu : UC M 105 u) (hv : UR M 0 u) : Al (f_X11_wets w 0) (f_X12_wets w 163) M := by
  obtain ⟨N, e, f⟩ := X5_wetsBy_eq w hw Q ou hu
  have R2 := (R.fc (FC.of12 f)).th0
  have hv2 : UR (th0 N) 0 u := hv.fr ou (fun j _ _ => by rw [th0_1 _ (by decide), f.1 179 (by decide)])
  obtain ⟨K, e2, f2, -⟩ := X12_wetsNow_eq w hw R2 ou hv2
  refine ⟨wqM p x h u, N, K, ?_, FC.of12 f, ?_, f2⟩
  · unfold f_X11_wets
    rw [r0_11, r0_9, e]; rfl
  · unfold f_X12_wets
    rw [lt_eq, show wI N 163 0 0 = th0 N from rfl, e2]; rfl
end WETS
