/-! ===== hard, later ===== -/
section HARD
variable {p : HP} {x : HX} {h : HS} {M N : mM}
theorem X5_look_eq (w : Nat) (hw : 1100 ≤ w) (Q : QC p x h M) {m : Nat} (hm : m ≤ 60) : ∃ N, f_X5_look w 156 (nI m) M = some N ∧ Fr [12, 157, 158] M N ∧ ∀ j, j ≤ m → N.1 157 j = opM p (fut p x h j) := by
  obtain ⟨hp, hx, hh, hd, hc, hxc, hs⟩ := Q
  unfold f_X5_look
  refine loopX (fun k N => Fr [12, 157, 158] M N ∧ (0 < k → ∀ d, d < pD p → N.1 158 d = nI (sSw (fut p x h (k - 1)) d)) ∧ ∀ a, a < k → N.1 157 a = opM p (fut p x h a)) (fun n N k => f_X5_look_2 w n 156 (nI m) (nI k) N) (m + 1) (fun r => ∃ N, r = some N ∧ Fr [12, 157, 158] M N ∧ ∀ j, j ≤ m → N.1 157 j = opM p (fut p x h j)) ?_ ?_ (m + 1) w 0 M (by omega) (by omega) ⟨Fr.rf _ _, fun h => by omega, fun a ha => by omega⟩
  · rintro n N ⟨f, i1, i2⟩
    rw [f_X5_look_2, if_pos ((nI_ltI (by omega) (by omega)).mpr (by omega))]
    exact ⟨N, rfl, f, fun j hj => i2 j (by omega)⟩
  · rintro n N k hk ⟨f, i1, i2⟩
    have hcN : PlC N 1 p := hc.fr (fun c h1 => f.1 c (by simp; omega))
    have hxN : XC N 1 x := hxc.fr (fun c h1 => f.1 c (by simp; omega))
    have hsN : StC N 31 p h := hs.fr (fun c h1 h2 => f.1 c (by simp; omega))
    obtain ⟨K, e, fK, k1, k2, k3⟩ := X5_lookAt_eq w hw hp hx hh hcN hxN hsN (k := k) (by omega) (by omega) i1
    refine Or.inr ⟨K, ?_, f.tr fK, fun _ d hd => k1 d hd, fun a ha => ?_⟩
    · rw [f_X5_look_2, if_neg (fun q => by have := (nI_ltI (by omega) (by omega)).mp q; omega), if_neg (fun q => by have := (nI_ltI (a := 60) (by omega) (by omega)).mp q; omega), e, bV_some, nI_1]
    · by_cases e2 : a = k
      · subst e2; exact k2
      · rw [k3 a e2]; exact i2 a (by omega)
theorem op_8 (hp : okP p) : inR 8 (opM p h) := fun i hi e => by
  have hD := hp.2.1
  rw [bt_op hp hi, Bool.and_eq_true, decide_eq_true_eq] at e; omega
theorem stk_8 (hp : okP p) : inR 8 (stkM p h) := fun i hi e => by
  have hD := hp.2.1
  rw [bt_stk hp hi, Bool.and_eq_true, decide_eq_true_eq] at e; omega
theorem cnt_cmp {f g : Nat → Bool} {D : Nat} {q : Nat → Bool} : ∀ n, (∀ i, i < n → f i = (decide (i < D) && !q i)) → (∀ i, i < n → g i = (decide (i < D) && q i)) → cnt f n + cnt g n = if n ≤ D then n else D := by
  intro n
  induction n with
  | zero => intro _ _; unfold cnt; rw [if_pos (Nat.zero_le _)]
  | succ n ih =>
    intro h1 h2
    have := ih (fun i hi => h1 i (by omega)) (fun i hi => h2 i (by omega))
    unfold cnt
    rw [h1 n (by omega), h2 n (by omega)]
    by_cases a : n < D
    · rw [decide_eq_true a]
      rw [if_pos (by omega)] at this
      rw [if_pos (show n + 1 ≤ D by omega)]
      cases q n
      · simp only [Bool.true_and, Bool.not_false, if_true, Bool.false_eq_true, if_false]; omega
      · simp only [Bool.true_and, Bool.not_true, if_true, Bool.false_eq_true, if_false]; omega
    · rw [decide_eq_false a]
      rw [if_neg (show ¬ n + 1 ≤ D by omega)]
      simp only [Bool.false_and, Bool.false_eq_true, if_false]
      split at this <;> omega
theorem pop_os (hp : okP p) : pop (opM p h) + pop (stkM p h) = pD p := by
  have hD := hp.2.1
  have := cnt_cmp (f := bt (opM p h)) (g := bt (stkM p h)) (D := pD p) (q := stk h) 8 (fun i hi => bt_op hp (by omega)) (fun i hi => bt_stk hp (by omega))
  unfold pop
  rw [this]; split <;> omega
/-- the day with the fewest open doors, among 0..k -/
def hdd (p : HP) (x : HX) (h : HS) : Nat → Nat
  | 0 => 0
  | k + 1 => if pop (opM p (fut p x h (hdd p x h k))) ≤ pop (opM p (fut p x h (k + 1))) then hdd p x h k else k + 1
theorem hdd_le : ∀ k, hdd p x h k ≤ k := by
  intro k
  induction k with
  | zero => exact Nat.le_refl _
  | succ k ih => unfold hdd; split <;> omega
theorem X11_hard_eq (w : Nat) (hw : 1100 ≤ w) (Q : QC p x h M) (R : QF p x h M) : Al (f_X11_hard w 0) (f_X12_hard w 163) M := by
  obtain ⟨N, e, f, hN⟩ := X5_look_eq w hw Q (m := 60) (by omega)
  have R2 := (R.fc (FC.of3 f)).th0
  obtain ⟨hp, hx, hh, hd, hc, hxc, hs⟩ := Q
  obtain ⟨-, -, -, -, hr, hxr, ht⟩ := R2
  have hD := hp.2.1
  have key : f_X11_hard w 0 M = some (nI (hdd p x h 60), N) := by
    unfold f_X11_hard
    rw [r0_11, show f_X5_look w 156 60 M = some N from e, bV_some]
    refine loopX (fun k (b : Nat) => b = hdd p x h (k - 1) ∧ 1 ≤ k) (fun n b k => f_X11_hard_13 w n 0 (nI b) (nI k) N) 61 (fun r => r = some (nI (hdd p x h 60), N)) ?_ ?_ 60 w 1 0 (by omega) (by omega) ⟨rfl, by omega⟩
    · rintro n b ⟨rfl, -⟩
      rw [f_X11_hard_13, if_pos (by decide)]
    · rintro n b k hk ⟨rfl, hk1⟩
      refine Or.inr ⟨hdd p x h (k + 1 - 1), ?_, rfl, by omega⟩
      have hl : hdd p x h (k - 1) ≤ k - 1 := hdd_le _
      have e1 : hdd p x h (k + 1 - 1) = if pop (opM p (fut p x h (hdd p x h (k - 1)))) ≤ pop (opM p (fut p x h k)) then hdd p x h (k - 1) else k := by
        obtain ⟨j, rfl⟩ : ∃ j, k = j + 1 := ⟨k - 1, by omega⟩
        rfl
      have p1 := pop_le (opM p (fut p x h k))
      have p2 := pop_le (opM p (fut p x h (hdd p x h (k - 1))))
      rw [f_X11_hard_13, if_neg (fun q => by have := (nI_ltI (a := 60) (by omega) (by omega)).mp q; omega), r0_11, r156_2, l157, chk_nI _ (by omega) (by omega), nI_clamp (by omega), hN k (by omega), J6_bitCount_eq w (op_8 hp), bI_some, chk_nI _ (by omega) (by omega), nI_clamp (by omega), hN _ (by omega), J6_bitCount_eq w (op_8 hp), bI_some, nI_1, e1]
      by_cases q : pop (opM p (fut p x h (hdd p x h (k - 1)))) ≤ pop (opM p (fut p x h k))
      · rw [if_pos ((nI_leI (by omega) (by omega)).mpr q), if_pos q]
      · rw [if_neg (fun e => q ((nI_leI (by omega) (by omega)).mp e)), if_neg q]
  obtain ⟨M1, e1, f1, s1⟩ := X12_triesNow_eq w (by omega) hp ht
  have key2 : ∃ K, f_X12_hard w 163 N = some (nI (hdd p x h 60), K) ∧ FrT (th0 N) K := by
    unfold f_X12_hard
    rw [lt_eq, show wI N 163 0 0 = th0 N from rfl, e1, bV_some]
    refine loopX (fun k (s : (Nat × Int32) × mM) => FrT (th0 N) s.2 ∧ StR s.2 1365 p (fut p x h k) ∧ s.1.1 = hdd p x h (k - 1) ∧ (k = 0 → s.1.2 = -1) ∧ (0 < k → s.1.2 = nI (pop (stkM p (fut p x h (hdd p x h (k - 1))))))) (fun n (s : (Nat × Int32) × mM) k => f_X12_hard_15 w n 163 (nI s.1.1) s.1.2 (nI k) s.2) 61 (fun r => ∃ K, r = some (nI (hdd p x h 60), K) ∧ FrT (th0 N) K) ?_ ?_ 61 w 0 ((0, -1), M1) (by omega) (by omega) ⟨f1, s1, rfl, fun _ => rfl, fun h => by omega⟩
    · rintro n ⟨⟨b, y⟩, K⟩ ⟨f, i1, i2, i3, i4⟩
      have i2 : b = hdd p x h 60 := i2
      subst i2
      rw [f_X12_hard_15, if_pos (by decide)]
      exact ⟨K, rfl, f⟩
    · rintro n ⟨⟨b, y⟩, K⟩ k hk ⟨f, i1, i2, i3, i4⟩
      have i2 : b = hdd p x h (k - 1) := i2
      have i3 : k = 0 → y = -1 := i3
      have i4 : 0 < k → y = nI (pop (stkM p (fut p x h (hdd p x h (k - 1))))) := i4
      have f : FrT (th0 N) K := f
      have i1 : StR K 1365 p (fut p x h k) := i1
      refine Or.inr ?_
      have hst := X12_sticking_eq w (by omega) (b := 1365) (by omega) hp (fut_ok hh (by omega)) i1 (f.plr hr).2.1
      obtain ⟨K2, eK, fK, sK⟩ := X12_trial_pass w hw hp hx hh (f.plr hr) (f.xr hxr) (n := k) (by omega) i1
      have p1 := pop_le (stkM p (fut p x h k))
      have p2 := pop_le (stkM p (fut p x h (hdd p x h (k - 1))))
      have o1 := pop_os (h := fut p x h k) hp
      have o2 := pop_os (h := fut p x h (hdd p x h (k - 1))) hp
      refine ⟨((hdd p x h k, nI (pop (stkM p (fut p x h (hdd p x h k))))), K2), ?_, f.tr fK, sK, rfl, fun h => by omega, fun _ => rfl⟩
      show f_X12_hard_15 w (n + 1) 163 (nI b) y (nI k) K = f_X12_hard_15 w n 163 (nI (hdd p x h k)) (nI (pop (stkM p (fut p x h (hdd p x h k))))) (nI (k + 1)) K2
      rw [f_X12_hard_15, if_neg (fun q => by have := (nI_ltI (a := 60) (by omega) (by omega)).mp q; omega), show f_X12_sticking w 163 1365 K = _ from hst, bI_some, X12_bits_eq w (by omega) (stk_8 hp), bI_some]
      unfold f_X12_hard_44 f_X12_hard_57
      rw [show f_X12_passes_ w 163 1365 K = _ from eK, bV_some, bV_some, nI_1]
      by_cases k0 : k = 0
      · subst k0
        have h1 : ¬ nI (pop (stkM p (fut p x h 0))) ≤ -1 := fun q => by
          have h2 : ¬ nI (pop (stkM p (fut p x h 0))) < 0 := nI_pos (by omega)
          exact h2 (Int32.lt_of_le_of_lt q (by decide))
        rw [i3 rfl, if_neg h1, if_neg h1]
        rfl
      · have e1 : hdd p x h k = if pop (opM p (fut p x h (hdd p x h (k - 1)))) ≤ pop (opM p (fut p x h k)) then hdd p x h (k - 1) else k := by
          obtain ⟨j, rfl⟩ : ∃ j, k = j + 1 := ⟨k - 1, by omega⟩
          rfl
        rw [i4 (by omega), i2, e1]
        by_cases q : pop (opM p (fut p x h (hdd p x h (k - 1)))) ≤ pop (opM p (fut p x h k))
        · rw [if_pos ((nI_leI (by omega) (by omega)).mpr (by omega)), if_pos ((nI_leI (by omega) (by omega)).mpr (by omega)), if_pos q]
        · rw [if_neg (fun e => by have := (nI_leI (by omega) (by omega)).mp e; omega), if_neg (fun e => by have := (nI_leI (by omega) (by omega)).mp e; omega), if_neg q]
          rfl
  obtain ⟨K, eK, fK⟩ := key2
  exact ⟨_, N, K, key, FC.of3 f, eK, fK⟩
theorem fut_sw (k d : Nat) : sSw (fut p x h (k + 1)) d = nxt (xL x) (pW p d) (sSw (fut p x h k) d) (sGap h d) (dmp x (sDay h + k)) (sDay h + k) := by
  show nxt _ _ _ (sGap (fut p x h k) d) _ (sDay (fut p x h k)) = _
  rw [fut_gap, fut_day]
theorem X11_later_eq (w : Nat) (hw : 1100 ≤ w) (Q : QC p x h M) (R : QF p x h M) (a b : Int32) : Al (f_X11_later w 0 a b) (f_X12_later w 163 a b) M := by
  obtain ⟨hp, hx, hh, hd, hc, hxc, hs⟩ := Q
  have hD := hp.2.1
  rcases ix3 a (show pD p < 2 ^ 31 by omega) with q | ⟨d, hdd, rfl⟩
  · refine Al.of ⟨-1, ?_, ?_⟩
    · unfold f_X11_later; rw [r0_0, X6_hasDoor_eq w a hc, has_no q]; rfl
    · unfold f_X12_later; rw [lt_eq, show wI M 163 0 0 = th0 M from rfl, X12_isDoor_eq w a R.th0.2.2.2.2.1, has_no q]; rfl
  · have hRd : ∀ N, PlR N 0 p → f_X12_isDoor w 163 (nI d) N = some (1, N) := fun N hN => by rw [X12_isDoor_eq w _ hN, has_yes hdd (by omega)]
    have hCd : f_X6_hasDoor w 1 (nI d) M = some (1, M) := by rw [X6_hasDoor_eq w _ hc, has_yes hdd (by omega)]
    rcases ix3 b (n := 61) (by decide) with q | ⟨m, hm, rfl⟩
    · refine Al.of ⟨-1, ?_, ?_⟩
      · unfold f_X11_later; rw [r0_0, hCd, bI_some, if_neg (by decide)]
        by_cases q0 : b < 0
        · rw [if_pos q0]
        · rw [if_neg q0, if_neg (fun e => absurd (Int32.le_trans (q.resolve_left q0) e) (by decide))]
      · unfold f_X12_later; rw [lt_eq, show wI M 163 0 0 = th0 M from rfl, hRd _ R.th0.2.2.2.2.1, bI_some, if_neg (by decide)]
        unfold f_X12_within
        by_cases q0 : b < 0
        · rw [if_pos q0]; rfl
        · rw [if_neg q0, if_pos (Int32.lt_of_lt_of_le (show (60 : Int32) < nI 61 by decide) (q.resolve_left q0))]; rfl
    · have g1 : M.1 33 d = nI (sSw h d) := (hs.2.2.1 d hdd).2
      have g2 : M.1 32 d = nI (sGap h d) := (hs.2.2.1 d hdd).1
      have gd : M.1 31 1 = nI (sDay h) := hs.1
      have key : ∃ N, f_X11_later w 0 (nI d) (nI m) M = some (nI (sSw (fut p x h m) d), N) ∧ Fr [12, 157, 158] M N := by
        have key0 : ∃ N, f_X5_swollenBehind w 156 (nI d) (nI (sGap h d)) (nI m) (-1) M = some (nI (sSw (fut p x h m) d), N) ∧ Fr [12, 157, 158] M N := by
          unfold f_X5_swollenBehind
          rw [r156_0, r31_4, l33, chk_nI _ (by omega) (by omega), nI_clamp (by omega), g1, lt_eq]
          refine loopX (fun k (s : Nat × mM) => Fr [12, 157, 158] M s.2 ∧ s.1 = sSw (fut p x h k) d) (fun n (s : Nat × mM) k => f_X5_swollenBehind_14 w n 156 (nI d) (nI (sGap h d)) (nI m) (-1) (nI s.1) (nI k) s.2) m (fun r => ∃ N, r = some (nI (sSw (fut p x h m) d), N) ∧ Fr [12, 157, 158] M N) ?_ ?_ m w 0 (sSw h d, M) (by omega) (by omega) ⟨Fr.rf _ _, rfl⟩
          · rintro n ⟨s, N⟩ ⟨f, e⟩
            have e : s = _ := e
            rw [f_X5_swollenBehind_14, if_pos (Int32.le_refl _), e]
            exact ⟨N, rfl, f⟩
          · rintro n ⟨s, N⟩ k hk ⟨f, e⟩
            have e : s = _ := e
            have f : Fr [12, 157, 158] M N := f
            subst e
            refine Or.inr ?_
            have hcN : PlC N 1 p := hc.fr (fun c h1 => f.1 c (by simp; omega))
            have hxN : XC N 1 x := hxc.fr (fun c h1 => f.1 c (by simp; omega))
            have hmm : dmp x (sDay h + k) ≤ 9 := hx.2.2.1 _ (Nat.mod_lt _ hx.1)
            obtain ⟨s, hsn⟩ := X6_swollenNext_eq w hw hp hx hcN hxN (gap := sGap h d) (m := dmp x (sDay h + k)) (day := sDay h + k) hdd ((fut_ok (x := x) hh (n := k) (by omega)).2.1 d hdd).2 hmm
            rw [← fut_sw] at hsn
            refine ⟨(sSw (fut p x h (k + 1)) d, setC N 12 s), ?_, f.set (by decide) _, rfl⟩
            show f_X5_swollenBehind_14 w (n + 1) 156 (nI d) (nI (sGap h d)) (nI m) (-1) (nI (sSw (fut p x h k) d)) (nI k) N = f_X5_swollenBehind_14 w n 156 (nI d) (nI (sGap h d)) (nI m) (-1) (nI (sSw (fut p x h (k + 1)) d)) (nI (k + 1)) (setC N 12 s)
            rw [f_X5_swollenBehind_14, if_neg (fun q => by have := (nI_leI (by omega) (by omega)).mp q; omega), r156_0, r156_1, f.1 31 (by decide), gd, nI_add, lt_eq, if_pos rfl, X6_dampOn_eq w hx hxN (by omega), bI_some]
            unfold f_X5_swollenBehind_52
            rw [r156_1, hsn, bI_some, nI_1]
        obtain ⟨N, e, f⟩ := key0
        refine ⟨N, ?_, f⟩
        unfold f_X11_later
        rw [r0_0, hCd, bI_some, if_neg (by decide), if_neg (nI_pos (by omega)), if_pos (show nI m ≤ 60 from (nI_leI (b := 60) (by omega) (by omega)).mpr (by omega)), r0_6, r31_3, l32, chk_nI _ (by omega) (by omega), nI_clamp (by omega), g2, r0_11, e]
        rfl
      obtain ⟨N, e, f⟩ := key
      have R2 := (R.fc (FC.of3 f)).th0
      obtain ⟨-, -, -, -, hr, hxr, ht⟩ := R2
      obtain ⟨M1, e1, f1, s1⟩ := X12_triesNow_eq w (by omega) hp ht
      have key2 : ∃ K, f_X12_later w 163 (nI d) (nI m) N = some (nI (sSw (fut p x h m) d), K) ∧ FrT (th0 N) K := by
        unfold f_X12_later
        rw [lt_eq, show wI N 163 0 0 = th0 N from rfl, hRd _ hr, bI_some, if_neg (by decide)]
        unfold f_X12_within
        rw [if_neg (nI_pos (by omega)), if_neg (fun e => by have := (nI_ltI (a := 60) (by omega) (by omega)).mp e; omega), show rtB 1 (th0 N) = some (1, th0 N) from rfl, bI_some, if_neg (by decide), e1, bV_some]
        refine loopX (fun k (K : mM) => FrT (th0 N) K ∧ StR K 1365 p (fut p x h k)) (fun n (K : mM) k => f_X12_later_31 w n 163 (nI d) (nI m) (nI k) K) m (fun r => ∃ K, r = some (nI (sSw (fut p x h m) d), K) ∧ FrT (th0 N) K) ?_ ?_ m w 0 M1 (by omega) (by omega) ⟨f1, s1⟩
        · rintro n K ⟨f, s⟩
          rw [f_X12_later_31, if_pos (Int32.le_refl _)]
          unfold f_X12_later_49
          rw [r163_24, l179, show (1375 : Int32) + nI d = nI (1375 + d) by rw [nx_lit, nI_add], chk_nI _ (by omega) (by omega), nI_clamp (by omega), show 1375 + d = 1365 + 10 + d by omega, (s.2.2.1 d hdd).2]
          exact ⟨K, rfl, f⟩
        · rintro n K k hk ⟨f, s⟩
          obtain ⟨K2, eK, fK, sK⟩ := X12_trial_pass w hw hp hx hh (f.plr hr) (f.xr hxr) (n := k) (by omega) s
          refine Or.inr ⟨K2, ?_, f.tr fK, sK⟩
          rw [f_X12_later_31, if_neg (fun q => by have := (nI_leI (by omega) (by omega)).mp q; omega), show f_X12_passes_ w 163 1365 K = _ from eK, bV_some, nI_1]
      obtain ⟨K, eK, fK⟩ := key2
      exact ⟨_, N, K, e, FC.of3 f, eK, fK⟩
end HARD
