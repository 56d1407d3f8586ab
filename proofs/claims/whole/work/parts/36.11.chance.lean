/-! ===== how likely a door sticks in odd weather: chance ===== -/
/-- the state after k days of the weather s: damp 9 where its bit is set -/
def fs (p : HP) (x : HX) (s : Nat) (h : HS) : Nat → HS
  | 0 => h
  | k + 1 => nx p x (if bit (nI s) k then 9 else 0) (fs p x s h k)
def wt (c s : Nat) : Nat → Nat
  | 0 => 1
  | k + 1 => wt c s k * (if bit (nI s) k then c else 10 - c)
def sm (p : HP) (x : HX) (h : HS) (d n c : Nat) : Nat → Nat
  | 0 => 0
  | s + 1 => sm p x h d n c s + (if stk (fs p x s h n) d then wt c s n else 0)
section CHANCE
variable {p : HP} {x : HX} {h : HS} {M N : mM}
theorem fs_day (s n : Nat) : sDay (fs p x s h n) = sDay h + n := by
  induction n with
  | zero => rfl
  | succ n ih => show sDay (fs p x s h n) + 1 = _; rw [ih]; omega
theorem fs_gap (s n : Nat) : sGap (fs p x s h n) = sGap h := by
  induction n with
  | zero => rfl
  | succ n ih => exact ih
theorem fs_wed (s n : Nat) : sWed (fs p x s h n) = sWed h := by
  induction n with
  | zero => rfl
  | succ n ih => exact ih
theorem fs_ok (hh : okS p h) {s n : Nat} (hn : sDay h + n < 100000) : okS p (fs p x s h n) := by
  induction n with
  | zero => exact hh
  | succ n ih => exact okS_nx (ih (by omega)) (by rw [fs_day]; omega)
theorem fs_sw (s k d : Nat) : sSw (fs p x s h (k + 1)) d = nxt (xL x) (pW p d) (sSw (fs p x s h k) d) (sGap h d) (if bit (nI s) k then 9 else 0) (sDay h + k) := by
  show nxt _ _ _ (sGap (fs p x s h k) d) _ (sDay (fs p x s h k)) = _
  rw [fs_gap, fs_day]
theorem fs_stk (s k d : Nat) : stk (fs p x s h k) d = (decide (sGap h d < sSw (fs p x s h k) d) && !bit (sWed h) d) := by
  unfold stk; rw [fs_gap, fs_wed]
theorem wt_le {c : Nat} (hc : c ≤ 10) (s : Nat) : ∀ k, wt c s k ≤ 10 ^ k := by
  intro k
  induction k with
  | zero => exact Nat.le_refl _
  | succ k ih =>
    unfold wt
    rw [Nat.pow_succ]
    exact Nat.mul_le_mul ih (by split <;> omega)
theorem sm_le {d n c : Nat} (hc : c ≤ 10) : ∀ s, sm p x h d n c s ≤ s * 10 ^ n := by
  intro s
  induction s with
  | zero => exact Nat.zero_le _
  | succ s ih =>
    have := wt_le hc s n
    unfold sm
    rw [Nat.succ_mul]
    refine Nat.add_le_add ih ?_
    split
    · exact this
    · exact Nat.zero_le _
theorem X5_millionths_eq (w : Nat) (hw : 1100 ≤ w) (Q : QC p x h M) {d n c : Nat} (hd : d < pD p) (hn : n ≤ 6) (hc : c ≤ 10) : ∃ N, f_X5_millionths w 156 (nI d) (nI n) (nI c) M = some (nI (sm p x h d n c (2 ^ n) * (1000000 / 10 ^ n)), N) ∧ Fr [12] M N := by
  have hp := Q.1
  have hD := hp.2.1
  have hda := Q.2.2.2.1
  have p64 : 2 ^ n ≤ 64 := Nat.le_trans (Nat.pow_le_pow_right (by omega) hn) (by decide)
  unfold f_X5_millionths
  refine loopX (fun s (t : Nat × mM) => Fr [12] M t.2 ∧ t.1 = sm p x h d n c s) (fun m (t : Nat × mM) s => f_X5_millionths_6 w m 156 (nI d) (nI n) (nI c) (nI t.1) (nI s) t.2) (2 ^ n) (fun r => ∃ N, r = some (nI (sm p x h d n c (2 ^ n) * (1000000 / 10 ^ n)), N) ∧ Fr [12] M N) ?_ ?_ (2 ^ n) w 0 (0, M) (by omega) (by omega) ⟨Fr.rf _ _, rfl⟩
  · rintro m ⟨T, N⟩ ⟨f, e⟩
    have e : T = _ := e
    subst e
    show ∃ N2, f_X5_millionths_6 w (m + 1) 156 (nI d) (nI n) (nI c) (nI (sm p x h d n c (2 ^ n))) (nI (2 ^ n)) N = _ ∧ _
    rw [f_X5_millionths_6, show (1 : Int32) <<< (nI n &&& 31) = nI (2 ^ n) from one_pow n (by omega), if_pos (Int32.le_refl _)]
    refine ⟨N, ?_, f⟩
    unfold f_X5_millionths_143
    refine (loopX (fun k (e : Nat) => e = 1000000 / 10 ^ k) (fun m (e : Nat) k => f_X5_millionths_150 w m (nI n) (nI (sm p x h d n c (2 ^ n))) (nI e) (nI k) N) n (fun r => r = some (nI (sm p x h d n c (2 ^ n) * (1000000 / 10 ^ n)), N)) ?_ ?_ n w 0 1000000 (by omega) (by omega) rfl)
    · rintro m e rfl
      rw [f_X5_millionths_150, if_pos (Int32.le_refl _), pk_mul]
    · rintro m e k hk rfl
      refine Or.inr ⟨1000000 / 10 ^ (k + 1), ?_, rfl⟩
      have hl : 1000000 / 10 ^ k ≤ 1000000 := Nat.div_le_self _ _
      rw [f_X5_millionths_150, if_neg (fun h => by have := (nI_leI (by omega) (by omega)).mp h; omega), if_neg (by decide), lt_eq, show nI (1000000 / 10 ^ k) / 10 = nI (1000000 / 10 ^ k / 10) from pk_div (d := 10) (by omega) (by omega) (by omega), Nat.div_div_eq_div_mul, ← Nat.pow_succ, nI_1]
  · rintro m ⟨T, N⟩ s hs ⟨f, e⟩
    have e : T = _ := e
    have f : Fr [12] M N := f
    subst e
    refine Or.inr ?_
    have QN : QC p x h N := Q.fr (fun c hc => f.1 c (by simp; omega))
    have g1 : N.1 33 d = nI (sSw h d) := (QN.2.2.2.2.2.2.2.2.1 d hd).2
    show ∃ t : Nat × mM, f_X5_millionths_6 w (m + 1) 156 (nI d) (nI n) (nI c) (nI (sm p x h d n c s)) (nI s) N = f_X5_millionths_6 w m 156 (nI d) (nI n) (nI c) (nI t.1) (nI (s + 1)) t.2 ∧ _
    rw [f_X5_millionths_6, show (1 : Int32) <<< (nI n &&& 31) = nI (2 ^ n) from one_pow n (by omega), if_neg (fun h => by have := (nI_leI (by omega) (by omega)).mp h; omega), r156_0, r31_4, l33, chk_nI _ (by omega) (by omega), nI_clamp (by omega), g1, lt_eq]
    refine loopX (fun k (t : (Nat × Nat) × mM) => Fr [12] M t.2 ∧ t.1.1 = sSw (fs p x s h k) d ∧ t.1.2 = wt c s k) (fun m2 (t : (Nat × Nat) × mM) k => f_X5_millionths_31 w (f_X5_millionths_6 w m) m2 156 (nI d) (nI n) (nI c) (nI (sm p x h d n c s)) (nI s) (nI t.1.1) (nI t.1.2) (nI k) t.2) n (fun r => ∃ t : Nat × mM, r = f_X5_millionths_6 w m 156 (nI d) (nI n) (nI c) (nI t.1) (nI (s + 1)) t.2 ∧ Fr [12] M t.2 ∧ t.1 = sm p x h d n c (s + 1)) ?_ ?_ n w 0 ((sSw h d, 1), N) (by omega) (by omega) ⟨f, rfl, rfl⟩
    · rintro m2 ⟨⟨a, b⟩, K⟩ ⟨fK, e1, e2⟩
      have fK : Fr [12] M K := fK
      have e1 : a = _ := e1
      have e2 : b = _ := e2
      subst e1 e2
      refine ⟨(sm p x h d n c (s + 1), K), ?_, fK, rfl⟩
      have hsK : StC K 31 p h := Q.2.2.2.2.2.2.fr (fun c h1 h2 => fK.1 c (by simp; omega))
      have hst := X5_sticksAt_eq w hp Q.2.2.1 hsK hd (v := sSw (fs p x s h n) d) ((fs_ok (x := x) Q.2.2.1 (by omega)).2.1 _ hd).2
      rw [← fs_stk] at hst
      show f_X5_millionths_31 w (f_X5_millionths_6 w m) (m2 + 1) 156 (nI d) (nI n) (nI c) (nI (sm p x h d n c s)) (nI s) (nI (sSw (fs p x s h n) d)) (nI (wt c s n)) (nI n) K = f_X5_millionths_6 w m 156 (nI d) (nI n) (nI c) (nI (sm p x h d n c s + (if stk (fs p x s h n) d then wt c s n else 0))) (nI (s + 1)) K
      rw [f_X5_millionths_31, if_pos (Int32.le_refl _)]
      unfold f_X5_millionths_120
      rw [hst, bI_some, nI_add, nI_1]
      cases stk (fs p x s h n) d <;> rfl
    · rintro m2 ⟨⟨a, b⟩, K⟩ k hk ⟨fK, e1, e2⟩
      have fK : Fr [12] M K := fK
      have e1 : a = _ := e1
      have e2 : b = _ := e2
      subst e1 e2
      refine Or.inr ?_
      have QK : QC p x h K := Q.fr (fun c hc => fK.1 c (by simp; omega))
      have gg : K.1 32 d = nI (sGap h d) := (QK.2.2.2.2.2.2.2.2.1 _ hd).1
      have gd : K.1 31 1 = nI (sDay h) := QK.2.2.2.2.2.2.1
      obtain ⟨z, hsn⟩ := X6_swollenNext_eq w hw hp Q.2.1 QK.2.2.2.2.1 QK.2.2.2.2.2.1 (gap := sGap h d) (m := if bit (nI s) k then 9 else 0) (day := sDay h + k) hd ((fs_ok (x := x) Q.2.2.1 (s := s) (n := k) (by omega)).2.1 d hd).2 (by split <;> omega)
      rw [← fs_sw] at hsn
      refine ⟨((sSw (fs p x s h (k + 1)) d, wt c s (k + 1)), setC K 12 z), ?_, fK.set (by decide) _, rfl, rfl⟩
      show f_X5_millionths_31 w (f_X5_millionths_6 w m) (m2 + 1) 156 (nI d) (nI n) (nI c) (nI (sm p x h d n c s)) (nI s) (nI (sSw (fs p x s h k) d)) (nI (wt c s k)) (nI k) K = f_X5_millionths_31 w (f_X5_millionths_6 w m) m2 156 (nI d) (nI n) (nI c) (nI (sm p x h d n c s)) (nI s) (nI (sSw (fs p x s h (k + 1)) d)) (nI (wt c s k * (if bit (nI s) k then c else 10 - c))) (nI (k + 1)) (setC K 12 z)
      rw [f_X5_millionths_31, if_neg (fun h => by have := (nI_leI (by omega) (by omega)).mp h; omega)]
      unfold f_X5_millionths_52 f_X5_millionths_69 f_X5_millionths_99
      rw [if_pos (show (0 : Int32) = 0 from rfl), if_neg (show ¬ (1 : Int32) = 0 by decide), show (10 : Int32) - nI c = nI (10 - c) from pk_sub (a := 10) hc, pk_mul, pk_mul, lt_eq, lt_eq, r156_0, r156_1, r31_3, l32, chk_nI _ (by omega) (by omega), chk_nI _ (by omega) (by omega), nI_clamp (by omega), gg, gd, nI_add, nI_1]
      cases eb : bit (nI s) k
      · rw [eb] at hsn
        rw [if_pos ((bit_0 _ _).mpr eb), if_pos (show (0 : Int32) = 0 from rfl), show f_X6_swollenNext w 1 (nI d) (nI (sSw (fs p x s h k) d)) (nI (sGap h d)) 0 (nI (sDay h + k)) K = _ from hsn, bI_some]
        rfl
      · rw [eb] at hsn
        rw [if_neg (fun e => by rw [bit_0] at e; rw [e] at eb; cases eb), if_neg (show ¬ (1 : Int32) = 0 by decide), show f_X6_swollenNext w 1 (nI d) (nI (sSw (fs p x s h k) d)) (nI (sGap h d)) 9 (nI (sDay h + k)) K = _ from hsn, bI_some]
        rfl
theorem ten_dvd : ∀ n, n ≤ 6 → 1000000 = 1000000 / 10 ^ n * 10 ^ n := by decide
theorem X12_chance_44_eq (w : Nat) (hw : 1100 ≤ w) (R : QF p x h M) {d n c : Nat} (hd : d < pD p) (hn : n ≤ 6) (hc : c ≤ 10) : ∃ N, f_X12_chance_44 w w 163 (nI d) (nI n) (nI c) 1 0 0 M = some (nI (sm p x h d n c (2 ^ n) * (1000000 / 10 ^ n)), N) ∧ FrT M N := by
  obtain ⟨hp, hx, hh, hda, hr, hxr, ht⟩ := R
  have hD := hp.2.1
  have p64 : 2 ^ n ≤ 64 := Nat.le_trans (Nat.pow_le_pow_right (by omega) hn) (by decide)
  have p10 : 10 ^ n ≤ 1000000 := Nat.le_trans (Nat.pow_le_pow_right (by omega) hn) (by decide)
  have p0 : 0 < 10 ^ n := Nat.pow_pos (by omega)
  have e1 := loopX (fun k (t : Nat) => t = 10 ^ k) (fun m (t : Nat) k => f_X12_chance_44 w m 163 (nI d) (nI n) (nI c) (lN t) 0 (nI k) M) n (fun r => r = f_X12_chance_64 w 163 (nI d) (nI n) (nI c) (lN (10 ^ n)) 0 M) (by
    rintro m t rfl
    rw [f_X12_chance_44, if_pos (Int32.le_refl _)]) (by
    rintro m t k hk rfl
    refine Or.inr ⟨10 ^ (k + 1), ?_, rfl⟩
    rw [f_X12_chance_44, if_neg (fun h => by have := (nI_leI (by omega) (by omega)).mp h; omega), lt_eq, nI_1, Nat.pow_succ, show lN (10 ^ k) * 10 = lN (10 ^ k * 10) from lN_mul _ 10]) n w 0 1 (by omega) (by omega) rfl
  rw [show f_X12_chance_44 w w 163 (nI d) (nI n) (nI c) 1 0 0 M = _ from e1]
  unfold f_X12_chance_64
  refine loopX (fun s (t : Nat × mM) => FrT M t.2 ∧ t.1 = sm p x h d n c s) (fun m (t : Nat × mM) s => f_X12_chance_67 w m 163 (nI d) (nI n) (nI c) (lN (10 ^ n)) (lN t.1) (nI s) t.2) (2 ^ n) (fun r => ∃ N, r = some (nI (sm p x h d n c (2 ^ n) * (1000000 / 10 ^ n)), N) ∧ FrT M N) ?_ ?_ (2 ^ n) w 0 (0, M) (by omega) (by omega) ⟨FrT.rf _, rfl⟩
  · rintro m ⟨T, N⟩ ⟨f, e⟩
    have e : T = _ := e
    subst e
    refine ⟨N, ?_, f⟩
    show f_X12_chance_67 w (m + 1) 163 (nI d) (nI n) (nI c) (lN (10 ^ n)) (lN (sm p x h d n c (2 ^ n))) (nI (2 ^ n)) N = _
    have hs : sm p x h d n c (2 ^ n) ≤ 64000000 := Nat.le_trans (sm_le hc _) (Nat.le_trans (Nat.mul_le_mul p64 p10) (by decide))
    rw [f_X12_chance_67, show (1 : Int32) <<< (nI n &&& 31) = nI (2 ^ n) from one_pow n (by omega), if_pos (Int32.le_refl _)]
    unfold f_X12_chance_181
    rw [if_neg (show ¬ lN (10 ^ n) = 0 from fun e => by have := (pk_lEQ (b := 0) (by omega) (by omega)).mp e; omega), show lN (sm p x h d n c (2 ^ n)) * 1000000 = lN (sm p x h d n c (2 ^ n) * 1000000) from lN_mul _ 1000000, pk_lDiv (by omega) p0 (by omega), lN_i]
    congr 2
    refine congrArg nI ?_
    conv => lhs; rw [ten_dvd n hn, ← Nat.mul_assoc, Nat.mul_div_cancel _ p0]
  · rintro m ⟨T, N⟩ s hs ⟨f, e⟩
    have e : T = _ := e
    have f : FrT M N := f
    subst e
    refine Or.inr ?_
    obtain ⟨M1, e1, f1, s1⟩ := X12_triesNow_eq w (by omega) hp (f.str hp (by omega) ht)
    show ∃ t : Nat × mM, f_X12_chance_67 w (m + 1) 163 (nI d) (nI n) (nI c) (lN (10 ^ n)) (lN (sm p x h d n c s)) (nI s) N = f_X12_chance_67 w m 163 (nI d) (nI n) (nI c) (lN (10 ^ n)) (lN t.1) (nI (s + 1)) t.2 ∧ _
    rw [f_X12_chance_67, show (1 : Int32) <<< (nI n &&& 31) = nI (2 ^ n) from one_pow n (by omega), if_neg (fun h => by have := (nI_leI (by omega) (by omega)).mp h; omega), e1, bV_some]
    refine loopX (fun k (t : Nat × mM) => FrT M t.2 ∧ StR t.2 1365 p (fs p x s h k) ∧ t.1 = wt c s k) (fun m2 (t : Nat × mM) k => f_X12_chance_85 w (f_X12_chance_67 w m) m2 163 (nI d) (nI n) (nI c) (lN (10 ^ n)) (lN (sm p x h d n c s)) (nI s) (lN t.1) (nI k) t.2) n (fun r => ∃ t : Nat × mM, r = f_X12_chance_67 w m 163 (nI d) (nI n) (nI c) (lN (10 ^ n)) (lN t.1) (nI (s + 1)) t.2 ∧ FrT M t.2 ∧ t.1 = sm p x h d n c (s + 1)) ?_ ?_ n w 0 (1, M1) (by omega) (by omega) ⟨f.tr f1, s1, rfl⟩
    · rintro m2 ⟨b, K⟩ ⟨fK, sK, e2⟩
      have fK : FrT M K := fK
      have sK : StR K 1365 p (fs p x s h n) := sK
      have e2 : b = _ := e2
      subst e2
      refine ⟨(sm p x h d n c (s + 1), K), ?_, fK, rfl⟩
      have hst := X12_doesStick_eq w (b := 1365) (by omega) hp (fs_ok (x := x) hh (s := s) (n := n) (by omega)) sK hd
      show f_X12_chance_85 w (f_X12_chance_67 w m) (m2 + 1) 163 (nI d) (nI n) (nI c) (lN (10 ^ n)) (lN (sm p x h d n c s)) (nI s) (lN (wt c s n)) (nI n) K = f_X12_chance_67 w m 163 (nI d) (nI n) (nI c) (lN (10 ^ n)) (lN (sm p x h d n c s + (if stk (fs p x s h n) d then wt c s n else 0))) (nI (s + 1)) K
      rw [f_X12_chance_85, if_pos (Int32.le_refl _)]
      unfold f_X12_chance_153
      rw [show f_X12_doesStick w 163 1365 (nI d) K = _ from hst, bI_some, lN_add, show lN (sm p x h d n c s) + 0 = lN (sm p x h d n c s + 0) from lN_add _ 0, nI_1]
      cases stk (fs p x s h n) d <;> rfl
    · rintro m2 ⟨b, K⟩ k hk ⟨fK, sK, e2⟩
      have fK : FrT M K := fK
      have sK : StR K 1365 p (fs p x s h k) := sK
      have e2 : b = _ := e2
      subst e2
      refine Or.inr ?_
      obtain ⟨K2, e3, f3, s3, j3⟩ := X12_passes_eq w hw hp hx (fs_ok (x := x) hh (s := s) (n := k) (by omega)) (fK.plr hr) (fK.xr hxr) (b := 1365) (m := if bit (nI s) k then 9 else 0) (by omega) sK (by split <;> omega)
      have fT : FrT K K2 := ⟨f3.mono (by decide), fun j hj => j3 j (by omega)⟩
      refine ⟨(wt c s (k + 1), K2), ?_, fK.tr fT, s3, rfl⟩
      show f_X12_chance_85 w (f_X12_chance_67 w m) (m2 + 1) 163 (nI d) (nI n) (nI c) (lN (10 ^ n)) (lN (sm p x h d n c s)) (nI s) (lN (wt c s k)) (nI k) K = f_X12_chance_85 w (f_X12_chance_67 w m) m2 163 (nI d) (nI n) (nI c) (lN (10 ^ n)) (lN (sm p x h d n c s)) (nI s) (lN (wt c s k * (if bit (nI s) k then c else 10 - c))) (nI (k + 1)) K2
      rw [f_X12_chance_85, if_neg (fun h => by have := (nI_leI (by omega) (by omega)).mp h; omega)]
      unfold f_X12_chance_107 f_X12_chance_126 f_X12_chance_144
      rw [if_pos (show (0 : Int32) = 0 from rfl), if_neg (show ¬ (1 : Int32) = 0 by decide), show (10 : Int32) - nI c = nI (10 - c) from pk_sub (a := 10) hc, nI_l (by omega), nI_l (by omega), lN_mul, lN_mul, lt_eq, lt_eq, nI_1, if_pos (show (0 : Int32) = 0 from rfl), if_neg (show ¬ (1 : Int32) = 0 by decide)]
      cases eb : bit (nI s) k
      · rw [eb] at e3
        rw [if_neg (fun e => by rw [bit_1] at e; rw [e] at eb; cases eb), show f_X12_passes w 163 1365 0 K = _ from e3, bV_some]
        rfl
      · rw [eb] at e3
        rw [if_pos ((bit_1 _ _).mpr eb), show f_X12_passes w 163 1365 9 K = _ from e3, bV_some]
        rfl
theorem X11_chance_eq (w : Nat) (hw : 1100 ≤ w) (Q : QC p x h M) (R : QF p x h M) (a b c : Int32) : Al (f_X11_chance w 0 a b c) (f_X12_chance w 163 a b c) M := by
  have hp := Q.1
  have hD := hp.2.1
  have hc := Q.2.2.2.2.1
  have hr0 := R.th0.2.2.2.2.1
  have c25 : f_X11_chance_25 w 0 a b c M = some (-1, M) := by
    unfold f_X11_chance_25 f_X11_chance_26
    rw [r0_0, X6_hasDoor_eq w a hc]
    rcases ix3 a (show pD p < 2 ^ 31 by omega) with q | ⟨d, hd, rfl⟩
    · rw [has_no q]; rfl
    · rw [has_yes hd (by omega)]; rfl
  have wi : ∀ (y l u : Int32) (N : mM), f_X12_within w y l u N = some (b2i (!decide (y < l) && !decide (u < y)), N) := fun y l u N => by
    unfold f_X12_within
    by_cases q1 : y < l
    · rw [if_pos q1, decide_eq_true q1]; rfl
    · rw [if_neg q1, decide_eq_false q1]
      by_cases q2 : u < y
      · rw [if_pos q2, decide_eq_true q2]; rfl
      · rw [if_neg q2, decide_eq_false q2]; rfl
  rcases ix3 a (show pD p < 2 ^ 31 by omega) with q | ⟨d, hd, rfl⟩
  · refine Al.of ⟨-1, ?_, ?_⟩
    · have c26 : f_X11_chance_26 w 0 a b c 1 M = some (-1, M) := by
        unfold f_X11_chance_26
        rw [r0_0, X6_hasDoor_eq w a hc, has_no q]; rfl
      unfold f_X11_chance
      rw [c25, c26]
      simp only [ite_self]
    · unfold f_X12_chance
      rw [lt_eq, show wI M 163 0 0 = th0 M from rfl, X12_isDoor_eq w a hr0, has_no q]; rfl
  · have bad : (b < 1 ∨ 6 < b ∨ c < 0 ∨ 10 < c) → Al (f_X11_chance w 0 (nI d) b c) (f_X12_chance w 163 (nI d) b c) M := fun q => by
      refine Al.of ⟨-1, ?_, ?_⟩
      · unfold f_X11_chance
        rw [c25]
        by_cases q1 : b < 1
        · rw [if_pos q1]
        · rw [if_neg q1]
          by_cases q2 : 6 < b
          · rw [if_pos q2]
          · rw [if_neg q2]
            by_cases q3 : c < 0
            · rw [if_pos q3]
            · rw [if_neg q3, if_pos (((q.resolve_left q1).resolve_left q2).resolve_left q3)]
      · unfold f_X12_chance
        rw [lt_eq, show wI M 163 0 0 = th0 M from rfl, X12_isDoor_eq w _ hr0, has_yes hd (by omega), bI_some, if_neg (by decide), wi, bI_some]
        by_cases q1 : b < 1
        · rw [decide_eq_true q1]; rfl
        · by_cases q2 : 6 < b
          · rw [decide_eq_true q2, Bool.not_true, Bool.and_false]; rfl
          · rw [decide_eq_false q1, decide_eq_false q2, if_neg (by decide), wi, bI_some]
            rcases ((q.resolve_left q1).resolve_left q2) with q3 | q3
            · rw [decide_eq_true q3]; rfl
            · rw [decide_eq_true q3, Bool.not_true, Bool.and_false]; rfl
    by_cases q1 : b < 1
    · exact bad (Or.inl q1)
    by_cases q2 : 6 < b
    · exact bad (Or.inr (Or.inl q2))
    by_cases q3 : c < 0
    · exact bad (Or.inr (Or.inr (Or.inl q3)))
    by_cases q4 : 10 < c
    · exact bad (Or.inr (Or.inr (Or.inr q4)))
    have hb0 : ¬ b < 0 := fun e => q1 (Int32.lt_trans e (by decide))
    obtain ⟨n, hn, rfl⟩ := nI_of2 (n := 6) (M := 6) rfl hb0 (Int32.not_lt.mp q2)
    obtain ⟨k, hk, rfl⟩ := nI_of2 (n := 10) (M := 10) rfl q3 (Int32.not_lt.mp q4)
    obtain ⟨N, e, f⟩ := X5_millionths_eq w hw Q hd hn hk
    have R2 := (R.fc (FC.of12 f)).th0
    obtain ⟨K, e2, f2⟩ := X12_chance_44_eq w hw R2 hd hn hk
    refine ⟨nI (sm p x h d n k (2 ^ n) * (1000000 / 10 ^ n)), N, K, ?_, FC.of12 f, ?_, f2⟩
    · unfold f_X11_chance f_X11_chance_26
      rw [if_neg q1, if_neg q2, if_neg q3, if_neg q4, r0_0, X6_hasDoor_eq w _ hc, has_yes hd (by omega), bI_some, if_neg (by decide), if_neg (by decide), r0_11, e]; rfl
    · unfold f_X12_chance
      rw [lt_eq, show wI N 163 0 0 = th0 N from rfl, X12_isDoor_eq w _ R2.2.2.2.2.1, has_yes hd (by omega), bI_some, if_neg (by decide), wi, bI_some, decide_eq_false q1, decide_eq_false q2, if_neg (by decide), wi, bI_some, decide_eq_false q3, decide_eq_false q4, if_neg (by decide), e2]
end CHANCE
