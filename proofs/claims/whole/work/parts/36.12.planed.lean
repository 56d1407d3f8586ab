/-! ===== the fewest planings: planed, the class ===== -/
/-- place i of row s, of n places, by the base D -/
def dg (D n s i : Nat) : Nat := s / D ^ (n - 1 - i) % D
def tms (D n s d : Nat) : Nat := cnt (fun i => decide (dg D n s i = d)) n
/-- the state with the planings of row s done -/
def hg (p : HP) (h : HS) (n s : Nat) : HS := (sDay h, sWed h, fun d => sGap h d + tms (pD p) n s d, sSw h, sPl h)
def cap (p : HP) (h : HS) (n s : Nat) : Prop := (∀ i, i + 1 < n → dg (pD p) n s i ≤ dg (pD p) n s (i + 1)) ∧ ∀ i, i < n → sGap h (dg (pD p) n s i) + tms (pD p) n s (dg (pD p) n s i) ≤ 20
def tog (p : HP) (x : HX) (h : HS) (m : Nat) : Prop := ∀ q, 1 ≤ q → q < pP p → bit (rng p (opM p (fut p x h m)) (sPl h 0)) (sPl h q) = true
def rowP (p : HP) (x : HX) (h : HS) (m n s : Nat) : Prop := cap p h n s ∧ tog p x (hg p h n s) m
/-- the swelling of door d with gap g, m days on -/
def sw1 (p : HP) (x : HX) (h : HS) (d g : Nat) : Nat → Nat
  | 0 => sSw h d
  | k + 1 => nxt (xL x) (pW p d) (sw1 p x h d g k) g (dmp x (sDay h + k)) (sDay h + k)
section PLC
variable {p : HP} {x : HX} {h : HS} {M N : mM}
theorem sw1_le (hh : okS p h) {d : Nat} (hd : d < pD p) (g : Nat) : ∀ k, sw1 p x h d g k ≤ 30 := by
  intro k
  induction k with
  | zero => exact (hh.2.1 d hd).2
  | succ k ih => exact nxt_le ih
theorem sw1_fut (n s d : Nat) : ∀ k, sSw (fut p x (hg p h n s) k) d = sw1 p x h d (sGap h d + tms (pD p) n s d) k := by
  intro k
  induction k with
  | zero => rfl
  | succ k ih => rw [fut_sw, ih]; rfl
theorem dg_lt {D n s i : Nat} (hD : 0 < D) : dg D n s i < D := Nat.mod_lt _ hD
theorem tms_le (D n s d : Nat) : tms D n s d ≤ n := cnt_max _ n
theorem hg_ok (hh : okS p h) {n s : Nat} (hc : cap p h n s) : okS p (hg p h n s) := by
  refine ⟨hh.1, fun d hd => ⟨?_, (hh.2.1 d hd).2⟩, hh.2.2⟩
  show sGap h d + tms (pD p) n s d ≤ 30
  have h1 := (hh.2.1 d hd).1
  by_cases q : ∃ i, i < n ∧ dg (pD p) n s i = d
  · obtain ⟨i, hi, e⟩ := q
    have := hc.2 i hi
    rw [e] at this; omega
  · have : tms (pD p) n s d = 0 := by
      unfold tms
      have h2 := cnt_le (p := fun i => decide (dg (pD p) n s i = d)) (q := fun _ => false) n (fun k hk e => absurd ⟨k, hk, of_decide_eq_true e⟩ q)
      have h3 : ∀ n, cnt (fun _ => false) n = 0 := by
        intro n
        induction n with
        | zero => rfl
        | succ n ih => unfold cnt; rw [ih]; rfl
      rw [h3] at h2; omega
    omega
theorem X5_swollenBehind_eqg (w : Nat) (hw : 1100 ≤ w) (Q : QC p x h M) {d g m : Nat} (hdd : d < pD p) (hk : m ≤ 60) : ∃ N, f_X5_swollenBehind w 156 (nI d) (nI g) (nI m) (-1) M = some (nI (sw1 p x h d g m), N) ∧ Fr [12] M N := by
  obtain ⟨hp, hx, hh, hd, hc, hxc, hs⟩ := Q
  have hD := hp.2.1
  have g1 : M.1 33 d = nI (sSw h d) := (hs.2.2.1 d hdd).2
  have gd : M.1 31 1 = nI (sDay h) := hs.1
  unfold f_X5_swollenBehind
  rw [r156_0, r31_4, l33, chk_nI _ (by omega) (by omega), nI_clamp (by omega), g1, lt_eq]
  refine loopX (fun k (s : Nat × mM) => Fr [12] M s.2 ∧ s.1 = sw1 p x h d g k) (fun n (s : Nat × mM) i => f_X5_swollenBehind_14 w n 156 (nI d) (nI g) (nI m) (-1) (nI s.1) (nI i) s.2) m (fun r => ∃ N, r = some (nI (sw1 p x h d g m), N) ∧ Fr [12] M N) ?_ ?_ m w 0 (sSw h d, M) (by omega) (by omega) ⟨Fr.rf _ _, rfl⟩
  · rintro n ⟨s, N⟩ ⟨f, e⟩
    have e : s = _ := e
    rw [f_X5_swollenBehind_14, if_pos (Int32.le_refl _), e]
    exact ⟨N, rfl, f⟩
  · rintro n ⟨s, N⟩ i hi ⟨f, e⟩
    have e : s = _ := e
    have f : Fr [12] M N := f
    subst e
    refine Or.inr ?_
    have hcN : PlC N 1 p := hc.fr (fun c h1 => f.1 c (by simp; omega))
    have hxN : XC N 1 x := hxc.fr (fun c h1 => f.1 c (by simp; omega))
    have hmm : dmp x (sDay h + i) ≤ 9 := hx.2.2.1 _ (Nat.mod_lt _ hx.1)
    obtain ⟨s, hsn⟩ := X6_swollenNext_eq w hw hp hx hcN hxN (gap := g) (m := dmp x (sDay h + i)) (day := sDay h + i) hdd (sw1_le hh hdd g i) hmm
    refine ⟨(sw1 p x h d g (i + 1), setC N 12 s), ?_, f.set (by decide) _, rfl⟩
    show f_X5_swollenBehind_14 w (n + 1) 156 (nI d) (nI g) (nI m) (-1) (nI (sw1 p x h d g i)) (nI i) N = f_X5_swollenBehind_14 w n 156 (nI d) (nI g) (nI m) (-1) (nI (sw1 p x h d g (i + 1))) (nI (i + 1)) (setC N 12 s)
    rw [f_X5_swollenBehind_14, if_neg (fun q => by have := (nI_leI (by omega) (by omega)).mp q; omega), r156_0, r156_1, f.1 31 (by decide), gd, nI_add, lt_eq, if_pos rfl, X6_dampOn_eq w hx hxN (by omega), bI_some]
    unfold f_X5_swollenBehind_52
    rw [r156_1, hsn, bI_some, nI_1]
    rfl
/-- open on the day, planed t times -/
def lk (p : HP) (x : HX) (h : HS) (m t d : Nat) : Bool := !(decide (sGap h d + t < sw1 p x h d (sGap h d + t) m) && !bit (sWed h) d)
theorem lk_stk (n s m i : Nat) : lk p x h m (tms (pD p) n s i) i = !stk (fut p x (hg p h n s) m) i := by
  have e1 : sGap (hg p h n s) i = sGap h i + tms (pD p) n s i := rfl
  have e2 : sWed (hg p h n s) = sWed h := rfl
  unfold stk
  rw [fut_gap, fut_wed, sw1_fut, e1, e2]
  rfl
theorem X7_lookAhead_eq (w : Nat) (hw : 1100 ≤ w) (Q : QC p x h M) {t m : Nat} (ht : t ≤ 3) (hm : m ≤ 30) : ∃ N, f_X7_lookAhead w 160 (nI t) (nI m) M = some N ∧ Fr [12, 162] M N ∧ (∀ d, d < pD p → bt (N.1 162 t) d = lk p x h m t d) ∧ ∀ j, j ≠ t → N.1 162 j = M.1 162 j := by
  have hp := Q.1
  have hD := hp.2.1
  unfold f_X7_lookAhead
  rw [r160_4, l162, chk_nI _ (by omega) (by omega), nI_clamp (by omega), lt_eq]
  refine loopX (fun k (N : mM) => Fr [12, 162] M N ∧ N.1 162 t = mask (lk p x h m t) 0 0 k ∧ ∀ j, j ≠ t → N.1 162 j = M.1 162 j) (fun n (N : mM) k => f_X7_lookAhead_9 w n 160 (nI t) (nI m) (nI k) N) (pD p) (fun r => ∃ N, r = some N ∧ Fr [12, 162] M N ∧ (∀ d, d < pD p → bt (N.1 162 t) d = lk p x h m t d) ∧ ∀ j, j ≠ t → N.1 162 j = M.1 162 j) ?_ ?_ (pD p) w 0 (wI M 162 t 0) (by omega) (by omega) ⟨(Fr.rf _ M).wI (by decide) _ _, by rw [wI_set, setC_at, upd_at]; rfl, fun j hj => by rw [wI_set, setC_at, upd_ne _ _ hj]⟩
  · rintro n N ⟨f, i1, i2⟩
    have hDN : N.1 1 1 = nI (pD p) := by rw [f.1 1 (by decide)]; exact Q.2.2.2.2.1.2.1
    rw [f_X7_lookAhead_9, r160_1, hDN, if_pos (Int32.le_refl _)]
    refine ⟨N, rfl, f, fun d hd => ?_, i2⟩
    rw [i1, mask_bt _ _ _ (by omega) d (by omega), b_0, Bool.false_or, decide_eq_true (by omega)]; rfl
  · rintro n N k hk ⟨f, i1, i2⟩
    have QN : QC p x h N := Q.fr (fun c hc => f.1 c (by simp; omega))
    have hDN : N.1 1 1 = nI (pD p) := QN.2.2.2.2.1.2.1
    have gg : N.1 32 k = nI (sGap h k) := (QN.2.2.2.2.2.2.2.2.1 _ hk).1
    have hb := (Q.2.2.1.2.1 k hk).1
    obtain ⟨K, eK, fK⟩ := X5_swollenBehind_eqg w hw QN (g := sGap h k + t) (m := m) hk (by omega)
    have hl := sw1_le (x := x) Q.2.2.1 hk (sGap h k + t) m
    have e162 : K.1 162 = N.1 162 := fK.1 162 (by decide)
    have fMK : Fr [12, 162] M K := f.tr (fK.mono (by decide))
    have gw : K.1 31 2 = sWed h := by rw [fK.1 31 (by decide)]; exact QN.2.2.2.2.2.2.2.1
    have e65 : f_X7_lookAhead_65 w (f_X7_lookAhead_9 w n) 160 (nI t) (nI m) (nI k) K = f_X7_lookAhead_9 w n 160 (nI t) (nI m) (nI (k + 1)) (wI K 162 t (N.1 162 t ||| one k)) := by
      unfold f_X7_lookAhead_65
      rw [r160_4, l162, chk_nI _ (by omega) (by omega), chk_nI _ (by omega) (by omega), nI_clamp (by omega), lt_eq, nI_1, e162]
      rfl
    have e0 : f_X7_lookAhead_9 w (n + 1) 160 (nI t) (nI m) (nI k) N = if lk p x h m t k then f_X7_lookAhead_9 w n 160 (nI t) (nI m) (nI (k + 1)) (wI K 162 t (N.1 162 t ||| one k)) else f_X7_lookAhead_9 w n 160 (nI t) (nI m) (nI (k + 1)) K := by
      rw [f_X7_lookAhead_9, r160_1, hDN, if_neg (fun h => by have := (nI_leI (by omega) (by omega)).mp h; omega), r160_0, r160_2, r31_3, l32, chk_nI _ (by omega) (by omega), nI_clamp (by omega), gg, nI_add, lt_eq, eK, bI_some, e65, X9_hasWedge_eq, bI_some, gw, nI_1]
      unfold lk
      by_cases q : sw1 p x h k (sGap h k + t) m ≤ sGap h k + t
      · rw [if_pos ((nI_leI (by omega) (by omega)).mpr q), decide_eq_false (by omega)]; rfl
      · rw [if_neg (fun e => q ((nI_leI (by omega) (by omega)).mp e)), decide_eq_true (by omega)]
        cases bit (sWed h) k
        · rfl
        · exact e65
    refine Or.inr ?_
    rw [e0]
    cases el : lk p x h m t k
    · refine ⟨K, rfl, fMK, ?_, fun j hj => by rw [e162]; exact i2 j hj⟩
      rw [e162, i1, mask_succ, Nat.zero_add, el]; rfl
    · refine ⟨_, rfl, fMK.wI (by decide) _ _, ?_, fun j hj => ?_⟩
      · rw [wI_set, setC_at, upd_at, i1, mask_succ, Nat.zero_add, el]; rfl
      · rw [wI_set, setC_at, upd_ne _ _ hj, e162]; exact i2 j hj
theorem X7_timesInRow_eq (w : Nat) (hw : 1100 ≤ w) {n : Nat} (hn : n ≤ 3) {r : Nat → Nat} (hr : ∀ i, i < n → M.1 161 i = nI (r i) ∧ r i < 8) {d : Nat} (hd : d < 8) : f_X7_timesInRow w 160 (nI d) (nI n) M = some (nI (cnt (fun i => decide (r i = d)) n), M) := by
  unfold f_X7_timesInRow
  refine loopX (fun k (c : Nat) => c = cnt (fun i => decide (r i = d)) k) (fun m (c : Nat) k => f_X7_timesInRow_5 w m 160 (nI d) (nI n) (nI c) (nI k) M) n (fun z => z = some (nI (cnt (fun i => decide (r i = d)) n), M)) ?_ ?_ n w 0 0 (by omega) (by omega) rfl
  · rintro m c rfl
    rw [f_X7_timesInRow_5, if_pos (Int32.le_refl _)]
  · rintro m c k hk rfl
    obtain ⟨g, g8⟩ := hr k hk
    refine Or.inr ⟨cnt (fun i => decide (r i = d)) (k + 1), ?_, rfl⟩
    show _ = f_X7_timesInRow_5 w m 160 (nI d) (nI n) (nI (cnt (fun i => decide (r i = d)) k + (if decide (r k = d) = true then 1 else 0))) (nI (k + 1)) M
    rw [f_X7_timesInRow_5, if_neg (fun h => by have := (nI_leI (by omega) (by omega)).mp h; omega), if_neg (fun h => by have := (nI_leI (a := 3) (by omega) (by omega)).mp h; omega), r160_3, l161, chk_nI _ (by omega) (by omega), nI_clamp (by omega), g, nI_1, nI_1]
    by_cases q : r k = d
    · rw [if_pos (by rw [q]), decide_eq_true q]; rfl
    · rw [if_neg (fun e => q ((nI_eq (by omega) (by omega)).mp e)), decide_eq_false q]; rfl
theorem X7_canBePlaned_eq (w : Nat) (hw : 1100 ≤ w) (Q : QC p x h M) {n s : Nat} (hn : n ≤ 3) (hD0 : 0 < n → 0 < pD p) (hr : ∀ i, i < n → M.1 161 i = nI (dg (pD p) n s i)) : ∃ b, f_X7_canBePlaned w 160 (nI n) M = some (b2i b, M) ∧ (b = true ↔ cap p h n s) := by
  have hp := Q.1
  have hD := hp.2.1
  have hr8 : ∀ i, i < n → M.1 161 i = nI (dg (pD p) n s i) ∧ dg (pD p) n s i < 8 := fun i hi => ⟨hr i hi, by have := dg_lt (n := n) (s := s) (i := i) (hD0 (by omega)); omega⟩
  unfold f_X7_canBePlaned
  refine loopX (fun k (_ : Unit) => (∀ i, i + 1 < k → dg (pD p) n s i ≤ dg (pD p) n s (i + 1)) ∧ ∀ i, i < k → sGap h (dg (pD p) n s i) + tms (pD p) n s (dg (pD p) n s i) ≤ 20) (fun m (_ : Unit) k => f_X7_canBePlaned_2 w m 160 (nI n) (nI k) M) n (fun z => ∃ b, z = some (b2i b, M) ∧ (b = true ↔ cap p h n s)) ?_ ?_ n w 0 () (by omega) (by omega) ⟨fun i hi => by omega, fun i hi => by omega⟩
  · rintro m _ i
    rw [f_X7_canBePlaned_2, if_pos (Int32.le_refl _)]
    exact ⟨true, rfl, fun _ => i, fun _ => rfl⟩
  · rintro m _ k hk ⟨i1, i2⟩
    obtain ⟨g, g8⟩ := hr8 k hk
    have hdk := dg_lt (n := n) (s := s) (i := k) (hD0 (by omega))
    have gg : M.1 32 (dg (pD p) n s k) = nI (sGap h (dg (pD p) n s k)) := (Q.2.2.2.2.2.2.2.2.1 _ hdk).1
    have hb := (Q.2.2.1.2.1 _ hdk).1
    have ht : f_X7_timesInRow w 160 (nI (dg (pD p) n s k)) (nI n) M = some (nI (tms (pD p) n s (dg (pD p) n s k)), M) := X7_timesInRow_eq w hw hn hr8 g8
    have htl := tms_le (pD p) n s (dg (pD p) n s k)
    rw [f_X7_canBePlaned_2, if_neg (fun h => by have := (nI_leI (by omega) (by omega)).mp h; omega), if_neg (fun h => by have := (nI_leI (a := 3) (by omega) (by omega)).mp h; omega), r160_3, l161, chk_nI _ (by omega) (by omega), nI_clamp (by omega), g, lt_eq]
    have e39 : f_X7_canBePlaned_39 w (f_X7_canBePlaned_2 w m) 160 (nI n) (nI k) (nI (dg (pD p) n s k)) M = if sGap h (dg (pD p) n s k) + tms (pD p) n s (dg (pD p) n s k) ≤ 20 then f_X7_canBePlaned_2 w m 160 (nI n) (nI (k + 1)) M else rtB 0 M := by
      unfold f_X7_canBePlaned_39 f_X7_canBePlaned_40
      rw [if_pos (show (0 : Int32) = 0 from rfl), r160_0, r31_3, l32, chk_nI _ (by omega) (by omega), ht, bI_some, nI_clamp (by omega), gg, nI_add, nI_1]
      by_cases q : sGap h (dg (pD p) n s k) + tms (pD p) n s (dg (pD p) n s k) ≤ 20
      · rw [if_pos (show nI _ ≤ 20 from (nI_leI (b := 20) (by omega) (by omega)).mpr q), if_pos q]
      · rw [if_neg (show ¬ nI _ ≤ 20 from fun e => q ((nI_leI (b := 20) (by omega) (by omega)).mp e)), if_neg q]
    have e40 : f_X7_canBePlaned_40 w (f_X7_canBePlaned_2 w m) 160 (nI n) (nI k) (nI (dg (pD p) n s k)) 1 M = rtB 0 M := by
      unfold f_X7_canBePlaned_40
      rw [if_neg (show ¬ (1 : Int32) = 0 by decide)]
    have go39 : (∀ i, i + 1 < k + 1 → dg (pD p) n s i ≤ dg (pD p) n s (i + 1)) → (∃ b, f_X7_canBePlaned_39 w (f_X7_canBePlaned_2 w m) 160 (nI n) (nI k) (nI (dg (pD p) n s k)) M = some (b2i b, M) ∧ (b = true ↔ cap p h n s)) ∨ ∃ t : Unit, f_X7_canBePlaned_39 w (f_X7_canBePlaned_2 w m) 160 (nI n) (nI k) (nI (dg (pD p) n s k)) M = f_X7_canBePlaned_2 w m 160 (nI n) (nI (k + 1)) M ∧ (∀ i, i + 1 < k + 1 → dg (pD p) n s i ≤ dg (pD p) n s (i + 1)) ∧ ∀ i, i < k + 1 → sGap h (dg (pD p) n s i) + tms (pD p) n s (dg (pD p) n s i) ≤ 20 := fun j => by
      rw [e39]
      by_cases q : sGap h (dg (pD p) n s k) + tms (pD p) n s (dg (pD p) n s k) ≤ 20
      · rw [if_pos q]
        refine Or.inr ⟨(), rfl, j, fun i hi => ?_⟩
        by_cases e : i = k
        · subst e; exact q
        · exact i2 i (by omega)
      · rw [if_neg q]
        exact Or.inl ⟨false, rfl, ⟨fun e => (by cases e), fun c => absurd (c.2 k hk) q⟩⟩
    by_cases k0 : k = 0
    · subst k0
      rw [if_pos (by decide)]
      exact go39 (fun i hi => by omega)
    · have g1 := hr8 (k - 1) (by omega)
      rw [if_neg (show ¬ nI k ≤ 0 from nI_nle (by omega) (by omega)), show nI k - 1 = nI (k - 1) from pk_sub (b := 1) (by omega), chk_nI _ (by omega) (by omega), nI_clamp (by omega), g1.1]
      by_cases q : dg (pD p) n s (k - 1) ≤ dg (pD p) n s k
      · rw [if_pos ((nI_leI (by omega) (by omega)).mpr q)]
        refine go39 (fun i hi => ?_)
        by_cases e : i = k - 1
        · subst e; rw [show k - 1 + 1 = k by omega]; exact q
        · exact i1 i (by omega)
      · rw [if_neg (fun e => q ((nI_leI (by omega) (by omega)).mp e)), e40]
        refine Or.inl ⟨false, rfl, fun e => (by cases e), fun c => absurd (c.1 (k - 1) (by omega)) ?_⟩
        rw [show k - 1 + 1 = k by omega]; exact q
theorem X7_openByRow_eq (w : Nat) (hw : 1100 ≤ w) (Q : QC p x h M) {n s m : Nat} (hn : n ≤ 3) (hD0 : 0 < n → 0 < pD p) (hr : ∀ i, i < n → M.1 161 i = nI (dg (pD p) n s i)) (hl : ∀ t, t ≤ 3 → ∀ d, d < pD p → bt (M.1 162 t) d = lk p x h m t d) : f_X7_openByRow w 160 (nI n) M = some (opM p (fut p x (hg p h n s) m), M) := by
  have hp := Q.1
  have hD := hp.2.1
  have hr8 : ∀ i, i < n → M.1 161 i = nI (dg (pD p) n s i) ∧ dg (pD p) n s i < 8 := fun i hi => ⟨hr i hi, by have := dg_lt (n := n) (s := s) (i := i) (hD0 (by omega)); omega⟩
  unfold f_X7_openByRow
  have key := loopP (fun m2 (X : Int32) k => f_X7_openByRow_4 w m2 160 (nI n) X (nI k) M) (orB (fun d => lk p x h m (tms (pD p) n s d) d)) (fun X => some (X, M)) (pD p) (by
    intro m2 X
    rw [f_X7_openByRow_4, r160_1, Q.2.2.2.2.1.2.1, if_pos (Int32.le_refl _)]) (by
    intro m2 X k hk
    have htl := tms_le (pD p) n s k
    have ht : f_X7_timesInRow w 160 (nI k) (nI n) M = some (nI (tms (pD p) n s k), M) := X7_timesInRow_eq w hw hn hr8 (by omega)
    rw [f_X7_openByRow_4, r160_1, Q.2.2.2.2.1.2.1, if_neg (fun h => by have := (nI_leI (by omega) (by omega)).mp h; omega), ht, bI_some, r160_4, l162, chk_nI _ (by omega) (by omega), nI_clamp (by omega), lt_eq, nI_1]
    have e : M.1 162 (tms (pD p) n s k) &&& (1 : Int32) <<< (nI k &&& 31) = if lk p x h m (tms (pD p) n s k) k then one k else 0 := by
      have hb := hl (tms (pD p) n s k) (by omega) k hk
      show _ &&& one k = _
      cases el : lk p x h m (tms (pD p) n s k) k
      · rw [el] at hb
        exact ((and_one _ (by omega)).mpr hb)
      · rw [el] at hb
        exact ((and_one1 _ (by omega)).mpr hb)
    rw [e]
    show f_X7_openByRow_4 w m2 160 (nI n) _ (nI (k + 1)) M = f_X7_openByRow_4 w m2 160 (nI n) (if lk p x h m (tms (pD p) n s k) k then X ||| one k else X) (nI (k + 1)) M
    cases lk p x h m (tms (pD p) n s k) k
    · rw [if_neg (show ¬ (false = true) by decide), if_neg (show ¬ (false = true) by decide), or_0]
    · rw [if_pos (show true = true from rfl), if_pos (show true = true from rfl)]) (show pD p < w by omega) 0
  refine Eq.trans key (congrArg (fun z : Int32 => some (z, M)) ?_)
  rw [itG_mask]
  apply b_ext
  intro i hi
  rw [mask_bt _ _ _ (by omega) i hi, b_0, Bool.false_or, bt_op hp hi]
  by_cases e : i < pD p
  · rw [decide_eq_true e, decide_eq_true (by omega), Bool.true_and, Bool.true_and]
    exact lk_stk n s m i
  · rw [decide_eq_false e, decide_eq_false (by omega), Bool.false_and, Bool.false_and]
theorem X9_isAllTogether_eq (w : Nat) (hw : 1100 ≤ w) (Q : QC p x h M) (opn : Int32) : ∃ b, f_X9_isAllTogether w 31 opn M = some (b2i b, M) ∧ (b = true ↔ ∀ q, 1 ≤ q → q < pP p → bit (rng p opn (sPl h 0)) (sPl h q) = true) := by
  obtain ⟨hp, hx, hh, hda, hc, hxc, hs⟩ := Q
  have hP := hp.2.2.1
  have hR := hp.1
  unfold f_X9_isAllTogether f_X9_isAllTogether_32
  rw [r31_0, hc.2.2.1, lt_eq]
  by_cases p0 : pP p = 0
  · rw [if_pos (by rw [p0]; rfl)]
    exact ⟨true, rfl, fun _ q h1 h2 => by omega, fun _ => rfl⟩
  · rw [if_neg (show ¬ nI (pP p) = 0 from fun e => p0 ((nI_eq (b := 0) (by omega) (by omega)).mp e)), show (0 : Int32) = nI 0 from rfl, X9_companyOf_eq w (by omega) mem31 hp hh hc hs opn (a := 0) (by omega), bI_some]
    have bx : ∀ P, P ≤ 5 → 1 ≤ P → ∀ i, i < 32 → bt ((1 : Int32) <<< (nI P &&& 31) - 2) i = (decide (i < P) && !decide (i = 0)) := by decide +kernel
    have key : coM p h opn 0 = (1 : Int32) <<< (nI (pP p) &&& 31) - 2 ↔ ∀ q, 1 ≤ q → q < pP p → bit (rng p opn (sPl h 0)) (sPl h q) = true := by
      have hco : ∀ i, i < 32 → bt (coM p h opn 0) i = (decide (i < pP p) && bit (rng p opn (sPl h 0)) (sPl h i) && !decide (i = 0)) := fun i hi => by
        unfold coM psM
        rw [b_and, b_xor, b_m1 i hi, bt_one (by omega) hi, mask_bt _ _ _ (by omega) i hi, b_0, Bool.false_or]
        by_cases e : i < pP p
        · rw [decide_eq_true e, decide_eq_true (by omega)]
          cases bit (rng p opn (sPl h 0)) (sPl h i) <;> cases decide (i = 0) <;> rfl
        · rw [decide_eq_false e, decide_eq_false (by omega)]; rfl
      constructor
      · intro e q h1 h2
        have := congrArg (fun z => bt z q) e
        rw [hco q (by omega), bx _ hP (by omega) q (by omega), decide_eq_true h2, decide_eq_false (by omega)] at this
        simpa using this
      · intro e
        apply b_ext
        intro i hi
        rw [hco i hi, bx _ hP (by omega) i hi]
        by_cases h1 : i < pP p
        · by_cases h0 : i = 0
          · rw [decide_eq_true h0]; simp
          · rw [e i (by omega) h1, Bool.and_true]
        · rw [decide_eq_false h1]; rfl
    by_cases q : coM p h opn 0 = (1 : Int32) <<< (nI (pP p) &&& 31) - 2
    · rw [if_pos q]
      exact ⟨true, rfl, fun _ => key.mp q, fun _ => rfl⟩
    · rw [if_neg q]
      exact ⟨false, rfl, fun e => (by cases e), fun e => absurd (key.mpr e) q⟩
end PLC
