/-! ===== asked of days ahead: closes, gives, calm, hard, later ===== -/
def QC (p : HP) (x : HX) (h : HS) (M : mM) : Prop := okP p ∧ okX x ∧ okS p h ∧ sDay h ≤ 1000 ∧ PlC M 1 p ∧ XC M 1 x ∧ StC M 31 p h
def QF (p : HP) (x : HX) (h : HS) (M : mM) : Prop := okP p ∧ okX x ∧ okS p h ∧ sDay h ≤ 1000 ∧ PlR M 0 p ∧ XR M 0 0 x ∧ StR M 0 p h
/-- what the class's questions may write -/
def FC (M N : mM) : Prop := Fr [12, 157, 158, 159, 161, 162] M N
theorem FC.rf (M : mM) : FC M M := Fr.rf _ _
theorem FC.of3 {M N : mM} (f : Fr [12, 157, 158] M N) : FC M N := f.mono (by decide)
section AHEAD
variable {p : HP} {x : HX} {h : HS} {M N : mM}
theorem QC.fr (q : QC p x h M) (e : ∀ c, c ≤ 11 ∨ (31 ≤ c ∧ c ≤ 34) → N.1 c = M.1 c) : QC p x h N :=
  ⟨q.1, q.2.1, q.2.2.1, q.2.2.2.1, q.2.2.2.2.1.fr (fun c hc => e c (by omega)), q.2.2.2.2.2.1.fr (fun c hc => e c (by omega)), q.2.2.2.2.2.2.fr (fun c h1 h2 => e c (by omega))⟩
theorem QC.fc (q : QC p x h M) (f : FC M N) : QC p x h N := q.fr (fun c hc => f.1 c (by simp; omega))
theorem QF.fr (q : QF p x h M) (e : ∀ c, 169 ≤ c → c ≤ 171 → N.1 c = M.1 c) (e2 : ∀ j, j < 23 → N.1 179 j = M.1 179 j) : QF p x h N :=
  ⟨q.1, q.2.1, q.2.2.1, q.2.2.2.1, q.2.2.2.2.1.fr (e 169 (by omega) (by omega)), q.2.2.2.2.2.1.fr (e 169 (by omega) (by omega)) (e 170 (by omega) (by omega)) (e 171 (by omega) (by omega)), q.2.2.2.2.2.2.fr q.1 (fun j _ h2 => e2 j (by omega))⟩
theorem QF.fc (q : QF p x h M) (f : FC M N) : QF p x h N := q.fr (fun c h1 h2 => f.1 c (by simp; omega)) (fun j _ => by rw [f.1 179 (by decide)])
theorem QF.th0 (q : QF p x h M) : QF p x h (th0 M) := q.fr (fun c h1 h2 => th0_1 M (by omega)) (fun j _ => by rw [th0_1 M (by decide)])
theorem QF.frt (q : QF p x h M) (f : FrT M N) : QF p x h N := q.fr (fun c h1 h2 => f.1.1 c (by simp; omega)) (fun j hj => f.2 j (by omega))
theorem QC.qr (q : QC p x h M) (r : QF p x h M) : QR p h M := ⟨q.1, q.2.2.1, q.2.2.2.2.1, r.2.2.2.2.1, q.2.2.2.2.2.2, r.2.2.2.2.2.2⟩
/-- the first day with q, of those from k on, j of them -/
def fdy (q : Nat → Bool) : Nat → Nat → Int32
  | 0, _ => -1
  | j + 1, k => if q k then nI k else fdy q j (k + 1)
theorem fdy_hit {q : Nat → Bool} : ∀ (j i k : Nat), i ≤ k → k < i + j → (∀ a, i ≤ a → a < k → q a = false) → q k = true → fdy q j i = nI k := by
  intro j
  induction j with
  | zero => intro i k h1 h2; omega
  | succ j ih =>
    intro i k h1 h2 h3 h4
    unfold fdy
    by_cases e : i = k
    · subst e; rw [if_pos h4]
    · rw [h3 i (by omega) (by omega), if_neg (by decide)]
      exact ih (i + 1) k (by omega) (by omega) (fun a h5 h6 => h3 a (by omega) h6) h4
theorem fdy_no {q : Nat → Bool} : ∀ (j i : Nat), (∀ a, i ≤ a → a < i + j → q a = false) → fdy q j i = -1 := by
  intro j
  induction j with
  | zero => intro i _; rfl
  | succ j ih =>
    intro i h
    unfold fdy
    rw [h i (by omega) (by omega), if_neg (by decide)]
    exact ih (i + 1) (fun a h5 h6 => h a (by omega) (by omega))
theorem fdy_cong {q r : Nat → Bool} : ∀ (j i : Nat), (∀ a, i ≤ a → a < i + j → q a = r a) → fdy q j i = fdy r j i := by
  intro j
  induction j with
  | zero => intro i _; rfl
  | succ j ih =>
    intro i h
    unfold fdy
    rw [h i (by omega) (by omega), ih (i + 1) (fun a h5 h6 => h a (by omega) (by omega))]
theorem X5_firstDay_eq (w : Nat) (hw : 1100 ≤ w) (Q : QC p x h M) (S T : Int32) : ∃ N, f_X5_firstDay w 156 S T M = some (fdy (fun k => decide (opM p (fut p x h k) &&& S = T)) 61 0, N) ∧ Fr [12, 157, 158] M N := by
  obtain ⟨hp, hx, hh, hd, hc, hxc, hs⟩ := Q
  unfold f_X5_firstDay
  refine loopX (fun k N => Fr [12, 157, 158] M N ∧ (0 < k → ∀ d, d < pD p → N.1 158 d = nI (sSw (fut p x h (k - 1)) d)) ∧ ∀ a, a < k → decide (opM p (fut p x h a) &&& S = T) = false) (fun n N k => f_X5_firstDay_2 w n 156 S T (nI k) N) 61 (fun r => ∃ N, r = some (fdy (fun k => decide (opM p (fut p x h k) &&& S = T)) 61 0, N) ∧ Fr [12, 157, 158] M N) ?_ ?_ 61 w 0 M (by omega) (by omega) ⟨Fr.rf _ _, fun h => by omega, fun a ha => by omega⟩
  · rintro n N ⟨f, i1, i2⟩
    rw [f_X5_firstDay_2, if_pos (by decide), fdy_no 61 0 (fun a _ ha => i2 a (by omega))]
    exact ⟨N, rfl, f⟩
  · rintro n N k hk ⟨f, i1, i2⟩
    have hcN : PlC N 1 p := hc.fr (fun c h1 => f.1 c (by simp; omega))
    have hxN : XC N 1 x := hxc.fr (fun c h1 => f.1 c (by simp; omega))
    have hsN : StC N 31 p h := hs.fr (fun c h1 h2 => f.1 c (by simp; omega))
    obtain ⟨K, e, fK, k1, k2, k3⟩ := X5_lookAt_eq w hw hp hx hh hcN hxN hsN (k := k) (by omega) (by omega) i1
    have e0 : f_X5_firstDay_2 w (n + 1) 156 S T (nI k) N = if opM p (fut p x h k) &&& S = T then some (nI k, K) else f_X5_firstDay_2 w n 156 S T (nI (k + 1)) K := by
      rw [f_X5_firstDay_2, if_neg (fun q => by have := (nI_ltI (a := 60) (by omega) (by omega)).mp q; omega), e, bV_some, r156_2, l157, chk_nI _ (by omega) (by omega), nI_clamp (by omega), k2, nI_1]
    by_cases q : opM p (fut p x h k) &&& S = T
    · refine Or.inl ?_
      rw [e0, if_pos q, fdy_hit 61 0 k (by omega) (by omega) (fun a _ ha => i2 a ha) (decide_eq_true q)]
      exact ⟨K, rfl, f.tr fK⟩
    · refine Or.inr ⟨K, ?_, f.tr fK, fun _ d hd => k1 d hd, fun a ha => ?_⟩
      · rw [e0, if_neg q]
      · by_cases e2 : a = k
        · subst e2; exact decide_eq_false q
        · exact i2 a (by omega)
theorem X12_behindHow_eq (w : Nat) (hw : 1100 ≤ w) (Q : QF p x h M) (S : Int32) (b : Bool) : ∃ N, f_X12_behindHow w 163 S (b2i b) M = some (fdy (fun k => decide ((if b then stkM p (fut p x h k) ^^^ (-1) else stkM p (fut p x h k)) &&& S = 0)) 61 0, N) ∧ FrT M N := by
  obtain ⟨hp, hx, hh, hd, hc, hxc, hs⟩ := Q
  obtain ⟨M1, e1, f1, s1⟩ := X12_triesNow_eq w (by omega) hp hs
  unfold f_X12_behindHow
  rw [e1, bV_some]
  refine loopX (fun k N => FrT M N ∧ StR N 1365 p (fut p x h k) ∧ ∀ a, a < k → decide ((if b then stkM p (fut p x h a) ^^^ (-1) else stkM p (fut p x h a)) &&& S = 0) = false) (fun n N k => f_X12_behindHow_6 w n 163 S (b2i b) (nI k) N) 61 (fun r => ∃ N, r = some (fdy (fun k => decide ((if b then stkM p (fut p x h k) ^^^ (-1) else stkM p (fut p x h k)) &&& S = 0)) 61 0, N) ∧ FrT M N) ?_ ?_ 61 w 0 M1 (by omega) (by omega) ⟨f1, s1, fun a ha => by omega⟩
  · rintro n N ⟨f, i1, i2⟩
    rw [f_X12_behindHow_6, if_pos (by decide), fdy_no 61 0 (fun a _ ha => i2 a (by omega))]
    exact ⟨N, rfl, f⟩
  · rintro n N k hk ⟨f, i1, i2⟩
    have hst := X12_sticking_eq w (by omega) (b := 1365) (by omega) hp (fut_ok hh (by omega)) i1 (f.plr hc).2.1
    obtain ⟨K, e, fK, sK⟩ := X12_trial_pass w hw hp hx hh (f.plr hc) (f.xr hxc) (n := k) (by omega) i1
    have e0 : f_X12_behindHow_6 w (n + 1) 163 S (b2i b) (nI k) N = if (if b then stkM p (fut p x h k) ^^^ (-1) else stkM p (fut p x h k)) &&& S = 0 then some (nI k, N) else f_X12_behindHow_6 w n 163 S (b2i b) (nI (k + 1)) K := by
      rw [f_X12_behindHow_6, if_neg (fun q => by have := (nI_ltI (a := 60) (by omega) (by omega)).mp q; omega), show f_X12_sticking w 163 1365 N = _ from hst, bI_some]
      unfold f_X12_behindHow_38
      rw [e, bV_some, nI_1]
      cases b <;> rfl
    by_cases q : (if b then stkM p (fut p x h k) ^^^ (-1) else stkM p (fut p x h k)) &&& S = 0
    · refine Or.inl ?_
      rw [e0, if_pos q, fdy_hit 61 0 k (by omega) (by omega) (fun a _ ha => i2 a ha) (decide_eq_true q)]
      exact ⟨N, rfl, f⟩
    · refine Or.inr ⟨K, ?_, f.tr fK, sK, fun a ha => ?_⟩
      · rw [e0, if_neg q]
      · by_cases e2 : a = k
        · subst e2; exact decide_eq_false q
        · exact i2 a (by omega)
/-- both programs answer alike, and leave all but what questions may write -/
def Al (f : mM → Option (Int32 × mM)) (g : mM → Option (Int32 × mM)) (M : mM) : Prop := ∃ v N K, f M = some (v, N) ∧ FC M N ∧ g N = some (v, K) ∧ FrT (th0 N) K
theorem Al.of {f g : mM → Option (Int32 × mM)} (e : ∃ v, f M = some (v, M) ∧ g M = some (v, th0 M)) : Al f g M := by
  obtain ⟨v, e1, e2⟩ := e
  exact ⟨v, M, th0 M, e1, FC.rf M, e2, FrT.rf _⟩
theorem and_one (z : Int32) {d : Nat} (hd : d < 32) : (z &&& one d = 0) = (bt z d = false) := by
  have := and_one0 z hd
  rw [bit_bt _ hd] at this
  exact this
theorem and_one1 (z : Int32) {d : Nat} (hd : d < 32) : (z &&& one d = one d) = (bt z d = true) := by
  refine propext ⟨fun e => ?_, fun e => b_ext fun i hi => ?_⟩
  · have := congrArg (fun y => bt y d) e
    simp only [b_and, bt_one hd hd] at this
    simpa using this
  · rw [b_and, bt_one hd hi]
    by_cases q : i = d
    · subst q; rw [e]; rfl
    · rw [decide_eq_false q, Bool.and_false]
theorem X11_closes_eq (w : Nat) (hw : 1100 ≤ w) (Q : QC p x h M) (R : QF p x h M) (a : Int32) : Al (f_X11_closes w 0 a) (f_X12_closes w 163 a) M := by
  obtain ⟨hp, hx, hh, hd, hc, hxc, hs⟩ := Q
  have hD := hp.2.1
  rcases ix3 a (show pD p < 2 ^ 31 by omega) with q | ⟨d, hdd, rfl⟩
  · refine Al.of ⟨-1, ?_, ?_⟩
    · unfold f_X11_closes; rw [r0_0, X6_hasDoor_eq w a hc, has_no q]; rfl
    · unfold f_X12_closes; rw [lt_eq, show wI M 163 0 0 = th0 M from rfl, X12_isDoor_eq w a R.th0.2.2.2.2.1, has_no q]; rfl
  · obtain ⟨N, e, f⟩ := X5_firstDay_eq w hw ⟨hp, hx, hh, hd, hc, hxc, hs⟩ (one d) 0
    have R2 := (R.fc (FC.of3 f)).th0
    obtain ⟨K, e2, f2⟩ := X12_behindHow_eq w hw R2 (one d) true
    refine ⟨fdy (fun k => decide (opM p (fut p x h k) &&& one d = 0)) 61 0, N, K, ?_, FC.of3 f, ?_, f2⟩
    · unfold f_X11_closes
      rw [r0_0, X6_hasDoor_eq w _ hc, has_yes hdd (by omega), bI_some, if_neg (by decide), r0_11, show f_X5_firstDay w 156 ((1 : Int32) <<< (nI d &&& 31)) 0 M = _ from e]
      rfl
    · unfold f_X12_closes
      rw [lt_eq, show wI N 163 0 0 = th0 N from rfl, X12_isDoor_eq w _ R2.2.2.2.2.1, has_yes hdd (by omega), bI_some, if_neg (by decide), show f_X12_behindHow w 163 ((1 : Int32) <<< (nI d &&& 31)) 1 (th0 N) = _ from e2, bI_some]
      congr 2
      refine fdy_cong 61 0 (fun k _ _ => ?_)
      simp only [if_true, and_one _ (show d < 32 by omega), b_xor, bt_op hp (show d < 32 by omega), bt_stk hp (show d < 32 by omega), b_m1 d (by omega), decide_eq_true hdd, Bool.true_and]
      cases stk (fut p x h k) d <;> rfl
theorem X11_gives_eq (w : Nat) (hw : 1100 ≤ w) (Q : QC p x h M) (R : QF p x h M) (a : Int32) : Al (f_X11_gives w 0 a) (f_X12_gives w 163 a) M := by
  obtain ⟨hp, hx, hh, hd, hc, hxc, hs⟩ := Q
  have hD := hp.2.1
  rcases ix3 a (show pD p < 2 ^ 31 by omega) with q | ⟨d, hdd, rfl⟩
  · refine Al.of ⟨-1, ?_, ?_⟩
    · unfold f_X11_gives; rw [r0_0, X6_hasDoor_eq w a hc, has_no q]; rfl
    · unfold f_X12_gives; rw [lt_eq, show wI M 163 0 0 = th0 M from rfl, X12_isDoor_eq w a R.th0.2.2.2.2.1, has_no q]; rfl
  · obtain ⟨N, e, f⟩ := X5_firstDay_eq w hw ⟨hp, hx, hh, hd, hc, hxc, hs⟩ (one d) (one d)
    have R2 := (R.fc (FC.of3 f)).th0
    obtain ⟨K, e2, f2⟩ := X12_behindHow_eq w hw R2 (one d) false
    refine ⟨fdy (fun k => decide (opM p (fut p x h k) &&& one d = one d)) 61 0, N, K, ?_, FC.of3 f, ?_, f2⟩
    · unfold f_X11_gives
      rw [r0_0, X6_hasDoor_eq w _ hc, has_yes hdd (by omega), bI_some, if_neg (by decide), r0_11, show f_X5_firstDay w 156 ((1 : Int32) <<< (nI d &&& 31)) ((1 : Int32) <<< (nI d &&& 31)) M = _ from e]
      rfl
    · unfold f_X12_gives
      rw [lt_eq, show wI N 163 0 0 = th0 N from rfl, X12_isDoor_eq w _ R2.2.2.2.2.1, has_yes hdd (by omega), bI_some, if_neg (by decide), show f_X12_behindHow w 163 ((1 : Int32) <<< (nI d &&& 31)) 0 (th0 N) = _ from e2, bI_some]
      congr 2
      refine fdy_cong 61 0 (fun k _ _ => ?_)
      simp only [Bool.false_eq_true, if_false, and_one _ (show d < 32 by omega), and_one1 _ (show d < 32 by omega), bt_op hp (show d < 32 by omega), bt_stk hp (show d < 32 by omega), decide_eq_true hdd, Bool.true_and]
      cases stk (fut p x h k) d <;> rfl
theorem X11_calm_eq (w : Nat) (hw : 1100 ≤ w) (Q : QC p x h M) (R : QF p x h M) : Al (f_X11_calm w 0) (f_X12_calm w 163) M := by
  obtain ⟨hp, hx, hh, hd, hc, hxc, hs⟩ := Q
  have hD := hp.2.1
  obtain ⟨N, e, f⟩ := X5_firstDay_eq w hw ⟨hp, hx, hh, hd, hc, hxc, hs⟩ ((1 : Int32) <<< (nI (pD p) &&& 31) - 1) ((1 : Int32) <<< (nI (pD p) &&& 31) - 1)
  have R2 := (R.fc (FC.of3 f)).th0
  obtain ⟨K, e2, f2⟩ := X12_behindHow_eq w hw R2 255 false
  refine ⟨fdy (fun k => decide (opM p (fut p x h k) &&& ((1 : Int32) <<< (nI (pD p) &&& 31) - 1) = ((1 : Int32) <<< (nI (pD p) &&& 31) - 1))) 61 0, N, K, ?_, FC.of3 f, ?_, f2⟩
  · unfold f_X11_calm f_X6_allDoors
    rw [r0_0, hc.2.1, bI_some, r0_11, e]
    rfl
  · unfold f_X12_calm
    rw [lt_eq, show wI N 163 0 0 = th0 N from rfl, show f_X12_behindHow w 163 255 0 (th0 N) = _ from e2, bI_some]
    congr 2
    refine fdy_cong 61 0 (fun k _ _ => ?_)
    simp only [Bool.false_eq_true, if_false]
    apply bool_iff
    rw [decide_eq_true_eq, decide_eq_true_eq]
    constructor
    · intro q
      apply b_ext
      intro i hi
      have := congrArg (fun z => bt z i) q
      simp only [b_and, b_255, b_0, bt_stk hp hi] at this
      rw [b_and, bt_op hp hi, bt_all _ hD i hi]
      by_cases e : i < pD p
      · rw [decide_eq_true e, decide_eq_true (show i < 8 by omega)] at this
        rw [decide_eq_true e]
        cases e3 : stk (fut p x h k) i
        · rfl
        · rw [e3] at this; cases this
      · rw [decide_eq_false e]; rfl
    · intro q
      apply b_ext
      intro i hi
      have := congrArg (fun z => bt z i) q
      simp only [b_and, bt_op hp hi, bt_all _ hD i hi] at this
      rw [b_and, b_255, b_0, bt_stk hp hi]
      by_cases e : i < pD p
      · rw [decide_eq_true e] at this
        rw [decide_eq_true e]
        cases e3 : stk (fut p x h k) i
        · rfl
        · rw [e3] at this; cases this
      · rw [decide_eq_false e]; rfl
end AHEAD
