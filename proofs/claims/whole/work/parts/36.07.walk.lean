/-! ===== arrives, both, from ===== -/
section WALK
variable {p : HP} {x : HX} {h : HS} {M N : mM}
/-- the rooms where one is after k days, a door a day, from S -/
def wk (p : HP) (x : HX) (h : HS) (S : Int32) : Nat → Int32
  | 0 => S
  | k + 1 => onM p (opM p (fut p x h k)) (wk p x h S k)
theorem X5_meetingDay_eq (w : Nat) (hw : 1100 ≤ w) (Q : QC p x h M) (S T : Int32) (b : Bool) : ∃ N, f_X5_meetingDay w 156 S T (b2i b) M = some (fdy (fun k => !decide (wk p x h S k &&& (if b then wk p x h T k else T) = 0)) 41 0, N) ∧ Fr [12, 157, 158] M N := by
  obtain ⟨hp, hx, hh, hd, hc, hxc, hs⟩ := Q
  unfold f_X5_meetingDay
  refine loopX (fun k (s : (Int32 × Int32) × mM) => Fr [12, 157, 158] M s.2 ∧ (0 < k → ∀ d, d < pD p → s.2.1 158 d = nI (sSw (fut p x h (k - 1)) d)) ∧ s.1.1 = wk p x h S k ∧ s.1.2 = (if b then wk p x h T k else T) ∧ ∀ a, a < k → (!decide (wk p x h S a &&& (if b then wk p x h T a else T) = 0)) = false) (fun n (s : (Int32 × Int32) × mM) k => f_X5_meetingDay_9 w n 156 (b2i b) s.1.1 s.1.2 (nI k) s.2) 41 (fun r => ∃ N, r = some (fdy (fun k => !decide (wk p x h S k &&& (if b then wk p x h T k else T) = 0)) 41 0, N) ∧ Fr [12, 157, 158] M N) ?_ ?_ 41 w 0 ((S, T), M) (by omega) (by omega) ⟨Fr.rf _ _, fun h => by omega, rfl, by cases b <;> rfl, fun a ha => by omega⟩
  · rintro n ⟨⟨A, B⟩, N⟩ ⟨f, i1, i2, i3, i4⟩
    rw [f_X5_meetingDay_9, if_pos (by decide), fdy_no 41 0 (fun a _ ha => i4 a (by omega))]
    exact ⟨N, rfl, f⟩
  · rintro n ⟨⟨A, B⟩, N⟩ k hk ⟨f, i1, i2, i3, i4⟩
    have f : Fr [12, 157, 158] M N := f
    have i2 : A = wk p x h S k := i2
    have i3 : B = (if b then wk p x h T k else T) := i3
    have hcN : PlC N 1 p := hc.fr (fun c h1 => f.1 c (by simp; omega))
    have hxN : XC N 1 x := hxc.fr (fun c h1 => f.1 c (by simp; omega))
    have hsN : StC N 31 p h := hs.fr (fun c h1 h2 => f.1 c (by simp; omega))
    obtain ⟨K, e, fK, k1, k2, k3⟩ := X5_lookAt_eq w hw hp hx hh hcN hxN hsN (k := k) (by omega) (by omega) i1
    have hcK : PlC K 1 p := hcN.fr (fun c h1 => fK.1 c (by simp; omega))
    subst i2 i3
    show _ ∨ ∃ t : (Int32 × Int32) × mM, f_X5_meetingDay_9 w (n + 1) 156 (b2i b) (wk p x h S k) (if b then wk p x h T k else T) (nI k) N = _ ∧ _
    by_cases q : wk p x h S k &&& (if b then wk p x h T k else T) = 0
    · refine Or.inr ⟨((wk p x h S (k + 1), if b then wk p x h T (k + 1) else T), K), ?_, f.tr fK, fun _ d hd => k1 d hd, rfl, rfl, fun a ha => ?_⟩
      · show f_X5_meetingDay_9 w (n + 1) 156 (b2i b) (wk p x h S k) (if b then wk p x h T k else T) (nI k) N = f_X5_meetingDay_9 w n 156 (b2i b) (wk p x h S (k + 1)) (if b then wk p x h T (k + 1) else T) (nI (k + 1)) K
        rw [f_X5_meetingDay_9, if_neg (fun q => by have := (nI_ltI (a := 40) (by omega) (by omega)).mp q; omega), if_pos q, e, bV_some, r156_2, r156_1, l157, chk_nI _ (by omega) (by omega), nI_clamp (by omega), k2, X6_oneDoorOn_eq w (by omega) hp hcK, bI_some, nI_1]
        cases b
        · rw [if_pos (show b2i false = 0 from rfl)]
          rfl
        · rw [if_neg (show ¬ b2i true = 0 by decide), chk_nI _ (by omega) (by omega), k2, X6_oneDoorOn_eq w (by omega) hp hcK, bI_some]
          rfl
      · by_cases e2 : a = k
        · subst e2; rw [decide_eq_true q]; rfl
        · exact i4 a (by omega)
    · refine Or.inl ?_
      show ∃ N2, f_X5_meetingDay_9 w (n + 1) 156 (b2i b) (wk p x h S k) (if b then wk p x h T k else T) (nI k) N = _ ∧ _
      rw [f_X5_meetingDay_9, if_neg (fun q => by have := (nI_ltI (a := 40) (by omega) (by omega)).mp q; omega), if_neg q, fdy_hit 41 0 k (by omega) (by omega) (fun a _ ha => i4 a ha) (by rw [decide_eq_false q]; rfl)]
      exact ⟨N, rfl, f⟩
theorem X12_opensThen_eq (w : Nat) (hw : 1100 ≤ w) (R : QF p x h M) : ∃ N, f_X12_opensThen w 163 M = some N ∧ FrT M N ∧ ∀ j, j ≤ 40 → N.1 181 j = opM p (fut p x h j) := by
  obtain ⟨hp, hx, hh, hd, hr, hxr, ht⟩ := R
  obtain ⟨M1, e1, f1, s1⟩ := X12_triesNow_eq w (by omega) hp ht
  unfold f_X12_opensThen
  rw [e1, bV_some]
  refine loopX (fun k (K : mM) => FrT M K ∧ StR K 1365 p (fut p x h k) ∧ ∀ a, a < k → K.1 181 a = opM p (fut p x h a)) (fun n (K : mM) k => f_X12_opensThen_6 w n 163 (nI k) K) 41 (fun r => ∃ N, r = some N ∧ FrT M N ∧ ∀ j, j ≤ 40 → N.1 181 j = opM p (fut p x h j)) ?_ ?_ 41 w 0 M1 (by omega) (by omega) ⟨f1, s1, fun a ha => by omega⟩
  · rintro n K ⟨f, s, i⟩
    rw [f_X12_opensThen_6, if_pos (by decide)]
    exact ⟨K, rfl, f, fun j hj => i j (by omega)⟩
  · rintro n K k hk ⟨f, s, i⟩
    have fW : FrT K (wI K 181 k (opM p (fut p x h k))) := ⟨(Fr.rf _ K).wI (by decide) _ _, fun j _ => by rw [wI_set, setC_ne _ _ (by decide)]⟩
    have sW : StR (wI K 181 k (opM p (fut p x h k))) 1365 p (fut p x h k) := s.fr hp (fun j _ _ => by rw [wI_set, setC_ne _ _ (by decide)])
    have hon := X12_openNow_eq w (by omega) (b := 1365) (by omega) hp (fut_ok (x := x) hh (n := k) (by omega)) (f.plr hr) s
    obtain ⟨K2, eK, fK, sK⟩ := X12_trial_pass w hw hp hx hh (fW.plr (f.plr hr)) (fW.xr (f.xr hxr)) (n := k) (by omega) sW
    obtain ⟨N2, e3, f3, s3, j3⟩ := X12_passes__eq w hw hp hx (fut_ok hh (by omega)) (fW.plr (f.plr hr)) (fW.xr (f.xr hxr)) (b := 1365) (by omega) sW
    have e4 : N2 = K2 := Option.some.inj (e3.symm.trans eK)
    subst e4
    refine Or.inr ⟨N2, ?_, (f.tr fW).tr fK, sK, fun a ha => ?_⟩
    · rw [f_X12_opensThen_6, if_neg (fun q => by have := (nI_ltI (a := 40) (by omega) (by omega)).mp q; omega), show f_X12_openNow w 163 1365 K = _ from hon, bI_some, r163_27, l181, chk_nI _ (by omega) (by omega), nI_clamp (by omega), lt_eq, show f_X12_passes_ w 163 1365 _ = _ from eK, bV_some, nI_1]
    · rw [f3.1 181 (by decide), wI_set, setC_at]
      by_cases q : a = k
      · subst q; rw [upd_at]
      · rw [upd_ne _ _ q]; exact i a (by omega)
theorem X12_arrivesBy_eq (w : Nat) (hw : 1100 ≤ w) (hp : okP p) (hr : PlR M 0 p) (ho : ∀ j, j ≤ 40 → M.1 181 j = opM p (fut p x h j)) (r y : Nat) : f_X12_arrivesBy w 163 (nI r) (nI y) M = some (fdy (fun k => bit (wk p x h (one r) k) y) 41 0, M) := by
  unfold f_X12_arrivesBy
  rw [lt_eq]
  refine loopX (fun k (A : Int32) => A = wk p x h (one r) k ∧ ∀ a, a < k → bit (wk p x h (one r) a) y = false) (fun n (A : Int32) k => f_X12_arrivesBy_7 w n 163 (nI y) A (nI k) M) 41 (fun r1 => r1 = some (fdy (fun k => bit (wk p x h (one r) k) y) 41 0, M)) ?_ ?_ 41 w 0 (one r) (by omega) (by omega) ⟨rfl, fun a ha => by omega⟩
  · rintro n A ⟨rfl, i⟩
    rw [f_X12_arrivesBy_7, if_pos (by decide), fdy_no 41 0 (fun a _ ha => i a (by omega))]
  · rintro n A k hk ⟨rfl, i⟩
    rw [f_X12_arrivesBy_7, if_neg (fun q => by have := (nI_ltI (a := 40) (by omega) (by omega)).mp q; omega)]
    cases q : bit (wk p x h (one r) k) y
    · rw [if_neg (fun e => by rw [bit_1] at e; rw [e] at q; cases q), r163_27, l181, chk_nI _ (by omega) (by omega), nI_clamp (by omega), ho k (by omega), X12_onFrom_eq w (by omega) hp hr, bI_some, nI_1]
      refine Or.inr ⟨_, rfl, rfl, fun a ha => ?_⟩
      by_cases e : a = k
      · subst e; exact q
      · exact i a (by omega)
    · rw [if_pos ((bit_1 _ _).mpr q), fdy_hit 41 0 k (by omega) (by omega) (fun a _ ha => i a ha) q]
      exact Or.inl rfl
theorem X11_arrives_eq (w : Nat) (hw : 1100 ≤ w) (Q : QC p x h M) (R : QF p x h M) (a b : Int32) : Al (f_X11_arrives w 0 a b) (f_X12_arrives w 163 a b) M := by
  have Q' := Q
  obtain ⟨hp, hx, hh, hd, hc, hxc, hs⟩ := Q
  have hR := hp.1
  have hP := hp.2.2.1
  rcases ix3 a (show pP p < 2 ^ 31 by omega) with q | ⟨j, hj, rfl⟩
  · refine Al.of ⟨-1, ?_, ?_⟩
    · unfold f_X11_arrives; rw [r0_0, X6_hasPerson_eq w a hc, has_no q]; rfl
    · unfold f_X12_arrives; rw [lt_eq, show wI M 163 0 0 = th0 M from rfl, X12_isPerson_eq w a R.th0.2.2.2.2.1, has_no q]; rfl
  · rcases ix3 b (show pR p < 2 ^ 31 by omega) with q | ⟨y, hy, rfl⟩
    · refine Al.of ⟨-1, ?_, ?_⟩
      · unfold f_X11_arrives; rw [r0_0, X6_hasPerson_eq w _ hc, has_yes hj (by omega), bI_some, if_neg (by decide), X6_hasRoom_eq w b hc, has_no q]; rfl
      · unfold f_X12_arrives; rw [lt_eq, show wI M 163 0 0 = th0 M from rfl, X12_isPerson_eq w _ R.th0.2.2.2.2.1, has_yes hj (by omega), bI_some, if_neg (by decide), X12_isRoom_eq w b R.th0.2.2.2.2.1, has_no q]; rfl
    · obtain ⟨N, e, f⟩ := X5_meetingDay_eq w hw Q' (one (sPl h j)) (one y) false
      have R2 := (R.fc (FC.of3 f)).th0
      obtain ⟨K, e2, f2, o2⟩ := X12_opensThen_eq w hw R2
      have g : M.1 34 j = nI (sPl h j) := hs.2.2.2 j hj
      have gr : K.1 179 (18 + j) = nI (sPl h j) := by
        rw [f2.2 _ (by omega)]
        have := R2.2.2.2.2.2.2.2.2.2 j hj
        rw [Nat.zero_add] at this; exact this
      have e3 := X12_arrivesBy_eq w hw hp (f2.plr R2.2.2.2.2.1) o2 (sPl h j) y
      refine ⟨fdy (fun k => !decide (wk p x h (one (sPl h j)) k &&& one y = 0)) 41 0, N, K, ?_, FC.of3 f, ?_, f2⟩
      · unfold f_X11_arrives
        rw [r0_0, X6_hasPerson_eq w _ hc, has_yes hj (by omega), bI_some, if_neg (by decide), X6_hasRoom_eq w _ hc, has_yes hy (by omega), bI_some, if_neg (by decide), r0_6, r31_5, l34, chk_nI _ (by omega) (by omega), nI_clamp (by omega), g, r0_11, show f_X5_meetingDay w 156 ((1 : Int32) <<< (nI (sPl h j) &&& 31)) ((1 : Int32) <<< (nI y &&& 31)) 0 M = _ from e]
        rfl
      · unfold f_X12_arrives
        rw [lt_eq, show wI N 163 0 0 = th0 N from rfl, X12_isPerson_eq w _ R2.2.2.2.2.1, has_yes hj (by omega), bI_some, if_neg (by decide), X12_isRoom_eq w _ R2.2.2.2.2.1, has_yes hy (by omega), bI_some, if_neg (by decide), e2, bV_some, r163_24, l179, show (18 : Int32) + nI j = nI (18 + j) by rw [nx_lit, nI_add], chk_nI _ (by omega) (by omega), nI_clamp (by omega), gr, e3, bI_some]
        congr 2
        refine fdy_cong 41 0 (fun k _ _ => ?_)
        show bit _ y = !decide (_ &&& one y = 0)
        rw [bit_bt _ (by omega)]
        apply bool_iff
        simp only [and_one _ (show y < 32 by omega)]
        cases bt (wk p x h (one (sPl h j)) k) y <;> simp
theorem X12_both__60_eq (w : Nat) (hw : 1100 ≤ w) (hp : okP p) (hr : PlR M 0 p) (ho : ∀ j, j ≤ 40 → M.1 181 j = opM p (fut p x h j)) (S T : Int32) : f_X12_both__60 w w 163 S T 0 M = some (fdy (fun k => !decide (wk p x h S k &&& wk p x h T k = 0)) 41 0, M) := by
  refine loopX (fun k (A : Int32 × Int32) => A.1 = wk p x h S k ∧ A.2 = wk p x h T k ∧ ∀ a, a < k → (!decide (wk p x h S a &&& wk p x h T a = 0)) = false) (fun n (A : Int32 × Int32) k => f_X12_both__60 w n 163 A.1 A.2 (nI k) M) 41 (fun r1 => r1 = some (fdy (fun k => !decide (wk p x h S k &&& wk p x h T k = 0)) 41 0, M)) ?_ ?_ 41 w 0 (S, T) (by omega) (by omega) ⟨rfl, rfl, fun a ha => by omega⟩
  · rintro n ⟨A, B⟩ ⟨e1, e2, i⟩
    rw [f_X12_both__60, if_pos (by decide), fdy_no 41 0 (fun a _ ha => i a (by omega))]
  · rintro n ⟨A, B⟩ k hk ⟨e1, e2, i⟩
    have e1 : A = wk p x h S k := e1
    have e2 : B = wk p x h T k := e2
    subst e1 e2
    show f_X12_both__60 w (n + 1) 163 (wk p x h S k) (wk p x h T k) (nI k) M = _ ∨ ∃ t : Int32 × Int32, f_X12_both__60 w (n + 1) 163 (wk p x h S k) (wk p x h T k) (nI k) M = _ ∧ _
    rw [f_X12_both__60, if_neg (fun q => by have := (nI_ltI (a := 40) (by omega) (by omega)).mp q; omega)]
    by_cases q : wk p x h S k &&& wk p x h T k = 0
    · rw [if_pos q, r163_27, l181, chk_nI _ (by omega) (by omega), nI_clamp (by omega), ho k (by omega), X12_onFrom_eq w (by omega) hp hr, bI_some, chk_nI _ (by omega) (by omega), ho k (by omega), X12_onFrom_eq w (by omega) hp hr, bI_some, nI_1]
      refine Or.inr ⟨(wk p x h S (k + 1), wk p x h T (k + 1)), rfl, rfl, rfl, fun a ha => ?_⟩
      by_cases e : a = k
      · subst e; rw [decide_eq_true q]; rfl
      · exact i a (by omega)
    · rw [if_neg q, fdy_hit 41 0 k (by omega) (by omega) (fun a _ ha => i a ha) (by rw [decide_eq_false q]; rfl)]
      exact Or.inl rfl
theorem X11_both_eq (w : Nat) (hw : 1100 ≤ w) (Q : QC p x h M) (R : QF p x h M) (a b : Int32) : Al (f_X11_both w 0 a b) (f_X12_both_ w 163 a b) M := by
  have Q' := Q
  obtain ⟨hp, hx, hh, hd, hc, hxc, hs⟩ := Q
  have hR := hp.1
  have hP := hp.2.2.1
  rcases ix3 a (show pP p < 2 ^ 31 by omega) with q | ⟨j, hj, rfl⟩
  · refine Al.of ⟨-1, ?_, ?_⟩
    · unfold f_X11_both; rw [r0_0, X6_hasPerson_eq w a hc, has_no q]; rfl
    · unfold f_X12_both_; rw [lt_eq, show wI M 163 0 0 = th0 M from rfl, X12_isPerson_eq w a R.th0.2.2.2.2.1, has_no q]; rfl
  · rcases ix3 b (show pP p < 2 ^ 31 by omega) with q | ⟨y, hy, rfl⟩
    · refine Al.of ⟨-1, ?_, ?_⟩
      · unfold f_X11_both; rw [r0_0, X6_hasPerson_eq w _ hc, has_yes hj (by omega), bI_some, if_neg (by decide), X6_hasPerson_eq w b hc, has_no q]; rfl
      · unfold f_X12_both_; rw [lt_eq, show wI M 163 0 0 = th0 M from rfl, X12_isPerson_eq w _ R.th0.2.2.2.2.1, has_yes hj (by omega), bI_some, if_neg (by decide), X12_isPerson_eq w b R.th0.2.2.2.2.1, has_no q]; rfl
    · by_cases q : j = y
      · subst q
        refine Al.of ⟨-1, ?_, ?_⟩
        · unfold f_X11_both; rw [r0_0, X6_hasPerson_eq w _ hc, has_yes hj (by omega), bI_some, if_neg (by decide), X6_hasPerson_eq w _ hc, has_yes hj (by omega), bI_some, if_neg (by decide), if_pos rfl]
        · unfold f_X12_both_; rw [lt_eq, show wI M 163 0 0 = th0 M from rfl, X12_isPerson_eq w _ R.th0.2.2.2.2.1, has_yes hj (by omega), bI_some, if_neg (by decide), X12_isPerson_eq w _ R.th0.2.2.2.2.1, has_yes hj (by omega), bI_some, if_neg (by decide), if_pos rfl]
      · obtain ⟨N, e, f⟩ := X5_meetingDay_eq w hw Q' (one (sPl h j)) (one (sPl h y)) true
        have R2 := (R.fc (FC.of3 f)).th0
        obtain ⟨K, e2, f2, o2⟩ := X12_opensThen_eq w hw R2
        have g : M.1 34 j = nI (sPl h j) := hs.2.2.2 j hj
        have g' : M.1 34 y = nI (sPl h y) := hs.2.2.2 y hy
        have gr : ∀ j, j < pP p → K.1 179 (18 + j) = nI (sPl h j) := fun j hj => by
          rw [f2.2 _ (by omega)]
          have := R2.2.2.2.2.2.2.2.2.2 j hj
          rw [Nat.zero_add] at this; exact this
        have e3 := X12_both__60_eq w hw hp (f2.plr R2.2.2.2.2.1) o2 (one (sPl h j)) (one (sPl h y))
        have ne : ¬ nI j = nI y := fun e => q ((nI_eq (by omega) (by omega)).mp e)
        refine ⟨fdy (fun k => !decide (wk p x h (one (sPl h j)) k &&& wk p x h (one (sPl h y)) k = 0)) 41 0, N, K, ?_, FC.of3 f, ?_, f2⟩
        · unfold f_X11_both
          rw [r0_0, X6_hasPerson_eq w _ hc, has_yes hj (by omega), bI_some, if_neg (by decide), X6_hasPerson_eq w _ hc, has_yes hy (by omega), bI_some, if_neg (by decide), if_neg ne, r0_6, r31_5, l34, chk_nI _ (by omega) (by omega), chk_nI _ (by omega) (by omega), nI_clamp (by omega), nI_clamp (by omega), g, g', r0_11, show f_X5_meetingDay w 156 ((1 : Int32) <<< (nI (sPl h j) &&& 31)) ((1 : Int32) <<< (nI (sPl h y) &&& 31)) 1 M = _ from e]
          rfl
        · unfold f_X12_both_
          rw [lt_eq, show wI N 163 0 0 = th0 N from rfl, X12_isPerson_eq w _ R2.2.2.2.2.1, has_yes hj (by omega), bI_some, if_neg (by decide), X12_isPerson_eq w _ R2.2.2.2.2.1, has_yes hy (by omega), bI_some, if_neg (by decide), if_neg ne, e2, bV_some, r163_24, l179, show (18 : Int32) + nI j = nI (18 + j) by rw [nx_lit, nI_add], show (18 : Int32) + nI y = nI (18 + y) by rw [nx_lit, nI_add], chk_nI _ (by omega) (by omega), nI_clamp (by omega), gr j hj, lt_eq, chk_nI _ (by omega) (by omega), nI_clamp (by omega), gr y hy, lt_eq]
          exact e3
/-! back: from which rooms -/
def bk (p : HP) (x : HX) (h : HS) : Nat → Int32 → Int32
  | 0, S => S
  | k + 1, S => bk p x h k (onM p (opM p (fut p x h k)) S)
def mt (S T : Int32) : Prop := ∃ i, i < 32 ∧ bt S i = true ∧ bt T i = true
theorem onM_bt (hp : okP p) (o S : Int32) {i : Nat} (hi : i < 32) : bt (onM p o S) i = true ↔ bt S i = true ∨ ∃ d, d < pD p ∧ bit o d = true ∧ ((bt S (pA p d) = true ∧ i = pB p d) ∨ (bt S (pB p d) = true ∧ i = pA p d)) := by
  have hR := hp.1
  unfold onM
  rw [onL_bt]
  have key : ∀ d, d < pD p → (bt (dAdd p o S d) i = true ↔ bit o d = true ∧ ((bt S (pA p d) = true ∧ i = pB p d) ∨ (bt S (pB p d) = true ∧ i = pA p d))) := fun d hd => by
    obtain ⟨ha, hb, -⟩ := hp.2.2.2.1 d hd
    unfold dAdd
    rw [bit_bt S (show pA p d < 32 by omega), bit_bt S (show pB p d < 32 by omega)]
    cases bit o d
    · simp [b_0]
    · cases bt S (pA p d) <;> cases bt S (pB p d) <;> simp [b_0, b_or, bt_one (show pA p d < 32 by omega) hi, bt_one (show pB p d < 32 by omega) hi]
  constructor
  · rintro (e | ⟨d, h1, h2, h3⟩)
    · exact Or.inl e
    · exact Or.inr ⟨d, by omega, (key d (by omega)).mp h3⟩
  · rintro (e | ⟨d, h1, h2⟩)
    · exact Or.inl e
    · exact Or.inr ⟨d, by omega, by omega, (key d h1).mpr h2⟩
theorem mt_on (hp : okP p) (o S T : Int32) (e : mt (onM p o S) T) : mt S (onM p o T) := by
  have hR := hp.1
  obtain ⟨i, hi, h1, h2⟩ := e
  rcases (onM_bt hp o S hi).mp h1 with e | ⟨d, hd, ho, ⟨e1, e2⟩ | ⟨e1, e2⟩⟩
  · exact ⟨i, hi, e, onM_sub o T i hi h2⟩
  · obtain ⟨ha, hb, -⟩ := hp.2.2.2.1 d hd
    exact ⟨pA p d, by omega, e1, (onM_bt hp o T (by omega)).mpr (Or.inr ⟨d, hd, ho, Or.inr ⟨by rw [← e2]; exact h2, rfl⟩⟩)⟩
  · obtain ⟨ha, hb, -⟩ := hp.2.2.2.1 d hd
    exact ⟨pB p d, by omega, e1, (onM_bt hp o T (by omega)).mpr (Or.inr ⟨d, hd, ho, Or.inl ⟨by rw [← e2]; exact h2, rfl⟩⟩)⟩
theorem mt_sy {S T : Int32} (e : mt S T) : mt T S := by
  obtain ⟨i, hi, h1, h2⟩ := e
  exact ⟨i, hi, h2, h1⟩
theorem mt_wk (hp : okP p) (S : Int32) : ∀ (k : Nat) (T : Int32), mt (wk p x h S k) T ↔ mt S (bk p x h k T) := by
  intro k
  induction k with
  | zero => intro T; exact Iff.rfl
  | succ k ih =>
    intro T
    unfold wk bk
    rw [← ih]
    exact ⟨mt_on hp _ _ _, fun e => mt_sy (mt_on hp _ _ _ (mt_sy e))⟩
theorem mt_one {S : Int32} {y : Nat} (hy : y < 32) : mt S (one y) ↔ bt S y = true := by
  constructor
  · rintro ⟨i, hi, h1, h2⟩
    rw [bt_one hy hi, decide_eq_true_eq] at h2
    rw [← h2]; exact h1
  · intro e
    exact ⟨y, hy, e, by rw [bt_one hy hy]; exact decide_eq_true rfl⟩
theorem wk_bk (hp : okP p) {r y : Nat} (hr : r < 32) (hy : y < 32) (k : Nat) : bt (wk p x h (one r) k) y = bt (bk p x h k (one y)) r := by
  apply bool_iff
  rw [← mt_one hy, mt_wk hp, ← mt_one hr]
  exact ⟨mt_sy, mt_sy⟩
theorem wk_mono (S : Int32) {y : Nat} (hy : y < 32) : ∀ (j k : Nat), bt (wk p x h S k) y = true → bt (wk p x h S (k + j)) y = true := by
  intro j
  induction j with
  | zero => intro k e; exact e
  | succ j ih => intro k e; exact onM_sub _ _ y hy (ih k e)
theorem bk_in (hp : okP p) : ∀ (k : Nat) (S : Int32), inR (pR p) S → inR (pR p) (bk p x h k S) := by
  intro k
  induction k with
  | zero => intro S e; exact e
  | succ k ih => intro S e; exact ih _ (onM_in hp _ e)
theorem fdy_sp {q : Nat → Bool} : ∀ (j i : Nat), (fdy q j i = -1 ∧ ∀ a, i ≤ a → a < i + j → q a = false) ∨ ∃ k, i ≤ k ∧ k < i + j ∧ fdy q j i = nI k ∧ q k = true ∧ ∀ a, i ≤ a → a < k → q a = false := by
  intro j
  induction j with
  | zero => intro i; exact Or.inl ⟨rfl, fun a _ _ => by omega⟩
  | succ j ih =>
    intro i
    cases e : q i
    · rcases ih (i + 1) with ⟨h1, h2⟩ | ⟨k, h1, h2, h3, h4, h5⟩
      · refine Or.inl ⟨?_, fun a h3 h4 => ?_⟩
        · unfold fdy; rw [e, if_neg (by decide)]; exact h1
        · by_cases r : a = i
          · subst r; exact e
          · exact h2 a (by omega) (by omega)
      · refine Or.inr ⟨k, by omega, by omega, ?_, h4, fun a h6 h7 => ?_⟩
        · unfold fdy; rw [e, if_neg (by decide)]; exact h3
        · by_cases r : a = i
          · subst r; exact e
          · exact h5 a (by omega) (by omega)
    · refine Or.inr ⟨i, by omega, by omega, ?_, e, fun a h6 h7 => by omega⟩
      unfold fdy; rw [e, if_pos rfl]
/-- by day m one can have come from r to y -/
theorem come_iff (hp : okP p) {r y m : Nat} (hr : r < 32) (hy : y < 32) (hm : m ≤ 40) : (fdy (fun k => bit (wk p x h (one r) k) y) 41 0 < 0 ∨ nI m < fdy (fun k => bit (wk p x h (one r) k) y) 41 0) ↔ bt (bk p x h m (one y)) r = false := by
  rw [← wk_bk hp hr hy]
  rcases fdy_sp (q := fun k => bit (wk p x h (one r) k) y) 41 0 with ⟨h1, h2⟩ | ⟨k, -, h2, h3, h4, h5⟩
  · rw [h1]
    have := h2 m (by omega) (by omega)
    rw [bit_bt _ hy] at this
    exact ⟨fun _ => this, fun _ => Or.inl (by decide)⟩
  · rw [h3]
    constructor
    · rintro (e | e)
      · exact absurd e (nI_pos (by omega))
      · have := h5 m (by omega) ((nI_ltI (by omega) (by omega)).mp e)
        rw [bit_bt _ hy] at this
        exact this
    · intro e
      refine Or.inr ((nI_ltI (by omega) (by omega)).mpr ?_)
      rcases Nat.lt_or_ge m k with a | a
      · exact a
      · rw [bit_bt _ hy] at h4
        have := wk_mono (p := p) (x := x) (h := h) (one r) hy (m - k) k h4
        rw [show k + (m - k) = m by omega, e] at this
        cases this
theorem X5_roomsBehind_14_eq (w : Nat) (hw : 1100 ≤ w) (hp : okP p) (hc : PlC M 1 p) : ∀ (m n : Nat) (S : Int32), m < n → m ≤ 60 → (∀ j, j < m → M.1 157 j = opM p (fut p x h j)) → f_X5_roomsBehind_14 w n 156 S (nI m - 1) M = some (bk p x h m S, M) := by
  intro m
  induction m with
  | zero =>
    intro n S hn _ _
    obtain ⟨n, rfl⟩ : ∃ k, n = k + 1 := ⟨n - 1, by omega⟩
    rw [f_X5_roomsBehind_14, if_pos (by decide)]
    rfl
  | succ m ih =>
    intro n S hn hm ho
    obtain ⟨n, rfl⟩ : ∃ k, n = k + 1 := ⟨n - 1, by omega⟩
    have e : nI (m + 1) - 1 = nI m := pk_sub (b := 1) (by omega)
    rw [f_X5_roomsBehind_14, e, if_neg (nI_pos (by omega)), r156_2, r156_1, l157, chk_nI _ (by omega) (by omega), nI_clamp (by omega), ho m (by omega), X6_oneDoorOn_eq w (by omega) hp hc, bI_some, ← Int32.sub_eq_add_neg]
    exact ih n _ (by omega) (by omega) (fun j hj => ho j (by omega))
theorem X5_roomsBehind_eq (w : Nat) (hw : 1100 ≤ w) (hp : okP p) (hc : PlC M 1 p) {y m : Nat} (hm : m ≤ 40) (ho : ∀ j, j < m → M.1 157 j = opM p (fut p x h j)) : f_X5_roomsBehind w 156 (nI y) (nI m) M = some (bk p x h m (one y), M) := by
  unfold f_X5_roomsBehind
  have e : mnI (nI m) 60 = nI m := by
    unfold mnI
    rw [if_neg (fun q => by have := (nI_ltI (a := 60) (by omega) (by omega)).mp q; omega)]
  rw [lt_eq, lt_eq, e]
  exact X5_roomsBehind_14_eq w hw hp hc m w _ (by omega) (by omega) ho
theorem X11_from_eq (w : Nat) (hw : 1100 ≤ w) (Q : QC p x h M) (R : QF p x h M) (a b : Int32) : Al (f_X11_from w 0 a b) (f_X12_from w 163 a b) M := by
  have Q' := Q
  obtain ⟨hp, hx, hh, hd, hc, hxc, hs⟩ := Q
  have hR := hp.1
  rcases ix3 a (show pR p < 2 ^ 31 by omega) with q | ⟨y, hy, rfl⟩
  · refine Al.of ⟨-1, ?_, ?_⟩
    · unfold f_X11_from; rw [r0_0, X6_hasRoom_eq w a hc, has_no q]; rfl
    · unfold f_X12_from; rw [lt_eq, show wI M 163 0 0 = th0 M from rfl, X12_isRoom_eq w a R.th0.2.2.2.2.1, has_no q]; rfl
  · have hRd : ∀ N, PlR N 0 p → f_X12_isRoom w 163 (nI y) N = some (1, N) := fun N hN => by rw [X12_isRoom_eq w _ hN, has_yes hy (by omega)]
    have hCd : f_X6_hasRoom w 1 (nI y) M = some (1, M) := by rw [X6_hasRoom_eq w _ hc, has_yes hy (by omega)]
    rcases ix3 b (n := 41) (by decide) with q | ⟨m, hm, rfl⟩
    · refine Al.of ⟨-1, ?_, ?_⟩
      · unfold f_X11_from; rw [r0_0, hCd, bI_some, if_neg (by decide)]
        by_cases q0 : b < 0
        · rw [if_pos q0]
        · rw [if_neg q0, if_neg (fun e => absurd (Int32.le_trans (q.resolve_left q0) e) (by decide))]
      · unfold f_X12_from; rw [lt_eq, show wI M 163 0 0 = th0 M from rfl, hRd _ R.th0.2.2.2.2.1, bI_some, if_neg (by decide)]
        unfold f_X12_within
        by_cases q0 : b < 0
        · rw [if_pos q0]; rfl
        · rw [if_neg q0, if_pos (Int32.lt_of_lt_of_le (show (40 : Int32) < nI 41 by decide) (q.resolve_left q0))]; rfl
    · obtain ⟨N, e, f, o⟩ := X5_look_eq w hw Q' (m := m) (by omega)
      have hcN : PlC N 1 p := hc.fr (fun c h1 => f.1 c (by simp; omega))
      have e1 := X5_roomsBehind_eq w hw hp hcN (y := y) (m := m) (by omega) (fun j hj => o j (by omega))
      have R2 := (R.fc (FC.of3 f)).th0
      obtain ⟨K, e2, f2, o2⟩ := X12_opensThen_eq w hw R2
      have hrK := f2.plr R2.2.2.2.2.1
      have hRc : K.1 169 0 = nI (pR p) := hrK.1
      refine ⟨bk p x h m (one y), N, K, ?_, FC.of3 f, ?_, f2⟩
      · unfold f_X11_from
        rw [r0_0, hCd, bI_some, if_neg (by decide), if_neg (nI_pos (by omega)), if_pos (show nI m ≤ 40 from (nI_leI (b := 40) (by omega) (by omega)).mpr (by omega)), r0_11, e, bV_some, e1]
        rfl
      · unfold f_X12_from
        rw [lt_eq, show wI N 163 0 0 = th0 N from rfl, hRd _ R2.2.2.2.2.1, bI_some, if_neg (by decide)]
        unfold f_X12_within
        rw [if_neg (nI_pos (by omega)), if_neg (fun e => by have := (nI_ltI (a := 40) (by omega) (by omega)).mp e; omega), show rtB 1 (th0 N) = some (1, th0 N) from rfl, bI_some, if_neg (by decide), e2, bV_some]
        have key := loopP (fun n A k => f_X12_from_34 w n 163 (nI y) (nI m) A (nI k) K) (orB (fun r => bt (bk p x h m (one y)) r)) (fun A => some (A, K)) (pR p) (by
          intro n A
          rw [f_X12_from_34, X12_rooms_eq, bI_some, hRc, if_pos (Int32.le_refl _)]) (by
          intro n A k hk
          have hco := come_iff (x := x) (h := h) hp (r := k) (y := y) (m := m) (by omega) (by omega) (by omega)
          rw [f_X12_from_34, X12_rooms_eq, bI_some, hRc, if_neg (fun h => by have := (nI_leI (by omega) (by omega)).mp h; omega), X12_arrivesBy_eq w hw hp hrK o2 k y, bI_some, or_0, nI_1]
          rw [show orB (fun r => bt (bk p x h m (one y)) r) k A = if bt (bk p x h m (one y)) k then A ||| one k else A from rfl]
          cases ev : bt (bk p x h m (one y)) k
          · rcases hco.mpr ev with c | c
            · rw [if_pos c]; rfl
            · by_cases c0 : fdy (fun k_1 => bit (wk p x h (one k) k_1) y) 41 0 < 0
              · rw [if_pos c0]; rfl
              · rw [if_neg c0, if_pos c]; rfl
          · have n1 : ¬ fdy (fun k_1 => bit (wk p x h (one k) k_1) y) 41 0 < 0 := fun c => by rw [hco.mp (Or.inl c)] at ev; cases ev
            have n2 : ¬ nI m < fdy (fun k_1 => bit (wk p x h (one k) k_1) y) 41 0 := fun c => by rw [hco.mp (Or.inr c)] at ev; cases ev
            rw [if_neg n1, if_neg n2]; rfl) (show pR p < w by omega) 0
        refine Eq.trans key ?_
        congr 2
        rw [itG_mask]
        apply b_ext
        intro i hi
        rw [mask_bt _ _ _ (by omega) i hi, b_0, Bool.false_or]
        cases ev : bt (bk p x h m (one y)) i
        · rw [Bool.and_false]
        · have := bk_in (x := x) (h := h) hp m (one y) (inR_one hy (by omega)) i hi ev
          rw [decide_eq_true (by omega)]; rfl
end WALK
