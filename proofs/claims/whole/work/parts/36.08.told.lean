/-! ===== what was felt and said: who, wets ===== -/
abbrev FU : Type := (Nat × (Nat → Nat) × (Nat → Nat) × (Nat → Bool)) × Nat × (Nat → Nat) × (Nat → Nat)
def uF (u : FU) : Nat := u.1.1
def uFd (u : FU) : Nat → Nat := u.1.2.1
def uFn (u : FU) : Nat → Nat := u.1.2.2.1
def uFs (u : FU) : Nat → Bool := u.1.2.2.2
def uS (u : FU) : Nat := u.2.1
def uSr (u : FU) : Nat → Nat := u.2.2.1
def uSn (u : FU) : Nat → Nat := u.2.2.2
def okU (p : HP) (u : FU) : Prop := uF u ≤ 8 ∧ uS u ≤ 8 ∧ (∀ i, i < uF u → uFd u i < pD p ∧ 1 ≤ uFn u i ∧ uFn u i ≤ 30) ∧ ∀ i, i < uS u → uSr u i < pR p ∧ uSn u i ≤ 40
def UC (M : mM) (o : Nat) (u : FU) : Prop := M.1 o 0 = nI (uF u) ∧ M.1 o 1 = nI (uS u) ∧ (∀ i, i < uF u → M.1 (o + 1) i = nI (uFd u i) ∧ M.1 (o + 2) i = nI (uFn u i) ∧ M.1 (o + 3) i = b2i (uFs u i)) ∧ ∀ i, i < uS u → M.1 (o + 4) i = nI (uSr u i) ∧ M.1 (o + 5) i = nI (uSn u i)
def UR (M : mM) (b : Nat) (u : FU) : Prop := M.1 179 (b + 23) = nI (uF u) ∧ M.1 179 (b + 48) = nI (uS u) ∧ (∀ i, i < uF u → M.1 179 (b + 24 + 3 * i) = nI (uFd u i) ∧ M.1 179 (b + 25 + 3 * i) = nI (uFn u i) ∧ M.1 179 (b + 26 + 3 * i) = b2i (uFs u i)) ∧ ∀ i, i < uS u → M.1 179 (b + 49 + 2 * i) = nI (uSr u i) ∧ M.1 179 (b + 50 + 2 * i) = nI (uSn u i)
def alB (f : Nat → Bool) : Nat → Bool
  | 0 => true
  | n + 1 => alB f n && f n
section TOLD
variable {p : HP} {x : HX} {h : HS} {u : FU} {M N : mM}
theorem UC.fr {o : Nat} (hu : UC M o u) (e : ∀ c, o ≤ c → c ≤ o + 5 → N.1 c = M.1 c) : UC N o u := by
  unfold UC at hu ⊢
  rw [e o (by omega) (by omega), e (o + 1) (by omega) (by omega), e (o + 2) (by omega) (by omega), e (o + 3) (by omega) (by omega), e (o + 4) (by omega) (by omega), e (o + 5) (by omega) (by omega)]
  exact hu
theorem UR.fr {b : Nat} (ok : okU p u) (hu : UR M b u) (e : ∀ j, b + 23 ≤ j → j < b + 65 → N.1 179 j = M.1 179 j) : UR N b u := by
  obtain ⟨o1, o2, -, -⟩ := ok
  obtain ⟨h1, h2, h3, h4⟩ := hu
  refine ⟨?_, ?_, fun i hi => ⟨?_, ?_, ?_⟩, fun i hi => ⟨?_, ?_⟩⟩
  · rw [e _ (by omega) (by omega)]; exact h1
  · rw [e _ (by omega) (by omega)]; exact h2
  · rw [e _ (by omega) (by omega)]; exact (h3 i hi).1
  · rw [e _ (by omega) (by omega)]; exact (h3 i hi).2.1
  · rw [e _ (by omega) (by omega)]; exact (h3 i hi).2.2
  · rw [e _ (by omega) (by omega)]; exact (h4 i hi).1
  · rw [e _ (by omega) (by omega)]; exact (h4 i hi).2
/-- one in room r can have been where it was said, rumours below k -/
def cmq (p : HP) (x : HX) (h : HS) (u : FU) (r i : Nat) : Bool := bt (bk p x h (uSn u i) (one (uSr u i))) r
theorem X11_who_eq (w : Nat) (hw : 1100 ≤ w) (Q : QC p x h M) (R : QF p x h M) (ou : okU p u) (hu : UC M 105 u) (hv : UR M 0 u) : Al (f_X11_who w 0) (f_X12_who w 163) M := by
  obtain ⟨N, e, f, o⟩ := X5_look_eq w hw Q (m := 40) (by omega)
  have R2 := (R.fc (FC.of3 f)).th0
  obtain ⟨K, e2, f2, o2⟩ := X12_opensThen_eq w hw R2
  obtain ⟨hp, hx, hh, hd, hc, hxc, hs⟩ := Q
  have hR := hp.1
  have hP := hp.2.2.1
  obtain ⟨u1, u2, u3, u4⟩ := ou
  have hcN : PlC N 1 p := hc.fr (fun c h1 => f.1 c (by simp; omega))
  have hsN : StC N 31 p h := hs.fr (fun c h1 h2 => f.1 c (by simp; omega))
  have huN : UC N 105 u := hu.fr (fun c h1 h2 => f.1 c (by simp; omega))
  have hrK := f2.plr R2.2.2.2.2.1
  have hPK : K.1 169 2 = nI (pP p) := hrK.2.2.1
  have hvK : UR K 0 u := UR.fr (p := p) ⟨u1, u2, u3, u4⟩ hv (fun j h1 h2 => by rw [f2.2 j (by omega), th0_1 _ (by decide), f.1 179 (by decide)])
  have hsK : StR K 0 p h := f2.str hp (by omega) R2.2.2.2.2.2.2
  obtain ⟨-, hS, -, hSS⟩ := huN
  obtain ⟨-, vS, -, vSS⟩ := hvK
  have key : ∃ X, f_X11_who w 0 M = f_X11_who_70 w 0 X N ∧ ∀ r, r < 32 → bt X r = (decide (r < pR p) && alB (cmq p x h u r) (uS u)) := by
    unfold f_X11_who f_X6_allRooms
    rw [r0_0, hc.1, bI_some, r0_11, show f_X5_look w 156 40 M = some N from e, bV_some]
    refine loopX (fun k (X : Int32) => ∀ r, r < 32 → bt X r = (decide (r < pR p) && alB (cmq p x h u r) k)) (fun n (X : Int32) k => f_X11_who_19 w n 0 X (nI k) N) (uS u) (fun r => ∃ X, r = f_X11_who_70 w 0 X N ∧ ∀ r, r < 32 → bt X r = (decide (r < pR p) && alB (cmq p x h u r) (uS u))) ?_ ?_ (uS u) w 0 _ (by omega) (by omega) (fun r hr => by rw [bt_all _ (by omega) r hr]; exact (Bool.and_true _).symm)
    · intro n X i
      rw [f_X11_who_19, r0_9, hS, if_pos (Int32.le_refl _)]
      exact ⟨X, rfl, i⟩
    · intro n X k hk i
      have e3 := X5_roomsBehind_eq w hw hp hcN (y := uSr u k) (m := uSn u k) (u4 k hk).2 (fun j hj => o j (by have := (u4 k hk).2; omega))
      have g1 : N.1 109 k = nI (uSr u k) := (hSS k hk).1
      have g2 : N.1 110 k = nI (uSn u k) := (hSS k hk).2
      refine Or.inr ⟨X &&& bk p x h (uSn u k) (one (uSr u k)), ?_, fun r hr => ?_⟩
      · rw [f_X11_who_19, r0_9, hS, if_neg (fun h => by have := (nI_leI (by omega) (by omega)).mp h; omega), if_neg (fun h => by have := (nI_leI (a := 8) (by omega) (by omega)).mp h; omega), r105_5, r105_6, l109, l110, chk_nI _ (by omega) (by omega), chk_nI _ (by omega) (by omega), nI_clamp (by omega), g1, g2, r0_11, e3, bI_some, lt_eq, nI_1]
      · rw [b_and, i r hr, Bool.and_assoc]; rfl
  have key2 : ∃ X, f_X12_who w 163 N = some (X, K) ∧ ∀ q, q < 32 → bt X q = (decide (q < pP p) && alB (cmq p x h u (sPl h q)) (uS u)) := by
    unfold f_X12_who
    rw [lt_eq, show wI N 163 0 0 = th0 N from rfl, e2, bV_some, X12_persons_eq, bI_some, hPK, lt_eq]
    refine loopX (fun k (X : Int32) => ∀ q, q < 32 → bt X q = (decide (q < pP p) && alB (cmq p x h u (sPl h q)) k)) (fun n (X : Int32) k => f_X12_who_20 w n 163 X (nI k) K) (uS u) (fun r => ∃ X, r = some (X, K) ∧ ∀ q, q < 32 → bt X q = (decide (q < pP p) && alB (cmq p x h u (sPl h q)) (uS u))) ?_ ?_ (uS u) w 0 _ (by omega) (by omega) (fun r hr => by rw [bt_all _ (by omega) r hr]; exact (Bool.and_true _).symm)
    · intro n X i
      rw [f_X12_who_20, r163_24, l179, show (48 : Int32) = nI 48 from rfl, chk_nI _ (by omega) (by omega), nI_clamp (by omega), show K.1 179 48 = _ from vS, if_pos (Int32.le_refl _)]
      exact ⟨X, rfl, i⟩
    · intro n X k hk i
      refine Or.inr ?_
      have g1 : K.1 179 (49 + 2 * k) = nI (uSr u k) := by have := (vSS k hk).1; rw [Nat.zero_add] at this; exact this
      have g2 : K.1 179 (50 + 2 * k) = nI (uSn u k) := by have := (vSS k hk).2; rw [Nat.zero_add] at this; exact this
      obtain ⟨v1, v2⟩ := u4 k hk
      rw [f_X12_who_20, r163_24, l179, show (48 : Int32) = nI 48 from rfl, chk_nI _ (by omega) (by omega), nI_clamp (by omega), show K.1 179 48 = _ from vS, if_neg (fun h => by have := (nI_leI (by omega) (by omega)).mp h; omega), show (49 : Int32) + 2 * nI k = nI (49 + 2 * k) by rw [nx_lit, nx_lit, pk_mul, nI_add], lt_eq]
      refine loopX (fun q (Y : Int32) => ∀ r, r < 32 → bt Y r = (decide (r < pP p) && alB (cmq p x h u (sPl h r)) k && (if r < q then cmq p x h u (sPl h r) k else true))) (fun m (Y : Int32) q => f_X12_who_41 w (f_X12_who_20 w n) m 163 Y (nI k) (nI (49 + 2 * k)) (nI q) K) (pP p) (fun r => ∃ Y : Int32, r = f_X12_who_20 w n 163 Y (nI (k + 1)) K ∧ ∀ q, q < 32 → bt Y q = (decide (q < pP p) && alB (cmq p x h u (sPl h q)) (k + 1))) ?_ ?_ (pP p) w 0 X (by omega) (by omega) (fun r hr => by rw [i r hr, if_neg (by omega), Bool.and_true])
      · intro m Y j
        rw [f_X12_who_41, X12_persons_eq, bI_some, hPK, if_pos (Int32.le_refl _), nI_1]
        refine ⟨Y, rfl, fun q hq => ?_⟩
        rw [j q hq]
        by_cases a : q < pP p
        · rw [if_pos a, decide_eq_true a, Bool.true_and, Bool.true_and]; rfl
        · rw [decide_eq_false a]; rfl
      · intro m Y q hq j
        refine Or.inr ?_
        have gp : K.1 179 (18 + q) = nI (sPl h q) := by have := hsK.2.2.2 q hq; rw [Nat.zero_add] at this; exact this
        have hpl := hh.2.2 q hq
        have hco := come_iff (x := x) (h := h) hp (r := sPl h q) (y := uSr u k) (m := uSn u k) (by omega) (by omega) v2
        have e4 := X12_arrivesBy_eq w hw hp hrK o2 (sPl h q) (uSr u k)
        have step : f_X12_who_41 w (f_X12_who_20 w n) (m + 1) 163 Y (nI k) (nI (49 + 2 * k)) (nI q) K = f_X12_who_41 w (f_X12_who_20 w n) m 163 (if cmq p x h u (sPl h q) k then Y else Y &&& (one q ^^^ (-1))) (nI k) (nI (49 + 2 * k)) (nI (q + 1)) K := by
          rw [f_X12_who_41, X12_persons_eq, bI_some, hPK, if_neg (fun h => by have := (nI_leI (by omega) (by omega)).mp h; omega), r163_24, l179, show (18 : Int32) + nI q = nI (18 + q) by rw [nx_lit, nI_add], chk_nI _ (by omega) (by omega), chk_nI _ (by omega) (by omega), nI_clamp (by omega), nI_clamp (by omega), gp, g1, e4, bI_some, nI_1, nI_1, show 49 + 2 * k + 1 = 50 + 2 * k by omega, chk_nI _ (by omega) (by omega), nI_clamp (by omega), g2]
          unfold f_X12_who_95
          rw [nI_1]
          cases ev : cmq p x h u (sPl h q) k
          · rw [if_neg (show ¬ (false = true) by decide)]
            by_cases c0 : fdy (fun k_1 => bit (wk p x h (one (sPl h q)) k_1) (uSr u k)) 41 0 < 0
            · rw [if_pos c0]; rfl
            · rw [if_neg c0, if_pos ((hco.mpr ev).resolve_left c0)]; rfl
          · have n1 : ¬ fdy (fun k_1 => bit (wk p x h (one (sPl h q)) k_1) (uSr u k)) 41 0 < 0 := fun c => by have := hco.mp (Or.inl c); unfold cmq at ev; rw [this] at ev; cases ev
            have n2 : ¬ nI (uSn u k) < fdy (fun k_1 => bit (wk p x h (one (sPl h q)) k_1) (uSr u k)) 41 0 := fun c => by have := hco.mp (Or.inr c); unfold cmq at ev; rw [this] at ev; cases ev
            rw [if_neg n1, if_neg n2, if_pos (show true = true from rfl), lt_eq, show Y &&& (-1 : Int32) = Y from b_ext fun i hi => by rw [b_and, b_m1 i hi, Bool.and_true]]
        refine ⟨_, step, fun r hr => ?_⟩
        by_cases a : r = q
        · subst a
          rw [if_pos (show r < r + 1 by omega)]
          have j0 := j r hr
          rw [if_neg (show ¬ r < r by omega), Bool.and_true] at j0
          cases ev : cmq p x h u (sPl h r) k
          · rw [if_neg (show ¬ (false = true) by decide), b_and, b_xor, bt_one hr hr, b_m1 r hr, decide_eq_true rfl]; simp
          · rw [if_pos (show true = true from rfl), j0]; simp
        · have j0 := j r hr
          have e5 : bt (if cmq p x h u (sPl h q) k then Y else Y &&& (one q ^^^ (-1))) r = bt Y r := by
            cases cmq p x h u (sPl h q) k
            · rw [if_neg (show ¬ (false = true) by decide), b_and, b_xor, bt_one (by omega) hr, b_m1 r hr, decide_eq_false a]; simp
            · rw [if_pos rfl]
          rw [e5, j0]
          by_cases b : r < q
          · rw [if_pos b, if_pos (by omega)]
          · rw [if_neg b, if_neg (by omega)]
  obtain ⟨X, eX, bX⟩ := key
  obtain ⟨Y, eY, bY⟩ := key2
  have eXY : psM p h X = Y := by
    apply b_ext
    intro i hi
    unfold psM
    rw [bY i hi, mask_bt _ _ _ (by omega) i hi, b_0, Bool.false_or]
    by_cases a : i < pP p
    · have := hh.2.2 i a
      rw [decide_eq_true a, decide_eq_true (by omega), Bool.true_and, Bool.true_and, bit_bt _ (by omega), bX _ (by omega), decide_eq_true this, Bool.true_and]
    · rw [decide_eq_false a, decide_eq_false (by omega)]; rfl
  refine ⟨Y, N, K, ?_, FC.of3 f, eY, f2⟩
  rw [eX]
  unfold f_X11_who_70 f_X9_personsIn
  rw [r0_6, show (0 : Int32) = nI 0 from rfl, X9_personsIn_4_eq w mem31 hp hh hcN hsN X (pP p) w 0 _ (by omega) (by omega), bI_some, ← eXY]
  rfl
end TOLD
