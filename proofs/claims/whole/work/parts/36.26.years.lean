/-! ===== years ===== -/
def ydd (p : HP) (a : Nat) (h : HS) : (Nat × HS) × Bool := if pD p = 0 then ((a, h), false) else ydo p a h
def yst (p : HP) (x : HX) (a : Nat) (h : HS) : Nat → (Nat × HS) × Nat
  | 0 => ((a, h), 0)
  | k + 1 => (((ydd p (yst p x a h k).1.1 (yst p x a h k).1.2).1.1, nx p x (dmp x (sDay (ydd p (yst p x a h k).1.1 (yst p x a h k).1.2).1.2)) (ydd p (yst p x a h k).1.1 (yst p x a h k).1.2).1.2), (yst p x a h k).2 + (if (ydd p (yst p x a h k).1.1 (yst p x a h k).1.2).2 then 1 else 0))
section YRS
variable {p : HP} {x : HX} {h : HS} {M N : mM}
theorem ydd_ok (hp : okP p) (hh : okS p h) {a : Nat} (ha : a < 2147483648) : okS p (ydd p a h).1.2 ∧ sDay (ydd p a h).1.2 = sDay h ∧ (ydd p a h).1.1 < 2147483648 := by
  unfold ydd
  split
  · exact ⟨hh, rfl, ha⟩
  · exact ydo_ok hp hh (by omega) a
theorem yst_ok (hp : okP p) (hh : okS p h) (hda : sDay h ≤ 1000) {a : Nat} (ha : a < 2147483648) : ∀ k, k ≤ 1000 → okS p (yst p x a h k).1.2 ∧ sDay (yst p x a h k).1.2 = sDay h + k ∧ (yst p x a h k).1.1 < 2147483648 := by
  intro k
  induction k with
  | zero => intro _; exact ⟨hh, rfl, ha⟩
  | succ k ih =>
    intro hk
    obtain ⟨a1, a2, a3⟩ := ih (by omega)
    obtain ⟨b1, b2, b3⟩ := ydd_ok hp a1 a3
    refine ⟨okS_nx b1 (by rw [b2, a2]; omega), ?_, b3⟩
    show sDay (ydd p (yst p x a h k).1.1 (yst p x a h k).1.2).1.2 + 1 = _
    rw [b2, a2]; omega
theorem yst_c (a : Nat) : ∀ k, (yst p x a h k).2 ≤ k := by
  intro k
  induction k with
  | zero => exact Nat.le_refl _
  | succ k ih =>
    show (yst p x a h k).2 + (if _ then 1 else 0) ≤ k + 1
    split <;> omega
theorem X9_swollenTogether_eq (w : Nat) (hw : 40 ≤ w) {o : Nat} (ho : o ∈ [31, 35, 41, 45, 49, 53, 57, 61, 65, 69, 73, 77, 81, 85, 89, 93, 97, 101, 119, 130, 141, 152]) (hp : okP p) (hc : PlC M 1 p) (hs : StC M o p h) : f_X9_swollenTogether w o M = some (nI (ssum h (pD p)), M) := by
  have hD := hp.2.1
  unfold f_X9_swollenTogether
  refine loopX (fun k (c : Nat) => c = ssum h k) (fun n (c : Nat) k => f_X9_swollenTogether_4 w n o (nI c) (nI k) M) (pD p) (fun r => r = some (nI (ssum h (pD p)), M)) ?_ ?_ (pD p) w 0 0 (by omega) (by omega) rfl
  · rintro n c rfl
    rw [f_X9_swollenTogether_4, (stF o ho).1, hc.2.1, if_pos (Int32.le_refl _)]
  · rintro n c k hk rfl
    refine Or.inr ⟨ssum h (k + 1), ?_, rfl⟩
    rw [f_X9_swollenTogether_4, (stF o ho).1, hc.2.1, if_neg (fun h => by have := (nI_leI (by omega) (by omega)).mp h; omega), (stF o ho).2.2.1, (stF o ho).2.2.2.2.2.1, chk_nI _ (by omega) (by omega), nI_clamp (by omega), (hs.2.2.1 k hk).2, nI_add, lt_eq, nI_1]
    rfl
theorem X12_sumOf_eq (w : Nat) (hw : 40 ≤ w) {b : Nat} (hb : b ≤ 1430) (hp : okP p) (hs : StR M b p h) : f_X12_sumOf w 163 (nI (b + 10)) (nI (pD p)) M = some (nI (ssum h (pD p)), M) := by
  have hD := hp.2.1
  unfold f_X12_sumOf
  refine loopX (fun k (c : Nat) => c = ssum h k) (fun n (c : Nat) k => f_X12_sumOf_5 w n 163 (nI (b + 10)) (nI (pD p)) (nI c) (nI k) M) (pD p) (fun r => r = some (nI (ssum h (pD p)), M)) ?_ ?_ (pD p) w 0 0 (by omega) (by omega) rfl
  · rintro n c rfl
    rw [f_X12_sumOf_5, if_pos (Int32.le_refl _)]
  · rintro n c k hk rfl
    refine Or.inr ⟨ssum h (k + 1), ?_, rfl⟩
    rw [f_X12_sumOf_5, if_neg (fun h => by have := (nI_leI (by omega) (by omega)).mp h; omega), r163_24, l179, nI_add, chk_nI _ (by omega) (by omega), nI_clamp (by omega), (hs.2.2.1 k hk).2, nI_add, lt_eq, nI_1]
    rfl
def yvl (p : HP) (s : (Nat × HS) × Nat) (c : Int32) : Int32 := if c = 0 then nI s.2 else if c = 1 then nI (pop (stkM p s.1.2)) else nI (ssum s.1.2 (pD p))
theorem X11_years_eq (w : Nat) (hw : 1100 ≤ w) (Q : QC p x h M) (R : QF p x h M) (a b c : Int32) : Al2 (f_X11_years w 0 a b c) (f_X12_years w 163 a b c) M := by
  have hp := Q.1
  have hx := Q.2.1
  have hh := Q.2.2.1
  have hda := Q.2.2.2.1
  have hD := hp.2.1
  have c26 : f_X11_years_26 w 0 a b c M = some (-1, M) := by
    unfold f_X11_years_26 f_X11_years_27
    rw [if_pos rfl]
  have bad : (a < 0 ∨ 9999 < a ∨ b < 1 ∨ 99 < b ∨ c < 0 ∨ 2 < c) → Al2 (f_X11_years w 0 a b c) (f_X12_years w 163 a b c) M := fun q => by
    refine (Al.of ⟨-1, ?_, ?_⟩).two
    · unfold f_X11_years
      rw [c26]
      by_cases q1 : a < 0
      · rw [if_pos q1]
      by_cases q2 : 9999 < a
      · rw [if_neg q1, if_pos q2]
      by_cases q3 : b < 1
      · rw [if_neg q1, if_neg q2, if_pos q3]
      by_cases q4 : 99 < b
      · rw [if_neg q1, if_neg q2, if_neg q3, if_pos q4]
      rw [if_neg q1, if_neg q2, if_neg q3, if_neg q4]
      unfold f_X11_years_27
      rw [if_neg (by decide)]
      by_cases q5 : c < 0
      · rw [if_pos q5]
      · rw [if_neg q5, if_neg (Int32.not_le.mpr (((((q.resolve_left q1).resolve_left q2).resolve_left q3).resolve_left q4).resolve_left q5))]
    · unfold f_X12_years
      rw [lt_eq, show wI M 163 0 0 = th0 M from rfl, X12_within_eq, bI_some]
      by_cases q1 : a < 0
      · rw [decide_eq_true q1]; rfl
      by_cases q2 : 9999 < a
      · rw [decide_eq_true q2, Bool.not_true, Bool.and_false]; rfl
      rw [decide_eq_false q1, decide_eq_false q2, if_neg (by decide), X12_within_eq, bI_some]
      by_cases q3 : b < 1
      · rw [decide_eq_true q3]; rfl
      by_cases q4 : 99 < b
      · rw [decide_eq_true q4, Bool.not_true, Bool.and_false]; rfl
      rw [decide_eq_false q3, decide_eq_false q4, if_neg (by decide), X12_within_eq, bI_some]
      by_cases q5 : c < 0
      · rw [decide_eq_true q5]; rfl
      · rw [decide_eq_true (((((q.resolve_left q1).resolve_left q2).resolve_left q3).resolve_left q4).resolve_left q5), Bool.not_true, Bool.and_false]; rfl
  by_cases q1 : a < 0
  · exact bad (Or.inl q1)
  by_cases q2 : 9999 < a
  · exact bad (Or.inr (Or.inl q2))
  by_cases q3 : b < 1
  · exact bad (Or.inr (Or.inr (Or.inl q3)))
  by_cases q4 : 99 < b
  · exact bad (Or.inr (Or.inr (Or.inr (Or.inl q4))))
  by_cases q5 : c < 0
  · exact bad (Or.inr (Or.inr (Or.inr (Or.inr (Or.inl q5)))))
  by_cases q6 : 2 < c
  · exact bad (Or.inr (Or.inr (Or.inr (Or.inr (Or.inr q6)))))
  obtain ⟨g, hg, rfl⟩ := nI_of2 (n := 9999) (M := 9999) rfl q1 (Int32.not_lt.mp q2)
  obtain ⟨m, hm, rfl⟩ := nI_of2 (n := 99) (M := 99) rfl (fun e => q3 (Int32.lt_trans e (by decide))) (Int32.not_lt.mp q4)
  have ok := yst_ok (x := x) hp hh hda (a := g) (by omega)
  -- the class
  have keyC : ∃ N, f_X11_years w 0 (nI g) (nI m) c M = some (yvl p (yst p x g h m) c, N) ∧ YC M N := by
    obtain ⟨M1, e1, f1, s1⟩ := X9_copyFrom_eq w mem35 mem31 (by omega) hp Q.2.2.2.2.2.2
    unfold f_X11_years f_X11_years_27
    rw [if_neg q1, if_neg q2, if_neg q3, if_neg q4, if_neg (by decide), if_neg q5, if_pos (Int32.not_lt.mp q6), r0_7, r0_6, e1, bV_some, nI_l (by omega), lt_eq]
    refine loopX (fun k (s : Nat × mM) => YC M s.2 ∧ s.1 = (yst p x g h k).2 ∧ s.2.2 0 14 = lN (yst p x g h k).1.1 ∧ StC s.2 35 p (yst p x g h k).1.2) (fun n (s : Nat × mM) k => f_X11_years_68 w n 0 (nI m) c (nI s.1) (nI k) s.2) m (fun r => ∃ N, r = some (yvl p (yst p x g h m) c, N) ∧ YC M N) ?_ ?_ m w 0 (0, wL M1 0 14 (lN g)) (by omega) (by omega) ⟨(YC.ofr f1 (by decide)).wL _, rfl, wL_at _ _ _ _, s1⟩
    · rintro n ⟨z, N⟩ ⟨f, e, eg, s⟩
      have e : z = _ := e
      have f : YC M N := f
      have s : StC N 35 p (yst p x g h m).1.2 := s
      have cN : PlC N 1 p := Q.2.2.2.2.1.fr (fun c h1 => f.1 c (by simp; omega))
      refine ⟨N, ?_, f⟩
      show f_X11_years_68 w (n + 1) 0 (nI m) c (nI z) (nI m) N = _
      rw [f_X11_years_68, if_pos (Int32.le_refl _)]
      unfold f_X11_years_107 yvl
      rw [r0_7, X9_stuckDoors_eq w (by omega) mem35 hp (ok m (by omega)).1 s cN.2.1, bI_some, J6_bitCount_eq w (stk_8 hp), bI_some, X9_swollenTogether_eq w (by omega) mem35 hp cN s, bI_some, e]
      by_cases c0 : c = 0
      · rw [if_pos c0, if_pos c0]
      · rw [if_neg c0, if_neg c0]
        by_cases c1 : c = 1
        · rw [if_pos c1, if_pos c1]
        · rw [if_neg c1, if_neg c1]
    · rintro n ⟨z, N⟩ k hk ⟨f, e, eg, s⟩
      have e : z = _ := e
      have f : YC M N := f
      have eg : N.2 0 14 = _ := eg
      have s : StC N 35 p (yst p x g h k).1.2 := s
      have cN : PlC N 1 p := Q.2.2.2.2.1.fr (fun c h1 => f.1 c (by simp; omega))
      have xN : XC N 1 x := Q.2.2.2.2.2.1.fr (fun c h1 => f.1 c (by simp; omega))
      obtain ⟨o1, o2, o3⟩ := ok k (by omega)
      obtain ⟨p1, p2, p3⟩ := ydd_ok hp o1 o3
      refine Or.inr ?_
      have deed : ∃ K, f_X11_years_68 w (n + 1) 0 (nI m) c (nI z) (nI k) N = f_X11_years_94 w (f_X11_years_68 w n) 0 (nI m) c (nI (yst p x g h (k + 1)).2) (nI k) K ∧ YC N K ∧ K.2 0 14 = lN (ydd p (yst p x g h k).1.1 (yst p x g h k).1.2).1.1 ∧ StC K 35 p (ydd p (yst p x g h k).1.1 (yst p x g h k).1.2).1.2 := by
        have e2 : (yst p x g h (k + 1)).2 = (yst p x g h k).2 + (if (ydd p (yst p x g h k).1.1 (yst p x g h k).1.2).2 then 1 else 0) := rfl
        rw [f_X11_years_68, if_neg (fun h => by have := (nI_leI (by omega) (by omega)).mp h; omega), r0_0, cN.2.1, e2, e]
        unfold ydd
        by_cases d0 : pD p = 0
        · rw [if_pos (by rw [d0]; decide), if_pos d0]
          exact ⟨N, rfl, YC.rf N, eg, s⟩
        · obtain ⟨K, eK, fK, gK, sK⟩ := X11_makeDrawnDeed_eq w hp o1 cN s (by omega) o3 eg
          rw [if_neg (nI_nle (by omega) (by omega)), if_neg d0, eK, bI_some, nI_1]
          refine ⟨K, ?_, fK, gK, sK⟩
          cases (ydo p (yst p x g h k).1.1 (yst p x g h k).1.2).2 <;> rfl
      obtain ⟨K, eK, fK, gK, sK⟩ := deed
      have cK : PlC K 1 p := cN.fr (fun c h1 => fK.1 c (by simp; omega))
      have xK : XC K 1 x := xN.fr (fun c h1 => fK.1 c (by simp; omega))
      obtain ⟨L, eL, fL, sL⟩ := X9_passDay_eq w hw mem35 hp hx p1 cK xK sK
      refine ⟨((yst p x g h (k + 1)).2, L), ?_, (f.tr fK).tr (YC.ofr fL (by decide)), rfl, by show L.2 0 14 = _; rw [fL.2]; exact gK, sL⟩
      show f_X11_years_68 w (n + 1) 0 (nI m) c (nI z) (nI k) N = f_X11_years_68 w n 0 (nI m) c (nI (yst p x g h (k + 1)).2) (nI (k + 1)) L
      rw [eK]
      unfold f_X11_years_94
      rw [r0_7, eL, bV_some, nI_1]
  obtain ⟨N, eN, fN⟩ := keyC
  have RN : QF p x h (th0 N) := (R.fr (N := N) (fun c h1 h2 => fN.1 c (by simp; omega)) (fun j _ => by rw [fN.1 179 (by decide)])).th0
  have keyR : ∃ K, f_X12_years w 163 (nI g) (nI m) c N = some (yvl p (yst p x g h m) c, K) ∧ FrT2 (th0 N) K := by
    obtain ⟨M1, e1, f1, s1, j1⟩ := X12_copies_eq w (a := 0) (b := 1430) (m := 23) (by omega) (by omega) (by omega) (by omega) (th0 N)
    have sM1 : StR M1 1430 p h := RN.2.2.2.2.2.2.copy hp s1
    have fM1 : FrT2 (th0 N) M1 := ⟨fun c h => f1.1 c (by simp at h ⊢; omega), fun c j _ => by rw [f1.2], fun j hj => j1 j (by omega)⟩
    unfold f_X12_years
    rw [lt_eq, show wI N 163 0 0 = th0 N from rfl, X12_within_eq, bI_some, decide_eq_false q1, decide_eq_false q2, if_neg (by decide), X12_within_eq, bI_some, decide_eq_false q3, decide_eq_false q4, if_neg (by decide), X12_within_eq, bI_some, decide_eq_false q5, decide_eq_false q6, if_neg (by decide), show f_X12_copies w 163 0 1430 23 (th0 N) = _ from e1, bV_some, nI_l (by omega), lt_eq]
    refine loopX (fun k (s : Nat × mM) => FrT2 (th0 N) s.2 ∧ s.1 = (yst p x g h k).2 ∧ s.2.2 163 31 = lN (yst p x g h k).1.1 ∧ StR s.2 1430 p (yst p x g h k).1.2) (fun n (s : Nat × mM) k => f_X12_years_59 w n 163 (nI m) c (nI s.1) (nI k) s.2) m (fun r => ∃ K, r = some (yvl p (yst p x g h m) c, K) ∧ FrT2 (th0 N) K) ?_ ?_ m w 0 (0, wL M1 163 31 (lN g)) (by omega) (by omega) ⟨fM1.wL _, rfl, wL_at _ _ _ _, sM1⟩
    · rintro n ⟨z, K⟩ ⟨f, e, eg, s⟩
      have e : z = _ := e
      have f : FrT2 (th0 N) K := f
      have s : StR K 1430 p (yst p x g h m).1.2 := s
      have rK : PlR K 0 p := RN.2.2.2.2.1.fr (f.1 169 (by decide))
      have hst := X12_sticking_eq w (by omega) (b := 1430) (by omega) hp (ok m (by omega)).1 s rK.2.1
      have hsm := X12_sumOf_eq w (by omega) (b := 1430) (by omega) hp s
      refine ⟨K, ?_, f⟩
      show f_X12_years_59 w (n + 1) 163 (nI m) c (nI z) (nI m) K = _
      rw [f_X12_years_59, if_pos (Int32.le_refl _)]
      unfold f_X12_years_102 yvl
      rw [show f_X12_sticking w 163 1430 K = _ from hst, bI_some, X12_bits_eq w (by omega) (stk_8 hp), bI_some, X12_doors_eq, bI_some, show K.1 169 1 = nI (pD p) from rK.2.1, show f_X12_sumOf w 163 1440 (nI (pD p)) K = _ from hsm, bI_some, e]
      by_cases c0 : c = 0
      · rw [if_pos c0, if_pos c0]
      · rw [if_neg c0, if_neg c0]
        by_cases c1 : c = 1
        · rw [if_pos c1, if_pos c1]
        · rw [if_neg c1, if_neg c1]
    · rintro n ⟨z, K⟩ k hk ⟨f, e, eg, s⟩
      have e : z = _ := e
      have f : FrT2 (th0 N) K := f
      have eg : K.2 163 31 = _ := eg
      have s : StR K 1430 p (yst p x g h k).1.2 := s
      have rK : PlR K 0 p := RN.2.2.2.2.1.fr (f.1 169 (by decide))
      have xK : XR K 0 0 x := RN.2.2.2.2.2.1.fr (f.1 169 (by decide)) (f.1 170 (by decide)) (f.1 171 (by decide))
      obtain ⟨o1, o2, o3⟩ := ok k (by omega)
      obtain ⟨p1, p2, p3⟩ := ydd_ok hp o1 o3
      refine Or.inr ?_
      have deed : ∃ K2, (f_X12_years_59 w (n + 1) 163 (nI m) c (nI z) (nI k) K = bV (f_X12_passes_ w 163 1430 K2) fun M2 => f_X12_years_59 w n 163 (nI m) c (nI (yst p x g h (k + 1)).2) (nI (k + 1)) M2) ∧ FrT2 K K2 ∧ K2.2 163 31 = lN (ydd p (yst p x g h k).1.1 (yst p x g h k).1.2).1.1 ∧ StR K2 1430 p (ydd p (yst p x g h k).1.1 (yst p x g h k).1.2).1.2 := by
        have e2 : (yst p x g h (k + 1)).2 = (yst p x g h k).2 + (if (ydd p (yst p x g h k).1.1 (yst p x g h k).1.2).2 then 1 else 0) := rfl
        rw [f_X12_years_59, if_neg (fun h => by have := (nI_leI (by omega) (by omega)).mp h; omega), X12_doors_eq, bI_some, show K.1 169 1 = nI (pD p) from rK.2.1, e2, e]
        unfold f_X12_years_85 f_X12_years_86 ydd
        by_cases d0 : pD p = 0
        · rw [if_pos (by rw [d0]; decide), if_pos d0, Int32.add_zero, lt_eq, nI_1]
          exact ⟨K, rfl, FrT2.rf K, eg, s⟩
        · obtain ⟨K2, eK, fK, gK, sK⟩ := X12_drawsDeed_eq w hp o1 rK s (by omega) o3 eg
          rw [if_neg (nI_nle (by omega) (by omega)), if_neg d0, eK, bI_some, Int32.add_zero, lt_eq, lt_eq, nI_1, nI_1]
          refine ⟨K2, ?_, fK, gK, sK⟩
          cases (ydo p (yst p x g h k).1.1 (yst p x g h k).1.2).2 <;> rfl
      obtain ⟨K2, eK, fK, gK, sK⟩ := deed
      obtain ⟨L, eL, fL, sL, jL⟩ := X12_passes__eq w hw hp hx p1 (rK.fr (fK.1 169 (by decide))) (xK.fr (fK.1 169 (by decide)) (fK.1 170 (by decide)) (fK.1 171 (by decide))) (b := 1430) (by omega) sK
      have fL2 : FrT2 K2 L := ⟨fun c h => fL.1 c (by simp at h ⊢; omega), fun c j _ => by rw [fL.2], fun j hj => jL j (by omega)⟩
      refine ⟨((yst p x g h (k + 1)).2, L), ?_, (f.tr fK).tr fL2, rfl, by show L.2 163 31 = _; rw [fL.2]; exact gK, sL⟩
      show f_X12_years_59 w (n + 1) 163 (nI m) c (nI z) (nI k) K = f_X12_years_59 w n 163 (nI m) c (nI (yst p x g h (k + 1)).2) (nI (k + 1)) L
      rw [eK, show f_X12_passes_ w 163 1430 K2 = _ from eL, bV_some]
  obtain ⟨K, eK, fK⟩ := keyR
  exact ⟨_, N, K, eN, ⟨fun c h => fN.1 c (by simp at h ⊢; omega), fN.2⟩, eK, fK⟩
end YRS
