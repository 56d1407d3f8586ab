/-! ===== days told: a line ===== -/
def LdC (M : mM) (l : LN) : Prop := M.1 28 2 = nI l.1 ∧ ∀ i, i < l.1 → M.1 29 i = nI (l.2.1 i + 8 * l.2.2.1 i + 64 * l.2.2.2 i)
def LdR (M : mM) (l : LN) : Prop := ∀ i, i < l.1 → M.1 176 (125 + 3 * i) = nI (l.2.1 i) ∧ M.1 176 (126 + 3 * i) = nI (l.2.2.1 i) ∧ M.1 176 (127 + 3 * i) = nI (l.2.2.2 i)
def lnA (l : LN) (k d q : Nat) : LN := (l.1 + 1, (fun i => if i = l.1 then k else l.2.1 i), (fun i => if i = l.1 then d else l.2.2.1 i), fun i => if i = l.1 then q else l.2.2.2 i)
def FyC (M N : mM) : Prop := (∀ c, c ≠ 25 → c ≠ 28 → c ≠ 29 → N.1 c = M.1 c) ∧ (∀ c j, (c ≠ 25 ∨ j ≠ 5) → N.2 c j = M.2 c j) ∧ N.1 25 1 = M.1 25 1
def FyR (M N : mM) : Prop := (∀ c, c ≠ 163 → c ≠ 176 → N.1 c = M.1 c) ∧ N.2 = M.2 ∧ (∀ j, j ≠ 7 → j ≠ 8 → N.1 163 j = M.1 163 j) ∧ ∀ j, j < 125 → N.1 176 j = M.1 176 j
/-- a line of days, read by both; behind it the reference goes on -/
def Dlo (w n' : Nat) (t : TX) (m : Nat) (p : HP) (M0 K0 : mM) (i0 : Nat) (rc rr : Option (Int32 × mM)) : Prop := ∃ N K, FyC M0 N ∧ FyR K0 K ∧ ((∃ i l, rc = some (1, N) ∧ rr = f_X12_days_11 w (n' + 1) 163 (nI l.1) K ∧ i0 < i ∧ AtC N t i ∧ AtR K t m i ∧ LdC N l ∧ LdR K l ∧ okLn p l) ∨ ∃ e, rc = some (0, N) ∧ rr = some (nI e, K) ∧ ErC N e ∧ 0 < e ∧ e < 100000)
section DAYS
variable {p : HP} {l : LN} {E : NE} {t : TX} {M N K : mM}
theorem FyC.rf (M : mM) : FyC M M := ⟨fun _ _ _ _ => rfl, fun _ _ _ => rfl, rfl⟩
theorem FyC.tr (f : FyC M N) (g : FyC N K) : FyC M K := ⟨fun c a b d => (g.1 c a b d).trans (f.1 c a b d), fun c j h => (g.2.1 c j h).trans (f.2.1 c j h), g.2.2.trans f.2.2⟩
theorem FrB.y (f : FrB M N) : FyC M N := ⟨fun c h _ _ => f.1 c h, f.2.1, f.2.2⟩
theorem FyR.rf (M : mM) : FyR M M := ⟨fun _ _ _ => rfl, rfl, fun _ _ _ => rfl, fun _ _ => rfl⟩
theorem FyR.tr (f : FyR M N) (g : FyR N K) : FyR M K := ⟨fun c a b => (g.1 c a b).trans (f.1 c a b), g.2.1.trans f.2.1, fun j a b => (g.2.2.1 j a b).trans (f.2.2.1 j a b), fun j h => (g.2.2.2 j h).trans (f.2.2.2 j h)⟩
theorem FrY.y (f : FrY M N) : FyR M N := ⟨fun c h _ => f.1 c h, f.2.1, f.2.2, fun j _ => by rw [f.1 176 (by decide)]⟩
theorem FyR.w (K : mM) {j : Nat} (hj : 125 ≤ j) (y : Int32) : FyR K (wI K 176 j y) := ⟨fun c _ h => rIc _ _ _ _ h, rfl, fun j _ _ => by rw [rIc _ _ _ _ (by decide)], fun i hi => by rw [rI, if_pos rfl, if_neg (by omega)]⟩
theorem AtR.w176 {m i : Nat} (h : AtR K t m i) (j : Nat) (y : Int32) : AtR (wI K 176 j y) t m i := by
  obtain ⟨a1, a2, a3, a4, a5⟩ := h
  exact ⟨a1.fr (rIc _ _ _ _ (by decide)) (rIc _ _ _ _ (by decide)) (by rw [rI2]), a2, by rw [rIc _ _ _ _ (by decide)]; exact a3, by rw [rIc _ _ _ _ (by decide)]; exact a4, fun k hk => by rw [rI2]; exact a5 k hk⟩
theorem ErR.w176 {e : Nat} (h : ErR K e) (j : Nat) (y : Int32) : ErR (wI K 176 j y) e := ⟨by rw [rIc _ _ _ _ (by decide)]; exact h.1, h.2⟩
theorem LdC.fb (h : LdC M l) (f : FrB M N) : LdC N l := ⟨by rw [f.1 28 (by decide)]; exact h.1, fun i hi => by rw [f.1 29 (by decide)]; exact h.2 i hi⟩
theorem LdR.fy (h : LdR M l) (f : FrY M N) : LdR N l := fun i hi => by rw [f.1 176 (by decide)]; exact h i hi
/-- the reference behind a fault -/
theorem dy139_er (w n' : Nat) {e : Nat} (x : Int32) (h : ErR K e) : f_X12_days_139 w (f_X12_days_11 w (n' + 1)) 163 x K = some (nI e, K) := by
  unfold f_X12_days_139
  rw [X12_takeSign_er w 59 h, bV_some, f_X12_days_11, if_neg h.ne]
  unfold f_X12_days_148
  rw [if_neg h.nle, h.1]
theorem dy135_er (w n' : Nat) {e z : Nat} (x q : Int32) (h : ErR K e) (hz : z < 250) (hz2 : 125 ≤ z) : ∃ K1, f_X12_days_135 w (f_X12_days_11 w (n' + 1)) 163 x q (nI z) 176 K = some (nI e, K1) ∧ FyR K K1 := by
  refine ⟨wI K 176 z q, ?_, FyR.w K hz2 _⟩
  unfold f_X12_days_135
  rw [l176, chk_nI _ hz (by omega), nI_clamp (by omega), lt_eq, dy139_er w n' _ (h.w176 _ _)]
theorem dy112_er (w n' : Nat) {e n k : Nat} (x q : Int32) (h : ErR K e) (hn : n < 40) (hk : k ≤ 4) : ∃ K1, f_X12_days_112 w (f_X12_days_11 w (n' + 1)) 163 x (nI k) (nI (125 + 3 * n)) q (nI (125 + 3 * n) + 2) 176 K = some (nI e, K1) ∧ FyR K K1 := by
  have e2 : nI (125 + 3 * n) + 2 = nI (127 + 3 * n) := by
    rw [show (2 : Int32) = nI 2 from rfl, nI_add]; congr 1; omega
  have e1 : nI (125 + 3 * n) + 1 = nI (126 + 3 * n) := by
    rw [nI_1]; congr 1; omega
  have h1 := h.w176 (127 + 3 * n) q
  obtain ⟨K1, a1, a2⟩ := dy135_er w n' x 0 h1 (z := 126 + 3 * n) (by omega) (by omega)
  refine ⟨K1, ?_, (FyR.w K (by omega) _).tr a2⟩
  unfold f_X12_days_112
  rw [e2, e1, l176, chk_nI _ (by omega) (by omega), nI_clamp (by omega), lt_eq, r163_21, X12_takeNumber_er w 0 7 h1, bI_some, ite_self, a1]
theorem lin_enc : ∀ k, k < 8 → ∀ d, d < 8 → ∀ q, q < 8 → (nI k ||| (nI d <<< ((3 : Int32) &&& 31))) ||| (nI q <<< ((6 : Int32) &&& 31)) = nI (k + 8 * d + 64 * q) := by decide +kernel
theorem okLn_add (o : okLn p l) (hl : l.1 < 40) {k d q : Nat} (hk : k ≤ 4) (hd : d < 8) (hq : q < 8) (hp : k = 1 → q < pP p) : okLn p (lnA l k d q) := by
  refine ⟨by show l.1 + 1 ≤ 40; omega, fun i hi => ?_⟩
  have hi : i < l.1 + 1 := hi
  show (if i = l.1 then k else l.2.1 i) ≤ 4 ∧ (if i = l.1 then d else l.2.2.1 i) < 8 ∧ (if i = l.1 then q else l.2.2.2 i) < 8 ∧ ((if i = l.1 then k else l.2.1 i) = 1 → (if i = l.1 then q else l.2.2.2 i) < pP p)
  by_cases z : i = l.1
  · simp only [if_pos z]; exact ⟨hk, hd, hq, hp⟩
  · simp only [if_neg z]; exact o.2 i (by omega)
/-- the line's end -/
theorem dy_end (w : Nat) (hw : 1100 ≤ w) (ht : okT t) {M0 K0 : mM} {m i i0 n' k d q : Nat} (fM : FyC M0 M) (fK : FyR K0 K) (aC : AtC M t i) (aR : AtR K t m i) (lC : LdC M l) (lR : LdR K l) (e1 : K.1 176 (125 + 3 * l.1) = nI k) (e2 : K.1 176 (127 + 3 * l.1) = nI q) (o : okLn p l) (hl : l.1 < 40) (hk : k ≤ 4) (hd : d < 8) (hq : q < 8) (hp : k = 1 → q < pP p) (hi : i0 ≤ i) : Dlo w n' t m p M0 K0 i0 (f_X0_readLine_88 w 28 (nI k) (nI q) (nI d) M) (f_X12_days_135 w (f_X12_days_11 w (n' + 1)) 163 (nI l.1) (nI d) (nI (126 + 3 * l.1)) 176 K) := by
  have aR' := aR.w176 (126 + 3 * l.1) (nI d)
  have lR' : LdR (wI K 176 (126 + 3 * l.1) (nI d)) (lnA l k d q) := fun i hi => by
    have hi : i < l.1 + 1 := hi
    show _ = nI (if i = l.1 then k else l.2.1 i) ∧ _ = nI (if i = l.1 then d else l.2.2.1 i) ∧ _ = nI (if i = l.1 then q else l.2.2.2 i)
    by_cases z : i = l.1
    · subst z
      refine ⟨?_, ?_, ?_⟩
      · rw [rI, if_pos rfl, if_neg (by omega), if_pos rfl]; exact e1
      · rw [rI, if_pos rfl, if_pos rfl, if_pos rfl]
      · rw [rI, if_pos rfl, if_neg (by omega), if_pos rfl]; exact e2
    · obtain ⟨z1, z2, z3⟩ := lR i (by omega)
      refine ⟨?_, ?_, ?_⟩
      · rw [rI, if_pos rfl, if_neg (by omega), if_neg z]; exact z1
      · rw [rI, if_pos rfl, if_neg (by omega), if_neg z]; exact z2
      · rw [rI, if_pos rfl, if_neg (by omega), if_neg z]; exact z3
  have fK' := fK.tr (FyR.w K (show 125 ≤ 126 + 3 * l.1 by omega) (nI d))
  unfold f_X12_days_135 f_X12_days_139
  rw [l176, chk_nI _ (by omega) (by omega), nI_clamp (by omega), lt_eq, nI_1]
  generalize wI K 176 (126 + 3 * l.1) (nI d) = K1 at aR' lR' fK' ⊢
  unfold f_X0_readLine_88 f_X9_line
  rw [if_neg (m1_ne d (by omega)), lin_enc k (by omega) d hd q hq, bI_some, lC.1, r28_0, r28_1, l29, chk_nI _ (by omega) (by omega), nI_clamp (by omega), lt_eq, rIc _ _ _ _ (show 28 ≠ 29 by decide), lC.1, nI_1, lt_eq]
  have g1 : ∀ c, c ≠ 28 → c ≠ 29 → (wI (wI M 29 l.1 (nI (k + 8 * d + 64 * q))) 28 2 (nI (l.1 + 1))).1 c = M.1 c := fun c h1 h2 => by rw [rIc _ _ _ _ h1, rIc _ _ _ _ h2]
  have lC' : LdC (wI (wI M 29 l.1 (nI (k + 8 * d + 64 * q))) 28 2 (nI (l.1 + 1))) (lnA l k d q) := by
    refine ⟨by rw [rI, if_pos rfl, if_pos rfl]; rfl, fun i hi => ?_⟩
    have hi : i < l.1 + 1 := hi
    show _ = nI ((if i = l.1 then k else l.2.1 i) + 8 * (if i = l.1 then d else l.2.2.1 i) + 64 * (if i = l.1 then q else l.2.2.2 i))
    rw [rIc _ _ _ _ (by decide), rI, if_pos rfl]
    by_cases z : i = l.1
    · rw [if_pos z, if_pos z, if_pos z, if_pos z]
    · rw [if_neg z, if_neg z, if_neg z, if_neg z]; exact lC.2 i (by omega)
  have g2 : (wI (wI M 29 l.1 (nI (k + 8 * d + 64 * q))) 28 2 (nI (l.1 + 1))).2 = M.2 := rfl
  generalize wI (wI M 29 l.1 (nI (k + 8 * d + 64 * q))) 28 2 (nI (l.1 + 1)) = M1 at g1 g2 lC' ⊢
  have aC' : AtC M1 t i := aC.fb (g1 25 (by decide) (by decide)) (g1 26 (by decide) (by decide)) (by rw [g2])
  have fM' : FyC M0 M1 := fM.tr ⟨fun c _ h1 h2 => g1 c h1 h2, fun c j _ => by rw [g2], by rw [g1 25 (by decide) (by decide)]⟩
  have o' := okLn_add o hl hk hd hq hp
  obtain ⟨N, n1, n2⟩ := X10_takeSign_eq w hw ht aC' (c := 59) (by omega)
  obtain ⟨K2, k1, k2, k3⟩ := X12_takeSign_eq w ht aR' (c := 59) (by omega)
  refine ⟨N, K2, fM'.tr n1.y, fK'.tr k2.y, ?_⟩
  rw [show f_X12_takeSign w 163 59 K1 = _ from k1, bV_some]
  rcases n2 with ⟨y1, y2, y3⟩ | ⟨y1, y2, y3⟩
  · rcases k3 with ⟨-, z2⟩ | ⟨z1, -⟩
    · refine Or.inl ⟨i + 1, lnA l k d q, ?_, rfl, by omega, y3, z2, lC'.fb n1, lR'.fy k2, o'⟩
      rw [show f_X10_takeSign w 25 59 M1 = _ from y2, bI_some]; rfl
    · rw [y1] at z1; cases z1
  · rcases k3 with ⟨z1, -⟩ | ⟨-, z2⟩
    · rw [y1] at z1; cases z1
    · refine Or.inr ⟨_, ?_, ?_, y3, z2.2⟩
      · rw [show f_X10_takeSign w 25 59 M1 = _ from y2, bI_some]; rfl
      · rw [f_X12_days_11, if_neg z2.ne]
        unfold f_X12_days_148
        rw [if_neg z2.nle, z2.1]
theorem X0_deedTold_eq (w : Nat) {i : Nat} (h : AtC M t i) : ∃ v, f_X0_deedTold w 28 M = some (v, M) ∧ ((v = -1 ∧ ∀ k, k < 5 → isW t i (7 + k) = false) ∨ ∃ k, k < 5 ∧ v = nI k ∧ isW t i (7 + k) = true) := by
  have e0 := X10_isWord_eq w h (k := 7) (by omega) (show (6578553 : Int64) = _ by decide +kernel)
  have e1 := X10_isWord_eq w h (k := 8) (by omega) (show (2002873451 : Int64) = _ by decide +kernel)
  have e2 := X10_isWord_eq w h (k := 9) (by omega) (show (482854661733 : Int64) = _ by decide +kernel)
  have e3 := X10_isWord_eq w h (k := 10) (by omega) (show (512802187109 : Int64) = _ by decide +kernel)
  have e4 := X10_isWord_eq w h (k := 11) (by omega) (show (439956431717 : Int64) = _ by decide +kernel)
  unfold f_X0_deedTold
  rw [r28_0, e0, bI_some]
  cases q0 : isW t i 7
  · rw [if_pos (show b2i false = 0 from rfl), e1, bI_some]
    cases q1 : isW t i 8
    · rw [if_pos (show b2i false = 0 from rfl), e2, bI_some]
      cases q2 : isW t i 9
      · rw [if_pos (show b2i false = 0 from rfl), e3, bI_some]
        cases q3 : isW t i 10
        · rw [if_pos (show b2i false = 0 from rfl), e4, bI_some]
          cases q4 : isW t i 11
          · refine ⟨-1, rfl, Or.inl ⟨rfl, fun k hk => ?_⟩⟩
            have : k = 0 ∨ k = 1 ∨ k = 2 ∨ k = 3 ∨ k = 4 := by omega
            rcases this with rfl | rfl | rfl | rfl | rfl
            · exact q0
            · exact q1
            · exact q2
            · exact q3
            · exact q4
          · exact ⟨4, rfl, Or.inr ⟨4, by omega, rfl, q4⟩⟩
        · exact ⟨3, rfl, Or.inr ⟨3, by omega, rfl, q3⟩⟩
      · exact ⟨2, rfl, Or.inr ⟨2, by omega, rfl, q2⟩⟩
    · exact ⟨1, rfl, Or.inr ⟨1, by omega, rfl, q1⟩⟩
  · exact ⟨0, rfl, Or.inr ⟨0, by omega, rfl, q0⟩⟩
/-- the door's number, and the end -/
theorem dy_num (w : Nat) (hw : 1100 ≤ w) (ht : okT t) {M0 K0 : mM} {m i i0 n' k q : Nat} (fM : FyC M0 M) (fK : FyR K0 K) (aC : AtC M t i) (aR : AtR K t m i) (lC : LdC M l) (lR : LdR K l) (e1 : K.1 176 (125 + 3 * l.1) = nI k) (o : okLn p l) (hl : l.1 < 40) (hk : k ≤ 4) (hq : q < 8) (hp : k = 1 → q < pP p) (hi : i0 ≤ i) : Dlo w n' t m p M0 K0 i0 (f_X0_readLine_71 w 28 (nI k) (nI q) M) (f_X12_days_112 w (f_X12_days_11 w (n' + 1)) 163 (nI l.1) (nI k) (nI (125 + 3 * l.1)) (nI q) (nI (125 + 3 * l.1) + 2) 176 K) := by
  have x2 : nI (125 + 3 * l.1) + 2 = nI (127 + 3 * l.1) := by
    rw [show (2 : Int32) = nI 2 from rfl, nI_add]; congr 1; omega
  have x1 : nI (125 + 3 * l.1) + 1 = nI (126 + 3 * l.1) := by
    rw [nI_1]; congr 1; omega
  have aR' := aR.w176 (127 + 3 * l.1) (nI q)
  have lR' : LdR (wI K 176 (127 + 3 * l.1) (nI q)) l := fun i hi => by
    rw [rI, rI, rI, if_pos rfl, if_pos rfl, if_pos rfl, if_neg (by omega), if_neg (by omega), if_neg (by omega)]; exact lR i hi
  have fK' := fK.tr (FyR.w K (show 125 ≤ 127 + 3 * l.1 by omega) (nI q))
  have e1' : (wI K 176 (127 + 3 * l.1) (nI q)).1 176 (125 + 3 * l.1) = nI k := by rw [rI, if_pos rfl, if_neg (by omega)]; exact e1
  have e2' : (wI K 176 (127 + 3 * l.1) (nI q)).1 176 (127 + 3 * l.1) = nI q := by rw [rI, if_pos rfl, if_pos rfl]
  unfold f_X12_days_112
  rw [x2, x1, l176, chk_nI _ (by omega) (by omega), nI_clamp (by omega), lt_eq, r163_21]
  generalize wI K 176 (127 + 3 * l.1) (nI q) = K1 at aR' lR' fK' e1' e2' ⊢
  unfold f_X0_readLine_71
  by_cases k0 : k = 0
  · rw [if_pos (show nI k = 0 by rw [k0]; rfl), if_pos (show nI k = 0 by rw [k0]; rfl)]
    exact dy_end w hw ht fM fK' aC aR' lC lR' e1' e2' o hl hk (d := 0) (by omega) hq hp hi
  · have kn : ¬ nI k = 0 := fun e => k0 ((nI_eq (b := 0) (by omega) (by omega)).mp e)
    rw [if_neg kn, if_neg kn, r28_0]
    obtain ⟨N, n1, n2⟩ := X10_takeNumber_eq w hw ht aC (u := 7) (by omega)
    obtain ⟨K2, k1, k2⟩ := X12_takeNumber_eq w ht aR' (u := 7) (by omega)
    rcases n2 with ⟨y1, y2, y3⟩ | ⟨y1, y2, y3⟩
    · rcases k2 with ⟨-, z2, z3⟩ | ⟨z1, -⟩
      · have hle := isU_le y1
        rw [show f_X10_takeNumber w 25 7 M = _ from y2, bI_some, show f_X12_takeNumber w 163 0 7 K1 = _ from z2, bI_some]
        exact dy_end w hw ht (fM.tr n1.y) (fK'.tr k1.y) y3 z3 (lC.fb n1) (lR'.fy k1) (by rw [k1.1 176 (by decide)]; exact e1') (by rw [k1.1 176 (by decide)]; exact e2') o hl hk (by omega) hq hp (by omega)
      · rw [y1] at z1; cases z1
    · rcases k2 with ⟨z1, -⟩ | ⟨-, z2, z3⟩
      · rw [y1] at z1; cases z1
      · obtain ⟨K3, a1, a2⟩ := dy135_er w n' (nI l.1) 0 z3 (z := 126 + 3 * l.1) (by omega) (by omega)
        rw [show f_X12_takeNumber w 163 0 7 K1 = _ from z2, bI_some, a1]
        refine ⟨N, K3, fM.tr n1.y, fK'.tr (k1.y.tr a2), Or.inr ⟨_, ?_, rfl, y3, z3.2⟩⟩
        rw [show f_X10_takeNumber w 25 7 M = _ from y2, bI_some]
        unfold f_X0_readLine_88
        rw [if_pos rfl]; rfl
/-- one round of the reference's loop -/
def drR (w n' : Nat) (x1 : Int32) (M : mM) : Option (Int32 × mM) := bI (f_X12_wordHere w 163 7 5 M) fun q2 M1 => (if 0 ≤ q2 then (if x1 = 40 then bV (f_X12_wrong w 163 5 M1) fun M8 => (f_X12_days_139 w (f_X12_days_11 w n') 163 x1 M8) else lt (wI M1 163 7 ((M1.1 163 7) + 1)) fun M3 => lt (125 + (3 * x1)) fun y4 => chk y4 (sL (rF 163 21)) (lt (wI M3 (rF 163 21) y4.toNatClampNeg q2) fun M5 => (if q2 = 1 then bI (f_X12_takeTold w 163 0 20 0 M5) fun q7 M6 => (f_X12_days_112 w (f_X12_days_11 w n') 163 x1 q2 y4 q7 (y4 + 2) (rF 163 21) M6) else (f_X12_days_112 w (f_X12_days_11 w n') 163 x1 q2 y4 0 (y4 + 2) (rF 163 21) M5)))) else bV (f_X12_wrong w 163 1 M1) fun M9 => (f_X12_days_139 w (f_X12_days_11 w n') 163 x1 M9))
theorem dy_line (w : Nat) (hw : 1100 ≤ w) (ht : okT t) (hp : okP p) (oE : okE p E) {m i n' : Nat} (aC : AtC M t i) (aR : AtR K t m i) (lC : LdC M l) (lR : LdR K l) (o : okLn p l) (hM : M.1 1 2 = nI (pP p)) (hE : ∀ j, j < E.1 → 20 ≤ E.2.2 j → M.2 3 (E.2.2 j - 20) = cvW (E.2.1 j)) (hN : NmR K 172 174 18 E) (hk : tkK t (psn t i) ≠ 0) : Dlo w n' t m p M K i (f_X0_readLine w 28 1 M) (drR w (n' + 1) (nI l.1) K) := by
  have hl40 := o.1
  have hp5 := hp.2.2.1
  obtain ⟨v, v1, v2⟩ := X0_deedTold_eq w aC
  obtain ⟨v', w1, w2⟩ := X12_wordHere_eq w hw aR (a := 7) (n := 5) (by omega)
  unfold f_X0_readLine drR
  rw [v1, bI_some, show f_X12_wordHere w 163 7 5 K = _ from w1, bI_some, lC.1, r28_0]
  rcases v2 with ⟨rfl, v3⟩ | ⟨k, v3, rfl, v4⟩
  · rcases w2 with ⟨rfl, -⟩ | ⟨k, w3, -, w4⟩
    · obtain ⟨N, n1, n2, n3⟩ := X10_refuse_eq w (c := 1) aC
      obtain ⟨K1, a1, a2, a3⟩ := X12_wrong_eq w ht (c := 1) aR (by omega) (by omega)
      rw [if_pos rfl, if_neg (by decide), show f_X12_wrong w 163 1 K = _ from a1, bV_some, dy139_er w n' _ a3]
      refine ⟨N, K1, n2.y, a2.y, Or.inr ⟨_, ?_, rfl, n3, a3.2⟩⟩
      rw [show f_X10_refuse w 25 1 M = _ from n1, bI_some]; rfl
    · rw [v3 k w3] at w4; cases w4
  · rcases w2 with ⟨-, w3⟩ | ⟨k', w3, rfl, w4⟩
    · rw [w3 k v3] at v4; cases v4
    · have ek := isW_uni (by omega) (by omega) v4 w4
      have ek : k = k' := by omega
      subst ek
      rw [if_neg (m1_ne k (by omega)), if_pos (show (0 : Int32) ≤ nI k from (nI_leI (a := 0) (by omega) (by omega)).mpr (by omega))]
      by_cases q : l.1 = 40
      · obtain ⟨N, n1, n2, n3⟩ := X10_refuse_eq w (c := 5) aC
        obtain ⟨K1, a1, a2, a3⟩ := X12_wrong_eq w ht (c := 5) aR (by omega) (by omega)
        rw [if_neg (show ¬ nI l.1 < 40 from fun e => by have := (nI_ltI (b := 40) (by omega) (by omega)).mp e; omega), if_pos (show nI l.1 = 40 by rw [q]; rfl), show f_X12_wrong w 163 5 K = _ from a1, bV_some, dy139_er w n' _ a3]
        refine ⟨N, K1, n2.y, a2.y, Or.inr ⟨_, ?_, rfl, n3, a3.2⟩⟩
        rw [show f_X10_refuse w 25 5 M = _ from n1, bI_some]; rfl
      · have hl : l.1 < 40 := by omega
        obtain ⟨g1, h1⟩ := aR.step hk
        obtain ⟨M1, m1, m2, m3⟩ := aC.adv w hw ht
        rw [if_pos (show nI l.1 < 40 from (nI_ltI (b := 40) (by omega) (by omega)).mpr hl), if_neg (show ¬ nI l.1 = 40 from fun e => q ((nI_eq (b := 40) (by omega) (by omega)).mp e)), m1, bV_some, aR.2.2.1, nI_1, lt_eq, show (3 : Int32) * nI l.1 = nI (3 * l.1) from pk_mul 3 _, show (125 : Int32) + nI (3 * l.1) = nI (125 + 3 * l.1) from nI_add 125 _, lt_eq, r163_21, l176, chk_nI _ (by omega) (by omega), nI_clamp (by omega), lt_eq]
        generalize wI K 163 7 (nI (i + 1)) = K1 at g1 h1 ⊢
        have lC1 := lC.fb m2.b
        have h2 := h1.w176 (125 + 3 * l.1) (nI k)
        have lR2 : LdR (wI K1 176 (125 + 3 * l.1) (nI k)) l := fun i hi => by
          rw [rI, rI, rI, if_pos rfl, if_pos rfl, if_pos rfl, if_neg (by omega), if_neg (by omega), if_neg (by omega)]; exact lR.fy g1 i hi
        have f2 : FyR K (wI K1 176 (125 + 3 * l.1) (nI k)) := g1.y.tr (FyR.w K1 (by omega) _)
        have e2 : (wI K1 176 (125 + 3 * l.1) (nI k)).1 176 (125 + 3 * l.1) = nI k := by rw [rI, if_pos rfl, if_pos rfl]
        generalize wI K1 176 (125 + 3 * l.1) (nI k) = K2 at h2 lR2 f2 e2 ⊢
        by_cases k1 : k = 1
        · have hE1 : ∀ j, j < E.1 → 20 ≤ E.2.2 j → M1.2 3 (E.2.2 j - 20) = cvW (E.2.1 j) := fun j a b => by rw [m2.2.1 3 _ (Or.inl (by decide))]; exact hE j a b
          have hN2 : NmR K2 172 174 18 E := ⟨by rw [f2.2.2.1 18 (by decide) (by decide)]; exact hN.1, fun j hj => by rw [f2.2.1, f2.1 174 (by decide) (by decide)]; exact hN.2 j hj⟩
          obtain ⟨M2, r1, r2⟩ := X0_walkerTold_eq w hw hp m3 (by rw [m2.1 1 (by decide)]; exact hM) oE hE1
          obtain ⟨K3, s1, s2⟩ := X12_takeTold_eq (p := p) w hw ht h2 oE ⟨hp.1, hp5⟩ false hN2 (base := 20) (by omega) 0
          have kk : nI k = 1 := by rw [k1]; rfl
          rw [if_pos kk, if_pos kk]
          rcases r2 with ⟨v, r3, r4, r5, r6⟩ | ⟨c, r3, r4, r5⟩
          · rcases s2 with ⟨v', s3, s4, s5⟩ | ⟨c', s3, -⟩
            · rw [r3] at s3
              have ev := Sum.inr.inj s3
              subst ev
              subst r6
              obtain ⟨M3, t1, t2, t3⟩ := m3.adv w hw ht
              rw [r5, bI_some, if_neg (m1_ne v (by omega)), t1, bV_some, show f_X12_takeTold w 163 0 20 0 K2 = _ from s4, bI_some]
              exact dy_num w hw ht ((m2.b.y).tr t2.b.y) (f2.tr s1.y) t3 s5 (lC1.fb t2.b) (lR2.fy s1) (by rw [s1.1 176 (by decide)]; exact e2) o hl (by omega) (by omega) (fun _ => r4) (by omega)
            · rw [r3] at s3; cases s3
          · rcases s2 with ⟨v', s3, -⟩ | ⟨c', s3, -, -, s4, s5⟩
            · rw [r3] at s3; cases s3
            · rw [r3] at s3
              have ec := Sum.inl.inj s3
              subst ec
              obtain ⟨K4, a1, a2⟩ := dy112_er w n' (nI l.1) 0 s5 hl (k := k) (by omega)
              rw [show f_X12_takeTold w 163 0 20 0 K2 = _ from s4, bI_some, a1]
              refine ⟨M2, K4, (m2.b.y).tr r1.y, f2.tr (s1.y.tr a2), Or.inr ⟨_, ?_, rfl, r5, s5.2⟩⟩
              rw [r4, bI_some, if_pos rfl]; rfl
        · have kn : ¬ nI k = 1 := fun e => k1 ((nI_eq (b := 1) (by omega) (by omega)).mp e)
          rw [if_neg kn, if_neg kn]
          exact dy_num w hw ht m2.b.y f2 m3 h2 lC1 lR2 e2 o hl (by omega) (q := 0) (by omega) (fun e => absurd e k1) (by omega)
end DAYS
