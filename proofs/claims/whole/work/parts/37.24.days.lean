/-! ===== days told: the whole call ===== -/
def Dyr (w : Nat) (p : HP) (M0 K0 : mM) (rc rr : Option (Int32 × mM)) : Prop := ∃ N K, FyC M0 N ∧ FyR K0 K ∧ ((∃ l, rc = some (0, N) ∧ rr = f_X12_days_148 w 163 (nI l.1) K ∧ K.1 163 8 = 0 ∧ LdC N l ∧ LdR K l ∧ okLn p l) ∨ ∃ e, rc = some (nI e, N) ∧ rr = some (nI e, K) ∧ 0 < e ∧ e < 100000)
def FrGd (M N : mM) : Prop := (∀ c, c ≠ 163 → c ≠ 165 → c ≠ 166 → c ≠ 176 → N.1 c = M.1 c) ∧ (∀ c, c ≠ 167 → N.2 c = M.2 c) ∧ (∀ j, j ≠ 0 → j ≠ 2 → j ≠ 3 → j ≠ 7 → j ≠ 8 → N.1 163 j = M.1 163 j) ∧ (∀ j, j < 125 → N.1 176 j = M.1 176 j) ∧ N.1 163 2 = 0
section DAYS2
variable {p : HP} {x : HX} {h : HS} {u : FU} {H : HI} {k : MK} {l : LN} {E : NE} {t : TX} {M N K : mM} {B : Nat}
theorem dy_fin (w : Nat) {M0 K0 : mM} {m i n n' c : Nat} (fM : FyC M0 M) (fK : FyR K0 K) (aC : AtC M t i) (aR : AtR K t m i) (lC : LdC M l) (lR : LdR K l) (o : okLn p l) (hk : tkK t (psn t i) = 0) : Dyr w p M0 K0 (f_X0_read_14 w (n + 1) 28 1 (nI c) M) (f_X12_days_11 w (n' + 1) 163 (nI l.1) K) := by
  have hm := aR.1.1
  have him := aR.2.1
  refine ⟨M, K, fM, fK, Or.inl ⟨l, ?_, ?_, aR.2.2.2.1, lC, lR, o⟩⟩
  · rw [f_X0_read_14, r28_0, aC.2.2.1, hk, if_pos (show nI 0 = 0 from rfl), ite_self]
  · rw [f_X12_days_11, aR.2.2.2.1, if_pos rfl, aR.2.2.1, r163_4, l165, chk_nI _ (by omega) (by omega), nI_clamp (by omega), (aR.1.2.2.2 i him).1, hk, if_pos (show nI 0 = 0 from rfl)]
theorem dy_loop (w : Nat) (hw : 1100 ≤ w) (ht : okT t) (hp : okP p) (oE : okE p E) {M0 K0 : mM} {m : Nat} (hM : M0.1 1 2 = nI (pP p)) (hE : ∀ j, j < E.1 → 20 ≤ E.2.2 j → M0.2 3 (E.2.2 j - 20) = cvW (E.2.1 j)) (hN : NmR K0 172 174 18 E) : ∀ (r i n n' c : Nat) (l : LN) (M K : mM), m - i ≤ r → r < n → r + 1 < n' → c ≤ i → FyC M0 M → FyR K0 K → AtC M t i → AtR K t m i → LdC M l → LdR K l → okLn p l → Dyr w p M0 K0 (f_X0_read_14 w n 28 1 (nI c) M) (f_X12_days_11 w n' 163 (nI l.1) K) := by
  intro r
  induction r with
  | zero =>
    intro i n n' c l M K hr hn hn' hc fM fK aC aR lC lR o
    obtain ⟨n, rfl⟩ : ∃ z, n = z + 1 := ⟨n - 1, by omega⟩
    obtain ⟨n', rfl⟩ : ∃ z, n' = z + 1 := ⟨n' - 1, by omega⟩
    refine dy_fin w fM fK aC aR lC lR o ?_
    rcases Nat.eq_zero_or_pos (tkK t (psn t i)) with q | q
    · exact q
    · have := aR.nx (show tkK t (psn t i) ≠ 0 by omega)
      omega
  | succ r ih =>
    intro i n n' c l M K hr hn hn' hc fM fK aC aR lC lR o
    obtain ⟨n, rfl⟩ : ∃ z, n = z + 1 := ⟨n - 1, by omega⟩
    obtain ⟨n', rfl⟩ : ∃ z, n' = z + 1 + 1 := ⟨n' - 2, by omega⟩
    by_cases hk : tkK t (psn t i) = 0
    · exact dy_fin w fM fK aC aR lC lR o hk
    · have hm := aR.1.1
      have him := aR.2.1
      have hnx := aR.nx hk
      have hle := kind_lt (t := t) (psn t i)
      have kn : ¬ nI (tkK t (psn t i)) = 0 := fun e => hk ((nI_eq (b := 0) (by omega) (by omega)).mp e)
      have eR : f_X12_days_11 w (n' + 1 + 1) 163 (nI l.1) K = drR w (n' + 1) (nI l.1) K := by
        rw [f_X12_days_11, aR.2.2.2.1, if_pos rfl, aR.2.2.1, r163_4, l165, chk_nI _ (by omega) (by omega), nI_clamp (by omega), (aR.1.2.2.2 i him).1, if_neg kn]
        rfl
      rw [eR, f_X0_read_14, if_neg (show ¬ (1000 : Int32) ≤ nI c from fun e => by have := (nI_leI (a := 1000) (by omega) (by omega)).mp e; omega), r28_0, aC.2.2.1, if_neg kn]
      have hM' : M.1 1 2 = nI (pP p) := by rw [fM.1 1 (by decide) (by decide) (by decide)]; exact hM
      have hE' : ∀ j, j < E.1 → 20 ≤ E.2.2 j → M.2 3 (E.2.2 j - 20) = cvW (E.2.1 j) := fun j a b => by rw [fM.2.1 3 _ (Or.inl (by decide))]; exact hE j a b
      have hN' : NmR K 172 174 18 E := ⟨by rw [fK.2.2.1 18 (by decide) (by decide)]; exact hN.1, fun j hj => by rw [fK.2.1, fK.1 174 (by decide) (by decide)]; exact hN.2 j hj⟩
      obtain ⟨N, K1, f, g, h⟩ := dy_line w hw ht hp oE (n' := n') aC aR lC lR o hM' hE' hN' hk
      rcases h with ⟨i', l', h1, h2, h3, h4, h5, h6, h7, h8⟩ | ⟨e, h1, h2, h3, h4⟩
      · rw [h1, h2, bI_some, if_neg (by decide), nI_1]
        exact ih i' n (n' + 1) (c + 1) l' N K1 (by omega) (by omega) (by omega) (by omega) (fM.tr f) (fK.tr g) h4 h5 h6 h7 h8
      · rw [h1, h2, bI_some, if_pos rfl]
        refine ⟨N, K1, fM.tr f, fK.tr g, Or.inr ⟨e, ?_, rfl, h4⟩⟩
        rw [show N.1 25 6 = nI e from h3]
theorem rf169 (w : Nat) (K : mM) {C : Nat} (hC : C ≤ 40) : ∀ (r k n : Nat) (K' : mM), k + r = 3 * C → r < n → (∀ c, c ≠ 176 → K'.1 c = K.1 c) → K'.2 = K.2 → K'.1 176 0 = K.1 176 0 → (∀ j, j < k → K'.1 176 (1 + j) = K.1 176 (125 + j)) → (∀ j, 125 ≤ j → K'.1 176 j = K.1 176 j) → ∃ N, f_X12_days_169 w n 163 (nI C) (nI k) K' = some (0, N) ∧ (∀ c, c ≠ 176 → N.1 c = K.1 c) ∧ N.2 = K.2 ∧ N.1 176 0 = K.1 176 0 ∧ ∀ j, j < 3 * C → N.1 176 (1 + j) = K.1 176 (125 + j) := by
  have e3 : (3 : Int32) * nI C = nI (3 * C) := pk_mul 3 C
  intro r
  induction r with
  | zero =>
    intro k n K' hk hn g1 g2 g0 g3 g4
    obtain ⟨n, rfl⟩ : ∃ z, n = z + 1 := ⟨n - 1, by omega⟩
    have : k = 3 * C := by omega
    subst this
    exact ⟨K', by rw [f_X12_days_169, e3, if_pos (Int32.le_refl _)], g1, g2, g0, g3⟩
  | succ r ih =>
    intro k n K' hk hn g1 g2 g0 g3 g4
    obtain ⟨n, rfl⟩ : ∃ z, n = z + 1 := ⟨n - 1, by omega⟩
    rw [f_X12_days_169, e3, if_neg (fun e => by have := (nI_leI (by omega) (by omega)).mp e; omega), r163_21, l176, show (125 : Int32) + nI k = nI (125 + k) from nI_add 125 k, show (1 : Int32) + nI k = nI (1 + k) from nI_add 1 k, chk_nI _ (by omega) (by omega), chk_nI _ (by omega) (by omega), nI_clamp (show 1 + k < 2147483648 by omega), nI_clamp (show 125 + k < 2147483648 by omega), g4 (125 + k) (by omega), lt_eq, nI_1]
    refine ih (k + 1) n _ (by omega) (by omega) (fun c h => ?_) g2 ?_ (fun j hj => ?_) (fun j hj => ?_)
    · rw [rIc _ _ _ _ h]; exact g1 c h
    · rw [rI, if_pos rfl, if_neg (by omega)]; exact g0
    · rw [rI, if_pos rfl]
      by_cases z : j = k
      · rw [if_pos (by omega), z]
      · rw [if_neg (by omega)]; exact g3 j (by omega)
    · rw [rI, if_pos rfl, if_neg (by omega)]; exact g4 j hj
/-- both readings, one behind the other -/
theorem ds_read (w : Nat) (hw : 1100 ≤ w) (ht : okT t) (hp : okP p) (oE : okE p E) (hT : TpC M t) (hM : M.1 1 2 = nI (pP p)) (hE : ∀ j, j < E.1 → 20 ≤ E.2.2 j → M.2 3 (E.2.2 j - 20) = cvW (E.2.1 j)) (hR : TpR M t) (hW : Wd3 M) (hN : NmR M 172 174 18 E) : ∃ v N, f_X0_read w 28 1 M = some (v, N) ∧ FyC M N ∧ ∀ K', TpR K' t → Wd3 K' → NmR K' 172 174 18 E → ∃ K, FrGd K' K ∧ ((v = 0 ∧ ∃ l, f_X12_days w 163 K' = f_X12_days_148 w 163 (nI l.1) K ∧ K.1 163 8 = 0 ∧ LdC N l ∧ LdR K l ∧ okLn p l) ∨ ∃ e, 0 < e ∧ e < 100000 ∧ v = nI e ∧ f_X12_days w 163 K' = some (v, K)) := by
  have hT1 : TpC (wI M 28 2 0) t := ⟨by rw [rIc _ _ _ _ (by decide)]; exact hT.1, fun i hi => by rw [rIc _ _ _ _ (by decide)]; exact hT.2 i hi⟩
  obtain ⟨M2, c1, c2, c3⟩ := X10_rewind_eq w hw ht hT1
  have fM2 : FyC M M2 := FyC.tr ⟨fun c _ h1 _ => rIc _ _ _ _ h1, fun c j _ => by rw [rI2], by rw [rIc _ _ _ _ (by decide)]⟩ c2.b.y
  have lC : LdC M2 l0 := ⟨by rw [c2.1 28 (by decide), rI, if_pos rfl, if_pos rfl]; rfl, fun i hi => absurd hi (Nat.not_lt_zero _)⟩
  have eC : f_X0_read w 28 1 M = f_X0_read_14 w w 28 1 (nI 0) M2 := by
    unfold f_X0_read
    rw [lt_eq, r28_0, c1, bV_some]; rfl
  have key : ∀ K', TpR K' t → Wd3 K' → NmR K' 172 174 18 E → ∃ N K, FyC M N ∧ FrGd K' K ∧ ((∃ l, f_X0_read w 28 1 M = some (0, N) ∧ f_X12_days w 163 K' = f_X12_days_148 w 163 (nI l.1) K ∧ K.1 163 8 = 0 ∧ LdC N l ∧ LdR K l ∧ okLn p l) ∨ ∃ e, 0 < e ∧ e < 100000 ∧ f_X0_read w 28 1 M = some (nI e, N) ∧ f_X12_days w 163 K' = some (nI e, K)) := fun K' k1 k2 k3 => by
    have hT2 : TpR (wI K' 163 0 0) t := ⟨by rw [w163, if_neg (by decide)]; exact k1.1, fun i hi => by rw [rIc _ _ _ _ (by decide)]; exact k1.2 i hi⟩
    obtain ⟨K1, m, a1, a2, a3, a4, a5, a6⟩ := X12_cutAll_eq w hw ht hT2
    have aR : AtR K1 t m 0 := ⟨a6, Nat.zero_le _, a4, a5, fun q hq => by rw [a2.2.1 168 q (by decide)]; exact k2 q hq⟩
    have hN1 : NmR K1 172 174 18 E := ⟨by rw [a2.2.2 18 (by decide) (by decide) (by decide) (by decide), w163, if_neg (by decide)]; exact k3.1, fun j hj => by rw [a2.2.1 172 j (by decide), a2.1 174 (by decide) (by decide) (by decide), rIc _ _ _ _ (by decide)]; exact k3.2 j hj⟩
    have hm := a6.1
    have hM2 : M2.1 1 2 = nI (pP p) := by rw [fM2.1 1 (by decide) (by decide) (by decide)]; exact hM
    have hE2 : ∀ j, j < E.1 → 20 ≤ E.2.2 j → M2.2 3 (E.2.2 j - 20) = cvW (E.2.1 j) := fun j a b => by rw [fM2.2.1 3 _ (Or.inl (by decide))]; exact hE j a b
    obtain ⟨N, K, f, g, h⟩ := dy_loop w hw ht hp oE (M0 := M2) (K0 := K1) (m := m) hM2 hE2 hN1 1000 0 w w 0 l0 M2 K1 (by omega) (by omega) (by omega) (by omega) (FyC.rf _) (FyR.rf _) c3 aR lC (fun i hi => absurd hi (Nat.not_lt_zero _)) ⟨by decide, fun i hi => absurd hi (Nat.not_lt_zero _)⟩
    have eR : f_X12_days w 163 K' = f_X12_days_11 w w 163 (nI l0.1) K1 := by
      unfold f_X12_days
      rw [lt_eq, a1, bV_some]; rfl
    refine ⟨N, K, fM2.tr f, ⟨fun c h1 h2 h3 h4 => ?_, fun c h1 => ?_, fun j h1 h2 h3 h4 h5 => ?_, fun j hj => ?_, ?_⟩, ?_⟩
    · rw [g.1 c h1 h4, a2.1 c h1 h2 h3, rIc _ _ _ _ h1]
    · rw [g.2.1]
      exact funext fun j => a2.2.1 c j h1
    · rw [g.2.2.1 j h4 h5, a2.2.2 j h2 h3 h4 h5, w163, if_neg h1]
    · rw [g.2.2.2 j hj, a2.1 176 (by decide) (by decide) (by decide), rIc _ _ _ _ (by decide)]
    · rw [g.2.2.1 2 (by decide) (by decide)]; exact a3
    · rw [eC, eR]
      rcases h with ⟨l, h1, h2, h3, h4, h5, h6⟩ | ⟨e, h1, h2, h3, h4⟩
      · exact Or.inl ⟨l, h1, h2, h3, h4, h5, h6⟩
      · exact Or.inr ⟨e, h3, h4, h1, h2⟩
  obtain ⟨N, K, f, -, h⟩ := key M hR hW hN
  have hv : ∃ v, f_X0_read w 28 1 M = some (v, N) := by
    rcases h with ⟨s, h1, -⟩ | ⟨e, -, -, h1, -⟩
    · exact ⟨_, h1⟩
    · exact ⟨_, h1⟩
  obtain ⟨v, hv⟩ := hv
  refine ⟨v, N, hv, f, fun K' k1 k2 k3 => ?_⟩
  obtain ⟨N', K2, f', g', h'⟩ := key K' k1 k2 k3
  rcases h' with ⟨s, h1, h2, h3, h4, h5, h6⟩ | ⟨e, h3, h4, h1, h2⟩
  · rw [hv] at h1
    have e1 := Option.some.inj h1
    have e2 := congrArg Prod.fst e1
    have e3 := congrArg Prod.snd e1
    have e2 : v = 0 := e2
    have e3 : N = N' := e3
    subst e3
    exact ⟨K2, g', Or.inl ⟨e2, s, h2, h3, h4, h5, h6⟩⟩
  · rw [hv] at h1
    have e1 := Option.some.inj h1
    have e2 := congrArg Prod.fst e1
    have e2 : v = nI e := e2
    exact ⟨K2, g', Or.inr ⟨e, h3, h4, e2, by rw [e2]; exact h2⟩⟩
/-- all of the reference's half but the lines -/
theorem IvR.rdy (o : IvO B p x h u H k l E t) (c : IvR M p x h u H k l E t) (f : FrGd M N) (l' : LN) (hl : LiR N l') : IvR N p x h u H k l' E (0, t.2) := by
  obtain ⟨c1, c2, c3, c4, c5, c6, c7, c8, c9, c10⟩ := c
  obtain ⟨o1, o2, o3, o4, o5, o6, o7, o8, o9, o10⟩ := o
  have g : ∀ a, 169 ≤ a → a ≠ 176 → N.1 a = M.1 a := fun a h1 h2 => f.1 a (by omega) (by omega) (by omega) h2
  refine ⟨c1.fr (g 169 (by omega) (by omega)), c2.fr (g 169 (by omega) (by omega)) (g 170 (by omega) (by omega)) (g 171 (by omega) (by omega)), c3.fr o1 fun j _ h2 => by rw [g 179 (by omega) (by omega)], c4.fr o5 fun j _ h2 => by rw [g 179 (by omega) (by omega)], c5.fr o1 o6.1 (f.2.2.1 25 (by omega) (by omega) (by omega) (by omega) (by omega)) fun j _ h2 => by rw [g 179 (by omega) (by omega)], c6.fr o1 o7 (g 180 (by omega) (by omega)) fun j _ h2 => by rw [g 179 (by omega) (by omega)], hl, ⟨by rw [f.2.2.1 18 (by omega) (by omega) (by omega) (by omega) (by omega)]; exact c8.1, fun j hj => by rw [f.2.1 172 (by omega), g 174 (by omega) (by omega)]; exact c8.2 j hj⟩, ⟨f.2.2.2.2, fun i hi => absurd hi (Nat.not_lt_zero _)⟩, fun q hq => by rw [f.2.1 168 (by omega)]; exact c10 q hq⟩
theorem st_days (w : Nat) (hw : 1100 ≤ w) (o : IvO B p x h u H k l E t) (c : IvC M p x h u H k l E t) (r : IvR M p x h u H k l E t) : StpB B (f_X11_days w 0) (f_X12_days w 163) M := by
  have ot := o.2.2.2.2.2.2.2.2.2
  obtain ⟨v, N, e1, f1, hk⟩ := ds_read w hw ot o.1 o.2.2.2.2.2.2.2.2.1 c.2.2.2.2.2.2.2.2 c.1.2.2.1 c.2.2.2.2.2.2.2.1 r.2.2.2.2.2.2.2.2.1 r.2.2.2.2.2.2.2.2.2 r.2.2.2.2.2.2.2.1
  have eC : f_X11_days w 0 M = if v = 0 then some (v, cI (wI (wI N 25 1 0) 0 13 (N.1 28 2)) 29 0 30 0 40) else some (v, wI N 25 1 0) := by
    unfold f_X11_days
    rw [r0_4, r0_0, r0_2, r0_5, r28_1, l29, l30, e1, bI_some, lt_eq, lt_eq, show cpk (0 : Int32) 0 40 40 40 = cpk (nI 0) (nI 0) (nI 40) 40 40 (α := Int32 × mM) from rfl, cpk0 _ _ _ _ (by omega) (by omega) (by omega), lt_eq, rIc _ _ _ _ (show 28 ≠ 25 by decide)]
    rfl
  have n1 : ∀ a, a ≠ 25 → a ≠ 28 → a ≠ 29 → (wI N 25 1 0).1 a = M.1 a := fun a h1 h2 h3 => by rw [rIc _ _ _ _ h1]; exact f1.1 a h1 h2 h3
  have n2 : ∀ a, a ≠ 25 → N.2 a = M.2 a := fun a h1 => funext fun j => f1.2.1 a j (Or.inl h1)
  have n25 : (wI N 25 1 0).1 25 1 = 0 := by rw [rI, if_pos rfl, if_pos rfl]
  obtain ⟨K0, -, hv⟩ := hk M r.2.2.2.2.2.2.2.2.1 r.2.2.2.2.2.2.2.2.2 r.2.2.2.2.2.2.2.1
  have o' := o.up
  obtain ⟨o1, o2, o3, o4, o5, o6, o7, o8, o9, o10⟩ := o'
  obtain ⟨c1, c2, c3, c4, c5, c6, c7, c8, c9⟩ := c
  rcases hv with ⟨hv, -⟩ | ⟨e, h0, h1, hv, -⟩
  · have m1 : ∀ a, a ≠ 0 → a ≠ 25 → a ≠ 28 → a ≠ 29 → a ≠ 30 → (cI (wI (wI N 25 1 0) 0 13 (N.1 28 2)) 29 0 30 0 40).1 a = M.1 a := fun a h0 h1 h2 h3 h4 => by rw [rCIc _ _ _ _ h4, rIc _ _ _ _ h0, n1 a h1 h2 h3]
    have m2 : (cI (wI (wI N 25 1 0) 0 13 (N.1 28 2)) 29 0 30 0 40).2 = N.2 := rfl
    have m13 : (cI (wI (wI N 25 1 0) 0 13 (N.1 28 2)) 29 0 30 0 40).1 0 13 = N.1 28 2 := by rw [rCIc _ _ _ _ (by decide), rI, if_pos rfl, if_pos rfl]
    have m25 : (cI (wI (wI N 25 1 0) 0 13 (N.1 28 2)) 29 0 30 0 40).1 25 1 = 0 := by rw [rCIc _ _ _ _ (by decide), rIc _ _ _ _ (by decide)]; exact n25
    have m30 : ∀ j, j < 40 → (cI (wI (wI N 25 1 0) 0 13 (N.1 28 2)) 29 0 30 0 40).1 30 j = N.1 29 j := fun j hj => by rw [rCI, if_pos rfl, if_pos hj, rIc _ _ _ _ (by decide), rIc _ _ _ _ (by decide)]
    generalize cI (wI (wI N 25 1 0) 0 13 (N.1 28 2)) 29 0 30 0 40 = N3 at m1 m2 m13 m25 m30 eC
    have rN : IvR N3 p x h u H k l E t := r.frC o (fun a ha => m1 a (by omega) (by omega) (by omega) (by omega) (by omega)) (fun a j ha => by rw [m2, n2 a (by omega)])
    obtain ⟨K, fK, hK⟩ := hk N3 rN.2.2.2.2.2.2.2.2.1 rN.2.2.2.2.2.2.2.2.2 rN.2.2.2.2.2.2.2.1
    rcases hK with ⟨-, l', b1, b2, b3, b4, b5⟩ | ⟨e, h0, h1, hv', -⟩
    · have hl40 := b5.1
      obtain ⟨K2, k1, k2, k3, k4, k5⟩ := rf169 w (wI K 176 0 (nI l'.1)) hl40 (3 * l'.1) 0 w (wI K 176 0 (nI l'.1)) (by omega) (by omega) (fun _ _ => rfl) rfl rfl (fun j hj => absurd hj (Nat.not_lt_zero _)) (fun _ _ => rfl)
      have q1 : ∀ a, a < 163 → K2.1 a = N3.1 a := fun a ha => by rw [k2 a (by omega), rIc _ _ _ _ (by omega), fK.1 a (by omega) (by omega) (by omega) (by omega)]
      have q2 : ∀ a, a < 163 → K2.2 a = N3.2 a := fun a ha => by rw [k3, rI2, fK.2.1 a (by omega)]
      have hLi : LiR K2 l' := by
        refine ⟨by rw [k4, rI, if_pos rfl, if_pos rfl], fun i hi => ?_⟩
        obtain ⟨z1, z2, z3⟩ := b4 i hi
        have g : ∀ j, j < 3 * l'.1 → K2.1 176 (1 + j) = K.1 176 (125 + j) := fun j hj => by rw [k5 j hj, rI, if_pos rfl, if_neg (by omega)]
        refine ⟨?_, ?_, ?_⟩
        · rw [g (3 * i) (by omega)]; exact z1
        · rw [show 2 + 3 * i = 1 + (1 + 3 * i) by omega, g (1 + 3 * i) (by omega), show 125 + (1 + 3 * i) = 126 + 3 * i by omega]; exact z2
        · rw [show 3 + 3 * i = 1 + (2 + 3 * i) by omega, g (2 + 3 * i) (by omega), show 125 + (2 + 3 * i) = 127 + 3 * i by omega]; exact z3
      have rK2 : IvR K2 p x h u H k l' E (0, t.2) := by
        have rK := rN.rdy o fK l ?_
        · obtain ⟨y1, y2, y3, y4, y5, y6, y7, y8, y9, y10⟩ := rK
          have g : ∀ a, a ≠ 176 → K2.1 a = K.1 a := fun a ha => by rw [k2 a ha, rIc _ _ _ _ ha]
          have g' : K2.2 = K.2 := by rw [k3, rI2]
          refine ⟨y1.fr (g 169 (by omega)), y2.fr (g 169 (by omega)) (g 170 (by omega)) (g 171 (by omega)), y3.fr o1 fun j _ h2 => by rw [g 179 (by omega)], y4.fr o5 fun j _ h2 => by rw [g 179 (by omega)], y5.fr o1 o6.1 (by rw [g 163 (by omega)]) fun j _ h2 => by rw [g 179 (by omega)], y6.fr o1 o7 (g 180 (by omega)) fun j _ h2 => by rw [g 179 (by omega)], hLi, ⟨by rw [g 163 (by omega)]; exact y8.1, fun j hj => by rw [g', g 174 (by omega)]; exact y8.2 j hj⟩, ⟨by rw [g 163 (by omega)]; exact y9.1, fun i hi => absurd hi (Nat.not_lt_zero _)⟩, fun q hq => by rw [g']; exact y10 q hq⟩
        · have hl := rN.2.2.2.2.2.2.1
          have h40 := o8.1
          exact ⟨by rw [fK.2.2.2.1 0 (by omega)]; exact hl.1, fun i hi => by rw [fK.2.2.2.1 _ (by omega), fK.2.2.2.1 _ (by omega), fK.2.2.2.1 _ (by omega)]; exact hl.2 i hi⟩
      refine ⟨0, N3, K2, by rw [eC, hv, if_pos rfl], ?_, p, x, h, u, H, k, l', E, (0, t.2), ⟨o1, o2, o3, o4, o5, o6, o7, b5, o9, okT0 t⟩, ⟨?_, ?_, ?_, ?_, ?_, ?_, ?_, ?_, ?_⟩, rK2⟩
      · rw [b1]
        unfold f_X12_days_148
        rw [b2, if_pos (by decide), r163_21, l176, show chk (0 : Int32) 250 = chk (nI 0) 250 (α := Int32 × mM) from rfl, chk_nI _ (by omega) (by omega), show (0 : Int32).toNatClampNeg = 0 from rfl, lt_eq]
        exact k1
      · exact c1.fro fun a h1 h2 => by rw [q1 a (by omega), m1 a (by omega) (by omega) (by omega) (by omega) (by omega)]
      · exact c2.fro fun a h1 h2 => by rw [q1 a (by omega), m1 a (by omega) (by omega) (by omega) (by omega) (by omega)]
      · exact c3.fr fun a h1 h2 => by rw [q1 a (by omega), m1 a (by omega) (by omega) (by omega) (by omega) (by omega)]
      · exact c4.fr fun a h1 h2 => by rw [q1 a (by omega), m1 a (by omega) (by omega) (by omega) (by omega) (by omega)]
      · exact c5.fr fun a h1 => by rw [q1 a (by omega), m1 a (by omega) (by omega) (by omega) (by omega) (by omega)]
      · exact c6.fr fun a h1 h2 => by rw [q1 a (by omega), m1 a (by omega) (by omega) (by omega) (by omega) (by omega)]
      · exact ⟨by rw [q1 0 (by omega), m13]; exact b3.1, fun i hi => by rw [q1 30 (by omega), m30 i (by omega)]; exact b3.2 i hi⟩
      · intro j h1 h2
        rw [q2 3 (by omega), m2, n2 3 (by omega)]; exact c8 j h1 h2
      · refine ⟨?_, fun i hi => absurd hi (Nat.not_lt_zero _)⟩
        rw [q1 25 (by omega), m25]; rfl
    · rw [hv] at hv'
      exact absurd hv'.symm (nI_ne0 h0 (by omega))
  · have rN : IvR (wI N 25 1 0) p x h u H k l E t := r.frC o (fun a ha => n1 a (by omega) (by omega) (by omega)) (fun a j ha => by rw [rI2, n2 a (by omega)])
    obtain ⟨K, fK, hK⟩ := hk _ rN.2.2.2.2.2.2.2.2.1 rN.2.2.2.2.2.2.2.2.2 rN.2.2.2.2.2.2.2.1
    have vn : ¬ v = 0 := by rw [hv]; exact nI_ne0 h0 (by omega)
    rcases hK with ⟨hv', -⟩ | ⟨e', -, -, -, hK⟩
    · exact absurd hv' vn
    · have hl := rN.2.2.2.2.2.2.1
      have h40 := o8.1
      have rK := rN.rdy o fK l ⟨by rw [fK.2.2.2.1 0 (by omega)]; exact hl.1, fun i hi => by rw [fK.2.2.2.1 _ (by omega), fK.2.2.2.1 _ (by omega), fK.2.2.2.1 _ (by omega)]; exact hl.2 i hi⟩
      have q1 : ∀ a, a < 163 → K.1 a = (wI N 25 1 0).1 a := fun a ha => fK.1 a (by omega) (by omega) (by omega) (by omega)
      have q2 : ∀ a, a < 163 → K.2 a = (wI N 25 1 0).2 a := fun a ha => fK.2.1 a (by omega)
      refine ⟨v, wI N 25 1 0, K, ?_, hK, p, x, h, u, H, k, l, E, (0, t.2), ⟨o1, o2, o3, o4, o5, o6, o7, o8, o9, okT0 t⟩, ⟨?_, ?_, ?_, ?_, ?_, ?_, ?_, ?_, ?_⟩, rK⟩
      · rw [eC, if_neg vn]
      · exact c1.fro fun a h1 h2 => by rw [q1 a (by omega), n1 a (by omega) (by omega) (by omega)]
      · exact c2.fro fun a h1 h2 => by rw [q1 a (by omega), n1 a (by omega) (by omega) (by omega)]
      · exact c3.fr fun a h1 h2 => by rw [q1 a (by omega), n1 a (by omega) (by omega) (by omega)]
      · exact c4.fr fun a h1 h2 => by rw [q1 a (by omega), n1 a (by omega) (by omega) (by omega)]
      · exact c5.fr fun a h1 => by rw [q1 a (by omega), n1 a (by omega) (by omega) (by omega)]
      · exact c6.fr fun a h1 h2 => by rw [q1 a (by omega), n1 a (by omega) (by omega) (by omega)]
      · exact ⟨by rw [q1 0 (by omega), n1 0 (by omega) (by omega) (by omega)]; exact c7.1, fun i hi => by rw [q1 30 (by omega), n1 30 (by omega) (by omega) (by omega)]; exact c7.2 i hi⟩
      · intro j h1 h2
        rw [q2 3 (by omega), rI2, n2 3 (by omega)]; exact c8 j h1 h2
      · refine ⟨?_, fun i hi => absurd hi (Nat.not_lt_zero _)⟩
        rw [q1 25 (by omega), n25]; rfl
end DAYS2
