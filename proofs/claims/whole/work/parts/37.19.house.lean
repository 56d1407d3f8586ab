/-! ===== the house told: both begin; both copy ===== -/
def fz : Nat → Nat := fun _ => 0
def s0 : DS := (((0, 0, 0), fz, fz, fz, fz, fz), ((0, fz), (0, fz, fz)), (0, (fun _ => []), fz))
theorem s0_ok : okD s0 := ⟨⟨by decide, by decide, by decide, fun d hd => absurd hd (Nat.not_lt_zero _), fun d hd => absurd hd (Nat.not_lt_zero _)⟩, ⟨by decide, fun d hd => absurd hd (Nat.not_lt_zero _), fun d _ hd => absurd hd (Nat.not_lt_zero _), fun d hd => absurd hd (Nat.not_lt_zero _), fun d hd => absurd hd (Nat.not_lt_zero _)⟩, rfl, by decide, fun d hd => absurd hd (Nat.not_lt_zero _), by decide, fun hd => absurd hd (Nat.not_lt_zero _)⟩
/-- what the reference's reading of a house may write -/
def FrG (M N : mM) : Prop := (∀ c, c ≠ 163 → c ≠ 165 → c ≠ 166 → c ≠ 169 → c ≠ 170 → c ≠ 171 → c ≠ 175 → N.1 c = M.1 c) ∧ (∀ c, c ≠ 167 → c ≠ 173 → N.2 c = M.2 c) ∧ (∀ j, j ≠ 0 → j ≠ 2 → j ≠ 3 → j ≠ 7 → j ≠ 8 → j ≠ 13 → j ≠ 19 → j ≠ 20 → N.1 163 j = M.1 163 j) ∧ (∀ j, j < 60 → N.1 169 j = M.1 169 j) ∧ (∀ j, j < 1100 → N.1 170 j = M.1 170 j ∧ N.1 171 j = M.1 171 j) ∧ N.1 163 2 = 0
section HOUSE
variable {t : TX} {p : HP} {E : NE} {s : DS} {M N K : mM} {L : Lw}
theorem FrG.e (f : FrG M N) (g : FrE N K) : FrG M K := ⟨fun c h1 h2 h3 h4 h5 h6 h7 => (g.1 c h1 h4 h5 h6 h7).trans (f.1 c h1 h2 h3 h4 h5 h6 h7), fun c h1 h2 => (g.2.1 c h2).trans (f.2.1 c h1 h2), fun j h1 h2 h3 h4 h5 h6 h7 h8 => (g.2.2.1 j h4 h5 h6 h7 h8).trans (f.2.2.1 j h1 h2 h3 h4 h5 h6 h7 h8), fun j hj => (g.2.2.2.1 j hj).trans (f.2.2.2.1 j hj), fun j hj => ⟨((g.2.2.2.2 j hj).1).trans (f.2.2.2.2.1 j hj).1, ((g.2.2.2.2 j hj).2).trans (f.2.2.2.2.1 j hj).2⟩, (g.2.2.1 2 (by decide) (by decide) (by decide) (by decide) (by decide)).trans f.2.2.2.2.2⟩
theorem hs_cls0 (w : Nat) (hw : 1100 ≤ w) (ht : okT t) (hT : TpC M t) : ∃ N, f_X2_read w 27 13 M = f_X2_read_13 w w 27 13 (nI 0) N ∧ FrD M N ∧ AtC N t 0 ∧ DC N s0 := by
  have q1 : ∀ c, c ≠ 13 → c ≠ 22 → (wI (wI (wI (wI (wI M 13 0 0) 13 1 0) 13 2 0) 13 3 0) 22 2 0).1 c = M.1 c := fun c h1 h2 => by rw [rIc _ _ _ _ h2, rIc _ _ _ _ h1, rIc _ _ _ _ h1, rIc _ _ _ _ h1, rIc _ _ _ _ h1]
  have q2 : (wI (wI (wI (wI (wI M 13 0 0) 13 1 0) 13 2 0) 13 3 0) 22 2 0).2 = M.2 := rfl
  have q13 : ∀ j, j < 4 → (wI (wI (wI (wI (wI M 13 0 0) 13 1 0) 13 2 0) 13 3 0) 22 2 0).1 13 j = nI 0 := fun j hj => by
    rw [rIc _ _ _ _ (by decide), rI, if_pos rfl, rI, if_pos rfl, rI, if_pos rfl, rI, if_pos rfl]
    have : j = 0 ∨ j = 1 ∨ j = 2 ∨ j = 3 := by omega
    rcases this with rfl | rfl | rfl | rfl <;> rfl
  have q22 : (wI (wI (wI (wI (wI M 13 0 0) 13 1 0) 13 2 0) 13 3 0) 22 2 0).1 22 2 = nI 0 := by rw [rI, if_pos rfl, if_pos rfl]; rfl
  have e1 : f_X6_clear w 13 M = some (wI (wI (wI (wI (wI M 13 0 0) 13 1 0) 13 2 0) 13 3 0) 22 2 0) := by
    unfold f_X6_clear
    rw [r13_12, lt_eq, lt_eq, lt_eq, lt_eq, lt_eq]
  generalize wI (wI (wI (wI (wI M 13 0 0) 13 1 0) 13 2 0) 13 3 0) 22 2 0 = M1 at q1 q2 q13 q22 e1
  have hT1 : TpC M1 t := ⟨by rw [q1 25 (by decide) (by decide)]; exact hT.1, fun i hi => by rw [q1 26 (by decide) (by decide)]; exact hT.2 i hi⟩
  obtain ⟨N, n1, n2, n3⟩ := X10_rewind_eq w hw ht hT1
  have f1 : FrD M M1 := ⟨fun c h1 h2 => q1 c (by omega) (by omega), fun c j _ _ _ => by rw [q2], by rw [q1 25 (by decide) (by decide)]⟩
  refine ⟨N, ?_, f1.tr n2.b.d, n3, ?_⟩
  · unfold f_X2_read
    rw [e1, bV_some, r27_0, n1, bV_some]; rfl
  · have d1 : DC M1 s0 := ⟨⟨q13 0 (by decide), q13 1 (by decide), q13 2 (by decide), fun d hd => absurd hd (Nat.not_lt_zero _), fun d hd => absurd hd (Nat.not_lt_zero _)⟩, ⟨q13 3 (by decide), fun d hd => absurd hd (Nat.not_lt_zero _), q22, fun d hd => absurd hd (Nat.not_lt_zero _)⟩, fun d hd => absurd hd (Nat.not_lt_zero _)⟩
    exact d1.fb n2.b
/-- sixty cells put to nothing -/
theorem X12_stands_2_eq (w : Nat) (M : mM) : ∀ (r k n : Nat) (K : mM), k + r = 60 → r < n → (∀ c, c ≠ 169 → K.1 c = M.1 c) → K.2 = M.2 → (∀ j, j < 60 → K.1 169 j = M.1 169 j) → (∀ j, 60 ≤ j → j < 60 + k → K.1 169 j = 0) → ∃ N, f_X12_standsAsAlways_2 w n 163 60 (nI k) K = some N ∧ (∀ c, c ≠ 169 → N.1 c = M.1 c) ∧ N.2 = M.2 ∧ (∀ j, j < 60 → N.1 169 j = M.1 169 j) ∧ ∀ j, 60 ≤ j → j < 120 → N.1 169 j = if j = 63 then 1 else if j = 64 then -1 else 0 := by
  intro r
  induction r with
  | zero =>
    intro k n K hk hn g1 g2 g3 g4
    obtain ⟨n, rfl⟩ : ∃ z, n = z + 1 := ⟨n - 1, by omega⟩
    have : k = 60 := by omega
    subst this
    refine ⟨wI (wI K 169 63 1) 169 64 (-1), ?_, fun c h => ?_, g2, fun j hj => ?_, fun j h1 h2 => ?_⟩
    · rw [f_X12_standsAsAlways_2, if_pos (by decide)]
      unfold f_X12_standsAsAlways_23
      rw [r163_10, l169, show (60 : Int32) + 3 = nI 63 from rfl, show (60 : Int32) + 4 = nI 64 from rfl, chk_nI _ (by omega) (by omega), nI_clamp (show 63 < 2147483648 by omega), lt_eq, chk_nI _ (by omega) (by omega), nI_clamp (show 64 < 2147483648 by omega), lt_eq]
    · rw [rIc _ _ _ _ h, rIc _ _ _ _ h]; exact g1 c h
    · rw [rI, if_pos rfl, if_neg (by omega), rI, if_pos rfl, if_neg (by omega)]; exact g3 j hj
    · rw [rI, if_pos rfl, rI, if_pos rfl]
      by_cases z : j = 64
      · rw [if_pos z, if_neg (by omega), if_pos z]
      · rw [if_neg z, if_neg z]
        by_cases z2 : j = 63
        · rw [if_pos z2, if_pos z2]
        · rw [if_neg z2, if_neg z2]; exact g4 j h1 (by omega)
  | succ r ih =>
    intro k n K hk hn g1 g2 g3 g4
    obtain ⟨n, rfl⟩ : ∃ z, n = z + 1 := ⟨n - 1, by omega⟩
    rw [f_X12_standsAsAlways_2, if_neg (show ¬ (60 : Int32) ≤ nI k from fun e => by have := (nI_leI (a := 60) (by omega) (by omega)).mp e; omega), r163_10, l169, show (60 : Int32) + nI k = nI (60 + k) from nI_add 60 k, chk_nI _ (by omega) (by omega), nI_clamp (by omega), lt_eq, nI_1]
    refine ih (k + 1) n _ (by omega) (by omega) (fun c h => ?_) g2 (fun j hj => ?_) (fun j h1 h2 => ?_)
    · rw [rIc _ _ _ _ h]; exact g1 c h
    · rw [rI, if_pos rfl, if_neg (by omega)]; exact g3 j hj
    · rw [rI, if_pos rfl]
      by_cases z : j = 60 + k
      · rw [if_pos z]
      · rw [if_neg z]; exact g4 j h1 (by omega)
theorem hs_ref0 (w : Nat) (hw : 1100 ≤ w) (ht : okT t) (hT : TpR M t) (hW : Wd3 M) : ∃ K m, f_X12_house w 163 M = f_X12_house_30 w w 163 K ∧ FrG M K ∧ AtR K t m 0 ∧ DR K s0 := by
  have hT1 : TpR (wI M 163 0 0) t := ⟨by rw [w163, if_neg (by decide)]; exact hT.1, fun i hi => by rw [rIc _ _ _ _ (by decide)]; exact hT.2 i hi⟩
  obtain ⟨K1, m, a1, a2, a3, a4, a5, a6⟩ := X12_cutAll_eq w hw ht hT1
  have q1 : ∀ c, c ≠ 163 → (wI (wI (wI K1 163 13 0) 163 19 0) 163 20 0).1 c = K1.1 c := fun c h => by rw [rIc _ _ _ _ h, rIc _ _ _ _ h, rIc _ _ _ _ h]
  have q2 : (wI (wI (wI K1 163 13 0) 163 19 0) 163 20 0).2 = K1.2 := rfl
  have q3 : ∀ j, (wI (wI (wI K1 163 13 0) 163 19 0) 163 20 0).1 163 j = if j = 20 then 0 else if j = 19 then 0 else if j = 13 then 0 else K1.1 163 j := fun j => by rw [w163, w163, w163]
  have eH : f_X12_house w 163 M = bV (f_X12_standsAsAlways w 163 60 (wI (wI (wI K1 163 13 0) 163 19 0) 163 20 0)) fun M6 => f_X12_house_30 w w 163 M6 := by
    unfold f_X12_house
    rw [lt_eq, a1, bV_some, lt_eq, lt_eq, lt_eq]
  generalize wI (wI (wI K1 163 13 0) 163 19 0) 163 20 0 = K2 at q1 q2 q3 eH
  obtain ⟨K3, b1, b2, b3, b4, b5⟩ := X12_stands_2_eq w K2 60 0 w K2 (by omega) (by omega) (fun _ _ => rfl) rfl (fun _ _ => rfl) (fun j h1 h2 => by omega)
  have u1 : ∀ c, c ≠ 163 → c ≠ 169 → K3.1 c = K1.1 c := fun c h1 h2 => by rw [b2 c h2, q1 c h1]
  have u2 : K3.2 = K1.2 := by rw [b3, q2]
  have u3 : ∀ j, K3.1 163 j = if j = 20 then 0 else if j = 19 then 0 else if j = 13 then 0 else K1.1 163 j := fun j => by rw [b2 163 (by decide), q3]
  refine ⟨K3, m, ?_, ⟨fun c h1 h2 h3 h4 h5 h6 h7 => ?_, fun c h1 h2 => ?_, fun j h0 h1 h2 h3 h4 h5 h6 h7 => ?_, fun j hj => ?_, fun j hj => ⟨?_, ?_⟩, ?_⟩, ⟨a6.fr (u1 165 (by decide) (by decide)) (u1 166 (by decide) (by decide)) (by rw [u2]), Nat.zero_le _, ?_, ?_, fun k hk => ?_⟩, ?_⟩
  · rw [eH]
    unfold f_X12_standsAsAlways
    rw [show f_X12_standsAsAlways_2 w w 163 60 0 K2 = _ from b1, bV_some]
  · rw [u1 c h1 h4, a2.1 c h1 h2 h3, rIc _ _ _ _ h1]
  · rw [u2]
    exact funext fun j => a2.2.1 c j h1
  · rw [u3, if_neg h7, if_neg h6, if_neg h5, a2.2.2 j h1 h2 h3 h4, w163, if_neg h0]
  · rw [b4 j hj, q1 169 (by decide), a2.1 169 (by decide) (by decide) (by decide), rIc _ _ _ _ (by decide)]
  · rw [u1 170 (by decide) (by decide), a2.1 170 (by decide) (by decide) (by decide), rIc _ _ _ _ (by decide)]
  · rw [u1 171 (by decide) (by decide), a2.1 171 (by decide) (by decide) (by decide), rIc _ _ _ _ (by decide)]
  · rw [u3, if_neg (by decide), if_neg (by decide), if_neg (by decide)]; exact a3
  · rw [u3, if_neg (by decide), if_neg (by decide), if_neg (by decide)]; exact a4
  · rw [u3, if_neg (by decide), if_neg (by decide), if_neg (by decide)]; exact a5
  · rw [u2, a2.2.1 168 k (by decide)]; exact hW k hk
  · refine ⟨⟨?_, ?_, ?_, fun d hd => absurd hd (Nat.not_lt_zero _), fun d hd => absurd hd (Nat.not_lt_zero _)⟩, ⟨?_, fun _ => ?_, fun d hd => absurd hd (Nat.not_lt_zero _), ?_, ?_, fun hd => absurd hd (Nat.not_lt_zero _), fun d hd => absurd hd (Nat.not_lt_zero _), ?_⟩, ?_, fun d hd => absurd hd (Nat.not_lt_zero _)⟩
    · rw [b5 60 (by omega) (by omega)]; rfl
    · rw [b5 (60 + 1) (by omega) (by omega)]; rfl
    · rw [b5 (60 + 2) (by omega) (by omega)]; rfl
    · rw [b5 63 (by omega) (by omega)]; rfl
    · rw [b5 102 (by omega) (by omega)]; rfl
    · rw [b5 64 (by omega) (by omega)]; rfl
    · rw [u3, if_neg (by decide), if_neg (by decide), if_pos rfl]; rfl
    · rw [u3, if_pos rfl]; rfl
    · rw [u3, if_neg (by decide), if_pos rfl]; rfl
/-- both readings, one behind the other -/
theorem hs_read (w : Nat) (hw : 1100 ≤ w) (ht : okT t) (hT : TpC M t) (hR : TpR M t) (hW : Wd3 M) : ∃ v N, f_X2_read w 27 13 M = some (v, N) ∧ FrD M N ∧ ∀ K', TpR K' t → Wd3 K' → ∃ K, FrG K' K ∧ ((v = 0 ∧ ∃ s, f_X12_house w 163 K' = f_X12_house_62 w 163 K ∧ K.1 163 8 = 0 ∧ DC N s ∧ DR K s ∧ okD s) ∨ ∃ e, 0 < e ∧ e < 100000 ∧ v = nI e ∧ f_X12_house w 163 K' = some (v, K)) := by
  obtain ⟨M2, c1, c2, c3, c4⟩ := hs_cls0 w hw ht hT
  have key : ∀ K', TpR K' t → Wd3 K' → ∃ N K, FrD M N ∧ FrG K' K ∧ ((∃ s, f_X2_read w 27 13 M = some (0, N) ∧ f_X12_house w 163 K' = f_X12_house_62 w 163 K ∧ K.1 163 8 = 0 ∧ DC N s ∧ DR K s ∧ okD s) ∨ ∃ e, 0 < e ∧ e < 100000 ∧ f_X2_read w 27 13 M = some (nI e, N) ∧ f_X12_house w 163 K' = some (nI e, K)) := fun K' k1 k2 => by
    obtain ⟨K0, m, d1, d2, d3, d4⟩ := hs_ref0 w hw ht k1 k2
    have hm := d3.1.1
    obtain ⟨N, K, f, g, h⟩ := hs_loop w hw ht (M0 := M2) (K0 := K0) (m := m) 1000 0 w w 0 s0 M2 K0 (by omega) (by omega) (by omega) (by omega) (FrD.rf _) (FrE.rf _) c3 d3 c4 d4 s0_ok
    refine ⟨N, K, c2.tr f, d2.e g, ?_⟩
    rw [c1, d1]
    rcases h with ⟨s, h1, h2, h3, h4, h5, h6⟩ | ⟨e, h1, h2, h3, h4⟩
    · exact Or.inl ⟨s, h1, h2, h3, h4, h5, h6⟩
    · exact Or.inr ⟨e, h3, h4, h1, h2⟩
  obtain ⟨N, K, f, -, h⟩ := key M hR hW
  have hv : ∃ v, f_X2_read w 27 13 M = some (v, N) := by
    rcases h with ⟨s, h1, -⟩ | ⟨e, -, -, h1, -⟩
    · exact ⟨_, h1⟩
    · exact ⟨_, h1⟩
  obtain ⟨v, hv⟩ := hv
  refine ⟨v, N, hv, f, fun K' k1 k2 => ?_⟩
  obtain ⟨N', K2, f', g', h'⟩ := key K' k1 k2
  rcases h' with ⟨s, h1, h2, h3, h4, h5, h6⟩ | ⟨e, h3, h4, h1, h2⟩
  · rw [hv] at h1
    have e1 := Option.some.inj h1
    have e2 := congrArg Prod.fst e1
    have e3 := congrArg Prod.snd e1
    have e2 : v = 0 := e2
    have e3 : N = N' := e3
    subst e3
    exact ⟨K2, g', Or.inl ⟨e2, s, h2, h3, h4, h5, h6⟩⟩
  · rw [hv] at h1
    have e1 := Option.some.inj h1
    have e2 := congrArg Prod.fst e1
    have e2 : v = nI e := e2
    exact ⟨K2, g', Or.inr ⟨e, h3, h4, e2, by rw [e2]; exact h2⟩⟩
/-! the class copies its draft -/
theorem rCI (M : mM) (a b n c j : Nat) : (cI M a 0 b 0 n).1 c j = if c = b then (if j < n then M.1 a j else M.1 b j) else M.1 c j := by
  show (if c = b then va_cpy (M.1 a) (M.1 b) 0 0 n else M.1 c) j = _
  by_cases h : c = b
  · rw [if_pos h, if_pos h]
    unfold va_cpy
    by_cases z : j < n
    · rw [if_pos (by omega), if_pos z, Nat.zero_add, Nat.sub_zero]
    · rw [if_neg (by omega), if_neg z]
  · rw [if_neg h, if_neg h]
theorem rCIc (M : mM) (a b n : Nat) {c : Nat} (h : c ≠ b) : (cI M a 0 b 0 n).1 c = M.1 c := if_neg h
theorem rCL (M : mM) (a b n c j : Nat) : (cL M a 0 b 0 n).2 c j = if c = b then (if j < n then M.2 a j else M.2 b j) else M.2 c j := by
  show (if c = b then va_cpy (M.2 a) (M.2 b) 0 0 n else M.2 c) j = _
  by_cases h : c = b
  · rw [if_pos h, if_pos h]
    unfold va_cpy
    by_cases z : j < n
    · rw [if_pos (by omega), if_pos z, Nat.zero_add, Nat.sub_zero]
    · rw [if_neg (by omega), if_neg z]
  · rw [if_neg h, if_neg h]
def cp4 (M : mM) : mM := wI (wI (wI (wI M 1 0 (M.1 13 0)) 1 1 (M.1 13 1)) 1 2 (M.1 13 2)) 1 3 (M.1 13 3)
def cp8 (M : mM) : mM := cI (cI (cI (cL (cp4 M) 15 0 3 0 5) 16 0 4 0 5) 17 0 5 0 8) 18 0 6 0 8
def cp11 (M : mM) : mM := cI (cI (cI (cp8 M) 19 0 7 0 8) 20 0 8 0 8) 21 0 9 0 12
def cp13 (M : mM) : mM := cI (wI (cp11 M) 10 2 ((cp11 M).1 22 2)) 23 0 11 0 1000
theorem cp_eq (w : Nat) (M : mM) : f_X6_copyFrom w 1 13 M = some (cp13 M) := by
  unfold f_X6_copyFrom f_X3_copyFrom
  rw [r1_5, r1_6, r1_7, r1_8, r1_9, r1_10, r1_11, r1_12, r13_5, r13_6, r13_7, r13_8, r13_9, r13_10, r13_11, r13_12, r10_0, r22_0, l3, l4, l5, l6, l7, l8, l9, l11, l15, l16, l17, l18, l19, l20, l21, l23]
  rw [show cpk (0 : Int32) 0 8 8 8 = cpk (nI 0) (nI 0) (nI 8) 8 8 from rfl, show cpk (0 : Int32) 0 5 5 5 = cpk (nI 0) (nI 0) (nI 5) 5 5 from rfl, show cpk (0 : Int32) 0 12 12 12 = cpk (nI 0) (nI 0) (nI 12) 12 12 from rfl, show cpk (0 : Int32) 0 1000 1000 1000 = cpk (nI 0) (nI 0) (nI 1000) 1000 1000 from rfl]
  rw [lt_eq, lt_eq, lt_eq, lt_eq, cpk0 _ _ _ _ (by omega) (by omega) (by omega), lt_eq, cpk0 _ _ _ _ (by omega) (by omega) (by omega), lt_eq, cpk0 _ _ _ _ (by omega) (by omega) (by omega), lt_eq, cpk0 _ _ _ _ (by omega) (by omega) (by omega), lt_eq, cpk0 _ _ _ _ (by omega) (by omega) (by omega), lt_eq, cpk0 _ _ _ _ (by omega) (by omega) (by omega), lt_eq, cpk0 _ _ _ _ (by omega) (by omega) (by omega), lt_eq, lt_eq, cpk_ok _ (by omega) (by omega) (by omega), lt_eq, bV_some]
  rfl
theorem cp4_c (M : mM) {c : Nat} (h : c ≠ 1) : (cp4 M).1 c = M.1 c := by unfold cp4; rw [rIc _ _ _ _ h, rIc _ _ _ _ h, rIc _ _ _ _ h, rIc _ _ _ _ h]
theorem cp8_c (M : mM) {c : Nat} (h : c ≠ 1) (h4 : c ≠ 4) (h5 : c ≠ 5) (h6 : c ≠ 6) : (cp8 M).1 c = M.1 c := by
  unfold cp8; rw [rCIc _ _ _ _ h6, rCIc _ _ _ _ h5, rCIc _ _ _ _ h4]; exact cp4_c M h
theorem cp11_c (M : mM) {c : Nat} (h : c ≠ 1) (h4 : c ≠ 4) (h5 : c ≠ 5) (h6 : c ≠ 6) (h7 : c ≠ 7) (h8 : c ≠ 8) (h9 : c ≠ 9) : (cp11 M).1 c = M.1 c := by
  unfold cp11; rw [rCIc _ _ _ _ h9, rCIc _ _ _ _ h8, rCIc _ _ _ _ h7]; exact cp8_c M h h4 h5 h6
theorem cp13_c (M : mM) {c : Nat} (h : c = 0 ∨ 11 < c) : (cp13 M).1 c = M.1 c := by
  unfold cp13; rw [rCIc _ _ _ _ (by omega), rIc _ _ _ _ (by omega)]; exact cp11_c M (by omega) (by omega) (by omega) (by omega) (by omega) (by omega) (by omega)
theorem cp13_2 (M : mM) {c : Nat} (h : c ≠ 3) : (cp13 M).2 c = M.2 c := by
  show (cL (cp4 M) 15 0 3 0 5).2 c = M.2 c
  exact funext fun j => by rw [rCL, if_neg h]; rfl
theorem cp13_3 (M : mM) {j : Nat} (h : j < 5) : (cp13 M).2 3 j = M.2 15 j := by
  show (cL (cp4 M) 15 0 3 0 5).2 3 j = M.2 15 j
  rw [rCL, if_pos rfl, if_pos h]; rfl
theorem cp13_1 (M : mM) {j : Nat} (h : j < 4) : (cp13 M).1 1 j = M.1 13 j := by
  have e : (cp13 M).1 1 = (cp4 M).1 1 := by
    unfold cp13
    rw [rCIc _ _ _ _ (by decide), rIc _ _ _ _ (by decide)]
    unfold cp11
    rw [rCIc _ _ _ _ (by decide), rCIc _ _ _ _ (by decide), rCIc _ _ _ _ (by decide)]
    unfold cp8
    rw [rCIc _ _ _ _ (by decide), rCIc _ _ _ _ (by decide), rCIc _ _ _ _ (by decide)]
    rfl
  rw [e]
  unfold cp4
  rw [rI, if_pos rfl, rI, if_pos rfl, rI, if_pos rfl, rI, if_pos rfl]
  have : j = 0 ∨ j = 1 ∨ j = 2 ∨ j = 3 := by omega
  rcases this with rfl | rfl | rfl | rfl <;> rfl
theorem cp13_4 (M : mM) {j : Nat} (h : j < 5) : (cp13 M).1 4 j = M.1 16 j := by
  unfold cp13
  rw [rCIc _ _ _ _ (by decide), rIc _ _ _ _ (by decide)]
  unfold cp11
  rw [rCIc _ _ _ _ (by decide), rCIc _ _ _ _ (by decide), rCIc _ _ _ _ (by decide)]
  unfold cp8
  rw [rCIc _ _ _ _ (by decide), rCIc _ _ _ _ (by decide), rCI, if_pos rfl, if_pos h]
  exact congrFun (cp4_c M (show 16 ≠ 1 by decide)) j
theorem cp13_5 (M : mM) {j : Nat} (h : j < 8) : (cp13 M).1 5 j = M.1 17 j := by
  unfold cp13
  rw [rCIc _ _ _ _ (by decide), rIc _ _ _ _ (by decide)]
  unfold cp11
  rw [rCIc _ _ _ _ (by decide), rCIc _ _ _ _ (by decide), rCIc _ _ _ _ (by decide)]
  unfold cp8
  rw [rCIc _ _ _ _ (by decide), rCI, if_pos rfl, if_pos h, rCIc _ _ _ _ (by decide)]
  exact congrFun (cp4_c M (show 17 ≠ 1 by decide)) j
theorem cp13_6 (M : mM) {j : Nat} (h : j < 8) : (cp13 M).1 6 j = M.1 18 j := by
  unfold cp13
  rw [rCIc _ _ _ _ (by decide), rIc _ _ _ _ (by decide)]
  unfold cp11
  rw [rCIc _ _ _ _ (by decide), rCIc _ _ _ _ (by decide), rCIc _ _ _ _ (by decide)]
  unfold cp8
  rw [rCI, if_pos rfl, if_pos h, rCIc _ _ _ _ (by decide), rCIc _ _ _ _ (by decide)]
  exact congrFun (cp4_c M (show 18 ≠ 1 by decide)) j
theorem cp13_7 (M : mM) {j : Nat} (h : j < 8) : (cp13 M).1 7 j = M.1 19 j := by
  unfold cp13
  rw [rCIc _ _ _ _ (by decide), rIc _ _ _ _ (by decide)]
  unfold cp11
  rw [rCIc _ _ _ _ (by decide), rCIc _ _ _ _ (by decide), rCI, if_pos rfl, if_pos h]
  exact congrFun (cp8_c M (c := 19) (by decide) (by decide) (by decide) (by decide)) j
theorem cp13_8 (M : mM) {j : Nat} (h : j < 8) : (cp13 M).1 8 j = M.1 20 j := by
  unfold cp13
  rw [rCIc _ _ _ _ (by decide), rIc _ _ _ _ (by decide)]
  unfold cp11
  rw [rCIc _ _ _ _ (by decide), rCI, if_pos rfl, if_pos h, rCIc _ _ _ _ (by decide)]
  exact congrFun (cp8_c M (c := 20) (by decide) (by decide) (by decide) (by decide)) j
theorem cp13_9 (M : mM) {j : Nat} (h : j < 12) : (cp13 M).1 9 j = M.1 21 j := by
  unfold cp13
  rw [rCIc _ _ _ _ (by decide), rIc _ _ _ _ (by decide)]
  unfold cp11
  rw [rCI, if_pos rfl, if_pos h, rCIc _ _ _ _ (by decide), rCIc _ _ _ _ (by decide)]
  exact congrFun (cp8_c M (c := 21) (by decide) (by decide) (by decide) (by decide)) j
theorem cp13_10 (M : mM) : (cp13 M).1 10 2 = M.1 22 2 := by
  unfold cp13
  rw [rCIc _ _ _ _ (by decide), rI, if_pos rfl, if_pos rfl]
  exact congrFun (cp11_c M (c := 22) (by decide) (by decide) (by decide) (by decide) (by decide) (by decide) (by decide)) 2
theorem cp13_11 (M : mM) {j : Nat} (h : j < 1000) : (cp13 M).1 11 j = M.1 23 j := by
  unfold cp13
  rw [rCI, if_pos rfl, if_pos h, rIc _ _ _ _ (by decide)]
  exact congrFun (cp11_c M (c := 23) (by decide) (by decide) (by decide) (by decide) (by decide) (by decide) (by decide)) j
/-- the house's damp, as it stands -/
def xF (x : HX) : HX := ((if xN x = 0 then 1 else xN x, if xN x = 0 then fz else xD x), xL x)
theorem DC.cp (dC : DC M s) (ok : okD s) : PlC (cp13 M) 1 s.1 ∧ XC (cp13 M) 1 (xF s.2.1) ∧ ∀ j, j < s.2.2.1 → 20 ≤ s.2.2.2.2 j → (cp13 M).2 3 (s.2.2.2.2 j - 20) = cvW (s.2.2.2.1 j) := by
  obtain ⟨p, x, E⟩ := s
  obtain ⟨⟨c1, c2, c3, c4, c5⟩, ⟨f1, f2, f3⟩, g1⟩ := dC
  obtain ⟨o1, o2, o3, o4, o5, o6⟩ := ok
  have hD : pD p ≤ 8 := o1.2.1
  have hP : pP p ≤ 5 := o1.2.2.1
  have o4 : xN x ≤ 12 := o4
  have o6 : (xL x).1 ≤ 999 := o6.1
  refine ⟨⟨?_, ?_, ?_, fun d hd => ?_, fun q hq => ?_⟩, ⟨?_, fun i hi he => ?_, ?_, fun i hi => ?_⟩, fun j hj h20 => ?_⟩
  · rw [cp13_1 M (by omega)]; exact c1
  · rw [cp13_1 M (by omega)]; exact c2
  · rw [cp13_1 M (by omega)]; exact c3
  · have hd : d < pD p := hd
    rw [show 1 + 4 = 5 from rfl, show 1 + 5 = 6 from rfl, show 1 + 6 = 7 from rfl, show 1 + 7 = 8 from rfl, cp13_5 M (by omega), cp13_6 M (by omega), cp13_7 M (by omega), cp13_8 M (by omega)]; exact c4 d hd
  · have hq : q < pP p := hq
    rw [show 1 + 3 = 4 from rfl, cp13_4 M (by omega)]; exact c5 q hq
  · rw [cp13_1 M (by omega)]
    have f1 : M.1 13 3 = nI (xN x) := f1
    by_cases z : xN x = 0
    · refine Or.inr ⟨by rw [f1, z]; rfl, ?_, ?_⟩
      · show (if xN x = 0 then 1 else xN x) = 1
        rw [if_pos z]
      · show (if xN x = 0 then fz else xD x) 0 = 0
        rw [if_pos z]; rfl
    · refine Or.inl ?_
      rw [f1]
      show _ = nI (if xN x = 0 then 1 else xN x)
      rw [if_neg z]
  · have hi : i < (if xN x = 0 then 1 else xN x) := hi
    rw [cp13_1 M (by omega)] at he
    have f1 : M.1 13 3 = nI (xN x) := f1
    have he : M.1 13 3 = nI (if xN x = 0 then 1 else xN x) := he
    by_cases z : xN x = 0
    · rw [if_pos z, f1, z] at he
      exact absurd he (by decide)
    · rw [if_neg z] at hi
      rw [show 1 + 8 = 9 from rfl, cp13_9 M (by omega)]
      show _ = nI ((if xN x = 0 then fz else xD x) i)
      rw [if_neg z]; exact f2 i hi
  · show (cp13 M).1 10 2 = _
    rw [cp13_10]; exact f3.1
  · have hi : i < (xL x).1 := hi
    show (cp13 M).1 11 i = _
    rw [cp13_11 M (by omega)]; exact f3.2 i hi
  · have hj : j < E.1 := hj
    have h20 : 20 ≤ E.2.2 j := h20
    have := (o2.2.1 j hj).2
    have hR : pR p ≤ 7 := o1.1
    have : E.2.2 j < 20 + pP p := by
      rcases this with h | h
      · have h : E.2.2 j < pR p := h
        omega
      · exact h.2
    show (cp13 M).2 3 (E.2.2 j - 20) = cvW (E.2.1 j)
    rw [cp13_3 M (by omega)]
    exact (g1 j hj).2 h20
end HOUSE
