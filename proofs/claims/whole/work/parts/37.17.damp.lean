/-! ===== the house read: the damp ===== -/
def DP (K : mM) (p : HP) (k : Nat) (dd : Nat → Nat) (L : Lw) (E : NE) : Prop := PlR K 60 p ∧ ((∀ j, j < k → K.1 169 (102 + j) = nI (dd j)) ∧ K.1 169 64 = (if L.1 = 0 then -1 else 0) ∧ K.1 163 13 = nI (lwN L) ∧ (0 < L.1 → K.1 170 (1100 + L.1) = 0) ∧ (∀ j, j < L.1 → K.1 170 (1100 + j) = nI (L.2.1 j) ∧ K.1 171 (1100 + j) = nI (L.2.2 j)) ∧ K.1 163 20 = nI (1 + (if L.1 = 0 then 0 else 2))) ∧ NmR K 173 175 19 E
def dAd (dd : Nat → Nat) (k v : Nat) : Nat → Nat := fun j => if j = k then v else dd j
section DAMP
variable {t : TX} {p : HP} {E : NE} {s : DS} {M N K : mM} {L : Lw}
theorem FrE.w169 (K : mM) {j : Nat} (hj : 60 ≤ j) (y : Int32) : FrE K (wI K 169 j y) := ⟨fun c _ h2 _ _ _ => rIc _ _ _ _ h2, fun _ _ => rfl, fun j _ _ _ _ _ => by rw [rIc _ _ _ _ (by decide)], fun k hk => by rw [rI, if_pos rfl, if_neg (by omega)], fun j _ => ⟨by rw [rIc _ _ _ _ (by decide)], by rw [rIc _ _ _ _ (by decide)]⟩⟩
theorem AtR.w169 {m i : Nat} (h : AtR K t m i) (j : Nat) (y : Int32) : AtR (wI K 169 j y) t m i := by
  obtain ⟨a1, a2, a3, a4, a5⟩ := h
  exact ⟨a1.fr (rIc _ _ _ _ (by decide)) (rIc _ _ _ _ (by decide)) (by rw [rI2]), a2, by rw [rIc _ _ _ _ (by decide)]; exact a3, by rw [rIc _ _ _ _ (by decide)]; exact a4, fun k hk => by rw [rI2]; exact a5 k hk⟩
theorem ErR.w169 {e : Nat} (h : ErR K e) (j : Nat) (y : Int32) : ErR (wI K 169 j y) e := ⟨by rw [rIc _ _ _ _ (by decide)]; exact h.1, h.2⟩
theorem DP.fy {k : Nat} {dd : Nat → Nat} (h : DP K p k dd L E) (f : FrY K N) : DP N p k dd L E := by
  obtain ⟨h1, ⟨h2, h3, h4, h5, h6, h7⟩, h8, h9⟩ := h
  refine ⟨h1.fr (f.1 169 (by decide)), ⟨fun j hj => by rw [f.1 169 (by decide)]; exact h2 j hj, by rw [f.1 169 (by decide)]; exact h3, by rw [f.2.2 13 (by decide) (by decide)]; exact h4, fun z => by rw [f.1 170 (by decide)]; exact h5 z, fun j hj => by rw [f.1 170 (by decide), f.1 171 (by decide)]; exact h6 j hj, by rw [f.2.2 20 (by decide) (by decide)]; exact h7⟩, by rw [f.2.2 19 (by decide) (by decide)]; exact h8, fun j hj => by rw [f.2.1, f.1 175 (by decide)]; exact h9 j hj⟩
theorem PlR.w169 (h : PlR K 60 p) (hp : okP p) {j : Nat} (hj : j = 63 ∨ j = 64 ∨ 102 ≤ j) (y : Int32) : PlR (wI K 169 j y) 60 p := by
  obtain ⟨h1, h2, h3, h4, h5⟩ := h
  have hD := hp.2.1
  have hP := hp.2.2.1
  refine ⟨?_, ?_, ?_, fun d hd => ⟨?_, ?_, ?_, ?_⟩, fun q hq => ?_⟩
  · rw [rI, if_pos rfl, if_neg (by omega)]; exact h1
  · rw [rI, if_pos rfl, if_neg (by omega)]; exact h2
  · rw [rI, if_pos rfl, if_neg (by omega)]; exact h3
  · rw [rI, if_pos rfl, if_neg (by omega)]; exact (h4 d hd).1
  · rw [rI, if_pos rfl, if_neg (by omega)]; exact (h4 d hd).2.1
  · rw [rI, if_pos rfl, if_neg (by omega)]; exact (h4 d hd).2.2.1
  · rw [rI, if_pos rfl, if_neg (by omega)]; exact (h4 d hd).2.2.2
  · rw [rI, if_pos rfl, if_neg (by omega)]; exact h5 q hq
theorem DP.add {k : Nat} {dd : Nat → Nat} (h : DP K p k dd L E) (hp : okP p) (v : Nat) : DP (wI K 169 (102 + k) (nI v)) p (k + 1) (dAd dd k v) L E := by
  obtain ⟨h1, ⟨h2, h3, h4, h5, h6, h7⟩, h8, h9⟩ := h
  refine ⟨h1.w169 hp (by omega) _, ⟨fun j hj => ?_, ?_, ?_, fun z => ?_, fun j hj => ?_, ?_⟩, ?_, fun j hj => ?_⟩
  · rw [rI, if_pos rfl]
    unfold dAd
    by_cases z : j = k
    · rw [if_pos (by omega), if_pos z]
    · rw [if_neg (by omega), if_neg z]; exact h2 j (by omega)
  · rw [rI, if_pos rfl, if_neg (by omega)]; exact h3
  · rw [rIc _ _ _ _ (by decide)]; exact h4
  · rw [rIc _ _ _ _ (by decide)]; exact h5 z
  · rw [rIc _ _ _ _ (by decide), rIc _ _ _ _ (by decide)]; exact h6 j hj
  · rw [rIc _ _ _ _ (by decide)]; exact h7
  · rw [rIc _ _ _ _ (by decide)]; exact h8
  · rw [rI2, rIc _ _ _ _ (by decide)]; exact h9 j hj
theorem DP.fin {k : Nat} {dd : Nat → Nat} (h : DP K p k dd L E) (hp : okP p) (hk : 1 ≤ k) : DR (wI K 169 63 (nI k)) (p, ((k, dd), L), E) := by
  obtain ⟨h1, ⟨h2, h3, h4, h5, h6, h7⟩, h8, h9⟩ := h
  refine ⟨h1.w169 hp (by omega) _, ⟨?_, fun z => ?_, fun j hj => ?_, ?_, ?_, fun z => ?_, fun j hj => ?_, ?_⟩, ?_, fun j hj => ?_⟩
  · rw [rI, if_pos rfl, if_pos rfl]
    show nI k = nI (if k = 0 then 1 else k)
    rw [if_neg (by omega)]
  · have z : k = 0 := z
    omega
  · rw [rI, if_pos rfl, if_neg (by omega)]; exact h2 j hj
  · rw [rI, if_pos rfl, if_neg (by decide)]; exact h3
  · rw [rIc _ _ _ _ (by decide)]; exact h4
  · rw [rIc _ _ _ _ (by decide)]; exact h5 z
  · rw [rIc _ _ _ _ (by decide), rIc _ _ _ _ (by decide)]; exact h6 j hj
  · rw [rIc _ _ _ _ (by decide), h7]
    show nI (1 + (if L.1 = 0 then 0 else 2)) = nI ((if k = 0 then 0 else 1) + (if L.1 = 0 then 0 else 2))
    rw [if_neg (show ¬ k = 0 by omega)]
  · rw [rIc _ _ _ _ (by decide)]; exact h8
  · rw [rI2, rIc _ _ _ _ (by decide)]; exact h9 j hj
theorem d88_eq (w : Nat) (x : Int32) (K : mM) : f_X12_readDamp_88 w 163 x K = some (wI K 169 63 x) := by
  unfold f_X12_readDamp_88
  rw [r163_10, l169, show (63 : Int32) = nI 63 from rfl, chk_nI _ (by omega) (by omega), nI_clamp (show 63 < 2147483648 by omega), lt_eq]
theorem dl_er (w n : Nat) {e : Nat} (h : ErR K e) (x : Int32) : ∃ K1, f_X12_readDamp_2 w (n + 1) 163 x K = some K1 ∧ FrE K K1 ∧ ErR K1 e := by
  refine ⟨wI K 169 63 x, ?_, FrE.w169 K (by omega) _, h.w169 _ _⟩
  rw [f_X12_readDamp_2, if_neg h.ne, d88_eq]
theorem nu4 {i : Nat} (h : tkK t (psn t i) = 2) : nuE t i = 4 := if_pos h
theorem nu1 {i : Nat} (h : tkK t (psn t i) ≠ 2) : nuE t i = 1 := if_neg h
theorem isS_no {i c : Nat} (h : tkK t (psn t i) ≠ 3) : isS t i c = false := by unfold isS; rw [decide_eq_false h]; rfl
/-- no number stands here: the row ends -/
theorem dp_end (w : Nat) (hw : 1100 ≤ w) (ht : okT t) {M0 K0 : mM} {m i i0 k n n' : Nat} {dd : Nat → Nat} (fM : FrD M0 M) (fK : FrE K0 K) (aC : AtC M t i) (aR : AtR K t m i) (dC : DC M (p, ((k, dd), L), E)) (dP : DP K p k dd L E) (ok : okD (p, ((k, dd), L), E)) (hi : i0 ≤ i) (hk1 : 1 ≤ k) (hk : k ≤ 12) (hk2 : tkK t (psn t i) ≠ 2) : Lns t m M0 K0 i0 (f_X2_readDamp_25 w (n + 1) 27 13 (nI k) M) (bV (f_X12_readDamp_2 w (n' + 1) 163 (nI k) K) fun M1 => f_X12_takeSign w 163 59 M1) := by
  have hm := aR.1.1
  have him := aR.2.1
  have hle := kind_lt (t := t) (psn t i)
  have a1 := (aR.1.2.2.2 i him).1
  rw [f_X12_readDamp_2, aR.2.2.2.1, if_pos rfl, if_neg (show ¬ nI k = 0 from fun e => by have := (nI_eq (b := 0) (by omega) (by omega)).mp e; omega), aR.2.2.1, r163_4, l165, chk_nI _ (by omega) (by omega), nI_clamp (by omega), a1, if_neg (show ¬ nI (tkK t (psn t i)) = 2 from fun e => hk2 ((nI_eq (b := 2) (by omega) (by omega)).mp e)), d88_eq, bV_some]
  have dR := dP.fin ok.1 hk1
  have aR' := aR.w169 63 (nI k)
  have fK' := fK.tr (FrE.w169 K (show 60 ≤ 63 by omega) (nI k))
  generalize wI K 169 63 (nI k) = K1 at dR aR' fK' ⊢
  rw [f_X2_readDamp_25, if_neg (show ¬ (12 : Int32) < nI k from fun e => by have := (nI_ltI (a := 12) (by omega) (by omega)).mp e; omega), if_neg (show ¬ nI k ≤ 0 from fun e => by have := (nI_leI (b := 0) (by omega) (by omega)).mp e; omega), r27_0, show f_X10_isSign w 25 59 M = _ from X10_isSign_eq w ht aC (c := 59) (by omega), bI_some]
  cases e : isS t i 59
  · obtain ⟨N, n1, n2⟩ := X10_takeNumber_eq w hw ht aC (u := 9) (by omega)
    obtain ⟨K2, k1, k2, k3⟩ := X12_takeSign_eq w ht aR' (c := 59) (by omega)
    have h90 : f_X2_readDamp_50 w (f_X2_readDamp_25 w n) 27 13 (nI k) M = f_X2_readDamp_90 w (f_X2_readDamp_25 w n) 27 13 (nI k) M := by
      unfold f_X2_readDamp_50
      rw [r27_0, aC.2.2.1, if_neg (show ¬ nI (tkK t (psn t i)) = 2 from fun e => hk2 ((nI_eq (b := 2) (by omega) (by omega)).mp e)), ite_self]
    rw [if_pos (show b2i false = 0 from rfl), h90]
    unfold f_X2_readDamp_90
    rcases n2 with ⟨y1, -⟩ | ⟨y1, y2, y3⟩
    · exact absurd (by unfold isU at y1; rw [Bool.and_eq_true, decide_eq_true_eq] at y1; exact y1.1) hk2
    · rcases k3 with ⟨z1, -⟩ | ⟨z1, z2⟩
      · rw [e] at z1; cases z1
      · rw [nu1 hk2] at y3
        refine ⟨N, K2, fM.tr n1.d, fK'.tr k2.e, Or.inr ⟨_, ?_, k1, y3, z2⟩⟩
        rw [r27_0, show f_X10_takeNumber w 25 9 M = _ from y2, bI_some, if_pos rfl]; rfl
  · rw [if_neg (show ¬ b2i true = 0 by decide)]
    unfold f_X2_readDamp_47 f_X2_readDamp_118
    rw [r27_0]
    exact lend w hw ht fM fK' aC aR' dC dR ok hi
theorem X6_addDamp_eq (w : Nat) {k : Nat} (hk : k < 12) (h : M.1 13 3 = nI k) (x : Int32) : f_X6_addDamp w 13 x M = some (wI (wI M 21 k x) 13 3 (nI (k + 1))) := by
  unfold f_X6_addDamp
  rw [h, if_neg (show ¬ (12 : Int32) ≤ nI k from fun z => by have := (nI_leI (a := 12) (by omega) (by omega)).mp z; omega), r13_11, l21, chk_nI _ (by omega) (by omega), nI_clamp (by omega), lt_eq, rIc _ _ _ _ (show 13 ≠ 21 by decide), h, nI_1, lt_eq]
theorem DC.damp {k v : Nat} {dd : Nat → Nat} (dC : DC M (p, ((k, dd), L), E)) : DC (wI (wI M 21 k (nI v)) 13 3 (nI (k + 1))) (p, ((k + 1, dAd dd k v), L), E) := by
  obtain ⟨⟨c1, c2, c3, c4, c5⟩, ⟨f1, f2, f3⟩, g1⟩ := dC
  have q1 : ∀ c, c ≠ 13 → c ≠ 21 → (wI (wI M 21 k (nI v)) 13 3 (nI (k + 1))).1 c = M.1 c := fun c h1 h2 => by rw [rIc _ _ _ _ h1, rIc _ _ _ _ h2]
  have q13 : ∀ j, (wI (wI M 21 k (nI v)) 13 3 (nI (k + 1))).1 13 j = if j = 3 then nI (k + 1) else M.1 13 j := fun j => by rw [rI, if_pos rfl, rIc _ _ _ _ (by decide)]
  refine ⟨⟨?_, ?_, ?_, fun d hd => ?_, fun q hq => ?_⟩, ⟨?_, fun j hj => ?_, ?_, fun j hj => ?_⟩, fun j hj => ?_⟩
  · rw [q13, if_neg (by decide)]; exact c1
  · rw [q13, if_neg (by decide)]; exact c2
  · rw [q13, if_neg (by decide)]; exact c3
  · rw [q1 (13 + 4) (by decide) (by decide), q1 (13 + 5) (by decide) (by decide), q1 (13 + 6) (by decide) (by decide), q1 (13 + 7) (by decide) (by decide)]; exact c4 d hd
  · rw [q1 (13 + 3) (by decide) (by decide)]; exact c5 q hq
  · rw [q13, if_pos rfl]; rfl
  · have hj : j < k + 1 := hj
    show _ = nI (dAd dd k v j)
    rw [rIc _ _ _ _ (by decide), rI, if_pos rfl]
    unfold dAd
    by_cases z : j = k
    · rw [if_pos z, if_pos z]
    · rw [if_neg z, if_neg z]; exact f2 j (show j < k by omega)
  · rw [q1 22 (by decide) (by decide)]; exact f3.1
  · rw [q1 (22 + 1) (by decide) (by decide)]; exact f3.2 j hj
  · exact g1 j hj
theorem dp_loop (w : Nat) (hw : 1100 ≤ w) (ht : okT t) {M0 K0 : mM} {m i0 : Nat} : ∀ (r k n n' i : Nat) (dd : Nat → Nat) (M K : mM), k + r = 12 → r < n → r + 1 < n' → FrD M0 M → FrE K0 K → AtC M t i → AtR K t m i → i0 ≤ i → DC M (p, ((k, dd), L), E) → DP K p k dd L E → okD (p, ((k, dd), L), E) → Lns t m M0 K0 i0 (f_X2_readDamp_25 w n 27 13 (nI k) M) (bV (f_X12_readDamp_2 w n' 163 (nI k) K) fun M1 => f_X12_takeSign w 163 59 M1) := by
  intro r
  induction r with
  | zero =>
    intro k n n' i dd M K hkr hn hn' fM fK aC aR hi dC dP ok
    obtain ⟨n, rfl⟩ : ∃ z, n = z + 1 := ⟨n - 1, by omega⟩
    obtain ⟨n', rfl⟩ : ∃ z, n' = z + 1 + 1 := ⟨n' - 2, by omega⟩
    have hk : k = 12 := by omega
    subst hk
    by_cases hk2 : tkK t (psn t i) = 2
    · have hm := aR.1.1
      have him := aR.2.1
      have a1 := (aR.1.2.2.2 i him).1
      have hv : M.2 25 5 = lN (tkN t (psn t i)) := aC.2.2.2.2.2.1 hk2
      have hnn := tkN_lt (psn_le (t := t) i) hk2
      rw [f_X12_readDamp_2, aR.2.2.2.1, if_pos rfl, if_neg (show ¬ nI 12 = 0 by decide), aR.2.2.1, r163_4, l165, chk_nI _ (by omega) (by omega), nI_clamp (by omega), a1, if_pos (show nI (tkK t (psn t i)) = 2 by rw [hk2]; rfl)]
      rw [f_X2_readDamp_25, if_neg (show ¬ (12 : Int32) < nI 12 by decide), if_neg (show ¬ nI 12 ≤ 0 by decide), r27_0, show f_X10_isSign w 25 59 M = _ from X10_isSign_eq w ht aC (c := 59) (by omega), bI_some, isS_no (by omega), if_pos (show b2i false = 0 from rfl)]
      unfold f_X2_readDamp_50 f_X12_readDamp_26
      rw [if_pos (show nI 12 = 12 from rfl), r27_0, aC.2.2.1, if_pos (show nI (tkK t (psn t i)) = 2 by rw [hk2]; rfl), hv, show (9 : Int64) = lN 9 from rfl]
      obtain ⟨K1, k1, k2⟩ := X12_takeNumber_eq w ht aR (u := 9) (by omega)
      rcases k2 with ⟨z1, z2, z3⟩ | ⟨z1, z2, z3⟩
      · have hle := isU_le z1
        obtain ⟨N, n1, n2, n3⟩ := X10_refuse_eq w (c := 5) aC
        have f1 : FrY K1 (wI K1 163 7 (nI i)) := (FrY.rf K1).w (Or.inl rfl) _
        have aR2 : AtR (wI K1 163 7 (nI i)) t m i := z3.to f1 (by rw [w163, if_pos rfl]) (by rw [w163, if_neg (by decide)]; exact z3.2.2.2.1) him
        obtain ⟨K2, y1, y2, y3⟩ := X12_wrong_eq w ht (c := 5) aR2 (by omega) (by omega)
        obtain ⟨K3, x1, x2, x3⟩ := dl_er w n' y3 (nI 12)
        rw [if_neg (fun e => by have := (pk_lLT (by omega) (by omega)).mp ((lg_cmp_gt _ _).mp e); omega), show f_X12_takeNumber w 163 0 9 K = _ from z2, bI_some, z3.2.2.2.1, if_pos rfl, if_pos (show nI 12 = 12 from rfl), z3.2.2.1, show nI (i + 1) - 1 = nI i from pk_sub (b := 1) (by omega), lt_eq, show f_X12_wrong w 163 5 (wI K1 163 7 (nI i)) = _ from y1, bV_some, x1, bV_some]
        refine lerr w (fM.tr n2.d) (fK.tr ((k1.e.tr (f1.e.tr y2.e)).tr x2)) n3 x3 ?_
        unfold f_X2_readDamp_81
        rw [r27_0, show f_X10_refuse w 25 5 M = _ from n1, bI_some]; rfl
      · obtain ⟨N, n1, n2⟩ := X10_takeNumber_eq w hw ht aC (u := 9) (by omega)
        obtain ⟨K3, x1, x2, x3⟩ := dl_er w n' z3 (nI 12)
        have hgt : ¬ tkN t (psn t i) ≤ 9 := fun q => by unfold isU at z1; rw [decide_eq_true hk2, decide_eq_true q] at z1; cases z1
        unfold f_X2_readDamp_90 f_X12_readDamp_65
        rw [if_pos ((lg_cmp_gt _ _).mpr ((pk_lLT (by omega) (by omega)).mpr (by omega))), show f_X12_takeNumber w 163 0 9 K = _ from z2, bI_some, if_neg z3.ne, if_neg z3.ne, x1, bV_some]
        rcases n2 with ⟨y1, -⟩ | ⟨y1, y2, y3⟩
        · rw [y1] at z1; cases z1
        · refine lerr w (fM.tr n1.d) (fK.tr (k1.e.tr x2)) y3 x3 ?_
          rw [r27_0, show f_X10_takeNumber w 25 9 M = _ from y2, bI_some, if_pos rfl]; rfl
    · exact dp_end w hw ht fM fK aC aR dC dP ok hi (by omega) (by omega) hk2
  | succ r ih =>
    intro k n n' i dd M K hkr hn hn' fM fK aC aR hi dC dP ok
    obtain ⟨n, rfl⟩ : ∃ z, n = z + 1 := ⟨n - 1, by omega⟩
    obtain ⟨n', rfl⟩ : ∃ z, n' = z + 1 + 1 := ⟨n' - 2, by omega⟩
    have hm := aR.1.1
    have him := aR.2.1
    have hle := kind_lt (t := t) (psn t i)
    by_cases hnum : k = 0 ∨ tkK t (psn t i) = 2
    · have eR : f_X12_readDamp_2 w (n' + 1 + 1) 163 (nI k) K = f_X12_readDamp_26 w (f_X12_readDamp_2 w (n' + 1)) 163 (nI k) K := by
        rw [f_X12_readDamp_2, aR.2.2.2.1, if_pos rfl]
        by_cases k0 : k = 0
        · rw [if_pos (by rw [k0]; rfl)]
        · have hk2 : tkK t (psn t i) = 2 := by omega
          rw [if_neg (show ¬ nI k = 0 from fun e => by have := (nI_eq (b := 0) (by omega) (by omega)).mp e; omega), aR.2.2.1, r163_4, l165, chk_nI _ (by omega) (by omega), nI_clamp (by omega), (aR.1.2.2.2 i him).1, if_pos (show nI (tkK t (psn t i)) = 2 by rw [hk2]; rfl)]
      have e50 : f_X2_readDamp_50 w (f_X2_readDamp_25 w n) 27 13 (nI k) M = f_X2_readDamp_90 w (f_X2_readDamp_25 w n) 27 13 (nI k) M := by
        unfold f_X2_readDamp_50
        rw [if_neg (show ¬ nI k = 12 from fun e => by have := (nI_eq (b := 12) (by omega) (by omega)).mp e; omega)]
      have eC : f_X2_readDamp_25 w (n + 1) 27 13 (nI k) M = f_X2_readDamp_90 w (f_X2_readDamp_25 w n) 27 13 (nI k) M := by
        rw [f_X2_readDamp_25, if_neg (show ¬ (12 : Int32) < nI k from fun e => by have := (nI_ltI (a := 12) (by omega) (by omega)).mp e; omega)]
        by_cases k0 : k = 0
        · rw [if_pos (show nI k ≤ 0 by rw [k0]; decide), e50]
        · have hk2 : tkK t (psn t i) = 2 := by omega
          rw [if_neg (show ¬ nI k ≤ 0 from fun e => by have := (nI_leI (b := 0) (by omega) (by omega)).mp e; omega), r27_0, show f_X10_isSign w 25 59 M = _ from X10_isSign_eq w ht aC (c := 59) (by omega), bI_some, isS_no (by omega), if_pos (show b2i false = 0 from rfl), e50]
      rw [eR, eC]
      unfold f_X2_readDamp_90 f_X12_readDamp_26
      obtain ⟨N, n1, n2⟩ := X10_takeNumber_eq w hw ht aC (u := 9) (by omega)
      obtain ⟨K1, k1, k2⟩ := X12_takeNumber_eq w ht aR (u := 9) (by omega)
      rcases k2 with ⟨z1, z2, z3⟩ | ⟨z1, z2, z3⟩
      · rcases n2 with ⟨-, y2, y3⟩ | ⟨y1, -⟩
        · have hv := isU_le z1
          have dC1 := dC.fb n1
          unfold f_X12_readDamp_65
          rw [r27_0, show f_X10_takeNumber w 25 9 M = _ from y2, bI_some, if_neg (m1_ne _ (by omega)), X6_addDamp_eq w (show k < 12 by omega) dC1.2.1.1, bV_some, nI_1, show f_X12_takeNumber w 163 0 9 K = _ from z2, bI_some, z3.2.2.2.1, if_pos rfl, if_neg (show ¬ nI k = 12 from fun e => by have := (nI_eq (b := 12) (by omega) (by omega)).mp e; omega), if_pos rfl, r163_10, l169, show (102 : Int32) + nI k = nI (102 + k) from nI_add 102 k, chk_nI _ (by omega) (by omega), nI_clamp (by omega), lt_eq]
          generalize hv' : tkN t (psn t i) = v at hv ⊢
          have dC2 := dC1.damp (v := v)
          have aC2 : AtC (wI (wI N 21 k (nI v)) 13 3 (nI (k + 1))) t (i + 1) := y3.fb (by rw [rIc _ _ _ _ (by decide), rIc _ _ _ _ (by decide)]) (by rw [rIc _ _ _ _ (by decide), rIc _ _ _ _ (by decide)]) (by rw [rI2, rI2])
          have fN : FrD N (wI (wI N 21 k (nI v)) 13 3 (nI (k + 1))) := ⟨fun c h1 h2 => by rw [rIc _ _ _ _ (by omega), rIc _ _ _ _ (by omega)], fun c j _ _ _ => by rw [rI2, rI2], by rw [rIc _ _ _ _ (by decide), rIc _ _ _ _ (by decide)]⟩
          have ok2 : okD (p, ((k + 1, dAd dd k v), L), E) := by
            obtain ⟨o1, o2, o3, o4, o5, o6⟩ := ok
            refine ⟨o1, o2, o3, by show k + 1 ≤ 12; omega, fun j hj => ?_, o6⟩
            have hj : j < k + 1 := hj
            show dAd dd k v j ≤ 9
            unfold dAd
            split
            · exact hv
            · exact o5 j (show j < k by omega)
          exact ih (k + 1) n (n' + 1) (i + 1) _ _ _ (by omega) (by omega) (by omega) ((fM.tr n1.d).tr fN) ((fK.tr k1.e).tr (FrE.w169 K1 (by omega) _)) aC2 (z3.w169 _ _) (by omega) dC2 ((dP.fy k1).add ok.1 v) ok2
        · rw [y1] at z1; cases z1
      · rcases n2 with ⟨y1, -⟩ | ⟨y1, y2, y3⟩
        · rw [y1] at z1; cases z1
        · obtain ⟨K3, x1, x2, x3⟩ := dl_er w n' z3 (nI k)
          unfold f_X12_readDamp_65
          rw [show f_X12_takeNumber w 163 0 9 K = _ from z2, bI_some, if_neg z3.ne, if_neg z3.ne, x1, bV_some]
          refine lerr w (fM.tr n1.d) (fK.tr (k1.e.tr x2)) y3 x3 ?_
          rw [r27_0, show f_X10_takeNumber w 25 9 M = _ from y2, bI_some, if_pos rfl]; rfl
    · exact dp_end w hw ht fM fK aC aR dC dP ok hi (by omega) (by omega) (by omega)
theorem once_0 : ∀ n, n < 4 → ((((nI n >>> (nI 0 &&& 31)) &&& 1) = 1) ↔ n % 2 = 1) ∧ nI n ||| ((1 : Int32) <<< (nI 0 &&& 31)) = nI (n / 2 * 2 + 1) := by decide +kernel
theorem once_1 : ∀ n, n < 4 → ((((nI n >>> (nI 1 &&& 31)) &&& 1) = 1) ↔ 2 ≤ n) ∧ nI n ||| ((1 : Int32) <<< (nI 1 &&& 31)) = nI (n % 2 + 2) := by decide +kernel
/-- the word that stands here, as readOnce sees it -/
theorem once_wd (w : Nat) (hw : 1100 ≤ w) {m i k : Nat} (aR : AtR K t m i) (hk : k < 2) (e : isW t i (5 + k) = true) : f_X12_wordHere w 163 5 2 K = some (nI k, K) := by
  obtain ⟨v, h1, h2⟩ := X12_wordHere_eq w hw aR (a := 5) (n := 2) (by omega)
  rcases h2 with ⟨-, h3⟩ | ⟨k', h3, h4, h5⟩
  · rw [h3 k hk] at e; cases e
  · have := isW_uni (by omega) (by omega) h5 e
    have : k' = k := by omega
    subst this
    rw [← h4]; exact h1
theorem ln_damp (w : Nat) (hw : 1100 ≤ w) (ht : okT t) {m i : Nat} (aC : AtC M t i) (aR : AtR K t m i) (dC : DC M s) (dR : DR K s) (ok : okD s) (he : isW t i 5 = true) : Lns t m M K i (f_X2_readDamp w 27 13 M) (bV (f_X12_readOnce w 163 K) fun M1 => f_X12_takeSign w 163 59 M1) := by
  obtain ⟨p, ⟨⟨k, dd⟩, L⟩, E⟩ := s
  have hk : tkK t (psn t i) ≠ 0 := isW_k he
  have hk12 : k ≤ 12 := ok.2.2.2.1
  have c3 : M.1 13 3 = nI k := dC.2.1.1
  have d20 : K.1 163 20 = nI ((if k = 0 then 0 else 1) + (if L.1 = 0 then 0 else 2)) := dR.2.1.2.2.2.2.2.2.2
  unfold f_X2_readDamp f_X12_readOnce
  rw [c3, r27_0, once_wd w hw aR (k := 0) (by omega) he, bI_some, if_pos (show (0 : Int32) ≤ nI 0 by decide), d20]
  by_cases k0 : k = 0
  · subst k0
    have hl4 : (if L.1 = 0 then 0 else 2) < 4 := by split <;> omega
    have hl2 : (if L.1 = 0 then 0 else 2) % 2 = 0 := by split <;> rfl
    rw [if_pos (show nI 0 ≤ 0 by decide), if_pos (show (0 : Nat) = 0 from rfl), Nat.zero_add, if_neg (fun z => by have := ((once_0 _ hl4).1).mp z; omega)]
    obtain ⟨M1, m1, m2, m3⟩ := aC.adv w hw ht
    rw [m1, bV_some]
    unfold f_X12_readOnce_36 f_X12_readDamp
    rw [aR.2.2.2.1, if_pos (by decide), d20, if_pos (show (0 : Nat) = 0 from rfl), Nat.zero_add, (once_0 _ hl4).2, lt_eq, w163 _ 20, if_neg (show ¬ (7 : Nat) = 20 by decide), aR.2.2.1, nI_1, lt_eq, if_pos (show nI 0 = 0 from rfl)]
    generalize hK2 : wI (wI K 163 20 (nI ((if L.1 = 0 then 0 else 2) / 2 * 2 + 1))) 163 7 (nI (i + 1)) = K2
    have q1 : ∀ c, c ≠ 163 → K2.1 c = K.1 c := fun c h => by rw [← hK2, rIc _ _ _ _ h, rIc _ _ _ _ h]
    have q2 : K2.2 = K.2 := by rw [← hK2]; rfl
    have q3 : ∀ j, K2.1 163 j = if j = 7 then nI (i + 1) else if j = 20 then nI ((if L.1 = 0 then 0 else 2) / 2 * 2 + 1) else K.1 163 j := fun j => by rw [← hK2, w163, w163]
    have aR2 : AtR K2 t m (i + 1) := by
      have hn := aR.nx hk
      obtain ⟨a1, a2, a3, a4, a5⟩ := aR
      exact ⟨a1.fr (q1 165 (by decide)) (q1 166 (by decide)) (by rw [q2]), hn, by rw [q3, if_pos rfl], by rw [q3, if_neg (by decide), if_neg (by decide)]; exact a4, fun k hk => by rw [q2]; exact a5 k hk⟩
    have fK2 : FrE K K2 := ⟨fun c h1 _ _ _ _ => q1 c h1, fun c _ => by rw [q2], fun j h1 _ _ _ h5 => by rw [q3, if_neg h1, if_neg h5], fun j _ => by rw [q1 169 (by decide)], fun j _ => ⟨by rw [q1 170 (by decide)], by rw [q1 171 (by decide)]⟩⟩
    have dP : DP K2 p 0 dd L E := by
      obtain ⟨d1, ⟨x1, x2, x3, x4, x5, x6, x7, x8⟩, y1, y2⟩ := dR
      refine ⟨d1.fr (q1 169 (by decide)), ⟨fun j hj => absurd hj (Nat.not_lt_zero _), by rw [q1 169 (by decide)]; exact x4, by rw [q3, if_neg (by decide), if_neg (by decide)]; exact x5, fun z => by rw [q1 170 (by decide)]; exact x6 z, fun j hj => by rw [q1 170 (by decide), q1 171 (by decide)]; exact x7 j hj, ?_⟩, by rw [q3, if_neg (by decide), if_neg (by decide)]; exact y1, fun j hj => by rw [q2, q1 175 (by decide)]; exact y2 j hj⟩
      rw [q3, if_neg (by decide), if_pos rfl]
      congr 1
      split <;> rfl
    have hB : (bV (bV (f_X12_readDamp_2 w w 163 0 K2) fun M6 => some M6) fun M1 => f_X12_takeSign w 163 59 M1) = bV (f_X12_readDamp_2 w w 163 (nI 0) K2) fun M1 => f_X12_takeSign w 163 59 M1 := by
      show _ = bV (f_X12_readDamp_2 w w 163 0 K2) _
      cases f_X12_readDamp_2 w w 163 0 K2 <;> rfl
    rw [hB]
    have hI := dp_loop (p := p) (L := L) (E := E) w hw ht (M0 := M) (K0 := K) (m := m) (i0 := i) 12 0 w w (i + 1) dd M1 K2 (by omega) (by omega) (by omega) m2.b.d fK2 m3 aR2 (by omega) (dC.fb m2.b) dP ok
    exact hI
  · have hl4 : 1 + (if L.1 = 0 then 0 else 2) < 4 := by split <;> omega
    have hl2 : (1 + (if L.1 = 0 then 0 else 2)) % 2 = 1 := by split <;> rfl
    obtain ⟨N, n1, n2, n3⟩ := X10_refuse_eq w (c := 3) aC
    obtain ⟨K1, y1, y2, y3⟩ := X12_wrong_eq w ht (c := 3) aR (by omega) (by omega)
    unfold f_X12_readOnce_36
    rw [if_neg k0, if_pos (((once_0 _ hl4).1).mpr hl2), show f_X12_wrong w 163 3 K = _ from y1, bV_some, if_neg y3.nle, bV_some]
    refine lerr w n2.d y2.e n3 y3 ?_
    rw [if_neg (show ¬ nI k ≤ 0 from fun e => by have := (nI_leI (b := 0) (by omega) (by omega)).mp e; omega), show f_X10_refuse w 25 3 M = _ from n1, bI_some]; rfl
end DAMP
