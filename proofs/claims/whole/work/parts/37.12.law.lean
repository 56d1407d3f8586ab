/-! ===== the law read: all of it ===== -/
section LAWT
variable {t : TX} {L : Lw} {M N K : mM}
theorem jfst {m i h : Nat} {rc : Option (Int32 × mM)} {rr : Option mM} {C : mM → Option (Int32 × mM)} {G : mM → Option mM} (hJ : LJ t m M K i L h rc rr) (ok : ∀ N K1 i2 L2, FrL M N → FrZ K K1 → AtC N t i2 → LwC N 22 L2 → AtR K1 t m i2 → LwE K1 L2 → i < i2 → L.1 < L2.1 → L2.1 + i ≤ L.1 + i2 → hOK L2 (h + 1) → LJ t m M K i L h (C N) (G K1)) (er : ∀ K1 e, ErR K1 e → ∃ K2, G K1 = some K2 ∧ FrY K1 K2 ∧ ErR K2 e) : LJ t m M K i L h (bI rc fun q2 M1 => if q2 = 0 then rtB 0 M1 else C M1) (bV rr G) := by
  obtain ⟨N, K1, fN, fK, res⟩ := hJ
  rcases res with ⟨i2, L2, c1, c2, b1, b2, b3, b4, b5, b6, b7, b8⟩ | ⟨e2, n2, j, c1, c2, b1, b2, b3, b4, b5⟩
  · rw [c1, c2, bI_some, bV_some, if_neg (by decide)]
    exact ok N K1 i2 L2 fN fK b1 b2 b3 b4 b5 b6 b7 b8
  · obtain ⟨K2, k1, k2, k3⟩ := er K1 e2 b2
    refine ⟨N, K2, fN, fK.tr k2.z, Or.inr ⟨e2, n2, j, ?_, ?_, b1, k3, by rw [k2.2.2 13 (by decide) (by decide)]; exact b3, b4, b5⟩⟩
    · rw [c1, bI_some, if_pos rfl]; rfl
    · rw [c2, bV_some, k1]
def selR (s : (Nat → Int32 → mM → Option mM) × (Nat → Int32 → mM → Option mM) × (Nat → Int32 → mM → Option mM) × (Nat → Int32 → mM → Option mM) × (Nat → Int32 → mM → Option mM)) : Nat → Nat → Int32 → mM → Option mM
  | 0 => s.1
  | 1 => s.2.1
  | 2 => s.2.2.1
  | 3 => s.2.2.2.1
  | _ => s.2.2.2.2
theorem jlev (w : Nat) (hw : 1100 ≤ w) (ht : okT t) {m dep lev : Nat} (hlev : lev < 4) (hm : m ≤ 1000) (d d' h : Nat) (hh : h + 2 ≤ 30) (IH : ∀ h', (h' = h ∨ h' = h + 1) → ∀ M K i L, AtC M t i → LwC M 22 L → AtR K t m i → LwE K L → L.1 + 1 ≤ i → hOK L h' → LJ t m M K i L h' ((fS2 w d).1 25 22 (nI (lev + 1)) (nI dep) M) (selR (fS0 w d') (lev + 1) 163 (nI dep) K)) (i : Nat) (aC : AtC M t i) (lC : LwC M 22 L) (aR : AtR K t m i) (lR : LwE K L) (hL : L.1 + 1 ≤ i) (hok : hOK L h) : LJ t m M K i L h ((fS2 w (d + 1)).1 25 22 (nI lev) (nI dep) M) (selR (fS0 w (d' + 1)) lev 163 (nI dep) K) := by
  have e0 := IH h (Or.inl rfl) M K i L aC lC aR lR hL hok
  have e1 := IH (h + 1) (Or.inr rfl)
  have eC : (fS2 w (d + 1)).1 25 22 (nI lev) (nI dep) M = bI ((fS2 w d).1 25 22 (nI (lev + 1)) (nI dep) M) fun q2 M1 => if q2 = 0 then rtB 0 M1 else f_X2_readTerm_43 w (fS2 w d).1 (fS2 w d).2 w 25 22 (nI lev) (nI dep) (if lev = 1 then 1 else 1000) (nI 0) M1 := by
    rw [fS2_s]
    show f_X2_readTerm_b w (fS2 w d).1 (fS2 w d).2 25 22 (nI lev) (nI dep) M = _
    unfold f_X2_readTerm_b
    rw [if_pos (show nI lev < 4 from (nI_ltI (b := 4) (by omega) (by omega)).mpr hlev), nI_1]
    congr 1
    funext q2 M1
    by_cases q : q2 = 0
    · rw [if_pos q, if_pos q]
    · rw [if_neg q, if_neg q]
      by_cases l : lev = 1
      · rw [if_pos (by rw [l]; rfl), if_pos l]; rfl
      · rw [if_neg (show ¬ nI lev = 1 from fun e => l ((nI_eq (b := 1) (by omega) (by omega)).mp e)), if_neg l]; rfl
  rw [eC]
  obtain ⟨w', rfl⟩ : ∃ k, w = k + 1 := ⟨w - 1, by omega⟩
  rw [fS0_s]
  have hlv : lev = 0 ∨ lev = 1 ∨ lev = 2 ∨ lev = 3 := by omega
  rcases hlv with rfl | rfl | rfl | rfl
  · have hG := whole_loop (t := t) (w' + 1) (m := m) (fS0 (w' + 1) d').1 (fS0 (w' + 1) d').2.1 (fS0 (w' + 1) d').2.2.1 (fS0 (w' + 1) d').2.2.2.1 (fS0 (w' + 1) d').2.2.2.2 (nI dep)
    rw [if_neg (show ¬ (0 : Nat) = 1 by decide)]
    refine jfst (G := fun K1 => f_X12_whole_5 (w' + 1) (fS0 (w' + 1) d').1 (fS0 (w' + 1) d').2.1 (fS0 (w' + 1) d').2.2.1 (fS0 (w' + 1) d').2.2.2.1 (fS0 (w' + 1) d').2.2.2.2 (w' + 1) 163 (nI dep) K1) e0 (fun N K1 i2 L2 f1 f2 a1 a2 a3 a4 a5 a6 a7 a8 => ?_) (fun K1 e hE => hG.2.2 _ K1 e hE)
    exact jloop (w' + 1) hw ht hlev hm _ _ _ _ hG h hh e1 M K i L hL (m - i2) i2 (w' + 1) (w' + 1) 0 L2 N K1 (by omega) (by omega) (by omega) (by omega) f1 f2 a1 a2 a3 a4 a5 a6 a7 a8
  · rw [if_pos rfl]
    refine jfst (G := fun K1 => bI (f_X12_isSign (w' + 1) 163 60 K1) fun q3 M2 => bI (f_X12_hasSign (w' + 1) 163 60 M2) fun q5 M4 => (if q5 = 0 then bI (f_X12_hasSign (w' + 1) 163 61 M4) fun q7 M6 => (if q7 = 0 then some M6 else (f_X12_test_30 (w' + 1) (fS0 (w' + 1) d').1 (fS0 (w' + 1) d').2.1 (fS0 (w' + 1) d').2.2.1 (fS0 (w' + 1) d').2.2.2.1 (fS0 (w' + 1) d').2.2.2.2 163 (nI dep) q3 M6)) else (f_X12_test_30 (w' + 1) (fS0 (w' + 1) d').1 (fS0 (w' + 1) d').2.1 (fS0 (w' + 1) d').2.2.1 (fS0 (w' + 1) d').2.2.2.1 (fS0 (w' + 1) d').2.2.2.2 163 (nI dep) q3 M4))) e0 (fun N K1 i2 L2 f1 f2 a1 a2 a3 a4 a5 a6 a7 a8 => ?_) (fun K1 e hE => ?_)
    · exact jone (w' + 1) hw ht hm _ _ _ _ _ _ _ h hh e1 M K i L hL i2 L2 N K1 f1 f2 a1 a2 a3 a4 a5 a6 a7 a8
    · obtain ⟨K2, k1, k2, k3⟩ := X12_hasSign_er (w' + 1) 60 hE
      obtain ⟨K3, k4, k5, k6⟩ := X12_hasSign_er (w' + 1) 61 k3
      refine ⟨K3, ?_, k2.tr k5, k6⟩
      show bI (f_X12_isSign (w' + 1) 163 60 K1) _ = _
      rw [X12_isSign_er (w' + 1) 60 hE, bI_some, k1, bI_some, if_pos rfl, k4, bI_some, if_pos rfl]
  · have hG := sums_loop (t := t) (w' + 1) ht (m := m) (fS0 (w' + 1) d').1 (fS0 (w' + 1) d').2.1 (fS0 (w' + 1) d').2.2.1 (fS0 (w' + 1) d').2.2.2.1 (fS0 (w' + 1) d').2.2.2.2 (nI dep)
    rw [if_neg (show ¬ (2 : Nat) = 1 by decide)]
    refine jfst (G := fun K1 => f_X12_sums_5 (w' + 1) (fS0 (w' + 1) d').1 (fS0 (w' + 1) d').2.1 (fS0 (w' + 1) d').2.2.1 (fS0 (w' + 1) d').2.2.2.1 (fS0 (w' + 1) d').2.2.2.2 (w' + 1) 163 (nI dep) K1) e0 (fun N K1 i2 L2 f1 f2 a1 a2 a3 a4 a5 a6 a7 a8 => ?_) (fun K1 e hE => hG.2.2 _ K1 e hE)
    exact jloop (w' + 1) hw ht hlev hm _ _ _ _ hG h hh e1 M K i L hL (m - i2) i2 (w' + 1) (w' + 1) 0 L2 N K1 (by omega) (by omega) (by omega) (by omega) f1 f2 a1 a2 a3 a4 a5 a6 a7 a8
  · have hG := products_loop (t := t) (w' + 1) ht (m := m) (fS0 (w' + 1) d').1 (fS0 (w' + 1) d').2.1 (fS0 (w' + 1) d').2.2.1 (fS0 (w' + 1) d').2.2.2.1 (fS0 (w' + 1) d').2.2.2.2 (nI dep)
    rw [if_neg (show ¬ (3 : Nat) = 1 by decide)]
    refine jfst (G := fun K1 => f_X12_products_5 (w' + 1) (fS0 (w' + 1) d').1 (fS0 (w' + 1) d').2.1 (fS0 (w' + 1) d').2.2.1 (fS0 (w' + 1) d').2.2.2.1 (fS0 (w' + 1) d').2.2.2.2 (w' + 1) 163 (nI dep) K1) e0 (fun N K1 i2 L2 f1 f2 a1 a2 a3 a4 a5 a6 a7 a8 => ?_) (fun K1 e hE => hG.2.2 _ K1 e hE)
    exact jloop (w' + 1) hw ht hlev hm _ _ _ _ hG h hh e1 M K i L hL (m - i2) i2 (w' + 1) (w' + 1) 0 L2 N K1 (by omega) (by omega) (by omega) (by omega) f1 f2 a1 a2 a3 a4 a5 a6 a7 a8
theorem jall (w : Nat) (hw : 1100 ≤ w) (ht : okT t) {m : Nat} (hm : m ≤ 1000) : ∀ k dep, dep + k = 5 → (∀ d d' h, 6 * k + 1 ≤ d → 5 * k + 1 ≤ d' → h ≤ 4 * dep + 4 → ∀ M K i L, AtC M t i → LwC M 22 L → AtR K t m i → LwE K L → L.1 + 1 ≤ i → hOK L h → LJ t m M K i L h ((fS2 w d).2 25 22 (nI dep) M) ((fS0 w d').2.2.2.2 163 (nI dep) K)) ∧ ∀ j lev, lev + j = 4 → ∀ d d' h, 6 * k + j + 2 ≤ d → 5 * k + j + 1 ≤ d' → h ≤ 4 * dep + lev → ∀ M K i L, AtC M t i → LwC M 22 L → AtR K t m i → LwE K L → L.1 + 1 ≤ i → hOK L h → LJ t m M K i L h ((fS2 w d).1 25 22 (nI lev) (nI dep) M) (selR (fS0 w d') lev 163 (nI dep) K) := by
  intro k
  induction k with
  | zero =>
    intro dep hdep
    have hp : ∀ d d' h, 6 * 0 + 1 ≤ d → 5 * 0 + 1 ≤ d' → h ≤ 4 * dep + 4 → ∀ M K i L, AtC M t i → LwC M 22 L → AtR K t m i → LwE K L → L.1 + 1 ≤ i → hOK L h → LJ t m M K i L h ((fS2 w d).2 25 22 (nI dep) M) ((fS0 w d').2.2.2.2 163 (nI dep) K) := by
      intro d d' h hd hd' hh M K i L a1 a2 a3 a4 a5 a6
      obtain ⟨d, rfl⟩ : ∃ q, d = q + 1 := ⟨d - 1, by omega⟩
      obtain ⟨d', rfl⟩ : ∃ q, d' = q + 1 := ⟨d' - 1, by omega⟩
      rw [fS2_s, fS0_s]
      exact jpart w hw ht hm (by omega) _ _ _ _ _ _ _ h (by omega) (fun q => absurd q (by omega)) (fun q => absurd q (by omega)) i a1 a2 a3 a4 a5 a6
    refine ⟨hp, fun j => ?_⟩
    induction j with
    | zero =>
      intro lev hlev d d' h hd hd' hh M K i L a1 a2 a3 a4 a5 a6
      have : lev = 4 := by omega
      subst this
      obtain ⟨d, rfl⟩ : ∃ q, d = q + 1 := ⟨d - 1, by omega⟩
      rw [fS2_s]
      obtain ⟨N, K1, fN, fK, res⟩ := hp d d' h (by omega) (by omega) (by omega) M K i L a1 a2 a3 a4 a5 a6
      refine ⟨N, K1, fN, fK, ?_⟩
      rcases res with ⟨i2, L2, c1, c2, r⟩ | ⟨e2, n2, j, c1, c2, r⟩
      · refine Or.inl ⟨i2, L2, ?_, c2, r⟩
        show f_X2_readTerm_b w (fS2 w d).1 (fS2 w d).2 25 22 (nI 4) (nI dep) M = _
        unfold f_X2_readTerm_b
        rw [if_neg (by decide), c1, bI_some]; rfl
      · refine Or.inr ⟨e2, n2, j, ?_, c2, r⟩
        show f_X2_readTerm_b w (fS2 w d).1 (fS2 w d).2 25 22 (nI 4) (nI dep) M = _
        unfold f_X2_readTerm_b
        rw [if_neg (by decide), c1, bI_some]; rfl
    | succ j ih =>
      intro lev hlev d d' h hd hd' hh M K i L a1 a2 a3 a4 a5 a6
      obtain ⟨d, rfl⟩ : ∃ q, d = q + 1 := ⟨d - 1, by omega⟩
      obtain ⟨d', rfl⟩ : ∃ q, d' = q + 1 := ⟨d' - 1, by omega⟩
      exact jlev w hw ht (by omega) hm d d' h (by omega) (fun h' q => ih (lev + 1) (by omega) d d' h' (by omega) (by omega) (by omega)) i a1 a2 a3 a4 a5 a6
  | succ k IH =>
    intro dep hdep
    have IHk := IH (dep + 1) (by omega)
    have hp : ∀ d d' h, 6 * (k + 1) + 1 ≤ d → 5 * (k + 1) + 1 ≤ d' → h ≤ 4 * dep + 4 → ∀ M K i L, AtC M t i → LwC M 22 L → AtR K t m i → LwE K L → L.1 + 1 ≤ i → hOK L h → LJ t m M K i L h ((fS2 w d).2 25 22 (nI dep) M) ((fS0 w d').2.2.2.2 163 (nI dep) K) := by
      intro d d' h hd hd' hh M K i L a1 a2 a3 a4 a5 a6
      obtain ⟨d, rfl⟩ : ∃ q, d = q + 1 := ⟨d - 1, by omega⟩
      obtain ⟨d', rfl⟩ : ∃ q, d' = q + 1 := ⟨d' - 1, by omega⟩
      rw [fS2_s, fS0_s]
      refine jpart w hw ht hm (by omega) _ _ _ _ _ _ _ h (by omega) (fun q => ?_) (fun q => ?_) i a1 a2 a3 a4 a5 a6
      · exact IHk.2 4 0 rfl d d' h (by omega) (by omega) (by omega)
      · exact IHk.1 d d' h (by omega) (by omega) (by omega)
    refine ⟨hp, fun j => ?_⟩
    induction j with
    | zero =>
      intro lev hlev d d' h hd hd' hh M K i L a1 a2 a3 a4 a5 a6
      have : lev = 4 := by omega
      subst this
      obtain ⟨d, rfl⟩ : ∃ q, d = q + 1 := ⟨d - 1, by omega⟩
      rw [fS2_s]
      obtain ⟨N, K1, fN, fK, res⟩ := hp d d' h (by omega) (by omega) (by omega) M K i L a1 a2 a3 a4 a5 a6
      refine ⟨N, K1, fN, fK, ?_⟩
      rcases res with ⟨i2, L2, c1, c2, r⟩ | ⟨e2, n2, j, c1, c2, r⟩
      · refine Or.inl ⟨i2, L2, ?_, c2, r⟩
        show f_X2_readTerm_b w (fS2 w d).1 (fS2 w d).2 25 22 (nI 4) (nI dep) M = _
        unfold f_X2_readTerm_b
        rw [if_neg (by decide), c1, bI_some]; rfl
      · refine Or.inr ⟨e2, n2, j, ?_, c2, r⟩
        show f_X2_readTerm_b w (fS2 w d).1 (fS2 w d).2 25 22 (nI 4) (nI dep) M = _
        unfold f_X2_readTerm_b
        rw [if_neg (by decide), c1, bI_some]; rfl
    | succ j ih =>
      intro lev hlev d d' h hd hd' hh M K i L a1 a2 a3 a4 a5 a6
      obtain ⟨d, rfl⟩ : ∃ q, d = q + 1 := ⟨d - 1, by omega⟩
      obtain ⟨d', rfl⟩ : ∃ q, d' = q + 1 := ⟨d' - 1, by omega⟩
      exact jlev w hw ht (by omega) hm d d' h (by omega) (fun h' q => ih (lev + 1) (by omega) d d' h' (by omega) (by omega) (by omega)) i a1 a2 a3 a4 a5 a6
theorem jlaw (w : Nat) (hw : 1100 ≤ w) (ht : okT t) {m : Nat} (hm : m ≤ 1000) (i : Nat) (aC : AtC M t i) (lC : LwC M 22 (0, L.2)) (aR : AtR K t m i) (lR : LwE K (0, L.2)) (hi : 1 ≤ i) : LJ t m M K i (0, L.2) 0 (f_X2_readTerm w 60 25 22 0 0 M) (f_X12_whole w 60 163 0 K) := ((jall w hw ht hm 5 0 rfl).2 4 0 rfl 60 60 0 (by omega) (by omega) (by omega)) M K i (0, L.2) aC lC aR lR hi hOK_0
end LAWT
