/-! ===== the law read ===== -/
def lAdd (L : Lw) (op arg : Nat) : Lw := (L.1 + 1, fun i => if i = L.1 then op else L.2.1 i, fun i => if i = L.1 then arg else L.2.2 i)
/-- the codes fit, and leave h values -/
def hOK (L : Lw) (h : Nat) : Prop := ∃ H : Nat → Nat, H 0 = 0 ∧ (∀ i, i < L.1 → (L.2.1 i = 1 ∧ L.2.2 i < 10000 ∧ H i < 32 ∧ H (i + 1) = H i + 1) ∨ (L.2.1 i = 2 ∧ L.2.2 i < 4 ∧ H i < 32 ∧ H (i + 1) = H i + 1) ∨ (L.2.1 i = 3 ∧ 1 ≤ H i ∧ H i ≤ 32 ∧ H (i + 1) = H i) ∨ (4 ≤ L.2.1 i ∧ L.2.1 i ≤ 10 ∧ 2 ≤ H i ∧ H i ≤ 32 ∧ H (i + 1) = H i - 1)) ∧ H L.1 = h
def LwE (M : mM) (L : Lw) : Prop := M.1 163 13 = nI L.1 ∧ ∀ i, i < L.1 → M.1 170 (1100 + i) = nI (L.2.1 i) ∧ M.1 171 (1100 + i) = nI (L.2.2 i)
def FrL (M N : mM) : Prop := (∀ c, c ≠ 22 → c ≠ 23 → c ≠ 25 → N.1 c = M.1 c) ∧ (∀ c j, (c ≠ 25 ∨ j ≠ 5) → N.2 c j = M.2 c j) ∧ N.1 25 1 = M.1 25 1
def FrZ (M N : mM) : Prop := (∀ c, c ≠ 163 → c ≠ 170 → c ≠ 171 → N.1 c = M.1 c) ∧ N.2 = M.2 ∧ (∀ j, j ≠ 7 → j ≠ 8 → j ≠ 13 → N.1 163 j = M.1 163 j) ∧ ∀ j, j < 1100 → N.1 170 j = M.1 170 j ∧ N.1 171 j = M.1 171 j
def LJ (t : TX) (m : Nat) (M0 K0 : mM) (i0 : Nat) (L0 : Lw) (h : Nat) (rc : Option (Int32 × mM)) (rr : Option mM) : Prop := ∃ N K, FrL M0 N ∧ FrZ K0 K ∧ ((∃ i L, rc = some (1, N) ∧ rr = some K ∧ AtC N t i ∧ LwC N 22 L ∧ AtR K t m i ∧ LwE K L ∧ i0 < i ∧ L0.1 < L.1 ∧ L.1 + i0 ≤ L0.1 + i ∧ hOK L (h + 1)) ∨ ∃ e n j, rc = some (0, N) ∧ rr = some K ∧ ErC N e ∧ ErR K e ∧ K.1 163 13 = nI n ∧ j ≤ m ∧ n + i0 ≤ L0.1 + j)
section LAWR
variable {t : TX} {L : Lw} {M N K : mM}
theorem FrL.rf (M : mM) : FrL M M := ⟨fun _ _ _ _ => rfl, fun _ _ _ => rfl, rfl⟩
theorem FrL.tr (f : FrL M N) (g : FrL N K) : FrL M K := ⟨fun c a b d => (g.1 c a b d).trans (f.1 c a b d), fun c j h => (g.2.1 c j h).trans (f.2.1 c j h), g.2.2.trans f.2.2⟩
theorem FrB.l (f : FrB M N) : FrL M N := ⟨fun c _ _ h => f.1 c h, f.2.1, f.2.2⟩
theorem FrZ.rf (M : mM) : FrZ M M := ⟨fun _ _ _ _ => rfl, rfl, fun _ _ _ _ => rfl, fun _ _ => ⟨rfl, rfl⟩⟩
theorem FrZ.tr (f : FrZ M N) (g : FrZ N K) : FrZ M K := ⟨fun c a b d => (g.1 c a b d).trans (f.1 c a b d), g.2.1.trans f.2.1, fun j a b c => (g.2.2.1 j a b c).trans (f.2.2.1 j a b c), fun j hj => ⟨((g.2.2.2 j hj).1).trans (f.2.2.2 j hj).1, ((g.2.2.2 j hj).2).trans (f.2.2.2 j hj).2⟩⟩
theorem FrY.z (f : FrY M N) : FrZ M N := ⟨fun c h _ _ => f.1 c h, f.2.1, fun j a b _ => f.2.2 j a b, fun j _ => ⟨by rw [f.1 170 (by decide)], by rw [f.1 171 (by decide)]⟩⟩
theorem LwC.fb (h : LwC M 22 L) (f : FrB M N) : LwC N 22 L := ⟨by rw [f.1 22 (by decide)]; exact h.1, fun i hi => by rw [f.1 23 (by decide)]; exact h.2 i hi⟩
theorem LwE.fy (h : LwE M L) (f : FrY M N) : LwE N L := ⟨by rw [f.2.2 13 (by decide) (by decide)]; exact h.1, fun i hi => by rw [f.1 170 (by decide), f.1 171 (by decide)]; exact h.2 i hi⟩
theorem hOK_0 : hOK (0, L.2) 0 := ⟨fun _ => 0, rfl, fun i hi => absurd hi (Nat.not_lt_zero _), rfl⟩
theorem hOK_add {h h' op arg : Nat} (hL : hOK L h) (hs : (op = 1 ∧ arg < 10000 ∧ h < 32 ∧ h' = h + 1) ∨ (op = 2 ∧ arg < 4 ∧ h < 32 ∧ h' = h + 1) ∨ (op = 3 ∧ 1 ≤ h ∧ h ≤ 32 ∧ h' = h) ∨ (4 ≤ op ∧ op ≤ 10 ∧ 2 ≤ h ∧ h ≤ 32 ∧ h' = h - 1)) : hOK (lAdd L op arg) h' := by
  obtain ⟨H, h0, h1, h2⟩ := hL
  refine ⟨fun i => if i ≤ L.1 then H i else h', ?_, fun i hi => ?_, ?_⟩
  · show (if 0 ≤ L.1 then H 0 else h') = 0
    rw [if_pos (Nat.zero_le _)]; exact h0
  · have hi : i < L.1 + 1 := hi
    show ((if i = L.1 then op else L.2.1 i) = 1 ∧ (if i = L.1 then arg else L.2.2 i) < 10000 ∧ (if i ≤ L.1 then H i else h') < 32 ∧ (if i + 1 ≤ L.1 then H (i + 1) else h') = (if i ≤ L.1 then H i else h') + 1) ∨ ((if i = L.1 then op else L.2.1 i) = 2 ∧ (if i = L.1 then arg else L.2.2 i) < 4 ∧ (if i ≤ L.1 then H i else h') < 32 ∧ (if i + 1 ≤ L.1 then H (i + 1) else h') = (if i ≤ L.1 then H i else h') + 1) ∨ ((if i = L.1 then op else L.2.1 i) = 3 ∧ 1 ≤ (if i ≤ L.1 then H i else h') ∧ (if i ≤ L.1 then H i else h') ≤ 32 ∧ (if i + 1 ≤ L.1 then H (i + 1) else h') = (if i ≤ L.1 then H i else h')) ∨ (4 ≤ (if i = L.1 then op else L.2.1 i) ∧ (if i = L.1 then op else L.2.1 i) ≤ 10 ∧ 2 ≤ (if i ≤ L.1 then H i else h') ∧ (if i ≤ L.1 then H i else h') ≤ 32 ∧ (if i + 1 ≤ L.1 then H (i + 1) else h') = (if i ≤ L.1 then H i else h') - 1)
    rw [if_pos (show i ≤ L.1 by omega)]
    by_cases z : i = L.1
    · rw [if_pos z, if_pos z, if_neg (show ¬ i + 1 ≤ L.1 by omega), z, h2]; exact hs
    · rw [if_neg z, if_neg z, if_pos (show i + 1 ≤ L.1 by omega)]; exact h1 i (by omega)
  · show (if L.1 + 1 ≤ L.1 then _ else h') = h'
    rw [if_neg (by omega)]
theorem X3_put_eq (w : Nat) (hL : LwC M 22 L) (h : L.1 < 1000) (op arg : Nat) {i : Nat} (hA : AtC M t i) : ∃ N, f_X3_put w 22 (ccI op arg) M = some N ∧ FrL M N ∧ AtC N t i ∧ LwC N 22 (lAdd L op arg) := by
  obtain ⟨e1, e2⟩ := hL
  have g : (wI M 23 L.1 (ccI op arg)).1 22 2 = nI L.1 := by rw [wI_set, setC_ne _ _ (by decide)]; exact e1
  refine ⟨wI (wI M 23 L.1 (ccI op arg)) 22 2 (nI (L.1 + 1)), ?_, ⟨fun c h1 h2 h3 => by rw [wI_set, setC_ne _ _ h1, wI_set, setC_ne _ _ h2], fun c j _ => by rw [wI_set, setC_2, wI_set, setC_2], by rw [wI_set, setC_ne _ _ (by decide), wI_set, setC_ne _ _ (by decide)]⟩, hA.fb (by rw [wI_set, setC_ne _ _ (by decide), wI_set, setC_ne _ _ (by decide)]) (by rw [wI_set, setC_ne _ _ (by decide), wI_set, setC_ne _ _ (by decide)]) (by rw [wI_set, setC_2, wI_set, setC_2]), by rw [wI_set, setC_at, upd_at]; rfl, fun j hj => ?_⟩
  · unfold f_X3_put
    rw [e1, if_neg (show ¬ (1000 : Int32) ≤ nI L.1 from fun e => by have := (nI_leI (a := 1000) (by omega) (by omega)).mp e; omega), r22_0, l23, chk_nI _ (by omega) (by omega), nI_clamp (by omega), lt_eq, g, nI_1, lt_eq]
  · have hj : j < L.1 + 1 := hj
    rw [wI_set, setC_ne _ _ (by decide), wI_set, setC_at]
    show _ = ccI (if j = L.1 then op else L.2.1 j) (if j = L.1 then arg else L.2.2 j)
    by_cases z : j = L.1
    · subst z; rw [upd_at, if_pos rfl, if_pos rfl]
    · rw [upd_ne _ _ z, if_neg z, if_neg z]; exact e2 j (by omega)
theorem X12_emit_gen (w : Nat) {n : Nat} (h13 : M.1 163 13 = nI n) (hn : n < 1100) (op arg : Nat) : f_X12_emit w 163 (nI op) (nI arg) M = some (wI (wI (wI M 170 (1100 + n) (nI op)) 171 (1100 + n) (nI arg)) 163 13 (nI (n + 1))) := by
  have g1 : (wI M 170 (1100 + n) (nI op)).1 163 13 = nI n := by rw [wI_set, setC_ne _ _ (by decide)]; exact h13
  have g2 : (wI (wI M 170 (1100 + n) (nI op)) 171 (1100 + n) (nI arg)).1 163 13 = nI n := by rw [wI_set, setC_ne _ _ (by decide)]; exact g1
  unfold f_X12_emit
  rw [h13, show (1100 : Int32) + nI n = nI (1100 + n) from nI_add 1100 n, r163_11, r163_12, l170, l171, chk_nI _ (by omega) (by omega), nI_clamp (by omega), lt_eq, g1, show (1100 : Int32) + nI n = nI (1100 + n) from nI_add 1100 n, chk_nI _ (by omega) (by omega), nI_clamp (by omega), lt_eq, g2, nI_1, lt_eq]
theorem emit_z (n : Nat) (a b c : Int32) : FrZ M (wI (wI (wI M 170 (1100 + n) a) 171 (1100 + n) b) 163 13 c) := ⟨fun z h1 h2 h3 => by rw [wI_set, setC_ne _ _ h1, wI_set, setC_ne _ _ h3, wI_set, setC_ne _ _ h2], by rw [wI_set, setC_2, wI_set, setC_2, wI_set, setC_2], fun j _ _ h => by rw [w163, if_neg h, wI_set, setC_ne _ _ (by decide), wI_set, setC_ne _ _ (by decide)], fun j hj => ⟨by rw [wI_set, setC_ne _ _ (by decide), wI_set, setC_ne _ _ (by decide), wI_set, setC_at, upd_ne _ _ (by omega)], by rw [wI_set, setC_ne _ _ (by decide), wI_set, setC_at, upd_ne _ _ (by omega), wI_set, setC_ne _ _ (by decide)]⟩⟩
theorem X12_emit_eq (w : Nat) (hL : LwE M L) (h : L.1 < 1100) (op arg : Nat) {m i : Nat} (hA : AtR M t m i) : ∃ N, f_X12_emit w 163 (nI op) (nI arg) M = some N ∧ FrZ M N ∧ AtR N t m i ∧ LwE N (lAdd L op arg) := by
  obtain ⟨e1, e2⟩ := hL
  obtain ⟨a1, a2, a3, a4, a5⟩ := hA
  refine ⟨_, X12_emit_gen w e1 h op arg, emit_z _ _ _ _, ⟨a1.fr ?_ ?_ ?_, a2, ?_, ?_, fun k hk => ?_⟩, by rw [w163, if_pos rfl]; rfl, fun j hj => ?_⟩
  · rw [wI_set, setC_ne _ _ (by decide), wI_set, setC_ne _ _ (by decide), wI_set, setC_ne _ _ (by decide)]
  · rw [wI_set, setC_ne _ _ (by decide), wI_set, setC_ne _ _ (by decide), wI_set, setC_ne _ _ (by decide)]
  · rw [wI_set, setC_2, wI_set, setC_2, wI_set, setC_2]
  · rw [w163, if_neg (by decide), wI_set, setC_ne _ _ (by decide), wI_set, setC_ne _ _ (by decide)]; exact a3
  · rw [w163, if_neg (by decide), wI_set, setC_ne _ _ (by decide), wI_set, setC_ne _ _ (by decide)]; exact a4
  · rw [wI_set, setC_2, wI_set, setC_2, wI_set, setC_2]; exact a5 k hk
  · have hj : j < L.1 + 1 := hj
    have g1 : (wI (wI (wI M 170 (1100 + L.1) (nI op)) 171 (1100 + L.1) (nI arg)) 163 13 (nI (L.1 + 1))).1 170 = upd (M.1 170) (1100 + L.1) (nI op) := by rw [wI_set, setC_ne _ _ (by decide), wI_set, setC_ne _ _ (by decide), wI_set, setC_at]
    have g2 : (wI (wI (wI M 170 (1100 + L.1) (nI op)) 171 (1100 + L.1) (nI arg)) 163 13 (nI (L.1 + 1))).1 171 = upd (M.1 171) (1100 + L.1) (nI arg) := by rw [wI_set, setC_ne _ _ (by decide), wI_set, setC_at, wI_set, setC_ne _ _ (by decide)]
    rw [g1, g2]
    show _ = nI (if j = L.1 then op else L.2.1 j) ∧ _ = nI (if j = L.1 then arg else L.2.2 j)
    by_cases z : j = L.1
    · subst z; rw [upd_at, upd_at, if_pos rfl, if_pos rfl]; exact ⟨rfl, rfl⟩
    · rw [upd_ne _ _ (by omega), upd_ne _ _ (by omega), if_neg z, if_neg z]; exact e2 j (by omega)
theorem X12_emit_er (w : Nat) {n e : Nat} (h13 : M.1 163 13 = nI n) (hn : n < 1100) (op arg : Nat) (hE : ErR M e) : ∃ N, f_X12_emit w 163 (nI op) (nI arg) M = some N ∧ FrZ M N ∧ ErR N e ∧ N.1 163 13 = nI (n + 1) := by
  refine ⟨_, X12_emit_gen w h13 hn op arg, emit_z _ _ _ _, ⟨?_, hE.2⟩, by rw [w163, if_pos rfl]⟩
  rw [w163, if_neg (by decide), wI_set, setC_ne _ _ (by decide), wI_set, setC_ne _ _ (by decide)]; exact hE.1
/-- the sign that joins on at a level -/
def jop (t : TX) (lev i : Nat) : Option Nat := if lev = 0 then (if isW t i 17 then some 9 else if isW t i 18 then some 10 else none) else if lev = 1 then (if isS t i 60 then some 7 else if isS t i 61 then some 8 else none) else if lev = 3 then (if isS t i 42 then some 6 else none) else (if isS t i 43 then some 4 else if isS t i 45 then some 5 else none)
def jcI (o : Option Nat) : Int32 := match o with
  | some op => ccI op 0
  | none => 0
theorem X2_joinOn_eq (w : Nat) (ht : okT t) {i lev : Nat} (h : AtC M t i) (hl : lev < 4) : f_X2_joinOn w 25 (nI lev) M = some (jcI (jop t lev i), M) := by
  have e1 := X10_isWord_eq w h (k := 17) (by omega) (show (6385252 : Int64) = _ by decide +kernel)
  have e2 := X10_isWord_eq w h (k := 18) (by omega) (show (28530 : Int64) = _ by decide +kernel)
  have s1 := X10_isSign_eq w ht h (c := 60) (by omega)
  have s2 := X10_isSign_eq w ht h (c := 61) (by omega)
  have s3 := X10_isSign_eq w ht h (c := 42) (by omega)
  have s4 := X10_isSign_eq w ht h (c := 43) (by omega)
  have s5 := X10_isSign_eq w ht h (c := 45) (by omega)
  unfold f_X2_joinOn jop
  have : lev = 0 ∨ lev = 1 ∨ lev = 2 ∨ lev = 3 := by omega
  rcases this with rfl | rfl | rfl | rfl
  · rw [if_pos (by decide), if_pos rfl, e1, bI_some, e2, bI_some]
    cases isW t i 17 <;> cases isW t i 18 <;> rfl
  · rw [if_neg (by decide), if_pos (by decide), if_neg (by decide), if_pos rfl, show f_X10_isSign w 25 60 M = _ from s1, bI_some, show f_X10_isSign w 25 61 M = _ from s2, bI_some]
    cases isS t i 60 <;> cases isS t i 61 <;> rfl
  · rw [if_neg (by decide), if_neg (by decide), if_neg (by decide), if_neg (by decide), if_neg (by decide), if_neg (by decide), show f_X10_isSign w 25 43 M = _ from s4, bI_some, show f_X10_isSign w 25 45 M = _ from s5, bI_some]
    cases isS t i 43 <;> cases isS t i 45 <;> rfl
  · rw [if_neg (by decide), if_neg (by decide), if_pos (by decide), if_neg (by decide), if_neg (by decide), if_pos rfl, show f_X10_isSign w 25 42 M = _ from s3, bI_some]
    cases isS t i 42 <;> rfl
theorem jop_op {lev i op : Nat} (e : jop t lev i = some op) : 4 ≤ op ∧ op ≤ 10 ∧ tkK t (psn t i) ≠ 0 ∧ jcI (some op) ≠ 0 := by
  have cc : ∀ op, 4 ≤ op → op ≤ 10 → ccI op 0 ≠ 0 := fun op h1 h2 q => by have := (cc_lit op h1 h2).1; rw [q] at this; exact absurd this (by decide)
  have done : ∀ k, 4 ≤ k → k ≤ 10 → tkK t (psn t i) ≠ 0 → some k = some op → 4 ≤ op ∧ op ≤ 10 ∧ tkK t (psn t i) ≠ 0 ∧ jcI (some op) ≠ 0 := fun k h1 h2 h3 h4 => by
    have := Option.some.inj h4
    subst this
    exact ⟨h1, h2, h3, cc k h1 h2⟩
  unfold jop at e
  split at e
  · split at e
    · next q => exact done 9 (by omega) (by omega) (isW_k q) e
    · split at e
      · next q => exact done 10 (by omega) (by omega) (isW_k q) e
      · cases e
  · split at e
    · split at e
      · next q => exact done 7 (by omega) (by omega) (isS_k q) e
      · split at e
        · next q => exact done 8 (by omega) (by omega) (isS_k q) e
        · cases e
    · split at e
      · split at e
        · next q => exact done 6 (by omega) (by omega) (isS_k q) e
        · cases e
      · split at e
        · next q => exact done 4 (by omega) (by omega) (isS_k q) e
        · split at e
          · next q => exact done 5 (by omega) (by omega) (isS_k q) e
          · cases e
/-- what a loop of the reference does, round by round -/
def RLoop (w : Nat) (t : TX) (m lev : Nat) (sub : mM → Option mM) (G : Nat → mM → Option mM) : Prop := (∀ n K i, AtR K t m i → jop t lev i = none → ∃ K1, G (n + 1) K = some K1 ∧ FrY K K1 ∧ AtR K1 t m i) ∧ (∀ n K i op, AtR K t m i → jop t lev i = some op → ∃ K1, FrY K K1 ∧ AtR K1 t m (i + 1) ∧ G (n + 1) K = bV (sub K1) fun K2 => bV (f_X12_emit w 163 (nI op) (nI 0) K2) fun K3 => G n K3) ∧ ∀ n K e, ErR K e → ∃ K1, G (n + 1) K = some K1 ∧ FrY K K1 ∧ ErR K1 e
theorem jloop (w : Nat) (hw : 1100 ≤ w) (ht : okT t) {m lev dep : Nat} (hlev : lev < 4) (hm : m ≤ 1000) (r0 : Nat → Nat → Int32 → Int32 → mM → Option (Int32 × mM)) (r1 : Nat → Nat → Int32 → mM → Option (Int32 × mM)) (sub : mM → Option mM) (G : Nat → mM → Option mM) (hG : RLoop w t m lev sub G) (h : Nat) (hh : h + 2 ≤ 30) (IH : ∀ M K i L, AtC M t i → LwC M 22 L → AtR K t m i → LwE K L → L.1 + 1 ≤ i → hOK L (h + 1) → LJ t m M K i L (h + 1) (r0 25 22 (nI (lev + 1)) (nI dep) M) (sub K)) (M0 K0 : mM) (i0 : Nat) (L0 : Lw) (hL0 : L0.1 + 1 ≤ i0) : ∀ (r : Nat) (i n n' x5 : Nat) (L : Lw) (M K : mM), m - i ≤ r → r < n → r < n' → x5 + r < 1000 → FrL M0 M → FrZ K0 K → AtC M t i → LwC M 22 L → AtR K t m i → LwE K L → i0 < i → L0.1 < L.1 → L.1 + i0 ≤ L0.1 + i → hOK L (h + 1) → LJ t m M0 K0 i0 L0 h (f_X2_readTerm_43 w r0 r1 n 25 22 (nI lev) (nI dep) 1000 (nI x5) M) (G n' K) := by
  intro r
  induction r with
  | zero =>
    intro i n n' x5 L M K hr hn hn' hx fM fK aC lC aR lR hi hl hli hok
    obtain ⟨n, rfl⟩ : ∃ k, n = k + 1 := ⟨n - 1, by omega⟩
    obtain ⟨n', rfl⟩ : ∃ k, n' = k + 1 := ⟨n' - 1, by omega⟩
    have him : i = m := by have := aR.2.1; omega
    have hno : jop t lev i = none := by
      cases e : jop t lev i with
      | none => rfl
      | some op => exact absurd (by rw [him]; exact aR.1.2.1) (jop_op e).2.2.1
    obtain ⟨K1, k1, k2, k3⟩ := hG.1 n' K i aR hno
    refine ⟨M, K1, fM, fK.tr k2.z, Or.inl ⟨i, L, ?_, k1, aC, lC, k3, lR.fy k2, hi, hl, hli, hok⟩⟩
    rw [f_X2_readTerm_43, if_neg (show ¬ (1000 : Int32) ≤ nI x5 from fun e => by have := (nI_leI (a := 1000) (by omega) (by omega)).mp e; omega), X2_joinOn_eq w ht aC hlev, bI_some, hno, if_pos (show jcI none = 0 from rfl)]
    rfl
  | succ r ih =>
    intro i n n' x5 L M K hr hn hn' hx fM fK aC lC aR lR hi hl hli hok
    obtain ⟨n, rfl⟩ : ∃ k, n = k + 1 := ⟨n - 1, by omega⟩
    obtain ⟨n', rfl⟩ : ∃ k, n' = k + 1 := ⟨n' - 1, by omega⟩
    have him := aR.2.1
    have eC : f_X2_readTerm_43 w r0 r1 (n + 1) 25 22 (nI lev) (nI dep) 1000 (nI x5) M = if jcI (jop t lev i) = 0 then f_X2_readTerm_62 w r0 r1 M else bV (f_X10_advance w 25 M) fun M3 => bI (r0 25 22 (nI (lev + 1)) (nI dep) M3) fun q5 M4 => if q5 = 0 then rtB 0 M4 else bV (f_X3_put w 22 (jcI (jop t lev i)) M4) fun M6 => f_X2_readTerm_43 w r0 r1 n 25 22 (nI lev) (nI dep) 1000 (nI (x5 + 1)) M6 := by
      rw [f_X2_readTerm_43, if_neg (show ¬ (1000 : Int32) ≤ nI x5 from fun e => by have := (nI_leI (a := 1000) (by omega) (by omega)).mp e; omega), X2_joinOn_eq w ht aC hlev, bI_some, nI_1, nI_1]
    rw [eC]
    cases e : jop t lev i with
    | none =>
      obtain ⟨K1, k1, k2, k3⟩ := hG.1 n' K i aR e
      exact ⟨M, K1, fM, fK.tr k2.z, Or.inl ⟨i, L, by rw [if_pos (show jcI none = 0 from rfl)]; rfl, k1, aC, lC, k3, lR.fy k2, hi, hl, hli, hok⟩⟩
    | some op =>
      obtain ⟨o1, o2, o3, o4⟩ := jop_op e
      obtain ⟨K1, k1, k2, k3⟩ := hG.2.1 n' K i op aR e
      obtain ⟨M1, m1, m2, m3⟩ := aC.adv w hw ht
      rw [if_neg o4, m1, bV_some, k3]
      obtain ⟨N, K2, fN, fK2, res⟩ := IH M1 K1 (i + 1) L m3 (lC.fb m2.b) k2 (lR.fy k1) (by omega) hok
      rcases res with ⟨i2, L2, c1, c2, a1, a2, a3, a4, a5, a6, a7, a8⟩ | ⟨e2, n2, j, c1, c2, a1, a2, a3, a4, a5⟩
      · have hi2 := a3.2.1
        obtain ⟨N2, p1, p2, p3, p4⟩ := X3_put_eq w a2 (by omega) op 0 a1
        obtain ⟨K3, q1, q2, q3, q4⟩ := X12_emit_eq w a4 (by omega) op 0 a3
        rw [c1, bI_some, if_neg (by decide), show f_X3_put w 22 (jcI (some op)) N = _ from p1, bV_some, c2, bV_some, q1, bV_some]
        refine ih i2 n n' (x5 + 1) (lAdd L2 op 0) N2 K3 (by omega) (by omega) (by omega) (by omega) (((fM.tr m2.b.l).tr fN).tr p2) (((fK.tr k1.z).tr fK2).tr q2) p3 p4 q3 q4 (by omega) (by show L0.1 < L2.1 + 1; omega) (by show L2.1 + 1 + i0 ≤ _; omega) ?_
        exact hOK_add a8 (Or.inr (Or.inr (Or.inr ⟨o1, o2, by omega, by omega, by omega⟩)))
      · obtain ⟨K3, q1, q2, q3, q4⟩ := X12_emit_er w a3 (by omega) op 0 a2
        obtain ⟨n', rfl⟩ : ∃ k, n' = k + 1 := ⟨n' - 1, by omega⟩
        obtain ⟨K4, s1, s2, s3⟩ := hG.2.2 n' K3 e2 q3
        refine ⟨N, K4, (fM.tr m2.b.l).tr fN, (((fK.tr k1.z).tr fK2).tr q2).tr s2.z, Or.inr ⟨e2, n2 + 1, j, ?_, ?_, a1, s3, by rw [s2.2.2 13 (by decide) (by decide)]; exact q4, a4, by omega⟩⟩
        · rw [c1, bI_some, if_pos rfl]; rfl
        · rw [c2, bV_some, q1, bV_some, s1]
end LAWR
