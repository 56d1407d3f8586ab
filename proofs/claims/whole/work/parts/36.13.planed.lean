/-! ===== planed: the class's search, the reference's ===== -/
def rNo (p : HP) (x : HX) (h : HS) (m n : Nat) : Prop := ∀ s, s < pD p ^ n → ¬ rowP p x h m n s
def rFst (p : HP) (x : HX) (h : HS) (m n s : Nat) : Prop := s < pD p ^ n ∧ rowP p x h m n s ∧ ∀ t, t < s → ¬ rowP p x h m n t
section PLR
variable {p : HP} {x : HX} {h : HS} {M N : mM}
theorem X7_writeRow_11_eq (w D : Nat) (hD0 : 0 < D) (hD : D ≤ 8) : ∀ (k f v : Nat) (M : mM), k ≤ 3 → k < f → v < 1000 → M.1 1 1 = nI D → ∃ N, f_X7_writeRow_11 w f 160 (nI v) (nI k - 1) M = some N ∧ Fr [161] M N ∧ (∀ i, i < k → N.1 161 i = nI (dg D k v i)) ∧ ∀ j, k ≤ j → N.1 161 j = M.1 161 j := by
  intro k
  induction k with
  | zero =>
    intro f v M _ hf _ _
    obtain ⟨f, rfl⟩ : ∃ m, f = m + 1 := ⟨f - 1, by omega⟩
    rw [f_X7_writeRow_11, if_pos (by decide)]
    exact ⟨M, rfl, Fr.rf _ _, fun i hi => by omega, fun _ _ => rfl⟩
  | succ k ih =>
    intro f v M hk hf hv hM
    obtain ⟨f, rfl⟩ : ∃ m, f = m + 1 := ⟨f - 1, by omega⟩
    have e : nI (k + 1) - 1 = nI k := pk_sub (b := 1) (by omega)
    have hM1 : (wI M 161 k (nI (v % D))).1 1 1 = nI D := by rw [wI_set, setC_ne _ _ (by decide)]; exact hM
    obtain ⟨N, e1, f1, i1, i2⟩ := ih f (v / D) (wI M 161 k (nI (v % D))) (by omega) (by omega) (Nat.lt_of_le_of_lt (Nat.div_le_self _ _) hv) hM1
    refine ⟨N, ?_, (((Fr.rf _ M).wI (by decide) _ _).tr f1), fun i hi => ?_, fun j hj => ?_⟩
    · rw [f_X7_writeRow_11, e, if_neg (nI_pos (by omega)), r160_1, r160_3, l161, hM, if_neg (nI_nle (by omega) (by omega)), if_neg (nI_ne0 (by omega) (by omega)), chk_nI _ (by omega) (by omega), nI_clamp (by omega), pk_rem (by omega) hD0 (by omega), lt_eq, hM1, if_neg (nI_ne0 (by omega) (by omega)), pk_div (by omega) hD0 (by omega), lt_eq, ← Int32.sub_eq_add_neg]
      exact e1
    · by_cases q : i = k
      · subst q
        rw [i2 i (by omega), wI_set, setC_at, upd_at]
        unfold dg
        rw [show i + 1 - 1 - i = 0 by omega, Nat.pow_zero, Nat.div_one]
      · rw [i1 i (by omega)]
        unfold dg
        rw [Nat.div_div_eq_div_mul, show k + 1 - 1 - i = (k - 1 - i) + 1 by omega, Nat.pow_succ, Nat.mul_comm]
    · rw [i2 j (by omega), wI_set, setC_at, upd_ne _ _ (by omega)]
theorem pow_le512 (hp : okP p) {n : Nat} (hn : n ≤ 3) : pD p ^ n ≤ 512 := by
  have h1 : pD p ^ n ≤ 8 ^ n := Nat.pow_le_pow_left hp.2.1 n
  have h2 : 8 ^ n ≤ 8 ^ 3 := Nat.pow_le_pow_right (by omega) hn
  exact Nat.le_trans h1 h2
theorem X7_findRow_eq (w : Nat) (hw : 1100 ≤ w) (Q : QC p x h M) {n m : Nat} (hn : n ≤ 3) (hl : ∀ t, t ≤ 3 → ∀ d, d < pD p → bt (M.1 162 t) d = lk p x h m t d) : ∃ N b, f_X7_findRow w 160 (nI n) M = some (b2i b, N) ∧ Fr [161] M N ∧ (b = false → rNo p x h m n) ∧ (b = true → ∃ s, rFst p x h m n s ∧ ∀ i, i < n → N.1 161 i = nI (dg (pD p) n s i)) := by
  have hp := Q.1
  have hD := hp.2.1
  have hpw := pow_le512 hp hn
  have hDM : M.1 1 1 = nI (pD p) := Q.2.2.2.2.1.2.1
  have e4 := loopX (fun k (y : Nat) => y = pD p ^ k) (fun f (y : Nat) k => f_X7_findRow_4 w f 160 (nI n) (nI y) (nI k) M) n (fun r => r = f_X7_findRow_25 w 160 (nI n) (nI (pD p ^ n)) M) (by
    rintro f y rfl
    rw [f_X7_findRow_4, if_pos (Int32.le_refl _)]) (by
    rintro f y k hk rfl
    refine Or.inr ⟨pD p ^ (k + 1), ?_, rfl⟩
    rw [f_X7_findRow_4, if_neg (fun h => by have := (nI_leI (by omega) (by omega)).mp h; omega), r160_1, hDM, pk_mul, lt_eq, nI_1, Nat.pow_succ]) n w 0 1 (by omega) (by omega) rfl
  rw [show f_X7_findRow w 160 (nI n) M = _ from e4]
  unfold f_X7_findRow_25
  refine loopX (fun s (N : mM) => Fr [161] M N ∧ ∀ t, t < s → ¬ rowP p x h m n t) (fun f (N : mM) s => f_X7_findRow_27 w f 160 (nI n) (nI (pD p ^ n)) (nI s) N) (pD p ^ n) (fun r => ∃ N b, r = some (b2i b, N) ∧ Fr [161] M N ∧ (b = false → rNo p x h m n) ∧ (b = true → ∃ s, rFst p x h m n s ∧ ∀ i, i < n → N.1 161 i = nI (dg (pD p) n s i))) ?_ ?_ (pD p ^ n) w 0 M (by omega) (by omega) ⟨Fr.rf _ _, fun t ht => by omega⟩
  · rintro f N ⟨fN, i⟩
    rw [f_X7_findRow_27, if_pos (Int32.le_refl _)]
    exact ⟨N, false, rfl, fN, fun _ => i, fun e => by cases e⟩
  · rintro f N s hs ⟨fN, i⟩
    have hD0 : 0 < n → 0 < pD p := fun h0 => by
      rcases Nat.eq_zero_or_pos (pD p) with e | e
      · rw [e, Nat.zero_pow h0] at hs; omega
      · exact e
    have QN : QC p x h N := Q.fr (fun c hc => fN.1 c (by simp; omega))
    have hwr : ∃ K, f_X7_writeRow w 160 (nI s) (nI n) N = some K ∧ Fr [161] N K ∧ ∀ i, i < n → K.1 161 i = nI (dg (pD p) n s i) := by
      have emn : mnI (nI n) 3 = nI n := by
        unfold mnI
        rw [if_neg (fun q => by have := (nI_ltI (a := 3) (by omega) (by omega)).mp q; omega)]
      unfold f_X7_writeRow
      rw [emn, lt_eq]
      rcases Nat.eq_zero_or_pos n with e | e
      · subst e
        obtain ⟨w2, rfl⟩ : ∃ m, w = m + 1 := ⟨w - 1, by omega⟩
        rw [f_X7_writeRow_11, if_pos (by decide)]
        exact ⟨N, rfl, Fr.rf _ _, fun i hi => by omega⟩
      · obtain ⟨K, e1, f1, i1, -⟩ := X7_writeRow_11_eq w (pD p) (hD0 e) hD n w s N hn (by omega) (by omega) QN.2.2.2.2.1.2.1
        exact ⟨K, e1, f1, i1⟩
    obtain ⟨K, eK, fK, iK⟩ := hwr
    have QK : QC p x h K := QN.fr (fun c hc => fK.1 c (by simp; omega))
    have hlK : ∀ t, t ≤ 3 → ∀ d, d < pD p → bt (K.1 162 t) d = lk p x h m t d := fun t h1 d h2 => by rw [fK.1 162 (by decide), fN.1 162 (by decide)]; exact hl t h1 d h2
    obtain ⟨b, eb, hb⟩ := X7_canBePlaned_eq w hw QK (s := s) hn hD0 iK
    have eo := X7_openByRow_eq w hw QK (s := s) hn hD0 iK hlK
    obtain ⟨c, ec, hcc⟩ := X9_isAllTogether_eq w hw QK (opM p (fut p x (hg p h n s) m))
    have htog : c = true ↔ tog p x (hg p h n s) m := hcc
    have e0 : f_X7_findRow_27 w (f + 1) 160 (nI n) (nI (pD p ^ n)) (nI s) N = if b = true ∧ c = true then rtB 1 K else f_X7_findRow_27 w f 160 (nI n) (nI (pD p ^ n)) (nI (s + 1)) K := by
      rw [f_X7_findRow_27, if_neg (fun h => by have := (nI_leI (by omega) (by omega)).mp h; omega), eK, bV_some, eb, bI_some, eo, bI_some, r160_0, ec, bI_some, nI_1]
      cases b <;> cases c <;> rfl
    rw [e0]
    by_cases q : b = true ∧ c = true
    · rw [if_pos q]
      refine Or.inl ⟨K, true, rfl, fN.tr fK, fun e => (by cases e), fun _ => ⟨s, ⟨hs, ⟨hb.mp q.1, htog.mp q.2⟩, i⟩, iK⟩⟩
    · rw [if_neg q]
      refine Or.inr ⟨K, rfl, fN.tr fK, fun t ht => ?_⟩
      by_cases e : t = s
      · subst e
        exact fun r => q ⟨hb.mpr r.1, htog.mpr r.2⟩
      · exact i t (by omega)
/-- the fewest planings and their row, c the cell of the row -/
def rAns (p : HP) (x : HX) (h : HS) (m : Nat) (v : Int32) (row : Nat → Int32) : Prop := (v = -1 ∧ ∀ n, n ≤ 3 → rNo p x h m n) ∨ ∃ n, n ≤ 3 ∧ v = nI n ∧ (∀ k, k < n → rNo p x h m k) ∧ ∃ s, rFst p x h m n s ∧ ∀ i, i < n → row i = nI (dg (pD p) n s i)
theorem X7_fewest_eq (w : Nat) (hw : 1100 ≤ w) (Q : QC p x h M) {m : Nat} (hm : m ≤ 30) : ∃ N v, f_X7_fewest w 160 (nI m) M = some (v, N) ∧ Fr [12, 161, 162] M N ∧ rAns p x h m v (N.1 161) := by
  unfold f_X7_fewest
  refine loopX (fun t (N : mM) => Fr [12, 161, 162] M N ∧ ∀ a, a < t → ∀ d, d < pD p → bt (N.1 162 a) d = lk p x h m a d) (fun f (N : mM) t => f_X7_fewest_2 w f 160 (nI m) (nI t) N) 4 (fun r => ∃ N v, r = some (v, N) ∧ Fr [12, 161, 162] M N ∧ rAns p x h m v (N.1 161)) ?_ ?_ 4 w 0 M (by omega) (by omega) ⟨Fr.rf _ _, fun a ha => by omega⟩
  · rintro f N ⟨fN, i⟩
    rw [f_X7_fewest_2, if_pos (by decide)]
    unfold f_X7_fewest_19
    refine loopX (fun n (K : mM) => Fr [12, 161, 162] M K ∧ (∀ a, a < 4 → ∀ d, d < pD p → bt (K.1 162 a) d = lk p x h m a d) ∧ ∀ k, k < n → rNo p x h m k) (fun f (K : mM) n => f_X7_fewest_21 w f 160 (nI n) K) 4 (fun r => ∃ N v, r = some (v, N) ∧ Fr [12, 161, 162] M N ∧ rAns p x h m v (N.1 161)) ?_ ?_ 4 w 0 N (by omega) (by omega) ⟨fN, i, fun k hk => by omega⟩
    · rintro f K ⟨fK, -, j⟩
      rw [f_X7_fewest_21, if_pos (by decide)]
      exact ⟨K, -1, rfl, fK, Or.inl ⟨rfl, fun n hn => j n (by omega)⟩⟩
    · rintro f K n hn ⟨fK, j1, j2⟩
      have QK : QC p x h K := Q.fr (fun c hc => fK.1 c (by simp; omega))
      obtain ⟨K2, b, e, f2, h1, h2⟩ := X7_findRow_eq w hw QK (n := n) (by omega) (fun t ht d hd => j1 t (by omega) d hd)
      rw [f_X7_fewest_21, if_neg (fun q => by have := (nI_ltI (a := 3) (by omega) (by omega)).mp q; omega), e, bI_some, nI_1]
      cases b
      · rw [if_pos (show b2i false = 0 from rfl)]
        refine Or.inr ⟨K2, rfl, fK.tr (f2.mono (by decide)), fun a ha d hd => ?_, fun k hk => ?_⟩
        · rw [f2.1 162 (by decide)]; exact j1 a ha d hd
        · by_cases q : k = n
          · subst q; exact h1 rfl
          · exact j2 k (by omega)
      · rw [if_neg (show ¬ b2i true = 0 by decide)]
        exact Or.inl ⟨K2, nI n, rfl, fK.tr (f2.mono (by decide)), Or.inr ⟨n, by omega, rfl, j2, h2 rfl⟩⟩
  · rintro f N t ht ⟨fN, i⟩
    have QN : QC p x h N := Q.fr (fun c hc => fN.1 c (by simp; omega))
    obtain ⟨K, e, fK, k1, k2⟩ := X7_lookAhead_eq w hw QN (t := t) (m := m) (by omega) hm
    refine Or.inr ⟨K, ?_, fN.tr (fK.mono (by decide)), fun a ha d hd => ?_⟩
    · rw [f_X7_fewest_2, if_neg (fun q => by have := (nI_ltI (a := 3) (by omega) (by omega)).mp q; omega), e, bV_some, nI_1]
    · by_cases q : a = t
      · subst q; exact k1 d hd
      · rw [k2 a q]; exact i a (by omega) d hd
/-! the reference -/
theorem X12_areOne_eq (w : Nat) (hw : 1100 ≤ w) (R : QF p x h M) {g : Nat → Nat} (hok : okS p (sDay h, sWed h, g, sSw h, sPl h)) (hg3 : ∀ d, d < pD p → M.1 183 d = nI (g d)) {m : Nat} (hm : m ≤ 30) : ∃ N b, f_X12_areOne w 163 (nI m) M = some (b2i b, N) ∧ FrT M N ∧ N.1 182 = M.1 182 ∧ N.1 183 = M.1 183 ∧ (b = true ↔ tog p x (sDay h, sWed h, g, sSw h, sPl h) m) := by
  obtain ⟨hp, hx, hh, hda, hr, hxr, ht⟩ := R
  have hD := hp.2.1
  have hP := hp.2.2.1
  obtain ⟨M1, e1, f1, s1⟩ := X12_triesNow_eq w (by omega) hp ht
  have f1' : ∀ c, c ≠ 179 → M1.1 c = M.1 c := by
    obtain ⟨N3, e3, f3, -, -⟩ := X12_copies_eq w (a := 0) (b := 1365) (m := 23) (by omega) (by omega) (by omega) (by omega) M
    have : N3 = M1 := by
      have h0 := e1
      unfold f_X12_triesNow at h0
      rw [show f_X12_copies w 163 0 1365 23 M = some N3 from e3] at h0
      exact Option.some.inj h0
    subst this
    intro c hc
    exact f3.1 c (by simp; exact hc)
  unfold f_X12_areOne
  rw [e1, bV_some]
  refine loopX (fun k (K : mM) => FrT M K ∧ K.1 182 = M.1 182 ∧ K.1 183 = M.1 183 ∧ StR K 1365 p (sDay h, sWed h, fun d => if d < k then g d else sGap h d, sSw h, sPl h)) (fun f (K : mM) k => f_X12_areOne_6 w f 163 (nI m) (nI k) K) (pD p) (fun r => ∃ N b, r = some (b2i b, N) ∧ FrT M N ∧ N.1 182 = M.1 182 ∧ N.1 183 = M.1 183 ∧ (b = true ↔ tog p x (sDay h, sWed h, g, sSw h, sPl h) m)) ?_ ?_ (pD p) w 0 M1 (by omega) (by omega) ⟨f1, f1' 182 (by decide), f1' 183 (by decide), s1⟩
  · rintro f K ⟨fK, k2, k3, sK⟩
    have hrK := fK.plr hr
    have sK : StR K 1365 p (sDay h, sWed h, g, sSw h, sPl h) := ⟨sK.1, sK.2.1, fun d hd => ⟨by have := (sK.2.2.1 d hd).1; rw [this]; show nI (if d < pD p then g d else sGap h d) = nI (g d); rw [if_pos hd], (sK.2.2.1 d hd).2⟩, sK.2.2.2⟩
    rw [f_X12_areOne_6, X12_doors_eq, bI_some, show K.1 169 1 = nI (pD p) from hrK.2.1, if_pos (Int32.le_refl _)]
    unfold f_X12_areOne_36
    refine loopX (fun k (L : mM) => FrT M L ∧ L.1 182 = M.1 182 ∧ L.1 183 = M.1 183 ∧ StR L 1365 p (fut p x (sDay h, sWed h, g, sSw h, sPl h) k)) (fun f (L : mM) k => f_X12_areOne_38 w f 163 (nI m) (nI k) L) m (fun r => ∃ N b, r = some (b2i b, N) ∧ FrT M N ∧ N.1 182 = M.1 182 ∧ N.1 183 = M.1 183 ∧ (b = true ↔ tog p x (sDay h, sWed h, g, sSw h, sPl h) m)) ?_ ?_ m w 0 K (by omega) (by omega) ⟨fK, k2, k3, sK⟩
    · rintro f L ⟨fL, l2, l3, sL⟩
      have hrL := fL.plr hr
      have hPL : L.1 169 2 = nI (pP p) := hrL.2.2.1
      have hpl : ∀ q, q < pP p → L.1 179 (18 + q) = nI (sPl h q) := fun q hq => by
        rw [fL.2 _ (by omega)]
        have := ht.2.2.2 q hq
        rw [Nat.zero_add] at this; exact this
      rw [f_X12_areOne_38, if_pos (Int32.le_refl _)]
      unfold f_X12_areOne_56
      have hon := X12_openNow_eq w (by omega) (b := 1365) (by omega) hp (fut_ok (x := x) hok (n := m) (by show sDay h + m < _; omega)) hrL sL
      refine loopX (fun q (b : Bool) => 1 ≤ q ∧ (b = true ↔ ∀ a, 1 ≤ a → a < q → a < pP p → bit (rng p (opM p (fut p x (sDay h, sWed h, g, sSw h, sPl h) m)) (sPl h 0)) (sPl h a) = true)) (fun f (b : Bool) q => f_X12_areOne_60 w f 163 (b2i b) (nI q) L) (if pP p ≤ 1 then 1 else pP p) (fun r => ∃ N b, r = some (b2i b, N) ∧ FrT M N ∧ N.1 182 = M.1 182 ∧ N.1 183 = M.1 183 ∧ (b = true ↔ tog p x (sDay h, sWed h, g, sSw h, sPl h) m)) ?_ ?_ ((if pP p ≤ 1 then 1 else pP p) - 1) w 1 true (by split <;> omega) (by split <;> omega) ⟨by omega, fun _ a h1 h2 => by omega, fun _ => rfl⟩
      · rintro f b ⟨q1, ib⟩
        rw [f_X12_areOne_60, X12_persons_eq, bI_some, hPL, if_pos ((nI_leI (by omega) (by split <;> omega)).mpr (by split <;> omega)), rtB_b]
        refine ⟨L, b, rfl, fL, l2, l3, ?_⟩
        rw [ib]
        constructor
        · intro e a h1 h2
          exact e a h1 (by split <;> omega) h2
        · intro e a h1 _ h2
          exact e a h1 h2
      · rintro f b q hq ⟨q1, ib⟩
        have hqP : q < pP p := by split at hq <;> omega
        rw [f_X12_areOne_60, X12_persons_eq, bI_some, hPL, if_neg (fun h => by have := (nI_leI (by omega) (by omega)).mp h; omega), nI_1]
        refine Or.inr ?_
        cases b
        · rw [if_pos (show b2i false = 0 from rfl)]
          refine ⟨false, rfl, by omega, fun e => (by cases e), fun e => ?_⟩
          exact ib.mpr (fun a h1 h2 h3 => e a h1 (by omega) h3)
        · have h0 := hpl 0 (by omega)
          rw [if_neg (show ¬ b2i true = 0 by decide), r163_24, l179, show (18 : Int32) = nI 18 from rfl, chk_nI _ (by omega) (by omega), nI_clamp (by omega), show f_X12_openNow w 163 1365 L = _ from hon, bI_some, show L.1 179 18 = _ from h0, X12_rangeBy_eq w (by omega) hp hrL, bI_some, nI_add, chk_nI _ (by omega) (by omega), nI_clamp (by omega), hpl q hqP, bit_b]
          cases eb : bit (rng p (opM p (fut p x (sDay h, sWed h, g, sSw h, sPl h) m)) (sPl h 0)) (sPl h q)
          · rw [if_neg (show ¬ b2i false = 1 by decide)]
            refine ⟨false, rfl, by omega, fun e => (by cases e), fun e => ?_⟩
            have := e q q1 (by omega) hqP
            rw [eb] at this; cases this
          · rw [if_pos (show b2i true = 1 from rfl)]
            refine ⟨true, rfl, by omega, fun _ a h1 h2 h3 => ?_, fun _ => rfl⟩
            by_cases e : a = q
            · subst e; exact eb
            · exact ib.mp rfl a h1 (by omega) h3
    · rintro f L k hk ⟨fL, l2, l3, sL⟩
      obtain ⟨N2, e3, f3, s3, j3⟩ := X12_passes__eq w hw hp hx (fut_ok (x := x) hok (n := k) (by show sDay h + k < _; omega)) (fL.plr hr) (fL.xr hxr) (b := 1365) (by omega) sL
      rw [fut_day] at s3
      refine Or.inr ⟨N2, ?_, fL.tr ⟨f3.mono (by decide), fun i hi => j3 i (by omega)⟩, ?_, ?_, s3⟩
      · rw [f_X12_areOne_38, if_neg (fun q => by have := (nI_leI (by omega) (by omega)).mp q; omega), show f_X12_passes_ w 163 1365 L = _ from e3, bV_some, nI_1]
      · rw [f3.1 182 (by decide)]; exact l2
      · rw [f3.1 183 (by decide)]; exact l3
  · rintro f K k hk ⟨fK, k2, k3, sK⟩
    have hrK := fK.plr hr
    refine Or.inr ⟨wI K 179 (1367 + k) (nI (g k)), ?_, ?_, ?_, ?_, ?_⟩
    · rw [f_X12_areOne_6, X12_doors_eq, bI_some, show K.1 169 1 = nI (pD p) from hrK.2.1, if_neg (fun h => by have := (nI_leI (by omega) (by omega)).mp h; omega), r163_24, r163_29, l179, l183, chk_nI _ (by omega) (by omega), show (1367 : Int32) + nI k = nI (1367 + k) by rw [nx_lit, nI_add], chk_nI _ (by omega) (by omega), nI_clamp (by omega), nI_clamp (by omega), lt_eq, k3, hg3 k hk, nI_1]
    · exact fK.tr ⟨(Fr.rf _ K).wI (by decide) _ _, fun j hj => by rw [wI_set, setC_at, upd_ne _ _ (by omega)]⟩
    · rw [wI_set, setC_ne _ _ (by decide)]; exact k2
    · rw [wI_set, setC_ne _ _ (by decide)]; exact k3
    · have e179 : ∀ j, j ≠ 1367 + k → (wI K 179 (1367 + k) (nI (g k))).1 179 j = K.1 179 j := fun j hj => by rw [wI_set, setC_at, upd_ne _ _ hj]
      obtain ⟨a1, a2, a3, a4⟩ := sK
      refine ⟨by rw [e179 _ (by omega)]; exact a1, by rw [e179 _ (by omega)]; exact a2, fun d hd => ⟨?_, by rw [e179 _ (by omega)]; exact (a3 d hd).2⟩, fun q hq => by rw [e179 _ (by omega)]; exact a4 q hq⟩
      show _ = nI (if d < k + 1 then g d else sGap h d)
      by_cases q : d = k
      · subst q; rw [if_pos (by omega), show 1365 + 2 + d = 1367 + d by omega, wI_set, setC_at, upd_at]
      · rw [e179 _ (by omega), (a3 d hd).1]
        show nI (if d < k then g d else sGap h d) = _
        by_cases q2 : d < k
        · rw [if_pos q2, if_pos (by omega)]
        · rw [if_neg q2, if_neg (by omega)]
end PLR
