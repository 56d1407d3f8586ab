/-! ===== which door to try: tries ===== -/
section TRIES
variable {p : HP} {x : HX} {h : HS} {u : FU} {M N : mM}
theorem bits_all10 : ∀ m, m < 1024 → itG (fun k (s : Int32) => s + ((nI m >>> (nI k &&& nI 31)) &&& nI 1)) 30 0 0 = nI (cnt (bt (nI m)) 10) := by decide +kernel
theorem J6_all10 : ∀ m, m < 1024 → bcF (nI m) = nI (cnt (bt (nI m)) 10) := by decide +kernel
theorem b_1023 (i : Nat) : bt 1023 i = decide (i < 10) := by
  rcases Nat.lt_or_ge i 32 with h | h
  · exact (by decide +kernel : ∀ i, i < 32 → bt 1023 i = decide (i < 10)) i h
  · rw [b_big h, decide_eq_false (by omega)]
theorem in10 {x : Int32} (h : inR 10 x) : ∃ m, m < 1024 ∧ x = nI m := by
  obtain ⟨j, hj, e⟩ := pk_andE x (m := 1023) 10 (by decide)
  refine ⟨j, hj, ?_⟩
  rw [← e]
  apply b_ext
  intro i hi
  rw [b_and, b_1023]
  cases e2 : bt x i
  · rfl
  · rw [decide_eq_true (h i hi e2)]; rfl
theorem X12_bits_eq10 (w : Nat) (hw : 40 ≤ w) {x : Int32} (hx : inR 10 x) (M : mM) : f_X12_bits w x M = some (nI (cnt (bt x) 10), M) := by
  obtain ⟨m, hm, rfl⟩ := in10 hx
  unfold f_X12_bits
  refine (loopP (fun n s k => f_X12_bits_4 w n (nI m) s (nI k) M) (fun k (s : Int32) => s + ((nI m >>> (nI k &&& nI 31)) &&& nI 1)) (fun s => some (s, M)) 30 ?_ ?_ (by omega) 0).trans (by rw [bits_all10 m hm])
  · intro n s
    simp (discharger := omega) only [f_X12_bits_4, lit_s, nI_add, pk_mul, nI_clamp, chk_nI, bI_s, bV_s, ltv_s, nI_leI, nI_ltI, nI_eq, bitN0, bitN1, oneN, b2i0, b2i1, b2it, b2if, rtB_b, if_pos, if_neg, if_true, if_false, Bool.false_eq_true, Bool.true_eq_false, ite_self, or_n0]
  · intro n s k hk
    simp (discharger := omega) only [f_X12_bits_4, lit_s, nI_add, pk_mul, nI_clamp, chk_nI, bI_s, bV_s, ltv_s, nI_leI, nI_ltI, nI_eq, bitN0, bitN1, oneN, b2i0, b2i1, b2it, b2if, rtB_b, if_pos, if_neg, if_true, if_false, Bool.false_eq_true, Bool.true_eq_false, ite_self, or_n0]
theorem J6_bitCount_eq10 (w : Nat) {x : Int32} (hx : inR 10 x) (M : mM) : f_J6_bitCount_0f7a4 w x M = some (nI (cnt (bt x) 10), M) := by
  obtain ⟨m, hm, rfl⟩ := in10 hx
  rw [← J6_all10 m hm]
  rfl
theorem cnt_cong {f g : Nat → Bool} : ∀ n, (∀ i, i < n → f i = g i) → cnt f n = cnt g n := fun n e => Nat.le_antisymm (cnt_le n (fun k hk h => by rw [← e k hk]; exact h)) (cnt_le n (fun k hk h => by rw [e k hk]; exact h))
theorem wqM_bt {i : Nat} (hi : i < 32) : bt (wqM p x h u) i = (decide (i < 10) && wq p x h u i) := by
  unfold wqM
  rw [mask_bt _ _ _ (by omega) i hi, b_0, Bool.false_or]
  by_cases a : i < 10
  · rw [decide_eq_true a, decide_eq_true (by omega)]
  · rw [decide_eq_false a, decide_eq_false (by omega)]
theorem wqM_in : inR 10 (wqM p x h u) := fun i hi e => by
  rw [wqM_bt hi, Bool.and_eq_true, decide_eq_true_eq] at e; exact e.1
theorem wqM_cnt : cnt (bt (wqM p x h u)) 10 = cnt (wq p x h u) 10 := cnt_cong 10 (fun i hi => by rw [wqM_bt (by omega), decide_eq_true hi]; rfl)
def tc (p : HP) (x : HX) (h : HS) (u : FU) (k d m : Nat) : Nat := cnt (fun m => wq p x h u m && stk (fm p x m h k) d) m
def wn (p : HP) (x : HX) (h : HS) (u : FU) : Nat := cnt (wq p x h u) 10
theorem tc_le (k d : Nat) : tc p x h u k d 10 ≤ wn p x h u := cnt_le 10 (fun m _ e => by rw [Bool.and_eq_true] at e; exact e.1)
def tm (p : HP) (x : HX) (h : HS) (u : FU) (k d : Nat) : Nat := if tc p x h u k d 10 ≤ wn p x h u - tc p x h u k d 10 then wn p x h u - tc p x h u k d 10 else tc p x h u k d 10
theorem wn_le : wn p x h u ≤ 10 := cnt_max _ 10
theorem tm_le (k d : Nat) : tm p x h u k d ≤ 10 := by
  have := tc_le (p := p) (x := x) (h := h) (u := u) k d
  have := wn_le (p := p) (x := x) (h := h) (u := u)
  unfold tm; split <;> omega
def tg (p : HP) (x : HX) (h : HS) (u : FU) (k d : Nat) (s : Nat × Int32) : Nat × Int32 := if s.1 ≤ tm p x h u k d then s else (tm p x h u k d, nI (8 * k + d))
def tG (p : HP) (x : HX) (h : HS) (u : FU) (k : Nat) (s : Nat × Int32) : Nat × Int32 := itG (tg p x h u k) (pD p) 0 s
theorem tg_le (k d : Nat) {s : Nat × Int32} (e : s.1 ≤ 10) : (tg p x h u k d s).1 ≤ 10 := by
  unfold tg; split
  · exact e
  · exact tm_le k d
theorem itG_succ {σ : Type} (g : Nat → σ → σ) (a k : Nat) (s : σ) : itG g (a + 1) k s = g (k + a) (itG g a k s) := by rw [itG_add]; rfl
theorem bitq (w : Nat) {m : Nat} (hm : m < 10) : bit (wqM p x h u) m = wq p x h u m := by rw [bit_bt _ (by omega), wqM_bt (by omega), decide_eq_true hm]; rfl
theorem X5_stickingNext_eq (w : Nat) (hw : 1100 ≤ w) (Q : QC p x h M) {d k : Nat} (hd : d < pD p) (hk : 1 ≤ k) (hk2 : k ≤ 30) (ht : ∀ m, m < 10 → M.1 159 (m * 8 + d) = nI (sSw (fm p x m h (k - 1)) d) ∨ wq p x h u m = false) : ∃ N, f_X5_stickingNext w 156 (nI d) (wqM p x h u) (nI (sDay h + k - 1)) M = some (nI (tc p x h u k d 10), N) ∧ Fr [12, 159] M N ∧ (∀ m, m < 10 → N.1 159 (m * 8 + d) = nI (sSw (fm p x m h k) d) ∨ wq p x h u m = false) ∧ ∀ m e, e < 8 → e ≠ d → N.1 159 (m * 8 + e) = M.1 159 (m * 8 + e) := by
  have hp := Q.1
  have hD := hp.2.1
  have hda := Q.2.2.2.1
  unfold f_X5_stickingNext
  refine loopX (fun m (s : Nat × mM) => Fr [12, 159] M s.2 ∧ s.1 = tc p x h u k d m ∧ (∀ a, a < m → s.2.1 159 (a * 8 + d) = nI (sSw (fm p x a h k) d) ∨ wq p x h u a = false) ∧ (∀ a, m ≤ a → s.2.1 159 (a * 8 + d) = M.1 159 (a * 8 + d)) ∧ ∀ m e, e < 8 → e ≠ d → s.2.1 159 (m * 8 + e) = M.1 159 (m * 8 + e)) (fun n (s : Nat × mM) m => f_X5_stickingNext_6 w n 156 (nI d) (wqM p x h u) (nI (sDay h + k - 1)) (nI s.1) (nI m) s.2) 10 (fun r => ∃ N, r = some (nI (tc p x h u k d 10), N) ∧ Fr [12, 159] M N ∧ (∀ m, m < 10 → N.1 159 (m * 8 + d) = nI (sSw (fm p x m h k) d) ∨ wq p x h u m = false) ∧ ∀ m e, e < 8 → e ≠ d → N.1 159 (m * 8 + e) = M.1 159 (m * 8 + e)) ?_ ?_ 10 w 0 (0, M) (by omega) (by omega) ⟨Fr.rf _ _, rfl, fun a ha => by omega, fun _ _ => rfl, fun _ _ _ _ => rfl⟩
  · rintro n ⟨c, N⟩ ⟨f, e, i1, i2, i3⟩
    have e : c = _ := e
    subst e
    rw [f_X5_stickingNext_6, if_pos (by decide)]
    exact ⟨N, rfl, f, i1, i3⟩
  · rintro n ⟨c, N⟩ m hm ⟨f, e, i1, i2, i3⟩
    have e : c = _ := e
    have f : Fr [12, 159] M N := f
    have i1 : ∀ a, a < m → N.1 159 (a * 8 + d) = nI (sSw (fm p x a h k) d) ∨ wq p x h u a = false := i1
    have i2 : ∀ a, m ≤ a → N.1 159 (a * 8 + d) = M.1 159 (a * 8 + d) := i2
    have i3 : ∀ m e, e < 8 → e ≠ d → N.1 159 (m * 8 + e) = M.1 159 (m * 8 + e) := i3
    subst e
    refine Or.inr ?_
    show ∃ t : Nat × mM, f_X5_stickingNext_6 w (n + 1) 156 (nI d) (wqM p x h u) (nI (sDay h + k - 1)) (nI (tc p x h u k d m)) (nI m) N = f_X5_stickingNext_6 w n 156 (nI d) (wqM p x h u) (nI (sDay h + k - 1)) (nI t.1) (nI (m + 1)) t.2 ∧ _
    cases eq : wq p x h u m
    · refine ⟨(tc p x h u k d (m + 1), N), ?_, f, rfl, fun a ha => ?_, fun a ha => i2 a (by omega), i3⟩
      · rw [f_X5_stickingNext_6, if_neg (fun h => by have := (nI_leI (a := 10) (by omega) (by omega)).mp h; omega), if_pos ((bit_0 _ _).mpr ((bitq w hm).trans eq)), nI_1]
        show _ = f_X5_stickingNext_6 w n 156 (nI d) (wqM p x h u) (nI (sDay h + k - 1)) (nI (tc p x h u k d m + (if (wq p x h u m && stk (fm p x m h k) d) = true then 1 else 0))) (nI (m + 1)) N
        rw [eq]; rfl
      · by_cases q : a = m
        · subst q; exact Or.inr eq
        · exact i1 a (by omega)
    · have QN : QC p x h N := Q.fr (fun c hc => f.1 c (by simp; omega))
      have g : N.1 159 (m * 8 + d) = nI (sSw (fm p x m h (k - 1)) d) := by
        rw [i2 m (by omega)]
        rcases ht m hm with t | t
        · exact t
        · rw [eq] at t; cases t
      obtain ⟨s, hsn⟩ := X6_swollenNext_eq w hw hp Q.2.1 QN.2.2.2.2.1 QN.2.2.2.2.2.1 (gap := sGap h d) (m := m) (day := sDay h + (k - 1)) hd ((fm_ok (x := x) Q.2.2.1 (m := m) (n := k - 1) (by omega)).2.1 d hd).2 (by omega)
      rw [← fm_sw, show k - 1 + 1 = k by omega] at hsn
      have gg : N.1 32 d = nI (sGap h d) := (QN.2.2.2.2.2.2.2.2.1 _ hd).1
      have fW : Fr [12, 159] M (wI (setC N 12 s) 159 (m * 8 + d) (nI (sSw (fm p x m h k) d))) := (f.set (by decide) _).wI (by decide) _ _
      have hsW : StC (wI (setC N 12 s) 159 (m * 8 + d) (nI (sSw (fm p x m h k) d))) 31 p h := Q.2.2.2.2.2.2.fr (fun c h1 h2 => fW.1 c (by simp; omega))
      have hst := X5_sticksAt_eq w hp Q.2.2.1 hsW hd (v := sSw (fm p x m h k) d) ((fm_ok (x := x) Q.2.2.1 (by omega)).2.1 _ hd).2
      rw [← fm_stk] at hst
      have e159 : (wI (setC N 12 s) 159 (m * 8 + d) (nI (sSw (fm p x m h k) d))).1 159 = upd (N.1 159) (m * 8 + d) (nI (sSw (fm p x m h k) d)) := by rw [wI_set, setC_at, setC_ne _ _ (by decide)]
      refine ⟨(tc p x h u k d (m + 1), wI (setC N 12 s) 159 (m * 8 + d) (nI (sSw (fm p x m h k) d))), ?_, fW, rfl, fun a ha => ?_, fun a ha => ?_, fun a e h1 h2 => ?_⟩
      · rw [f_X5_stickingNext_6, if_neg (fun h => by have := (nI_leI (a := 10) (by omega) (by omega)).mp h; omega), if_neg (fun e => by rw [bit_0, bitq w hm, eq] at e; cases e), show nI m * 8 + nI d = nI (m * 8 + d) by rw [nx_lit, pk_mul, nI_add], lt_eq, r156_4, r156_0, r156_1, r31_3, l159, l32, chk_nI _ (by omega) (by omega), chk_nI _ (by omega) (by omega), nI_clamp (by omega), nI_clamp (by omega), g, gg, show sDay h + k - 1 = sDay h + (k - 1) by omega, hsn, bI_some, chk_nI _ (by omega) (by omega), lt_eq, hst, bI_some, nI_1, nI_1]
        show _ = f_X5_stickingNext_6 w n 156 (nI d) (wqM p x h u) (nI (sDay h + (k - 1))) (nI (tc p x h u k d m + (if (wq p x h u m && stk (fm p x m h k) d) = true then 1 else 0))) (nI (m + 1)) _
        rw [eq]
        cases stk (fm p x m h k) d <;> rfl
      · show (wI (setC N 12 s) 159 (m * 8 + d) (nI (sSw (fm p x m h k) d))).1 159 (a * 8 + d) = _ ∨ _
        rw [e159]
        by_cases q : a = m
        · subst q; rw [upd_at]; exact Or.inl rfl
        · rw [upd_ne _ _ (by omega)]; exact i1 a (by omega)
      · show (wI (setC N 12 s) 159 (m * 8 + d) (nI (sSw (fm p x m h k) d))).1 159 (a * 8 + d) = _
        rw [e159, upd_ne _ _ (by omega)]; exact i2 a (by omega)
      · show (wI (setC N 12 s) 159 (m * 8 + d) (nI (sSw (fm p x m h k) d))).1 159 (a * 8 + e) = _
        rw [e159, upd_ne _ _ (by omega)]; exact i3 a e h1 h2
theorem cpk_at {α : Type} {sp dp n a b : Nat} (f : Option α) (h1 : sp + n ≤ a) (h2 : dp + n ≤ b) (h3 : a < 2147483648) (h4 : b < 2147483648) : cpk (nI sp) (nI dp) (nI n) a b f = f := by
  unfold cpk
  rw [if_neg]
  rintro (q | q | q | q | q)
  · exact nI_pos (by omega) q
  · exact nI_pos (by omega) q
  · exact nI_pos (by omega) q
  · rw [nI_clamp (by omega), nI_clamp (by omega)] at q; omega
  · rw [nI_clamp (by omega), nI_clamp (by omega)] at q; omega
theorem mx_tm (k d : Nat) : mxI (nI (tc p x h u k d 10)) (nI (wn p x h u) - nI (tc p x h u k d 10)) = nI (tm p x h u k d) := by
  have h1 := tc_le (p := p) (x := x) (h := h) (u := u) k d
  have h2 := wn_le (p := p) (x := x) (h := h) (u := u)
  rw [pk_sub h1]
  unfold mxI tm
  by_cases q : tc p x h u k d 10 < wn p x h u - tc p x h u k d 10
  · rw [if_pos ((nI_ltI (by omega) (by omega)).mpr q), if_pos (by omega)]
  · rw [if_neg (fun e => q ((nI_ltI (by omega) (by omega)).mp e))]
    by_cases q2 : tc p x h u k d 10 ≤ wn p x h u - tc p x h u k d 10
    · rw [if_pos q2]; exact congrArg nI (by omega)
    · rw [if_neg q2]
def trV (p : HP) (x : HX) (h : HS) (u : FU) : Int32 := (itG (tG p x h u) 30 1 (wn p x h u, -1)).2
theorem tG_le (k : Nat) {s : Nat × Int32} (e : s.1 ≤ 10) : (tG p x h u k s).1 ≤ 10 := by
  have := itG_I (fun _ (s : Nat × Int32) => s.1 ≤ 10) (tg p x h u k) (K := pD p) (fun d s _ e => tg_le k d e) (pD p) 0 s (by omega) e
  exact this
theorem X5_bestTry_eq (w : Nat) (hw : 1100 ≤ w) (Q : QC p x h M) : ∃ N, f_X5_bestTry w 156 (wqM p x h u) M = some (trV p x h u, N) ∧ Fr [12, 159] M N := by
  have hp := Q.1
  have hD := hp.2.1
  have hda := Q.2.2.2.1
  have hwn := wn_le (p := p) (x := x) (h := h) (u := u)
  unfold f_X5_bestTry
  rw [J6_bitCount_eq10 w wqM_in, bI_some, wqM_cnt, show cnt (wq p x h u) 10 = wn p x h u from rfl]
  refine loopX (fun m (N : mM) => Fr [12, 159] M N ∧ ∀ a d, a < m → d < pD p → N.1 159 (a * 8 + d) = nI (sSw h d)) (fun n (N : mM) m => f_X5_bestTry_13 w n 156 (wqM p x h u) (nI (wn p x h u)) (nI (wn p x h u)) (-1) (nI m) N) 10 (fun r => ∃ N, r = some (trV p x h u, N) ∧ Fr [12, 159] M N) ?_ ?_ 10 w 0 M (by omega) (by omega) ⟨Fr.rf _ _, fun a d ha => by omega⟩
  · rintro n N ⟨f, i⟩
    rw [f_X5_bestTry_13, if_pos (by decide)]
    unfold f_X5_bestTry_48
    refine loopX (fun k (s : (Nat × Int32) × mM) => Fr [12, 159] M s.2 ∧ 1 ≤ k ∧ s.1 = itG (tG p x h u) (k - 1) 1 (wn p x h u, -1) ∧ s.1.1 ≤ 10 ∧ ∀ a d, a < 10 → d < pD p → s.2.1 159 (a * 8 + d) = nI (sSw (fm p x a h (k - 1)) d) ∨ wq p x h u a = false) (fun n (s : (Nat × Int32) × mM) k => f_X5_bestTry_51 w n 156 (wqM p x h u) (nI (wn p x h u)) (nI s.1.1) s.1.2 (nI k) s.2) 31 (fun r => ∃ N, r = some (trV p x h u, N) ∧ Fr [12, 159] M N) ?_ ?_ 30 w 1 ((wn p x h u, -1), N) (by omega) (by omega) ⟨f, by omega, rfl, hwn, fun a d h1 h2 => Or.inl (i a d h1 h2)⟩
    · rintro n ⟨⟨b, v⟩, N⟩ ⟨f, -, e, -, -⟩
      rw [f_X5_bestTry_51, if_pos (by decide)]
      refine ⟨N, ?_, f⟩
      unfold trV
      rw [show itG (tG p x h u) 30 1 (wn p x h u, -1) = (b, v) from e.symm]
    · rintro n ⟨s, N⟩ k hk ⟨f, k1, e, b10, i⟩
      refine Or.inr ?_
      have f : Fr [12, 159] M N := f
      have e : s = _ := e
      have b10 : s.1 ≤ 10 := b10
      have i : ∀ a d, a < 10 → d < pD p → N.1 159 (a * 8 + d) = nI (sSw (fm p x a h (k - 1)) d) ∨ wq p x h u a = false := i
      show ∃ t : (Nat × Int32) × mM, f_X5_bestTry_51 w (n + 1) 156 (wqM p x h u) (nI (wn p x h u)) (nI s.1) s.2 (nI k) N = f_X5_bestTry_51 w n 156 (wqM p x h u) (nI (wn p x h u)) (nI t.1.1) t.1.2 (nI (k + 1)) t.2 ∧ _
      rw [f_X5_bestTry_51, if_neg (fun q => by have := (nI_ltI (a := 30) (by omega) (by omega)).mp q; omega)]
      refine loopX (fun d (t : (Nat × Int32) × mM) => Fr [12, 159] M t.2 ∧ t.1 = itG (tg p x h u k) d 0 s ∧ t.1.1 ≤ 10 ∧ (∀ a e, a < 10 → e < d → t.2.1 159 (a * 8 + e) = nI (sSw (fm p x a h k) e) ∨ wq p x h u a = false) ∧ ∀ a e, a < 10 → d ≤ e → e < pD p → t.2.1 159 (a * 8 + e) = nI (sSw (fm p x a h (k - 1)) e) ∨ wq p x h u a = false) (fun n2 (t : (Nat × Int32) × mM) d => f_X5_bestTry_61 w (f_X5_bestTry_51 w n) n2 156 (wqM p x h u) (nI (wn p x h u)) (nI t.1.1) t.1.2 (nI k) (nI d) t.2) (pD p) (fun r => ∃ t : (Nat × Int32) × mM, r = f_X5_bestTry_51 w n 156 (wqM p x h u) (nI (wn p x h u)) (nI t.1.1) t.1.2 (nI (k + 1)) t.2 ∧ Fr [12, 159] M t.2 ∧ 1 ≤ k + 1 ∧ t.1 = itG (tG p x h u) (k + 1 - 1) 1 (wn p x h u, -1) ∧ t.1.1 ≤ 10 ∧ ∀ a d, a < 10 → d < pD p → t.2.1 159 (a * 8 + d) = nI (sSw (fm p x a h (k + 1 - 1)) d) ∨ wq p x h u a = false) ?_ ?_ (pD p) w 0 (s, N) (by omega) (by omega) ⟨f, rfl, b10, fun a e _ h => by omega, fun a e h1 _ h2 => i a e h1 h2⟩
      · rintro n2 ⟨t, K⟩ ⟨fK, et, t10, j1, j2⟩
        have et : t = _ := et
        have fK : Fr [12, 159] M K := fK
        have hDK : K.1 1 1 = nI (pD p) := by rw [fK.1 1 (by decide)]; exact Q.2.2.2.2.1.2.1
        refine ⟨(t, K), ?_, fK, by omega, ?_, t10, fun a d h1 h2 => j1 a d h1 h2⟩
        · show f_X5_bestTry_61 w (f_X5_bestTry_51 w n) (n2 + 1) 156 (wqM p x h u) (nI (wn p x h u)) (nI t.1) t.2 (nI k) (nI (pD p)) K = _
          rw [f_X5_bestTry_61, r156_1, hDK, if_pos (Int32.le_refl _), nI_1]
        · show t = _
          rw [show k + 1 - 1 = k - 1 + 1 by omega, itG_succ, ← e, et, show 1 + (k - 1) = k by omega]
          rfl
      · rintro n2 ⟨t, K⟩ d hdd ⟨fK, et, t10, j1, j2⟩
        have et : t = _ := et
        have fK : Fr [12, 159] M K := fK
        have t10 : t.1 ≤ 10 := t10
        have j1 : ∀ a e, a < 10 → e < d → K.1 159 (a * 8 + e) = nI (sSw (fm p x a h k) e) ∨ wq p x h u a = false := j1
        have j2 : ∀ a e, a < 10 → d ≤ e → e < pD p → K.1 159 (a * 8 + e) = nI (sSw (fm p x a h (k - 1)) e) ∨ wq p x h u a = false := j2
        have QK : QC p x h K := Q.fr (fun c hc => fK.1 c (by simp; omega))
        obtain ⟨K2, e2, f2, t2, o2⟩ := X5_stickingNext_eq (u := u) w hw QK hdd k1 (by omega) (fun m hm => j2 m d hm (by omega) hdd)
        have hDK : K.1 1 1 = nI (pD p) := QK.2.2.2.2.1.2.1
        have hdy : K.1 31 1 = nI (sDay h) := QK.2.2.2.2.2.2.1
        have tml := tm_le (p := p) (x := x) (h := h) (u := u) k d
        refine Or.inr ⟨(tg p x h u k d t, K2), ?_, fK.tr f2, ?_, tg_le k d t10, fun a e h1 h2 => ?_, fun a e h1 h2 h3 => ?_⟩
        · show f_X5_bestTry_61 w (f_X5_bestTry_51 w n) (n2 + 1) 156 (wqM p x h u) (nI (wn p x h u)) (nI t.1) t.2 (nI k) (nI d) K = f_X5_bestTry_61 w (f_X5_bestTry_51 w n) n2 156 (wqM p x h u) (nI (wn p x h u)) (nI (tg p x h u k d t).1) (tg p x h u k d t).2 (nI k) (nI (d + 1)) K2
          rw [f_X5_bestTry_61, r156_1, hDK, if_neg (fun h => by have := (nI_leI (by omega) (by omega)).mp h; omega), r156_0, hdy, show nI (sDay h) + nI k - 1 = nI (sDay h + k - 1) by rw [nI_add]; exact pk_sub (b := 1) (by omega), e2, bI_some, mx_tm, lt_eq, nI_1, show (8 : Int32) * nI k + nI d = nI (8 * k + d) by rw [nx_lit, pk_mul, nI_add], lt_eq]
          unfold tg
          by_cases q : t.1 ≤ tm p x h u k d
          · rw [if_pos ((nI_leI (by omega) (by omega)).mpr q), if_pos q]
          · rw [if_neg (fun e => q ((nI_leI (by omega) (by omega)).mp e)), if_neg q]
        · show tg p x h u k d t = _
          rw [itG_succ, ← et, Nat.zero_add]
        · show K2.1 159 (a * 8 + e) = _ ∨ _
          by_cases q : e = d
          · subst q; exact t2 a h1
          · rw [o2 a e (by omega) q]; exact j1 a e h1 (by omega)
        · show K2.1 159 (a * 8 + e) = _ ∨ _
          rw [o2 a e (by omega) (by omega)]; exact j2 a e h1 (by omega) h3
  · rintro n N m hm ⟨f, i⟩
    refine Or.inr ⟨setC N 159 (va_cpy (N.1 33) (N.1 159) 0 (m * 8) 8), ?_, f.set (by decide) _, fun a d h1 h2 => ?_⟩
    · rw [f_X5_bestTry_13, if_neg (fun h => by have := (nI_leI (a := 10) (by omega) (by omega)).mp h; omega), show nI m * 8 = nI (m * 8) by rw [nx_lit, pk_mul], r156_0, r156_4, r31_4, l33, l159, show cpk (0 : Int32) (nI (m * 8)) 8 8 80 = cpk (nI 0) (nI (m * 8)) (nI 8) 8 80 from rfl, cpk_at _ (by omega) (by omega) (by omega) (by omega), lt_eq, show (0 : Int32).toNatClampNeg = 0 from rfl, show (8 : Int32).toNatClampNeg = 8 from rfl, nI_clamp (by omega), cI_set, nI_1]
    · rw [setC_at]
      unfold va_cpy
      by_cases q : a = m
      · subst q
        rw [if_pos (by omega), show 0 + (a * 8 + d - a * 8) = d by omega, f.1 33 (by decide)]
        exact (Q.2.2.2.2.2.2.2.2.1 d h2).2
      · rw [if_neg (by omega)]
        exact i a d (by omega) h2
theorem X11_tries_eq (w : Nat) (hw : 1100 ≤ w) (Q : QC p x h M) (R : QF p x h M) (ou : okU p u) (hu : UC M 105 u) (hv : UR M 0 u) : Al (f_X11_tries w 0) (f_X12_tries w 163) M := by
  obtain ⟨N0, e, f0⟩ := X5_wetsBy_eq w hw Q ou hu
  have Q0 : QC p x h N0 := Q.fc (FC.of12 f0)
  obtain ⟨N, e1, f1⟩ := X5_bestTry_eq (u := u) w hw Q0
  have fc : FC M N := (f0.mono (by decide)).tr (f1.mono (by decide))
  have R2 := (R.fc fc).th0
  have hv2 : UR (th0 N) 0 u := hv.fr ou (fun j _ _ => by rw [th0_1 _ (by decide), fc.1 179 (by decide)])
  obtain ⟨K, e2, f2, tb⟩ := X12_wetsNow_eq w hw R2 ou hv2
  have hp := Q.1
  have hD := hp.2.1
  have hwn := wn_le (p := p) (x := x) (h := h) (u := u)
  have hDK : K.1 169 1 = nI (pD p) := (f2.plr R2.2.2.2.2.1).2.1
  refine ⟨trV p x h u, N, K, ?_, fc, ?_, f2⟩
  · unfold f_X11_tries
    rw [r0_11, r0_9, e, bI_some, e1]; rfl
  · unfold f_X12_tries
    rw [lt_eq, show wI N 163 0 0 = th0 N from rfl, e2, bI_some, X12_bits_eq10 w (by omega) wqM_in, bI_some, wqM_cnt, show cnt (wq p x h u) 10 = wn p x h u from rfl]
    refine loopG (fun k (s : Nat × Int32) => s.1 ≤ 10 ∧ 1 ≤ k) (fun n (s : Nat × Int32) k => f_X12_tries_23 w n 163 (wqM p x h u) (nI (wn p x h u)) s.2 (nI s.1) (nI k) K) (tG p x h u) (fun s => some (s.2, K)) 31 ?_ ?_ 30 w 1 (wn p x h u, -1) (by omega) (by omega) ⟨hwn, by omega⟩ |>.trans ?_
    · intro n s _
      rw [f_X12_tries_23, if_pos (by decide)]
    · rintro n s k hk ⟨s10, k1⟩
      refine ⟨?_, tG_le k s10, by omega⟩
      rw [f_X12_tries_23, if_neg (fun q => by have := (nI_ltI (a := 30) (by omega) (by omega)).mp q; omega)]
      refine loopG (fun _ (t : Nat × Int32) => t.1 ≤ 10) (fun n2 (t : Nat × Int32) d => f_X12_tries_33 w (f_X12_tries_23 w n) n2 163 (wqM p x h u) (nI (wn p x h u)) t.2 (nI t.1) (nI k) (nI d) K) (tg p x h u k) (fun t => f_X12_tries_23 w n 163 (wqM p x h u) (nI (wn p x h u)) t.2 (nI t.1) (nI (k + 1)) K) (pD p) ?_ ?_ (pD p) w 0 s (by omega) (by omega) s10
      · intro n2 t _
        rw [f_X12_tries_33, X12_doors_eq, bI_some, hDK, if_pos (Int32.le_refl _), nI_1]
      · intro n2 t d hdd t10
        refine ⟨?_, tg_le k d t10⟩
        have tcl := tc_le (p := p) (x := x) (h := h) (u := u) k d
        have tml := tm_le (p := p) (x := x) (h := h) (u := u) k d
        rw [f_X12_tries_33, X12_doors_eq, bI_some, hDK, if_neg (fun h => by have := (nI_leI (by omega) (by omega)).mp h; omega)]
        have key := loopX (fun m (c : Nat) => c = tc p x h u k d m) (fun n3 (c : Nat) m => f_X12_tries_48 w (f_X12_tries_23 w n) (f_X12_tries_33 w (f_X12_tries_23 w n) n2) n3 163 (wqM p x h u) (nI (wn p x h u)) t.2 (nI t.1) (nI k) (nI d) (nI c) (nI m) K) 10 (fun r => r = f_X12_tries_98 w (f_X12_tries_23 w n) (f_X12_tries_33 w (f_X12_tries_23 w n) n2) 163 (wqM p x h u) (nI (wn p x h u)) t.2 (nI t.1) (nI k) (nI d) (nI (tc p x h u k d 10)) K) (by
          rintro n3 c rfl
          rw [f_X12_tries_48, if_pos (by decide)]) (by
          rintro n3 c m hm rfl
          refine Or.inr ⟨tc p x h u k d (m + 1), ?_, rfl⟩
          rw [f_X12_tries_48, if_neg (fun h => by have := (nI_leI (a := 10) (by omega) (by omega)).mp h; omega), nI_1]
          show _ = f_X12_tries_48 w _ _ n3 163 (wqM p x h u) (nI (wn p x h u)) t.2 (nI t.1) (nI k) (nI d) (nI (tc p x h u k d m + (if (wq p x h u m && stk (fm p x m h k) d) = true then 1 else 0))) (nI (m + 1)) K
          cases eq : wq p x h u m
          · rw [if_neg (fun e => by rw [bit_1, bitq w hm, eq] at e; cases e), lt_eq, Int32.add_zero]
            rfl
          · rw [if_pos ((bit_1 _ _).mpr ((bitq w hm).trans eq)), show (31 : Int32) * nI m + nI k = nI (31 * m + k) by rw [nx_lit, pk_mul, nI_add], r163_30, l184, chk_nI _ (by omega) (by omega), nI_clamp (by omega), tb m k hm k1 (by omega), bit_b, bit_bt _ (by omega), bt_stk hp (by omega), decide_eq_true hdd, Bool.true_and, lt_eq]
            cases stk (fm p x m h k) d
            · rw [show b2i false = 0 from rfl, Int32.add_zero]; rfl
            · rw [show b2i true = 1 from rfl, nI_1]; rfl) 10 w 0 0 (by omega) (by omega) rfl
        refine key.trans ?_
        unfold f_X12_tries_98 f_X12_tries_116 f_X12_tries_137
        rw [pk_sub tcl, show (8 : Int32) * nI k + nI d = nI (8 * k + d) by rw [nx_lit, pk_mul, nI_add], nI_1]
        have em : ∀ (f : Int32 → Option (Int32 × mM)), (if nI (tc p x h u k d 10) ≤ nI (wn p x h u - tc p x h u k d 10) then f (nI (wn p x h u - tc p x h u k d 10)) else f (nI (tc p x h u k d 10))) = f (nI (tm p x h u k d)) := fun f => by
          unfold tm
          by_cases q : tc p x h u k d 10 ≤ wn p x h u - tc p x h u k d 10
          · rw [if_pos ((nI_leI (by omega) (by omega)).mpr q), if_pos q]
          · rw [if_neg (fun e => q ((nI_leI (by omega) (by omega)).mp e)), if_neg q]
        refine (em (fun y => if nI t.1 ≤ y then (if nI t.1 ≤ y then f_X12_tries_33 w (f_X12_tries_23 w n) n2 163 (wqM p x h u) (nI (wn p x h u)) t.2 (nI t.1) (nI k) (nI (d + 1)) K else f_X12_tries_33 w (f_X12_tries_23 w n) n2 163 (wqM p x h u) (nI (wn p x h u)) t.2 y (nI k) (nI (d + 1)) K) else (if nI t.1 ≤ y then f_X12_tries_33 w (f_X12_tries_23 w n) n2 163 (wqM p x h u) (nI (wn p x h u)) (nI (8 * k + d)) (nI t.1) (nI k) (nI (d + 1)) K else f_X12_tries_33 w (f_X12_tries_23 w n) n2 163 (wqM p x h u) (nI (wn p x h u)) (nI (8 * k + d)) y (nI k) (nI (d + 1)) K))).trans ?_
        unfold tg
        by_cases q : t.1 ≤ tm p x h u k d
        · rw [if_pos ((nI_leI (by omega) (by omega)).mpr q), if_pos ((nI_leI (by omega) (by omega)).mpr q), if_pos q]
        · rw [if_neg (fun e => q ((nI_leI (by omega) (by omega)).mp e)), if_neg (fun e => q ((nI_leI (by omega) (by omega)).mp e)), if_neg q]
    · rfl
end TRIES
