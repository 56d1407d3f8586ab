/-! ===== the house read: the law's line; any line; all lines ===== -/
section LINES
variable {t : TX} {p : HP} {E : NE} {s : DS} {M N K : mM} {L : Lw}
theorem ts_rt (w : Nat) (hw : 1100 ≤ w) (ht : okT t) {i : Nat} (aC : AtC M t i) : (bI (f_X10_takeSign w 25 59 M) fun q5 M4 => (if q5 = 0 then rtB 0 M4 else rtB 1 M4)) = bI (f_X10_takeSign w 25 59 M) fun q M1 => rtB q M1 := by
  obtain ⟨N, n1, n2⟩ := X10_takeSign_eq w hw ht aC (c := 59) (by omega)
  rcases n2 with ⟨-, y2, -⟩ | ⟨-, y2, -⟩
  · rw [show f_X10_takeSign w 25 59 M = _ from y2, bI_some, bI_some, if_neg (by decide)]
  · rw [show f_X10_takeSign w 25 59 M = _ from y2, bI_some, bI_some, if_pos rfl]
theorem DC.law {k : Nat} {dd : Nat → Nat} {L' : Lw} (dC : DC M (p, ((k, dd), L), E)) (f : FrL M N) (hL : LwC N 22 L') : DC N (p, ((k, dd), L'), E) := by
  obtain ⟨h1, ⟨h2, h3, h4⟩, h5⟩ := dC
  refine ⟨h1.fro fun c h1 h2 => f.1 c (by omega) (by omega) (by omega), ⟨?_, fun j hj => ?_, hL⟩, fun j hj => ?_⟩
  · rw [f.1 13 (by decide) (by decide) (by decide)]; exact h2
  · rw [f.1 21 (by decide) (by decide) (by decide)]; exact h3 j hj
  · rw [f.2.1 (13 + 1) _ (Or.inl (by decide)), f.2.1 (13 + 2) _ (Or.inl (by decide))]; exact h5 j hj
theorem bV_id (x : Option mM) : (bV x fun M => some M) = x := by cases x <;> rfl
theorem bV_as {α : Type} (x : Option mM) (f : mM → Option mM) (g : mM → Option α) : bV (bV x f) g = bV x fun M => bV (f M) g := by cases x <;> rfl
theorem ln_swell (w : Nat) (hw : 1100 ≤ w) (ht : okT t) {m i : Nat} (aC : AtC M t i) (aR : AtR K t m i) (dC : DC M s) (dR : DR K s) (ok : okD s) (he : isW t i 6 = true) : Lns t m M K i (f_X2_readSwells w 27 13 M) (bV (f_X12_readOnce w 163 K) fun M1 => f_X12_takeSign w 163 59 M1) := by
  obtain ⟨p, ⟨⟨k, dd⟩, ⟨l, L⟩⟩, E⟩ := s
  have hk : tkK t (psn t i) ≠ 0 := isW_k he
  have hl9 : l ≤ 999 := ok.2.2.2.2.2.1
  have c3 : M.1 22 2 = nI l := dC.2.1.2.2.1
  have d20 : K.1 163 20 = nI ((if k = 0 then 0 else 1) + (if l = 0 then 0 else 2)) := dR.2.1.2.2.2.2.2.2.2
  unfold f_X2_readSwells f_X12_readOnce
  rw [r13_12, r27_0, c3, once_wd w hw aR (k := 1) (by omega) he, bI_some, if_pos (show (0 : Int32) ≤ nI 1 by decide), d20]
  by_cases k0 : l = 0
  · subst k0
    have hl4 : (if k = 0 then 0 else 1) < 4 := by split <;> omega
    have hl2 : ¬ 2 ≤ (if k = 0 then 0 else 1) := by split <;> omega
    rw [if_pos (show nI 0 ≤ 0 by decide), if_pos (show (0 : Nat) = 0 from rfl), Nat.add_zero, if_neg (fun z => hl2 (((once_1 _ hl4).1).mp z))]
    obtain ⟨M1, m1, m2, m3⟩ := aC.adv w hw ht
    rw [m1, bV_some]
    have d13 : K.1 163 13 = nI 0 := dR.2.1.2.2.2.2.1
    unfold f_X12_readOnce_36
    rw [aR.2.2.2.1, if_pos (by decide), d20, if_pos (show (0 : Nat) = 0 from rfl), Nat.add_zero, (once_1 _ hl4).2, lt_eq, w163 _ 20, if_neg (show ¬ (7 : Nat) = 20 by decide), aR.2.2.1, nI_1, lt_eq, if_neg (show ¬ nI 1 = 0 by decide), r163_10, l169, show (64 : Int32) = nI 64 from rfl, chk_nI _ (by omega) (by omega), nI_clamp (show 64 < 2147483648 by omega), w163 _ 7 _ 13, if_neg (show ¬ (13 : Nat) = 7 by decide), w163 _ 20 _ 13, if_neg (show ¬ (13 : Nat) = 20 by decide), d13, lt_eq]
    generalize hK2 : wI (wI (wI K 163 20 (nI ((if k = 0 then 0 else 1) % 2 + 2))) 163 7 (nI (i + 1))) 169 64 (nI 0) = K2
    have q1 : ∀ c, c ≠ 163 → c ≠ 169 → K2.1 c = K.1 c := fun c h h2 => by rw [← hK2, rIc _ _ _ _ h2, rIc _ _ _ _ h, rIc _ _ _ _ h]
    have q2 : K2.2 = K.2 := by rw [← hK2]; rfl
    have q3 : ∀ j, K2.1 163 j = if j = 7 then nI (i + 1) else if j = 20 then nI ((if k = 0 then 0 else 1) % 2 + 2) else K.1 163 j := fun j => by rw [← hK2, rIc _ _ _ _ (by decide), w163, w163]
    have q9 : ∀ j, K2.1 169 j = if j = 64 then nI 0 else K.1 169 j := fun j => by rw [← hK2, rI, if_pos rfl, rIc _ _ _ _ (by decide), rIc _ _ _ _ (by decide)]
    have aR2 : AtR K2 t m (i + 1) := by
      have hn := aR.nx hk
      obtain ⟨a1, a2, a3, a4, a5⟩ := aR
      exact ⟨a1.fr (q1 165 (by decide) (by decide)) (q1 166 (by decide) (by decide)) (by rw [q2]), hn, by rw [q3, if_pos rfl], by rw [q3, if_neg (by decide), if_neg (by decide)]; exact a4, fun k hk => by rw [q2]; exact a5 k hk⟩
    have fK2 : FrE K K2 := ⟨fun c h1 h2 _ _ _ => q1 c h1 h2, fun c _ => by rw [q2], fun j h1 _ _ _ h5 => by rw [q3, if_neg h1, if_neg h5], fun j hj => by rw [q9, if_neg (by omega)], fun j _ => ⟨by rw [q1 170 (by decide) (by decide)], by rw [q1 171 (by decide) (by decide)]⟩⟩
    have dC1 := dC.fb m2.b
    have lC : LwC M1 22 (0, L) := dC1.2.1.2.2
    have lR : LwE K2 (0, L) := ⟨by rw [q3, if_neg (by decide), if_neg (by decide)]; exact d13, fun j hj => absurd hj (Nat.not_lt_zero _)⟩
    have hm := aR.1.1
    obtain ⟨N, K3, fN, fK3, hJ⟩ := jlaw (L := (0, L)) w hw ht hm (i + 1) m3 lC aR2 lR (by omega)
    rcases hJ with ⟨i', L', j1, j2, j3, j4, j5, j6, j7, j8, j9, j10⟩ | ⟨e, n, j, j1, j2, j3, j4, j5, j6, j7⟩
    · have j8 : 0 < L'.1 := j8
      have j9 : L'.1 + (i + 1) ≤ 0 + i' := j9
      have him := j5.2.1
      have hL9 : L'.1 ≤ 999 := by omega
      rw [j1, j2, bI_some, bV_some, if_neg (by decide), ts_rt w hw ht j3, show f_X12_emit w 163 0 0 K3 = _ from X12_emit_gen w j6.1 (by omega) 0 0, bV_some, bV_some]
      have fE := emit_z (M := K3) L'.1 (nI 0) (nI 0) (nI (L'.1 + 1))
      generalize hK4 : wI (wI (wI K3 170 (1100 + L'.1) (nI 0)) 171 (1100 + L'.1) (nI 0)) 163 13 (nI (L'.1 + 1)) = K4 at fE ⊢
      have u9 : K4.1 169 = K2.1 169 := by rw [fE.1 169 (by decide) (by decide) (by decide), fK3.1 169 (by decide) (by decide) (by decide)]
      have u2 : K4.2 = K.2 := by rw [fE.2.1, fK3.2.1, q2]
      have u3 : ∀ j, j ≠ 7 → j ≠ 8 → j ≠ 13 → K4.1 163 j = K2.1 163 j := fun j h1 h2 h3 => by rw [fE.2.2.1 j h1 h2 h3, fK3.2.2.1 j h1 h2 h3]
      have u13 : K4.1 163 13 = nI (L'.1 + 1) := by rw [← hK4, w163, if_pos rfl]
      have u7 : ∀ j, K4.1 170 j = if j = 1100 + L'.1 then nI 0 else K3.1 170 j := fun j => by rw [← hK4, rIc _ _ _ _ (by decide), rIc _ _ _ _ (by decide), rI, if_pos rfl]
      have u8 : ∀ j, K4.1 171 j = if j = 1100 + L'.1 then nI 0 else K3.1 171 j := fun j => by rw [← hK4, rIc _ _ _ _ (by decide), rI, if_pos rfl, rIc _ _ _ _ (by decide)]
      have aR4 : AtR K4 t m i' := by
        obtain ⟨a1, a2, a3, a4, a5⟩ := j5
        exact ⟨a1.fr (fE.1 165 (by decide) (by decide) (by decide)) (fE.1 166 (by decide) (by decide) (by decide)) (by rw [fE.2.1]), a2, by rw [← hK4, w163, if_neg (by decide), rIc _ _ _ _ (by decide), rIc _ _ _ _ (by decide)]; exact a3, by rw [← hK4, w163, if_neg (by decide), rIc _ _ _ _ (by decide), rIc _ _ _ _ (by decide)]; exact a4, fun k hk => by rw [fE.2.1]; exact a5 k hk⟩
      have dR4 : DR K4 (p, ((k, dd), L'), E) := by
        obtain ⟨d1, ⟨x1, x2, x3, x4, x5, x6, x7, x8⟩, y1, y2⟩ := dR
        have p60 : PlR K4 60 p := by
          have hPw := PlR.w169 d1 ok.1 (j := 64) (by omega) (nI 0)
          refine hPw.fr ?_
          rw [u9]
          funext j
          rw [q9, rI, if_pos rfl]
        refine ⟨p60, ⟨?_, fun z => ?_, fun j hj => ?_, ?_, ?_, fun z => ?_, fun j hj => ?_, ?_⟩, ?_, fun j hj => ?_⟩
        · rw [u9, q9, if_neg (by decide)]; exact x1
        · rw [u9, q9, if_neg (by decide)]; exact x2 z
        · rw [u9, q9, if_neg (by omega)]; exact x3 j hj
        · rw [u9, q9, if_pos rfl]
          show nI 0 = if L'.1 = 0 then -1 else 0
          rw [if_neg (by omega)]; rfl
        · rw [u13]
          show _ = nI (lwN L')
          unfold lwN
          rw [if_neg (by omega)]
        · show K4.1 170 (1100 + L'.1) = 0
          rw [u7, if_pos rfl]; rfl
        · have hj : j < L'.1 := hj
          show K4.1 170 (1100 + j) = nI (L'.2.1 j) ∧ K4.1 171 (1100 + j) = nI (L'.2.2 j)
          rw [u7, u8, if_neg (by omega), if_neg (by omega)]; exact j6.2 j hj
        · rw [u3 20 (by decide) (by decide) (by decide), q3, if_neg (by decide), if_pos rfl]
          show nI ((if k = 0 then 0 else 1) % 2 + 2) = nI ((if k = 0 then 0 else 1) + (if L'.1 = 0 then 0 else 2))
          rw [if_neg (show ¬ L'.1 = 0 by omega)]
          congr 1
          split <;> rfl
        · rw [u3 19 (by decide) (by decide) (by decide), q3, if_neg (by decide), if_neg (by decide)]; exact y1
        · rw [u2, fE.1 175 (by decide) (by decide) (by decide), fK3.1 175 (by decide) (by decide) (by decide), q1 175 (by decide) (by decide)]; exact y2 j hj
      have ok4 : okD (p, ((k, dd), L'), E) := by
        obtain ⟨o1, o2, o3, o4, o5, -⟩ := ok
        exact ⟨o1, o2, o3, o4, o5, hL9, fun _ => j10⟩
      exact lend w hw ht (m2.b.d.tr fN.d) ((fK2.tr fK3.e).tr fE.e) j3 aR4 (dC1.law fN j4) dR4 ok4 (by omega)
    · have j7 : n + (i + 1) ≤ 0 + j := j7
      obtain ⟨K4, y1, y2, y3, -⟩ := X12_emit_er w j5 (by omega) 0 0 j4
      rw [j1, j2, bI_some, bV_some, if_pos rfl, show f_X12_emit w 163 0 0 K3 = _ from y1, bV_some, bV_some]
      exact lerr w (m2.b.d.tr fN.d) ((fK2.tr fK3.e).tr y2.e) j3 y3 rfl
  · have hl4 : (if k = 0 then 0 else 1) + 2 < 4 := by split <;> omega
    obtain ⟨N, n1, n2, n3⟩ := X10_refuse_eq w (c := 3) aC
    obtain ⟨K1, y1, y2, y3⟩ := X12_wrong_eq w ht (c := 3) aR (by omega) (by omega)
    unfold f_X12_readOnce_36
    rw [if_neg k0, if_pos (((once_1 _ hl4).1).mpr (by omega)), show f_X12_wrong w 163 3 K = _ from y1, bV_some, if_neg y3.nle, bV_some]
    refine lerr w n2.d y2.e n3 y3 ?_
    rw [if_neg (show ¬ nI l ≤ 0 from fun e => by have := (nI_leI (b := 0) (by omega) (by omega)).mp e; omega), show f_X10_refuse w 25 3 M = _ from n1, bI_some]; rfl
theorem Lns.rt {m i0 : Nat} {M0 K0 : mM} {rc : Option (Int32 × mM)} {rr : Option mM} (h : Lns t m M0 K0 i0 rc rr) : Lns t m M0 K0 i0 (bI rc fun q M => rtB q M) rr := by
  obtain ⟨N, K, f, g, h⟩ := h
  rcases h with ⟨i, s, h1, h2⟩ | ⟨e, h1, h2⟩
  · exact ⟨N, K, f, g, Or.inl ⟨i, s, by rw [h1]; rfl, h2⟩⟩
  · exact ⟨N, K, f, g, Or.inr ⟨e, by rw [h1]; rfl, h2⟩⟩
theorem ln_line (w : Nat) (hw : 1100 ≤ w) (ht : okT t) {m i : Nat} (aC : AtC M t i) (aR : AtR K t m i) (dC : DC M s) (dR : DR K s) (ok : okD s) (hk : tkK t (psn t i) ≠ 0) : Lns t m M K i (f_X2_readLine w 27 13 M) (bV (f_X12_readLine w 163 K) fun M1 => f_X12_takeSign w 163 59 M1) := by
  unfold f_X2_readLine f_X12_readLine
  rw [r27_0, X10_isWord_eq w aC (k := 0) (by omega) (show (1919905645 : Int64) = _ by decide +kernel), bI_some, show f_X12_isWord w 163 0 K = _ from X12_isWord_eq w aR (k := 0) (by omega), bI_some]
  cases e0 : isW t i 0
  · rw [if_pos (show b2i false = 0 from rfl), if_pos (show b2i false = 0 from rfl), X10_isWord_eq w aC (k := 1) (by omega) (show (1685024626 : Int64) = _ by decide +kernel), bI_some, show f_X12_isWord w 163 1 K = _ from X12_isWord_eq w aR (k := 1) (by omega), bI_some]
    cases e1 : isW t i 1
    · rw [if_pos (show b2i false = 0 from rfl), if_pos (show b2i false = 0 from rfl), X10_isWord_eq w aC (k := 3) (by omega) (show (123581014175598 : Int64) = _ by decide +kernel), bI_some, show f_X12_isWord w 163 3 K = _ from X12_isWord_eq w aR (k := 3) (by omega), bI_some]
      cases e3 : isW t i 3
      · rw [if_pos (show b2i false = 0 from rfl), if_pos (show b2i false = 0 from rfl), X10_isWord_eq w aC (k := 5) (by omega) (show (1684106608 : Int64) = _ by decide +kernel), bI_some, bV_id]
        cases e5 : isW t i 5
        · rw [if_pos (show b2i false = 0 from rfl), X10_isWord_eq w aC (k := 6) (by omega) (show (126956639906931 : Int64) = _ by decide +kernel), bI_some]
          cases e6 : isW t i 6
          · rw [if_pos (show b2i false = 0 from rfl)]
            obtain ⟨N, n1, n2, n3⟩ := X10_refuse_eq w (c := 1) aC
            obtain ⟨K1, y1, y2, y3⟩ := X12_wrong_eq w ht (c := 1) aR (by omega) (by omega)
            obtain ⟨v, h1, h2⟩ := X12_wordHere_eq w hw aR (a := 5) (n := 2) (by omega)
            have hv : v = -1 := by
              rcases h2 with ⟨h3, -⟩ | ⟨k', h3, h4, h5⟩
              · exact h3
              · have : k' = 0 ∨ k' = 1 := by omega
                rcases this with rfl | rfl
                · rw [e5] at h5; cases h5
                · rw [e6] at h5; cases h5
            subst hv
            unfold f_X12_readOnce f_X12_readOnce_36
            rw [show f_X12_wordHere w 163 5 2 K = _ from h1, bI_some, if_neg (by decide), show f_X12_wrong w 163 1 K = _ from y1, bV_some, if_neg y3.nle, bV_some]
            refine lerr w n2.d y2.e n3 y3 ?_
            rw [show f_X10_refuse w 25 1 M = _ from n1, bI_some]; rfl
          · rw [if_neg (show ¬ b2i true = 0 by decide)]
            exact (ln_swell w hw ht aC aR dC dR ok e6).rt
        · rw [if_neg (show ¬ b2i true = 0 by decide)]
          exact (ln_damp w hw ht aC aR dC dR ok e5).rt
      · rw [if_neg (show ¬ b2i true = 0 by decide), if_neg (show ¬ b2i true = 0 by decide)]
        exact (ln_pers w hw ht aC aR dC dR ok hk).rt
    · rw [if_neg (show ¬ b2i true = 0 by decide), if_neg (show ¬ b2i true = 0 by decide), bV_id]
      exact (ln_door w hw ht aC aR dC dR ok hk).rt
  · rw [if_neg (show ¬ b2i true = 0 by decide), if_neg (show ¬ b2i true = 0 by decide), bV_id]
    exact (ln_room w hw ht aC aR dC dR ok hk).rt
/-- what both readings of a house come to -/
def Hsr (w : Nat) (M0 K0 : mM) (rc rr : Option (Int32 × mM)) : Prop := ∃ N K', FrD M0 N ∧ FrE K0 K' ∧ ((∃ s', rc = some (0, N) ∧ rr = f_X12_house_62 w 163 K' ∧ K'.1 163 8 = 0 ∧ DC N s' ∧ DR K' s' ∧ okD s') ∨ ∃ e, rc = some (nI e, N) ∧ rr = some (nI e, K') ∧ 0 < e ∧ e < 100000)
theorem hs_end (w : Nat) {M0 K0 : mM} {m i n n' c : Nat} (fM : FrD M0 M) (fK : FrE K0 K) (aC : AtC M t i) (aR : AtR K t m i) (dC : DC M s) (dR : DR K s) (ok : okD s) (hk : tkK t (psn t i) = 0) : Hsr w M0 K0 (f_X2_read_13 w (n + 1) 27 13 (nI c) M) (f_X12_house_30 w (n' + 1) 163 K) := by
  have hm := aR.1.1
  have him := aR.2.1
  refine ⟨M, K, fM, fK, Or.inl ⟨s, ?_, ?_, aR.2.2.2.1, dC, dR, ok⟩⟩
  · rw [f_X2_read_13, r27_0, aC.2.2.1, hk, if_pos (show nI 0 = 0 from rfl), ite_self]
  · rw [f_X12_house_30, aR.2.2.2.1, if_pos rfl, aR.2.2.1, r163_4, l165, chk_nI _ (by omega) (by omega), nI_clamp (by omega), (aR.1.2.2.2 i him).1, hk, if_pos (show nI 0 = 0 from rfl)]
theorem hs_loop (w : Nat) (hw : 1100 ≤ w) (ht : okT t) {M0 K0 : mM} {m : Nat} : ∀ (r i n n' c : Nat) (s : DS) (M K : mM), m - i ≤ r → r < n → r + 1 < n' → c ≤ i → FrD M0 M → FrE K0 K → AtC M t i → AtR K t m i → DC M s → DR K s → okD s → Hsr w M0 K0 (f_X2_read_13 w n 27 13 (nI c) M) (f_X12_house_30 w n' 163 K) := by
  intro r
  induction r with
  | zero =>
    intro i n n' c s M K hr hn hn' hc fM fK aC aR dC dR ok
    obtain ⟨n, rfl⟩ : ∃ z, n = z + 1 := ⟨n - 1, by omega⟩
    obtain ⟨n', rfl⟩ : ∃ z, n' = z + 1 := ⟨n' - 1, by omega⟩
    refine hs_end w fM fK aC aR dC dR ok ?_
    rcases Nat.eq_zero_or_pos (tkK t (psn t i)) with q | q
    · exact q
    · have := aR.nx (show tkK t (psn t i) ≠ 0 by omega)
      omega
  | succ r ih =>
    intro i n n' c s M K hr hn hn' hc fM fK aC aR dC dR ok
    obtain ⟨n, rfl⟩ : ∃ z, n = z + 1 := ⟨n - 1, by omega⟩
    obtain ⟨n', rfl⟩ : ∃ z, n' = z + 1 + 1 := ⟨n' - 2, by omega⟩
    by_cases hk : tkK t (psn t i) = 0
    · exact hs_end w fM fK aC aR dC dR ok hk
    · have hm := aR.1.1
      have him := aR.2.1
      have hnx := aR.nx hk
      have hle := kind_lt (t := t) (psn t i)
      have kn : ¬ nI (tkK t (psn t i)) = 0 := fun e => hk ((nI_eq (b := 0) (by omega) (by omega)).mp e)
      rw [f_X2_read_13, if_neg (show ¬ (1000 : Int32) ≤ nI c from fun e => by have := (nI_leI (a := 1000) (by omega) (by omega)).mp e; omega), r27_0, aC.2.2.1, if_neg kn, f_X12_house_30, aR.2.2.2.1, if_pos rfl, aR.2.2.1, r163_4, l165, chk_nI _ (by omega) (by omega), nI_clamp (by omega), (aR.1.2.2.2 i him).1, if_neg kn, ← bV_as]
      obtain ⟨N, K1, f, g, h⟩ := ln_line w hw ht aC aR dC dR ok hk
      rcases h with ⟨i', s', h1, h2, h3, h4, h5, h6, h7, h8⟩ | ⟨e, h1, h2, h3, h4⟩
      · rw [h1, h2, bI_some, bV_some, if_neg (by decide), nI_1]
        exact ih i' n (n' + 1) (c + 1) s' N K1 (by omega) (by omega) (by omega) (by omega) (fM.tr f) (fK.tr g) h4 h5 h6 h7 h8
      · rw [h1, h2, bI_some, bV_some, if_pos rfl]
        refine ⟨N, K1, fM.tr f, fK.tr g, Or.inr ⟨e, ?_, ?_, h4.2⟩⟩
        · rw [show N.1 25 6 = nI e from h3]
        · unfold f_X12_house_30 f_X12_house_62
          rw [if_neg h4.ne, if_neg h4.nle, h4.1]
end LINES
