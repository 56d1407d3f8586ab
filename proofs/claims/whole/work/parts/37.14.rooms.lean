/-! ===== the house read: rooms, persons ===== -/
section ROOMS
variable {t : TX} {p : HP} {E : NE} {s : DS} {M N K : mM}
theorem tRes_add {i : Nat} {l : List Nat} {c : Nat} (hc : 20 ≤ c) (hno : nmd E l = none) : tRes t i (nAdd E l c) 0 0 = tRes t i E 0 0 := by
  unfold tRes
  cases isN t i
  · rfl
  · rw [if_pos rfl, if_pos rfl, nmd_add]
    cases z : nmd E (tkW t (psn t i)) with
    | some c' => rfl
    | none =>
      by_cases q : l = tkW t (psn t i)
      · show (match (if l = tkW t (psn t i) then some c else none) with
          | some c => if 0 ≤ c ∧ c ≤ 0 + 6 then (if bit 0 (c - 0) then Sum.inl 3 else Sum.inr (c - 0)) else Sum.inl 2
          | none => Sum.inl 2) = _
        rw [if_pos q]
        show (if 0 ≤ c ∧ c ≤ 0 + 6 then (if bit 0 (c - 0) then Sum.inl 3 else Sum.inr (c - 0)) else Sum.inl 2) = _
        rw [if_neg (by omega)]
      · show (match (if l = tkW t (psn t i) then some c else none) with
          | some c => if 0 ≤ c ∧ c ≤ 0 + 6 then (if bit 0 (c - 0) then Sum.inl 3 else Sum.inr (c - 0)) else Sum.inl 2
          | none => Sum.inl 2) = _
        rw [if_neg q]
theorem NmC.room {o : Nat} (h : NmC M o E) {r : Nat} (hE : okE p E) (hr : r = pR p) (hp : pR p < 20) (l : List Nat) (e1 : ∀ j, j ≠ r → N.2 (o + 1) j = M.2 (o + 1) j) (e2 : N.2 (o + 2) = M.2 (o + 2)) (e3 : N.2 (o + 1) r = cvW l) : NmC N o (nAdd E l r) := by
  intro j hj
  have hj : j < E.1 + 1 := hj
  show ((if j = E.1 then r else E.2.2 j) < 20 → N.2 (o + 1) (if j = E.1 then r else E.2.2 j) = cvW (if j = E.1 then l else E.2.1 j)) ∧ (20 ≤ (if j = E.1 then r else E.2.2 j) → N.2 (o + 2) ((if j = E.1 then r else E.2.2 j) - 20) = cvW (if j = E.1 then l else E.2.1 j))
  by_cases q : j = E.1
  · rw [if_pos q, if_pos q]
    exact ⟨fun _ => e3, fun x => by omega⟩
  · rw [if_neg q, if_neg q, e2]
    have := (hE.2.1 j (by omega)).2
    exact ⟨fun x => by rw [e1 _ (by omega)]; exact (h j (by omega)).1 x, (h j (by omega)).2⟩
theorem NmC.pers {o : Nat} (h : NmC M o E) {r : Nat} (hE : okE p E) (hr : r = pP p) (l : List Nat) (e1 : ∀ j, j ≠ r → N.2 (o + 2) j = M.2 (o + 2) j) (e2 : N.2 (o + 1) = M.2 (o + 1)) (e3 : N.2 (o + 2) r = cvW l) (hp : pR p < 20) : NmC N o (nAdd E l (20 + r)) := by
  intro j hj
  have hj : j < E.1 + 1 := hj
  show ((if j = E.1 then 20 + r else E.2.2 j) < 20 → N.2 (o + 1) (if j = E.1 then 20 + r else E.2.2 j) = cvW (if j = E.1 then l else E.2.1 j)) ∧ (20 ≤ (if j = E.1 then 20 + r else E.2.2 j) → N.2 (o + 2) ((if j = E.1 then 20 + r else E.2.2 j) - 20) = cvW (if j = E.1 then l else E.2.1 j))
  by_cases q : j = E.1
  · rw [if_pos q, if_pos q, show 20 + r - 20 = r by omega]
    exact ⟨fun x => by omega, fun _ => e3⟩
  · rw [if_neg q, if_neg q, e2]
    have := (hE.2.1 j (by omega)).2
    exact ⟨(h j (by omega)).1, fun x => by rw [e1 _ (by omega)]; exact (h j (by omega)).2 x⟩
theorem ln_room (w : Nat) (hw : 1100 ≤ w) (ht : okT t) {m i : Nat} (aC : AtC M t i) (aR : AtR K t m i) (dC : DC M s) (dR : DR K s) (ok : okD s) (hk : tkK t (psn t i) ≠ 0) : Lns t m M K i (f_X2_readRoom w 27 13 M) (bV (f_X12_readName w 163 0 7 0 K) fun M1 => f_X12_takeSign w 163 59 M1) := by
  obtain ⟨p, x, E⟩ := s
  obtain ⟨o1, o2, o3, o4⟩ := ok
  have o1 : okP p := o1
  have o2 : okE p E := o2
  have o3 : E.1 = pR p + pP p := o3
  have hp1 := o1.1
  have hp2 := o1.2.2.1
  obtain ⟨c1, c2, c3⟩ := dC
  obtain ⟨d1, d2, d3⟩ := dR
  have c3 : NmC M 13 E := c3
  have c10 : M.1 13 0 = nI (pR p) := c1.1
  obtain ⟨K1, k1, k2⟩ := X12_readName_eq w hw ht o1 aR hk o2 o3 d3 (x := 0) (base := 0) (lim := 7) (cnt := pR p) (Or.inl ⟨rfl, rfl, rfl, rfl⟩) d1.1
  rw [show f_X12_readName w 163 0 7 0 K = _ from k1, bV_some]
  unfold f_X2_readRoom
  rw [r27_0, c10]
  rcases k2 with ⟨q, a, b⟩ | ⟨q, a, b, d⟩ | ⟨q, a, b, d, e, f, g, g2⟩
  · obtain ⟨N, n1, n2, n3⟩ := X10_refuse_eq w (c := 5) aC
    refine lerr w n2.d a.e n3 b ?_
    rw [if_neg (show ¬ nI (pR p) < 7 from fun z => by have := (nI_ltI (b := 7) (by omega) (by omega)).mp z; omega), show f_X10_refuse w 25 5 M = _ from n1, bI_some]; rfl
  · obtain ⟨M1, m1, m2, m3⟩ := aC.adv w hw ht
    have dC1 : DC M1 (p, x, E) := DC.fb (s := (p, x, E)) ⟨c1, c2, c3⟩ m2.b
    rw [if_pos (show nI (pR p) < 7 from (nI_ltI (b := 7) (by omega) (by omega)).mpr q), m1, bV_some]
    rcases X2_isNewName_eq w hw o1 m3 dC1.1.1 dC1.1.2.2.1 o2 dC1.2.2 with ⟨z, -⟩ | ⟨N, -, n1, n2, n3⟩
    · exact absurd z a
    · refine lerr w (m2.b.d.tr n2.d) b.e n3 d ?_
      rw [n1, bI_some, if_pos rfl]; rfl
  · obtain ⟨M1, m1, m2, m3⟩ := aC.adv w hw ht
    have dC1 : DC M1 (p, x, E) := DC.fb (s := (p, x, E)) ⟨c1, c2, c3⟩ m2.b
    rw [if_pos (show nI (pR p) < 7 from (nI_ltI (b := 7) (by omega) (by omega)).mpr q), m1, bV_some]
    rcases X2_isNewName_eq w hw o1 m3 dC1.1.1 dC1.1.2.2.1 o2 dC1.2.2 with ⟨z1, z2, z3, z4⟩ | ⟨N, n0, -⟩
    · have hk1 := isN_1 z3
      have hv : M1.2 25 5 = cvW (tkW t (psn t (i + 1))) := m3.2.2.2.2.1 hk1
      generalize hl : tkW t (psn t (i + 1)) = l at hv d z4
      have hlw : okW l := by rw [← hl]; exact tkW_ok (psn_le (t := t) (i + 1)) hk1
      have hM2 : f_X6_addRoom w 13 (cvW l) M1 = some (wI (wL M1 14 (pR p) (cvW l)) 13 0 (nI (pR p + 1))) := by
        unfold f_X6_addRoom
        rw [show M1.1 13 0 = nI (pR p) from dC1.1.1, if_neg (show ¬ (7 : Int32) ≤ nI (pR p) from fun z => by have := (nI_leI (a := 7) (by omega) (by omega)).mp z; omega), r13_4, l14, chk_nI _ (by omega) (by omega), nI_clamp (by omega), lt_eq, wL_1, show M1.1 13 0 = nI (pR p) from dC1.1.1, nI_1, lt_eq]
      rw [z2, bI_some, if_neg (by decide), hv, hM2, bV_some]
      generalize hN : wI (wL M1 14 (pR p) (cvW l)) 13 0 (nI (pR p + 1)) = M2
      have r1 : ∀ c, c ≠ 13 → M2.1 c = M1.1 c := fun c hc => by rw [← hN, rIc _ _ _ _ hc, wL_1]
      have r13 : ∀ j, M2.1 13 j = if j = 0 then nI (pR p + 1) else M1.1 13 j := fun j => by rw [← hN, rI, if_pos rfl, wL_1]
      have r2 : ∀ c j, c ≠ 14 → M2.2 c j = M1.2 c j := fun c j hc => by rw [← hN, rI2, rLc _ _ _ _ hc]
      have r14 : ∀ j, M2.2 14 j = if j = pR p then cvW l else M1.2 14 j := fun j => by rw [← hN, rI2, rL, if_pos rfl]
      have a2 : AtC M2 t (i + 1) := m3.fb (r1 25 (by decide)) (r1 26 (by decide)) (r2 25 5 (by decide))
      obtain ⟨M3, v1, v2, v3⟩ := a2.adv w hw ht
      rw [v1, bV_some]
      have f12 : FrD M1 M2 := ⟨fun c h1 h2 => r1 c (by omega), fun c j h1 _ _ => r2 c j h1, by rw [r1 25 (by decide)]⟩
      have dC2 : DC M2 (rAdd p, x, nAdd E l (pR p)) := by
        obtain ⟨⟨e1, e2, e3, e4, e5⟩, ⟨f1, f2, f3⟩, g1⟩ := dC1
        refine ⟨⟨?_, ?_, ?_, fun dd hd => ?_, fun qq hq => ?_⟩, ⟨?_, fun j hj => ?_, ?_, fun j hj => ?_⟩, ?_⟩
        · rw [r13, if_pos rfl]; rfl
        · rw [r13, if_neg (by decide)]; exact e2
        · rw [r13, if_neg (by decide)]; exact e3
        · rw [r1 (13 + 4) (by decide), r1 (13 + 5) (by decide), r1 (13 + 6) (by decide), r1 (13 + 7) (by decide)]; exact e4 dd hd
        · rw [r1 (13 + 3) (by decide)]; exact e5 qq hq
        · rw [r13, if_neg (by decide)]; exact f1
        · rw [r1 21 (by decide)]; exact f2 j hj
        · rw [r1 22 (by decide)]; exact f3.1
        · rw [r1 (22 + 1) (by decide)]; exact f3.2 j hj
        · exact NmC.room (p := p) g1 o2 rfl (by omega) l (fun j hj => by rw [r14, if_neg hj]) (funext fun j => r2 _ j (by decide)) (by rw [r14, if_pos rfl])
      have dR2 : DR K1 (rAdd p, x, nAdd E l (pR p)) := by
        obtain ⟨e1, e2, e3, e4, e5⟩ := d1
        refine ⟨⟨?_, ?_, ?_, fun dd hd => ?_, fun qq hq => ?_⟩, ?_, by rw [show pR p = 0 + pR p by omega]; exact d⟩
        · rw [e, upd_at]; rfl
        · rw [e, upd_ne _ _ (by decide)]; exact e2
        · rw [e, upd_ne _ _ (by decide)]; exact e3
        · rw [e, upd_ne _ _ (by omega), upd_ne _ _ (by omega), upd_ne _ _ (by omega), upd_ne _ _ (by omega)]; exact e4 dd hd
        · rw [e, upd_ne _ _ (by omega)]; exact e5 qq hq
        · exact d2.fr (fun j h1 _ => by rw [e, upd_ne _ _ (by omega)]) (g2 13 (by decide) (by decide) (by decide)) (g2 20 (by decide) (by decide) (by decide)) (f 170 (by decide) (by decide) (by decide)) (f 171 (by decide) (by decide) (by decide))
      have fK : FrE K K1 := ⟨fun c h1 h2 _ _ h5 => f c h1 h2 h5, g, fun j h1 h2 _ h4 _ => g2 j h1 h2 h4, fun j hj => by rw [e, upd_ne _ _ (by omega)], fun j _ => ⟨by rw [f 170 (by decide) (by decide) (by decide)], by rw [f 171 (by decide) (by decide) (by decide)]⟩⟩
      have ok2 : okD (rAdd p, x, nAdd E l (pR p)) := by
        refine ⟨⟨by show pR p + 1 ≤ 7; omega, o1.2.1, o1.2.2.1, fun dd hd => ?_, fun qq hq => ?_⟩, okE_new o2 o3 hlw z4 (Or.inl ⟨rfl, rfl, rfl⟩) (by omega), by show E.1 + 1 = pR p + 1 + pP p; omega, o4⟩
        · have := o1.2.2.2.1 dd hd
          exact ⟨by show pA p dd < pR p + 1; omega, by show pB p dd < pR p + 1; omega, this.2.2.1, this.2.2.2.1, this.2.2.2.2⟩
        · have := o1.2.2.2.2 qq hq
          show pS p qq < pR p + 1
          omega
      exact lend w hw ht (m2.b.d.tr (f12.tr v2.b.d)) fK v3 b (dC2.fb v2.b) dR2 ok2 (by omega)
    · exact absurd a n0
/-- a person, read by the reference -/
def rfP (w : Nat) (K : mM) : Option mM := chk 62 (sL (rF 163 10)) (lt (97 + (K.1 (rF 163 10) (62 : Int32).toNatClampNeg)) fun y8 => bV (f_X12_readName w 163 2 5 20 K) fun M9 => bV (f_X12_takeWord w 163 4 M9) fun M10 => bI (f_X12_takeTold w 163 1 0 0 M10) fun q12 M11 => (if (M11.1 163 8) = 0 then chk y8 (sL (rF 163 10)) (lt (wI M11 (rF 163 10) y8.toNatClampNeg q12) fun M13 => (f_X12_readLine_88 w M13)) else (f_X12_readLine_88 w M11)))
theorem ln_pers (w : Nat) (hw : 1100 ≤ w) (ht : okT t) {m i : Nat} (aC : AtC M t i) (aR : AtR K t m i) (dC : DC M s) (dR : DR K s) (ok : okD s) (hk : tkK t (psn t i) ≠ 0) : Lns t m M K i (f_X2_readPerson w 27 13 M) (bV (rfP w K) fun M1 => f_X12_takeSign w 163 59 M1) := by
  obtain ⟨p, x, E⟩ := s
  obtain ⟨o1, o2, o3, o4⟩ := ok
  have o1 : okP p := o1
  have o2 : okE p E := o2
  have o3 : E.1 = pR p + pP p := o3
  have hp1 := o1.1
  have hp2 := o1.2.2.1
  obtain ⟨c1, c2, c3⟩ := dC
  obtain ⟨d1, d2, d3⟩ := dR
  have c3 : NmC M 13 E := c3
  have c10 : M.1 13 2 = nI (pP p) := c1.2.2.1
  have d10 : K.1 169 62 = nI (pP p) := d1.2.2.1
  obtain ⟨K1, k1, k2⟩ := X12_readName_eq w hw ht o1 aR hk o2 o3 d3 (x := 2) (base := 20) (lim := 5) (cnt := pP p) (Or.inr ⟨rfl, rfl, rfl, rfl⟩) d1.2.2.1
  have eR : rfP w K = bV (f_X12_takeWord w 163 4 K1) fun M10 => bI (f_X12_takeTold w 163 1 0 0 M10) fun q12 M11 => (if (M11.1 163 8) = 0 then some (wI M11 169 (97 + pP p) q12) else some M11) := by
    unfold rfP f_X12_readLine_88
    rw [r163_10, l169, show (62 : Int32) = nI 62 from rfl, chk_nI _ (by omega) (by omega), nI_clamp (by omega), d10, show (97 : Int32) + nI (pP p) = nI (97 + pP p) from nI_add 97 _, lt_eq, show f_X12_readName w 163 2 5 20 K = _ from k1, bV_some]
    simp only [chk_nI _ (show 97 + pP p < 120 by omega) (show 120 < 2147483648 by omega), nI_clamp (show 97 + pP p < 2147483648 by omega), lt_eq]
  rw [eR]
  have eErr : ∀ K1 e, ErR K1 e → ∃ K2, (bV (f_X12_takeWord w 163 4 K1) fun M10 => bI (f_X12_takeTold w 163 1 0 0 M10) fun q12 M11 => (if (M11.1 163 8) = 0 then some (wI M11 169 (97 + pP p) q12) else some M11)) = some K2 ∧ FrY K1 K2 ∧ ErR K2 e := fun K1 e h => by
    obtain ⟨K2, a1, a2, a3⟩ := X12_takeWord_er w 4 h
    obtain ⟨K3, b1, b2, b3⟩ := X12_takeTold_er w a3 1 0 0
    exact ⟨K3, by rw [a1, bV_some, b1, bI_some, if_neg b3.ne], a2.tr b2, b3⟩
  unfold f_X2_readPerson
  rw [r27_0, c10]
  rcases k2 with ⟨q, a, b⟩ | ⟨q, a, b, d⟩ | ⟨q, a, b, d, e, f, g, g2⟩
  · obtain ⟨N, n1, n2, n3⟩ := X10_refuse_eq w (c := 5) aC
    obtain ⟨K2, u1, u2, u3⟩ := eErr K1 _ b
    rw [u1, bV_some]
    refine lerr w n2.d (a.tr u2).e n3 u3 ?_
    rw [if_neg (show ¬ nI (pP p) < 5 from fun z => by have := (nI_ltI (b := 5) (by omega) (by omega)).mp z; omega), show f_X10_refuse w 25 5 M = _ from n1, bI_some]; rfl
  · obtain ⟨M1, m1, m2, m3⟩ := aC.adv w hw ht
    have dC1 : DC M1 (p, x, E) := DC.fb (s := (p, x, E)) ⟨c1, c2, c3⟩ m2.b
    obtain ⟨K2, u1, u2, u3⟩ := eErr K1 _ d
    rw [u1, bV_some]
    rw [if_pos (show nI (pP p) < 5 from (nI_ltI (b := 5) (by omega) (by omega)).mpr q), m1, bV_some]
    rcases X2_isNewName_eq w hw o1 m3 dC1.1.1 dC1.1.2.2.1 o2 dC1.2.2 with ⟨z, -⟩ | ⟨N, -, n1, n2, n3⟩
    · exact absurd z a
    · refine lerr w (m2.b.d.tr n2.d) (b.tr u2).e n3 u3 ?_
      rw [n1, bI_some, if_pos rfl]; rfl
  · obtain ⟨M1, m1, m2, m3⟩ := aC.adv w hw ht
    have dC1 : DC M1 (p, x, E) := DC.fb (s := (p, x, E)) ⟨c1, c2, c3⟩ m2.b
    rw [if_pos (show nI (pP p) < 5 from (nI_ltI (b := 5) (by omega) (by omega)).mpr q), m1, bV_some]
    rcases X2_isNewName_eq w hw o1 m3 dC1.1.1 dC1.1.2.2.1 o2 dC1.2.2 with ⟨z1, z2, z3, z4⟩ | ⟨N, n0, -⟩
    · have hk1 := isN_1 z3
      have hv : M1.2 25 5 = cvW (tkW t (psn t (i + 1))) := m3.2.2.2.2.1 hk1
      generalize hl : tkW t (psn t (i + 1)) = l at hv d z4
      have hlw : okW l := by rw [← hl]; exact tkW_ok (psn_le (t := t) (i + 1)) hk1
      have fK : FrE K K1 := ⟨fun c h1 h2 _ _ h5 => f c h1 h2 h5, g, fun j h1 h2 _ h4 _ => g2 j h1 h2 h4, fun j hj => by rw [e, upd_ne _ _ (by omega)], fun j _ => ⟨by rw [f 170 (by decide) (by decide) (by decide)], by rw [f 171 (by decide) (by decide) (by decide)]⟩⟩
      obtain ⟨M2, v1, v2, v3⟩ := m3.adv w hw ht
      have dC2 := dC1.fb v2.b
      rw [z2, bI_some, if_neg (by decide), hv, lt_eq, v1, bV_some]
      obtain ⟨M3, w1, w2⟩ := X10_takeWord_eq w hw ht v3 (k := 4) (by omega) (show (26990 : Int64) = _ by decide +kernel)
      obtain ⟨K2, x1, x2, x3⟩ := X12_takeWord_eq w ht b (k := 4) (by omega)
      rw [show f_X12_takeWord w 163 4 K1 = _ from x1, bV_some]
      have fM3 : FrD M M3 := m2.b.d.tr (v2.b.d.tr w1.d)
      rcases w2 with ⟨y1, y2, y3⟩ | ⟨y1, y2, y3⟩
      · rcases x3 with ⟨-, x3⟩ | ⟨y1', -⟩
        · have dC3 := dC2.fb w1
          have oE' : okE (sAdd p 0) (nAdd E l (20 + pP p)) := okE_new o2 o3 hlw z4 (Or.inr ⟨rfl, rfl, rfl⟩) (by omega)
          have d' : NmR K2 173 175 19 (nAdd E l (20 + pP p)) := ⟨by rw [x2.2.2 19 (by decide) (by decide)]; exact d.1, fun j hj => by rw [x2.2.1, x2.1 175 (by decide)]; exact d.2 j hj⟩
          obtain ⟨M4, r1, r2⟩ := X2_roomTold_eq w hw o1 y3 dC3.1.1 o2 dC3.2.2
          obtain ⟨K3, s1, s2⟩ := X12_takeTold_eq (p := sAdd p 0) w hw ht x3 oE' ⟨hp1, by show pP p + 1 ≤ 5; omega⟩ true d' (base := 0) (by omega) 0
          rw [tRes_add (by omega) z4] at s2
          rw [y2, bI_some, if_neg (by decide)]
          rcases r2 with ⟨v, r3, r4, r5, r6⟩ | ⟨c, r3, r4, r5⟩
          · rcases s2 with ⟨v', s3, s4, s5⟩ | ⟨c', s3, -⟩
            · rw [r3] at s3
              have := Sum.inr.inj s3
              subst this
              subst r6
              rw [show f_X12_takeTold w 163 1 0 0 K2 = _ from s4, bI_some, if_pos s5.2.2.2.1, bV_some, r5, bI_some, if_neg (m1_ne v (by omega))]
              have hM5 : f_X6_addPerson w 13 (cvW l) (nI v) M4 = some (wI (wI (wL M4 15 (pP p) (cvW l)) 16 (pP p) (nI v)) 13 2 (nI (pP p + 1))) := by
                unfold f_X6_addPerson
                rw [show M4.1 13 2 = nI (pP p) from dC3.1.2.2.1, if_neg (show ¬ (5 : Int32) ≤ nI (pP p) from fun z => by have := (nI_leI (a := 5) (by omega) (by omega)).mp z; omega), r13_5, r13_6, l15, l16, chk_nI _ (by omega) (by omega), nI_clamp (by omega), lt_eq, wL_1, show M4.1 13 2 = nI (pP p) from dC3.1.2.2.1, chk_nI _ (by omega) (by omega), nI_clamp (by omega), lt_eq, rIc _ _ _ _ (show 13 ≠ 16 by decide), wL_1, show M4.1 13 2 = nI (pP p) from dC3.1.2.2.1, nI_1, lt_eq]
              rw [hM5, bV_some]
              generalize hN : wI (wI (wL M4 15 (pP p) (cvW l)) 16 (pP p) (nI v)) 13 2 (nI (pP p + 1)) = M5
              have q1 : ∀ c, c ≠ 13 → c ≠ 16 → M5.1 c = M4.1 c := fun c hc hc2 => by rw [← hN, rIc _ _ _ _ hc, rIc _ _ _ _ hc2, wL_1]
              have q13 : ∀ j, M5.1 13 j = if j = 2 then nI (pP p + 1) else M4.1 13 j := fun j => by rw [← hN, rI, if_pos rfl, rIc _ _ _ _ (by decide), wL_1]
              have q16 : ∀ j, M5.1 16 j = if j = pP p then nI v else M4.1 16 j := fun j => by rw [← hN, rIc _ _ _ _ (by decide), rI, if_pos rfl, wL_1]
              have q2 : ∀ c j, c ≠ 15 → M5.2 c j = M4.2 c j := fun c j hc => by rw [← hN, rI2, rI2, rLc _ _ _ _ hc]
              have q15 : ∀ j, M5.2 15 j = if j = pP p then cvW l else M4.2 15 j := fun j => by rw [← hN, rI2, rI2, rL, if_pos rfl]
              have a5 : AtC M5 t (i + 2 + 1) := y3.fb (q1 25 (by decide) (by decide)) (q1 26 (by decide) (by decide)) (q2 25 5 (by decide))
              obtain ⟨M6, w1', w2', w3'⟩ := a5.adv w hw ht
              rw [w1', bV_some]
              have f45 : FrD M4 M5 := ⟨fun c h1 h2 => q1 c (by omega) (by omega), fun c j _ h1 _ => q2 c j h1, by rw [q1 25 (by decide) (by decide)]⟩
              have dC5 : DC M5 (sAdd p v, x, nAdd E l (20 + pP p)) := by
                obtain ⟨⟨e1, e2, e3, e4, e5⟩, ⟨f1, f2, f3⟩, g1⟩ := dC3
                refine ⟨⟨?_, ?_, ?_, fun dd hd => ?_, fun qq hq => ?_⟩, ⟨?_, fun j hj => ?_, ?_, fun j hj => ?_⟩, ?_⟩
                · rw [q13, if_neg (by decide)]; exact e1
                · rw [q13, if_neg (by decide)]; exact e2
                · rw [q13, if_pos rfl]; rfl
                · rw [q1 (13 + 4) (by decide) (by decide), q1 (13 + 5) (by decide) (by decide), q1 (13 + 6) (by decide) (by decide), q1 (13 + 7) (by decide) (by decide)]; exact e4 dd hd
                · have hq : qq < pP p + 1 := hq
                  show M5.1 16 qq = nI (if qq = pP p then v else pS p qq)
                  rw [q16]
                  by_cases z : qq = pP p
                  · rw [if_pos z, if_pos z]
                  · rw [if_neg z, if_neg z]; exact e5 qq (show qq < pP p by omega)
                · rw [q13, if_neg (by decide)]; exact f1
                · rw [q1 21 (by decide) (by decide)]; exact f2 j hj
                · rw [q1 22 (by decide) (by decide)]; exact f3.1
                · rw [q1 (22 + 1) (by decide) (by decide)]; exact f3.2 j hj
                · exact NmC.pers (p := p) g1 o2 rfl l (fun j hj => by rw [q15, if_neg hj]) (funext fun j => q2 _ j (by decide)) (by rw [q15, if_pos rfl]) (by omega)
              generalize hK4 : wI K3 169 (97 + pP p) (nI v) = K4
              have t1 : ∀ c, c ≠ 169 → K4.1 c = K3.1 c := fun c hc => by rw [← hK4, rIc _ _ _ _ hc]
              have t2 : K4.2 = K3.2 := by rw [← hK4, rI2]
              have t3 : ∀ j, K4.1 169 j = if j = 97 + pP p then nI v else if j = 62 then nI (pP p + 1) else K.1 169 j := fun j => by
                rw [← hK4, rI, if_pos rfl]
                by_cases z : j = 97 + pP p
                · rw [if_pos z, if_pos z]
                · rw [if_neg z, if_neg z, s1.1 169 (by decide), x2.1 169 (by decide), e]
                  by_cases z2 : j = 62
                  · rw [if_pos z2, z2, upd_at]
                  · rw [if_neg z2, upd_ne _ _ z2]
              have aR4 : AtR K4 t m (i + 2 + 1 + 1) := by
                obtain ⟨a1, a2, a3, a4, a5⟩ := s5
                exact ⟨a1.fr (t1 165 (by decide)) (t1 166 (by decide)) (by rw [t2]), a2, by rw [t1 163 (by decide)]; exact a3, by rw [t1 163 (by decide)]; exact a4, fun k hk => by rw [t2]; exact a5 k hk⟩
              have f14 : FrY K1 K3 := x2.tr s1
              have dR4 : DR K4 (sAdd p v, x, nAdd E l (20 + pP p)) := by
                obtain ⟨e1, e2, e3, e4, e5⟩ := d1
                have hD := o1.2.1
                refine ⟨⟨?_, ?_, ?_, fun dd hd => ?_, fun qq hq => ?_⟩, ?_, ?_, fun j hj => ?_⟩
                · rw [t3, if_neg (by omega), if_neg (by decide)]; exact e1
                · rw [t3, if_neg (by omega), if_neg (by decide)]; exact e2
                · rw [t3, if_neg (by omega), if_pos rfl]; rfl
                · have hd : dd < pD p := hd
                  rw [t3, t3, t3, t3, if_neg (by omega), if_neg (by omega), if_neg (by omega), if_neg (by omega), if_neg (by omega), if_neg (by omega), if_neg (by omega), if_neg (by omega)]; exact e4 dd hd
                · have hq : qq < pP p + 1 := hq
                  show K4.1 169 (60 + 37 + qq) = nI (if qq = pP p then v else pS p qq)
                  rw [t3]
                  by_cases z : qq = pP p
                  · rw [if_pos (by omega), if_pos z]
                  · rw [if_neg (by omega), if_neg (by omega), if_neg z]; exact e5 qq (show qq < pP p by omega)
                · exact d2.fr (fun j h1 h2 => by rw [t3, if_neg (by omega), if_neg (by omega)]) (by rw [t1 163 (by decide), f14.2.2 13 (by decide) (by decide), g2 13 (by decide) (by decide) (by decide)]) (by rw [t1 163 (by decide), f14.2.2 20 (by decide) (by decide), g2 20 (by decide) (by decide) (by decide)]) (by rw [t1 170 (by decide), f14.1 170 (by decide), f 170 (by decide) (by decide) (by decide)]) (by rw [t1 171 (by decide), f14.1 171 (by decide), f 171 (by decide) (by decide) (by decide)])
                · rw [t1 163 (by decide), f14.2.2 19 (by decide) (by decide)]; exact d.1
                · rw [t2, f14.2.1, t1 175 (by decide), f14.1 175 (by decide)]; exact d.2 j hj
              have f34 : FrE K3 K4 := ⟨fun c _ h2 _ _ _ => t1 c h2, fun c _ => by rw [t2], fun j _ _ _ _ _ => by rw [t1 163 (by decide)], fun j hj => by rw [← hK4, rI, if_pos rfl, if_neg (by omega)], fun j _ => ⟨by rw [t1 170 (by decide)], by rw [t1 171 (by decide)]⟩⟩
              have ok4 : okD (sAdd p v, x, nAdd E l (20 + pP p)) := by
                refine ⟨⟨hp1, o1.2.1, by show pP p + 1 ≤ 5; omega, o1.2.2.2.1, fun qq hq => ?_⟩, okE_new o2 o3 hlw z4 (Or.inr ⟨rfl, rfl, rfl⟩) (by omega), by show E.1 + 1 = pR p + (pP p + 1); omega, o4⟩
                have hq : qq < pP p + 1 := hq
                show (if qq = pP p then v else pS p qq) < pR p
                split
                · exact r4
                · exact o1.2.2.2.2 qq (by omega)
              exact lend w hw ht ((m2.b.d.tr (v2.b.d.tr w1.d)).tr (f45.tr w2'.b.d)) ((fK.tr f14.e).tr f34) w3' aR4 (dC5.fb w2'.b) dR4 ok4 (by omega)
            · rw [r3] at s3; cases s3
          · rcases s2 with ⟨v', s3, -⟩ | ⟨c', s3, -, -, s4, s5⟩
            · rw [r3] at s3; cases s3
            · rw [r3] at s3
              have := Sum.inl.inj s3
              subst this
              rw [show f_X12_takeTold w 163 1 0 0 K2 = _ from s4, bI_some, if_neg s5.ne, bV_some]
              refine lerr w (fM3.tr r1.d) ((fK.tr x2.e).tr s1.e) r5 s5 ?_
              rw [r4, bI_some, if_pos rfl]; rfl
        · rw [y1] at y1'; cases y1'
      · rcases x3 with ⟨y1', -⟩ | ⟨-, x3⟩
        · rw [y1] at y1'; cases y1'
        · obtain ⟨K3, b1, b2, b3⟩ := X12_takeTold_er w x3 1 0 0
          rw [b1, bI_some, if_neg b3.ne, bV_some]
          refine lerr w fM3 ((fK.tr x2.e).tr b2.e) y3 b3 ?_
          rw [y2, bI_some, if_pos rfl]; rfl
    · exact absurd a n0
end ROOMS
