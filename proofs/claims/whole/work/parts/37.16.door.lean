/-! ===== the house read: a door's line ===== -/
def dW (x1 x2 q2 q4 q6 : Int32) (M5 : mM) : Option mM := (if (M5.1 163 8) = 0 then lt (65 + (4 * x1)) fun y7 => chk y7 (sL (rF 163 10)) (lt (wI M5 (rF 163 10) y7.toNatClampNeg x2) fun M8 => chk (y7 + 1) (sL (rF 163 10)) (lt (wI M8 (rF 163 10) (y7 + 1).toNatClampNeg q2) fun M9 => chk (y7 + 2) (sL (rF 163 10)) (lt (wI M9 (rF 163 10) (y7 + 2).toNatClampNeg q4) fun M10 => chk (y7 + 3) (sL (rF 163 10)) (lt (wI M10 (rF 163 10) (y7 + 3).toNatClampNeg q6) fun M11 => chk 61 (sL (rF 163 10)) (chk 61 (sL (rF 163 10)) (lt (wI M11 (rF 163 10) (61 : Int32).toNatClampNeg ((M11.1 (rF 163 10) (61 : Int32).toNatClampNeg) + 1)) fun M12 => some M12)))))) else some M5)
section DOORL
variable {t : TX} {p : HP} {E : NE} {s : DS} {M N K : mM}
theorem e120 (w : Nat) (x1 x2 x3 : Int32) (K : mM) : f_X12_readDoor_120 w 163 x1 x2 x3 K = bI (f_X12_takeTold w 163 1 0 x3 K) fun q2 M1 => bI (f_X12_takeOne w 163 12 4 M1) fun q4 M3 => bI (f_X12_takeAfter w 163 2 0 12 M3) fun q6 M5 => dW x1 x2 q2 q4 q6 M5 := rfl
theorem dW_er {e : Nat} (h : ErR K e) (x1 x2 q2 q4 q6 : Int32) : dW x1 x2 q2 q4 q6 K = some K := by unfold dW; rw [if_neg h.ne]
theorem dW_ok {D : Nat} (hD : D < 8) (h8 : K.1 163 8 = 0) (h61 : K.1 169 61 = nI D) (x2 q2 q4 q6 : Int32) : dW (nI D) x2 q2 q4 q6 K = some (wI (wI (wI (wI (wI K 169 (65 + 4 * D) x2) 169 (66 + 4 * D) q2) 169 (67 + 4 * D) q4) 169 (68 + 4 * D) q6) 169 61 (nI (D + 1))) := by
  have e0 : (65 : Int32) + 4 * nI D = nI (65 + 4 * D) := by
    rw [show (4 : Int32) * nI D = nI (4 * D) from pk_mul 4 D]; exact nI_add 65 _
  have e1 : nI (65 + 4 * D) + 1 = nI (66 + 4 * D) := by
    rw [nI_1]; congr 1; omega
  have e2 : nI (65 + 4 * D) + 2 = nI (67 + 4 * D) := by
    rw [show (2 : Int32) = nI 2 from rfl, nI_add]; congr 1; omega
  have e3 : nI (65 + 4 * D) + 3 = nI (68 + 4 * D) := by
    rw [show (3 : Int32) = nI 3 from rfl, nI_add]; congr 1; omega
  have c0 := nI_clamp (show 65 + 4 * D < 2147483648 by omega)
  have c1 := nI_clamp (show 66 + 4 * D < 2147483648 by omega)
  have c2 := nI_clamp (show 67 + 4 * D < 2147483648 by omega)
  have c3 := nI_clamp (show 68 + 4 * D < 2147483648 by omega)
  unfold dW
  rw [h8, if_pos rfl, e0, lt_eq, r163_10, l169, e1, e2, e3, chk_nI _ (by omega) (by omega), lt_eq, chk_nI _ (by omega) (by omega), lt_eq, chk_nI _ (by omega) (by omega), lt_eq, chk_nI _ (by omega) (by omega), lt_eq, show (61 : Int32) = nI 61 from rfl, chk_nI _ (by omega) (by omega), chk_nI _ (by omega) (by omega), lt_eq, c0, c1, c2, c3, nI_clamp (show 61 < 2147483648 by omega)]
  rw [rI _ 169 (68 + 4 * D) _ 169 61, if_pos rfl, if_neg (by omega), rI _ 169 (67 + 4 * D) _ 169 61, if_pos rfl, if_neg (by omega), rI _ 169 (66 + 4 * D) _ 169 61, if_pos rfl, if_neg (by omega), rI _ 169 (65 + 4 * D) _ 169 61, if_pos rfl, if_neg (by omega), h61, nI_1]
theorem X6_addDoor_eq (w : Nat) {D : Nat} (hD : D < 8) (h : M.1 13 1 = nI D) (x1 x2 x3 x4 : Int32) : f_X6_addDoor w 13 x1 x2 x3 x4 M = some (wI (wI (wI (wI (wI M 17 D x1) 18 D x2) 19 D x3) 20 D x4) 13 1 (nI (D + 1))) := by
  unfold f_X6_addDoor
  rw [h, if_neg (show ¬ (8 : Int32) ≤ nI D from fun z => by have := (nI_leI (a := 8) (by omega) (by omega)).mp z; omega), r13_7, r13_8, r13_9, r13_10, l17, l18, l19, l20, chk_nI _ (by omega) (by omega), nI_clamp (by omega), lt_eq, rIc _ _ _ _ (show 13 ≠ 17 by decide), h, chk_nI _ (by omega) (by omega), nI_clamp (by omega), lt_eq, rIc _ _ _ _ (show 13 ≠ 18 by decide), rIc _ _ _ _ (show 13 ≠ 17 by decide), h, chk_nI _ (by omega) (by omega), nI_clamp (by omega), lt_eq, rIc _ _ _ _ (show 13 ≠ 19 by decide), rIc _ _ _ _ (show 13 ≠ 18 by decide), rIc _ _ _ _ (show 13 ≠ 17 by decide), h, chk_nI _ (by omega) (by omega), nI_clamp (by omega), lt_eq, rIc _ _ _ _ (show 13 ≠ 20 by decide), rIc _ _ _ _ (show 13 ≠ 19 by decide), rIc _ _ _ _ (show 13 ≠ 18 by decide), rIc _ _ _ _ (show 13 ≠ 17 by decide), h, nI_1, lt_eq]
theorem isU_le {i u : Nat} (e : isU t i u = true) : tkN t (psn t i) ≤ u := by unfold isU at e; rw [Bool.and_eq_true, decide_eq_true_eq, decide_eq_true_eq] at e; exact e.2
/-- the door told, in both -/
theorem dr_end (w : Nat) (hw : 1100 ≤ w) (ht : okT t) {M0 K0 : mM} {m i i0 : Nat} {x : HX} (fM : FrD M0 M) (fK : FrE K0 K) (aC : AtC M t i) (aR : AtR K t m i) (dC : DC M (p, x, E)) (dR : DR K (p, x, E)) (ok : okD (p, x, E)) (hi : i0 ≤ i) {a b v g : Nat} (hD : pD p < 8) (ha : a < pR p) (hb : b < pR p) (hab : a ≠ b) (hv : v < 4) (hg : g ≤ 12) : Lns t m M0 K0 i0 (bV (f_X6_addDoor w 13 (nI a) (nI b) (nI v) (nI g) M) fun M17 => bI (f_X10_takeSign w 25 59 M17) fun q19 M18 => rtB q19 M18) (bV (dW (nI (pD p)) (nI a) (nI b) (nI v) (nI g) K) fun M1 => f_X12_takeSign w 163 59 M1) := by
  obtain ⟨o1, o2, o3, o4⟩ := ok
  have o1 : okP p := o1
  have o2 : okE p E := o2
  obtain ⟨⟨c1, c2, c3, c4, c5⟩, ⟨f1, f2, f3⟩, g1⟩ := dC
  obtain ⟨⟨d1, d2, d3, d4, d5⟩, x1, y1⟩ := dR
  have c2 : M.1 13 1 = nI (pD p) := c2
  have d2 : K.1 169 61 = nI (pD p) := d2
  rw [X6_addDoor_eq w hD c2, bV_some, dW_ok hD aR.2.2.2.1 d2, bV_some]
  generalize hN : wI (wI (wI (wI (wI M 17 (pD p) (nI a)) 18 (pD p) (nI b)) 19 (pD p) (nI v)) 20 (pD p) (nI g)) 13 1 (nI (pD p + 1)) = N
  generalize hL : wI (wI (wI (wI (wI K 169 (65 + 4 * pD p) (nI a)) 169 (66 + 4 * pD p) (nI b)) 169 (67 + 4 * pD p) (nI v)) 169 (68 + 4 * pD p) (nI g)) 169 61 (nI (pD p + 1)) = L
  have q1 : ∀ c, c ≠ 13 → c ≠ 17 → c ≠ 18 → c ≠ 19 → c ≠ 20 → N.1 c = M.1 c := fun c h1 h2 h3 h4 h5 => by rw [← hN, rIc _ _ _ _ h1, rIc _ _ _ _ h5, rIc _ _ _ _ h4, rIc _ _ _ _ h3, rIc _ _ _ _ h2]
  have q2 : N.2 = M.2 := by rw [← hN]; rfl
  have q13 : ∀ j, N.1 13 j = if j = 1 then nI (pD p + 1) else M.1 13 j := fun j => by rw [← hN, rI, if_pos rfl, rIc _ _ _ _ (by decide), rIc _ _ _ _ (by decide), rIc _ _ _ _ (by decide), rIc _ _ _ _ (by decide)]
  have q17 : ∀ j, N.1 17 j = if j = pD p then nI a else M.1 17 j := fun j => by rw [← hN, rIc _ _ _ _ (by decide), rIc _ _ _ _ (by decide), rIc _ _ _ _ (by decide), rIc _ _ _ _ (by decide), rI, if_pos rfl]
  have q18 : ∀ j, N.1 18 j = if j = pD p then nI b else M.1 18 j := fun j => by rw [← hN, rIc _ _ _ _ (by decide), rIc _ _ _ _ (by decide), rIc _ _ _ _ (by decide), rI, if_pos rfl, rIc _ _ _ _ (by decide)]
  have q19 : ∀ j, N.1 19 j = if j = pD p then nI v else M.1 19 j := fun j => by rw [← hN, rIc _ _ _ _ (by decide), rIc _ _ _ _ (by decide), rI, if_pos rfl, rIc _ _ _ _ (by decide), rIc _ _ _ _ (by decide)]
  have q20 : ∀ j, N.1 20 j = if j = pD p then nI g else M.1 20 j := fun j => by rw [← hN, rIc _ _ _ _ (by decide), rI, if_pos rfl, rIc _ _ _ _ (by decide), rIc _ _ _ _ (by decide), rIc _ _ _ _ (by decide)]
  have z1 : ∀ c, c ≠ 169 → L.1 c = K.1 c := fun c h => by rw [← hL, rIc _ _ _ _ h, rIc _ _ _ _ h, rIc _ _ _ _ h, rIc _ _ _ _ h, rIc _ _ _ _ h]
  have z2 : L.2 = K.2 := by rw [← hL]; rfl
  have z3 : ∀ j, L.1 169 j = if j = 61 then nI (pD p + 1) else if j = 68 + 4 * pD p then nI g else if j = 67 + 4 * pD p then nI v else if j = 66 + 4 * pD p then nI b else if j = 65 + 4 * pD p then nI a else K.1 169 j := fun j => by rw [← hL, rI, if_pos rfl, rI, if_pos rfl, rI, if_pos rfl, rI, if_pos rfl, rI, if_pos rfl]
  have aC' : AtC N t i := aC.fb (q1 25 (by decide) (by decide) (by decide) (by decide) (by decide)) (q1 26 (by decide) (by decide) (by decide) (by decide) (by decide)) (by rw [q2])
  have aR' : AtR L t m i := by
    obtain ⟨a1, a2, a3, a4, a5⟩ := aR
    exact ⟨a1.fr (z1 165 (by decide)) (z1 166 (by decide)) (by rw [z2]), a2, by rw [z1 163 (by decide)]; exact a3, by rw [z1 163 (by decide)]; exact a4, fun k hk => by rw [z2]; exact a5 k hk⟩
  have fN : FrD M N := ⟨fun c h1 h2 => q1 c (by omega) (by omega) (by omega) (by omega) (by omega), fun c j _ _ _ => by rw [q2], by rw [q1 25 (by decide) (by decide) (by decide) (by decide) (by decide)]⟩
  have fL : FrE K L := ⟨fun c _ h2 _ _ _ => z1 c h2, fun c _ => by rw [z2], fun j _ _ _ _ _ => by rw [z1 163 (by decide)], fun j hj => by rw [z3, if_neg (by omega), if_neg (by omega), if_neg (by omega), if_neg (by omega), if_neg (by omega)], fun j _ => ⟨by rw [z1 170 (by decide)], by rw [z1 171 (by decide)]⟩⟩
  have dC' : DC N (oAdd p a b v g, x, E) := by
    refine ⟨⟨?_, ?_, ?_, fun dd hd => ?_, fun qq hq => ?_⟩, ⟨?_, fun j hj => ?_, ?_, fun j hj => ?_⟩, fun j hj => ?_⟩
    · rw [q13, if_neg (by decide)]; exact c1
    · rw [q13, if_pos rfl]; rfl
    · rw [q13, if_neg (by decide)]; exact c3
    · have hd : dd < pD p + 1 := hd
      show N.1 17 dd = nI (if dd = pD p then a else pA p dd) ∧ N.1 18 dd = nI (if dd = pD p then b else pB p dd) ∧ N.1 19 dd = nI (if dd = pD p then v else pW p dd) ∧ N.1 20 dd = nI (if dd = pD p then g else pG p dd)
      rw [q17, q18, q19, q20]
      by_cases z : dd = pD p
      · simp only [if_pos z, and_self]
      · simp only [if_neg z]; exact c4 dd (show dd < pD p by omega)
    · rw [q1 (13 + 3) (by decide) (by decide) (by decide) (by decide) (by decide)]; exact c5 qq hq
    · rw [q13, if_neg (by decide)]; exact f1
    · rw [q1 21 (by decide) (by decide) (by decide) (by decide) (by decide)]; exact f2 j hj
    · rw [q1 22 (by decide) (by decide) (by decide) (by decide) (by decide)]; exact f3.1
    · rw [q1 (22 + 1) (by decide) (by decide) (by decide) (by decide) (by decide)]; exact f3.2 j hj
    · rw [q2]; exact g1 j hj
  have dR' : DR L (oAdd p a b v g, x, E) := by
    refine ⟨⟨?_, ?_, ?_, fun dd hd => ?_, fun qq hq => ?_⟩, ?_, ?_, fun j hj => ?_⟩
    · rw [z3, if_neg (by omega), if_neg (by omega), if_neg (by omega), if_neg (by omega), if_neg (by omega)]; exact d1
    · rw [z3, if_pos rfl]; rfl
    · rw [z3, if_neg (by omega), if_neg (by omega), if_neg (by omega), if_neg (by omega), if_neg (by omega)]; exact d3
    · have hd : dd < pD p + 1 := hd
      show L.1 169 (60 + 5 + 4 * dd) = nI (if dd = pD p then a else pA p dd) ∧ L.1 169 (60 + 6 + 4 * dd) = nI (if dd = pD p then b else pB p dd) ∧ L.1 169 (60 + 7 + 4 * dd) = nI (if dd = pD p then v else pW p dd) ∧ L.1 169 (60 + 8 + 4 * dd) = nI (if dd = pD p then g else pG p dd)
      by_cases z : dd = pD p
      · subst z
        refine ⟨?_, ?_, ?_, ?_⟩
        · rw [z3, if_neg (by omega), if_neg (by omega), if_neg (by omega), if_neg (by omega), if_pos (by omega), if_pos rfl]
        · rw [z3, if_neg (by omega), if_neg (by omega), if_neg (by omega), if_pos (by omega), if_pos rfl]
        · rw [z3, if_neg (by omega), if_neg (by omega), if_pos (by omega), if_pos rfl]
        · rw [z3, if_neg (by omega), if_pos (by omega), if_pos rfl]
      · obtain ⟨e1, e2, e3, e4⟩ := d4 dd (show dd < pD p by omega)
        refine ⟨?_, ?_, ?_, ?_⟩
        · rw [z3, if_neg (by omega), if_neg (by omega), if_neg (by omega), if_neg (by omega), if_neg (by omega), if_neg z]; exact e1
        · rw [z3, if_neg (by omega), if_neg (by omega), if_neg (by omega), if_neg (by omega), if_neg (by omega), if_neg z]; exact e2
        · rw [z3, if_neg (by omega), if_neg (by omega), if_neg (by omega), if_neg (by omega), if_neg (by omega), if_neg z]; exact e3
        · rw [z3, if_neg (by omega), if_neg (by omega), if_neg (by omega), if_neg (by omega), if_neg (by omega), if_neg z]; exact e4
    · rw [z3, if_neg (by omega), if_neg (by omega), if_neg (by omega), if_neg (by omega), if_neg (by omega)]; exact d5 qq hq
    · exact x1.fr (fun j h1 h2 => by rw [z3, if_neg (by omega), if_neg (by omega), if_neg (by omega), if_neg (by omega), if_neg (by omega)]) (by rw [z1 163 (by decide)]) (by rw [z1 163 (by decide)]) (z1 170 (by decide)) (z1 171 (by decide))
    · rw [z1 163 (by decide)]; exact y1.1
    · rw [z2, z1 175 (by decide)]; exact y1.2 j hj
  have ok' : okD (oAdd p a b v g, x, E) := by
    refine ⟨⟨o1.1, by show pD p + 1 ≤ 8; omega, o1.2.2.1, fun dd hd => ?_, o1.2.2.2.2⟩, o2, o3, o4⟩
    have hd : dd < pD p + 1 := hd
    show (if dd = pD p then a else pA p dd) < pR p ∧ (if dd = pD p then b else pB p dd) < pR p ∧ (if dd = pD p then v else pW p dd) < 4 ∧ (if dd = pD p then g else pG p dd) ≤ 12 ∧ (if dd = pD p then a else pA p dd) ≠ (if dd = pD p then b else pB p dd)
    by_cases z : dd = pD p
    · simp only [if_pos z]; exact ⟨ha, hb, hv, hg, hab⟩
    · simp only [if_neg z]; exact o1.2.2.2.1 dd (by omega)
  exact lend w hw ht (fM.tr fN) (fK.tr fL) aC' aR' dC' dR' ok' hi
theorem tl_one (w : Nat) {e : Nat} (h : ErR K e) (x1 x2 q2 : Int32) : ∃ K1, (bI (f_X12_takeOne w 163 12 4 K) fun q4 M3 => bI (f_X12_takeAfter w 163 2 0 12 M3) fun q6 M5 => dW x1 x2 q2 q4 q6 M5) = some K1 ∧ FrY K K1 ∧ ErR K1 e := by
  obtain ⟨K2, b1, b2, b3⟩ := X12_takeOne_er w h 12 4
  obtain ⟨K3, c1, c2, c3⟩ := X12_takeWord_er w 2 b3
  refine ⟨K3, ?_, b2.tr c2, c3⟩
  unfold f_X12_takeAfter
  rw [b1, bI_some, c1, bV_some, X12_takeNumber_er w 0 12 c3, bI_some, bI_some, dW_er c3]
theorem tl_two (w : Nat) {e : Nat} (h : ErR K e) (x1 x2 q2 q4 : Int32) : ∃ K1, (bI (f_X12_takeAfter w 163 2 0 12 K) fun q6 M5 => dW x1 x2 q2 q4 q6 M5) = some K1 ∧ FrY K K1 ∧ ErR K1 e := by
  obtain ⟨K3, c1, c2, c3⟩ := X12_takeWord_er w 2 h
  refine ⟨K3, ?_, c2, c3⟩
  unfold f_X12_takeAfter
  rw [c1, bV_some, X12_takeNumber_er w 0 12 c3, bI_some, bI_some, dW_er c3]
theorem ln_door (w : Nat) (hw : 1100 ≤ w) (ht : okT t) {m i : Nat} (aC : AtC M t i) (aR : AtR K t m i) (dC : DC M s) (dR : DR K s) (ok : okD s) (hk : tkK t (psn t i) ≠ 0) : Lns t m M K i (f_X2_readDoor w 27 13 M) (bV (f_X12_readDoor w 163 K) fun M1 => f_X12_takeSign w 163 59 M1) := by
  obtain ⟨p, x, E⟩ := s
  have ok' := ok
  obtain ⟨o1, o2, o3, o4⟩ := ok
  have o1 : okP p := o1
  have o2 : okE p E := o2
  have hp1 := o1.1
  have hp2 := o1.2.2.1
  have hp3 := o1.2.1
  have c11 : M.1 13 1 = nI (pD p) := dC.1.2.1
  have d11 : K.1 169 61 = nI (pD p) := dR.1.2.1
  unfold f_X2_readDoor f_X12_readDoor
  rw [r27_0, c11, r163_10, l169, show (61 : Int32) = nI 61 from rfl, chk_nI _ (by omega) (by omega), nI_clamp (show 61 < 2147483648 by omega), d11, lt_eq]
  by_cases q : pD p = 8
  · obtain ⟨N, n1, n2, n3⟩ := X10_refuse_eq w (c := 5) aC
    obtain ⟨K1, a1, a2, a3⟩ := X12_wrong_eq w ht (c := 5) aR (by omega) (by omega)
    rw [if_pos (show nI (pD p) = 8 by rw [q]; rfl), show f_X12_wrong w 163 5 K = _ from a1, bV_some, bV_some]
    refine lerr w n2.d a2.e n3 a3 ?_
    rw [if_neg (show ¬ nI (pD p) < 8 from fun z => by have := (nI_ltI (b := 8) (by omega) (by omega)).mp z; omega), show f_X10_refuse w 25 5 M = _ from n1, bI_some]; rfl
  · have hq : pD p < 8 := by omega
    obtain ⟨g1, h1⟩ := aR.step hk
    rw [if_neg (show ¬ nI (pD p) = 8 from fun z => q ((nI_eq (b := 8) (by omega) (by omega)).mp z)), if_pos (show nI (pD p) < 8 from (nI_ltI (b := 8) (by omega) (by omega)).mpr hq), aR.2.2.1, nI_1, lt_eq]
    generalize hK1 : wI K 163 7 (nI (i + 1)) = K1 at g1 h1 ⊢
    obtain ⟨M1, m1, m2, m3⟩ := aC.adv w hw ht
    rw [m1, bV_some]
    have dC1 : DC M1 (p, x, E) := dC.fb m2.b
    have dR1 : DR K1 (p, x, E) := dR.fy g1
    obtain ⟨M2, r1, r2⟩ := X2_roomTold_eq w hw o1 m3 dC1.1.1 o2 dC1.2.2
    obtain ⟨K2, s1, s2⟩ := X12_takeTold_eq (p := p) w hw ht h1 o2 ⟨hp1, hp2⟩ true dR1.2.2 (base := 0) (by omega) 0
    rcases r2 with ⟨a, r3, r4, r5, r6⟩ | ⟨c, r3, r4, r5⟩
    · rcases s2 with ⟨a', s3, s4, s5⟩ | ⟨c', s3, -⟩
      · rw [r3] at s3
        have ea := Sum.inr.inj s3
        subst ea
        subst r6
        have dR2 : DR K2 (p, x, E) := dR1.fy s1
        rw [show f_X12_takeTold w 163 1 0 0 K1 = _ from s4, bI_some, lt_eq, r5, bI_some, if_neg (m1_ne a (by omega)), show f_X12_readDoor_45 w w 163 (nI (pD p)) (nI a) ((1 : Int32) <<< (nI a &&& 31)) 0 K2 = _ from rd45_eq w o1 dR2.1 r4 (pD p) 0 w (by omega) (by omega) (by omega), e120]
        obtain ⟨M3, v1, v2, v3⟩ := m3.adv w hw ht
        rw [v1, bV_some]
        have dC3 : DC M3 (p, x, E) := dC1.fb v2.b
        obtain ⟨M4, u1, u2⟩ := X2_roomTold_eq w hw o1 v3 dC3.1.1 o2 dC3.2.2
        obtain ⟨K3, t1, t2⟩ := X12_takeTold_eq (p := p) w hw ht s5 o2 ⟨hp1, hp2⟩ true dR2.2.2 (base := 0) (by omega) (jmk p a (pD p))
        obtain ⟨mk1, mk2⟩ := tRes_mk (t := t) (i := i + 1 + 1) (E := E) (jmk p a (pD p)) o1 o2
        have fM3 : FrD M M3 := m2.b.d.tr v2.b.d
        have fK2 : FrE K K2 := g1.e.tr s1.e
        rcases u2 with ⟨b, u3, u4, u5, u6⟩ | ⟨c, u3, u4, u5⟩
        · rw [mk2 b u3, bit_jmk o1 r4 u4 (pD p) (Nat.le_refl _)] at t2
          subst u6
          rw [u5, bI_some, if_neg (m1_ne b (by omega))]
          cases hb : (decide (b = a) || exq p a b (pD p))
          · rw [hb, if_neg (by decide)] at t2
            have hba : b ≠ a := fun e => by rw [decide_eq_true e, Bool.true_or] at hb; cases hb
            have hex : exq p a b (pD p) = false := by rw [decide_eq_false hba, Bool.false_or] at hb; exact hb
            rcases t2 with ⟨b', t3, t4, t5⟩ | ⟨c', t3, -⟩
            · have eb := Sum.inr.inj t3
              subst eb
              rw [if_neg (fun e => hba ((nI_eq (by omega) (by omega)).mp e)), X6_hasDoorBetween_eq w hw o1 dC3.1 (by omega), bI_some, hex, if_pos (show b2i false = 0 from rfl), show f_X12_takeTold w 163 1 0 (jmk p a (pD p)) K2 = _ from t4, bI_some]
              obtain ⟨M5, v5, v6, v7⟩ := v3.adv w hw ht
              rw [v5, bV_some]
              have dC5 : DC M5 (p, x, E) := dC3.fb v6.b
              have dR3 : DR K3 (p, x, E) := dR2.fy t1
              have fM5 : FrD M M5 := fM3.tr v6.b.d
              have fK3 : FrE K K3 := fK2.tr t1.e
              obtain ⟨vv, w1, w2⟩ := X2_woodTold_eq w v7
              obtain ⟨K4, x1, x2⟩ := X12_takeOne_eq w hw ht t5 (a := 12) (n := 4) (by omega)
              rw [w1, bI_some]
              rcases w2 with ⟨w3, w4⟩ | ⟨k, w3, w4, w5⟩
              · rcases x2 with ⟨k, x3, x4, -⟩ | ⟨-, x5, x6⟩
                · rw [w4 k x3] at x4; cases x4
                · obtain ⟨N, n1, n2, n3⟩ := X10_refuse_eq w (c := 1) v7
                  obtain ⟨K5, y1, y2, y3⟩ := tl_two w x6 (nI (pD p)) (nI a) (nI b) 0
                  rw [show f_X12_takeOne w 163 12 4 K3 = _ from x5, bI_some, y1, bV_some]
                  refine lerr w (fM5.tr n2.d) (fK3.tr (x1.e.tr y2.e)) n3 y3 ?_
                  rw [if_pos w3, show f_X10_refuse w 25 1 M5 = _ from n1, bI_some]; rfl
              · rcases x2 with ⟨k', x3, x4, x5, x6⟩ | ⟨x4, -⟩
                · have ek := isW_uni (by omega) (by omega) w5 x4
                  have ek : k = k' := by omega
                  subst ek
                  rw [if_neg (by rw [w4]; exact m1_ne k (by omega)), w4, show f_X12_takeOne w 163 12 4 K3 = _ from x5, bI_some]
                  obtain ⟨M6, v8, v9, va⟩ := v7.adv w hw ht
                  rw [v8, bV_some]
                  obtain ⟨M7, y1, y2⟩ := X10_takeWord_eq w hw ht va (k := 2) (by omega) (show (6775152 : Int64) = _ by decide +kernel)
                  obtain ⟨K5, z1, z2, z3⟩ := X12_takeWord_eq w ht x6 (k := 2) (by omega)
                  unfold f_X12_takeAfter
                  rw [show f_X12_takeWord w 163 2 K4 = _ from z1, bV_some]
                  have fM7 : FrD M M7 := fM5.tr (v9.b.d.tr y1.d)
                  have fK5 : FrE K K5 := fK3.tr (x1.e.tr z2.e)
                  rcases y2 with ⟨e1, e2, e3⟩ | ⟨e1, e2, e3⟩
                  · rcases z3 with ⟨-, z4⟩ | ⟨z4, -⟩
                    · rw [e2, bI_some, if_neg (by decide)]
                      obtain ⟨M8, a1, a2⟩ := X10_takeNumber_eq w hw ht e3 (u := 12) (by omega)
                      obtain ⟨K6, b1, b2⟩ := X12_takeNumber_eq w ht z4 (u := 12) (by omega)
                      rcases a2 with ⟨a3, a4, a5⟩ | ⟨a3, a4, a5⟩
                      · rcases b2 with ⟨-, b4, b5⟩ | ⟨b3, -⟩
                        · have hg := isU_le a3
                          rw [show f_X10_takeNumber w 25 12 M7 = _ from a4, bI_some, if_neg (m1_ne _ (by omega)), show f_X12_takeNumber w 163 0 12 K5 = _ from b4, bI_some, bI_some]
                          exact dr_end w hw ht (fM7.tr a1.d) (fK5.tr b1.e) a5 b5 ((((dC5.fb v9.b).fb y1)).fb a1) (((dR3.fy x1).fy z2).fy b1) ok' (by omega) hq r4 u4 (fun e => hba e.symm) w3 hg
                        · rw [a3] at b3; cases b3
                      · rcases b2 with ⟨b3, -⟩ | ⟨-, b4, b5⟩
                        · rw [a3] at b3; cases b3
                        · rw [show f_X12_takeNumber w 163 0 12 K5 = _ from b4, bI_some, bI_some, dW_er b5, bV_some]
                          refine lerr w (fM7.tr a1.d) (fK5.tr b1.e) a5 b5 ?_
                          rw [show f_X10_takeNumber w 25 12 M7 = _ from a4, bI_some, if_pos rfl]; rfl
                    · rw [e1] at z4; cases z4
                  · rcases z3 with ⟨z4, -⟩ | ⟨-, z4⟩
                    · rw [e1] at z4; cases z4
                    · rw [X12_takeNumber_er w 0 12 z4, bI_some, bI_some, dW_er z4, bV_some]
                      refine lerr w fM7 fK5 e3 z4 ?_
                      rw [e2, bI_some, if_pos rfl]; rfl
                · rw [x4 k w3] at w5; cases w5
            · cases t3
          · rw [hb, if_pos rfl] at t2
            rcases t2 with ⟨b', t3, -⟩ | ⟨c', t3, -, -, t4, t5⟩
            · cases t3
            · have ec := Sum.inl.inj t3
              subst ec
              obtain ⟨N, n1, n2, n3⟩ := X10_refuse_eq w (c := 3) v3
              obtain ⟨K5, y1, y2, y3⟩ := tl_one w t5 (nI (pD p)) (nI a) 0
              rw [show f_X12_takeTold w 163 1 0 (jmk p a (pD p)) K2 = _ from t4, bI_some, y1, bV_some]
              refine lerr w (fM3.tr n2.d) (fK2.tr (t1.e.tr y2.e)) n3 y3 ?_
              have h72 : f_X2_readDoor_72 w 27 M4 = some (0, N) := by
                unfold f_X2_readDoor_72
                rw [r27_0, show f_X10_refuse w 25 3 M4 = _ from n1, bI_some]; rfl
              by_cases z : b = a
              · rw [if_pos (by rw [z]), h72]
              · rw [if_neg (fun e => z ((nI_eq (by omega) (by omega)).mp e)), X6_hasDoorBetween_eq w hw o1 dC3.1 (by omega), bI_some]
                rw [decide_eq_false z, Bool.false_or] at hb
                rw [hb, if_neg (by decide), h72]
        · rw [mk1 c u3] at t2
          rcases t2 with ⟨b', t3, -⟩ | ⟨c', t3, -, -, t4, t5⟩
          · cases t3
          · have ec := Sum.inl.inj t3
            subst ec
            obtain ⟨K5, y1, y2, y3⟩ := tl_one w t5 (nI (pD p)) (nI a) 0
            rw [show f_X12_takeTold w 163 1 0 (jmk p a (pD p)) K2 = _ from t4, bI_some, y1, bV_some]
            refine lerr w (fM3.tr u1.d) (fK2.tr (t1.e.tr y2.e)) u5 y3 ?_
            rw [u4, bI_some, if_pos rfl]; rfl
      · rw [r3] at s3; cases s3
    · rcases s2 with ⟨a', s3, -⟩ | ⟨c', s3, -, -, s4, s5⟩
      · rw [r3] at s3; cases s3
      · rw [r3] at s3
        have ec := Sum.inl.inj s3
        subst ec
        rw [show f_X12_takeTold w 163 1 0 0 K1 = _ from s4, bI_some, lt_eq]
        obtain ⟨y, hy⟩ := rd45_any w K2 hp3 0 (pD p) 0 w ((1 : Int32) <<< ((0 : Int32) &&& 31)) (by omega) (by omega) (by omega)
        obtain ⟨K5, y1, y2, y3⟩ := rd120_er w s5 (nI (pD p)) 0 y
        rw [show f_X12_readDoor_45 w w 163 (nI (pD p)) 0 ((1 : Int32) <<< ((0 : Int32) &&& 31)) 0 K2 = _ from hy, y1, bV_some]
        refine lerr w (m2.b.d.tr r1.d) (g1.e.tr (s1.e.tr y2.e)) r5 y3 ?_
        rw [r4, bI_some, if_pos rfl]; rfl
end DOORL
