/-! ===== the law, as the reference has it; a day's swelling ===== -/
theorem X12_both_eq (w : Nat) (x y : Int32) (M : mM) : ∀ op, 4 ≤ op → op ≤ 10 → f_X12_both w (nI op) x y M = some (bin op x y, M) := by
  intro op h1 h2
  have : op = 4 ∨ op = 5 ∨ op = 6 ∨ op = 7 ∨ op = 8 ∨ op = 9 ∨ op = 10 := by omega
  rcases this with rfl | rfl | rfl | rfl | rfl | rfl | rfl
  · rfl
  · rfl
  · rfl
  · show (if y ≤ x then some ((0 : Int32), M) else some (1, M)) = some (if x < y then 1 else 0, M)
    by_cases q : x < y
    · rw [if_neg (Int32.not_le.mpr q), if_pos q]
    · rw [if_pos (Int32.not_lt.mp q), if_neg q]
  · show (if x = y then some ((1 : Int32), M) else some (0, M)) = some (if x = y then 1 else 0, M)
    split <;> rfl
  · show (if x = 0 then some ((0 : Int32), M) else if y = 0 then some (0, M) else some (1, M)) = some (if x = 0 then 0 else if y = 0 then 0 else 1, M)
    split
    · rfl
    · split <;> rfl
  · show (if x = 0 then (if y = 0 then some ((0 : Int32), M) else some (1, M)) else some (1, M)) = some (if x = 0 then (if y = 0 then 0 else 1) else 1, M)
    split
    · split <;> rfl
    · rfl
theorem X12_worthAt_eq (w : Nat) (hw : 1100 ≤ w) {M : mM} {L : Lw} (hL : okL L) (h0 : 0 < L.1) (hc : LwR M 0 0 L) : ∃ s, f_X12_worthAt w 163 0 M = some (lwV (M.1 177) L, setC M 178 s) := by
  obtain ⟨hlen, hok⟩ := hL
  obtain ⟨H, hH⟩ := hok h0
  obtain ⟨-, he, hcd⟩ := hc
  obtain ⟨-, he⟩ := he h0
  rw [Nat.zero_add] at he
  unfold f_X12_worthAt
  refine ⟨(itG (evS (M.1 177) L) L.1 0 (0, M.1 178)).2, ?_⟩
  rw [← lwV_of hH (by omega) (M.1 178)]
  have key := loopG (fun k (t : Nat × (Nat → Int32)) => t.1 = H k) (fun n (t : Nat × (Nat → Int32)) k => f_X12_worthAt_4 w n 163 (nI t.1) (nI k) (setC M 178 t.2)) (evS (M.1 177) L) (fun t => some (t.2 0, setC M 178 t.2)) L.1 (by
      intro n t ht
      rw [f_X12_worthAt_4, r163_11, l170, chk_nI _ (by omega) (by omega), nI_clamp (by omega), setC_ne _ _ (show 170 ≠ 178 by decide), he, if_pos rfl, r163_23, l178, show (0 : Int32) = nI 0 from rfl, chk_nI _ (by omega) (by omega), nI_clamp (by omega), setC_at]) (by
      intro n t k hk ht
      refine ⟨?_, evS_top hH hk t ht⟩
      obtain ⟨g1, g2⟩ := hcd k hk
      rw [Nat.zero_add] at g1 g2
      have ho : 1 ≤ L.2.1 k ∧ L.2.1 k ≤ 10 := by
        rcases hH.2.1 k hk with ⟨a, -⟩ | ⟨a, -⟩ | ⟨a, -⟩ | ⟨a, b, -⟩ <;> omega
      rw [f_X12_worthAt_4, r163_11, l170, chk_nI _ (by omega) (by omega), chk_nI _ (by omega) (by omega), nI_clamp (by omega), setC_ne _ _ (show 170 ≠ 178 by decide), g1, if_neg (show ¬ nI (L.2.1 k) = 0 from fun e => by have := (nI_eq (b := 0) (by omega) (by omega)).mp e; omega), lt_eq]
      rcases hH.2.1 k hk with ⟨a, a2, a3, -⟩ | ⟨a, a2, a3, -⟩ | ⟨a, a2, a3, -⟩ | ⟨a, b, a2, a3, -⟩
      · rw [evS_1 a, a, if_pos (show nI 1 = 1 from rfl)]
        unfold f_X12_worthAt_33 f_X12_worthAt_64
        rw [if_pos (show nI 1 = 1 from rfl), r163_12, l171, r163_23, l178, chk_nI _ (by omega) (by omega), chk_nI _ (by omega) (by omega), nI_clamp (by omega), nI_clamp (by omega), setC_ne _ _ (show 171 ≠ 178 by decide), g2, lt_eq, upd_set, nI_1, nI_1]
      · rw [evS_2 a, a, if_neg (by decide), if_pos (show nI 2 = 2 from rfl)]
        unfold f_X12_worthAt_33 f_X12_worthAt_64
        rw [if_neg (by decide), r163_12, l171, r163_22, l177, r163_23, l178, chk_nI _ (by omega) (by omega), nI_clamp (by omega), setC_ne _ _ (show 171 ≠ 178 by decide), g2, chk_nI _ (by omega) (by omega), chk_nI _ (by omega) (by omega), nI_clamp (by omega), nI_clamp (by omega), setC_ne _ _ (show 177 ≠ 178 by decide), lt_eq, upd_set, nI_1, nI_1]
      · have e2 : nI t.1 - 1 = nI (t.1 - 1) := pk_sub (b := 1) (by omega)
        rw [evS_3 a, a, if_neg (by decide), if_neg (by decide), if_pos (show nI 3 = 3 from rfl), e2, r163_23, l178, chk_nI _ (by omega) (by omega), nI_clamp (by omega), setC_at]
        unfold f_X12_worthAt_100
        rw [l178, chk_nI _ (by omega) (by omega), chk_nI _ (by omega) (by omega), nI_clamp (by omega), lt_eq, lt_eq, upd_set, upd_set, nI_1]
        by_cases q : t.2 (t.1 - 1) = 0
        · rw [if_pos q, if_pos q]
        · rw [if_neg q, if_neg q]
      · have e2 : nI t.1 + (-1) = nI (t.1 - 1) := by rw [← pk_sub (b := 1) (by omega), Int32.sub_eq_add_neg]; rfl
        have e3 : nI (t.1 - 1) - 1 = nI (t.1 - 2) := by rw [show t.1 - 2 = t.1 - 1 - 1 by omega]; exact pk_sub (b := 1) (by omega)
        have n1 : ¬ nI (L.2.1 k) = 1 := fun e => by have := (nI_eq (b := 1) (by omega) (by omega)).mp e; omega
        have n2 : ¬ nI (L.2.1 k) = 2 := fun e => by have := (nI_eq (b := 2) (by omega) (by omega)).mp e; omega
        have n3 : ¬ nI (L.2.1 k) = 3 := fun e => by have := (nI_eq (b := 3) (by omega) (by omega)).mp e; omega
        rw [evS_4 a, if_neg n1, if_neg n2, if_neg n3, e2, e3, r163_23, l178, chk_nI _ (by omega) (by omega), chk_nI _ (by omega) (by omega), nI_clamp (by omega), nI_clamp (by omega), setC_at, X12_both_eq w _ _ _ _ a b, bI_some, chk_nI _ (by omega) (by omega), lt_eq, upd_set, nI_1]) L.1 w 0 (0, M.1 178) (by omega) (by omega) hH.1.symm
  rw [setC_id] at key
  exact key
/-- a house's weather and law, beside HP: how many damps, the damps, the law -/
abbrev HX : Type := (Nat × (Nat → Nat)) × Lw
def xN (x : HX) : Nat := x.1.1
def xD (x : HX) : Nat → Nat := x.1.2
def xL (x : HX) : Lw := x.2
def okX (x : HX) : Prop := 1 ≤ xN x ∧ xN x ≤ 12 ∧ (∀ i, i < xN x → xD x i ≤ 9) ∧ okL (xL x)
def XC (M : mM) (o : Nat) (x : HX) : Prop := (M.1 o 3 = nI (xN x) ∨ (M.1 o 3 = 0 ∧ xN x = 1 ∧ xD x 0 = 0)) ∧ (∀ i, i < xN x → M.1 o 3 = nI (xN x) → M.1 (o + 8) i = nI (xD x i)) ∧ LwC M (o + 9) (xL x)
def XR (M : mM) (b a : Nat) (x : HX) : Prop := M.1 169 (b + 3) = nI (xN x) ∧ (∀ i, i < xN x → M.1 169 (b + 42 + i) = nI (xD x i)) ∧ LwR M b a (xL x)
def dmp (x : HX) (t : Nat) : Nat := xD x (t % xN x)
theorem X6_dampOn_eq (w : Nat) {M : mM} {x : HX} (hx : okX x) (hc : XC M 1 x) {t : Nat} (ht : t < 100000) : f_X6_dampOn w 1 (nI t) M = some (nI (dmp x t), M) := by
  obtain ⟨h1, h2, h3, -⟩ := hx
  obtain ⟨c1, c2, -⟩ := hc
  unfold f_X6_dampOn dmp
  rcases c1 with c1 | ⟨c1, c3, c4⟩
  · have hm : t % xN x < xN x := Nat.mod_lt _ (by omega)
    have g : M.1 9 (t % xN x) = nI (xD x (t % xN x)) := c2 _ hm c1
    rw [c1, if_neg (fun h => by have := (nI_leI (b := 0) (by omega) (by omega)).mp h; omega), if_neg (nI_pos (by omega)), if_neg (show ¬ nI (xN x) = 0 from fun e => by have := (nI_eq (b := 0) (by omega) (by omega)).mp e; omega), pk_rem (by omega) (by omega) (by omega), r1_11, l9, chk_nI _ (by omega) (by omega), nI_clamp (by omega), g]
  · rw [c1, if_pos (Int32.le_refl _), c3, Nat.mod_one, c4]; rfl
theorem X12_dampOn_eq (w : Nat) {M : mM} {x : HX} (hx : okX x) (hc : XR M 0 0 x) {t : Nat} (ht : t < 100000) : f_X12_dampOn w 163 (nI t) M = some (nI (dmp x t), M) := by
  obtain ⟨h1, h2, h3, -⟩ := hx
  obtain ⟨c1, c2, -⟩ := hc
  unfold f_X12_dampOn dmp
  have hm : t % xN x < xN x := Nat.mod_lt _ (by omega)
  have g := c2 _ hm
  rw [Nat.zero_add] at g c1
  rw [r163_10, l169, show (3 : Int32) = nI 3 from rfl, chk_nI _ (by omega) (by omega), nI_clamp (by omega), c1, if_neg (show ¬ nI (xN x) = 0 from fun e => by have := (nI_eq (b := 0) (by omega) (by omega)).mp e; omega), pk_rem (by omega) (by omega) (by omega), show (42 : Int32) = nI 42 from rfl, nI_add, chk_nI _ (by omega) (by omega), nI_clamp (by omega), g]
/-- what lies between 0 and 9 of a law's value -/
def cl9 (v : Int32) : Nat := if v < 0 then 0 else if 9 < v then 9 else v.toNatClampNeg
theorem cl9_ok (v : Int32) : cl9 v ≤ 9 ∧ mxI 0 (mnI 9 v) = nI (cl9 v) ∧ (if 0 ≤ v then if v ≤ 9 then v else 9 else 0) = nI (cl9 v) := by
  rcases ix3 v (n := 10) (by decide) with (a | a) | ⟨j, hj, rfl⟩
  · have e1 : ¬ (0 : Int32) ≤ v := Int32.not_le.mpr a
    have e2 : v < 9 := Int32.lt_trans a (by decide)
    unfold cl9 mxI mnI
    rw [if_pos a, if_pos e2, if_neg (fun h => e1 (Int32.le_of_lt h)), if_neg e1]
    exact ⟨by omega, rfl, rfl⟩
  · have e0 : (9 : Int32) < v := Int32.lt_of_lt_of_le (show (9 : Int32) < nI 10 by decide) a
    have e1 : ¬ v < 0 := fun h => absurd (Int32.lt_trans e0 h) (by decide)
    have e2 : ¬ v < 9 := fun h => absurd (Int32.lt_trans e0 h) (by decide)
    unfold cl9 mxI mnI
    rw [if_neg e1, if_pos e0, if_neg e2, if_pos (show (0 : Int32) < 9 by decide), if_pos (Int32.not_lt.mp e1), if_neg (Int32.not_le.mpr e0)]
    exact ⟨by omega, rfl, rfl⟩
  · have : ∀ j, j < 10 → cl9 (nI j) ≤ 9 ∧ mxI 0 (mnI 9 (nI j)) = nI (cl9 (nI j)) ∧ (if (0 : Int32) ≤ nI j then if nI j ≤ 9 then nI j else 9 else 0) = nI (cl9 (nI j)) := by decide +kernel
    exact this j hj
def upW (v : Nat) : Nat := if v = 0 then 6 else if v = 1 then 4 else if v = 2 then 5 else 3
def loW (v : Nat) : Nat := if v = 0 then 2 else if v = 1 then 4 else if v = 2 then 1 else 3
def shW (v : Nat) : Nat := if v = 1 then 2 else if v = 2 then 3 else 1
/-- how far a door is swollen behind a day of damp m -/
def nxt (L : Lw) (wood sw gap m day : Nat) : Nat := if m ≤ upW wood then (if loW wood ≤ m then sw else sw - shW wood) else (if sw + cl9 (lwV (fc4 (nI m) (nI sw) (nI gap) (nI day)) L) ≤ 30 then sw + cl9 (lwV (fc4 (nI m) (nI sw) (nI gap) (nI day)) L) else 30)
theorem nxt_le {L : Lw} {wood sw gap m day : Nat} (h : sw ≤ 30) : nxt L wood sw gap m day ≤ 30 := by
  unfold nxt
  split
  · split <;> omega
  · split <;> omega
theorem st_w : ∀ v, v < 4 → st1.getD v 0 = nI (upW v) ∧ st2.getD v 0 = nI (loW v) ∧ st3.getD v 0 = nI (shW v) := by decide +kernel
theorem mx0 {a b : Nat} (ha : a < 1000) (hb : b < 1000) : mxI 0 (nI a - nI b) = nI (a - b) := by
  unfold mxI
  by_cases h : b < a
  · rw [pk_sub (by omega), if_pos (show (0 : Int32) < nI (a - b) from (nI_ltI (a := 0) (by omega) (by omega)).mpr (by omega))]
  · rw [if_neg (fun e => by
      have : (nI a - nI b).toInt > 0 := (Int32.lt_iff_toInt_lt).mp e
      rw [pk_sub_toInt (by omega) (by omega)] at this; omega), show a - b = 0 by omega]; rfl
theorem X6_swollenNext_eq (w : Nat) (hw : 1100 ≤ w) {p : HP} {x : HX} {M : mM} (hp : okP p) (hx : okX x) (hc : PlC M 1 p) (hxc : XC M 1 x) {d sw gap m day : Nat} (hd : d < pD p) (h1 : sw ≤ 30) (hm : m ≤ 9) : ∃ s, f_X6_swollenNext w 1 (nI d) (nI sw) (nI gap) (nI m) (nI day) M = some (nI (nxt (xL x) (pW p d) sw gap m day), setC M 12 s) := by
  have hD := hp.2.1
  have hW := (hp.2.2.2.1 d hd).2.2.1
  have g : M.1 7 d = nI (pW p d) := (hc.2.2.2.1 d hd).2.2.1
  obtain ⟨s1, s2, s3⟩ := st_w _ hW
  have u1 : upW (pW p d) ≤ 6 ∧ loW (pW p d) ≤ 4 ∧ shW (pW p d) ≤ 3 := (by decide : ∀ v, v < 4 → upW v ≤ 6 ∧ loW v ≤ 4 ∧ shW v ≤ 3) _ hW
  unfold f_X6_swollenNext nxt
  rw [r1_9, l7, chk_nI _ (by omega) (by omega), nI_clamp (by omega), g, lt_eq, show st1.length = 4 from rfl, show st2.length = 4 from rfl, show st3.length = 4 from rfl, chk_nI _ (by omega) (by omega), chk_nI _ (by omega) (by omega), chk_nI _ (by omega) (by omega), nI_clamp (by omega), s1, s2, s3]
  by_cases e1 : m ≤ upW (pW p d)
  · refine ⟨M.1 12, ?_⟩
    rw [if_pos ((nI_leI (by omega) (by omega)).mpr e1), if_pos e1, setC_id]
    by_cases e2 : loW (pW p d) ≤ m
    · rw [if_pos ((nI_leI (by omega) (by omega)).mpr e2), if_pos e2]
    · rw [if_neg (fun h => e2 ((nI_leI (by omega) (by omega)).mp h)), if_neg e2, mx0 (by omega) (by omega)]
  · obtain ⟨s, hs⟩ := X3_valueBy_eq w hw hx.2.2.2 hxc.2.2 (nI m) (nI sw) (nI gap) (nI day)
    obtain ⟨k1, k2, k3⟩ := cl9_ok (lwV (fc4 (nI m) (nI sw) (nI gap) (nI day)) (xL x))
    refine ⟨s, ?_⟩
    rw [if_neg (fun h => e1 ((nI_leI (by omega) (by omega)).mp h)), if_neg e1, r1_12, hs, bI_some, k2, lt_eq, nI_add, show (30 : Int32) = nI 30 from rfl]
    unfold mnI
    by_cases e3 : sw + cl9 (lwV (fc4 (nI m) (nI sw) (nI gap) (nI day)) (xL x)) ≤ 30
    · rw [if_pos e3]
      by_cases e4 : sw + cl9 (lwV (fc4 (nI m) (nI sw) (nI gap) (nI day)) (xL x)) = 30
      · rw [e4]; rfl
      · rw [if_pos ((nI_ltI (by omega) (by omega)).mpr (by omega))]
    · rw [if_neg e3, if_neg (fun h => by have := (nI_ltI (by omega) (by omega)).mp h; omega)]
/-- what a day of damp m adds to a door, as the reference has it -/
def mvs (L : Lw) (wood sw gap m day : Nat) : Int32 := if m ≤ upW wood then (if loW wood ≤ m then 0 else - nI (shW wood)) else nI (cl9 (lwV (fc4 (nI m) (nI sw) (nI gap) (nI day)) L))
theorem mvs_nxt {L : Lw} {wood sw gap m day : Nat} (hw : wood < 4) (h : sw ≤ 30) : (if 0 ≤ nI sw + mvs L wood sw gap m day then (if nI sw + mvs L wood sw gap m day ≤ 30 then nI sw + mvs L wood sw gap m day else 30) else 0) = nI (nxt L wood sw gap m day) := by
  have u1 : upW wood ≤ 6 ∧ loW wood ≤ 4 ∧ shW wood ≤ 3 := (by decide : ∀ v, v < 4 → upW v ≤ 6 ∧ loW v ≤ 4 ∧ shW v ≤ 3) _ hw
  unfold mvs nxt
  by_cases e1 : m ≤ upW wood
  · rw [if_pos e1, if_pos e1]
    by_cases e2 : loW wood ≤ m
    · rw [if_pos e2, if_pos e2, show (0 : Int32) = nI 0 from rfl, show (30 : Int32) = nI 30 from rfl, nI_add, Nat.add_zero, if_pos ((nI_leI (by omega) (by omega)).mpr (by omega)), if_pos ((nI_leI (by omega) (by omega)).mpr (by omega))]
    · rw [if_neg e2, if_neg e2, ← Int32.sub_eq_add_neg]
      by_cases e3 : shW wood ≤ sw
      · rw [pk_sub e3, show (0 : Int32) = nI 0 from rfl, show (30 : Int32) = nI 30 from rfl, if_pos ((nI_leI (by omega) (by omega)).mpr (by omega)), if_pos ((nI_leI (by omega) (by omega)).mpr (by omega))]
      · rw [if_neg (fun h => by
          have := (Int32.le_iff_toInt_le).mp h
          rw [pk_sub_toInt (by omega) (by omega)] at this
          have e0 : (0 : Int32).toInt = 0 := rfl
          omega), show sw - shW wood = 0 by omega]; rfl
  · obtain ⟨k1, -, -⟩ := cl9_ok (lwV (fc4 (nI m) (nI sw) (nI gap) (nI day)) L)
    rw [if_neg e1, if_neg e1, nI_add, show (0 : Int32) = nI 0 from rfl, show (30 : Int32) = nI 30 from rfl, if_pos ((nI_leI (by omega) (by omega)).mpr (by omega))]
    by_cases e3 : sw + cl9 (lwV (fc4 (nI m) (nI sw) (nI gap) (nI day)) L) ≤ 30
    · rw [if_pos ((nI_leI (by omega) (by omega)).mpr e3), if_pos e3]
    · rw [if_neg (fun h => e3 ((nI_leI (by omega) (by omega)).mp h)), if_neg e3]
theorem lwV_cong {L : Lw} (hL : okL L) {f g : Nat → Int32} (h : ∀ k, k < 4 → f k = g k) : lwV f L = lwV g L := by
  unfold lwV
  by_cases h0 : L.1 = 0
  · rw [if_pos h0, if_pos h0]
  · obtain ⟨H, hH⟩ := hL.2 (by omega)
    rw [if_neg h0, if_neg h0]
    have := itG_cong (fun _ _ => True) (evS f L) (evS g L) (K := L.1) (fun k s hk _ => ⟨by
      rcases hH.2.1 k hk with ⟨a, -⟩ | ⟨a, a2, -⟩ | ⟨a, -⟩ | ⟨a, -⟩
      · rw [evS_1 a, evS_1 a]
      · rw [evS_2 a, evS_2 a, h _ a2]
      · rw [evS_3 a, evS_3 a]
      · rw [evS_4 a, evS_4 a], trivial⟩) L.1 0 (0, fun _ => 0) (by omega) trivial
    rw [this]
