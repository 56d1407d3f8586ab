/-! ===== deeds, on any state of either program ===== -/
def gSet (h : HS) (d g : Nat) : HS := (sDay h, sWed h, fun e => if e = d then g else sGap h e, sSw h, sPl h)
def wSet (h : HS) (y : Int32) : HS := (sDay h, y, sGap h, sSw h, sPl h)
def lSet (h : HS) (a r : Nat) : HS := (sDay h, sWed h, sGap h, sSw h, fun q => if q = a then r else sPl h q)
section DEEDS
variable {p : HP} {x : HX} {h : HS} {H : HI} {M N : mM}
theorem okS_g (hh : okS p h) {d g : Nat} (hg : g ≤ 30) : okS p (gSet h d g) := ⟨hh.1, fun e he => ⟨by show (if e = d then g else sGap h e) ≤ 30; split; exact hg; exact (hh.2.1 e he).1, (hh.2.1 e he).2⟩, hh.2.2⟩
theorem okS_w (hh : okS p h) (y : Int32) : okS p (wSet h y) := hh
theorem okS_l (hh : okS p h) {a r : Nat} (hr : r < pR p) : okS p (lSet h a r) := ⟨hh.1, hh.2.1, fun q hq => by show (if q = a then r else sPl h q) < pR p; split; exact hr; exact hh.2.2 q hq⟩
theorem StC.g {o : Nat} (hs : StC M o p h) (d g : Nat) : StC (wI M (o + 1) d (nI g)) o p (gSet h d g) := by
  obtain ⟨a, b, c, e⟩ := hs
  have e1 : ∀ k, k ≠ o + 1 → (wI M (o + 1) d (nI g)).1 k = M.1 k := fun k hk => by rw [wI_set, setC_ne _ _ hk]
  refine ⟨by rw [e1 _ (by omega)]; exact a, by rw [e1 _ (by omega)]; exact b, fun q hq => ⟨?_, by rw [e1 _ (by omega)]; exact (c q hq).2⟩, fun q hq => by rw [e1 _ (by omega)]; exact e q hq⟩
  rw [wI_set, setC_at]
  show _ = nI (if q = d then g else sGap h q)
  by_cases r : q = d
  · subst r; rw [upd_at, if_pos rfl]
  · rw [upd_ne _ _ r, if_neg r]; exact (c q hq).1
theorem StC.w {o : Nat} (hs : StC M o p h) (y : Int32) : StC (wI M o 2 y) o p (wSet h y) := by
  obtain ⟨a, b, c, e⟩ := hs
  have e1 : ∀ k, k ≠ o → (wI M o 2 y).1 k = M.1 k := fun k hk => by rw [wI_set, setC_ne _ _ hk]
  refine ⟨by rw [wI_set, setC_at, upd_ne _ _ (by decide)]; exact a, by rw [wI_set, setC_at, upd_at]; rfl, fun q hq => ⟨by rw [e1 _ (by omega)]; exact (c q hq).1, by rw [e1 _ (by omega)]; exact (c q hq).2⟩, fun q hq => by rw [e1 _ (by omega)]; exact e q hq⟩
theorem StC.l {o : Nat} (hs : StC M o p h) (k r : Nat) : StC (wI M (o + 3) k (nI r)) o p (lSet h k r) := by
  obtain ⟨a, b, c, e⟩ := hs
  have e1 : ∀ z, z ≠ o + 3 → (wI M (o + 3) k (nI r)).1 z = M.1 z := fun z hz => by rw [wI_set, setC_ne _ _ hz]
  refine ⟨by rw [e1 _ (by omega)]; exact a, by rw [e1 _ (by omega)]; exact b, fun q hq => ⟨by rw [e1 _ (by omega)]; exact (c q hq).1, by rw [e1 _ (by omega)]; exact (c q hq).2⟩, fun q hq => ?_⟩
  rw [wI_set, setC_at]
  show _ = nI (if q = k then r else sPl h q)
  by_cases z : q = k
  · subst z; rw [upd_at, if_pos rfl]
  · rw [upd_ne _ _ z, if_neg z]; exact e q hq
theorem StR.g {b : Nat} (hp : okP p) (hs : StR M b p h) {d : Nat} (hd : d < pD p) (g : Nat) : StR (wI M 179 (b + 2 + d) (nI g)) b p (gSet h d g) := by
  have hD := hp.2.1
  obtain ⟨a, b1, c, e⟩ := hs
  have e1 : ∀ k, k ≠ b + 2 + d → (wI M 179 (b + 2 + d) (nI g)).1 179 k = M.1 179 k := fun k hk => by rw [wI_set, setC_at, upd_ne _ _ hk]
  refine ⟨by rw [e1 _ (by omega)]; exact a, by rw [e1 _ (by omega)]; exact b1, fun q hq => ⟨?_, by rw [e1 _ (by omega)]; exact (c q hq).2⟩, fun q hq => by rw [e1 _ (by omega)]; exact e q hq⟩
  show _ = nI (if q = d then g else sGap h q)
  by_cases r : q = d
  · subst r; rw [wI_set, setC_at, upd_at, if_pos rfl]
  · rw [e1 _ (by omega), if_neg r]; exact (c q hq).1
theorem StR.w {b : Nat} (hs : StR M b p h) (y : Int32) : StR (wI M 179 (b + 1) y) b p (wSet h y) := by
  obtain ⟨a, b1, c, e⟩ := hs
  have e1 : ∀ k, k ≠ b + 1 → (wI M 179 (b + 1) y).1 179 k = M.1 179 k := fun k hk => by rw [wI_set, setC_at, upd_ne _ _ hk]
  exact ⟨by rw [e1 _ (by omega)]; exact a, by rw [wI_set, setC_at, upd_at]; rfl, fun q hq => ⟨by rw [e1 _ (by omega)]; exact (c q hq).1, by rw [e1 _ (by omega)]; exact (c q hq).2⟩, fun q hq => by rw [e1 _ (by omega)]; exact e q hq⟩
theorem StR.l {b : Nat} (hp : okP p) (hs : StR M b p h) {k : Nat} (hk : k < pP p) (r : Nat) : StR (wI M 179 (b + 18 + k) (nI r)) b p (lSet h k r) := by
  have hD := hp.2.1
  obtain ⟨a, b1, c, e⟩ := hs
  have e1 : ∀ z, z ≠ b + 18 + k → (wI M 179 (b + 18 + k) (nI r)).1 179 z = M.1 179 z := fun z hz => by rw [wI_set, setC_at, upd_ne _ _ hz]
  refine ⟨by rw [e1 _ (by omega)]; exact a, by rw [e1 _ (by omega)]; exact b1, fun q hq => ⟨by rw [e1 _ (by omega)]; exact (c q hq).1, by rw [e1 _ (by omega)]; exact (c q hq).2⟩, fun q hq => ?_⟩
  show _ = nI (if q = k then r else sPl h q)
  by_cases z : q = k
  · subst z; rw [wI_set, setC_at, upd_at, if_pos rfl]
  · rw [e1 _ (by omega), if_neg z]; exact e q hq
/-- the room behind door d as a number, from r -/
def bhn (p : HP) (d r : Nat) : Nat := if pA p d = r then pB p d else pA p d
def wkq (p : HP) (h : HS) (a d : Nat) : Bool := !stk h d && adj p (sPl h a) d
theorem bhd_adj (hp : okP p) {d r : Nat} (hd : d < pD p) (e : adj p r d = true) : bhd p d r = nI (bhn p d r) := by
  unfold adj at e
  unfold bhd bhn
  by_cases q : pA p d = r
  · rw [if_pos q, if_pos q]
  · rw [decide_eq_false q, Bool.false_or, decide_eq_true_eq] at e
    rw [if_neg q, if_pos e, if_neg q]
theorem bhd_no {d r : Nat} (e : adj p r d = false) : bhd p d r = -1 := by
  unfold adj at e
  rw [Bool.or_eq_false_iff, decide_eq_false_iff_not, decide_eq_false_iff_not] at e
  unfold bhd
  rw [if_neg e.1, if_neg e.2]
theorem bhn_lt (hp : okP p) {d : Nat} (hd : d < pD p) (r : Nat) : bhn p d r < pR p := by
  obtain ⟨a, b, -⟩ := hp.2.2.2.1 d hd
  unfold bhn; split <;> assumption
theorem X6_roomBehind_eq (w : Nat) (hp : okP p) (hc : PlC M 1 p) {d r : Nat} (hd : d < pD p) (hr : r < 100) : f_X6_roomBehind w 1 (nI d) (nI r) M = some (bhd p d r, M) := by
  have hD := hp.2.1
  have hR := hp.1
  obtain ⟨ha, hb, -⟩ := hp.2.2.2.1 d hd
  obtain ⟨a1, a2, -⟩ := hc.2.2.2.1 d hd
  have a1 : M.1 5 d = _ := a1
  have a2 : M.1 6 d = _ := a2
  unfold f_X6_roomBehind bhd
  rw [r1_7, r1_8, l5, l6, chk_nI _ (by omega) (by omega), chk_nI _ (by omega) (by omega), chk_nI _ (by omega) (by omega), chk_nI _ (by omega) (by omega), nI_clamp (by omega), a1, a2]
  by_cases q : pA p d = r
  · rw [if_pos (by rw [q]), if_pos q]
  · rw [if_neg (fun e => q ((nI_eq (by omega) (by omega)).mp e)), if_neg q]
    by_cases q2 : pB p d = r
    · rw [if_pos (by rw [q2]), if_pos q2]
    · rw [if_neg (fun e => q2 ((nI_eq (by omega) (by omega)).mp e)), if_neg q2]
theorem m1_ne : ∀ n : Nat, n < 1000 → ¬ nI n = -1 := fun n hn e => by
  have h1 : nI n < 0 := by rw [e]; decide
  exact nI_pos (by omega) h1
def fcq (h : HS) (d : Nat) : Bool := stk h d && decide (sSw h d ≤ sGap h d + 2)
theorem X9_canWalk_no {o : Nat} (ho : o ∈ [31, 35, 41, 45, 49, 53, 57, 61, 65, 69, 73, 77, 81, 85, 89, 93, 97, 101, 119, 130, 141, 152]) (hp : okP p) (hh : okS p h) (hc : PlC M 1 p) (hs : StC M o p h) (w : Nat) {a d : Int32} (q : (a < 0 ∨ nI (pP p) ≤ a) ∨ (d < 0 ∨ nI (pD p) ≤ d)) : f_X9_canWalk w o a d M = some (0, M) := by
  have hP := hp.2.2.1
  unfold f_X9_canWalk
  rw [(stF o ho).1, X6_hasPerson_eq w a hc]
  rcases ix3 a (show pP p < 2 ^ 31 by omega) with qa | ⟨i, hi, rfl⟩
  · rw [has_no qa]; rfl
  · rw [has_yes hi (by omega), bI_some, if_neg (by decide), X6_hasDoor_eq w d hc]
    rcases q with q | q
    · rcases q with q | q
      · exact absurd q (nI_pos (by omega))
      · exact absurd q (nI_ge hi (by omega))
    · rw [has_no q]; rfl
theorem X9_canWalk_in {o : Nat} (ho : o ∈ [31, 35, 41, 45, 49, 53, 57, 61, 65, 69, 73, 77, 81, 85, 89, 93, 97, 101, 119, 130, 141, 152]) (hp : okP p) (hh : okS p h) (hc : PlC M 1 p) (hs : StC M o p h) (w : Nat) {i j : Nat} (hi : i < pP p) (hj : j < pD p) : f_X9_canWalk w o (nI i) (nI j) M = some (b2i (wkq p h i j), M) := by
  have hP := hp.2.2.1
  have hD := hp.2.1
  have hR := hp.1
  have hpl := hh.2.2 i hi
  have g := hs.2.2.2 i hi
  unfold f_X9_canWalk
  rw [(stF o ho).1, X6_hasPerson_eq w _ hc, has_yes hi (by omega), bI_some, if_neg (by decide), X6_hasDoor_eq w _ hc, has_yes hj (by omega), bI_some, if_neg (by decide), X9_isStuck_eq w ho hp hh hs hj, bI_some, (stF o ho).2.2.2.1, (stF o ho).2.2.2.2.2.2, chk_nI _ (by omega) (by omega), nI_clamp (by omega), g, X6_roomBehind_eq w hp hc hj (by omega), bI_some]
  unfold wkq
  cases stk h j
  · rw [if_pos (show b2i false = 0 from rfl)]
    cases ea : adj p (sPl h i) j
    · rw [bhd_no ea, if_pos rfl]; rfl
    · have := bhn_lt hp hj (sPl h i)
      rw [bhd_adj hp hj ea, if_neg (m1_ne _ (by omega))]; rfl
  · rfl
theorem X9_makeWalk_in {o : Nat} (ho : o ∈ [31, 35, 41, 45, 49, 53, 57, 61, 65, 69, 73, 77, 81, 85, 89, 93, 97, 101, 119, 130, 141, 152]) (hp : okP p) (hh : okS p h) (hc : PlC M 1 p) (hs : StC M o p h) (w : Nat) {i j : Nat} (hi : i < pP p) (hj : j < pD p) (e : adj p (sPl h i) j = true) : f_X9_makeWalk w o (nI i) (nI j) M = some (wI M (o + 3) i (nI (bhn p j (sPl h i)))) := by
  have hP := hp.2.2.1
  have hR := hp.1
  have hpl := hh.2.2 i hi
  have g := hs.2.2.2 i hi
  unfold f_X9_makeWalk
  rw [(stF o ho).1, (stF o ho).2.2.2.1, (stF o ho).2.2.2.2.2.2, chk_nI _ (by omega) (by omega), nI_clamp (by omega), g, X6_roomBehind_eq w hp hc hj (by omega), bI_some, chk_nI _ (by omega) (by omega), bhd_adj hp hj e, lt_eq]
theorem X9_canPlane_no {o : Nat} (ho : o ∈ [31, 35, 41, 45, 49, 53, 57, 61, 65, 69, 73, 77, 81, 85, 89, 93, 97, 101, 119, 130, 141, 152]) (hp : okP p) (hh : okS p h) (hc : PlC M 1 p) (hs : StC M o p h) (w : Nat) {d : Int32} (q : d < 0 ∨ nI (pD p) ≤ d) : f_X9_canPlane w o d M = some (0, M) := by
  unfold f_X9_canPlane
  rw [(stF o ho).1, X6_hasDoor_eq w d hc, has_no q]; rfl
theorem X9_canPlane_in {o : Nat} (ho : o ∈ [31, 35, 41, 45, 49, 53, 57, 61, 65, 69, 73, 77, 81, 85, 89, 93, 97, 101, 119, 130, 141, 152]) (hp : okP p) (hh : okS p h) (hc : PlC M 1 p) (hs : StC M o p h) (w : Nat) {j : Nat} (hj : j < pD p) : f_X9_canPlane w o (nI j) M = some (b2i (decide (sGap h j < 20)), M) := by
  have hD := hp.2.1
  have hb := (hh.2.1 j hj).1
  have g := (hs.2.2.1 j hj).1
  unfold f_X9_canPlane
  rw [(stF o ho).1, X6_hasDoor_eq w _ hc, has_yes hj (by omega), bI_some, if_neg (by decide), (stF o ho).2.1, (stF o ho).2.2.2.2.1, chk_nI _ (by omega) (by omega), nI_clamp (by omega), g]
  by_cases q : sGap h j < 20
  · rw [if_neg (show ¬ (20 : Int32) ≤ nI _ from fun e => by have := (nI_leI (a := 20) (by omega) (by omega)).mp e; omega), decide_eq_true q]; rfl
  · rw [if_pos (show (20 : Int32) ≤ nI _ from (nI_leI (a := 20) (by omega) (by omega)).mpr (by omega)), decide_eq_false q]; rfl
theorem X9_makePlaning_in {o : Nat} (ho : o ∈ [31, 35, 41, 45, 49, 53, 57, 61, 65, 69, 73, 77, 81, 85, 89, 93, 97, 101, 119, 130, 141, 152]) (hp : okP p) (hh : okS p h) (hc : PlC M 1 p) (hs : StC M o p h) (w : Nat) {j : Nat} (hj : j < pD p) : f_X9_makePlaning w o (nI j) M = some (wI M (o + 1) j (nI (sGap h j + 1))) := by
  have hD := hp.2.1
  have g := (hs.2.2.1 j hj).1
  unfold f_X9_makePlaning
  rw [(stF o ho).2.1, (stF o ho).2.2.2.2.1, chk_nI _ (by omega) (by omega), chk_nI _ (by omega) (by omega), nI_clamp (by omega), g, nI_1, lt_eq]
theorem X9_canWedge_no {o : Nat} (ho : o ∈ [31, 35, 41, 45, 49, 53, 57, 61, 65, 69, 73, 77, 81, 85, 89, 93, 97, 101, 119, 130, 141, 152]) (hp : okP p) (hh : okS p h) (hc : PlC M 1 p) (hs : StC M o p h) (w : Nat) {d : Int32} (q : d < 0 ∨ nI (pD p) ≤ d) : f_X9_canWedge w o d M = some (0, M) := by
  unfold f_X9_canWedge
  rw [(stF o ho).1, X6_hasDoor_eq w d hc, has_no q]; rfl
theorem X9_canWedge_in {o : Nat} (ho : o ∈ [31, 35, 41, 45, 49, 53, 57, 61, 65, 69, 73, 77, 81, 85, 89, 93, 97, 101, 119, 130, 141, 152]) (hp : okP p) (hh : okS p h) (hc : PlC M 1 p) (hs : StC M o p h) (w : Nat) {j : Nat} (hj : j < pD p) : f_X9_canWedge w o (nI j) M = some (b2i (!stk h j), M) := by
  have hD := hp.2.1
  unfold f_X9_canWedge
  rw [(stF o ho).1, X6_hasDoor_eq w _ hc, has_yes hj (by omega), bI_some, if_neg (by decide), X9_isStuck_eq w ho hp hh hs hj, bI_some]
  cases stk h j <;> rfl
theorem X9_turnWedge_in {o : Nat} (ho : o ∈ [31, 35, 41, 45, 49, 53, 57, 61, 65, 69, 73, 77, 81, 85, 89, 93, 97, 101, 119, 130, 141, 152]) (hp : okP p) (hh : okS p h) (hc : PlC M 1 p) (hs : StC M o p h) (w : Nat) (j : Nat) : f_X9_turnWedge w o (nI j) M = some (wI M o 2 (sWed h ^^^ one j)) := by
  unfold f_X9_turnWedge
  rw [hs.2.1, lt_eq]; rfl
theorem X9_canForce_no {o : Nat} (ho : o ∈ [31, 35, 41, 45, 49, 53, 57, 61, 65, 69, 73, 77, 81, 85, 89, 93, 97, 101, 119, 130, 141, 152]) (hp : okP p) (hh : okS p h) (hc : PlC M 1 p) (hs : StC M o p h) (w : Nat) {d : Int32} (q : d < 0 ∨ nI (pD p) ≤ d) : f_X9_canForce w o d M = some (0, M) := by
  unfold f_X9_canForce
  rw [(stF o ho).1, X6_hasDoor_eq w d hc, has_no q]; rfl
theorem X9_canForce_in {o : Nat} (ho : o ∈ [31, 35, 41, 45, 49, 53, 57, 61, 65, 69, 73, 77, 81, 85, 89, 93, 97, 101, 119, 130, 141, 152]) (hp : okP p) (hh : okS p h) (hc : PlC M 1 p) (hs : StC M o p h) (w : Nat) {j : Nat} (hj : j < pD p) : f_X9_canForce w o (nI j) M = some (b2i (fcq h j), M) := by
  have hD := hp.2.1
  obtain ⟨b1, b2⟩ := hh.2.1 j hj
  obtain ⟨g1, g2⟩ := hs.2.2.1 j hj
  unfold f_X9_canForce
  rw [(stF o ho).1, X6_hasDoor_eq w _ hc, has_yes hj (by omega), bI_some, if_neg (by decide), X9_isStuck_eq w ho hp hh hs hj, bI_some, (stF o ho).2.1, (stF o ho).2.2.1, (stF o ho).2.2.2.2.1, (stF o ho).2.2.2.2.2.1, chk_nI _ (by omega) (by omega), chk_nI _ (by omega) (by omega), nI_clamp (by omega), g1, g2]
  unfold fcq
  cases es : stk h j
  · rfl
  · have hlt : sGap h j < sSw h j := by
      unfold stk at es
      rw [Bool.and_eq_true, decide_eq_true_eq] at es; exact es.1
    rw [if_neg (show ¬ b2i true = 0 by decide), pk_sub (by omega)]
    by_cases q : sSw h j ≤ sGap h j + 2
    · rw [if_neg (show ¬ (2 : Int32) < nI _ from fun e => by have := (nI_ltI (a := 2) (by omega) (by omega)).mp e; omega), decide_eq_true q]; rfl
    · rw [if_pos (show (2 : Int32) < nI _ from (nI_ltI (a := 2) (by omega) (by omega)).mpr (by omega)), decide_eq_false q]; rfl
theorem X9_makeForcing_in {o : Nat} (ho : o ∈ [31, 35, 41, 45, 49, 53, 57, 61, 65, 69, 73, 77, 81, 85, 89, 93, 97, 101, 119, 130, 141, 152]) (hp : okP p) (hh : okS p h) (hc : PlC M 1 p) (hs : StC M o p h) (w : Nat) {j : Nat} (hj : j < pD p) : f_X9_makeForcing w o (nI j) M = some (wI M (o + 1) j (nI (sSw h j))) := by
  have hD := hp.2.1
  have g := (hs.2.2.1 j hj).2
  unfold f_X9_makeForcing
  rw [(stF o ho).2.1, (stF o ho).2.2.1, (stF o ho).2.2.2.2.1, (stF o ho).2.2.2.2.2.1, chk_nI _ (by omega) (by omega), chk_nI _ (by omega) (by omega), nI_clamp (by omega), g, lt_eq]
theorem X12_mayWalk_in {b : Nat} (hb : b ≤ 1430) (hp : okP p) (hh : okS p h) (hc : PlR M 0 p) (hs : StR M b p h) (w : Nat) {i j : Nat} (hi : i < pP p) (hj : j < pD p) : f_X12_mayWalk w 163 (nI b) (nI i) (nI j) M = some (b2i (wkq p h i j), M) := by
  have hP := hp.2.2.1
  have hR := hp.1
  have hpl := hh.2.2 i hi
  have g := hs.2.2.2 i hi
  unfold f_X12_mayWalk
  rw [X12_doesStick_eq w hb hp hh hs hj, bI_some, show nI b + 18 + nI i = nI (b + 18 + i) by show nI b + nI 18 + nI i = _; rw [nI_add, nI_add], r163_24, l179, chk_nI _ (by omega) (by omega), nI_clamp (by omega), g, X12_behind_eq w hp hc hj (by omega), bI_some]
  unfold wkq
  cases stk h j
  · rw [if_pos (show b2i false = 0 from rfl)]
    cases ea : adj p (sPl h i) j
    · rw [bhd_no ea, if_pos (by decide)]; rfl
    · have := bhn_lt hp hj (sPl h i)
      rw [bhd_adj hp hj ea, if_neg (nI_pos (by omega))]; rfl
  · rfl
theorem X12_walks_in {b : Nat} (hb : b ≤ 1430) (hp : okP p) (hh : okS p h) (hc : PlR M 0 p) (hs : StR M b p h) (w : Nat) {i j : Nat} (hi : i < pP p) (hj : j < pD p) (e : adj p (sPl h i) j = true) : f_X12_walks w 163 (nI b) (nI i) (nI j) M = some (wI M 179 (b + 18 + i) (nI (bhn p j (sPl h i)))) := by
  have hP := hp.2.2.1
  have hR := hp.1
  have hpl := hh.2.2 i hi
  have g := hs.2.2.2 i hi
  unfold f_X12_walks
  rw [show nI b + 18 + nI i = nI (b + 18 + i) by show nI b + nI 18 + nI i = _; rw [nI_add, nI_add], r163_24, l179, chk_nI _ (by omega) (by omega), nI_clamp (by omega), g, X12_behind_eq w hp hc hj (by omega), bI_some, chk_nI _ (by omega) (by omega), bhd_adj hp hj e, lt_eq]
theorem X12_mayWedge_in {b : Nat} (hb : b ≤ 1430) (hp : okP p) (hh : okS p h) (hc : PlR M 0 p) (hs : StR M b p h) (w : Nat) {j : Nat} (hj : j < pD p) : f_X12_mayWedge w 163 (nI b) (nI j) M = some (b2i (!stk h j), M) := by
  unfold f_X12_mayWedge f_X12_mayWedge_18
  rw [X12_isWedged_eq w hb, bI_some, X12_doesStick_eq w hb hp hh hs hj, bI_some, hs.2.1]
  cases ew : bit (sWed h) j
  · rw [if_pos (show b2i false = 0 from rfl)]
    cases stk h j <;> rfl
  · have : stk h j = false := by unfold stk; rw [ew]; simp
    rw [if_neg (show ¬ b2i true = 0 by decide), this]; rfl
theorem X12_mayForce_in {b : Nat} (hb : b ≤ 1430) (hp : okP p) (hh : okS p h) (hc : PlR M 0 p) (hs : StR M b p h) (w : Nat) {j : Nat} (hj : j < pD p) : f_X12_mayForce w 163 (nI b) (nI j) M = some (b2i (fcq h j), M) := by
  obtain ⟨b1, b2⟩ := hh.2.1 j hj
  unfold f_X12_mayForce
  rw [X12_doesStick_eq w hb hp hh hs hj, bI_some, X12_overOf_eq w hb hp hs hj, bI_some]
  unfold fcq
  cases es : stk h j
  · rfl
  · have hlt : sGap h j < sSw h j := by
      unfold stk at es
      rw [Bool.and_eq_true, decide_eq_true_eq] at es; exact es.1
    rw [if_neg (show ¬ b2i true = 0 by decide), pk_sub (by omega)]
    by_cases q : sSw h j ≤ sGap h j + 2
    · rw [if_neg (show ¬ (2 : Int32) < nI _ from fun e => by have := (nI_ltI (a := 2) (by omega) (by omega)).mp e; omega), decide_eq_true q]; rfl
    · rw [if_pos (show (2 : Int32) < nI _ from (nI_ltI (a := 2) (by omega) (by omega)).mpr (by omega)), decide_eq_false q]; rfl
end DEEDS
