/-! ===== a day passes ===== -/
/-- a loop whose rounds are known by what they keep alone -/
theorem loopX {σ α : Type} (I : Nat → σ → Prop) (F : Nat → σ → Nat → α) (K : Nat) (Q : α → Prop) (h0 : ∀ n s, I K s → Q (F (n + 1) s K)) (h1 : ∀ n s k, k < K → I k s → Q (F (n + 1) s k) ∨ ∃ t, F (n + 1) s k = F n t (k + 1) ∧ I (k + 1) t) : ∀ j n k s, k + j = K → j < n → I k s → Q (F n s k) := by
  intro j
  induction j with
  | zero =>
    intro n k s hk hn hi
    obtain ⟨n, rfl⟩ : ∃ m, n = m + 1 := ⟨n - 1, by omega⟩
    have hk : k = K := by omega
    subst hk
    exact h0 n s hi
  | succ j ih =>
    intro n k s hk hn hi
    obtain ⟨n, rfl⟩ : ∃ m, n = m + 1 := ⟨n - 1, by omega⟩
    rcases h1 n s k (by omega) hi with e | ⟨t, e2, e3⟩
    · exact e
    · rw [e2]; exact ih n (k + 1) t (by omega) (by omega) e3
/-- M and N differ in the cells X alone -/
def Fr (X : List Nat) (M N : mM) : Prop := (∀ c, c ∉ X → N.1 c = M.1 c) ∧ N.2 = M.2
theorem Fr.rf (X : List Nat) (M : mM) : Fr X M M := ⟨fun _ _ => rfl, rfl⟩
theorem Fr.tr {X : List Nat} {M N K : mM} (h1 : Fr X M N) (h2 : Fr X N K) : Fr X M K := ⟨fun c hc => (h2.1 c hc).trans (h1.1 c hc), h2.2.trans h1.2⟩
theorem Fr.mono {X Y : List Nat} {M N : mM} (h : Fr X M N) (hs : ∀ c, c ∈ X → c ∈ Y) : Fr Y M N := ⟨fun c hc => h.1 c (fun q => hc (hs c q)), h.2⟩
theorem Fr.set {X : List Nat} {M N : mM} (h : Fr X M N) {c : Nat} (hc : c ∈ X) (s : Nat → Int32) : Fr X M (setC N c s) := ⟨fun a ha => by rw [setC_ne _ _ (fun e => ha (by rw [e]; exact hc))]; exact h.1 a ha, h.2⟩
theorem Fr.wI {X : List Nat} {M N : mM} (h : Fr X M N) {c : Nat} (hc : c ∈ X) (k : Nat) (v : Int32) : Fr X M (wI N c k v) := by rw [wI_set]; exact h.set hc _
section PASS
variable {p : HP} {x : HX} {h : HS} {M N : mM}
theorem PlC.fr (hc : PlC M 1 p) (e : ∀ c, c ≤ 8 → N.1 c = M.1 c) : PlC N 1 p := by
  unfold PlC at hc ⊢
  rw [e 1 (by omega), e (1 + 3) (by omega), e (1 + 4) (by omega), e (1 + 5) (by omega), e (1 + 6) (by omega), e (1 + 7) (by omega)]
  exact hc
theorem XC.fr (hc : XC M 1 x) (e : ∀ c, c ≤ 11 → N.1 c = M.1 c) : XC N 1 x := by
  unfold XC LwC at hc ⊢
  rw [e 1 (by omega), e (1 + 8) (by omega), e (1 + 9) (by omega), e (1 + 9 + 1) (by omega)]
  exact hc
theorem PlR.fr {b : Nat} (hc : PlR M b p) (e : N.1 169 = M.1 169) : PlR N b p := by
  unfold PlR at hc ⊢; rw [e]; exact hc
theorem XR.fr {b a : Nat} (hc : XR M b a x) (e : N.1 169 = M.1 169) (e1 : N.1 170 = M.1 170) (e2 : N.1 171 = M.1 171) : XR N b a x := by
  unfold XR LwR at hc ⊢; rw [e, e1, e2]; exact hc
theorem StC.fr {o : Nat} (hc : StC M o p h) (e : ∀ c, o ≤ c → c ≤ o + 3 → N.1 c = M.1 c) : StC N o p h := by
  unfold StC at hc ⊢
  rw [e o (by omega) (by omega), e (o + 1) (by omega) (by omega), e (o + 2) (by omega) (by omega), e (o + 3) (by omega) (by omega)]
  exact hc
theorem StR.fr {b : Nat} (hp : okP p) (hc : StR M b p h) (e : ∀ j, b ≤ j → j < b + 23 → N.1 179 j = M.1 179 j) : StR N b p h := by
  have hD := hp.2.1
  have hP := hp.2.2.1
  obtain ⟨h1, h2, h3, h4⟩ := hc
  refine ⟨by rw [e b (by omega) (by omega)]; exact h1, by rw [e (b + 1) (by omega) (by omega)]; exact h2, fun d hd => ?_, fun q hq => ?_⟩
  · rw [e (b + 2 + d) (by omega) (by omega), e (b + 10 + d) (by omega) (by omega)]; exact h3 d hd
  · rw [e (b + 18 + q) (by omega) (by omega)]; exact h4 q hq
/-- the state behind a day of damp m -/
def nx (p : HP) (x : HX) (m : Nat) (h : HS) : HS := (sDay h + 1, sWed h, sGap h, fun d => nxt (xL x) (pW p d) (sSw h d) (sGap h d) m (sDay h), sPl h)
theorem okS_nx {m : Nat} (hh : okS p h) (hd : sDay h + 1 < 100000) : okS p (nx p x m h) := ⟨hd, fun d hd => ⟨(hh.2.1 d hd).1, nxt_le (hh.2.1 d hd).2⟩, hh.2.2⟩
theorem X12_moves_eq (w : Nat) (hw : 1100 ≤ w) (hp : okP p) (hx : okX x) (hc : PlR M 0 p) (hxc : XR M 0 0 x) {b d sw gap m day : Nat} (hb : b ≤ 1430) (hd : d < pD p) (h1 : M.1 179 (b + 10 + d) = nI sw) (h2 : M.1 179 (b + 2 + d) = nI gap) (h3 : M.1 179 b = nI day) (hm : m ≤ 9) : ∃ t s, f_X12_moves w 163 (nI b) (nI d) (nI m) M = some (mvs (xL x) (pW p d) sw gap m day, setC (setC M 177 t) 178 s) := by
  have hD := hp.2.1
  have hW := (hp.2.2.2.1 d hd).2.2.1
  have g : M.1 169 (7 + 4 * d) = nI (pW p d) := by
    have := (hc.2.2.2.1 d hd).2.2.1
    rw [Nat.zero_add] at this; exact this
  have u1 : upW (pW p d) ≤ 6 ∧ loW (pW p d) ≤ 4 ∧ shW (pW p d) ≤ 3 := (by decide : ∀ v, v < 4 → upW v ≤ 6 ∧ loW v ≤ 4 ∧ shW v ≤ 3) _ hW
  have e71 : ∃ t s, f_X12_moves_71 w 163 (nI b) (nI d) (nI m) (nI (pW p d)) (nI (upW (pW p d))) (nI (loW (pW p d))) M = some (mvs (xL x) (pW p d) sw gap m day, setC (setC M 177 t) 178 s) := by
    unfold f_X12_moves_71 mvs
    by_cases e1 : m ≤ upW (pW p d)
    · refine ⟨M.1 177, M.1 178, ?_⟩
      rw [if_neg (fun h => by have := (nI_ltI (by omega) (by omega)).mp h; omega), if_pos e1, setC_id, setC_id]
      by_cases e2 : loW (pW p d) ≤ m
      · rw [if_neg (fun h => by have := (nI_ltI (by omega) (by omega)).mp h; omega), if_pos e2]
      · rw [if_pos ((nI_ltI (by omega) (by omega)).mpr (by omega)), if_neg e2]
        have : ∀ v, v < 4 → (if nI v = 1 then some ((-2 : Int32), M) else if nI v = 2 then some (-3, M) else some (-1, M)) = some (- nI (shW v), M) := by
          intro v hv
          have : v = 0 ∨ v = 1 ∨ v = 2 ∨ v = 3 := by omega
          rcases this with rfl | rfl | rfl | rfl <;> rfl
        exact this _ hW
    · have k0 : nI b + 10 + nI d = nI (b + 10 + d) := by rw [show (10 : Int32) = nI 10 from rfl, nI_add, nI_add]
      have k1 : nI b + 2 + nI d = nI (b + 2 + d) := by rw [show (2 : Int32) = nI 2 from rfl, nI_add, nI_add]
      have k2 : nI b + 0 = nI b := by rw [show (0 : Int32) = nI 0 from rfl, nI_add]; rfl
      rw [if_pos ((nI_ltI (by omega) (by omega)).mpr (by omega)), if_neg e1, k0, k1, k2, r163_22, l177, r163_24, l179, r163_10, l169]
      rw [show (0 : Int32) = nI 0 from rfl, show (1 : Int32) = nI 1 from rfl, show (2 : Int32) = nI 2 from rfl, show (3 : Int32) = nI 3 from rfl, show (4 : Int32) = nI 4 from rfl]
      simp (discharger := omega) only [chk_nI, ltv_s, nI_clamp]
      rw [wI_set M 177 0 (nI m), setC_ne M _ (show 179 ≠ 177 by decide), h1, upd_set, setC_ne M _ (show 179 ≠ 177 by decide), h2, upd_set, setC_ne M _ (show 179 ≠ 177 by decide), h3, upd_set, setC_ne M _ (show 169 ≠ 177 by decide)]
      have hxc2 : XR (setC M 177 (upd (upd (upd (upd (M.1 177) 0 (nI m)) 1 (nI sw)) 2 (nI gap)) 3 (nI day))) 0 0 x := hxc.fr (setC_ne _ _ (by decide)) (setC_ne _ _ (by decide)) (setC_ne _ _ (by decide))
      by_cases h0 : (xL x).1 = 0
      · refine ⟨upd (upd (upd (upd (M.1 177) 0 (nI m)) 1 (nI sw)) 2 (nI gap)) 3 (nI day), (setC M 177 (upd (upd (upd (upd (M.1 177) 0 (nI m)) 1 (nI sw)) 2 (nI gap)) 3 (nI day))).1 178, ?_⟩
        have q := hxc.2.2.1 h0
        rw [Nat.zero_add] at q
        rw [q, if_neg (by decide), setC_id]
        unfold f_X12_moves_190
        have : lwV (fc4 (nI m) (nI sw) (nI gap) (nI day)) (xL x) = 1 := by unfold lwV; rw [if_pos h0]
        rw [this]; rfl
      · have q := (hxc.2.2.2.1 (by omega)).1
        rw [Nat.zero_add] at q
        obtain ⟨s, hs⟩ := X12_worthAt_eq w hw hx.2.2.2 (by omega) hxc2.2.2
        refine ⟨upd (upd (upd (upd (M.1 177) 0 (nI m)) 1 (nI sw)) 2 (nI gap)) 3 (nI day), s, ?_⟩
        rw [q, if_pos (by decide), hs, bI_some, setC_at]
        have e : lwV (upd (upd (upd (upd (M.1 177) 0 (nI m)) 1 (nI sw)) 2 (nI gap)) 3 (nI day)) (xL x) = lwV (fc4 (nI m) (nI sw) (nI gap) (nI day)) (xL x) := lwV_cong hx.2.2.2 fun k hk => by
          have : k = 0 ∨ k = 1 ∨ k = 2 ∨ k = 3 := by omega
          rcases this with rfl | rfl | rfl | rfl
          · rw [upd_ne _ _ (by decide), upd_ne _ _ (by decide), upd_ne _ _ (by decide), upd_at]; rfl
          · rw [upd_ne _ _ (by decide), upd_ne _ _ (by decide), upd_at]; rfl
          · rw [upd_ne _ _ (by decide), upd_at]; rfl
          · rw [upd_at]; rfl
        rw [e]
        obtain ⟨-, -, k3⟩ := cl9_ok (lwV (fc4 (nI m) (nI sw) (nI gap) (nI day)) (xL x))
        unfold f_X12_moves_190
        rw [← k3]
        split
        · split <;> rfl
        · rfl
  obtain ⟨t, s, e71⟩ := e71
  refine ⟨t, s, ?_⟩
  unfold f_X12_moves
  rw [X12_doorOf2 w (by omega), bI_some, g, ← e71]
  have : ∀ v, v < 4 → ∀ N : mM, (if nI v = 0 then f_X12_moves_39 w 163 (nI b) (nI d) (nI m) (nI v) 6 N else if nI v = 1 then f_X12_moves_39 w 163 (nI b) (nI d) (nI m) (nI v) 4 N else if nI v = 2 then f_X12_moves_39 w 163 (nI b) (nI d) (nI m) (nI v) 5 N else f_X12_moves_39 w 163 (nI b) (nI d) (nI m) (nI v) 3 N) = f_X12_moves_71 w 163 (nI b) (nI d) (nI m) (nI v) (nI (upW v)) (nI (loW v)) N := by
    intro v hv N
    have : v = 0 ∨ v = 1 ∨ v = 2 ∨ v = 3 := by omega
    rcases this with rfl | rfl | rfl | rfl <;> rfl
  exact this _ hW M
theorem X12_passes_eq (w : Nat) (hw : 1100 ≤ w) (hp : okP p) (hx : okX x) (hh : okS p h) (hc : PlR M 0 p) (hxc : XR M 0 0 x) {b m : Nat} (hb : b ≤ 1430) (hs : StR M b p h) (hm : m ≤ 9) : ∃ N, f_X12_passes w 163 (nI b) (nI m) M = some N ∧ Fr [177, 178, 179] M N ∧ StR N b p (nx p x m h) ∧ ∀ j, (j < b ∨ b + 23 ≤ j) → N.1 179 j = M.1 179 j := by
  have hD := hp.2.1
  have hP := hp.2.2.1
  have hDc : ∀ N, Fr [177, 178, 179] M N → N.1 169 1 = nI (pD p) := fun N f => by rw [f.1 169 (by decide)]; exact hc.2.1
  unfold f_X12_passes
  refine loopX (fun k N => Fr [177, 178, 179] M N ∧ (∀ j, (j < b + 10 ∨ b + 10 + k ≤ j) → N.1 179 j = M.1 179 j) ∧ ∀ d, d < k → N.1 179 (b + 10 + d) = nI (nxt (xL x) (pW p d) (sSw h d) (sGap h d) m (sDay h))) (fun n N k => f_X12_passes_2 w n 163 (nI b) (nI m) (nI k) N) (pD p) (fun r => ∃ N, r = some N ∧ Fr [177, 178, 179] M N ∧ StR N b p (nx p x m h) ∧ ∀ j, (j < b ∨ b + 23 ≤ j) → N.1 179 j = M.1 179 j) ?_ ?_ (pD p) w 0 M (by omega) (by omega) ⟨Fr.rf _ _, fun _ _ => rfl, fun d hd => by omega⟩
  · rintro n N ⟨f, i1, i2⟩
    rw [f_X12_passes_2, X12_doors_eq, bI_some, hDc N f, if_pos (Int32.le_refl _)]
    unfold f_X12_passes_71
    rw [r163_24, l179, show nI b + 0 = nI b by rw [show (0 : Int32) = nI 0 from rfl, nI_add]; rfl, chk_nI _ (by omega) (by omega), chk_nI _ (by omega) (by omega), nI_clamp (by omega), lt_eq, i1 b (by omega), hs.1, nI_1, wI_set]
    refine ⟨_, rfl, f.set (by decide) _, ⟨?_, ?_, fun d hd => ⟨?_, ?_⟩, fun q hq => ?_⟩, fun j hj => ?_⟩
    · rw [setC_at, upd_at]; rfl
    · rw [setC_at, upd_ne _ _ (by omega), i1 _ (by omega)]; exact hs.2.1
    · rw [setC_at, upd_ne _ _ (by omega), i1 _ (by omega)]; exact (hs.2.2.1 d hd).1
    · rw [setC_at, upd_ne _ _ (by omega), i2 d hd]; rfl
    · rw [setC_at, upd_ne _ _ (by omega), i1 _ (by omega)]; exact hs.2.2.2 q hq
    · rw [setC_at, upd_ne _ _ (by omega), i1 _ (by omega)]
  · rintro n N k hk ⟨f, i1, i2⟩
    refine Or.inr ?_
    have hpN : PlR N 0 p := hc.fr (f.1 169 (by decide))
    have hxN : XR N 0 0 x := hxc.fr (f.1 169 (by decide)) (f.1 170 (by decide)) (f.1 171 (by decide))
    have hW := (hp.2.2.2.1 k hk).2.2.1
    have g1 : N.1 179 (b + 10 + k) = nI (sSw h k) := by rw [i1 _ (by omega)]; exact (hs.2.2.1 k hk).2
    have g2 : N.1 179 (b + 2 + k) = nI (sGap h k) := by rw [i1 _ (by omega)]; exact (hs.2.2.1 k hk).1
    have g3 : N.1 179 b = nI (sDay h) := by rw [i1 _ (by omega)]; exact hs.1
    obtain ⟨t, s, hmv⟩ := X12_moves_eq w hw hp hx hpN hxN hb hk g1 g2 g3 hm
    have k0 : nI b + 10 + nI k = nI (b + 10 + k) := by rw [show (10 : Int32) = nI 10 from rfl, nI_add, nI_add]
    have hv := mvs_nxt (L := xL x) (gap := sGap h k) (m := m) (day := sDay h) hW (hh.2.1 k hk).2
    refine ⟨wI (setC (setC N 177 t) 178 s) 179 (b + 10 + k) (nI (nxt (xL x) (pW p k) (sSw h k) (sGap h k) m (sDay h))), ?_, ?_, ?_, ?_⟩
    · rw [f_X12_passes_2, X12_doors_eq, bI_some, hDc N f, if_neg (fun h => by have := (nI_leI (by omega) (by omega)).mp h; omega), k0, r163_24, l179, chk_nI _ (by omega) (by omega), nI_clamp (by omega), hmv, bI_some, g1, lt_eq, chk_nI _ (by omega) (by omega), chk_nI _ (by omega) (by omega), chk_nI _ (by omega) (by omega), ← hv, nI_1]
      split
      · split
        · rfl
        · rfl
      · rfl
    · exact ((f.set (by decide) _).set (by decide) _).wI (by decide) _ _
    · intro j hj
      rw [wI_set, setC_at, upd_ne _ _ (by omega), setC_ne _ _ (by decide), setC_ne _ _ (by decide)]
      exact i1 j (by omega)
    · intro d hd
      rw [wI_set, setC_at]
      by_cases q : d = k
      · subst q; rw [upd_at]
      · rw [upd_ne _ _ (by omega), setC_ne _ _ (by decide), setC_ne _ _ (by decide)]
        exact i2 d (by omega)
theorem X12_passes__eq (w : Nat) (hw : 1100 ≤ w) (hp : okP p) (hx : okX x) (hh : okS p h) (hc : PlR M 0 p) (hxc : XR M 0 0 x) {b : Nat} (hb : b ≤ 1430) (hs : StR M b p h) : ∃ N, f_X12_passes_ w 163 (nI b) M = some N ∧ Fr [177, 178, 179] M N ∧ StR N b p (nx p x (dmp x (sDay h)) h) ∧ ∀ j, (j < b ∨ b + 23 ≤ j) → N.1 179 j = M.1 179 j := by
  have hm : dmp x (sDay h) ≤ 9 := hx.2.2.1 _ (Nat.mod_lt _ hx.1)
  obtain ⟨N, e, r⟩ := X12_passes_eq w hw hp hx hh hc hxc hb hs hm
  refine ⟨N, ?_, r⟩
  unfold f_X12_passes_
  rw [r163_24, l179, show nI b + 0 = nI b by rw [show (0 : Int32) = nI 0 from rfl, nI_add]; rfl, chk_nI _ (by omega) (by omega), nI_clamp (by omega), hs.1, X12_dampOn_eq w hx hxc hh.1, bI_some, e]
  rfl
theorem X9_passDay_eq (w : Nat) (hw : 1100 ≤ w) {o : Nat} (ho : o ∈ [31, 35, 41, 45, 49, 53, 57, 61, 65, 69, 73, 77, 81, 85, 89, 93, 97, 101, 119, 130, 141, 152]) (hp : okP p) (hx : okX x) (hh : okS p h) (hc : PlC M 1 p) (hxc : XC M 1 x) (hs : StC M o p h) : ∃ N, f_X9_passDay w o M = some N ∧ Fr [12, o, o + 2] M N ∧ StC N o p (nx p x (dmp x (sDay h)) h) := by
  have hD := hp.2.1
  have hP := hp.2.2.1
  have ho12 : 12 < o ∧ o < 200 := (by decide : ∀ o ∈ [31, 35, 41, 45, 49, 53, 57, 61, 65, 69, 73, 77, 81, 85, 89, 93, 97, 101, 119, 130, 141, 152], 12 < o ∧ o < 200) o ho
  have hm : dmp x (sDay h) ≤ 9 := hx.2.2.1 _ (Nat.mod_lt _ hx.1)
  obtain ⟨e0, e1, e2, e3, l1, l2, l3⟩ := stF o ho
  have fne : ∀ N, Fr [12, o, o + 2] M N → ∀ c, c ≤ 11 → N.1 c = M.1 c := fun N f c hcl => f.1 c (by simp; omega)
  unfold f_X9_passDay
  rw [e0, hs.1, X6_dampOn_eq w hx hxc hh.1, bI_some]
  generalize hmm : dmp x (sDay h) = m at *
  refine loopX (fun k N => Fr [12, o, o + 2] M N ∧ N.1 o = M.1 o ∧ (∀ d, d < pD p → k ≤ d → N.1 (o + 2) d = M.1 (o + 2) d) ∧ ∀ d, d < k → N.1 (o + 2) d = nI (nxt (xL x) (pW p d) (sSw h d) (sGap h d) m (sDay h))) (fun n N k => f_X9_passDay_14 w n o (nI m) (nI k) N) (pD p) (fun r => ∃ N, r = some N ∧ Fr [12, o, o + 2] M N ∧ StC N o p (nx p x m h)) ?_ ?_ (pD p) w 0 M (by omega) (by omega) ⟨Fr.rf _ _, rfl, fun _ _ _ => rfl, fun d hd => by omega⟩
  · rintro n N ⟨f, i0, i1, i2⟩
    rw [f_X9_passDay_14, e0, fne N f 1 (by omega), hc.2.1, if_pos (Int32.le_refl _)]
    unfold f_X9_passDay_62
    rw [i0, hs.1, nI_1, lt_eq, wI_set]
    refine ⟨_, rfl, f.set (by simp) _, ?_, ?_, fun d hd => ⟨?_, ?_⟩, fun q hq => ?_⟩
    · rw [setC_at, upd_at]; rfl
    · rw [setC_at, upd_ne _ _ (by omega), i0]; exact hs.2.1
    · rw [setC_ne _ _ (by omega), f.1 (o + 1) (by simp; omega)]; exact (hs.2.2.1 d hd).1
    · rw [setC_ne _ _ (by omega), i2 d hd]; rfl
    · rw [setC_ne _ _ (by omega), f.1 (o + 3) (by simp; omega)]; exact hs.2.2.2 q hq
  · rintro n N k hk ⟨f, i0, i1, i2⟩
    refine Or.inr ?_
    have hpN : PlC N 1 p := hc.fr (fun c h8 => fne N f c (by omega))
    have hxN : XC N 1 x := hxc.fr (fun c h8 => fne N f c (by omega))
    have g1 : N.1 (o + 2) k = nI (sSw h k) := by rw [i1 k hk (by omega)]; exact (hs.2.2.1 k hk).2
    have g2 : N.1 (o + 1) k = nI (sGap h k) := by rw [f.1 (o + 1) (by simp; omega)]; exact (hs.2.2.1 k hk).1
    have g3 : N.1 o 1 = nI (sDay h) := by rw [i0]; exact hs.1
    obtain ⟨s, hsn⟩ := X6_swollenNext_eq w hw hp hx hpN hxN (gap := sGap h k) (day := sDay h) hk (hh.2.1 k hk).2 hm
    refine ⟨wI (setC N 12 s) (o + 2) k (nI (nxt (xL x) (pW p k) (sSw h k) (sGap h k) m (sDay h))), ?_, ?_, ?_, ?_, ?_⟩
    · rw [f_X9_passDay_14, e0, fne N f 1 (by omega), hc.2.1, if_neg (fun h => by have := (nI_leI (by omega) (by omega)).mp h; omega), e1, e2, l1, l2, chk_nI _ (by omega) (by omega), chk_nI _ (by omega) (by omega), nI_clamp (by omega), g1, g2, g3, hsn, bI_some, chk_nI _ (by omega) (by omega), lt_eq, nI_1]
    · exact (f.set (by simp) _).wI (by simp) _ _
    · rw [wI_set, setC_ne _ _ (by omega), setC_ne _ _ (by omega)]; exact i0
    · intro d hd hkd
      rw [wI_set, setC_at, upd_ne _ _ (by omega), setC_ne _ _ (by omega)]
      exact i1 d hd (by omega)
    · intro d hd
      rw [wI_set, setC_at]
      by_cases q : d = k
      · subst q; rw [upd_at]
      · rw [upd_ne _ _ (by omega), setC_ne _ _ (by omega)]
        exact i2 d (by omega)
end PASS
