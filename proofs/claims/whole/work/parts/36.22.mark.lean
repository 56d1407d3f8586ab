/-! ===== mark ===== -/
abbrev MK : Type := (Nat → Bool) × (Nat → HS) × (Nat → FU)
def MkC (M : mM) (p : HP) (K : MK) : Prop := ∀ k, k < 4 → M.1 (112 + 11 * k) 2 = b2i (K.1 k) ∧ (K.1 k = true → StC M (119 + 11 * k) p (K.2.1 k) ∧ UC M (113 + 11 * k) (K.2.2 k))
def MkR (M : mM) (p : HP) (K : MK) : Prop := ∀ k, k < 4 → M.1 180 k = b2i (K.1 k) ∧ (K.1 k = true → StR M (65 * (1 + k)) p (K.2.1 k) ∧ UR M (65 * (1 + k)) (K.2.2 k))
def okM (p : HP) (B : Nat) (K : MK) : Prop := ∀ k, k < 4 → K.1 k = true → okS p (K.2.1 k) ∧ sDay (K.2.1 k) ≤ B ∧ okU p (K.2.2 k)
/-- what mark may write -/
def Fm (M N : mM) : Prop := (∀ c, (c < 31 ∨ 34 < c) → c ≠ 39 → (c < 105 ∨ 155 < c) → N.1 c = M.1 c) ∧ N.2 = M.2
def FmR (M N : mM) : Prop := (∀ c, c ≠ 163 → c ≠ 179 → c ≠ 180 → N.1 c = M.1 c) ∧ N.2 = M.2 ∧ (∀ j, j ≠ 25 → N.1 163 j = M.1 163 j) ∧ ∀ j, 325 ≤ j → N.1 179 j = M.1 179 j
def Ma (f g : mM → Option (Int32 × mM)) (p : HP) (B : Nat) (M : mM) : Prop := ∃ v h' u' K' H' N L, f M = some (v, N) ∧ Fm M N ∧ StC N 31 p h' ∧ UC N 105 u' ∧ MkC N p K' ∧ HiC N p H' ∧ g N = some (v, L) ∧ FmR (th0 N) L ∧ StR L 0 p h' ∧ UR L 0 u' ∧ MkR L p K' ∧ HiR L p H' ∧ okS p h' ∧ sDay h' ≤ B ∧ okU p u' ∧ okM p B K' ∧ H'.1 ≤ 16 ∧ ∀ i, i < H'.1 → okS p (H'.2 i) ∧ sDay (H'.2 i) ≤ B
section MARK
variable {p : HP} {x : HX} {h : HS} {u : FU} {H : HI} {K : MK} {M N : mM}
theorem mkF : ∀ k, k < 4 → rA 111 k = 112 + 11 * k ∧ rF (112 + 11 * k) 0 = 119 + 11 * k ∧ rF (112 + 11 * k) 1 = 113 + 11 * k ∧ 119 + 11 * k ∈ [31, 35, 41, 45, 49, 53, 57, 61, 65, 69, 73, 77, 81, 85, 89, 93, 97, 101, 119, 130, 141, 152] ∧ 113 + 11 * k ∈ [105, 113, 124, 135, 146] := by decide +kernel
theorem UR.copy {a b : Nat} (ou : okU p u) (hu : UR M a u) (e : ∀ k, 23 ≤ k → k < 65 → N.1 179 (b + k) = M.1 179 (a + k)) : UR N b u := by
  obtain ⟨u1, u2, -, -⟩ := ou
  obtain ⟨h1, h2, h3, h4⟩ := hu
  refine ⟨?_, ?_, fun i hi => ⟨?_, ?_, ?_⟩, fun i hi => ⟨?_, ?_⟩⟩
  · rw [e 23 (by omega) (by omega)]; exact h1
  · rw [e 48 (by omega) (by omega)]; exact h2
  · rw [Nat.add_assoc, e (24 + 3 * i) (by omega) (by omega), ← Nat.add_assoc]; exact (h3 i hi).1
  · rw [Nat.add_assoc, e (25 + 3 * i) (by omega) (by omega), ← Nat.add_assoc]; exact (h3 i hi).2.1
  · rw [Nat.add_assoc, e (26 + 3 * i) (by omega) (by omega), ← Nat.add_assoc]; exact (h3 i hi).2.2
  · rw [Nat.add_assoc, e (49 + 2 * i) (by omega) (by omega), ← Nat.add_assoc]; exact (h4 i hi).1
  · rw [Nat.add_assoc, e (50 + 2 * i) (by omega) (by omega), ← Nat.add_assoc]; exact (h4 i hi).2
theorem MkC.fr (hk : MkC M p K) (e : ∀ c, 112 ≤ c → c ≤ 155 → N.1 c = M.1 c) : MkC N p K := fun k hk4 => by
  obtain ⟨a, b⟩ := hk k hk4
  refine ⟨by rw [e _ (by omega) (by omega)]; exact a, fun q => ⟨(b q).1.fr (fun c h1 h2 => e c (by omega) (by omega)), (b q).2.fr (fun c h1 h2 => e c (by omega) (by omega))⟩⟩
theorem MkR.fr {B : Nat} (hp : okP p) (ok : okM p B K) (hk : MkR M p K) (e0 : N.1 180 = M.1 180) (e : ∀ j, 65 ≤ j → j < 325 → N.1 179 j = M.1 179 j) : MkR N p K := fun k hk4 => by
  obtain ⟨a, b⟩ := hk k hk4
  refine ⟨by rw [e0]; exact a, fun q => ⟨(b q).1.fr hp (fun j h1 h2 => e j (by omega) (by omega)), (b q).2.fr (ok k hk4 q).2.2 (fun j h1 h2 => e j (by omega) (by omega))⟩⟩
theorem Ma.no {f g : mM → Option (Int32 × mM)} {B : Nat} (Q : QC p x h M) (R : QF p x h M) (ou : okU p u) (hu : UC M 105 u) (hv : UR M 0 u) (hi : HiC M p H) (hj : HiR M p H) (o : okHi p B H) (hB : sDay h ≤ B) (ok : okM p B K) (mc : MkC M p K) (mr : MkR M p K) (v : Int32) (e1 : f M = some (v, M)) (e2 : g M = some (v, th0 M)) : Ma f g p B M :=
  ⟨v, h, u, K, H, M, th0 M, e1, ⟨fun _ _ _ _ => rfl, rfl⟩, Q.2.2.2.2.2.2, hu, mc, hi, e2, ⟨fun _ _ _ _ => rfl, rfl, fun _ _ => rfl, fun _ _ => rfl⟩, R.th0.2.2.2.2.2.2, hv.fr ou (fun j _ _ => by rw [th0_1 _ (by decide)]), mr.fr Q.1 ok (th0_1 _ (by decide)) (fun j _ _ => by rw [th0_1 _ (by decide)]), hj.fr Q.1 o.1 rfl (fun j _ _ => by rw [th0_1 _ (by decide)]), Q.2.2.1, hB, ou, ok, o.1, fun i hi => ⟨(o.2 i hi).1, (o.2 i hi).2⟩⟩
theorem X11_mark_eq (w : Nat) (hw : 1100 ≤ w) {B : Nat} (Q : QC p x h M) (R : QF p x h M) (ou : okU p u) (hu : UC M 105 u) (hv : UR M 0 u) (hi : HiC M p H) (hj : HiR M p H) (o : okHi p B H) (hB : sDay h ≤ B) (ok : okM p B K) (mc : MkC M p K) (mr : MkR M p K) (a b : Int32) : Ma (f_X11_mark w 0 a b) (f_X12_mark w 163 a b) p B M := by
  have hp := Q.1
  have hh := Q.2.2.1
  have hs := Q.2.2.2.2.2.2
  rcases ix3 a (n := 4) (by decide) with q | ⟨k, hk, rfl⟩
  · refine Ma.no Q R ou hu hv hi hj o hB ok mc mr 0 ?_ ?_
    · unfold f_X11_mark
      by_cases q0 : a < 0
      · rw [if_pos q0]; rfl
      · rw [if_neg q0, if_neg (show ¬ a < 4 from Int32.not_lt.mpr (q.resolve_left q0))]; rfl
    · unfold f_X12_mark
      rw [lt_eq, show wI M 163 0 0 = th0 M from rfl, X12_within_eq, bI_some]
      by_cases q0 : a < 0
      · rw [decide_eq_true q0]; rfl
      · rw [decide_eq_true (Int32.lt_of_lt_of_le (show (3 : Int32) < nI 4 by decide) (q.resolve_left q0)), Bool.not_true, Bool.and_false]; rfl
  obtain ⟨m1, m2, m3, m4, m5⟩ := mkF k hk
  obtain ⟨c0, c1⟩ := mc k hk
  obtain ⟨d0, d1⟩ := mr k hk
  have eC : f_X11_mark w 0 (nI k) b M = if b = 0 then bV (f_X4_lay w (112 + 11 * k) 31 105 M) fun M4 => rtB 1 M4 else if M.1 (112 + 11 * k) 2 = 0 then rtB 0 M else bV (f_X4_bringBack w (112 + 11 * k) 31 105 M) fun M2 => lt (wI M2 39 2 0) fun M3 => rtB 1 M3 := by
    unfold f_X11_mark
    rw [if_neg (nI_pos (by omega)), if_pos (show nI k < 4 from (nI_ltI (b := 4) (by omega) (by omega)).mpr hk), r0_10, r0_6, r0_9, r0_8, l111, chk_nI _ (by omega) (by omega), nI_clamp (by omega), m1]
  have n1 : ¬ (3 : Int32) < nI k := fun e => by have := (nI_ltI (a := 3) (by omega) (by omega)).mp e; omega
  have eR : ∀ N, f_X12_mark w 163 (nI k) b N = if b = 0 then f_X12_mark_29 w 163 (nI k) b (th0 N) else if N.1 180 k = 0 then rtB 0 (th0 N) else f_X12_mark_29 w 163 (nI k) b (th0 N) := fun N => by
    unfold f_X12_mark
    rw [lt_eq, show wI N 163 0 0 = th0 N from rfl, X12_within_eq, bI_some, decide_eq_false (nI_pos (by omega)), decide_eq_false n1, if_neg (by decide), r163_26, l180, chk_nI _ (by omega) (by omega), nI_clamp (by omega), th0_1 _ (show 180 ≠ 163 by decide)]
  by_cases b0 : b = 0
  · -- lay
    obtain ⟨N1, e1, f1, s1⟩ := X9_copyFrom_eq w m4 mem31 (by omega) hp hs
    have hu1 : UC N1 105 u := hu.fr (fun c h1 h2 => f1.1 c (by simp; omega))
    obtain ⟨N2, e2, f2, u2⟩ := X8_copyFrom_eq w (by omega) m5 (by decide : 105 ∈ [105, 113, 124, 135, 146]) (by omega) ou.1 ou.2.1 hu1
    have F : ∀ c, (c < 112 ∨ 155 < c) → (wI N2 (112 + 11 * k) 2 1).1 c = M.1 c := fun c hc => by
      rw [wI_set, setC_ne _ _ (by omega), f2.1 c (by simp; omega), f1.1 c (by simp; omega)]
    have G : ∀ c, (c < 112 + 11 * k ∨ 122 + 11 * k < c) → (wI N2 (112 + 11 * k) 2 1).1 c = M.1 c := fun c hc => by
      rw [wI_set, setC_ne _ _ (by omega), f2.1 c (by simp; omega), f1.1 c (by simp; omega)]
    have fN : Fm M (wI N2 (112 + 11 * k) 2 1) := ⟨fun c h1 h2 h3 => F c (by omega), by rw [wI_set, setC_2, f2.2, f1.2]⟩
    -- the reference
    have g180 : (wI N2 (112 + 11 * k) 2 1).1 180 = M.1 180 := F 180 (by omega)
    have g179 : (wI N2 (112 + 11 * k) 2 1).1 179 = M.1 179 := F 179 (by omega)
    have g163 : (wI N2 (112 + 11 * k) 2 1).1 163 = M.1 163 := F 163 (by omega)
    obtain ⟨L, eL, fL, l1, l2⟩ := X12_copies_eq w (a := 0) (b := 65 * (1 + k)) (m := 65) (by omega) (by omega) (by omega) (by omega) (wI (th0 (wI N2 (112 + 11 * k) 2 1)) 180 k 1)
    have w179 : (wI (th0 (wI N2 (112 + 11 * k) 2 1)) 180 k 1).1 179 = M.1 179 := by rw [wI_set, setC_ne _ _ (by decide), th0_1 _ (by decide), g179]
    have LL : ∀ j, j ≠ 25 → (wI L 163 25 (L.1 163 25)).1 163 j = (th0 (wI N2 (112 + 11 * k) 2 1)).1 163 j := fun j hj => by
      rw [wI_set, setC_at, upd_ne _ _ hj, fL.1 163 (by decide), wI_set, setC_ne _ _ (by decide)]
    have L25 : (wI L 163 25 (L.1 163 25)).1 163 25 = M.1 163 25 := by
      rw [wI_set, setC_at, upd_at, fL.1 163 (by decide), wI_set, setC_ne _ _ (by decide), ← g163]; rfl
    have L179 : (wI L 163 25 (L.1 163 25)).1 179 = L.1 179 := by rw [wI_set, setC_ne _ _ (by decide)]
    have ins : ∀ i, i < 65 → (wI L 163 25 (L.1 163 25)).1 179 i = M.1 179 i := fun i hi => by rw [L179, l2 i (by omega), w179]
    have slot : ∀ i, i < 65 → (wI L 163 25 (L.1 163 25)).1 179 (65 * (1 + k) + i) = M.1 179 (0 + i) := fun i hi => by rw [L179, l1 i hi, w179]
    refine ⟨1, h, u, (fun i => if i = k then true else K.1 i, fun i => if i = k then h else K.2.1 i, fun i => if i = k then u else K.2.2 i), H, wI N2 (112 + 11 * k) 2 1, wI L 163 25 (L.1 163 25), ?_, fN, hs.fr (fun c h1 h2 => F c (by omega)), hu.fr (fun c h1 h2 => F c (by omega)), fun i hi4 => ?_, hi.fr (fun c hc => F c (by omega)), ?_, ⟨fun c h1 h2 h3 => ?_, ?_, LL, fun j hj => ?_⟩, ?_, ?_, fun i hi4 => ?_, ?_, hh, hB, ou, fun i hi4 q => ?_, o.1, fun i hi => ⟨(o.2 i hi).1, (o.2 i hi).2⟩⟩
    · rw [eC, if_pos b0]
      unfold f_X4_lay
      rw [m2, m3, e1, bV_some, e2, bV_some, if_pos (Or.inr rfl), lt_eq]; rfl
    · show (wI N2 (112 + 11 * k) 2 1).1 (112 + 11 * i) 2 = b2i (if i = k then true else K.1 i) ∧ ((if i = k then true else K.1 i) = true → StC _ (119 + 11 * i) p (if i = k then h else K.2.1 i) ∧ UC _ (113 + 11 * i) (if i = k then u else K.2.2 i))
      by_cases z : i = k
      · subst z
        rw [if_pos rfl, if_pos rfl, if_pos rfl]
        refine ⟨by rw [wI_set, setC_at, upd_at]; rfl, fun _ => ⟨s1.fr (fun c h1 h2 => by rw [wI_set, setC_ne _ _ (by omega), f2.1 c (by simp; omega)]), u2.fr (fun c h1 h2 => by rw [wI_set, setC_ne _ _ (by omega)])⟩⟩
      · rw [if_neg z, if_neg z, if_neg z]
        obtain ⟨a1, a2⟩ := mc i hi4
        refine ⟨by rw [G _ (by omega)]; exact a1, fun q => ⟨(a2 q).1.fr (fun c h1 h2 => G c (by omega)), (a2 q).2.fr (fun c h1 h2 => G c (by omega))⟩⟩
    · rw [eR, if_pos b0]
      unfold f_X12_mark_29 f_X12_mark_51 f_X12_mark_65
      rw [r163_26, l180, chk_nI _ (by omega) (by omega), nI_clamp (by omega), show vp_nar .boolean 1 = (1 : Int32) from rfl, lt_eq, if_pos b0, if_pos b0, show (1 : Int32) + nI k = nI (1 + k) from nI_add 1 k, show (65 : Int32) * nI (1 + k) = nI (65 * (1 + k)) from pk_mul 65 _, show f_X12_copies w 163 0 (nI (65 * (1 + k))) 65 _ = some L from eL, bV_some, if_pos b0, lt_eq]; rfl
    · rw [wI_set, setC_ne _ _ h1, fL.1 c (by simp; exact h2), wI_set, setC_ne _ _ h3]
    · rw [wI_set, setC_2, fL.2, wI_set, setC_2]
    · rw [L179, l2 j (by omega), w179, th0_1 _ (by decide), g179]
    · exact R.2.2.2.2.2.2.fr hp (fun j _ h2 => ins j (by omega))
    · exact hv.fr ou (fun j _ h2 => ins j (by omega))
    · show (wI L 163 25 (L.1 163 25)).1 180 i = b2i (if i = k then true else K.1 i) ∧ ((if i = k then true else K.1 i) = true → StR _ (65 * (1 + i)) p (if i = k then h else K.2.1 i) ∧ UR _ (65 * (1 + i)) (if i = k then u else K.2.2 i))
      have L180 : (wI L 163 25 (L.1 163 25)).1 180 = upd (M.1 180) k 1 := by
        rw [wI_set, setC_ne _ _ (by decide), fL.1 180 (by decide), wI_set, setC_at, th0_1 _ (by decide), g180]
      by_cases z : i = k
      · subst z
        rw [if_pos rfl, if_pos rfl, if_pos rfl]
        exact ⟨by rw [L180, upd_at]; rfl, fun _ => ⟨R.2.2.2.2.2.2.copy hp (fun j hj => slot j (by omega)), hv.copy ou (fun j _ hj => slot j hj)⟩⟩
      · rw [if_neg z, if_neg z, if_neg z]
        obtain ⟨a1, a2⟩ := mr i hi4
        have keep : ∀ j, 65 * (1 + i) ≤ j → j < 65 * (1 + i) + 65 → (wI L 163 25 (L.1 163 25)).1 179 j = M.1 179 j := fun j h1 h2 => by rw [L179, l2 j (by omega), w179]
        exact ⟨by rw [L180, upd_ne _ _ z]; exact a1, fun q => ⟨(a2 q).1.fr hp (fun j h1 h2 => keep j (by omega) (by omega)), (a2 q).2.fr (ok i hi4 q).2.2 (fun j h1 h2 => keep j (by omega) (by omega))⟩⟩
    · exact hj.fr hp o.1 L25 (fun j h1 h2 => by rw [L179, l2 j (by omega), w179])
    · have q : (if i = k then true else K.1 i) = true := q
      show okS p (if i = k then h else K.2.1 i) ∧ sDay (if i = k then h else K.2.1 i) ≤ B ∧ okU p (if i = k then u else K.2.2 i)
      by_cases z : i = k
      · rw [if_pos z, if_pos z]; exact ⟨hh, hB, ou⟩
      · rw [if_neg z] at q
        rw [if_neg z, if_neg z]; exact ok i hi4 q
  · cases ek : K.1 k
    · refine Ma.no Q R ou hu hv hi hj o hB ok mc mr 0 ?_ ?_
      · rw [eC, if_neg b0, c0, ek, if_pos (show b2i false = 0 from rfl)]; rfl
      · rw [eR, if_neg b0, d0, ek, if_pos (show b2i false = 0 from rfl)]; rfl
    · obtain ⟨oh', hB', ou'⟩ := ok k hk ek
      obtain ⟨cs, cu⟩ := c1 ek
      obtain ⟨ds, du⟩ := d1 ek
      obtain ⟨N1, e1, f1, s1⟩ := X9_copyFrom_eq w mem31 m4 (by omega) hp cs
      have cu1 : UC N1 (113 + 11 * k) (K.2.2 k) := cu.fr (fun c h1 h2 => f1.1 c (by simp; omega))
      obtain ⟨N2, e2, f2, u2⟩ := X8_copyFrom_eq w (by omega) (by decide : 105 ∈ [105, 113, 124, 135, 146]) m5 (by omega) ou'.1 ou'.2.1 cu1
      have F : ∀ c, (c < 31 ∨ 34 < c) → c ≠ 39 → (c < 105 ∨ 110 < c) → (wI N2 39 2 0).1 c = M.1 c := fun c h1 h2 h3 => by
        rw [wI_set, setC_ne _ _ h2, f2.1 c (by simp; omega), f1.1 c (by simp; omega)]
      have g180 : (wI N2 39 2 0).1 180 = M.1 180 := F 180 (by omega) (by omega) (by omega)
      have g179 : (wI N2 39 2 0).1 179 = M.1 179 := F 179 (by omega) (by omega) (by omega)
      obtain ⟨L, eL, fL, l1, l2⟩ := X12_copies_eq w (a := 65 * (1 + k)) (b := 0) (m := 65) (by omega) (by omega) (by omega) (by omega) (wI (th0 (wI N2 39 2 0)) 180 k 1)
      have w179 : (wI (th0 (wI N2 39 2 0)) 180 k 1).1 179 = M.1 179 := by rw [wI_set, setC_ne _ _ (by decide), th0_1 _ (by decide), g179]
      have L179 : (wI L 163 25 0).1 179 = L.1 179 := by rw [wI_set, setC_ne _ _ (by decide)]
      have back : ∀ i, i < 65 → (wI L 163 25 0).1 179 (0 + i) = M.1 179 (65 * (1 + k) + i) := fun i hi => by rw [L179, l1 i hi, w179]
      have L180 : (wI L 163 25 0).1 180 = upd (M.1 180) k 1 := by
        rw [wI_set, setC_ne _ _ (by decide), fL.1 180 (by decide), wI_set, setC_at, th0_1 _ (by decide), g180]
      obtain ⟨-, t, ht, t1, -, -⟩ := hi
      refine ⟨1, K.2.1 k, K.2.2 k, K, (0, H.2), wI N2 39 2 0, wI L 163 25 0, ?_, ⟨fun c h1 h2 h3 => F c h1 h2 (by omega), by rw [wI_set, setC_2, f2.2, f1.2]⟩, s1.fr (fun c h1 h2 => by rw [wI_set, setC_ne _ _ (by omega), f2.1 c (by simp; omega)]), u2.fr (fun c h1 h2 => by rw [wI_set, setC_ne _ _ (by omega)]), mc.fr (fun c h1 h2 => F c (by omega) (by omega) (by omega)), ⟨by show 0 ≤ 16; omega, t, ht, ?_, by rw [wI_set, setC_at, upd_at]; rfl, fun i hi => by have hi : i < 0 := hi; omega⟩, ?_, ⟨fun c h1 h2 h3 => ?_, ?_, fun j hj => ?_, fun j hj => ?_⟩, ?_, ?_, fun i hi4 => ?_, ⟨by rw [wI_set, setC_at, upd_at]; rfl, fun i hi => by have hi : i < 0 := hi; omega⟩, oh', hB', ou', ok, by show 0 ≤ 16; omega, fun i hi => by have hi : i < 0 := hi; omega⟩
      · rw [eC, if_neg b0, c0, ek, if_neg (show ¬ b2i true = 0 by decide)]
        unfold f_X4_bringBack
        rw [m2, m3, e1, bV_some, e2, bV_some, bV_some, lt_eq]; rfl
      · rw [wI_set, setC_at, upd_ne _ _ (by decide), f2.1 39 (by decide), f1.1 39 (by decide)]; exact t1
      · rw [eR, if_neg b0, g180, d0, ek, if_neg (show ¬ b2i true = 0 by decide)]
        unfold f_X12_mark_29 f_X12_mark_51 f_X12_mark_65
        rw [r163_26, l180, chk_nI _ (by omega) (by omega), nI_clamp (by omega), show vp_nar .boolean 1 = (1 : Int32) from rfl, lt_eq, if_neg b0, if_neg b0, show (1 : Int32) + nI k = nI (1 + k) from nI_add 1 k, show (65 : Int32) * nI (1 + k) = nI (65 * (1 + k)) from pk_mul 65 _, show f_X12_copies w 163 (nI (65 * (1 + k))) 0 65 _ = some L from eL, bV_some, if_neg b0, lt_eq]; rfl
      · rw [wI_set, setC_ne _ _ h1, fL.1 c (by simp; exact h2), wI_set, setC_ne _ _ h3]
      · rw [wI_set, setC_2, fL.2, wI_set, setC_2]
      · rw [wI_set, setC_at, upd_ne _ _ hj, fL.1 163 (by decide), wI_set, setC_ne _ _ (by decide)]
      · rw [L179, l2 j (by omega), w179, th0_1 _ (by decide), g179]
      · exact ds.copy hp (fun j hj => back j (by omega))
      · exact du.copy ou' (fun j _ hj => back j hj)
      · obtain ⟨a1, a2⟩ := mr i hi4
        have keep : ∀ j, 65 ≤ j → (wI L 163 25 0).1 179 j = M.1 179 j := fun j h1 => by rw [L179, l2 j (by omega), w179]
        refine ⟨?_, fun q => ⟨(a2 q).1.fr hp (fun j h1 h2 => keep j (by omega)), (a2 q).2.fr (ok i hi4 q).2.2 (fun j h1 h2 => keep j (by omega))⟩⟩
        rw [L180]
        by_cases z : i = k
        · subst z; rw [upd_at, ek]; rfl
        · rw [upd_ne _ _ z]; exact a1
end MARK
