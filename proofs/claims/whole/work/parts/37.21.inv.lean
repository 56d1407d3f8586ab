/-! ===== the whole state, in both ===== -/
def IvO (B : Nat) (p : HP) (x : HX) (h : HS) (u : FU) (H : HI) (k : MK) (l : LN) (E : NE) (t : TX) : Prop := okP p ∧ okX x ∧ okS p h ∧ sDay h ≤ B ∧ okU p u ∧ okHi p B H ∧ okM p B k ∧ okLn p l ∧ okE p E ∧ okT t
def IvC (M : mM) (p : HP) (x : HX) (h : HS) (u : FU) (H : HI) (k : MK) (l : LN) (E : NE) (t : TX) : Prop := PlC M 1 p ∧ XC M 1 x ∧ StC M 31 p h ∧ UC M 105 u ∧ HiC M p H ∧ MkC M p k ∧ LiC M l ∧ (∀ j, j < E.1 → 20 ≤ E.2.2 j → M.2 3 (E.2.2 j - 20) = cvW (E.2.1 j)) ∧ TpC M t
def IvR (M : mM) (p : HP) (x : HX) (h : HS) (u : FU) (H : HI) (k : MK) (l : LN) (E : NE) (t : TX) : Prop := PlR M 0 p ∧ XR M 0 0 x ∧ StR M 0 p h ∧ UR M 0 u ∧ HiR M p H ∧ MkR M p k ∧ LiR M l ∧ NmR M 172 174 18 E ∧ TpR M t ∧ Wd3 M
def Inv (B : Nat) (M : mM) : Prop := ∃ p x h u H k l E t, IvO B p x h u H k l E t ∧ IvC M p x h u H k l E t ∧ IvR M p x h u H k l E t
/-- one call of both -/
def StpB (B : Nat) (f g : mM → Option (Int32 × mM)) (M : mM) : Prop := ∃ v N K, f M = some (v, N) ∧ g N = some (v, K) ∧ Inv (B + 1) K
section INV
variable {p : HP} {x : HX} {h : HS} {u : FU} {H : HI} {k : MK} {l : LN} {E : NE} {t : TX} {M N K : mM} {B : Nat}
theorem XC.fro (hc : XC M 1 x) (e : ∀ c, 1 ≤ c → c ≤ 11 → N.1 c = M.1 c) : XC N 1 x := by
  unfold XC LwC at hc ⊢
  rw [e 1 (by omega) (by omega), e (1 + 8) (by omega) (by omega), e (1 + 9) (by omega) (by omega), e (1 + 9 + 1) (by omega) (by omega)]
  exact hc
theorem IvO.up (o : IvO B p x h u H k l E t) : IvO (B + 1) p x h u H k l E t := by
  obtain ⟨o1, o2, o3, o4, o5, o6, o7, o8⟩ := o
  exact ⟨o1, o2, o3, by omega, o5, ⟨o6.1, fun i hi => ⟨(o6.2 i hi).1, by have := (o6.2 i hi).2; omega⟩⟩, fun q hq e => ⟨(o7 q hq e).1, by have := (o7 q hq e).2.1; omega, (o7 q hq e).2.2⟩, o8⟩
/-- the class's half, where only places of work were written -/
theorem IvC.fr (c : IvC M p x h u H k l E t) (e : ∀ a, a ≤ 155 → a ≠ 12 → (a < 35 ∨ 38 < a) → N.1 a = M.1 a) (e2 : ∀ j, N.2 3 j = M.2 3 j) : IvC N p x h u H k l E t := by
  obtain ⟨c1, c2, c3, c4, c5, c6, c7, c8, c9⟩ := c
  refine ⟨c1.fro fun a h1 h2 => e a (by omega) (by omega) (by omega), c2.fro fun a h1 h2 => e a (by omega) (by omega) (by omega), c3.fr fun a h1 h2 => e a (by omega) (by omega) (by omega), c4.fr fun a h1 h2 => e a (by omega) (by omega) (by omega), c5.fr fun a h1 => e a (by omega) (by omega) (by omega), c6.fr fun a h1 h2 => e a (by omega) (by omega) (by omega), ⟨by rw [e 0 (by omega) (by omega) (by omega)]; exact c7.1, fun i hi => by rw [e 30 (by omega) (by omega) (by omega)]; exact c7.2 i hi⟩, fun j h1 h2 => by rw [e2]; exact c8 j h1 h2, ⟨by rw [e 25 (by omega) (by omega) (by omega)]; exact c9.1, fun i hi => by rw [e 26 (by omega) (by omega) (by omega)]; exact c9.2 i hi⟩⟩
theorem IvR.fr (o : IvO B p x h u H k l E t) (c : IvR M p x h u H k l E t) (e : ∀ a, a = 164 ∨ a = 169 ∨ a = 170 ∨ a = 171 ∨ a = 174 ∨ a = 176 ∨ a = 180 → N.1 a = M.1 a) (e2 : ∀ j, j = 2 ∨ j = 18 ∨ j = 25 → N.1 163 j = M.1 163 j) (e3 : ∀ j, j < 1365 → N.1 179 j = M.1 179 j) (e4 : ∀ a j, a = 168 ∨ a = 172 → N.2 a j = M.2 a j) : IvR N p x h u H k l E t := by
  obtain ⟨c1, c2, c3, c4, c5, c6, c7, c8, c9, c10⟩ := c
  obtain ⟨o1, o2, o3, o4, o5, o6, o7, o8, o9, o10⟩ := o
  refine ⟨c1.fr (e 169 (by omega)), c2.fr (e 169 (by omega)) (e 170 (by omega)) (e 171 (by omega)), c3.fr o1 fun j _ h2 => e3 j (by omega), c4.fr o5 fun j _ h2 => e3 j (by omega), c5.fr o1 o6.1 (e2 25 (by omega)) fun j _ h2 => e3 j h2, c6.fr o1 o7 (e 180 (by omega)) fun j _ h2 => e3 j (by omega), ⟨by rw [e 176 (by omega)]; exact c7.1, fun i hi => by rw [e 176 (by omega)]; exact c7.2 i hi⟩, ⟨by rw [e2 18 (by omega)]; exact c8.1, fun j hj => by rw [e4 172 j (by omega), e 174 (by omega)]; exact c8.2 j hj⟩, ⟨by rw [e2 2 (by omega)]; exact c9.1, fun i hi => by rw [e 164 (by omega)]; exact c9.2 i hi⟩, fun q hq => by rw [e4 168 q (by omega)]; exact c10 q hq⟩
theorem IvR.frC (o : IvO B p x h u H k l E t) (c : IvR M p x h u H k l E t) (e : ∀ a, 163 ≤ a → N.1 a = M.1 a) (e4 : ∀ a j, 163 ≤ a → N.2 a j = M.2 a j) : IvR N p x h u H k l E t :=
  c.fr o (fun a ha => e a (by omega)) (fun j _ => by rw [e 163 (by omega)]) (fun j _ => by rw [e 179 (by omega)]) (fun a j ha => e4 a j (by omega))
theorem IvC.qc (o : IvO B p x h u H k l E t) (hB : B ≤ 1000) (c : IvC M p x h u H k l E t) : QC p x h M := ⟨o.1, o.2.1, o.2.2.1, by have := o.2.2.2.1; omega, c.1, c.2.1, c.2.2.1⟩
theorem IvR.qf (o : IvO B p x h u H k l E t) (hB : B ≤ 1000) (c : IvR M p x h u H k l E t) : QF p x h M := ⟨o.1, o.2.1, o.2.2.1, by have := o.2.2.2.1; omega, c.1, c.2.1, c.2.2.1⟩
/-- a question -/
theorem st_al2 {f g : mM → Option (Int32 × mM)} (o : IvO B p x h u H k l E t) (c : IvC M p x h u H k l E t) (r : IvR M p x h u H k l E t) (a : Al2 f g M) : StpB B f g M := by
  obtain ⟨v, N, K, e1, f1, e2, f2⟩ := a
  refine ⟨v, N, K, e1, e2, p, x, h, u, H, k, l, E, t, o.up, ?_, ?_⟩
  · refine c.fr (fun a h1 h2 h3 => ?_) (fun j => ?_)
    · rw [f2.1 a (by simp; omega), th0_1 _ (by omega), f1.1 a (by simp; omega)]
    · rw [f2.2.1 3 j (by omega)]
      exact f1.2 3 j (by omega)
  · refine r.fr o (fun a ha => ?_) (fun j hj => ?_) (fun j hj => ?_) (fun a j ha => ?_)
    · rw [f2.1 a (by simp; omega), th0_1 _ (by omega), f1.1 a (by simp; omega)]
    · rw [f2.1 163 (by decide)]
      show (wI N 163 0 0).1 163 j = _
      rw [w163, if_neg (by omega), f1.1 163 (by decide)]
    · rw [f2.2.2 j hj, th0_1 _ (by decide), f1.1 179 (by decide)]
    · rw [f2.2.1 a j (by omega)]
      exact f1.2 a j (by omega)
theorem st_al {f g : mM → Option (Int32 × mM)} (o : IvO B p x h u H k l E t) (c : IvC M p x h u H k l E t) (r : IvR M p x h u H k l E t) (a : Al f g M) : StpB B f g M := st_al2 o c r a.two
theorem st_qr {f g : mM → Option (Int32 × mM)} (o : IvO B p x h u H k l E t) (c : IvC M p x h u H k l E t) (r : IvR M p x h u H k l E t) (a : ∃ v, f M = some (v, M) ∧ g M = some (v, th0 M)) : StpB B f g M := st_al o c r (Al.of a)
theorem Iv.qr (o : IvO B p x h u H k l E t) (c : IvC M p x h u H k l E t) (r : IvR M p x h u H k l E t) : QR p h M := ⟨o.1, o.2.2.1, c.1, r.1, c.2.2.1, r.2.2.1⟩
/-- a deed -/
theorem st_de {f g : mM → Option (Int32 × mM)} (o : IvO B p x h u H k l E t) (c : IvC M p x h u H k l E t) (r : IvR M p x h u H k l E t) (a : De f g p B M) : StpB B f g M := by
  obtain ⟨v, h', H', N, K, e1, f1, s1, i1, e2, f2, s2, i2, oh, hd, h16, hH⟩ := a
  obtain ⟨c1, c2, c3, c4, c5, c6, c7, c8, c9⟩ := c
  obtain ⟨r1, r2, r3, r4, r5, r6, r7, r8, r9, r10⟩ := r
  have o' := o.up
  obtain ⟨o1, o2, o3, o4, o5, o6, o7, o8⟩ := o'
  have oM := o.2.2.2.2.2.2.1
  have g1 : ∀ a, a < 163 → a ≠ 12 → (a < 31 ∨ 34 < a) → a ≠ 39 → (a < 41 ∨ 104 < a) → K.1 a = M.1 a := fun a h0 h1 h2 h3 h4 => by rw [f2.1 a (by omega) (by omega) (by omega) (by omega), th0_1 _ (by omega), f1.1 a h1 h2 h3 h4]
  have gK : ∀ a, a < 163 → K.1 a = N.1 a := fun a h0 => by rw [f2.1 a (by omega) (by omega) (by omega) (by omega), th0_1 _ (by omega)]
  have g2 : K.2 = M.2 := by rw [f2.2.1]; exact f1.2
  have k1 : ∀ a, 164 ≤ a → a ≠ 177 → a ≠ 178 → a ≠ 179 → K.1 a = M.1 a := fun a h0 h1 h2 h3 => by rw [f2.1 a (by omega) h1 h2 h3, th0_1 _ (by omega), f1.1 a (by omega) (by omega) (by omega) (by omega)]
  have k2 : ∀ j, j ≠ 0 → j ≠ 25 → K.1 163 j = M.1 163 j := fun j h0 h1 => by
    rw [f2.2.2.1 j h1]
    show (wI N 163 0 0).1 163 j = _
    rw [w163, if_neg h0, f1.1 163 (by omega) (by omega) (by omega) (by omega)]
  have k3 : ∀ j, 23 ≤ j → (j < 325 ∨ 1365 ≤ j) → K.1 179 j = M.1 179 j := fun j h1 h2 => by rw [f2.2.2.2 j h1 h2, th0_1 _ (by decide), f1.1 179 (by omega) (by omega) (by omega) (by omega)]
  refine ⟨v, N, K, e1, e2, p, x, h', u, H', k, l, E, t, ⟨o1, o2, oh, hd, o5, ⟨h16, hH⟩, o7, o8⟩, ⟨?_, ?_, ?_, ?_, ?_, ?_, ?_, ?_, ?_⟩, ⟨?_, ?_, s2, ?_, i2, ?_, ?_, ?_, ?_, ?_⟩⟩
  · exact c1.fro fun a h1 h2 => g1 a (by omega) (by omega) (by omega) (by omega) (by omega)
  · exact c2.fro fun a h1 h2 => g1 a (by omega) (by omega) (by omega) (by omega) (by omega)
  · exact s1.fr fun a h1 h2 => gK a (by omega)
  · exact c4.fr fun a h1 h2 => g1 a (by omega) (by omega) (by omega) (by omega) (by omega)
  · exact i1.fr fun a h1 => gK a (by omega)
  · exact c6.fr fun a h1 h2 => g1 a (by omega) (by omega) (by omega) (by omega) (by omega)
  · exact ⟨by rw [g1 0 (by omega) (by omega) (by omega) (by omega) (by omega)]; exact c7.1, fun i hi => by rw [g1 30 (by omega) (by omega) (by omega) (by omega) (by omega)]; exact c7.2 i hi⟩
  · intro j h1 h2; rw [g2]; exact c8 j h1 h2
  · exact ⟨by rw [g1 25 (by omega) (by omega) (by omega) (by omega) (by omega)]; exact c9.1, fun i hi => by rw [g1 26 (by omega) (by omega) (by omega) (by omega) (by omega)]; exact c9.2 i hi⟩
  · exact r1.fr (k1 169 (by omega) (by omega) (by omega) (by omega))
  · exact r2.fr (k1 169 (by omega) (by omega) (by omega) (by omega)) (k1 170 (by omega) (by omega) (by omega) (by omega)) (k1 171 (by omega) (by omega) (by omega) (by omega))
  · exact r4.fr o5 fun j h1 h2 => k3 j (by omega) (by omega)
  · exact r6.fr o1 oM (k1 180 (by omega) (by omega) (by omega) (by omega)) fun j h1 h2 => k3 j (by omega) (by omega)
  · exact ⟨by rw [k1 176 (by omega) (by omega) (by omega) (by omega)]; exact r7.1, fun i hi => by rw [k1 176 (by omega) (by omega) (by omega) (by omega)]; exact r7.2 i hi⟩
  · exact ⟨by rw [k2 18 (by omega) (by omega)]; exact r8.1, fun j hj => by rw [g2, k1 174 (by omega) (by omega) (by omega) (by omega)]; exact r8.2 j hj⟩
  · exact ⟨by rw [k2 2 (by omega) (by omega)]; exact r9.1, fun i hi => by rw [k1 164 (by omega) (by omega) (by omega) (by omega)]; exact r9.2 i hi⟩
  · intro q hq; rw [g2]; exact r10 q hq
/-- something felt or said -/
theorem st_sy {f g : mM → Option (Int32 × mM)} (o : IvO B p x h u H k l E t) (c : IvC M p x h u H k l E t) (r : IvR M p x h u H k l E t) (a : Sy f g p M) : StpB B f g M := by
  obtain ⟨v, u', N, K, e1, f1, s1, ou, e2, f2, s2⟩ := a
  obtain ⟨c1, c2, c3, c4, c5, c6, c7, c8, c9⟩ := c
  obtain ⟨r1, r2, r3, r4, r5, r6, r7, r8, r9, r10⟩ := r
  have o' := o.up
  obtain ⟨o1, o2, o3, o4, o5, o6, o7, o8⟩ := o'
  have g1 : ∀ a, a < 163 → (a < 105 ∨ 110 < a) → K.1 a = M.1 a := fun a h0 h1 => by rw [f2.1 a (by omega), th0_1 _ (by omega), f1.1 a (by simp; omega)]
  have gK : ∀ a, a < 163 → K.1 a = N.1 a := fun a h0 => by rw [f2.1 a (by omega), th0_1 _ (by omega)]
  have g2 : K.2 = M.2 := by rw [f2.2.1]; exact f1.2
  have k1 : ∀ a, 164 ≤ a → a ≠ 179 → K.1 a = M.1 a := fun a h0 h3 => by rw [f2.1 a h3, th0_1 _ (by omega), f1.1 a (by simp; omega)]
  have k2 : ∀ j, j ≠ 0 → K.1 163 j = M.1 163 j := fun j h0 => by
    rw [f2.1 163 (by decide)]
    show (wI N 163 0 0).1 163 j = _
    rw [w163, if_neg h0, f1.1 163 (by decide)]
  have k3 : ∀ j, (j < 23 ∨ 65 ≤ j) → K.1 179 j = M.1 179 j := fun j h1 => by rw [f2.2.2 j h1, th0_1 _ (by decide), f1.1 179 (by decide)]
  refine ⟨v, N, K, e1, e2, p, x, h, u', H, k, l, E, t, ⟨o1, o2, o3, o4, ou, o6, o7, o8⟩, ⟨?_, ?_, ?_, ?_, ?_, ?_, ?_, ?_, ?_⟩, ⟨?_, ?_, ?_, s2, ?_, ?_, ?_, ?_, ?_, ?_⟩⟩
  · exact c1.fro fun a h1 h2 => g1 a (by omega) (by omega)
  · exact c2.fro fun a h1 h2 => g1 a (by omega) (by omega)
  · exact c3.fr fun a h1 h2 => g1 a (by omega) (by omega)
  · exact s1.fr fun a h1 h2 => gK a (by omega)
  · exact c5.fr fun a h1 => g1 a (by omega) (by omega)
  · exact c6.fr fun a h1 h2 => g1 a (by omega) (by omega)
  · exact ⟨by rw [g1 0 (by omega) (by omega)]; exact c7.1, fun i hi => by rw [g1 30 (by omega) (by omega)]; exact c7.2 i hi⟩
  · intro j h1 h2; rw [g2]; exact c8 j h1 h2
  · exact ⟨by rw [g1 25 (by omega) (by omega)]; exact c9.1, fun i hi => by rw [g1 26 (by omega) (by omega)]; exact c9.2 i hi⟩
  · exact r1.fr (k1 169 (by omega) (by omega))
  · exact r2.fr (k1 169 (by omega) (by omega)) (k1 170 (by omega) (by omega)) (k1 171 (by omega) (by omega))
  · exact r3.fr o1 fun j h1 h2 => k3 j (by omega)
  · exact r5.fr o1 o6.1 (k2 25 (by omega)) fun j h1 h2 => k3 j (by omega)
  · exact r6.fr o1 o7 (k1 180 (by omega) (by omega)) fun j h1 h2 => k3 j (by omega)
  · exact ⟨by rw [k1 176 (by omega) (by omega)]; exact r7.1, fun i hi => by rw [k1 176 (by omega) (by omega)]; exact r7.2 i hi⟩
  · exact ⟨by rw [k2 18 (by omega)]; exact r8.1, fun j hj => by rw [g2, k1 174 (by omega) (by omega)]; exact r8.2 j hj⟩
  · exact ⟨by rw [k2 2 (by omega)]; exact r9.1, fun i hi => by rw [k1 164 (by omega) (by omega)]; exact r9.2 i hi⟩
  · intro q hq; rw [g2]; exact r10 q hq
/-- a mark -/
theorem st_ma {f g : mM → Option (Int32 × mM)} (o : IvO B p x h u H k l E t) (c : IvC M p x h u H k l E t) (r : IvR M p x h u H k l E t) (a : Ma f g p B M) : StpB B f g M := by
  obtain ⟨v, h', u', k', H', N, K, e1, f1, s1, u1, m1, i1, e2, f2, s2, u2, m2, i2, oh, hd, ou, om, h16, hH⟩ := a
  obtain ⟨c1, c2, c3, c4, c5, c6, c7, c8, c9⟩ := c
  obtain ⟨r1, r2, r3, r4, r5, r6, r7, r8, r9, r10⟩ := r
  have oo : IvO B p x h' u' H' k' l E t := ⟨o.1, o.2.1, oh, hd, ou, ⟨h16, hH⟩, om, o.2.2.2.2.2.2.2⟩
  have g1 : ∀ a, a < 163 → (a < 31 ∨ 34 < a) → a ≠ 39 → (a < 105 ∨ 155 < a) → K.1 a = M.1 a := fun a h0 h1 h2 h3 => by rw [f2.1 a (by omega) (by omega) (by omega), th0_1 _ (by omega), f1.1 a h1 h2 h3]
  have gK : ∀ a, a < 163 → K.1 a = N.1 a := fun a h0 => by rw [f2.1 a (by omega) (by omega) (by omega), th0_1 _ (by omega)]
  have g2 : K.2 = M.2 := by rw [f2.2.1]; exact f1.2
  have k1 : ∀ a, 164 ≤ a → a ≠ 179 → a ≠ 180 → K.1 a = M.1 a := fun a h0 h3 h4 => by rw [f2.1 a (by omega) h3 h4, th0_1 _ (by omega), f1.1 a (by omega) (by omega) (by omega)]
  have k2 : ∀ j, j ≠ 0 → j ≠ 25 → K.1 163 j = M.1 163 j := fun j h0 h1 => by
    rw [f2.2.2.1 j h1]
    show (wI N 163 0 0).1 163 j = _
    rw [w163, if_neg h0, f1.1 163 (by omega) (by omega) (by omega)]
  refine ⟨v, N, K, e1, e2, p, x, h', u', H', k', l, E, t, oo.up, ⟨?_, ?_, ?_, ?_, ?_, ?_, ?_, ?_, ?_⟩, ⟨?_, ?_, s2, u2, i2, m2, ?_, ?_, ?_, ?_⟩⟩
  · exact c1.fro fun a h1 h2 => g1 a (by omega) (by omega) (by omega) (by omega)
  · exact c2.fro fun a h1 h2 => g1 a (by omega) (by omega) (by omega) (by omega)
  · exact s1.fr fun a h1 h2 => gK a (by omega)
  · exact u1.fr fun a h1 h2 => gK a (by omega)
  · exact i1.fr fun a h1 => gK a (by omega)
  · exact m1.fr fun a h1 h2 => gK a (by omega)
  · exact ⟨by rw [g1 0 (by omega) (by omega) (by omega) (by omega)]; exact c7.1, fun i hi => by rw [g1 30 (by omega) (by omega) (by omega) (by omega)]; exact c7.2 i hi⟩
  · intro j h1 h2; rw [g2]; exact c8 j h1 h2
  · exact ⟨by rw [g1 25 (by omega) (by omega) (by omega) (by omega)]; exact c9.1, fun i hi => by rw [g1 26 (by omega) (by omega) (by omega) (by omega)]; exact c9.2 i hi⟩
  · exact r1.fr (k1 169 (by omega) (by omega) (by omega))
  · exact r2.fr (k1 169 (by omega) (by omega) (by omega)) (k1 170 (by omega) (by omega) (by omega)) (k1 171 (by omega) (by omega) (by omega))
  · exact ⟨by rw [k1 176 (by omega) (by omega) (by omega)]; exact r7.1, fun i hi => by rw [k1 176 (by omega) (by omega) (by omega)]; exact r7.2 i hi⟩
  · exact ⟨by rw [k2 18 (by omega) (by omega)]; exact r8.1, fun j hj => by rw [g2, k1 174 (by omega) (by omega) (by omega)]; exact r8.2 j hj⟩
  · exact ⟨by rw [k2 2 (by omega) (by omega)]; exact r9.1, fun i hi => by rw [k1 164 (by omega) (by omega) (by omega)]; exact r9.2 i hi⟩
  · intro q hq; rw [g2]; exact r10 q hq
/-- what is fed -/
theorem st_feed (w : Nat) (hw : 1100 ≤ w) (o : IvO B p x h u H k l E t) (c : IvC M p x h u H k l E t) (r : IvR M p x h u H k l E t) (a b d : Int64) : StpB B (f_X11_feed w 0 a b d) (f_X12_feed w 163 a b d) M := by
  obtain ⟨v, t', N, K, ot, e1, f1, s1, e2, f2, s2⟩ := X11_feed_eq w (by omega) o.2.2.2.2.2.2.2.2.2 c.2.2.2.2.2.2.2.2 r.2.2.2.2.2.2.2.2.1 a b d
  obtain ⟨c1, c2, c3, c4, c5, c6, c7, c8, c9⟩ := c
  obtain ⟨r1, r2, r3, r4, r5, r6, r7, r8, r9, r10⟩ := r
  have o' := o.up
  obtain ⟨o1, o2, o3, o4, o5, o6, o7, o8, o9, o10⟩ := o'
  have g1 : ∀ a, a < 163 → a ≠ 25 → a ≠ 26 → K.1 a = M.1 a := fun a h0 h1 h2 => by rw [f2.1 a (by omega) (by omega), th0_1 _ (by omega), f1.1 a (by simp; omega)]
  have gK : ∀ a, a < 163 → K.1 a = N.1 a := fun a h0 => by rw [f2.1 a (by omega) (by omega), th0_1 _ (by omega)]
  have g2 : K.2 = M.2 := by rw [f2.2.1]; exact f1.2
  have k1 : ∀ a, 165 ≤ a → K.1 a = M.1 a := fun a h0 => by rw [f2.1 a (by omega) (by omega), th0_1 _ (by omega), f1.1 a (by simp; omega)]
  have k2 : ∀ j, j ≠ 0 → j ≠ 2 → K.1 163 j = M.1 163 j := fun j h0 h1 => by
    rw [f2.2.2 j h1]
    show (wI N 163 0 0).1 163 j = _
    rw [w163, if_neg h0, f1.1 163 (by decide)]
  refine ⟨v, N, K, e1, e2, p, x, h, u, H, k, l, E, t', ⟨o1, o2, o3, o4, o5, o6, o7, o8, o9, ot⟩, ⟨?_, ?_, ?_, ?_, ?_, ?_, ?_, ?_, ?_⟩, ⟨?_, ?_, ?_, ?_, ?_, ?_, ?_, ?_, s2, ?_⟩⟩
  · exact c1.fro fun a h1 h2 => g1 a (by omega) (by omega) (by omega)
  · exact c2.fro fun a h1 h2 => g1 a (by omega) (by omega) (by omega)
  · exact c3.fr fun a h1 h2 => g1 a (by omega) (by omega) (by omega)
  · exact c4.fr fun a h1 h2 => g1 a (by omega) (by omega) (by omega)
  · exact c5.fr fun a h1 => g1 a (by omega) (by omega) (by omega)
  · exact c6.fr fun a h1 h2 => g1 a (by omega) (by omega) (by omega)
  · exact ⟨by rw [g1 0 (by omega) (by omega) (by omega)]; exact c7.1, fun i hi => by rw [g1 30 (by omega) (by omega) (by omega)]; exact c7.2 i hi⟩
  · intro j h1 h2; rw [g2]; exact c8 j h1 h2
  · exact ⟨by rw [gK 25 (by omega)]; exact s1.1, fun i hi => by rw [gK 26 (by omega)]; exact s1.2 i hi⟩
  · exact r1.fr (k1 169 (by omega))
  · exact r2.fr (k1 169 (by omega)) (k1 170 (by omega)) (k1 171 (by omega))
  · exact r3.fr o1 fun j h1 h2 => by rw [k1 179 (by omega)]
  · exact r4.fr o5 fun j h1 h2 => by rw [k1 179 (by omega)]
  · exact r5.fr o1 o6.1 (k2 25 (by omega) (by omega)) fun j h1 h2 => by rw [k1 179 (by omega)]
  · exact r6.fr o1 o7 (k1 180 (by omega)) fun j h1 h2 => by rw [k1 179 (by omega)]
  · exact ⟨by rw [k1 176 (by omega)]; exact r7.1, fun i hi => by rw [k1 176 (by omega)]; exact r7.2 i hi⟩
  · exact ⟨by rw [k2 18 (by omega) (by omega)]; exact r8.1, fun j hj => by rw [g2, k1 174 (by omega)]; exact r8.2 j hj⟩
  · intro q hq; rw [g2]; exact r10 q hq
end INV
