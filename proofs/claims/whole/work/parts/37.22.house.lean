/-! ===== a house told: the whole call ===== -/
section HOUSE2
variable {p : HP} {x : HX} {h : HS} {u : FU} {H : HI} {k : MK} {l : LN} {E : NE} {t : TX} {s : DS} {M N K : mM} {B : Nat}
theorem PlR.lo (hp : okP p) (c : PlR M 0 p) (e : ∀ j, j < 60 → N.1 169 j = M.1 169 j) : PlR N 0 p := by
  obtain ⟨h1, h2, h3, h4, h5⟩ := c
  have hD := hp.2.1
  have hP := hp.2.2.1
  refine ⟨?_, ?_, ?_, fun d hd => ⟨?_, ?_, ?_, ?_⟩, fun q hq => ?_⟩
  · rw [e 0 (by omega)]; exact h1
  · rw [e (0 + 1) (by omega)]; exact h2
  · rw [e (0 + 2) (by omega)]; exact h3
  · rw [e _ (by omega)]; exact (h4 d hd).1
  · rw [e _ (by omega)]; exact (h4 d hd).2.1
  · rw [e _ (by omega)]; exact (h4 d hd).2.2.1
  · rw [e _ (by omega)]; exact (h4 d hd).2.2.2
  · rw [e _ (by omega)]; exact h5 q hq
theorem XR.lo (ox : okX x) (c : XR M 0 0 x) (e : ∀ j, j < 60 → N.1 169 j = M.1 169 j) (e1 : ∀ j, j < 1100 → N.1 170 j = M.1 170 j ∧ N.1 171 j = M.1 171 j) : XR N 0 0 x := by
  obtain ⟨h1, h2, h3, h4, h5⟩ := c
  obtain ⟨-, x2, -, x4, -⟩ := ox
  refine ⟨?_, fun i hi => ?_, fun z => ?_, fun z => ⟨?_, ?_⟩, fun i hi => ?_⟩
  · rw [e (0 + 3) (by omega)]; exact h1
  · rw [e _ (by omega)]; exact h2 i hi
  · rw [e (0 + 4) (by omega)]; exact h3 z
  · rw [e (0 + 4) (by omega)]; exact (h4 z).1
  · rw [(e1 _ (by omega)).1]; exact (h4 z).2
  · rw [(e1 _ (by omega)).1, (e1 _ (by omega)).2]; exact h5 i hi
/-- the reference's half, where only places of reading were written, and the tape is taken -/
theorem IvR.rd (o : IvO B p x h u H k l E t) (c : IvR M p x h u H k l E t) (f : FrG M N) : IvR N p x h u H k l E (0, t.2) := by
  obtain ⟨c1, c2, c3, c4, c5, c6, c7, c8, c9, c10⟩ := c
  obtain ⟨o1, o2, o3, o4, o5, o6, o7, o8, o9, o10⟩ := o
  have g : ∀ a, 174 ≤ a → a ≠ 175 → N.1 a = M.1 a := fun a h1 h2 => f.1 a (by omega) (by omega) (by omega) (by omega) (by omega) (by omega) (by omega)
  refine ⟨c1.lo o1 f.2.2.2.1, c2.lo o2 f.2.2.2.1 f.2.2.2.2.1, c3.fr o1 fun j _ h2 => by rw [g 179 (by omega) (by omega)], c4.fr o5 fun j _ h2 => by rw [g 179 (by omega) (by omega)], c5.fr o1 o6.1 (f.2.2.1 25 (by omega) (by omega) (by omega) (by omega) (by omega) (by omega) (by omega) (by omega)) fun j _ h2 => by rw [g 179 (by omega) (by omega)], c6.fr o1 o7 (g 180 (by omega) (by omega)) fun j _ h2 => by rw [g 179 (by omega) (by omega)], ⟨by rw [g 176 (by omega) (by omega)]; exact c7.1, fun i hi => by rw [g 176 (by omega) (by omega)]; exact c7.2 i hi⟩, ⟨by rw [f.2.2.1 18 (by omega) (by omega) (by omega) (by omega) (by omega) (by omega) (by omega) (by omega)]; exact c8.1, fun j hj => by rw [f.2.1 172 (by omega) (by omega), g 174 (by omega) (by omega)]; exact c8.2 j hj⟩, ⟨f.2.2.2.2.2, fun i hi => absurd hi (Nat.not_lt_zero _)⟩, fun q hq => by rw [f.2.1 168 (by omega) (by omega)]; exact c10 q hq⟩
theorem okT0 (t : TX) : okT (0, t.2) := ⟨Nat.zero_le _, fun i hi => absurd hi (Nat.not_lt_zero _)⟩
theorem okX_F (ok : okD s) : okX (xF s.2.1) := by
  obtain ⟨p, x, E⟩ := s
  obtain ⟨o1, o2, o3, o4, o5, o6, o7⟩ := ok
  have o4 : xN x ≤ 12 := o4
  refine ⟨?_, ?_, fun i hi => ?_, o6, fun hl => ?_⟩
  · show 1 ≤ (if xN x = 0 then 1 else xN x)
    split <;> omega
  · show (if xN x = 0 then 1 else xN x) ≤ 12
    split <;> omega
  · have hi : i < (if xN x = 0 then 1 else xN x) := hi
    show (if xN x = 0 then fz else xD x) i ≤ 9
    by_cases z : xN x = 0
    · rw [if_pos z]; exact Nat.zero_le _
    · rw [if_neg z] at hi ⊢; exact o5 i hi
  · obtain ⟨H, h1, h2, h3⟩ := o7 hl
    exact ⟨H, h1, h2, by have h3 : H (xL x).1 = 1 := h3; show 1 ≤ H (xL x).1; omega⟩
def u0 : FU := ((0, fz, fz, fun _ => false), 0, fz, fz)
def H0 : HI := (0, fun _ => (0, 0, fz, fz, fz))
def k0 : MK := (fun _ => false, (fun _ => (0, 0, fz, fz, fz)), fun _ => u0)
def l0 : LN := (0, fz, fz, fz)
theorem st_house (w : Nat) (hw : 1100 ≤ w) (o : IvO B p x h u H k l E t) (c : IvC M p x h u H k l E t) (r : IvR M p x h u H k l E t) : StpB B (f_X11_house w 0) (f_X12_house w 163) M := by
  have ot := o.2.2.2.2.2.2.2.2.2
  obtain ⟨v, N, e1, f1, hk⟩ := hs_read w hw ot c.2.2.2.2.2.2.2.2 r.2.2.2.2.2.2.2.2.1 r.2.2.2.2.2.2.2.2.2
  have eC : f_X11_house w 0 M = if v = 0 then bV (f_X6_copyFrom w 1 13 (wI N 25 1 0)) fun M4 => bV (f_X11_startAnew w 0 M4) fun M5 => some (v, M5) else some (v, wI N 25 1 0) := by
    unfold f_X11_house
    rw [r0_3, r0_1, r0_2, r0_0, e1, bI_some, lt_eq]
  have n1 : ∀ a, (a < 13 ∨ 23 < a) → a ≠ 25 → (wI N 25 1 0).1 a = M.1 a := fun a h1 h2 => by rw [rIc _ _ _ _ h2]; exact f1.1 a h1 h2
  have n2 : ∀ a, a ≠ 14 → a ≠ 15 → a ≠ 25 → (wI N 25 1 0).2 a = M.2 a := fun a h1 h2 h3 => funext fun j => f1.2.1 a j h1 h2 (Or.inl h3)
  have n25 : (wI N 25 1 0).1 25 1 = 0 := by rw [rI, if_pos rfl, if_pos rfl]
  obtain ⟨K0, -, hv⟩ := hk M r.2.2.2.2.2.2.2.2.1 r.2.2.2.2.2.2.2.2.2
  rcases hv with ⟨hv, s, -, -, dC, -, ok⟩ | ⟨e, h0, h1, hv, -⟩
  · have dC1 : ∀ s, DC N s → DC (wI N 25 1 0) s := fun s d => by
      obtain ⟨q1, ⟨q2, q3, q4, q5⟩, q6⟩ := d
      exact ⟨q1.fro fun a h1 h2 => rIc _ _ _ _ (by omega), ⟨by rw [rIc _ _ _ _ (by decide)]; exact q2, fun j hj => by rw [rIc _ _ _ _ (by decide)]; exact q3 j hj, by rw [rIc _ _ _ _ (by decide)]; exact q4, fun j hj => by rw [rIc _ _ _ _ (by decide)]; exact q5 j hj⟩, q6⟩
    obtain ⟨pl, -, -⟩ := (dC1 s dC).cp ok
    obtain ⟨N3, a1, a2, -⟩ := X11_startAnew_eq w hw ok.1 pl
    have g1 : ∀ a, 163 ≤ a → N3.1 a = M.1 a := fun a h1 => by rw [a2.1 a (by simp; omega), cp13_c _ (by omega), n1 a (by omega) (by omega)]
    have g2 : ∀ a, 163 ≤ a → N3.2 a = M.2 a := fun a h1 => by rw [a2.2, cp13_2 _ (by omega), n2 a (by omega) (by omega) (by omega)]
    have rN : IvR N3 p x h u H k l E t := r.frC o g1 (fun a j ha => by rw [g2 a ha])
    obtain ⟨K, fK, hK⟩ := hk N3 rN.2.2.2.2.2.2.2.2.1 rN.2.2.2.2.2.2.2.2.2
    rcases hK with ⟨-, s', b1, b2, b3, b4, b5⟩ | ⟨e, h0, h1, hv', -⟩
    · obtain ⟨pl', xc', nm'⟩ := (dC1 s' b3).cp b5
      obtain ⟨N3', a1', a2', a3', a4', a5', a6', a7', a8', a9'⟩ := X11_startAnew_eq w hw b5.1 pl'
      rw [a1] at a1'
      have := Option.some.inj a1'
      subst this
      obtain ⟨K2, k1, k2, k3, k4, k5, k6, k7, k8, k9, k10, k11, k12, k13⟩ := rf_house w hw b2 b4 b5
      have q1 : ∀ a, a < 163 → K2.1 a = N3.1 a := fun a ha => by rw [k2 a (by omega) (by omega) (by omega) (by omega) (by omega) (by omega) (by omega) (by omega), fK.1 a (by omega) (by omega) (by omega) (by omega) (by omega) (by omega) (by omega)]
      have q2 : ∀ a, a < 163 → K2.2 a = N3.2 a := fun a ha => by rw [k3 a (by omega), fK.2.1 a (by omega) (by omega)]
      refine ⟨0, N3, K2, ?_, by rw [b1]; exact k1, s'.1, xF s'.2.1, beg s'.1, u0, H0, k0, l0, s'.2.2, (0, t.2), ⟨b5.1, okX_F b5, beg_ok b5.1, Nat.zero_le _, ⟨by decide, by decide, fun i hi => absurd hi (Nat.not_lt_zero _), fun i hi => absurd hi (Nat.not_lt_zero _)⟩, ⟨by decide, fun i hi => absurd hi (Nat.not_lt_zero _)⟩, fun i hi e => (by cases e), ⟨by decide, fun i hi => absurd hi (Nat.not_lt_zero _)⟩, b5.2.1, okT0 t⟩, ⟨?_, ?_, ?_, ?_, ?_, ?_, ?_, ?_, ?_⟩, ⟨k11, k12, k10, ?_, ?_, ?_, ?_, k13, ?_, ?_⟩⟩
      · rw [eC, hv, if_pos rfl, cp_eq, bV_some, a1, bV_some]
      · exact pl'.fro fun a h1 h2 => by rw [q1 a (by omega), a2.1 a (by simp; omega)]
      · exact xc'.fro fun a h1 h2 => by rw [q1 a (by omega), a2.1 a (by simp; omega)]
      · exact a3'.fr fun a h1 h2 => q1 a (by omega)
      · exact ⟨by rw [q1 105 (by omega)]; exact a7', by rw [q1 105 (by omega)]; exact a8', fun i hi => absurd hi (Nat.not_lt_zero _), fun i hi => absurd hi (Nat.not_lt_zero _)⟩
      · obtain ⟨-, tt, h1, h2, -⟩ := c.2.2.2.2.1
        refine ⟨by decide, tt, h1, ?_, by rw [q1 39 (by omega)]; exact a5', fun i hi => absurd hi (Nat.not_lt_zero _)⟩
        rw [q1 39 (by omega), a6', cp13_c _ (by omega), n1 39 (by omega) (by omega)]; exact h2
      · intro i hi
        refine ⟨?_, fun e => by cases e⟩
        rw [q1 _ (by omega), a9' i hi]; rfl
      · exact ⟨by rw [q1 0 (by omega)]; exact a4', fun i hi => absurd hi (Nat.not_lt_zero _)⟩
      · intro j h1 h2
        rw [q2 3 (by omega), a2.2]; exact nm' j h1 h2
      · refine ⟨?_, fun i hi => absurd hi (Nat.not_lt_zero _)⟩
        rw [q1 25 (by omega), a2.1 25 (by decide), cp13_c _ (by omega), n25]; rfl
      · exact ⟨k7, k8, fun i hi => absurd hi (Nat.not_lt_zero _), fun i hi => absurd hi (Nat.not_lt_zero _)⟩
      · exact ⟨k5, fun i hi => absurd hi (Nat.not_lt_zero _)⟩
      · intro i hi
        exact ⟨by rw [k9 i hi]; rfl, fun e => by cases e⟩
      · exact ⟨k6, fun i hi => absurd hi (Nat.not_lt_zero _)⟩
      · refine ⟨?_, fun i hi => absurd hi (Nat.not_lt_zero _)⟩
        rw [k4 2 (by omega) (by omega), fK.2.2.2.2.2]; rfl
      · intro q hq
        rw [k3 168 (by omega), fK.2.1 168 (by omega) (by omega), g2 168 (by omega)]; exact r.2.2.2.2.2.2.2.2.2 q hq
    · rw [hv] at hv'
      exact absurd hv'.symm (nI_ne0 h0 (by omega))
  · have rN : IvR (wI N 25 1 0) p x h u H k l E t := r.frC o (fun a ha => n1 a (by omega) (by omega)) (fun a j ha => by rw [n2 a (by omega) (by omega) (by omega)])
    obtain ⟨K, fK, hK⟩ := hk _ rN.2.2.2.2.2.2.2.2.1 rN.2.2.2.2.2.2.2.2.2
    have vn : ¬ v = 0 := by rw [hv]; exact nI_ne0 h0 (by omega)
    rcases hK with ⟨hv', -⟩ | ⟨e', -, -, -, hK⟩
    · exact absurd hv' vn
    · have rK := rN.rd o fK
      have q1 : ∀ a, a < 163 → K.1 a = (wI N 25 1 0).1 a := fun a ha => fK.1 a (by omega) (by omega) (by omega) (by omega) (by omega) (by omega) (by omega)
      have q2 : ∀ a, a < 163 → K.2 a = (wI N 25 1 0).2 a := fun a ha => fK.2.1 a (by omega) (by omega)
      have o' := o.up
      obtain ⟨o1, o2, o3, o4, o5, o6, o7, o8, o9, o10⟩ := o'
      obtain ⟨c1, c2, c3, c4, c5, c6, c7, c8, c9⟩ := c
      refine ⟨v, wI N 25 1 0, K, ?_, hK, p, x, h, u, H, k, l, E, (0, t.2), ⟨o1, o2, o3, o4, o5, o6, o7, o8, o9, okT0 t⟩, ⟨?_, ?_, ?_, ?_, ?_, ?_, ?_, ?_, ?_⟩, rK⟩
      · rw [eC, if_neg vn]
      · exact c1.fro fun a h1 h2 => by rw [q1 a (by omega), n1 a (by omega) (by omega)]
      · exact c2.fro fun a h1 h2 => by rw [q1 a (by omega), n1 a (by omega) (by omega)]
      · exact c3.fr fun a h1 h2 => by rw [q1 a (by omega), n1 a (by omega) (by omega)]
      · exact c4.fr fun a h1 h2 => by rw [q1 a (by omega), n1 a (by omega) (by omega)]
      · exact c5.fr fun a h1 => by rw [q1 a (by omega), n1 a (by omega) (by omega)]
      · exact c6.fr fun a h1 h2 => by rw [q1 a (by omega), n1 a (by omega) (by omega)]
      · exact ⟨by rw [q1 0 (by omega), n1 0 (by omega) (by omega)]; exact c7.1, fun i hi => by rw [q1 30 (by omega), n1 30 (by omega) (by omega)]; exact c7.2 i hi⟩
      · intro j h1 h2
        rw [q2 3 (by omega), n2 3 (by omega) (by omega) (by omega)]; exact c8 j h1 h2
      · refine ⟨?_, fun i hi => absurd hi (Nat.not_lt_zero _)⟩
        rw [q1 25 (by omega), n25]; rfl
end HOUSE2
