/-! ===== door, count ===== -/
section DOOR
variable {p : HP} {x : HX} {h : HS} {u : FU} {M N : mM}
theorem out_iff (a : Int32) (n : Nat) (hn : n < 1000) : (a.toInt < 0 ∨ (n : Int) < a.toInt) ∨ ∃ j, j ≤ n ∧ a = nI j := by
  by_cases q : a < 0
  · have := Int32.lt_iff_toInt_lt.mp q
    have e0 : (0 : Int32).toInt = 0 := rfl
    exact Or.inl (Or.inl (by omega))
  · obtain ⟨j, hj, rfl⟩ := nI_of q
    by_cases q2 : j ≤ n
    · exact Or.inr ⟨j, q2, rfl⟩
    · refine Or.inl (Or.inr ?_)
      rw [nI_toInt hj]; omega
theorem X11_door_eq (w : Nat) (hw : 1100 ≤ w) (Q : QC p x h M) (R : QF p x h M) (a b : Int32) : Al (f_X11_door w 0 a b) (f_X12_door w 163 a b) M := by
  have R0 := R.th0
  obtain ⟨hp, hx, hh, hda, hc, hxc, hs⟩ := Q
  obtain ⟨-, -, -, -, hr, hxr, ht⟩ := R0
  have hD := hp.2.1
  refine Al.of ?_
  rcases ix3 a (show pD p < 2 ^ 31 by omega) with q | ⟨d, hd, rfl⟩
  · refine ⟨-2, ?_, ?_⟩
    · unfold f_X11_door; rw [r0_0, X6_hasDoor_eq w a hc, has_no q]; rfl
    · unfold f_X12_door; rw [lt_eq, show wI M 163 0 0 = th0 M from rfl, X12_isDoor_eq w a hr, has_no q]; rfl
  · unfold f_X11_door f_X12_door
    rw [r0_0, X6_hasDoor_eq w _ hc, has_yes hd (by omega), bI_some, if_neg (show ¬ (1 : Int32) = 0 by decide), lt_eq, show wI M 163 0 0 = th0 M from rfl, X12_isDoor_eq w _ hr, has_yes hd (by omega), bI_some, if_neg (show ¬ (1 : Int32) = 0 by decide), X12_within_eq, bI_some]
    have e0 : (0 : Int32).toInt = 0 := rfl
    have e6 : (6 : Int32).toInt = 6 := rfl
    rcases out_iff b 6 (by omega) with q | ⟨j, hj, rfl⟩
    · have q : b.toInt < 0 ∨ 6 < b.toInt := q
      refine ⟨-2, by rw [if_pos q], ?_⟩
      rw [if_pos]
      rcases q with q | q
      · rw [decide_eq_true (Int32.lt_iff_toInt_lt.mpr (by omega))]; rfl
      · rw [decide_eq_true (show (6 : Int32) < b from Int32.lt_iff_toInt_lt.mpr (by omega)), Bool.not_true, Bool.and_false]; rfl
    · obtain ⟨a1, a2, a3, -⟩ := hc.2.2.2.1 d hd
      obtain ⟨b1, b2, b3, -⟩ := hr.2.2.2.1 d hd
      rw [Nat.zero_add] at b1 b2 b3
      obtain ⟨s1, s2⟩ := hs.2.2.1 d hd
      obtain ⟨t1, t2⟩ := ht.2.2.1 d hd
      rw [Nat.zero_add] at t1 t2
      have a1 : M.1 5 d = _ := a1
      have a2 : M.1 6 d = _ := a2
      have a3 : M.1 7 d = _ := a3
      have s1 : M.1 32 d = _ := s1
      have s2 : M.1 33 d = _ := s2
      have w1 : M.1 31 2 = sWed h := hs.2.1
      have w2 : (th0 M).1 179 1 = sWed h := ht.2.1
      have ek := X9_isStuck_eq w mem31 hp hh hs hd
      have fk : f_X12_doesStick w 163 0 (nI d) (th0 M) = _ := X12_doesStick_eq w (b := 0) (by omega) hp hh ht hd
      have fw : f_X12_isWedged w 163 0 (nI d) (th0 M) = _ := X12_isWedged_eq w (b := 0) (by omega) d (th0 M)
      rw [Nat.zero_add, w2] at fw
      have : j = 0 ∨ j = 1 ∨ j = 2 ∨ j = 3 ∨ j = 4 ∨ j = 5 ∨ j = 6 := by omega
      rcases this with rfl | rfl | rfl | rfl | rfl | rfl | rfl
      · refine ⟨nI (pA p d), ?_, ?_⟩
        · dsimp only
          rw [if_neg (by decide), if_pos (by decide), r1_7, l5, chk_nI _ (by omega) (by omega), nI_clamp (by omega), a1]
        · dsimp only
          rw [if_neg (by decide), if_pos (by decide), show nI 0 = (0 : Int32) from rfl, X12_doorOf0 w (by omega), bI_some, b1]
      · refine ⟨nI (pB p d), ?_, ?_⟩
        · dsimp only
          rw [if_neg (by decide), if_neg (by decide), if_pos (by decide), r1_8, l6, chk_nI _ (by omega) (by omega), nI_clamp (by omega), a2]
        · dsimp only
          rw [if_neg (by decide), if_pos (by decide), show nI 1 = (1 : Int32) from rfl, X12_doorOf1 w (by omega), bI_some, b2]
      · refine ⟨nI (pW p d), ?_, ?_⟩
        · dsimp only
          rw [if_neg (by decide), if_neg (by decide), if_neg (by decide), if_pos (by decide), r1_9, l7, chk_nI _ (by omega) (by omega), nI_clamp (by omega), a3]
        · dsimp only
          rw [if_neg (by decide), if_pos (by decide), show nI 2 = (2 : Int32) from rfl, X12_doorOf2 w (by omega), bI_some, b3]
      · refine ⟨nI (sGap h d), ?_, ?_⟩
        · dsimp only
          rw [if_neg (by decide), if_neg (by decide), if_neg (by decide), if_neg (by decide), if_pos (by decide), r0_6, r31_3, l32, chk_nI _ (by omega) (by omega), nI_clamp (by omega), s1]
        · dsimp only
          rw [if_neg (by decide), if_neg (by decide), if_pos (by decide), r163_24, l179, show (2 : Int32) + nI d = nI (2 + d) by rw [nx_lit, nI_add], chk_nI _ (by omega) (by omega), nI_clamp (by omega), t1]
      · refine ⟨nI (sSw h d), ?_, ?_⟩
        · dsimp only
          rw [if_neg (by decide), if_neg (by decide), if_neg (by decide), if_neg (by decide), if_neg (by decide), if_pos (by decide), r0_6, r31_4, l33, chk_nI _ (by omega) (by omega), nI_clamp (by omega), s2]
        · dsimp only
          rw [if_neg (by decide), if_neg (by decide), if_neg (by decide), if_pos (by decide), r163_24, l179, show (10 : Int32) + nI d = nI (10 + d) by rw [nx_lit, nI_add], chk_nI _ (by omega) (by omega), nI_clamp (by omega), t2]
      · refine ⟨b2i (bit (sWed h) d), ?_, ?_⟩
        · dsimp only
          rw [if_neg (by decide), if_neg (by decide), if_neg (by decide), if_neg (by decide), if_neg (by decide), if_neg (by decide), if_pos (by decide), r0_6, X9_hasWedge_eq, bI_some, w1]
          cases bit (sWed h) d <;> rfl
        · dsimp only
          rw [if_neg (by decide), if_neg (by decide), if_neg (by decide), if_neg (by decide), if_pos (by decide), fw, bI_some]
          cases bit (sWed h) d <;> rfl
      · refine ⟨b2i (stk h d), ?_, ?_⟩
        · dsimp only
          rw [if_neg (by decide), if_neg (by decide), if_neg (by decide), if_neg (by decide), if_neg (by decide), if_neg (by decide), if_neg (by decide), r0_6, ek, bI_some]
          cases stk h d <;> rfl
        · dsimp only
          rw [if_neg (by decide), if_neg (by decide), if_neg (by decide), if_neg (by decide), if_neg (by decide), fk, bI_some]
          cases stk h d <;> rfl
def ssum (h : HS) : Nat → Nat
  | 0 => 0
  | k + 1 => ssum h k + sSw h k
theorem X11_count_eq (w : Nat) (hw : 1100 ≤ w) (Q : QC p x h M) (R : QF p x h M) (hu : UC M 105 u) (hv : UR M 0 u) (e8 : M.1 0 13 = M.1 176 0) (e11 : M.1 39 2 = M.1 163 25) (e12 : M.1 25 1 = M.1 163 2) (a : Int32) : Al (f_X11_count w 0 a) (f_X12_count w 163 a) M := by
  have R0 := R.th0
  obtain ⟨hp, hx, hh, hda, hc, hxc, hs⟩ := Q
  obtain ⟨-, -, -, -, hr, hxr, ht⟩ := R0
  have hD := hp.2.1
  refine Al.of ?_
  unfold f_X11_count f_X12_count
  rw [lt_eq, show wI M 163 0 0 = th0 M from rfl]
  rcases out_iff a 12 (by omega) with q | ⟨j, hj, rfl⟩
  · have q : a.toInt < 0 ∨ 12 < a.toInt := q
    exact ⟨-1, by rw [if_pos q], by rw [if_pos q]⟩
  · have p1 : (th0 M).1 169 0 = M.1 1 0 := (show (th0 M).1 169 0 = nI (pR p) from hr.1).trans hc.1.symm
    have p2 : (th0 M).1 169 1 = M.1 1 1 := (show (th0 M).1 169 1 = nI (pD p) from hr.2.1).trans hc.2.1.symm
    have p3 : (th0 M).1 169 2 = M.1 1 2 := (show (th0 M).1 169 2 = nI (pP p) from hr.2.2.1).trans hc.2.2.1.symm
    have d1 : M.1 31 1 = nI (sDay h) := hs.1
    have d2 : (th0 M).1 179 0 = nI (sDay h) := ht.1
    have w1 : M.1 31 2 = sWed h := hs.2.1
    have w2 : (th0 M).1 179 1 = sWed h := ht.2.1
    have u1 : (th0 M).1 179 23 = M.1 105 0 := by rw [th0_1 _ (by decide), hu.1]; exact hv.1
    have u2 : (th0 M).1 179 48 = M.1 105 1 := by rw [th0_1 _ (by decide), hu.2.1]; exact hv.2.1
    have n8 : (th0 M).1 176 0 = M.1 0 13 := by rw [th0_1 _ (by decide), e8]
    have n11 : (th0 M).1 163 25 = M.1 39 2 := e11.symm
    have n12 : (th0 M).1 163 2 = M.1 25 1 := e12.symm
    have sw1 : f_X9_swollenTogether w 31 M = some (nI (ssum h (pD p)), M) := by
      unfold f_X9_swollenTogether
      refine loopX (fun k (c : Nat) => c = ssum h k) (fun n (c : Nat) k => f_X9_swollenTogether_4 w n 31 (nI c) (nI k) M) (pD p) (fun r => r = some (nI (ssum h (pD p)), M)) ?_ ?_ (pD p) w 0 0 (by omega) (by omega) rfl
      · rintro n c rfl
        rw [f_X9_swollenTogether_4, r31_0, hc.2.1, if_pos (Int32.le_refl _)]
      · rintro n c k hk rfl
        have g : M.1 33 k = nI (sSw h k) := (hs.2.2.1 k hk).2
        refine Or.inr ⟨ssum h (k + 1), ?_, rfl⟩
        rw [f_X9_swollenTogether_4, r31_0, hc.2.1, if_neg (fun h => by have := (nI_leI (by omega) (by omega)).mp h; omega), r31_4, l33, chk_nI _ (by omega) (by omega), nI_clamp (by omega), g, nI_add, lt_eq, nI_1]
        rfl
    have sw2 : f_X12_sumOf w 163 10 (nI (pD p)) (th0 M) = some (nI (ssum h (pD p)), th0 M) := by
      unfold f_X12_sumOf
      refine loopX (fun k (c : Nat) => c = ssum h k) (fun n (c : Nat) k => f_X12_sumOf_5 w n 163 10 (nI (pD p)) (nI c) (nI k) (th0 M)) (pD p) (fun r => r = some (nI (ssum h (pD p)), th0 M)) ?_ ?_ (pD p) w 0 0 (by omega) (by omega) rfl
      · rintro n c rfl
        rw [f_X12_sumOf_5, if_pos (Int32.le_refl _)]
      · rintro n c k hk rfl
        have g : (th0 M).1 179 (10 + k) = nI (sSw h k) := by have := (ht.2.2.1 k hk).2; rw [Nat.zero_add] at this; exact this
        refine Or.inr ⟨ssum h (k + 1), ?_, rfl⟩
        rw [f_X12_sumOf_5, if_neg (fun h => by have := (nI_leI (by omega) (by omega)).mp h; omega), r163_24, l179, show (10 : Int32) + nI k = nI (10 + k) by rw [nx_lit, nI_add], chk_nI _ (by omega) (by omega), nI_clamp (by omega), g, nI_add, lt_eq, nI_1]
        rfl
    have st2 : f_X12_sticking w 163 0 (th0 M) = _ := X12_sticking_eq w (by omega) (b := 0) (by omega) hp hh ht hr.2.1
    rw [if_neg (by rw [nI_toInt (by omega)]; omega), if_neg (by rw [nI_toInt (by omega)]; omega)]
    have : j = 0 ∨ j = 1 ∨ j = 2 ∨ j = 3 ∨ j = 4 ∨ j = 5 ∨ j = 6 ∨ j = 7 ∨ j = 8 ∨ j = 9 ∨ j = 10 ∨ j = 11 ∨ j = 12 := by omega
    rcases this with rfl | rfl | rfl | rfl | rfl | rfl | rfl | rfl | rfl | rfl | rfl | rfl | rfl
    · refine ⟨_, if_pos (by decide), ?_⟩
      dsimp only
      rw [if_pos (by decide), r163_10, l169, chk_nI _ (by omega) (by omega), nI_clamp (by omega), p1, r0_0]
    · refine ⟨_, (if_neg (by decide)).trans (if_pos (by decide)), ?_⟩
      dsimp only
      rw [if_neg (by decide), if_pos (by decide), r163_10, l169, chk_nI _ (by omega) (by omega), nI_clamp (by omega), p2, r0_0]
    · refine ⟨_, (if_neg (by decide)).trans ((if_neg (by decide)).trans (if_pos (by decide))), ?_⟩
      dsimp only
      rw [if_neg (by decide), if_neg (by decide), if_pos (by decide), r163_10, l169, chk_nI _ (by omega) (by omega), nI_clamp (by omega), p3, r0_0]
    · refine ⟨nI (sDay h), ?_, ?_⟩
      · dsimp only
        rw [if_neg (by decide), if_neg (by decide), if_neg (by decide), if_pos (by decide), r0_6, d1]
      · dsimp only
        rw [if_neg (by decide), if_neg (by decide), if_neg (by decide), if_pos (by decide), r163_24, l179, show (0 : Int32) = nI 0 from rfl, chk_nI _ (by omega) (by omega), nI_clamp (by omega), d2]
    · refine ⟨nI (dmp x (sDay h)), ?_, ?_⟩
      · dsimp only
        rw [if_neg (by decide), if_neg (by decide), if_neg (by decide), if_neg (by decide), if_pos (by decide), r0_6, r0_0, d1, X6_dampOn_eq w hx hxc (by omega)]; rfl
      · dsimp only
        rw [if_neg (by decide), if_neg (by decide), if_neg (by decide), if_neg (by decide), if_pos (by decide), r163_24, l179, show (0 : Int32) = nI 0 from rfl, chk_nI _ (by omega) (by omega), nI_clamp (by omega), d2, X12_dampOn_eq w hx hxr (by omega)]; rfl
    · refine ⟨stkM p h, ?_, ?_⟩
      · dsimp only
        rw [if_neg (by decide), if_neg (by decide), if_neg (by decide), if_neg (by decide), if_neg (by decide), if_pos (by decide), r0_6, X9_stuckDoors_eq w (by omega) mem31 hp hh hs hc.2.1]; rfl
      · dsimp only
        rw [if_neg (by decide), if_neg (by decide), if_neg (by decide), if_neg (by decide), if_neg (by decide), if_pos (by decide), st2]; rfl
    · refine ⟨sWed h, ?_, ?_⟩
      · dsimp only
        rw [if_neg (by decide), if_neg (by decide), if_neg (by decide), if_neg (by decide), if_neg (by decide), if_neg (by decide), if_pos (by decide), r0_6, w1]
      · dsimp only
        rw [if_neg (by decide), if_neg (by decide), if_neg (by decide), if_neg (by decide), if_neg (by decide), if_neg (by decide), if_pos (by decide), r163_24, l179, show (1 : Int32) = nI 1 from rfl, chk_nI _ (by omega) (by omega), nI_clamp (by omega), w2]
    · refine ⟨nI (ssum h (pD p)), ?_, ?_⟩
      · dsimp only
        rw [if_neg (by decide), if_neg (by decide), if_neg (by decide), if_neg (by decide), if_neg (by decide), if_neg (by decide), if_neg (by decide), if_pos (by decide), r0_6, sw1]; rfl
      · dsimp only
        rw [if_neg (by decide), if_neg (by decide), if_neg (by decide), if_neg (by decide), if_neg (by decide), if_neg (by decide), if_neg (by decide), if_pos (by decide), X12_doors_eq, bI_some, show (th0 M).1 169 1 = nI (pD p) from hr.2.1, sw2]; rfl
    · refine ⟨M.1 0 13, ?_, ?_⟩
      · dsimp only
        rw [if_neg (by decide), if_neg (by decide), if_neg (by decide), if_neg (by decide), if_neg (by decide), if_neg (by decide), if_neg (by decide), if_neg (by decide), if_pos (by decide)]
      · dsimp only
        rw [if_neg (by decide), if_neg (by decide), if_neg (by decide), if_neg (by decide), if_neg (by decide), if_neg (by decide), if_neg (by decide), if_neg (by decide), if_pos (by decide), r163_21, l176, show (0 : Int32) = nI 0 from rfl, chk_nI _ (by omega) (by omega), nI_clamp (by omega), n8]
    · refine ⟨M.1 105 0, ?_, ?_⟩
      · dsimp only
        rw [if_neg (by decide), if_neg (by decide), if_neg (by decide), if_neg (by decide), if_neg (by decide), if_neg (by decide), if_neg (by decide), if_neg (by decide), if_neg (by decide), if_pos (by decide), r0_9]
      · dsimp only
        rw [if_neg (by decide), if_neg (by decide), if_neg (by decide), if_neg (by decide), if_neg (by decide), if_neg (by decide), if_neg (by decide), if_neg (by decide), if_neg (by decide), if_pos (by decide), r163_24, l179, show (23 : Int32) = nI 23 from rfl, chk_nI _ (by omega) (by omega), nI_clamp (by omega), u1]
    · refine ⟨M.1 105 1, ?_, ?_⟩
      · dsimp only
        rw [if_neg (by decide), if_neg (by decide), if_neg (by decide), if_neg (by decide), if_neg (by decide), if_neg (by decide), if_neg (by decide), if_neg (by decide), if_neg (by decide), if_neg (by decide), if_pos (by decide), r0_9]
      · dsimp only
        rw [if_neg (by decide), if_neg (by decide), if_neg (by decide), if_neg (by decide), if_neg (by decide), if_neg (by decide), if_neg (by decide), if_neg (by decide), if_neg (by decide), if_neg (by decide), if_pos (by decide), r163_24, l179, show (48 : Int32) = nI 48 from rfl, chk_nI _ (by omega) (by omega), nI_clamp (by omega), u2]
    · refine ⟨M.1 39 2, ?_, ?_⟩
      · dsimp only
        rw [if_neg (by decide), if_neg (by decide), if_neg (by decide), if_neg (by decide), if_neg (by decide), if_neg (by decide), if_neg (by decide), if_neg (by decide), if_neg (by decide), if_neg (by decide), if_neg (by decide), if_pos (by decide), r0_8]
      · dsimp only
        rw [if_neg (by decide), if_neg (by decide), if_neg (by decide), if_neg (by decide), if_neg (by decide), if_neg (by decide), if_neg (by decide), if_neg (by decide), if_neg (by decide), if_neg (by decide), if_neg (by decide), if_pos (by decide), n11]
    · refine ⟨M.1 25 1, ?_, ?_⟩
      · dsimp only
        rw [if_neg (by decide), if_neg (by decide), if_neg (by decide), if_neg (by decide), if_neg (by decide), if_neg (by decide), if_neg (by decide), if_neg (by decide), if_neg (by decide), if_neg (by decide), if_neg (by decide), if_neg (by decide), r0_2]
      · dsimp only
        rw [if_neg (by decide), if_neg (by decide), if_neg (by decide), if_neg (by decide), if_neg (by decide), if_neg (by decide), if_neg (by decide), if_neg (by decide), if_neg (by decide), if_neg (by decide), if_neg (by decide), if_neg (by decide), n12]
end DOOR
