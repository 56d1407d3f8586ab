/-! ===== the law's own call of it ===== -/
theorem lnkL_185 : Cond.methodLink RL 185 yL_rests ∈ mT := mT_at (w := Cond.methodLink RL 185 yL_rests) 1217 (by decide +kernel) rfl
theorem sttL_rests : Cond.static yL_rests ∈ mT := mT_at (w := Cond.static yL_rests) 1218 (by decide +kernel) rfl
theorem iniL : Cond.initialized yL_rests.cls ∈ mT := mT_of (by decide +kernel) (by decide +kernel)
theorem law_rests {l : Launch} (hlt : l.stackTraces = false) (w : Nat) (G : mG) (b L : Nat) (xs : Nat → Int32) : lawRests w l G b L xs := by
  intro kc ks p0 p1 p2 p3 M hk pc lv k pc' hd hp kk
  subst hp
  intro p e s m args below meth cd H locs ls z C hf hW hS hl
  by_cases hX : lawX G b L xs s args
  · have hvz := hX.2.2.2.2
    rw [bI_in] at hf
    obtain ⟨r, hr, hf⟩ := Option.bind_eq_some_iff.mp hf
    obtain ⟨x, hx, rfl⟩ := fLR_of hr
    have kp : ∀ q, q < gB G → H[q]? = G.2.2.1[q]? := fun q hq => by rw [hS.2.1 q (Nat.lt_of_lt_of_le hq C.2.2.2.2.2.2.2.2.2.2) (Nat.not_le.mpr hq)]; exact C.2.2.2.2.2.2.2.2.2.1 q hq
    refine vz_wrun (mc := 1) (ms := 6) (r := eI (fLR x)) (vx_runSW (As := [.ref (gB G + 0), .int p0, .int p1, .int p2, .int p3, .ref (gB G + 185)]) (rest := []) (n := 6) (hh := hhL) ⟨C.1, C.2.1, C.2.2.1, C.2.2.2.1, C.2.2.2.2.1⟩ (m_L_rests hlt w p0 p1 p2 p3 M hx) (vx_cwSW (maxL := 7) 6 C.2.2.2.2.1 (fun w hw => ?_) rfl rfl rfl ⟨by decide, by decide, by decide +kernel⟩ ⟨Nat.le_of_ble_eq_true rfl, Nat.le_of_ble_eq_true rfl⟩) ⟨rPc_blind _ _ _ _, fun U hU hWd => ⟨rfl, ⟨by rw [hU]; exact hW, C.2.2.2.2.2.1.moved hWd.alike, fun q hq => by rw [hU]; exact kp q hq, by rw [hU]; exact Nat.le_trans C.2.2.2.2.2.2.2.2.2.2 hS.1⟩, hvz.warm hWd⟩⟩ rfl rfl hl.1 rfl (Nat.le_of_ble_eq_true rfl) hd ⟨hk.1, by have := hk.2; omega⟩) hS (fun H1 locs1 hW1 hS1 => W.widen (k := kc + 1) (n := ks + 16) (Nat.le_refl _) (by omega) (kk (fLR x).1 (fLR x).2 hr p e s m args below meth cd H1 locs1 ls z C hf hW1 hS1 hl))
    unfold va_wsS at hw
    rcases List.mem_append.mp hw with h | h
    · simp only [List.mem_cons, List.not_mem_nil, or_false] at h
      rcases h with rfl | rfl | rfl
      · exact mT_good _ lnkL_185
      · exact mT_good _ sttL_rests
      · exact mT_good _ iniL
    · exact (List.mem_cons.mp h).elim (fun e => mT_good w (e ▸ codL_rests)) (mT_good w)
  · exact W.triv fun t h => absurd h hX
