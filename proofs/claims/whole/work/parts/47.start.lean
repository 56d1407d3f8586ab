theorem ac_int {s : State} {args : Array Value} (ty : FieldType) (hk : ty = .int ∨ ty = .long ∨ ty = .boolean ∨ ty = .byte) (h : (Cond.arrayClass ty).before args s = true) : ∃ cA : ClassId, ArrOfT s cA ty ∧ va_RA s cA ty := by
  obtain ⟨c, k, comp, h1, h2, h3⟩ := Cond.arrayClass_spec h
  refine ⟨c, fun n z => ⟨fun k h => (by cases h), k, h2, comp, h3⟩, ?_⟩
  rcases hk with rfl | rfl | rfl | rfl <;> exact h1
theorem ac_ref {s : State} (C : String) (h : va_AO C s) : ∃ cA : ClassId, ArrOfT s cA (.object C) ∧ va_RA s cA (.object C) := by
  obtain ⟨comp, c, k, h1, h2, h3, h4, h5⟩ := Cond.arrayOver_spec h
  exact ⟨c, fun n z => ⟨fun k h => (by cases h), k, h3, comp, h4⟩, k, comp, h3, h4, h1, h5⟩
set_option maxRecDepth 100000 in
theorem stat0 {s : State} {args : Array Value} (hts : ∀ w ∈ lw_tbl, w.before args s = true) (hgv : (Jvm.Cond.and given_1 narrow_1).before args s = true) : ∃ t : Nat, va_Z "SwollenHouse$Tape" "NO_NAMES" "[J" (.ref t) (fun q => s.heap.size ≤ q) s s.heap ∧ va_T .long t 19 (fun j => (st0.map Value.long).getD j .null) (fun q => s.heap.size ≤ q) s s.heap := by
  have hs := flat_of_before _ hgv
  have hA : ∀ a : Nat, a < s.heap.size → ¬ (fun q : Nat => s.heap.size ≤ q) a := fun a h => Nat.not_le.mpr h
  obtain ⟨t, h1, h2⟩ := va_Tof (tm := .static "SwollenHouse$Tape" "NO_NAMES" "[J") (ty := .long) (N := 19) (f := fun j => (st0.map Value.long).getD j .null) (by decide) (hs (Cond.arrayOf (.static "SwollenHouse$Tape" "NO_NAMES" "[J") .long) (by decide +kernel)) (va_eqt (z := 19) (hs (Cond.eq (.length (.static "SwollenHouse$Tape" "NO_NAMES" "[J")) (.int 19)) (by decide +kernel))) (fun j hj => by
    rcases (show j = 0 ∨ j = 1 ∨ j = 2 ∨ j = 3 ∨ j = 4 ∨ j = 5 ∨ j = 6 ∨ j = 7 ∨ j = 8 ∨ j = 9 ∨ j = 10 ∨ j = 11 ∨ j = 12 ∨ j = 13 ∨ j = 14 ∨ j = 15 ∨ j = 16 ∨ j = 17 ∨ j = 18 by omega) with rfl | rfl | rfl | rfl | rfl | rfl | rfl | rfl | rfl | rfl | rfl | rfl | rfl | rfl | rfl | rfl | rfl | rfl | rfl
    · exact va_eqtl (z := 1919905645) (hs (Cond.eq (.elem (.static "SwollenHouse$Tape" "NO_NAMES" "[J") (.int 0)) (.long 1919905645)) (by decide +kernel))
    · exact va_eqtl (z := 1685024626) (hs (Cond.eq (.elem (.static "SwollenHouse$Tape" "NO_NAMES" "[J") (.int 1)) (.long 1685024626)) (by decide +kernel))
    · exact va_eqtl (z := 6775152) (hs (Cond.eq (.elem (.static "SwollenHouse$Tape" "NO_NAMES" "[J") (.int 2)) (.long 6775152)) (by decide +kernel))
    · exact va_eqtl (z := 123581014175598) (hs (Cond.eq (.elem (.static "SwollenHouse$Tape" "NO_NAMES" "[J") (.int 3)) (.long 123581014175598)) (by decide +kernel))
    · exact va_eqtl (z := 26990) (hs (Cond.eq (.elem (.static "SwollenHouse$Tape" "NO_NAMES" "[J") (.int 4)) (.long 26990)) (by decide +kernel))
    · exact va_eqtl (z := 1684106608) (hs (Cond.eq (.elem (.static "SwollenHouse$Tape" "NO_NAMES" "[J") (.int 5)) (.long 1684106608)) (by decide +kernel))
    · exact va_eqtl (z := 126956639906931) (hs (Cond.eq (.elem (.static "SwollenHouse$Tape" "NO_NAMES" "[J") (.int 6)) (.long 126956639906931)) (by decide +kernel))
    · exact va_eqtl (z := 6578553) (hs (Cond.eq (.elem (.static "SwollenHouse$Tape" "NO_NAMES" "[J") (.int 7)) (.long 6578553)) (by decide +kernel))
    · exact va_eqtl (z := 2002873451) (hs (Cond.eq (.elem (.static "SwollenHouse$Tape" "NO_NAMES" "[J") (.int 8)) (.long 2002873451)) (by decide +kernel))
    · exact va_eqtl (z := 482854661733) (hs (Cond.eq (.elem (.static "SwollenHouse$Tape" "NO_NAMES" "[J") (.int 9)) (.long 482854661733)) (by decide +kernel))
    · exact va_eqtl (z := 512802187109) (hs (Cond.eq (.elem (.static "SwollenHouse$Tape" "NO_NAMES" "[J") (.int 10)) (.long 512802187109)) (by decide +kernel))
    · exact va_eqtl (z := 439956431717) (hs (Cond.eq (.elem (.static "SwollenHouse$Tape" "NO_NAMES" "[J") (.int 11)) (.long 439956431717)) (by decide +kernel))
    · exact va_eqtl (z := 7299435) (hs (Cond.eq (.elem (.static "SwollenHouse$Tape" "NO_NAMES" "[J") (.int 12)) (.long 7299435)) (by decide +kernel))
    · exact va_eqtl (z := 1885957733) (hs (Cond.eq (.elem (.static "SwollenHouse$Tape" "NO_NAMES" "[J") (.int 13)) (.long 1885957733)) (by decide +kernel))
    · exact va_eqtl (z := 6646893) (hs (Cond.eq (.elem (.static "SwollenHouse$Tape" "NO_NAMES" "[J") (.int 14)) (.long 6646893)) (by decide +kernel))
    · exact va_eqtl (z := 1818848613) (hs (Cond.eq (.elem (.static "SwollenHouse$Tape" "NO_NAMES" "[J") (.int 15)) (.long 1818848613)) (by decide +kernel))
    · exact va_eqtl (z := 7237492) (hs (Cond.eq (.elem (.static "SwollenHouse$Tape" "NO_NAMES" "[J") (.int 16)) (.long 7237492)) (by decide +kernel))
    · exact va_eqtl (z := 6385252) (hs (Cond.eq (.elem (.static "SwollenHouse$Tape" "NO_NAMES" "[J") (.int 17)) (.long 6385252)) (by decide +kernel))
    · exact va_eqtl (z := 28530) (hs (Cond.eq (.elem (.static "SwollenHouse$Tape" "NO_NAMES" "[J") (.int 18)) (.long 28530)) (by decide +kernel))) hA
  exact ⟨t, va_Zof (hts (.laysStatic "SwollenHouse$Tape" "NO_NAMES" "[J") (by decide +kernel)) (hts (.initialized "SwollenHouse$Tape") (by decide +kernel)) h1 hA, h2⟩
set_option maxRecDepth 100000 in
theorem stat1 {s : State} {args : Array Value} (hts : ∀ w ∈ lw_tbl, w.before args s = true) (hgv : (Jvm.Cond.and given_1 narrow_1).before args s = true) : ∃ t : Nat, va_Z "SwollenHouse$Plan" "UPPER_MARK" "[I" (.ref t) (fun q => s.heap.size ≤ q) s s.heap ∧ va_T .int t 4 (fun j => (st1.map Value.int).getD j .null) (fun q => s.heap.size ≤ q) s s.heap := by
  have hs := flat_of_before _ hgv
  have hA : ∀ a : Nat, a < s.heap.size → ¬ (fun q : Nat => s.heap.size ≤ q) a := fun a h => Nat.not_le.mpr h
  obtain ⟨t, h1, h2⟩ := va_Tof (tm := .static "SwollenHouse$Plan" "UPPER_MARK" "[I") (ty := .int) (N := 4) (f := fun j => (st1.map Value.int).getD j .null) (by decide) (hs (Cond.arrayOf (.static "SwollenHouse$Plan" "UPPER_MARK" "[I") .int) (by decide +kernel)) (va_eqt (z := 4) (hs (Cond.eq (.length (.static "SwollenHouse$Plan" "UPPER_MARK" "[I")) (.int 4)) (by decide +kernel))) (fun j hj => by
    rcases (show j = 0 ∨ j = 1 ∨ j = 2 ∨ j = 3 by omega) with rfl | rfl | rfl | rfl
    · exact va_eqt (z := 6) (hs (Cond.eq (.elem (.static "SwollenHouse$Plan" "UPPER_MARK" "[I") (.int 0)) (.int 6)) (by decide +kernel))
    · exact va_eqt (z := 4) (hs (Cond.eq (.elem (.static "SwollenHouse$Plan" "UPPER_MARK" "[I") (.int 1)) (.int 4)) (by decide +kernel))
    · exact va_eqt (z := 5) (hs (Cond.eq (.elem (.static "SwollenHouse$Plan" "UPPER_MARK" "[I") (.int 2)) (.int 5)) (by decide +kernel))
    · exact va_eqt (z := 3) (hs (Cond.eq (.elem (.static "SwollenHouse$Plan" "UPPER_MARK" "[I") (.int 3)) (.int 3)) (by decide +kernel))) hA
  exact ⟨t, va_Zof (hts (.laysStatic "SwollenHouse$Plan" "UPPER_MARK" "[I") (by decide +kernel)) (hts (.initialized "SwollenHouse$Plan") (by decide +kernel)) h1 hA, h2⟩
set_option maxRecDepth 100000 in
theorem stat2 {s : State} {args : Array Value} (hts : ∀ w ∈ lw_tbl, w.before args s = true) (hgv : (Jvm.Cond.and given_1 narrow_1).before args s = true) : ∃ t : Nat, va_Z "SwollenHouse$Plan" "LOWER_MARK" "[I" (.ref t) (fun q => s.heap.size ≤ q) s s.heap ∧ va_T .int t 4 (fun j => (st2.map Value.int).getD j .null) (fun q => s.heap.size ≤ q) s s.heap := by
  have hs := flat_of_before _ hgv
  have hA : ∀ a : Nat, a < s.heap.size → ¬ (fun q : Nat => s.heap.size ≤ q) a := fun a h => Nat.not_le.mpr h
  obtain ⟨t, h1, h2⟩ := va_Tof (tm := .static "SwollenHouse$Plan" "LOWER_MARK" "[I") (ty := .int) (N := 4) (f := fun j => (st2.map Value.int).getD j .null) (by decide) (hs (Cond.arrayOf (.static "SwollenHouse$Plan" "LOWER_MARK" "[I") .int) (by decide +kernel)) (va_eqt (z := 4) (hs (Cond.eq (.length (.static "SwollenHouse$Plan" "LOWER_MARK" "[I")) (.int 4)) (by decide +kernel))) (fun j hj => by
    rcases (show j = 0 ∨ j = 1 ∨ j = 2 ∨ j = 3 by omega) with rfl | rfl | rfl | rfl
    · exact va_eqt (z := 2) (hs (Cond.eq (.elem (.static "SwollenHouse$Plan" "LOWER_MARK" "[I") (.int 0)) (.int 2)) (by decide +kernel))
    · exact va_eqt (z := 4) (hs (Cond.eq (.elem (.static "SwollenHouse$Plan" "LOWER_MARK" "[I") (.int 1)) (.int 4)) (by decide +kernel))
    · exact va_eqt (z := 1) (hs (Cond.eq (.elem (.static "SwollenHouse$Plan" "LOWER_MARK" "[I") (.int 2)) (.int 1)) (by decide +kernel))
    · exact va_eqt (z := 3) (hs (Cond.eq (.elem (.static "SwollenHouse$Plan" "LOWER_MARK" "[I") (.int 3)) (.int 3)) (by decide +kernel))) hA
  exact ⟨t, va_Zof (hts (.laysStatic "SwollenHouse$Plan" "LOWER_MARK" "[I") (by decide +kernel)) (hts (.initialized "SwollenHouse$Plan") (by decide +kernel)) h1 hA, h2⟩
set_option maxRecDepth 100000 in
theorem stat3 {s : State} {args : Array Value} (hts : ∀ w ∈ lw_tbl, w.before args s = true) (hgv : (Jvm.Cond.and given_1 narrow_1).before args s = true) : ∃ t : Nat, va_Z "SwollenHouse$Plan" "SHRINKING" "[I" (.ref t) (fun q => s.heap.size ≤ q) s s.heap ∧ va_T .int t 4 (fun j => (st3.map Value.int).getD j .null) (fun q => s.heap.size ≤ q) s s.heap := by
  have hs := flat_of_before _ hgv
  have hA : ∀ a : Nat, a < s.heap.size → ¬ (fun q : Nat => s.heap.size ≤ q) a := fun a h => Nat.not_le.mpr h
  obtain ⟨t, h1, h2⟩ := va_Tof (tm := .static "SwollenHouse$Plan" "SHRINKING" "[I") (ty := .int) (N := 4) (f := fun j => (st3.map Value.int).getD j .null) (by decide) (hs (Cond.arrayOf (.static "SwollenHouse$Plan" "SHRINKING" "[I") .int) (by decide +kernel)) (va_eqt (z := 4) (hs (Cond.eq (.length (.static "SwollenHouse$Plan" "SHRINKING" "[I")) (.int 4)) (by decide +kernel))) (fun j hj => by
    rcases (show j = 0 ∨ j = 1 ∨ j = 2 ∨ j = 3 by omega) with rfl | rfl | rfl | rfl
    · exact va_eqt (z := 1) (hs (Cond.eq (.elem (.static "SwollenHouse$Plan" "SHRINKING" "[I") (.int 0)) (.int 1)) (by decide +kernel))
    · exact va_eqt (z := 2) (hs (Cond.eq (.elem (.static "SwollenHouse$Plan" "SHRINKING" "[I") (.int 1)) (.int 2)) (by decide +kernel))
    · exact va_eqt (z := 3) (hs (Cond.eq (.elem (.static "SwollenHouse$Plan" "SHRINKING" "[I") (.int 2)) (.int 3)) (by decide +kernel))
    · exact va_eqt (z := 1) (hs (Cond.eq (.elem (.static "SwollenHouse$Plan" "SHRINKING" "[I") (.int 3)) (.int 1)) (by decide +kernel))) hA
  exact ⟨t, va_Zof (hts (.laysStatic "SwollenHouse$Plan" "SHRINKING" "[I") (by decide +kernel)) (hts (.initialized "SwollenHouse$Plan") (by decide +kernel)) h1 hA, h2⟩
set_option maxHeartbeats 4000000 in
set_option maxRecDepth 100000 in
theorem start_G {s : State} {args : Array Value} (hts : ∀ w ∈ lw_tbl, w.before args s = true) (hgv : (Jvm.Cond.and given_1 narrow_1).before args s = true) : ∃ G : mG, G.2.2.1 = s.heap ∧ gK G s ∧ nX s := by
  obtain ⟨c0, i0, k0⟩ := u_known (C := RX0) (T := TX0) (N := 3) (n := 3) hts (fun w hw => (List.mem_filter.mp (clX0.2.1 w hw)).1) (hts (.instantiable RX0 3) (List.mem_filter.mp insX0).1)
  obtain ⟨c1, i1, k1⟩ := u_known (C := RX1) (T := TX1) (N := 3) (n := 3) hts (fun w hw => (List.mem_filter.mp (clX1.2.1 w hw)).1) (hts (.instantiable RX1 3) (List.mem_filter.mp insX1).1)
  obtain ⟨c2, i2, k2⟩ := u_known (C := RX2) (T := TX2) (N := 1) (n := 1) hts (fun w hw => (List.mem_filter.mp (clX2.2.1 w hw)).1) (hts (.instantiable RX2 1) (List.mem_filter.mp insX2).1)
  obtain ⟨c3, i3, k3⟩ := u_known (C := RX3) (T := TX3) (N := 3) (n := 3) hts (fun w hw => (List.mem_filter.mp (clX3.2.1 w hw)).1) (hts (.instantiable RX3 3) (List.mem_filter.mp insX3).1)
  obtain ⟨c4, i4, k4⟩ := u_known (C := RX4) (T := TX4) (N := 3) (n := 3) hts (fun w hw => (List.mem_filter.mp (clX4.2.1 w hw)).1) (hts (.instantiable RX4 3) (List.mem_filter.mp insX4).1)
  obtain ⟨c5, i5, k5⟩ := u_known (C := RX5) (T := TX5) (N := 5) (n := 5) hts (fun w hw => (List.mem_filter.mp (clX5.2.1 w hw)).1) (hts (.instantiable RX5 5) (List.mem_filter.mp insX5).1)
  obtain ⟨c6, i6, k6⟩ := u_known (C := RX6) (T := TX6) (N := 13) (n := 13) hts (fun w hw => (List.mem_filter.mp (clX6.2.1 w hw)).1) (hts (.instantiable RX6 13) (List.mem_filter.mp insX6).1)
  obtain ⟨c7, i7, k7⟩ := u_known (C := RX7) (T := TX7) (N := 5) (n := 5) hts (fun w hw => (List.mem_filter.mp (clX7.2.1 w hw)).1) (hts (.instantiable RX7 5) (List.mem_filter.mp insX7).1)
  obtain ⟨c8, i8, k8⟩ := u_known (C := RX8) (T := TX8) (N := 7) (n := 7) hts (fun w hw => (List.mem_filter.mp (clX8.2.1 w hw)).1) (hts (.instantiable RX8 7) (List.mem_filter.mp insX8).1)
  obtain ⟨c9, i9, k9⟩ := u_known (C := RX9) (T := TX9) (N := 6) (n := 6) hts (fun w hw => (List.mem_filter.mp (clX9.2.1 w hw)).1) (hts (.instantiable RX9 6) (List.mem_filter.mp insX9).1)
  obtain ⟨c10, i10, k10⟩ := u_known (C := RX10) (T := TX10) (N := 7) (n := 7) hts (fun w hw => (List.mem_filter.mp (clX10.2.1 w hw)).1) (hts (.instantiable RX10 7) (List.mem_filter.mp insX10).1)
  obtain ⟨c11, i11, k11⟩ := u_known (C := RX11) (T := TX11) (N := 15) (n := 15) hts (fun w hw => (List.mem_filter.mp (clX11.2.1 w hw)).1) (hts (.instantiable RX11 15) (List.mem_filter.mp insX11).1)
  obtain ⟨c12, i12, k12⟩ := u_known (C := RX12) (T := TX12) (N := 32) (n := 32) hts (fun w hw => (List.mem_filter.mp (clX12.2.1 w hw)).1) (hts (.instantiable RX12 32) (List.mem_filter.mp insX12).1)
  have hX : nX s := by
    refine ⟨va_AO.of (hts (.arrayOver (.object RX9)) (by decide +kernel)), va_AO.of (hts (.arrayOver (.object RX4)) (by decide +kernel)), fun q hq => ?_⟩
    simp only [nestL, List.mem_cons, List.not_mem_nil, or_false] at hq
    rcases hq with rfl | rfl | rfl | rfl | rfl
    · exact va_Nw.of rfl (hts (.methodLinkNest RX11 9 yX6_init RX11) (by decide +kernel))
    · exact va_Nw.of rfl (hts (.methodLinkNest RX6 39 yX3_init RX11) (by decide +kernel))
    · exact va_Nw.of rfl (hts (.methodLinkNest RX11 21 yX10_init RX11) (by decide +kernel))
    · exact va_Nw.of rfl (hts (.methodLinkNest RX11 67 yX8_init RX11) (by decide +kernel))
    · exact va_Nw.of rfl (hts (.methodLinkNest RX4 9 yX8_init RX11) (by decide +kernel))
  obtain ⟨a0, p0, q0⟩ := ac_int .int (by decide) (hts _ (List.mem_filter.mp ar0).1)
  obtain ⟨a1, p1, q1⟩ := ac_int .long (by decide) (hts _ (List.mem_filter.mp ar1).1)
  obtain ⟨a2, p2, q2⟩ := ac_int .boolean (by decide) (hts _ (List.mem_filter.mp ar2).1)
  obtain ⟨a3, p3, q3⟩ := ac_int .byte (by decide) (hts _ (List.mem_filter.mp ar3).1)
  obtain ⟨a4, p4, q4⟩ := ac_ref RX9 hX.1
  obtain ⟨a5, p5, q5⟩ := ac_ref RX4 hX.2.1
  obtain ⟨t0, z0⟩ := stat0 hts hgv
  obtain ⟨t1, z1⟩ := stat1 hts hgv
  obtain ⟨t2, z2⟩ := stat2 hts hgv
  obtain ⟨t3, z3⟩ := stat3 hts hgv
  refine ⟨((fun k => [c0, c1, c2, c3, c4, c5, c6, c7, c8, c9, c10, c11, c12].getD k c0, fun k => [i0, i1, i2, i3, i4, i5, i6, i7, i8, i9, i10, i11, i12].getD k i0), fun k => [a0, a1, a2, a3, a4, a5].getD k a0, s.heap, fun k => [t0, t1, t2, t3].getD k t0), rfl, ⟨⟨fun k q hq => ?_, fun k q hq => ?_⟩, ?_⟩, hX⟩
  · match k, hq with
    | 0, hq => cases hq; exact k0
    | 1, hq => cases hq; exact k1
    | 2, hq => cases hq; exact k2
    | 3, hq => cases hq; exact k3
    | 4, hq => cases hq; exact k4
    | 5, hq => cases hq; exact k5
    | 6, hq => cases hq; exact k6
    | 7, hq => cases hq; exact k7
    | 8, hq => cases hq; exact k8
    | 9, hq => cases hq; exact k9
    | 10, hq => cases hq; exact k10
    | 11, hq => cases hq; exact k11
    | 12, hq => cases hq; exact k12
    | k + 13, hq => simp [vwCl] at hq
  · match k, hq with
    | 0, hq => cases hq; exact ⟨p0, q0⟩
    | 1, hq => cases hq; exact ⟨p1, q1⟩
    | 2, hq => cases hq; exact ⟨p2, q2⟩
    | 3, hq => cases hq; exact ⟨p3, q3⟩
    | 4, hq => cases hq; exact ⟨p4, q4⟩
    | 5, hq => cases hq; exact ⟨p5, q5⟩
    | k + 6, hq => simp [gT] at hq
  · exact ⟨z0, z1, z2, z3⟩
set_option maxHeartbeats 4000000 in
set_option maxRecDepth 100000 in
/-- the claim's walk, out of the reading of the law (pure) and of the one call that may throw -/
theorem whole_start_open {p : Program} {e : Env} {s : State} {m : MethodId} {below : List Frame} {meth : Method} {c : Code} (l : Launch) {b L : Nat} {xs : Nat → Int32} (w : Nat) (hw : w ≤ 400000) (hR : ∀ G : mG, lawRests w l G b L xs) (hpure : f_L_law w xs L = some ()) (C0 : lw_At p s m meth c b L xs) : W p l e room_1 s m #[Value.ref b] below meth c s.heap [] 0 0 (lw_Z below #[Value.ref b] s) (entryFrame m ([Value.ref b] : List Value).toArray 7) := by
  obtain ⟨hx, hb, hr, hml, hown, hts, hX, hbl, hlocks, hgv⟩ := C0
  obtain ⟨G, hG, hK, hN⟩ := start_G hts hgv
  have hl := lv_entry ([.ref b]) (n := 7) (Nat.le_of_ble_eq_true rfl)
  rw [lg_entry_eq]
  have hB : gB G = s.heap.size := by unfold gB; rw [hG]
  refine W.imp (fun t h => h ⟨hX, hbl, hB.symm, rfl, start_vz hts hgv hG⟩) (law_entry_open w hw (hR G) p e s m #[Value.ref b] below meth c s.heap [] _ () ⟨hx, hb, hml, hown, fun w hw => hts w (List.mem_filter.mp hw).1, hK, hlocks, hr, fun q _ => by rw [hG], by rw [hB]; exact Nat.le_refl _, hN, fun h => by cases h⟩ hpure (fun k q h => by simp [mW] at h) (by rw [hB]; rfl) va_S.rf hl)
