/-! ===== what the Statement gives of Throwable's statics and of the two texts ===== -/
theorem vzN_ot : ∀ w ∈ vzN, w.onTables = true := by decide +kernel
set_option maxRecDepth 100000 in
theorem start_vz {s : State} {args : Array Value} {G : mG} (hts : ∀ w ∈ lw_tbl, w.before args s = true) (hgv : (Jvm.Cond.and given_1 narrow_1).before args s = true) (hG : G.2.2.1 = s.heap) : vzX G s := by
  have hs := flat_of_before _ hgv
  have hA : ∀ a : Nat, a < s.heap.size → ¬ gA G a := fun a h => by unfold gA gB; rw [hG]; exact Nat.not_le.mpr h
  refine ⟨?_, ?_, ?_, ?_, fun w hw => va_tabs (vzN_ot w hw) rfl (hts w (vzN_in w hw))⟩
  · rw [hG]
    exact vx_Zqof (hts (.laysStatic Bundle.tN "UNASSIGNED_STACK" Bundle.steD) (by decide +kernel)) (hts (.initialized Bundle.tN) (by decide +kernel)) (hs (Cond.isRef (.static Bundle.tN "UNASSIGNED_STACK" Bundle.steD)) (by decide +kernel)) hA
  · rw [hG]
    exact vx_Zqof (hts (.laysStatic Bundle.tN "SUPPRESSED_SENTINEL" Bundle.listD) (by decide +kernel)) (hts (.initialized Bundle.tN) (by decide +kernel)) (hs (Cond.isRef (.static Bundle.tN "SUPPRESSED_SENTINEL" Bundle.listD)) (by decide +kernel)) hA
  · obtain ⟨a, c, cell, k, q1, -⟩ := Cond.exactly_spec (hs (Cond.exactly (.string RX11 343) "java/lang/String") (by decide +kernel))
    exact ⟨a, vk_R.of (hts (.stringRef RX11 343 "no such heirs") (by decide +kernel)) q1⟩
  · obtain ⟨a, c, cell, k, q1, -⟩ := Cond.exactly_spec (hs (Cond.exactly (.string RX11 352) "java/lang/String") (by decide +kernel))
    exact ⟨a, vk_R.of (hts (.stringRef RX11 352 "no such rest") (by decide +kernel)) q1⟩
