theorem dfX0 : ∀ j, j < 3 → ∃ t, fK 0 j = some t ∧ defaultValue (tyX0 j) = (match t with | 1 => .long 0 | 2 => .null | _ => .int 0) := by
  intro j hj
  rcases (show j = 0 ∨ j = 1 ∨ j = 2 by omega) with rfl | rfl | rfl <;> exact ⟨_, rfl, rfl⟩
theorem dfX1 : ∀ j, j < 3 → ∃ t, fK 1 j = some t ∧ defaultValue (tyX1 j) = (match t with | 1 => .long 0 | 2 => .null | _ => .int 0) := by
  intro j hj
  rcases (show j = 0 ∨ j = 1 ∨ j = 2 by omega) with rfl | rfl | rfl <;> exact ⟨_, rfl, rfl⟩
theorem dfX2 : ∀ j, j < 1 → ∃ t, fK 2 j = some t ∧ defaultValue (tyX2 j) = (match t with | 1 => .long 0 | 2 => .null | _ => .int 0) := by
  intro j hj
  rcases (show j = 0 by omega) with rfl <;> exact ⟨_, rfl, rfl⟩
theorem dfX3 : ∀ j, j < 3 → ∃ t, fK 3 j = some t ∧ defaultValue (tyX3 j) = (match t with | 1 => .long 0 | 2 => .null | _ => .int 0) := by
  intro j hj
  rcases (show j = 0 ∨ j = 1 ∨ j = 2 by omega) with rfl | rfl | rfl <;> exact ⟨_, rfl, rfl⟩
theorem dfX4 : ∀ j, j < 3 → ∃ t, fK 4 j = some t ∧ defaultValue (tyX4 j) = (match t with | 1 => .long 0 | 2 => .null | _ => .int 0) := by
  intro j hj
  rcases (show j = 0 ∨ j = 1 ∨ j = 2 by omega) with rfl | rfl | rfl <;> exact ⟨_, rfl, rfl⟩
theorem dfX5 : ∀ j, j < 5 → ∃ t, fK 5 j = some t ∧ defaultValue (tyX5 j) = (match t with | 1 => .long 0 | 2 => .null | _ => .int 0) := by
  intro j hj
  rcases (show j = 0 ∨ j = 1 ∨ j = 2 ∨ j = 3 ∨ j = 4 by omega) with rfl | rfl | rfl | rfl | rfl <;> exact ⟨_, rfl, rfl⟩
theorem dfX6 : ∀ j, j < 13 → ∃ t, fK 6 j = some t ∧ defaultValue (tyX6 j) = (match t with | 1 => .long 0 | 2 => .null | _ => .int 0) := by
  intro j hj
  rcases (show j = 0 ∨ j = 1 ∨ j = 2 ∨ j = 3 ∨ j = 4 ∨ j = 5 ∨ j = 6 ∨ j = 7 ∨ j = 8 ∨ j = 9 ∨ j = 10 ∨ j = 11 ∨ j = 12 by omega) with rfl | rfl | rfl | rfl | rfl | rfl | rfl | rfl | rfl | rfl | rfl | rfl | rfl <;> exact ⟨_, rfl, rfl⟩
theorem dfX7 : ∀ j, j < 5 → ∃ t, fK 7 j = some t ∧ defaultValue (tyX7 j) = (match t with | 1 => .long 0 | 2 => .null | _ => .int 0) := by
  intro j hj
  rcases (show j = 0 ∨ j = 1 ∨ j = 2 ∨ j = 3 ∨ j = 4 by omega) with rfl | rfl | rfl | rfl | rfl <;> exact ⟨_, rfl, rfl⟩
theorem dfX8 : ∀ j, j < 7 → ∃ t, fK 8 j = some t ∧ defaultValue (tyX8 j) = (match t with | 1 => .long 0 | 2 => .null | _ => .int 0) := by
  intro j hj
  rcases (show j = 0 ∨ j = 1 ∨ j = 2 ∨ j = 3 ∨ j = 4 ∨ j = 5 ∨ j = 6 by omega) with rfl | rfl | rfl | rfl | rfl | rfl | rfl <;> exact ⟨_, rfl, rfl⟩
theorem dfX9 : ∀ j, j < 6 → ∃ t, fK 9 j = some t ∧ defaultValue (tyX9 j) = (match t with | 1 => .long 0 | 2 => .null | _ => .int 0) := by
  intro j hj
  rcases (show j = 0 ∨ j = 1 ∨ j = 2 ∨ j = 3 ∨ j = 4 ∨ j = 5 by omega) with rfl | rfl | rfl | rfl | rfl | rfl <;> exact ⟨_, rfl, rfl⟩
theorem dfX10 : ∀ j, j < 7 → ∃ t, fK 10 j = some t ∧ defaultValue (tyX10 j) = (match t with | 1 => .long 0 | 2 => .null | _ => .int 0) := by
  intro j hj
  rcases (show j = 0 ∨ j = 1 ∨ j = 2 ∨ j = 3 ∨ j = 4 ∨ j = 5 ∨ j = 6 by omega) with rfl | rfl | rfl | rfl | rfl | rfl | rfl <;> exact ⟨_, rfl, rfl⟩
theorem dfX11 : ∀ j, j < 15 → ∃ t, fK 11 j = some t ∧ defaultValue (tyX11 j) = (match t with | 1 => .long 0 | 2 => .null | _ => .int 0) := by
  intro j hj
  rcases (show j = 0 ∨ j = 1 ∨ j = 2 ∨ j = 3 ∨ j = 4 ∨ j = 5 ∨ j = 6 ∨ j = 7 ∨ j = 8 ∨ j = 9 ∨ j = 10 ∨ j = 11 ∨ j = 12 ∨ j = 13 ∨ j = 14 by omega) with rfl | rfl | rfl | rfl | rfl | rfl | rfl | rfl | rfl | rfl | rfl | rfl | rfl | rfl | rfl <;> exact ⟨_, rfl, rfl⟩
theorem dfX12 : ∀ j, j < 32 → ∃ t, fK 12 j = some t ∧ defaultValue (tyX12 j) = (match t with | 1 => .long 0 | 2 => .null | _ => .int 0) := by
  intro j hj
  rcases (show j = 0 ∨ j = 1 ∨ j = 2 ∨ j = 3 ∨ j = 4 ∨ j = 5 ∨ j = 6 ∨ j = 7 ∨ j = 8 ∨ j = 9 ∨ j = 10 ∨ j = 11 ∨ j = 12 ∨ j = 13 ∨ j = 14 ∨ j = 15 ∨ j = 16 ∨ j = 17 ∨ j = 18 ∨ j = 19 ∨ j = 20 ∨ j = 21 ∨ j = 22 ∨ j = 23 ∨ j = 24 ∨ j = 25 ∨ j = 26 ∨ j = 27 ∨ j = 28 ∨ j = 29 ∨ j = 30 ∨ j = 31 by omega) with rfl | rfl | rfl | rfl | rfl | rfl | rfl | rfl | rfl | rfl | rfl | rfl | rfl | rfl | rfl | rfl | rfl | rfl | rfl | rfl | rfl | rfl | rfl | rfl | rfl | rfl | rfl | rfl | rfl | rfl | rfl | rfl <;> exact ⟨_, rfl, rfl⟩
theorem ar0 : Cond.arrayClass FieldType.int ∈ mT := mT_of (w := Cond.arrayClass FieldType.int) (by decide +kernel) rfl
theorem ar1 : Cond.arrayClass FieldType.long ∈ mT := mT_of (w := Cond.arrayClass FieldType.long) (by decide +kernel) rfl
theorem ar2 : Cond.arrayClass FieldType.boolean ∈ mT := mT_of (w := Cond.arrayClass FieldType.boolean) (by decide +kernel) rfl
theorem ar3 : Cond.arrayClass FieldType.byte ∈ mT := mT_of (w := Cond.arrayClass FieldType.byte) (by decide +kernel) rfl
theorem oi2 : Cond.instanceMethod Lib.objectInit ∈ mT := mT_of (by decide +kernel) rfl
theorem oi3 : Cond.code Lib.objectInit ⟨#[0xb1]⟩ 1 none ∈ mT := mT_of (by decide +kernel) rfl
theorem clkL_8 : Cond.classLink RL 8 RX11 ∈ mT := (mT_at (w := Cond.classLink RL 8 RX11) 120 (by decide +kernel) rfl)
theorem clkL_16 : Cond.classLink RL 16 RX12 ∈ mT := (mT_at (w := Cond.classLink RL 16 RX12) 1313 (by decide +kernel) rfl)
theorem clkX1_9 : Cond.classLink RX1 9 RX9 ∈ mT := (mT_at (w := Cond.classLink RX1 9 RX9) 317 (by decide +kernel) rfl)
theorem clkX11_7 : Cond.classLink RX11 7 RX6 ∈ mT := (mT_at (w := Cond.classLink RX11 7 RX6) 128 (by decide +kernel) rfl)
theorem clkX11_19 : Cond.classLink RX11 19 RX10 ∈ mT := (mT_at (w := Cond.classLink RX11 19 RX10) 211 (by decide +kernel) rfl)
theorem clkX11_26 : Cond.classLink RX11 26 RX2 ∈ mT := (mT_at (w := Cond.classLink RX11 26 RX2) 247 (by decide +kernel) rfl)
theorem clkX11_35 : Cond.classLink RX11 35 RX0 ∈ mT := (mT_at (w := Cond.classLink RX11 35 RX0) 257 (by decide +kernel) rfl)
theorem clkX11_46 : Cond.classLink RX11 46 RX9 ∈ mT := (mT_at (w := Cond.classLink RX11 46 RX9) 275 (by decide +kernel) rfl)
theorem clkX11_58 : Cond.classLink RX11 58 RX1 ∈ mT := (mT_at (w := Cond.classLink RX11 58 RX1) 311 (by decide +kernel) rfl)
theorem clkX11_65 : Cond.classLink RX11 65 RX8 ∈ mT := (mT_at (w := Cond.classLink RX11 65 RX8) 331 (by decide +kernel) rfl)
theorem clkX11_72 : Cond.classLink RX11 72 RX4 ∈ mT := (mT_at (w := Cond.classLink RX11 72 RX4) 368 (by decide +kernel) rfl)
theorem clkX11_79 : Cond.classLink RX11 79 RX5 ∈ mT := (mT_at (w := Cond.classLink RX11 79 RX5) 390 (by decide +kernel) rfl)
theorem clkX11_88 : Cond.classLink RX11 88 RX7 ∈ mT := (mT_at (w := Cond.classLink RX11 88 RX7) 413 (by decide +kernel) rfl)
theorem clkX4_7 : Cond.classLink RX4 7 RX8 ∈ mT := (mT_at (w := Cond.classLink RX4 7 RX8) 375 (by decide +kernel) rfl)
theorem clkX4_16 : Cond.classLink RX4 16 RX9 ∈ mT := (mT_at (w := Cond.classLink RX4 16 RX9) 377 (by decide +kernel) rfl)
theorem clkX6_37 : Cond.classLink RX6 37 RX3 ∈ mT := (mT_at (w := Cond.classLink RX6 37 RX3) 134 (by decide +kernel) rfl)
theorem insX0 : Cond.instantiable RX0 3 ∈ mT := (mT_at (w := Cond.instantiable RX0 3) 258 (by decide +kernel) rfl)
theorem iniX0 : Cond.initialized RX0 ∈ mT := (mT_at (w := Cond.initialized RX0) 105 (by decide +kernel) rfl)
theorem insX1 : Cond.instantiable RX1 3 ∈ mT := (mT_at (w := Cond.instantiable RX1 3) 312 (by decide +kernel) rfl)
theorem iniX1 : Cond.initialized RX1 ∈ mT := (mT_at (w := Cond.initialized RX1) 107 (by decide +kernel) rfl)
theorem insX10 : Cond.instantiable RX10 7 ∈ mT := (mT_at (w := Cond.instantiable RX10 7) 212 (by decide +kernel) rfl)
theorem iniX10 : Cond.initialized RX10 ∈ mT := (mT_at (w := Cond.initialized RX10) 103 (by decide +kernel) rfl)
theorem insX11 : Cond.instantiable RX11 15 ∈ mT := (mT_at (w := Cond.instantiable RX11 15) 121 (by decide +kernel) rfl)
theorem iniX11 : Cond.initialized RX11 ∈ mT := (mT_at (w := Cond.initialized RX11) 100 (by decide +kernel) rfl)
theorem insX12 : Cond.instantiable RX12 32 ∈ mT := (mT_at (w := Cond.instantiable RX12 32) 1311 (by decide +kernel) rfl)
theorem iniX12 : Cond.initialized RX12 ∈ mT := (mT_at (w := Cond.initialized RX12) 112 (by decide +kernel) rfl)
theorem insX2 : Cond.instantiable RX2 1 ∈ mT := (mT_at (w := Cond.instantiable RX2 1) 248 (by decide +kernel) rfl)
theorem iniX2 : Cond.initialized RX2 ∈ mT := (mT_at (w := Cond.initialized RX2) 104 (by decide +kernel) rfl)
theorem insX3 : Cond.instantiable RX3 3 ∈ mT := (mT_at (w := Cond.instantiable RX3 3) 135 (by decide +kernel) rfl)
theorem iniX3 : Cond.initialized RX3 ∈ mT := (mT_at (w := Cond.initialized RX3) 102 (by decide +kernel) rfl)
theorem insX4 : Cond.instantiable RX4 3 ∈ mT := (mT_at (w := Cond.instantiable RX4 3) 370 (by decide +kernel) rfl)
theorem iniX4 : Cond.initialized RX4 ∈ mT := (mT_at (w := Cond.initialized RX4) 109 (by decide +kernel) rfl)
theorem insX5 : Cond.instantiable RX5 5 ∈ mT := (mT_at (w := Cond.instantiable RX5 5) 391 (by decide +kernel) rfl)
theorem iniX5 : Cond.initialized RX5 ∈ mT := (mT_at (w := Cond.initialized RX5) 110 (by decide +kernel) rfl)
theorem insX6 : Cond.instantiable RX6 13 ∈ mT := (mT_at (w := Cond.instantiable RX6 13) 129 (by decide +kernel) rfl)
theorem iniX6 : Cond.initialized RX6 ∈ mT := (mT_at (w := Cond.initialized RX6) 101 (by decide +kernel) rfl)
theorem insX7 : Cond.instantiable RX7 5 ∈ mT := (mT_at (w := Cond.instantiable RX7 5) 414 (by decide +kernel) rfl)
theorem iniX7 : Cond.initialized RX7 ∈ mT := (mT_at (w := Cond.initialized RX7) 111 (by decide +kernel) rfl)
theorem insX8 : Cond.instantiable RX8 7 ∈ mT := (mT_at (w := Cond.instantiable RX8 7) 332 (by decide +kernel) rfl)
theorem iniX8 : Cond.initialized RX8 ∈ mT := (mT_at (w := Cond.initialized RX8) 108 (by decide +kernel) rfl)
theorem insX9 : Cond.instantiable RX9 6 ∈ mT := (mT_at (w := Cond.instantiable RX9 6) 276 (by decide +kernel) rfl)
theorem iniX9 : Cond.initialized RX9 ∈ mT := (mT_at (w := Cond.initialized RX9) 106 (by decide +kernel) rfl)
theorem oiX0_3 : Cond.methodLink RX0 3 Lib.objectInit ∈ mT := mT_of (by decide +kernel) rfl
theorem oiX1_3 : Cond.methodLink RX1 3 Lib.objectInit ∈ mT := mT_of (by decide +kernel) rfl
theorem oiX10_3 : Cond.methodLink RX10 3 Lib.objectInit ∈ mT := mT_of (by decide +kernel) rfl
theorem oiX11_1 : Cond.methodLink RX11 1 Lib.objectInit ∈ mT := mT_of (by decide +kernel) rfl
theorem oiX12_18 : Cond.methodLink RX12 18 Lib.objectInit ∈ mT := mT_of (by decide +kernel) rfl
theorem oiX2_3 : Cond.methodLink RX2 3 Lib.objectInit ∈ mT := mT_of (by decide +kernel) rfl
theorem oiX3_3 : Cond.methodLink RX3 3 Lib.objectInit ∈ mT := mT_of (by decide +kernel) rfl
theorem oiX4_1 : Cond.methodLink RX4 1 Lib.objectInit ∈ mT := mT_of (by decide +kernel) rfl
theorem oiX5_3 : Cond.methodLink RX5 3 Lib.objectInit ∈ mT := mT_of (by decide +kernel) rfl
theorem oiX6_3 : Cond.methodLink RX6 3 Lib.objectInit ∈ mT := mT_of (by decide +kernel) rfl
theorem oiX7_3 : Cond.methodLink RX7 3 Lib.objectInit ∈ mT := mT_of (by decide +kernel) rfl
theorem oiX8_3 : Cond.methodLink RX8 3 Lib.objectInit ∈ mT := mT_of (by decide +kernel) rfl
theorem oiX9_3 : Cond.methodLink RX9 3 Lib.objectInit ∈ mT := mT_of (by decide +kernel) rfl
theorem ciL_15 : mCi RL 15 yX11_init muX11_init 0 := ⟨Or.inl (mT_at (w := Cond.methodLink RL 15 yX11_init) 122 (by decide +kernel) rfl), (mT_at (w := Cond.instanceMethod yX11_init) 123 (by decide +kernel) rfl), (mT_at (w := Cond.initialized RX11) 100 (by decide +kernel) rfl), (mT_at (w := Cond.code yX11_init muX11_init.2.1 muX11_init.2.2.1 none) 124 (by decide +kernel) rfl), rfl, by decide +kernel, by decide, rfl⟩
theorem ciL_18 : mCi RL 18 yX12_init muX12_init 0 := ⟨Or.inl (mT_at (w := Cond.methodLink RL 18 yX12_init) 1314 (by decide +kernel) rfl), (mT_at (w := Cond.instanceMethod yX12_init) 1315 (by decide +kernel) rfl), (mT_at (w := Cond.initialized RX12) 112 (by decide +kernel) rfl), (mT_at (w := Cond.code yX12_init muX12_init.2.1 muX12_init.2.2.1 none) 1316 (by decide +kernel) rfl), rfl, by decide +kernel, by decide, rfl⟩
theorem ciX1_17 : mCi RX1 17 yX9_init muX9_init 1 := ⟨Or.inl (mT_at (w := Cond.methodLink RX1 17 yX9_init) 319 (by decide +kernel) rfl), (mT_at (w := Cond.instanceMethod yX9_init) 278 (by decide +kernel) rfl), (mT_at (w := Cond.initialized RX9) 106 (by decide +kernel) rfl), (mT_at (w := Cond.code yX9_init muX9_init.2.1 muX9_init.2.2.1 none) 279 (by decide +kernel) rfl), rfl, by decide +kernel, by decide, rfl⟩
theorem ciX11_9 : mCi RX11 9 yX6_init muX6_init 0 := ⟨Or.inr (by decide +kernel), (mT_at (w := Cond.instanceMethod yX6_init) 131 (by decide +kernel) rfl), (mT_at (w := Cond.initialized RX6) 101 (by decide +kernel) rfl), (mT_at (w := Cond.code yX6_init muX6_init.2.1 muX6_init.2.2.1 none) 132 (by decide +kernel) rfl), rfl, by decide +kernel, by decide, rfl⟩
theorem ciX11_21 : mCi RX11 21 yX10_init muX10_init 0 := ⟨Or.inr (by decide +kernel), (mT_at (w := Cond.instanceMethod yX10_init) 214 (by decide +kernel) rfl), (mT_at (w := Cond.initialized RX10) 103 (by decide +kernel) rfl), (mT_at (w := Cond.code yX10_init muX10_init.2.1 muX10_init.2.2.1 none) 215 (by decide +kernel) rfl), rfl, by decide +kernel, by decide, rfl⟩
theorem ciX11_28 : mCi RX11 28 yX2_init muX2_init 1 := ⟨Or.inl (mT_at (w := Cond.methodLink RX11 28 yX2_init) 249 (by decide +kernel) rfl), (mT_at (w := Cond.instanceMethod yX2_init) 250 (by decide +kernel) rfl), (mT_at (w := Cond.initialized RX2) 104 (by decide +kernel) rfl), (mT_at (w := Cond.code yX2_init muX2_init.2.1 muX2_init.2.2.1 none) 251 (by decide +kernel) rfl), rfl, by decide +kernel, by decide, rfl⟩
theorem ciX11_37 : mCi RX11 37 yX0_init muX0_init 1 := ⟨Or.inl (mT_at (w := Cond.methodLink RX11 37 yX0_init) 259 (by decide +kernel) rfl), (mT_at (w := Cond.instanceMethod yX0_init) 260 (by decide +kernel) rfl), (mT_at (w := Cond.initialized RX0) 105 (by decide +kernel) rfl), (mT_at (w := Cond.code yX0_init muX0_init.2.1 muX0_init.2.2.1 none) 261 (by decide +kernel) rfl), rfl, by decide +kernel, by decide, rfl⟩
theorem ciX11_48 : mCi RX11 48 yX9_init muX9_init 1 := ⟨Or.inl (mT_at (w := Cond.methodLink RX11 48 yX9_init) 277 (by decide +kernel) rfl), (mT_at (w := Cond.instanceMethod yX9_init) 278 (by decide +kernel) rfl), (mT_at (w := Cond.initialized RX9) 106 (by decide +kernel) rfl), (mT_at (w := Cond.code yX9_init muX9_init.2.1 muX9_init.2.2.1 none) 279 (by decide +kernel) rfl), rfl, by decide +kernel, by decide, rfl⟩
theorem ciX11_60 : mCi RX11 60 yX1_init muX1_init 1 := ⟨Or.inl (mT_at (w := Cond.methodLink RX11 60 yX1_init) 313 (by decide +kernel) rfl), (mT_at (w := Cond.instanceMethod yX1_init) 314 (by decide +kernel) rfl), (mT_at (w := Cond.initialized RX1) 107 (by decide +kernel) rfl), (mT_at (w := Cond.code yX1_init muX1_init.2.1 muX1_init.2.2.1 none) 315 (by decide +kernel) rfl), rfl, by decide +kernel, by decide, rfl⟩
theorem ciX11_67 : mCi RX11 67 yX8_init muX8_init 0 := ⟨Or.inr (by decide +kernel), (mT_at (w := Cond.instanceMethod yX8_init) 334 (by decide +kernel) rfl), (mT_at (w := Cond.initialized RX8) 108 (by decide +kernel) rfl), (mT_at (w := Cond.code yX8_init muX8_init.2.1 muX8_init.2.2.1 none) 335 (by decide +kernel) rfl), rfl, by decide +kernel, by decide, rfl⟩
theorem ciX11_78 : mCi RX11 78 yX4_init muX4_init 1 := ⟨Or.inl (mT_at (w := Cond.methodLink RX11 78 yX4_init) 371 (by decide +kernel) rfl), (mT_at (w := Cond.instanceMethod yX4_init) 372 (by decide +kernel) rfl), (mT_at (w := Cond.initialized RX4) 109 (by decide +kernel) rfl), (mT_at (w := Cond.code yX4_init muX4_init.2.1 muX4_init.2.2.1 none) 373 (by decide +kernel) rfl), rfl, by decide +kernel, by decide, rfl⟩
theorem ciX11_81 : mCi RX11 81 yX5_init muX5_init 1 := ⟨Or.inl (mT_at (w := Cond.methodLink RX11 81 yX5_init) 392 (by decide +kernel) rfl), (mT_at (w := Cond.instanceMethod yX5_init) 393 (by decide +kernel) rfl), (mT_at (w := Cond.initialized RX5) 110 (by decide +kernel) rfl), (mT_at (w := Cond.code yX5_init muX5_init.2.1 muX5_init.2.2.1 none) 394 (by decide +kernel) rfl), rfl, by decide +kernel, by decide, rfl⟩
theorem ciX11_90 : mCi RX11 90 yX7_init muX7_init 2 := ⟨Or.inl (mT_at (w := Cond.methodLink RX11 90 yX7_init) 415 (by decide +kernel) rfl), (mT_at (w := Cond.instanceMethod yX7_init) 416 (by decide +kernel) rfl), (mT_at (w := Cond.initialized RX7) 111 (by decide +kernel) rfl), (mT_at (w := Cond.code yX7_init muX7_init.2.1 muX7_init.2.2.1 none) 417 (by decide +kernel) rfl), rfl, by decide +kernel, by decide, rfl⟩
theorem ciX4_9 : mCi RX4 9 yX8_init muX8_init 0 := ⟨Or.inr (by decide +kernel), (mT_at (w := Cond.instanceMethod yX8_init) 334 (by decide +kernel) rfl), (mT_at (w := Cond.initialized RX8) 108 (by decide +kernel) rfl), (mT_at (w := Cond.code yX8_init muX8_init.2.1 muX8_init.2.2.1 none) 335 (by decide +kernel) rfl), rfl, by decide +kernel, by decide, rfl⟩
theorem ciX4_18 : mCi RX4 18 yX9_init muX9_init 1 := ⟨Or.inl (mT_at (w := Cond.methodLink RX4 18 yX9_init) 378 (by decide +kernel) rfl), (mT_at (w := Cond.instanceMethod yX9_init) 278 (by decide +kernel) rfl), (mT_at (w := Cond.initialized RX9) 106 (by decide +kernel) rfl), (mT_at (w := Cond.code yX9_init muX9_init.2.1 muX9_init.2.2.1 none) 279 (by decide +kernel) rfl), rfl, by decide +kernel, by decide, rfl⟩
theorem ciX6_39 : mCi RX6 39 yX3_init muX3_init 0 := ⟨Or.inr (by decide +kernel), (mT_at (w := Cond.instanceMethod yX3_init) 137 (by decide +kernel) rfl), (mT_at (w := Cond.initialized RX3) 102 (by decide +kernel) rfl), (mT_at (w := Cond.code yX3_init muX3_init.2.1 muX3_init.2.2.1 none) 138 (by decide +kernel) rfl), rfl, by decide +kernel, by decide, rfl⟩
theorem dX3_init_0 : decode cX3_init 0 = .ok (.aload_n 0, 1) := by decide +kernel
theorem dX3_init_1 : decode cX3_init 1 = .ok (.invokespecial 3, 3) := by decide +kernel
theorem dX3_init_4 : decode cX3_init 4 = .ok (.aload_n 0, 1) := by decide +kernel
theorem dX3_init_5 : decode cX3_init 5 = .ok (.sipush 1000, 3) := by decide +kernel
theorem dX3_init_8 : decode cX3_init 8 = .ok (.newarray .int, 2) := by decide +kernel
theorem dX3_init_10 : decode cX3_init 10 = .ok (.putfield 9, 3) := by decide +kernel
theorem dX3_init_13 : decode cX3_init 13 = .ok (.aload_n 0, 1) := by decide +kernel
theorem dX3_init_14 : decode cX3_init 14 = .ok (.bipush 32, 2) := by decide +kernel
theorem dX3_init_16 : decode cX3_init 16 = .ok (.newarray .int, 2) := by decide +kernel
theorem dX3_init_18 : decode cX3_init 18 = .ok (.putfield 15, 3) := by decide +kernel
theorem dX3_init_21 : decode cX3_init 21 = .ok (.return_, 1) := by decide +kernel
def f_X3_init (o0 : Nat) (sk : List mS) : Option (List mS) := lt sk.length fun n1 => lt (sk ++ [.inl (0, 1000, [])]) fun sk1 => pRc sk1 o0 3 0 n1 fun sk2 => lt sk2.length fun n3 => lt (sk2 ++ [.inl (0, 32, [])]) fun sk3 => pRc sk3 o0 3 1 n3 fun sk4 => some sk4
set_option maxHeartbeats 4000000 in
set_option maxRecDepth 100000 in
theorem sC_X3_init {l : Launch} {G : mG} (o0 : Nat) (sk : List mS) : GoC true muX3_init (rmC 1 2 1032) 0 0 l G (nFinZ G 2 1032) (f_X3_init o0 sk) 0 [(0, .ref (gB G + o0))] [] sk mZ := by
  unfold f_X3_init
  refine goC_aload_n 0 1 dX3_init_0 rfl rfl ?_
  refine goC_objInit oiX3_3 oi2 oi3 4 dX3_init_1 rfl (Nat.le_of_ble_eq_true rfl) (Nat.le_of_ble_eq_true rfl) ?_
  refine goC_aload_n 0 5 dX3_init_4 rfl rfl ?_
  refine goC_sipush 1000 8 dX3_init_5 rfl (by decide) ?_
  refine goC_newa (kd := 0) (atype := .int) (ty := .int) (.inl (0, 1000, [])) rfl rfl (by decide) ar0 (N := 1000) rfl (he_int (by decide) rfl) (mz_mZ _) (by decide) (by decide) (by decide) (Nat.le_of_ble_eq_true rfl) (Nat.le_of_ble_eq_true rfl) 10 dX3_init_8 rfl ?_
  refine goC_nmN (fun n1 => ?_)
  refine goC_nmS (fun sk1 => ?_)
  refine goC_putFN flX3_9 rfl rfl rfl (fun _ => rfl) (fun _ => rfl) 13 dX3_init_10 rfl (fun sk2 => ?_)
  refine goC_aload_n 0 14 dX3_init_13 rfl rfl ?_
  refine goC_bipush 32 16 dX3_init_14 rfl (by decide) ?_
  refine goC_newa (kd := 0) (atype := .int) (ty := .int) (.inl (0, 32, [])) rfl rfl (by decide) ar0 (N := 32) rfl (he_int (by decide) rfl) (mz_mZ _) (by decide) (by decide) (by decide) (Nat.le_of_ble_eq_true rfl) (Nat.le_of_ble_eq_true rfl) 18 dX3_init_16 rfl ?_
  refine goC_nmN (fun n3 => ?_)
  refine goC_nmS (fun sk3 => ?_)
  refine goC_putFN flX3_15 rfl rfl rfl (fun _ => rfl) (fun _ => rfl) 21 dX3_init_18 rfl (fun sk4 => ?_)
  exact goC_vretZ rfl dX3_init_21
theorem mC_X3_init {l : Launch} {G : mG} (o0 : Nat) (sk : List mS) : MtC l G yX3_init muX3_init 1 2 1032 [.ref (gB G + o0)] sk mZ (zS (f_X3_init o0 sk)) := MtC.of (by decide) rfl rfl (Nat.le_of_ble_eq_true rfl) (goC_map (sC_X3_init o0 sk))
theorem dX6_init_0 : decode cX6_init 0 = .ok (.aload_n 0, 1) := by decide +kernel
theorem dX6_init_1 : decode cX6_init 1 = .ok (.invokespecial 3, 3) := by decide +kernel
theorem dX6_init_4 : decode cX6_init 4 = .ok (.aload_n 0, 1) := by decide +kernel
theorem dX6_init_5 : decode cX6_init 5 = .ok (.bipush 7, 2) := by decide +kernel
theorem dX6_init_7 : decode cX6_init 7 = .ok (.newarray .long, 2) := by decide +kernel
theorem dX6_init_9 : decode cX6_init 9 = .ok (.putfield 9, 3) := by decide +kernel
theorem dX6_init_12 : decode cX6_init 12 = .ok (.aload_n 0, 1) := by decide +kernel
theorem dX6_init_13 : decode cX6_init 13 = .ok (.iconst 5, 1) := by decide +kernel
theorem dX6_init_14 : decode cX6_init 14 = .ok (.newarray .long, 2) := by decide +kernel
theorem dX6_init_16 : decode cX6_init 16 = .ok (.putfield 15, 3) := by decide +kernel
theorem dX6_init_19 : decode cX6_init 19 = .ok (.aload_n 0, 1) := by decide +kernel
theorem dX6_init_20 : decode cX6_init 20 = .ok (.iconst 5, 1) := by decide +kernel
theorem dX6_init_21 : decode cX6_init 21 = .ok (.newarray .int, 2) := by decide +kernel
theorem dX6_init_23 : decode cX6_init 23 = .ok (.putfield 18, 3) := by decide +kernel
theorem dX6_init_26 : decode cX6_init 26 = .ok (.aload_n 0, 1) := by decide +kernel
theorem dX6_init_27 : decode cX6_init 27 = .ok (.bipush 8, 2) := by decide +kernel
theorem dX6_init_29 : decode cX6_init 29 = .ok (.newarray .int, 2) := by decide +kernel
theorem dX6_init_31 : decode cX6_init 31 = .ok (.putfield 22, 3) := by decide +kernel
theorem dX6_init_34 : decode cX6_init 34 = .ok (.aload_n 0, 1) := by decide +kernel
theorem dX6_init_35 : decode cX6_init 35 = .ok (.bipush 8, 2) := by decide +kernel
theorem dX6_init_37 : decode cX6_init 37 = .ok (.newarray .int, 2) := by decide +kernel
theorem dX6_init_39 : decode cX6_init 39 = .ok (.putfield 25, 3) := by decide +kernel
theorem dX6_init_42 : decode cX6_init 42 = .ok (.aload_n 0, 1) := by decide +kernel
theorem dX6_init_43 : decode cX6_init 43 = .ok (.bipush 8, 2) := by decide +kernel
theorem dX6_init_45 : decode cX6_init 45 = .ok (.newarray .int, 2) := by decide +kernel
theorem dX6_init_47 : decode cX6_init 47 = .ok (.putfield 28, 3) := by decide +kernel
theorem dX6_init_50 : decode cX6_init 50 = .ok (.aload_n 0, 1) := by decide +kernel
theorem dX6_init_51 : decode cX6_init 51 = .ok (.bipush 8, 2) := by decide +kernel
theorem dX6_init_53 : decode cX6_init 53 = .ok (.newarray .int, 2) := by decide +kernel
theorem dX6_init_55 : decode cX6_init 55 = .ok (.putfield 31, 3) := by decide +kernel
theorem dX6_init_58 : decode cX6_init 58 = .ok (.aload_n 0, 1) := by decide +kernel
theorem dX6_init_59 : decode cX6_init 59 = .ok (.bipush 12, 2) := by decide +kernel
theorem dX6_init_61 : decode cX6_init 61 = .ok (.newarray .int, 2) := by decide +kernel
theorem dX6_init_63 : decode cX6_init 63 = .ok (.putfield 34, 3) := by decide +kernel
theorem dX6_init_66 : decode cX6_init 66 = .ok (.aload_n 0, 1) := by decide +kernel
theorem dX6_init_67 : decode cX6_init 67 = .ok (.new 37, 3) := by decide +kernel
theorem dX6_init_70 : decode cX6_init 70 = .ok (.dup, 1) := by decide +kernel
theorem dX6_init_71 : decode cX6_init 71 = .ok (.invokespecial 39, 3) := by decide +kernel
theorem dX6_init_74 : decode cX6_init 74 = .ok (.putfield 40, 3) := by decide +kernel
theorem dX6_init_77 : decode cX6_init 77 = .ok (.return_, 1) := by decide +kernel
def f_X6_init (o0 : Nat) (sk : List mS) : Option (List mS) := lt sk.length fun n1 => lt (sk ++ [.inl (1, 7, [])]) fun sk1 => pRc sk1 o0 6 4 n1 fun sk2 => lt sk2.length fun n3 => lt (sk2 ++ [.inl (1, 5, [])]) fun sk3 => pRc sk3 o0 6 5 n3 fun sk4 => lt sk4.length fun n5 => lt (sk4 ++ [.inl (0, 5, [])]) fun sk5 => pRc sk5 o0 6 6 n5 fun sk6 => lt sk6.length fun n7 => lt (sk6 ++ [.inl (0, 8, [])]) fun sk7 => pRc sk7 o0 6 7 n7 fun sk8 => lt sk8.length fun n9 => lt (sk8 ++ [.inl (0, 8, [])]) fun sk9 => pRc sk9 o0 6 8 n9 fun sk10 => lt sk10.length fun n11 => lt (sk10 ++ [.inl (0, 8, [])]) fun sk11 => pRc sk11 o0 6 9 n11 fun sk12 => lt sk12.length fun n13 => lt (sk12 ++ [.inl (0, 8, [])]) fun sk13 => pRc sk13 o0 6 10 n13 fun sk14 => lt sk14.length fun n15 => lt (sk14 ++ [.inl (0, 12, [])]) fun sk15 => pRc sk15 o0 6 11 n15 fun sk16 => lt sk16.length fun n17 => lt (sk16 ++ [frS 3]) fun sk17 => bS (f_X3_init n17 sk17) (sk17.length + 2) fun sk18 => pRc sk18 o0 6 12 n17 fun sk19 => some sk19
set_option maxHeartbeats 4000000 in
set_option maxRecDepth 100000 in
theorem sC_X6_init {l : Launch} {G : mG} (o0 : Nat) (sk : List mS) : GoC true muX6_init (rmC 2 11 1096) 0 0 l G (nFinZ G 11 1096) (f_X6_init o0 sk) 0 [(0, .ref (gB G + o0))] [] sk mZ := by
  unfold f_X6_init
  refine goC_aload_n 0 1 dX6_init_0 rfl rfl ?_
  refine goC_objInit oiX6_3 oi2 oi3 4 dX6_init_1 rfl (Nat.le_of_ble_eq_true rfl) (Nat.le_of_ble_eq_true rfl) ?_
  refine goC_aload_n 0 5 dX6_init_4 rfl rfl ?_
  refine goC_bipush 7 7 dX6_init_5 rfl (by decide) ?_
  refine goC_newa (kd := 1) (atype := .long) (ty := .long) (.inl (1, 7, [])) rfl rfl (by decide) ar1 (N := 7) rfl he_long (mz_mZ _) (by decide) (by decide) (by decide) (Nat.le_of_ble_eq_true rfl) (Nat.le_of_ble_eq_true rfl) 9 dX6_init_7 rfl ?_
  refine goC_nmN (fun n1 => ?_)
  refine goC_nmS (fun sk1 => ?_)
  refine goC_putFN flX6_9 rfl rfl rfl (fun _ => rfl) (fun _ => rfl) 12 dX6_init_9 rfl (fun sk2 => ?_)
  refine goC_aload_n 0 13 dX6_init_12 rfl rfl ?_
  refine goC_iconst 5 14 dX6_init_13 rfl (by decide) ?_
  refine goC_newa (kd := 1) (atype := .long) (ty := .long) (.inl (1, 5, [])) rfl rfl (by decide) ar1 (N := 5) rfl he_long (mz_mZ _) (by decide) (by decide) (by decide) (Nat.le_of_ble_eq_true rfl) (Nat.le_of_ble_eq_true rfl) 16 dX6_init_14 rfl ?_
  refine goC_nmN (fun n3 => ?_)
  refine goC_nmS (fun sk3 => ?_)
  refine goC_putFN flX6_15 rfl rfl rfl (fun _ => rfl) (fun _ => rfl) 19 dX6_init_16 rfl (fun sk4 => ?_)
  refine goC_aload_n 0 20 dX6_init_19 rfl rfl ?_
  refine goC_iconst 5 21 dX6_init_20 rfl (by decide) ?_
  refine goC_newa (kd := 0) (atype := .int) (ty := .int) (.inl (0, 5, [])) rfl rfl (by decide) ar0 (N := 5) rfl (he_int (by decide) rfl) (mz_mZ _) (by decide) (by decide) (by decide) (Nat.le_of_ble_eq_true rfl) (Nat.le_of_ble_eq_true rfl) 23 dX6_init_21 rfl ?_
  refine goC_nmN (fun n5 => ?_)
  refine goC_nmS (fun sk5 => ?_)
  refine goC_putFN flX6_18 rfl rfl rfl (fun _ => rfl) (fun _ => rfl) 26 dX6_init_23 rfl (fun sk6 => ?_)
  refine goC_aload_n 0 27 dX6_init_26 rfl rfl ?_
  refine goC_bipush 8 29 dX6_init_27 rfl (by decide) ?_
  refine goC_newa (kd := 0) (atype := .int) (ty := .int) (.inl (0, 8, [])) rfl rfl (by decide) ar0 (N := 8) rfl (he_int (by decide) rfl) (mz_mZ _) (by decide) (by decide) (by decide) (Nat.le_of_ble_eq_true rfl) (Nat.le_of_ble_eq_true rfl) 31 dX6_init_29 rfl ?_
  refine goC_nmN (fun n7 => ?_)
  refine goC_nmS (fun sk7 => ?_)
  refine goC_putFN flX6_22 rfl rfl rfl (fun _ => rfl) (fun _ => rfl) 34 dX6_init_31 rfl (fun sk8 => ?_)
  refine goC_aload_n 0 35 dX6_init_34 rfl rfl ?_
  refine goC_bipush 8 37 dX6_init_35 rfl (by decide) ?_
  refine goC_newa (kd := 0) (atype := .int) (ty := .int) (.inl (0, 8, [])) rfl rfl (by decide) ar0 (N := 8) rfl (he_int (by decide) rfl) (mz_mZ _) (by decide) (by decide) (by decide) (Nat.le_of_ble_eq_true rfl) (Nat.le_of_ble_eq_true rfl) 39 dX6_init_37 rfl ?_
  refine goC_nmN (fun n9 => ?_)
  refine goC_nmS (fun sk9 => ?_)
  refine goC_putFN flX6_25 rfl rfl rfl (fun _ => rfl) (fun _ => rfl) 42 dX6_init_39 rfl (fun sk10 => ?_)
  refine goC_aload_n 0 43 dX6_init_42 rfl rfl ?_
  refine goC_bipush 8 45 dX6_init_43 rfl (by decide) ?_
  refine goC_newa (kd := 0) (atype := .int) (ty := .int) (.inl (0, 8, [])) rfl rfl (by decide) ar0 (N := 8) rfl (he_int (by decide) rfl) (mz_mZ _) (by decide) (by decide) (by decide) (Nat.le_of_ble_eq_true rfl) (Nat.le_of_ble_eq_true rfl) 47 dX6_init_45 rfl ?_
  refine goC_nmN (fun n11 => ?_)
  refine goC_nmS (fun sk11 => ?_)
  refine goC_putFN flX6_28 rfl rfl rfl (fun _ => rfl) (fun _ => rfl) 50 dX6_init_47 rfl (fun sk12 => ?_)
  refine goC_aload_n 0 51 dX6_init_50 rfl rfl ?_
  refine goC_bipush 8 53 dX6_init_51 rfl (by decide) ?_
  refine goC_newa (kd := 0) (atype := .int) (ty := .int) (.inl (0, 8, [])) rfl rfl (by decide) ar0 (N := 8) rfl (he_int (by decide) rfl) (mz_mZ _) (by decide) (by decide) (by decide) (Nat.le_of_ble_eq_true rfl) (Nat.le_of_ble_eq_true rfl) 55 dX6_init_53 rfl ?_
  refine goC_nmN (fun n13 => ?_)
  refine goC_nmS (fun sk13 => ?_)
  refine goC_putFN flX6_31 rfl rfl rfl (fun _ => rfl) (fun _ => rfl) 58 dX6_init_55 rfl (fun sk14 => ?_)
  refine goC_aload_n 0 59 dX6_init_58 rfl rfl ?_
  refine goC_bipush 12 61 dX6_init_59 rfl (by decide) ?_
  refine goC_newa (kd := 0) (atype := .int) (ty := .int) (.inl (0, 12, [])) rfl rfl (by decide) ar0 (N := 12) rfl (he_int (by decide) rfl) (mz_mZ _) (by decide) (by decide) (by decide) (Nat.le_of_ble_eq_true rfl) (Nat.le_of_ble_eq_true rfl) 63 dX6_init_61 rfl ?_
  refine goC_nmN (fun n15 => ?_)
  refine goC_nmS (fun sk15 => ?_)
  refine goC_putFN flX6_34 rfl rfl rfl (fun _ => rfl) (fun _ => rfl) 66 dX6_init_63 rfl (fun sk16 => ?_)
  refine goC_aload_n 0 67 dX6_init_66 rfl rfl ?_
  refine goC_new clX3 dfX3 rfl clkX6_37 insX3 iniX3 (mz_mZ _) (Nat.le_of_ble_eq_true rfl) (Nat.le_of_ble_eq_true rfl) 70 dX6_init_67 rfl ?_
  refine goC_nmN (fun n17 => ?_)
  refine goC_nmS (fun sk17 => ?_)
  refine goC_dup 71 dX6_init_70 rfl rfl ?_
  refine goC_callZ 1 (As := []) (rest := [.ref (gB G + n17), .ref (gB G + o0)]) (o := n17) ciX6_39 (mC_X3_init n17 sk17) rfl 74 dX6_init_71 rfl ⟨Nat.le_of_ble_eq_true rfl, Nat.le_of_ble_eq_true rfl⟩ ⟨Nat.le_of_ble_eq_true rfl, Nat.le_of_ble_eq_true rfl⟩ (Nat.le_of_ble_eq_true rfl) (fun sk18 => ?_)
  refine goC_putFN flX6_40 rfl rfl rfl (fun _ => rfl) (fun _ => rfl) 77 dX6_init_74 rfl (fun sk19 => ?_)
  exact goC_vretZ rfl dX6_init_77
theorem mC_X6_init {l : Launch} {G : mG} (o0 : Nat) (sk : List mS) : MtC l G yX6_init muX6_init 2 11 1096 [.ref (gB G + o0)] sk mZ (zS (f_X6_init o0 sk)) := MtC.of (by decide) rfl rfl (Nat.le_of_ble_eq_true rfl) (goC_map (sC_X6_init o0 sk))
theorem dX10_init_0 : decode cX10_init 0 = .ok (.aload_n 0, 1) := by decide +kernel
theorem dX10_init_1 : decode cX10_init 1 = .ok (.invokespecial 3, 3) := by decide +kernel
theorem dX10_init_4 : decode cX10_init 4 = .ok (.aload_n 0, 1) := by decide +kernel
theorem dX10_init_5 : decode cX10_init 5 = .ok (.sipush 1000, 3) := by decide +kernel
theorem dX10_init_8 : decode cX10_init 8 = .ok (.newarray .byte, 2) := by decide +kernel
theorem dX10_init_10 : decode cX10_init 10 = .ok (.putfield 9, 3) := by decide +kernel
theorem dX10_init_13 : decode cX10_init 13 = .ok (.return_, 1) := by decide +kernel
def f_X10_init (o0 : Nat) (sk : List mS) : Option (List mS) := lt sk.length fun n1 => lt (sk ++ [.inl (3, 1000, [])]) fun sk1 => pRc sk1 o0 10 0 n1 fun sk2 => some sk2
set_option maxHeartbeats 4000000 in
set_option maxRecDepth 100000 in
theorem sC_X10_init {l : Launch} {G : mG} (o0 : Nat) (sk : List mS) : GoC true muX10_init (rmC 1 1 1000) 0 0 l G (nFinZ G 1 1000) (f_X10_init o0 sk) 0 [(0, .ref (gB G + o0))] [] sk mZ := by
  unfold f_X10_init
  refine goC_aload_n 0 1 dX10_init_0 rfl rfl ?_
  refine goC_objInit oiX10_3 oi2 oi3 4 dX10_init_1 rfl (Nat.le_of_ble_eq_true rfl) (Nat.le_of_ble_eq_true rfl) ?_
  refine goC_aload_n 0 5 dX10_init_4 rfl rfl ?_
  refine goC_sipush 1000 8 dX10_init_5 rfl (by decide) ?_
  refine goC_newa (kd := 3) (atype := .byte) (ty := .byte) (.inl (3, 1000, [])) rfl rfl (by decide) ar3 (N := 1000) rfl (he_int (by decide) rfl) (mz_mZ _) (by decide) (by decide) (by decide) (Nat.le_of_ble_eq_true rfl) (Nat.le_of_ble_eq_true rfl) 10 dX10_init_8 rfl ?_
  refine goC_nmN (fun n1 => ?_)
  refine goC_nmS (fun sk1 => ?_)
  refine goC_putFN flX10_9 rfl rfl rfl (fun _ => rfl) (fun _ => rfl) 13 dX10_init_10 rfl (fun sk2 => ?_)
  exact goC_vretZ rfl dX10_init_13
theorem mC_X10_init {l : Launch} {G : mG} (o0 : Nat) (sk : List mS) : MtC l G yX10_init muX10_init 1 1 1000 [.ref (gB G + o0)] sk mZ (zS (f_X10_init o0 sk)) := MtC.of (by decide) rfl rfl (Nat.le_of_ble_eq_true rfl) (goC_map (sC_X10_init o0 sk))
theorem dX2_init_0 : decode cX2_init 0 = .ok (.aload_n 0, 1) := by decide +kernel
theorem dX2_init_1 : decode cX2_init 1 = .ok (.invokespecial 3, 3) := by decide +kernel
theorem dX2_init_4 : decode cX2_init 4 = .ok (.aload_n 0, 1) := by decide +kernel
theorem dX2_init_5 : decode cX2_init 5 = .ok (.aload_n 1, 1) := by decide +kernel
theorem dX2_init_6 : decode cX2_init 6 = .ok (.putfield 9, 3) := by decide +kernel
theorem dX2_init_9 : decode cX2_init 9 = .ok (.return_, 1) := by decide +kernel
def f_X2_init (o0 o1 : Nat) (sk : List mS) : Option (List mS) := pRc sk o0 2 0 o1 fun sk1 => some sk1
set_option maxHeartbeats 4000000 in
set_option maxRecDepth 100000 in
theorem sC_X2_init {l : Launch} {G : mG} (o0 o1 : Nat) (sk : List mS) : GoC true muX2_init (rmC 1 0 0) 0 0 l G (nFinZ G 0 0) (f_X2_init o0 o1 sk) 0 [(0, .ref (gB G + o0)), (1, .ref (gB G + o1))] [] sk mZ := by
  unfold f_X2_init
  refine goC_aload_n 0 1 dX2_init_0 rfl rfl ?_
  refine goC_objInit oiX2_3 oi2 oi3 4 dX2_init_1 rfl (Nat.le_of_ble_eq_true rfl) (Nat.le_of_ble_eq_true rfl) ?_
  refine goC_aload_n 0 5 dX2_init_4 rfl rfl ?_
  refine goC_aload_n 1 6 dX2_init_5 rfl rfl ?_
  refine goC_putFN flX2_9 rfl rfl rfl (fun _ => rfl) (fun _ => rfl) 9 dX2_init_6 rfl (fun sk1 => ?_)
  exact goC_vretZ rfl dX2_init_9
theorem mC_X2_init {l : Launch} {G : mG} (o0 o1 : Nat) (sk : List mS) : MtC l G yX2_init muX2_init 1 0 0 [.ref (gB G + o0), .ref (gB G + o1)] sk mZ (zS (f_X2_init o0 o1 sk)) := MtC.of (by decide) rfl rfl (Nat.le_of_ble_eq_true rfl) (goC_map (sC_X2_init o0 o1 sk))
theorem dX0_init_0 : decode cX0_init 0 = .ok (.aload_n 0, 1) := by decide +kernel
theorem dX0_init_1 : decode cX0_init 1 = .ok (.invokespecial 3, 3) := by decide +kernel
theorem dX0_init_4 : decode cX0_init 4 = .ok (.aload_n 0, 1) := by decide +kernel
theorem dX0_init_5 : decode cX0_init 5 = .ok (.bipush 40, 2) := by decide +kernel
theorem dX0_init_7 : decode cX0_init 7 = .ok (.newarray .int, 2) := by decide +kernel
theorem dX0_init_9 : decode cX0_init 9 = .ok (.putfield 9, 3) := by decide +kernel
theorem dX0_init_12 : decode cX0_init 12 = .ok (.aload_n 0, 1) := by decide +kernel
theorem dX0_init_13 : decode cX0_init 13 = .ok (.aload_n 1, 1) := by decide +kernel
theorem dX0_init_14 : decode cX0_init 14 = .ok (.putfield 15, 3) := by decide +kernel
theorem dX0_init_17 : decode cX0_init 17 = .ok (.return_, 1) := by decide +kernel
def f_X0_init (o0 o1 : Nat) (sk : List mS) : Option (List mS) := lt sk.length fun n1 => lt (sk ++ [.inl (0, 40, [])]) fun sk1 => pRc sk1 o0 0 1 n1 fun sk2 => pRc sk2 o0 0 0 o1 fun sk3 => some sk3
set_option maxHeartbeats 4000000 in
set_option maxRecDepth 100000 in
theorem sC_X0_init {l : Launch} {G : mG} (o0 o1 : Nat) (sk : List mS) : GoC true muX0_init (rmC 1 1 40) 0 0 l G (nFinZ G 1 40) (f_X0_init o0 o1 sk) 0 [(0, .ref (gB G + o0)), (1, .ref (gB G + o1))] [] sk mZ := by
  unfold f_X0_init
  refine goC_aload_n 0 1 dX0_init_0 rfl rfl ?_
  refine goC_objInit oiX0_3 oi2 oi3 4 dX0_init_1 rfl (Nat.le_of_ble_eq_true rfl) (Nat.le_of_ble_eq_true rfl) ?_
  refine goC_aload_n 0 5 dX0_init_4 rfl rfl ?_
  refine goC_bipush 40 7 dX0_init_5 rfl (by decide) ?_
  refine goC_newa (kd := 0) (atype := .int) (ty := .int) (.inl (0, 40, [])) rfl rfl (by decide) ar0 (N := 40) rfl (he_int (by decide) rfl) (mz_mZ _) (by decide) (by decide) (by decide) (Nat.le_of_ble_eq_true rfl) (Nat.le_of_ble_eq_true rfl) 9 dX0_init_7 rfl ?_
  refine goC_nmN (fun n1 => ?_)
  refine goC_nmS (fun sk1 => ?_)
  refine goC_putFN flX0_9 rfl rfl rfl (fun _ => rfl) (fun _ => rfl) 12 dX0_init_9 rfl (fun sk2 => ?_)
  refine goC_aload_n 0 13 dX0_init_12 rfl rfl ?_
  refine goC_aload_n 1 14 dX0_init_13 rfl rfl ?_
  refine goC_putFN flX0_15 rfl rfl rfl (fun _ => rfl) (fun _ => rfl) 17 dX0_init_14 rfl (fun sk3 => ?_)
  exact goC_vretZ rfl dX0_init_17
theorem mC_X0_init {l : Launch} {G : mG} (o0 o1 : Nat) (sk : List mS) : MtC l G yX0_init muX0_init 1 1 40 [.ref (gB G + o0), .ref (gB G + o1)] sk mZ (zS (f_X0_init o0 o1 sk)) := MtC.of (by decide) rfl rfl (Nat.le_of_ble_eq_true rfl) (goC_map (sC_X0_init o0 o1 sk))
theorem dX9_init_0 : decode cX9_init 0 = .ok (.aload_n 0, 1) := by decide +kernel
theorem dX9_init_1 : decode cX9_init 1 = .ok (.invokespecial 3, 3) := by decide +kernel
theorem dX9_init_4 : decode cX9_init 4 = .ok (.aload_n 0, 1) := by decide +kernel
theorem dX9_init_5 : decode cX9_init 5 = .ok (.bipush 8, 2) := by decide +kernel
theorem dX9_init_7 : decode cX9_init 7 = .ok (.newarray .int, 2) := by decide +kernel
theorem dX9_init_9 : decode cX9_init 9 = .ok (.putfield 9, 3) := by decide +kernel
theorem dX9_init_12 : decode cX9_init 12 = .ok (.aload_n 0, 1) := by decide +kernel
theorem dX9_init_13 : decode cX9_init 13 = .ok (.bipush 8, 2) := by decide +kernel
theorem dX9_init_15 : decode cX9_init 15 = .ok (.newarray .int, 2) := by decide +kernel
theorem dX9_init_17 : decode cX9_init 17 = .ok (.putfield 15, 3) := by decide +kernel
theorem dX9_init_20 : decode cX9_init 20 = .ok (.aload_n 0, 1) := by decide +kernel
theorem dX9_init_21 : decode cX9_init 21 = .ok (.iconst 5, 1) := by decide +kernel
theorem dX9_init_22 : decode cX9_init 22 = .ok (.newarray .int, 2) := by decide +kernel
theorem dX9_init_24 : decode cX9_init 24 = .ok (.putfield 18, 3) := by decide +kernel
theorem dX9_init_27 : decode cX9_init 27 = .ok (.aload_n 0, 1) := by decide +kernel
theorem dX9_init_28 : decode cX9_init 28 = .ok (.aload_n 1, 1) := by decide +kernel
theorem dX9_init_29 : decode cX9_init 29 = .ok (.putfield 21, 3) := by decide +kernel
theorem dX9_init_32 : decode cX9_init 32 = .ok (.return_, 1) := by decide +kernel
def f_X9_init (o0 o1 : Nat) (sk : List mS) : Option (List mS) := lt sk.length fun n1 => lt (sk ++ [.inl (0, 8, [])]) fun sk1 => pRc sk1 o0 9 3 n1 fun sk2 => lt sk2.length fun n3 => lt (sk2 ++ [.inl (0, 8, [])]) fun sk3 => pRc sk3 o0 9 4 n3 fun sk4 => lt sk4.length fun n5 => lt (sk4 ++ [.inl (0, 5, [])]) fun sk5 => pRc sk5 o0 9 5 n5 fun sk6 => pRc sk6 o0 9 0 o1 fun sk7 => some sk7
set_option maxHeartbeats 4000000 in
set_option maxRecDepth 100000 in
theorem sC_X9_init {l : Launch} {G : mG} (o0 o1 : Nat) (sk : List mS) : GoC true muX9_init (rmC 1 3 21) 0 0 l G (nFinZ G 3 21) (f_X9_init o0 o1 sk) 0 [(0, .ref (gB G + o0)), (1, .ref (gB G + o1))] [] sk mZ := by
  unfold f_X9_init
  refine goC_aload_n 0 1 dX9_init_0 rfl rfl ?_
  refine goC_objInit oiX9_3 oi2 oi3 4 dX9_init_1 rfl (Nat.le_of_ble_eq_true rfl) (Nat.le_of_ble_eq_true rfl) ?_
  refine goC_aload_n 0 5 dX9_init_4 rfl rfl ?_
  refine goC_bipush 8 7 dX9_init_5 rfl (by decide) ?_
  refine goC_newa (kd := 0) (atype := .int) (ty := .int) (.inl (0, 8, [])) rfl rfl (by decide) ar0 (N := 8) rfl (he_int (by decide) rfl) (mz_mZ _) (by decide) (by decide) (by decide) (Nat.le_of_ble_eq_true rfl) (Nat.le_of_ble_eq_true rfl) 9 dX9_init_7 rfl ?_
  refine goC_nmN (fun n1 => ?_)
  refine goC_nmS (fun sk1 => ?_)
  refine goC_putFN flX9_9 rfl rfl rfl (fun _ => rfl) (fun _ => rfl) 12 dX9_init_9 rfl (fun sk2 => ?_)
  refine goC_aload_n 0 13 dX9_init_12 rfl rfl ?_
  refine goC_bipush 8 15 dX9_init_13 rfl (by decide) ?_
  refine goC_newa (kd := 0) (atype := .int) (ty := .int) (.inl (0, 8, [])) rfl rfl (by decide) ar0 (N := 8) rfl (he_int (by decide) rfl) (mz_mZ _) (by decide) (by decide) (by decide) (Nat.le_of_ble_eq_true rfl) (Nat.le_of_ble_eq_true rfl) 17 dX9_init_15 rfl ?_
  refine goC_nmN (fun n3 => ?_)
  refine goC_nmS (fun sk3 => ?_)
  refine goC_putFN flX9_15 rfl rfl rfl (fun _ => rfl) (fun _ => rfl) 20 dX9_init_17 rfl (fun sk4 => ?_)
  refine goC_aload_n 0 21 dX9_init_20 rfl rfl ?_
  refine goC_iconst 5 22 dX9_init_21 rfl (by decide) ?_
  refine goC_newa (kd := 0) (atype := .int) (ty := .int) (.inl (0, 5, [])) rfl rfl (by decide) ar0 (N := 5) rfl (he_int (by decide) rfl) (mz_mZ _) (by decide) (by decide) (by decide) (Nat.le_of_ble_eq_true rfl) (Nat.le_of_ble_eq_true rfl) 24 dX9_init_22 rfl ?_
  refine goC_nmN (fun n5 => ?_)
  refine goC_nmS (fun sk5 => ?_)
  refine goC_putFN flX9_18 rfl rfl rfl (fun _ => rfl) (fun _ => rfl) 27 dX9_init_24 rfl (fun sk6 => ?_)
  refine goC_aload_n 0 28 dX9_init_27 rfl rfl ?_
  refine goC_aload_n 1 29 dX9_init_28 rfl rfl ?_
  refine goC_putFN flX9_21 rfl rfl rfl (fun _ => rfl) (fun _ => rfl) 32 dX9_init_29 rfl (fun sk7 => ?_)
  exact goC_vretZ rfl dX9_init_32
theorem mC_X9_init {l : Launch} {G : mG} (o0 o1 : Nat) (sk : List mS) : MtC l G yX9_init muX9_init 1 3 21 [.ref (gB G + o0), .ref (gB G + o1)] sk mZ (zS (f_X9_init o0 o1 sk)) := MtC.of (by decide) rfl rfl (Nat.le_of_ble_eq_true rfl) (goC_map (sC_X9_init o0 o1 sk))
theorem dX1_init_0 : decode cX1_init 0 = .ok (.aload_n 0, 1) := by decide +kernel
theorem dX1_init_1 : decode cX1_init 1 = .ok (.invokespecial 3, 3) := by decide +kernel
theorem dX1_init_4 : decode cX1_init 4 = .ok (.aload_n 0, 1) := by decide +kernel
theorem dX1_init_5 : decode cX1_init 5 = .ok (.bipush 16, 2) := by decide +kernel
theorem dX1_init_7 : decode cX1_init 7 = .ok (.anewarray 9, 3) := by decide +kernel
theorem dX1_init_10 : decode cX1_init 10 = .ok (.putfield 11, 3) := by decide +kernel
theorem dX1_init_13 : decode cX1_init 13 = .ok (.iconst 0, 1) := by decide +kernel
theorem dX1_init_14 : decode cX1_init 14 = .ok (.istore_n 2, 1) := by decide +kernel
theorem dX1_init_15 : decode cX1_init 15 = .ok (.iload_n 2, 1) := by decide +kernel
theorem dX1_init_16 : decode cX1_init 16 = .ok (.bipush 16, 2) := by decide +kernel
theorem dX1_init_18 : decode cX1_init 18 = .ok (.if_icmp .ge 23, 3) := by decide +kernel
theorem dX1_init_21 : decode cX1_init 21 = .ok (.aload_n 0, 1) := by decide +kernel
theorem dX1_init_22 : decode cX1_init 22 = .ok (.getfield 11, 3) := by decide +kernel
theorem dX1_init_25 : decode cX1_init 25 = .ok (.iload_n 2, 1) := by decide +kernel
theorem dX1_init_26 : decode cX1_init 26 = .ok (.new 9, 3) := by decide +kernel
theorem dX1_init_29 : decode cX1_init 29 = .ok (.dup, 1) := by decide +kernel
theorem dX1_init_30 : decode cX1_init 30 = .ok (.aload_n 1, 1) := by decide +kernel
theorem dX1_init_31 : decode cX1_init 31 = .ok (.invokespecial 17, 3) := by decide +kernel
theorem dX1_init_34 : decode cX1_init 34 = .ok (.aastore, 1) := by decide +kernel
theorem dX1_init_35 : decode cX1_init 35 = .ok (.iinc 2 1, 3) := by decide +kernel
theorem dX1_init_38 : decode cX1_init 38 = .ok (.goto (-23), 3) := by decide +kernel
theorem dX1_init_41 : decode cX1_init 41 = .ok (.return_, 1) := by decide +kernel
def f_X1_init (o0 o1 : Nat) (sk : List mS) : Option (List mS) := lt sk.length fun n1 => lt (sk ++ [.inl (4, 16, List.replicate 16 none)]) fun sk1 => pRc sk1 o0 1 0 n1 fun sk2 => gRc sk2 o0 1 0 fun r3 => lt sk2.length fun n4 => lt (sk2 ++ [frS 9]) fun sk4 => bS (f_X9_init n4 o1 sk4) (sk4.length + 3) fun sk5 => aSc sk5 r3 4 9 n4 0 fun sk6 => gRc sk6 o0 1 0 fun r7 => lt sk6.length fun n8 => lt (sk6 ++ [frS 9]) fun sk8 => bS (f_X9_init n8 o1 sk8) (sk8.length + 3) fun sk9 => aSc sk9 r7 4 9 n8 1 fun sk10 => gRc sk10 o0 1 0 fun r11 => lt sk10.length fun n12 => lt (sk10 ++ [frS 9]) fun sk12 => bS (f_X9_init n12 o1 sk12) (sk12.length + 3) fun sk13 => aSc sk13 r11 4 9 n12 2 fun sk14 => gRc sk14 o0 1 0 fun r15 => lt sk14.length fun n16 => lt (sk14 ++ [frS 9]) fun sk16 => bS (f_X9_init n16 o1 sk16) (sk16.length + 3) fun sk17 => aSc sk17 r15 4 9 n16 3 fun sk18 => gRc sk18 o0 1 0 fun r19 => lt sk18.length fun n20 => lt (sk18 ++ [frS 9]) fun sk20 => bS (f_X9_init n20 o1 sk20) (sk20.length + 3) fun sk21 => aSc sk21 r19 4 9 n20 4 fun sk22 => gRc sk22 o0 1 0 fun r23 => lt sk22.length fun n24 => lt (sk22 ++ [frS 9]) fun sk24 => bS (f_X9_init n24 o1 sk24) (sk24.length + 3) fun sk25 => aSc sk25 r23 4 9 n24 5 fun sk26 => gRc sk26 o0 1 0 fun r27 => lt sk26.length fun n28 => lt (sk26 ++ [frS 9]) fun sk28 => bS (f_X9_init n28 o1 sk28) (sk28.length + 3) fun sk29 => aSc sk29 r27 4 9 n28 6 fun sk30 => gRc sk30 o0 1 0 fun r31 => lt sk30.length fun n32 => lt (sk30 ++ [frS 9]) fun sk32 => bS (f_X9_init n32 o1 sk32) (sk32.length + 3) fun sk33 => aSc sk33 r31 4 9 n32 7 fun sk34 => gRc sk34 o0 1 0 fun r35 => lt sk34.length fun n36 => lt (sk34 ++ [frS 9]) fun sk36 => bS (f_X9_init n36 o1 sk36) (sk36.length + 3) fun sk37 => aSc sk37 r35 4 9 n36 8 fun sk38 => gRc sk38 o0 1 0 fun r39 => lt sk38.length fun n40 => lt (sk38 ++ [frS 9]) fun sk40 => bS (f_X9_init n40 o1 sk40) (sk40.length + 3) fun sk41 => aSc sk41 r39 4 9 n40 9 fun sk42 => gRc sk42 o0 1 0 fun r43 => lt sk42.length fun n44 => lt (sk42 ++ [frS 9]) fun sk44 => bS (f_X9_init n44 o1 sk44) (sk44.length + 3) fun sk45 => aSc sk45 r43 4 9 n44 10 fun sk46 => gRc sk46 o0 1 0 fun r47 => lt sk46.length fun n48 => lt (sk46 ++ [frS 9]) fun sk48 => bS (f_X9_init n48 o1 sk48) (sk48.length + 3) fun sk49 => aSc sk49 r47 4 9 n48 11 fun sk50 => gRc sk50 o0 1 0 fun r51 => lt sk50.length fun n52 => lt (sk50 ++ [frS 9]) fun sk52 => bS (f_X9_init n52 o1 sk52) (sk52.length + 3) fun sk53 => aSc sk53 r51 4 9 n52 12 fun sk54 => gRc sk54 o0 1 0 fun r55 => lt sk54.length fun n56 => lt (sk54 ++ [frS 9]) fun sk56 => bS (f_X9_init n56 o1 sk56) (sk56.length + 3) fun sk57 => aSc sk57 r55 4 9 n56 13 fun sk58 => gRc sk58 o0 1 0 fun r59 => lt sk58.length fun n60 => lt (sk58 ++ [frS 9]) fun sk60 => bS (f_X9_init n60 o1 sk60) (sk60.length + 3) fun sk61 => aSc sk61 r59 4 9 n60 14 fun sk62 => gRc sk62 o0 1 0 fun r63 => lt sk62.length fun n64 => lt (sk62 ++ [frS 9]) fun sk64 => bS (f_X9_init n64 o1 sk64) (sk64.length + 3) fun sk65 => aSc sk65 r63 4 9 n64 15 fun sk66 => some sk66
set_option maxHeartbeats 4000000 in
set_option maxRecDepth 100000 in
theorem sC_X1_init {l : Launch} {G : mG} (o0 o1 : Nat) (sk : List mS) : GoC true muX1_init (rmC 2 65 448) 0 0 l G (nFinZ G 65 448) (f_X1_init o0 o1 sk) 0 [(0, .ref (gB G + o0)), (1, .ref (gB G + o1))] [] sk mZ := by
  unfold f_X1_init
  refine goC_aload_n 0 1 dX1_init_0 rfl rfl ?_
  refine goC_objInit oiX1_3 oi2 oi3 4 dX1_init_1 rfl (Nat.le_of_ble_eq_true rfl) (Nat.le_of_ble_eq_true rfl) ?_
  refine goC_aload_n 0 5 dX1_init_4 rfl rfl ?_
  refine goC_bipush 16 7 dX1_init_5 rfl (by decide) ?_
  refine goC_newq (kd := 4) (Cn := RX9) (fun _ h => h.1) rfl (by decide) clkX1_9 (N := 16) (by decide) (by decide) (by decide) (Nat.le_of_ble_eq_true rfl) (Nat.le_of_ble_eq_true rfl) 10 dX1_init_7 rfl ?_
  refine goC_nmN (fun n1 => ?_)
  refine goC_nmS (fun sk1 => ?_)
  refine goC_putFN flX1_11 rfl rfl rfl (fun _ => rfl) (fun _ => rfl) 13 dX1_init_10 rfl (fun sk2 => ?_)
  refine goC_iconst 0 14 dX1_init_13 rfl (by decide) ?_
  refine goC_istore_n [(2, .int 0), (0, .ref (gB G + o0)), (1, .ref (gB G + o1))] 15 dX1_init_14 rfl rfl (by decide) rfl ?_
  refine goC_iload_n 0 16 dX1_init_15 rfl rfl ?_
  refine goC_bipush 16 18 dX1_init_16 rfl (by decide) ?_
  refine goC_geF 41 21 dX1_init_18 (by decide) rfl (by decide) ?_
  refine goC_aload_n 1 22 dX1_init_21 rfl rfl ?_
  refine goC_getR flX1_11 25 dX1_init_22 rfl (fun r3 => ?_)
  refine goC_iload_n 0 26 dX1_init_25 rfl rfl ?_
  refine goC_new clX9 dfX9 rfl clkX1_9 insX9 iniX9 (mz_mZ _) (Nat.le_of_ble_eq_true rfl) (Nat.le_of_ble_eq_true rfl) 29 dX1_init_26 rfl ?_
  refine goC_nmN (fun n4 => ?_)
  refine goC_nmS (fun sk4 => ?_)
  refine goC_dup 30 dX1_init_29 rfl rfl ?_
  refine goC_aload_n 2 31 dX1_init_30 rfl rfl ?_
  refine goC_callZ 1 (As := [.ref (gB G + o1)]) (rest := [.ref (gB G + n4), .int 0, .ref (gB G + r3)]) (o := n4) ciX1_17 (mC_X9_init n4 o1 sk4) rfl 34 dX1_init_31 rfl ⟨Nat.le_of_ble_eq_true rfl, Nat.le_of_ble_eq_true rfl⟩ ⟨Nat.le_of_ble_eq_true rfl, Nat.le_of_ble_eq_true rfl⟩ (Nat.le_of_ble_eq_true rfl) (fun sk5 => ?_)
  refine goC_aast clX9 rfl (by decide) (by decide) (j := 0) (by decide) 35 dX1_init_34 rfl (fun sk6 => ?_)
  refine goC_iinc 1 0 [(2, .int 1), (0, .ref (gB G + o0)), (1, .ref (gB G + o1))] 38 dX1_init_35 rfl rfl (by decide) (by decide) rfl ?_
  refine goC_goto 15 dX1_init_38 (by decide) ?_
  refine goC_iload_n 0 16 dX1_init_15 rfl rfl ?_
  refine goC_bipush 16 18 dX1_init_16 rfl (by decide) ?_
  refine goC_geF 41 21 dX1_init_18 (by decide) rfl (by decide) ?_
  refine goC_aload_n 1 22 dX1_init_21 rfl rfl ?_
  refine goC_getR flX1_11 25 dX1_init_22 rfl (fun r7 => ?_)
  refine goC_iload_n 0 26 dX1_init_25 rfl rfl ?_
  refine goC_new clX9 dfX9 rfl clkX1_9 insX9 iniX9 (mz_mZ _) (Nat.le_of_ble_eq_true rfl) (Nat.le_of_ble_eq_true rfl) 29 dX1_init_26 rfl ?_
  refine goC_nmN (fun n8 => ?_)
  refine goC_nmS (fun sk8 => ?_)
  refine goC_dup 30 dX1_init_29 rfl rfl ?_
  refine goC_aload_n 2 31 dX1_init_30 rfl rfl ?_
  refine goC_callZ 1 (As := [.ref (gB G + o1)]) (rest := [.ref (gB G + n8), .int 1, .ref (gB G + r7)]) (o := n8) ciX1_17 (mC_X9_init n8 o1 sk8) rfl 34 dX1_init_31 rfl ⟨Nat.le_of_ble_eq_true rfl, Nat.le_of_ble_eq_true rfl⟩ ⟨Nat.le_of_ble_eq_true rfl, Nat.le_of_ble_eq_true rfl⟩ (Nat.le_of_ble_eq_true rfl) (fun sk9 => ?_)
  refine goC_aast clX9 rfl (by decide) (by decide) (j := 1) (by decide) 35 dX1_init_34 rfl (fun sk10 => ?_)
  refine goC_iinc 2 0 [(2, .int 2), (0, .ref (gB G + o0)), (1, .ref (gB G + o1))] 38 dX1_init_35 rfl rfl (by decide) (by decide) rfl ?_
  refine goC_goto 15 dX1_init_38 (by decide) ?_
  refine goC_iload_n 0 16 dX1_init_15 rfl rfl ?_
  refine goC_bipush 16 18 dX1_init_16 rfl (by decide) ?_
  refine goC_geF 41 21 dX1_init_18 (by decide) rfl (by decide) ?_
  refine goC_aload_n 1 22 dX1_init_21 rfl rfl ?_
  refine goC_getR flX1_11 25 dX1_init_22 rfl (fun r11 => ?_)
  refine goC_iload_n 0 26 dX1_init_25 rfl rfl ?_
  refine goC_new clX9 dfX9 rfl clkX1_9 insX9 iniX9 (mz_mZ _) (Nat.le_of_ble_eq_true rfl) (Nat.le_of_ble_eq_true rfl) 29 dX1_init_26 rfl ?_
  refine goC_nmN (fun n12 => ?_)
  refine goC_nmS (fun sk12 => ?_)
  refine goC_dup 30 dX1_init_29 rfl rfl ?_
  refine goC_aload_n 2 31 dX1_init_30 rfl rfl ?_
  refine goC_callZ 1 (As := [.ref (gB G + o1)]) (rest := [.ref (gB G + n12), .int 2, .ref (gB G + r11)]) (o := n12) ciX1_17 (mC_X9_init n12 o1 sk12) rfl 34 dX1_init_31 rfl ⟨Nat.le_of_ble_eq_true rfl, Nat.le_of_ble_eq_true rfl⟩ ⟨Nat.le_of_ble_eq_true rfl, Nat.le_of_ble_eq_true rfl⟩ (Nat.le_of_ble_eq_true rfl) (fun sk13 => ?_)
  refine goC_aast clX9 rfl (by decide) (by decide) (j := 2) (by decide) 35 dX1_init_34 rfl (fun sk14 => ?_)
  refine goC_iinc 3 0 [(2, .int 3), (0, .ref (gB G + o0)), (1, .ref (gB G + o1))] 38 dX1_init_35 rfl rfl (by decide) (by decide) rfl ?_
  refine goC_goto 15 dX1_init_38 (by decide) ?_
  refine goC_iload_n 0 16 dX1_init_15 rfl rfl ?_
  refine goC_bipush 16 18 dX1_init_16 rfl (by decide) ?_
  refine goC_geF 41 21 dX1_init_18 (by decide) rfl (by decide) ?_
  refine goC_aload_n 1 22 dX1_init_21 rfl rfl ?_
  refine goC_getR flX1_11 25 dX1_init_22 rfl (fun r15 => ?_)
  refine goC_iload_n 0 26 dX1_init_25 rfl rfl ?_
  refine goC_new clX9 dfX9 rfl clkX1_9 insX9 iniX9 (mz_mZ _) (Nat.le_of_ble_eq_true rfl) (Nat.le_of_ble_eq_true rfl) 29 dX1_init_26 rfl ?_
  refine goC_nmN (fun n16 => ?_)
  refine goC_nmS (fun sk16 => ?_)
  refine goC_dup 30 dX1_init_29 rfl rfl ?_
  refine goC_aload_n 2 31 dX1_init_30 rfl rfl ?_
  refine goC_callZ 1 (As := [.ref (gB G + o1)]) (rest := [.ref (gB G + n16), .int 3, .ref (gB G + r15)]) (o := n16) ciX1_17 (mC_X9_init n16 o1 sk16) rfl 34 dX1_init_31 rfl ⟨Nat.le_of_ble_eq_true rfl, Nat.le_of_ble_eq_true rfl⟩ ⟨Nat.le_of_ble_eq_true rfl, Nat.le_of_ble_eq_true rfl⟩ (Nat.le_of_ble_eq_true rfl) (fun sk17 => ?_)
  refine goC_aast clX9 rfl (by decide) (by decide) (j := 3) (by decide) 35 dX1_init_34 rfl (fun sk18 => ?_)
  refine goC_iinc 4 0 [(2, .int 4), (0, .ref (gB G + o0)), (1, .ref (gB G + o1))] 38 dX1_init_35 rfl rfl (by decide) (by decide) rfl ?_
  refine goC_goto 15 dX1_init_38 (by decide) ?_
  refine goC_iload_n 0 16 dX1_init_15 rfl rfl ?_
  refine goC_bipush 16 18 dX1_init_16 rfl (by decide) ?_
  refine goC_geF 41 21 dX1_init_18 (by decide) rfl (by decide) ?_
  refine goC_aload_n 1 22 dX1_init_21 rfl rfl ?_
  refine goC_getR flX1_11 25 dX1_init_22 rfl (fun r19 => ?_)
  refine goC_iload_n 0 26 dX1_init_25 rfl rfl ?_
  refine goC_new clX9 dfX9 rfl clkX1_9 insX9 iniX9 (mz_mZ _) (Nat.le_of_ble_eq_true rfl) (Nat.le_of_ble_eq_true rfl) 29 dX1_init_26 rfl ?_
  refine goC_nmN (fun n20 => ?_)
  refine goC_nmS (fun sk20 => ?_)
  refine goC_dup 30 dX1_init_29 rfl rfl ?_
  refine goC_aload_n 2 31 dX1_init_30 rfl rfl ?_
  refine goC_callZ 1 (As := [.ref (gB G + o1)]) (rest := [.ref (gB G + n20), .int 4, .ref (gB G + r19)]) (o := n20) ciX1_17 (mC_X9_init n20 o1 sk20) rfl 34 dX1_init_31 rfl ⟨Nat.le_of_ble_eq_true rfl, Nat.le_of_ble_eq_true rfl⟩ ⟨Nat.le_of_ble_eq_true rfl, Nat.le_of_ble_eq_true rfl⟩ (Nat.le_of_ble_eq_true rfl) (fun sk21 => ?_)
  refine goC_aast clX9 rfl (by decide) (by decide) (j := 4) (by decide) 35 dX1_init_34 rfl (fun sk22 => ?_)
  refine goC_iinc 5 0 [(2, .int 5), (0, .ref (gB G + o0)), (1, .ref (gB G + o1))] 38 dX1_init_35 rfl rfl (by decide) (by decide) rfl ?_
  refine goC_goto 15 dX1_init_38 (by decide) ?_
  refine goC_iload_n 0 16 dX1_init_15 rfl rfl ?_
  refine goC_bipush 16 18 dX1_init_16 rfl (by decide) ?_
  refine goC_geF 41 21 dX1_init_18 (by decide) rfl (by decide) ?_
  refine goC_aload_n 1 22 dX1_init_21 rfl rfl ?_
  refine goC_getR flX1_11 25 dX1_init_22 rfl (fun r23 => ?_)
  refine goC_iload_n 0 26 dX1_init_25 rfl rfl ?_
  refine goC_new clX9 dfX9 rfl clkX1_9 insX9 iniX9 (mz_mZ _) (Nat.le_of_ble_eq_true rfl) (Nat.le_of_ble_eq_true rfl) 29 dX1_init_26 rfl ?_
  refine goC_nmN (fun n24 => ?_)
  refine goC_nmS (fun sk24 => ?_)
  refine goC_dup 30 dX1_init_29 rfl rfl ?_
  refine goC_aload_n 2 31 dX1_init_30 rfl rfl ?_
  refine goC_callZ 1 (As := [.ref (gB G + o1)]) (rest := [.ref (gB G + n24), .int 5, .ref (gB G + r23)]) (o := n24) ciX1_17 (mC_X9_init n24 o1 sk24) rfl 34 dX1_init_31 rfl ⟨Nat.le_of_ble_eq_true rfl, Nat.le_of_ble_eq_true rfl⟩ ⟨Nat.le_of_ble_eq_true rfl, Nat.le_of_ble_eq_true rfl⟩ (Nat.le_of_ble_eq_true rfl) (fun sk25 => ?_)
  refine goC_aast clX9 rfl (by decide) (by decide) (j := 5) (by decide) 35 dX1_init_34 rfl (fun sk26 => ?_)
  refine goC_iinc 6 0 [(2, .int 6), (0, .ref (gB G + o0)), (1, .ref (gB G + o1))] 38 dX1_init_35 rfl rfl (by decide) (by decide) rfl ?_
  refine goC_goto 15 dX1_init_38 (by decide) ?_
  refine goC_iload_n 0 16 dX1_init_15 rfl rfl ?_
  refine goC_bipush 16 18 dX1_init_16 rfl (by decide) ?_
  refine goC_geF 41 21 dX1_init_18 (by decide) rfl (by decide) ?_
  refine goC_aload_n 1 22 dX1_init_21 rfl rfl ?_
  refine goC_getR flX1_11 25 dX1_init_22 rfl (fun r27 => ?_)
  refine goC_iload_n 0 26 dX1_init_25 rfl rfl ?_
  refine goC_new clX9 dfX9 rfl clkX1_9 insX9 iniX9 (mz_mZ _) (Nat.le_of_ble_eq_true rfl) (Nat.le_of_ble_eq_true rfl) 29 dX1_init_26 rfl ?_
  refine goC_nmN (fun n28 => ?_)
  refine goC_nmS (fun sk28 => ?_)
  refine goC_dup 30 dX1_init_29 rfl rfl ?_
  refine goC_aload_n 2 31 dX1_init_30 rfl rfl ?_
  refine goC_callZ 1 (As := [.ref (gB G + o1)]) (rest := [.ref (gB G + n28), .int 6, .ref (gB G + r27)]) (o := n28) ciX1_17 (mC_X9_init n28 o1 sk28) rfl 34 dX1_init_31 rfl ⟨Nat.le_of_ble_eq_true rfl, Nat.le_of_ble_eq_true rfl⟩ ⟨Nat.le_of_ble_eq_true rfl, Nat.le_of_ble_eq_true rfl⟩ (Nat.le_of_ble_eq_true rfl) (fun sk29 => ?_)
  refine goC_aast clX9 rfl (by decide) (by decide) (j := 6) (by decide) 35 dX1_init_34 rfl (fun sk30 => ?_)
  refine goC_iinc 7 0 [(2, .int 7), (0, .ref (gB G + o0)), (1, .ref (gB G + o1))] 38 dX1_init_35 rfl rfl (by decide) (by decide) rfl ?_
  refine goC_goto 15 dX1_init_38 (by decide) ?_
  refine goC_iload_n 0 16 dX1_init_15 rfl rfl ?_
  refine goC_bipush 16 18 dX1_init_16 rfl (by decide) ?_
  refine goC_geF 41 21 dX1_init_18 (by decide) rfl (by decide) ?_
  refine goC_aload_n 1 22 dX1_init_21 rfl rfl ?_
  refine goC_getR flX1_11 25 dX1_init_22 rfl (fun r31 => ?_)
  refine goC_iload_n 0 26 dX1_init_25 rfl rfl ?_
  refine goC_new clX9 dfX9 rfl clkX1_9 insX9 iniX9 (mz_mZ _) (Nat.le_of_ble_eq_true rfl) (Nat.le_of_ble_eq_true rfl) 29 dX1_init_26 rfl ?_
  refine goC_nmN (fun n32 => ?_)
  refine goC_nmS (fun sk32 => ?_)
  refine goC_dup 30 dX1_init_29 rfl rfl ?_
  refine goC_aload_n 2 31 dX1_init_30 rfl rfl ?_
  refine goC_callZ 1 (As := [.ref (gB G + o1)]) (rest := [.ref (gB G + n32), .int 7, .ref (gB G + r31)]) (o := n32) ciX1_17 (mC_X9_init n32 o1 sk32) rfl 34 dX1_init_31 rfl ⟨Nat.le_of_ble_eq_true rfl, Nat.le_of_ble_eq_true rfl⟩ ⟨Nat.le_of_ble_eq_true rfl, Nat.le_of_ble_eq_true rfl⟩ (Nat.le_of_ble_eq_true rfl) (fun sk33 => ?_)
  refine goC_aast clX9 rfl (by decide) (by decide) (j := 7) (by decide) 35 dX1_init_34 rfl (fun sk34 => ?_)
  refine goC_iinc 8 0 [(2, .int 8), (0, .ref (gB G + o0)), (1, .ref (gB G + o1))] 38 dX1_init_35 rfl rfl (by decide) (by decide) rfl ?_
  refine goC_goto 15 dX1_init_38 (by decide) ?_
  refine goC_iload_n 0 16 dX1_init_15 rfl rfl ?_
  refine goC_bipush 16 18 dX1_init_16 rfl (by decide) ?_
  refine goC_geF 41 21 dX1_init_18 (by decide) rfl (by decide) ?_
  refine goC_aload_n 1 22 dX1_init_21 rfl rfl ?_
  refine goC_getR flX1_11 25 dX1_init_22 rfl (fun r35 => ?_)
  refine goC_iload_n 0 26 dX1_init_25 rfl rfl ?_
  refine goC_new clX9 dfX9 rfl clkX1_9 insX9 iniX9 (mz_mZ _) (Nat.le_of_ble_eq_true rfl) (Nat.le_of_ble_eq_true rfl) 29 dX1_init_26 rfl ?_
  refine goC_nmN (fun n36 => ?_)
  refine goC_nmS (fun sk36 => ?_)
  refine goC_dup 30 dX1_init_29 rfl rfl ?_
  refine goC_aload_n 2 31 dX1_init_30 rfl rfl ?_
  refine goC_callZ 1 (As := [.ref (gB G + o1)]) (rest := [.ref (gB G + n36), .int 8, .ref (gB G + r35)]) (o := n36) ciX1_17 (mC_X9_init n36 o1 sk36) rfl 34 dX1_init_31 rfl ⟨Nat.le_of_ble_eq_true rfl, Nat.le_of_ble_eq_true rfl⟩ ⟨Nat.le_of_ble_eq_true rfl, Nat.le_of_ble_eq_true rfl⟩ (Nat.le_of_ble_eq_true rfl) (fun sk37 => ?_)
  refine goC_aast clX9 rfl (by decide) (by decide) (j := 8) (by decide) 35 dX1_init_34 rfl (fun sk38 => ?_)
  refine goC_iinc 9 0 [(2, .int 9), (0, .ref (gB G + o0)), (1, .ref (gB G + o1))] 38 dX1_init_35 rfl rfl (by decide) (by decide) rfl ?_
  refine goC_goto 15 dX1_init_38 (by decide) ?_
  refine goC_iload_n 0 16 dX1_init_15 rfl rfl ?_
  refine goC_bipush 16 18 dX1_init_16 rfl (by decide) ?_
  refine goC_geF 41 21 dX1_init_18 (by decide) rfl (by decide) ?_
  refine goC_aload_n 1 22 dX1_init_21 rfl rfl ?_
  refine goC_getR flX1_11 25 dX1_init_22 rfl (fun r39 => ?_)
  refine goC_iload_n 0 26 dX1_init_25 rfl rfl ?_
  refine goC_new clX9 dfX9 rfl clkX1_9 insX9 iniX9 (mz_mZ _) (Nat.le_of_ble_eq_true rfl) (Nat.le_of_ble_eq_true rfl) 29 dX1_init_26 rfl ?_
  refine goC_nmN (fun n40 => ?_)
  refine goC_nmS (fun sk40 => ?_)
  refine goC_dup 30 dX1_init_29 rfl rfl ?_
  refine goC_aload_n 2 31 dX1_init_30 rfl rfl ?_
  refine goC_callZ 1 (As := [.ref (gB G + o1)]) (rest := [.ref (gB G + n40), .int 9, .ref (gB G + r39)]) (o := n40) ciX1_17 (mC_X9_init n40 o1 sk40) rfl 34 dX1_init_31 rfl ⟨Nat.le_of_ble_eq_true rfl, Nat.le_of_ble_eq_true rfl⟩ ⟨Nat.le_of_ble_eq_true rfl, Nat.le_of_ble_eq_true rfl⟩ (Nat.le_of_ble_eq_true rfl) (fun sk41 => ?_)
  refine goC_aast clX9 rfl (by decide) (by decide) (j := 9) (by decide) 35 dX1_init_34 rfl (fun sk42 => ?_)
  refine goC_iinc 10 0 [(2, .int 10), (0, .ref (gB G + o0)), (1, .ref (gB G + o1))] 38 dX1_init_35 rfl rfl (by decide) (by decide) rfl ?_
  refine goC_goto 15 dX1_init_38 (by decide) ?_
  refine goC_iload_n 0 16 dX1_init_15 rfl rfl ?_
  refine goC_bipush 16 18 dX1_init_16 rfl (by decide) ?_
  refine goC_geF 41 21 dX1_init_18 (by decide) rfl (by decide) ?_
  refine goC_aload_n 1 22 dX1_init_21 rfl rfl ?_
  refine goC_getR flX1_11 25 dX1_init_22 rfl (fun r43 => ?_)
  refine goC_iload_n 0 26 dX1_init_25 rfl rfl ?_
  refine goC_new clX9 dfX9 rfl clkX1_9 insX9 iniX9 (mz_mZ _) (Nat.le_of_ble_eq_true rfl) (Nat.le_of_ble_eq_true rfl) 29 dX1_init_26 rfl ?_
  refine goC_nmN (fun n44 => ?_)
  refine goC_nmS (fun sk44 => ?_)
  refine goC_dup 30 dX1_init_29 rfl rfl ?_
  refine goC_aload_n 2 31 dX1_init_30 rfl rfl ?_
  refine goC_callZ 1 (As := [.ref (gB G + o1)]) (rest := [.ref (gB G + n44), .int 10, .ref (gB G + r43)]) (o := n44) ciX1_17 (mC_X9_init n44 o1 sk44) rfl 34 dX1_init_31 rfl ⟨Nat.le_of_ble_eq_true rfl, Nat.le_of_ble_eq_true rfl⟩ ⟨Nat.le_of_ble_eq_true rfl, Nat.le_of_ble_eq_true rfl⟩ (Nat.le_of_ble_eq_true rfl) (fun sk45 => ?_)
  refine goC_aast clX9 rfl (by decide) (by decide) (j := 10) (by decide) 35 dX1_init_34 rfl (fun sk46 => ?_)
  refine goC_iinc 11 0 [(2, .int 11), (0, .ref (gB G + o0)), (1, .ref (gB G + o1))] 38 dX1_init_35 rfl rfl (by decide) (by decide) rfl ?_
  refine goC_goto 15 dX1_init_38 (by decide) ?_
  refine goC_iload_n 0 16 dX1_init_15 rfl rfl ?_
  refine goC_bipush 16 18 dX1_init_16 rfl (by decide) ?_
  refine goC_geF 41 21 dX1_init_18 (by decide) rfl (by decide) ?_
  refine goC_aload_n 1 22 dX1_init_21 rfl rfl ?_
  refine goC_getR flX1_11 25 dX1_init_22 rfl (fun r47 => ?_)
  refine goC_iload_n 0 26 dX1_init_25 rfl rfl ?_
  refine goC_new clX9 dfX9 rfl clkX1_9 insX9 iniX9 (mz_mZ _) (Nat.le_of_ble_eq_true rfl) (Nat.le_of_ble_eq_true rfl) 29 dX1_init_26 rfl ?_
  refine goC_nmN (fun n48 => ?_)
  refine goC_nmS (fun sk48 => ?_)
  refine goC_dup 30 dX1_init_29 rfl rfl ?_
  refine goC_aload_n 2 31 dX1_init_30 rfl rfl ?_
  refine goC_callZ 1 (As := [.ref (gB G + o1)]) (rest := [.ref (gB G + n48), .int 11, .ref (gB G + r47)]) (o := n48) ciX1_17 (mC_X9_init n48 o1 sk48) rfl 34 dX1_init_31 rfl ⟨Nat.le_of_ble_eq_true rfl, Nat.le_of_ble_eq_true rfl⟩ ⟨Nat.le_of_ble_eq_true rfl, Nat.le_of_ble_eq_true rfl⟩ (Nat.le_of_ble_eq_true rfl) (fun sk49 => ?_)
  refine goC_aast clX9 rfl (by decide) (by decide) (j := 11) (by decide) 35 dX1_init_34 rfl (fun sk50 => ?_)
  refine goC_iinc 12 0 [(2, .int 12), (0, .ref (gB G + o0)), (1, .ref (gB G + o1))] 38 dX1_init_35 rfl rfl (by decide) (by decide) rfl ?_
  refine goC_goto 15 dX1_init_38 (by decide) ?_
  refine goC_iload_n 0 16 dX1_init_15 rfl rfl ?_
  refine goC_bipush 16 18 dX1_init_16 rfl (by decide) ?_
  refine goC_geF 41 21 dX1_init_18 (by decide) rfl (by decide) ?_
  refine goC_aload_n 1 22 dX1_init_21 rfl rfl ?_
  refine goC_getR flX1_11 25 dX1_init_22 rfl (fun r51 => ?_)
  refine goC_iload_n 0 26 dX1_init_25 rfl rfl ?_
  refine goC_new clX9 dfX9 rfl clkX1_9 insX9 iniX9 (mz_mZ _) (Nat.le_of_ble_eq_true rfl) (Nat.le_of_ble_eq_true rfl) 29 dX1_init_26 rfl ?_
  refine goC_nmN (fun n52 => ?_)
  refine goC_nmS (fun sk52 => ?_)
  refine goC_dup 30 dX1_init_29 rfl rfl ?_
  refine goC_aload_n 2 31 dX1_init_30 rfl rfl ?_
  refine goC_callZ 1 (As := [.ref (gB G + o1)]) (rest := [.ref (gB G + n52), .int 12, .ref (gB G + r51)]) (o := n52) ciX1_17 (mC_X9_init n52 o1 sk52) rfl 34 dX1_init_31 rfl ⟨Nat.le_of_ble_eq_true rfl, Nat.le_of_ble_eq_true rfl⟩ ⟨Nat.le_of_ble_eq_true rfl, Nat.le_of_ble_eq_true rfl⟩ (Nat.le_of_ble_eq_true rfl) (fun sk53 => ?_)
  refine goC_aast clX9 rfl (by decide) (by decide) (j := 12) (by decide) 35 dX1_init_34 rfl (fun sk54 => ?_)
  refine goC_iinc 13 0 [(2, .int 13), (0, .ref (gB G + o0)), (1, .ref (gB G + o1))] 38 dX1_init_35 rfl rfl (by decide) (by decide) rfl ?_
  refine goC_goto 15 dX1_init_38 (by decide) ?_
  refine goC_iload_n 0 16 dX1_init_15 rfl rfl ?_
  refine goC_bipush 16 18 dX1_init_16 rfl (by decide) ?_
  refine goC_geF 41 21 dX1_init_18 (by decide) rfl (by decide) ?_
  refine goC_aload_n 1 22 dX1_init_21 rfl rfl ?_
  refine goC_getR flX1_11 25 dX1_init_22 rfl (fun r55 => ?_)
  refine goC_iload_n 0 26 dX1_init_25 rfl rfl ?_
  refine goC_new clX9 dfX9 rfl clkX1_9 insX9 iniX9 (mz_mZ _) (Nat.le_of_ble_eq_true rfl) (Nat.le_of_ble_eq_true rfl) 29 dX1_init_26 rfl ?_
  refine goC_nmN (fun n56 => ?_)
  refine goC_nmS (fun sk56 => ?_)
  refine goC_dup 30 dX1_init_29 rfl rfl ?_
  refine goC_aload_n 2 31 dX1_init_30 rfl rfl ?_
  refine goC_callZ 1 (As := [.ref (gB G + o1)]) (rest := [.ref (gB G + n56), .int 13, .ref (gB G + r55)]) (o := n56) ciX1_17 (mC_X9_init n56 o1 sk56) rfl 34 dX1_init_31 rfl ⟨Nat.le_of_ble_eq_true rfl, Nat.le_of_ble_eq_true rfl⟩ ⟨Nat.le_of_ble_eq_true rfl, Nat.le_of_ble_eq_true rfl⟩ (Nat.le_of_ble_eq_true rfl) (fun sk57 => ?_)
  refine goC_aast clX9 rfl (by decide) (by decide) (j := 13) (by decide) 35 dX1_init_34 rfl (fun sk58 => ?_)
  refine goC_iinc 14 0 [(2, .int 14), (0, .ref (gB G + o0)), (1, .ref (gB G + o1))] 38 dX1_init_35 rfl rfl (by decide) (by decide) rfl ?_
  refine goC_goto 15 dX1_init_38 (by decide) ?_
  refine goC_iload_n 0 16 dX1_init_15 rfl rfl ?_
  refine goC_bipush 16 18 dX1_init_16 rfl (by decide) ?_
  refine goC_geF 41 21 dX1_init_18 (by decide) rfl (by decide) ?_
  refine goC_aload_n 1 22 dX1_init_21 rfl rfl ?_
  refine goC_getR flX1_11 25 dX1_init_22 rfl (fun r59 => ?_)
  refine goC_iload_n 0 26 dX1_init_25 rfl rfl ?_
  refine goC_new clX9 dfX9 rfl clkX1_9 insX9 iniX9 (mz_mZ _) (Nat.le_of_ble_eq_true rfl) (Nat.le_of_ble_eq_true rfl) 29 dX1_init_26 rfl ?_
  refine goC_nmN (fun n60 => ?_)
  refine goC_nmS (fun sk60 => ?_)
  refine goC_dup 30 dX1_init_29 rfl rfl ?_
  refine goC_aload_n 2 31 dX1_init_30 rfl rfl ?_
  refine goC_callZ 1 (As := [.ref (gB G + o1)]) (rest := [.ref (gB G + n60), .int 14, .ref (gB G + r59)]) (o := n60) ciX1_17 (mC_X9_init n60 o1 sk60) rfl 34 dX1_init_31 rfl ⟨Nat.le_of_ble_eq_true rfl, Nat.le_of_ble_eq_true rfl⟩ ⟨Nat.le_of_ble_eq_true rfl, Nat.le_of_ble_eq_true rfl⟩ (Nat.le_of_ble_eq_true rfl) (fun sk61 => ?_)
  refine goC_aast clX9 rfl (by decide) (by decide) (j := 14) (by decide) 35 dX1_init_34 rfl (fun sk62 => ?_)
  refine goC_iinc 15 0 [(2, .int 15), (0, .ref (gB G + o0)), (1, .ref (gB G + o1))] 38 dX1_init_35 rfl rfl (by decide) (by decide) rfl ?_
  refine goC_goto 15 dX1_init_38 (by decide) ?_
  refine goC_iload_n 0 16 dX1_init_15 rfl rfl ?_
  refine goC_bipush 16 18 dX1_init_16 rfl (by decide) ?_
  refine goC_geF 41 21 dX1_init_18 (by decide) rfl (by decide) ?_
  refine goC_aload_n 1 22 dX1_init_21 rfl rfl ?_
  refine goC_getR flX1_11 25 dX1_init_22 rfl (fun r63 => ?_)
  refine goC_iload_n 0 26 dX1_init_25 rfl rfl ?_
  refine goC_new clX9 dfX9 rfl clkX1_9 insX9 iniX9 (mz_mZ _) (Nat.le_of_ble_eq_true rfl) (Nat.le_of_ble_eq_true rfl) 29 dX1_init_26 rfl ?_
  refine goC_nmN (fun n64 => ?_)
  refine goC_nmS (fun sk64 => ?_)
  refine goC_dup 30 dX1_init_29 rfl rfl ?_
  refine goC_aload_n 2 31 dX1_init_30 rfl rfl ?_
  refine goC_callZ 1 (As := [.ref (gB G + o1)]) (rest := [.ref (gB G + n64), .int 15, .ref (gB G + r63)]) (o := n64) ciX1_17 (mC_X9_init n64 o1 sk64) rfl 34 dX1_init_31 rfl ⟨Nat.le_of_ble_eq_true rfl, Nat.le_of_ble_eq_true rfl⟩ ⟨Nat.le_of_ble_eq_true rfl, Nat.le_of_ble_eq_true rfl⟩ (Nat.le_of_ble_eq_true rfl) (fun sk65 => ?_)
  refine goC_aast clX9 rfl (by decide) (by decide) (j := 15) (by decide) 35 dX1_init_34 rfl (fun sk66 => ?_)
  refine goC_iinc 16 0 [(2, .int 16), (0, .ref (gB G + o0)), (1, .ref (gB G + o1))] 38 dX1_init_35 rfl rfl (by decide) (by decide) rfl ?_
  refine goC_goto 15 dX1_init_38 (by decide) ?_
  refine goC_iload_n 0 16 dX1_init_15 rfl rfl ?_
  refine goC_bipush 16 18 dX1_init_16 rfl (by decide) ?_
  refine goC_geT 41 dX1_init_18 (by decide) (by decide) ?_
  exact goC_vretZ rfl dX1_init_41
theorem mC_X1_init {l : Launch} {G : mG} (o0 o1 : Nat) (sk : List mS) : MtC l G yX1_init muX1_init 2 65 448 [.ref (gB G + o0), .ref (gB G + o1)] sk mZ (zS (f_X1_init o0 o1 sk)) := MtC.of (by decide) rfl rfl (Nat.le_of_ble_eq_true rfl) (goC_map (sC_X1_init o0 o1 sk))
theorem dX8_init_0 : decode cX8_init 0 = .ok (.aload_n 0, 1) := by decide +kernel
theorem dX8_init_1 : decode cX8_init 1 = .ok (.invokespecial 3, 3) := by decide +kernel
theorem dX8_init_4 : decode cX8_init 4 = .ok (.aload_n 0, 1) := by decide +kernel
theorem dX8_init_5 : decode cX8_init 5 = .ok (.bipush 8, 2) := by decide +kernel
theorem dX8_init_7 : decode cX8_init 7 = .ok (.newarray .int, 2) := by decide +kernel
theorem dX8_init_9 : decode cX8_init 9 = .ok (.putfield 9, 3) := by decide +kernel
theorem dX8_init_12 : decode cX8_init 12 = .ok (.aload_n 0, 1) := by decide +kernel
theorem dX8_init_13 : decode cX8_init 13 = .ok (.bipush 8, 2) := by decide +kernel
theorem dX8_init_15 : decode cX8_init 15 = .ok (.newarray .int, 2) := by decide +kernel
theorem dX8_init_17 : decode cX8_init 17 = .ok (.putfield 15, 3) := by decide +kernel
theorem dX8_init_20 : decode cX8_init 20 = .ok (.aload_n 0, 1) := by decide +kernel
theorem dX8_init_21 : decode cX8_init 21 = .ok (.bipush 8, 2) := by decide +kernel
theorem dX8_init_23 : decode cX8_init 23 = .ok (.newarray .boolean, 2) := by decide +kernel
theorem dX8_init_25 : decode cX8_init 25 = .ok (.putfield 18, 3) := by decide +kernel
theorem dX8_init_28 : decode cX8_init 28 = .ok (.aload_n 0, 1) := by decide +kernel
theorem dX8_init_29 : decode cX8_init 29 = .ok (.bipush 8, 2) := by decide +kernel
theorem dX8_init_31 : decode cX8_init 31 = .ok (.newarray .int, 2) := by decide +kernel
theorem dX8_init_33 : decode cX8_init 33 = .ok (.putfield 22, 3) := by decide +kernel
theorem dX8_init_36 : decode cX8_init 36 = .ok (.aload_n 0, 1) := by decide +kernel
theorem dX8_init_37 : decode cX8_init 37 = .ok (.bipush 8, 2) := by decide +kernel
theorem dX8_init_39 : decode cX8_init 39 = .ok (.newarray .int, 2) := by decide +kernel
theorem dX8_init_41 : decode cX8_init 41 = .ok (.putfield 25, 3) := by decide +kernel
theorem dX8_init_44 : decode cX8_init 44 = .ok (.return_, 1) := by decide +kernel
def f_X8_init (o0 : Nat) (sk : List mS) : Option (List mS) := lt sk.length fun n1 => lt (sk ++ [.inl (0, 8, [])]) fun sk1 => pRc sk1 o0 8 2 n1 fun sk2 => lt sk2.length fun n3 => lt (sk2 ++ [.inl (0, 8, [])]) fun sk3 => pRc sk3 o0 8 3 n3 fun sk4 => lt sk4.length fun n5 => lt (sk4 ++ [.inl (2, 8, [])]) fun sk5 => pRc sk5 o0 8 4 n5 fun sk6 => lt sk6.length fun n7 => lt (sk6 ++ [.inl (0, 8, [])]) fun sk7 => pRc sk7 o0 8 5 n7 fun sk8 => lt sk8.length fun n9 => lt (sk8 ++ [.inl (0, 8, [])]) fun sk9 => pRc sk9 o0 8 6 n9 fun sk10 => some sk10
set_option maxHeartbeats 4000000 in
set_option maxRecDepth 100000 in
theorem sC_X8_init {l : Launch} {G : mG} (o0 : Nat) (sk : List mS) : GoC true muX8_init (rmC 1 5 40) 0 0 l G (nFinZ G 5 40) (f_X8_init o0 sk) 0 [(0, .ref (gB G + o0))] [] sk mZ := by
  unfold f_X8_init
  refine goC_aload_n 0 1 dX8_init_0 rfl rfl ?_
  refine goC_objInit oiX8_3 oi2 oi3 4 dX8_init_1 rfl (Nat.le_of_ble_eq_true rfl) (Nat.le_of_ble_eq_true rfl) ?_
  refine goC_aload_n 0 5 dX8_init_4 rfl rfl ?_
  refine goC_bipush 8 7 dX8_init_5 rfl (by decide) ?_
  refine goC_newa (kd := 0) (atype := .int) (ty := .int) (.inl (0, 8, [])) rfl rfl (by decide) ar0 (N := 8) rfl (he_int (by decide) rfl) (mz_mZ _) (by decide) (by decide) (by decide) (Nat.le_of_ble_eq_true rfl) (Nat.le_of_ble_eq_true rfl) 9 dX8_init_7 rfl ?_
  refine goC_nmN (fun n1 => ?_)
  refine goC_nmS (fun sk1 => ?_)
  refine goC_putFN flX8_9 rfl rfl rfl (fun _ => rfl) (fun _ => rfl) 12 dX8_init_9 rfl (fun sk2 => ?_)
  refine goC_aload_n 0 13 dX8_init_12 rfl rfl ?_
  refine goC_bipush 8 15 dX8_init_13 rfl (by decide) ?_
  refine goC_newa (kd := 0) (atype := .int) (ty := .int) (.inl (0, 8, [])) rfl rfl (by decide) ar0 (N := 8) rfl (he_int (by decide) rfl) (mz_mZ _) (by decide) (by decide) (by decide) (Nat.le_of_ble_eq_true rfl) (Nat.le_of_ble_eq_true rfl) 17 dX8_init_15 rfl ?_
  refine goC_nmN (fun n3 => ?_)
  refine goC_nmS (fun sk3 => ?_)
  refine goC_putFN flX8_15 rfl rfl rfl (fun _ => rfl) (fun _ => rfl) 20 dX8_init_17 rfl (fun sk4 => ?_)
  refine goC_aload_n 0 21 dX8_init_20 rfl rfl ?_
  refine goC_bipush 8 23 dX8_init_21 rfl (by decide) ?_
  refine goC_newa (kd := 2) (atype := .boolean) (ty := .boolean) (.inl (2, 8, [])) rfl rfl (by decide) ar2 (N := 8) rfl (he_int (by decide) rfl) (mz_mZ _) (by decide) (by decide) (by decide) (Nat.le_of_ble_eq_true rfl) (Nat.le_of_ble_eq_true rfl) 25 dX8_init_23 rfl ?_
  refine goC_nmN (fun n5 => ?_)
  refine goC_nmS (fun sk5 => ?_)
  refine goC_putFN flX8_18 rfl rfl rfl (fun _ => rfl) (fun _ => rfl) 28 dX8_init_25 rfl (fun sk6 => ?_)
  refine goC_aload_n 0 29 dX8_init_28 rfl rfl ?_
  refine goC_bipush 8 31 dX8_init_29 rfl (by decide) ?_
  refine goC_newa (kd := 0) (atype := .int) (ty := .int) (.inl (0, 8, [])) rfl rfl (by decide) ar0 (N := 8) rfl (he_int (by decide) rfl) (mz_mZ _) (by decide) (by decide) (by decide) (Nat.le_of_ble_eq_true rfl) (Nat.le_of_ble_eq_true rfl) 33 dX8_init_31 rfl ?_
  refine goC_nmN (fun n7 => ?_)
  refine goC_nmS (fun sk7 => ?_)
  refine goC_putFN flX8_22 rfl rfl rfl (fun _ => rfl) (fun _ => rfl) 36 dX8_init_33 rfl (fun sk8 => ?_)
  refine goC_aload_n 0 37 dX8_init_36 rfl rfl ?_
  refine goC_bipush 8 39 dX8_init_37 rfl (by decide) ?_
  refine goC_newa (kd := 0) (atype := .int) (ty := .int) (.inl (0, 8, [])) rfl rfl (by decide) ar0 (N := 8) rfl (he_int (by decide) rfl) (mz_mZ _) (by decide) (by decide) (by decide) (Nat.le_of_ble_eq_true rfl) (Nat.le_of_ble_eq_true rfl) 41 dX8_init_39 rfl ?_
  refine goC_nmN (fun n9 => ?_)
  refine goC_nmS (fun sk9 => ?_)
  refine goC_putFN flX8_25 rfl rfl rfl (fun _ => rfl) (fun _ => rfl) 44 dX8_init_41 rfl (fun sk10 => ?_)
  exact goC_vretZ rfl dX8_init_44
theorem mC_X8_init {l : Launch} {G : mG} (o0 : Nat) (sk : List mS) : MtC l G yX8_init muX8_init 1 5 40 [.ref (gB G + o0)] sk mZ (zS (f_X8_init o0 sk)) := MtC.of (by decide) rfl rfl (Nat.le_of_ble_eq_true rfl) (goC_map (sC_X8_init o0 sk))
theorem dX4_init_0 : decode cX4_init 0 = .ok (.aload_n 0, 1) := by decide +kernel
theorem dX4_init_1 : decode cX4_init 1 = .ok (.invokespecial 1, 3) := by decide +kernel
theorem dX4_init_4 : decode cX4_init 4 = .ok (.aload_n 0, 1) := by decide +kernel
theorem dX4_init_5 : decode cX4_init 5 = .ok (.new 7, 3) := by decide +kernel
theorem dX4_init_8 : decode cX4_init 8 = .ok (.dup, 1) := by decide +kernel
theorem dX4_init_9 : decode cX4_init 9 = .ok (.invokespecial 9, 3) := by decide +kernel
theorem dX4_init_12 : decode cX4_init 12 = .ok (.putfield 10, 3) := by decide +kernel
theorem dX4_init_15 : decode cX4_init 15 = .ok (.aload_n 0, 1) := by decide +kernel
theorem dX4_init_16 : decode cX4_init 16 = .ok (.new 16, 3) := by decide +kernel
theorem dX4_init_19 : decode cX4_init 19 = .ok (.dup, 1) := by decide +kernel
theorem dX4_init_20 : decode cX4_init 20 = .ok (.aload_n 1, 1) := by decide +kernel
theorem dX4_init_21 : decode cX4_init 21 = .ok (.invokespecial 18, 3) := by decide +kernel
theorem dX4_init_24 : decode cX4_init 24 = .ok (.putfield 21, 3) := by decide +kernel
theorem dX4_init_27 : decode cX4_init 27 = .ok (.return_, 1) := by decide +kernel
def f_X4_init (o0 o1 : Nat) (sk : List mS) : Option (List mS) := lt sk.length fun n1 => lt (sk ++ [frS 8]) fun sk1 => bS (f_X8_init n1 sk1) (sk1.length + 5) fun sk2 => pRc sk2 o0 4 1 n1 fun sk3 => lt sk3.length fun n4 => lt (sk3 ++ [frS 9]) fun sk4 => bS (f_X9_init n4 o1 sk4) (sk4.length + 3) fun sk5 => pRc sk5 o0 4 0 n4 fun sk6 => some sk6
set_option maxHeartbeats 4000000 in
set_option maxRecDepth 100000 in
theorem sC_X4_init {l : Launch} {G : mG} (o0 o1 : Nat) (sk : List mS) : GoC true muX4_init (rmC 2 10 74) 0 0 l G (nFinZ G 10 74) (f_X4_init o0 o1 sk) 0 [(0, .ref (gB G + o0)), (1, .ref (gB G + o1))] [] sk mZ := by
  unfold f_X4_init
  refine goC_aload_n 0 1 dX4_init_0 rfl rfl ?_
  refine goC_objInit oiX4_1 oi2 oi3 4 dX4_init_1 rfl (Nat.le_of_ble_eq_true rfl) (Nat.le_of_ble_eq_true rfl) ?_
  refine goC_aload_n 0 5 dX4_init_4 rfl rfl ?_
  refine goC_new clX8 dfX8 rfl clkX4_7 insX8 iniX8 (mz_mZ _) (Nat.le_of_ble_eq_true rfl) (Nat.le_of_ble_eq_true rfl) 8 dX4_init_5 rfl ?_
  refine goC_nmN (fun n1 => ?_)
  refine goC_nmS (fun sk1 => ?_)
  refine goC_dup 9 dX4_init_8 rfl rfl ?_
  refine goC_callZ 1 (As := []) (rest := [.ref (gB G + n1), .ref (gB G + o0)]) (o := n1) ciX4_9 (mC_X8_init n1 sk1) rfl 12 dX4_init_9 rfl ⟨Nat.le_of_ble_eq_true rfl, Nat.le_of_ble_eq_true rfl⟩ ⟨Nat.le_of_ble_eq_true rfl, Nat.le_of_ble_eq_true rfl⟩ (Nat.le_of_ble_eq_true rfl) (fun sk2 => ?_)
  refine goC_putFN flX4_10 rfl rfl rfl (fun _ => rfl) (fun _ => rfl) 15 dX4_init_12 rfl (fun sk3 => ?_)
  refine goC_aload_n 0 16 dX4_init_15 rfl rfl ?_
  refine goC_new clX9 dfX9 rfl clkX4_16 insX9 iniX9 (mz_mZ _) (Nat.le_of_ble_eq_true rfl) (Nat.le_of_ble_eq_true rfl) 19 dX4_init_16 rfl ?_
  refine goC_nmN (fun n4 => ?_)
  refine goC_nmS (fun sk4 => ?_)
  refine goC_dup 20 dX4_init_19 rfl rfl ?_
  refine goC_aload_n 1 21 dX4_init_20 rfl rfl ?_
  refine goC_callZ 1 (As := [.ref (gB G + o1)]) (rest := [.ref (gB G + n4), .ref (gB G + o0)]) (o := n4) ciX4_18 (mC_X9_init n4 o1 sk4) rfl 24 dX4_init_21 rfl ⟨Nat.le_of_ble_eq_true rfl, Nat.le_of_ble_eq_true rfl⟩ ⟨Nat.le_of_ble_eq_true rfl, Nat.le_of_ble_eq_true rfl⟩ (Nat.le_of_ble_eq_true rfl) (fun sk5 => ?_)
  refine goC_putFN flX4_21 rfl rfl rfl (fun _ => rfl) (fun _ => rfl) 27 dX4_init_24 rfl (fun sk6 => ?_)
  exact goC_vretZ rfl dX4_init_27
theorem mC_X4_init {l : Launch} {G : mG} (o0 o1 : Nat) (sk : List mS) : MtC l G yX4_init muX4_init 2 10 74 [.ref (gB G + o0), .ref (gB G + o1)] sk mZ (zS (f_X4_init o0 o1 sk)) := MtC.of (by decide) rfl rfl (Nat.le_of_ble_eq_true rfl) (goC_map (sC_X4_init o0 o1 sk))
theorem dX5_init_0 : decode cX5_init 0 = .ok (.aload_n 0, 1) := by decide +kernel
theorem dX5_init_1 : decode cX5_init 1 = .ok (.invokespecial 3, 3) := by decide +kernel
theorem dX5_init_4 : decode cX5_init 4 = .ok (.aload_n 0, 1) := by decide +kernel
theorem dX5_init_5 : decode cX5_init 5 = .ok (.bipush 61, 2) := by decide +kernel
theorem dX5_init_7 : decode cX5_init 7 = .ok (.newarray .int, 2) := by decide +kernel
theorem dX5_init_9 : decode cX5_init 9 = .ok (.putfield 9, 3) := by decide +kernel
theorem dX5_init_12 : decode cX5_init 12 = .ok (.aload_n 0, 1) := by decide +kernel
theorem dX5_init_13 : decode cX5_init 13 = .ok (.bipush 8, 2) := by decide +kernel
theorem dX5_init_15 : decode cX5_init 15 = .ok (.newarray .int, 2) := by decide +kernel
theorem dX5_init_17 : decode cX5_init 17 = .ok (.putfield 15, 3) := by decide +kernel
theorem dX5_init_20 : decode cX5_init 20 = .ok (.aload_n 0, 1) := by decide +kernel
theorem dX5_init_21 : decode cX5_init 21 = .ok (.bipush 80, 2) := by decide +kernel
theorem dX5_init_23 : decode cX5_init 23 = .ok (.newarray .int, 2) := by decide +kernel
theorem dX5_init_25 : decode cX5_init 25 = .ok (.putfield 18, 3) := by decide +kernel
theorem dX5_init_28 : decode cX5_init 28 = .ok (.aload_n 0, 1) := by decide +kernel
theorem dX5_init_29 : decode cX5_init 29 = .ok (.aload_n 1, 1) := by decide +kernel
theorem dX5_init_30 : decode cX5_init 30 = .ok (.putfield 21, 3) := by decide +kernel
theorem dX5_init_33 : decode cX5_init 33 = .ok (.aload_n 0, 1) := by decide +kernel
theorem dX5_init_34 : decode cX5_init 34 = .ok (.aload_n 1, 1) := by decide +kernel
theorem dX5_init_35 : decode cX5_init 35 = .ok (.getfield 25, 3) := by decide +kernel
theorem dX5_init_38 : decode cX5_init 38 = .ok (.putfield 31, 3) := by decide +kernel
theorem dX5_init_41 : decode cX5_init 41 = .ok (.return_, 1) := by decide +kernel
def f_X5_init (o0 o1 : Nat) (sk : List mS) : Option (List mS) := lt sk.length fun n1 => lt (sk ++ [.inl (0, 61, [])]) fun sk1 => pRc sk1 o0 5 2 n1 fun sk2 => lt sk2.length fun n3 => lt (sk2 ++ [.inl (0, 8, [])]) fun sk3 => pRc sk3 o0 5 3 n3 fun sk4 => lt sk4.length fun n5 => lt (sk4 ++ [.inl (0, 80, [])]) fun sk5 => pRc sk5 o0 5 4 n5 fun sk6 => pRc sk6 o0 5 0 o1 fun sk7 => gRc sk7 o1 9 0 fun r8 => pRc sk7 o0 5 1 r8 fun sk9 => some sk9
set_option maxHeartbeats 4000000 in
set_option maxRecDepth 100000 in
theorem sC_X5_init {l : Launch} {G : mG} (o0 o1 : Nat) (sk : List mS) : GoC true muX5_init (rmC 1 3 149) 0 0 l G (nFinZ G 3 149) (f_X5_init o0 o1 sk) 0 [(0, .ref (gB G + o0)), (1, .ref (gB G + o1))] [] sk mZ := by
  unfold f_X5_init
  refine goC_aload_n 0 1 dX5_init_0 rfl rfl ?_
  refine goC_objInit oiX5_3 oi2 oi3 4 dX5_init_1 rfl (Nat.le_of_ble_eq_true rfl) (Nat.le_of_ble_eq_true rfl) ?_
  refine goC_aload_n 0 5 dX5_init_4 rfl rfl ?_
  refine goC_bipush 61 7 dX5_init_5 rfl (by decide) ?_
  refine goC_newa (kd := 0) (atype := .int) (ty := .int) (.inl (0, 61, [])) rfl rfl (by decide) ar0 (N := 61) rfl (he_int (by decide) rfl) (mz_mZ _) (by decide) (by decide) (by decide) (Nat.le_of_ble_eq_true rfl) (Nat.le_of_ble_eq_true rfl) 9 dX5_init_7 rfl ?_
  refine goC_nmN (fun n1 => ?_)
  refine goC_nmS (fun sk1 => ?_)
  refine goC_putFN flX5_9 rfl rfl rfl (fun _ => rfl) (fun _ => rfl) 12 dX5_init_9 rfl (fun sk2 => ?_)
  refine goC_aload_n 0 13 dX5_init_12 rfl rfl ?_
  refine goC_bipush 8 15 dX5_init_13 rfl (by decide) ?_
  refine goC_newa (kd := 0) (atype := .int) (ty := .int) (.inl (0, 8, [])) rfl rfl (by decide) ar0 (N := 8) rfl (he_int (by decide) rfl) (mz_mZ _) (by decide) (by decide) (by decide) (Nat.le_of_ble_eq_true rfl) (Nat.le_of_ble_eq_true rfl) 17 dX5_init_15 rfl ?_
  refine goC_nmN (fun n3 => ?_)
  refine goC_nmS (fun sk3 => ?_)
  refine goC_putFN flX5_15 rfl rfl rfl (fun _ => rfl) (fun _ => rfl) 20 dX5_init_17 rfl (fun sk4 => ?_)
  refine goC_aload_n 0 21 dX5_init_20 rfl rfl ?_
  refine goC_bipush 80 23 dX5_init_21 rfl (by decide) ?_
  refine goC_newa (kd := 0) (atype := .int) (ty := .int) (.inl (0, 80, [])) rfl rfl (by decide) ar0 (N := 80) rfl (he_int (by decide) rfl) (mz_mZ _) (by decide) (by decide) (by decide) (Nat.le_of_ble_eq_true rfl) (Nat.le_of_ble_eq_true rfl) 25 dX5_init_23 rfl ?_
  refine goC_nmN (fun n5 => ?_)
  refine goC_nmS (fun sk5 => ?_)
  refine goC_putFN flX5_18 rfl rfl rfl (fun _ => rfl) (fun _ => rfl) 28 dX5_init_25 rfl (fun sk6 => ?_)
  refine goC_aload_n 0 29 dX5_init_28 rfl rfl ?_
  refine goC_aload_n 1 30 dX5_init_29 rfl rfl ?_
  refine goC_putFN flX5_21 rfl rfl rfl (fun _ => rfl) (fun _ => rfl) 33 dX5_init_30 rfl (fun sk7 => ?_)
  refine goC_aload_n 0 34 dX5_init_33 rfl rfl ?_
  refine goC_aload_n 1 35 dX5_init_34 rfl rfl ?_
  refine goC_getR flX5_25 38 dX5_init_35 rfl (fun r8 => ?_)
  refine goC_putFN flX5_31 rfl rfl rfl (fun _ => rfl) (fun _ => rfl) 41 dX5_init_38 rfl (fun sk9 => ?_)
  exact goC_vretZ rfl dX5_init_41
theorem mC_X5_init {l : Launch} {G : mG} (o0 o1 : Nat) (sk : List mS) : MtC l G yX5_init muX5_init 1 3 149 [.ref (gB G + o0), .ref (gB G + o1)] sk mZ (zS (f_X5_init o0 o1 sk)) := MtC.of (by decide) rfl rfl (Nat.le_of_ble_eq_true rfl) (goC_map (sC_X5_init o0 o1 sk))
theorem dX7_init_0 : decode cX7_init 0 = .ok (.aload_n 0, 1) := by decide +kernel
theorem dX7_init_1 : decode cX7_init 1 = .ok (.invokespecial 3, 3) := by decide +kernel
theorem dX7_init_4 : decode cX7_init 4 = .ok (.aload_n 0, 1) := by decide +kernel
theorem dX7_init_5 : decode cX7_init 5 = .ok (.iconst 3, 1) := by decide +kernel
theorem dX7_init_6 : decode cX7_init 6 = .ok (.newarray .int, 2) := by decide +kernel
theorem dX7_init_8 : decode cX7_init 8 = .ok (.putfield 9, 3) := by decide +kernel
theorem dX7_init_11 : decode cX7_init 11 = .ok (.aload_n 0, 1) := by decide +kernel
theorem dX7_init_12 : decode cX7_init 12 = .ok (.iconst 4, 1) := by decide +kernel
theorem dX7_init_13 : decode cX7_init 13 = .ok (.newarray .int, 2) := by decide +kernel
theorem dX7_init_15 : decode cX7_init 15 = .ok (.putfield 15, 3) := by decide +kernel
theorem dX7_init_18 : decode cX7_init 18 = .ok (.aload_n 0, 1) := by decide +kernel
theorem dX7_init_19 : decode cX7_init 19 = .ok (.aload_n 1, 1) := by decide +kernel
theorem dX7_init_20 : decode cX7_init 20 = .ok (.putfield 18, 3) := by decide +kernel
theorem dX7_init_23 : decode cX7_init 23 = .ok (.aload_n 0, 1) := by decide +kernel
theorem dX7_init_24 : decode cX7_init 24 = .ok (.aload_n 1, 1) := by decide +kernel
theorem dX7_init_25 : decode cX7_init 25 = .ok (.getfield 22, 3) := by decide +kernel
theorem dX7_init_28 : decode cX7_init 28 = .ok (.putfield 28, 3) := by decide +kernel
theorem dX7_init_31 : decode cX7_init 31 = .ok (.aload_n 0, 1) := by decide +kernel
theorem dX7_init_32 : decode cX7_init 32 = .ok (.aload_n 2, 1) := by decide +kernel
theorem dX7_init_33 : decode cX7_init 33 = .ok (.putfield 29, 3) := by decide +kernel
theorem dX7_init_36 : decode cX7_init 36 = .ok (.return_, 1) := by decide +kernel
def f_X7_init (o0 o1 o2 : Nat) (sk : List mS) : Option (List mS) := lt sk.length fun n1 => lt (sk ++ [.inl (0, 3, [])]) fun sk1 => pRc sk1 o0 7 3 n1 fun sk2 => lt sk2.length fun n3 => lt (sk2 ++ [.inl (0, 4, [])]) fun sk3 => pRc sk3 o0 7 4 n3 fun sk4 => pRc sk4 o0 7 0 o1 fun sk5 => gRc sk5 o1 9 0 fun r6 => pRc sk5 o0 7 1 r6 fun sk7 => pRc sk7 o0 7 2 o2 fun sk8 => some sk8
set_option maxHeartbeats 4000000 in
set_option maxRecDepth 100000 in
theorem sC_X7_init {l : Launch} {G : mG} (o0 o1 o2 : Nat) (sk : List mS) : GoC true muX7_init (rmC 1 2 7) 0 0 l G (nFinZ G 2 7) (f_X7_init o0 o1 o2 sk) 0 [(0, .ref (gB G + o0)), (1, .ref (gB G + o1)), (2, .ref (gB G + o2))] [] sk mZ := by
  unfold f_X7_init
  refine goC_aload_n 0 1 dX7_init_0 rfl rfl ?_
  refine goC_objInit oiX7_3 oi2 oi3 4 dX7_init_1 rfl (Nat.le_of_ble_eq_true rfl) (Nat.le_of_ble_eq_true rfl) ?_
  refine goC_aload_n 0 5 dX7_init_4 rfl rfl ?_
  refine goC_iconst 3 6 dX7_init_5 rfl (by decide) ?_
  refine goC_newa (kd := 0) (atype := .int) (ty := .int) (.inl (0, 3, [])) rfl rfl (by decide) ar0 (N := 3) rfl (he_int (by decide) rfl) (mz_mZ _) (by decide) (by decide) (by decide) (Nat.le_of_ble_eq_true rfl) (Nat.le_of_ble_eq_true rfl) 8 dX7_init_6 rfl ?_
  refine goC_nmN (fun n1 => ?_)
  refine goC_nmS (fun sk1 => ?_)
  refine goC_putFN flX7_9 rfl rfl rfl (fun _ => rfl) (fun _ => rfl) 11 dX7_init_8 rfl (fun sk2 => ?_)
  refine goC_aload_n 0 12 dX7_init_11 rfl rfl ?_
  refine goC_iconst 4 13 dX7_init_12 rfl (by decide) ?_
  refine goC_newa (kd := 0) (atype := .int) (ty := .int) (.inl (0, 4, [])) rfl rfl (by decide) ar0 (N := 4) rfl (he_int (by decide) rfl) (mz_mZ _) (by decide) (by decide) (by decide) (Nat.le_of_ble_eq_true rfl) (Nat.le_of_ble_eq_true rfl) 15 dX7_init_13 rfl ?_
  refine goC_nmN (fun n3 => ?_)
  refine goC_nmS (fun sk3 => ?_)
  refine goC_putFN flX7_15 rfl rfl rfl (fun _ => rfl) (fun _ => rfl) 18 dX7_init_15 rfl (fun sk4 => ?_)
  refine goC_aload_n 0 19 dX7_init_18 rfl rfl ?_
  refine goC_aload_n 1 20 dX7_init_19 rfl rfl ?_
  refine goC_putFN flX7_18 rfl rfl rfl (fun _ => rfl) (fun _ => rfl) 23 dX7_init_20 rfl (fun sk5 => ?_)
  refine goC_aload_n 0 24 dX7_init_23 rfl rfl ?_
  refine goC_aload_n 1 25 dX7_init_24 rfl rfl ?_
  refine goC_getR flX7_22 28 dX7_init_25 rfl (fun r6 => ?_)
  refine goC_putFN flX7_28 rfl rfl rfl (fun _ => rfl) (fun _ => rfl) 31 dX7_init_28 rfl (fun sk7 => ?_)
  refine goC_aload_n 0 32 dX7_init_31 rfl rfl ?_
  refine goC_aload_n 2 33 dX7_init_32 rfl rfl ?_
  refine goC_putFN flX7_29 rfl rfl rfl (fun _ => rfl) (fun _ => rfl) 36 dX7_init_33 rfl (fun sk8 => ?_)
  exact goC_vretZ rfl dX7_init_36
theorem mC_X7_init {l : Launch} {G : mG} (o0 o1 o2 : Nat) (sk : List mS) : MtC l G yX7_init muX7_init 1 2 7 [.ref (gB G + o0), .ref (gB G + o1), .ref (gB G + o2)] sk mZ (zS (f_X7_init o0 o1 o2 sk)) := MtC.of (by decide) rfl rfl (Nat.le_of_ble_eq_true rfl) (goC_map (sC_X7_init o0 o1 o2 sk))
theorem dX11_init_0 : decode cX11_init 0 = .ok (.aload_n 0, 1) := by decide +kernel
theorem dX11_init_1 : decode cX11_init 1 = .ok (.invokespecial 1, 3) := by decide +kernel
theorem dX11_init_4 : decode cX11_init 4 = .ok (.aload_n 0, 1) := by decide +kernel
theorem dX11_init_5 : decode cX11_init 5 = .ok (.new 7, 3) := by decide +kernel
theorem dX11_init_8 : decode cX11_init 8 = .ok (.dup, 1) := by decide +kernel
theorem dX11_init_9 : decode cX11_init 9 = .ok (.invokespecial 9, 3) := by decide +kernel
theorem dX11_init_12 : decode cX11_init 12 = .ok (.putfield 10, 3) := by decide +kernel
theorem dX11_init_15 : decode cX11_init 15 = .ok (.aload_n 0, 1) := by decide +kernel
theorem dX11_init_16 : decode cX11_init 16 = .ok (.new 7, 3) := by decide +kernel
theorem dX11_init_19 : decode cX11_init 19 = .ok (.dup, 1) := by decide +kernel
theorem dX11_init_20 : decode cX11_init 20 = .ok (.invokespecial 9, 3) := by decide +kernel
theorem dX11_init_23 : decode cX11_init 23 = .ok (.putfield 16, 3) := by decide +kernel
theorem dX11_init_26 : decode cX11_init 26 = .ok (.aload_n 0, 1) := by decide +kernel
theorem dX11_init_27 : decode cX11_init 27 = .ok (.new 19, 3) := by decide +kernel
theorem dX11_init_30 : decode cX11_init 30 = .ok (.dup, 1) := by decide +kernel
theorem dX11_init_31 : decode cX11_init 31 = .ok (.invokespecial 21, 3) := by decide +kernel
theorem dX11_init_34 : decode cX11_init 34 = .ok (.putfield 22, 3) := by decide +kernel
theorem dX11_init_37 : decode cX11_init 37 = .ok (.aload_n 0, 1) := by decide +kernel
theorem dX11_init_38 : decode cX11_init 38 = .ok (.new 26, 3) := by decide +kernel
theorem dX11_init_41 : decode cX11_init 41 = .ok (.dup, 1) := by decide +kernel
theorem dX11_init_42 : decode cX11_init 42 = .ok (.aload_n 0, 1) := by decide +kernel
theorem dX11_init_43 : decode cX11_init 43 = .ok (.getfield 22, 3) := by decide +kernel
theorem dX11_init_46 : decode cX11_init 46 = .ok (.invokespecial 28, 3) := by decide +kernel
theorem dX11_init_49 : decode cX11_init 49 = .ok (.putfield 31, 3) := by decide +kernel
theorem dX11_init_52 : decode cX11_init 52 = .ok (.aload_n 0, 1) := by decide +kernel
theorem dX11_init_53 : decode cX11_init 53 = .ok (.new 35, 3) := by decide +kernel
theorem dX11_init_56 : decode cX11_init 56 = .ok (.dup, 1) := by decide +kernel
theorem dX11_init_57 : decode cX11_init 57 = .ok (.aload_n 0, 1) := by decide +kernel
theorem dX11_init_58 : decode cX11_init 58 = .ok (.getfield 22, 3) := by decide +kernel
theorem dX11_init_61 : decode cX11_init 61 = .ok (.invokespecial 37, 3) := by decide +kernel
theorem dX11_init_64 : decode cX11_init 64 = .ok (.putfield 38, 3) := by decide +kernel
theorem dX11_init_67 : decode cX11_init 67 = .ok (.aload_n 0, 1) := by decide +kernel
theorem dX11_init_68 : decode cX11_init 68 = .ok (.bipush 40, 2) := by decide +kernel
theorem dX11_init_70 : decode cX11_init 70 = .ok (.newarray .int, 2) := by decide +kernel
theorem dX11_init_72 : decode cX11_init 72 = .ok (.putfield 42, 3) := by decide +kernel
theorem dX11_init_75 : decode cX11_init 75 = .ok (.aload_n 0, 1) := by decide +kernel
theorem dX11_init_76 : decode cX11_init 76 = .ok (.new 46, 3) := by decide +kernel
theorem dX11_init_79 : decode cX11_init 79 = .ok (.dup, 1) := by decide +kernel
theorem dX11_init_80 : decode cX11_init 80 = .ok (.aload_n 0, 1) := by decide +kernel
theorem dX11_init_81 : decode cX11_init 81 = .ok (.getfield 10, 3) := by decide +kernel
theorem dX11_init_84 : decode cX11_init 84 = .ok (.invokespecial 48, 3) := by decide +kernel
theorem dX11_init_87 : decode cX11_init 87 = .ok (.putfield 51, 3) := by decide +kernel
theorem dX11_init_90 : decode cX11_init 90 = .ok (.aload_n 0, 1) := by decide +kernel
theorem dX11_init_91 : decode cX11_init 91 = .ok (.new 46, 3) := by decide +kernel
theorem dX11_init_94 : decode cX11_init 94 = .ok (.dup, 1) := by decide +kernel
theorem dX11_init_95 : decode cX11_init 95 = .ok (.aload_n 0, 1) := by decide +kernel
theorem dX11_init_96 : decode cX11_init 96 = .ok (.getfield 10, 3) := by decide +kernel
theorem dX11_init_99 : decode cX11_init 99 = .ok (.invokespecial 48, 3) := by decide +kernel
theorem dX11_init_102 : decode cX11_init 102 = .ok (.putfield 55, 3) := by decide +kernel
theorem dX11_init_105 : decode cX11_init 105 = .ok (.aload_n 0, 1) := by decide +kernel
theorem dX11_init_106 : decode cX11_init 106 = .ok (.new 58, 3) := by decide +kernel
theorem dX11_init_109 : decode cX11_init 109 = .ok (.dup, 1) := by decide +kernel
theorem dX11_init_110 : decode cX11_init 110 = .ok (.aload_n 0, 1) := by decide +kernel
theorem dX11_init_111 : decode cX11_init 111 = .ok (.getfield 10, 3) := by decide +kernel
theorem dX11_init_114 : decode cX11_init 114 = .ok (.invokespecial 60, 3) := by decide +kernel
theorem dX11_init_117 : decode cX11_init 117 = .ok (.putfield 61, 3) := by decide +kernel
theorem dX11_init_120 : decode cX11_init 120 = .ok (.aload_n 0, 1) := by decide +kernel
theorem dX11_init_121 : decode cX11_init 121 = .ok (.new 65, 3) := by decide +kernel
theorem dX11_init_124 : decode cX11_init 124 = .ok (.dup, 1) := by decide +kernel
theorem dX11_init_125 : decode cX11_init 125 = .ok (.invokespecial 67, 3) := by decide +kernel
theorem dX11_init_128 : decode cX11_init 128 = .ok (.putfield 68, 3) := by decide +kernel
theorem dX11_init_131 : decode cX11_init 131 = .ok (.aload_n 0, 1) := by decide +kernel
theorem dX11_init_132 : decode cX11_init 132 = .ok (.iconst 4, 1) := by decide +kernel
theorem dX11_init_133 : decode cX11_init 133 = .ok (.anewarray 72, 3) := by decide +kernel
theorem dX11_init_136 : decode cX11_init 136 = .ok (.putfield 74, 3) := by decide +kernel
theorem dX11_init_139 : decode cX11_init 139 = .ok (.iconst 0, 1) := by decide +kernel
theorem dX11_init_140 : decode cX11_init 140 = .ok (.istore_n 1, 1) := by decide +kernel
theorem dX11_init_141 : decode cX11_init 141 = .ok (.iload_n 1, 1) := by decide +kernel
theorem dX11_init_142 : decode cX11_init 142 = .ok (.iconst 4, 1) := by decide +kernel
theorem dX11_init_143 : decode cX11_init 143 = .ok (.if_icmp .ge 26, 3) := by decide +kernel
theorem dX11_init_146 : decode cX11_init 146 = .ok (.aload_n 0, 1) := by decide +kernel
theorem dX11_init_147 : decode cX11_init 147 = .ok (.getfield 74, 3) := by decide +kernel
theorem dX11_init_150 : decode cX11_init 150 = .ok (.iload_n 1, 1) := by decide +kernel
theorem dX11_init_151 : decode cX11_init 151 = .ok (.new 72, 3) := by decide +kernel
theorem dX11_init_154 : decode cX11_init 154 = .ok (.dup, 1) := by decide +kernel
theorem dX11_init_155 : decode cX11_init 155 = .ok (.aload_n 0, 1) := by decide +kernel
theorem dX11_init_156 : decode cX11_init 156 = .ok (.getfield 10, 3) := by decide +kernel
theorem dX11_init_159 : decode cX11_init 159 = .ok (.invokespecial 78, 3) := by decide +kernel
theorem dX11_init_162 : decode cX11_init 162 = .ok (.aastore, 1) := by decide +kernel
theorem dX11_init_163 : decode cX11_init 163 = .ok (.iinc 1 1, 3) := by decide +kernel
theorem dX11_init_166 : decode cX11_init 166 = .ok (.goto (-25), 3) := by decide +kernel
theorem dX11_init_169 : decode cX11_init 169 = .ok (.aload_n 0, 1) := by decide +kernel
theorem dX11_init_170 : decode cX11_init 170 = .ok (.new 79, 3) := by decide +kernel
theorem dX11_init_173 : decode cX11_init 173 = .ok (.dup, 1) := by decide +kernel
theorem dX11_init_174 : decode cX11_init 174 = .ok (.aload_n 0, 1) := by decide +kernel
theorem dX11_init_175 : decode cX11_init 175 = .ok (.getfield 51, 3) := by decide +kernel
theorem dX11_init_178 : decode cX11_init 178 = .ok (.invokespecial 81, 3) := by decide +kernel
theorem dX11_init_181 : decode cX11_init 181 = .ok (.putfield 84, 3) := by decide +kernel
theorem dX11_init_184 : decode cX11_init 184 = .ok (.aload_n 0, 1) := by decide +kernel
theorem dX11_init_185 : decode cX11_init 185 = .ok (.new 88, 3) := by decide +kernel
theorem dX11_init_188 : decode cX11_init 188 = .ok (.dup, 1) := by decide +kernel
theorem dX11_init_189 : decode cX11_init 189 = .ok (.aload_n 0, 1) := by decide +kernel
theorem dX11_init_190 : decode cX11_init 190 = .ok (.getfield 51, 3) := by decide +kernel
theorem dX11_init_193 : decode cX11_init 193 = .ok (.aload_n 0, 1) := by decide +kernel
theorem dX11_init_194 : decode cX11_init 194 = .ok (.getfield 84, 3) := by decide +kernel
theorem dX11_init_197 : decode cX11_init 197 = .ok (.invokespecial 90, 3) := by decide +kernel
theorem dX11_init_200 : decode cX11_init 200 = .ok (.putfield 93, 3) := by decide +kernel
theorem dX11_init_203 : decode cX11_init 203 = .ok (.return_, 1) := by decide +kernel
def f_X11_init (o0 : Nat) (sk : List mS) : Option (List mS) := lt sk.length fun n1 => lt (sk ++ [frS 6]) fun sk1 => bS (f_X6_init n1 sk1) (sk1.length + 11) fun sk2 => pRc sk2 o0 11 0 n1 fun sk3 => lt sk3.length fun n4 => lt (sk3 ++ [frS 6]) fun sk4 => bS (f_X6_init n4 sk4) (sk4.length + 11) fun sk5 => pRc sk5 o0 11 1 n4 fun sk6 => lt sk6.length fun n7 => lt (sk6 ++ [frS 10]) fun sk7 => bS (f_X10_init n7 sk7) (sk7.length + 1) fun sk8 => pRc sk8 o0 11 2 n7 fun sk9 => lt sk9.length fun n10 => lt (sk9 ++ [frS 2]) fun sk10 => gRc sk10 o0 11 2 fun r11 => bS (f_X2_init n10 r11 sk10) (sk10.length + 0) fun sk12 => pRc sk12 o0 11 3 n10 fun sk13 => lt sk13.length fun n14 => lt (sk13 ++ [frS 0]) fun sk14 => gRc sk14 o0 11 2 fun r15 => bS (f_X0_init n14 r15 sk14) (sk14.length + 1) fun sk16 => pRc sk16 o0 11 4 n14 fun sk17 => lt sk17.length fun n18 => lt (sk17 ++ [.inl (0, 40, [])]) fun sk18 => pRc sk18 o0 11 5 n18 fun sk19 => lt sk19.length fun n20 => lt (sk19 ++ [frS 9]) fun sk20 => gRc sk20 o0 11 0 fun r21 => bS (f_X9_init n20 r21 sk20) (sk20.length + 3) fun sk22 => pRc sk22 o0 11 6 n20 fun sk23 => lt sk23.length fun n24 => lt (sk23 ++ [frS 9]) fun sk24 => gRc sk24 o0 11 0 fun r25 => bS (f_X9_init n24 r25 sk24) (sk24.length + 3) fun sk26 => pRc sk26 o0 11 7 n24 fun sk27 => lt sk27.length fun n28 => lt (sk27 ++ [frS 1]) fun sk28 => gRc sk28 o0 11 0 fun r29 => bS (f_X1_init n28 r29 sk28) (sk28.length + 65) fun sk30 => pRc sk30 o0 11 8 n28 fun sk31 => lt sk31.length fun n32 => lt (sk31 ++ [frS 8]) fun sk32 => bS (f_X8_init n32 sk32) (sk32.length + 5) fun sk33 => pRc sk33 o0 11 9 n32 fun sk34 => lt sk34.length fun n35 => lt (sk34 ++ [.inl (5, 4, List.replicate 4 none)]) fun sk35 => pRc sk35 o0 11 10 n35 fun sk36 => gRc sk36 o0 11 10 fun r37 => lt sk36.length fun n38 => lt (sk36 ++ [frS 4]) fun sk38 => gRc sk38 o0 11 0 fun r39 => bS (f_X4_init n38 r39 sk38) (sk38.length + 10) fun sk40 => aSc sk40 r37 5 4 n38 0 fun sk41 => gRc sk41 o0 11 10 fun r42 => lt sk41.length fun n43 => lt (sk41 ++ [frS 4]) fun sk43 => gRc sk43 o0 11 0 fun r44 => bS (f_X4_init n43 r44 sk43) (sk43.length + 10) fun sk45 => aSc sk45 r42 5 4 n43 1 fun sk46 => gRc sk46 o0 11 10 fun r47 => lt sk46.length fun n48 => lt (sk46 ++ [frS 4]) fun sk48 => gRc sk48 o0 11 0 fun r49 => bS (f_X4_init n48 r49 sk48) (sk48.length + 10) fun sk50 => aSc sk50 r47 5 4 n48 2 fun sk51 => gRc sk51 o0 11 10 fun r52 => lt sk51.length fun n53 => lt (sk51 ++ [frS 4]) fun sk53 => gRc sk53 o0 11 0 fun r54 => bS (f_X4_init n53 r54 sk53) (sk53.length + 10) fun sk55 => aSc sk55 r52 5 4 n53 3 fun sk56 => lt sk56.length fun n57 => lt (sk56 ++ [frS 5]) fun sk57 => gRc sk57 o0 11 6 fun r58 => bS (f_X5_init n57 r58 sk57) (sk57.length + 3) fun sk59 => pRc sk59 o0 11 11 n57 fun sk60 => lt sk60.length fun n61 => lt (sk60 ++ [frS 7]) fun sk61 => gRc sk61 o0 11 6 fun r62 => gRc sk61 o0 11 11 fun r63 => bS (f_X7_init n61 r62 r63 sk61) (sk61.length + 2) fun sk64 => pRc sk64 o0 11 12 n61 fun sk65 => some sk65
set_option maxHeartbeats 4000000 in
set_option maxRecDepth 100000 in
theorem sC_X11_init {l : Launch} {G : mG} (o0 : Nat) (sk : List mS) : GoC true muX11_init (rmC 3 162 4339) 0 0 l G (nFinZ G 162 4339) (f_X11_init o0 sk) 0 [(0, .ref (gB G + o0))] [] sk mZ := by
  unfold f_X11_init
  refine goC_aload_n 0 1 dX11_init_0 rfl rfl ?_
  refine goC_objInit oiX11_1 oi2 oi3 4 dX11_init_1 rfl (Nat.le_of_ble_eq_true rfl) (Nat.le_of_ble_eq_true rfl) ?_
  refine goC_aload_n 0 5 dX11_init_4 rfl rfl ?_
  refine goC_new clX6 dfX6 rfl clkX11_7 insX6 iniX6 (mz_mZ _) (Nat.le_of_ble_eq_true rfl) (Nat.le_of_ble_eq_true rfl) 8 dX11_init_5 rfl ?_
  refine goC_nmN (fun n1 => ?_)
  refine goC_nmS (fun sk1 => ?_)
  refine goC_dup 9 dX11_init_8 rfl rfl ?_
  refine goC_callZ 2 (As := []) (rest := [.ref (gB G + n1), .ref (gB G + o0)]) (o := n1) ciX11_9 (mC_X6_init n1 sk1) rfl 12 dX11_init_9 rfl ⟨Nat.le_of_ble_eq_true rfl, Nat.le_of_ble_eq_true rfl⟩ ⟨Nat.le_of_ble_eq_true rfl, Nat.le_of_ble_eq_true rfl⟩ (Nat.le_of_ble_eq_true rfl) (fun sk2 => ?_)
  refine goC_putFN flX11_10 rfl rfl rfl (fun _ => rfl) (fun _ => rfl) 15 dX11_init_12 rfl (fun sk3 => ?_)
  refine goC_aload_n 0 16 dX11_init_15 rfl rfl ?_
  refine goC_new clX6 dfX6 rfl clkX11_7 insX6 iniX6 (mz_mZ _) (Nat.le_of_ble_eq_true rfl) (Nat.le_of_ble_eq_true rfl) 19 dX11_init_16 rfl ?_
  refine goC_nmN (fun n4 => ?_)
  refine goC_nmS (fun sk4 => ?_)
  refine goC_dup 20 dX11_init_19 rfl rfl ?_
  refine goC_callZ 2 (As := []) (rest := [.ref (gB G + n4), .ref (gB G + o0)]) (o := n4) ciX11_9 (mC_X6_init n4 sk4) rfl 23 dX11_init_20 rfl ⟨Nat.le_of_ble_eq_true rfl, Nat.le_of_ble_eq_true rfl⟩ ⟨Nat.le_of_ble_eq_true rfl, Nat.le_of_ble_eq_true rfl⟩ (Nat.le_of_ble_eq_true rfl) (fun sk5 => ?_)
  refine goC_putFN flX11_16 rfl rfl rfl (fun _ => rfl) (fun _ => rfl) 26 dX11_init_23 rfl (fun sk6 => ?_)
  refine goC_aload_n 0 27 dX11_init_26 rfl rfl ?_
  refine goC_new clX10 dfX10 rfl clkX11_19 insX10 iniX10 (mz_mZ _) (Nat.le_of_ble_eq_true rfl) (Nat.le_of_ble_eq_true rfl) 30 dX11_init_27 rfl ?_
  refine goC_nmN (fun n7 => ?_)
  refine goC_nmS (fun sk7 => ?_)
  refine goC_dup 31 dX11_init_30 rfl rfl ?_
  refine goC_callZ 1 (As := []) (rest := [.ref (gB G + n7), .ref (gB G + o0)]) (o := n7) ciX11_21 (mC_X10_init n7 sk7) rfl 34 dX11_init_31 rfl ⟨Nat.le_of_ble_eq_true rfl, Nat.le_of_ble_eq_true rfl⟩ ⟨Nat.le_of_ble_eq_true rfl, Nat.le_of_ble_eq_true rfl⟩ (Nat.le_of_ble_eq_true rfl) (fun sk8 => ?_)
  refine goC_putFN flX11_22 rfl rfl rfl (fun _ => rfl) (fun _ => rfl) 37 dX11_init_34 rfl (fun sk9 => ?_)
  refine goC_aload_n 0 38 dX11_init_37 rfl rfl ?_
  refine goC_new clX2 dfX2 rfl clkX11_26 insX2 iniX2 (mz_mZ _) (Nat.le_of_ble_eq_true rfl) (Nat.le_of_ble_eq_true rfl) 41 dX11_init_38 rfl ?_
  refine goC_nmN (fun n10 => ?_)
  refine goC_nmS (fun sk10 => ?_)
  refine goC_dup 42 dX11_init_41 rfl rfl ?_
  refine goC_aload_n 0 43 dX11_init_42 rfl rfl ?_
  refine goC_getR flX11_22 46 dX11_init_43 rfl (fun r11 => ?_)
  refine goC_callZ 1 (As := [.ref (gB G + r11)]) (rest := [.ref (gB G + n10), .ref (gB G + o0)]) (o := n10) ciX11_28 (mC_X2_init n10 r11 sk10) rfl 49 dX11_init_46 rfl ⟨Nat.le_of_ble_eq_true rfl, Nat.le_of_ble_eq_true rfl⟩ ⟨Nat.le_of_ble_eq_true rfl, Nat.le_of_ble_eq_true rfl⟩ (Nat.le_of_ble_eq_true rfl) (fun sk12 => ?_)
  refine goC_putFN flX11_31 rfl rfl rfl (fun _ => rfl) (fun _ => rfl) 52 dX11_init_49 rfl (fun sk13 => ?_)
  refine goC_aload_n 0 53 dX11_init_52 rfl rfl ?_
  refine goC_new clX0 dfX0 rfl clkX11_35 insX0 iniX0 (mz_mZ _) (Nat.le_of_ble_eq_true rfl) (Nat.le_of_ble_eq_true rfl) 56 dX11_init_53 rfl ?_
  refine goC_nmN (fun n14 => ?_)
  refine goC_nmS (fun sk14 => ?_)
  refine goC_dup 57 dX11_init_56 rfl rfl ?_
  refine goC_aload_n 0 58 dX11_init_57 rfl rfl ?_
  refine goC_getR flX11_22 61 dX11_init_58 rfl (fun r15 => ?_)
  refine goC_callZ 1 (As := [.ref (gB G + r15)]) (rest := [.ref (gB G + n14), .ref (gB G + o0)]) (o := n14) ciX11_37 (mC_X0_init n14 r15 sk14) rfl 64 dX11_init_61 rfl ⟨Nat.le_of_ble_eq_true rfl, Nat.le_of_ble_eq_true rfl⟩ ⟨Nat.le_of_ble_eq_true rfl, Nat.le_of_ble_eq_true rfl⟩ (Nat.le_of_ble_eq_true rfl) (fun sk16 => ?_)
  refine goC_putFN flX11_38 rfl rfl rfl (fun _ => rfl) (fun _ => rfl) 67 dX11_init_64 rfl (fun sk17 => ?_)
  refine goC_aload_n 0 68 dX11_init_67 rfl rfl ?_
  refine goC_bipush 40 70 dX11_init_68 rfl (by decide) ?_
  refine goC_newa (kd := 0) (atype := .int) (ty := .int) (.inl (0, 40, [])) rfl rfl (by decide) ar0 (N := 40) rfl (he_int (by decide) rfl) (mz_mZ _) (by decide) (by decide) (by decide) (Nat.le_of_ble_eq_true rfl) (Nat.le_of_ble_eq_true rfl) 72 dX11_init_70 rfl ?_
  refine goC_nmN (fun n18 => ?_)
  refine goC_nmS (fun sk18 => ?_)
  refine goC_putFN flX11_42 rfl rfl rfl (fun _ => rfl) (fun _ => rfl) 75 dX11_init_72 rfl (fun sk19 => ?_)
  refine goC_aload_n 0 76 dX11_init_75 rfl rfl ?_
  refine goC_new clX9 dfX9 rfl clkX11_46 insX9 iniX9 (mz_mZ _) (Nat.le_of_ble_eq_true rfl) (Nat.le_of_ble_eq_true rfl) 79 dX11_init_76 rfl ?_
  refine goC_nmN (fun n20 => ?_)
  refine goC_nmS (fun sk20 => ?_)
  refine goC_dup 80 dX11_init_79 rfl rfl ?_
  refine goC_aload_n 0 81 dX11_init_80 rfl rfl ?_
  refine goC_getR flX11_10 84 dX11_init_81 rfl (fun r21 => ?_)
  refine goC_callZ 1 (As := [.ref (gB G + r21)]) (rest := [.ref (gB G + n20), .ref (gB G + o0)]) (o := n20) ciX11_48 (mC_X9_init n20 r21 sk20) rfl 87 dX11_init_84 rfl ⟨Nat.le_of_ble_eq_true rfl, Nat.le_of_ble_eq_true rfl⟩ ⟨Nat.le_of_ble_eq_true rfl, Nat.le_of_ble_eq_true rfl⟩ (Nat.le_of_ble_eq_true rfl) (fun sk22 => ?_)
  refine goC_putFN flX11_51 rfl rfl rfl (fun _ => rfl) (fun _ => rfl) 90 dX11_init_87 rfl (fun sk23 => ?_)
  refine goC_aload_n 0 91 dX11_init_90 rfl rfl ?_
  refine goC_new clX9 dfX9 rfl clkX11_46 insX9 iniX9 (mz_mZ _) (Nat.le_of_ble_eq_true rfl) (Nat.le_of_ble_eq_true rfl) 94 dX11_init_91 rfl ?_
  refine goC_nmN (fun n24 => ?_)
  refine goC_nmS (fun sk24 => ?_)
  refine goC_dup 95 dX11_init_94 rfl rfl ?_
  refine goC_aload_n 0 96 dX11_init_95 rfl rfl ?_
  refine goC_getR flX11_10 99 dX11_init_96 rfl (fun r25 => ?_)
  refine goC_callZ 1 (As := [.ref (gB G + r25)]) (rest := [.ref (gB G + n24), .ref (gB G + o0)]) (o := n24) ciX11_48 (mC_X9_init n24 r25 sk24) rfl 102 dX11_init_99 rfl ⟨Nat.le_of_ble_eq_true rfl, Nat.le_of_ble_eq_true rfl⟩ ⟨Nat.le_of_ble_eq_true rfl, Nat.le_of_ble_eq_true rfl⟩ (Nat.le_of_ble_eq_true rfl) (fun sk26 => ?_)
  refine goC_putFN flX11_55 rfl rfl rfl (fun _ => rfl) (fun _ => rfl) 105 dX11_init_102 rfl (fun sk27 => ?_)
  refine goC_aload_n 0 106 dX11_init_105 rfl rfl ?_
  refine goC_new clX1 dfX1 rfl clkX11_58 insX1 iniX1 (mz_mZ _) (Nat.le_of_ble_eq_true rfl) (Nat.le_of_ble_eq_true rfl) 109 dX11_init_106 rfl ?_
  refine goC_nmN (fun n28 => ?_)
  refine goC_nmS (fun sk28 => ?_)
  refine goC_dup 110 dX11_init_109 rfl rfl ?_
  refine goC_aload_n 0 111 dX11_init_110 rfl rfl ?_
  refine goC_getR flX11_10 114 dX11_init_111 rfl (fun r29 => ?_)
  refine goC_callZ 2 (As := [.ref (gB G + r29)]) (rest := [.ref (gB G + n28), .ref (gB G + o0)]) (o := n28) ciX11_60 (mC_X1_init n28 r29 sk28) rfl 117 dX11_init_114 rfl ⟨Nat.le_of_ble_eq_true rfl, Nat.le_of_ble_eq_true rfl⟩ ⟨Nat.le_of_ble_eq_true rfl, Nat.le_of_ble_eq_true rfl⟩ (Nat.le_of_ble_eq_true rfl) (fun sk30 => ?_)
  refine goC_putFN flX11_61 rfl rfl rfl (fun _ => rfl) (fun _ => rfl) 120 dX11_init_117 rfl (fun sk31 => ?_)
  refine goC_aload_n 0 121 dX11_init_120 rfl rfl ?_
  refine goC_new clX8 dfX8 rfl clkX11_65 insX8 iniX8 (mz_mZ _) (Nat.le_of_ble_eq_true rfl) (Nat.le_of_ble_eq_true rfl) 124 dX11_init_121 rfl ?_
  refine goC_nmN (fun n32 => ?_)
  refine goC_nmS (fun sk32 => ?_)
  refine goC_dup 125 dX11_init_124 rfl rfl ?_
  refine goC_callZ 1 (As := []) (rest := [.ref (gB G + n32), .ref (gB G + o0)]) (o := n32) ciX11_67 (mC_X8_init n32 sk32) rfl 128 dX11_init_125 rfl ⟨Nat.le_of_ble_eq_true rfl, Nat.le_of_ble_eq_true rfl⟩ ⟨Nat.le_of_ble_eq_true rfl, Nat.le_of_ble_eq_true rfl⟩ (Nat.le_of_ble_eq_true rfl) (fun sk33 => ?_)
  refine goC_putFN flX11_68 rfl rfl rfl (fun _ => rfl) (fun _ => rfl) 131 dX11_init_128 rfl (fun sk34 => ?_)
  refine goC_aload_n 0 132 dX11_init_131 rfl rfl ?_
  refine goC_iconst 4 133 dX11_init_132 rfl (by decide) ?_
  refine goC_newq (kd := 5) (Cn := RX4) (fun _ h => h.2.1) rfl (by decide) clkX11_72 (N := 4) (by decide) (by decide) (by decide) (Nat.le_of_ble_eq_true rfl) (Nat.le_of_ble_eq_true rfl) 136 dX11_init_133 rfl ?_
  refine goC_nmN (fun n35 => ?_)
  refine goC_nmS (fun sk35 => ?_)
  refine goC_putFN flX11_74 rfl rfl rfl (fun _ => rfl) (fun _ => rfl) 139 dX11_init_136 rfl (fun sk36 => ?_)
  refine goC_iconst 0 140 dX11_init_139 rfl (by decide) ?_
  refine goC_istore_n [(1, .int 0), (0, .ref (gB G + o0))] 141 dX11_init_140 rfl rfl (by decide) rfl ?_
  refine goC_iload_n 0 142 dX11_init_141 rfl rfl ?_
  refine goC_iconst 4 143 dX11_init_142 rfl (by decide) ?_
  refine goC_geF 169 146 dX11_init_143 (by decide) rfl (by decide) ?_
  refine goC_aload_n 1 147 dX11_init_146 rfl rfl ?_
  refine goC_getR flX11_74 150 dX11_init_147 rfl (fun r37 => ?_)
  refine goC_iload_n 0 151 dX11_init_150 rfl rfl ?_
  refine goC_new clX4 dfX4 rfl clkX11_72 insX4 iniX4 (mz_mZ _) (Nat.le_of_ble_eq_true rfl) (Nat.le_of_ble_eq_true rfl) 154 dX11_init_151 rfl ?_
  refine goC_nmN (fun n38 => ?_)
  refine goC_nmS (fun sk38 => ?_)
  refine goC_dup 155 dX11_init_154 rfl rfl ?_
  refine goC_aload_n 1 156 dX11_init_155 rfl rfl ?_
  refine goC_getR flX11_10 159 dX11_init_156 rfl (fun r39 => ?_)
  refine goC_callZ 2 (As := [.ref (gB G + r39)]) (rest := [.ref (gB G + n38), .int 0, .ref (gB G + r37)]) (o := n38) ciX11_78 (mC_X4_init n38 r39 sk38) rfl 162 dX11_init_159 rfl ⟨Nat.le_of_ble_eq_true rfl, Nat.le_of_ble_eq_true rfl⟩ ⟨Nat.le_of_ble_eq_true rfl, Nat.le_of_ble_eq_true rfl⟩ (Nat.le_of_ble_eq_true rfl) (fun sk40 => ?_)
  refine goC_aast clX4 rfl (by decide) (by decide) (j := 0) (by decide) 163 dX11_init_162 rfl (fun sk41 => ?_)
  refine goC_iinc 1 0 [(1, .int 1), (0, .ref (gB G + o0))] 166 dX11_init_163 rfl rfl (by decide) (by decide) rfl ?_
  refine goC_goto 141 dX11_init_166 (by decide) ?_
  refine goC_iload_n 0 142 dX11_init_141 rfl rfl ?_
  refine goC_iconst 4 143 dX11_init_142 rfl (by decide) ?_
  refine goC_geF 169 146 dX11_init_143 (by decide) rfl (by decide) ?_
  refine goC_aload_n 1 147 dX11_init_146 rfl rfl ?_
  refine goC_getR flX11_74 150 dX11_init_147 rfl (fun r42 => ?_)
  refine goC_iload_n 0 151 dX11_init_150 rfl rfl ?_
  refine goC_new clX4 dfX4 rfl clkX11_72 insX4 iniX4 (mz_mZ _) (Nat.le_of_ble_eq_true rfl) (Nat.le_of_ble_eq_true rfl) 154 dX11_init_151 rfl ?_
  refine goC_nmN (fun n43 => ?_)
  refine goC_nmS (fun sk43 => ?_)
  refine goC_dup 155 dX11_init_154 rfl rfl ?_
  refine goC_aload_n 1 156 dX11_init_155 rfl rfl ?_
  refine goC_getR flX11_10 159 dX11_init_156 rfl (fun r44 => ?_)
  refine goC_callZ 2 (As := [.ref (gB G + r44)]) (rest := [.ref (gB G + n43), .int 1, .ref (gB G + r42)]) (o := n43) ciX11_78 (mC_X4_init n43 r44 sk43) rfl 162 dX11_init_159 rfl ⟨Nat.le_of_ble_eq_true rfl, Nat.le_of_ble_eq_true rfl⟩ ⟨Nat.le_of_ble_eq_true rfl, Nat.le_of_ble_eq_true rfl⟩ (Nat.le_of_ble_eq_true rfl) (fun sk45 => ?_)
  refine goC_aast clX4 rfl (by decide) (by decide) (j := 1) (by decide) 163 dX11_init_162 rfl (fun sk46 => ?_)
  refine goC_iinc 2 0 [(1, .int 2), (0, .ref (gB G + o0))] 166 dX11_init_163 rfl rfl (by decide) (by decide) rfl ?_
  refine goC_goto 141 dX11_init_166 (by decide) ?_
  refine goC_iload_n 0 142 dX11_init_141 rfl rfl ?_
  refine goC_iconst 4 143 dX11_init_142 rfl (by decide) ?_
  refine goC_geF 169 146 dX11_init_143 (by decide) rfl (by decide) ?_
  refine goC_aload_n 1 147 dX11_init_146 rfl rfl ?_
  refine goC_getR flX11_74 150 dX11_init_147 rfl (fun r47 => ?_)
  refine goC_iload_n 0 151 dX11_init_150 rfl rfl ?_
  refine goC_new clX4 dfX4 rfl clkX11_72 insX4 iniX4 (mz_mZ _) (Nat.le_of_ble_eq_true rfl) (Nat.le_of_ble_eq_true rfl) 154 dX11_init_151 rfl ?_
  refine goC_nmN (fun n48 => ?_)
  refine goC_nmS (fun sk48 => ?_)
  refine goC_dup 155 dX11_init_154 rfl rfl ?_
  refine goC_aload_n 1 156 dX11_init_155 rfl rfl ?_
  refine goC_getR flX11_10 159 dX11_init_156 rfl (fun r49 => ?_)
  refine goC_callZ 2 (As := [.ref (gB G + r49)]) (rest := [.ref (gB G + n48), .int 2, .ref (gB G + r47)]) (o := n48) ciX11_78 (mC_X4_init n48 r49 sk48) rfl 162 dX11_init_159 rfl ⟨Nat.le_of_ble_eq_true rfl, Nat.le_of_ble_eq_true rfl⟩ ⟨Nat.le_of_ble_eq_true rfl, Nat.le_of_ble_eq_true rfl⟩ (Nat.le_of_ble_eq_true rfl) (fun sk50 => ?_)
  refine goC_aast clX4 rfl (by decide) (by decide) (j := 2) (by decide) 163 dX11_init_162 rfl (fun sk51 => ?_)
  refine goC_iinc 3 0 [(1, .int 3), (0, .ref (gB G + o0))] 166 dX11_init_163 rfl rfl (by decide) (by decide) rfl ?_
  refine goC_goto 141 dX11_init_166 (by decide) ?_
  refine goC_iload_n 0 142 dX11_init_141 rfl rfl ?_
  refine goC_iconst 4 143 dX11_init_142 rfl (by decide) ?_
  refine goC_geF 169 146 dX11_init_143 (by decide) rfl (by decide) ?_
  refine goC_aload_n 1 147 dX11_init_146 rfl rfl ?_
  refine goC_getR flX11_74 150 dX11_init_147 rfl (fun r52 => ?_)
  refine goC_iload_n 0 151 dX11_init_150 rfl rfl ?_
  refine goC_new clX4 dfX4 rfl clkX11_72 insX4 iniX4 (mz_mZ _) (Nat.le_of_ble_eq_true rfl) (Nat.le_of_ble_eq_true rfl) 154 dX11_init_151 rfl ?_
  refine goC_nmN (fun n53 => ?_)
  refine goC_nmS (fun sk53 => ?_)
  refine goC_dup 155 dX11_init_154 rfl rfl ?_
  refine goC_aload_n 1 156 dX11_init_155 rfl rfl ?_
  refine goC_getR flX11_10 159 dX11_init_156 rfl (fun r54 => ?_)
  refine goC_callZ 2 (As := [.ref (gB G + r54)]) (rest := [.ref (gB G + n53), .int 3, .ref (gB G + r52)]) (o := n53) ciX11_78 (mC_X4_init n53 r54 sk53) rfl 162 dX11_init_159 rfl ⟨Nat.le_of_ble_eq_true rfl, Nat.le_of_ble_eq_true rfl⟩ ⟨Nat.le_of_ble_eq_true rfl, Nat.le_of_ble_eq_true rfl⟩ (Nat.le_of_ble_eq_true rfl) (fun sk55 => ?_)
  refine goC_aast clX4 rfl (by decide) (by decide) (j := 3) (by decide) 163 dX11_init_162 rfl (fun sk56 => ?_)
  refine goC_iinc 4 0 [(1, .int 4), (0, .ref (gB G + o0))] 166 dX11_init_163 rfl rfl (by decide) (by decide) rfl ?_
  refine goC_goto 141 dX11_init_166 (by decide) ?_
  refine goC_iload_n 0 142 dX11_init_141 rfl rfl ?_
  refine goC_iconst 4 143 dX11_init_142 rfl (by decide) ?_
  refine goC_geT 169 dX11_init_143 (by decide) (by decide) ?_
  refine goC_aload_n 1 170 dX11_init_169 rfl rfl ?_
  refine goC_new clX5 dfX5 rfl clkX11_79 insX5 iniX5 (mz_mZ _) (Nat.le_of_ble_eq_true rfl) (Nat.le_of_ble_eq_true rfl) 173 dX11_init_170 rfl ?_
  refine goC_nmN (fun n57 => ?_)
  refine goC_nmS (fun sk57 => ?_)
  refine goC_dup 174 dX11_init_173 rfl rfl ?_
  refine goC_aload_n 1 175 dX11_init_174 rfl rfl ?_
  refine goC_getR flX11_51 178 dX11_init_175 rfl (fun r58 => ?_)
  refine goC_callZ 1 (As := [.ref (gB G + r58)]) (rest := [.ref (gB G + n57), .ref (gB G + o0)]) (o := n57) ciX11_81 (mC_X5_init n57 r58 sk57) rfl 181 dX11_init_178 rfl ⟨Nat.le_of_ble_eq_true rfl, Nat.le_of_ble_eq_true rfl⟩ ⟨Nat.le_of_ble_eq_true rfl, Nat.le_of_ble_eq_true rfl⟩ (Nat.le_of_ble_eq_true rfl) (fun sk59 => ?_)
  refine goC_putFN flX11_84 rfl rfl rfl (fun _ => rfl) (fun _ => rfl) 184 dX11_init_181 rfl (fun sk60 => ?_)
  refine goC_aload_n 1 185 dX11_init_184 rfl rfl ?_
  refine goC_new clX7 dfX7 rfl clkX11_88 insX7 iniX7 (mz_mZ _) (Nat.le_of_ble_eq_true rfl) (Nat.le_of_ble_eq_true rfl) 188 dX11_init_185 rfl ?_
  refine goC_nmN (fun n61 => ?_)
  refine goC_nmS (fun sk61 => ?_)
  refine goC_dup 189 dX11_init_188 rfl rfl ?_
  refine goC_aload_n 1 190 dX11_init_189 rfl rfl ?_
  refine goC_getR flX11_51 193 dX11_init_190 rfl (fun r62 => ?_)
  refine goC_aload_n 1 194 dX11_init_193 rfl rfl ?_
  refine goC_getR flX11_84 197 dX11_init_194 rfl (fun r63 => ?_)
  refine goC_callZ 1 (As := [.ref (gB G + r62), .ref (gB G + r63)]) (rest := [.ref (gB G + n61), .ref (gB G + o0)]) (o := n61) ciX11_90 (mC_X7_init n61 r62 r63 sk61) rfl 200 dX11_init_197 rfl ⟨Nat.le_of_ble_eq_true rfl, Nat.le_of_ble_eq_true rfl⟩ ⟨Nat.le_of_ble_eq_true rfl, Nat.le_of_ble_eq_true rfl⟩ (Nat.le_of_ble_eq_true rfl) (fun sk64 => ?_)
  refine goC_putFN flX11_93 rfl rfl rfl (fun _ => rfl) (fun _ => rfl) 203 dX11_init_200 rfl (fun sk65 => ?_)
  exact goC_vretZ rfl dX11_init_203
theorem mC_X11_init {l : Launch} {G : mG} (o0 : Nat) (sk : List mS) : MtC l G yX11_init muX11_init 3 162 4339 [.ref (gB G + o0)] sk mZ (zS (f_X11_init o0 sk)) := MtC.of (by decide) rfl rfl (Nat.le_of_ble_eq_true rfl) (goC_map (sC_X11_init o0 sk))
