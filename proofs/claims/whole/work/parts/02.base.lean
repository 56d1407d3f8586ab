/-! ===== the worlds of this claim: a fixed list of shapes (what a cell is, which cells its references name), and a memory: the numbers that they hold ===== -/
abbrev mM : Type := (Nat → Nat → Int32) × (Nat → Nat → Int64)
abbrev mS : Type := (Nat × Nat × List (Option Nat)) ⊕ (Nat × List (Option Nat ⊕ Bool))
abbrev mG : Type := ((Nat → ClassId) × (Nat → Nat → Nat)) × (Nat → ClassId) × Heap × (Nat → Nat)
def gB (G : mG) : Nat := G.2.2.1.size
def gA (G : mG) : Nat → Prop := fun q => gB G ≤ q
def mT : List Cond := lw_tbl.filter goodWord
theorem mT_of {w : Cond} (h : w ∈ lw_tbl) (g : goodWord w = true) : w ∈ mT := List.mem_filter.mpr ⟨h, g⟩
theorem mT_good : GoodIn mT mT := fun _ h => ⟨h, good_of_word (List.mem_filter.mp h).2⟩
def gT (G : mG) : List (ClassId × FieldType) := [(G.2.1 0, .int), (G.2.1 1, .long), (G.2.1 2, .boolean), (G.2.1 3, .byte), (G.2.1 4, .object RX9), (G.2.1 5, .object RX4)]
def mF (G : mG) (M : mM) (i k : Nat) (f : Option Nat ⊕ Bool) : Value := match f with
  | .inl r => va_rf (r.map (fun z => gB G + z))
  | .inr false => .int (M.1 i k)
  | .inr true => .long (M.2 i k)
def mE (G : mG) (M : mM) (i : Nat) (sh : mS) : va_E := match sh with
  | .inl (0, n, _) => .inl (G.2.1 0, n, .inl (M.1 i))
  | .inl (1, n, _) => .inl (G.2.1 1, n, .inr (.inl (M.2 i)))
  | .inl (2, n, _) => .inl (G.2.1 2, n, .inl (M.1 i))
  | .inl (3, n, _) => .inl (G.2.1 3, n, .inl (M.1 i))
  | .inl (kd, n, rs) => .inl (G.2.1 kd, n, .inr (.inr (.inr (.inr (fun j => (rs.getD j none).map (fun z => gB G + z))))))
  | .inr (ci, fs) => .inr (ci, fs.mapIdx (mF G M i))
def mW (G : mG) (sk : List mS) (M : mM) : va_W := sk.mapIdx (fun i sh => (gB G + i, mE G M i sh))
theorem mW_get {G : mG} {sk : List mS} (M : mM) {i : Nat} {sh : mS} (h : sk[i]? = some sh) : (mW G sk M)[i]? = some (gB G + i, mE G M i sh) := by simp [mW, h]
theorem mW_D (G : mG) (sk : List mS) (M : mM) : va_D (gA G) (mW G sk M) := by
  refine ⟨fun i j p q hi hj hpq => ?_, fun k q hk => ?_⟩
  · simp only [mW, List.getElem?_mapIdx, Option.map_eq_some_iff] at hi hj
    obtain ⟨x, -, rfl⟩ := hi
    obtain ⟨y, -, rfl⟩ := hj
    simp only at hpq
    omega
  · simp only [mW, List.getElem?_mapIdx, Option.map_eq_some_iff] at hk
    obtain ⟨x, -, rfl⟩ := hk
    exact Nat.le_add_right _ _
def wI (M : mM) (o k : Nat) (v : Int32) : mM := (fun a => if a = o then upd (M.1 a) k v else M.1 a, M.2)
def wL (M : mM) (o k : Nat) (v : Int64) : mM := (M.1, fun a => if a = o then vp_updL (M.2 a) k v else M.2 a)
def cI (M : mM) (a sp b dp n : Nat) : mM := (fun z => if z = b then va_cpy (M.1 a) (M.1 b) sp dp n else M.1 z, M.2)
def cL (M : mM) (a sp b dp n : Nat) : mM := (M.1, fun z => if z = b then va_cpy (M.2 a) (M.2 b) sp dp n else M.2 z)
/-- two memories that differ in one cell alone -/
theorem mE_same {G : mG} {M M' : mM} {i : Nat} (h1 : M'.1 i = M.1 i) (h2 : M'.2 i = M.2 i) (sh : mS) : mE G M' i sh = mE G M i sh := by
  have hF : mF G M' i = mF G M i := by
    funext k f
    rcases f with r | b
    · rfl
    · cases b
      · show Value.int (M'.1 i k) = Value.int (M.1 i k); rw [h1]
      · show Value.long (M'.2 i k) = Value.long (M.2 i k); rw [h2]
  unfold mE
  rw [h1, h2, hF]
theorem mW_set {G : mG} {sk : List mS} {M M' : mM} {o : Nat} {sh : mS} {e : va_E} (hs : sk[o]? = some sh) (he : mE G M' o sh = e) (hM : ∀ a, a ≠ o → M'.1 a = M.1 a ∧ M'.2 a = M.2 a) : (mW G sk M).set o (gB G + o, e) = mW G sk M' := by
  apply List.ext_getElem?
  intro i
  have hl : o < sk.length := (List.getElem?_eq_some_iff.mp hs).1
  by_cases h : i = o
  · subst h
    rw [List.getElem?_set_self (by simpa [mW] using hl), mW_get M' hs, he]
  · rw [List.getElem?_set_ne (Ne.symm h)]
    simp only [mW, List.getElem?_mapIdx]
    rw [show mE G M' i = mE G M i from funext fun s => mE_same (hM i h).1 (hM i h).2 s]
theorem wI_off {M : mM} {o k : Nat} {v : Int32} : ∀ a, a ≠ o → (wI M o k v).1 a = M.1 a ∧ (wI M o k v).2 a = M.2 a := fun a h => ⟨if_neg h, rfl⟩
theorem wL_off {M : mM} {o k : Nat} {v : Int64} : ∀ a, a ≠ o → (wL M o k v).1 a = M.1 a ∧ (wL M o k v).2 a = M.2 a := fun a h => ⟨rfl, if_neg h⟩
theorem cI_off {M : mM} {a sp b dp n : Nat} : ∀ z, z ≠ b → (cI M a sp b dp n).1 z = M.1 z ∧ (cI M a sp b dp n).2 z = M.2 z := fun z h => ⟨if_neg h, rfl⟩
theorem cL_off {M : mM} {a sp b dp n : Nat} : ∀ z, z ≠ b → (cL M a sp b dp n).1 z = M.1 z ∧ (cL M a sp b dp n).2 z = M.2 z := fun z h => ⟨rfl, if_neg h⟩
theorem wI_on (M : mM) (o k : Nat) (v : Int32) : (wI M o k v).1 o = upd (M.1 o) k v := if_pos rfl
theorem wL_on (M : mM) (o k : Nat) (v : Int64) : (wL M o k v).2 o = vp_updL (M.2 o) k v := if_pos rfl
theorem fs_setI {G : mG} {M : mM} {o k : Nat} {v : Int32} {fs : List (Option Nat ⊕ Bool)} (h : fs[k]? = some (.inr false)) : fs.mapIdx (mF G (wI M o k v) o) = (fs.mapIdx (mF G M o)).set k (.int v) := by
  apply List.ext_getElem?
  intro i
  have hl : k < fs.length := (List.getElem?_eq_some_iff.mp h).1
  by_cases hi : i = k
  · subst hi
    rw [List.getElem?_set_self (by simpa using hl), List.getElem?_mapIdx, h]
    show some (Value.int ((wI M o i v).1 o i)) = _
    rw [wI_on]; simp [upd]
  · rw [List.getElem?_set_ne (Ne.symm hi), List.getElem?_mapIdx, List.getElem?_mapIdx]
    cases fs[i]? with
    | none => rfl
    | some f =>
      rcases f with r | b
      · rfl
      · cases b
        · show some (Value.int ((wI M o k v).1 o i)) = some (Value.int (M.1 o i))
          rw [wI_on]; simp [upd, hi]
        · rfl
theorem fs_setL {G : mG} {M : mM} {o k : Nat} {v : Int64} {fs : List (Option Nat ⊕ Bool)} (h : fs[k]? = some (.inr true)) : fs.mapIdx (mF G (wL M o k v) o) = (fs.mapIdx (mF G M o)).set k (.long v) := by
  apply List.ext_getElem?
  intro i
  have hl : k < fs.length := (List.getElem?_eq_some_iff.mp h).1
  by_cases hi : i = k
  · subst hi
    rw [List.getElem?_set_self (by simpa using hl), List.getElem?_mapIdx, h]
    show some (Value.long ((wL M o i v).2 o i)) = _
    rw [wL_on]; simp [vp_updL]
  · rw [List.getElem?_set_ne (Ne.symm hi), List.getElem?_mapIdx, List.getElem?_mapIdx]
    cases fs[i]? with
    | none => rfl
    | some f =>
      rcases f with r | b
      · rfl
      · cases b
        · rfl
        · show some (Value.long ((wL M o k v).2 o i)) = some (Value.long (M.2 o i))
          rw [wL_on]; simp [vp_updL, hi]

/-- the cells of the system and of the reference, in the order in which they are made -/
def skF : List mS := [
  .inr (11, [.inl (some 1), .inl (some 13), .inl (some 25), .inl (some 27), .inl (some 28), .inl (some 30), .inl (some 31), .inl (some 35), .inl (some 39), .inl (some 105), .inl (some 111), .inl (some 156), .inl (some 160), .inr false, .inr true]),
  .inr (6, [.inr false, .inr false, .inr false, .inr false, .inl (some 2), .inl (some 3), .inl (some 4), .inl (some 5), .inl (some 6), .inl (some 7), .inl (some 8), .inl (some 9), .inl (some 10)]),
  .inl (1, 7, []),
  .inl (1, 5, []),
  .inl (0, 5, []),
  .inl (0, 8, []),
  .inl (0, 8, []),
  .inl (0, 8, []),
  .inl (0, 8, []),
  .inl (0, 12, []),
  .inr (3, [.inl (some 11), .inl (some 12), .inr false]),
  .inl (0, 1000, []),
  .inl (0, 32, []),
  .inr (6, [.inr false, .inr false, .inr false, .inr false, .inl (some 14), .inl (some 15), .inl (some 16), .inl (some 17), .inl (some 18), .inl (some 19), .inl (some 20), .inl (some 21), .inl (some 22)]),
  .inl (1, 7, []),
  .inl (1, 5, []),
  .inl (0, 5, []),
  .inl (0, 8, []),
  .inl (0, 8, []),
  .inl (0, 8, []),
  .inl (0, 8, []),
  .inl (0, 12, []),
  .inr (3, [.inl (some 23), .inl (some 24), .inr false]),
  .inl (0, 1000, []),
  .inl (0, 32, []),
  .inr (10, [.inl (some 26), .inr false, .inr false, .inr false, .inr false, .inr true, .inr false]),
  .inl (3, 1000, []),
  .inr (2, [.inl (some 25)]),
  .inr (0, [.inl (some 25), .inl (some 29), .inr false]),
  .inl (0, 40, []),
  .inl (0, 40, []),
  .inr (9, [.inl (some 1), .inr false, .inr false, .inl (some 32), .inl (some 33), .inl (some 34)]),
  .inl (0, 8, []),
  .inl (0, 8, []),
  .inl (0, 5, []),
  .inr (9, [.inl (some 1), .inr false, .inr false, .inl (some 36), .inl (some 37), .inl (some 38)]),
  .inl (0, 8, []),
  .inl (0, 8, []),
  .inl (0, 5, []),
  .inr (1, [.inl (some 40), .inr false, .inr false]),
  .inl (4, 16, [some 41, some 45, some 49, some 53, some 57, some 61, some 65, some 69, some 73, some 77, some 81, some 85, some 89, some 93, some 97, some 101]),
  .inr (9, [.inl (some 1), .inr false, .inr false, .inl (some 42), .inl (some 43), .inl (some 44)]),
  .inl (0, 8, []),
  .inl (0, 8, []),
  .inl (0, 5, []),
  .inr (9, [.inl (some 1), .inr false, .inr false, .inl (some 46), .inl (some 47), .inl (some 48)]),
  .inl (0, 8, []),
  .inl (0, 8, []),
  .inl (0, 5, []),
  .inr (9, [.inl (some 1), .inr false, .inr false, .inl (some 50), .inl (some 51), .inl (some 52)]),
  .inl (0, 8, []),
  .inl (0, 8, []),
  .inl (0, 5, []),
  .inr (9, [.inl (some 1), .inr false, .inr false, .inl (some 54), .inl (some 55), .inl (some 56)]),
  .inl (0, 8, []),
  .inl (0, 8, []),
  .inl (0, 5, []),
  .inr (9, [.inl (some 1), .inr false, .inr false, .inl (some 58), .inl (some 59), .inl (some 60)]),
  .inl (0, 8, []),
  .inl (0, 8, []),
  .inl (0, 5, []),
  .inr (9, [.inl (some 1), .inr false, .inr false, .inl (some 62), .inl (some 63), .inl (some 64)]),
  .inl (0, 8, []),
  .inl (0, 8, []),
  .inl (0, 5, []),
  .inr (9, [.inl (some 1), .inr false, .inr false, .inl (some 66), .inl (some 67), .inl (some 68)]),
  .inl (0, 8, []),
  .inl (0, 8, []),
  .inl (0, 5, []),
  .inr (9, [.inl (some 1), .inr false, .inr false, .inl (some 70), .inl (some 71), .inl (some 72)]),
  .inl (0, 8, []),
  .inl (0, 8, []),
  .inl (0, 5, []),
  .inr (9, [.inl (some 1), .inr false, .inr false, .inl (some 74), .inl (some 75), .inl (some 76)]),
  .inl (0, 8, []),
  .inl (0, 8, []),
  .inl (0, 5, []),
  .inr (9, [.inl (some 1), .inr false, .inr false, .inl (some 78), .inl (some 79), .inl (some 80)]),
  .inl (0, 8, []),
  .inl (0, 8, []),
  .inl (0, 5, []),
  .inr (9, [.inl (some 1), .inr false, .inr false, .inl (some 82), .inl (some 83), .inl (some 84)]),
  .inl (0, 8, []),
  .inl (0, 8, []),
  .inl (0, 5, []),
  .inr (9, [.inl (some 1), .inr false, .inr false, .inl (some 86), .inl (some 87), .inl (some 88)]),
  .inl (0, 8, []),
  .inl (0, 8, []),
  .inl (0, 5, []),
  .inr (9, [.inl (some 1), .inr false, .inr false, .inl (some 90), .inl (some 91), .inl (some 92)]),
  .inl (0, 8, []),
  .inl (0, 8, []),
  .inl (0, 5, []),
  .inr (9, [.inl (some 1), .inr false, .inr false, .inl (some 94), .inl (some 95), .inl (some 96)]),
  .inl (0, 8, []),
  .inl (0, 8, []),
  .inl (0, 5, []),
  .inr (9, [.inl (some 1), .inr false, .inr false, .inl (some 98), .inl (some 99), .inl (some 100)]),
  .inl (0, 8, []),
  .inl (0, 8, []),
  .inl (0, 5, []),
  .inr (9, [.inl (some 1), .inr false, .inr false, .inl (some 102), .inl (some 103), .inl (some 104)]),
  .inl (0, 8, []),
  .inl (0, 8, []),
  .inl (0, 5, []),
  .inr (8, [.inr false, .inr false, .inl (some 106), .inl (some 107), .inl (some 108), .inl (some 109), .inl (some 110)]),
  .inl (0, 8, []),
  .inl (0, 8, []),
  .inl (2, 8, []),
  .inl (0, 8, []),
  .inl (0, 8, []),
  .inl (5, 4, [some 112, some 123, some 134, some 145]),
  .inr (4, [.inl (some 119), .inl (some 113), .inr false]),
  .inr (8, [.inr false, .inr false, .inl (some 114), .inl (some 115), .inl (some 116), .inl (some 117), .inl (some 118)]),
  .inl (0, 8, []),
  .inl (0, 8, []),
  .inl (2, 8, []),
  .inl (0, 8, []),
  .inl (0, 8, []),
  .inr (9, [.inl (some 1), .inr false, .inr false, .inl (some 120), .inl (some 121), .inl (some 122)]),
  .inl (0, 8, []),
  .inl (0, 8, []),
  .inl (0, 5, []),
  .inr (4, [.inl (some 130), .inl (some 124), .inr false]),
  .inr (8, [.inr false, .inr false, .inl (some 125), .inl (some 126), .inl (some 127), .inl (some 128), .inl (some 129)]),
  .inl (0, 8, []),
  .inl (0, 8, []),
  .inl (2, 8, []),
  .inl (0, 8, []),
  .inl (0, 8, []),
  .inr (9, [.inl (some 1), .inr false, .inr false, .inl (some 131), .inl (some 132), .inl (some 133)]),
  .inl (0, 8, []),
  .inl (0, 8, []),
  .inl (0, 5, []),
  .inr (4, [.inl (some 141), .inl (some 135), .inr false]),
  .inr (8, [.inr false, .inr false, .inl (some 136), .inl (some 137), .inl (some 138), .inl (some 139), .inl (some 140)]),
  .inl (0, 8, []),
  .inl (0, 8, []),
  .inl (2, 8, []),
  .inl (0, 8, []),
  .inl (0, 8, []),
  .inr (9, [.inl (some 1), .inr false, .inr false, .inl (some 142), .inl (some 143), .inl (some 144)]),
  .inl (0, 8, []),
  .inl (0, 8, []),
  .inl (0, 5, []),
  .inr (4, [.inl (some 152), .inl (some 146), .inr false]),
  .inr (8, [.inr false, .inr false, .inl (some 147), .inl (some 148), .inl (some 149), .inl (some 150), .inl (some 151)]),
  .inl (0, 8, []),
  .inl (0, 8, []),
  .inl (2, 8, []),
  .inl (0, 8, []),
  .inl (0, 8, []),
  .inr (9, [.inl (some 1), .inr false, .inr false, .inl (some 153), .inl (some 154), .inl (some 155)]),
  .inl (0, 8, []),
  .inl (0, 8, []),
  .inl (0, 5, []),
  .inr (5, [.inl (some 31), .inl (some 1), .inl (some 157), .inl (some 158), .inl (some 159)]),
  .inl (0, 61, []),
  .inl (0, 8, []),
  .inl (0, 80, []),
  .inr (7, [.inl (some 31), .inl (some 1), .inl (some 156), .inl (some 161), .inl (some 162)]),
  .inl (0, 3, []),
  .inl (0, 4, []),
  .inr (12, [.inr false, .inl (some 164), .inr false, .inr false, .inl (some 165), .inl (some 166), .inl (some 167), .inr false, .inr false, .inl (some 168), .inl (some 169), .inl (some 170), .inl (some 171), .inr false, .inl (some 172), .inl (some 173), .inl (some 174), .inl (some 175), .inr false, .inr false, .inr false, .inl (some 176), .inl (some 177), .inl (some 178), .inl (some 179), .inr false, .inl (some 180), .inl (some 181), .inl (some 182), .inl (some 183), .inl (some 184), .inr true]),
  .inl (0, 1000, []),
  .inl (0, 1002, []),
  .inl (0, 1002, []),
  .inl (1, 1002, []),
  .inl (1, 23, []),
  .inl (0, 120, []),
  .inl (0, 2200, []),
  .inl (0, 2200, []),
  .inl (1, 12, []),
  .inl (1, 12, []),
  .inl (0, 12, []),
  .inl (0, 12, []),
  .inl (0, 250, []),
  .inl (0, 4, []),
  .inl (0, 1100, []),
  .inl (0, 1495, []),
  .inl (2, 4, []),
  .inl (0, 41, []),
  .inl (0, 3, []),
  .inl (0, 8, []),
  .inl (0, 310, [])]
def fkd : List (List Nat) := [[2, 2, 0], [2, 0, 0], [2], [2, 2, 0], [2, 2, 3], [2, 2, 2, 2, 2], [0, 0, 0, 0, 2, 2, 2, 2, 2, 2, 2, 2, 2], [2, 2, 2, 2, 2], [0, 0, 2, 2, 2, 2, 2], [2, 0, 0, 2, 2, 2], [2, 0, 0, 0, 0, 1, 0], [2, 2, 2, 2, 2, 2, 2, 2, 2, 2, 2, 2, 2, 0, 1], [0, 2, 0, 0, 2, 2, 2, 0, 0, 2, 2, 2, 2, 0, 2, 2, 2, 2, 0, 0, 0, 2, 2, 2, 2, 0, 2, 2, 2, 2, 2, 1]]
def st0 : List Int64 := [1919905645, 1685024626, 6775152, 123581014175598, 26990, 1684106608, 126956639906931, 6578553, 2002873451, 482854661733, 512802187109, 439956431717, 7299435, 1885957733, 6646893, 1818848613, 7237492, 6385252, 28530]
def st1 : List Int32 := [6, 4, 5, 3]
def st2 : List Int32 := [2, 4, 1, 3]
def st3 : List Int32 := [1, 2, 3, 1]
def gS1 (G : mG) (U : State) (k : Nat) (C n d : String) (ty : FieldType) (vs : List Value) : Prop := va_Z C n d (.ref (G.2.2.2 k)) (gA G) U G.2.2.1 ∧ va_T ty (G.2.2.2 k) vs.length (fun j => vs.getD j .null) (gA G) U G.2.2.1
theorem gS1.moved {G : mG} {u U : State} {k : Nat} {C n d : String} {ty : FieldType} {vs : List Value} (hvm : u.vm.Alike U.vm) (h : gS1 G u k C n d ty vs) : gS1 G U k C n d ty vs := ⟨h.1.moved hvm, h.2.moved hvm⟩
def gSt (G : mG) (U : State) : Prop := gS1 G U 0 "SwollenHouse$Tape" "NO_NAMES" "[J" .long (st0.map Value.long) ∧ gS1 G U 1 "SwollenHouse$Plan" "UPPER_MARK" "[I" .int (st1.map Value.int) ∧ gS1 G U 2 "SwollenHouse$Plan" "LOWER_MARK" "[I" .int (st2.map Value.int) ∧ gS1 G U 3 "SwollenHouse$Plan" "SHRINKING" "[I" .int (st3.map Value.int)
theorem gSt.moved {G : mG} {u U : State} (hvm : u.vm.Alike U.vm) (h : gSt G u) : gSt G U := ⟨h.1.moved hvm, h.2.1.moved hvm, h.2.2.1.moved hvm, h.2.2.2.moved hvm⟩
def gK (G : mG) (U : State) : Prop := va_K G.1 vwCl (gT G) U ∧ gSt G U
theorem gK.moved {G : mG} {u U : State} (hvm : u.vm.Alike U.vm) (h : gK G u) : gK G U := ⟨h.1.moved hvm, h.2.moved hvm⟩
def Wd (G : mG) (sk : List mS) (M : mM) (H : Heap) : Prop := va_P G.1 vwCl (mW G sk M) H
def skOK (sk : List mS) : Prop := ∃ t, sk = skF ++ t
theorem skOK.get {sk : List mS} (h : skOK sk) {i : Nat} {sh : mS} (hi : skF[i]? = some sh) : sk[i]? = some sh := by
  obtain ⟨t, rfl⟩ := h
  rw [List.getElem?_append_left (List.getElem?_eq_some_iff.mp hi).1]
  exact hi
def kK (sh : mS) : Nat := match sh with
  | .inl q => q.1
  | .inr q => 10 + q.1
def isK (o t : Nat) : Prop := (skF[o]?).map kK = some t
def sL (a : Nat) : Nat := match skF[a]? with
  | some (.inl q) => q.2.1
  | _ => 0
def rF (o k : Nat) : Nat := match skF[o]? with
  | some (.inr q) => (match q.2[k]? with
    | some (.inl (some r)) => r
    | _ => 0)
  | _ => 0
def rA (a j : Nat) : Nat := match skF[a]? with
  | some (.inl q) => (q.2.2.getD j none).getD 0
  | _ => 0
/-- every object has the kinds of fields of its kind; every reference names a cell; arrays of references are full -/
def ckF : Bool := skF.all fun sh => match sh with
  | .inr q => (match fkd[q.1]? with
    | some ks => ks.length == q.2.length && (List.range ks.length).all fun k => (match ks[k]?, q.2[k]? with
      | some 2, some (.inl (some _)) => true
      | some 1, some (.inr true) => true
      | some 0, some (.inr false) => true
      | some 3, some (.inr false) => true
      | _, _ => false)
    | none => false)
  | .inl q => decide (q.1 < 6) && (decide (q.1 < 4) || (q.2.2.length == q.2.1 && q.2.2.all Option.isSome))
theorem ckF_ok : ckF = true := by decide +kernel
def fK (c k : Nat) : Option Nat := (fkd[c]?).bind (fun ks => ks[k]?)
theorem isK_obj {o c : Nat} (h : isK o (10 + c)) (hc : c < 100) : ∃ fs, skF[o]? = some (.inr (c, fs)) := by
  unfold isK at h
  cases hs : skF[o]? with
  | none => rw [hs] at h; cases h
  | some sh =>
    rw [hs] at h
    simp only [Option.map_some, Option.some.injEq] at h
    have ha := List.all_eq_true.mp ckF_ok sh (List.mem_of_getElem? hs)
    rcases sh with q | q
    · simp only [kK] at h
      simp only [Bool.and_eq_true, decide_eq_true_eq] at ha
      omega
    · simp only [kK] at h
      refine ⟨q.2, ?_⟩
      have : q.1 = c := by omega
      rw [← this]
theorem fK_of {o c : Nat} (h : isK o (10 + c)) (hc : c < 100) {k t : Nat} (hk : fK c k = some t) : ∃ fs, skF[o]? = some (.inr (c, fs)) ∧ k < fs.length ∧ ((t = 0 ∨ t = 3) → fs[k]? = some (.inr false)) ∧ (t = 1 → fs[k]? = some (.inr true)) ∧ (t = 2 → fs[k]? = some (.inl (some (rF o k)))) := by
  obtain ⟨fs, hs⟩ := isK_obj h hc
  refine ⟨fs, hs, ?_⟩
  have ha := List.all_eq_true.mp ckF_ok _ (List.mem_of_getElem? hs)
  simp only [fK] at hk
  simp only at ha
  cases hf : fkd[c]? with
  | none => rw [hf] at hk; cases hk
  | some kz =>
    rw [hf] at hk ha
    simp only [Option.bind_some] at hk
    simp only [Bool.and_eq_true, beq_iff_eq] at ha
    have hl := (List.getElem?_eq_some_iff.mp hk).1
    have h1 := List.all_eq_true.mp ha.2 k (List.mem_range.mpr hl)
    rw [hk] at h1
    have hl2 : k < fs.length := by rw [← ha.1]; exact hl
    refine ⟨hl2, ?_, ?_, ?_⟩
    · rintro (rfl | rfl)
      · rcases hx : fs[k]? with _ | (_ | _) | (_ | _) <;> rw [hx] at h1 <;> simp_all
      · rcases hx : fs[k]? with _ | (_ | _) | (_ | _) <;> rw [hx] at h1 <;> simp_all
    · rintro rfl
      rcases hx : fs[k]? with _ | (_ | _) | (_ | _) <;> rw [hx] at h1 <;> simp_all
    · rintro rfl
      have e : rF o k = (match fs[k]? with | some (.inl (some r)) => r | _ => 0) := by unfold rF; rw [hs]
      rw [e]
      rcases hx : fs[k]? with _ | (_ | _) | (_ | _) <;> rw [hx] at h1 <;> simp_all
/-- every object of kind c has in field k a reference to a cell of kind t -/
def ckR (c k t : Nat) : Bool := (List.range skF.length).all fun o => (match skF[o]? with
  | some (.inr q) => q.1 != c || decide ((skF[rF o k]?).map kK = some t)
  | _ => true)
theorem isR_of {c k t : Nat} (h : ckR c k t = true) {o : Nat} (ho : isK o (10 + c)) (hc : c < 100) : isK (rF o k) t := by
  obtain ⟨fs, hs⟩ := isK_obj ho hc
  have h1 := List.all_eq_true.mp h o (List.mem_range.mpr (List.getElem?_eq_some_iff.mp hs).1)
  rw [hs] at h1
  simpa [isK] using h1
def ckA (c t : Nat) : Bool := (List.range skF.length).all fun a => (match skF[a]? with
  | some (.inl q) => q.1 != c || (List.range q.2.1).all fun j => decide ((skF[rA a j]?).map kK = some t)
  | _ => true)
theorem isK_arr {a c : Nat} (h : isK a c) (hc : c < 10) : ∃ rs, skF[a]? = some (.inl (c, sL a, rs)) := by
  unfold isK at h
  cases hs : skF[a]? with
  | none => rw [hs] at h; cases h
  | some sh =>
    rw [hs] at h
    simp only [Option.map_some, Option.some.injEq] at h
    rcases sh with q | q
    · simp only [kK] at h
      refine ⟨q.2.2, ?_⟩
      have e : sL a = q.2.1 := by unfold sL; rw [hs]
      rw [← h, e]
    · simp only [kK] at h
      omega
theorem isE_of {c t : Nat} (h : ckA c t = true) {a : Nat} (ha : isK a c) (hc : c < 10) {j : Nat} (hj : j < sL a) : isK (rA a j) t := by
  obtain ⟨rs, hs⟩ := isK_arr ha hc
  have h1 := List.all_eq_true.mp h a (List.mem_range.mpr (List.getElem?_eq_some_iff.mp hs).1)
  rw [hs] at h1
  simp only [bne_self_eq_false, Bool.false_or] at h1
  have h2 := List.all_eq_true.mp h1 j (List.mem_range.mpr hj)
  simpa [isK] using h2
/-- the judgement: where f (a reading of the rest of the body) comes to x, the machine comes to 'fin x' -/
abbrev mU : Type := String × ByteArray × Nat × Option FieldType
def mCx (μ : mU) (G : mG) (sk : List mS) (p : Program) (s : State) (m : MethodId) (args : Array Value) (meth : Method) (c : Code) : Prop :=
  p.tables.exec = Jvm.exec ∧ c.code = μ.2.1 ∧ c.maxLocals = μ.2.2.1 ∧ s.vm.findClass μ.1 = some m.cls ∧ (∀ w ∈ mT, w.before args s = true) ∧ gK G s ∧ meth.locks = false ∧ meth.sig.returnType = μ.2.2.2 ∧ skOK sk ∧ (∀ q, q < gB G → s.heap[q]? = G.2.2.1[q]?) ∧ gB G ≤ s.heap.size
def Go {α : Type} (μ : mU) (R : Room) (kc ks : Nat) (l : Launch) (G : mG) (sk : List mS) (fin : α → State → Array Value → List Frame → State → Prop) (f : Option α) (pc : Nat) (lv : List (Nat × Value)) (st : List Value) (M : mM) : Prop :=
  ∀ (p : Program) (e : Env) (s : State) (m : MethodId) (args : Array Value) (below : List Frame) (meth : Method) (c : Code) (H : Heap) (locs : List Loc) (ls : Array Slot) (x : α),
    mCx μ G sk p s m args meth c → f = some x → Wd G sk M H → va_S (gA G) s.heap H locs → lv_has ls μ.2.2.1 lv → W p l e R s m args below meth c H locs kc ks (fin x s args below) (F0 m pc ls st)
section GO
variable {α : Type} {μ : mU} {R : Room} {kc ks : Nat} {l : Launch} {G : mG} {sk : List mS} {fin : α → State → Array Value → List Frame → State → Prop} {f : Option α} {pc : Nat} {lv : List (Nat × Value)} {st : List Value} {M : mM}

theorem go_iadd {x y : Int32} (pc' : Nat) (hd : decode μ.2.1 pc = .ok (.iadd, 1)) (hp : pc + 1 = pc') (k : Go μ R kc ks l G sk fin f pc' lv (.int (x + y) :: st) M) : Go μ R kc ks l G sk fin f pc lv (.int y :: .int x :: st) M := by
  subst hp
  intro p e s m args below meth c H locs ls x C hf hW hS hl
  exact lv_iadd C.1 C.2.1 hd (k p e s m args below meth c H locs ls x C hf hW hS hl)
theorem go_isub {x y : Int32} (pc' : Nat) (hd : decode μ.2.1 pc = .ok (.isub, 1)) (hp : pc + 1 = pc') (k : Go μ R kc ks l G sk fin f pc' lv (.int (x - y) :: st) M) : Go μ R kc ks l G sk fin f pc lv (.int y :: .int x :: st) M := by
  subst hp
  intro p e s m args below meth c H locs ls x C hf hW hS hl
  exact lv_isub C.1 C.2.1 hd (k p e s m args below meth c H locs ls x C hf hW hS hl)
theorem go_imul {x y : Int32} (pc' : Nat) (hd : decode μ.2.1 pc = .ok (.imul, 1)) (hp : pc + 1 = pc') (k : Go μ R kc ks l G sk fin f pc' lv (.int (x * y) :: st) M) : Go μ R kc ks l G sk fin f pc lv (.int y :: .int x :: st) M := by
  subst hp
  intro p e s m args below meth c H locs ls x C hf hW hS hl
  exact lv_imul C.1 C.2.1 hd (k p e s m args below meth c H locs ls x C hf hW hS hl)
theorem go_iand {x y : Int32} (pc' : Nat) (hd : decode μ.2.1 pc = .ok (.iand, 1)) (hp : pc + 1 = pc') (k : Go μ R kc ks l G sk fin f pc' lv (.int (x &&& y) :: st) M) : Go μ R kc ks l G sk fin f pc lv (.int y :: .int x :: st) M := by
  subst hp
  intro p e s m args below meth c H locs ls x C hf hW hS hl
  exact lv_iand C.1 C.2.1 hd (k p e s m args below meth c H locs ls x C hf hW hS hl)
theorem go_ior {x y : Int32} (pc' : Nat) (hd : decode μ.2.1 pc = .ok (.ior, 1)) (hp : pc + 1 = pc') (k : Go μ R kc ks l G sk fin f pc' lv (.int (x ||| y) :: st) M) : Go μ R kc ks l G sk fin f pc lv (.int y :: .int x :: st) M := by
  subst hp
  intro p e s m args below meth c H locs ls x C hf hW hS hl
  exact lv_ior C.1 C.2.1 hd (k p e s m args below meth c H locs ls x C hf hW hS hl)
theorem go_ixor {x y : Int32} (pc' : Nat) (hd : decode μ.2.1 pc = .ok (.ixor, 1)) (hp : pc + 1 = pc') (k : Go μ R kc ks l G sk fin f pc' lv (.int (x ^^^ y) :: st) M) : Go μ R kc ks l G sk fin f pc lv (.int y :: .int x :: st) M := by
  subst hp
  intro p e s m args below meth c H locs ls x C hf hW hS hl
  exact lv_ixor C.1 C.2.1 hd (k p e s m args below meth c H locs ls x C hf hW hS hl)
theorem go_ishl {x y : Int32} (pc' : Nat) (hd : decode μ.2.1 pc = .ok (.ishl, 1)) (hp : pc + 1 = pc') (k : Go μ R kc ks l G sk fin f pc' lv (.int (x <<< (y &&& 31)) :: st) M) : Go μ R kc ks l G sk fin f pc lv (.int y :: .int x :: st) M := by
  subst hp
  intro p e s m args below meth c H locs ls x C hf hW hS hl
  exact lv_ishl C.1 C.2.1 hd (k p e s m args below meth c H locs ls x C hf hW hS hl)
theorem go_ishr {x y : Int32} (pc' : Nat) (hd : decode μ.2.1 pc = .ok (.ishr, 1)) (hp : pc + 1 = pc') (k : Go μ R kc ks l G sk fin f pc' lv (.int (x >>> (y &&& 31)) :: st) M) : Go μ R kc ks l G sk fin f pc lv (.int y :: .int x :: st) M := by
  subst hp
  intro p e s m args below meth c H locs ls x C hf hW hS hl
  exact lv_ishr C.1 C.2.1 hd (k p e s m args below meth c H locs ls x C hf hW hS hl)
theorem go_iushr {x y : Int32} (pc' : Nat) (hd : decode μ.2.1 pc = .ok (.iushr, 1)) (hp : pc + 1 = pc') (k : Go μ R kc ks l G sk fin f pc' lv (.int (x.toUInt32 >>> (y.toUInt32 &&& Int32.toUInt32 31)).toInt32 :: st) M) : Go μ R kc ks l G sk fin f pc lv (.int y :: .int x :: st) M := by
  subst hp
  intro p e s m args below meth c H locs ls x C hf hW hS hl
  exact lv_iushr C.1 C.2.1 hd rfl (k p e s m args below meth c H locs ls x C hf hW hS hl)
theorem go_ladd {x y : Int64} (pc' : Nat) (hd : decode μ.2.1 pc = .ok (.ladd, 1)) (hp : pc + 1 = pc') (k : Go μ R kc ks l G sk fin f pc' lv (.long (x + y) :: st) M) : Go μ R kc ks l G sk fin f pc lv (.long y :: .long x :: st) M := by
  subst hp
  intro p e s m args below meth c H locs ls x C hf hW hS hl
  exact lv_ladd C.1 C.2.1 hd (k p e s m args below meth c H locs ls x C hf hW hS hl)
theorem go_lsub {x y : Int64} (pc' : Nat) (hd : decode μ.2.1 pc = .ok (.lsub, 1)) (hp : pc + 1 = pc') (k : Go μ R kc ks l G sk fin f pc' lv (.long (x - y) :: st) M) : Go μ R kc ks l G sk fin f pc lv (.long y :: .long x :: st) M := by
  subst hp
  intro p e s m args below meth c H locs ls x C hf hW hS hl
  exact lv_lsub C.1 C.2.1 hd (k p e s m args below meth c H locs ls x C hf hW hS hl)
theorem go_lmul {x y : Int64} (pc' : Nat) (hd : decode μ.2.1 pc = .ok (.lmul, 1)) (hp : pc + 1 = pc') (k : Go μ R kc ks l G sk fin f pc' lv (.long (x * y) :: st) M) : Go μ R kc ks l G sk fin f pc lv (.long y :: .long x :: st) M := by
  subst hp
  intro p e s m args below meth c H locs ls x C hf hW hS hl
  exact lv_lmul C.1 C.2.1 hd (k p e s m args below meth c H locs ls x C hf hW hS hl)
theorem go_land {x y : Int64} (pc' : Nat) (hd : decode μ.2.1 pc = .ok (.land, 1)) (hp : pc + 1 = pc') (k : Go μ R kc ks l G sk fin f pc' lv (.long (x &&& y) :: st) M) : Go μ R kc ks l G sk fin f pc lv (.long y :: .long x :: st) M := by
  subst hp
  intro p e s m args below meth c H locs ls x C hf hW hS hl
  exact lv_land C.1 C.2.1 hd (k p e s m args below meth c H locs ls x C hf hW hS hl)
theorem go_lor {x y : Int64} (pc' : Nat) (hd : decode μ.2.1 pc = .ok (.lor, 1)) (hp : pc + 1 = pc') (k : Go μ R kc ks l G sk fin f pc' lv (.long (x ||| y) :: st) M) : Go μ R kc ks l G sk fin f pc lv (.long y :: .long x :: st) M := by
  subst hp
  intro p e s m args below meth c H locs ls x C hf hW hS hl
  exact lv_lor C.1 C.2.1 hd (k p e s m args below meth c H locs ls x C hf hW hS hl)
theorem go_lshl {x : Int64} {y : Int32} (pc' : Nat) (hd : decode μ.2.1 pc = .ok (.lshl, 1)) (hp : pc + 1 = pc') (k : Go μ R kc ks l G sk fin f pc' lv (.long (x <<< (y.toInt64 &&& 63)) :: st) M) : Go μ R kc ks l G sk fin f pc lv (.int y :: .long x :: st) M := by
  subst hp
  intro p e s m args below meth c H locs ls x C hf hW hS hl
  exact lv_lshl C.1 C.2.1 hd rfl (k p e s m args below meth c H locs ls x C hf hW hS hl)
theorem go_lshr {x : Int64} {y : Int32} (pc' : Nat) (hd : decode μ.2.1 pc = .ok (.lshr, 1)) (hp : pc + 1 = pc') (k : Go μ R kc ks l G sk fin f pc' lv (.long (x >>> (y.toInt64 &&& 63)) :: st) M) : Go μ R kc ks l G sk fin f pc lv (.int y :: .long x :: st) M := by
  subst hp
  intro p e s m args below meth c H locs ls x C hf hW hS hl
  exact lv_lshr C.1 C.2.1 hd rfl (k p e s m args below meth c H locs ls x C hf hW hS hl)
theorem go_lcmp {x y : Int64} (pc' : Nat) (hd : decode μ.2.1 pc = .ok (.lcmp, 1)) (hp : pc + 1 = pc') (k : Go μ R kc ks l G sk fin f pc' lv (.int (lg_cmp x y) :: st) M) : Go μ R kc ks l G sk fin f pc lv (.long y :: .long x :: st) M := by
  subst hp
  intro p e s m args below meth c H locs ls x C hf hW hS hl
  exact W.lcmp C.1 C.2.1 hd (k p e s m args below meth c H locs ls x C hf hW hS hl)
theorem go_ineg {x : Int32} (pc' : Nat) (hd : decode μ.2.1 pc = .ok (.ineg, 1)) (hp : pc + 1 = pc') (k : Go μ R kc ks l G sk fin f pc' lv (.int (-x) :: st) M) : Go μ R kc ks l G sk fin f pc lv (.int x :: st) M := by
  subst hp
  intro p e s m args below meth c H locs ls x C hf hW hS hl
  exact lv_ineg C.1 C.2.1 hd (k p e s m args below meth c H locs ls x C hf hW hS hl)
theorem go_i2l {x : Int32} (pc' : Nat) (hd : decode μ.2.1 pc = .ok (.i2l, 1)) (hp : pc + 1 = pc') (k : Go μ R kc ks l G sk fin f pc' lv (.long x.toInt64 :: st) M) : Go μ R kc ks l G sk fin f pc lv (.int x :: st) M := by
  subst hp
  intro p e s m args below meth c H locs ls x C hf hW hS hl
  exact lv_i2l C.1 C.2.1 hd rfl (k p e s m args below meth c H locs ls x C hf hW hS hl)
theorem go_l2i {x : Int64} (pc' : Nat) (hd : decode μ.2.1 pc = .ok (.l2i, 1)) (hp : pc + 1 = pc') (k : Go μ R kc ks l G sk fin f pc' lv (.int x.toInt32 :: st) M) : Go μ R kc ks l G sk fin f pc lv (.long x :: st) M := by
  subst hp
  intro p e s m args below meth c H locs ls x C hf hW hS hl
  exact lv_l2i C.1 C.2.1 hd rfl (k p e s m args below meth c H locs ls x C hf hW hS hl)
theorem go_i2b {x : Int32} (pc' : Nat) (hd : decode μ.2.1 pc = .ok (.i2b, 1)) (hp : pc + 1 = pc') (k : Go μ R kc ks l G sk fin f pc' lv (.int x.toInt8.toInt32 :: st) M) : Go μ R kc ks l G sk fin f pc lv (.int x :: st) M := by
  subst hp
  intro p e s m args below meth c H locs ls x C hf hW hS hl
  exact lv_i2b C.1 C.2.1 hd rfl (k p e s m args below meth c H locs ls x C hf hW hS hl)
theorem go_iconst {n : Int} (v : Int32) (pc' : Nat) (hd : decode μ.2.1 pc = .ok (.iconst n, 1)) (hp : pc + 1 = pc') (hv : Int32.ofInt n = v) (k : Go μ R kc ks l G sk fin f pc' lv (.int v :: st) M) : Go μ R kc ks l G sk fin f pc lv (st) M := by
  subst hp
  intro p e s m args below meth c H locs ls x C hf hW hS hl
  exact lv_iconst C.1 C.2.1 hd hv (k p e s m args below meth c H locs ls x C hf hW hS hl)
theorem go_bipush {n : Int} (v : Int32) (pc' : Nat) (hd : decode μ.2.1 pc = .ok (.bipush n, 2)) (hp : pc + 2 = pc') (hv : (Int8.ofInt n).toInt32 = v) (k : Go μ R kc ks l G sk fin f pc' lv (.int v :: st) M) : Go μ R kc ks l G sk fin f pc lv (st) M := by
  subst hp
  intro p e s m args below meth c H locs ls x C hf hW hS hl
  exact lv_bipush C.1 C.2.1 hd hv (k p e s m args below meth c H locs ls x C hf hW hS hl)
theorem go_sipush {n : Int} (v : Int32) (pc' : Nat) (hd : decode μ.2.1 pc = .ok (.sipush n, 3)) (hp : pc + 3 = pc') (hv : (Int16.ofInt n).toInt32 = v) (k : Go μ R kc ks l G sk fin f pc' lv (.int v :: st) M) : Go μ R kc ks l G sk fin f pc lv (st) M := by
  subst hp
  intro p e s m args below meth c H locs ls x C hf hW hS hl
  exact lv_sipush C.1 C.2.1 hd hv (k p e s m args below meth c H locs ls x C hf hW hS hl)
theorem go_lconst {n : Fin 2} (v : Int64) (pc' : Nat) (hd : decode μ.2.1 pc = .ok (.lconst n, 1)) (hp : pc + 1 = pc') (hv : Int64.ofNat (n : Nat) = v) (k : Go μ R kc ks l G sk fin f pc' lv (.long v :: st) M) : Go μ R kc ks l G sk fin f pc lv (st) M := by
  subst hp
  intro p e s m args below meth c H locs ls x C hf hW hS hl
  exact lv_lconst C.1 C.2.1 hd hv (k p e s m args below meth c H locs ls x C hf hW hS hl)
theorem go_dup {v : Value} (pc' : Nat) (hd : decode μ.2.1 pc = .ok (.dup, 1)) (hp : pc + 1 = pc') (hc : v.category = 1) (k : Go μ R kc ks l G sk fin f pc' lv (v :: v :: st) M) : Go μ R kc ks l G sk fin f pc lv (v :: st) M := by
  subst hp
  intro p e s m args below meth c H locs ls x C hf hW hS hl
  exact lv_dup C.1 C.2.1 hd hc (k p e s m args below meth c H locs ls x C hf hW hS hl)
theorem go_pop {v : Value} (pc' : Nat) (hd : decode μ.2.1 pc = .ok (.pop, 1)) (hp : pc + 1 = pc') (hc : v.category = 1) (k : Go μ R kc ks l G sk fin f pc' lv (st) M) : Go μ R kc ks l G sk fin f pc lv (v :: st) M := by
  subst hp
  intro p e s m args below meth c H locs ls x C hf hW hS hl
  exact lv_pop C.1 C.2.1 hd hc (k p e s m args below meth c H locs ls x C hf hW hS hl)
theorem go_iload {x : Int32} (q : Nat) {i : Nat} (pc' : Nat) (hd : decode μ.2.1 pc = .ok (.iload i, 2)) (hp : pc + 2 = pc') (hl0 : lv[q]? = some (i, .int x)) (k : Go μ R kc ks l G sk fin f pc' lv (.int x :: st) M) : Go μ R kc ks l G sk fin f pc lv st M := by
  subst hp
  intro p e s m args below meth c H locs ls x C hf hW hS hl
  exact lv_iload C.1 C.2.1 hd (lv_at hl q hl0) (k p e s m args below meth c H locs ls x C hf hW hS hl)
theorem go_iload_n {x : Int32} (q : Nat) {i : Fin 4} (pc' : Nat) (hd : decode μ.2.1 pc = .ok (.iload_n i, 1)) (hp : pc + 1 = pc') (hl0 : lv[q]? = some ((i : Nat), .int x)) (k : Go μ R kc ks l G sk fin f pc' lv (.int x :: st) M) : Go μ R kc ks l G sk fin f pc lv st M := by
  subst hp
  intro p e s m args below meth c H locs ls x C hf hW hS hl
  exact lv_iload_n C.1 C.2.1 hd rfl (lv_at hl q hl0) (k p e s m args below meth c H locs ls x C hf hW hS hl)
theorem go_lload {x : Int64} (q : Nat) {i : Nat} (pc' : Nat) (hd : decode μ.2.1 pc = .ok (.lload i, 2)) (hp : pc + 2 = pc') (hl0 : lv[q]? = some (i, .long x)) (k : Go μ R kc ks l G sk fin f pc' lv (.long x :: st) M) : Go μ R kc ks l G sk fin f pc lv st M := by
  subst hp
  intro p e s m args below meth c H locs ls x C hf hW hS hl
  exact lv_lload C.1 C.2.1 hd (lv_at hl q hl0) (k p e s m args below meth c H locs ls x C hf hW hS hl)
theorem go_lload_n {x : Int64} (q : Nat) {i : Fin 4} (pc' : Nat) (hd : decode μ.2.1 pc = .ok (.lload_n i, 1)) (hp : pc + 1 = pc') (hl0 : lv[q]? = some ((i : Nat), .long x)) (k : Go μ R kc ks l G sk fin f pc' lv (.long x :: st) M) : Go μ R kc ks l G sk fin f pc lv st M := by
  subst hp
  intro p e s m args below meth c H locs ls x C hf hW hS hl
  exact lv_lload_n C.1 C.2.1 hd rfl (lv_at hl q hl0) (k p e s m args below meth c H locs ls x C hf hW hS hl)
theorem go_aload {x : Nat} (q : Nat) {i : Nat} (pc' : Nat) (hd : decode μ.2.1 pc = .ok (.aload i, 2)) (hp : pc + 2 = pc') (hl0 : lv[q]? = some (i, .ref x)) (k : Go μ R kc ks l G sk fin f pc' lv (.ref x :: st) M) : Go μ R kc ks l G sk fin f pc lv st M := by
  subst hp
  intro p e s m args below meth c H locs ls x C hf hW hS hl
  exact lv_aload C.1 C.2.1 hd (lv_at hl q hl0) (k p e s m args below meth c H locs ls x C hf hW hS hl)
theorem go_aload_n {x : Nat} (q : Nat) {i : Fin 4} (pc' : Nat) (hd : decode μ.2.1 pc = .ok (.aload_n i, 1)) (hp : pc + 1 = pc') (hl0 : lv[q]? = some ((i : Nat), .ref x)) (k : Go μ R kc ks l G sk fin f pc' lv (.ref x :: st) M) : Go μ R kc ks l G sk fin f pc lv st M := by
  subst hp
  intro p e s m args below meth c H locs ls x C hf hW hS hl
  exact lv_aload_n C.1 C.2.1 hd rfl (lv_at hl q hl0) (k p e s m args below meth c H locs ls x C hf hW hS hl)
theorem go_istore {x : Int32} {i : Nat} (lv' : List (Nat × Value)) (pc' : Nat) (hd : decode μ.2.1 pc = .ok (.istore i, 2)) (hp : pc + 2 = pc') (hn : i < μ.2.2.1) (hv : (i, Value.int x) :: lv.filter (fun q => !(q.1 == i) && !(q.1 + 1 == i && q.2.category == 2)) = lv') (k : Go μ R kc ks l G sk fin f pc' lv' st M) : Go μ R kc ks l G sk fin f pc lv (.int x :: st) M := by
  subst hp
  intro p e s m args below meth c H locs ls x C hf hW hS hl
  exact lv_istore C.1 C.2.1 hd hl hn hv (fun ls hl => k p e s m args below meth c H locs ls x C hf hW hS hl)
theorem go_istore_n {x : Int32} {i : Nat} {j : Fin 4} (lv' : List (Nat × Value)) (pc' : Nat) (hd : decode μ.2.1 pc = .ok (.istore_n j, 1)) (hp : pc + 1 = pc') (hj : (j : Nat) = i) (hn : i < μ.2.2.1) (hv : (i, Value.int x) :: lv.filter (fun q => !(q.1 == i) && !(q.1 + 1 == i && q.2.category == 2)) = lv') (k : Go μ R kc ks l G sk fin f pc' lv' st M) : Go μ R kc ks l G sk fin f pc lv (.int x :: st) M := by
  subst hp
  intro p e s m args below meth c H locs ls x C hf hW hS hl
  exact lv_istore_n C.1 C.2.1 hd hj hl hn hv (fun ls hl => k p e s m args below meth c H locs ls x C hf hW hS hl)
theorem go_lstore {x : Int64} {i : Nat} (lv' : List (Nat × Value)) (pc' : Nat) (hd : decode μ.2.1 pc = .ok (.lstore i, 2)) (hp : pc + 2 = pc') (hn : i + 1 < μ.2.2.1) (hv : (i, Value.long x) :: lv.filter (fun q => !(q.1 == i) && (!(q.1 == i + 1) && !(q.1 + 1 == i && q.2.category == 2))) = lv') (k : Go μ R kc ks l G sk fin f pc' lv' st M) : Go μ R kc ks l G sk fin f pc lv (.long x :: st) M := by
  subst hp
  intro p e s m args below meth c H locs ls x C hf hW hS hl
  exact lv_lstore C.1 C.2.1 hd hl hn hv (fun ls hl => k p e s m args below meth c H locs ls x C hf hW hS hl)
theorem go_lstore_n {x : Int64} {i : Nat} {j : Fin 4} (lv' : List (Nat × Value)) (pc' : Nat) (hd : decode μ.2.1 pc = .ok (.lstore_n j, 1)) (hp : pc + 1 = pc') (hj : (j : Nat) = i) (hn : i + 1 < μ.2.2.1) (hv : (i, Value.long x) :: lv.filter (fun q => !(q.1 == i) && (!(q.1 == i + 1) && !(q.1 + 1 == i && q.2.category == 2))) = lv') (k : Go μ R kc ks l G sk fin f pc' lv' st M) : Go μ R kc ks l G sk fin f pc lv (.long x :: st) M := by
  subst hp
  intro p e s m args below meth c H locs ls x C hf hW hS hl
  exact lv_lstore_n C.1 C.2.1 hd hj hl hn hv (fun ls hl => k p e s m args below meth c H locs ls x C hf hW hS hl)
theorem go_astore {x : Nat} {i : Nat} (lv' : List (Nat × Value)) (pc' : Nat) (hd : decode μ.2.1 pc = .ok (.astore i, 2)) (hp : pc + 2 = pc') (hn : i < μ.2.2.1) (hv : (i, Value.ref x) :: lv.filter (fun q => !(q.1 == i) && !(q.1 + 1 == i && q.2.category == 2)) = lv') (k : Go μ R kc ks l G sk fin f pc' lv' st M) : Go μ R kc ks l G sk fin f pc lv (.ref x :: st) M := by
  subst hp
  intro p e s m args below meth c H locs ls x C hf hW hS hl
  exact lv_astore C.1 C.2.1 hd hl hn hv (fun ls hl => k p e s m args below meth c H locs ls x C hf hW hS hl)
theorem go_astore_n {x : Nat} {i : Nat} {j : Fin 4} (lv' : List (Nat × Value)) (pc' : Nat) (hd : decode μ.2.1 pc = .ok (.astore_n j, 1)) (hp : pc + 1 = pc') (hj : (j : Nat) = i) (hn : i < μ.2.2.1) (hv : (i, Value.ref x) :: lv.filter (fun q => !(q.1 == i) && !(q.1 + 1 == i && q.2.category == 2)) = lv') (k : Go μ R kc ks l G sk fin f pc' lv' st M) : Go μ R kc ks l G sk fin f pc lv (.ref x :: st) M := by
  subst hp
  intro p e s m args below meth c H locs ls x C hf hW hS hl
  exact lv_astore_n C.1 C.2.1 hd hj hl hn hv (fun ls hl => k p e s m args below meth c H locs ls x C hf hW hS hl)
theorem go_iinc {x : Int32} {i : Nat} {n : Int} (v : Int32) (q : Nat) (lv' : List (Nat × Value)) (pc' : Nat) (hd : decode μ.2.1 pc = .ok (.iinc i n, 3)) (hp : pc + 3 = pc') (hq : lv[q]? = some (i, .int x)) (hx : x + Int32.ofInt n = v) (hn : i < μ.2.2.1) (hv : (i, Value.int v) :: lv.filter (fun q => !(q.1 == i) && !(q.1 + 1 == i && q.2.category == 2)) = lv') (k : Go μ R kc ks l G sk fin f pc' lv' st M) : Go μ R kc ks l G sk fin f pc lv st M := by
  subst hp
  intro p e s m args below meth c H locs ls x C hf hW hS hl
  exact lv_iinc C.1 C.2.1 hd hl hq hx hn hv (fun ls hl => k p e s m args below meth c H locs ls x C hf hW hS hl)
theorem go_goto {off : Int} (tgt : Nat) (hd : decode μ.2.1 pc = .ok (.goto off, 3)) (ht : (pc : Int) + off = (tgt : Int)) (k : Go μ R kc ks l G sk fin f tgt lv st M) : Go μ R kc ks l G sk fin f pc lv st M := by
  intro p e s m args below meth c H locs ls x C hf hW hS hl
  exact lv_goto C.1 C.2.1 hd ht (k p e s m args below meth c H locs ls x C hf hW hS hl)
theorem go_lv (is : List Nat) {lv' : List (Nat × Value)} (h : lv_pick lv is = lv') (k : Go μ R kc ks l G sk fin f pc lv' st M) : Go μ R kc ks l G sk fin f pc lv st M := by
  intro p e s m args below meth c H locs ls x C hf hW hS hl
  exact k p e s m args below meth c H locs ls x C hf hW hS (lv_sub hl is h)
theorem go_none : Go μ R kc ks l G sk fin (none : Option α) pc lv st M := by
  intro p e s m args below meth c H locs ls x C hf hW hS hl
  cases hf
theorem go_dup2 {u v : Value} (pc' : Nat) (hd : decode μ.2.1 pc = .ok (.dup2, 1)) (hp : pc + 1 = pc') (hu : u.category = 1) (hv : v.category = 1) (k : Go μ R kc ks l G sk fin f pc' lv (u :: v :: u :: v :: st) M) : Go μ R kc ks l G sk fin f pc lv (u :: v :: st) M := by
  subst hp
  intro p e s m args below meth c H locs ls x C hf hW hS hl
  exact lv_dup2_11 C.1 C.2.1 hd hu hv (k p e s m args below meth c H locs ls x C hf hW hS hl)
theorem go_idiv {x y : Int32} (pc' : Nat) (hd : decode μ.2.1 pc = .ok (.idiv, 1)) (hp : pc + 1 = pc') (k : Go μ R kc ks l G sk fin f pc' lv (.int (x / y) :: st) M) : Go μ R kc ks l G sk fin (if y = 0 then none else f) pc lv (.int y :: .int x :: st) M := by
  subst hp
  intro p e s m args below meth c H locs ls x C hf hW hS hl
  split at hf
  · cases hf
  · rename_i hne
    exact lv_idiv C.1 C.2.1 hd hne (k p e s m args below meth c H locs ls x C hf hW hS hl)
theorem go_irem {x y : Int32} (pc' : Nat) (hd : decode μ.2.1 pc = .ok (.irem, 1)) (hp : pc + 1 = pc') (k : Go μ R kc ks l G sk fin f pc' lv (.int (x - x / y * y) :: st) M) : Go μ R kc ks l G sk fin (if y = 0 then none else f) pc lv (.int y :: .int x :: st) M := by
  subst hp
  intro p e s m args below meth c H locs ls x C hf hW hS hl
  split at hf
  · cases hf
  · rename_i hne
    exact lv_irem C.1 C.2.1 hd hne (k p e s m args below meth c H locs ls x C hf hW hS hl)
theorem go_ldiv {x y : Int64} (pc' : Nat) (hd : decode μ.2.1 pc = .ok (.ldiv, 1)) (hp : pc + 1 = pc') (k : Go μ R kc ks l G sk fin f pc' lv (.long (x / y) :: st) M) : Go μ R kc ks l G sk fin (if y = 0 then none else f) pc lv (.long y :: .long x :: st) M := by
  subst hp
  intro p e s m args below meth c H locs ls x C hf hW hS hl
  split at hf
  · cases hf
  · rename_i hne
    exact lv_ldiv C.1 C.2.1 hd hne (k p e s m args below meth c H locs ls x C hf hW hS hl)
theorem go_lrem {x y : Int64} (pc' : Nat) (hd : decode μ.2.1 pc = .ok (.lrem, 1)) (hp : pc + 1 = pc') (k : Go μ R kc ks l G sk fin f pc' lv (.long (x - x / y * y) :: st) M) : Go μ R kc ks l G sk fin (if y = 0 then none else f) pc lv (.long y :: .long x :: st) M := by
  subst hp
  intro p e s m args below meth c H locs ls x C hf hW hS hl
  split at hf
  · cases hf
  · rename_i hne
    exact lv_lrem C.1 C.2.1 hd hne (k p e s m args below meth c H locs ls x C hf hW hS hl)
theorem go_if_eq {x : Int32} {off : Int} (tgt pc' : Nat) {f1 f2 : Option α} (hd : decode μ.2.1 pc = .ok (.ifCond .eq off, 3)) (hp : pc + 3 = pc') (ht : (pc : Int) + off = (tgt : Int)) (kt : x = 0 → Go μ R kc ks l G sk fin f1 tgt lv st M) (kf : ¬ (x = 0) → Go μ R kc ks l G sk fin f2 pc' lv st M) : Go μ R kc ks l G sk fin (if x = 0 then f1 else f2) pc lv (.int x :: st) M := by
  subst hp
  intro p e s m args below meth c H locs ls x C hf hW hS hl
  exact lv_if_eq C.1 C.2.1 hd ht (fun h => kt h p e s m args below meth c H locs ls x C (by rw [if_pos h] at hf; exact hf) hW hS hl) (fun h => kf h p e s m args below meth c H locs ls x C (by rw [if_neg h] at hf; exact hf) hW hS hl)
theorem go_icmp_eq {x y : Int32} {off : Int} (tgt pc' : Nat) {f1 f2 : Option α} (hd : decode μ.2.1 pc = .ok (.if_icmp .eq off, 3)) (hp : pc + 3 = pc') (ht : (pc : Int) + off = (tgt : Int)) (kt : x = y → Go μ R kc ks l G sk fin f1 tgt lv st M) (kf : ¬ (x = y) → Go μ R kc ks l G sk fin f2 pc' lv st M) : Go μ R kc ks l G sk fin (if x = y then f1 else f2) pc lv (.int y :: .int x :: st) M := by
  subst hp
  intro p e s m args below meth c H locs ls x C hf hW hS hl
  exact lv_icmp_eq C.1 C.2.1 hd ht (fun h => kt h p e s m args below meth c H locs ls x C (by rw [if_pos h] at hf; exact hf) hW hS hl) (fun h => kf h p e s m args below meth c H locs ls x C (by rw [if_neg h] at hf; exact hf) hW hS hl)
theorem go_if_lt {x : Int32} {off : Int} (tgt pc' : Nat) {f1 f2 : Option α} (hd : decode μ.2.1 pc = .ok (.ifCond .lt off, 3)) (hp : pc + 3 = pc') (ht : (pc : Int) + off = (tgt : Int)) (kt : x < 0 → Go μ R kc ks l G sk fin f1 tgt lv st M) (kf : ¬ (x < 0) → Go μ R kc ks l G sk fin f2 pc' lv st M) : Go μ R kc ks l G sk fin (if x < 0 then f1 else f2) pc lv (.int x :: st) M := by
  subst hp
  intro p e s m args below meth c H locs ls x C hf hW hS hl
  exact lv_if_lt C.1 C.2.1 hd ht (fun h => kt h p e s m args below meth c H locs ls x C (by rw [if_pos h] at hf; exact hf) hW hS hl) (fun h => kf h p e s m args below meth c H locs ls x C (by rw [if_neg h] at hf; exact hf) hW hS hl)
theorem go_icmp_lt {x y : Int32} {off : Int} (tgt pc' : Nat) {f1 f2 : Option α} (hd : decode μ.2.1 pc = .ok (.if_icmp .lt off, 3)) (hp : pc + 3 = pc') (ht : (pc : Int) + off = (tgt : Int)) (kt : x < y → Go μ R kc ks l G sk fin f1 tgt lv st M) (kf : ¬ (x < y) → Go μ R kc ks l G sk fin f2 pc' lv st M) : Go μ R kc ks l G sk fin (if x < y then f1 else f2) pc lv (.int y :: .int x :: st) M := by
  subst hp
  intro p e s m args below meth c H locs ls x C hf hW hS hl
  exact lv_icmp_lt C.1 C.2.1 hd ht (fun h => kt h p e s m args below meth c H locs ls x C (by rw [if_pos h] at hf; exact hf) hW hS hl) (fun h => kf h p e s m args below meth c H locs ls x C (by rw [if_neg h] at hf; exact hf) hW hS hl)
theorem go_if_ge {x : Int32} {off : Int} (tgt pc' : Nat) {f1 f2 : Option α} (hd : decode μ.2.1 pc = .ok (.ifCond .ge off, 3)) (hp : pc + 3 = pc') (ht : (pc : Int) + off = (tgt : Int)) (kt : 0 ≤ x → Go μ R kc ks l G sk fin f1 tgt lv st M) (kf : ¬ (0 ≤ x) → Go μ R kc ks l G sk fin f2 pc' lv st M) : Go μ R kc ks l G sk fin (if 0 ≤ x then f1 else f2) pc lv (.int x :: st) M := by
  subst hp
  intro p e s m args below meth c H locs ls x C hf hW hS hl
  exact lv_if_ge C.1 C.2.1 hd ht (fun h => kt h p e s m args below meth c H locs ls x C (by rw [if_pos h] at hf; exact hf) hW hS hl) (fun h => kf h p e s m args below meth c H locs ls x C (by rw [if_neg h] at hf; exact hf) hW hS hl)
theorem go_icmp_ge {x y : Int32} {off : Int} (tgt pc' : Nat) {f1 f2 : Option α} (hd : decode μ.2.1 pc = .ok (.if_icmp .ge off, 3)) (hp : pc + 3 = pc') (ht : (pc : Int) + off = (tgt : Int)) (kt : y ≤ x → Go μ R kc ks l G sk fin f1 tgt lv st M) (kf : ¬ (y ≤ x) → Go μ R kc ks l G sk fin f2 pc' lv st M) : Go μ R kc ks l G sk fin (if y ≤ x then f1 else f2) pc lv (.int y :: .int x :: st) M := by
  subst hp
  intro p e s m args below meth c H locs ls x C hf hW hS hl
  exact lv_icmp_ge C.1 C.2.1 hd ht (fun h => kt h p e s m args below meth c H locs ls x C (by rw [if_pos h] at hf; exact hf) hW hS hl) (fun h => kf h p e s m args below meth c H locs ls x C (by rw [if_neg h] at hf; exact hf) hW hS hl)
theorem go_if_gt {x : Int32} {off : Int} (tgt pc' : Nat) {f1 f2 : Option α} (hd : decode μ.2.1 pc = .ok (.ifCond .gt off, 3)) (hp : pc + 3 = pc') (ht : (pc : Int) + off = (tgt : Int)) (kt : 0 < x → Go μ R kc ks l G sk fin f1 tgt lv st M) (kf : ¬ (0 < x) → Go μ R kc ks l G sk fin f2 pc' lv st M) : Go μ R kc ks l G sk fin (if 0 < x then f1 else f2) pc lv (.int x :: st) M := by
  subst hp
  intro p e s m args below meth c H locs ls x C hf hW hS hl
  exact lv_if_gt C.1 C.2.1 hd ht (fun h => kt h p e s m args below meth c H locs ls x C (by rw [if_pos h] at hf; exact hf) hW hS hl) (fun h => kf h p e s m args below meth c H locs ls x C (by rw [if_neg h] at hf; exact hf) hW hS hl)
theorem go_icmp_gt {x y : Int32} {off : Int} (tgt pc' : Nat) {f1 f2 : Option α} (hd : decode μ.2.1 pc = .ok (.if_icmp .gt off, 3)) (hp : pc + 3 = pc') (ht : (pc : Int) + off = (tgt : Int)) (kt : y < x → Go μ R kc ks l G sk fin f1 tgt lv st M) (kf : ¬ (y < x) → Go μ R kc ks l G sk fin f2 pc' lv st M) : Go μ R kc ks l G sk fin (if y < x then f1 else f2) pc lv (.int y :: .int x :: st) M := by
  subst hp
  intro p e s m args below meth c H locs ls x C hf hW hS hl
  exact lv_icmp_gt C.1 C.2.1 hd ht (fun h => kt h p e s m args below meth c H locs ls x C (by rw [if_pos h] at hf; exact hf) hW hS hl) (fun h => kf h p e s m args below meth c H locs ls x C (by rw [if_neg h] at hf; exact hf) hW hS hl)
theorem go_if_le {x : Int32} {off : Int} (tgt pc' : Nat) {f1 f2 : Option α} (hd : decode μ.2.1 pc = .ok (.ifCond .le off, 3)) (hp : pc + 3 = pc') (ht : (pc : Int) + off = (tgt : Int)) (kt : x ≤ 0 → Go μ R kc ks l G sk fin f1 tgt lv st M) (kf : ¬ (x ≤ 0) → Go μ R kc ks l G sk fin f2 pc' lv st M) : Go μ R kc ks l G sk fin (if x ≤ 0 then f1 else f2) pc lv (.int x :: st) M := by
  subst hp
  intro p e s m args below meth c H locs ls x C hf hW hS hl
  exact lv_if_le C.1 C.2.1 hd ht (fun h => kt h p e s m args below meth c H locs ls x C (by rw [if_pos h] at hf; exact hf) hW hS hl) (fun h => kf h p e s m args below meth c H locs ls x C (by rw [if_neg h] at hf; exact hf) hW hS hl)
theorem go_icmp_le {x y : Int32} {off : Int} (tgt pc' : Nat) {f1 f2 : Option α} (hd : decode μ.2.1 pc = .ok (.if_icmp .le off, 3)) (hp : pc + 3 = pc') (ht : (pc : Int) + off = (tgt : Int)) (kt : x ≤ y → Go μ R kc ks l G sk fin f1 tgt lv st M) (kf : ¬ (x ≤ y) → Go μ R kc ks l G sk fin f2 pc' lv st M) : Go μ R kc ks l G sk fin (if x ≤ y then f1 else f2) pc lv (.int y :: .int x :: st) M := by
  subst hp
  intro p e s m args below meth c H locs ls x C hf hW hS hl
  exact lv_icmp_le C.1 C.2.1 hd ht (fun h => kt h p e s m args below meth c H locs ls x C (by rw [if_pos h] at hf; exact hf) hW hS hl) (fun h => kf h p e s m args below meth c H locs ls x C (by rw [if_neg h] at hf; exact hf) hW hS hl)
theorem go_if_ne {x : Int32} {off : Int} (tgt pc' : Nat) {f1 f2 : Option α} (hd : decode μ.2.1 pc = .ok (.ifCond .ne off, 3)) (hp : pc + 3 = pc') (ht : (pc : Int) + off = (tgt : Int)) (kt : ¬ x = 0 → Go μ R kc ks l G sk fin f1 tgt lv st M) (kf : x = 0 → Go μ R kc ks l G sk fin f2 pc' lv st M) : Go μ R kc ks l G sk fin (if x = 0 then f2 else f1) pc lv (.int x :: st) M := by
  subst hp
  intro p e s m args below meth c H locs ls x C hf hW hS hl
  exact lv_if_ne C.1 C.2.1 hd ht (fun h => kt h p e s m args below meth c H locs ls x C (by rw [if_neg h] at hf; exact hf) hW hS hl) (fun h => kf h p e s m args below meth c H locs ls x C (by rw [if_pos h] at hf; exact hf) hW hS hl)
theorem go_icmp_ne {x y : Int32} {off : Int} (tgt pc' : Nat) {f1 f2 : Option α} (hd : decode μ.2.1 pc = .ok (.if_icmp .ne off, 3)) (hp : pc + 3 = pc') (ht : (pc : Int) + off = (tgt : Int)) (kt : ¬ x = y → Go μ R kc ks l G sk fin f1 tgt lv st M) (kf : x = y → Go μ R kc ks l G sk fin f2 pc' lv st M) : Go μ R kc ks l G sk fin (if x = y then f2 else f1) pc lv (.int y :: .int x :: st) M := by
  subst hp
  intro p e s m args below meth c H locs ls x C hf hW hS hl
  exact lv_icmp_ne C.1 C.2.1 hd ht (fun h => kt h p e s m args below meth c H locs ls x C (by rw [if_neg h] at hf; exact hf) hW hS hl) (fun h => kf h p e s m args below meth c H locs ls x C (by rw [if_pos h] at hf; exact hf) hW hS hl)
def lt {β : Type} (x : β) (k : β → Option α) : Option α := k x
def chk (i : Int32) (n : Nat) (f : Option α) : Option α := if i < 0 ∨ n ≤ i.toNatClampNeg then none else f
def cpk (sp dp n : Int32) (a b : Nat) (f : Option α) : Option α := if sp < 0 ∨ dp < 0 ∨ n < 0 ∨ a < sp.toNatClampNeg + n.toNatClampNeg ∨ b < dp.toNatClampNeg + n.toNatClampNeg then none else f
theorem go_nmI {e : Int32} {k : Int32 → Option α} (h : ∀ x : Int32, Go μ R kc ks l G sk fin (k x) pc lv (.int x :: st) M) : Go μ R kc ks l G sk fin (lt e k) pc lv (.int e :: st) M := h e
theorem go_nmL {e : Int64} {k : Int64 → Option α} (h : ∀ x : Int64, Go μ R kc ks l G sk fin (k x) pc lv (.long x :: st) M) : Go μ R kc ks l G sk fin (lt e k) pc lv (.long e :: st) M := h e
theorem go_nmM {k : mM → Option α} (h : ∀ N : mM, Go μ R kc ks l G sk fin (k N) pc lv st N) : Go μ R kc ks l G sk fin (lt M k) pc lv st M := h M
def mCl (c : Nat) (C : String) (T : u_T) (N : Nat) (ty : Nat → FieldType) : Prop := vwCl[c]? = some (C, T, N) ∧ (∀ w ∈ u_ws C T N, w ∈ mT) ∧ (∀ k, k < N → parseFieldDescriptor (T k).2.2.1 = some (ty k)) ∧ (∀ a, a < N → ∀ b, b < N → a ≠ b → (T a).2.1 ≠ (T b).2.1) ∧ c < 100
def mFl (own : String) (idx c : Nat) (C : String) (T : u_T) (N : Nat) (ty : Nat → FieldType) (k kd : Nat) : Prop := mCl c C T N ty ∧ k < N ∧ Cond.fieldLink own idx C (T k).2.1 (T k).2.2.1 ∈ mT ∧ (T k).1 = C ∧ fK c k = some kd
section FLD
variable {idx c N k kd o : Nat} {C : String} {T : u_T} {ty : Nat → FieldType}
theorem go_getI (F : mFl μ.1 idx c C T N ty k kd) (hk : kd = 0 ∨ kd = 3) (ho : isK o (10 + c)) (pc' : Nat) (hd : decode μ.2.1 pc = .ok (.getfield idx, 3)) (hp : pc + 3 = pc') (kk : Go μ R kc ks l G sk fin f pc' lv (.int (M.1 o k) :: st) M) : Go μ R kc ks l G sk fin f pc lv (.ref (gB G + o) :: st) M := by
  subst hp
  intro p e s m args below meth cd H locs ls x C hf hW hS hl
  obtain ⟨⟨h1, h2, h3, h4, h5⟩, g1, g2, g3, g4⟩ := F
  obtain ⟨fs, hs, hlen, q1, -, -⟩ := fK_of ho h5 g4
  exact va_get (ws := mW G sk M) C.1 C.2.1 C.2.2.2.2.1 h2 C.2.2.2.1 C.2.2.2.2.2.1.1 hW o (fs := fs.mapIdx (mF G M o)) (mW_get M (C.2.2.2.2.2.2.2.2.1.get hs)) h1 k g1 (C.2.2.2.2.1 _ g2) (by rw [g3]; exact fun _ h => h) (v := .int (M.1 o k)) (by rw [List.getElem?_mapIdx, q1 hk]; rfl) hd (kk p e s m args below meth cd H locs ls x C hf hW hS hl)
theorem go_getL (F : mFl μ.1 idx c C T N ty k 1) (ho : isK o (10 + c)) (pc' : Nat) (hd : decode μ.2.1 pc = .ok (.getfield idx, 3)) (hp : pc + 3 = pc') (kk : Go μ R kc ks l G sk fin f pc' lv (.long (M.2 o k) :: st) M) : Go μ R kc ks l G sk fin f pc lv (.ref (gB G + o) :: st) M := by
  subst hp
  intro p e s m args below meth cd H locs ls x C hf hW hS hl
  obtain ⟨⟨h1, h2, h3, h4, h5⟩, g1, g2, g3, g4⟩ := F
  obtain ⟨fs, hs, hlen, -, q1, -⟩ := fK_of ho h5 g4
  exact va_get (ws := mW G sk M) C.1 C.2.1 C.2.2.2.2.1 h2 C.2.2.2.1 C.2.2.2.2.2.1.1 hW o (fs := fs.mapIdx (mF G M o)) (mW_get M (C.2.2.2.2.2.2.2.2.1.get hs)) h1 k g1 (C.2.2.2.2.1 _ g2) (by rw [g3]; exact fun _ h => h) (v := .long (M.2 o k)) (by rw [List.getElem?_mapIdx, q1 rfl]; rfl) hd (kk p e s m args below meth cd H locs ls x C hf hW hS hl)
theorem go_getR (F : mFl μ.1 idx c C T N ty k 2) (ho : isK o (10 + c)) (pc' : Nat) (hd : decode μ.2.1 pc = .ok (.getfield idx, 3)) (hp : pc + 3 = pc') (kk : Go μ R kc ks l G sk fin f pc' lv (.ref (gB G + rF o k) :: st) M) : Go μ R kc ks l G sk fin f pc lv (.ref (gB G + o) :: st) M := by
  subst hp
  intro p e s m args below meth cd H locs ls x C hf hW hS hl
  obtain ⟨⟨h1, h2, h3, h4, h5⟩, g1, g2, g3, g4⟩ := F
  obtain ⟨fs, hs, hlen, -, -, q1⟩ := fK_of ho h5 g4
  exact va_get (ws := mW G sk M) C.1 C.2.1 C.2.2.2.2.1 h2 C.2.2.2.1 C.2.2.2.2.2.1.1 hW o (fs := fs.mapIdx (mF G M o)) (mW_get M (C.2.2.2.2.2.2.2.2.1.get hs)) h1 k g1 (C.2.2.2.2.1 _ g2) (by rw [g3]; exact fun _ h => h) (v := .ref (gB G + rF o k)) (by rw [List.getElem?_mapIdx, q1 rfl]; rfl) hd (kk p e s m args below meth cd H locs ls x C hf hW hS hl)
theorem go_putI (F : mFl μ.1 idx c C T N ty k 0) (ht : ty k = .int) (hfin : (T k).2.2.2 = false) (ho : isK o (10 + c)) (pc' : Nat) {v : Int32} (hd : decode μ.2.1 pc = .ok (.putfield idx, 3)) (hp : pc + 3 = pc') (kk : Go μ R kc ks l G sk fin f pc' lv st (wI M o k v)) : Go μ R kc ks l G sk fin f pc lv (.int v :: .ref (gB G + o) :: st) M := by
  subst hp
  intro p e s m args below meth cd H locs ls x C hf hW hS hl
  obtain ⟨⟨h1, h2, h3, h4, h5⟩, g1, g2, g3, g4⟩ := F
  obtain ⟨fs, hs, hlen, q1, -, -⟩ := fK_of ho h5 g4
  have hs' := C.2.2.2.2.2.2.2.2.1.get hs
  exact va_put (ws := mW G sk M) C.1 C.2.1 C.2.2.2.2.1 h2 ty h3 h4 C.2.2.2.1 C.2.2.2.2.2.1.1 hW (mW_D G sk M) hS o (fs := fs.mapIdx (mF G M o)) (mW_get M hs') h1 k g1 (C.2.2.2.2.1 _ g2) (by rw [g3]; exact fun _ h => h) hfin (ty := .int) (v := .int v) (by rw [h3 k g1, ht]) rfl rfl (by simpa using hlen) hd (fun H1 locs1 hP1 _ hS1 => kk p e s m args below meth cd H1 locs1 ls x C hf (by unfold Wd; rw [← mW_set hs' (show mE G (wI M o k v) o (.inr (c, fs)) = .inr (c, (fs.mapIdx (mF G M o)).set k (.int v)) by show Sum.inr _ = _; rw [fs_setI (q1 (Or.inl rfl))]) wI_off]; exact hP1) hS1 hl)
theorem go_putZ (F : mFl μ.1 idx c C T N ty k 3) (ht : ty k = .boolean) (hfin : (T k).2.2.2 = false) (ho : isK o (10 + c)) (pc' : Nat) {v : Int32} (hd : decode μ.2.1 pc = .ok (.putfield idx, 3)) (hp : pc + 3 = pc') (kk : Go μ R kc ks l G sk fin f pc' lv st (wI M o k v)) : Go μ R kc ks l G sk fin (if v = 0 ∨ v = 1 then f else none) pc lv (.int v :: .ref (gB G + o) :: st) M := by
  subst hp
  intro p e s m args below meth cd H locs ls x C hf hW hS hl
  obtain ⟨⟨h1, h2, h3, h4, h5⟩, g1, g2, g3, g4⟩ := F
  obtain ⟨fs, hs, hlen, q1, -, -⟩ := fK_of ho h5 g4
  have hs' := C.2.2.2.2.2.2.2.2.1.get hs
  split at hf
  · rename_i hv
    exact va_put (ws := mW G sk M) C.1 C.2.1 C.2.2.2.2.1 h2 ty h3 h4 C.2.2.2.1 C.2.2.2.2.2.1.1 hW (mW_D G sk M) hS o (fs := fs.mapIdx (mF G M o)) (mW_get M hs') h1 k g1 (C.2.2.2.2.1 _ g2) (by rw [g3]; exact fun _ h => h) hfin (ty := .boolean) (v := .int v) (by rw [h3 k g1, ht]) (by rcases hv with rfl | rfl <;> rfl) (by rcases hv with rfl | rfl <;> rfl) (by simpa using hlen) hd (fun H1 locs1 hP1 _ hS1 => kk p e s m args below meth cd H1 locs1 ls x C hf (by unfold Wd; rw [← mW_set hs' (show mE G (wI M o k v) o (.inr (c, fs)) = .inr (c, (fs.mapIdx (mF G M o)).set k (.int v)) by show Sum.inr _ = _; rw [fs_setI (q1 (Or.inr rfl))]) wI_off]; exact hP1) hS1 hl)
  · cases hf
theorem go_putL (F : mFl μ.1 idx c C T N ty k 1) (ht : ty k = .long) (hfin : (T k).2.2.2 = false) (ho : isK o (10 + c)) (pc' : Nat) {v : Int64} (hd : decode μ.2.1 pc = .ok (.putfield idx, 3)) (hp : pc + 3 = pc') (kk : Go μ R kc ks l G sk fin f pc' lv st (wL M o k v)) : Go μ R kc ks l G sk fin f pc lv (.long v :: .ref (gB G + o) :: st) M := by
  subst hp
  intro p e s m args below meth cd H locs ls x C hf hW hS hl
  obtain ⟨⟨h1, h2, h3, h4, h5⟩, g1, g2, g3, g4⟩ := F
  obtain ⟨fs, hs, hlen, -, q1, -⟩ := fK_of ho h5 g4
  have hs' := C.2.2.2.2.2.2.2.2.1.get hs
  exact va_put (ws := mW G sk M) C.1 C.2.1 C.2.2.2.2.1 h2 ty h3 h4 C.2.2.2.1 C.2.2.2.2.2.1.1 hW (mW_D G sk M) hS o (fs := fs.mapIdx (mF G M o)) (mW_get M hs') h1 k g1 (C.2.2.2.2.1 _ g2) (by rw [g3]; exact fun _ h => h) hfin (ty := .long) (v := .long v) (by rw [h3 k g1, ht]) rfl rfl (by simpa using hlen) hd (fun H1 locs1 hP1 _ hS1 => kk p e s m args below meth cd H1 locs1 ls x C hf (by unfold Wd; rw [← mW_set hs' (show mE G (wL M o k v) o (.inr (c, fs)) = .inr (c, (fs.mapIdx (mF G M o)).set k (.long v)) by show Sum.inr _ = _; rw [fs_setL (q1 rfl)]) wL_off]; exact hP1) hS1 hl)
end FLD
section ARR
variable {a b : Nat} {i : Int32}
theorem chk_in {f : Option α} {n : Nat} {x : α} (h : chk i n f = some x) : vp_in i n ∧ f = some x := by
  unfold chk at h
  split at h
  · cases h
  · rename_i hn
    exact ⟨hn, h⟩
theorem go_iald (ha : isK a 0) (pc' : Nat) (hd : decode μ.2.1 pc = .ok (.iaload, 1)) (hp : pc + 1 = pc') (kk : Go μ R kc ks l G sk fin f pc' lv (.int (M.1 a i.toNatClampNeg) :: st) M) : Go μ R kc ks l G sk fin (chk i (sL a) f) pc lv (.int i :: .ref (gB G + a) :: st) M := by
  subst hp
  intro p e s m args below meth cd H locs ls x C hf hW hS hl
  obtain ⟨rs, hs⟩ := isK_arr ha (by decide)
  obtain ⟨hin, hf⟩ := chk_in hf
  exact va_iald (ws := mW G sk M) C.1 C.2.1 C.2.2.2.2.2.1.1 hW a 0 (mW_get M (C.2.2.2.2.2.2.2.2.1.get hs)) rfl hin hd (kk p e s m args below meth cd H locs ls x C hf hW hS hl)
theorem go_lald (ha : isK a 1) (pc' : Nat) (hd : decode μ.2.1 pc = .ok (.laload, 1)) (hp : pc + 1 = pc') (kk : Go μ R kc ks l G sk fin f pc' lv (.long (M.2 a i.toNatClampNeg) :: st) M) : Go μ R kc ks l G sk fin (chk i (sL a) f) pc lv (.int i :: .ref (gB G + a) :: st) M := by
  subst hp
  intro p e s m args below meth cd H locs ls x C hf hW hS hl
  obtain ⟨rs, hs⟩ := isK_arr ha (by decide)
  obtain ⟨hin, hf⟩ := chk_in hf
  exact va_lald (ws := mW G sk M) C.1 C.2.1 C.2.2.2.2.2.1.1 hW a 1 (mW_get M (C.2.2.2.2.2.2.2.2.1.get hs)) rfl hin hd (kk p e s m args below meth cd H locs ls x C hf hW hS hl)
theorem go_zald (ha : isK a 2) (pc' : Nat) (hd : decode μ.2.1 pc = .ok (.baload, 1)) (hp : pc + 1 = pc') (kk : Go μ R kc ks l G sk fin f pc' lv (.int (M.1 a i.toNatClampNeg) :: st) M) : Go μ R kc ks l G sk fin (chk i (sL a) f) pc lv (.int i :: .ref (gB G + a) :: st) M := by
  subst hp
  intro p e s m args below meth cd H locs ls x C hf hW hS hl
  obtain ⟨rs, hs⟩ := isK_arr ha (by decide)
  obtain ⟨hin, hf⟩ := chk_in hf
  exact va_zald (ws := mW G sk M) C.1 C.2.1 C.2.2.2.2.2.1.1 hW a 2 (mW_get M (C.2.2.2.2.2.2.2.2.1.get hs)) rfl hin hd (kk p e s m args below meth cd H locs ls x C hf hW hS hl)
theorem go_bald (ha : isK a 3) (pc' : Nat) (hd : decode μ.2.1 pc = .ok (.baload, 1)) (hp : pc + 1 = pc') (kk : Go μ R kc ks l G sk fin f pc' lv (.int (M.1 a i.toNatClampNeg) :: st) M) : Go μ R kc ks l G sk fin (chk i (sL a) f) pc lv (.int i :: .ref (gB G + a) :: st) M := by
  subst hp
  intro p e s m args below meth cd H locs ls x C hf hW hS hl
  obtain ⟨rs, hs⟩ := isK_arr ha (by decide)
  obtain ⟨hin, hf⟩ := chk_in hf
  exact va_bald (ws := mW G sk M) C.1 C.2.1 C.2.2.2.2.2.1.1 hW a 3 (mW_get M (C.2.2.2.2.2.2.2.2.1.get hs)) rfl hin hd (kk p e s m args below meth cd H locs ls x C hf hW hS hl)
theorem refs_at {t : Nat} (ht : t = 4 ∨ t = 5) {rs : List (Option Nat)} (hs : skF[a]? = some (.inl (t, sL a, rs))) {j : Nat} (hj : j < sL a) : rs.getD j none = some (rA a j) := by
  have h1 := List.all_eq_true.mp ckF_ok _ (List.mem_of_getElem? hs)
  have e : rA a j = (rs.getD j none).getD 0 := by unfold rA; rw [hs]
  rw [e]
  have h2 : rs.length = sL a ∧ rs.all Option.isSome = true := by
    rcases ht with rfl | rfl <;> simpa using h1
  have hj2 : j < rs.length := by rw [h2.1]; exact hj
  have h3 := List.all_eq_true.mp h2.2 rs[j] (List.getElem_mem hj2)
  rw [List.getD_eq_getElem?_getD, List.getElem?_eq_getElem hj2]
  simp only [Option.getD_some]
  obtain ⟨v, hv⟩ := Option.isSome_iff_exists.mp h3
  rw [hv]; rfl
theorem go_aald {t : Nat} (ha : isK a t) (ht : t = 4 ∨ t = 5) (pc' : Nat) (hd : decode μ.2.1 pc = .ok (.aaload, 1)) (hp : pc + 1 = pc') (kk : i.toNatClampNeg < sL a → Go μ R kc ks l G sk fin f pc' lv (.ref (gB G + rA a i.toNatClampNeg) :: st) M) : Go μ R kc ks l G sk fin (chk i (sL a) f) pc lv (.int i :: .ref (gB G + a) :: st) M := by
  subst hp
  intro p e s m args below meth cd H locs ls x C hf hW hS hl
  obtain ⟨rs, hs⟩ := isK_arr ha (by omega)
  obtain ⟨hin, hf⟩ := chk_in hf
  have hj : i.toNatClampNeg < sL a := by
    unfold vp_in at hin
    omega
  have e1 := refs_at ht hs hj
  have key : va_rf ((fun j => (rs.getD j none).map (fun z => gB G + z)) i.toNatClampNeg) = .ref (gB G + rA a i.toNatClampNeg) := by
    show va_rf ((rs.getD i.toNatClampNeg none).map (fun z => gB G + z)) = _
    rw [e1]; rfl
  have kk' := kk hj p e s m args below meth cd H locs ls x C hf hW hS hl
  rw [← key] at kk'
  rcases ht with rfl | rfl
  · exact va_aldq (ws := mW G sk M) C.1 C.2.1 C.2.2.2.2.2.1.1 hW a 4 (mW_get M (C.2.2.2.2.2.2.2.2.1.get hs)) rfl hin hd kk'
  · exact va_aldq (ws := mW G sk M) C.1 C.2.1 C.2.2.2.2.2.1.1 hW a 5 (mW_get M (C.2.2.2.2.2.2.2.2.1.get hs)) rfl hin hd kk'
theorem go_iast (ha : isK a 0) {v : Int32} (pc' : Nat) (hd : decode μ.2.1 pc = .ok (.iastore, 1)) (hp : pc + 1 = pc') (kk : Go μ R kc ks l G sk fin f pc' lv st (wI M a i.toNatClampNeg v)) : Go μ R kc ks l G sk fin (chk i (sL a) f) pc lv (.int v :: .int i :: .ref (gB G + a) :: st) M := by
  subst hp
  intro p e s m args below meth cd H locs ls x C hf hW hS hl
  obtain ⟨rs, hs⟩ := isK_arr ha (by decide)
  obtain ⟨hin, hf⟩ := chk_in hf
  have hs' := C.2.2.2.2.2.2.2.2.1.get hs
  exact va_iast (ws := mW G sk M) C.1 C.2.1 C.2.2.2.2.2.1.1 hW (mW_D G sk M) hS a 0 (mW_get M hs') rfl hin hd (fun H1 locs1 hP1 _ hS1 => kk p e s m args below meth cd H1 locs1 ls x C hf (by unfold Wd; rw [← mW_set hs' (show mE G (wI M a i.toNatClampNeg v) a (.inl (0, sL a, rs)) = .inl (G.2.1 0, sL a, .inl (upd (M.1 a) i.toNatClampNeg v)) by show Sum.inl (_, _, Sum.inl _) = _; rw [wI_on]) wI_off]; exact hP1) hS1 hl)
theorem go_last (ha : isK a 1) {v : Int64} (pc' : Nat) (hd : decode μ.2.1 pc = .ok (.lastore, 1)) (hp : pc + 1 = pc') (kk : Go μ R kc ks l G sk fin f pc' lv st (wL M a i.toNatClampNeg v)) : Go μ R kc ks l G sk fin (chk i (sL a) f) pc lv (.long v :: .int i :: .ref (gB G + a) :: st) M := by
  subst hp
  intro p e s m args below meth cd H locs ls x C hf hW hS hl
  obtain ⟨rs, hs⟩ := isK_arr ha (by decide)
  obtain ⟨hin, hf⟩ := chk_in hf
  have hs' := C.2.2.2.2.2.2.2.2.1.get hs
  exact va_last (ws := mW G sk M) C.1 C.2.1 C.2.2.2.2.2.1.1 hW (mW_D G sk M) hS a 1 (mW_get M hs') rfl hin hd (fun H1 locs1 hP1 _ hS1 => kk p e s m args below meth cd H1 locs1 ls x C hf (by unfold Wd; rw [← mW_set hs' (show mE G (wL M a i.toNatClampNeg v) a (.inl (1, sL a, rs)) = .inl (G.2.1 1, sL a, .inr (.inl (vp_updL (M.2 a) i.toNatClampNeg v))) by show Sum.inl (_, _, Sum.inr (Sum.inl _)) = _; rw [wL_on]) wL_off]; exact hP1) hS1 hl)
theorem go_zast (ha : isK a 2) {v : Int32} (pc' : Nat) (hd : decode μ.2.1 pc = .ok (.bastore, 1)) (hp : pc + 1 = pc') (kk : Go μ R kc ks l G sk fin f pc' lv st (wI M a i.toNatClampNeg (vp_nar .boolean v))) : Go μ R kc ks l G sk fin (chk i (sL a) f) pc lv (.int v :: .int i :: .ref (gB G + a) :: st) M := by
  subst hp
  intro p e s m args below meth cd H locs ls x C hf hW hS hl
  obtain ⟨rs, hs⟩ := isK_arr ha (by decide)
  obtain ⟨hin, hf⟩ := chk_in hf
  have hs' := C.2.2.2.2.2.2.2.2.1.get hs
  exact va_zast (ws := mW G sk M) C.1 C.2.1 C.2.2.2.2.2.1.1 hW (mW_D G sk M) hS a 2 (mW_get M hs') rfl hin hd (fun H1 locs1 hP1 _ hS1 => kk p e s m args below meth cd H1 locs1 ls x C hf (by unfold Wd; rw [← mW_set hs' (show mE G (wI M a i.toNatClampNeg (vp_nar .boolean v)) a (.inl (2, sL a, rs)) = .inl (G.2.1 2, sL a, .inl (upd (M.1 a) i.toNatClampNeg (vp_nar .boolean v))) by show Sum.inl (_, _, Sum.inl _) = _; rw [wI_on]) wI_off]; exact hP1) hS1 hl)
theorem go_bast (ha : isK a 3) {v : Int32} (pc' : Nat) (hd : decode μ.2.1 pc = .ok (.bastore, 1)) (hp : pc + 1 = pc') (kk : Go μ R kc ks l G sk fin f pc' lv st (wI M a i.toNatClampNeg (vp_nar .byte v))) : Go μ R kc ks l G sk fin (chk i (sL a) f) pc lv (.int v :: .int i :: .ref (gB G + a) :: st) M := by
  subst hp
  intro p e s m args below meth cd H locs ls x C hf hW hS hl
  obtain ⟨rs, hs⟩ := isK_arr ha (by decide)
  obtain ⟨hin, hf⟩ := chk_in hf
  have hs' := C.2.2.2.2.2.2.2.2.1.get hs
  exact va_bast (ws := mW G sk M) C.1 C.2.1 C.2.2.2.2.2.1.1 hW (mW_D G sk M) hS a 3 (mW_get M hs') rfl hin hd (fun H1 locs1 hP1 _ hS1 => kk p e s m args below meth cd H1 locs1 ls x C hf (by unfold Wd; rw [← mW_set hs' (show mE G (wI M a i.toNatClampNeg (vp_nar .byte v)) a (.inl (3, sL a, rs)) = .inl (G.2.1 3, sL a, .inl (upd (M.1 a) i.toNatClampNeg (vp_nar .byte v))) by show Sum.inl (_, _, Sum.inl _) = _; rw [wI_on]) wI_off]; exact hP1) hS1 hl)
end ARR

section CPY
variable {a b : Nat} {sp dp n : Int32} {idx : Nat}
theorem cpk_in {f : Option α} {la lb : Nat} {x : α} (h : cpk sp dp n la lb f = some x) : (¬ sp < 0 ∧ ¬ dp < 0 ∧ ¬ n < 0 ∧ sp.toNatClampNeg + n.toNatClampNeg ≤ la ∧ dp.toNatClampNeg + n.toNatClampNeg ≤ lb) ∧ f = some x := by
  unfold cpk at h
  split at h
  · cases h
  · rename_i hn
    simp only [not_or, Nat.not_lt] at hn
    exact ⟨hn, h⟩
def mAc (own : String) (idx : Nat) : Prop := Cond.methodLink own idx arraycopyName ∈ mT ∧ Cond.native arraycopyName ∈ mT ∧ Cond.static arraycopyName ∈ mT ∧ Cond.initialized "java/lang/System" ∈ mT
theorem go_copyi (hA : mAc μ.1 idx) (ha : isK a 0) (hb : isK b 0) (pc' : Nat) (hd : decode μ.2.1 pc = .ok (.invokestatic idx, 3)) (hp : pc + 3 = pc') (hr : 1 ≤ R.frames) (hr2 : (st.map fun v => v.category).sum + (nativeFrameWords "java/lang/System" "arraycopy" 5 + 11) ≤ R.locals) (kk : Go μ R kc ks l G sk fin f pc' lv st (cI M a sp.toNatClampNeg b dp.toNatClampNeg n.toNatClampNeg)) : Go μ R kc ks l G sk fin (cpk sp dp n (sL a) (sL b) f) pc lv (.int n :: .int dp :: .ref (gB G + b) :: .int sp :: .ref (gB G + a) :: st) M := by
  subst hp
  intro p e s m args below meth cd H locs ls x C hf hW hS hl
  obtain ⟨ra, hsa⟩ := isK_arr ha (by decide)
  obtain ⟨rb, hsb⟩ := isK_arr hb (by decide)
  obtain ⟨⟨h1, h2, h3, h4, h5⟩, hf⟩ := cpk_in hf
  have hsb' := C.2.2.2.2.2.2.2.2.1.get hsb
  exact va_copyi (ws := mW G sk M) C.1 C.2.1 (C.2.2.1.trans hl.1.symm) C.2.2.2.1 (C.2.2.2.2.1 _ hA.1) (C.2.2.2.2.1 _ hA.2.1) (C.2.2.2.2.1 _ hA.2.2.1) (C.2.2.2.2.1 _ hA.2.2.2) C.2.2.2.2.2.1.1 hW (mW_D G sk M) hS a b 0 0 (mW_get M (C.2.2.2.2.2.2.2.2.1.get hsa)) (mW_get M hsb') rfl rfl rfl h1 h2 h3 h4 h5 (fun i _ => rfl) hr hr2 hd (fun H1 locs1 hP1 _ hS1 => kk p e s m args below meth cd H1 locs1 ls x C hf (by unfold Wd; rw [← mW_set hsb' (show mE G (cI M a sp.toNatClampNeg b dp.toNatClampNeg n.toNatClampNeg) b (.inl (0, sL b, rb)) = .inl (G.2.1 0, sL b, .inl (va_cpy (M.1 a) (M.1 b) sp.toNatClampNeg dp.toNatClampNeg n.toNatClampNeg)) by show Sum.inl (_, _, Sum.inl _) = _; simp [cI]) cI_off]; exact hP1) hS1 hl)
theorem go_copyl (hA : mAc μ.1 idx) (ha : isK a 1) (hb : isK b 1) (pc' : Nat) (hd : decode μ.2.1 pc = .ok (.invokestatic idx, 3)) (hp : pc + 3 = pc') (hr : 1 ≤ R.frames) (hr2 : (st.map fun v => v.category).sum + (nativeFrameWords "java/lang/System" "arraycopy" 5 + 11) ≤ R.locals) (kk : Go μ R kc ks l G sk fin f pc' lv st (cL M a sp.toNatClampNeg b dp.toNatClampNeg n.toNatClampNeg)) : Go μ R kc ks l G sk fin (cpk sp dp n (sL a) (sL b) f) pc lv (.int n :: .int dp :: .ref (gB G + b) :: .int sp :: .ref (gB G + a) :: st) M := by
  subst hp
  intro p e s m args below meth cd H locs ls x C hf hW hS hl
  obtain ⟨ra, hsa⟩ := isK_arr ha (by decide)
  obtain ⟨rb, hsb⟩ := isK_arr hb (by decide)
  obtain ⟨⟨h1, h2, h3, h4, h5⟩, hf⟩ := cpk_in hf
  have hsb' := C.2.2.2.2.2.2.2.2.1.get hsb
  exact va_copyl (ws := mW G sk M) C.1 C.2.1 (C.2.2.1.trans hl.1.symm) C.2.2.2.1 (C.2.2.2.2.1 _ hA.1) (C.2.2.2.2.1 _ hA.2.1) (C.2.2.2.2.1 _ hA.2.2.1) (C.2.2.2.2.1 _ hA.2.2.2) C.2.2.2.2.2.1.1 hW (mW_D G sk M) hS a b 1 1 (mW_get M (C.2.2.2.2.2.2.2.2.1.get hsa)) (mW_get M hsb') rfl rfl rfl h1 h2 h3 h4 h5 (fun i _ => rfl) hr hr2 hd (fun H1 locs1 hP1 _ hS1 => kk p e s m args below meth cd H1 locs1 ls x C hf (by unfold Wd; rw [← mW_set hsb' (show mE G (cL M a sp.toNatClampNeg b dp.toNatClampNeg n.toNatClampNeg) b (.inl (1, sL b, rb)) = .inl (G.2.1 1, sL b, .inr (.inl (va_cpy (M.2 a) (M.2 b) sp.toNatClampNeg dp.toNatClampNeg n.toNatClampNeg))) by show Sum.inl (_, _, Sum.inr (Sum.inl _)) = _; simp [cL]) cL_off]; exact hP1) hS1 hl)
end CPY
section STA
variable {idx : Nat} {i : Int32}
theorem base_T {p : Program} {s : State} {m : MethodId} {args : Array Value} {meth : Method} {c : Code} (C : mCx μ G sk p s m args meth c) {k : Nat} {Cn n d : String} {ty : FieldType} {vs : List Value} (h : gS1 G s k Cn n d ty vs) : va_Z Cn n d (.ref (G.2.2.2 k)) (gA G) s s.heap ∧ va_T ty (G.2.2.2 k) vs.length (fun j => vs.getD j .null) (gA G) s s.heap :=
  ⟨h.1.kept (fun a ha _ => C.2.2.2.2.2.2.2.2.2.1 a ha), h.2.kept (fun a ha _ => C.2.2.2.2.2.2.2.2.2.1 a ha)⟩
theorem go_gets (sel : Nat) {Cn n d : String} {ty : FieldType} {vs : List Value} (hS1 : ∀ s : State, gSt G s → gS1 G s sel Cn n d ty vs) (hl1 : Cond.fieldLink μ.1 idx Cn n d ∈ mT) (pc' : Nat) (hd : decode μ.2.1 pc = .ok (.getstatic idx, 3)) (hp : pc + 3 = pc') (kk : Go μ R kc ks l G sk fin f pc' lv (.ref (G.2.2.2 sel) :: st) M) : Go μ R kc ks l G sk fin f pc lv st M := by
  subst hp
  intro p e s m args below meth cd H locs ls x C hf hW hS hl
  exact va_gets C.1 C.2.1 (base_T C (hS1 s C.2.2.2.2.2.1.2)).1 hS C.2.2.2.1 (C.2.2.2.2.1 _ hl1) (fun _ h => h) hd (kk p e s m args below meth cd H locs ls x C hf hW hS hl)
theorem go_tlen (sel : Nat) {Cn n d : String} {ty : FieldType} {vs : List Value} (hS1 : ∀ s : State, gSt G s → gS1 G s sel Cn n d ty vs) (v : Int32) (hv : Int32.ofNat vs.length = v) (pc' : Nat) (hd : decode μ.2.1 pc = .ok (.arraylength, 1)) (hp : pc + 1 = pc') (kk : Go μ R kc ks l G sk fin f pc' lv (.int v :: st) M) : Go μ R kc ks l G sk fin f pc lv (.ref (G.2.2.2 sel) :: st) M := by
  subst hp
  intro p e s m args below meth cd H locs ls x C hf hW hS hl
  exact va_tlen C.1 C.2.1 (base_T C (hS1 s C.2.2.2.2.2.1.2)).2 hS hv hd (kk p e s m args below meth cd H locs ls x C hf hW hS hl)
theorem go_tald (sel : Nat) {Cn n d : String} {vs : List Int32} (hS1 : ∀ s : State, gSt G s → gS1 G s sel Cn n d .int (vs.map Value.int)) (pc' : Nat) (hd : decode μ.2.1 pc = .ok (.iaload, 1)) (hp : pc + 1 = pc') (kk : Go μ R kc ks l G sk fin f pc' lv (.int (vs.getD i.toNatClampNeg 0) :: st) M) : Go μ R kc ks l G sk fin (chk i vs.length f) pc lv (.int i :: .ref (G.2.2.2 sel) :: st) M := by
  subst hp
  intro p e s m args below meth cd H locs ls x C hf hW hS hl
  obtain ⟨hin, hf⟩ := chk_in hf
  have hT := (base_T C (hS1 s C.2.2.2.2.2.1.2)).2
  have hj : i.toNatClampNeg < vs.length := by unfold vp_in at hin; omega
  exact va_ti C.1 C.2.1 hT hS (by simpa using hin) (v := .int (vs.getD i.toNatClampNeg 0)) (by simp [List.getD_eq_getElem?_getD, List.getElem?_eq_getElem hj]) hd (kk p e s m args below meth cd H locs ls x C hf hW hS hl)
theorem go_tlald (sel : Nat) {Cn n d : String} {vs : List Int64} (hS1 : ∀ s : State, gSt G s → gS1 G s sel Cn n d .long (vs.map Value.long)) (pc' : Nat) (hd : decode μ.2.1 pc = .ok (.laload, 1)) (hp : pc + 1 = pc') (kk : Go μ R kc ks l G sk fin f pc' lv (.long (vs.getD i.toNatClampNeg 0) :: st) M) : Go μ R kc ks l G sk fin (chk i vs.length f) pc lv (.int i :: .ref (G.2.2.2 sel) :: st) M := by
  subst hp
  intro p e s m args below meth cd H locs ls x C hf hW hS hl
  obtain ⟨hin, hf⟩ := chk_in hf
  have hT := (base_T C (hS1 s C.2.2.2.2.2.1.2)).2
  have hj : i.toNatClampNeg < vs.length := by unfold vp_in at hin; omega
  exact va_tl C.1 C.2.1 hT hS (by simpa using hin) (v := .long (vs.getD i.toNatClampNeg 0)) (by simp [List.getD_eq_getElem?_getD, List.getElem?_eq_getElem hj]) hd (kk p e s m args below meth cd H locs ls x C hf hW hS hl)
theorem go_ldc {v : Int32} (hw : Cond.constant μ.1 idx v ∈ mT) (pc' : Nat) (hd : decode μ.2.1 pc = .ok (.ldc idx, 2)) (hp : pc + 2 = pc') (kk : Go μ R kc ks l G sk fin f pc' lv (.int v :: st) M) : Go μ R kc ks l G sk fin f pc lv st M := by
  subst hp
  intro p e s m args below meth cd H locs ls x C hf hW hS hl
  exact lv_ldc C.1 C.2.1 C.2.2.2.1 (C.2.2.2.2.1 _ hw) hd (kk p e s m args below meth cd H locs ls x C hf hW hS hl)
theorem go_ldcw {v : Int32} (hw : Cond.constant μ.1 idx v ∈ mT) (pc' : Nat) (hd : decode μ.2.1 pc = .ok (.ldc_w idx, 3)) (hp : pc + 3 = pc') (kk : Go μ R kc ks l G sk fin f pc' lv (.int v :: st) M) : Go μ R kc ks l G sk fin f pc lv st M := by
  subst hp
  intro p e s m args below meth cd H locs ls x C hf hW hS hl
  exact lv_ldcw C.1 C.2.1 C.2.2.2.1 (C.2.2.2.2.1 _ hw) hd (kk p e s m args below meth cd H locs ls x C hf hW hS hl)
theorem go_ldc2 {v : Int64} (hw : Cond.constantLong μ.1 idx v ∈ mT) (pc' : Nat) (hd : decode μ.2.1 pc = .ok (.ldc2_w idx, 3)) (hp : pc + 3 = pc') (kk : Go μ R kc ks l G sk fin f pc' lv (.long v :: st) M) : Go μ R kc ks l G sk fin f pc lv st M := by
  subst hp
  intro p e s m args below meth cd H locs ls x C hf hW hS hl
  exact lv_ldc2 C.1 C.2.1 C.2.2.2.1 (C.2.2.2.2.1 _ hw) hd (kk p e s m args below meth cd H locs ls x C hf hW hS hl)
theorem go_tsw {x : Int32} {dflt lo hi : Int} {offs : Array Int} {len : Nat} (hd : decode μ.2.1 pc = .ok (.tableswitch dflt lo hi offs, len)) (ff : Int → Option α) (fd : Option α) (td : Nat) (ht : (pc : Int) + dflt = (td : Int)) (kd : (x.toInt < lo ∨ hi < x.toInt) → Go μ R kc ks l G sk fin fd td lv st M) (ki : ¬ x.toInt < lo → ¬ hi < x.toInt → ∃ (off : Int) (tgt : Nat), offs[(x.toInt - lo).toNat]? = some off ∧ (pc : Int) + off = (tgt : Int) ∧ Go μ R kc ks l G sk fin (ff x.toInt) tgt lv st M) : Go μ R kc ks l G sk fin (if x.toInt < lo ∨ hi < x.toInt then fd else ff x.toInt) pc lv (.int x :: st) M := by
  intro p e s m args below meth cd H locs ls x C hf hW hS hl
  split at hf
  · rename_i h
    exact lv_tableOut C.1 C.2.1 hd h ht (kd h p e s m args below meth cd H locs ls x C hf hW hS hl)
  · rename_i h
    simp only [not_or] at h
    obtain ⟨off, tgt, h1, h2, h3⟩ := ki h.1 h.2
    exact lv_tableIn C.1 C.2.1 hd h.1 h.2 h1 h2 (h3 p e s m args below meth cd H locs ls x C hf hW hS hl)
end STA
end GO
/-! ===== contracts ===== -/
def eI (x : Int32 × mM) : Option Value × mM := (some (.int x.1), x.2)
def eV (M : mM) : Option Value × mM := (none, M)
def rm (d : Nat) : Room := { frames := d, cells := 0, slots := 0, locals := 64 * d }
def mP (G : mG) (sk : List mS) (av : List Value) (M : mM) : Array Value → State → Prop := va_Pc av (fun U => Wd G sk M U.heap ∧ gK G U ∧ (∀ q, q < gB G → U.heap[q]? = G.2.2.1[q]?) ∧ gB G ≤ U.heap.size)
def mQ (G : mG) (sk : List mS) (r : Option Value × mM) : Array Value → State → Outcome → State → Prop := fun _ st o t => o = .returned r.1 ∧ Wd G sk r.2 t.heap ∧ va_F (gA G) st t
def mFin {α : Type} (G : mG) (sk : List mS) (enc : α → Option Value × mM) : α → State → Array Value → List Frame → State → Prop := fun x s args below => MQ below (mQ G sk (enc x)) args s 0 0 (gA G)
def Mt {α : Type} (l : Launch) (G : mG) (sk : List mS) (y : MethodName) (μ : mU) (d : Nat) (av : List Value) (M : mM) (enc : α → Option Value × mM) (f : Option α) : Prop :=
  skOK sk → ∀ x, f = some x → Met l y (.code y μ.2.1 μ.2.2.1 μ.2.2.2 :: mT) (rm d) (mP G sk av M) (mQ G sk (enc x)) 0 0 (gA G)
theorem mP_blind (G : mG) (sk : List mS) (av : List Value) (M : mM) : FrameBlind (mP G sk av M) := fun a U g mk q => ⟨q.1, q.2.1, q.2.2.1.moved (Vm.Alike.refl U.vm), q.2.2.2⟩
theorem Mt.of {α : Type} {l : Launch} {G : mG} {sk : List mS} {y : MethodName} {μ : mU} {d : Nat} {av : List Value} {M : mM} {enc : α → Option Value × mM} {f : Option α} (hy : plainName y.cls = true) (hown : y.cls = μ.1) (hlen : (lg_sl av).length ≤ μ.2.2.1) (h : Go μ (rm d) 0 0 l G sk (mFin G sk enc) f 0 (lv_args 0 av) [] M) : Mt l G sk y μ d av M enc f := by
  intro hsk x hf
  refine Met.ofW (cc := μ.2.1) (maxL := μ.2.2.1) (ret := μ.2.2.2) hy rfl ?_
  intro p e s m args below meth c s₁ B hml hv
  obtain ⟨rfl, hW, hK, hb, hz⟩ := hv
  have hts := atoms_spec (ws := .code y μ.2.1 μ.2.2.1 μ.2.2.2 :: mT) B.pre
  have hown' : s.vm.findClass μ.1 = some m.cls := by rw [← hown]; exact findClass_of_methodNamed B.named
  have hl := lv_entry av (n := μ.2.2.1) hlen
  rw [lg_entry_eq]
  exact h p e s m _ below meth c s.heap [] _ x ⟨B.exec, B.bytes, hml, hown', fun w hw => hts w (List.mem_cons_of_mem _ hw), hK, B.notSynchronized, B.returns, hsk, hb, hz⟩ hf hW va_S.rf hl
section RET
variable {μ : mU} {R : Room} {l : Launch} {G : mG} {sk : List mS} {pc : Nat} {lv : List (Nat × Value)} {M : mM}
theorem mQ_end {s : State} {H : Heap} {locs : List Loc} {args : Array Value} {r : Option Value × mM} (hW : Wd G sk r.2 H) (hS : va_S (gA G) s.heap H locs) : ∀ t : State, t.heap = H → s.WarmedH t.vm → mQ G sk r args s (.returned r.1) t := fun t ht _ => ⟨rfl, by rw [ht]; exact hW, hS.F ht⟩
theorem go_iret {v : Int32} (hr : μ.2.2.2 = some .int) (hd : decode μ.2.1 pc = .ok (.ireturn, 1)) : Go μ R 0 0 l G sk (mFin G sk eI) (some (v, M)) pc lv [.int v] M := by
  intro p e s m args below meth cd H locs ls x C hf hW hS hl
  cases hf
  exact W.iret C.1 C.2.1 (C.2.2.2.2.2.2.2.1.trans hr) (mQ_end hW hS) hS.2.2 hd C.2.2.2.2.2.2.1
def rtB (v : Int32) (M : mM) : Option (Int32 × mM) := if v = 0 ∨ v = 1 then some (v, M) else none
theorem go_zret {v : Int32} (hr : μ.2.2.2 = some .boolean) (hd : decode μ.2.1 pc = .ok (.ireturn, 1)) : Go μ R 0 0 l G sk (mFin G sk eI) (rtB v M) pc lv [.int v] M := by
  intro p e s m args below meth cd H locs ls x C hf hW hS hl
  unfold rtB at hf
  split at hf
  · rename_i hv
    cases hf
    exact W.zret C.1 C.2.1 (C.2.2.2.2.2.2.2.1.trans hr) (by rcases hv with rfl | rfl <;> rfl) (mQ_end hW hS) hS.2.2 hd C.2.2.2.2.2.2.1
  · cases hf
theorem go_vret (hr : μ.2.2.2 = none) (hd : decode μ.2.1 pc = .ok (.return_, 1)) : Go μ R 0 0 l G sk (mFin G sk eV) (some M) pc lv [] M := by
  intro p e s m args below meth cd H locs ls x C hf hW hS hl
  cases hf
  exact W.vret C.1 C.2.1 (C.2.2.2.2.2.2.2.1.trans hr) (mQ_end hW hS) hS.2.2 hd C.2.2.2.2.2.2.1
end RET
/-- behind a call -/
theorem w_run {p : Program} {l : Launch} {e : Env} {R : Room} {s : State} {m : MethodId} {args : Array Value} {below : List Frame} {meth : Method} {c : Code} {H : Heap} {locs : List Loc} {kc ks : Nat} {Q : State → Prop} {pc : Nat} {ls : Array Slot} {rest st0 : List Value} {a : Array Value} {G : mG} {sk : List mS} {r : Option Value × mM}
    (hr : va_Run p l e R s m args below meth c H locs kc ks 0 0 (F0 m pc ls st0) rest (mQ G sk r a) (gA G)) (hS : va_S (gA G) s.heap H locs)
    (kk : ∀ (H1 : Heap) (locs1 : List Loc), Wd G sk r.2 H1 → va_S (gA G) s.heap H1 locs1 → W p l e R s m args below meth c H1 locs1 kc ks Q (F0 m (pc + 3) ls (r.1.toList ++ rest))) : W p l e R s m args below meth c H locs kc ks Q (F0 m pc ls st0) := by
  intro T hT X
  obtain ⟨v, st₀, t, T', L, h0, X', hL, e1, e2, ⟨hv, hW, hz, hk⟩, st⟩ := hr T hT X
  cases hv
  rw [h0] at hz hk
  obtain ⟨t2, a1, b1⟩ := kk T'.heap (locs ++ L) (by rw [e1]; exact hW)
    ⟨Nat.le_trans hS.1 (by rw [e1]; exact hz), fun q h1 h2 => by rw [e1, hk q (Nat.lt_of_lt_of_le h1 hS.1) h2]; exact hS.2.1 q h1 h2, fun q hq => by
      rcases List.mem_append.mp hq with h | h
      · exact hS.2.2 q h
      · exact hL q h⟩ T' rfl X'
  exact ⟨t2, st t2 a1, b1⟩
def mCw (own : String) (idx : Nat) (C : String) (y : MethodName) (μ' : mU) (n : Nat) : Prop := Cond.methodLink own idx y ∈ mT ∧ Cond.instanceMethod y ∈ mT ∧ Cond.selects C y y ∈ mT ∧ Cond.initialized C ∈ mT ∧ Cond.code y μ'.2.1 μ'.2.2.1 μ'.2.2.2 ∈ mT ∧ (y.cls = C ∧ y.cls ≠ "java/lang/invoke/MethodHandle" ∧ y.cls ≠ "java/lang/invoke/VarHandle" ∧ (parseMethodDescriptor y.desc).map (fun d => d.parameters.length) = some n) ∧ μ'.2.2.1 ≤ 45
def mCs (own : String) (idx : Nat) (y : MethodName) (μ' : mU) (n : Nat) : Prop := Cond.methodLink own idx y ∈ mT ∧ Cond.static y ∈ mT ∧ Cond.initialized y.cls ∈ mT ∧ Cond.code y μ'.2.1 μ'.2.2.1 μ'.2.2.2 ∈ mT ∧ (y.cls ≠ "java/lang/invoke/MethodHandle" ∧ y.cls ≠ "java/lang/invoke/VarHandle" ∧ (parseMethodDescriptor y.desc).map (fun d => d.parameters.length) = some n) ∧ μ'.2.2.1 ≤ 45
theorem mT_code {y : MethodName} {μ' : mU} (h : Cond.code y μ'.2.1 μ'.2.2.1 μ'.2.2.2 ∈ mT) : GoodIn mT (.code y μ'.2.1 μ'.2.2.1 μ'.2.2.2 :: mT) := fun w hw => (List.mem_cons.mp hw).elim (fun e => mT_good w (e ▸ h)) (mT_good w)
section CALL
variable {α β : Type} {μ : mU} {R : Room} {kc ks : Nat} {l : Launch} {G : mG} {sk : List mS} {fin : α → State → Array Value → List Frame → State → Prop} {pc : Nat} {lv : List (Nat × Value)} {M : mM}
variable {idx n : Nat} {y : MethodName} {μ' : mU} {enc : β → Option Value × mM} {g : Option β} {kf : β → Option α}
theorem go_callV (d' : Nat) {As rest : List Value} {o c : Nat} {C : String} {T : u_T} {N : Nat} {ty : Nat → FieldType} (K : mCl c C T N ty) (cw : mCw μ.1 idx C y μ' n) (hM : Mt l G sk y μ' d' (.ref (gB G + o) :: As) M enc g) (ho : isK o (10 + c)) (hn : As.length = n) (pc' : Nat) (hd : decode μ.2.1 pc = .ok (.invokevirtual idx, 3)) (hp : pc + 3 = pc') (hr : d' + 1 ≤ R.frames ∧ 64 * (d' + 1) ≤ R.locals) (hk : kc ≤ R.cells ∧ ks ≤ R.slots) (hst : (rest.map fun v => v.category).sum ≤ 8) (kk : ∀ x, g = some x → Go μ R kc ks l G sk fin (kf x) pc' lv ((enc x).1.toList ++ rest) (enc x).2) : Go μ R kc ks l G sk fin (g.bind kf) pc lv (As.reverse ++ .ref (gB G + o) :: rest) M := by
  subst hp
  intro p e s m args below meth cd H locs ls x C hf hW hS hl
  obtain ⟨z, hz, hf⟩ := Option.bind_eq_some_iff.mp hf
  obtain ⟨fs, hs⟩ := isK_obj ho K.2.2.2.2
  obtain ⟨c1, c2, c3, c4, c5, c6, c7⟩ := cw
  have hs' := C.2.2.2.2.2.2.2.2.1.get hs
  refine w_run (va_runV (As := As) (rest := rest) (b := gB G + o) ⟨C.1, C.2.1, C.2.2.1, C.2.2.2.1, C.2.2.2.2.1⟩ (hM C.2.2.2.2.2.2.2.2.1 z hz) (cwV n C.2.2.2.2.1 (fun w hw => ?_) rfl rfl rfl c6 ⟨hr.1, by show 8 + (μ'.2.2.1 + 11) + 64 * d' ≤ R.locals; omega⟩) ⟨mP_blind _ _ _ _, va_recv (q := (_, T, N)) C.2.2.2.2.2.1.1 hW K.1 (mW_get M hs'), fun U hU hWd => ⟨rfl, by rw [hU]; exact hW, C.2.2.2.2.2.1.moved hWd.alike, fun q hq => by rw [hU, hS.2.1 q (Nat.lt_of_lt_of_le hq C.2.2.2.2.2.2.2.2.2.2) (Nat.not_le.mpr hq)]; exact C.2.2.2.2.2.2.2.2.2.1 q hq, by rw [hU]; exact Nat.le_trans C.2.2.2.2.2.2.2.2.2.2 hS.1⟩⟩ rfl hn hl.1 rfl (lv_room hst) hd ⟨by omega, by omega⟩) hS (fun H1 locs1 hW1 hS1 => kk z hz p e s m args below meth cd H1 locs1 ls x C hf hW1 hS1 hl)
  unfold wsV at hw
  rcases List.mem_append.mp hw with h | h
  · simp only [List.mem_cons, List.not_mem_nil, or_false] at h
    rcases h with rfl | rfl | rfl | rfl
    · exact mT_good _ c1
    · exact mT_good _ c2
    · exact mT_good _ c3
    · exact mT_good _ c4
  · exact mT_code c5 w h
theorem go_callS (d' : Nat) {As rest : List Value} (cw : mCs μ.1 idx y μ' n) (hM : Mt l G sk y μ' d' As M enc g) (hn : As.length = n) (pc' : Nat) (hd : decode μ.2.1 pc = .ok (.invokestatic idx, 3)) (hp : pc + 3 = pc') (hr : d' + 1 ≤ R.frames ∧ 64 * (d' + 1) ≤ R.locals) (hk : kc ≤ R.cells ∧ ks ≤ R.slots) (hst : (rest.map fun v => v.category).sum ≤ 8) (kk : ∀ x, g = some x → Go μ R kc ks l G sk fin (kf x) pc' lv ((enc x).1.toList ++ rest) (enc x).2) : Go μ R kc ks l G sk fin (g.bind kf) pc lv (As.reverse ++ rest) M := by
  subst hp
  intro p e s m args below meth cd H locs ls x C hf hW hS hl
  obtain ⟨z, hz, hf⟩ := Option.bind_eq_some_iff.mp hf
  obtain ⟨c1, c2, c3, c4, c6, c7⟩ := cw
  refine w_run (va_runS (As := As) (rest := rest) ⟨C.1, C.2.1, C.2.2.1, C.2.2.2.1, C.2.2.2.2.1⟩ (hM C.2.2.2.2.2.2.2.2.1 z hz) (va_cwS n C.2.2.2.2.1 (fun w hw => ?_) rfl rfl rfl c6 ⟨hr.1, by show 8 + (μ'.2.2.1 + 11) + 64 * d' ≤ R.locals; omega⟩) ⟨mP_blind _ _ _ _, fun U hU hWd => ⟨rfl, by rw [hU]; exact hW, C.2.2.2.2.2.1.moved hWd.alike, fun q hq => by rw [hU, hS.2.1 q (Nat.lt_of_lt_of_le hq C.2.2.2.2.2.2.2.2.2.2) (Nat.not_le.mpr hq)]; exact C.2.2.2.2.2.2.2.2.2.1 q hq, by rw [hU]; exact Nat.le_trans C.2.2.2.2.2.2.2.2.2.2 hS.1⟩⟩ rfl hn hl.1 rfl (lv_room hst) hd ⟨by omega, by omega⟩) hS (fun H1 locs1 hW1 hS1 => kk z hz p e s m args below meth cd H1 locs1 ls x C hf hW1 hS1 hl)
  unfold va_wsS at hw
  rcases List.mem_append.mp hw with h | h
  · simp only [List.mem_cons, List.not_mem_nil, or_false] at h
    rcases h with rfl | rfl | rfl
    · exact mT_good _ c1
    · exact mT_good _ c2
    · exact mT_good _ c3
  · exact mT_code c4 w h
end CALL

def bI {α : Type} (g : Option (Int32 × mM)) (k : Int32 → mM → Option α) : Option α := match g with
  | none => none
  | some q => k q.1 q.2
def bV {α : Type} (g : Option mM) (k : mM → Option α) : Option α := match g with
  | none => none
  | some q => k q
theorem bI_in {α : Type} {g : Option (Int32 × mM)} {k : Int32 → mM → Option α} : bI g k = g.bind (fun q => k q.1 q.2) := by cases g <;> rfl
theorem bV_in {α : Type} {g : Option mM} {k : mM → Option α} : bV g k = g.bind k := by cases g <;> rfl
section CALLN
variable {α : Type} {μ : mU} {R : Room} {kc ks : Nat} {l : Launch} {G : mG} {sk : List mS} {fin : α → State → Array Value → List Frame → State → Prop} {pc : Nat} {lv : List (Nat × Value)} {M : mM}
variable {idx : Nat} {y : MethodName} {μ' : mU} {rest : List Value}
theorem go_cVI0 (d' : Nat) {o c : Nat} {C : String} {T : u_T} {N : Nat} {ty : Nat → FieldType} {g : Option (Int32 × mM)} {k : Int32 → mM → Option α} (K : mCl c C T N ty) (cw : mCw μ.1 idx C y μ' 0) (hM : Mt l G sk y μ' d' (.ref (gB G + o) :: []) M eI g) (ho : isK o (10 + c)) (pc' : Nat) (hd : decode μ.2.1 pc = .ok (.invokevirtual idx, 3)) (hp : pc + 3 = pc') (hr : d' + 1 ≤ R.frames ∧ 64 * (d' + 1) ≤ R.locals) (hk : kc ≤ R.cells ∧ ks ≤ R.slots) (hst : (rest.map fun v => v.category).sum ≤ 8) (kk : ∀ (r : Int32) (N : mM), g = some (r, N) → Go μ R kc ks l G sk fin (k r N) pc' lv (.int r :: rest) N) : Go μ R kc ks l G sk fin (bI g k) pc lv (.ref (gB G + o) :: rest) M := by
  rw [bI_in]
  exact go_callV d' K cw hM ho rfl pc' hd hp hr hk hst (fun x hx => kk x.1 x.2 hx)
theorem go_cSI0 (d' : Nat) {g : Option (Int32 × mM)} {k : Int32 → mM → Option α} (cw : mCs μ.1 idx y μ' 0) (hM : Mt l G sk y μ' d' [] M eI g) (pc' : Nat) (hd : decode μ.2.1 pc = .ok (.invokestatic idx, 3)) (hp : pc + 3 = pc') (hr : d' + 1 ≤ R.frames ∧ 64 * (d' + 1) ≤ R.locals) (hk : kc ≤ R.cells ∧ ks ≤ R.slots) (hst : (rest.map fun v => v.category).sum ≤ 8) (kk : ∀ (r : Int32) (N : mM), g = some (r, N) → Go μ R kc ks l G sk fin (k r N) pc' lv (.int r :: rest) N) : Go μ R kc ks l G sk fin (bI g k) pc lv (rest) M := by
  rw [bI_in]
  exact go_callS d' cw hM rfl pc' hd hp hr hk hst (fun x hx => kk x.1 x.2 hx)
theorem go_cVV0 (d' : Nat) {o c : Nat} {C : String} {T : u_T} {N : Nat} {ty : Nat → FieldType} {g : Option mM} {k : mM → Option α} (K : mCl c C T N ty) (cw : mCw μ.1 idx C y μ' 0) (hM : Mt l G sk y μ' d' (.ref (gB G + o) :: []) M eV g) (ho : isK o (10 + c)) (pc' : Nat) (hd : decode μ.2.1 pc = .ok (.invokevirtual idx, 3)) (hp : pc + 3 = pc') (hr : d' + 1 ≤ R.frames ∧ 64 * (d' + 1) ≤ R.locals) (hk : kc ≤ R.cells ∧ ks ≤ R.slots) (hst : (rest.map fun v => v.category).sum ≤ 8) (kk : ∀ (N : mM), g = some N → Go μ R kc ks l G sk fin (k N) pc' lv rest N) : Go μ R kc ks l G sk fin (bV g k) pc lv (.ref (gB G + o) :: rest) M := by
  rw [bV_in]
  exact go_callV d' K cw hM ho rfl pc' hd hp hr hk hst (fun x hx => kk x hx)
theorem go_cSV0 (d' : Nat) {g : Option mM} {k : mM → Option α} (cw : mCs μ.1 idx y μ' 0) (hM : Mt l G sk y μ' d' [] M eV g) (pc' : Nat) (hd : decode μ.2.1 pc = .ok (.invokestatic idx, 3)) (hp : pc + 3 = pc') (hr : d' + 1 ≤ R.frames ∧ 64 * (d' + 1) ≤ R.locals) (hk : kc ≤ R.cells ∧ ks ≤ R.slots) (hst : (rest.map fun v => v.category).sum ≤ 8) (kk : ∀ (N : mM), g = some N → Go μ R kc ks l G sk fin (k N) pc' lv rest N) : Go μ R kc ks l G sk fin (bV g k) pc lv (rest) M := by
  rw [bV_in]
  exact go_callS d' cw hM rfl pc' hd hp hr hk hst (fun x hx => kk x hx)
theorem go_cVI1 (d' : Nat) {a1 : Value} {o c : Nat} {C : String} {T : u_T} {N : Nat} {ty : Nat → FieldType} {g : Option (Int32 × mM)} {k : Int32 → mM → Option α} (K : mCl c C T N ty) (cw : mCw μ.1 idx C y μ' 1) (hM : Mt l G sk y μ' d' (.ref (gB G + o) :: [a1]) M eI g) (ho : isK o (10 + c)) (pc' : Nat) (hd : decode μ.2.1 pc = .ok (.invokevirtual idx, 3)) (hp : pc + 3 = pc') (hr : d' + 1 ≤ R.frames ∧ 64 * (d' + 1) ≤ R.locals) (hk : kc ≤ R.cells ∧ ks ≤ R.slots) (hst : (rest.map fun v => v.category).sum ≤ 8) (kk : ∀ (r : Int32) (N : mM), g = some (r, N) → Go μ R kc ks l G sk fin (k r N) pc' lv (.int r :: rest) N) : Go μ R kc ks l G sk fin (bI g k) pc lv (a1 :: .ref (gB G + o) :: rest) M := by
  rw [bI_in]
  exact go_callV d' K cw hM ho rfl pc' hd hp hr hk hst (fun x hx => kk x.1 x.2 hx)
theorem go_cSI1 (d' : Nat) {a1 : Value} {g : Option (Int32 × mM)} {k : Int32 → mM → Option α} (cw : mCs μ.1 idx y μ' 1) (hM : Mt l G sk y μ' d' [a1] M eI g) (pc' : Nat) (hd : decode μ.2.1 pc = .ok (.invokestatic idx, 3)) (hp : pc + 3 = pc') (hr : d' + 1 ≤ R.frames ∧ 64 * (d' + 1) ≤ R.locals) (hk : kc ≤ R.cells ∧ ks ≤ R.slots) (hst : (rest.map fun v => v.category).sum ≤ 8) (kk : ∀ (r : Int32) (N : mM), g = some (r, N) → Go μ R kc ks l G sk fin (k r N) pc' lv (.int r :: rest) N) : Go μ R kc ks l G sk fin (bI g k) pc lv (a1 :: rest) M := by
  rw [bI_in]
  exact go_callS d' cw hM rfl pc' hd hp hr hk hst (fun x hx => kk x.1 x.2 hx)
theorem go_cVV1 (d' : Nat) {a1 : Value} {o c : Nat} {C : String} {T : u_T} {N : Nat} {ty : Nat → FieldType} {g : Option mM} {k : mM → Option α} (K : mCl c C T N ty) (cw : mCw μ.1 idx C y μ' 1) (hM : Mt l G sk y μ' d' (.ref (gB G + o) :: [a1]) M eV g) (ho : isK o (10 + c)) (pc' : Nat) (hd : decode μ.2.1 pc = .ok (.invokevirtual idx, 3)) (hp : pc + 3 = pc') (hr : d' + 1 ≤ R.frames ∧ 64 * (d' + 1) ≤ R.locals) (hk : kc ≤ R.cells ∧ ks ≤ R.slots) (hst : (rest.map fun v => v.category).sum ≤ 8) (kk : ∀ (N : mM), g = some N → Go μ R kc ks l G sk fin (k N) pc' lv rest N) : Go μ R kc ks l G sk fin (bV g k) pc lv (a1 :: .ref (gB G + o) :: rest) M := by
  rw [bV_in]
  exact go_callV d' K cw hM ho rfl pc' hd hp hr hk hst (fun x hx => kk x hx)
theorem go_cSV1 (d' : Nat) {a1 : Value} {g : Option mM} {k : mM → Option α} (cw : mCs μ.1 idx y μ' 1) (hM : Mt l G sk y μ' d' [a1] M eV g) (pc' : Nat) (hd : decode μ.2.1 pc = .ok (.invokestatic idx, 3)) (hp : pc + 3 = pc') (hr : d' + 1 ≤ R.frames ∧ 64 * (d' + 1) ≤ R.locals) (hk : kc ≤ R.cells ∧ ks ≤ R.slots) (hst : (rest.map fun v => v.category).sum ≤ 8) (kk : ∀ (N : mM), g = some N → Go μ R kc ks l G sk fin (k N) pc' lv rest N) : Go μ R kc ks l G sk fin (bV g k) pc lv (a1 :: rest) M := by
  rw [bV_in]
  exact go_callS d' cw hM rfl pc' hd hp hr hk hst (fun x hx => kk x hx)
theorem go_cVI2 (d' : Nat) {a1 a2 : Value} {o c : Nat} {C : String} {T : u_T} {N : Nat} {ty : Nat → FieldType} {g : Option (Int32 × mM)} {k : Int32 → mM → Option α} (K : mCl c C T N ty) (cw : mCw μ.1 idx C y μ' 2) (hM : Mt l G sk y μ' d' (.ref (gB G + o) :: [a1, a2]) M eI g) (ho : isK o (10 + c)) (pc' : Nat) (hd : decode μ.2.1 pc = .ok (.invokevirtual idx, 3)) (hp : pc + 3 = pc') (hr : d' + 1 ≤ R.frames ∧ 64 * (d' + 1) ≤ R.locals) (hk : kc ≤ R.cells ∧ ks ≤ R.slots) (hst : (rest.map fun v => v.category).sum ≤ 8) (kk : ∀ (r : Int32) (N : mM), g = some (r, N) → Go μ R kc ks l G sk fin (k r N) pc' lv (.int r :: rest) N) : Go μ R kc ks l G sk fin (bI g k) pc lv (a2 :: a1 :: .ref (gB G + o) :: rest) M := by
  rw [bI_in]
  exact go_callV d' K cw hM ho rfl pc' hd hp hr hk hst (fun x hx => kk x.1 x.2 hx)
theorem go_cSI2 (d' : Nat) {a1 a2 : Value} {g : Option (Int32 × mM)} {k : Int32 → mM → Option α} (cw : mCs μ.1 idx y μ' 2) (hM : Mt l G sk y μ' d' [a1, a2] M eI g) (pc' : Nat) (hd : decode μ.2.1 pc = .ok (.invokestatic idx, 3)) (hp : pc + 3 = pc') (hr : d' + 1 ≤ R.frames ∧ 64 * (d' + 1) ≤ R.locals) (hk : kc ≤ R.cells ∧ ks ≤ R.slots) (hst : (rest.map fun v => v.category).sum ≤ 8) (kk : ∀ (r : Int32) (N : mM), g = some (r, N) → Go μ R kc ks l G sk fin (k r N) pc' lv (.int r :: rest) N) : Go μ R kc ks l G sk fin (bI g k) pc lv (a2 :: a1 :: rest) M := by
  rw [bI_in]
  exact go_callS d' cw hM rfl pc' hd hp hr hk hst (fun x hx => kk x.1 x.2 hx)
theorem go_cVV2 (d' : Nat) {a1 a2 : Value} {o c : Nat} {C : String} {T : u_T} {N : Nat} {ty : Nat → FieldType} {g : Option mM} {k : mM → Option α} (K : mCl c C T N ty) (cw : mCw μ.1 idx C y μ' 2) (hM : Mt l G sk y μ' d' (.ref (gB G + o) :: [a1, a2]) M eV g) (ho : isK o (10 + c)) (pc' : Nat) (hd : decode μ.2.1 pc = .ok (.invokevirtual idx, 3)) (hp : pc + 3 = pc') (hr : d' + 1 ≤ R.frames ∧ 64 * (d' + 1) ≤ R.locals) (hk : kc ≤ R.cells ∧ ks ≤ R.slots) (hst : (rest.map fun v => v.category).sum ≤ 8) (kk : ∀ (N : mM), g = some N → Go μ R kc ks l G sk fin (k N) pc' lv rest N) : Go μ R kc ks l G sk fin (bV g k) pc lv (a2 :: a1 :: .ref (gB G + o) :: rest) M := by
  rw [bV_in]
  exact go_callV d' K cw hM ho rfl pc' hd hp hr hk hst (fun x hx => kk x hx)
theorem go_cSV2 (d' : Nat) {a1 a2 : Value} {g : Option mM} {k : mM → Option α} (cw : mCs μ.1 idx y μ' 2) (hM : Mt l G sk y μ' d' [a1, a2] M eV g) (pc' : Nat) (hd : decode μ.2.1 pc = .ok (.invokestatic idx, 3)) (hp : pc + 3 = pc') (hr : d' + 1 ≤ R.frames ∧ 64 * (d' + 1) ≤ R.locals) (hk : kc ≤ R.cells ∧ ks ≤ R.slots) (hst : (rest.map fun v => v.category).sum ≤ 8) (kk : ∀ (N : mM), g = some N → Go μ R kc ks l G sk fin (k N) pc' lv rest N) : Go μ R kc ks l G sk fin (bV g k) pc lv (a2 :: a1 :: rest) M := by
  rw [bV_in]
  exact go_callS d' cw hM rfl pc' hd hp hr hk hst (fun x hx => kk x hx)
theorem go_cVI3 (d' : Nat) {a1 a2 a3 : Value} {o c : Nat} {C : String} {T : u_T} {N : Nat} {ty : Nat → FieldType} {g : Option (Int32 × mM)} {k : Int32 → mM → Option α} (K : mCl c C T N ty) (cw : mCw μ.1 idx C y μ' 3) (hM : Mt l G sk y μ' d' (.ref (gB G + o) :: [a1, a2, a3]) M eI g) (ho : isK o (10 + c)) (pc' : Nat) (hd : decode μ.2.1 pc = .ok (.invokevirtual idx, 3)) (hp : pc + 3 = pc') (hr : d' + 1 ≤ R.frames ∧ 64 * (d' + 1) ≤ R.locals) (hk : kc ≤ R.cells ∧ ks ≤ R.slots) (hst : (rest.map fun v => v.category).sum ≤ 8) (kk : ∀ (r : Int32) (N : mM), g = some (r, N) → Go μ R kc ks l G sk fin (k r N) pc' lv (.int r :: rest) N) : Go μ R kc ks l G sk fin (bI g k) pc lv (a3 :: a2 :: a1 :: .ref (gB G + o) :: rest) M := by
  rw [bI_in]
  exact go_callV d' K cw hM ho rfl pc' hd hp hr hk hst (fun x hx => kk x.1 x.2 hx)
theorem go_cSI3 (d' : Nat) {a1 a2 a3 : Value} {g : Option (Int32 × mM)} {k : Int32 → mM → Option α} (cw : mCs μ.1 idx y μ' 3) (hM : Mt l G sk y μ' d' [a1, a2, a3] M eI g) (pc' : Nat) (hd : decode μ.2.1 pc = .ok (.invokestatic idx, 3)) (hp : pc + 3 = pc') (hr : d' + 1 ≤ R.frames ∧ 64 * (d' + 1) ≤ R.locals) (hk : kc ≤ R.cells ∧ ks ≤ R.slots) (hst : (rest.map fun v => v.category).sum ≤ 8) (kk : ∀ (r : Int32) (N : mM), g = some (r, N) → Go μ R kc ks l G sk fin (k r N) pc' lv (.int r :: rest) N) : Go μ R kc ks l G sk fin (bI g k) pc lv (a3 :: a2 :: a1 :: rest) M := by
  rw [bI_in]
  exact go_callS d' cw hM rfl pc' hd hp hr hk hst (fun x hx => kk x.1 x.2 hx)
theorem go_cVV3 (d' : Nat) {a1 a2 a3 : Value} {o c : Nat} {C : String} {T : u_T} {N : Nat} {ty : Nat → FieldType} {g : Option mM} {k : mM → Option α} (K : mCl c C T N ty) (cw : mCw μ.1 idx C y μ' 3) (hM : Mt l G sk y μ' d' (.ref (gB G + o) :: [a1, a2, a3]) M eV g) (ho : isK o (10 + c)) (pc' : Nat) (hd : decode μ.2.1 pc = .ok (.invokevirtual idx, 3)) (hp : pc + 3 = pc') (hr : d' + 1 ≤ R.frames ∧ 64 * (d' + 1) ≤ R.locals) (hk : kc ≤ R.cells ∧ ks ≤ R.slots) (hst : (rest.map fun v => v.category).sum ≤ 8) (kk : ∀ (N : mM), g = some N → Go μ R kc ks l G sk fin (k N) pc' lv rest N) : Go μ R kc ks l G sk fin (bV g k) pc lv (a3 :: a2 :: a1 :: .ref (gB G + o) :: rest) M := by
  rw [bV_in]
  exact go_callV d' K cw hM ho rfl pc' hd hp hr hk hst (fun x hx => kk x hx)
theorem go_cSV3 (d' : Nat) {a1 a2 a3 : Value} {g : Option mM} {k : mM → Option α} (cw : mCs μ.1 idx y μ' 3) (hM : Mt l G sk y μ' d' [a1, a2, a3] M eV g) (pc' : Nat) (hd : decode μ.2.1 pc = .ok (.invokestatic idx, 3)) (hp : pc + 3 = pc') (hr : d' + 1 ≤ R.frames ∧ 64 * (d' + 1) ≤ R.locals) (hk : kc ≤ R.cells ∧ ks ≤ R.slots) (hst : (rest.map fun v => v.category).sum ≤ 8) (kk : ∀ (N : mM), g = some N → Go μ R kc ks l G sk fin (k N) pc' lv rest N) : Go μ R kc ks l G sk fin (bV g k) pc lv (a3 :: a2 :: a1 :: rest) M := by
  rw [bV_in]
  exact go_callS d' cw hM rfl pc' hd hp hr hk hst (fun x hx => kk x hx)
theorem go_cVI4 (d' : Nat) {a1 a2 a3 a4 : Value} {o c : Nat} {C : String} {T : u_T} {N : Nat} {ty : Nat → FieldType} {g : Option (Int32 × mM)} {k : Int32 → mM → Option α} (K : mCl c C T N ty) (cw : mCw μ.1 idx C y μ' 4) (hM : Mt l G sk y μ' d' (.ref (gB G + o) :: [a1, a2, a3, a4]) M eI g) (ho : isK o (10 + c)) (pc' : Nat) (hd : decode μ.2.1 pc = .ok (.invokevirtual idx, 3)) (hp : pc + 3 = pc') (hr : d' + 1 ≤ R.frames ∧ 64 * (d' + 1) ≤ R.locals) (hk : kc ≤ R.cells ∧ ks ≤ R.slots) (hst : (rest.map fun v => v.category).sum ≤ 8) (kk : ∀ (r : Int32) (N : mM), g = some (r, N) → Go μ R kc ks l G sk fin (k r N) pc' lv (.int r :: rest) N) : Go μ R kc ks l G sk fin (bI g k) pc lv (a4 :: a3 :: a2 :: a1 :: .ref (gB G + o) :: rest) M := by
  rw [bI_in]
  exact go_callV d' K cw hM ho rfl pc' hd hp hr hk hst (fun x hx => kk x.1 x.2 hx)
theorem go_cSI4 (d' : Nat) {a1 a2 a3 a4 : Value} {g : Option (Int32 × mM)} {k : Int32 → mM → Option α} (cw : mCs μ.1 idx y μ' 4) (hM : Mt l G sk y μ' d' [a1, a2, a3, a4] M eI g) (pc' : Nat) (hd : decode μ.2.1 pc = .ok (.invokestatic idx, 3)) (hp : pc + 3 = pc') (hr : d' + 1 ≤ R.frames ∧ 64 * (d' + 1) ≤ R.locals) (hk : kc ≤ R.cells ∧ ks ≤ R.slots) (hst : (rest.map fun v => v.category).sum ≤ 8) (kk : ∀ (r : Int32) (N : mM), g = some (r, N) → Go μ R kc ks l G sk fin (k r N) pc' lv (.int r :: rest) N) : Go μ R kc ks l G sk fin (bI g k) pc lv (a4 :: a3 :: a2 :: a1 :: rest) M := by
  rw [bI_in]
  exact go_callS d' cw hM rfl pc' hd hp hr hk hst (fun x hx => kk x.1 x.2 hx)
theorem go_cVV4 (d' : Nat) {a1 a2 a3 a4 : Value} {o c : Nat} {C : String} {T : u_T} {N : Nat} {ty : Nat → FieldType} {g : Option mM} {k : mM → Option α} (K : mCl c C T N ty) (cw : mCw μ.1 idx C y μ' 4) (hM : Mt l G sk y μ' d' (.ref (gB G + o) :: [a1, a2, a3, a4]) M eV g) (ho : isK o (10 + c)) (pc' : Nat) (hd : decode μ.2.1 pc = .ok (.invokevirtual idx, 3)) (hp : pc + 3 = pc') (hr : d' + 1 ≤ R.frames ∧ 64 * (d' + 1) ≤ R.locals) (hk : kc ≤ R.cells ∧ ks ≤ R.slots) (hst : (rest.map fun v => v.category).sum ≤ 8) (kk : ∀ (N : mM), g = some N → Go μ R kc ks l G sk fin (k N) pc' lv rest N) : Go μ R kc ks l G sk fin (bV g k) pc lv (a4 :: a3 :: a2 :: a1 :: .ref (gB G + o) :: rest) M := by
  rw [bV_in]
  exact go_callV d' K cw hM ho rfl pc' hd hp hr hk hst (fun x hx => kk x hx)
theorem go_cSV4 (d' : Nat) {a1 a2 a3 a4 : Value} {g : Option mM} {k : mM → Option α} (cw : mCs μ.1 idx y μ' 4) (hM : Mt l G sk y μ' d' [a1, a2, a3, a4] M eV g) (pc' : Nat) (hd : decode μ.2.1 pc = .ok (.invokestatic idx, 3)) (hp : pc + 3 = pc') (hr : d' + 1 ≤ R.frames ∧ 64 * (d' + 1) ≤ R.locals) (hk : kc ≤ R.cells ∧ ks ≤ R.slots) (hst : (rest.map fun v => v.category).sum ≤ 8) (kk : ∀ (N : mM), g = some N → Go μ R kc ks l G sk fin (k N) pc' lv rest N) : Go μ R kc ks l G sk fin (bV g k) pc lv (a4 :: a3 :: a2 :: a1 :: rest) M := by
  rw [bV_in]
  exact go_callS d' cw hM rfl pc' hd hp hr hk hst (fun x hx => kk x hx)
theorem go_cVI5 (d' : Nat) {a1 a2 a3 a4 a5 : Value} {o c : Nat} {C : String} {T : u_T} {N : Nat} {ty : Nat → FieldType} {g : Option (Int32 × mM)} {k : Int32 → mM → Option α} (K : mCl c C T N ty) (cw : mCw μ.1 idx C y μ' 5) (hM : Mt l G sk y μ' d' (.ref (gB G + o) :: [a1, a2, a3, a4, a5]) M eI g) (ho : isK o (10 + c)) (pc' : Nat) (hd : decode μ.2.1 pc = .ok (.invokevirtual idx, 3)) (hp : pc + 3 = pc') (hr : d' + 1 ≤ R.frames ∧ 64 * (d' + 1) ≤ R.locals) (hk : kc ≤ R.cells ∧ ks ≤ R.slots) (hst : (rest.map fun v => v.category).sum ≤ 8) (kk : ∀ (r : Int32) (N : mM), g = some (r, N) → Go μ R kc ks l G sk fin (k r N) pc' lv (.int r :: rest) N) : Go μ R kc ks l G sk fin (bI g k) pc lv (a5 :: a4 :: a3 :: a2 :: a1 :: .ref (gB G + o) :: rest) M := by
  rw [bI_in]
  exact go_callV d' K cw hM ho rfl pc' hd hp hr hk hst (fun x hx => kk x.1 x.2 hx)
theorem go_cSI5 (d' : Nat) {a1 a2 a3 a4 a5 : Value} {g : Option (Int32 × mM)} {k : Int32 → mM → Option α} (cw : mCs μ.1 idx y μ' 5) (hM : Mt l G sk y μ' d' [a1, a2, a3, a4, a5] M eI g) (pc' : Nat) (hd : decode μ.2.1 pc = .ok (.invokestatic idx, 3)) (hp : pc + 3 = pc') (hr : d' + 1 ≤ R.frames ∧ 64 * (d' + 1) ≤ R.locals) (hk : kc ≤ R.cells ∧ ks ≤ R.slots) (hst : (rest.map fun v => v.category).sum ≤ 8) (kk : ∀ (r : Int32) (N : mM), g = some (r, N) → Go μ R kc ks l G sk fin (k r N) pc' lv (.int r :: rest) N) : Go μ R kc ks l G sk fin (bI g k) pc lv (a5 :: a4 :: a3 :: a2 :: a1 :: rest) M := by
  rw [bI_in]
  exact go_callS d' cw hM rfl pc' hd hp hr hk hst (fun x hx => kk x.1 x.2 hx)
theorem go_cVV5 (d' : Nat) {a1 a2 a3 a4 a5 : Value} {o c : Nat} {C : String} {T : u_T} {N : Nat} {ty : Nat → FieldType} {g : Option mM} {k : mM → Option α} (K : mCl c C T N ty) (cw : mCw μ.1 idx C y μ' 5) (hM : Mt l G sk y μ' d' (.ref (gB G + o) :: [a1, a2, a3, a4, a5]) M eV g) (ho : isK o (10 + c)) (pc' : Nat) (hd : decode μ.2.1 pc = .ok (.invokevirtual idx, 3)) (hp : pc + 3 = pc') (hr : d' + 1 ≤ R.frames ∧ 64 * (d' + 1) ≤ R.locals) (hk : kc ≤ R.cells ∧ ks ≤ R.slots) (hst : (rest.map fun v => v.category).sum ≤ 8) (kk : ∀ (N : mM), g = some N → Go μ R kc ks l G sk fin (k N) pc' lv rest N) : Go μ R kc ks l G sk fin (bV g k) pc lv (a5 :: a4 :: a3 :: a2 :: a1 :: .ref (gB G + o) :: rest) M := by
  rw [bV_in]
  exact go_callV d' K cw hM ho rfl pc' hd hp hr hk hst (fun x hx => kk x hx)
theorem go_cSV5 (d' : Nat) {a1 a2 a3 a4 a5 : Value} {g : Option mM} {k : mM → Option α} (cw : mCs μ.1 idx y μ' 5) (hM : Mt l G sk y μ' d' [a1, a2, a3, a4, a5] M eV g) (pc' : Nat) (hd : decode μ.2.1 pc = .ok (.invokestatic idx, 3)) (hp : pc + 3 = pc') (hr : d' + 1 ≤ R.frames ∧ 64 * (d' + 1) ≤ R.locals) (hk : kc ≤ R.cells ∧ ks ≤ R.slots) (hst : (rest.map fun v => v.category).sum ≤ 8) (kk : ∀ (N : mM), g = some N → Go μ R kc ks l G sk fin (k N) pc' lv rest N) : Go μ R kc ks l G sk fin (bV g k) pc lv (a5 :: a4 :: a3 :: a2 :: a1 :: rest) M := by
  rw [bV_in]
  exact go_callS d' cw hM rfl pc' hd hp hr hk hst (fun x hx => kk x hx)
theorem go_cVI6 (d' : Nat) {a1 a2 a3 a4 a5 a6 : Value} {o c : Nat} {C : String} {T : u_T} {N : Nat} {ty : Nat → FieldType} {g : Option (Int32 × mM)} {k : Int32 → mM → Option α} (K : mCl c C T N ty) (cw : mCw μ.1 idx C y μ' 6) (hM : Mt l G sk y μ' d' (.ref (gB G + o) :: [a1, a2, a3, a4, a5, a6]) M eI g) (ho : isK o (10 + c)) (pc' : Nat) (hd : decode μ.2.1 pc = .ok (.invokevirtual idx, 3)) (hp : pc + 3 = pc') (hr : d' + 1 ≤ R.frames ∧ 64 * (d' + 1) ≤ R.locals) (hk : kc ≤ R.cells ∧ ks ≤ R.slots) (hst : (rest.map fun v => v.category).sum ≤ 8) (kk : ∀ (r : Int32) (N : mM), g = some (r, N) → Go μ R kc ks l G sk fin (k r N) pc' lv (.int r :: rest) N) : Go μ R kc ks l G sk fin (bI g k) pc lv (a6 :: a5 :: a4 :: a3 :: a2 :: a1 :: .ref (gB G + o) :: rest) M := by
  rw [bI_in]
  exact go_callV d' K cw hM ho rfl pc' hd hp hr hk hst (fun x hx => kk x.1 x.2 hx)
theorem go_cSI6 (d' : Nat) {a1 a2 a3 a4 a5 a6 : Value} {g : Option (Int32 × mM)} {k : Int32 → mM → Option α} (cw : mCs μ.1 idx y μ' 6) (hM : Mt l G sk y μ' d' [a1, a2, a3, a4, a5, a6] M eI g) (pc' : Nat) (hd : decode μ.2.1 pc = .ok (.invokestatic idx, 3)) (hp : pc + 3 = pc') (hr : d' + 1 ≤ R.frames ∧ 64 * (d' + 1) ≤ R.locals) (hk : kc ≤ R.cells ∧ ks ≤ R.slots) (hst : (rest.map fun v => v.category).sum ≤ 8) (kk : ∀ (r : Int32) (N : mM), g = some (r, N) → Go μ R kc ks l G sk fin (k r N) pc' lv (.int r :: rest) N) : Go μ R kc ks l G sk fin (bI g k) pc lv (a6 :: a5 :: a4 :: a3 :: a2 :: a1 :: rest) M := by
  rw [bI_in]
  exact go_callS d' cw hM rfl pc' hd hp hr hk hst (fun x hx => kk x.1 x.2 hx)
theorem go_cVV6 (d' : Nat) {a1 a2 a3 a4 a5 a6 : Value} {o c : Nat} {C : String} {T : u_T} {N : Nat} {ty : Nat → FieldType} {g : Option mM} {k : mM → Option α} (K : mCl c C T N ty) (cw : mCw μ.1 idx C y μ' 6) (hM : Mt l G sk y μ' d' (.ref (gB G + o) :: [a1, a2, a3, a4, a5, a6]) M eV g) (ho : isK o (10 + c)) (pc' : Nat) (hd : decode μ.2.1 pc = .ok (.invokevirtual idx, 3)) (hp : pc + 3 = pc') (hr : d' + 1 ≤ R.frames ∧ 64 * (d' + 1) ≤ R.locals) (hk : kc ≤ R.cells ∧ ks ≤ R.slots) (hst : (rest.map fun v => v.category).sum ≤ 8) (kk : ∀ (N : mM), g = some N → Go μ R kc ks l G sk fin (k N) pc' lv rest N) : Go μ R kc ks l G sk fin (bV g k) pc lv (a6 :: a5 :: a4 :: a3 :: a2 :: a1 :: .ref (gB G + o) :: rest) M := by
  rw [bV_in]
  exact go_callV d' K cw hM ho rfl pc' hd hp hr hk hst (fun x hx => kk x hx)
theorem go_cSV6 (d' : Nat) {a1 a2 a3 a4 a5 a6 : Value} {g : Option mM} {k : mM → Option α} (cw : mCs μ.1 idx y μ' 6) (hM : Mt l G sk y μ' d' [a1, a2, a3, a4, a5, a6] M eV g) (pc' : Nat) (hd : decode μ.2.1 pc = .ok (.invokestatic idx, 3)) (hp : pc + 3 = pc') (hr : d' + 1 ≤ R.frames ∧ 64 * (d' + 1) ≤ R.locals) (hk : kc ≤ R.cells ∧ ks ≤ R.slots) (hst : (rest.map fun v => v.category).sum ≤ 8) (kk : ∀ (N : mM), g = some N → Go μ R kc ks l G sk fin (k N) pc' lv rest N) : Go μ R kc ks l G sk fin (bV g k) pc lv (a6 :: a5 :: a4 :: a3 :: a2 :: a1 :: rest) M := by
  rw [bV_in]
  exact go_callS d' cw hM rfl pc' hd hp hr hk hst (fun x hx => kk x hx)
end CALLN

