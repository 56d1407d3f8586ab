def zr (M : mM) (n : Nat) : mM := (fun a => if a = n then fun _ => 0 else M.1 a, fun a => if a = n then fun _ => 0 else M.2 a)
theorem zr_mZ0 (M : mM) (n : Nat) : mZ0 (zr M n) n := ⟨if_pos rfl, if_pos rfl⟩
theorem zr_W {G : mG} {sk : List mS} {M : mM} {n : Nat} (h : sk.length = n) : mW G sk (zr M n) = mW G sk M := by
  apply List.ext_getElem?
  intro i
  simp only [mW, List.getElem?_mapIdx]
  by_cases hi : i < sk.length
  · have hne : i ≠ n := by omega
    rw [show mE G (zr M n) i = mE G M i from funext fun s => mE_same (if_neg hne) (if_neg hne) s]
  · rw [List.getElem?_eq_none (by omega)]; rfl
section ENT
variable {α : Type} {ini : Bool} {μ : mU} {R : Room} {kc ks : Nat} {l : Launch} {G : mG} {sk : List mS} {fin : α → State → Array Value → List Frame → State → Prop} {f : Option α} {pc : Nat} {lv : List (Nat × Value)} {st : List Value} {M : mM}
theorem goC_zr {n : Nat} (h : sk.length = n) (k : GoC ini μ R kc ks l G fin f pc lv st sk (zr M n)) : GoC ini μ R kc ks l G fin f pc lv st sk M := by
  intro p e s m args below meth c H locs ls x C hf hW hH hS hl
  exact k p e s m args below meth c H locs ls x C hf (by unfold Wd; rw [zr_W h]; exact hW) hH hS hl
theorem goC_nmMq {n : Nat} {f' : mM → Option α} (hz : mZ0 M n) (h : ∀ N : mM, mZ0 N n → GoC ini μ R kc ks l G fin (f' N) pc lv st sk N) : GoC ini μ R kc ks l G fin (lt M f') pc lv st sk M := h M hz
theorem GoC.of_go (hsk : skOK sk) (h : Go μ R kc ks l G sk fin f pc lv st M) : GoC ini μ R kc ks l G fin f pc lv st sk M := by
  intro p e s m args below meth c H locs ls x C hf hW hH hS hl
  obtain ⟨c1, c2, c3, c4, c5, c6, c7, c8, c9, c10, c11, c12⟩ := C
  exact h p e s m args below meth c H locs ls x ⟨c1, c2, c3, c4, c5, c6, c7, c8, hsk, c9, c10⟩ hf hW hS hl
end ENT
def f_L_law (w : Nat) (xs : Nat → Int32) (L : Nat) : Option Unit := bS (f_X11_init 0 [frS 11]) (1 + 162) fun sk1 => lenC sk1 163 (lt (sk1 ++ [frS 12]) fun sk2 => bC (f_X12_init w sk2) (sk2.length + 21) fun sk3 M3 => lenC sk3 185 (skC sk3 (lt (zr M3 185) fun M4 => f_L_law_23 w xs L w 0 M4)))
set_option maxHeartbeats 4000000 in
set_option maxRecDepth 100000 in
theorem law_entry_open {l : Launch} {G : mG} {b L : Nat} {xs : Nat → Int32} (w : Nat) (hw : w ≤ 400000) (hR : lawRests w l G b L xs) : GoC false muL_law room_1 0 0 l G (finL G b L xs) (f_L_law w xs L) 0 [(0, .ref b)] [] [] mZ := by
  unfold f_L_law
  refine goC_new clX11 dfX11 rfl clkL_8 insX11 iniX11 (mz_mZ _) (Nat.le_of_ble_eq_true rfl) (Nat.le_of_ble_eq_true rfl) 3 dL_law_0 rfl ?_
  show GoC false muL_law room_1 1 15 l G (finL G b L xs) _ 3 [(0, .ref b)] [.ref (gB G + 0)] [frS 11] mZ
  refine goC_dup 4 dL_law_3 rfl rfl ?_
  refine goC_callZ 3 (As := []) (rest := [.ref (gB G + 0)]) (o := 0) ciL_15 (mC_X11_init 0 [frS 11]) rfl 7 dL_law_4 rfl ⟨Nat.le_of_ble_eq_true rfl, Nat.le_of_ble_eq_true rfl⟩ ⟨Nat.le_of_ble_eq_true rfl, Nat.le_of_ble_eq_true rfl⟩ (Nat.le_of_ble_eq_true rfl) (fun sk1 => ?_)
  refine goC_astore_n [(1, .ref (gB G + 0)), (0, .ref b)] 8 dL_law_7 rfl rfl (by decide) rfl ?_
  refine goC_len (fun e => ?_)
  refine goC_new clX12 dfX12 rfl clkL_16 insX12 iniX12 (mz_mZ _) (Nat.le_of_ble_eq_true rfl) (Nat.le_of_ble_eq_true rfl) 11 dL_law_8 rfl ?_
  rw [e]
  refine goC_nmS (fun sk2 => ?_)
  refine goC_dup 12 dL_law_11 rfl rfl ?_
  refine goC_callI 3 (As := []) (rest := [.ref (gB G + 163)]) (o := 163) ciL_18 (mC_X12_init w sk2) rfl 15 dL_law_12 rfl ⟨Nat.le_of_ble_eq_true rfl, Nat.le_of_ble_eq_true rfl⟩ ⟨Nat.le_of_ble_eq_true rfl, Nat.le_of_ble_eq_true rfl⟩ (Nat.le_of_ble_eq_true rfl) (fun sk3 M3 _ => ?_)
  refine goC_astore_n [(2, .ref (gB G + 163)), (1, .ref (gB G + 0)), (0, .ref b)] 16 dL_law_15 rfl rfl (by decide) rfl ?_
  refine goC_len (fun e3 => ?_)
  refine goC_skC (fun es => ?_)
  refine goC_zr e3 ?_
  refine goC_nmMq (zr_mZ0 M3 185) (fun M4 hz => ?_)
  refine goC_iconst 1 17 dL_law_16 rfl (by decide) ?_
  refine goC_newa (kd := 1) (atype := .long) (ty := .long) (.inl (1, 1, [])) rfl rfl (by decide) ar1 (N := 1) rfl he_long (e3.symm ▸ hz) (by decide) (by decide) (by decide) (Nat.le_of_ble_eq_true rfl) (Nat.le_of_ble_eq_true rfl) 19 dL_law_17 rfl ?_
  rw [e3]
  subst es
  refine goC_astore_n [(3, .ref (gB G + 185)), (2, .ref (gB G + 163)), (1, .ref (gB G + 0)), (0, .ref b)] 20 dL_law_19 rfl rfl (by decide) rfl ?_
  refine goC_iconst 0 21 dL_law_20 rfl (by decide) ?_
  refine goC_istore [(4, .int 0), (3, .ref (gB G + 185)), (2, .ref (gB G + 163)), (1, .ref (gB G + 0)), (0, .ref b)] 23 dL_law_21 rfl (by decide) rfl ?_
  refine goC_lv [4, 3, 2, 1, 0] rfl ?_
  exact GoC.of_go skL_ok (s_L_law_23_open w hR w _ _ (by omega) (by omega) 0 M4)
