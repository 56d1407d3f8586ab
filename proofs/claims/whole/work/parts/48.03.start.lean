/-! ===== both objects made; the law begins ===== -/
section START
theorem lenC_some {α : Type} {sk : List mS} {n : Nat} {f : Option α} {y : α} (h : lenC sk n f = some y) : sk.length = n ∧ f = some y := by
  unfold lenC at h
  split at h
  · next q => exact ⟨q, h⟩
  · cases h
theorem lenC_ok {α : Type} {sk : List mS} {n : Nat} (q : sk.length = n) (f : Option α) : lenC sk n f = f := if_pos q
theorem lSc_some {α : Type} {sk : List mS} {a n : Nat} {f : Option α} {y : α} (h : lSc sk a n f = some y) : sk[a]? = some (.inl (1, n, [])) ∧ f = some y := by
  unfold lSc at h
  split at h
  · next q => exact ⟨q, h⟩
  · cases h
theorem lSc_ok {α : Type} {sk : List mS} {a n : Nat} (q : sk[a]? = some (.inl (1, n, []))) (f : Option α) : lSc sk a n f = f := if_pos q
theorem pRc_some {α : Type} {sk : List mS} {o c k r : Nat} {K : List mS → Option α} {y : α} (h : pRc sk o c k r K = some y) : ∃ s, (∀ (β : Type) (K' : List mS → Option β), pRc sk o c k r K' = K' s) ∧ K s = some y := by
  unfold pRc at h
  split at h
  · next q hq =>
    split at h
    · next hc => exact ⟨_, fun β K' => by unfold pRc; rw [hq]; exact if_pos hc, h⟩
    · cases h
  · cases h
theorem skC_ok {α : Type} (f : Option α) : skC skF f = f := if_pos (decide_eq_true rfl)
def mW0 : mM := wL (wL (wL (wL (wL (wL (wL (wL (wL (wL (wL (wL (wL (wL (wL (wL (wL (wL (wL (wL (wL (wL (wL mZ 168 (0 : Int32).toNatClampNeg 932857) 168 (1 : Int32).toNatClampNeg 223720) 168 (2 : Int32).toNatClampNeg 9636) 168 (3 : Int32).toNatClampNeg 1119812451) 168 (4 : Int32).toNatClampNeg 347) 168 (5 : Int32).toNatClampNeg 204478) 168 (6 : Int32).toNatClampNeg 1360911042) 168 (7 : Int32).toNatClampNeg 5538) 168 (8 : Int32).toNatClampNeg 1166843) 168 (9 : Int32).toNatClampNeg 30596304) 168 (10 : Int32).toNatClampNeg 43364708) 168 (11 : Int32).toNatClampNeg 12029519) 168 (12 : Int32).toNatClampNeg 20583) 168 (13 : Int32).toNatClampNeg 823292) 168 (14 : Int32).toNatClampNeg 7302) 168 (15 : Int32).toNatClampNeg 620643) 168 (16 : Int32).toNatClampNeg 19741) 168 (17 : Int32).toNatClampNeg 1891) 168 (18 : Int32).toNatClampNeg 573) 168 (19 : Int32).toNatClampNeg 31692) 168 (20 : Int32).toNatClampNeg 36781379) 168 (21 : Int32).toNatClampNeg 36420992) 168 (22 : Int32).toNatClampNeg 204726
def i12s (sk : List mS) : Option (List mS) := lenC sk 164 (lt (sk ++ [.inl (0, 1000, [])]) fun sk1 => pRc sk1 163 12 1 164 fun sk2 => lenC sk2 165 (lt (sk2 ++ [.inl (0, 1002, [])]) fun sk3 => pRc sk3 163 12 4 165 fun sk4 => lenC sk4 166 (lt (sk4 ++ [.inl (0, 1002, [])]) fun sk5 => pRc sk5 163 12 5 166 fun sk6 => lenC sk6 167 (lt (sk6 ++ [.inl (1, 1002, [])]) fun sk7 => pRc sk7 163 12 6 167 fun sk8 => lenC sk8 168 (lt (sk8 ++ [.inl (1, 23, [])]) fun sk9 => lSc sk9 168 23 (lSc sk9 168 23 (lSc sk9 168 23 (lSc sk9 168 23 (lSc sk9 168 23 (lSc sk9 168 23 (lSc sk9 168 23 (lSc sk9 168 23 (lSc sk9 168 23 (lSc sk9 168 23 (lSc sk9 168 23 (lSc sk9 168 23 (lSc sk9 168 23 (lSc sk9 168 23 (lSc sk9 168 23 (lSc sk9 168 23 (lSc sk9 168 23 (lSc sk9 168 23 (lSc sk9 168 23 (lSc sk9 168 23 (lSc sk9 168 23 (lSc sk9 168 23 (lSc sk9 168 23 (pRc sk9 163 12 9 168 fun sk33 => lenC sk33 169 (lt (sk33 ++ [.inl (0, 120, [])]) fun sk34 => pRc sk34 163 12 10 169 fun sk35 => lenC sk35 170 (lt (sk35 ++ [.inl (0, 2200, [])]) fun sk36 => pRc sk36 163 12 11 170 fun sk37 => lenC sk37 171 (lt (sk37 ++ [.inl (0, 2200, [])]) fun sk38 => pRc sk38 163 12 12 171 fun sk39 => lenC sk39 172 (lt (sk39 ++ [.inl (1, 12, [])]) fun sk40 => pRc sk40 163 12 14 172 fun sk41 => lenC sk41 173 (lt (sk41 ++ [.inl (1, 12, [])]) fun sk42 => pRc sk42 163 12 15 173 fun sk43 => lenC sk43 174 (lt (sk43 ++ [.inl (0, 12, [])]) fun sk44 => pRc sk44 163 12 16 174 fun sk45 => lenC sk45 175 (lt (sk45 ++ [.inl (0, 12, [])]) fun sk46 => pRc sk46 163 12 17 175 fun sk47 => lenC sk47 176 (lt (sk47 ++ [.inl (0, 250, [])]) fun sk48 => pRc sk48 163 12 21 176 fun sk49 => lenC sk49 177 (lt (sk49 ++ [.inl (0, 4, [])]) fun sk50 => pRc sk50 163 12 22 177 fun sk51 => lenC sk51 178 (lt (sk51 ++ [.inl (0, 1100, [])]) fun sk52 => pRc sk52 163 12 23 178 fun sk53 => lenC sk53 179 (lt (sk53 ++ [.inl (0, 1495, [])]) fun sk54 => pRc sk54 163 12 24 179 fun sk55 => lenC sk55 180 (lt (sk55 ++ [.inl (2, 4, [])]) fun sk56 => pRc sk56 163 12 26 180 fun sk57 => lenC sk57 181 (lt (sk57 ++ [.inl (0, 41, [])]) fun sk58 => pRc sk58 163 12 27 181 fun sk59 => lenC sk59 182 (lt (sk59 ++ [.inl (0, 3, [])]) fun sk60 => pRc sk60 163 12 28 182 fun sk61 => lenC sk61 183 (lt (sk61 ++ [.inl (0, 8, [])]) fun sk62 => pRc sk62 163 12 29 183 fun sk63 => lenC sk63 184 (lt (sk63 ++ [.inl (0, 310, [])]) fun sk64 => pRc sk64 163 12 30 184 fun sk65 => some sk65))))))))))))))))))))))))))))))))))))))))))))
set_option maxHeartbeats 4000000 in
set_option maxRecDepth 100000 in
theorem i12f (w : Nat) (sk : List mS) {y : List mS} (h : i12s sk = some y) : f_X12_init w sk = skC y (bV (f_X12_standsAsAlways w 163 0 mW0) fun M66 => skC y (bV (f_X12_begins w 163 M66) fun M67 => some (y, M67))) := by
  unfold i12s at h
  unfold f_X12_init
  obtain ⟨q1, h⟩ := lenC_some h
  rw [lenC_ok q1]
  rw [lt_eq] at h ⊢
  obtain ⟨s1, e1, h⟩ := pRc_some h
  rw [e1]
  obtain ⟨q2, h⟩ := lenC_some h
  rw [lenC_ok q2]
  rw [lt_eq] at h ⊢
  obtain ⟨s2, e2, h⟩ := pRc_some h
  rw [e2]
  obtain ⟨q3, h⟩ := lenC_some h
  rw [lenC_ok q3]
  rw [lt_eq] at h ⊢
  obtain ⟨s3, e3, h⟩ := pRc_some h
  rw [e3]
  obtain ⟨q4, h⟩ := lenC_some h
  rw [lenC_ok q4]
  rw [lt_eq] at h ⊢
  obtain ⟨s4, e4, h⟩ := pRc_some h
  rw [e4]
  obtain ⟨q5, h⟩ := lenC_some h
  rw [lenC_ok q5]
  rw [lt_eq] at h ⊢
  obtain ⟨q6, h⟩ := lSc_some h
  rw [lSc_ok q6]
  rw [lt_eq]
  obtain ⟨q7, h⟩ := lSc_some h
  rw [lSc_ok q7]
  rw [lt_eq]
  obtain ⟨q8, h⟩ := lSc_some h
  rw [lSc_ok q8]
  rw [lt_eq]
  obtain ⟨q9, h⟩ := lSc_some h
  rw [lSc_ok q9]
  rw [lt_eq]
  obtain ⟨q10, h⟩ := lSc_some h
  rw [lSc_ok q10]
  rw [lt_eq]
  obtain ⟨q11, h⟩ := lSc_some h
  rw [lSc_ok q11]
  rw [lt_eq]
  obtain ⟨q12, h⟩ := lSc_some h
  rw [lSc_ok q12]
  rw [lt_eq]
  obtain ⟨q13, h⟩ := lSc_some h
  rw [lSc_ok q13]
  rw [lt_eq]
  obtain ⟨q14, h⟩ := lSc_some h
  rw [lSc_ok q14]
  rw [lt_eq]
  obtain ⟨q15, h⟩ := lSc_some h
  rw [lSc_ok q15]
  rw [lt_eq]
  obtain ⟨q16, h⟩ := lSc_some h
  rw [lSc_ok q16]
  rw [lt_eq]
  obtain ⟨q17, h⟩ := lSc_some h
  rw [lSc_ok q17]
  rw [lt_eq]
  obtain ⟨q18, h⟩ := lSc_some h
  rw [lSc_ok q18]
  rw [lt_eq]
  obtain ⟨q19, h⟩ := lSc_some h
  rw [lSc_ok q19]
  rw [lt_eq]
  obtain ⟨q20, h⟩ := lSc_some h
  rw [lSc_ok q20]
  rw [lt_eq]
  obtain ⟨q21, h⟩ := lSc_some h
  rw [lSc_ok q21]
  rw [lt_eq]
  obtain ⟨q22, h⟩ := lSc_some h
  rw [lSc_ok q22]
  rw [lt_eq]
  obtain ⟨q23, h⟩ := lSc_some h
  rw [lSc_ok q23]
  rw [lt_eq]
  obtain ⟨q24, h⟩ := lSc_some h
  rw [lSc_ok q24]
  rw [lt_eq]
  obtain ⟨q25, h⟩ := lSc_some h
  rw [lSc_ok q25]
  rw [lt_eq]
  obtain ⟨q26, h⟩ := lSc_some h
  rw [lSc_ok q26]
  rw [lt_eq]
  obtain ⟨q27, h⟩ := lSc_some h
  rw [lSc_ok q27]
  rw [lt_eq]
  obtain ⟨q28, h⟩ := lSc_some h
  rw [lSc_ok q28]
  rw [lt_eq]
  obtain ⟨s5, e5, h⟩ := pRc_some h
  rw [e5]
  obtain ⟨q29, h⟩ := lenC_some h
  rw [lenC_ok q29]
  rw [lt_eq] at h ⊢
  obtain ⟨s6, e6, h⟩ := pRc_some h
  rw [e6]
  obtain ⟨q30, h⟩ := lenC_some h
  rw [lenC_ok q30]
  rw [lt_eq] at h ⊢
  obtain ⟨s7, e7, h⟩ := pRc_some h
  rw [e7]
  obtain ⟨q31, h⟩ := lenC_some h
  rw [lenC_ok q31]
  rw [lt_eq] at h ⊢
  obtain ⟨s8, e8, h⟩ := pRc_some h
  rw [e8]
  obtain ⟨q32, h⟩ := lenC_some h
  rw [lenC_ok q32]
  rw [lt_eq] at h ⊢
  obtain ⟨s9, e9, h⟩ := pRc_some h
  rw [e9]
  obtain ⟨q33, h⟩ := lenC_some h
  rw [lenC_ok q33]
  rw [lt_eq] at h ⊢
  obtain ⟨s10, e10, h⟩ := pRc_some h
  rw [e10]
  obtain ⟨q34, h⟩ := lenC_some h
  rw [lenC_ok q34]
  rw [lt_eq] at h ⊢
  obtain ⟨s11, e11, h⟩ := pRc_some h
  rw [e11]
  obtain ⟨q35, h⟩ := lenC_some h
  rw [lenC_ok q35]
  rw [lt_eq] at h ⊢
  obtain ⟨s12, e12, h⟩ := pRc_some h
  rw [e12]
  obtain ⟨q36, h⟩ := lenC_some h
  rw [lenC_ok q36]
  rw [lt_eq] at h ⊢
  obtain ⟨s13, e13, h⟩ := pRc_some h
  rw [e13]
  obtain ⟨q37, h⟩ := lenC_some h
  rw [lenC_ok q37]
  rw [lt_eq] at h ⊢
  obtain ⟨s14, e14, h⟩ := pRc_some h
  rw [e14]
  obtain ⟨q38, h⟩ := lenC_some h
  rw [lenC_ok q38]
  rw [lt_eq] at h ⊢
  obtain ⟨s15, e15, h⟩ := pRc_some h
  rw [e15]
  obtain ⟨q39, h⟩ := lenC_some h
  rw [lenC_ok q39]
  rw [lt_eq] at h ⊢
  obtain ⟨s16, e16, h⟩ := pRc_some h
  rw [e16]
  obtain ⟨q40, h⟩ := lenC_some h
  rw [lenC_ok q40]
  rw [lt_eq] at h ⊢
  obtain ⟨s17, e17, h⟩ := pRc_some h
  rw [e17]
  obtain ⟨q41, h⟩ := lenC_some h
  rw [lenC_ok q41]
  rw [lt_eq] at h ⊢
  obtain ⟨s18, e18, h⟩ := pRc_some h
  rw [e18]
  obtain ⟨q42, h⟩ := lenC_some h
  rw [lenC_ok q42]
  rw [lt_eq] at h ⊢
  obtain ⟨s19, e19, h⟩ := pRc_some h
  rw [e19]
  obtain ⟨q43, h⟩ := lenC_some h
  rw [lenC_ok q43]
  rw [lt_eq] at h ⊢
  obtain ⟨s20, e20, h⟩ := pRc_some h
  rw [e20]
  obtain ⟨q44, h⟩ := lenC_some h
  rw [lenC_ok q44]
  rw [lt_eq] at h ⊢
  obtain ⟨s21, e21, h⟩ := pRc_some h
  rw [e21]
  have h := Option.some.inj h
  subst h
  rfl
def optIs (o : Option (List mS)) (y : List mS) : Bool := match o with
  | some s => decide (s = y)
  | none => false
theorem opt_b {o : Option (List mS)} {y : List mS} (h : optIs o y = true) : o = some y := by
  cases o with
  | none => cases h
  | some s =>
    have h : decide (s = y) = true := h
    rw [of_decide_eq_true h]
set_option maxRecDepth 100000 in
theorem i11_b : optIs (f_X11_init 0 [frS 11]) (skF.take 163) = true := by decide +kernel
set_option maxRecDepth 100000 in
theorem i12_b : optIs (i12s (skF.take 163 ++ [frS 12])) skF = true := by decide +kernel
theorem i11_eq : f_X11_init 0 [frS 11] = some (skF.take 163) := opt_b i11_b
theorem i12_eq : i12s (skF.take 163 ++ [frS 12]) = some skF := opt_b i12_b
theorem len163 : (skF.take 163).length = 163 := by decide +kernel
theorem len185 : skF.length = 185 := by decide +kernel
theorem bS_some {α : Type} (s : List mS) (n : Nat) (k : List mS → Option α) : bS (some s) n k = if s.length = n then k s else none := rfl
theorem bC_some {α : Type} (q : List mS × mM) (n : Nat) (k : List mS → mM → Option α) : bC (some q) n k = if q.1.length = n then k q.1 q.2 else none := rfl
theorem mW0_1 : mW0.1 = fun _ _ => 0 := rfl
theorem mW0_w : ∀ k, k < 23 → mW0.2 168 k = rvW (kw k) := by decide +kernel
theorem mW0_2 {c : Nat} (h : c ≠ 168) : mW0.2 c = fun _ => 0 := by
  unfold mW0
  simp only [rLc _ _ _ _ h]
  rfl
theorem st_0 (w : Nat) (hw : 1100 ≤ w) {M : mM} (h0 : M.1 = fun _ _ => 0) : ∃ N, f_X12_standsAsAlways w 163 0 M = some N ∧ N.2 = M.2 ∧ ∀ c j, N.1 c j = if c = 169 then (if j = 3 then 1 else if j = 4 then -1 else 0) else 0 := by
  have key : ∀ (r k n : Nat) (K : mM), k + r = 60 → r < n → K.2 = M.2 → (∀ c j, K.1 c j = 0) → ∃ N, f_X12_standsAsAlways_2 w n 163 0 (nI k) K = some N ∧ N.2 = M.2 ∧ ∀ c j, N.1 c j = if c = 169 then (if j = 3 then 1 else if j = 4 then -1 else 0) else 0 := by
    intro r
    induction r with
    | zero =>
      intro k n K hk hn g2 g
      obtain ⟨n, rfl⟩ : ∃ z, n = z + 1 := ⟨n - 1, by omega⟩
      have : k = 60 := by omega
      subst this
      refine ⟨wI (wI K 169 3 1) 169 4 (-1), ?_, g2, fun c j => ?_⟩
      · rw [f_X12_standsAsAlways_2, if_pos (by decide)]
        unfold f_X12_standsAsAlways_23
        rw [r163_10, l169, show (0 : Int32) + 3 = nI 3 from rfl, show (0 : Int32) + 4 = nI 4 from rfl, chk_nI _ (by omega) (by omega), nI_clamp (show 3 < 2147483648 by omega), lt_eq, chk_nI _ (by omega) (by omega), nI_clamp (show 4 < 2147483648 by omega), lt_eq]
      · rw [rI]
        by_cases q : c = 169
        · rw [if_pos q, if_pos q]
          by_cases z : j = 4
          · rw [if_pos z, if_neg (by omega), if_pos z]
          · rw [if_neg z, rI, if_pos q]
            by_cases z2 : j = 3
            · rw [if_pos z2, if_pos z2]
            · rw [if_neg z2, if_neg z2, if_neg z, g]
        · rw [if_neg q, if_neg q, rI, if_neg q, g]
    | succ r ih =>
      intro k n K hk hn g2 g
      obtain ⟨n, rfl⟩ : ∃ z, n = z + 1 := ⟨n - 1, by omega⟩
      rw [f_X12_standsAsAlways_2, if_neg (show ¬ (60 : Int32) ≤ nI k from fun e => by have := (nI_leI (a := 60) (by omega) (by omega)).mp e; omega), r163_10, l169, Int32.zero_add, chk_nI _ (by omega) (by omega), nI_clamp (by omega), lt_eq, nI_1]
      refine ih (k + 1) n _ (by omega) (by omega) g2 (fun c j => ?_)
      rw [rI]
      split
      · split
        · rfl
        · exact g c j
      · exact g c j
  exact key 60 0 w M (by omega) (by omega) rfl (fun c j => by rw [h0])
def pI : HP := ((0, 0, 0), fz, fz, fz, fz, fz)
def xI : HX := ((1, fz), (0, fz, fz))
def eI0 : NE := (0, (fun _ => []), fz)
theorem pI_ok : okP pI := s0_ok.1
theorem inv0 (w : Nat) (hw : 1100 ≤ w) : ∃ K1 K2, f_X12_standsAsAlways w 163 0 mW0 = some K1 ∧ f_X12_begins w 163 K1 = some K2 ∧ Inv 0 (zr K2 185) := by
  obtain ⟨K1, a1, a2, a3⟩ := st_0 w hw mW0_1
  have pl : PlR K1 0 pI := ⟨by rw [a3]; rfl, by rw [a3]; rfl, by rw [a3]; rfl, fun d hd => absurd hd (Nat.not_lt_zero _), fun d hd => absurd hd (Nat.not_lt_zero _)⟩
  obtain ⟨K2, b1, b2, b3, b4, b5, b6, b7, b8, b9, b10⟩ := X12_begins_eq w hw pI_ok pl
  have z1 : ∀ c, c ≠ 185 → (zr K2 185).1 c = K2.1 c := fun c h => if_neg h
  have z2 : ∀ c, c ≠ 185 → (zr K2 185).2 c = K2.2 c := fun c h => if_neg h
  have g : ∀ c j, c < 163 → (zr K2 185).1 c j = 0 := fun c j h => by rw [z1 c (by omega), b2 c (by omega) (by omega) (by omega) (by omega), a3, if_neg (by omega)]
  have g163 : ∀ j, (zr K2 185).1 163 j = 0 := fun j => by
    rw [z1 163 (by omega)]
    by_cases q : j = 25
    · rw [q]; exact b5
    · rw [b4 j q, a3, if_neg (by omega)]
  have g169 : (zr K2 185).1 169 = K1.1 169 := by rw [z1 169 (by omega), b2 169 (by omega) (by omega) (by omega) (by omega)]
  have g179 : (zr K2 185).1 179 = K2.1 179 := z1 179 (by omega)
  have ng : ∀ {P : Prop} {n : Nat}, n < 0 → P := fun h => absurd h (Nat.not_lt_zero _)
  refine ⟨K1, K2, a1, b1, pI, xI, beg pI, u0, H0, k0, l0, eI0, (0, fz), ⟨pI_ok, ⟨by decide, by decide, fun i _ => Nat.zero_le _, by decide, fun h => ng h⟩, beg_ok pI_ok, Nat.le_refl _, ⟨by decide, by decide, fun i h => ng h, fun i h => ng h⟩, ⟨by decide, fun i h => ng h⟩, fun i _ e => (by cases e), ⟨by decide, fun i h => ng h⟩, ⟨by decide, fun i h => ng h, fun i _ h => ng h, fun i h => ng h, fun i h => ng h⟩, ⟨by decide, fun i h => ng h⟩⟩, ⟨?_, ?_, ?_, ?_, ?_, ?_, ?_, fun j h => ng h, ?_⟩, ⟨?_, ?_, ?_, ?_, ?_, ?_, ?_, ?_, ?_, ?_⟩⟩
  · exact ⟨by rw [g _ _ (by omega)]; rfl, by rw [g _ _ (by omega)]; rfl, by rw [g _ _ (by omega)]; rfl, fun d h => ng h, fun d h => ng h⟩
  · exact ⟨Or.inr ⟨g _ _ (by omega), rfl, rfl⟩, fun i hi e => (by rw [g _ _ (by omega)] at e; exact absurd e (by decide)), by rw [g _ _ (by omega)]; rfl, fun i h => ng h⟩
  · exact ⟨by rw [g _ _ (by omega)]; rfl, by rw [g _ _ (by omega)]; rfl, fun d h => ng h, fun d h => ng h⟩
  · exact ⟨by rw [g _ _ (by omega)]; rfl, by rw [g _ _ (by omega)]; rfl, fun d h => ng h, fun d h => ng h⟩
  · exact ⟨by decide, 0, by omega, by rw [g _ _ (by omega)]; rfl, by rw [g _ _ (by omega)]; rfl, fun d h => ng h⟩
  · exact fun i hi => ⟨by rw [g _ _ (by omega)]; rfl, fun e => (by cases e)⟩
  · exact ⟨by rw [g _ _ (by omega)]; rfl, fun d h => ng h⟩
  · exact ⟨by rw [g _ _ (by omega)]; rfl, fun d h => ng h⟩
  · exact pl.fr g169
  · refine ⟨by rw [g169, a3]; rfl, fun i hi => ?_, fun _ => by rw [g169, a3]; rfl, fun h => ng h, fun i h => ng h⟩
    have hi : i < 1 := hi
    have : i = 0 := by omega
    subst this
    rw [g169, a3]; rfl
  · exact b10.fr pI_ok fun j _ _ => by rw [g179]
  · exact ⟨by rw [g179]; exact b7, by rw [g179]; exact b8, fun d h => ng h, fun d h => ng h⟩
  · exact ⟨by rw [g163]; rfl, fun d h => ng h⟩
  · exact fun i hi => ⟨by rw [z1 180 (by omega), b9 i hi]; rfl, fun e => (by cases e)⟩
  · exact ⟨by rw [z1 176 (by omega)]; exact b6, fun d h => ng h⟩
  · exact ⟨by rw [g163]; rfl, fun d h => ng h⟩
  · exact ⟨by rw [g163]; rfl, fun d h => ng h⟩
  · intro k hk
    rw [z2 168 (by omega), b3, a2]; exact mW0_w k hk
theorem law_all (w : Nat) (hw : 1100 ≤ w) (xs : Nat → Int32) (L : Nat) (hL : L ≤ 448) : f_L_law w xs L = some () := by
  obtain ⟨K1, K2, a1, a2, a3⟩ := inv0 w hw
  unfold f_L_law
  rw [i11_eq, bS_some, if_pos (show (skF.take 163).length = 1 + 162 from len163), lenC_ok len163, lt_eq, i12f w _ i12_eq, skC_ok, a1, bV_some, skC_ok, a2, bV_some, bC_some, if_pos (show skF.length = (skF.take 163 ++ [frS 12]).length + 21 by rw [List.length_append, len163, len185]; rfl), lenC_ok len185, skC_ok, lt_eq]
  exact law_pure w hw xs L hL 448 0 w 0 _ (by omega) (by omega) (by omega) (by omega) a3
end START
