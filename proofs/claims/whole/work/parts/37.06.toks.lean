/-! ===== what stands at a token; taking it ===== -/
def isW (t : TX) (i k : Nat) : Bool := decide (tkK t (psn t i) = 1) && decide (tkW t (psn t i) = kw k)
def isS (t : TX) (i c : Nat) : Bool := decide (tkK t (psn t i) = 3) && decide (tkC t (psn t i) = c)
def isN (t : TX) (i : Nat) : Bool := decide (tkK t (psn t i) = 1) && alB (fun k => !decide (tkW t (psn t i) = kw k)) 19
def er (t : TX) (i c : Nat) : Nat := c + 16 * skp t (psn t i)
section TOKS
variable {t : TX} {M N : mM}
theorem er_lt (ht : okT t) (i : Nat) {c : Nat} (hc : c ≤ 5) : er t i c ≤ 16005 := by
  have h1 := (skp_le (psn_le (t := t) i)).2
  have := ht.1
  unfold er; omega
theorem kind_lt (i : Nat) : tkK t i ≤ 4 := by
  unfold tkK
  split
  · split
    · split <;> omega
    · split
      · split <;> omega
      · split <;> omega
  · omega
theorem tkC_lt (ht : okT t) {i : Nat} (e : tkK t i ≠ 0) : tkC t i < 127 := by
  have hq : skp t i < t.1 := by
    rcases Nat.lt_or_ge (skp t i) t.1 with q | q
    · exact q
    · unfold tkK at e; rw [if_neg (by omega)] at e; exact absurd rfl e
  exact okB_lt (ht.2 _ hq)
theorem tkN_lt {i : Nat} (hi : i ≤ t.1) (e : tkK t i = 2) : tkN t i < 10000 := by
  obtain ⟨z1, z2⟩ := skp_le hi
  have hq : skp t i < t.1 := by
    rcases Nat.lt_or_ge (skp t i) t.1 with q | q
    · exact q
    · unfold tkK at e; rw [if_neg (by omega)] at e; cases e
  have hl : ltr (tkC t i) = false := by
    cases el : ltr (tkC t i)
    · rfl
    · unfold tkK at e
      rw [if_pos hq, if_pos el] at e
      split at e <;> cases e
  have hd : dgt (tkC t i) = true := by
    cases ed : dgt (tkC t i)
    · unfold tkK at e
      rw [if_pos hq, hl, ed, if_neg (by decide), if_neg (by decide)] at e
      split at e <;> cases e
    · rfl
  have h4 : tkE t i - skp t i ≤ 4 := by
    unfold tkK at e
    rw [if_pos hq, hl, if_neg (by decide), if_pos hd] at e
    by_cases z : tkE t i - skp t i ≤ 4
    · exact z
    · rw [if_neg z] at e; cases e
  have hE : tkE t i = run t dgt (skp t i) := by unfold tkE; rw [if_pos hq, hl, if_neg (by decide), if_pos hd]
  have h1 := nmb_le (t := t) (s := skp t i) (tkE t i - skp t i) (fun j hj => (run_sp dgt z2).2.2.1 _ (by omega) (by omega))
  have h2 : 10 ^ (tkE t i - skp t i) ≤ 10 ^ 4 := Nat.pow_le_pow_right (by omega) h4
  unfold tkN
  omega
/-! the class -/
theorem X10_isWord_eq (w : Nat) {i k : Nat} (h : AtC M t i) (hk : k < 23) {c : Int64} (hc : c = cvW (kw k)) : f_X10_isWord w 25 c M = some (b2i (isW t i k), M) := by
  obtain ⟨-, -, k3, -, w1, -, -⟩ := h
  have hle := kind_lt (t := t) (psn t i)
  unfold f_X10_isWord isW
  rw [k3]
  by_cases q : tkK t (psn t i) = 1
  · rw [if_pos (by rw [q]; rfl), w1 q, hc, decide_eq_true q]
    by_cases z : tkW t (psn t i) = kw k
    · rw [if_pos ((lg_cmp_eq _ _).mpr (by rw [z])), decide_eq_true z]; rfl
    · rw [if_neg (fun e => z ((cvW_inj (tkW_ok (psn_le i) q) (kw_ok k hk)).mp ((lg_cmp_eq _ _).mp e))), decide_eq_false z]; rfl
  · rw [if_neg (show ¬ nI _ = 1 from fun e => q ((nI_eq (b := 1) (by omega) (by omega)).mp e)), decide_eq_false q]; rfl
theorem X10_isSign_eq (w : Nat) (ht : okT t) {i c : Nat} (h : AtC M t i) (hc : c < 256) : f_X10_isSign w 25 (nI c) M = some (b2i (isS t i c), M) := by
  obtain ⟨-, -, k3, -, -, -, w3⟩ := h
  have hle := kind_lt (t := t) (psn t i)
  unfold f_X10_isSign isS
  rw [k3, nI_l (by omega)]
  by_cases q : tkK t (psn t i) = 3
  · have hcl := tkC_lt ht (show tkK t (psn t i) ≠ 0 by omega)
    rw [if_pos (by rw [q]; rfl), w3 q, decide_eq_true q]
    by_cases z : tkC t (psn t i) = c
    · rw [if_pos ((lg_cmp_eq _ _).mpr (by rw [z])), decide_eq_true z]; rfl
    · rw [if_neg (fun e => z ((pk_lEQ (by omega) (by omega)).mp ((lg_cmp_eq _ _).mp e))), decide_eq_false z]; rfl
  · rw [if_neg (show ¬ nI _ = 3 from fun e => q ((nI_eq (b := 3) (by omega) (by omega)).mp e)), decide_eq_false q]; rfl
theorem st0_kw : ∀ k, k < 19 → st0.getD k 0 = cvW (kw k) := by decide +kernel
theorem X10_isName_eq (w : Nat) (hw : 1100 ≤ w) {i : Nat} (h : AtC M t i) : f_X10_isName w 25 M = some (b2i (isN t i), M) := by
  obtain ⟨-, -, k3, -, w1, -, -⟩ := h
  have hle := kind_lt (t := t) (psn t i)
  unfold f_X10_isName isN
  rw [k3]
  by_cases q : tkK t (psn t i) = 1
  · rw [if_pos (by rw [q]; rfl), decide_eq_true q, Bool.true_and]
    refine loopX (fun k (_ : Unit) => alB (fun k => !decide (tkW t (psn t i) = kw k)) k = true) (fun n (_ : Unit) k => f_X10_isName_12 w n 25 (nI k) M) 19 (fun r => r = some (b2i (alB (fun k => !decide (tkW t (psn t i) = kw k)) 19), M)) ?_ ?_ 19 w 0 () (by omega) (by omega) rfl
    · rintro n _ e
      rw [f_X10_isName_12, if_pos (by decide), e]; rfl
    · rintro n _ k hk e
      rw [f_X10_isName_12, if_neg (fun e => by have := (nI_leI (a := 19) (by omega) (by omega)).mp e; omega), show st0.length = 19 from rfl, chk_nI _ (by omega) (by omega), nI_clamp (by omega), st0_kw k hk, w1 q, nI_1]
      by_cases z : tkW t (psn t i) = kw k
      · refine Or.inl ?_
        rw [if_pos ((lg_cmp_eq _ _).mpr (by rw [z])), alB_no (f := fun k => !decide (tkW t (psn t i) = kw k)) (k := k) (by show (!decide (tkW t (psn t i) = kw k)) = false; rw [decide_eq_true z]; rfl) 19 hk]; rfl
      · refine Or.inr ⟨(), ?_, ?_⟩
        · rw [if_neg (fun e => z ((cvW_inj (kw_ok k (by omega)) (tkW_ok (psn_le i) q)).mp ((lg_cmp_eq _ _).mp e)).symm)]
        · unfold alB
          rw [e, decide_eq_false z]; rfl
  · rw [if_neg (show ¬ nI _ = 1 from fun e => q ((nI_eq (b := 1) (by omega) (by omega)).mp e)), decide_eq_false q]; rfl
/-- the class has refused -/
def ErC (M : mM) (e : Nat) : Prop := M.1 25 6 = nI e
/-- what the class's reading of a token may write -/
def FrB (M N : mM) : Prop := (∀ c, c ≠ 25 → N.1 c = M.1 c) ∧ (∀ c j, (c ≠ 25 ∨ j ≠ 5) → N.2 c j = M.2 c j) ∧ N.1 25 1 = M.1 25 1
theorem FrB.rf (M : mM) : FrB M M := ⟨fun _ _ => rfl, fun _ _ _ => rfl, rfl⟩
theorem FrB.tr {K : mM} (f : FrB M N) (g : FrB N K) : FrB M K := ⟨fun c h => (g.1 c h).trans (f.1 c h), fun c j h => (g.2.1 c j h).trans (f.2.1 c j h), g.2.2.trans f.2.2⟩
theorem FrA.b (f : FrA M N) : FrB M N := ⟨f.1, f.2.1, f.2.2.1⟩
theorem AtC.fb {i : Nat} (h : AtC M t i) (e : N.1 25 = M.1 25) (e2 : N.1 26 = M.1 26) (e3 : N.2 25 5 = M.2 25 5) : AtC N t i := by
  unfold AtC TpC TkC at h ⊢
  rw [e, e2, e3]; exact h
theorem X10_refuse_eq (w : Nat) {i c : Nat} (h : AtC M t i) : ∃ N, f_X10_refuse w 25 (nI c) M = some (0, N) ∧ FrB M N ∧ ErC N (er t i c) := by
  obtain ⟨-, -, -, k4, -⟩ := h
  refine ⟨wI M 25 6 (nI (er t i c)), ?_, ⟨fun a ha => by rw [wI_set, setC_ne _ _ ha], fun a j _ => by rw [wI_set, setC_2], by rw [wI25, if_neg (by decide)]⟩, by unfold ErC; rw [wI25, if_pos rfl]⟩
  unfold f_X10_refuse
  rw [k4, show (16 : Int32) * nI (skp t (psn t i)) = nI (16 * skp t (psn t i)) from pk_mul 16 _, nI_add, lt_eq]
  rfl
theorem X10_takeSign_eq (w : Nat) (hw : 1100 ≤ w) (ht : okT t) {i c : Nat} (h : AtC M t i) (hc : c < 256) : ∃ N, FrB M N ∧ ((isS t i c = true ∧ f_X10_takeSign w 25 (nI c) M = some (1, N) ∧ AtC N t (i + 1)) ∨ (isS t i c = false ∧ f_X10_takeSign w 25 (nI c) M = some (0, N) ∧ ErC N (er t i 1))) := by
  unfold f_X10_takeSign
  rw [X10_isSign_eq w ht h hc, bI_some]
  cases e : isS t i c
  · obtain ⟨N, a, b, d⟩ := X10_refuse_eq w (c := 1) h
    refine ⟨N, b, Or.inr ⟨rfl, ?_, d⟩⟩
    rw [if_pos (show b2i false = 0 from rfl), show f_X10_refuse w 25 1 M = _ from a, bI_some]; rfl
  · obtain ⟨N, a, b, d⟩ := h.adv w hw ht
    refine ⟨N, b.b, Or.inl ⟨rfl, ?_, d⟩⟩
    rw [if_neg (show ¬ b2i true = 0 by decide), a, bV_some]; rfl
theorem X10_takeWord_eq (w : Nat) (hw : 1100 ≤ w) (ht : okT t) {i k : Nat} (h : AtC M t i) (hk : k < 23) {c : Int64} (hc : c = cvW (kw k)) : ∃ N, FrB M N ∧ ((isW t i k = true ∧ f_X10_takeWord w 25 c M = some (1, N) ∧ AtC N t (i + 1)) ∨ (isW t i k = false ∧ f_X10_takeWord w 25 c M = some (0, N) ∧ ErC N (er t i 1))) := by
  unfold f_X10_takeWord
  rw [X10_isWord_eq w h hk hc, bI_some]
  cases e : isW t i k
  · obtain ⟨N, a, b, d⟩ := X10_refuse_eq w (c := 1) h
    refine ⟨N, b, Or.inr ⟨rfl, ?_, d⟩⟩
    rw [if_pos (show b2i false = 0 from rfl), show f_X10_refuse w 25 1 M = _ from a, bI_some]; rfl
  · obtain ⟨N, a, b, d⟩ := h.adv w hw ht
    refine ⟨N, b.b, Or.inl ⟨rfl, ?_, d⟩⟩
    rw [if_neg (show ¬ b2i true = 0 by decide), a, bV_some]; rfl
/-- a number up to u stands here -/
def isU (t : TX) (i u : Nat) : Bool := decide (tkK t (psn t i) = 2) && decide (tkN t (psn t i) ≤ u)
def nuE (t : TX) (i : Nat) : Nat := if tkK t (psn t i) = 2 then 4 else 1
theorem X10_takeNumber_eq (w : Nat) (hw : 1100 ≤ w) (ht : okT t) {i u : Nat} (h : AtC M t i) (hu : u < 10000) : ∃ N, FrB M N ∧ ((isU t i u = true ∧ f_X10_takeNumber w 25 (nI u) M = some (nI (tkN t (psn t i)), N) ∧ AtC N t (i + 1)) ∨ (isU t i u = false ∧ f_X10_takeNumber w 25 (nI u) M = some (-1, N) ∧ ErC N (er t i (nuE t i)))) := by
  have h' := h
  obtain ⟨-, -, k3, -, -, w2, -⟩ := h
  have hle := kind_lt (t := t) (psn t i)
  unfold f_X10_takeNumber f_X10_takeNumber_18 f_X10_takeNumber_32 isU nuE
  rw [k3]
  by_cases q : tkK t (psn t i) = 2
  · have hn := tkN_lt (psn_le i) q
    rw [if_pos (show nI (tkK t (psn t i)) = 2 by rw [q]; rfl), decide_eq_true q, Bool.true_and, w2 q, nI_l (by omega), lN_i]
    by_cases z : tkN t (psn t i) ≤ u
    · obtain ⟨N, a, b, d⟩ := h'.adv w hw ht
      refine ⟨N, b.b, Or.inl ⟨decide_eq_true z, ?_, d⟩⟩
      rw [if_pos ((lg_cmp_le _ _).mpr ((pk_lLE (by omega) (by omega)).mpr z)), lt_eq, a, bV_some]
    · obtain ⟨N, a, b, d⟩ := X10_refuse_eq w (c := 4) h'
      refine ⟨N, b, Or.inr ⟨decide_eq_false z, ?_, by rw [if_pos q]; exact d⟩⟩
      rw [if_neg (fun e => z ((pk_lLE (by omega) (by omega)).mp ((lg_cmp_le _ _).mp e))), if_pos (show nI (tkK t (psn t i)) = 2 by rw [q]; rfl), show f_X10_refuse w 25 4 M = _ from a, bI_some]
  · obtain ⟨N, a, b, d⟩ := X10_refuse_eq w (c := 1) h'
    have ne : ¬ nI (tkK t (psn t i)) = 2 := fun e => q ((nI_eq (b := 2) (by omega) (by omega)).mp e)
    refine ⟨N, b, Or.inr ⟨by rw [decide_eq_false q]; rfl, ?_, by rw [if_neg q]; exact d⟩⟩
    rw [if_neg ne, if_neg ne, show f_X10_refuse w 25 1 M = _ from a, bI_some]
/-! the reference -/
def Wd3 (M : mM) : Prop := ∀ k, k < 23 → M.2 168 k = rvW (kw k)
/-- the reference stands at token i, nothing wrong so far -/
def AtR (M : mM) (t : TX) (m i : Nat) : Prop := RT M t m ∧ i ≤ m ∧ M.1 163 7 = nI i ∧ M.1 163 8 = 0 ∧ Wd3 M
def ErR (M : mM) (e : Nat) : Prop := M.1 163 8 = nI e ∧ 0 < e ∧ e < 100000
/-- what taking a token may write -/
def FrY (M N : mM) : Prop := (∀ c, c ≠ 163 → N.1 c = M.1 c) ∧ N.2 = M.2 ∧ ∀ j, j ≠ 7 → j ≠ 8 → N.1 163 j = M.1 163 j
theorem FrY.rf (M : mM) : FrY M M := ⟨fun _ _ => rfl, rfl, fun _ _ _ => rfl⟩
theorem FrY.tr {K : mM} (f : FrY M N) (g : FrY N K) : FrY M K := ⟨fun c h => (g.1 c h).trans (f.1 c h), g.2.1.trans f.2.1, fun j a b => (g.2.2 j a b).trans (f.2.2 j a b)⟩
theorem FrY.w (f : FrY M N) {j : Nat} (hj : j = 7 ∨ j = 8) (y : Int32) : FrY M (wI N 163 j y) := ⟨fun c h => by rw [wI_set, setC_ne _ _ h]; exact f.1 c h, by rw [wI_set, setC_2]; exact f.2.1, fun k a b => by rw [wI_set, setC_at, upd_ne _ _ (by omega)]; exact f.2.2 k a b⟩
theorem w163 (M : mM) (j : Nat) (y : Int32) (k : Nat) : (wI M 163 j y).1 163 k = if k = j then y else M.1 163 k := by
  rw [wI_set, setC_at]
  by_cases q : k = j
  · subst q; rw [upd_at, if_pos rfl]
  · rw [upd_ne _ _ q, if_neg q]
theorem RT.fr {m : Nat} (h : RT M t m) (e1 : N.1 165 = M.1 165) (e2 : N.1 166 = M.1 166) (e3 : N.2 167 = M.2 167) : RT N t m := ⟨h.1, h.2.1, h.2.2.1, fun j hj => (h.2.2.2 j hj).fr (by rw [e1]) (by rw [e2]) (by rw [e3])⟩
theorem AtR.to {m i j : Nat} (h : AtR M t m i) (f : FrY M N) (h7 : N.1 163 7 = nI j) (h8 : N.1 163 8 = 0) (hj : j ≤ m) : AtR N t m j := ⟨h.1.fr (f.1 165 (by decide)) (f.1 166 (by decide)) (by rw [f.2.1]), hj, h7, h8, fun k hk => by rw [f.2.1]; exact h.2.2.2.2 k hk⟩
theorem AtR.nx {m i : Nat} (h : AtR M t m i) (e : tkK t (psn t i) ≠ 0) : i + 1 ≤ m := by
  rcases Nat.lt_or_ge i m with q | q
  · exact q
  · have := h.2.1
    have z : i = m := by omega
    subst z
    exact absurd h.1.2.1 e
theorem AtR.step {m i : Nat} (h : AtR M t m i) (e : tkK t (psn t i) ≠ 0) : FrY M (wI M 163 7 (nI (i + 1))) ∧ AtR (wI M 163 7 (nI (i + 1))) t m (i + 1) := by
  have f : FrY M (wI M 163 7 (nI (i + 1))) := (FrY.rf M).w (Or.inl rfl) _
  exact ⟨f, h.to f (by rw [w163, if_pos rfl]) (by rw [w163, if_neg (by decide)]; exact h.2.2.2.1) (h.nx e)⟩
theorem isW_k {i k : Nat} (e : isW t i k = true) : tkK t (psn t i) ≠ 0 := by unfold isW at e; rw [Bool.and_eq_true, decide_eq_true_eq] at e; omega
theorem isS_k {i k : Nat} (e : isS t i k = true) : tkK t (psn t i) ≠ 0 := by unfold isS at e; rw [Bool.and_eq_true, decide_eq_true_eq] at e; omega
theorem isN_k {i : Nat} (e : isN t i = true) : tkK t (psn t i) ≠ 0 := by unfold isN at e; rw [Bool.and_eq_true, decide_eq_true_eq] at e; omega
theorem isU_k {i u : Nat} (e : isU t i u = true) : tkK t (psn t i) ≠ 0 := by unfold isU at e; rw [Bool.and_eq_true, decide_eq_true_eq] at e; omega
theorem X12_isWord_eq (w : Nat) {m i k : Nat} (h : AtR M t m i) (hk : k < 23) : f_X12_isWord w 163 (nI k) M = some (b2i (isW t i k), M) := by
  obtain ⟨hR, him, h7, h8, hw3⟩ := h
  obtain ⟨a1, a2, a3, -, -⟩ := hR.2.2.2 i him
  have hm := hR.1
  have hle := kind_lt (t := t) (psn t i)
  unfold f_X12_isWord isW
  rw [h8, if_pos rfl, h7, r163_4, r163_6, r163_9, l165, l167, l168, chk_nI _ (by omega) (by omega), nI_clamp (by omega), a1]
  by_cases q : tkK t (psn t i) = 1
  · rw [if_pos (by rw [q]; rfl), decide_eq_true q, chk_nI _ (by omega) (by omega), chk_nI _ (by omega) (by omega), nI_clamp (by omega), a3 q, hw3 k hk]
    by_cases z : tkW t (psn t i) = kw k
    · rw [if_pos ((lg_cmp_eq _ _).mpr (by rw [z])), decide_eq_true z]; rfl
    · rw [if_neg (fun e => z ((rvW_inj (tkW_ok (psn_le i) q) (kw_ok k hk)).mp ((lg_cmp_eq _ _).mp e))), decide_eq_false z]; rfl
  · rw [if_neg (show ¬ nI _ = 1 from fun e => q ((nI_eq (b := 1) (by omega) (by omega)).mp e)), decide_eq_false q]; rfl
theorem X12_isSign_eq (w : Nat) (ht : okT t) {m i c : Nat} (h : AtR M t m i) (hc : c < 256) : f_X12_isSign w 163 (nI c) M = some (b2i (isS t i c), M) := by
  obtain ⟨hR, him, h7, h8, -⟩ := h
  obtain ⟨a1, a2, -, -, a5⟩ := hR.2.2.2 i him
  have hm := hR.1
  have hle := kind_lt (t := t) (psn t i)
  unfold f_X12_isSign isS
  rw [h8, if_pos rfl, h7, r163_4, r163_6, l165, l167, chk_nI _ (by omega) (by omega), nI_clamp (by omega), a1]
  by_cases q : tkK t (psn t i) = 3
  · have hcl := tkC_lt ht (show tkK t (psn t i) ≠ 0 by omega)
    rw [if_pos (by rw [q]; rfl), decide_eq_true q, chk_nI _ (by omega) (by omega), a5 q, nI_l (by omega)]
    by_cases z : tkC t (psn t i) = c
    · rw [if_pos ((lg_cmp_eq _ _).mpr (by rw [z])), decide_eq_true z]; rfl
    · rw [if_neg (fun e => z ((pk_lEQ (by omega) (by omega)).mp ((lg_cmp_eq _ _).mp e))), decide_eq_false z]; rfl
  · rw [if_neg (show ¬ nI _ = 3 from fun e => q ((nI_eq (b := 3) (by omega) (by omega)).mp e)), decide_eq_false q]; rfl
theorem X12_wrong_eq (w : Nat) (ht : okT t) {m i c : Nat} (h : AtR M t m i) (hc : 1 ≤ c) (hc5 : c ≤ 5) : ∃ N, f_X12_wrong w 163 (nI c) M = some N ∧ FrY M N ∧ ErR N (er t i c) := by
  obtain ⟨hR, him, h7, h8, -⟩ := h
  obtain ⟨a1, a2, -⟩ := hR.2.2.2 i him
  have hm := hR.1
  have hl := er_lt ht i hc5
  refine ⟨wI M 163 8 (nI (er t i c)), ?_, (FrY.rf M).w (Or.inr rfl) _, by rw [w163, if_pos rfl], by unfold er; omega, by omega⟩
  unfold f_X12_wrong
  rw [h8, if_pos rfl, h7, r163_5, l166, chk_nI _ (by omega) (by omega), nI_clamp (by omega), a2, show (16 : Int32) * nI (skp t (psn t i)) = nI (16 * skp t (psn t i)) from pk_mul 16 _, nI_add, lt_eq]
  rfl
theorem ErR.ne {e : Nat} (h : ErR M e) : ¬ M.1 163 8 = 0 := by
  rw [h.1]; exact nI_ne0 h.2.1 (by have := h.2.2; omega)
theorem ErR.nle {e : Nat} (h : ErR M e) : ¬ M.1 163 8 ≤ 0 := by
  rw [h.1]; exact nI_nle h.2.1 (by have := h.2.2; omega)
theorem X12_wrong_er (w : Nat) {e : Nat} (c : Int32) (h : ErR M e) : f_X12_wrong w 163 c M = some M := by
  unfold f_X12_wrong; rw [if_neg h.ne]
theorem X12_isWord_er (w : Nat) {e : Nat} (c : Int32) (h : ErR M e) : f_X12_isWord w 163 c M = some (0, M) := by
  unfold f_X12_isWord; rw [if_neg h.ne]; rfl
theorem X12_isSign_er (w : Nat) {e : Nat} (c : Int32) (h : ErR M e) : f_X12_isSign w 163 c M = some (0, M) := by
  unfold f_X12_isSign; rw [if_neg h.ne]; rfl
theorem ErR.w7 {e : Nat} (h : ErR M e) (y : Int32) : ErR (wI M 163 7 y) e := ⟨by rw [w163, if_neg (by decide)]; exact h.1, h.2⟩
theorem X12_hasWord_er (w : Nat) {e : Nat} (c : Int32) (h : ErR M e) : ∃ N, f_X12_hasWord w 163 c M = some (0, N) ∧ FrY M N ∧ ErR N e := by
  unfold f_X12_hasWord
  rw [X12_isWord_er w c h, bI_some, if_pos rfl, lt_eq]
  exact ⟨_, rfl, (FrY.rf M).w (Or.inl rfl) _, h.w7 _⟩
theorem X12_hasSign_er (w : Nat) {e : Nat} (c : Int32) (h : ErR M e) : ∃ N, f_X12_hasSign w 163 c M = some (0, N) ∧ FrY M N ∧ ErR N e := by
  unfold f_X12_hasSign
  rw [X12_isSign_er w c h, bI_some, if_pos rfl, lt_eq]
  exact ⟨_, rfl, (FrY.rf M).w (Or.inl rfl) _, h.w7 _⟩
theorem X12_takeWord_er (w : Nat) {e : Nat} (c : Int32) (h : ErR M e) : ∃ N, f_X12_takeWord w 163 c M = some N ∧ FrY M N ∧ ErR N e := by
  obtain ⟨N, a, b, d⟩ := X12_hasWord_er w c h
  refine ⟨N, ?_, b, d⟩
  unfold f_X12_takeWord
  rw [a, bI_some, if_pos rfl, X12_wrong_er w 1 d, bV_some]
theorem X12_takeSign_er (w : Nat) {e : Nat} (c : Int32) (h : ErR M e) : f_X12_takeSign w 163 c M = some M := by
  unfold f_X12_takeSign
  rw [X12_isSign_er w c h, bI_some, if_pos rfl, X12_wrong_er w 1 h, bV_some]
theorem X12_hasWord_eq (w : Nat) {m i k : Nat} (h : AtR M t m i) (hk : k < 23) : ∃ N, f_X12_hasWord w 163 (nI k) M = some (b2i (isW t i k), N) ∧ FrY M N ∧ AtR N t m (if isW t i k then i + 1 else i) := by
  unfold f_X12_hasWord
  rw [X12_isWord_eq w h hk, bI_some, h.2.2.1, nI_1]
  cases e : isW t i k
  · rw [if_pos (show b2i false = 0 from rfl), Int32.add_zero, lt_eq]
    have f : FrY M (wI M 163 7 (nI i)) := (FrY.rf M).w (Or.inl rfl) _
    exact ⟨_, rfl, f, h.to f (by rw [w163, if_pos rfl]; rfl) (by rw [w163, if_neg (by decide)]; exact h.2.2.2.1) h.2.1⟩
  · rw [if_neg (show ¬ b2i true = 0 by decide), lt_eq]
    exact ⟨_, rfl, h.step (isW_k e)⟩
theorem X12_hasSign_eq (w : Nat) (ht : okT t) {m i c : Nat} (h : AtR M t m i) (hc : c < 256) : ∃ N, f_X12_hasSign w 163 (nI c) M = some (b2i (isS t i c), N) ∧ FrY M N ∧ AtR N t m (if isS t i c then i + 1 else i) := by
  unfold f_X12_hasSign
  rw [X12_isSign_eq w ht h hc, bI_some, h.2.2.1, nI_1]
  cases e : isS t i c
  · rw [if_pos (show b2i false = 0 from rfl), Int32.add_zero, lt_eq]
    have f : FrY M (wI M 163 7 (nI i)) := (FrY.rf M).w (Or.inl rfl) _
    exact ⟨_, rfl, f, h.to f (by rw [w163, if_pos rfl]; rfl) (by rw [w163, if_neg (by decide)]; exact h.2.2.2.1) h.2.1⟩
  · rw [if_neg (show ¬ b2i true = 0 by decide), lt_eq]
    exact ⟨_, rfl, h.step (isS_k e)⟩
theorem X12_takeWord_eq (w : Nat) (ht : okT t) {m i k : Nat} (h : AtR M t m i) (hk : k < 23) : ∃ N, f_X12_takeWord w 163 (nI k) M = some N ∧ FrY M N ∧ ((isW t i k = true ∧ AtR N t m (i + 1)) ∨ (isW t i k = false ∧ ErR N (er t i 1))) := by
  obtain ⟨N, a, b, d⟩ := X12_hasWord_eq w h hk
  unfold f_X12_takeWord
  rw [a, bI_some]
  cases e : isW t i k
  · rw [e] at d
    obtain ⟨K, a2, b2, d2⟩ := X12_wrong_eq w ht (c := 1) d (by omega) (by omega)
    rw [if_pos (show b2i false = 0 from rfl), show f_X12_wrong w 163 1 N = _ from a2, bV_some]
    exact ⟨K, rfl, b.tr b2, Or.inr ⟨rfl, d2⟩⟩
  · rw [e] at d
    rw [if_neg (show ¬ b2i true = 0 by decide)]
    exact ⟨N, rfl, b, Or.inl ⟨rfl, d⟩⟩
theorem X12_takeSign_eq (w : Nat) (ht : okT t) {m i c : Nat} (h : AtR M t m i) (hc : c < 256) : ∃ N, f_X12_takeSign w 163 (nI c) M = some N ∧ FrY M N ∧ ((isS t i c = true ∧ AtR N t m (i + 1)) ∨ (isS t i c = false ∧ ErR N (er t i 1))) := by
  unfold f_X12_takeSign
  rw [X12_isSign_eq w ht h hc, bI_some, h.2.2.1, nI_1]
  cases e : isS t i c
  · obtain ⟨K, a2, b2, d2⟩ := X12_wrong_eq w ht (c := 1) h (by omega) (by omega)
    rw [if_pos (show b2i false = 0 from rfl), show f_X12_wrong w 163 1 M = _ from a2, bV_some]
    exact ⟨K, rfl, b2, Or.inr ⟨rfl, d2⟩⟩
  · rw [if_neg (show ¬ b2i true = 0 by decide), lt_eq]
    exact ⟨_, rfl, (h.step (isS_k e)).1, Or.inl ⟨rfl, (h.step (isS_k e)).2⟩⟩
theorem X12_takeNumber_er (w : Nat) {e : Nat} (a b : Int32) (h : ErR M e) : f_X12_takeNumber w 163 a b M = some (0, M) := by
  unfold f_X12_takeNumber f_X12_takeNumber_28 f_X12_takeNumber_70
  rw [if_neg h.ne, if_neg h.ne, if_neg h.nle]
theorem X12_takeNumber_eq (w : Nat) (ht : okT t) {m i u : Nat} (h : AtR M t m i) (hu : u < 10000) : ∃ N, FrY M N ∧ ((isU t i u = true ∧ f_X12_takeNumber w 163 0 (nI u) M = some (nI (tkN t (psn t i)), N) ∧ AtR N t m (i + 1)) ∨ (isU t i u = false ∧ f_X12_takeNumber w 163 0 (nI u) M = some (0, N) ∧ ErR N (er t i (nuE t i)))) := by
  have h' := h
  obtain ⟨hR, him, h7, h8, hw3⟩ := h
  obtain ⟨a1, a2, -, a4, -⟩ := hR.2.2.2 i him
  have hm := hR.1
  have hle := kind_lt (t := t) (psn t i)
  have er70 : ∀ {N : mM} {e : Nat}, ErR N e → f_X12_takeNumber_70 w 163 N = some (0, N) := fun he => by unfold f_X12_takeNumber_70; rw [if_neg he.nle]
  unfold f_X12_takeNumber isU nuE
  rw [h8, if_pos rfl, h7, r163_4, l165, chk_nI _ (by omega) (by omega), nI_clamp (by omega), a1]
  by_cases q : tkK t (psn t i) = 2
  · have hn := tkN_lt (psn_le i) q
    unfold f_X12_takeNumber_28
    rw [if_pos (show nI (tkK t (psn t i)) = 2 by rw [q]; rfl), h8, if_pos rfl, h7, r163_6, l167, chk_nI _ (by omega) (by omega), chk_nI _ (by omega) (by omega), nI_clamp (by omega), a4 q, decide_eq_true q, Bool.true_and, nI_l (by omega)]
    have n0 : ¬ lg_cmp (lN (tkN t (psn t i))) ((0 : Int32).toInt64) < 0 := fun e => by
      have := (lg_cmp_lt _ _).mp e
      have h2 := (pk_lLT (b := 0) (by omega) (by omega)).mp this
      omega
    rw [if_neg n0]
    by_cases z : tkN t (psn t i) ≤ u
    · obtain ⟨f, d⟩ := h'.step (show tkK t (psn t i) ≠ 0 by omega)
      refine ⟨_, f, Or.inl ⟨decide_eq_true z, ?_, d⟩⟩
      unfold f_X12_takeNumber_70
      rw [if_pos ((lg_cmp_le _ _).mpr ((pk_lLE (by omega) (by omega)).mpr z)), h8, if_pos (by decide), h7, nI_1, lt_eq, w163, if_pos rfl, show nI (i + 1) - 1 = nI i from pk_sub (b := 1) (by omega), r163_6, l167, chk_nI _ (by omega) (by omega), nI_clamp (by omega), wI_set, setC_2, a4 q, lN_i, ← wI_set]
    · obtain ⟨K, b1, b2, b3⟩ := X12_wrong_eq w ht (c := 4) h' (by omega) (by omega)
      refine ⟨K, b2, Or.inr ⟨decide_eq_false z, ?_, by rw [if_pos q]; exact b3⟩⟩
      unfold f_X12_takeNumber_65
      rw [if_neg (fun e => z ((pk_lLE (by omega) (by omega)).mp ((lg_cmp_le _ _).mp e))), show f_X12_wrong w 163 4 M = _ from b1, bV_some, er70 b3]
  · obtain ⟨K, b1, b2, b3⟩ := X12_wrong_eq w ht (c := 1) h' (by omega) (by omega)
    refine ⟨K, b2, Or.inr ⟨by rw [decide_eq_false q]; rfl, ?_, by rw [if_neg q]; exact b3⟩⟩
    rw [if_neg (show ¬ nI (tkK t (psn t i)) = 2 from fun e => q ((nI_eq (b := 2) (by omega) (by omega)).mp e)), show f_X12_wrong w 163 1 M = _ from b1, bV_some, er70 b3]
end TOKS
