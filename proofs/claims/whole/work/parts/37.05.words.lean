/-! ===== words by their letters ===== -/
def kws : List (List Nat) := [[114, 111, 111, 109], [100, 111, 111, 114], [103, 97, 112], [112, 101, 114, 115, 111, 110], [105, 110], [100, 97, 109, 112], [115, 119, 101, 108, 108, 115], [100, 97, 121], [119, 97, 108, 107], [112, 108, 97, 110, 101], [119, 101, 100, 103, 101], [102, 111, 114, 99, 101], [111, 97, 107], [112, 105, 110, 101], [101, 108, 109], [108, 105, 109, 101], [110, 111, 116], [97, 110, 100], [111, 114], [119, 101, 116], [115, 119, 101, 108, 108], [115, 112, 97, 99, 101], [100, 97, 116, 101]]
def kw (k : Nat) : List Nat := kws.getD k []
def okW (l : List Nat) : Prop := l.length ≤ 8 ∧ ∀ b, b ∈ l → ltr b = true
/-- a number by its digits -/
def fb (B : Nat) (g : Nat → Nat) (l : List Nat) : Nat := l.foldl (fun v b => v * B + g b) 0
section WORDS
variable {t : TX} {M N : mM}
theorem fb_snoc (B : Nat) (g : Nat → Nat) (l : List Nat) (b : Nat) : fb B g (l ++ [b]) = fb B g l * B + g b := by unfold fb; rw [List.foldl_append]; rfl
theorem fb_inj {B : Nat} {g : Nat → Nat} (hB : 1 < B) (h1 : ∀ b, ltr b = true → 1 ≤ g b ∧ g b < B) (h2 : ∀ a b, ltr a = true → ltr b = true → g a = g b → a = b) : ∀ (n : Nat) (l m : List Nat), l.length ≤ n → (∀ b, b ∈ l → ltr b = true) → (∀ b, b ∈ m → ltr b = true) → fb B g l = fb B g m → l = m := by
  intro n
  induction n with
  | zero =>
    intro l m hl ol om e
    have : l = [] := List.eq_nil_of_length_eq_zero (by omega)
    subst this
    rcases List.eq_nil_or_concat m with q | ⟨m', b, q⟩
    · exact q.symm
    · rw [List.concat_eq_append] at q
      subst q
      rw [fb_snoc] at e
      have := (h1 b (om b (by simp))).1
      have e0 : fb B g [] = 0 := rfl
      omega
  | succ n ih =>
    intro l m hl ol om e
    rcases List.eq_nil_or_concat l with q | ⟨l', a, q⟩
    · subst q
      rcases List.eq_nil_or_concat m with q | ⟨m', b, q⟩
      · exact q.symm
      · rw [List.concat_eq_append] at q
        subst q
        rw [fb_snoc] at e
        have := (h1 b (om b (by simp))).1
        have e0 : fb B g [] = 0 := rfl
        omega
    · rw [List.concat_eq_append] at q
      subst q
      rcases List.eq_nil_or_concat m with q | ⟨m', b, q⟩
      · subst q
        rw [fb_snoc] at e
        have := (h1 a (ol a (by simp))).1
        have e0 : fb B g [] = 0 := rfl
        omega
      · rw [List.concat_eq_append] at q
        subst q
        rw [fb_snoc, fb_snoc] at e
        obtain ⟨a1, a2⟩ := h1 a (ol a (by simp))
        obtain ⟨b1, b2⟩ := h1 b (om b (by simp))
        have eg : g a = g b := by
          have := congrArg (· % B) e
          simp only [Nat.mul_add_mod_self_right, Nat.mod_eq_of_lt a2, Nat.mod_eq_of_lt b2] at this
          exact this
        have ef : fb B g l' = fb B g m' := by
          rw [eg] at e
          have : fb B g l' * B = fb B g m' * B := by omega
          exact Nat.eq_of_mul_eq_mul_right (by omega) this
        rw [List.length_append] at hl
        have hl' : l'.length ≤ n := by
          have : [a].length = 1 := rfl
          omega
        rw [ih l' m' hl' (fun c hc => ol c (by simp [hc])) (fun c hc => om c (by simp [hc])) ef, h2 a b (ol a (by simp)) (om b (by simp)) eg]
theorem ltr_b {b : Nat} (h : ltr b = true) : 97 ≤ b ∧ b ≤ 122 := by
  unfold ltr at h
  rw [Bool.and_eq_true, decide_eq_true_eq, decide_eq_true_eq] at h
  exact h
theorem fb_lt {B : Nat} {g : Nat → Nat} (hg : ∀ b, ltr b = true → g b < B) : ∀ (n : Nat) (l : List Nat), l.length = n → (∀ b, b ∈ l → ltr b = true) → fb B g l < B ^ n := by
  intro n
  induction n with
  | zero =>
    intro l hl _
    have : l = [] := List.eq_nil_of_length_eq_zero hl
    subst this
    show 0 < 1; omega
  | succ n ih =>
    intro l hl ol
    rcases List.eq_nil_or_concat l with q | ⟨l', a, q⟩
    · subst q; cases hl
    · rw [List.concat_eq_append] at q
      subst q
      rw [List.length_append] at hl
      have hl' : l'.length = n := by
        have : [a].length = 1 := rfl
        omega
      have := ih l' hl' (fun c hc => ol c (by simp [hc]))
      have h2 := hg a (ol a (by simp))
      rw [fb_snoc, Nat.pow_succ]
      calc fb B g l' * B + g a < fb B g l' * B + B := by omega
        _ = (fb B g l' + 1) * B := by rw [Nat.succ_mul]
        _ ≤ B ^ n * B := Nat.mul_le_mul_right _ this
/-- with letters below 123 eight of them stay below 2 ^ 63 -/
theorem c_lt {l : List Nat} (h : okW l) : fb 256 id l < 2 ^ 63 := by
  rcases List.eq_nil_or_concat l with q | ⟨l', a, q⟩
  · subst q; show 0 < _; omega
  -- the first letter tells
  have key : ∀ (n : Nat) (l : List Nat), l.length = n + 1 → (∀ b, b ∈ l → ltr b = true) → fb 256 id l < 123 * 256 ^ n := by
    intro n
    induction n with
    | zero =>
      intro l hl ol
      match l, hl with
      | [b], _ =>
        have := ltr_b (ol b (by simp))
        show 0 * 256 + b < 123 * 1
        omega
    | succ n ih =>
      intro l hl ol
      rcases List.eq_nil_or_concat l with q | ⟨l', a, q⟩
      · subst q; cases hl
      · rw [List.concat_eq_append] at q
        subst q
        rw [List.length_append] at hl
        have hl' : l'.length = n + 1 := by
          have : [a].length = 1 := rfl
          omega
        have h1 := ih l' hl' (fun c hc => ol c (by simp [hc]))
        have h2 := ltr_b (ol a (by simp))
        rw [fb_snoc, Nat.pow_succ]
        show fb 256 id l' * 256 + a < _
        omega
  have hlen : l.length ≤ 8 := h.1
  rw [List.concat_eq_append] at q
  have hl0 : l.length = (l.length - 1) + 1 := by
    rw [q, List.length_append]
    have : [a].length = 1 := rfl
    omega
  have h1 := key (l.length - 1) l hl0 h.2
  have h2 : 256 ^ (l.length - 1) ≤ 256 ^ 7 := Nat.pow_le_pow_right (by omega) (by omega)
  have h3 : 123 * 256 ^ (l.length - 1) ≤ 123 * 256 ^ 7 := Nat.mul_le_mul_left _ h2
  have h4 : 123 * 256 ^ 7 < 2 ^ 63 := by decide
  omega
theorem sh8b (v b : Nat) (hb : b < 256) (hv : v * 256 + b < 9223372036854775808) : (BitVec.ofNat 64 v <<< 8) ||| BitVec.ofNat 64 b = BitVec.ofNat 64 (v * 256 + b) := by
  apply BitVec.eq_of_toNat_eq
  have e0 : v <<< 8 = v * 256 := Nat.shiftLeft_eq v 8
  have e1 : (v <<< 8) % 18446744073709551616 = v <<< 8 := Nat.mod_eq_of_lt (by omega)
  have h1 : (BitVec.ofNat 64 v).toNat = v := by rw [BitVec.toNat_ofNat]; exact Nat.mod_eq_of_lt (by omega)
  have h2 : (BitVec.ofNat 64 b).toNat = b := by rw [BitVec.toNat_ofNat]; exact Nat.mod_eq_of_lt (by omega)
  have h3 : (BitVec.ofNat 64 (v * 256 + b)).toNat = v * 256 + b := by rw [BitVec.toNat_ofNat]; exact Nat.mod_eq_of_lt (by omega)
  rw [BitVec.toNat_or, BitVec.toNat_shiftLeft, h1, h2, h3]
  refine (congrArg (· ||| b) e1).trans ?_
  show v <<< 8 ||| b = _
  rw [← Nat.shiftLeft_add_eq_or_of_lt (show b < 2 ^ 8 by omega), e0]
theorem sh8 (v b : Nat) (hb : b < 256) (hv : v * 256 + b < 2 ^ 63) : (lN v <<< ((8 : Int32).toInt64 &&& 63)) ||| (nI b).toInt64 = lN (v * 256 + b) := by
  rw [nI_l (by omega)]
  apply Int64.toBitVec_inj.mp
  rw [Int64.toBitVec_or, Int64.toBitVec_shiftLeft]
  have e8 : ((((8 : Int32).toInt64 &&& 63).toBitVec.smod 64)).toNat = 8 := by decide
  show ((lN v).toBitVec <<< (((8 : Int32).toInt64 &&& 63).toBitVec.smod 64).toNat) ||| (lN b).toBitVec = (lN (v * 256 + b)).toBitVec
  rw [e8]
  exact sh8b v b hb hv
theorem cvW_eq : ∀ (n : Nat) (l : List Nat), l.length ≤ n → okW l → cvW l = lN (fb 256 id l) := by
  intro n
  induction n with
  | zero =>
    intro l hl _
    have : l = [] := List.eq_nil_of_length_eq_zero (by omega)
    subst this; rfl
  | succ n ih =>
    intro l hl ol
    rcases List.eq_nil_or_concat l with q | ⟨l', a, q⟩
    · subst q; rfl
    · have hlt := c_lt ol
      rw [List.concat_eq_append] at q
      subst q
      have ha := ltr_b (ol.2 a (by simp))
      have hlen : l'.length + 1 ≤ 8 := by have := ol.1; rw [List.length_append] at this; exact this
      rw [List.length_append] at hl
      have hl' : l'.length ≤ n := by
        have : [a].length = 1 := rfl
        omega
      rw [fb_snoc] at hlt
      rw [cvW_snoc, fb_snoc, ih l' hl' ⟨by omega, fun c hc => ol.2 c (by simp [hc])⟩]
      exact sh8 _ a (by omega) hlt
theorem rvW_eq : ∀ (n : Nat) (l : List Nat), l.length ≤ n → okW l → rvW l = lN (fb 37 (fun b => b - 96) l) := by
  intro n
  induction n with
  | zero =>
    intro l hl _
    have : l = [] := List.eq_nil_of_length_eq_zero (by omega)
    subst this; rfl
  | succ n ih =>
    intro l hl ol
    rcases List.eq_nil_or_concat l with q | ⟨l', a, q⟩
    · subst q; rfl
    · rw [List.concat_eq_append] at q
      subst q
      have ha := ltr_b (ol.2 a (by simp))
      have hlen : l'.length + 1 ≤ 8 := by have := ol.1; rw [List.length_append] at this; exact this
      rw [List.length_append] at hl
      have hl' : l'.length ≤ n := by
        have : [a].length = 1 := rfl
        omega
      rw [rvW_snoc, fb_snoc, ih l' hl' ⟨by omega, fun c hc => ol.2 c (by simp [hc])⟩, nI_l (by omega), show (37 : Int64) * lN (fb 37 (fun b => b - 96) l') = lN (37 * fb 37 (fun b => b - 96) l') from lN_mul 37 _, lN_add, Nat.mul_comm]
theorem cvW_inj {l m : List Nat} (hl : okW l) (hm : okW m) : cvW l = cvW m ↔ l = m := by
  refine ⟨fun e => ?_, fun e => by rw [e]⟩
  rw [cvW_eq 8 l hl.1 hl, cvW_eq 8 m hm.1 hm, pk_lEQ (c_lt hl) (c_lt hm)] at e
  exact fb_inj (by omega) (fun b hb => by have := ltr_b hb; show 1 ≤ b ∧ b < 256; omega) (fun a b _ _ h => h) 8 l m hl.1 hl.2 hm.2 e
theorem r_lt {l : List Nat} (h : okW l) : fb 37 (fun b => b - 96) l < 2 ^ 63 := by
  have h1 := fb_lt (B := 37) (g := fun b => b - 96) (fun b hb => by have := ltr_b hb; show b - 96 < 37; omega) l.length l rfl h.2
  have h2 : 37 ^ l.length ≤ 37 ^ 8 := Nat.pow_le_pow_right (by omega) h.1
  have h3 : 37 ^ 8 < 2 ^ 63 := by decide
  omega
theorem rvW_inj {l m : List Nat} (hl : okW l) (hm : okW m) : rvW l = rvW m ↔ l = m := by
  refine ⟨fun e => ?_, fun e => by rw [e]⟩
  rw [rvW_eq 8 l hl.1 hl, rvW_eq 8 m hm.1 hm, pk_lEQ (r_lt hl) (r_lt hm)] at e
  exact fb_inj (by omega) (fun b hb => by have := ltr_b hb; show 1 ≤ b - 96 ∧ b - 96 < 37; omega) (fun a b ha hb h => by have := ltr_b ha; have := ltr_b hb; have h : a - 96 = b - 96 := h; omega) 8 l m hl.1 hl.2 hm.2 e
theorem kw_ok : ∀ k, k < 23 → okW (kw k) := by
  intro k hk
  have h : ∀ k, k < 23 → (kw k).length ≤ 8 ∧ ((kw k).all ltr) = true := by decide
  obtain ⟨a, b⟩ := h k hk
  exact ⟨a, fun c hc => List.all_eq_true.mp b c hc⟩
theorem kw_inj : ∀ a, a < 23 → ∀ b, b < 23 → kw a = kw b → a = b := by decide
theorem wdl_len (s : Nat) : ∀ k, (wdl t s k).length = k := by
  intro k
  induction k with
  | zero => rfl
  | succ k ih => unfold wdl; rw [List.length_append, ih]; rfl
theorem wdl_mem {s : Nat} : ∀ k b, b ∈ wdl t s k → ∃ j, j < k ∧ b = t.2 (s + j) := by
  intro k
  induction k with
  | zero => intro b h; cases h
  | succ k ih =>
    intro b h
    unfold wdl at h
    rw [List.mem_append] at h
    rcases h with h | h
    · obtain ⟨j, h1, h2⟩ := ih b h
      exact ⟨j, by omega, h2⟩
    · rw [List.mem_singleton] at h
      exact ⟨k, by omega, h⟩
theorem tkW_ok {i : Nat} (hi : i ≤ t.1) (e : tkK t i = 1) : okW (tkW t i) := by
  obtain ⟨z1, z2⟩ := skp_le hi
  have hq : skp t i < t.1 := by
    rcases Nat.lt_or_ge (skp t i) t.1 with q | q
    · exact q
    · unfold tkK at e; rw [if_neg (by omega)] at e; cases e
  have hl : ltr (tkC t i) = true := by
    cases el : ltr (tkC t i)
    · unfold tkK at e
      rw [if_pos hq, el, if_neg (by decide)] at e
      split at e
      · split at e <;> cases e
      · split at e <;> cases e
    · rfl
  have h8 : tkE t i - skp t i ≤ 8 := by
    unfold tkK at e
    rw [if_pos hq, if_pos hl] at e
    by_cases z : tkE t i - skp t i ≤ 8
    · exact z
    · rw [if_neg z] at e; cases e
  have hE : tkE t i = run t ltr (skp t i) := by unfold tkE; rw [if_pos hq, if_pos hl]
  refine ⟨by unfold tkW; rw [wdl_len]; exact h8, fun b hb => ?_⟩
  obtain ⟨j, h1, h2⟩ := wdl_mem _ b hb
  rw [h2]
  exact (run_sp ltr z2).2.2.1 _ (by omega) (by omega)
end WORDS
