/-! ===== numbers, checks, binds: the plain tools of layer 2 ===== -/
theorem nx_lit (n : Nat) : (OfNat.ofNat n : Int32) = nI n := rfl
theorem chk_ok {α : Type} {i : Int32} {k n : Nat} (f : Option α) (hi : i = nI k) (hk : k < n) (hn : n < 2 ^ 31) : chk i n f = f := by
  subst hi
  exact if_neg (nI_in hk hn)
theorem bI_some {α : Type} (r : Int32) (N : mM) (k : Int32 → mM → Option α) : bI (some (r, N)) k = k r N := rfl
theorem bV_some {α : Type} (N : mM) (k : mM → Option α) : bV (some N) k = k N := rfl
theorem lt_eq {α β : Type} (x : β) (k : β → Option α) : lt x k = k x := rfl
theorem rtB0 (M : mM) : rtB 0 M = some (0, M) := rfl
theorem rtB1 (M : mM) : rtB 1 M = some (1, M) := rfl
def b2i (b : Bool) : Int32 := if b then 1 else 0
theorem b2i_0 (b : Bool) : b2i b = 0 ↔ b = false := by cases b <;> decide
theorem rtB_b (b : Bool) (M : mM) : rtB (b2i b) M = some (b2i b, M) := by cases b <;> rfl
/-- bit d of x, as both programs read it -/
def bit (x : Int32) (d : Nat) : Bool := decide ((x >>> (nI d &&& 31)) &&& 1 = 1)
theorem bit01 (x y : Int32) : (x >>> y) &&& 1 = 0 ∨ (x >>> y) &&& 1 = 1 := by
  obtain ⟨j, hj, e⟩ := pk_andE (x >>> y) (m := 1) 1 (by decide)
  have : j = 0 ∨ j = 1 := by omega
  rcases this with rfl | rfl
  · exact Or.inl e
  · exact Or.inr e
theorem bit_0 (x : Int32) (d : Nat) : (x >>> (nI d &&& 31)) &&& 1 = 0 ↔ bit x d = false := by
  unfold bit
  rcases bit01 x (nI d &&& 31) with h | h <;> rw [h] <;> decide
theorem bit_1 (x : Int32) (d : Nat) : (x >>> (nI d &&& 31)) &&& 1 = 1 ↔ bit x d = true := by
  unfold bit
  rcases bit01 x (nI d &&& 31) with h | h <;> rw [h] <;> decide
/-- the set of the d < n with p d, as a mask, built up on x from place k on (n - k places) -/
def mask (p : Nat → Bool) (x : Int32) (k : Nat) : Nat → Int32
  | 0 => x
  | n + 1 => mask p (if p k then x ||| ((1 : Int32) <<< (nI k &&& 31)) else x) (k + 1) n
theorem mask_cong {p q : Nat → Bool} : ∀ (n : Nat) (x : Int32) (k : Nat), (∀ d, k ≤ d → d < k + n → p d = q d) → mask p x k n = mask q x k n := by
  intro n
  induction n with
  | zero => intros; rfl
  | succ n ih =>
    intro x k h
    unfold mask
    rw [h k (by omega) (by omega)]
    exact ih _ _ (fun d h1 h2 => h d (by omega) (by omega))
