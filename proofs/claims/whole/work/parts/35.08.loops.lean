/-! ===== one shape for all loops, and the plain rows for simp ===== -/
/-- j rounds from k on; a round may end all -/
def itE {σ α : Type} (g : Nat → σ → Sum α σ) (e : σ → α) : Nat → Nat → σ → α
  | 0, _, s => e s
  | j + 1, k, s => match g k s with
    | .inl a => a
    | .inr t => itE g e j (k + 1) t
def itG {σ : Type} (g : Nat → σ → σ) : Nat → Nat → σ → σ
  | 0, _, s => s
  | j + 1, k, s => itG g j (k + 1) (g k s)
theorem loopE {σ α : Type} (I : Nat → σ → Prop) (F : Nat → σ → Nat → α) (g : Nat → σ → Sum α σ) (e : σ → α) (K : Nat) (h0 : ∀ n s, I K s → F (n + 1) s K = e s) (h1 : ∀ n s k, k < K → I k s → (∃ a, g k s = .inl a ∧ F (n + 1) s k = a) ∨ ∃ t, g k s = .inr t ∧ F (n + 1) s k = F n t (k + 1) ∧ I (k + 1) t) : ∀ j n k s, k + j = K → j < n → I k s → F n s k = itE g e j k s := by
  intro j
  induction j with
  | zero =>
    intro n k s hk hn hi
    obtain ⟨n, rfl⟩ : ∃ m, n = m + 1 := ⟨n - 1, by omega⟩
    have hk : k = K := by omega
    subst hk
    exact h0 n s hi
  | succ j ih =>
    intro n k s hk hn hi
    obtain ⟨n, rfl⟩ : ∃ m, n = m + 1 := ⟨n - 1, by omega⟩
    unfold itE
    rcases h1 n s k (by omega) hi with ⟨a, e1, e2⟩ | ⟨t, e1, e2, e3⟩
    · rw [e1]; exact e2
    · rw [e1, e2]; exact ih n (k + 1) t (by omega) (by omega) e3
theorem loopG {σ α : Type} (I : Nat → σ → Prop) (F : Nat → σ → Nat → α) (g : Nat → σ → σ) (e : σ → α) (K : Nat) (h0 : ∀ n s, I K s → F (n + 1) s K = e s) (h1 : ∀ n s k, k < K → I k s → F (n + 1) s k = F n (g k s) (k + 1) ∧ I (k + 1) (g k s)) : ∀ j n k s, k + j = K → j < n → I k s → F n s k = e (itG g j k s) := by
  intro j
  induction j with
  | zero =>
    intro n k s hk hn hi
    obtain ⟨n, rfl⟩ : ∃ m, n = m + 1 := ⟨n - 1, by omega⟩
    have hk : k = K := by omega
    subst hk
    exact h0 n s hi
  | succ j ih =>
    intro n k s hk hn hi
    obtain ⟨n, rfl⟩ : ∃ m, n = m + 1 := ⟨n - 1, by omega⟩
    obtain ⟨e2, e3⟩ := h1 n s k (by omega) hi
    unfold itG
    rw [e2]; exact ih n (k + 1) _ (by omega) (by omega) e3
/-- a loop without anything to keep -/
theorem loopP {σ α : Type} (F : Nat → σ → Nat → α) (g : Nat → σ → σ) (e : σ → α) (K : Nat) (h0 : ∀ n s, F (n + 1) s K = e s) (h1 : ∀ n s k, k < K → F (n + 1) s k = F n (g k s) (k + 1)) {w : Nat} (hw : K < w) (s : σ) : F w s 0 = e (itG g K 0 s) :=
  loopG (fun _ _ => True) F g e K (fun n s _ => h0 n s) (fun n s k hk _ => ⟨h1 n s k hk, trivial⟩) K w 0 s (by omega) hw trivial
theorem itG_I {σ : Type} (I : Nat → σ → Prop) (g : Nat → σ → σ) {K : Nat} (h1 : ∀ k s, k < K → I k s → I (k + 1) (g k s)) : ∀ j k s, k + j ≤ K → I k s → I (k + j) (itG g j k s) := by
  intro j
  induction j with
  | zero => intro k s _ h; exact h
  | succ j ih =>
    intro k s hk h
    unfold itG
    have := ih (k + 1) _ (by omega) (h1 k s (by omega) h)
    rw [show k + (j + 1) = k + 1 + j by omega]; exact this
theorem itG_cong {σ : Type} (I : Nat → σ → Prop) (g g' : Nat → σ → σ) {K : Nat} (h1 : ∀ k s, k < K → I k s → g k s = g' k s ∧ I (k + 1) (g' k s)) : ∀ j k s, k + j ≤ K → I k s → itG g j k s = itG g' j k s := by
  intro j
  induction j with
  | zero => intro k s _ h; rfl
  | succ j ih =>
    intro k s hk h
    unfold itG
    rw [(h1 k s (by omega) h).1]
    exact ih (k + 1) _ (by omega) (h1 k s (by omega) h).2
def orB (q : Nat → Bool) (k : Nat) (x : Int32) : Int32 := if q k then x ||| one k else x
theorem itG_mask (q : Nat → Bool) : ∀ j k x, itG (orB q) j k x = mask q x k j := by
  intro j
  induction j with
  | zero => intro k x; rfl
  | succ j ih => intro k x; unfold itG mask; exact ih _ _
/-! not by rfl alone, so that simp keeps each step as a proof: as rfl steps the kernel tries the arguments of nested binds first and doesn't end -/
theorem bI_s {α : Type} (r : Int32) (N : mM) (k : Int32 → mM → Option α) : bI (some (r, N)) k = k r N := Eq.trans rfl rfl
theorem bV_s {α : Type} (N : mM) (k : mM → Option α) : bV (some N) k = k N := Eq.trans rfl rfl
theorem ltv_s {α β : Type} (x : β) (k : β → Option α) : lt x k = k x := Eq.trans rfl rfl
theorem lit_s (n : Nat) : (OfNat.ofNat n : Int32) = nI n := Eq.trans rfl rfl
theorem chk_nI {α : Type} {k n : Nat} (f : Option α) (hk : k < n) (hn : n < 2147483648) : chk (nI k) n f = f := chk_ok f rfl hk hn
theorem oneN (k : Nat) : nI 1 <<< (nI k &&& nI 31) = one k := Eq.trans rfl rfl
theorem bitN0 (x : Int32) (d : Nat) : ((x >>> (nI d &&& nI 31)) &&& nI 1 = nI 0) = (bit x d = false) := propext (bit_0 x d)
theorem bitN1 (x : Int32) (d : Nat) : ((x >>> (nI d &&& nI 31)) &&& nI 1 = nI 1) = (bit x d = true) := propext (bit_1 x d)
theorem b2i0 (b : Bool) : (b2i b = nI 0) = (b = false) := propext (b2i_0 b)
theorem b2i1 (b : Bool) : (b2i b = nI 1) = (b = true) := by cases b <;> decide
theorem b2it : b2i true = nI 1 := Eq.trans rfl rfl
theorem b2if : b2i false = nI 0 := Eq.trans rfl rfl
theorem or_n0 (x : Int32) : x ||| nI 0 = x := or_0 x
theorem itG_all (q : Nat → Bool) : ∀ j i (b : Bool), itG (fun j b => b && q j) j i b = true ↔ b = true ∧ ∀ r, i ≤ r → r < i + j → q r = true := by
  intro j
  induction j with
  | zero => intro i b; exact ⟨fun h => ⟨h, fun r h1 h2 => by omega⟩, fun h => h.1⟩
  | succ j ih =>
    intro i b
    unfold itG
    rw [ih, Bool.and_eq_true]
    constructor
    · rintro ⟨⟨h1, h2⟩, h3⟩
      refine ⟨h1, fun r h4 h5 => ?_⟩
      by_cases e : r = i
      · subst e; exact h2
      · exact h3 r (by omega) (by omega)
    · rintro ⟨h1, h2⟩
      exact ⟨⟨h1, h2 i (by omega) (by omega)⟩, fun r h4 h5 => h2 r (by omega) (by omega)⟩
theorem bool_iff {a b : Bool} (h : a = true ↔ b = true) : a = b := by
  cases a <;> cases b
  · rfl
  · exact h.mpr rfl
  · exact (h.mp rfl).symm
  · rfl
