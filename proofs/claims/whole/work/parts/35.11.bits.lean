/-! ===== counting bits; bride, spared, opened ===== -/
section BC
variable {p : HP} {h : HS} {M : mM}
def pop (x : Int32) : Nat := cnt (bt x) 8
theorem bits_all : ∀ m, m < 256 → itG (fun k (s : Int32) => s + ((nI m >>> (nI k &&& nI 31)) &&& nI 1)) 30 0 0 = nI (pop (nI m)) := by decide +kernel
theorem in8 {x : Int32} (h : inR 8 x) : ∃ m, m < 256 ∧ x = nI m := by
  obtain ⟨j, hj, e⟩ := pk_andE x (m := 255) 8 (by decide)
  refine ⟨j, hj, ?_⟩
  rw [← e]
  apply b_ext
  intro i hi
  rw [b_and, b_255]
  cases e2 : bt x i
  · rfl
  · rw [decide_eq_true (h i hi e2)]; rfl
theorem X12_bits_eq (w : Nat) (hw : 40 ≤ w) {x : Int32} (hx : inR 8 x) (M : mM) : f_X12_bits w x M = some (nI (pop x), M) := by
  obtain ⟨m, hm, rfl⟩ := in8 hx
  unfold f_X12_bits
  refine (loopP (fun n s k => f_X12_bits_4 w n (nI m) s (nI k) M) (fun k (s : Int32) => s + ((nI m >>> (nI k &&& nI 31)) &&& nI 1)) (fun s => some (s, M)) 30 ?_ ?_ (by omega) 0).trans (by rw [bits_all m hm])
  · intro n s
    simp (discharger := omega) only [f_X12_bits_4, nx_lit, nI_add, pk_mul, nI_clamp, chk_nI, bI_some, bV_some, lt_eq, nI_leI, nI_ltI, nI_eq, bitN0, bitN1, oneN, b2i0, b2i1, b2it, b2if, rtB_b, if_pos, if_neg, ite_self, or_n0]
  · intro n s k hk
    simp (discharger := omega) only [f_X12_bits_4, nx_lit, nI_add, pk_mul, nI_clamp, chk_nI, bI_some, bV_some, lt_eq, nI_leI, nI_ltI, nI_eq, bitN0, bitN1, oneN, b2i0, b2i1, b2it, b2if, rtB_b, if_pos, if_neg, ite_self, or_n0]
theorem J6_all : ∀ m, m < 256 → f_J6_bitCount_0f7a4 0 (nI m) (fun _ _ => 0, fun _ _ => 0) = some (nI (pop (nI m)), (fun _ _ => 0, fun _ _ => 0)) := by
  sorry
theorem J6_bitCount_eq (w : Nat) {x : Int32} (hx : inR 8 x) (M : mM) : f_J6_bitCount_0f7a4 w x M = some (nI (pop x), M) := by
  obtain ⟨m, hm, rfl⟩ := in8 hx
  unfold f_J6_bitCount_0f7a4
  simp only [lt_eq]
  sorry
theorem pop_le (x : Int32) : pop x ≤ 8 := cnt_max _ 8
end BC
