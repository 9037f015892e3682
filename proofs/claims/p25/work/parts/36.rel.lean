/-! what the class's state and the reference's have in common -/
def SzEq (f g : Nat → Int32) : Prop := ∀ k, k < 4 → f k = g k
theorem sz_cl {n : Int32} (h : ¬ (n.toInt < 0 ∨ 3 < n.toInt)) : n.toNatClampNeg < 4 := fx_cl (by omega) (by omega)
theorem sze_F {f g : Nat → Int32} {n v : Int32} (h : SzEq f g) : F_size f n v = F_size g n v := by
  unfold F_size
  split
  · rfl
  · split
    · rfl
    · exact h _ (sz_cl (by assumption))
theorem sze_next {f g : Nat → Int32} {n v : Int32} (h : SzEq f g) : SzEq (S_next f n v) (S_next g n v) := by
  unfold S_next
  split
  · exact h
  · split
    · exact h
    · intro k hk
      by_cases q : k = n.toNatClampNeg
      · rw [q, pk_us, pk_us]
      · rw [pk_un q, pk_un q]; exact h k hk
