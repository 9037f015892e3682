/-! COLUMNS: class and reference look for the same -/
theorem column_F {fle fli fqu fll fln fmq fo fnm fib : Nat → Int32} {cn kn : Nat} {bb n : Int32} (hrel : kn = cn) (hc : cn ≤ 10) (h : LnEq fle fli fqu fll fln fmq cn) (hl : LnOk fll fln kn) (h2 : BrEq bb fib cn) (h3 : OwEq fo fnm cn) :
    F_col (nI (clN (UR (rowC fle fli fo cn bb) 10) (KR (rowC fle fli fo cn bb) 10))) (clC (UR (rowC fle fli fo cn bb) 10) (KR (rowC fle fli fo cn bb) 10)) n = F_col (nI (clN (UR (rowM fll fln fnm fib) kn) (KR (rowM fll fln fnm fib) kn))) (clC (UR (rowM fll fln fnm fib) kn) (KR (rowM fll fln fnm fib) kn)) n := by
  subst hrel
  obtain ⟨r1, r2⟩ := row_eq hc h hl h2 h3
  have hU : ∀ x, x < 8 → UR (rowC fle fli fo kn bb) 10 x = UR (rowM fll fln fnm fib) kn x := fun x _ => ur_ext hc r1 r2
  have hK : ∀ x y, x < 8 → y < x → KR (rowC fle fli fo kn bb) 10 x y = KR (rowM fll fln fnm fib) kn x y := fun x y _ _ => kr_ext hc r1 r2
  rw [cln_cg hU hK, clc_cg hU hK]
