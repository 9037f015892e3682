/-! small rows of our own: tops of the stack, Int facts, worlds of contracts -/
section HLP
variable {p : Program} {l : Launch} {e : Env} {R : Room} {s : State} {m : MethodId} {args : Array Value} {below : List Frame} {meth : Method} {c : Code} {H : Heap} {locs : List Loc} {cells slots : Nat} {Q : State → Prop} {pc : Nat} {ls : Array Slot} {rest : List Value}
theorem hx_top {x y : Int32} (h : x = y) (k : W p l e R s m args below meth c H locs cells slots Q (F0 m pc ls (.int y :: rest))) : W p l e R s m args below meth c H locs cells slots Q (F0 m pc ls (.int x :: rest)) := by
  rw [h]; exact k
end HLP
theorem fx_lt {x c : Int32} {C : Int} (hc : c.toInt = C) (h : x < c) : x.toInt < C := hc ▸ Int32.lt_iff_toInt_lt.mp h
theorem fx_le {x c : Int32} {C : Int} (hc : c.toInt = C) (h : x ≤ c) : x.toInt ≤ C := hc ▸ Int32.le_iff_toInt_le.mp h
theorem fx_gt {x c : Int32} {C : Int} (hc : c.toInt = C) (h : c < x) : C < x.toInt := hc ▸ Int32.lt_iff_toInt_lt.mp h
theorem fx_ge {x c : Int32} {C : Int} (hc : c.toInt = C) (h : c ≤ x) : C ≤ x.toInt := hc ▸ Int32.le_iff_toInt_le.mp h
theorem fx_eq {x c : Int32} {C : Int} (hc : c.toInt = C) (h : x = c) : x.toInt = C := by rw [h]; exact hc
theorem fx_ne {x c : Int32} {C : Int} (hc : c.toInt = C) (h : ¬ x = c) : x.toInt ≠ C := fun e => h (Int32.toInt_inj.mp (e.trans hc.symm))
theorem fn_lt {x c : Int32} {C : Int} (hc : c.toInt = C) (h : ¬ x < c) : C ≤ x.toInt := by have h1 := mt Int32.lt_iff_toInt_lt.mpr h; rw [hc] at h1; omega
theorem fn_le {x c : Int32} {C : Int} (hc : c.toInt = C) (h : ¬ x ≤ c) : C < x.toInt := by have h1 := mt Int32.le_iff_toInt_le.mpr h; rw [hc] at h1; omega
theorem fn_gt {x c : Int32} {C : Int} (hc : c.toInt = C) (h : ¬ c < x) : x.toInt ≤ C := by have h1 := mt Int32.lt_iff_toInt_lt.mpr h; rw [hc] at h1; omega
theorem fn_ge {x c : Int32} {C : Int} (hc : c.toInt = C) (h : ¬ c ≤ x) : x.toInt < C := by have h1 := mt Int32.le_iff_toInt_le.mpr h; rw [hc] at h1; omega
theorem fn_eq {x c : Int32} {C : Int} (hc : c.toInt = C) (h : ¬ x = c) : x.toInt ≠ C := fx_ne hc h
theorem fn_ne {x c : Int32} {C : Int} (hc : c.toInt = C) (h : x = c) : x.toInt = C := fx_eq hc h
theorem fx_rng (x : Int32) : -2147483648 ≤ x.toInt ∧ x.toInt < 2147483648 := by
  have h1 := Int32.le_toInt x
  have h2 := Int32.toInt_lt x
  omega
theorem fx_in {x : Int32} {n : Nat} (h0 : 0 ≤ x.toInt) (h : x.toInt < n) : vp_in x n := vp_in_iff.mpr ⟨h0, h⟩
theorem fx_cl {x : Int32} {n : Nat} (h0 : 0 ≤ x.toInt) (h : x.toInt < n) : x.toNatClampNeg < n := by
  have h1 : x.toNatClampNeg = x.toInt.toNat := rfl
  omega
theorem fx_sub {x c : Int32} {C : Int} (hc : c.toInt = C) (h1 : -2147483648 ≤ x.toInt - C) (h2 : x.toInt - C < 2147483648) : (x - c).toInt = x.toInt - C := by
  rw [Int32.toInt_sub, hc, Int.bmod_eq_of_le (by omega) (by omega)]
theorem fx_bool {P : Prop} [Decidable P] {r : Int32} (h : r = if P then 1 else 0) : (r = 1 ∧ P) ∨ (r = 0 ∧ ¬ P) := by
  by_cases hp : P
  · rw [if_pos hp] at h; exact Or.inl ⟨h, hp⟩
  · rw [if_neg hp] at h; exact Or.inr ⟨h, hp⟩
theorem nz_lt {a b : Nat} (ha : a < 2 ^ 31) (hb : b < 2 ^ 31) (h : nI a < nI b) : a < b := (nI_ltI ha hb).mp h
theorem nz_ltn {a b : Nat} (ha : a < 2 ^ 31) (hb : b < 2 ^ 31) (h : ¬ nI a < nI b) : ¬ (a < b) := fun q => h ((nI_ltI ha hb).mpr q)
theorem nz_le {a b : Nat} (ha : a < 2 ^ 31) (hb : b < 2 ^ 31) (h : nI a ≤ nI b) : a ≤ b := (nI_leI ha hb).mp h
theorem nz_len {a b : Nat} (ha : a < 2 ^ 31) (hb : b < 2 ^ 31) (h : ¬ nI a ≤ nI b) : ¬ (a ≤ b) := fun q => h ((nI_leI ha hb).mpr q)
theorem nz_ge {a b : Nat} (ha : a < 2 ^ 31) (hb : b < 2 ^ 31) (h : nI b ≤ nI a) : a ≥ b := (nI_leI hb ha).mp h
theorem nz_gen {a b : Nat} (ha : a < 2 ^ 31) (hb : b < 2 ^ 31) (h : ¬ nI b ≤ nI a) : ¬ (a ≥ b) := fun q => h ((nI_leI hb ha).mpr q)
theorem nz_gt {a b : Nat} (ha : a < 2 ^ 31) (hb : b < 2 ^ 31) (h : nI b < nI a) : a > b := (nI_ltI hb ha).mp h
theorem nz_gtn {a b : Nat} (ha : a < 2 ^ 31) (hb : b < 2 ^ 31) (h : ¬ nI b < nI a) : ¬ (a > b) := fun q => h ((nI_ltI hb ha).mpr q)
theorem nz_eq {a b : Nat} (ha : a < 2 ^ 31) (hb : b < 2 ^ 31) (h : nI a = nI b) : a = b := (nI_eq ha hb).mp h
theorem nz_eqn {a b : Nat} (ha : a < 2 ^ 31) (hb : b < 2 ^ 31) (h : ¬ nI a = nI b) : ¬ (a = b) := fun q => h ((nI_eq ha hb).mpr q)
theorem z_and (x : Int32) : (0 : Int32) &&& x = 0 := by apply Int32.toBitVec_inj.mp; simp
theorem z_shr (x : Int32) : (0 : Int32) >>> (x &&& 31) = 0 := by apply Int32.toBitVec_inj.mp; simp
def slF (a b : Int32) (k : Nat) : Nat → Int32 := fun j => if j < k then a else b
theorem slF_0 (a b : Int32) : slF a b 0 = fun _ => b := by funext j; simp [slF]
theorem slF_in {a b : Int32} {k j : Nat} (h : j < k) : slF a b k j = a := if_pos h
theorem slF_u (a b : Int32) (k : Nat) : upd (slF a b k) k a = slF a b (k + 1) := by
  funext j
  unfold upd slF
  by_cases h : j = k
  · rw [if_pos h, if_pos (by omega)]
  · rw [if_neg h]
    by_cases h2 : j < k
    · rw [if_pos h2, if_pos (by omega)]
    · rw [if_neg h2, if_neg (by omega)]
theorem slF_u0 (a b : Int32) : upd (fun _ => b) 0 a = slF a b 1 := by
  rw [← slF_0 a b]; exact slF_u a b 0
theorem slF_n {a b : Int32} {k : Nat} (h : k < 2 ^ 31) : upd (slF a b k) (Int32.toNatClampNeg (nI k)) a = slF a b (k + 1) := by
  rw [nI_clamp h]; exact slF_u a b k
theorem upd_const (v : Int32) (k : Nat) : upd (fun _ => v) k v = fun _ => v := by funext j; unfold upd; split <;> rfl
/-- the nest mates' links -/
def nw_list : List (String × Nat × MethodName × String) := [(RX8, 9, yX1_init, RX8), (RX1, 29, yX4_init, RX8), (RX8, 18, yX2_init, RX8), (RX8, 25, yX0_init, RX8), (RX8, 32, yX5_init, RX8), (RX8, 39, yX7_init, RX8), (RX4, 32, yX8_isIn, RX8), (RX1, 45, yX8_isIn, RX8), (RX0, 22, yX8_isName, RX8), (RX0, 30, yX8_isIn, RX8), (RX6, 15, yX8_isIn, RX8), (RX7, 62, yX8_isIn, RX8), (RX7, 50, yX8_isName, RX8), (RX3, 32, yX8_isPlace, RX8), (RX3, 50, yX8_isIn, RX8)]
def nw_ok (U : State) : Prop := ∀ q ∈ nw_list, va_Nw (.methodLinkNest q.1 q.2.1 q.2.2.1 q.2.2.2) U
theorem nw_ok.warm {s U : State} (hW : s.WarmedH U.vm) (h : nw_ok s) : nw_ok U := fun q hq => va_Nw.warmM hW (h q hq)
theorem nw_ok.calling {U : State} {g : JFrame} {mk : MethodId} {a : Array Value} (h : nw_ok U) : nw_ok (U.calling g mk a) := fun q hq => va_Nw.same rfl rfl (h q hq)
def pcW (dC : Nat → ClassId) (dI : Nat → Nat → Nat) (tys : List (ClassId × FieldType)) (ws : va_W) (sz : Nat) (U : State) : Prop := U.heap.size = sz ∧ nw_ok U ∧ va_P (dC, dI) vwCl ws U.heap ∧ va_K (dC, dI) vwCl tys U ∧ va_D (fun _ => True) ws
theorem pcW_blind {av : List Value} {dC : Nat → ClassId} {dI : Nat → Nat → Nat} {tys : List (ClassId × FieldType)} {ws : va_W} {sz : Nat} : FrameBlind (va_Pc av (pcW dC dI tys ws sz)) := by
  intro a U g mk q
  obtain ⟨q0, q1, q2, q3, q4, q5⟩ := q
  exact ⟨q0, q1, q2.calling, q3, va_K.moved (u := U) (U := U.calling g mk a) (Vm.Alike.refl U.vm) q4, q5⟩
theorem pcW_at {av : List Value} {dC : Nat → ClassId} {dI : Nat → Nat → Nat} {tys : List (ClassId × FieldType)} {ws : va_W} {H : Heap} {s : State} {A : Nat → Prop} (hP : va_P (dC, dI) vwCl ws H) (hK : va_K (dC, dI) vwCl tys s) (hD : va_D A ws) (hN : nw_ok s) : ∀ U : State, U.heap = H → s.WarmedH U.vm → va_Pc av (pcW dC dI tys ws H.size) av.toArray U :=
  fun U hU hW => ⟨rfl, by rw [hU], hN.warm hW, by rw [hU]; exact hP, va_K.moved hW.alike hK, hD.weaken (fun _ _ _ _ => trivial)⟩
theorem keepP {D : va_G} {cl : List vw_C} {ws : va_W} {H H1 : Heap} (hP : va_P D cl ws H) (hk : ∀ q : Nat, q < H.size → ¬ (H.size ≤ q) → H1[q]? = H[q]?) : va_P D cl ws H1 :=
  hP.kept (fun k q h => hk q.1 (hP k q h).lt (Nat.not_le.mpr (hP k q h).lt))
theorem nilP {D : va_G} {cl : List vw_C} {H : Heap} : va_P D cl [] H := fun k q h => by simp at h
theorem nilD {A : Nat → Prop} : va_D A [] := ⟨fun i j p q h => by simp at h, fun k q h => by simp at h⟩
/-- the tables' good words: every contract stands on all of them -/
def BG : List Cond := lw_tbl.filter goodWord
def wq (y : MethodName) (b : ByteArray) (n : Nat) (r : Option FieldType) : List Cond := .code y b n r :: BG
theorem mB {w : Cond} (h : w ∈ lw_tbl) (g : goodWord w = true) : w ∈ BG := List.mem_filter.mpr ⟨h, g⟩
theorem BG_lw {w : Cond} (h : w ∈ BG) : w ∈ lw_tbl := (List.mem_filter.mp h).1
theorem t0 {w : Cond} {i : Nat} (h : (k2_sels lw_privs)[i]? = some w) : w ∈ lw_tbl := List.mem_append_left _ (List.mem_of_getElem? h)
theorem t1 {w : Cond} {i : Nat} (h : tables_1_1[i]? = some w) : w ∈ lw_tbl := List.mem_append_right _ (List.mem_append_left _ (List.mem_of_getElem? h))
theorem t2 {w : Cond} {i : Nat} (h : tables_1_2[i]? = some w) : w ∈ lw_tbl := List.mem_append_right _ (List.mem_append_right _ (List.mem_append_left _ (List.mem_of_getElem? h)))
theorem t3 {w : Cond} {i : Nat} (h : tables_1_3[i]? = some w) : w ∈ lw_tbl := List.mem_append_right _ (List.mem_append_right _ (List.mem_append_right _ (List.mem_append_left _ (List.mem_of_getElem? h))))
theorem t4 {w : Cond} {i : Nat} (h : tables_1_4[i]? = some w) : w ∈ lw_tbl := List.mem_append_right _ (List.mem_append_right _ (List.mem_append_right _ (List.mem_append_right _ (List.mem_append_left _ (List.mem_of_getElem? h)))))
theorem t5 {w : Cond} {i : Nat} (h : tables_1_5[i]? = some w) : w ∈ lw_tbl := List.mem_append_right _ (List.mem_append_right _ (List.mem_append_right _ (List.mem_append_right _ (List.mem_append_right _ (List.mem_of_getElem? h)))))
theorem BG_good {w : Cond} (h : w ∈ BG) : (w.onTables && w.keeps) = true ∨ ∃ ty, w = .arrayClass ty := good_of_word (List.mem_filter.mp h).2
theorem gN {y : MethodName} {b : ByteArray} {n : Nat} {r : Option FieldType} (h : Cond.code y b n r ∈ BG) : GoodIn BG (wq y b n r) := by
  intro w hw
  have h1 : w ∈ BG := (List.mem_cons.mp hw).elim (fun e => e ▸ h) id
  exact ⟨h1, BG_good h1⟩
theorem gApp {a b : List Cond} (ha : ∀ w ∈ a, w ∈ BG) (hb : GoodIn BG b) : GoodIn BG (a ++ b) := fun w h => (List.mem_append.mp h).elim (fun q => ⟨ha w q, BG_good (ha w q)⟩) (hb w)
theorem gV {own C : String} {idx : Nat} {y : MethodName} {b : ByteArray} {n : Nat} {r : Option FieldType} (h1 : Cond.methodLink own idx y ∈ BG) (h2 : Cond.instanceMethod y ∈ BG) (h3 : Cond.selects C y y ∈ BG) (h4 : Cond.initialized C ∈ BG) (h5 : Cond.code y b n r ∈ BG) : GoodIn BG (wsV own idx C y (wq y b n r)) :=
  gApp (List.forall_mem_cons.mpr ⟨h1, List.forall_mem_cons.mpr ⟨h2, List.forall_mem_cons.mpr ⟨h3, List.forall_mem_cons.mpr ⟨h4, fun _ h => absurd h List.not_mem_nil⟩⟩⟩⟩) (gN h5)
theorem gS {own : String} {idx : Nat} {y : MethodName} {b : ByteArray} {n : Nat} {r : Option FieldType} (h1 : Cond.methodLink own idx y ∈ BG) (h2 : Cond.static y ∈ BG) (h4 : Cond.initialized y.cls ∈ BG) (h5 : Cond.code y b n r ∈ BG) : GoodIn BG (va_wsS own idx y (wq y b n r)) :=
  gApp (List.forall_mem_cons.mpr ⟨h1, List.forall_mem_cons.mpr ⟨h2, List.forall_mem_cons.mpr ⟨h4, fun _ h => absurd h List.not_mem_nil⟩⟩⟩) (gN h5)
theorem lc_lt {x y : Int32} (h : lg_cmp (Int32.toInt64 x) (Int32.toInt64 y) < 0) : x.toInt < y.toInt := by
  rw [lg_cmp_lt, Int64.lt_iff_toInt_lt, Int32.toInt_toInt64, Int32.toInt_toInt64] at h
  exact h
theorem lc_ltn {x y : Int32} (h : ¬ lg_cmp (Int32.toInt64 x) (Int32.toInt64 y) < 0) : y.toInt ≤ x.toInt := by
  rw [lg_cmp_lt, Int64.lt_iff_toInt_lt, Int32.toInt_toInt64, Int32.toInt_toInt64] at h
  omega
theorem lc_gt {x y : Int32} (h : 0 < lg_cmp (Int32.toInt64 x) (Int32.toInt64 y)) : y.toInt < x.toInt := by
  rw [lg_cmp_gt, Int64.lt_iff_toInt_lt, Int32.toInt_toInt64, Int32.toInt_toInt64] at h
  exact h
theorem lc_gtn {x y : Int32} (h : ¬ 0 < lg_cmp (Int32.toInt64 x) (Int32.toInt64 y)) : x.toInt ≤ y.toInt := by
  rw [lg_cmp_gt, Int64.lt_iff_toInt_lt, Int32.toInt_toInt64, Int32.toInt_toInt64] at h
  omega
theorem fx_sing {x c : Int32} {C : Int} (hc : c.toInt = C) (h : x.toInt = C) : x = c := Int32.toInt_inj.mp (h.trans hc.symm)
/-! Int facts of compares, arrays whose numbers are bounded -/
theorem gx_lt {x c : Int32} {X C : Int} (hx : x.toInt = X) (hc : c.toInt = C) (h : x < c) : X < C := hx ▸ fx_lt hc h
theorem gx_le {x c : Int32} {X C : Int} (hx : x.toInt = X) (hc : c.toInt = C) (h : x ≤ c) : X ≤ C := hx ▸ fx_le hc h
theorem gx_gt {x c : Int32} {X C : Int} (hx : x.toInt = X) (hc : c.toInt = C) (h : c < x) : C < X := hx ▸ fx_gt hc h
theorem gx_ge {x c : Int32} {X C : Int} (hx : x.toInt = X) (hc : c.toInt = C) (h : c ≤ x) : C ≤ X := hx ▸ fx_ge hc h
theorem gx_eq {x c : Int32} {X C : Int} (hx : x.toInt = X) (hc : c.toInt = C) (h : x = c) : X = C := hx ▸ fx_eq hc h
theorem gx_ne {x c : Int32} {X C : Int} (hx : x.toInt = X) (hc : c.toInt = C) (h : ¬ x = c) : X ≠ C := hx ▸ fx_ne hc h
theorem gn_lt {x c : Int32} {X C : Int} (hx : x.toInt = X) (hc : c.toInt = C) (h : ¬ x < c) : C ≤ X := hx ▸ fn_lt hc h
theorem gn_le {x c : Int32} {X C : Int} (hx : x.toInt = X) (hc : c.toInt = C) (h : ¬ x ≤ c) : C < X := hx ▸ fn_le hc h
theorem gn_gt {x c : Int32} {X C : Int} (hx : x.toInt = X) (hc : c.toInt = C) (h : ¬ c < x) : X ≤ C := hx ▸ fn_gt hc h
theorem gn_ge {x c : Int32} {X C : Int} (hx : x.toInt = X) (hc : c.toInt = C) (h : ¬ c ≤ x) : X < C := hx ▸ fn_ge hc h
theorem gn_eq {x c : Int32} {X C : Int} (hx : x.toInt = X) (hc : c.toInt = C) (h : ¬ x = c) : X ≠ C := hx ▸ fx_ne hc h
theorem gn_ne {x c : Int32} {X C : Int} (hx : x.toInt = X) (hc : c.toInt = C) (h : x = c) : X = C := hx ▸ fx_eq hc h
theorem lq_lt {x y : Int32} {X C : Int} (hx : x.toInt = X) (hc : y.toInt = C) (h : lg_cmp (Int32.toInt64 x) (Int32.toInt64 y) < 0) : X < C := by have := lc_lt h; omega
theorem lq_ltn {x y : Int32} {X C : Int} (hx : x.toInt = X) (hc : y.toInt = C) (h : ¬ lg_cmp (Int32.toInt64 x) (Int32.toInt64 y) < 0) : C ≤ X := by have := lc_ltn h; omega
theorem lq_gt {x y : Int32} {X C : Int} (hx : x.toInt = X) (hc : y.toInt = C) (h : 0 < lg_cmp (Int32.toInt64 x) (Int32.toInt64 y)) : C < X := by have := lc_gt h; omega
theorem lq_gtn {x y : Int32} {X C : Int} (hx : x.toInt = X) (hc : y.toInt = C) (h : ¬ 0 < lg_cmp (Int32.toInt64 x) (Int32.toInt64 y)) : X ≤ C := by have := lc_gtn h; omega
theorem gx_sub {x c : Int32} {X C : Int} (hx : x.toInt = X) (hc : c.toInt = C) (h1 : -2147483648 ≤ X - C) (h2 : X - C < 2147483648) : (x - c).toInt = X - C := by
  rw [Int32.toInt_sub, hx, hc, Int.bmod_eq_of_le (by omega) (by omega)]
theorem gx_add {x c : Int32} {X C : Int} (hx : x.toInt = X) (hc : c.toInt = C) (h1 : -2147483648 ≤ X + C) (h2 : X + C < 2147483648) : (x + c).toInt = X + C := by
  rw [Int32.toInt_add, hx, hc, Int.bmod_eq_of_le (by omega) (by omega)]
theorem gx_mul {x c : Int32} {X C : Int} (hx : x.toInt = X) (hc : c.toInt = C) (h1 : -2147483648 ≤ X * C) (h2 : X * C < 2147483648) : (x * c).toInt = X * C := by
  rw [Int32.toInt_mul, hx, hc, Int.bmod_eq_of_le (by omega) (by omega)]
theorem gx_max {x y z : Int32} {X C : Int} (hx : x.toInt = X) (hc : y.toInt = C) (h : z = if x < y then y else x) : (X < C ∧ z.toInt = C) ∨ (C ≤ X ∧ z.toInt = X) := by
  by_cases q : x < y
  · rw [if_pos q] at h; exact Or.inl ⟨gx_lt hx hc q, by rw [h]; exact hc⟩
  · rw [if_neg q] at h; exact Or.inr ⟨gn_lt hx hc q, by rw [h]; exact hx⟩
theorem gx_min {x y z : Int32} {X C : Int} (hx : x.toInt = X) (hc : y.toInt = C) (h : z = if y < x then y else x) : (C < X ∧ z.toInt = C) ∨ (X ≤ C ∧ z.toInt = X) := by
  by_cases q : y < x
  · rw [if_pos q] at h; exact Or.inl ⟨gx_lt hc hx q, by rw [h]; exact hc⟩
  · rw [if_neg q] at h; exact Or.inr ⟨gn_lt hc hx q, by rw [h]; exact hx⟩
theorem fx_nat {x : Int32} (h : 0 ≤ x.toInt) : ∃ j : Nat, j < 2 ^ 31 ∧ x = nI j := nI_of (fun q => by have := fx_lt (x := x) (c := 0) (C := 0) (by decide) q; omega)
theorem nx_m1 {a : Nat} (h : 1 ≤ a) : nI a + Int32.ofInt (-1) = nI (a - 1) := by
  obtain ⟨b, rfl⟩ : ∃ b, a = b + 1 := ⟨a - 1, by omega⟩
  exact pk_m1 b
def BdOk (M N : Nat) (f : Nat → Int32) : Prop := ∀ k, k < M → ∃ q : Nat, q ≤ N ∧ f k = nI q
theorem bd_upd {M N : Nat} {f : Nat → Int32} {i z : Nat} (h : BdOk M N f) (hz : z ≤ N) : BdOk M N (upd f i (nI z)) := by
  intro k hk
  by_cases q : k = i
  · subst q; exact ⟨z, hz, pk_us⟩
  · obtain ⟨y, h1, h2⟩ := h k hk
    exact ⟨y, h1, (pk_un q).trans h2⟩
theorem bd_zero {M N : Nat} : BdOk M N (fun _ => 0) := fun _ _ => ⟨0, Nat.zero_le _, rfl⟩
def ChOk (f : Nat → Int32) : Prop := ∀ k, narrow .char (.int (f k)) = .int (f k)
theorem ch_zero : ChOk (fun _ => 0) := fun _ => rfl
theorem ch_nar (x : Int32) : narrow .char (.int (vp_nar .char x)) = .int (vp_nar .char x) := by
  have h : ∀ y : Int32, narrow .char (.int y) = .int y.toUInt32.toUInt16.toUInt32.toInt32 := fun _ => rfl
  rw [h, vp_nar_char]; simp only [Value.int.injEq]
  have h2 : ∀ z : UInt16, z.toUInt32.toInt32.toUInt32.toUInt16 = z := fun z => by simp
  rw [h2]
theorem ch_upd {f : Nat → Int32} {i : Nat} {x : Int32} (h : ChOk f) : ChOk (upd f i (vp_nar .char x)) := by
  intro k
  by_cases q : k = i
  · subst q; rw [pk_us]; exact ch_nar x
  · rw [pk_un q]; exact h k
def lenN (f : Nat → Int32) (c : Nat) (n : Int32) : Nat := if 0 ≤ n.toInt ∧ n.toInt < (c : Int) then (f n.toNatClampNeg).toNatClampNeg else 0
theorem lenN_no {f : Nat → Int32} {c : Nat} {n : Int32} (h : ¬ (0 ≤ n.toInt ∧ n.toInt < (c : Int))) : (0 : Int32) = nI (lenN f c n) := by
  unfold lenN; rw [if_neg h]; rfl
theorem lenN_yes {f : Nat → Int32} {c : Nat} {n : Int32} {z : Nat} (h : 0 ≤ n.toInt ∧ n.toInt < (c : Int)) (e : f n.toNatClampNeg = nI z) (hz : z ≤ 10) : nI z = nI (lenN f c n) := by
  unfold lenN; rw [if_pos h, e, nI_clamp (by omega)]
theorem lenN_le {f : Nat → Int32} {c : Nat} {n : Int32} (hc : c ≤ 10) (h : BdOk 10 10 f) : lenN f c n ≤ 10 := by
  unfold lenN
  by_cases q : 0 ≤ n.toInt ∧ n.toInt < (c : Int)
  · rw [if_pos q]
    obtain ⟨z, h1, h2⟩ := h n.toNatClampNeg (fx_cl q.1 (by omega))
    rw [h2, nI_clamp (by omega)]; exact h1
  · rw [if_neg q]; omega
theorem lenN_pos {f : Nat → Int32} {c : Nat} {n : Int32} (h : 0 < lenN f c n) : 0 ≤ n.toInt ∧ n.toInt < (c : Int) := by
  by_cases q : 0 ≤ n.toInt ∧ n.toInt < (c : Int)
  · exact q
  · unfold lenN at h; rw [if_neg q] at h; omega
theorem narB {v : Int32} (h : v = 0 ∨ v = 1) : narrow .boolean (.int v) = .int v := by rcases h with rfl | rfl <;> rfl
