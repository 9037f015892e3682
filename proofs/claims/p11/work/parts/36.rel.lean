/-! what the class's state and the reference's have in common -/
def SzEq (f g : Nat → Int32) : Prop := ∀ k, k < 4 → f k = g k
theorem sz_cl {n : Int32} (h : ¬ (n.toInt < 0 ∨ 3 < n.toInt)) : n.toNatClampNeg < 4 := fx_cl (by omega) (by omega)
theorem sze_F {f g : Nat → Int32} {n v : Int32} (h : SzEq f g) : F_size f n v = F_size g n v := by
  unfold F_size
  split
  · rfl
  · split
    · rfl
    · exact h _ (sz_cl (by assumption))
theorem sze_next {f g : Nat → Int32} {n v : Int32} (h : SzEq f g) : SzEq (S_next f n v) (S_next g n v) := by
  unfold S_next
  split
  · exact h
  · split
    · exact h
    · intro k hk
      by_cases q : k = n.toNatClampNeg
      · rw [q, pk_us, pk_us]
      · rw [pk_un q, pk_un q]; exact h k hk
theorem F_full {k : Nat} {n a b d : Int32} (h : 10 ≤ k) : (F_kind k n a b d).toInt < 0 := by
  unfold F_kind
  (repeat' split) <;> first | decide | (exfalso; omega)
theorem K_cases (k : Nat) (n a b d : Int32) : (K_next k n a b d = k ∧ (F_kind k n a b d).toInt < 0) ∨ (K_next k n a b d = k + 1 ∧ ¬ (F_kind k n a b d).toInt < 0 ∧ k < 10) := by
  unfold K_next
  by_cases h : (F_kind k n a b d).toInt < 0
  · exact Or.inl ⟨if_pos h, h⟩
  · refine Or.inr ⟨if_neg h, h, ?_⟩
    rcases Nat.lt_or_ge k 10 with q | q
    · exact q
    · exact absurd (F_full q) h
/-! BARE ones -/
def BrEq (bb : Int32) (fib : Nat → Int32) (cn : Nat) : Prop := (∀ k, k < cn → (bt bb k = true ↔ ¬ fib k = 0)) ∧ (∀ k, cn ≤ k → k < 32 → bt bb k = false)
theorem br_0 : BrEq 0 (fun _ => 0) 0 := ⟨fun k h => absurd h (Nat.not_lt_zero k), fun k _ _ => b_0 k⟩
theorem br_F {bb n : Int32} {fib : Nat → Int32} {cn : Nat} (h : BrEq bb fib cn) : F_bare cn bb n = FM_bare cn fib n := by
  unfold F_bare FM_bare
  by_cases q : 0 ≤ n.toInt ∧ n.toInt < (cn : Int)
  · rw [if_pos q, if_pos q]
    have hk : n.toNatClampNeg < cn := fx_cl q.1 (by omega)
    by_cases z : fib n.toNatClampNeg = 0
    · rw [if_pos z, if_neg (fun y => ((h.1 _ hk).mp y) z)]
    · rw [if_neg z, if_pos ((h.1 _ hk).mpr z)]
  · rw [if_neg q, if_neg q]
theorem b_sb {bb v : Int32} {j k : Nat} (hj : j < 32) (hk : k < 32) : bt (sbF bb j v) k = if k = j then decide (¬ v = 0) else bt bb k := by
  unfold sbF
  by_cases hv : v = 0
  · rw [if_pos hv, b_clr hj hk]
    by_cases z : k = j
    · rw [if_pos z, decide_eq_true z, decide_eq_false (fun y => y hv)]; cases bt bb k <;> rfl
    · rw [if_neg z, decide_eq_false z]; cases bt bb k <;> rfl
  · rw [if_neg hv, b_set hj hk]
    by_cases z : k = j
    · rw [if_pos z, decide_eq_true z, decide_eq_true hv, Bool.or_true]
    · rw [if_neg z, decide_eq_false z, Bool.or_false]
theorem nar_b {v : Int32} (hv : v = 0 ∨ v = 1) : vp_nar .boolean v = v := by rcases hv with rfl | rfl <;> decide
theorem br_next {bb n v : Int32} {fib : Nat → Int32} {cn : Nat} (h : BrEq bb fib cn) (hc : cn ≤ 10) (hv : v = 0 ∨ v = 1) : BrEq (B_next cn bb n v) (MB_next cn fib n v) cn := by
  unfold B_next MB_next
  by_cases q : 0 ≤ n.toInt ∧ n.toInt < (cn : Int)
  · rw [if_pos q, if_pos q, nar_b hv]
    have hj : n.toNatClampNeg < cn := fx_cl q.1 (by omega)
    generalize n.toNatClampNeg = j at hj
    refine ⟨fun k hk => ?_, fun k h1 h2 => ?_⟩
    · rw [b_sb (by omega) (by omega)]
      by_cases z : k = j
      · subst z; rw [if_pos rfl, pk_us]; exact decide_eq_true_iff
      · rw [if_neg z, pk_un z]; exact h.1 k hk
    · rw [b_sb (by omega) h2, if_neg (by omega)]; exact h.2 k h1 h2
  · rw [if_neg q, if_neg q]; exact h
theorem br_kind {bb n a b d : Int32} {fib : Nat → Int32} {k : Nat} (h : BrEq bb fib k) : BrEq bb (KB_next k fib n a b d) (K_next k n a b d) := by
  unfold KB_next
  rcases K_cases k n a b d with ⟨e, q⟩ | ⟨e, q, hk⟩
  · rw [e, if_pos q]; exact h
  · rw [e, if_neg q]
    refine ⟨fun i hi => ?_, fun i h1 h2 => h.2 i (by omega) h2⟩
    by_cases z : i = k
    · subst z; rw [h.2 i (by omega) (by omega), pk_us]; exact ⟨fun y => absurd y (by decide), fun y => absurd rfl y⟩
    · rw [pk_un z]; exact h.1 i (by omega)
/-! who HAS what -/
def OwEq (fo fnm : Nat → Int32) (cn : Nat) : Prop := (∀ n, n < 8 → ∀ j, j < 32 → bt (fo n) j = (decide (j < cn) && bt (fnm j) n)) ∧ (∀ j, cn ≤ j → j < 10 → fnm j = 0) ∧ (∀ j, j < 10 → ∀ i, 8 ≤ i → i < 32 → bt (fnm j) i = false)
theorem ow_0 : OwEq (fun _ => 0) (fun _ => 0) 0 := ⟨fun n _ j _ => by rw [decide_eq_false (Nat.not_lt_zero j), b_0]; rfl, fun _ _ _ => rfl, fun _ _ i _ _ => b_0 i⟩
theorem ow_bit {fo fnm : Nat → Int32} {cn n j : Nat} (h : OwEq fo fnm cn) (hc : cn ≤ 10) (hn : n < 8) (hj : j < cn) : bt (fo n) j = bt (fnm j) n := by
  rw [h.1 n hn j (by omega), decide_eq_true hj, Bool.true_and]
theorem ow_kind {fo fnm : Nat → Int32} {k : Nat} {n a b d : Int32} (h : OwEq fo fnm k) : OwEq fo fnm (K_next k n a b d) := by
  rcases K_cases k n a b d with ⟨e, q⟩ | ⟨e, q, hk⟩
  · rw [e]; exact h
  · rw [e]
    refine ⟨fun m hm j hj => ?_, fun j h1 h2 => h.2.1 j (by omega) h2, h.2.2⟩
    rw [h.1 m hm j hj]
    by_cases z : j = k
    · subst z; rw [decide_eq_false (p := j < j) (by omega), h.2.1 j (by omega) (by omega), b_0, Bool.and_false, Bool.and_false]
    · by_cases y : j < k
      · rw [decide_eq_true y, decide_eq_true (p := j < k + 1) (by omega)]
      · rw [decide_eq_false y, decide_eq_false (p := j < k + 1) (by omega)]
theorem ow_put {fo fnm fo2 fnm2 : Nat → Int32} {cn j m : Nat} {c : Bool} (h : OwEq fo fnm cn) (hc : cn ≤ 10) (hj : j < cn) (hm : m < 8) (h1 : ∀ n i, n < 8 → i < 32 → bt (fo2 n) i = if n = m ∧ i = j then c else bt (fo n) i) (h2 : ∀ i n, i < 32 → n < 32 → bt (fnm2 i) n = if i = j ∧ n = m then c else bt (fnm i) n) (h3 : ∀ i, i ≠ j → fnm2 i = fnm i) : OwEq fo2 fnm2 cn := by
  refine ⟨fun n hn i hi => ?_, fun i h4 h5 => ?_, fun i h4 n h5 h6 => ?_⟩
  · rw [h1 n i hn hi, h2 i n hi (by omega)]
    by_cases z : n = m ∧ i = j
    · rw [if_pos z, if_pos ⟨z.2, z.1⟩, decide_eq_true (p := i < cn) (by omega), Bool.true_and]
    · rw [if_neg z, if_neg (fun y => z ⟨y.2, y.1⟩)]; exact h.1 n hn i hi
  · rw [h3 i (by omega)]; exact h.2.1 i h4 h5
  · rw [h2 i n (by omega) h6, if_neg (by omega)]; exact h.2.2 i h4 n h5 h6
theorem ow_has {fo fnm : Nat → Int32} {cn j m : Nat} (h : OwEq fo fnm cn) (hc : cn ≤ 10) (hj : j < cn) (hm : m < 8) : OwEq (upd fo m (fo m ||| ((1 : Int32) <<< (nI j &&& 31)))) (upd fnm j (fnm j ||| ((1 : Int32) <<< (nI m &&& 31)))) cn := by
  refine ow_put (c := true) h hc hj hm (fun n i hn hi => ?_) (fun i n hi hn => ?_) (fun i hi => pk_un hi)
  · by_cases z : n = m
    · subst z; rw [pk_us, b_set (by omega) hi]
      by_cases y : i = j
      · rw [if_pos ⟨rfl, y⟩, decide_eq_true y, Bool.or_true]
      · rw [if_neg (fun q => y q.2), decide_eq_false y, Bool.or_false]
    · rw [pk_un z, if_neg (fun q => z q.1)]
  · by_cases z : i = j
    · subst z; rw [pk_us, b_set (by omega) hn]
      by_cases y : n = m
      · rw [if_pos ⟨rfl, y⟩, decide_eq_true y, Bool.or_true]
      · rw [if_neg (fun q => y q.2), decide_eq_false y, Bool.or_false]
    · rw [pk_un z, if_neg (fun q => z q.1)]
theorem ow_drop {fo fnm : Nat → Int32} {cn j m : Nat} (h : OwEq fo fnm cn) (hc : cn ≤ 10) (hj : j < cn) (hm : m < 8) : OwEq (upd fo m (fo m &&& (((1 : Int32) <<< (nI j &&& 31)) ^^^ (-1)))) (upd fnm j (fnm j &&& (((1 : Int32) <<< (nI m &&& 31)) ^^^ (-1)))) cn := by
  refine ow_put (c := false) h hc hj hm (fun n i hn hi => ?_) (fun i n hi hn => ?_) (fun i hi => pk_un hi)
  · by_cases z : n = m
    · subst z; rw [pk_us, b_clr (by omega) hi]
      by_cases y : i = j
      · rw [if_pos ⟨rfl, y⟩, decide_eq_true y, Bool.not_true, Bool.and_false]
      · rw [if_neg (fun q => y q.2), decide_eq_false y, Bool.not_false, Bool.and_true]
    · rw [pk_un z, if_neg (fun q => z q.1)]
  · by_cases z : i = j
    · subst z; rw [pk_us, b_clr (by omega) hn]
      by_cases y : n = m
      · rw [if_pos ⟨rfl, y⟩, decide_eq_true y, Bool.not_true, Bool.and_false]
      · rw [if_neg (fun q => y q.2), decide_eq_false y, Bool.not_false, Bool.and_true]
    · rw [pk_un z, if_neg (fun q => z q.1)]
/-! the PAD and the BODIES -/
def PadEq (pn : Nat) (fps fsm fsg : Nat → Int32) : Prop := fsm 80 = nI pn ∧ ∀ i, i < pn → fps i = fsg (960 + i)
def BdyEq (fbl fbs fsm fsg : Nat → Int32) : Prop := ∀ b, b < 80 → fbl b = fsm b ∧ ∀ i, i < (fsm b).toNatClampNeg → fbs (12 * b + i) = fsg (12 * b + i)
theorem pd_0 : PadEq 0 (fun _ => 0) (fun _ => 0) (fun _ => 0) := ⟨rfl, fun _ _ => rfl⟩
theorem by_0 : BdyEq (fun _ => 0) (fun _ => 0) (fun _ => 0) (fun _ => 0) := fun _ _ => ⟨rfl, fun _ _ => rfl⟩
theorem pd_cl {pn : Nat} {fps fsm fsg : Nat → Int32} (h : PadEq pn fps fsm fsg) (hp : pn ≤ 12) : (fsm 80).toNatClampNeg = pn := by rw [h.1, nI_clamp (by omega)]
theorem pd_sayF {pn : Nat} {fps fsm fsg : Nat → Int32} {n : Int32} (h : PadEq pn fps fsm fsg) (hp : pn ≤ 12) : F_say pn n = F_say (fsm 80).toNatClampNeg n := by rw [pd_cl h hp]
theorem pd_flt {pn : Nat} {fps fsm fsg : Nat → Int32} (h : PadEq pn fps fsm fsg) (hp : pn ≤ 12) : fltF fps pn = fltF (fun i => fsg (960 + i)) (fsm 80).toNatClampNeg := by rw [pd_cl h hp]; exact flt_congr h.2
theorem pd_say {pn : Nat} {fps fsm fsg : Nat → Int32} {n : Int32} (h : PadEq pn fps fsm fsg) (hp : pn ≤ 12) : PadEq (P_say pn n) (PS_say pn fps n) (SM_say fsm n) (SG_say fsm fsg n) := by
  unfold P_say PS_say SM_say SG_say
  by_cases q : n.toInt < 33 ∨ 126 < n.toInt
  · rw [if_pos q, if_pos q, if_pos q, if_pos q]; exact h
  · rw [if_neg q, if_neg q, if_neg q, if_neg q, pd_cl h hp]
    by_cases z : 12 ≤ pn
    · rw [if_pos z, if_pos z, if_pos z, if_pos z]; exact h
    · rw [if_neg z, if_neg z, if_neg z, if_neg z]
      refine ⟨pk_us, fun i hi => ?_⟩
      by_cases y : i = pn
      · subst y; rw [pk_us, pk_us]
      · rw [pk_un y, pk_un (by omega)]; exact h.2 i (by omega)
theorem by_say {fbl fbs fsm fsg : Nat → Int32} {n : Int32} (h : BdyEq fbl fbs fsm fsg) (hs : BdOk 81 12 fsm) : BdyEq fbl fbs (SM_say fsm n) (SG_say fsm fsg n) := by
  unfold SM_say SG_say
  by_cases q : n.toInt < 33 ∨ 126 < n.toInt
  · rw [if_pos q, if_pos q]; exact h
  · rw [if_neg q, if_neg q]
    by_cases z : 12 ≤ (fsm 80).toNatClampNeg
    · rw [if_pos z, if_pos z]; exact h
    · rw [if_neg z, if_neg z]
      intro b hb
      rw [pk_un (by omega)]
      refine ⟨(h b hb).1, fun i hi => ?_⟩
      have := bd_lt hs (by decide) (by omega) hi
      rw [pk_un (by omega)]; exact (h b hb).2 i hi
theorem pd_wipe {pn : Nat} {fps fsm fsg : Nat → Int32} (_ : PadEq pn fps fsm fsg) : PadEq 0 fps (upd fsm 80 0) fsg := ⟨pk_us, fun i hi => absurd hi (Nat.not_lt_zero i)⟩
theorem by_wipe {fbl fbs fsm fsg : Nat → Int32} (h : BdyEq fbl fbs fsm fsg) : BdyEq fbl fbs (upd fsm 80 0) fsg := fun b hb => by rw [pk_un (by omega)]; exact h b hb
theorem has_F {cn kn pn : Nat} {fo fnm fps fsm fsg : Nat → Int32} {n v : Int32} (hrel : kn = cn) (hc : cn ≤ 10) (hp : pn ≤ 12) (h3 : OwEq fo fnm cn) (h4 : PadEq pn fps fsm fsg) :
    F_has cn (fltF fps pn) (bt (fo v.toNatClampNeg) n.toNatClampNeg) n v = F_has kn (fltF (fun i => fsg (960 + i)) (fsm 80).toNatClampNeg) (bt (fnm n.toNatClampNeg) v.toNatClampNeg) n v := by
  subst hrel
  unfold F_has
  by_cases q : (0 ≤ n.toInt ∧ n.toInt < (kn : Int)) ∧ (0 ≤ v.toInt ∧ v.toInt ≤ 7)
  · rw [if_pos q, if_pos q, pd_flt h4 hp, ow_bit h3 hc (arg_n q.2).1 (arg_k q.1).1]
  · rw [if_neg q, if_neg q]
theorem drop_F {cn kn : Nat} {fo fnm fbl fbs fsm fsg : Nat → Int32} {n v : Int32} (hrel : kn = cn) (hc : cn ≤ 10) (h3 : OwEq fo fnm cn) (h5 : BdyEq fbl fbs fsm fsg) :
    F_drop cn (bt (fo v.toNatClampNeg) n.toNatClampNeg) (fbl (8 * n.toNatClampNeg + v.toNatClampNeg)) n v = F_drop kn (bt (fnm n.toNatClampNeg) v.toNatClampNeg) (fsm (8 * n.toNatClampNeg + v.toNatClampNeg)) n v := by
  subst hrel
  unfold F_drop
  by_cases q : (0 ≤ n.toInt ∧ n.toInt < (kn : Int)) ∧ (0 ≤ v.toInt ∧ v.toInt ≤ 7)
  · have h1 := (arg_n q.2).1
    have h2 := (arg_k q.1).1
    rw [if_pos q, if_pos q, ow_bit h3 hc h1 h2, (h5 (8 * n.toNatClampNeg + v.toNatClampNeg) (by omega)).1]
  · rw [if_neg q, if_neg q]
theorem drop_rel {cn kn : Nat} {fo fnm fo2 fnm2 : Nat → Int32} {n v : Int32} (hrel : kn = cn) (hc : cn ≤ 10) (h3 : OwEq fo fnm cn)
    (a1 : ¬ DropG cn (bt (fo v.toNatClampNeg) n.toNatClampNeg) n v → fo2 = fo) (a2 : DropG cn (bt (fo v.toNatClampNeg) n.toNatClampNeg) n v → fo2 = upd fo v.toNatClampNeg (fo v.toNatClampNeg &&& (((1 : Int32) <<< (n &&& 31)) ^^^ (-1))))
    (m1 : ¬ DropG kn (bt (fnm n.toNatClampNeg) v.toNatClampNeg) n v → fnm2 = fnm) (m2 : DropG kn (bt (fnm n.toNatClampNeg) v.toNatClampNeg) n v → fnm2 = upd fnm n.toNatClampNeg (fnm n.toNatClampNeg &&& (((1 : Int32) <<< (v &&& 31)) ^^^ (-1)))) : OwEq fo2 fnm2 cn := by
  subst hrel
  by_cases g : DropG kn (bt (fo v.toNatClampNeg) n.toNatClampNeg) n v
  · obtain ⟨q1, q2, q3⟩ := id g
    obtain ⟨h1, e1⟩ := arg_k q1
    obtain ⟨h2, e2⟩ := arg_n q2
    have g2 : DropG kn (bt (fnm n.toNatClampNeg) v.toNatClampNeg) n v := ⟨q1, q2, by rw [← ow_bit h3 hc h2 h1]; exact q3⟩
    rw [a2 g, m2 g2]
    generalize n.toNatClampNeg = j at *
    generalize v.toNatClampNeg = m at *
    rw [e1, e2]
    exact ow_drop h3 hc h1 h2
  · have g2 : ¬ DropG kn (bt (fnm n.toNatClampNeg) v.toNatClampNeg) n v := fun y => g ⟨y.1, y.2.1, by rw [ow_bit h3 hc (arg_n y.2.1).1 (arg_k y.1).1]; exact y.2.2⟩
    rw [a1 g, m1 g2]; exact h3
theorem has_rel {cn kn pn pn2 : Nat} {fo fnm fps fbl fbs fsm fsg fo2 fbl2 fbs2 fsm2 fsg2 fnm2 : Nat → Int32} {n v : Int32} (hrel : kn = cn) (hc : cn ≤ 10) (hp : pn ≤ 12) (hs : BdOk 81 12 fsm) (h3 : OwEq fo fnm cn) (h4 : PadEq pn fps fsm fsg) (h5 : BdyEq fbl fbs fsm fsg)
    (a3 : ¬ HasG cn (fltF fps pn) n v → pn2 = pn ∧ fo2 = fo ∧ fbl2 = fbl ∧ fbs2 = fbs) (a4 : HasG cn (fltF fps pn) n v → pn2 = 0) (a5 : HasG cn (fltF fps pn) n v → fo2 = upd fo v.toNatClampNeg (fo v.toNatClampNeg ||| ((1 : Int32) <<< (n &&& 31)))) (a6 : HasG cn (fltF fps pn) n v → fbl2 = upd fbl (8 * n.toNatClampNeg + v.toNatClampNeg) (nI pn)) (a7 : HasG cn (fltF fps pn) n v → fbs2 = cpF fbs (12 * (8 * n.toNatClampNeg + v.toNatClampNeg)) fps pn)
    (m3 : ¬ HasG kn (fltF (fun i => fsg (960 + i)) (fsm 80).toNatClampNeg) n v → fsm2 = fsm ∧ fsg2 = fsg ∧ fnm2 = fnm) (m4 : HasG kn (fltF (fun i => fsg (960 + i)) (fsm 80).toNatClampNeg) n v → fsm2 = upd (upd fsm (8 * n.toNatClampNeg + v.toNatClampNeg) (fsm 80)) 80 0) (m5 : HasG kn (fltF (fun i => fsg (960 + i)) (fsm 80).toNatClampNeg) n v → HcA fsg fsg2 (8 * n.toNatClampNeg + v.toNatClampNeg) (fsm 80).toNatClampNeg) (m6 : HasG kn (fltF (fun i => fsg (960 + i)) (fsm 80).toNatClampNeg) n v → fnm2 = upd fnm n.toNatClampNeg (fnm n.toNatClampNeg ||| ((1 : Int32) <<< (v &&& 31)))) :
    OwEq fo2 fnm2 cn ∧ PadEq pn2 fps fsm2 fsg2 ∧ BdyEq fbl2 fbs2 fsm2 fsg2 := by
  subst hrel
  rw [← pd_flt h4 hp] at m3 m4 m5 m6
  by_cases g : HasG kn (fltF fps pn) n v
  · obtain ⟨q1, q2, _⟩ := id g
    obtain ⟨h1, e1⟩ := arg_k q1
    obtain ⟨h2, e2⟩ := arg_n q2
    have x4 := a4 g
    have x5 := a5 g
    have x6 := a6 g
    have x7 := a7 g
    have y4 := m4 g
    have y5 := m5 g
    have y6 := m6 g
    rw [pd_cl h4 hp] at y5
    clear a3 a4 a5 a6 a7 m3 m4 m5 m6 g q1 q2
    generalize n.toNatClampNeg = j at *
    generalize v.toNatClampNeg = m at *
    subst e1
    subst e2
    refine ⟨by rw [x5, y6]; exact ow_has h3 hc h1 h2, ?_, ?_⟩
    · rw [x4, y4]; exact ⟨pk_us, fun i hi => absurd hi (Nat.not_lt_zero i)⟩
    · intro b hb
      rw [y4, pk_un (by omega), x6, x7]
      by_cases z : b = 8 * j + m
      · subst z
        rw [pk_us, pk_us, h4.1, nI_clamp (by omega)]
        refine ⟨rfl, fun i hi => ?_⟩
        rw [cp_in hi, y5.2 i hi]; exact h4.2 i hi
      · rw [pk_un z, pk_un z]
        refine ⟨(h5 b hb).1, fun i hi => ?_⟩
        have := bd_lt hs (by decide) (by omega) hi
        rw [cp_out (by omega), y5.1 _ (by omega)]; exact (h5 b hb).2 i hi
  · obtain ⟨x1, x2, x3, x4⟩ := a3 g
    obtain ⟨y1, y2, y3⟩ := m3 g
    rw [x1, x2, x3, x4, y1, y2, y3]; exact ⟨h3, h4, h5⟩
theorem told_congr {c p q c2 p2 q2 : Int32} {nm nm2 : Nat → Int32} {br br2 : Nat → Bool} {w : Int32} (h1 : c = c2) (h2 : p = p2) (h3 : q = q2) (h4 : ∀ k, k < 10 → nm k = nm2 k) (h5 : ∀ k, k < 10 → br k = br2 k) : F_told c p q nm br w = F_told c2 p2 q2 nm2 br2 w := by
  subst h1; subst h2; subst h3
  unfold F_told
  by_cases a : w.toInt = 0
  · rw [if_pos a, if_pos a]
  rw [if_neg a, if_neg a]
  by_cases b : w.toInt = 1
  · rw [if_pos b, if_pos b]
  rw [if_neg b, if_neg b]
  by_cases d : w.toInt = 2
  · rw [if_pos d, if_pos d]
  rw [if_neg d, if_neg d]
  by_cases e : 10 ≤ w.toInt ∧ w.toInt ≤ 19
  · rw [if_pos e, if_pos e]; exact h4 _ (by omega)
  rw [if_neg e, if_neg e]
  by_cases f : 20 ≤ w.toInt ∧ w.toInt ≤ 29
  · rw [if_pos f, if_pos f, h5 _ (by omega)]
  rw [if_neg f, if_neg f]
theorem told_eq {cn kn pn qn ca : Nat} {fo fnm fps fsm fsg fib : Nat → Int32} {bb w : Int32} (hrel : kn = cn) (hrq : ca = qn) (hc : cn ≤ 10) (h2 : BrEq bb fib cn) (h3 : OwEq fo fnm cn) (h4 : PadEq pn fps fsm fsg) :
    F_told (nI cn) (nI pn) (nI qn) (fun k => bitsF (fun i => bt (fo i) k) 8) (fun k => decide (k < cn) && bt bb k) w = F_told (nI kn) (fsm 80) (nI ca) (fun k => if k < kn then fnm k else 0) (fun k => decide (k < kn) && decide (¬ fib k = 0)) w := by
  subst hrel; subst hrq
  refine told_congr rfl h4.1.symm rfl (fun k hk => b_ext (fun i hi => ?_)) (fun k hk => ?_)
  · rw [b_bits (by omega) hi]
    show (decide (i < 8) && bt (fo i) k) = bt (if k < kn then fnm k else 0) i
    by_cases y : i < 8
    · rw [decide_eq_true y, Bool.true_and, h3.1 i y k (by omega)]
      by_cases z : k < kn
      · rw [decide_eq_true z, if_pos z, Bool.true_and]
      · rw [decide_eq_false z, if_neg z, Bool.false_and, b_0]
    · rw [decide_eq_false y, Bool.false_and]
      by_cases z : k < kn
      · rw [if_pos z, h3.2.2 k hk i (by omega) hi]
      · rw [if_neg z, b_0]
  · show (decide (k < kn) && bt bb k) = (decide (k < kn) && decide (¬ fib k = 0))
    by_cases z : k < kn
    · rw [decide_eq_true z, Bool.true_and, Bool.true_and]
      by_cases y : fib k = 0
      · rw [decide_eq_false (fun q => q y), Bool.eq_false_iff]; exact fun q => (h2.1 k z).mp q y
      · rw [decide_eq_true y]; exact (h2.1 k z).mpr y
    · rw [decide_eq_false z, Bool.false_and, Bool.false_and]
theorem kn_le {k : Nat} {n a b d : Int32} : k ≤ K_next k n a b d := by
  rcases K_cases k n a b d with ⟨e, _⟩ | ⟨e, _⟩ <;> omega
