def bt (x : Int32) (i : Nat) : Bool := x.toBitVec.getLsbD i
theorem b_ext {x y : Int32} (h : ∀ i, i < 32 → bt x i = bt y i) : x = y := Int32.toBitVec_inj.mp (BitVec.eq_of_getLsbD_eq (fun i hi => h i hi))
theorem b_or (x y : Int32) (i : Nat) : bt (x ||| y) i = (bt x i || bt y i) := by unfold bt; rw [Int32.toBitVec_or, BitVec.getLsbD_or]
theorem b_and (x y : Int32) (i : Nat) : bt (x &&& y) i = (bt x i && bt y i) := by unfold bt; rw [Int32.toBitVec_and, BitVec.getLsbD_and]
theorem b_xor (x y : Int32) (i : Nat) : bt (x ^^^ y) i = (bt x i ^^ bt y i) := by unfold bt; rw [Int32.toBitVec_xor, BitVec.getLsbD_xor]
theorem b_big {x : Int32} {i : Nat} (h : 32 ≤ i) : bt x i = false := BitVec.getLsbD_of_ge _ _ h
theorem b_m1 : ∀ i, i < 32 → bt (-1) i = true := by decide +kernel
theorem b_0 (i : Nat) : bt 0 i = false := BitVec.getLsbD_zero
theorem s_l : ∀ n, n < 32 → ((nI n &&& 31).toBitVec.smod 32).toNat = n := by decide +kernel
theorem b_shl (n : Nat) (hn : n < 32) (x : Int32) {i : Nat} (hi : i < 32) : bt (x <<< (nI n &&& 31)) i = (decide (n ≤ i) && bt x (i - n)) := by
  unfold bt
  rw [Int32.toBitVec_shiftLeft]
  show (x.toBitVec <<< ((nI n &&& 31).toBitVec.smod 32).toNat).getLsbD i = _
  rw [s_l n hn, BitVec.getLsbD_shiftLeft]
  rcases Nat.lt_or_ge i n with h | h
  · simp [h, Nat.not_le.mpr h]
  · simp [hi, h, Nat.not_lt.mpr h]
theorem b_sshr (n : Nat) (hn : n < 32) (x : Int32) {i : Nat} (hi : i < 32) : bt (x >>> (nI n &&& 31)) i = if n + i < 32 then bt x (n + i) else bt x 31 := by
  unfold bt
  rw [Int32.toBitVec_shiftRight]
  show (x.toBitVec.sshiftRight ((nI n &&& 31).toBitVec.smod 32).toNat).getLsbD i = _
  rw [s_l n hn, BitVec.getLsbD_sshiftRight, BitVec.msb_eq_getLsbD_last]
  simp [hi]
/-! bits, searches, rows of bits: our own -/
theorem b_one : ∀ i, i < 32 → bt 1 i = decide (i = 0) := by decide +kernel
theorem b_ob {k i : Nat} (hk : k < 32) (hi : i < 32) : bt ((1 : Int32) <<< (nI k &&& 31)) i = decide (i = k) := by
  rw [b_shl k hk 1 hi, b_one _ (by omega)]
  by_cases h : i = k
  · subst h; simp
  · rw [decide_eq_false h]
    by_cases h2 : k ≤ i
    · rw [decide_eq_false (p := i - k = 0) (by omega), Bool.and_false]
    · rw [decide_eq_false h2, Bool.false_and]
theorem and_1 (y : Int32) : y &&& 1 = if bt y 0 = true then 1 else 0 := by
  apply b_ext
  intro i hi
  rw [b_and, b_one i hi]
  by_cases h : i = 0
  · subst h
    by_cases hy : bt y 0 = true
    · rw [if_pos hy, hy, b_one 0 (by decide)]; rfl
    · rw [if_neg hy, b_0, Bool.eq_false_iff.mpr hy]; rfl
  · rw [decide_eq_false h, Bool.and_false]
    by_cases hy : bt y 0 = true
    · rw [if_pos hy, b_one i hi, decide_eq_false h]
    · rw [if_neg hy, b_0]
theorem b_shr0 {x : Int32} {k : Nat} (hk : k < 32) : bt (x >>> (nI k &&& 31)) 0 = bt x k := by
  rw [b_sshr k hk x (by decide), if_pos (by omega)]; rfl
theorem t_iff {x : Int32} {k : Nat} (hk : k < 32) : (¬ ((x >>> (nI k &&& 31)) &&& 1) = 0) ↔ bt x k = true := by
  rw [and_1, b_shr0 hk]
  by_cases h : bt x k = true
  · rw [if_pos h]; exact ⟨fun _ => h, fun _ => by decide⟩
  · rw [if_neg h]; exact ⟨fun q => absurd rfl q, fun q => absurd q h⟩
theorem t_one {x : Int32} {k : Nat} (hk : k < 32) : ((x >>> (nI k &&& 31)) &&& 1) = 1 ↔ bt x k = true := by
  rw [and_1, b_shr0 hk]
  by_cases h : bt x k = true
  · rw [if_pos h]; exact ⟨fun _ => h, fun _ => rfl⟩
  · rw [if_neg h]; exact ⟨fun q => absurd q (by decide), fun q => absurd q h⟩
theorem t_yes {x : Int32} {k : Nat} (hk : k < 32) (h : ¬ ((x >>> (nI k &&& 31)) &&& 1) = 0) : bt x k = true := (t_iff hk).mp h
theorem t_no {x : Int32} {k : Nat} (hk : k < 32) (h : ¬ ¬ ((x >>> (nI k &&& 31)) &&& 1) = 0) : bt x k = false := Bool.eq_false_iff.mpr (fun q => h ((t_iff hk).mpr q))
theorem t_0 {x : Int32} {k : Nat} (hk : k < 32) (h : ((x >>> (nI k &&& 31)) &&& 1) = 0) : bt x k = false := Bool.eq_false_iff.mpr (fun q => (t_iff hk).mpr q h)
theorem t_1 {x : Int32} {k : Nat} (hk : k < 32) (h : ((x >>> (nI k &&& 31)) &&& 1) = 1) : bt x k = true := (t_one hk).mp h
theorem t_n1 {x : Int32} {k : Nat} (hk : k < 32) (h : ¬ ((x >>> (nI k &&& 31)) &&& 1) = 1) : bt x k = false := Bool.eq_false_iff.mpr (fun q => h ((t_one hk).mpr q))
theorem or_0 (x : Int32) : x ||| 0 = x := b_ext (fun i _ => by rw [b_or, b_0, Bool.or_false])
theorem and_m1 (x : Int32) : x &&& (-1) = x := b_ext (fun i hi => by rw [b_and, b_m1 i hi, Bool.and_true])
theorem b_not {x : Int32} {i : Nat} (hi : i < 32) : bt (x ^^^ (-1)) i = !bt x i := by rw [b_xor, b_m1 i hi]; cases bt x i <;> rfl
theorem b_set {x : Int32} {k i : Nat} (hk : k < 32) (hi : i < 32) : bt (x ||| ((1 : Int32) <<< (nI k &&& 31))) i = (bt x i || decide (i = k)) := by rw [b_or, b_ob hk hi]
theorem b_clr {x : Int32} {k i : Nat} (hk : k < 32) (hi : i < 32) : bt (x &&& (((1 : Int32) <<< (nI k &&& 31)) ^^^ (-1))) i = (bt x i && !decide (i = k)) := by rw [b_and, b_not hi, b_ob hk hi]
def bitsF (P : Nat → Bool) : Nat → Int32
  | 0 => 0
  | n + 1 => if P n = true then bitsF P n ||| ((1 : Int32) <<< (nI n &&& 31)) else bitsF P n
theorem bits_t {P : Nat → Bool} {k : Nat} (h : P k = true) : bitsF P k ||| ((1 : Int32) <<< (nI k &&& 31)) = bitsF P (k + 1) := (if_pos h).symm
theorem bits_f {P : Nat → Bool} {k : Nat} (h : P k = false) : bitsF P k = bitsF P (k + 1) := (if_neg (by rw [h]; decide)).symm
theorem bits_f0 {P : Nat → Bool} {k : Nat} (h : P k = false) : bitsF P k ||| 0 = bitsF P (k + 1) := by rw [or_0]; exact bits_f h
theorem bits_congr {P Q : Nat → Bool} : ∀ {n : Nat}, (∀ i, i < n → P i = Q i) → bitsF P n = bitsF Q n
  | 0, _ => rfl
  | n + 1, h => by
    have ih := bits_congr (P := P) (Q := Q) (n := n) (fun i hi => h i (by omega))
    show (if P n = true then bitsF P n ||| _ else bitsF P n) = (if Q n = true then bitsF Q n ||| _ else bitsF Q n)
    rw [ih, h n (by omega)]
theorem b_bits {P : Nat → Bool} : ∀ {n i : Nat}, n ≤ 32 → i < 32 → bt (bitsF P n) i = (decide (i < n) && P i)
  | 0, i, _, _ => by rw [decide_eq_false (Nat.not_lt_zero i), Bool.false_and]; exact b_0 i
  | n + 1, i, hn, hi => by
    have ih := b_bits (P := P) (n := n) (i := i) (by omega) hi
    show bt (if P n = true then bitsF P n ||| ((1 : Int32) <<< (nI n &&& 31)) else bitsF P n) i = _
    by_cases h : P n = true
    · rw [if_pos h, b_set (by omega) hi, ih]
      by_cases q : i = n
      · subst q; rw [h, decide_eq_true (p := i = i) rfl, decide_eq_true (p := i < i + 1) (by omega), Bool.or_true, Bool.and_true]
      · rw [decide_eq_false q, Bool.or_false]
        by_cases z : i < n
        · rw [decide_eq_true z, decide_eq_true (p := i < n + 1) (by omega)]
        · rw [decide_eq_false z, decide_eq_false (p := i < n + 1) (by omega)]
    · rw [if_neg h, ih]
      by_cases q : i = n
      · subst q; rw [Bool.eq_false_iff.mpr h, Bool.and_false, Bool.and_false]
      · by_cases z : i < n
        · rw [decide_eq_true z, decide_eq_true (p := i < n + 1) (by omega)]
        · rw [decide_eq_false z, decide_eq_false (p := i < n + 1) (by omega)]
/-- the first place from i on, m places far, that has P -/
def fnd (P : Nat → Bool) : Nat → Nat → Int32
  | _, 0 => -6
  | i, m + 1 => if P i = true then nI i else fnd P (i + 1) m
theorem fnd_end {P : Nat → Bool} {i n : Nat} (h : n ≤ i) : fnd P i (n - i) = -6 := by rw [show n - i = 0 from (by omega)]; rfl
theorem fnd_hit {P : Nat → Bool} {i n : Nat} (hp : P i = true) (h : i < n) : fnd P i (n - i) = nI i := by
  rw [show n - i = (n - i - 1) + 1 from (by omega)]; exact if_pos hp
theorem fnd_miss {P : Nat → Bool} {i n : Nat} (hp : P i = false) (h : i < n) : fnd P i (n - i) = fnd P (i + 1) (n - (i + 1)) := by
  rw [show n - i = (n - (i + 1)) + 1 from (by omega)]; exact if_neg (by rw [hp]; decide)
theorem fnd_congr {P Q : Nat → Bool} : ∀ {m i : Nat}, (∀ j, i ≤ j → j < i + m → P j = Q j) → fnd P i m = fnd Q i m
  | 0, _, _ => rfl
  | m + 1, i, h => by
    have ih := fnd_congr (P := P) (Q := Q) (m := m) (i := i + 1) (fun j h1 h2 => h j (by omega) (by omega))
    show (if P i = true then nI i else fnd P (i + 1) m) = (if Q i = true then nI i else fnd Q (i + 1) m)
    rw [ih, h i (by omega) (by omega)]
theorem fnd_cases (P : Nat → Bool) : ∀ (m i : Nat), (fnd P i m = -6 ∧ ∀ j, i ≤ j → j < i + m → P j = false) ∨ ∃ q, fnd P i m = nI q ∧ i ≤ q ∧ q < i + m ∧ P q = true ∧ ∀ j, i ≤ j → j < q → P j = false
  | 0, i => Or.inl ⟨rfl, fun j h1 h2 => absurd h2 (by omega)⟩
  | m + 1, i => by
    by_cases h : P i = true
    · exact Or.inr ⟨i, if_pos h, by omega, by omega, h, fun j h1 h2 => absurd h2 (by omega)⟩
    · have e : fnd P i (m + 1) = fnd P (i + 1) m := if_neg h
      have h0 := Bool.eq_false_iff.mpr h
      rcases fnd_cases P m (i + 1) with ⟨h1, h2⟩ | ⟨q, h1, h2, h3, h4, h5⟩
      · refine Or.inl ⟨e.trans h1, fun j h3 h4 => ?_⟩
        by_cases z : j = i
        · subst z; exact h0
        · exact h2 j (by omega) (by omega)
      · refine Or.inr ⟨q, e.trans h1, by omega, by omega, h4, fun j h6 h7 => ?_⟩
        by_cases z : j = i
        · subst z; exact h0
        · exact h5 j (by omega) (by omega)
theorem nb_t {x : Bool} (h : ¬ x = true) : (!x) = true := by cases x <;> simp_all
theorem nb_f {x : Bool} (h : x = true) : (!x) = false := by rw [h]; rfl
theorem bF {x : Bool} (h : ¬ x = true) : x = false := Bool.eq_false_iff.mpr h
/-- what can stand in a BODY -/
def can (x : Int32) : Bool := decide ((48 ≤ x.toInt ∧ x.toInt ≤ 57) ∨ (97 ≤ x.toInt ∧ x.toInt ≤ 104) ∨ x.toInt = 94)
theorem can_t {x : Int32} (h : (48 ≤ x.toInt ∧ x.toInt ≤ 57) ∨ (97 ≤ x.toInt ∧ x.toInt ≤ 104) ∨ x.toInt = 94) : can x = true := decide_eq_true h
theorem can_f {x : Int32} (h : ¬ ((48 ≤ x.toInt ∧ x.toInt ≤ 57) ∨ (97 ≤ x.toInt ∧ x.toInt ≤ 104) ∨ x.toInt = 94)) : can x = false := decide_eq_false h
theorem can_p {x : Int32} (h : can x = true) : (48 ≤ x.toInt ∧ x.toInt ≤ 57) ∨ (97 ≤ x.toInt ∧ x.toInt ≤ 104) ∨ x.toInt = 94 := of_decide_eq_true h
def fltF (f : Nat → Int32) (m : Nat) : Int32 := fnd (fun i => !can (f i)) 0 m
theorem flt_congr {f g : Nat → Int32} {m : Nat} (h : ∀ i, i < m → f i = g i) : fltF f m = fltF g m := fnd_congr (fun j _ h2 => by rw [h j (by omega)])
theorem flt_cases (f : Nat → Int32) (m : Nat) (hm : m ≤ 12) : (fltF f m = -6 ∧ ∀ j, j < m → can (f j) = true) ∨ (∃ q, fltF f m = nI q ∧ q < 12) := by
  rcases fnd_cases (fun i => !can (f i)) m 0 with ⟨h1, h2⟩ | ⟨q, h1, h2, h3, _, _⟩
  · refine Or.inl ⟨h1, fun j hj => ?_⟩
    have := h2 j (by omega) (by omega)
    simpa using this
  · exact Or.inr ⟨q, h1, by omega⟩
theorem flt_neg {f : Nat → Int32} {m : Nat} (hm : m ≤ 12) (h : (fltF f m).toInt < 0) : (fltF f m).toInt = -6 ∧ ∀ j, j < m → can (f j) = true := by
  rcases flt_cases f m hm with ⟨h1, h2⟩ | ⟨q, h1, h2⟩
  · exact ⟨by rw [h1]; decide, h2⟩
  · rw [h1, nI_toInt (by omega)] at h; omega
theorem flt_pos {f : Nat → Int32} {m : Nat} (hm : m ≤ 12) (h : ¬ (fltF f m).toInt < 0) : (fltF f m).toInt ≠ -6 := by omega
theorem sg_nar0 : ∀ j, j < 127 → vp_nar .char ((nI j).toUInt32 % 65536).toInt32 = nI j := by decide +kernel
theorem sg_nar {n : Int32} (h : 33 ≤ n.toInt ∧ n.toInt ≤ 126) : vp_nar .char (n.toUInt32 % 65536).toInt32 = n := by
  obtain ⟨j, h1, e⟩ := fx_nat (x := n) (by omega)
  have h2 := nI_toInt h1
  rw [← e] at h2
  rw [e]; exact sg_nar0 j (by omega)
theorem ch_id {f : Nat → Int32} {k : Nat} (h : ChOk f) : vp_nar .char (f k) = f k := Value.int.inj (h k)
/-- f with p's first k numbers from place b on -/
def cpF (f : Nat → Int32) (b : Nat) (p : Nat → Int32) (k : Nat) : Nat → Int32 := fun j => if b ≤ j ∧ j < b + k then p (j - b) else f j
theorem cp_0 {f p : Nat → Int32} {b : Nat} : f = cpF f b p 0 := by funext j; unfold cpF; rw [if_neg (by omega)]
theorem cp_step {f p x g : Nat → Int32} {b k : Nat} (h : x = cpF f b p k) (e : g = upd x (b + k) (p k)) : g = cpF f b p (k + 1) := by
  rw [e, h]
  funext j
  unfold cpF upd
  by_cases q : j = b + k
  · subst q; rw [if_pos rfl, if_pos (by omega), Nat.add_sub_cancel_left]
  · rw [if_neg q]
    by_cases z : b ≤ j ∧ j < b + k
    · show (if b ≤ j ∧ j < b + k then p (j - b) else f j) = _
      rw [if_pos z, if_pos (by omega)]
    · show (if b ≤ j ∧ j < b + k then p (j - b) else f j) = _
      rw [if_neg z, if_neg (by omega)]
theorem cp_in {f p : Nat → Int32} {b k i : Nat} (h : i < k) : cpF f b p k (b + i) = p i := by unfold cpF; rw [if_pos (by omega), Nat.add_sub_cancel_left]
theorem cp_out {f p : Nat → Int32} {b k j : Nat} (h : j < b ∨ b + k ≤ j) : cpF f b p k j = f j := by unfold cpF; rw [if_neg (by omega)]
