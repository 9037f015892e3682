/-! ABOVE of class and reference; NEAREST, DOUBT, SETTLE by both are one -/
def AbEq (fab fma : Nat → Int32) (cn : Nat) : Prop := (∀ k, k < cn → fab k = fma k) ∧ ∀ k, k < cn → ∀ j, j < 32 → bt (fma k) j = true → j < k ∧ ∀ i, i < 32 → bt (fma j) i = true → bt (fma k) i = true
theorem ab_0 : AbEq (fun _ => 0) (fun _ => 0) 0 := ⟨fun k h => absurd h (Nat.not_lt_zero k), fun k h => absurd h (Nat.not_lt_zero k)⟩
theorem F_valid {k : Nat} {n a b d : Int32} (h : ¬ (F_kind k n a b d).toInt < 0) : (0 ≤ n.toInt ∧ n.toInt ≤ 3) ∧ ∀ i, i < n.toNatClampNeg → 0 ≤ (par3 a b d i).toInt ∧ (par3 a b d i).toInt < (k : Int) := by
  unfold F_kind at h
  by_cases c1 : 1 ≤ n.toInt ∧ ¬ (0 ≤ a.toInt ∧ a.toInt < (k : Int))
  · rw [if_pos c1] at h; exact absurd (by decide) h
  rw [if_neg c1] at h
  by_cases c2 : 2 ≤ n.toInt ∧ (¬ (0 ≤ b.toInt ∧ b.toInt < (k : Int)) ∨ b.toInt = a.toInt)
  · rw [if_pos c2] at h; exact absurd (by decide) h
  rw [if_neg c2] at h
  by_cases c3 : 3 ≤ n.toInt ∧ (¬ (0 ≤ d.toInt ∧ d.toInt < (k : Int)) ∨ d.toInt = a.toInt ∨ d.toInt = b.toInt)
  · rw [if_pos c3] at h; exact absurd (by decide) h
  rw [if_neg c3] at h
  by_cases c4 : n.toInt < 0 ∨ 3 < n.toInt
  · rw [if_pos c4] at h; exact absurd (by decide) h
  have hn : n.toNatClampNeg = n.toInt.toNat := rfl
  exact ⟨by omega, pv_3 (by omega) (fun q => by omega) (fun q => by omega) (fun q => by omega)⟩
theorem b_abv {ab p : Nat → Int32} {j : Nat} (hj : j < 32) : ∀ {m : Nat}, (∀ i, i < m → ∃ z : Nat, z < 32 ∧ p i = nI z) → (bt (abv ab p m) j = true ↔ ∃ i, i < m ∧ (j = (p i).toNatClampNeg ∨ bt (ab (p i).toNatClampNeg) j = true))
  | 0, _ => ⟨fun h => absurd (show bt 0 j = true from h) (by rw [b_0]; decide), fun ⟨i, h, _⟩ => absurd h (Nat.not_lt_zero i)⟩
  | m + 1, hp => by
    have ih := b_abv (ab := ab) (p := p) hj (m := m) (fun i hi => hp i (by omega))
    obtain ⟨z, hz, e⟩ := hp m (by omega)
    show bt (abv ab p m ||| (((1 : Int32) <<< (p m &&& 31)) ||| ab (p m).toNatClampNeg)) j = true ↔ _
    rw [b_or, b_or, Bool.or_eq_true, Bool.or_eq_true, ih]
    constructor
    · rintro (⟨i, h1, h2⟩ | h | h)
      · exact ⟨i, by omega, h2⟩
      · refine ⟨m, by omega, Or.inl ?_⟩
        rw [e, b_ob hz hj] at h
        rw [e, nI_clamp (by omega)]; exact of_decide_eq_true h
      · exact ⟨m, by omega, Or.inr h⟩
    · rintro ⟨i, h1, h2⟩
      by_cases q : i = m
      · subst q
        rcases h2 with h2 | h2
        · refine Or.inr (Or.inl ?_)
          rw [e, nI_clamp (by omega)] at h2
          rw [e, b_ob hz hj, decide_eq_true h2]
        · exact Or.inr (Or.inr h2)
      · exact Or.inl ⟨i, by omega, h2⟩
theorem abv_congr {ab ab2 p : Nat → Int32} : ∀ {m : Nat}, (∀ i, i < m → ab (p i).toNatClampNeg = ab2 (p i).toNatClampNeg) → abv ab p m = abv ab2 p m
  | 0, _ => rfl
  | m + 1, h => by
    have ih := abv_congr (ab := ab) (ab2 := ab2) (p := p) (m := m) (fun i hi => h i (by omega))
    show abv ab p m ||| _ = abv ab2 p m ||| _
    rw [ih, h m (by omega)]
theorem ab_kind {fab fma : Nat → Int32} {k : Nat} {n a b d : Int32} (h : AbEq fab fma k) : AbEq (KA_next k fab n a b d) (KA_next k fma n a b d) (K_next k n a b d) := by
  unfold KA_next
  rcases K_cases k n a b d with ⟨e, q⟩ | ⟨e, q, hk⟩
  · rw [e, if_pos q, if_pos q]; exact h
  · rw [e, if_neg q, if_neg q]
    obtain ⟨_, hv⟩ := F_valid q
    have hp : ∀ i, i < n.toNatClampNeg → ∃ z : Nat, z < k ∧ par3 a b d i = nI z := fun i hi => arg_nat (hv i hi)
    clear hv e q
    generalize n.toNatClampNeg = m at hp ⊢
    generalize par3 a b d = p at hp ⊢
    have hp2 : ∀ i, i < m → ∃ z : Nat, z < 32 ∧ p i = nI z := fun i hi => by
      obtain ⟨z, h1, h2⟩ := hp i hi
      exact ⟨z, by omega, h2⟩
    have e2 : abv fab p m = abv fma p m := abv_congr (fun i hi => by
      obtain ⟨z, h1, h2⟩ := hp i hi
      rw [h2, nI_clamp (by omega)]; exact h.1 z h1)
    refine ⟨fun j hj => ?_, fun j hj i hi hb => ?_⟩
    · by_cases y : j = k
      · subst y; rw [pk_us, pk_us, e2]
      · rw [pk_un y, pk_un y]; exact h.1 j (by omega)
    · by_cases y : j = k
      · subst y
        rw [pk_us] at hb ⊢
        obtain ⟨t, ht, hc⟩ := (b_abv hi hp2).mp hb
        obtain ⟨z, h1, h2⟩ := hp t ht
        have ez : (p t).toNatClampNeg = z := by rw [h2, nI_clamp (by omega)]
        rw [ez] at hc
        have hlt : i < j := by
          rcases hc with hc | hc
          · omega
          · have := (h.2 z h1 i hi hc).1; omega
        refine ⟨hlt, fun x hx hbx => ?_⟩
        rw [pk_un (by omega)] at hbx
        refine (b_abv hx hp2).mpr ⟨t, ht, Or.inr ?_⟩
        rw [ez]
        rcases hc with hc | hc
        · rw [← hc]; exact hbx
        · exact (h.2 z h1 i hi hc).2 x hx hbx
      · rw [pk_un y] at hb ⊢
        obtain ⟨h1, h2⟩ := h.2 j (by omega) i hi hb
        refine ⟨h1, fun x hx hbx => ?_⟩
        rw [pk_un (by omega)] at hbx; exact h2 x hx hbx
theorem b_hid {ab : Nat → Int32} {nr : Int32} {j : Nat} : ∀ {m : Nat}, bt (hidF ab nr m) j = true ↔ ∃ k, k < m ∧ bt nr k = true ∧ bt (ab k) j = true
  | 0 => ⟨fun h => absurd (show bt 0 j = true from h) (by rw [b_0]; decide), fun ⟨i, h, _⟩ => absurd h (Nat.not_lt_zero i)⟩
  | m + 1 => by
    have ih := b_hid (ab := ab) (nr := nr) (j := j) (m := m)
    show bt (if bt nr m = true then hidF ab nr m ||| ab m else hidF ab nr m) j = true ↔ _
    by_cases q : bt nr m = true
    · rw [if_pos q, b_or, Bool.or_eq_true, ih]
      constructor
      · rintro (⟨i, h1, h2⟩ | h)
        · exact ⟨i, by omega, h2⟩
        · exact ⟨m, by omega, q, h⟩
      · rintro ⟨i, h1, h2, h3⟩
        by_cases z : i = m
        · subst z; exact Or.inr h3
        · exact Or.inl ⟨i, by omega, h2, h3⟩
    · rw [if_neg q, ih]
      constructor
      · rintro ⟨i, h1, h2⟩; exact ⟨i, by omega, h2⟩
      · rintro ⟨i, h1, h2, h3⟩
        by_cases z : i = m
        · subst z; exact absurd h2 q
        · exact ⟨i, by omega, h2, h3⟩
theorem b_msk {ab : Nat → Int32} {th : Int32} {j : Nat} (hj : j < 32) : ∀ {m : Nat}, bt (mskF ab th m) j = true ↔ bt th j = true ∧ ∀ k, k < m → bt th k = true → bt (ab k) j = false
  | 0 => ⟨fun h => ⟨h, fun k hk => absurd hk (Nat.not_lt_zero k)⟩, fun h => h.1⟩
  | m + 1 => by
    have ih := b_msk (ab := ab) (th := th) hj (m := m)
    show bt (if bt th m = true then mskF ab th m &&& (ab m ^^^ (-1)) else mskF ab th m) j = true ↔ _
    by_cases q : bt th m = true
    · rw [if_pos q, b_and, Bool.and_eq_true, ih, b_not hj]
      constructor
      · rintro ⟨⟨h1, h2⟩, h3⟩
        refine ⟨h1, fun k hk hb => ?_⟩
        by_cases z : k = m
        · subst z; simpa using h3
        · exact h2 k (by omega) hb
      · rintro ⟨h1, h2⟩
        exact ⟨⟨h1, fun k hk hb => h2 k (by omega) hb⟩, nb_t (by rw [h2 m (by omega) q]; decide)⟩
    · rw [if_neg q, ih]
      constructor
      · rintro ⟨h1, h2⟩
        refine ⟨h1, fun k hk hb => ?_⟩
        by_cases z : k = m
        · subst z; exact absurd hb q
        · exact h2 k (by omega) hb
      · rintro ⟨h1, h2⟩; exact ⟨h1, fun k hk hb => h2 k (by omega) hb⟩
/-- j is of kq or ABOVE it and HAS it -/
def Th (ab : Nat → Int32) (o : Int32) (kq j : Nat) : Prop := (bt (ab kq) j = true ∨ j = kq) ∧ bt o j = true
theorem b_th {ab : Nat → Int32} {o : Int32} {kq j : Nat} (hk : kq < 32) (hj : j < 32) : bt ((ab kq ||| ((1 : Int32) <<< (nI kq &&& 31))) &&& o) j = true ↔ Th ab o kq j := by
  unfold Th
  rw [b_and, Bool.and_eq_true, b_set hk hj, Bool.or_eq_true, decide_eq_true_eq]
theorem th_le {fab ab : Nat → Int32} {cn kq j : Nat} {o : Int32} (h : AbEq fab ab cn) (hk : kq < cn) (hj : j < 32) (ht : Th ab o kq j) : j ≤ kq := by
  rcases ht.1 with q | q
  · exact Nat.le_of_lt (h.2 kq hk j hj q).1
  · omega
def Nr (ab : Nat → Int32) (o : Int32) (kq j : Nat) : Prop := Th ab o kq j ∧ ∀ k, Th ab o kq k → k < 32 → bt (ab k) j = false
theorem b_nrM {fab ab : Nat → Int32} {cn kq j : Nat} {o : Int32} (h : AbEq fab ab cn) (hc : cn ≤ 10) (hk : kq < cn) (hj : j < 32) : bt (nrM ab cn kq o) j = true ↔ Nr ab o kq j := by
  unfold nrM Nr
  rw [b_msk hj, b_th (by omega) hj]
  constructor
  · rintro ⟨h1, h2⟩
    refine ⟨h1, fun k hk1 hk2 => ?_⟩
    have := th_le h hk hk2 hk1
    exact h2 k (by omega) ((b_th (by omega) hk2).mpr hk1)
  · rintro ⟨h1, h2⟩
    exact ⟨h1, fun k hk1 hk2 => h2 k ((b_th (by omega) (by omega)).mp hk2) (by omega)⟩
theorem and_comm32 (x y : Int32) : x &&& y = y &&& x := b_ext (fun i _ => by rw [b_and, b_and, Bool.and_comm])
theorem nr_eq {fab ab : Nat → Int32} {cn kq : Nat} {o : Int32} (h : AbEq fab ab cn) (hc : cn ≤ 10) (hk : kq < cn) : nrC fab kq o = nrM ab cn kq o := by
  apply b_ext
  intro j hj
  rw [Bool.eq_iff_iff, b_nrM h hc hk hj]
  unfold nrC Nr
  rw [h.1 kq hk, and_comm32 o, b_and, Bool.and_eq_true, b_th (by omega) hj, b_not hj]
  constructor
  · rintro ⟨h1, h2⟩
    refine ⟨h1, fun k hk1 hk2 => bF (fun q => ?_)⟩
    have hle := th_le h hk hk2 hk1
    have : bt (hidF fab ((ab kq ||| ((1 : Int32) <<< (nI kq &&& 31))) &&& o) (kq + 1)) j = true := b_hid.mpr ⟨k, by omega, (b_th (by omega) hk2).mpr hk1, by rw [h.1 k (by omega)]; exact q⟩
    rw [this] at h2; exact absurd h2 (by decide)
  · rintro ⟨h1, h2⟩
    refine ⟨h1, nb_t (fun q => ?_)⟩
    obtain ⟨k, a1, a2, a3⟩ := b_hid.mp q
    rw [h.1 k (by omega), h2 k ((b_th (by omega) (by omega)).mp a2) (by omega)] at a3
    exact absurd a3 (by decide)
theorem nr_small {fab ab : Nat → Int32} {cn kq : Nat} {o : Int32} (h : AbEq fab ab cn) (hc : cn ≤ 10) (hk : kq < cn) : ∀ i, 10 ≤ i → i < 32 → bt (nrM ab cn kq o) i = false := fun i h1 h2 => bF (fun q => by
  have := th_le h hk h2 ((b_nrM h hc hk h2).mp q).1
  omega)
theorem bc_nr {fab ab : Nat → Int32} {cn kq : Nat} {o : Int32} (h : AbEq fab ab cn) (hc : cn ≤ 10) (hk : kq < cn) : (bcF (nrC fab kq o)).toInt = ((cnt (fun i => bt (nrM ab cn kq o) i) 10 : Nat) : Int) := by
  have := cnt_le (P := fun i => bt (nrM ab cn kq o) i) (n := 10)
  rw [nr_eq h hc hk, bc_cnt (nr_small h hc hk), nI_toInt (by omega)]
theorem db_eq {fab ab : Nat → Int32} {cn : Nat} {o : Int32} (h : AbEq fab ab cn) (hc : cn ≤ 10) : dbC fab cn o = dbM ab cn o := bits_congr (fun k hk => by
  rw [bc_nr h hc hk]
  exact decide_eq_decide.mpr (by omega))
theorem hv_eq {fo fnm : Nat → Int32} {cn nq : Nat} (h : OwEq fo fnm cn) (hc : cn ≤ 10) (hn : nq < 8) : fo nq = hvF fnm cn nq := b_ext (fun i hi => by
  unfold hvF
  rw [b_bits (by omega) hi]; exact h.1 nq hn i hi)
theorem bl_eq {fab ab : Nat → Int32} {cn kq : Nat} (h : AbEq fab ab cn) : blF fab cn kq = blF ab cn kq := bits_congr (fun k hk => by rw [h.1 k hk])
theorem of_F {fab ab : Nat → Int32} {cn kn : Nat} {n v : Int32} (hrel : kn = cn) (h : AbEq fab ab cn) : F_of cn (fab n.toNatClampNeg) (blF fab cn n.toNatClampNeg) n v = F_of kn (ab n.toNatClampNeg) (blF ab kn n.toNatClampNeg) n v := by
  subst hrel
  unfold F_of
  by_cases q : 0 ≤ n.toInt ∧ n.toInt < (kn : Int)
  · rw [if_pos q, if_pos q, bl_eq h, h.1 _ (arg_k q).1]
  · rw [if_neg q, if_neg q]
theorem near_F {fab ab fo fnm : Nat → Int32} {cn kn : Nat} {n v : Int32} (hrel : kn = cn) (hc : cn ≤ 10) (h : AbEq fab ab cn) (h3 : OwEq fo fnm cn) : F_near cn (nrC fab n.toNatClampNeg (fo v.toNatClampNeg)) n v = F_near kn (nrM ab kn n.toNatClampNeg (hvF fnm kn v.toNatClampNeg)) n v := by
  subst hrel
  unfold F_near
  by_cases q : (0 ≤ n.toInt ∧ n.toInt < (kn : Int)) ∧ (0 ≤ v.toInt ∧ v.toInt ≤ 7)
  · rw [if_pos q, if_pos q, hv_eq h3 hc (arg_n q.2).1, nr_eq h hc (arg_k q.1).1]
  · rw [if_neg q, if_neg q]
theorem doubt_F {fab ab fo fnm : Nat → Int32} {cn kn : Nat} {n : Int32} (hrel : kn = cn) (hc : cn ≤ 10) (h : AbEq fab ab cn) (h3 : OwEq fo fnm cn) : F_nm (dbC fab cn (fo n.toNatClampNeg)) n = F_nm (dbM ab kn (hvF fnm kn n.toNatClampNeg)) n := by
  subst hrel
  unfold F_nm
  by_cases q : 0 ≤ n.toInt ∧ n.toInt ≤ 7
  · rw [if_pos q, if_pos q, hv_eq h3 hc (arg_n q).1, db_eq h hc]
  · rw [if_neg q, if_neg q]
/-! SETTLE -/
theorem cnt_one {P : Nat → Bool} : ∀ {n : Nat}, 1 ≤ cnt P n ↔ ∃ x, x < n ∧ P x = true
  | 0 => ⟨fun h => absurd h (by show ¬ 1 ≤ 0; omega), fun ⟨x, h, _⟩ => absurd h (Nat.not_lt_zero x)⟩
  | n + 1 => by
    have ih := cnt_one (P := P) (n := n)
    show 1 ≤ cnt P n + (if P n = true then 1 else 0) ↔ _
    by_cases q : P n = true
    · rw [if_pos q]; exact ⟨fun _ => ⟨n, by omega, q⟩, fun _ => by omega⟩
    · rw [if_neg q, Nat.add_zero, ih]
      constructor
      · rintro ⟨x, h1, h2⟩; exact ⟨x, by omega, h2⟩
      · rintro ⟨x, h1, h2⟩
        by_cases z : x = n
        · subst z; exact absurd h2 q
        · exact ⟨x, by omega, h2⟩
theorem cnt_two {P : Nat → Bool} : ∀ {n : Nat}, 2 ≤ cnt P n ↔ ∃ x y, x < y ∧ y < n ∧ P x = true ∧ P y = true
  | 0 => ⟨fun h => absurd h (by show ¬ 2 ≤ 0; omega), fun ⟨x, y, _, h, _⟩ => absurd h (Nat.not_lt_zero y)⟩
  | n + 1 => by
    have ih := cnt_two (P := P) (n := n)
    show 2 ≤ cnt P n + (if P n = true then 1 else 0) ↔ _
    by_cases q : P n = true
    · rw [if_pos q]
      constructor
      · intro h
        obtain ⟨x, h1, h2⟩ := (cnt_one (P := P) (n := n)).mp (by omega)
        exact ⟨x, n, h1, by omega, h2, q⟩
      · rintro ⟨x, y, h1, h2, h3, h4⟩
        have := (cnt_one (P := P) (n := n)).mpr ⟨x, by omega, h3⟩
        omega
    · rw [if_neg q, Nat.add_zero, ih]
      constructor
      · rintro ⟨x, y, h1, h2, h3⟩; exact ⟨x, y, h1, by omega, h3⟩
      · rintro ⟨x, y, h1, h2, h3, h4⟩
        by_cases z : y = n
        · subst z; exact absurd h4 q
        · exact ⟨x, y, h1, by omega, h3, h4⟩
theorem cnt_mono {P Q : Nat → Bool} : ∀ {n : Nat}, (∀ i, i < n → P i = true → Q i = true) → cnt P n ≤ cnt Q n
  | 0, _ => Nat.le_refl 0
  | n + 1, h => by
    have ih := cnt_mono (P := P) (Q := Q) (n := n) (fun i hi => h i (by omega))
    show cnt P n + (if P n = true then 1 else 0) ≤ cnt Q n + (if Q n = true then 1 else 0)
    by_cases q : P n = true
    · rw [if_pos q, if_pos (h n (by omega) q)]; omega
    · rw [if_neg q]; omega
theorem cnt_lt {P Q : Nat → Bool} : ∀ {n : Nat}, (∀ i, i < n → P i = true → Q i = true) → (∃ i, i < n ∧ Q i = true ∧ ¬ P i = true) → cnt P n < cnt Q n
  | 0, _, ⟨i, h, _⟩ => absurd h (Nat.not_lt_zero i)
  | n + 1, h, ⟨i, h1, h2, h3⟩ => by
    show cnt P n + (if P n = true then 1 else 0) < cnt Q n + (if Q n = true then 1 else 0)
    have hm := cnt_mono (P := P) (Q := Q) (n := n) (fun i hi => h i (by omega))
    by_cases z : i = n
    · subst z; rw [if_neg h3, if_pos h2]; omega
    · have ih := cnt_lt (P := P) (Q := Q) (n := n) (fun i hi => h i (by omega)) ⟨i, by omega, h2, h3⟩
      by_cases q : P n = true
      · rw [if_pos q, if_pos (h n (by omega) q)]; omega
      · rw [if_neg q]; omega
def Dbt (ab : Nat → Int32) (o : Int32) (k : Nat) : Prop := ∃ x y, x ≠ y ∧ x < 32 ∧ y < 32 ∧ Nr ab o k x ∧ Nr ab o k y
theorem dbt_iff {fab ab : Nat → Int32} {cn k : Nat} {o : Int32} (h : AbEq fab ab cn) (hc : cn ≤ 10) (hk : k < cn) : 2 ≤ cnt (fun i => bt (nrM ab cn k o) i) 10 ↔ Dbt ab o k := by
  rw [cnt_two]
  constructor
  · rintro ⟨x, y, h1, h2, h3, h4⟩
    exact ⟨x, y, by omega, by omega, by omega, (b_nrM h hc hk (by omega)).mp h3, (b_nrM h hc hk (by omega)).mp h4⟩
  · rintro ⟨x, y, h0, h1, h2, h3, h4⟩
    have q1 := th_le h hk h1 h3.1
    have q2 := th_le h hk h2 h4.1
    rcases Nat.lt_or_gt_of_ne h0 with z | z
    · exact ⟨x, y, z, by omega, (b_nrM h hc hk h1).mpr h3, (b_nrM h hc hk h2).mpr h4⟩
    · exact ⟨y, x, z, by omega, (b_nrM h hc hk h2).mpr h4, (b_nrM h hc hk h1).mpr h3⟩
theorem th_loc {fab ab : Nat → Int32} {cn k j : Nat} {o o2 : Int32} (h : AbEq fab ab cn) (hk : k < cn) (hj : j < 32) (e : ∀ i, i ≤ k → bt o i = bt o2 i) : Th ab o k j → Th ab o2 k j := fun ht => ⟨ht.1, by rw [← e j (th_le h hk hj ht)]; exact ht.2⟩
theorem nr_loc {fab ab : Nat → Int32} {cn k j : Nat} {o o2 : Int32} (h : AbEq fab ab cn) (hk : k < cn) (hj : j < 32) (e : ∀ i, i ≤ k → bt o i = bt o2 i) (hn : Nr ab o k j) : Nr ab o2 k j :=
  ⟨th_loc h hk hj e hn.1, fun i hi h32 => hn.2 i (th_loc h hk h32 (fun i hi => (e i hi).symm) hi) h32⟩
theorem dbt_loc {fab ab : Nat → Int32} {cn k : Nat} {o o2 : Int32} (h : AbEq fab ab cn) (hk : k < cn) (e : ∀ i, i ≤ k → bt o i = bt o2 i) : Dbt ab o k → Dbt ab o2 k :=
  fun ⟨x, y, h0, h1, h2, h3, h4⟩ => ⟨x, y, h0, h1, h2, nr_loc h hk h1 e h3, nr_loc h hk h2 e h4⟩
theorem dbt_own {fab ab : Nat → Int32} {cn k : Nat} {o : Int32} (h : AbEq fab ab cn) (hc : cn ≤ 10) (hk : k < cn) (hd : Dbt ab o k) : bt o k = false := bF (fun q => by
  obtain ⟨x, y, h0, h1, h2, h3, h4⟩ := hd
  have tk : Th ab o k k := ⟨Or.inr rfl, q⟩
  have e1 : x = k := h3.1.1.elim (fun z => by rw [h3.2 k tk (by omega)] at z; exact absurd z (by decide)) id
  have e2 : y = k := h4.1.1.elim (fun z => by rw [h4.2 k tk (by omega)] at z; exact absurd z (by decide)) id
  omega)
theorem nr_ex {fab ab : Nat → Int32} {cn k : Nat} {o : Int32} (h : AbEq fab ab cn) (hc : cn ≤ 10) (hk : k < cn) : ∀ (f x : Nat), k - x < f → x < 32 → Th ab o k x → ∃ z, z < 32 ∧ Nr ab o k z ∧ (z = x ∨ bt (ab z) x = true)
  | 0, x, hf, _, _ => absurd hf (Nat.not_lt_zero _)
  | f + 1, x, hf, hx, ht => by
    by_cases q : ∃ i, Th ab o k i ∧ i < 32 ∧ bt (ab i) x = true
    · obtain ⟨i, h1, h2, h3⟩ := q
      have hik := th_le h hk h2 h1
      have hxi := (h.2 i (by omega) x hx h3).1
      obtain ⟨z, a1, a2, a3⟩ := nr_ex h hc hk f i (by omega) h2 h1
      refine ⟨z, a1, a2, Or.inr ?_⟩
      rcases a3 with a3 | a3
      · rw [a3]; exact h3
      · have hzk := th_le h hk a1 a2.1
        exact (h.2 z (by omega) i h2 a3).2 x hx h3
    · exact ⟨x, hx, ⟨ht, fun i h1 h2 => bF (fun y => q ⟨i, h1, h2, y⟩)⟩, Or.inl rfl⟩
theorem nr_uni {ab : Nat → Int32} {k x y : Nat} {o : Int32} (hd : ¬ Dbt ab o k) (hx : x < 32) (hy : y < 32) (h1 : Nr ab o k x) (h2 : Nr ab o k y) : x = y := by
  rcases Nat.decEq x y with q | q
  · exact absurd ⟨x, y, q, hx, hy, h1, h2⟩ hd
  · exact q
theorem dbt_up {fab ab : Nat → Int32} {cn m : Nat} {o t : Int32} (h : AbEq fab ab cn) (hc : cn ≤ 10) (hm : m < cn) (hot : ∀ i, i < 32 → bt o i = true → bt t i = true) (hmt : bt t m = false) (hz : ∀ z, z < m → bt t z = true → bt o z = false → ¬ Dbt ab o z) (hd : Dbt ab o m) : Dbt ab t m := by
  rcases Classical.em (Dbt ab t m) with q | q
  · exact q
  exfalso
  obtain ⟨x, y, h0, hx, hy, nx, ny⟩ := hd
  have tx : Th ab t m x := ⟨nx.1.1, hot x hx nx.1.2⟩
  have ty : Th ab t m y := ⟨ny.1.1, hot y hy ny.1.2⟩
  have nxy : ¬ bt (ab x) y = true := fun z => by rw [ny.2 x nx.1 hx] at z; exact absurd z (by decide)
  have nyx : ¬ bt (ab y) x = true := fun z => by rw [nx.2 y ny.1 hy] at z; exact absurd z (by decide)
  obtain ⟨z, hz1, hz2, hz3⟩ := nr_ex h hc hm _ x (Nat.lt_succ_self _) hx tx
  obtain ⟨z2, hy1, hy2, hy3⟩ := nr_ex h hc hm _ y (Nat.lt_succ_self _) hy ty
  obtain rfl := nr_uni q hz1 hy1 hz2 hy2
  have zx : bt (ab z) x = true := hz3.resolve_left (fun e => by subst e; exact hy3.elim (fun e => h0 e) nxy)
  have zy : bt (ab z) y = true := hy3.resolve_left (fun e => by subst e; exact hz3.elim (fun e => h0 e.symm) nyx)
  have zm : z ≠ m := fun e => by subst e; have := hz2.1.2; rw [hmt] at this; exact absurd this (by decide)
  have mz : bt (ab m) z = true := hz2.1.1.resolve_right zm
  have hzm := (h.2 m hm z hz1 mz).1
  have oz : bt o z = false := bF (fun e => by
    have := nx.2 z ⟨Or.inl mz, e⟩ hz1
    rw [zx] at this; exact absurd this (by decide))
  have nd := hz z hzm hz2.1.2 oz
  obtain ⟨w, w1, w2, w3⟩ := nr_ex h hc (by omega : z < cn) _ x (Nat.lt_succ_self _) hx (⟨Or.inl zx, nx.1.2⟩ : Th ab o z x)
  obtain ⟨w', v1, v2, v3⟩ := nr_ex h hc (by omega : z < cn) _ y (Nat.lt_succ_self _) hy (⟨Or.inl zy, ny.1.2⟩ : Th ab o z y)
  obtain rfl := nr_uni nd w1 v1 w2 v2
  have wx : bt (ab w) x = true := w3.resolve_left (fun e => by subst e; exact v3.elim (fun e => h0 e) nxy)
  have wz : w ≠ z := fun e => by subst e; have := w2.1.2; rw [oz] at this; exact absurd this (by decide)
  have zw : bt (ab z) w = true := w2.1.1.resolve_right wz
  have mw : bt (ab m) w = true := (h.2 m hm z hz1 mz).2 w w1 zw
  have := nx.2 w ⟨Or.inl mw, w2.1.2⟩ w1
  rw [wx] at this; exact absurd this (by decide)
theorem st_bit {fab ab : Nat → Int32} {cn : Nat} {o : Int32} (h : AbEq fab ab cn) (hc : cn ≤ 10) : ∀ {m : Nat}, m ≤ cn → ∀ j, j < 32 → (bt (stF fab o m) j = true ↔ j < m ∧ Dbt ab (o ||| stF fab o j) j)
  | 0, _, j, _ => ⟨fun q => absurd (show bt 0 j = true from q) (by rw [b_0]; decide), fun q => absurd q.1 (Nat.not_lt_zero j)⟩
  | m + 1, hm, j, hj => by
    have ih := st_bit (o := o) h hc (m := m) (by omega) j hj
    have hd : (2 ≤ (bcF (nrC fab m (o ||| stF fab o m))).toInt) ↔ Dbt ab (o ||| stF fab o m) m := by
      rw [bc_nr h hc (by omega), ← dbt_iff h hc (by omega)]; omega
    show bt (if 2 ≤ (bcF (nrC fab m (o ||| stF fab o m))).toInt then stF fab o m ||| ((1 : Int32) <<< (nI m &&& 31)) else stF fab o m) j = true ↔ _
    by_cases q : 2 ≤ (bcF (nrC fab m (o ||| stF fab o m))).toInt
    · rw [if_pos q, b_set (by omega) hj, Bool.or_eq_true, decide_eq_true_eq, ih]
      constructor
      · rintro (⟨h1, h2⟩ | h1)
        · exact ⟨by omega, h2⟩
        · subst h1; exact ⟨by omega, hd.mp q⟩
      · rintro ⟨h1, h2⟩
        by_cases z : j = m
        · exact Or.inr z
        · exact Or.inl ⟨by omega, h2⟩
    · rw [if_neg q, ih]
      constructor
      · rintro ⟨h1, h2⟩; exact ⟨by omega, h2⟩
      · rintro ⟨h1, h2⟩
        by_cases z : j = m
        · subst z; exact absurd (hd.mpr h2) q
        · exact ⟨by omega, h2⟩
theorem db_zero {fab ab : Nat → Int32} {cn : Nat} {o : Int32} (h : AbEq fab ab cn) (hc : cn ≤ 10) : dbM ab cn o = 0 ↔ ∀ k, k < cn → ¬ Dbt ab o k := by
  unfold dbM
  constructor
  · intro e k hk hd
    have := b_bits (P := fun k => decide (1 < cnt (fun i => bt (nrM ab cn k o) i) 10)) (n := cn) (i := k) (by omega) (by omega)
    rw [e, b_0, decide_eq_true hk, Bool.true_and] at this
    have q := (dbt_iff h hc hk).mpr hd
    exact absurd this (by rw [decide_eq_true (by omega)]; decide)
  · intro hd
    apply b_ext
    intro i hi
    rw [b_bits (by omega) hi, b_0]
    by_cases q : i < cn
    · have : ¬ 2 ≤ cnt (fun j => bt (nrM ab cn i o) j) 10 := fun z => hd i q ((dbt_iff h hc q).mp z)
      rw [decide_eq_true q, Bool.true_and]; exact decide_eq_false (by omega)
    · rw [decide_eq_false q, Bool.false_and]
theorem st_ok {fab ab : Nat → Int32} {cn : Nat} {o : Int32} (h : AbEq fab ab cn) (hc : cn ≤ 10) : (stF fab o cn &&& o) = 0 ∧ dbM ab cn (o ||| stF fab o cn) = 0 := by
  constructor
  · apply b_ext
    intro i hi
    rw [b_and, b_0]
    by_cases q : bt (stF fab o cn) i = true
    · obtain ⟨h1, h2⟩ := (st_bit h hc (Nat.le_refl _) i hi).mp q
      have := dbt_own h hc h1 h2
      rw [b_or, Bool.or_eq_false_iff] at this
      rw [this.1, Bool.and_false]
    · rw [bF q, Bool.false_and]
  · rw [db_zero h hc]
    intro k hk hd
    have own := dbt_own h hc hk hd
    rw [b_or, Bool.or_eq_false_iff] at own
    refine absurd ((st_bit (o := o) h hc (Nat.le_refl _) k (by omega)).mpr ⟨hk, dbt_loc h hk (fun i hi => ?_) hd⟩) (by rw [own.2]; decide)
    rw [b_or, b_or]
    congr 1
    rw [Bool.eq_iff_iff, st_bit h hc (Nat.le_refl _) i (by omega), st_bit h hc (m := k) (by omega) i (by omega)]
    constructor
    · rintro ⟨h1, h2⟩
      refine ⟨?_, h2⟩
      rcases Nat.lt_or_eq_of_le hi with z | z
      · exact z
      · subst z; have := (st_bit (o := o) h hc (Nat.le_refl _) i (by omega)).mpr ⟨h1, h2⟩; rw [own.2] at this; exact absurd this (by decide)
    · rintro ⟨h1, h2⟩; exact ⟨by omega, h2⟩
theorem st_sub {fab ab : Nat → Int32} {cn : Nat} {o t : Int32} (h : AbEq fab ab cn) (hc : cn ≤ 10) (ht : dbM ab cn (o ||| t) = 0) : ∀ m, m ≤ cn → ∀ j, j < 32 → bt (stF fab o m) j = true → bt t j = true
  | 0, _, j, _, q => absurd (show bt 0 j = true from q) (by rw [b_0]; decide)
  | m + 1, hm, j, hj, q => by
    have ih := st_sub h hc ht m (by omega)
    obtain ⟨h1, h2⟩ := (st_bit h hc hm j hj).mp q
    by_cases z : j = m
    · subst z
      rcases Bool.eq_false_or_eq_true (bt t j) with e | e
      · exact e
      exfalso
      have own := dbt_own h hc (by omega) h2
      rw [b_or, Bool.or_eq_false_iff] at own
      refine (db_zero h hc).mp ht j (by omega) (dbt_up (t := o ||| t) h hc (by omega) (fun i hi a => ?_) (by rw [b_or, own.1, e]; rfl) (fun z hz a b hd => ?_) h2)
      · rw [b_or, Bool.or_eq_true] at a ⊢
        exact a.imp id (ih i hi)
      · rw [b_or, Bool.or_eq_false_iff] at b
        have : bt (stF fab o j) z = true := (st_bit h hc (m := j) (by omega) z (by omega)).mpr ⟨hz, dbt_loc h (by omega) (fun i hi => by
          rw [b_or, b_or]
          congr 1
          rw [Bool.eq_iff_iff, st_bit h hc (m := j) (by omega) i (by omega), st_bit h hc (m := z) (by omega) i (by omega)]
          constructor
          · rintro ⟨c1, c2⟩
            refine ⟨?_, c2⟩
            rcases Nat.lt_or_eq_of_le hi with y | y
            · exact y
            · subst y
              have := (st_bit (o := o) h hc (m := j) (by omega) i (by omega)).mpr ⟨c1, c2⟩
              rw [b.2] at this; exact absurd this (by decide)
          · rintro ⟨c1, c2⟩; exact ⟨by omega, c2⟩) hd⟩
        rw [b.2] at this; exact absurd this (by decide)
    · exact ih j hj ((st_bit h hc (m := m) (by omega) j hj).mpr ⟨by omega, h2⟩)
theorem bs_st {fab ab : Nat → Int32} {cn : Nat} {o : Int32} (h : AbEq fab ab cn) (hc : cn ≤ 10) : ∀ s, s ≤ 2 ^ cn → ∀ a, stF fab o cn = nI a → a < 2 ^ cn → (a < s → bsM ab cn o s = nI a) ∧ (s ≤ a → (bsM ab cn o s).toInt < 0 ∨ cnt (fun i => bt (nI a) i) 10 < cnt (fun i => bt (bsM ab cn o s) i) 10)
  | 0, _, a, _, _ => ⟨fun q => absurd q (Nat.not_lt_zero a), fun _ => Or.inl (show Int32.toInt (-6) < 0 by decide)⟩
  | s + 1, hs, a, ea, ha => by
    obtain ⟨ih1, ih2⟩ := bs_st (o := o) h hc s (by omega) a ea ha
    have p10 : 2 ^ cn ≤ 2 ^ 10 := Nat.pow_le_pow_right (by decide) hc
    have hst := st_ok (o := o) h hc
    rw [ea] at hst
    have more : ∀ t : Nat, t < 2 ^ cn → t ≠ a → dbM ab cn (o ||| nI t) = 0 → cnt (fun i => bt (nI a) i) 10 < cnt (fun i => bt (nI t) i) 10 := by
      intro t h1 h2 h3
      have sub := st_sub h hc h3 cn (Nat.le_refl _)
      rw [ea] at sub
      refine cnt_lt (fun i hi => sub i (by omega)) ?_
      rcases Classical.em (∃ i, i < 10 ∧ bt (nI t) i = true ∧ ¬ bt (nI a) i = true) with q | q
      · exact q
      exfalso
      apply h2
      have : nI t = nI a := b_ext (fun i hi => by
        rcases Nat.lt_or_ge i 10 with z | z
        · rw [Bool.eq_iff_iff]
          refine ⟨fun y => ?_, fun y => sub i hi y⟩
          rcases Bool.eq_false_or_eq_true (bt (nI a) i) with w | w
          · exact w
          · exact absurd ⟨i, z, y, by rw [w]; decide⟩ q
        · have b0 : ∀ x : Nat, x < 2 ^ cn → bt (nI x) i = false := fun x hx => by
            rw [bt_nI hi]; exact Nat.testBit_lt_two_pow (Nat.lt_of_lt_of_le hx (Nat.le_trans p10 (Nat.pow_le_pow_right (by decide) z)))
          rw [b0 t h1, b0 a ha])
      exact (nI_eq (by omega) (by omega)).mp this
    show (a < s + 1 → (if (nI s &&& o) = 0 ∧ ((bsM ab cn o s).toInt < 0 ∨ cnt (fun i => bt (nI s) i) 10 < cnt (fun i => bt (bsM ab cn o s) i) 10) ∧ dbM ab cn (o ||| nI s) = 0 then nI s else bsM ab cn o s) = nI a) ∧ (s + 1 ≤ a → (if (nI s &&& o) = 0 ∧ ((bsM ab cn o s).toInt < 0 ∨ cnt (fun i => bt (nI s) i) 10 < cnt (fun i => bt (bsM ab cn o s) i) 10) ∧ dbM ab cn (o ||| nI s) = 0 then nI s else bsM ab cn o s).toInt < 0 ∨ cnt (fun i => bt (nI a) i) 10 < cnt (fun i => bt (if (nI s &&& o) = 0 ∧ ((bsM ab cn o s).toInt < 0 ∨ cnt (fun i => bt (nI s) i) 10 < cnt (fun i => bt (bsM ab cn o s) i) 10) ∧ dbM ab cn (o ||| nI s) = 0 then nI s else bsM ab cn o s) i) 10)
    by_cases z : s = a
    · subst z
      refine ⟨fun _ => if_pos ⟨hst.1, ih2 (Nat.le_refl _), hst.2⟩, fun q => absurd q (by omega)⟩
    · by_cases c : (nI s &&& o) = 0 ∧ ((bsM ab cn o s).toInt < 0 ∨ cnt (fun i => bt (nI s) i) 10 < cnt (fun i => bt (bsM ab cn o s) i) 10) ∧ dbM ab cn (o ||| nI s) = 0
      · rw [if_pos c]
        have m := more s (by omega) z c.2.2
        refine ⟨fun q => ?_, fun _ => Or.inr m⟩
        exfalso
        have e := ih1 (by omega)
        rw [e] at c
        rcases c.2.1 with y | y
        · rw [nI_toInt (by omega)] at y; omega
        · omega
      · rw [if_neg c]
        exact ⟨fun q => ih1 (by omega), fun q => ih2 (by omega)⟩
theorem shl_pow : ∀ k, k ≤ 10 → ((1 : Int32) <<< (nI k &&& 31)).toNatClampNeg = 2 ^ k := by decide +kernel
theorem st_small {fab ab : Nat → Int32} {cn : Nat} {o : Int32} (h : AbEq fab ab cn) (hc : cn ≤ 10) : ∀ i, cn ≤ i → i < 32 → bt (stF fab o cn) i = false := fun i h1 h2 => bF (fun q => by
  have := ((st_bit h hc (Nat.le_refl _) i h2).mp q).1
  omega)
theorem settle_eq {fab ab : Nat → Int32} {cn : Nat} {o : Int32} (h : AbEq fab ab cn) (hc : cn ≤ 10) : bsM ab cn o ((1 : Int32) <<< (nI cn &&& 31)).toNatClampNeg = stF fab o cn := by
  obtain ⟨a, h1, h2⟩ := small_ex (r := stF fab o cn) (m := cn) (by omega) (st_small h hc)
  rw [shl_pow cn hc, h2]
  exact (bs_st h hc (2 ^ cn) (Nat.le_refl _) a h2 h1).1 h1
theorem settle_F {fab ab fo fnm : Nat → Int32} {cn kn : Nat} {n v : Int32} (hrel : kn = cn) (hc : cn ≤ 10) (h : AbEq fab ab cn) (h3 : OwEq fo fnm cn) :
    F_settle (stF fab (fo n.toNatClampNeg) cn) (bcF (stF fab (fo n.toNatClampNeg) cn)) n v = F_settle (bsM ab kn (hvF fnm kn n.toNatClampNeg) ((1 : Int32) <<< (nI kn &&& 31)).toNatClampNeg) (nI (cnt (fun i => bt (bsM ab kn (hvF fnm kn n.toNatClampNeg) ((1 : Int32) <<< (nI kn &&& 31)).toNatClampNeg) i) 10)) n v := by
  subst hrel
  unfold F_settle
  by_cases q : 0 ≤ n.toInt ∧ n.toInt ≤ 7
  · rw [if_pos q, if_pos q, hv_eq h3 hc (arg_n q).1, settle_eq h hc, bc_cnt (fun i h1 h2 => st_small h hc i (by omega) h2)]
  · rw [if_neg q, if_neg q]
