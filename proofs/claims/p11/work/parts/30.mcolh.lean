/-! the reference's columns: the search goes on and ends -/
def wt (x : Int32) : Nat := if x.toInt < 0 then 1 else (9 - x.toInt).toNat
def sm (f : Nat → Int32) : Nat → Nat
  | 0 => 0
  | n + 1 => sm f n + wt (f n) * 20 ^ (8 - n)
def muF (f : Nat → Int32) (cm : Nat) (dn : Int32) : Nat := sm f cm + (if dn = 1 then 10 * 20 ^ (8 - cm) else 0)
theorem sm_cong {f g : Nat → Int32} : ∀ {n : Nat}, (∀ i, i < n → g i = f i) → sm g n = sm f n
  | 0, _ => rfl
  | n + 1, h => by
    have ih := sm_cong (f := f) (g := g) (n := n) (fun i hi => h i (by omega))
    show sm g n + wt (g n) * 20 ^ (8 - n) = sm f n + wt (f n) * 20 ^ (8 - n)
    rw [ih, h n (by omega)]
theorem one20 (k : Nat) : 1 ≤ 20 ^ k := by
  induction k with
  | zero => exact Nat.le_refl 1
  | succ k ih => rw [Nat.pow_succ]; omega
theorem p20 {n : Nat} (h : n < 8) : ∃ P : Nat, 1 ≤ P ∧ 20 ^ (8 - (n + 1)) = P ∧ 20 ^ (8 - n) = 20 * P := by
  refine ⟨20 ^ (8 - (n + 1)), one20 _, rfl, ?_⟩
  rw [show 8 - n = (8 - (n + 1)) + 1 by omega, Nat.pow_succ, Nat.mul_comm]
theorem mu_dd {f g : Nat → Int32} {n : Nat} (h : n < 8) (ha : ∀ i, i < n → g i = f i) (hw : wt (g n) ≤ 9) : muF g (n + 1) 1 < muF f n 1 := by
  obtain ⟨P, h1, h2, h3⟩ := p20 h
  unfold muF
  rw [if_pos rfl, if_pos rfl]
  show sm g n + wt (g n) * 20 ^ (8 - n) + 10 * 20 ^ (8 - (n + 1)) < sm f n + 10 * 20 ^ (8 - n)
  rw [sm_cong ha, h2, h3]
  have : wt (g n) * (20 * P) ≤ 9 * (20 * P) := Nat.mul_le_mul_right _ hw
  omega
theorem mu_ud {f g : Nat → Int32} {n : Nat} (h : n < 8) (ha : ∀ i, i < n → g i = f i) (hw : wt (g n) + 1 ≤ wt (f n)) : muF g (n + 1) 1 < muF f (n + 1) 0 := by
  obtain ⟨P, h1, h2, h3⟩ := p20 h
  unfold muF
  rw [if_pos rfl, if_neg (by decide)]
  show sm g n + wt (g n) * 20 ^ (8 - n) + 10 * 20 ^ (8 - (n + 1)) < sm f n + wt (f n) * 20 ^ (8 - n) + 0
  rw [sm_cong ha, h2, h3]
  have : (wt (g n) + 1) * (20 * P) ≤ wt (f n) * (20 * P) := Nat.mul_le_mul_right _ hw
  rw [Nat.add_mul] at this
  omega
theorem mu_du {f g : Nat → Int32} {n : Nat} (ha : ∀ i, i < n → g i = f i) : muF g n 0 < muF f n 1 := by
  unfold muF
  rw [if_pos rfl, if_neg (by decide), sm_cong ha]
  have : 1 ≤ 20 ^ (8 - n) := one20 _
  omega
theorem mu_uu {f g : Nat → Int32} {n : Nat} (ha : ∀ i, i < n → g i = f i) (hw : 1 ≤ wt (f n)) : muF g n 0 < muF f (n + 1) 0 := by
  unfold muF
  rw [if_neg (by decide), if_neg (by decide)]
  show sm g n + 0 < sm f n + wt (f n) * 20 ^ (8 - n) + 0
  rw [sm_cong ha]
  have h1 : 1 ≤ 20 ^ (8 - n) := one20 _
  have h2 : 1 * 1 ≤ wt (f n) * 20 ^ (8 - n) := Nat.mul_le_mul hw h1
  omega
def uB (us : Int32) (i : Nat) : Prop := ¬ ((us >>> (nI i &&& 31)) &&& 1) = 0
def ColOk (us : Int32) (f : Nat → Int32) (m : Nat) : Prop := ∀ i, i < m → (uB us i → ∃ q : Nat, q ≤ 8 ∧ q ≤ i ∧ f i = nI q) ∧ (¬ uB us i → f i = -6)
theorem wt_nI {q : Nat} (h : q ≤ 9) : wt (nI q) = 9 - q := by
  unfold wt; rw [nI_toInt (by omega), if_neg (by omega)]; omega
theorem wt_m6 : wt (-6) = 1 := by decide
theorem col_wt {us : Int32} {f : Nat → Int32} {m i : Nat} (h : ColOk us f m) (hi : i < m) : 1 ≤ wt (f i) := by
  by_cases b : uB us i
  · obtain ⟨q, h1, _, e⟩ := (h i hi).1 b
    rw [e, wt_nI (by omega)]; omega
  · rw [(h i hi).2 b, wt_m6]; omega
theorem col_0 {us : Int32} {f : Nat → Int32} : ColOk us f 0 := fun i h => absurd h (Nat.not_lt_zero i)
theorem col_down {us : Int32} {f g : Nat → Int32} {m n : Nat} (h : ColOk us f m) (hm : n ≤ m) (ha : ∀ i, i < n → g i = f i) : ColOk us g n := by
  intro i hi
  rw [ha i hi]; exact h i (by omega)
theorem col_yes {us : Int32} {f g : Nat → Int32} {m n q : Nat} (h : ColOk us f m) (hm : n ≤ m) (ha : ∀ i, i < n → g i = f i) (b : uB us n) (e : g n = nI q) (h8 : q ≤ 8) (hq : q ≤ n) : ColOk us g (n + 1) := by
  intro i hi
  by_cases z : i = n
  · subst z; exact ⟨fun _ => ⟨q, h8, hq, e⟩, fun nb => absurd b nb⟩
  · exact col_down h hm ha i (by omega)
theorem col_no {us : Int32} {f g : Nat → Int32} {m n : Nat} (h : ColOk us f m) (hm : n ≤ m) (ha : ∀ i, i < n → g i = f i) (b : ¬ uB us n) (e : g n = -6) : ColOk us g (n + 1) := by
  intro i hi
  by_cases z : i = n
  · subst z; exact ⟨fun y => absurd y b, fun _ => e⟩
  · exact col_down h hm ha i (by omega)
def GaP (f : Nat → Int32) (n : Nat) (r : Int32) : Prop := -1 ≤ r.toInt ∧ (∀ i, i < n → (f i).toInt ≤ r.toInt) ∧ (r.toInt = -1 ∨ ∃ i, i < n ∧ (f i).toInt = r.toInt)
theorem ga_0 {f : Nat → Int32} : GaP f 0 (-1) := ⟨by decide, fun i h => absurd h (Nat.not_lt_zero i), Or.inl (by decide)⟩
theorem ga_more {f : Nat → Int32} {n : Nat} {r : Int32} (h : GaP f n r) (hv : r.toInt < (f n).toInt) : GaP f (n + 1) (f n) := by
  refine ⟨by have := h.1; omega, fun i hi => ?_, Or.inr ⟨n, by omega, rfl⟩⟩
  by_cases z : i = n
  · subst z; exact Int.le_refl _
  · have := h.2.1 i (by omega); omega
theorem ga_same {f : Nat → Int32} {n : Nat} {r : Int32} (h : GaP f n r) (hv : (f n).toInt ≤ r.toInt) : GaP f (n + 1) r := by
  refine ⟨h.1, fun i hi => ?_, h.2.2.imp id (fun ⟨i, h1, h2⟩ => ⟨i, by omega, h2⟩)⟩
  by_cases z : i = n
  · subst z; exact hv
  · exact h.2.1 i (by omega)
theorem ga_le {us r : Int32} {f g : Nat → Int32} {m n : Nat} (h : ColOk us f m) (hm : n ≤ m) (ha : ∀ i, i < n → g i = f i) (hg : GaP g n r) : r.toInt + 1 ≤ (n : Int) := by
  rcases hg.2.2 with q | ⟨i, h1, h2⟩
  · omega
  · rw [ha i h1] at h2
    by_cases b : uB us i
    · obtain ⟨q, _, h3, e⟩ := (h i (by omega)).1 b
      rw [e, nI_toInt (by omega)] at h2; omega
    · rw [(h i (by omega)).2 b] at h2
      have : Int32.toInt (-6) = -6 := by decide
      omega
theorem fr_lt {f : Nat → Int32} {n q : Nat} {r : Int32} (hg : GaP f n r) (hx : ∃ i, i < n ∧ f i = f n) (e : f n = nI q) (hq : q ≤ 10) : (q : Int) < r.toInt + 1 := by
  obtain ⟨i, h1, h2⟩ := hx
  have := hg.2.1 i h1
  rw [h2, e, nI_toInt (by omega)] at this
  omega
theorem ga_cong {f g : Nat → Int32} {n : Nat} {r : Int32} (h : GaP f n r) (ha : ∀ i, i < n → g i = f i) : GaP g n r :=
  ⟨h.1, fun i hi => by rw [ha i hi]; exact h.2.1 i hi, h.2.2.imp id (fun ⟨i, h1, h2⟩ => ⟨i, h1, by rw [ha i h1]; exact h2⟩)⟩
theorem ag_upd {f g : Nat → Int32} {n k : Nat} {x : Int32} (hk : n ≤ k) (e : g = upd f k x) : ∀ i, i < n → g i = f i := fun i hi => by rw [e, pk_un (by omega)]
theorem ag_tr {f g h : Nat → Int32} {n : Nat} (h1 : ∀ i, i < n → g i = f i) (h2 : ∀ i, i < n → h i = g i) : ∀ i, i < n → h i = f i := fun i hi => (h2 i hi).trans (h1 i hi)
theorem ga_u {f : Nat → Int32} : ∀ {n : Nat}, (∀ i, i < n → (f i).toInt + 1 ≤ (uN f n : Int)) ∧ (uN f n = 0 ∨ ∃ i, i < n ∧ (f i).toInt + 1 = (uN f n : Int))
  | 0 => ⟨fun i h => absurd h (Nat.not_lt_zero i), Or.inl rfl⟩
  | n + 1 => by
    obtain ⟨h1, h2⟩ := ga_u (f := f) (n := n)
    have e : uN f (n + 1) = if (uN f n : Int) < (f n).toInt + 1 then ((f n).toInt + 1).toNat else uN f n := rfl
    by_cases z : (uN f n : Int) < (f n).toInt + 1
    · rw [if_pos z] at e
      refine ⟨fun i hi => ?_, Or.inr ⟨n, by omega, by omega⟩⟩
      by_cases w : i = n
      · subst w; omega
      · have := h1 i (by omega); omega
    · rw [if_neg z] at e
      rw [e]
      refine ⟨fun i hi => ?_, h2.imp id (fun ⟨i, a, b⟩ => ⟨i, by omega, b⟩)⟩
      by_cases w : i = n
      · subst w; omega
      · exact h1 i (by omega)
theorem ga_uu {f g : Nat → Int32} {n : Nat} {r : Int32} (h : GaP g n r) (ha : ∀ i, i < n → g i = f i) : r.toInt + 1 = (uN f n : Int) := by
  obtain ⟨a1, a2⟩ := ga_u (f := f) (n := n)
  obtain ⟨b1, b2, b3⟩ := h
  have le : r.toInt + 1 ≤ (uN f n : Int) := by
    rcases b3 with q | ⟨i, i1, i2⟩
    · omega
    · have := a1 i i1
      rw [ha i i1] at i2; omega
  rcases a2 with q | ⟨i, i1, i2⟩
  · omega
  · have := b2 i i1
    rw [ha i i1] at this; omega
theorem ex_w {f : Nat → Int32} {x : Int32} {n : Nat} (h : ∃ o, o < n ∧ bt x o = true ∧ f o = f n) : ∃ i, i < n ∧ f i = f n := by
  obtain ⟨o, h1, _, h3⟩ := h; exact ⟨o, h1, h3⟩
/-- the reference's isFree, half way -/
def FrX (x : Int32) (f : Nat → Int32) (n k : Nat) (w : Int32) : Prop := (w = 1 ∧ ∀ o, o < k → bt x o = true → ¬ f o = f n) ∨ (w = 0 ∧ ∃ o, o < n ∧ bt x o = true ∧ f o = f n)
theorem fq_0 {x : Int32} {f : Nat → Int32} {n : Nat} : FrX x f n 0 1 := Or.inl ⟨rfl, fun o ho => absurd ho (Nat.not_lt_zero o)⟩
theorem fq_keep {x w : Int32} {f : Nat → Int32} {n k : Nat} (h : FrX x f n k w) (hw : w = 0) : FrX x f n (k + 1) 0 := by
  rcases h with h | h
  · exact absurd (h.1.symm.trans hw) (by decide)
  · exact Or.inr ⟨rfl, h.2⟩
theorem fq_hit {x w : Int32} {f : Nat → Int32} {n k : Nat} (h : FrX x f n k w) (hk : k < n) (hb : bt x k = true) (e : f k = f n) : FrX x f n (k + 1) 0 := Or.inr ⟨rfl, k, hk, hb, e⟩
theorem fq_no {x w : Int32} {f : Nat → Int32} {n k : Nat} (h : FrX x f n k w) (hw : ¬ w = 0) (hb : bt x k = false) : FrX x f n (k + 1) 1 := by
  rcases h with h | h
  · exact Or.inl ⟨rfl, fe_no h.2 hb⟩
  · exact absurd h.1 hw
theorem fq_ne {x w : Int32} {f : Nat → Int32} {n k : Nat} (h : FrX x f n k w) (hw : ¬ w = 0) (hb : ¬ f k = f n) : FrX x f n (k + 1) 1 := by
  rcases h with h | h
  · exact Or.inl ⟨rfl, fe_ne h.2 hb⟩
  · exact absurd h.1 hw
theorem fq_end {x w : Int32} {f : Nat → Int32} {n k : Nat} (h : FrX x f n k w) (hk : k = n) : (w = 1 ∧ ∀ o, o < n → bt x o = true → ¬ f o = f n) ∨ (w = 0 ∧ ∃ o, o < n ∧ bt x o = true ∧ f o = f n) := by
  subst hk; exact h
