/-! THE TABLE's rows pushed into one another -/
def vioB (s : Nat → Int32) (b : Int32) (p : Nat) : Nat → Bool := fun n => bt b n && !decide (s (p + n) = -6)
def opP (s : Nat → Int32) (b : Int32) (p : Nat) : Prop := ∀ n, n < 8 → vioB s b p n = false
def viP (s : Nat → Int32) (b : Int32) (p : Nat) : Prop := ∃ n, n < 8 ∧ vioB s b p n = true
theorem vi_op {s : Nat → Int32} {b : Int32} {p : Nat} (h : viP s b p) : ¬ opP s b p := fun q => by
  obtain ⟨n, h1, h2⟩ := h
  rw [q n h1] at h2; exact absurd h2 (by decide)
theorem op_no {s : Nat → Int32} {b : Int32} {p k : Nat} (h : ∀ n, n < k → vioB s b p n = false) (hb : bt b k = false) : ∀ n, n < k + 1 → vioB s b p n = false := by
  intro n hn
  by_cases z : n = k
  · subst z; unfold vioB; rw [hb, Bool.false_and]
  · exact h n (by omega)
theorem op_free {s : Nat → Int32} {b : Int32} {p k : Nat} (h : ∀ n, n < k → vioB s b p n = false) (hs : s (p + k) = -6) : ∀ n, n < k + 1 → vioB s b p n = false := by
  intro n hn
  by_cases z : n = k
  · subst z; unfold vioB; rw [hs, decide_eq_true rfl, Bool.not_true, Bool.and_false]
  · exact h n (by omega)
theorem vi_at {s : Nat → Int32} {b : Int32} {p k : Nat} (hb : bt b k = true) (hs : ¬ s (p + k) = -6) : vioB s b p k = true := by
  unfold vioB; rw [hb, decide_eq_false hs]; rfl
noncomputable def opC (s : Nat → Int32) (b : Int32) : Nat → Bool := fun p => @decide (opP s b p) (Classical.propDecidable _)
noncomputable def lpN (s : Nat → Int32) (b : Int32) : Nat := if fnd (opC s b) 0 92 = -6 then 92 else (fnd (opC s b) 0 92).toNatClampNeg
def LpP (s : Nat → Int32) (b : Int32) (q : Nat) : Prop := q ≤ 92 ∧ (q < 92 → opP s b q) ∧ ∀ p, p < q → viP s b p
theorem lp_uni {s : Nat → Int32} {b : Int32} {q : Nat} (h : LpP s b q) : q = lpN s b := by
  unfold lpN
  rcases fnd_cases (opC s b) 92 0 with ⟨h1, h2⟩ | ⟨x, h1, _, h3, h4, h5⟩
  · rw [if_pos h1]
    rcases Nat.lt_or_ge q 92 with z | z
    · have := h2 q (by omega) (by omega)
      exact absurd (h.2.1 z) (@of_decide_eq_false _ (Classical.propDecidable _) this)
    · have := h.1; omega
  · rw [h1, if_neg (nI_ne6 (by omega)), nI_clamp (by omega)]
    have ox : opP s b x := @of_decide_eq_true _ (Classical.propDecidable _) h4
    rcases Nat.lt_trichotomy q x with c | c | c
    · have := h5 q (by omega) c
      exact absurd (h.2.1 (by omega)) (@of_decide_eq_false _ (Classical.propDecidable _) this)
    · exact c
    · exact absurd ox (vi_op (h.2.2 x c))
def psK (s : Nat → Int32) (b : Int32) (p kd k : Nat) : Nat → Int32 := fun j => if (p ≤ j ∧ j < p + k) ∧ bt b (j - p) = true then nI (10 * kd + (j - p)) else s j
theorem ps_0 {s : Nat → Int32} {b : Int32} {p kd : Nat} : s = psK s b p kd 0 := by funext j; unfold psK; rw [if_neg (by omega)]
theorem ps_no {s x : Nat → Int32} {b : Int32} {p kd k : Nat} (h : x = psK s b p kd k) (hb : bt b k = false) : x = psK s b p kd (k + 1) := by
  rw [h]
  funext j
  unfold psK
  by_cases z : (p ≤ j ∧ j < p + k) ∧ bt b (j - p) = true
  · rw [if_pos z, if_pos ⟨by omega, z.2⟩]
  · rw [if_neg z]
    by_cases y : j = p + k
    · subst y; rw [if_neg (fun q => by rw [Nat.add_sub_cancel_left, hb] at q; exact absurd q.2 (by decide))]
    · rw [if_neg (fun q => z ⟨by omega, q.2⟩)]
theorem ps_yes {s x g : Nat → Int32} {b : Int32} {p kd k : Nat} (h : x = psK s b p kd k) (hb : bt b k = true) (e : g = upd x (p + k) (nI (10 * kd + k))) : g = psK s b p kd (k + 1) := by
  rw [e, h]
  funext j
  by_cases y : j = p + k
  · subst y
    rw [pk_us]; unfold psK
    rw [if_pos ⟨by omega, by rw [Nat.add_sub_cancel_left]; exact hb⟩, Nat.add_sub_cancel_left]
  · rw [pk_un y]
    unfold psK
    by_cases z : (p ≤ j ∧ j < p + k) ∧ bt b (j - p) = true
    · rw [if_pos z, if_pos ⟨by omega, z.2⟩]
    · rw [if_neg z, if_neg (fun q => z ⟨by omega, q.2⟩)]
def enF (b : Int32) (p : Nat) : Nat → Nat
  | 0 => 0
  | k + 1 => if bt b k = true then p + k + 1 else enF b p k
theorem en_t {b : Int32} {p k : Nat} (hb : bt b k = true) : p + k + 1 = enF b p (k + 1) := (if_pos hb).symm
theorem en_f {b : Int32} {p k c : Nat} (h : c = enF b p k) (hb : bt b k = false) : c = enF b p (k + 1) := by rw [h]; exact (if_neg (by rw [hb]; decide)).symm
theorem en_le {b : Int32} {p : Nat} : ∀ {k : Nat}, enF b p k ≤ p + k
  | 0 => by show 0 ≤ p + 0; omega
  | k + 1 => by
    have ih := en_le (b := b) (p := p) (k := k)
    show (if bt b k = true then p + k + 1 else enF b p k) ≤ p + (k + 1)
    split <;> omega
def mxN (a b : Nat) : Nat := if a < b then b else a
theorem mx_or (a b : Nat) : (a < b ∧ mxN a b = b) ∨ (b ≤ a ∧ mxN a b = a) := by
  unfold mxN
  by_cases h : a < b
  · exact Or.inl ⟨h, if_pos h⟩
  · exact Or.inr ⟨by omega, if_neg h⟩
theorem mx_en {b : Int32} {p k l x : Nat} (h : x = mxN l (enF b p k)) (hb : bt b k = true) : (if x < p + k + 1 then p + k + 1 else x) = mxN l (enF b p (k + 1)) := by
  have e : enF b p (k + 1) = p + k + 1 := if_pos hb
  have := en_le (b := b) (p := p) (k := k)
  rw [e]
  rcases mx_or l (enF b p k) with q | q <;> rcases mx_or l (p + k + 1) with z | z <;> split <;> omega
noncomputable def pkF (s0 p0 rows : Nat → Int32) : Nat → (Nat → Int32) × (Nat → Int32) × Nat
  | 0 => (s0, p0, 0)
  | k + 1 => if rows k = 0 then ((pkF s0 p0 rows k).1, upd (pkF s0 p0 rows k).2.1 k (-6), (pkF s0 p0 rows k).2.2) else (psK (pkF s0 p0 rows k).1 (rows k) (lpN (pkF s0 p0 rows k).1 (rows k)) k 8, upd (pkF s0 p0 rows k).2.1 k (nI (lpN (pkF s0 p0 rows k).1 (rows k))), mxN (pkF s0 p0 rows k).2.2 (enF (rows k) (lpN (pkF s0 p0 rows k).1 (rows k)) 8))
theorem pk_no {s0 p0 rows s p p2 : Nat → Int32} {k l : Nat} (h : (s, p, l) = pkF s0 p0 rows k) (hr : rows k = 0) (e : p2 = upd p k (-6)) : (s, p2, l) = pkF s0 p0 rows (k + 1) := by
  have : pkF s0 p0 rows (k + 1) = ((pkF s0 p0 rows k).1, upd (pkF s0 p0 rows k).2.1 k (-6), (pkF s0 p0 rows k).2.2) := if_pos hr
  rw [this, ← h, e]
theorem pk_yes {s0 p0 rows s p s2 p2 : Nat → Int32} {k l q l2 : Nat} (h : (s, p, l) = pkF s0 p0 rows k) (hr : ¬ rows k = 0) (hq : LpP s (rows k) q) (es : s2 = psK s (rows k) q k 8) (ep : p2 = upd p k (nI q)) (el : l2 = mxN l (enF (rows k) q 8)) : (s2, p2, l2) = pkF s0 p0 rows (k + 1) := by
  have : pkF s0 p0 rows (k + 1) = (psK (pkF s0 p0 rows k).1 (rows k) (lpN (pkF s0 p0 rows k).1 (rows k)) k 8, upd (pkF s0 p0 rows k).2.1 k (nI (lpN (pkF s0 p0 rows k).1 (rows k))), mxN (pkF s0 p0 rows k).2.2 (enF (rows k) (lpN (pkF s0 p0 rows k).1 (rows k)) 8)) := if_neg hr
  rw [this, ← h, es, ep, el]
  show _ = (psK s (rows k) (lpN s (rows k)) k 8, upd p k (nI (lpN s (rows k))), mxN l (enF (rows k) (lpN s (rows k)) 8))
  rw [← lp_uni hq]
def fiK (f : Nat → Int32) (k : Nat) : Nat → Int32 := fun j => if j < k then -6 else f j
theorem fi_0 {f : Nat → Int32} : f = fiK f 0 := by funext j; unfold fiK; rw [if_neg (Nat.not_lt_zero j)]
theorem fi_step {f x g : Nat → Int32} {k : Nat} (h : x = fiK f k) (e : g = upd x k (-6)) : g = fiK f (k + 1) := by
  rw [e, h]
  funext j
  by_cases y : j = k
  · subst y; rw [pk_us]; unfold fiK; rw [if_pos (by omega)]
  · rw [pk_un y]; unfold fiK
    by_cases z : j < k
    · rw [if_pos z, if_pos (by omega)]
    · rw [if_neg z, if_neg (by omega)]
/-- two packings of like rows -/
theorem op_ag {s t : Nat → Int32} {b : Int32} {p : Nat} (h : ∀ j, j < 100 → s j = t j) (hp : p ≤ 92) : opP s b p ↔ opP t b p := by
  have e : ∀ n, n < 8 → vioB s b p n = vioB t b p n := fun n hn => by unfold vioB; rw [h (p + n) (by omega)]
  exact ⟨fun q n hn => by rw [← e n hn]; exact q n hn, fun q n hn => by rw [e n hn]; exact q n hn⟩
theorem lp_ag {s t : Nat → Int32} {b : Int32} (h : ∀ j, j < 100 → s j = t j) : lpN s b = lpN t b := by
  have e : fnd (opC s b) 0 92 = fnd (opC t b) 0 92 := fnd_congr (fun j _ h2 => by
    unfold opC
    have q := op_ag (b := b) h (show j ≤ 92 by omega)
    by_cases z : opP s b j
    · rw [@decide_eq_true _ (Classical.propDecidable _) z, @decide_eq_true _ (Classical.propDecidable _) (q.mp z)]
    · rw [@decide_eq_false _ (Classical.propDecidable _) z, @decide_eq_false _ (Classical.propDecidable _) (fun y => z (q.mpr y))])
  unfold lpN; rw [e]
theorem pk_ag {s0 t0 p0 q0 rows rows' : Nat → Int32} {m : Nat} (h0 : ∀ j, j < 100 → s0 j = t0 j) (hr : ∀ k, k < m → rows k = rows' k) : ∀ k, k ≤ m → (∀ j, j < 100 → (pkF s0 p0 rows k).1 j = (pkF t0 q0 rows' k).1 j) ∧ (∀ j, j < k → (pkF s0 p0 rows k).2.1 j = (pkF t0 q0 rows' k).2.1 j) ∧ (pkF s0 p0 rows k).2.2 = (pkF t0 q0 rows' k).2.2
  | 0, _ => ⟨h0, fun j hj => absurd hj (Nat.not_lt_zero j), rfl⟩
  | k + 1, hk => by
    obtain ⟨i1, i2, i3⟩ := pk_ag (p0 := p0) (q0 := q0) h0 hr k (by omega)
    have e := hr k (by omega)
    by_cases z : rows k = 0
    · have a1 : pkF s0 p0 rows (k + 1) = ((pkF s0 p0 rows k).1, upd (pkF s0 p0 rows k).2.1 k (-6), (pkF s0 p0 rows k).2.2) := if_pos z
      have a2 : pkF t0 q0 rows' (k + 1) = ((pkF t0 q0 rows' k).1, upd (pkF t0 q0 rows' k).2.1 k (-6), (pkF t0 q0 rows' k).2.2) := if_pos (by rw [← e]; exact z)
      rw [a1, a2]
      refine ⟨i1, fun j hj => ?_, i3⟩
      show upd _ k (-6) j = upd _ k (-6) j
      by_cases y : j = k
      · subst y; rw [pk_us, pk_us]
      · rw [pk_un y, pk_un y]; exact i2 j (by omega)
    · have a1 : pkF s0 p0 rows (k + 1) = (psK (pkF s0 p0 rows k).1 (rows k) (lpN (pkF s0 p0 rows k).1 (rows k)) k 8, upd (pkF s0 p0 rows k).2.1 k (nI (lpN (pkF s0 p0 rows k).1 (rows k))), mxN (pkF s0 p0 rows k).2.2 (enF (rows k) (lpN (pkF s0 p0 rows k).1 (rows k)) 8)) := if_neg z
      have a2 : pkF t0 q0 rows' (k + 1) = (psK (pkF t0 q0 rows' k).1 (rows' k) (lpN (pkF t0 q0 rows' k).1 (rows' k)) k 8, upd (pkF t0 q0 rows' k).2.1 k (nI (lpN (pkF t0 q0 rows' k).1 (rows' k))), mxN (pkF t0 q0 rows' k).2.2 (enF (rows' k) (lpN (pkF t0 q0 rows' k).1 (rows' k)) 8)) := if_neg (by rw [← e]; exact z)
      have el := lp_ag (b := rows k) i1
      rw [a1, a2, ← e, ← el, ← i3]
      refine ⟨fun j hj => ?_, fun j hj => ?_, rfl⟩
      · show psK _ _ _ _ _ j = psK _ _ _ _ _ j
        unfold psK
        rw [i1 j hj]
      · show upd _ k _ j = upd _ k _ j
        by_cases y : j = k
        · subst y; rw [pk_us, pk_us]
        · rw [pk_un y, pk_un y]; exact i2 j (by omega)
theorem pk_tail {s0 p0 rows : Nat → Int32} {m M : Nat} (hr : ∀ k, m ≤ k → k < M → rows k = 0) : ∀ d, m + d ≤ M → (pkF s0 p0 rows (m + d)).1 = (pkF s0 p0 rows m).1 ∧ (pkF s0 p0 rows (m + d)).2.2 = (pkF s0 p0 rows m).2.2 ∧ ∀ j, j < m → (pkF s0 p0 rows (m + d)).2.1 j = (pkF s0 p0 rows m).2.1 j
  | 0, _ => ⟨rfl, rfl, fun _ _ => rfl⟩
  | d + 1, hd => by
    obtain ⟨i1, i2, i3⟩ := pk_tail (s0 := s0) (p0 := p0) hr d (by omega)
    have a : pkF s0 p0 rows (m + d + 1) = ((pkF s0 p0 rows (m + d)).1, upd (pkF s0 p0 rows (m + d)).2.1 (m + d) (-6), (pkF s0 p0 rows (m + d)).2.2) := if_pos (hr (m + d) (by omega) (by omega))
    show (pkF s0 p0 rows (m + d + 1)).1 = _ ∧ (pkF s0 p0 rows (m + d + 1)).2.2 = _ ∧ ∀ j, j < m → (pkF s0 p0 rows (m + d + 1)).2.1 j = _
    rw [a]
    refine ⟨i1, i2, fun j hj => ?_⟩
    show upd _ (m + d) (-6) j = _
    rw [pk_un (by omega)]; exact i3 j hj
/-- THE TABLE's rows -/
def rowC (fle fli fo : Nat → Int32) (cn : Nat) (bb : Int32) : Nat → Int32 := fun k => if 0 < lenN fle cn (nI k) ∧ ¬ bt bb k = true then bitsF (fun n => decide (¬ ansF fle fli cn k (fo n) 0 = -6)) 8 else 0
def rowM (fll fln fnm fib : Nat → Int32) : Nat → Int32 := fun k => if 0 < (fll k).toNatClampNeg ∧ fib k = 0 then bitsF (fun n => decide (¬ plM fll fln fnm k n 0 = -6)) 8 else 0
def F_packed (cn len : Nat) (pu : Nat → Int32) (n : Int32) : Int32 := if n.toInt = -1 then nI len else if 0 ≤ n.toInt ∧ n.toInt < (cn : Int) then pu n.toNatClampNeg else -1
def F_slot (s : Nat → Int32) (n : Int32) : Int32 := if 0 ≤ n.toInt ∧ n.toInt ≤ 99 then s n.toNatClampNeg else -2
theorem lp_is {s : Nat → Int32} {b : Int32} : LpP s b (lpN s b) := by
  have vi : ∀ p, opC s b p = false → viP s b p := fun p h => by
    have h := @of_decide_eq_false _ (Classical.propDecidable _) h
    rcases Classical.em (viP s b p) with q | q
    · exact q
    · exact absurd (fun n hn => bF (fun z => q ⟨n, hn, z⟩)) h
  unfold lpN
  rcases fnd_cases (opC s b) 92 0 with ⟨h1, h2⟩ | ⟨x, h1, _, h3, h4, h5⟩
  · rw [if_pos h1]; exact ⟨Nat.le_refl _, fun q => absurd q (by omega), fun p hp => vi p (h2 p (by omega) (by omega))⟩
  · rw [h1, if_neg (nI_ne6 (by omega)), nI_clamp (by omega)]
    exact ⟨by omega, fun _ => @of_decide_eq_true _ (Classical.propDecidable _) h4, fun p hp => vi p (h5 p (by omega) hp)⟩
theorem pk_3 {A B : Type} {a : A} {b : B} {c : Nat} {t : A × B × Nat} (h : (a, b, c) = t) : a = t.1 ∧ b = t.2.1 ∧ c = t.2.2 := by subst h; exact ⟨rfl, rfl, rfl⟩
theorem pq_le {s0 p0 rows : Nat → Int32} : ∀ {k : Nat}, (pkF s0 p0 rows k).2.2 ≤ 100
  | 0 => by show 0 ≤ 100; omega
  | k + 1 => by
    have ih := pq_le (s0 := s0) (p0 := p0) (rows := rows) (k := k)
    by_cases z : rows k = 0
    · have a : pkF s0 p0 rows (k + 1) = ((pkF s0 p0 rows k).1, upd (pkF s0 p0 rows k).2.1 k (-6), (pkF s0 p0 rows k).2.2) := if_pos z
      rw [a]; exact ih
    · have a : pkF s0 p0 rows (k + 1) = (psK (pkF s0 p0 rows k).1 (rows k) (lpN (pkF s0 p0 rows k).1 (rows k)) k 8, upd (pkF s0 p0 rows k).2.1 k (nI (lpN (pkF s0 p0 rows k).1 (rows k))), mxN (pkF s0 p0 rows k).2.2 (enF (rows k) (lpN (pkF s0 p0 rows k).1 (rows k)) 8)) := if_neg z
      rw [a]
      show mxN _ _ ≤ 100
      have h1 := (lp_is (s := (pkF s0 p0 rows k).1) (b := rows k)).1
      have h2 := en_le (b := rows k) (p := lpN (pkF s0 p0 rows k).1 (rows k)) (k := 8)
      rcases mx_or (pkF s0 p0 rows k).2.2 (enF (rows k) (lpN (pkF s0 p0 rows k).1 (rows k)) 8) with q | q <;> omega
theorem al_step {s : Nat → Int32} {b : Int32} {k : Nat} (h : ∀ p, p < k → viP s b p) (hv : viP s b k) : ∀ p, p < k + 1 → viP s b p := fun p hp => by
  by_cases z : p = k
  · subst z; exact hv
  · exact h p (by omega)
theorem row_bit {x f g : Nat → Int32} {P : Nat → Bool} {k j : Nat} (h : f = upd x k (bitsF P j)) (hp : P j = true) (e : g = upd f k (f k ||| ((1 : Int32) <<< (nI j &&& 31)))) : g = upd x k (bitsF P (j + 1)) := by
  rw [e, h, pk_us, upd_upd, bits_t hp]
theorem row_no {x f : Nat → Int32} {P : Nat → Bool} {k j : Nat} (h : f = upd x k (bitsF P j)) (hp : P j = false) : f = upd x k (bitsF P (j + 1)) := by rw [h, bits_f hp]
theorem ro_set {x f R : Nat → Int32} {k : Nat} {v : Int32} (h : ∀ i, i < k → x i = R i) (e : f = upd x k v) (hv : v = R k) : ∀ i, i < k + 1 → f i = R i := fun i hi => by
  by_cases z : i = k
  · subst z; rw [e, pk_us]; exact hv
  · rw [e, pk_un z]; exact h i (by omega)
/-- the reference's test of a place -/
def OpQ (s : Nat → Int32) (b : Int32) (p k : Nat) (w : Int32) : Prop := (w = 1 ∧ ∀ n, n < k → vioB s b p n = false) ∨ (w = 0 ∧ viP s b p)
theorem oq_b {s : Nat → Int32} {b : Int32} {p k : Nat} {w : Int32} (h : OpQ s b p k w) : w = 0 ∨ w = 1 := h.elim (fun q => Or.inr q.1) (fun q => Or.inl q.1)
theorem oq_keep {s : Nat → Int32} {b : Int32} {p k k2 : Nat} {w : Int32} (h : OpQ s b p k w) (h0 : w = 0) : OpQ s b p k2 0 := by
  rcases h with q | q
  · rw [h0] at q; exact absurd q.1 (by decide)
  · exact Or.inr ⟨rfl, q.2⟩
theorem oq_all {s : Nat → Int32} {b : Int32} {p k : Nat} {w : Int32} (h : OpQ s b p k w) (h0 : ¬ w = 0) : ∀ n, n < k → vioB s b p n = false := by
  rcases h with q | q
  · exact q.2
  · exact absurd q.1 h0
noncomputable def pkl (R : Nat → Int32) (n : Nat) : Nat := (pkF (fun _ => -6) (fun _ => 0) R n).2.2
noncomputable def pkp (R : Nat → Int32) (n : Nat) : Nat → Int32 := (pkF (fun _ => -6) (fun _ => 0) R n).2.1
noncomputable def pks (R : Nat → Int32) (n : Nat) : Nat → Int32 := (pkF (fun _ => -6) (fun _ => 0) R n).1
theorem pk_std {f p rows R : Nat → Int32} {n : Nat} (h : ∀ k, k < n → rows k = R k) : (pkF (fiK f 100) p rows n).2.2 = pkl R n ∧ (∀ j, j < n → (pkF (fiK f 100) p rows n).2.1 j = pkp R n j) ∧ ∀ j, j < 100 → (pkF (fiK f 100) p rows n).1 j = pks R n j := by
  obtain ⟨h1, h2, h3⟩ := pk_ag (s0 := fiK f 100) (t0 := fun _ => -6) (p0 := p) (q0 := fun _ => 0) (rows := rows) (rows' := R) (m := n) (fun j hj => if_pos hj) h n (Nat.le_refl _)
  exact ⟨h3, h2, h1⟩
theorem pk_rel {R S : Nat → Int32} {cn m : Nat} (hm : cn ≤ m) (h : ∀ k, k < cn → R k = S k) (h0 : ∀ k, cn ≤ k → k < m → R k = 0) : pkl R m = pkl S cn ∧ (∀ j, j < cn → pkp R m j = pkp S cn j) ∧ ∀ j, j < 100 → pks R m j = pks S cn j := by
  obtain ⟨a1, a2, a3⟩ := pk_tail (s0 := fun _ => -6) (p0 := fun _ => 0) h0 (m - cn) (by omega)
  rw [show cn + (m - cn) = m from (by omega)] at a1 a2 a3
  obtain ⟨b1, b2, b3⟩ := pk_ag (s0 := fun _ => -6) (t0 := fun _ => -6) (p0 := fun _ => 0) (q0 := fun _ => 0) (rows := R) (rows' := S) (m := cn) (fun _ _ => rfl) h cn (Nat.le_refl _)
  refine ⟨a2.trans b3, fun j hj => (a3 j hj).trans (b2 j hj), fun j hj => ?_⟩
  show (pkF (fun _ => -6) (fun _ => 0) R m).1 j = _
  rw [a1]; exact b1 j hj
theorem ab_row {P : Nat → Bool} {ac : Int32} {k : Nat} {C : Prop} {D : Decidable C} (h : ac = bitsF P k) (hz : k = 0 ∨ C) (hx : 8 ≤ k ∨ ¬ C) (hk : k ≤ 8) : ac = @ite Int32 C D (bitsF P 8) 0 := by
  by_cases c : C
  · rw [if_pos c, h, show k = 8 from (by rcases hx with q | q; omega; exact absurd c q)]
  · rw [if_neg c, h, show k = 0 from hz.resolve_right c]; rfl
