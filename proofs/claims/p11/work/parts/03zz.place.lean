/-! PLACES: the KINDS remembered, by how long ago -/
def SzOk (f : Nat → Int32) : Prop := ∀ k, k < 4 → ∃ q : Nat, (1 ≤ q ∧ q ≤ 4) ∧ f k = nI q
def pfF (f : Nat → Int32) (x : Int32) (a : Nat) : Nat → Int32 := fun j => if j = 0 then x else if j ≤ a then f (j - 1) else f j
def sfF (f : Nat → Int32) (a i : Nat) : Nat → Int32 := fun j => if i < j ∧ j ≤ a then f (j - 1) else f j
theorem sf_0 {f : Nat → Int32} {a : Nat} : f = sfF f a a := by funext j; unfold sfF; rw [if_neg (by omega)]
theorem sf_step {f g g2 : Nat → Int32} {a i : Nat} (h : g = sfF f a i) (hi : 1 ≤ i) (hia : i ≤ a) (e : g2 = upd g i (g (i - 1))) : g2 = sfF f a (i - 1) := by
  rw [e, h]
  funext j
  by_cases q : j = i
  · subst q; rw [pk_us]; unfold sfF; rw [if_neg (by omega), if_pos (by omega)]
  · rw [pk_un q]
    unfold sfF
    by_cases z : i < j ∧ j ≤ a
    · rw [if_pos z, if_pos (by omega)]
    · rw [if_neg z, if_neg (by omega)]
theorem sf_end {f g g2 : Nat → Int32} {a : Nat} {x : Int32} (h : g = sfF f a 0) (e : g2 = upd g 0 x) : g2 = pfF f x a := by
  rw [e, h]
  funext j
  unfold pfF
  by_cases q : j = 0
  · subst q; rw [pk_us, if_pos rfl]
  · rw [pk_un q, if_neg q]
    unfold sfF
    by_cases z : j ≤ a
    · rw [if_pos (by omega), if_pos z]
    · rw [if_neg (by omega), if_neg z]
def recB (f : Nat → Int32) (x : Int32) : Nat → Bool := fun i => decide (f i = x)
def stC (sq : Nat) (x : Int32) (s : Nat × (Nat → Int32) × Nat) : Nat × (Nat → Int32) × Nat :=
  if fnd (recB s.2.1 x) 0 s.1 = -6 then (if s.1 < sq then (s.1 + 1, pfF s.2.1 x s.1, s.2.2) else (s.1, pfF s.2.1 x (s.1 - 1), s.2.2)) else (s.1, pfF s.2.1 x (fnd (recB s.2.1 x) 0 s.1).toNatClampNeg, s.2.2 + 1)
def lruC (fp fk : Nat → Int32) (n : Int32) (sq : Nat) (f0 : Nat → Int32) : Nat → Nat × (Nat → Int32) × Nat
  | 0 => (0, f0, 0)
  | k + 1 => if fp k = n then stC sq (fk k) (lruC fp fk n sq f0 k) else lruC fp fk n sq f0 k
theorem lc_skip {fp fk f0 f : Nat → Int32} {n : Int32} {sq k m h : Nat} (hl : (m, f, h) = lruC fp fk n sq f0 k) (hn : ¬ fp k = n) : (m, f, h) = lruC fp fk n sq f0 (k + 1) := hl.trans (if_neg hn).symm
theorem lc_hit {fp fk f0 f f2 : Nat → Int32} {n : Int32} {sq k m h q : Nat} (hl : (m, f, h) = lruC fp fk n sq f0 k) (hp : fp k = n) (hq : nI q = fnd (recB f (fk k)) 0 m) (h31 : q < 2 ^ 31) (e : f2 = pfF f (fk k) q) : (m, f2, h + 1) = lruC fp fk n sq f0 (k + 1) := by
  show _ = if fp k = n then stC sq (fk k) (lruC fp fk n sq f0 k) else lruC fp fk n sq f0 k
  rw [if_pos hp, ← hl]
  unfold stC
  show _ = if fnd (recB f (fk k)) 0 m = -6 then _ else (m, pfF f (fk k) (fnd (recB f (fk k)) 0 m).toNatClampNeg, h + 1)
  rw [← hq, if_neg (nI_ne6 h31), nI_clamp h31, e]
theorem lc_new {fp fk f0 f f2 : Nat → Int32} {n : Int32} {sq k m h : Nat} (hl : (m, f, h) = lruC fp fk n sq f0 k) (hp : fp k = n) (hq : -6 = fnd (recB f (fk k)) 0 m) (hm : m < sq) (e : f2 = pfF f (fk k) m) : (m + 1, f2, h) = lruC fp fk n sq f0 (k + 1) := by
  show _ = if fp k = n then stC sq (fk k) (lruC fp fk n sq f0 k) else lruC fp fk n sq f0 k
  rw [if_pos hp, ← hl]
  unfold stC
  show _ = if fnd (recB f (fk k)) 0 m = -6 then (if m < sq then (m + 1, pfF f (fk k) m, h) else (m, pfF f (fk k) (m - 1), h)) else _
  rw [if_pos hq.symm, if_pos hm, e]
theorem lc_old {fp fk f0 f f2 : Nat → Int32} {n : Int32} {sq k m h : Nat} (hl : (m, f, h) = lruC fp fk n sq f0 k) (hp : fp k = n) (hq : -6 = fnd (recB f (fk k)) 0 m) (hm : ¬ m < sq) (e : f2 = pfF f (fk k) (m - 1)) : (m, f2, h) = lruC fp fk n sq f0 (k + 1) := by
  show _ = if fp k = n then stC sq (fk k) (lruC fp fk n sq f0 k) else lruC fp fk n sq f0 k
  rw [if_pos hp, ← hl]
  unfold stC
  show _ = if fnd (recB f (fk k)) 0 m = -6 then (if m < sq then (m + 1, pfF f (fk k) m, h) else (m, pfF f (fk k) (m - 1), h)) else _
  rw [if_pos hq.symm, if_neg hm, e]
theorem rc_cases {f : Nat → Int32} {x r : Int32} {m : Nat} (hw : r = fnd (recB f x) 0 m) : r = -6 ∨ ∃ q : Nat, q < m ∧ r = nI q := by
  rcases fnd_cases (recB f x) m 0 with ⟨h1, _⟩ | ⟨q, h1, _, h3, _⟩
  · exact Or.inl (hw.trans h1)
  · exact Or.inr ⟨q, by omega, hw.trans h1⟩
/-- what is ahead of m does not hang on what was in the row before -/
theorem stC_ag {f g : Nat → Int32} {x : Int32} {sq m h : Nat} (hm : m ≤ 4) (hs : 1 ≤ sq) (hg : ∀ j, j < m → f j = g j) : (stC sq x (m, f, h)).1 = (stC sq x (m, g, h)).1 ∧ (stC sq x (m, f, h)).2.2 = (stC sq x (m, g, h)).2.2 ∧ ∀ j, j < (stC sq x (m, f, h)).1 → (stC sq x (m, f, h)).2.1 j = (stC sq x (m, g, h)).2.1 j := by
  have e : fnd (recB f x) 0 m = fnd (recB g x) 0 m := fnd_congr (fun j _ h2 => by unfold recB; rw [hg j (by omega)])
  have pf : ∀ a j, (j ≤ a → j ≤ m) → (¬ j ≤ a → j < m) → pfF f x a j = pfF g x a j := fun a j h1 h2 => by
    unfold pfF
    by_cases q : j = 0
    · rw [if_pos q, if_pos q]
    · rw [if_neg q, if_neg q]
      by_cases z : j ≤ a
      · rw [if_pos z, if_pos z]; exact hg _ (by have := h1 z; omega)
      · rw [if_neg z, if_neg z]; exact hg _ (h2 z)
  unfold stC
  show (if fnd (recB f x) 0 m = -6 then (if m < sq then (m + 1, pfF f x m, h) else (m, pfF f x (m - 1), h)) else (m, pfF f x (fnd (recB f x) 0 m).toNatClampNeg, h + 1)).1 = (if fnd (recB g x) 0 m = -6 then (if m < sq then (m + 1, pfF g x m, h) else (m, pfF g x (m - 1), h)) else (m, pfF g x (fnd (recB g x) 0 m).toNatClampNeg, h + 1)).1 ∧ (if fnd (recB f x) 0 m = -6 then (if m < sq then (m + 1, pfF f x m, h) else (m, pfF f x (m - 1), h)) else (m, pfF f x (fnd (recB f x) 0 m).toNatClampNeg, h + 1)).2.2 = (if fnd (recB g x) 0 m = -6 then (if m < sq then (m + 1, pfF g x m, h) else (m, pfF g x (m - 1), h)) else (m, pfF g x (fnd (recB g x) 0 m).toNatClampNeg, h + 1)).2.2 ∧ ∀ j, j < (if fnd (recB f x) 0 m = -6 then (if m < sq then (m + 1, pfF f x m, h) else (m, pfF f x (m - 1), h)) else (m, pfF f x (fnd (recB f x) 0 m).toNatClampNeg, h + 1)).1 → (if fnd (recB f x) 0 m = -6 then (if m < sq then (m + 1, pfF f x m, h) else (m, pfF f x (m - 1), h)) else (m, pfF f x (fnd (recB f x) 0 m).toNatClampNeg, h + 1)).2.1 j = (if fnd (recB g x) 0 m = -6 then (if m < sq then (m + 1, pfF g x m, h) else (m, pfF g x (m - 1), h)) else (m, pfF g x (fnd (recB g x) 0 m).toNatClampNeg, h + 1)).2.1 j
  rw [← e]
  by_cases q : fnd (recB f x) 0 m = -6
  · rw [if_pos q, if_pos q]
    by_cases z : m < sq
    · rw [if_pos z, if_pos z]; exact ⟨rfl, rfl, fun j hj => pf m j (fun y => y) (fun y => absurd (show j < m + 1 from hj) (by omega))⟩
    · rw [if_neg z, if_neg z]; exact ⟨rfl, rfl, fun j hj => pf (m - 1) j (fun y => by omega) (fun _ => hj)⟩
  · rw [if_neg q, if_neg q]; exact ⟨rfl, rfl, fun j hj => pf _ j (fun y => by have : j < m := hj; omega) (fun _ => hj)⟩
theorem lru_b {fp fk f0 : Nat → Int32} {n : Int32} {sq : Nat} (hs : 1 ≤ sq) : ∀ k, (lruC fp fk n sq f0 k).1 ≤ sq ∧ (lruC fp fk n sq f0 k).2.2 ≤ k
  | 0 => ⟨Nat.zero_le _, Nat.le_refl _⟩
  | k + 1 => by
    have ih := lru_b (fp := fp) (fk := fk) (f0 := f0) (n := n) hs k
    show (if fp k = n then stC sq (fk k) (lruC fp fk n sq f0 k) else lruC fp fk n sq f0 k).1 ≤ sq ∧ (if fp k = n then stC sq (fk k) (lruC fp fk n sq f0 k) else lruC fp fk n sq f0 k).2.2 ≤ k + 1
    by_cases p : fp k = n
    · rw [if_pos p]
      generalize lruC fp fk n sq f0 k = s at *
      unfold stC
      by_cases q : fnd (recB s.2.1 (fk k)) 0 s.1 = -6
      · rw [if_pos q]
        by_cases z : s.1 < sq
        · rw [if_pos z]; exact ⟨z, by show s.2.2 ≤ k + 1; omega⟩
        · rw [if_neg z]; exact ⟨ih.1, by show s.2.2 ≤ k + 1; omega⟩
      · rw [if_neg q]; exact ⟨ih.1, by show s.2.2 + 1 ≤ k + 1; omega⟩
    · rw [if_neg p]; omega
theorem lru_ag {fp fk f0 g0 : Nat → Int32} {n : Int32} {sq : Nat} (hs : 1 ≤ sq) (h4 : sq ≤ 4) : ∀ k, (lruC fp fk n sq f0 k).1 = (lruC fp fk n sq g0 k).1 ∧ (lruC fp fk n sq f0 k).2.2 = (lruC fp fk n sq g0 k).2.2 ∧ ∀ j, j < (lruC fp fk n sq f0 k).1 → (lruC fp fk n sq f0 k).2.1 j = (lruC fp fk n sq g0 k).2.1 j
  | 0 => ⟨rfl, rfl, fun j hj => absurd hj (Nat.not_lt_zero j)⟩
  | k + 1 => by
    have ih := lru_ag (fp := fp) (fk := fk) (f0 := f0) (g0 := g0) (n := n) hs h4 k
    have hb := (lru_b (fp := fp) (fk := fk) (f0 := f0) (n := n) hs k).1
    show (if fp k = n then stC sq (fk k) (lruC fp fk n sq f0 k) else lruC fp fk n sq f0 k).1 = (if fp k = n then stC sq (fk k) (lruC fp fk n sq g0 k) else lruC fp fk n sq g0 k).1 ∧ (if fp k = n then stC sq (fk k) (lruC fp fk n sq f0 k) else lruC fp fk n sq f0 k).2.2 = (if fp k = n then stC sq (fk k) (lruC fp fk n sq g0 k) else lruC fp fk n sq g0 k).2.2 ∧ ∀ j, j < (if fp k = n then stC sq (fk k) (lruC fp fk n sq f0 k) else lruC fp fk n sq f0 k).1 → (if fp k = n then stC sq (fk k) (lruC fp fk n sq f0 k) else lruC fp fk n sq f0 k).2.1 j = (if fp k = n then stC sq (fk k) (lruC fp fk n sq g0 k) else lruC fp fk n sq g0 k).2.1 j
    by_cases p : fp k = n
    · rw [if_pos p, if_pos p]
      generalize lruC fp fk n sq f0 k = s at *
      generalize lruC fp fk n sq g0 k = t at *
      obtain ⟨m, f, h⟩ := s
      obtain ⟨m', g, h'⟩ := t
      obtain ⟨e1, e2, e3⟩ := ih
      have e1 : m = m' := e1
      have e2 : h = h' := e2
      subst e1; subst e2
      exact stC_ag (by have : m ≤ sq := hb; omega) hs e3
    · rw [if_neg p, if_neg p]; exact ih
/-- HITS by SIZE, and the KINDS remembered at the end -/
def lruH (fp fk : Nat → Int32) (n : Int32) (sq k : Nat) : Nat := (lruC fp fk n sq (fun _ => 0) k).2.2
def lruN (fp fk : Nat → Int32) (n : Int32) (sq k : Nat) : Nat := (lruC fp fk n sq (fun _ => 0) k).1
def lruR (fp fk : Nat → Int32) (n : Int32) (sq k : Nat) : Nat → Int32 := (lruC fp fk n sq (fun _ => 0) k).2.1
theorem lru_end {fp fk f0 f : Nat → Int32} {n : Int32} {sq k m h : Nat} (hs : 1 ≤ sq) (h4 : sq ≤ 4) (hl : (m, f, h) = lruC fp fk n sq f0 k) : h = lruH fp fk n sq k ∧ m = lruN fp fk n sq k ∧ ∀ j, j < m → f j = lruR fp fk n sq k j := by
  have q := lru_ag (fp := fp) (fk := fk) (f0 := f0) (g0 := fun _ => 0) (n := n) hs h4 k
  rw [← hl] at q
  exact ⟨q.2.1, q.1, q.2.2⟩
theorem lruH_le {fp fk : Nat → Int32} {n : Int32} {sq k : Nat} (hs : 1 ≤ sq) : lruH fp fk n sq k ≤ k := (lru_b hs k).2
theorem lruN_le {fp fk : Nat → Int32} {n : Int32} {sq k : Nat} (hs : 1 ≤ sq) : lruN fp fk n sq k ≤ sq := (lru_b hs k).1
/-! the reference's row -/
def lstF (P : Nat → Bool) : Nat → Int32
  | 0 => -6
  | m + 1 => if P m = true then nI m else lstF P m
theorem lst_cases (P : Nat → Bool) : ∀ m, (lstF P m = -6 ∧ ∀ j, j < m → P j = false) ∨ ∃ q : Nat, lstF P m = nI q ∧ q < m ∧ P q = true
  | 0 => Or.inl ⟨rfl, fun j h => absurd h (Nat.not_lt_zero j)⟩
  | m + 1 => by
    by_cases h : P m = true
    · exact Or.inr ⟨m, if_pos h, by omega, h⟩
    · have e : lstF P (m + 1) = lstF P m := if_neg h
      rcases lst_cases P m with ⟨h1, h2⟩ | ⟨q, h1, h2, h3⟩
      · refine Or.inl ⟨e.trans h1, fun j hj => ?_⟩
        by_cases z : j = m
        · subst z; exact bF h
        · exact h2 j (by omega)
      · exact Or.inr ⟨q, e.trans h1, by omega, h3⟩
theorem li_cases {f : Nat → Int32} {x r : Int32} {m : Nat} (hw : r = lstF (recB f x) m) : r = -6 ∨ ∃ q : Nat, q < m ∧ r = nI q := by
  rcases lst_cases (recB f x) m with ⟨h1, _⟩ | ⟨q, h1, h2, _⟩
  · exact Or.inl (hw.trans h1)
  · exact Or.inr ⟨q, h2, hw.trans h1⟩
def toF (f : Nat → Int32) (a m : Nat) : Nat → Int32 := fun j => if a ≤ j ∧ j < m then f (j + 1) else f j
theorem to_0 {f : Nat → Int32} {a : Nat} : f = toF f a a := by funext j; unfold toF; rw [if_neg (by omega)]
theorem to_step {f g g2 : Nat → Int32} {a i : Nat} (h : g = toF f a i) (hi : a ≤ i) (e : g2 = upd g i (g (i + 1))) : g2 = toF f a (i + 1) := by
  rw [e, h]
  funext j
  by_cases q : j = i
  · subst q; rw [pk_us]; unfold toF; rw [if_neg (by omega), if_pos (by omega)]
  · rw [pk_un q]
    unfold toF
    by_cases z : a ≤ j ∧ j < i
    · rw [if_pos z, if_pos (by omega)]
    · rw [if_neg z, if_neg (by omega)]
def stM (sq fa : Nat) (x : Int32) (s : Nat × (Nat → Int32) × Nat) : Nat × (Nat → Int32) × Nat :=
  if lstF (recB s.2.1 x) s.1 = -6 then (if s.1 = sq then (s.1, pfF (toF s.2.1 fa (s.1 - 1)) x (s.1 - 1), s.2.2) else (s.1 + 1, pfF s.2.1 x s.1, s.2.2)) else (s.1, pfF (toF s.2.1 (lstF (recB s.2.1 x) s.1).toNatClampNeg (s.1 - 1)) x (s.1 - 1), s.2.2 + 1)
def lruM (fp fk : Nat → Int32) (n : Int32) (sq : Nat) (fa : Nat → Nat → (Nat → Int32) → Nat) (f0 : Nat → Int32) : Nat → Nat × (Nat → Int32) × Nat
  | 0 => (0, f0, 0)
  | k + 1 => if fp k = n then stM sq (fa k (lruM fp fk n sq fa f0 k).1 (lruM fp fk n sq fa f0 k).2.1) (fk k) (lruM fp fk n sq fa f0 k) else lruM fp fk n sq fa f0 k
theorem lm_skip {fp fk f0 f : Nat → Int32} {n : Int32} {sq k m h : Nat} {fa : Nat → Nat → (Nat → Int32) → Nat} (hl : (m, f, h) = lruM fp fk n sq fa f0 k) (hn : ¬ fp k = n) : (m, f, h) = lruM fp fk n sq fa f0 (k + 1) := hl.trans (if_neg hn).symm
theorem lm_hit {fp fk f0 f f1 f2 : Nat → Int32} {n : Int32} {sq k m m1 h q : Nat} {fa : Nat → Nat → (Nat → Int32) → Nat} (hl : (m, f, h) = lruM fp fk n sq fa f0 k) (hp : fp k = n) (hq : nI q = lstF (recB f (fk k)) m) (h31 : q < 2 ^ 31) (hm : m1 + 1 = m) (e1 : f1 = toF f q m1) (e : f2 = pfF f1 (fk k) m1) : (m1 + 1, f2, h + 1) = lruM fp fk n sq fa f0 (k + 1) := by
  subst hm
  show _ = if fp k = n then stM sq (fa k (lruM fp fk n sq fa f0 k).1 (lruM fp fk n sq fa f0 k).2.1) (fk k) (lruM fp fk n sq fa f0 k) else lruM fp fk n sq fa f0 k
  rw [if_pos hp, ← hl]
  unfold stM
  show _ = if lstF (recB f (fk k)) (m1 + 1) = -6 then _ else (m1 + 1, pfF (toF f (lstF (recB f (fk k)) (m1 + 1)).toNatClampNeg m1) (fk k) m1, h + 1)
  rw [← hq, if_neg (nI_ne6 h31), nI_clamp h31, e, e1]
theorem lm_new {fp fk f0 f f2 : Nat → Int32} {n : Int32} {sq k m h : Nat} {fa : Nat → Nat → (Nat → Int32) → Nat} (hl : (m, f, h) = lruM fp fk n sq fa f0 k) (hp : fp k = n) (hq : -6 = lstF (recB f (fk k)) m) (hm : ¬ m = sq) (e : f2 = pfF f (fk k) m) : (m + 1, f2, h) = lruM fp fk n sq fa f0 (k + 1) := by
  show _ = if fp k = n then stM sq (fa k (lruM fp fk n sq fa f0 k).1 (lruM fp fk n sq fa f0 k).2.1) (fk k) (lruM fp fk n sq fa f0 k) else lruM fp fk n sq fa f0 k
  rw [if_pos hp, ← hl]
  unfold stM
  show _ = if lstF (recB f (fk k)) m = -6 then (if m = sq then _ else (m + 1, pfF f (fk k) m, h)) else _
  rw [if_pos hq.symm, if_neg hm, e]
theorem lm_old {fp fk f0 f f1 f2 : Nat → Int32} {n : Int32} {sq k m m1 h q : Nat} {fa : Nat → Nat → (Nat → Int32) → Nat} (hl : (m, f, h) = lruM fp fk n sq fa f0 k) (hp : fp k = n) (hq : -6 = lstF (recB f (fk k)) m) (hm : m = sq) (hm1 : m1 + 1 = m) (hfa : fa k m f = q) (e1 : f1 = toF f q m1) (e : f2 = pfF f1 (fk k) m1) : (m1 + 1, f2, h) = lruM fp fk n sq fa f0 (k + 1) := by
  subst hm1
  show _ = if fp k = n then stM sq (fa k (lruM fp fk n sq fa f0 k).1 (lruM fp fk n sq fa f0 k).2.1) (fk k) (lruM fp fk n sq fa f0 k) else lruM fp fk n sq fa f0 k
  rw [if_pos hp, ← hl]
  unfold stM
  show _ = if lstF (recB f (fk k)) (m1 + 1) = -6 then (if m1 + 1 = sq then (m1 + 1, pfF (toF f (fa k (m1 + 1) f) m1) (fk k) m1, h) else _) else _
  rw [if_pos hq.symm, if_pos hm, hfa, e, e1]
def F_need (h1 h2 h3 h4 : Nat) (n v : Int32) : Int32 := if 0 ≤ n.toInt ∧ n.toInt ≤ 3 then (if v.toInt < 0 ∨ 40 < v.toInt then -2 else if v.toInt ≤ (h1 : Int) then 1 else if v.toInt ≤ (h2 : Int) then 2 else if v.toInt ≤ (h3 : Int) then 3 else if v.toInt ≤ (h4 : Int) then 4 else -6) else -1
def F_hits (c h b : Int32) (r : Nat → Int32) (n v : Int32) : Int32 := if 0 ≤ n.toInt ∧ n.toInt ≤ 3 then (if v.toInt = 0 then c else if v.toInt = 1 then h else if v.toInt = 2 then b else if 10 ≤ v.toInt ∧ v.toInt ≤ 13 then r (v.toInt - 10).toNat else -2) else -1
def QA_next (k q : Nat) (f : Nat → Int32) (n a x : Int32) : Nat → Int32 := if n.toInt < 0 ∨ 3 < n.toInt ∨ ¬ (0 ≤ a.toInt ∧ a.toInt < (k : Int)) then f else if 40 ≤ q then f else upd f q x
theorem cnt_t {P : Nat → Bool} {k c : Nat} (h : c = cnt P k) (hp : P k = true) : c + 1 = cnt P (k + 1) := by
  show _ = cnt P k + (if P k = true then 1 else 0)
  rw [if_pos hp, h]
theorem cnt_f {P : Nat → Bool} {k c : Nat} (h : c = cnt P k) (hp : P k = false) : c = cnt P (k + 1) := by
  show _ = cnt P k + (if P k = true then 1 else 0)
  rw [if_neg (by rw [hp]; decide), h]; rfl
def cAt (fp : Nat → Int32) (n : Int32) (k : Nat) : Nat := cnt (fun i => decide (fp i = n)) k
def ltF (m : Nat) (f : Nat → Int32) (i : Nat) : Int32 := if i < m then f i else -6
def lruA (fp fk : Nat → Int32) (n : Int32) (sq q : Nat) (m : Nat) (f : Nat → Int32) : Prop := m = lruN fp fk n sq q ∧ ∀ j, j < m → f j = lruR fp fk n sq q j
def fa0 (sq : Nat) : Nat → Nat → (Nat → Int32) → Nat := fun _ _ _ => sq - 1
def lruMH (fp fk : Nat → Int32) (n : Int32) (sq : Nat) (fa : Nat → Nat → (Nat → Int32) → Nat) (f0 : Nat → Int32) (k : Nat) : Nat := (lruM fp fk n sq fa f0 k).2.2
def DisN (m : Nat) (f : Nat → Int32) : Prop := ∀ i j, i < j → j < m → ¬ f i = f j
theorem dis_pf {m q : Nat} {f : Nat → Int32} {x : Int32} (h : DisN m f) (hq : q < m) (hx : f q = x) : DisN m (pfF f x q) := by
  subst hx
  have v : ∀ j, j < m → pfF f (f q) q j = f (if j = 0 then q else if j ≤ q then j - 1 else j) := fun j _ => by
    unfold pfF
    by_cases a : j = 0
    · rw [if_pos a, if_pos a]
    · rw [if_neg a, if_neg a]
      by_cases b : j ≤ q
      · rw [if_pos b, if_pos b]
      · rw [if_neg b, if_neg b]
  have inj : ∀ a b, a < m → b < m → f a = f b → a = b := fun a b h1 h2 e => by
    rcases Nat.lt_trichotomy a b with c | c | c
    · exact absurd e (h a b c h2)
    · exact c
    · exact absurd e.symm (h b a c h1)
  intro i j hij hj e
  rw [v i (by omega), v j hj] at e
  have := inj _ _ (by split <;> (try split) <;> omega) (by split <;> (try split) <;> omega) e
  split at this <;> split at this <;> (try split at this) <;> (try split at this) <;> omega
theorem dis_new {m a : Nat} {f : Nat → Int32} {x : Int32} (h : DisN m f) (hx : ∀ j, j < m → ¬ f j = x) (ha : a = m ∨ a + 1 = m) : DisN (a + 1) (pfF f x a) := by
  intro i j hij hj e
  unfold pfF at e
  rw [if_neg (show ¬ j = 0 by omega), if_pos (show j ≤ a by omega)] at e
  by_cases z : i = 0
  · rw [if_pos z] at e; exact hx (j - 1) (by omega) e.symm
  · rw [if_neg z, if_pos (show i ≤ a by omega)] at e; exact h (i - 1) (j - 1) (by omega) (by omega) e
theorem dis_ag {m : Nat} {f g : Nat → Int32} (h : DisN m f) (hg : ∀ j, j < m → f j = g j) : DisN m g := fun i j h1 h2 e => h i j h1 h2 (by rw [hg i (by omega), hg j h2]; exact e)
/-- class and reference remember alike -/
def LruR (s t : Nat × (Nat → Int32) × Nat) : Prop := s.1 = t.1 ∧ s.2.2 = t.2.2 ∧ (∀ j, j < s.1 → s.2.1 j = t.2.1 j) ∧ DisN s.1 s.2.1
theorem st_rel {sq : Nat} {x : Int32} {m h : Nat} {f g : Nat → Int32} (hs : 1 ≤ sq) (h4 : sq ≤ 4) (hm : m ≤ sq) (hg : ∀ j, j < m → f j = g j) (hd : DisN m f) : LruR (stC sq x (m, f, h)) (stM sq (sq - 1) x (m, g, h)) := by
  have pf : ∀ (u v : Nat → Int32) (a j : Nat), (j ≤ a → ¬ j = 0 → u (j - 1) = v (j - 1)) → (¬ j ≤ a → u j = v j) → pfF u x a j = pfF v x a j := fun u v a j h1 h2 => by
    unfold pfF
    by_cases q : j = 0
    · rw [if_pos q, if_pos q]
    · rw [if_neg q, if_neg q]
      by_cases z : j ≤ a
      · rw [if_pos z, if_pos z]; exact h1 z q
      · rw [if_neg z, if_neg z]; exact h2 z
  unfold stC stM
  show LruR (if fnd (recB f x) 0 m = -6 then (if m < sq then (m + 1, pfF f x m, h) else (m, pfF f x (m - 1), h)) else (m, pfF f x (fnd (recB f x) 0 m).toNatClampNeg, h + 1)) (if lstF (recB g x) m = -6 then (if m = sq then (m, pfF (toF g (sq - 1) (m - 1)) x (m - 1), h) else (m + 1, pfF g x m, h)) else (m, pfF (toF g (lstF (recB g x) m).toNatClampNeg (m - 1)) x (m - 1), h + 1))
  rcases fnd_cases (recB f x) m 0 with ⟨e1, n1⟩ | ⟨q, e1, _, q2, q3, _⟩
  · have nx : ∀ j, j < m → ¬ f j = x := fun j hj => of_decide_eq_false (n1 j (by omega) (by omega))
    rcases lst_cases (recB g x) m with ⟨e2, _⟩ | ⟨q, _, q2, q3⟩
    · rw [if_pos e1, if_pos e2]
      by_cases z : m = sq
      · rw [if_neg (show ¬ m < sq by omega), if_pos z]
        refine ⟨rfl, rfl, fun j hj => pf _ _ _ _ (fun a b => ?_) (fun a => ?_), ?_⟩
        · have hj : j < m := hj
          unfold toF; rw [if_neg (by omega)]; exact hg _ (by omega)
        · have hj : j < m := hj
          omega
        · show DisN m (pfF f x (m - 1))
          have := dis_new (a := m - 1) hd nx (by omega)
          rw [show m - 1 + 1 = m from (by omega)] at this; exact this
      · rw [if_pos (show m < sq by omega), if_neg z]
        refine ⟨rfl, rfl, fun j hj => pf _ _ _ _ (fun a b => hg _ ?_) (fun a => ?_), dis_new hd nx (Or.inl rfl)⟩
        · have hj : j < m + 1 := hj
          omega
        · have hj : j < m + 1 := hj
          omega
    · have : g q = x := of_decide_eq_true q3
      rw [← hg q q2] at this
      exact absurd this (nx q q2)
  · have fx : f q = x := of_decide_eq_true q3
    rcases lst_cases (recB g x) m with ⟨_, n2⟩ | ⟨p, e2, p2, p3⟩
    · have : ¬ g q = x := of_decide_eq_false (n2 q (by omega))
      rw [← hg q (by omega)] at this
      exact absurd fx this
    · have gx : g p = x := of_decide_eq_true p3
      rw [← hg p p2] at gx
      have epq : p = q := by
        rcases Nat.lt_trichotomy p q with c | c | c
        · exact absurd (gx.trans fx.symm) (hd p q c (by omega))
        · exact c
        · exact absurd (fx.trans gx.symm) (hd q p c p2)
      subst epq
      rw [if_neg (by rw [e1]; exact nI_ne6 (by omega)), if_neg (by rw [e2]; exact nI_ne6 (by omega)), e1, e2, nI_clamp (by omega)]
      refine ⟨rfl, rfl, fun j hj => ?_, dis_pf hd p2 fx⟩
      have hj : j < m := hj
      show pfF f x p j = pfF (toF g p (m - 1)) x (m - 1) j
      unfold pfF toF
      by_cases z : j = 0
      · rw [if_pos z, if_pos z]
      · rw [if_neg z, if_neg z, if_pos (show j ≤ m - 1 by omega)]
        by_cases y : j ≤ p
        · rw [if_pos y, if_neg (by omega)]; exact hg _ (by omega)
        · rw [if_neg y, if_pos (by omega), show j - 1 + 1 = j from (by omega)]; exact hg _ (by omega)
theorem lru_rel {fp fk fp' fk' f0 g0 : Nat → Int32} {n : Int32} {sq q : Nat} (hs : 1 ≤ sq) (h4 : sq ≤ 4) (hp : ∀ i, i < q → fp i = fp' i ∧ fk i = fk' i) : ∀ k, k ≤ q → LruR (lruC fp fk n sq f0 k) (lruM fp' fk' n sq (fa0 sq) g0 k)
  | 0, _ => ⟨rfl, rfl, fun j hj => absurd hj (Nat.not_lt_zero j), fun i j _ hj => absurd hj (Nat.not_lt_zero j)⟩
  | k + 1, hk => by
    have ih := lru_rel (n := n) (f0 := f0) (g0 := g0) hs h4 hp k (by omega)
    have hb := (lru_b (fp := fp) (fk := fk) (f0 := f0) (n := n) hs k).1
    show LruR (if fp k = n then stC sq (fk k) (lruC fp fk n sq f0 k) else lruC fp fk n sq f0 k) (if fp' k = n then stM sq (sq - 1) (fk' k) (lruM fp' fk' n sq (fa0 sq) g0 k) else lruM fp' fk' n sq (fa0 sq) g0 k)
    rw [← (hp k (by omega)).1, ← (hp k (by omega)).2]
    by_cases p : fp k = n
    · rw [if_pos p, if_pos p]
      generalize lruC fp fk n sq f0 k = s at *
      generalize lruM fp' fk' n sq (fa0 sq) g0 k = t at *
      obtain ⟨m, f, h⟩ := s
      obtain ⟨m', g, h'⟩ := t
      obtain ⟨e1, e2, e3, e4⟩ := ih
      have e1 : m = m' := e1
      have e2 : h = h' := e2
      subst e1; subst e2
      exact st_rel hs h4 hb e3 e4
    · rw [if_neg p, if_neg p]; exact ih
theorem lm_end {fp fk f0 f : Nat → Int32} {n : Int32} {sq k m h : Nat} (hs : 1 ≤ sq) (h4 : sq ≤ 4) (hl : (m, f, h) = lruM fp fk n sq (fa0 sq) f0 k) : h = lruH fp fk n sq k ∧ lruA fp fk n sq k m f := by
  have q := lru_rel (fp := fp) (fk := fk) (fp' := fp) (fk' := fk) (f0 := fun _ => 0) (g0 := f0) (n := n) (q := k) hs h4 (fun i _ => ⟨rfl, rfl⟩) k (Nat.le_refl _)
  rw [← hl] at q
  obtain ⟨q1, q2, q3, _⟩ := q
  have q1 : lruN fp fk n sq k = m := q1
  refine ⟨q2.symm, q1.symm, fun j hj => (q3 j ?_).symm⟩
  show j < lruN fp fk n sq k
  omega
theorem lru_cg {fp fk fp' fk' : Nat → Int32} {n : Int32} {sq q : Nat} (hs : 1 ≤ sq) (h4 : sq ≤ 4) (hp : ∀ i, i < q → fp i = fp' i ∧ fk i = fk' i) : lruH fp fk n sq q = lruH fp' fk' n sq q ∧ lruN fp fk n sq q = lruN fp' fk' n sq q ∧ ∀ j, j < lruN fp fk n sq q → lruR fp fk n sq q j = lruR fp' fk' n sq q j := by
  have a := lru_rel (fp := fp) (fk := fk) (fp' := fp') (fk' := fk') (f0 := fun _ => 0) (g0 := fun _ => 0) (n := n) (q := q) hs h4 hp q (Nat.le_refl _)
  have b := lru_rel (fp := fp') (fk := fk') (fp' := fp') (fk' := fk') (f0 := fun _ => 0) (g0 := fun _ => 0) (n := n) (q := q) hs h4 (fun i _ => ⟨rfl, rfl⟩) q (Nat.le_refl _)
  have e1 : lruN fp fk n sq q = lruN fp' fk' n sq q := a.1.trans b.1.symm
  refine ⟨a.2.1.trans b.2.1.symm, e1, fun j hj => (a.2.2.1 j hj).trans (b.2.2.1 j ?_).symm⟩
  show j < lruN fp' fk' n sq q
  rw [← e1]; exact hj
/-- the calls of class and reference -/
def CaEq (fcp fck fmp fmk : Nat → Int32) (qn cn : Nat) : Prop := ∀ i, i < qn → (fcp i = fmp i ∧ fck i = fmk i) ∧ ∃ q : Nat, q < cn ∧ fmk i = nI q
theorem ce_0 {fcp fck fmp fmk : Nat → Int32} {cn : Nat} : CaEq fcp fck fmp fmk 0 cn := fun i h => absurd h (Nat.not_lt_zero i)
theorem ce_mono {fcp fck fmp fmk : Nat → Int32} {qn cn c2 : Nat} (h : CaEq fcp fck fmp fmk qn cn) (hc : cn ≤ c2) : CaEq fcp fck fmp fmk qn c2 := fun i hi => ⟨(h i hi).1, by obtain ⟨q, h1, h2⟩ := (h i hi).2; exact ⟨q, by omega, h2⟩⟩
theorem need_F {fcp fck fmp fmk : Nat → Int32} {qn ca cn : Nat} {n v : Int32} (hrq : ca = qn) (h : CaEq fcp fck fmp fmk qn cn) : F_need (lruH fcp fck n 1 qn) (lruH fcp fck n 2 qn) (lruH fcp fck n 3 qn) (lruH fcp fck n 4 qn) n v = F_need (lruH fmp fmk n 1 ca) (lruH fmp fmk n 2 ca) (lruH fmp fmk n 3 ca) (lruH fmp fmk n 4 ca) n v := by
  subst hrq
  have e : ∀ s, 1 ≤ s → s ≤ 4 → lruH fcp fck n s ca = lruH fmp fmk n s ca := fun s h1 h2 => (lru_cg h1 h2 (fun i hi => (h i hi).1)).1
  rw [e 1 (by decide) (by decide), e 2 (by decide) (by decide), e 3 (by decide) (by decide), e 4 (by decide) (by decide)]
/-! BEST: the class's set of KINDS kept -/
def clrF (b x : Int32) : Int32 := b &&& (((1 : Int32) <<< (x &&& 31)) ^^^ (-1))
def luF (fp fk : Nat → Int32) (n : Int32) : Nat → Nat → Int32 → Int32
  | 0, _, l => l
  | m + 1, i, l => if (bcF l).toInt ≤ 1 then l else luF fp fk n m (i + 1) (if fp i = n then clrF l (fk i) else l)
theorem lu_end {fp fk : Nat → Int32} {n l : Int32} {q i : Nat} (h : q ≤ i ∨ (bcF l).toInt ≤ 1) : luF fp fk n (q - i) i l = l := by
  rcases Nat.lt_or_ge i q with z | z
  · rw [show q - i = (q - (i + 1)) + 1 from (by omega)]; exact if_pos (h.resolve_left (by omega))
  · rw [show q - i = 0 from (by omega)]; rfl
theorem lu_yes {fp fk : Nat → Int32} {n l : Int32} {q i : Nat} (hi : i < q) (hb : ¬ (bcF l).toInt ≤ 1) (hp : fp i = n) : luF fp fk n (q - i) i l = luF fp fk n (q - (i + 1)) (i + 1) (clrF l (fk i)) := by
  rw [show q - i = (q - (i + 1)) + 1 from (by omega)]
  show (if (bcF l).toInt ≤ 1 then l else luF fp fk n (q - (i + 1)) (i + 1) (if fp i = n then clrF l (fk i) else l)) = _
  rw [if_neg hb, if_pos hp]
theorem lu_no {fp fk : Nat → Int32} {n l : Int32} {q i : Nat} (hi : i < q) (hb : ¬ (bcF l).toInt ≤ 1) (hp : ¬ fp i = n) : luF fp fk n (q - i) i l = luF fp fk n (q - (i + 1)) (i + 1) l := by
  rw [show q - i = (q - (i + 1)) + 1 from (by omega)]
  show (if (bcF l).toInt ≤ 1 then l else luF fp fk n (q - (i + 1)) (i + 1) (if fp i = n then clrF l (fk i) else l)) = _
  rw [if_neg hb, if_neg hp]
/-- the JDK's count of zeros behind, as it is written -/
def tzS (lim : Int32) (sh : Int32) (add : Int32) (p : Int32 × Int32) : Int32 × Int32 := if p.2 ≤ lim then p else (p.1 + add, (p.2.toUInt32 >>> (sh.toUInt32 &&& Int32.toUInt32 31)).toInt32)
def tzE (p : Int32 × Int32) : Int32 := p.1 + (p.2.toUInt32 >>> ((1 : Int32).toUInt32 &&& Int32.toUInt32 31)).toInt32
def tzF (n : Int32) : Int32 := if 0 < ((n ^^^ (-1)) &&& (n - 1)) then tzE (tzS 4 2 2 (tzS 16 4 4 (tzS 256 8 8 (tzS 65536 16 16 (1, (n ^^^ (-1)) &&& (n - 1)))))) else ((n ^^^ (-1)) &&& (n - 1)) &&& 32
theorem tz_t {lim sh add a x : Int32} (h : ¬ x ≤ lim) : tzS lim sh add (a, x) = (a + add, (x.toUInt32 >>> (sh.toUInt32 &&& Int32.toUInt32 31)).toInt32) := if_neg h
theorem tz_f {lim sh add a x : Int32} (h : x ≤ lim) : tzS lim sh add (a, x) = (a, x) := if_pos h
theorem tz_small : ∀ k, k < 1024 → k ≠ 0 → tzF (nI k) = fnd (fun i => k.testBit i) 0 10 := by decide +kernel
def bsC (fp fk : Nat → Int32) (n : Int32) (sq q : Nat) : Nat → Int32 × Nat
  | 0 => (0, 0)
  | i + 1 => if fp i = n then (if bt (bsC fp fk n sq q i).1 (fk i).toNatClampNeg = true then ((bsC fp fk n sq q i).1, (bsC fp fk n sq q i).2 + 1) else ((if (sq : Int) ≤ (bcF (bsC fp fk n sq q i).1).toInt then clrF (bsC fp fk n sq q i).1 (tzF (luF fp fk n (q - (i + 1)) (i + 1) (bsC fp fk n sq q i).1)) else (bsC fp fk n sq q i).1) ||| ((1 : Int32) <<< (fk i &&& 31)), (bsC fp fk n sq q i).2)) else bsC fp fk n sq q i
theorem bc_skip {fp fk : Nat → Int32} {n k : Int32} {sq q i h : Nat} (hl : (k, h) = bsC fp fk n sq q i) (hp : ¬ fp i = n) : (k, h) = bsC fp fk n sq q (i + 1) := hl.trans (if_neg hp).symm
theorem bc_hit {fp fk : Nat → Int32} {n k : Int32} {sq q i h : Nat} (hl : (k, h) = bsC fp fk n sq q i) (hp : fp i = n) (hb : bt k (fk i).toNatClampNeg = true) : (k, h + 1) = bsC fp fk n sq q (i + 1) := by
  show _ = if fp i = n then _ else _
  rw [if_pos hp, ← hl]
  show _ = if bt k (fk i).toNatClampNeg = true then (k, h + 1) else _
  rw [if_pos hb]
theorem bc_full {fp fk : Nat → Int32} {n k r : Int32} {sq q i h : Nat} (hl : (k, h) = bsC fp fk n sq q i) (hp : fp i = n) (hb : bt k (fk i).toNatClampNeg = false) (hs : (sq : Int) ≤ (bcF k).toInt) (hr : r = tzF (luF fp fk n (q - (i + 1)) (i + 1) k)) : (clrF k r ||| ((1 : Int32) <<< (fk i &&& 31)), h) = bsC fp fk n sq q (i + 1) := by
  show _ = if fp i = n then _ else _
  rw [if_pos hp, ← hl]
  show _ = if bt k (fk i).toNatClampNeg = true then (k, h + 1) else ((if (sq : Int) ≤ (bcF k).toInt then clrF k (tzF (luF fp fk n (q - (i + 1)) (i + 1) k)) else k) ||| ((1 : Int32) <<< (fk i &&& 31)), h)
  rw [if_neg (by rw [hb]; decide), if_pos hs, hr]
theorem bc_room {fp fk : Nat → Int32} {n k : Int32} {sq q i h : Nat} (hl : (k, h) = bsC fp fk n sq q i) (hp : fp i = n) (hb : bt k (fk i).toNatClampNeg = false) (hs : ¬ (sq : Int) ≤ (bcF k).toInt) : (k ||| ((1 : Int32) <<< (fk i &&& 31)), h) = bsC fp fk n sq q (i + 1) := by
  show _ = if fp i = n then _ else _
  rw [if_pos hp, ← hl]
  show _ = if bt k (fk i).toNatClampNeg = true then (k, h + 1) else ((if (sq : Int) ≤ (bcF k).toInt then clrF k (tzF (luF fp fk n (q - (i + 1)) (i + 1) k)) else k) ||| ((1 : Int32) <<< (fk i &&& 31)), h)
  rw [if_neg (by rw [hb]; decide), if_neg hs]
/-- the reference's next call of a KIND, and the row's farthest one -/
def ncF (fp fk : Nat → Int32) (n x : Int32) (b : Nat) : Nat → Nat → Nat
  | 0, a => a
  | m + 1, a => ncF fp fk n x b m (if fp (b + 1 + m) = n ∧ fk (b + 1 + m) = x then b + 1 + m else a)
def nxC (fp fk : Nat → Int32) (n x : Int32) (b q : Nat) : Nat := ncF fp fk n x b (q - (b + 1)) 1000
def faF (g : Nat → Nat) : Nat → Nat
  | 0 => 0
  | m + 1 => if g (faF g m) < g (m + 1) then m + 1 else faF g m
def fa1 (fp fk : Nat → Int32) (n : Int32) (q : Nat) : Nat → Nat → (Nat → Int32) → Nat := fun c m f => faF (fun i => nxC fp fk n (f i) c q) (m - 1)
theorem bs_le {fp fk : Nat → Int32} {n : Int32} {sq q : Nat} : ∀ {i : Nat}, (bsC fp fk n sq q i).2 ≤ i
  | 0 => Nat.le_refl 0
  | i + 1 => by
    have ih := bs_le (fp := fp) (fk := fk) (n := n) (sq := sq) (q := q) (i := i)
    show (if fp i = n then (if bt (bsC fp fk n sq q i).1 (fk i).toNatClampNeg = true then ((bsC fp fk n sq q i).1, (bsC fp fk n sq q i).2 + 1) else (_, (bsC fp fk n sq q i).2)) else bsC fp fk n sq q i).2 ≤ i + 1
    by_cases a : fp i = n
    · rw [if_pos a]
      by_cases b : bt (bsC fp fk n sq q i).1 (fk i).toNatClampNeg = true
      · rw [if_pos b]; show (bsC fp fk n sq q i).2 + 1 ≤ i + 1; omega
      · rw [if_neg b]; show (bsC fp fk n sq q i).2 ≤ i + 1; omega
    · rw [if_neg a]; omega
theorem ce_k {fcp fck fmp fmk : Nat → Int32} {qn cn : Nat} (h : CaEq fcp fck fmp fmk qn cn) (hc : cn ≤ 10) : ∀ i, i < qn → ∃ q : Nat, q < 10 ∧ fck i = nI q := fun i hi => by
  obtain ⟨⟨_, e⟩, q, h1, h2⟩ := h i hi
  exact ⟨q, by omega, e.trans h2⟩
theorem nc_no {fp fk : Nat → Int32} {n x : Int32} {b c a T : Nat} (h : ncF fp fk n x b (c - b) a = T) (hc : b < c) (hm : ¬ (fp c = n ∧ fk c = x)) : ncF fp fk n x b (c - 1 - b) a = T := by
  rw [← h, show c - b = (c - 1 - b) + 1 from (by omega)]
  show _ = ncF fp fk n x b (c - 1 - b) (if fp (b + 1 + (c - 1 - b)) = n ∧ fk (b + 1 + (c - 1 - b)) = x then b + 1 + (c - 1 - b) else a)
  rw [show b + 1 + (c - 1 - b) = c from (by omega), if_neg hm]
theorem nc_yes {fp fk : Nat → Int32} {n x : Int32} {b c a T : Nat} (h : ncF fp fk n x b (c - b) a = T) (hc : b < c) (hm : fp c = n ∧ fk c = x) : ncF fp fk n x b (c - 1 - b) c = T := by
  rw [← h, show c - b = (c - 1 - b) + 1 from (by omega)]
  show _ = ncF fp fk n x b (c - 1 - b) (if fp (b + 1 + (c - 1 - b)) = n ∧ fk (b + 1 + (c - 1 - b)) = x then b + 1 + (c - 1 - b) else a)
  rw [show b + 1 + (c - 1 - b) = c from (by omega), if_pos hm]
theorem nc_le {fp fk : Nat → Int32} {n x : Int32} {b : Nat} : ∀ (m a : Nat), b + m ≤ 900 → a ≤ 1000 → ncF fp fk n x b m a ≤ 1000
  | 0, _, _, h => h
  | m + 1, a, hb, ha => nc_le m _ (by omega) (by split <;> omega)
theorem nx_le {fp fk : Nat → Int32} {n x : Int32} {b q : Nat} (hq : q ≤ 40) (hb : b < q) : nxC fp fk n x b q ≤ 1000 := nc_le _ _ (by omega) (Nat.le_refl _)
theorem fa_lt (g : Nat → Nat) : ∀ m, faF g m ≤ m
  | 0 => Nat.le_refl 0
  | m + 1 => by
    have ih := fa_lt g m
    show (if g (faF g m) < g (m + 1) then m + 1 else faF g m) ≤ m + 1
    split <;> omega
theorem fa_step {g : Nat → Nat} {i b : Nat} (h : b = faF g (i - 1)) (hi : 1 ≤ i) (hg : g b < g i) : i = faF g (i + 1 - 1) := by
  obtain ⟨m, rfl⟩ : ∃ m, i = m + 1 := ⟨i - 1, by omega⟩
  show m + 1 = if g (faF g m) < g (m + 1) then m + 1 else faF g m
  have h : b = faF g m := h
  rw [← h, if_pos hg]
theorem fa_keep {g : Nat → Nat} {i b : Nat} (h : b = faF g (i - 1)) (hi : 1 ≤ i) (hg : ¬ g b < g i) : b = faF g (i + 1 - 1) := by
  obtain ⟨m, rfl⟩ : ∃ m, i = m + 1 := ⟨i - 1, by omega⟩
  show b = if g (faF g m) < g (m + 1) then m + 1 else faF g m
  have h : b = faF g m := h
  rw [← h, if_neg hg]
theorem hf_m1 {c h b n v : Int32} {r : Nat → Int32} (q : ¬ (0 ≤ n.toInt ∧ n.toInt ≤ 3)) : (-1 : Int32) = F_hits c h b r n v := (if_neg q).symm
theorem hf_0 {c h b n v x : Int32} {r : Nat → Int32} (q : 0 ≤ n.toInt ∧ n.toInt ≤ 3) (q0 : v.toInt = 0) (e : x = c) : x = F_hits c h b r n v := by
  unfold F_hits; rw [if_pos q, if_pos q0, e]
theorem hf_1 {c h b n v x : Int32} {r : Nat → Int32} (q : 0 ≤ n.toInt ∧ n.toInt ≤ 3) (q0 : v.toInt = 1) (e : x = h) : x = F_hits c h b r n v := by
  unfold F_hits; rw [if_pos q, if_neg (by omega), if_pos q0, e]
theorem hf_2 {c h b n v x : Int32} {r : Nat → Int32} (q : 0 ≤ n.toInt ∧ n.toInt ≤ 3) (q0 : v.toInt = 2) (e : x = b) : x = F_hits c h b r n v := by
  unfold F_hits; rw [if_pos q, if_neg (by omega), if_neg (by omega), if_pos q0, e]
theorem hf_r {c h b n v x : Int32} {r : Nat → Int32} (q : 0 ≤ n.toInt ∧ n.toInt ≤ 3) (q0 : 10 ≤ v.toInt ∧ v.toInt ≤ 13) (e : x = r (v.toInt - 10).toNat) : x = F_hits c h b r n v := by
  unfold F_hits; rw [if_pos q, if_neg (by omega), if_neg (by omega), if_neg (by omega), if_pos q0, e]
theorem hf_m2 {c h b n v : Int32} {r : Nat → Int32} (q : 0 ≤ n.toInt ∧ n.toInt ≤ 3) (q0 : ¬ v.toInt = 0 ∧ ¬ v.toInt = 1 ∧ ¬ v.toInt = 2 ∧ ¬ (10 ≤ v.toInt ∧ v.toInt ≤ 13)) : (-2 : Int32) = F_hits c h b r n v := by
  unfold F_hits; rw [if_pos q, if_neg q0.1, if_neg q0.2.1, if_neg q0.2.2.1, if_neg q0.2.2.2]
theorem lt_in {fp fk f : Nat → Int32} {n : Int32} {sq q m j : Nat} (h : lruA fp fk n sq q m f) (hj : j < m) : f j = ltF (lruN fp fk n sq q) (lruR fp fk n sq q) j := by
  unfold ltF
  rw [← h.1, if_pos hj]; exact h.2 j hj
theorem lt_out {fp fk f : Nat → Int32} {n : Int32} {sq q m j : Nat} (h : lruA fp fk n sq q m f) (hj : ¬ j < m) : (-6 : Int32) = ltF (lruN fp fk n sq q) (lruR fp fk n sq q) j := by
  unfold ltF
  rw [← h.1, if_neg hj]
theorem lt_A {fp fk f : Nat → Int32} {n : Int32} {sq q m j : Nat} (h : lruA fp fk n sq q m f) : ltF m f j = ltF (lruN fp fk n sq q) (lruR fp fk n sq q) j := by
  by_cases z : j < m
  · rw [← lt_in h z]; unfold ltF; rw [if_pos z]
  · rw [← lt_out h z]; unfold ltF; rw [if_neg z]
