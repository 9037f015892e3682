/-! COLUMNS: of all ways the first one; what class and reference look for -/
def agr (c d : Nat → Int32) (n : Nat) : Prop := ∀ i, i < n → c i = d i
/-- how many columns the NAMES ahead of n take -/
def uN (c : Nat → Int32) : Nat → Nat
  | 0 => 0
  | n + 1 => if (uN c n : Int) < (c n).toInt + 1 then ((c n).toInt + 1).toNat else uN c n
theorem uN_agr {c d : Nat → Int32} : ∀ {n : Nat}, agr c d n → uN c n = uN d n
  | 0, _ => rfl
  | n + 1, h => by
    have ih := uN_agr (c := c) (d := d) (n := n) (fun i hi => h i (by omega))
    show (if (uN c n : Int) < (c n).toInt + 1 then ((c n).toInt + 1).toNat else uN c n) = (if (uN d n : Int) < (d n).toInt + 1 then ((d n).toInt + 1).toNat else uN d n)
    rw [ih, h n (by omega)]
theorem uN_nI {c : Nat → Int32} {n q : Nat} (e : c n = nI q) (hq : q < 2 ^ 31) : uN c (n + 1) = if uN c n < q + 1 then q + 1 else uN c n := by
  show (if (uN c n : Int) < (c n).toInt + 1 then ((c n).toInt + 1).toNat else uN c n) = _
  rw [e, nI_toInt hq]
  by_cases z : uN c n < q + 1
  · rw [if_pos z, if_pos (by omega)]; omega
  · rw [if_neg z, if_neg (by omega)]
theorem uN_m6 {c : Nat → Int32} {n : Nat} (e : c n = -6) : uN c (n + 1) = uN c n := by
  show (if (uN c n : Int) < (c n).toInt + 1 then ((c n).toInt + 1).toNat else uN c n) = _
  rw [e]
  exact if_neg (by have : Int32.toInt (-6) = -6 := (by decide); omega)
/-- NAME n's column goes with those ahead of it -/
def cV (U : Nat → Bool) (K : Nat → Nat → Bool) (lm : Nat) (c : Nat → Int32) (n : Nat) : Prop := (U n = true → ∃ q : Nat, c n = nI q ∧ q < lm ∧ q ≤ uN c n ∧ ∀ o, o < n → K n o = true → ¬ c o = nI q) ∧ (U n = false → c n = -6)
def cVa (U : Nat → Bool) (K : Nat → Nat → Bool) (lm : Nat) (c : Nat → Int32) (a : Nat) : Prop := ∀ n, a ≤ n → n < 8 → cV U K lm c n
theorem cv_agr {U : Nat → Bool} {K : Nat → Nat → Bool} {lm n : Nat} {c d : Nat → Int32} (h : agr c d (n + 1)) (hv : cV U K lm c n) : cV U K lm d n := by
  refine ⟨fun u => ?_, fun u => (h n (by omega)).symm.trans (hv.2 u)⟩
  obtain ⟨q, h1, h2, h3, h4⟩ := hv.1 u
  refine ⟨q, (h n (by omega)).symm.trans h1, h2, ?_, fun o ho k e => h4 o ho k ((h o (by omega)).trans e)⟩
  rw [← uN_agr (c := c) (d := d) (n := n) (fun i hi => h i (by omega))]; exact h3
def cEx (U : Nat → Bool) (K : Nat → Nat → Bool) (lm : Nat) (c : Nat → Int32) (j : Nat) : Prop := ∃ d : Nat → Int32, agr d c j ∧ cVa U K lm d j
def lexL (c d : Nat → Int32) (a : Nat) : Prop := (∀ i, a ≤ i → i < 8 → c i = d i) ∨ ∃ i, a ≤ i ∧ i < 8 ∧ (∀ k, a ≤ k → k < i → c k = d k) ∧ (c i).toInt < (d i).toInt
def cLs (U : Nat → Bool) (K : Nat → Nat → Bool) (lm : Nat) (c : Nat → Int32) (j : Nat) (r : Nat → Int32) : Prop := cVa U K lm r j ∧ ∀ d : Nat → Int32, agr d c j → cVa U K lm d j → lexL r d j
theorem fit_8e {U : Nat → Bool} {K : Nat → Nat → Bool} {lm : Nat} {c : Nat → Int32} : cEx U K lm c 8 := ⟨c, fun _ _ => rfl, fun n h1 h2 => absurd h2 (by omega)⟩
theorem fit_8l {U : Nat → Bool} {K : Nat → Nat → Bool} {lm : Nat} {c : Nat → Int32} : cLs U K lm c 8 c := ⟨fun n h1 h2 => absurd h2 (by omega), fun d _ _ => Or.inl (fun i h1 h2 => absurd h2 (by omega))⟩
theorem agr_rf {c : Nat → Int32} {n : Nat} : agr c c n := fun _ _ => rfl
theorem agr_up {f g : Nat → Int32} {n k : Nat} {x : Int32} (hk : n ≤ k) (e : g = upd f k x) : agr g f n := fun i hi => by rw [e, pk_un (by omega)]
theorem agr_2 {r g f : Nat → Int32} {j : Nat} {x : Int32} (h1 : agr r g (j + 1)) (e : g = upd f j x) : agr r f j := fun i hi => (h1 i (by omega)).trans (agr_up (Nat.le_refl _) e i hi)
theorem agr_3 {r g x f : Nat → Int32} {j : Nat} {v : Int32} (h1 : agr r g (j + 1)) (e : g = upd x j v) (h : agr x f j) : agr r f j := fun i hi => (agr_2 h1 e i hi).trans (h i hi)
theorem lex_st {r d : Nat → Int32} {j : Nat} (e : r j = d j) (h : lexL r d (j + 1)) : lexL r d j := by
  rcases h with h | ⟨i, h1, h2, h3, h4⟩
  · refine Or.inl (fun i h1 h2 => ?_)
    by_cases z : i = j
    · subst z; exact e
    · exact h i (by omega) h2
  · refine Or.inr ⟨i, by omega, h2, fun k k1 k2 => ?_, h4⟩
    by_cases z : k = j
    · subst z; exact e
    · exact h3 k (by omega) k2
/-! the class: a NAME without an ANSWER -/
theorem un_ex {U : Nat → Bool} {K : Nat → Nat → Bool} {lm j : Nat} {f g : Nat → Int32} (hU : U j = false) (e : g = upd f j (-6)) (h : cEx U K lm g (j + 1)) : cEx U K lm f j := by
  obtain ⟨d, h1, h2⟩ := h
  refine ⟨d, agr_2 h1 e, fun n n1 n2 => ?_⟩
  by_cases z : n = j
  · subst z
    exact ⟨fun u => absurd (u.symm.trans hU) (by decide), fun _ => by rw [h1 n (by omega), e]; exact pk_us⟩
  · exact h2 n (by omega) n2
theorem un_ag {U : Nat → Bool} {K : Nat → Nat → Bool} {lm j : Nat} {f g d : Nat → Int32} (hU : U j = false) (e : g = upd f j (-6)) (h1 : agr d f j) (h2 : cV U K lm d j) : agr d g (j + 1) := fun i hi => by
  by_cases z : i = j
  · subst z; rw [h2.2 hU, e, pk_us]
  · rw [h1 i (by omega), e, pk_un z]
theorem un_no {U : Nat → Bool} {K : Nat → Nat → Bool} {lm j : Nat} {f g : Nat → Int32} (hj : j < 8) (hU : U j = false) (e : g = upd f j (-6)) (h : ¬ cEx U K lm g (j + 1)) : ¬ cEx U K lm f j := fun ⟨d, h1, h2⟩ => h ⟨d, un_ag hU e h1 (h2 j (Nat.le_refl _) hj), fun n n1 n2 => h2 n (by omega) n2⟩
theorem un_ls {U : Nat → Bool} {K : Nat → Nat → Bool} {lm j : Nat} {f g r : Nat → Int32} (hj : j < 8) (hU : U j = false) (e : g = upd f j (-6)) (ha : agr r g (j + 1)) (h : cLs U K lm g (j + 1) r) : cLs U K lm f j r := by
  refine ⟨fun n n1 n2 => ?_, fun d d1 d2 => ?_⟩
  · by_cases z : n = j
    · subst z; exact ⟨fun u => absurd (u.symm.trans hU) (by decide), fun _ => by rw [ha n (by omega), e]; exact pk_us⟩
    · exact h.1 n (by omega) n2
  · have hd := un_ag hU e d1 (d2 j (Nat.le_refl _) hj)
    exact lex_st ((ha j (by omega)).trans (hd j (by omega)).symm) (h.2 d hd (fun n n1 n2 => d2 n (by omega) n2))
/-! the class: a NAME with one -/
def cNo (U : Nat → Bool) (K : Nat → Nat → Bool) (lm : Nat) (f : Nat → Int32) (j cq : Nat) : Prop := ∀ d : Nat → Int32, agr d f j → cVa U K lm d j → ∀ q : Nat, q < cq → ¬ d j = nI q
theorem cn_0 {U : Nat → Bool} {K : Nat → Nat → Bool} {lm j : Nat} {f : Nat → Int32} : cNo U K lm f j 0 := fun d _ _ q hq => absurd hq (Nat.not_lt_zero q)
theorem cn_step {U : Nat → Bool} {K : Nat → Nat → Bool} {lm j cq : Nat} {f : Nat → Int32} (h : cNo U K lm f j cq) (hn : ∀ d : Nat → Int32, agr d f j → cVa U K lm d j → ¬ d j = nI cq) : cNo U K lm f j (cq + 1) := fun d d1 d2 q hq => by
  by_cases z : q = cq
  · subst z; exact hn d d1 d2
  · exact h d d1 d2 q (by omega)
theorem cn_busy {U : Nat → Bool} {K : Nat → Nat → Bool} {lm j cq : Nat} {f x : Nat → Int32} (hj : j < 8) (hU : U j = true) (ha : agr x f j) (hb : ∃ o, o < j ∧ K j o = true ∧ x o = nI cq) (h : cNo U K lm f j cq) : cNo U K lm f j (cq + 1) := cn_step h (fun d d1 d2 e => by
  obtain ⟨o, h1, h2, h3⟩ := hb
  obtain ⟨q, q1, _, _, q4⟩ := (d2 j (Nat.le_refl _) hj).1 hU
  exact q4 o h1 h2 ((d1 o h1).trans ((ha o h1).symm.trans (h3.trans (e.symm.trans q1)))))
theorem cn_ag {j cq : Nat} {f g x d : Nat → Int32} (ha : agr x f j) (e : g = upd x j (nI cq)) (d1 : agr d f j) (dj : d j = nI cq) : agr d g (j + 1) := fun i hi => by
  by_cases z : i = j
  · subst z; rw [dj, e, pk_us]
  · rw [d1 i (by omega), ← ha i (by omega), e, pk_un z]
theorem cn_fail {U : Nat → Bool} {K : Nat → Nat → Bool} {lm j cq : Nat} {f g x : Nat → Int32} (ha : agr x f j) (e : g = upd x j (nI cq)) (hn : ¬ cEx U K lm g (j + 1)) (h : cNo U K lm f j cq) : cNo U K lm f j (cq + 1) := cn_step h (fun d d1 d2 dj => hn ⟨d, cn_ag ha e d1 dj, fun n n1 n2 => d2 n (by omega) n2⟩)
theorem cn_end {U : Nat → Bool} {K : Nat → Nat → Bool} {lm j cq : Nat} {f : Nat → Int32} {us : Int32} (hj : j < 8) (hU : U j = true) (hus : us.toInt = (uN f j : Int)) (h : cNo U K lm f j cq) (hx : us.toInt < (cq : Int) ∨ lm ≤ cq) : ¬ cEx U K lm f j := fun ⟨d, d1, d2⟩ => by
  obtain ⟨q, q1, q2, q3, _⟩ := (d2 j (Nat.le_refl _) hj).1 hU
  rw [uN_agr d1] at q3
  exact h d d1 d2 q (by omega) q1
theorem cn_val {U : Nat → Bool} {K : Nat → Nat → Bool} {lm j cq : Nat} {f g x r : Nat → Int32} {us : Int32} (hU : U j = true) (hus : us.toInt = (uN f j : Int)) (hq : (cq : Int) ≤ us.toInt) (hl : cq < lm) (ha : agr x f j) (e : g = upd x j (nI cq)) (hf : ∀ o, o < j → K j o = true → ¬ x o = nI cq) (hr : agr r g (j + 1)) (hv : cVa U K lm r (j + 1)) : cVa U K lm r j := fun n n1 n2 => by
  by_cases z : n = j
  · subst z
    refine ⟨fun _ => ⟨cq, by rw [hr n (by omega), e, pk_us], hl, ?_, fun o ho k y => hf o ho k ?_⟩, fun u => absurd (hU.symm.trans u) (by decide)⟩
    · rw [uN_agr (agr_3 hr e ha)]; omega
    · rw [← y, hr o (by omega), e, pk_un (by omega)]
  · exact hv n (by omega) n2
theorem cn_okE {U : Nat → Bool} {K : Nat → Nat → Bool} {lm j cq : Nat} {f g x : Nat → Int32} {us : Int32} (hU : U j = true) (hus : us.toInt = (uN f j : Int)) (hq : (cq : Int) ≤ us.toInt) (hl : cq < lm) (ha : agr x f j) (e : g = upd x j (nI cq)) (hf : ∀ o, o < j → K j o = true → ¬ x o = nI cq) (h : cEx U K lm g (j + 1)) : cEx U K lm f j := by
  obtain ⟨d, d1, d2⟩ := h
  exact ⟨d, agr_3 d1 e ha, cn_val hU hus hq hl ha e hf d1 d2⟩
theorem cn_ok {U : Nat → Bool} {K : Nat → Nat → Bool} {lm j cq : Nat} {f g x r : Nat → Int32} {us : Int32} (hj : j < 8) (hlm : lm ≤ 8) (hU : U j = true) (hus : us.toInt = (uN f j : Int)) (hq : (cq : Int) ≤ us.toInt) (hl : cq < lm) (ha : agr x f j) (e : g = upd x j (nI cq)) (hf : ∀ o, o < j → K j o = true → ¬ x o = nI cq) (hno : cNo U K lm f j cq) (hr : agr r g (j + 1)) (h : cLs U K lm g (j + 1) r) : cLs U K lm f j r := by
  refine ⟨cn_val hU hus hq hl ha e hf hr h.1, fun d d1 d2 => ?_⟩
  obtain ⟨q, q1, q2, _, _⟩ := (d2 j (Nat.le_refl _) hj).1 hU
  have rj : r j = nI cq := by rw [hr j (by omega), e, pk_us]
  rcases Nat.lt_trichotomy q cq with z | z | z
  · exact absurd q1 (hno d d1 d2 q z)
  · subst z
    exact lex_st (rj.trans q1.symm) (h.2 d (cn_ag ha e d1 q1) (fun n n1 n2 => d2 n (by omega) n2))
  · refine Or.inr ⟨j, Nat.le_refl _, hj, fun k k1 k2 => absurd k2 (by omega), ?_⟩
    rw [rj, q1, nI_toInt (by omega), nI_toInt (by omega)]; omega
theorem uN_max {f g x : Nat → Int32} {j cq : Nat} {us z : Int32} (hus : us.toInt = (uN f j : Int)) (ha : agr x f j) (e : g = upd x j (nI cq)) (hc : cq ≤ 100) (hz : (us.toInt < ((cq + 1 : Nat) : Int) ∧ z.toInt = ((cq + 1 : Nat) : Int)) ∨ (((cq + 1 : Nat) : Int) ≤ us.toInt ∧ z.toInt = us.toInt)) : z.toInt = (uN g (j + 1) : Int) := by
  rw [uN_nI (c := g) (n := j) (q := cq) (by rw [e, pk_us]) (by omega), uN_agr (c := g) (d := f) (n := j) (fun i hi => by rw [e, pk_un (by omega)]; exact ha i hi)]
  by_cases w : uN f j < cq + 1
  · rw [if_pos w]; omega
  · rw [if_neg w]; omega
theorem uN_un {f g : Nat → Int32} {j : Nat} {us : Int32} (hus : us.toInt = (uN f j : Int)) (e : g = upd f j (-6)) : us.toInt = (uN g (j + 1) : Int) := by
  rw [uN_m6 (c := g) (n := j) (by rw [e, pk_us]), uN_agr (c := g) (d := f) (n := j) (agr_up (Nat.le_refl _) e)]; exact hus
/-! the fewest columns, and the first way with so many -/
def cE0 (U : Nat → Bool) (K : Nat → Nat → Bool) (q : Nat) : Prop := ∃ d : Nat → Int32, cVa U K q d 0
def cL0 (U : Nat → Bool) (K : Nat → Nat → Bool) (q : Nat) (r : Nat → Int32) : Prop := cVa U K q r 0 ∧ ∀ d : Nat → Int32, cVa U K q d 0 → lexL r d 0
theorem e0_of {U : Nat → Bool} {K : Nat → Nat → Bool} {q : Nat} {c : Nat → Int32} (h : cEx U K q c 0) : cE0 U K q := by
  obtain ⟨d, _, h2⟩ := h; exact ⟨d, h2⟩
theorem e0_to {U : Nat → Bool} {K : Nat → Nat → Bool} {q : Nat} {c : Nat → Int32} (h : cE0 U K q) : cEx U K q c 0 := by
  obtain ⟨d, h2⟩ := h; exact ⟨d, fun i hi => absurd hi (Nat.not_lt_zero i), h2⟩
theorem l0_of {U : Nat → Bool} {K : Nat → Nat → Bool} {q : Nat} {c r : Nat → Int32} (h : cLs U K q c 0 r) : cL0 U K q r := ⟨h.1, fun d hd => h.2 d (fun i hi => absurd hi (Nat.not_lt_zero i)) hd⟩
def CMin (U : Nat → Bool) (K : Nat → Nat → Bool) (q : Nat) : Prop := cE0 U K q ∧ ∀ p, p < q → ¬ cE0 U K p
theorem cm_uni {U : Nat → Bool} {K : Nat → Nat → Bool} {p q : Nat} (h : CMin U K p) (h' : CMin U K q) : p = q := by
  rcases Nat.lt_trichotomy p q with z | z | z
  · exact absurd h.1 (h'.2 p z)
  · exact z
  · exact absurd h'.1 (h.2 q z)
theorem lex_anti {c d : Nat → Int32} (h : lexL c d 0) (h' : lexL d c 0) : ∀ i, i < 8 → c i = d i := by
  rcases h with h | ⟨i, _, i2, i3, i4⟩
  · exact fun i hi => h i (Nat.zero_le _) hi
  · rcases h' with h' | ⟨k, _, k2, k3, k4⟩
    · have := h' i (Nat.zero_le _) i2
      rw [this] at i4; omega
    · rcases Nat.lt_trichotomy i k with z | z | z
      · have := k3 i (Nat.zero_le _) z
        rw [this] at i4; omega
      · subst z; omega
      · have := i3 k (Nat.zero_le _) z
        rw [this] at k4; omega
theorem l0_uni {U : Nat → Bool} {K : Nat → Nat → Bool} {q : Nat} {r r' : Nat → Int32} (h : cL0 U K q r) (h' : cL0 U K q r') : ∀ i, i < 8 → r i = r' i := lex_anti (h.2 r' h'.1) (h'.2 r h.1)
noncomputable def clN (U : Nat → Bool) (K : Nat → Nat → Bool) : Nat := Classical.epsilon (fun q : Nat => CMin U K q)
noncomputable def clC (U : Nat → Bool) (K : Nat → Nat → Bool) : Nat → Int32 := Classical.epsilon (fun c : Nat → Int32 => cL0 U K (clN U K) c)
theorem cln_is {U : Nat → Bool} {K : Nat → Nat → Bool} {q : Nat} (h : CMin U K q) : q = clN U K := cm_uni h (Classical.epsilon_spec (p := fun q : Nat => CMin U K q) ⟨q, h⟩)
theorem clc_is {U : Nat → Bool} {K : Nat → Nat → Bool} {q : Nat} {c : Nat → Int32} (hq : CMin U K q) (h : cL0 U K q c) : ∀ i, i < 8 → c i = clC U K i := by
  have e := cln_is hq
  rw [e] at h
  exact l0_uni h (Classical.epsilon_spec (p := fun c : Nat → Int32 => cL0 U K (clN U K) c) ⟨c, h⟩)
/-! eight columns always do -/
theorem cnt_up {U : Nat → Bool} {o : Nat} (hu : U o = true) : ∀ {n : Nat}, o < n → cnt U o < cnt U n
  | 0, h => absurd h (Nat.not_lt_zero o)
  | n + 1, h => by
    show cnt U o < cnt U n + (if U n = true then 1 else 0)
    by_cases z : o = n
    · subst z; rw [if_pos hu]; omega
    · have := cnt_up hu (n := n) (by omega)
      omega
def d8 (U : Nat → Bool) : Nat → Int32 := fun n => if U n = true then nI (cnt U n) else -6
theorem uN_d8 {U : Nat → Bool} : ∀ {n : Nat}, n ≤ 8 → uN (d8 U) n = cnt U n
  | 0, _ => rfl
  | n + 1, h => by
    have ih := uN_d8 (U := U) (n := n) (by omega)
    have hc : cnt U n ≤ n := cnt_le
    show _ = cnt U n + (if U n = true then 1 else 0)
    by_cases z : U n = true
    · rw [uN_nI (q := cnt U n) (if_pos z) (by omega), ih, if_pos (by omega), if_pos z]
    · rw [uN_m6 (if_neg z), ih, if_neg z]; omega
theorem e0_8 {U : Nat → Bool} {K : Nat → Nat → Bool} : cE0 U K 8 := by
  refine ⟨d8 U, fun n _ hn => ⟨fun u => ⟨cnt U n, if_pos u, ?_, ?_, fun o ho _ e => ?_⟩, fun u => if_neg (by rw [u]; decide)⟩⟩
  · have hc : cnt U n ≤ n := cnt_le
    omega
  · rw [uN_d8 (by omega)]; exact Nat.le_refl _
  · have hc : cnt U n ≤ n := cnt_le
    have ho' : cnt U o ≤ o := cnt_le
    by_cases z : U o = true
    · have e : nI (cnt U o) = nI (cnt U n) := (if_pos z).symm.trans e
      have := nz_eq (by omega) (by omega) e
      have := cnt_up z ho
      omega
    · have e : (-6 : Int32) = nI (cnt U n) := (if_neg z).symm.trans e
      exact nI_ne6 (by omega) e.symm
theorem ne_8 {U : Nat → Bool} {K : Nat → Nat → Bool} {q : Nat} (h : ¬ cE0 U K q) : ¬ q = 8 := fun z => h (by rw [z]; exact e0_8)
/-! they hang on who is used and who stands against whom alone -/
theorem cva_cg {U V : Nat → Bool} {K J : Nat → Nat → Bool} {q : Nat} {d : Nat → Int32} (hU : ∀ n, n < 8 → U n = V n) (hK : ∀ n o, n < 8 → o < n → K n o = J n o) (h : cVa U K q d 0) : cVa V J q d 0 := fun n n1 n2 => by
  have hn := h n n1 n2
  refine ⟨fun u => ?_, fun u => hn.2 ((hU n n2).trans u)⟩
  obtain ⟨p, h1, h2, h3, h4⟩ := hn.1 ((hU n n2).trans u)
  exact ⟨p, h1, h2, h3, fun o ho k => h4 o ho ((hK n o n2 ho).trans k)⟩
theorem cva_iff {U V : Nat → Bool} {K J : Nat → Nat → Bool} {q : Nat} {d : Nat → Int32} (hU : ∀ n, n < 8 → U n = V n) (hK : ∀ n o, n < 8 → o < n → K n o = J n o) : cVa U K q d 0 = cVa V J q d 0 := propext ⟨cva_cg hU hK, cva_cg (fun n hn => (hU n hn).symm) (fun n o hn ho => (hK n o hn ho).symm)⟩
theorem e0_cg {U V : Nat → Bool} {K J : Nat → Nat → Bool} {q : Nat} (hU : ∀ n, n < 8 → U n = V n) (hK : ∀ n o, n < 8 → o < n → K n o = J n o) : cE0 U K q = cE0 V J q := by
  unfold cE0
  exact congrArg Exists (funext (fun d => cva_iff hU hK))
theorem l0_cg {U V : Nat → Bool} {K J : Nat → Nat → Bool} {q : Nat} {r : Nat → Int32} (hU : ∀ n, n < 8 → U n = V n) (hK : ∀ n o, n < 8 → o < n → K n o = J n o) : cL0 U K q r = cL0 V J q r := propext ⟨fun h => ⟨cva_cg hU hK h.1, fun d hd => h.2 d (by rw [cva_iff hU hK]; exact hd)⟩, fun h => ⟨by rw [cva_iff hU hK]; exact h.1, fun d hd => h.2 d (cva_cg hU hK hd)⟩⟩
theorem cm_cg {U V : Nat → Bool} {K J : Nat → Nat → Bool} {q : Nat} (hU : ∀ n, n < 8 → U n = V n) (hK : ∀ n o, n < 8 → o < n → K n o = J n o) : CMin U K q = CMin V J q := propext ⟨fun h => ⟨by rw [← e0_cg hU hK]; exact h.1, fun p hp => by rw [← e0_cg hU hK]; exact h.2 p hp⟩, fun h => ⟨by rw [e0_cg hU hK]; exact h.1, fun p hp => by rw [e0_cg hU hK]; exact h.2 p hp⟩⟩
theorem cln_cg {U V : Nat → Bool} {K J : Nat → Nat → Bool} (hU : ∀ n, n < 8 → U n = V n) (hK : ∀ n o, n < 8 → o < n → K n o = J n o) : clN U K = clN V J := by
  unfold clN
  rw [show (fun q : Nat => CMin U K q) = (fun q : Nat => CMin V J q) from funext (fun q => cm_cg hU hK)]
theorem clc_cg {U V : Nat → Bool} {K J : Nat → Nat → Bool} (hU : ∀ n, n < 8 → U n = V n) (hK : ∀ n o, n < 8 → o < n → K n o = J n o) : clC U K = clC V J := by
  unfold clC
  rw [cln_cg hU hK, show (fun c : Nat → Int32 => cL0 U K (clN V J) c) = (fun c : Nat → Int32 => cL0 V J (clN V J) c) from funext (fun c => l0_cg hU hK)]
theorem cl_end {U V : Nat → Bool} {K J : Nat → Nat → Bool} {q : Nat} {c : Nat → Int32} (hU : ∀ n, n < 8 → U n = V n) (hK : ∀ n o, n < 8 → o < n → K n o = J n o) (hn : ∀ p, p < q → ¬ cE0 U K p) (he : cE0 U K q) (hl : cL0 U K q c) : q = clN V J ∧ ∀ i, i < 8 → c i = clC V J i := by
  have hq : CMin U K q := ⟨he, hn⟩
  rw [← cln_cg hU hK, ← clc_cg hU hK]
  exact ⟨cln_is hq, clc_is hq hl⟩
/-! who is used, who stands against whom: by the rows -/
def anyB (P : Nat → Bool) : Nat → Bool
  | 0 => false
  | k + 1 => anyB P k || P k
theorem any_iff {P : Nat → Bool} : ∀ {m : Nat}, anyB P m = true ↔ ∃ k, k < m ∧ P k = true
  | 0 => ⟨fun h => absurd (show false = true from h) (by decide), fun ⟨k, h, _⟩ => absurd h (Nat.not_lt_zero k)⟩
  | m + 1 => by
    have ih := any_iff (P := P) (m := m)
    show (anyB P m || P m) = true ↔ _
    rw [Bool.or_eq_true, ih]
    constructor
    · rintro (⟨k, h1, h2⟩ | h)
      · exact ⟨k, by omega, h2⟩
      · exact ⟨m, by omega, h⟩
    · rintro ⟨k, h1, h2⟩
      by_cases z : k = m
      · subst z; exact Or.inr h2
      · exact Or.inl ⟨k, by omega, h2⟩
theorem any_ext {P Q : Nat → Bool} {m n : Nat} (hmn : m ≤ n) (h1 : ∀ k, k < m → P k = Q k) (h2 : ∀ k, m ≤ k → k < n → P k = false) : anyB P n = anyB Q m := by
  rw [Bool.eq_iff_iff, any_iff, any_iff]
  constructor
  · rintro ⟨k, k1, k2⟩
    by_cases z : k < m
    · exact ⟨k, z, by rw [← h1 k z]; exact k2⟩
    · exact absurd (k2.symm.trans (h2 k (by omega) k1)) (by decide)
  · rintro ⟨k, k1, k2⟩
    exact ⟨k, by omega, by rw [h1 k k1]; exact k2⟩
def UR (R : Nat → Int32) (m n : Nat) : Bool := anyB (fun k => bt (R k) n) m
def KR (R : Nat → Int32) (m n o : Nat) : Bool := anyB (fun k => bt (R k) n && bt (R k) o) m
theorem ur_ext {R S : Nat → Int32} {m n x : Nat} (hmn : m ≤ n) (h1 : ∀ k, k < m → R k = S k) (h2 : ∀ k, m ≤ k → k < n → R k = 0) : UR R n x = UR S m x := any_ext hmn (fun k hk => by rw [h1 k hk]) (fun k k1 k2 => by rw [h2 k k1 k2]; exact b_0 x)
theorem kr_ext {R S : Nat → Int32} {m n x y : Nat} (hmn : m ≤ n) (h1 : ∀ k, k < m → R k = S k) (h2 : ∀ k, m ≤ k → k < n → R k = 0) : KR R n x y = KR S m x y := any_ext hmn (fun k hk => by rw [h1 k hk]) (fun k k1 k2 => by rw [h2 k k1 k2, b_0]; rfl)
def kB (f : Nat → Int32) : Nat → Nat → Bool := fun n o => bt (f n) o
def uC (f : Nat → Int32) : Nat → Bool := fun n => !decide (f n = 0)
theorem uc_t {f : Nat → Int32} {n : Nat} (h : ¬ f n = 0) : uC f n = true := by unfold uC; rw [decide_eq_false h]; rfl
theorem uc_f {f : Nat → Int32} {n : Nat} (h : f n = 0) : uC f n = false := by unfold uC; rw [decide_eq_true h]; rfl
/-- the class's NAMES together with a NAME -/
def tgF (R : Nat → Int32) (n : Nat) : Nat → Int32
  | 0 => 0
  | k + 1 => if bt (R k) n = true then tgF R n k ||| R k else tgF R n k
theorem b_tg {R : Nat → Int32} {n o : Nat} : ∀ {k : Nat}, bt (tgF R n k) o = KR R k n o
  | 0 => b_0 o
  | k + 1 => by
    have ih := b_tg (R := R) (n := n) (o := o) (k := k)
    show bt (if bt (R k) n = true then tgF R n k ||| R k else tgF R n k) o = (KR R k n o || (bt (R k) n && bt (R k) o))
    by_cases z : bt (R k) n = true
    · rw [if_pos z, b_or, ih, z, Bool.true_and]
    · rw [if_neg z, ih, bF z, Bool.false_and, Bool.or_false]
theorem tg_0 {R : Nat → Int32} {n : Nat} : ∀ {k : Nat}, UR R k n = false → tgF R n k = 0
  | 0, _ => rfl
  | k + 1, h => by
    have h : (UR R k n || bt (R k) n) = false := h
    rw [Bool.or_eq_false_iff] at h
    show (if bt (R k) n = true then tgF R n k ||| R k else tgF R n k) = 0
    rw [if_neg (by rw [h.2]; decide)]; exact tg_0 h.1
theorem tg_u {f R : Nat → Int32} {n k : Nat} (e : f n = tgF R n k) : uC f n = UR R k n := by
  cases h : UR R k n with
  | false => exact uc_f (e.trans (tg_0 h))
  | true =>
    refine uc_t (fun z => ?_)
    obtain ⟨i, h1, h2⟩ := any_iff.mp h
    have : bt (tgF R n k) n = true := by rw [b_tg]; exact any_iff.mpr ⟨i, h1, by rw [h2]; rfl⟩
    rw [← e, z, b_0] at this
    exact absurd this (by decide)
theorem tg_end {R ft c : Nat → Int32} {q m : Nat} (h : ∀ i, i < 8 → ft i = tgF R i m) (hn : ∀ p, p < q → ¬ cE0 (uC ft) (kB ft) p) (he : cE0 (uC ft) (kB ft) q) (hl : cL0 (uC ft) (kB ft) q c) : q = clN (UR R m) (KR R m) ∧ ∀ i, i < 8 → c i = clC (UR R m) (KR R m) i :=
  cl_end (fun n hn' => tg_u (h n hn')) (fun n o hn' _ => by unfold kB; rw [h n hn', b_tg]) hn he hl
/-- the reference's -/
def usF (R : Nat → Int32) : Nat → Int32
  | 0 => 0
  | k + 1 => usF R k ||| R k
theorem b_us {R : Nat → Int32} {n : Nat} : ∀ {k : Nat}, bt (usF R k) n = UR R k n
  | 0 => b_0 n
  | k + 1 => by
    have ih := b_us (R := R) (n := n) (k := k)
    show bt (usF R k ||| R k) n = (UR R k n || bt (R k) n)
    rw [b_or, ih]
def agF (R : Nat → Int32) (n : Nat) : Nat → Int32
  | 0 => 0
  | k + 1 => agF R n k ||| (if bt (R k) n = true then R k &&& (((1 : Int32) <<< (nI n &&& 31)) ^^^ (-1)) else 0)
theorem b_ag {R : Nat → Int32} {n o : Nat} (hn : n < 32) (ho : o < 32) (hne : o ≠ n) : ∀ {k : Nat}, bt (agF R n k) o = KR R k n o
  | 0 => b_0 o
  | k + 1 => by
    have ih := b_ag (R := R) hn ho hne (k := k)
    show bt (agF R n k ||| (if bt (R k) n = true then R k &&& (((1 : Int32) <<< (nI n &&& 31)) ^^^ (-1)) else 0)) o = (KR R k n o || (bt (R k) n && bt (R k) o))
    rw [b_or, ih]
    by_cases z : bt (R k) n = true
    · rw [if_pos z, b_clr hn ho, z, decide_eq_false hne, Bool.true_and]; cases bt (R k) o <;> rfl
    · rw [if_neg z, b_0, bF z, Bool.false_and]
theorem ag_end {R fag c : Nat → Int32} {us : Int32} {q m : Nat} (hu : us = usF R m) (h : ∀ i, i < 8 → fag i = agF R i m) (hn : ∀ p, p < q → ¬ cE0 (bt us) (kB fag) p) (he : cE0 (bt us) (kB fag) q) (hl : cL0 (bt us) (kB fag) q c) : q = clN (UR R m) (KR R m) ∧ ∀ i, i < 8 → c i = clC (UR R m) (KR R m) i :=
  cl_end (fun n _ => by rw [hu, b_us]) (fun n o hn' ho => by unfold kB; rw [h n hn', b_ag (by omega) (by omega) (by omega)]) hn he hl
/-! the reference: down and up -/
def gtx (d c : Nat → Int32) (m : Nat) : Prop := ∃ i, i < m ∧ agr d c i ∧ (c i).toInt < (d i).toInt
theorem gtx_ag {d c g : Nat → Int32} {m n : Nat} (hm : m ≤ n) (ha : agr g c m) (h : gtx d c m) : gtx d g n := by
  obtain ⟨i, h1, h2, h3⟩ := h
  exact ⟨i, by omega, fun k hk => (h2 k hk).trans (ha k (by omega)).symm, by rw [ha i h1]; exact h3⟩
def RfI (U : Nat → Bool) (K : Nat → Nat → Bool) (lm : Nat) (c : Nat → Int32) (cm : Nat) (dn : Int32) : Prop := (∀ i, i < cm → cV U K lm c i) ∧ (dn = 1 → ∀ d : Nat → Int32, cVa U K lm d 0 → agr d c cm ∨ gtx d c cm) ∧ (dn = 0 → ∀ d : Nat → Int32, cVa U K lm d 0 → gtx d c cm)
def RfL (U : Nat → Bool) (K : Nat → Nat → Bool) (lm : Nat) (c : Nat → Int32) (n low : Nat) : Prop := (∀ i, i < n → cV U K lm c i) ∧ ∀ d : Nat → Int32, cVa U K lm d 0 → gtx d c n ∨ (agr d c n ∧ ∀ q : Nat, d n = nI q → low ≤ q)
def BzP (K : Nat → Nat → Bool) (c : Nat → Int32) (n low q : Nat) : Prop := ∀ p, low ≤ p → p < q → ∃ o, o < n ∧ K n o = true ∧ c o = nI p
theorem bz_0 {K : Nat → Nat → Bool} {c : Nat → Int32} {n low : Nat} : BzP K c n low low := fun p h1 h2 => absurd h2 (by omega)
theorem bz_st {K : Nat → Nat → Bool} {c g : Nat → Int32} {n low q : Nat} (h : BzP K c n low q) (ha : ∀ i, i < n → g i = c i) (e : g n = nI q) (hx : ∃ o, o < n ∧ K n o = true ∧ g o = g n) : BzP K c n low (q + 1) := fun p h1 h2 => by
  by_cases z : p = q
  · subst z
    obtain ⟨o, o1, o2, o3⟩ := hx
    exact ⟨o, o1, o2, (ha o o1).symm.trans (o3.trans e)⟩
  · exact h p h1 (by omega)
theorem rf_0 {U : Nat → Bool} {K : Nat → Nat → Bool} {lm : Nat} {c : Nat → Int32} : RfI U K lm c 0 1 := ⟨fun i hi => absurd hi (Nat.not_lt_zero i), fun _ d _ => Or.inl (fun i hi => absurd hi (Nat.not_lt_zero i)), fun h => absurd h (by decide)⟩
theorem rf_l1 {U : Nat → Bool} {K : Nat → Nat → Bool} {lm n : Nat} {c : Nat → Int32} (h : RfI U K lm c n 1) : RfL U K lm c n 0 := ⟨h.1, fun d hd => by
  rcases h.2.1 rfl d hd with q | q
  · exact Or.inr ⟨q, fun _ _ => Nat.zero_le _⟩
  · exact Or.inl q⟩
theorem rf_l0 {U : Nat → Bool} {K : Nat → Nat → Bool} {lm n c9 : Nat} {c : Nat → Int32} (h : RfI U K lm c (n + 1) 0) (e : c n = nI c9) (h9 : c9 ≤ 100) : RfL U K lm c n (c9 + 1) := ⟨fun i hi => h.1 i (by omega), fun d hd => by
  obtain ⟨i, h1, h2, h3⟩ := h.2.2 rfl d hd
  by_cases z : i = n
  · subst z
    refine Or.inr ⟨h2, fun q hq => ?_⟩
    by_cases w : q < 2 ^ 31
    · rw [e, hq, nI_toInt (by omega), nI_toInt w] at h3; omega
    · omega
  · exact Or.inl ⟨i, by omega, h2, h3⟩⟩
theorem rf_ok {U : Nat → Bool} {K : Nat → Nat → Bool} {lm n low q : Nat} {c g : Nat → Int32} (h : RfL U K lm c n low) (hn : n < 8) (hlm : lm ≤ 8) (hU : U n = true) (ha : ∀ i, i < n → g i = c i) (e : g n = nI q) (hq : q < lm) (hu : q ≤ uN c n) (hf : ∀ o, o < n → K n o = true → ¬ g o = g n) (hb : BzP K c n low q) : RfI U K lm g (n + 1) 1 := by
  have ha' : agr g c n := ha
  refine ⟨fun i hi => ?_, fun _ d hd => ?_, fun z => absurd z (by decide)⟩
  · by_cases z : i = n
    · subst z
      refine ⟨fun _ => ⟨q, e, hq, by rw [uN_agr ha']; exact hu, fun o ho k y => hf o ho k (y.trans e.symm)⟩, fun u => absurd (hU.symm.trans u) (by decide)⟩
    · exact cv_agr (fun k hk => (ha k (by omega)).symm) (h.1 i (by omega))
  · rcases h.2 d hd with z | ⟨z, z2⟩
    · exact Or.inr (gtx_ag (by omega) ha' z)
    · obtain ⟨p, p1, p2, p3, p4⟩ := (hd n (Nat.zero_le _) hn).1 hU
      rcases Nat.lt_trichotomy p q with w | w | w
      · obtain ⟨o, o1, o2, o3⟩ := hb p (z2 p p1) w
        exact absurd ((z o o1).trans o3) (p4 o o1 o2)
      · subst w
        refine Or.inl (fun i hi => ?_)
        by_cases y : i = n
        · subst y; exact p1.trans e.symm
        · exact (z i (by omega)).trans (ha i (by omega)).symm
      · refine Or.inr ⟨n, by omega, fun i hi => (z i hi).trans (ha i hi).symm, ?_⟩
        rw [e, p1, nI_toInt (by omega), nI_toInt (by omega)]; omega
theorem rf_end {U : Nat → Bool} {K : Nat → Nat → Bool} {lm n low q : Nat} {c g : Nat → Int32} (h : RfL U K lm c n low) (hn : n < 8) (hU : U n = true) (ha : ∀ i, i < n → g i = c i) (hb : BzP K c n low q) (hx : lm ≤ q ∨ uN c n < q) : RfI U K lm g n 0 := by
  have ha' : agr g c n := ha
  refine ⟨fun i hi => cv_agr (fun k hk => (ha k (by omega)).symm) (h.1 i hi), fun z => absurd z (by decide), fun _ d hd => ?_⟩
  rcases h.2 d hd with z | ⟨z, z2⟩
  · exact gtx_ag (Nat.le_refl _) ha' z
  · obtain ⟨p, p1, p2, p3, p4⟩ := (hd n (Nat.zero_le _) hn).1 hU
    rw [uN_agr z] at p3
    obtain ⟨o, o1, o2, o3⟩ := hb p (z2 p p1) (by omega)
    exact absurd ((z o o1).trans o3) (p4 o o1 o2)
theorem rf_un1 {U : Nat → Bool} {K : Nat → Nat → Bool} {lm n : Nat} {c g : Nat → Int32} (h : RfI U K lm c n 1) (hn : n < 8) (hU : U n = false) (ha : ∀ i, i < n → g i = c i) (e : g n = -6) : RfI U K lm g (n + 1) 1 := by
  refine ⟨fun i hi => ?_, fun _ d hd => ?_, fun z => absurd z (by decide)⟩
  · by_cases z : i = n
    · subst z; exact ⟨fun u => absurd (u.symm.trans hU) (by decide), fun _ => e⟩
    · exact cv_agr (fun k hk => (ha k (by omega)).symm) (h.1 i (by omega))
  · rcases h.2.1 rfl d hd with z | z
    · refine Or.inl (fun i hi => ?_)
      by_cases y : i = n
      · subst y; rw [(hd i (Nat.zero_le _) hn).2 hU, e]
      · exact (z i (by omega)).trans (ha i (by omega)).symm
    · exact Or.inr (gtx_ag (by omega) ha z)
theorem rf_un0 {U : Nat → Bool} {K : Nat → Nat → Bool} {lm n : Nat} {c g : Nat → Int32} (h : RfI U K lm c (n + 1) 0) (hn : n < 8) (hU : U n = false) (ha : ∀ i, i < n → g i = c i) : RfI U K lm g n 0 := by
  refine ⟨fun i hi => cv_agr (fun k hk => (ha k (by omega)).symm) (h.1 i (by omega)), fun z => absurd z (by decide), fun _ d hd => ?_⟩
  obtain ⟨i, h1, h2, h3⟩ := h.2.2 rfl d hd
  by_cases z : i = n
  · subst z
    rw [(hd i (Nat.zero_le _) hn).2 hU, (h.1 i (by omega)).2 hU] at h3; omega
  · exact gtx_ag (Nat.le_refl _) ha ⟨i, by omega, h2, h3⟩
theorem rf_none {U : Nat → Bool} {K : Nat → Nat → Bool} {lm cm : Nat} {c : Nat → Int32} (h : RfI U K lm c cm 0) (hc : cm = 0) : ¬ cE0 U K lm := fun ⟨d, hd⟩ => by
  obtain ⟨i, h1, _⟩ := h.2.2 rfl d hd
  omega
theorem rf_all {U : Nat → Bool} {K : Nat → Nat → Bool} {lm cm : Nat} {c : Nat → Int32} (h : RfI U K lm c cm 1) (hc : cm = 8) : cE0 U K lm ∧ cL0 U K lm c := by
  subst hc
  have hv : cVa U K lm c 0 := fun n _ hn => h.1 n hn
  refine ⟨⟨c, hv⟩, hv, fun d hd => ?_⟩
  rcases h.2.1 rfl d hd with z | ⟨i, h1, h2, h3⟩
  · exact Or.inl (fun i _ hi => (z i hi).symm)
  · exact Or.inr ⟨i, Nat.zero_le _, h1, fun k _ hk => (h2 k hk).symm, h3⟩
def F_col (r : Int32) (c : Nat → Int32) (n : Int32) : Int32 := if n.toInt = -1 then r else if 0 ≤ n.toInt ∧ n.toInt ≤ 7 then c n.toNatClampNeg else -1
/-! steps of the loops -/
theorem tg_yes {fr ftx fty g : Nat → Int32} {k j : Nat} (h : fty = upd ftx k (tgF fr k j)) (hb : bt (fr j) k = true) (e : g = upd fty k (fty k ||| fr j)) : g = upd ftx k (tgF fr k (j + 1)) := by
  have hs : tgF fr k (j + 1) = tgF fr k j ||| fr j := if_pos hb
  rw [e, h, pk_us, hs]
  funext i
  by_cases z : i = k
  · subst z; rw [pk_us, pk_us]
  · rw [pk_un z, pk_un z, pk_un z]
theorem tg_no {fr ftx fty : Nat → Int32} {k j : Nat} (h : fty = upd ftx k (tgF fr k j)) (hb : bt (fr j) k = false) : fty = upd ftx k (tgF fr k (j + 1)) := by
  have hs : tgF fr k (j + 1) = tgF fr k j := if_neg (by rw [hb]; decide)
  rw [hs]; exact h
theorem tg_set {fr ftx fty : Nat → Int32} {k j : Nat} (h : ∀ i, i < k → ftx i = tgF fr i 10) (e : fty = upd ftx k (tgF fr k j)) (hj : j = 10) : ∀ i, i < k + 1 → fty i = tgF fr i 10 := by
  subst hj
  intro i hi
  by_cases z : i = k
  · subst z; rw [e, pk_us]
  · rw [e, pk_un z]; exact h i (by omega)
theorem fe_ne {f : Nat → Int32} {x n : Int32} {k : Nat} (h : ∀ o, o < k → bt x o = true → ¬ f o = n) (hk : ¬ f k = n) : ∀ o, o < k + 1 → bt x o = true → ¬ f o = n := fun o ho hb => by
  by_cases z : o = k
  · subst z; exact hk
  · exact h o (by omega) hb
theorem fe_no {f : Nat → Int32} {x n : Int32} {k : Nat} (h : ∀ o, o < k → bt x o = true → ¬ f o = n) (hk : bt x k = false) : ∀ o, o < k + 1 → bt x o = true → ¬ f o = n := fun o ho hb => by
  by_cases z : o = k
  · subst z; exact absurd (hb.symm.trans hk) (by decide)
  · exact h o (by omega) hb
theorem nol_st {A : Nat → Prop} {k : Nat} (h : ∀ p, p < k → ¬ A p) (hk : ¬ A k) : ∀ p, p < k + 1 → ¬ A p := fun p hp => by
  by_cases z : p = k
  · subst z; exact hk
  · exact h p (by omega)
theorem cl_row {R S : Nat → Int32} {m : Nat} (h : ∀ k, k < m → R k = S k) : clN (UR R m) (KR R m) = clN (UR S m) (KR S m) ∧ clC (UR R m) (KR R m) = clC (UR S m) (KR S m) := by
  have hU : ∀ n, n < 8 → UR R m n = UR S m n := fun n _ => ur_ext (Nat.le_refl _) h (fun k k1 k2 => absurd k2 (by omega))
  have hK : ∀ n o, n < 8 → o < n → KR R m n o = KR S m n o := fun n o _ _ => kr_ext (Nat.le_refl _) h (fun k k1 k2 => absurd k2 (by omega))
  exact ⟨cln_cg hU hK, clc_cg hU hK⟩
theorem us_st {R : Nat → Int32} {ac r : Int32} {k : Nat} (h : ac = usF R k) (hw : r = R k) : ac ||| r = usF R (k + 1) := by rw [h, hw]; rfl
theorem z_st {f g : Nat → Int32} {k : Nat} (h : ∀ i, i < k → f i = 0) (e : g = upd f k 0) : ∀ i, i < k + 1 → g i = 0 := fun i hi => by
  by_cases z : i = k
  · subst z; rw [e, pk_us]
  · rw [e, pk_un z]; exact h i (by omega)
def GzP (R f : Nat → Int32) (k m : Nat) : Prop := ∀ i, i < 8 → f i = if i < m then agF R i (k + 1) else agF R i k
theorem gz_0 {R f : Nat → Int32} {k : Nat} (h : ∀ i, i < 8 → f i = agF R i k) : GzP R f k 0 := fun i hi => by rw [if_neg (Nat.not_lt_zero i)]; exact h i hi
theorem gz_set {R f g : Nat → Int32} {k m : Nat} {x : Int32} (h : GzP R f k m) (e : g = upd f m x) (hx : x = agF R m (k + 1)) : GzP R g k (m + 1) := fun i hi => by
  by_cases z : i = m
  · subst z; rw [e, pk_us, if_pos (by omega)]; exact hx
  · rw [e, pk_un z, h i hi]
    by_cases w : i < m
    · rw [if_pos w, if_pos (by omega)]
    · rw [if_neg w, if_neg (by omega)]
theorem gz_yes {R f g : Nat → Int32} {k m : Nat} {r : Int32} (h : GzP R f k m) (hm : m < 8) (hw : r = R k) (hb : bt r m = true) (e : g = upd f m (f m ||| (r &&& (((1 : Int32) <<< (nI m &&& 31)) ^^^ (-1))))) : GzP R g k (m + 1) := by
  refine gz_set h e ?_
  rw [h m hm, if_neg (by omega)]
  show _ = agF R m k ||| (if bt (R k) m = true then R k &&& (((1 : Int32) <<< (nI m &&& 31)) ^^^ (-1)) else 0)
  rw [← hw, if_pos hb]
theorem gz_no {R f g : Nat → Int32} {k m : Nat} {r : Int32} (h : GzP R f k m) (hm : m < 8) (hw : r = R k) (hb : bt r m = false) (e : g = upd f m (f m ||| 0)) : GzP R g k (m + 1) := by
  refine gz_set h e ?_
  rw [h m hm, if_neg (by omega)]
  show _ = agF R m k ||| (if bt (R k) m = true then R k &&& (((1 : Int32) <<< (nI m &&& 31)) ^^^ (-1)) else 0)
  rw [← hw, if_neg (by rw [hb]; decide)]
theorem gz_end {R f : Nat → Int32} {k m : Nat} (h : GzP R f k m) (hm : m = 8) : ∀ i, i < 8 → f i = agF R i (k + 1) := fun i hi => by rw [h i hi, if_pos (by omega)]
