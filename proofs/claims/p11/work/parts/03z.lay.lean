/-! the merge of rows into a LINE, as class and reference do it -/
def RwOk (frw fen : Nat → Int32) (rm kd : Nat) : Prop := ∀ r, r < rm → ∀ i, i < (fen r).toNatClampNeg → ∃ q : Nat, q < kd ∧ frw (10 * r + i) = nI q
def LnOk (fll fln : Nat → Int32) (K : Nat) : Prop := ∀ k, k < K → ∀ i, i < (fll k).toNatClampNeg → ∃ q : Nat, q ≤ k ∧ fln (10 * k + i) = nI q
/-- x stands in a row, but not at its beginning -/
def Held (w a e : Nat → Int32) (R : Nat) (x : Int32) : Prop := ∃ r i, r < R ∧ (a r).toNatClampNeg < i ∧ i < (e r).toNatClampNeg ∧ w (10 * r + i) = x
noncomputable def hdB (w a e : Nat → Int32) (R r : Nat) : Bool := @decide ((a r).toNatClampNeg < (e r).toNatClampNeg ∧ ¬ Held w a e R (w (10 * r + (a r).toNatClampNeg))) (Classical.propDecidable _)
theorem hdB_t {w a e : Nat → Int32} {R r : Nat} (h : (a r).toNatClampNeg < (e r).toNatClampNeg ∧ ¬ Held w a e R (w (10 * r + (a r).toNatClampNeg))) : hdB w a e R r = true := @decide_eq_true _ (Classical.propDecidable _) h
theorem hdB_f {w a e : Nat → Int32} {R r : Nat} (h : ¬ ((a r).toNatClampNeg < (e r).toNatClampNeg ∧ ¬ Held w a e R (w (10 * r + (a r).toNatClampNeg)))) : hdB w a e R r = false := @decide_eq_false _ (Classical.propDecidable _) h
theorem hdB_p {w a e : Nat → Int32} {R r : Nat} (h : hdB w a e R r = true) : (a r).toNatClampNeg < (e r).toNatClampNeg ∧ ¬ Held w a e R (w (10 * r + (a r).toNatClampNeg)) := @of_decide_eq_true _ (Classical.propDecidable _) h
noncomputable def nhF (w a e : Nat → Int32) (R : Nat) : Nat → Nat → Int32
  | _, 0 => -6
  | r, m + 1 => if hdB w a e R r = true then w (10 * r + (a r).toNatClampNeg) else nhF w a e R (r + 1) m
theorem nh_end {w a e : Nat → Int32} {R r : Nat} (h : R ≤ r) : nhF w a e R r (R - r) = -6 := by rw [show R - r = 0 from (by omega)]; rfl
theorem nh_hit {w a e : Nat → Int32} {R r : Nat} (hb : hdB w a e R r = true) (h : r < R) : nhF w a e R r (R - r) = w (10 * r + (a r).toNatClampNeg) := by
  rw [show R - r = (R - r - 1) + 1 from (by omega)]; exact if_pos hb
theorem nh_miss {w a e : Nat → Int32} {R r : Nat} (hb : hdB w a e R r = false) (h : r < R) : nhF w a e R r (R - r) = nhF w a e R (r + 1) (R - (r + 1)) := by
  rw [show R - r = (R - (r + 1)) + 1 from (by omega)]; exact if_neg (by rw [hb]; decide)
theorem nh_cases {w a e : Nat → Int32} {R kd : Nat} (hR : RwOk w e R kd) : ∀ (m r : Nat), r + m ≤ R → nhF w a e R r m = -6 ∨ ∃ q : Nat, q < kd ∧ nhF w a e R r m = nI q
  | 0, _, _ => Or.inl rfl
  | m + 1, r, h => by
    show (if hdB w a e R r = true then w (10 * r + (a r).toNatClampNeg) else nhF w a e R (r + 1) m) = -6 ∨ ∃ q : Nat, q < kd ∧ (if hdB w a e R r = true then w (10 * r + (a r).toNatClampNeg) else nhF w a e R (r + 1) m) = nI q
    by_cases b : hdB w a e R r = true
    · rw [if_pos b]
      obtain ⟨q, h1, h2⟩ := hR r (by omega) _ (hdB_p b).1
      exact Or.inr ⟨q, h1, h2⟩
    · rw [if_neg b]; exact nh_cases hR m (r + 1) (by omega)
/-- a row's beginning -/
def hdF (w a e : Nat → Int32) (k : Nat) : Int32 := if (a k).toNatClampNeg < (e k).toNatClampNeg then w (10 * k + (a k).toNatClampNeg) else -6
theorem hd_yes {w a e : Nat → Int32} {k : Nat} {r : Int32} (hw : r = hdF w a e k) (hr : r.toInt ≠ -6) : (a k).toNatClampNeg < (e k).toNatClampNeg ∧ w (10 * k + (a k).toNatClampNeg) = r := by
  unfold hdF at hw
  by_cases q : (a k).toNatClampNeg < (e k).toNatClampNeg
  · rw [if_pos q] at hw; exact ⟨q, hw.symm⟩
  · rw [if_neg q] at hw; rw [hw] at hr; exact absurd (by decide) hr
theorem hd_no {w a e : Nat → Int32} {k R kd : Nat} {r : Int32} (hR : RwOk w e R kd) (hk : k < R) (hd : kd ≤ 2 ^ 30) (hw : r = hdF w a e k) (hr : r.toInt = -6) : ¬ (a k).toNatClampNeg < (e k).toNatClampNeg := by
  intro q
  unfold hdF at hw
  rw [if_pos q] at hw
  obtain ⟨z, h1, h2⟩ := hR k hk _ q
  rw [hw, h2, nI_toInt (by omega)] at hr; omega
theorem hd_nat {w a e : Nat → Int32} {k R kd : Nat} {r : Int32} (hR : RwOk w e R kd) (hk : k < R) (hw : r = hdF w a e k) (hr : r.toInt ≠ -6) : ∃ q : Nat, q < kd ∧ r = nI q := by
  obtain ⟨h1, h2⟩ := hd_yes hw hr
  obtain ⟨z, h3, h4⟩ := hR k hk _ h1
  exact ⟨z, h3, h2.symm.trans h4⟩
/-- bits of a row's part -/
def TlI (w : Nat → Int32) (k lo m : Nat) (v : Int32) : Prop := ∀ j, j < 32 → (bt v j = true ↔ ∃ i, lo < i ∧ i < m ∧ w (10 * k + i) = nI j)
theorem tl_0 {w : Nat → Int32} {k lo : Nat} : TlI w k lo (lo + 1) 0 := fun j _ => ⟨fun h => by rw [b_0] at h; exact absurd h (by decide), fun ⟨i, h1, h2, _⟩ => absurd h2 (by omega)⟩
theorem tl_step {w : Nat → Int32} {k lo m q : Nat} {v : Int32} (h : TlI w k lo m v) (e : w (10 * k + m) = nI q) (hq : q < 32) (hm : lo < m) : TlI w k lo (m + 1) (v ||| ((1 : Int32) <<< (nI q &&& 31))) := by
  intro j hj
  rw [b_set hq hj, Bool.or_eq_true, decide_eq_true_eq, h j hj]
  constructor
  · rintro (⟨i, h1, h2, h3⟩ | h1)
    · exact ⟨i, h1, by omega, h3⟩
    · exact ⟨m, hm, by omega, by rw [e, h1]⟩
  · rintro ⟨i, h1, h2, h3⟩
    by_cases z : i = m
    · subst z; rw [e] at h3; exact Or.inr ((nI_eq (by omega) (by omega)).mp h3).symm
    · exact Or.inl ⟨i, h1, by omega, h3⟩
theorem tl_done {w : Nat → Int32} {k lo m n : Nat} {v : Int32} (h : TlI w k lo m v) (hn : n ≤ m) (hm : m ≤ n ∨ m = lo + 1) : TlI w k lo n v := by
  intro j hj
  rw [h j hj]
  constructor
  · rintro ⟨i, h1, h2, h3⟩; exact ⟨i, h1, by omega, h3⟩
  · rintro ⟨i, h1, h2, h3⟩; exact ⟨i, h1, by omega, h3⟩
def HlI (w a e : Nat → Int32) (R : Nat) (v : Int32) : Prop := ∀ j, j < 32 → (bt v j = true ↔ Held w a e R (nI j))
theorem hl_0 {w a e : Nat → Int32} : HlI w a e 0 0 := fun j _ => ⟨fun h => by rw [b_0] at h; exact absurd h (by decide), fun ⟨r, i, h1, _⟩ => absurd h1 (Nat.not_lt_zero r)⟩
theorem hl_step {w a e : Nat → Int32} {R : Nat} {v r : Int32} (h : HlI w a e R v) (ht : TlI w R (a R).toNatClampNeg (e R).toNatClampNeg r) : HlI w a e (R + 1) (v ||| r) := by
  intro j hj
  rw [b_or, Bool.or_eq_true, h j hj, ht j hj]
  constructor
  · rintro (⟨r, i, h1, h2⟩ | ⟨i, h1, h2, h3⟩)
    · exact ⟨r, i, by omega, h2⟩
    · exact ⟨R, i, by omega, h1, h2, h3⟩
  · rintro ⟨r, i, h1, h2, h3, h4⟩
    by_cases z : r = R
    · subst z; exact Or.inr ⟨i, h2, h3, h4⟩
    · exact Or.inl ⟨r, i, by omega, h2, h3, h4⟩
theorem nh_ret {w a e : Nat → Int32} {R k q : Nat} {T v : Int32} (hn : nhF w a e R k (R - k) = T) (hk : k < R) (hw : nI q = hdF w a e k) (hq : q < 32) (hl : HlI w a e R v) (hb : bt v q = false) : nI q = T := by
  obtain ⟨h1, h2⟩ := hd_yes hw (by rw [nI_toInt (by omega)]; omega)
  rw [← hn, nh_hit (hdB_t ⟨h1, fun z => ?_⟩) hk, h2]
  rw [h2] at z
  rw [(hl q hq).mpr z] at hb; exact absurd hb (by decide)
theorem nh_no {w a e : Nat → Int32} {R k : Nat} {T : Int32} (hn : nhF w a e R k (R - k) = T) (hk : k < R) (h : ¬ (a k).toNatClampNeg < (e k).toNatClampNeg) : nhF w a e R (k + 1) (R - (k + 1)) = T :=
  (nh_miss (hdB_f (fun z => h z.1)) hk).symm.trans hn
theorem nh_held {w a e : Nat → Int32} {R k q : Nat} {T v : Int32} (hn : nhF w a e R k (R - k) = T) (hk : k < R) (hw : nI q = hdF w a e k) (hq : q < 32) (hl : HlI w a e R v) (hb : bt v q = true) : nhF w a e R (k + 1) (R - (k + 1)) = T := by
  obtain ⟨h1, h2⟩ := hd_yes hw (by rw [nI_toInt (by omega)]; omega)
  exact (nh_miss (hdB_f (fun z => z.2 (by rw [h2]; exact (hl q hq).mp hb))) hk).symm.trans hn
/-- the beginnings, as bits -/
def begF (w a e : Nat → Int32) : Nat → Int32
  | 0 => 0
  | r + 1 => if (a r).toNatClampNeg < (e r).toNatClampNeg then begF w a e r ||| ((1 : Int32) <<< (w (10 * r + (a r).toNatClampNeg) &&& 31)) else begF w a e r
theorem beg_f {w a e : Nat → Int32} {k : Nat} {ac : Int32} (h : ac = begF w a e k) (hn : ¬ (a k).toNatClampNeg < (e k).toNatClampNeg) : ac = begF w a e (k + 1) := by rw [h]; exact (if_neg hn).symm
theorem beg_t {w a e : Nat → Int32} {k : Nat} {ac r : Int32} (h : ac = begF w a e k) (hw : r = hdF w a e k) (hr : r.toInt ≠ -6) : ac ||| ((1 : Int32) <<< (r &&& 31)) = begF w a e (k + 1) := by
  obtain ⟨h1, h2⟩ := hd_yes hw hr
  rw [h, ← h2]; exact (if_pos h1).symm
/-- the rows behind a KIND is taken -/
def adv (frw fat fen : Nat → Int32) (h : Int32) (r : Nat) : Int32 := if (fat r).toNatClampNeg < (fen r).toNatClampNeg ∧ frw (10 * r + (fat r).toNatClampNeg) = h then nI ((fat r).toNatClampNeg + 1) else fat r
def AdvI (frw fat fay fen : Nat → Int32) (h : Int32) (k : Nat) : Prop := ∀ r, fay r = if r < k then adv frw fat fen h r else fat r
theorem adv_0 {frw fat fen : Nat → Int32} {h : Int32} : AdvI frw fat fat fen h 0 := fun r => by rw [if_neg (Nat.not_lt_zero r)]
theorem adv_at {frw fat fay fen : Nat → Int32} {h : Int32} {k : Nat} (hA : AdvI frw fat fay fen h k) : fay k = fat k := by rw [hA k, if_neg (Nat.lt_irrefl k)]
theorem adv_yes {frw fat fay f2 fen : Nat → Int32} {h : Int32} {k a b : Nat} (hA : AdvI frw fat fay fen h k) (ea : fay k = nI a) (eb : fen k = nI b) (hab : a < b) (hb : b ≤ 10) (hv : frw (10 * k + a) = h) (e : f2 = upd fay k (nI (a + 1))) : AdvI frw fat f2 fen h (k + 1) := by
  have ef : fat k = nI a := (adv_at hA).symm.trans ea
  intro r
  by_cases z : r = k
  · subst z
    rw [e, pk_us, if_pos (by omega)]
    unfold adv
    rw [ef, eb, nI_clamp (by omega), nI_clamp (by omega), if_pos ⟨hab, hv⟩]
  · rw [e, pk_un z, hA r]
    by_cases y : r < k
    · rw [if_pos y, if_pos (by omega)]
    · rw [if_neg y, if_neg (by omega)]
theorem adv_same {frw fat fay fen : Nat → Int32} {h : Int32} {k : Nat} (hA : AdvI frw fat fay fen h k) (hv : ¬ ((fay k).toNatClampNeg < (fen k).toNatClampNeg ∧ frw (10 * k + (fay k).toNatClampNeg) = h)) : AdvI frw fat fay fen h (k + 1) := by
  rw [adv_at hA] at hv
  intro r
  by_cases z : r = k
  · subst z
    rw [hA r, if_neg (Nat.lt_irrefl r), if_pos (by omega)]
    unfold adv
    rw [if_neg hv]
  · rw [hA r]
    by_cases y : r < k
    · rw [if_pos y, if_pos (by omega)]
    · rw [if_neg y, if_neg (by omega)]
theorem adv_nohd {frw fat fay fen : Nat → Int32} {h r : Int32} {k : Nat} (hA : AdvI frw fat fay fen h k) (hw : r = hdF frw fay fen k) (hne : ¬ r = h) : AdvI frw fat fay fen h (k + 1) :=
  adv_same hA (fun q => hne (by rw [hw]; unfold hdF; rw [if_pos q.1]; exact q.2))
def advF (w a e : Nat → Int32) (h : Int32) (R : Nat) : Nat → Int32 := fun r => if r < R then adv w a e h r else a r
theorem adv_fun {w a a2 e : Nat → Int32} {h : Int32} {R : Nat} (hA : AdvI w a a2 e h R) : a2 = advF w a e h R := funext hA
/-- the whole merge: heads, LINE, how many -/
noncomputable def layI (w e : Nat → Int32) (R kd : Nat) : Nat → (Nat → Int32) × (Nat → Int32) × Nat → (Nat → Int32) × (Nat → Int32) × Nat
  | 0, s => s
  | f + 1, s => if (nhF w s.1 e R 0 R).toInt < 0 then s else layI w e R kd f (advF w s.1 e (nhF w s.1 e R 0 R) R, upd s.2.1 (10 * kd + s.2.2) (nhF w s.1 e R 0 R), s.2.2 + 1)
theorem lay_step {w e a l a2 l2 : Nat → Int32} {R kd m : Nat} {h : Int32} (hh : h = nhF w a e R 0 R) (hp : ¬ h.toInt < 0) (hm : m < 10) (ha : AdvI w a a2 e h R) (hl : l2 = upd l (10 * kd + m) h) : layI w e R kd (10 - m) (a, l, m) = layI w e R kd (10 - (m + 1)) (a2, l2, m + 1) := by
  rw [show 10 - m = (10 - (m + 1)) + 1 from (by omega), adv_fun ha, hl, hh]
  rw [hh] at hp
  exact if_neg hp
theorem lay_end {w e a l : Nat → Int32} {R kd m : Nat} {h : Int32} (hh : h = nhF w a e R 0 R) (hp : h.toInt < 0 ∨ 10 ≤ m) : layI w e R kd (10 - m) (a, l, m) = (a, l, m) := by
  rcases Nat.lt_or_ge m 10 with q | q
  · rw [show 10 - m = (10 - (m + 1)) + 1 from (by omega)]
    rw [hh] at hp
    exact if_pos (hp.resolve_right (by omega))
  · rw [show 10 - m = 0 from (by omega)]; rfl
/-- the rows as they are laid: LINES of PARENTS, and the PARENTS -/
def RowP (w a e p ll ln : Nat → Int32) (k : Nat) : Prop := ∀ i, i < k → a i = 0 ∧ e i = ll (p i).toNatClampNeg ∧ ∀ j, j < (ll (p i).toNatClampNeg).toNatClampNeg → w (10 * i + j) = ln (10 * (p i).toNatClampNeg + j)
def RowS (w a e p ll ln : Nat → Int32) (n : Nat) : Prop := RowP w a e p ll ln n ∧ a n = 0 ∧ e n = nI n ∧ ∀ i, i < n → w (10 * n + i) = p i
def LayS (ll ln p : Nat → Int32) (n kd : Nat) (L Q : Int32) (ln2 : Nat → Int32) : Prop :=
  ∃ w a e a2 : Nat → Int32, ∃ m : Nat, RowS w a e p ll ln n ∧ layI w e (n + 1) kd 9 (a, upd ln (10 * kd) (nI kd), 1) = (a2, ln2, m) ∧ Q = begF w a2 e (n + 1) ∧ L = if begF w a2 e (n + 1) = 0 then nI m else 0
def KLay (ll ln p : Nat → Int32) (n kd : Nat) (L Q : Int32) (ln2 : Nat → Int32) : Prop :=
  ((∃ i, i < n ∧ (ll (p i).toNatClampNeg).toNatClampNeg = 0) ∧ L = 0 ∧ Q = -5 ∧ ln2 = ln) ∨ ((∀ i, i < n → 0 < (ll (p i).toNatClampNeg).toNatClampNeg) ∧ LayS ll ln p n kd L Q ln2)
def qcF (Q : Int32) : Int32 := if Q = 0 then -6 else Q
def KC (cn : Nat) (ll ln lq ll2 ln2 lq2 p : Nat → Int32) (n : Nat) : Prop := ∃ L Q : Int32, ll2 = upd ll cn L ∧ lq2 = upd lq cn (qcF Q) ∧ KLay ll ln p n cn L Q ln2
def KM (cn : Nat) (ll ln lq ll2 ln2 lq2 p : Nat → Int32) (n : Nat) : Prop := ∃ L Q : Int32, ll2 = upd ll cn L ∧ lq2 = upd lq cn Q ∧ KLay ll ln p n cn L Q ln2
theorem upd_upd {f : Nat → Int32} {k : Nat} {x y : Int32} : upd (upd f k x) k y = upd f k y := by
  funext j
  by_cases q : j = k
  · subst q; rw [pk_us, pk_us]
  · rw [pk_un q, pk_un q, pk_un q]
/-- the class lays a row -/
def RowI (w a e p ll ln : Nat → Int32) (k j : Nat) : Prop := RowP w a e p ll ln k ∧ a k = 0 ∧ e k = nI j ∧ ∀ i, i < j → w (10 * k + i) = ln (10 * (p k).toNatClampNeg + i)
theorem ro_beg {w a e a2 e2 p ll ln : Nat → Int32} {k : Nat} (h : RowP w a e p ll ln k) (ea : a2 = upd a k 0) (ee : e2 = upd e k 0) : RowI w a2 e2 p ll ln k 0 := by
  refine ⟨fun i hi => ?_, by rw [ea]; exact pk_us, by rw [ee]; exact pk_us, fun i hi => absurd hi (Nat.not_lt_zero i)⟩
  rw [ea, ee, pk_un (by omega), pk_un (by omega)]; exact h i hi
theorem ro_put {w w2 a e e2 p ll ln : Nat → Int32} {k j : Nat} {x : Int32} (h : RowI w a e p ll ln k j) (hB : BdOk 10 10 ll) (hk : k ≤ 3) (hj : j < 10) (hp : ∀ i, i < k → (p i).toNatClampNeg < 10) (ex : x = ln (10 * (p k).toNatClampNeg + j)) (ew : w2 = upd w (10 * k + j) x) (ee : e2 = upd e k (nI (j + 1))) : RowI w2 a e2 p ll ln k (j + 1) := by
  refine ⟨fun i hi => ?_, h.2.1, by rw [ee]; exact pk_us, fun i hi => ?_⟩
  · obtain ⟨h1, h2, h3⟩ := h.1 i hi
    rw [ee, pk_un (by omega)]
    refine ⟨h1, h2, fun y hy => ?_⟩
    obtain ⟨z, hz, e⟩ := hB _ (hp i hi)
    have hz2 : (ll (p i).toNatClampNeg).toNatClampNeg = z := by rw [e, nI_clamp (by omega)]
    rw [ew, pk_un (by omega)]; exact h3 y hy
  · by_cases z : i = j
    · subst z; rw [ew, pk_us]; exact ex
    · rw [ew, pk_un (by omega)]; exact h.2.2.2 i (by omega)
theorem ro_done {w a e p ll ln : Nat → Int32} {k j : Nat} (h : RowI w a e p ll ln k j) (hB : BdOk 10 10 ll) (hp : (p k).toNatClampNeg < 10) (hj : j = (ll (p k).toNatClampNeg).toNatClampNeg) : RowP w a e p ll ln (k + 1) := by
  intro i hi
  by_cases z : i = k
  · subst z
    obtain ⟨z, hz, e'⟩ := hB _ hp
    refine ⟨h.2.1, ?_, fun y hy => h.2.2.2 y (by omega)⟩
    rw [h.2.2.1, hj, e', nI_clamp (by omega)]
  · exact h.1 i (by omega)
def RowL (w a e p ll ln : Nat → Int32) (n k : Nat) : Prop := RowP w a e p ll ln n ∧ a n = 0 ∧ e n = nI k ∧ ∀ i, i < k → w (10 * n + i) = p i
theorem rl_beg {w a e a2 e2 p ll ln : Nat → Int32} {n : Nat} (h : RowP w a e p ll ln n) (ea : a2 = upd a n 0) (ee : e2 = upd e n 0) : RowL w a2 e2 p ll ln n 0 := by
  refine ⟨fun i hi => ?_, by rw [ea]; exact pk_us, by rw [ee]; exact pk_us, fun i hi => absurd hi (Nat.not_lt_zero i)⟩
  rw [ea, ee, pk_un (by omega), pk_un (by omega)]; exact h i hi
theorem rl_put {w w2 a e e2 p ll ln : Nat → Int32} {n k : Nat} {x : Int32} (h : RowL w a e p ll ln n k) (hB : BdOk 10 10 ll) (hn : n ≤ 3) (hk : k < n) (hp : ∀ i, i < n → (p i).toNatClampNeg < 10) (ex : x = p k) (ew : w2 = upd w (10 * n + k) x) (ee : e2 = upd e n (nI (k + 1))) : RowL w2 a e2 p ll ln n (k + 1) := by
  refine ⟨fun i hi => ?_, h.2.1, by rw [ee]; exact pk_us, fun i hi => ?_⟩
  · obtain ⟨h1, h2, h3⟩ := h.1 i hi
    rw [ee, pk_un (by omega)]
    refine ⟨h1, h2, fun y hy => ?_⟩
    obtain ⟨z, hz, e⟩ := hB _ (hp i hi)
    have hz2 : (ll (p i).toNatClampNeg).toNatClampNeg = z := by rw [e, nI_clamp (by omega)]
    rw [ew, pk_un (by omega)]; exact h3 y hy
  · by_cases z : i = k
    · subst z; rw [ew, pk_us]; exact ex
    · rw [ew, pk_un (by omega)]; exact h.2.2.2 i (by omega)
theorem rl_done {w a e p ll ln : Nat → Int32} {n k : Nat} (h : RowL w a e p ll ln n k) (hk : k = n) : RowS w a e p ll ln n := by subst hk; exact h
theorem rs_ok {w a e p ll ln : Nat → Int32} {n cn : Nat} (h : RowS w a e p ll ln n) (hn : n ≤ 3) (hl : LnOk ll ln cn) (hp : ∀ i, i < n → ∃ q : Nat, q < cn ∧ p i = nI q) (hc : cn ≤ 10) : RwOk w e (n + 1) cn := by
  intro r hr i hi
  by_cases z : r = n
  · subst z
    rw [h.2.2.1, nI_clamp (by omega)] at hi
    rw [h.2.2.2 i hi]; exact hp i hi
  · obtain ⟨h1, h2, h3⟩ := h.1 r (by omega)
    obtain ⟨q, hq, e⟩ := hp r (by omega)
    have eq : (p r).toNatClampNeg = q := by rw [e, nI_clamp (by omega)]
    rw [h2] at hi
    rw [h3 i hi, eq]
    rw [eq] at hi
    obtain ⟨x, h4, h5⟩ := hl q hq i hi
    exact ⟨x, by omega, h5⟩
theorem nI_ne6 {q : Nat} (h : q < 2 ^ 31) : ¬ nI q = -6 := fun e => by
  have := congrArg Int32.toInt e
  rw [nI_toInt h] at this
  have h6 : Int32.toInt (-6) = -6 := by decide
  omega
theorem lenN_k {f : Nat → Int32} {c k : Nat} (hk : k < c) (hc : c ≤ 10) : lenN f c (nI k) = (f k).toNatClampNeg := by
  unfold lenN
  rw [nI_toInt (by omega), if_pos (by omega), nI_clamp (by omega)]
/-- where the first of the wanted KINDS stands; the first itself -/
def wfF (fle fli : Nat → Int32) (cn kq : Nat) (v : Int32) (fm : Nat) : Int32 := fnd (fun i => bt v (fli (10 * kq + i)).toNatClampNeg) fm (lenN fle cn (nI kq) - fm)
def ansF (fle fli : Nat → Int32) (cn kq : Nat) (v : Int32) (fm : Nat) : Int32 := if wfF fle fli cn kq v fm = -6 then -6 else fli (10 * kq + (wfF fle fli cn kq v fm).toNatClampNeg)
theorem wf_cases {fle fli : Nat → Int32} {cn kq fm : Nat} {v r : Int32} (hw : r = wfF fle fli cn kq v fm) : r = -6 ∨ ∃ q : Nat, q < lenN fle cn (nI kq) ∧ r = nI q := by
  unfold wfF at hw
  rcases fnd_cases (fun i => bt v (fli (10 * kq + i)).toNatClampNeg) (lenN fle cn (nI kq) - fm) fm with ⟨h1, _⟩ | ⟨q, h1, h2, h3, _⟩
  · exact Or.inl (hw.trans h1)
  · exact Or.inr ⟨q, by omega, hw.trans h1⟩
theorem ro_ll {w a e p ll ll2 ln : Nat → Int32} {n : Nat} (h : RowS w a e p ll ln n) (hp : ∀ i, i < n → ll (p i).toNatClampNeg = ll2 (p i).toNatClampNeg) : RowS w a e p ll2 ln n := by
  refine ⟨fun i hi => ?_, h.2⟩
  rw [← hp i hi]; exact h.1 i hi
theorem lay_ll {ll ll2 ln p ln2 : Nat → Int32} {n kd : Nat} {L Q : Int32} (h : LayS ll ln p n kd L Q ln2) (hp : ∀ i, i < n → ll (p i).toNatClampNeg = ll2 (p i).toNatClampNeg) : LayS ll2 ln p n kd L Q ln2 := by
  obtain ⟨w, a, e, a2, m, h1, h2⟩ := h
  exact ⟨w, a, e, a2, m, ro_ll h1 hp, h2⟩
theorem row_p {w a e p p2 ll ln : Nat → Int32} {n : Nat} (h : RowS w a e p ll ln n) (hp : ∀ i, i < n → p i = p2 i) : RowS w a e p2 ll ln n := by
  refine ⟨fun i hi => ?_, h.2.1, h.2.2.1, fun i hi => ?_⟩
  · rw [← hp i hi]; exact h.1 i hi
  · rw [← hp i hi]; exact h.2.2.2 i hi
theorem lay_p {ll ln p p2 ln2 : Nat → Int32} {n kd : Nat} {L Q : Int32} (h : LayS ll ln p n kd L Q ln2) (hp : ∀ i, i < n → p i = p2 i) : LayS ll ln p2 n kd L Q ln2 := by
  obtain ⟨w, a, e, a2, m, h1, h2⟩ := h
  exact ⟨w, a, e, a2, m, row_p h1 hp, h2⟩
/-- the class: all PARENTS have LINES, or one has none -/
def LdI (fle p : Nat → Int32) (k : Nat) (v : Int32) : Prop := (v = 1 ∧ ∀ i, i < k → 0 < (fle (p i).toNatClampNeg).toNatClampNeg) ∨ (v = 0 ∧ ∃ i, i < k ∧ (fle (p i).toNatClampNeg).toNatClampNeg = 0)
theorem ld_0 {fle p : Nat → Int32} : LdI fle p 0 1 := Or.inl ⟨rfl, fun i h => absurd h (Nat.not_lt_zero i)⟩
theorem ld_yes {fle p : Nat → Int32} {k : Nat} {v : Int32} (h : LdI fle p k v) (hk : 0 < (fle (p k).toNatClampNeg).toNatClampNeg) : LdI fle p (k + 1) v := by
  rcases h with ⟨e, h⟩ | ⟨e, i, h1, h2⟩
  · refine Or.inl ⟨e, fun i hi => ?_⟩
    by_cases z : i = k
    · subst z; exact hk
    · exact h i (by omega)
  · exact Or.inr ⟨e, i, by omega, h2⟩
theorem ld_no {fle p : Nat → Int32} {k : Nat} {v : Int32} (_ : LdI fle p k v) (hk : ¬ 0 < (fle (p k).toNatClampNeg).toNatClampNeg) : LdI fle p (k + 1) 0 := Or.inr ⟨rfl, k, by omega, by omega⟩
theorem kc_no {cn n : Nat} {ll ln lq ll2 lq2 p : Nat → Int32} (h : ∃ i, i < n ∧ (ll (p i).toNatClampNeg).toNatClampNeg = 0) (e1 : ll2 = upd ll cn 0) (e2 : lq2 = upd lq cn (-5)) : KC cn ll ln lq ll2 ln lq2 p n :=
  ⟨0, -5, e1, e2.trans (by rw [show qcF (-5) = -5 from by decide]), Or.inl ⟨h, rfl, rfl, rfl⟩⟩
theorem kc_yes {cn n : Nat} {ll ln lq l1 q1 ll2 ln2 lq2 p p2 : Nat → Int32} {L Q : Int32} (h : ∀ i, i < n → 0 < (ll (p i).toNatClampNeg).toNatClampNeg) (hp : ∀ i, i < n → ∃ q : Nat, q < cn ∧ p i = nI q) (hc : cn ≤ 10) (hpp : ∀ i, i < n → p2 i = p i) (e1 : l1 = upd ll cn 0) (e2 : q1 = upd lq cn (-5)) (e3 : ll2 = upd l1 cn L) (e4 : lq2 = upd q1 cn (qcF Q)) (hl : LayS l1 ln p2 n cn L Q ln2) : KC cn ll ln lq ll2 ln2 lq2 p n := by
  refine ⟨L, Q, by rw [e3, e1, upd_upd], by rw [e4, e2, upd_upd], Or.inr ⟨h, lay_ll (lay_p hl hpp) (fun i hi => ?_)⟩⟩
  obtain ⟨q, h1, h2⟩ := hp i hi
  rw [e1, h2, nI_clamp (by omega), pk_un (by omega)]
theorem ln_upd0 {fll fln f2 : Nat → Int32} {kd : Nat} {x : Int32} (h : LnOk fll fln kd) (e : f2 = upd fll kd x) : LnOk f2 fln kd := by
  intro k hk i hi
  rw [e, pk_un (by omega)] at hi
  exact h k hk i hi
/-! ANSWERS of the reference; ORs of ANSWERS -/
def plM (fll fln fnm : Nat → Int32) (kq nq fm : Nat) : Int32 := fnd (fun i => bt (fnm (fln (10 * kq + i)).toNatClampNeg) nq) fm ((fll kq).toNatClampNeg - fm)
def ansM (fll fln fnm : Nat → Int32) (kq nq fm : Nat) : Int32 := if plM fll fln fnm kq nq fm = -6 then -6 else fln (10 * kq + (plM fll fln fnm kq nq fm).toNatClampNeg)
theorem pl_cases {fll fln fnm : Nat → Int32} {kq nq fm : Nat} {r : Int32} (hw : r = plM fll fln fnm kq nq fm) : r = -6 ∨ ∃ q : Nat, q < (fll kq).toNatClampNeg ∧ r = nI q := by
  unfold plM at hw
  rcases fnd_cases (fun i => bt (fnm (fln (10 * kq + i)).toNatClampNeg) nq) ((fll kq).toNatClampNeg - fm) fm with ⟨h1, _⟩ | ⟨q, h1, h2, h3, _⟩
  · exact Or.inl (hw.trans h1)
  · exact Or.inr ⟨q, by omega, hw.trans h1⟩
def FdI (P : Nat → Bool) (len i : Nat) (T fd : Int32) : Prop := (fd = -6 ∧ fnd P i (len - i) = T) ∨ (fd = T ∧ 0 ≤ fd.toInt)
theorem fd_leaf {P : Nat → Bool} {len i : Nat} {T fd : Int32} (h : FdI P len i T fd) (hx : len ≤ i ∨ 0 ≤ fd.toInt) : fd = T := by
  rcases h with ⟨h1, h2⟩ | ⟨h1, _⟩
  · rcases hx with q | q
    · rw [h1, ← h2, fnd_end q]
    · rw [h1] at q; exact absurd q (by decide)
  · exact h1
theorem fd_hit {P : Nat → Bool} {len i : Nat} {T fd : Int32} (h : FdI P len i T fd) (hn : fd.toInt < 0) (hp : P i = true) (hi : i < len) (hl : i < 2 ^ 31) : FdI P len (i + 1) T (nI i) := by
  rcases h with ⟨h1, h2⟩ | ⟨_, h2⟩
  · exact Or.inr ⟨by rw [← h2, fnd_hit hp hi], by rw [nI_toInt hl]; omega⟩
  · omega
theorem fd_miss {P : Nat → Bool} {len i : Nat} {T fd : Int32} (h : FdI P len i T fd) (hn : fd.toInt < 0) (hp : P i = false) (hi : i < len) : FdI P len (i + 1) T (-6) := by
  rcases h with ⟨h1, h2⟩ | ⟨_, h2⟩
  · exact Or.inl ⟨rfl, (fnd_miss hp hi).symm.trans h2⟩
  · omega
def orA (A : Nat → Int32) : Nat → Int32
  | 0 => 0
  | k + 1 => if (A k).toInt < 0 then orA A k else orA A k ||| ((1 : Int32) <<< (A k &&& 31))
theorem orA_no {A : Nat → Int32} {k : Nat} {ac r : Int32} (h : ac = orA A k) (e : A k = r) (hr : r.toInt < 0) : ac = orA A (k + 1) := by rw [h]; exact (if_pos (by rw [e]; exact hr)).symm
theorem orA_no0 {A : Nat → Int32} {k : Nat} {ac r : Int32} (h : ac = orA A k) (e : A k = r) (hr : r.toInt < 0) : ac ||| 0 = orA A (k + 1) := by rw [or_0]; exact orA_no h e hr
theorem orA_yes {A : Nat → Int32} {k : Nat} {ac r : Int32} (h : ac = orA A k) (e : A k = r) (hr : ¬ r.toInt < 0) : ac ||| ((1 : Int32) <<< (r &&& 31)) = orA A (k + 1) := by
  rw [h, ← e]; exact (if_neg (by rw [e]; exact hr)).symm
theorem orA_congr {A B : Nat → Int32} : ∀ {n : Nat}, (∀ i, i < n → A i = B i) → orA A n = orA B n
  | 0, _ => rfl
  | n + 1, h => by
    have ih := orA_congr (A := A) (B := B) (n := n) (fun i hi => h i (by omega))
    show (if (A n).toInt < 0 then orA A n else orA A n ||| _) = (if (B n).toInt < 0 then orA B n else orA B n ||| _)
    rw [ih, h n (by omega)]
theorem ans_cases {fle fli : Nat → Int32} {cn kq fm : Nat} {v r : Int32} (hl : LnOk fle fli cn) (hk : kq < cn) (hc : cn ≤ 10) (hw : r = ansF fle fli cn kq v fm) : r = -6 ∨ ∃ q : Nat, q ≤ kq ∧ r = nI q := by
  unfold ansF at hw
  rcases wf_cases (rfl : wfF fle fli cn kq v fm = _) with e | ⟨q, h1, e⟩
  · rw [if_pos e] at hw; exact Or.inl hw
  · rw [lenN_k hk hc] at h1
    obtain ⟨x, h2, h3⟩ := hl kq hk q h1
    have hq : q < 2 ^ 31 := by
      have := Int32.toNatClampNeg_lt (fle kq); omega
    rw [if_neg (by rw [e]; exact nI_ne6 hq), e, nI_clamp hq, h3] at hw
    exact Or.inr ⟨x, h2, hw⟩
theorem ans_neg {fle fli : Nat → Int32} {cn kq fm : Nat} {v r : Int32} (hl : LnOk fle fli cn) (hk : kq < cn) (hc : cn ≤ 10) (hw : r = ansF fle fli cn kq v fm) (hr : r.toInt ≠ -6) : ¬ r.toInt < 0 := by
  rcases ans_cases hl hk hc hw with e | ⟨q, h1, e⟩
  · rw [e] at hr; exact absurd (by decide) hr
  · rw [e, nI_toInt (by omega)]; omega
def shC (fle fli : Nat → Int32) (cn kq : Nat) (o : Int32) : Int32 := bitsF (fun k => decide (¬ ansF fle fli cn k (o ||| ((1 : Int32) <<< (nI kq &&& 31))) 0 = ansF fle fli cn k o 0)) cn
def shM (fll fln fnm : Nat → Int32) (kn kq nq : Nat) : Int32 := bitsF (fun k => decide (¬ ansM fll fln fnm k nq 0 = ansM fll fln (upd fnm kq (fnm kq ||| ((1 : Int32) <<< (nI nq &&& 31)))) k nq 0)) kn
def unA (fab fle fli : Nat → Int32) (cn : Nat) (bb : Int32) (kq : Nat) (o : Int32) : Nat → Int32 := fun k => if (bt (fab k) kq = true ∨ k = kq) ∧ 0 < lenN fle cn (nI k) ∧ ¬ bt bb k = true then ansF fle fli cn k o 0 else -6
def unM (fma fll fln fnm fib : Nat → Int32) (kq nq : Nat) : Nat → Int32 := fun k => if (k = kq ∨ bt (fma k) kq = true) ∧ 0 < (fll k).toNatClampNeg ∧ fib k = 0 then ansM fll fln fnm k nq 0 else -6
theorem b_call {fab : Nat → Int32} {cn kq k : Nat} {z : Int32} (e : z = blF fab cn kq ||| ((1 : Int32) <<< (nI kq &&& 31))) (hc : cn ≤ 10) (hq : kq < 10) (hk : k < cn) : bt z k = true ↔ bt (fab k) kq = true ∨ k = kq := by
  unfold blF at e
  rw [e, b_set (by omega) (by omega), Bool.or_eq_true, decide_eq_true_eq, b_bits (by omega) (by omega), decide_eq_true hk, Bool.true_and]
def F_line (cn len : Nat) (f : Nat → Int32) (n i : Int32) : Int32 := if 0 ≤ n.toInt ∧ n.toInt < (cn : Int) then (if len = 0 then -3 else if i.toInt = -1 then nI len else if 0 ≤ i.toInt ∧ i.toInt < (len : Int) then f i.toNatClampNeg else -6) else -1
def F_q (cn : Nat) (q n : Int32) : Int32 := if 0 ≤ n.toInt ∧ n.toInt < (cn : Int) then q else -1
def F_ans (cn len : Nat) (a n v : Int32) : Int32 := if (0 ≤ n.toInt ∧ n.toInt < (cn : Int)) ∧ (0 ≤ v.toInt ∧ v.toInt ≤ 7) then (if len = 0 then -3 else a) else -1
def F_shift (cn : Nat) (ow : Bool) (s n v : Int32) : Int32 := if (0 ≤ n.toInt ∧ n.toInt < (cn : Int)) ∧ (0 ≤ v.toInt ∧ v.toInt ≤ 7) then (if ow = true then -5 else s) else -1
def F_one (cn : Nat) (r c n v i : Int32) : Int32 := if (0 ≤ n.toInt ∧ n.toInt < (cn : Int)) ∧ (0 ≤ v.toInt ∧ v.toInt ≤ 7) then (if i.toInt = 0 then r else if i.toInt = 1 then c else -2) else -1
def inF (fle fli : Nat → Int32) (cn kq : Nat) (i : Int32) : Int32 := if 0 ≤ i.toInt ∧ i.toInt < (lenN fle cn (nI kq) : Int) then fli (10 * kq + i.toNatClampNeg) else -6
theorem bd_cle0 {M N : Nat} {f : Nat → Int32} {b : Nat} (h : BdOk M N f) (hb : b < M) (hN : N < 2 ^ 31 := by decide) : (f b).toNatClampNeg ≤ N := by
  obtain ⟨q, h1, h2⟩ := h b hb
  rw [h2, nI_clamp (by omega)]; exact h1
theorem pl_neg {fll fln fnm : Nat → Int32} {kq nq fm : Nat} {r : Int32} (hw : r = plM fll fln fnm kq nq fm) (hr : r.toInt < 0) : r = -6 := by
  rcases pl_cases hw with e | ⟨q, h1, e⟩
  · exact e
  · have := Int32.toNatClampNeg_lt (fll kq)
    rw [e, nI_toInt (by omega)] at hr; omega
theorem pl_pos {r : Int32} (hr : 0 ≤ r.toInt) : ¬ r = -6 := fun e => by
  rw [e] at hr; exact absurd hr (by decide)
