/-! the reference's merge of rows: its own facts -/
def NW (frw fat fen : Nat → Int32) (rm : Nat) (h : Int32) : Prop := ∀ r, r < rm → ∀ i, (fat r).toNatClampNeg < i → i < (fen r).toNatClampNeg → frw (10 * r + i) ≠ h
def NWi (frw fat : Nat → Int32) (k j : Nat) (h : Int32) : Prop := ∀ i, (fat k).toNatClampNeg < i → i < j → frw (10 * k + i) ≠ h
def WIo (frw fat fen : Nat → Int32) (k : Nat) (h w : Int32) : Prop := w = 1 ∨ (w = 0 ∧ NW frw fat fen k h)
def WIn (frw fat fen : Nat → Int32) (k j : Nat) (h w : Int32) : Prop := w = 1 ∨ (w = 0 ∧ NW frw fat fen k h ∧ NWi frw fat k j h)
theorem wi_0 {frw fat fen : Nat → Int32} {h : Int32} : WIo frw fat fen 0 h 0 := Or.inr ⟨rfl, fun r hr => absurd hr (Nat.not_lt_zero r)⟩
theorem wi_init {frw fat fen : Nat → Int32} {k z : Nat} {h w : Int32} (hw : WIo frw fat fen k h w) (e : fat k = nI z) (hz : z ≤ 10) : WIn frw fat fen k (z + 1) h w := by
  rcases hw with q | ⟨q, hn⟩
  · exact Or.inl q
  · refine Or.inr ⟨q, hn, fun i h1 h2 => ?_⟩
    rw [e, nI_clamp (by omega)] at h1; omega
theorem wi_step {frw fat fen : Nat → Int32} {k j : Nat} {h w : Int32} (hw : WIn frw fat fen k j h w) (h0 : w = 0) (hv : ¬ frw (10 * k + j) = h) : WIn frw fat fen k (j + 1) h 0 := by
  rcases hw with q | ⟨q, hn, hi⟩
  · rw [h0] at q; exact absurd q (by decide)
  · refine Or.inr ⟨rfl, hn, fun i h1 h2 => ?_⟩
    by_cases z : i = j
    · subst z; exact hv
    · exact hi i h1 (by omega)
theorem wi_exit {frw fat fen : Nat → Int32} {k j : Nat} {h w : Int32} (hw : WIn frw fat fen k j h w) (hj : (fen k).toNatClampNeg ≤ j) : WIo frw fat fen (k + 1) h w := by
  rcases hw with q | ⟨q, hn, hi⟩
  · exact Or.inl q
  · refine Or.inr ⟨q, fun r hr i h1 h2 => ?_⟩
    by_cases z : r = k
    · subst z; exact hi i h1 (by omega)
    · exact hn r (by omega) i h1 h2
def RwOk (frw fen : Nat → Int32) (rm kd : Nat) : Prop := ∀ r, r < rm → ∀ i, i < (fen r).toNatClampNeg → ∃ q : Nat, q < kd ∧ frw (10 * r + i) = nI q
def HdQ (frw fat fen : Nat → Int32) (rm kd q : Nat) : Prop := q < kd ∧ NW frw fat fen rm (nI q) ∧ ∃ r, r < rm ∧ ∃ a b : Nat, fat r = nI a ∧ fen r = nI b ∧ a < b ∧ b ≤ 10 ∧ frw (10 * r + a) = nI q
def HdP (frw fat fen : Nat → Int32) (rm kd : Nat) (v : Int32) : Prop := v = -6 ∨ ∃ q : Nat, v = nI q ∧ HdQ frw fat fen rm kd q
def Rem (frw fat fen : Nat → Int32) (rm : Nat) (tk : Nat → Bool) : Prop := ∀ r, r < rm → ∀ i, (fat r).toNatClampNeg ≤ i → i < (fen r).toNatClampNeg → ∀ q, frw (10 * r + i) = nI q → tk q = false
def cB (t : Nat → Bool) : Nat → Nat
  | 0 => 0
  | n + 1 => cB t n + (if t n then 1 else 0)
theorem cB_le (t : Nat → Bool) : ∀ n, cB t n ≤ n
  | 0 => Nat.le_refl 0
  | n + 1 => by
    have h := cB_le t n
    show cB t n + (if t n then 1 else 0) ≤ n + 1
    split <;> omega
def tset (t : Nat → Bool) (q : Nat) : Nat → Bool := fun j => if j = q then true else t j
theorem cB_out {t : Nat → Bool} {q : Nat} : ∀ {n : Nat}, n ≤ q → cB (tset t q) n = cB t n
  | 0, _ => rfl
  | n + 1, h => by
    have ih := cB_out (t := t) (q := q) (n := n) (by omega)
    show cB (tset t q) n + (if tset t q n then 1 else 0) = cB t n + (if t n then 1 else 0)
    have hn : tset t q n = t n := if_neg (by omega)
    rw [ih, hn]
theorem cB_set {t : Nat → Bool} {q : Nat} (hq : t q = false) : ∀ {n : Nat}, q < n → cB (tset t q) n = cB t n + 1
  | 0, h => absurd h (Nat.not_lt_zero q)
  | n + 1, h => by
    show cB (tset t q) n + (if tset t q n then 1 else 0) = cB t n + (if t n then 1 else 0) + 1
    by_cases z : n = q
    · subst z
      rw [cB_out (Nat.le_refl _), hq]
      unfold tset; simp
    · rw [cB_set hq (n := n) (by omega)]
      unfold tset; rw [if_neg z]; omega
theorem cB_lt {t : Nat → Bool} {q n : Nat} (hq : t q = false) (h : q < n) : cB t n < n := by
  have h1 := cB_set hq h
  have h2 := cB_le (tset t q) n
  omega
theorem cB_none (n : Nat) : cB (fun _ => false) n = 0 := by
  induction n with
  | zero => rfl
  | succ n ih => show cB (fun _ => false) n + 0 = 0; omega
theorem hd_free {frw fat fen : Nat → Int32} {rm kd q : Nat} {tk : Nat → Bool} (h : HdQ frw fat fen rm kd q) (hr : Rem frw fat fen rm tk) : tk q = false := by
  obtain ⟨_, _, r, h1, a, b, ea, eb, hab, hb, e⟩ := h
  exact hr r h1 a (by rw [ea, nI_clamp (by omega)]; omega) (by rw [eb, nI_clamp (by omega)]; omega) q e
def adv (frw fat fen : Nat → Int32) (h : Int32) (r : Nat) : Int32 := if (fat r).toNatClampNeg < (fen r).toNatClampNeg ∧ frw (10 * r + (fat r).toNatClampNeg) = h then nI ((fat r).toNatClampNeg + 1) else fat r
def AdvI (frw fat fay fen : Nat → Int32) (h : Int32) (k : Nat) : Prop := ∀ r, fay r = if r < k then adv frw fat fen h r else fat r
theorem adv_0 {frw fat fen : Nat → Int32} {h : Int32} : AdvI frw fat fat fen h 0 := fun r => by rw [if_neg (Nat.not_lt_zero r)]
theorem adv_at {frw fat fay fen : Nat → Int32} {h : Int32} {k : Nat} (hA : AdvI frw fat fay fen h k) : fay k = fat k := by rw [hA k, if_neg (Nat.lt_irrefl k)]
theorem adv_yes {frw fat fay f2 fen : Nat → Int32} {h : Int32} {k a b : Nat} (hA : AdvI frw fat fay fen h k) (ea : fay k = nI a) (eb : fen k = nI b) (hab : a < b) (hb : b ≤ 10) (hv : frw (10 * k + a) = h) (e : f2 = upd fay k (nI (a + 1))) : AdvI frw fat f2 fen h (k + 1) := by
  have ef : fat k = nI a := (adv_at hA).symm.trans ea
  intro r
  by_cases z : r = k
  · subst z
    rw [e, pk_us, if_pos (by omega)]
    unfold adv
    rw [ef, eb, nI_clamp (by omega), nI_clamp (by omega), if_pos ⟨hab, hv⟩]
  · rw [e, pk_un z, hA r]
    by_cases y : r < k
    · rw [if_pos y, if_pos (by omega)]
    · rw [if_neg y, if_neg (by omega)]
theorem adv_no {frw fat fay f2 fen : Nat → Int32} {h : Int32} {k a b : Nat} (hA : AdvI frw fat fay fen h k) (ea : fay k = nI a) (ha : a ≤ 10) (eb : fen k = nI b) (hb : b ≤ 10) (hv : ¬ (a < b ∧ frw (10 * k + a) = h)) (e : f2 = upd fay k (nI (a + 0))) : AdvI frw fat f2 fen h (k + 1) := by
  have ef : fat k = nI a := (adv_at hA).symm.trans ea
  intro r
  by_cases z : r = k
  · subst z
    rw [e, pk_us, if_pos (by omega)]
    unfold adv
    rw [ef, eb, nI_clamp (by omega), nI_clamp (by omega), if_neg hv]
    rfl
  · rw [e, pk_un z, hA r]
    by_cases y : r < k
    · rw [if_pos y, if_pos (by omega)]
    · rw [if_neg y, if_neg (by omega)]
theorem rem_next {frw fat fay fen : Nat → Int32} {rm k q : Nat} {tk : Nat → Bool} (hB : BdOk 4 10 fat) (h4 : rm ≤ 4) (hR : Rem frw fat fen rm tk) (hN : NW frw fat fen rm (nI q)) (hA : AdvI frw fat fay fen (nI q) k) (hk : rm ≤ k) (hq : q < 10) : Rem frw fay fen rm (tset tk q) := by
  intro r hr i h1 h2 p e
  have hp : p = q → frw (10 * r + i) = nI q := fun z => z ▸ e
  obtain ⟨a, ha, ea⟩ := hB r (by omega)
  have hc : (fat r).toNatClampNeg = a := by rw [ea, nI_clamp (by omega)]
  rw [hA r, if_pos (by omega)] at h1
  unfold adv at h1
  by_cases c : (fat r).toNatClampNeg < (fen r).toNatClampNeg ∧ frw (10 * r + (fat r).toNatClampNeg) = nI q
  · rw [if_pos c, nI_clamp (by omega)] at h1
    have t1 := hR r hr i (by omega) h2 p e
    have t2 := hN r hr i (by omega) h2
    unfold tset
    rw [if_neg (fun z => t2 (hp z))]; exact t1
  · rw [if_neg c] at h1
    have t1 := hR r hr i h1 h2 p e
    unfold tset
    rw [if_neg (fun z => ?_)]
    · exact t1
    · by_cases y : i = (fat r).toNatClampNeg
      · exact c ⟨by omega, y ▸ hp z⟩
      · exact hN r hr i (by omega) h2 (hp z)
def PrOk (fpr : Nat → Int32) (kd n : Nat) : Prop := ∀ i, i < n → ∃ q : Nat, q < kd ∧ fpr (3 * kd + i) = nI q
theorem pr_3 {f f1 f2 f3 : Nat → Int32} {kd n : Nat} {a b d : Int32} (e1 : f1 = upd f (3 * kd) a) (e2 : f2 = upd f1 (3 * kd + 1) b) (e3 : f3 = upd f2 (3 * kd + 2) d) (hn : n ≤ 3) (ha : 1 ≤ n → 0 ≤ a.toInt ∧ a.toInt < (kd : Int)) (hb : 2 ≤ n → 0 ≤ b.toInt ∧ b.toInt < (kd : Int)) (hd : 3 ≤ n → 0 ≤ d.toInt ∧ d.toInt < (kd : Int)) : PrOk f3 kd n := by
  have v : ∀ x : Int32, (0 ≤ x.toInt ∧ x.toInt < (kd : Int)) → ∃ q : Nat, q < kd ∧ x = nI q := by
    intro x hx
    obtain ⟨j, hj, e⟩ := fx_nat (x := x) hx.1
    have t := nI_toInt hj
    rw [← e] at t
    exact ⟨j, by omega, e⟩
  intro i hi
  rcases (by omega : i = 0 ∨ i = 1 ∨ i = 2) with rfl | rfl | rfl
  · obtain ⟨q, h1, h2⟩ := v a (ha (by omega))
    exact ⟨q, h1, by rw [e3, pk_un (by omega), e2, pk_un (by omega), e1]; exact pk_us.trans h2⟩
  · obtain ⟨q, h1, h2⟩ := v b (hb (by omega))
    exact ⟨q, h1, by rw [e3, pk_un (by omega), e2]; exact pk_us.trans h2⟩
  · obtain ⟨q, h1, h2⟩ := v d (hd (by omega))
    exact ⟨q, h1, by rw [e3]; exact pk_us.trans h2⟩
def PW (frw fen : Nat → Int32) (k jn kd : Nat) : Prop := (∀ r, r < k → ∀ i, i < (fen r).toNatClampNeg → ∃ q : Nat, q < kd ∧ frw (10 * r + i) = nI q) ∧ ∀ i, i < k → ∃ q : Nat, q < kd ∧ frw (10 * jn + i) = nI q
def PWi (frw fen : Nat → Int32) (k jn kd j : Nat) : Prop := PW frw fen k jn kd ∧ ∀ i, i < j → ∃ q : Nat, q < kd ∧ frw (10 * k + i) = nI q
theorem pw_0 {frw fen : Nat → Int32} {jn kd : Nat} : PW frw fen 0 jn kd := ⟨fun r h => absurd h (Nat.not_lt_zero r), fun r h => absurd h (Nat.not_lt_zero r)⟩
theorem pwi_0 {frw fen f2 : Nat → Int32} {k jn kd : Nat} {x : Int32} (h : PW frw fen k jn kd) (e : f2 = upd fen k x) : PWi frw f2 k jn kd 0 := by
  refine ⟨⟨fun r hr i hi => ?_, h.2⟩, fun i hi => absurd hi (Nat.not_lt_zero i)⟩
  rw [e, pk_un (by omega)] at hi
  exact h.1 r hr i hi
theorem pwi_step {frw f2 fen : Nat → Int32} {k jn kd j q : Nat} (h : PWi frw fen k jn kd j) (hB : BdOk 4 10 fen) (hk : k < jn) (hj : jn ≤ 3) (h10 : j < 10) (hq : q < kd) (e : f2 = upd frw (10 * k + j) (nI q)) : PWi f2 fen k jn kd (j + 1) := by
  refine ⟨⟨fun r hr i hi => ?_, fun i hi => ?_⟩, fun i hi => ?_⟩
  · have := bd_lt hB (by decide) (by omega) hi
    rw [e, pk_un (by omega)]; exact h.1.1 r hr i hi
  · rw [e, pk_un (by omega)]; exact h.1.2 i hi
  · by_cases z : i = j
    · subst z; exact ⟨q, hq, by rw [e]; exact pk_us⟩
    · rw [e, pk_un (by omega)]; exact h.2 i (by omega)
theorem pw_next {frw f2 fen : Nat → Int32} {k jn kd j q : Nat} (h : PWi frw fen k jn kd j) (hB : BdOk 4 10 fen) (hk : k < jn) (hj : jn ≤ 3) (hz : (fen k).toNatClampNeg ≤ j) (hq : q < kd) (e : f2 = upd frw (10 * jn + k) (nI q)) : PW f2 fen (k + 1) jn kd := by
  refine ⟨fun r hr i hi => ?_, fun i hi => ?_⟩
  · have := bd_lt hB (by decide) (by omega) hi
    rw [e, pk_un (by omega)]
    by_cases z : r = k
    · subst z; exact h.2 i (by omega)
    · exact h.1.1 r (by omega) i hi
  · by_cases z : i = k
    · subst z; exact ⟨q, hq, by rw [e]; exact pk_us⟩
    · rw [e, pk_un (by omega)]; exact h.1.2 i (by omega)
theorem pw_done {frw fen f2 : Nat → Int32} {k jn kd : Nat} (h : PW frw fen k jn kd) (hk : k = jn) (hj : jn ≤ 3) (e : f2 = upd fen jn (nI jn)) : RwOk frw f2 (jn + 1) kd := by
  subst hk
  intro r hr i hi
  by_cases z : r = k
  · subst z
    rw [e, pk_us, nI_clamp (by omega)] at hi
    exact h.2 i hi
  · rw [e, pk_un z] at hi
    exact h.1 r (by omega) i hi
theorem ln_upd {fll fln f2 : Nat → Int32} {kd : Nat} {x : Int32} (h : LnOk fll fln kd) (e : f2 = upd fll kd x) : LnOk f2 fln kd := by
  intro k hk i hi
  rw [e, pk_un (by omega)] at hi
  exact h k hk i hi
theorem ln_zero {fll fln : Nat → Int32} {kd : Nat} (h : LnOk fll fln kd) (e : fll kd = nI 0) : LnOk fll fln (kd + 1) := by
  intro k hk i hi
  by_cases z : k = kd
  · subst z; rw [e, nI_clamp (by omega)] at hi; omega
  · exact h k (by omega) i hi
def LxOk (fln flx : Nat → Int32) (kd mn : Nat) : Prop := (∀ j, j < 10 * kd → flx j = fln j) ∧ ∀ i, i < mn → ∃ q : Nat, q ≤ kd ∧ flx (10 * kd + i) = nI q
theorem lx_1 {fln flx : Nat → Int32} {kd : Nat} (e : flx = upd fln (10 * kd) (nI kd)) : LxOk fln flx kd 1 := by
  refine ⟨fun j hj => by rw [e, pk_un (by omega)], fun i hi => ?_⟩
  obtain rfl : i = 0 := by omega
  exact ⟨kd, Nat.le_refl kd, by rw [e]; exact pk_us⟩
theorem lx_step {fln flx f2 : Nat → Int32} {kd mn q : Nat} (h : LxOk fln flx kd mn) (hq : q ≤ kd) (e : f2 = upd flx (10 * kd + mn) (nI q)) : LxOk fln f2 kd (mn + 1) := by
  refine ⟨fun j hj => by rw [e, pk_un (by omega)]; exact h.1 j hj, fun i hi => ?_⟩
  by_cases z : i = mn
  · subst z; exact ⟨q, hq, by rw [e]; exact pk_us⟩
  · rw [e, pk_un (by omega)]; exact h.2 i (by omega)
theorem ln_next {fll fln flx f2 : Nat → Int32} {kd mn z : Nat} (h : LnOk fll fln kd) (hB : BdOk 10 10 fll) (h10 : kd < 10) (hx : LxOk fln flx kd mn) (hz : z ≤ mn) (hm : mn ≤ 10) (e : f2 = upd fll kd (nI z)) : LnOk f2 flx (kd + 1) := by
  intro k hk i hi
  by_cases y : k = kd
  · subst y
    rw [e, pk_us, nI_clamp (by omega)] at hi
    exact hx.2 i (by omega)
  · rw [e, pk_un y] at hi
    have := bd_lt hB (by decide) (by omega) hi
    rw [hx.1 _ (by omega)]
    exact h k (by omega) i hi
