/-! the reference's merge of rows: its own facts -/
def NW (frw fat fen : Nat → Int32) (rm : Nat) (h : Int32) : Prop := ∀ r, r < rm → ∀ i, (fat r).toNatClampNeg < i → i < (fen r).toNatClampNeg → frw (10 * r + i) ≠ h
def NWi (frw fat : Nat → Int32) (k j : Nat) (h : Int32) : Prop := ∀ i, (fat k).toNatClampNeg < i → i < j → frw (10 * k + i) ≠ h
theorem nw_held {w a e : Nat → Int32} {R : Nat} {x : Int32} (h : NW w a e R x) : ¬ Held w a e R x := fun ⟨r, i, h1, h2, h3, h4⟩ => h r h1 i h2 h3 h4
def WIo (frw fat fen : Nat → Int32) (k : Nat) (h w : Int32) : Prop := (w = 1 ∧ Held frw fat fen k h) ∨ (w = 0 ∧ NW frw fat fen k h)
def WIn (frw fat fen : Nat → Int32) (k j : Nat) (h w : Int32) : Prop := (w = 1 ∧ Held frw fat fen (k + 1) h) ∨ (w = 0 ∧ NW frw fat fen k h ∧ NWi frw fat k j h)
theorem wi_0 {frw fat fen : Nat → Int32} {h : Int32} : WIo frw fat fen 0 h 0 := Or.inr ⟨rfl, fun r hr => absurd hr (Nat.not_lt_zero r)⟩
theorem wi_b {frw fat fen : Nat → Int32} {k : Nat} {h w : Int32} (hw : WIo frw fat fen k h w) : w = 0 ∨ w = 1 := hw.elim (fun q => Or.inr q.1) (fun q => Or.inl q.1)
theorem wi_init {frw fat fen : Nat → Int32} {k z : Nat} {h w : Int32} (hw : WIo frw fat fen k h w) (e : fat k = nI z) (hz : z ≤ 10) : WIn frw fat fen k (z + 1) h w := by
  rcases hw with ⟨q, r, i, h1, h2⟩ | ⟨q, hn⟩
  · exact Or.inl ⟨q, r, i, by omega, h2⟩
  · refine Or.inr ⟨q, hn, fun i h1 h2 => ?_⟩
    rw [e, nI_clamp (by omega)] at h1; omega
theorem wi_step {frw fat fen : Nat → Int32} {k j : Nat} {h w : Int32} (hw : WIn frw fat fen k j h w) (h0 : w = 0) (hv : ¬ frw (10 * k + j) = h) : WIn frw fat fen k (j + 1) h 0 := by
  rcases hw with q | ⟨q, hn, hi⟩
  · rw [h0] at q; exact absurd q.1 (by decide)
  · refine Or.inr ⟨rfl, hn, fun i h1 h2 => ?_⟩
    by_cases z : i = j
    · subst z; exact hv
    · exact hi i h1 (by omega)
theorem wi_keep {frw fat fen : Nat → Int32} {k j j2 : Nat} {h w : Int32} (hw : WIn frw fat fen k j h w) (h0 : ¬ w = 0) : WIn frw fat fen k j2 h 1 := by
  rcases hw with q | q
  · exact Or.inl ⟨rfl, q.2⟩
  · exact absurd q.1 h0
theorem wi_hit {frw fat fen : Nat → Int32} {k j j2 : Nat} {h : Int32} (hv : frw (10 * k + j) = h) (h1 : (fat k).toNatClampNeg < j) (h2 : j < (fen k).toNatClampNeg) : WIn frw fat fen k j2 h 1 := Or.inl ⟨rfl, k, j, by omega, h1, h2, hv⟩
theorem wi_exit {frw fat fen : Nat → Int32} {k j : Nat} {h w : Int32} (hw : WIn frw fat fen k j h w) (hj : (fen k).toNatClampNeg ≤ j) : WIo frw fat fen (k + 1) h w := by
  rcases hw with q | ⟨q, hn, hi⟩
  · exact Or.inl q
  · refine Or.inr ⟨q, fun r hr i h1 h2 => ?_⟩
    by_cases z : r = k
    · subst z; exact hi i h1 (by omega)
    · exact hn r (by omega) i h1 h2
/-- the reference's next head is the class's -/
def NhI (w a e : Nat → Int32) (R k : Nat) (hd : Int32) : Prop := (hd = -6 ∧ nhF w a e R k (R - k) = nhF w a e R 0 R) ∨ (hd = nhF w a e R 0 R ∧ 0 ≤ hd.toInt)
theorem nhi_0 {w a e : Nat → Int32} {R : Nat} : NhI w a e R 0 (-6) := Or.inl ⟨rfl, rfl⟩
theorem nhi_leaf {w a e : Nat → Int32} {R k : Nat} {hd : Int32} (h : NhI w a e R k hd) (hx : R ≤ k ∨ 0 ≤ hd.toInt) : hd = nhF w a e R 0 R := by
  rcases h with ⟨h1, h2⟩ | ⟨h1, _⟩
  · rcases hx with q | q
    · rw [h1, ← h2, nh_end q]
    · rw [h1] at q; exact absurd q (by decide)
  · exact h1
theorem nhi_hit {w a e : Nat → Int32} {R k x y q : Nat} {hd : Int32} (h : NhI w a e R k hd) (hn : hd.toInt < 0) (hk : k < R) (ea : a k = nI x) (eb : e k = nI y) (hab : x < y) (hy : y ≤ 10) (ev : w (10 * k + x) = nI q) (hq : q < 2 ^ 31) (hw : NW w a e R (nI q)) : NhI w a e R (k + 1) (nI q) := by
  rcases h with ⟨h1, h2⟩ | ⟨_, h2⟩
  · refine Or.inr ⟨?_, by rw [nI_toInt hq]; omega⟩
    have ec : (a k).toNatClampNeg = x := by rw [ea, nI_clamp (by omega)]
    rw [← h2, nh_hit (hdB_t ⟨by rw [ec, eb, nI_clamp (by omega)]; exact hab, by rw [ec, ev]; exact nw_held hw⟩) hk, ec, ev]
  · omega
theorem nhi_no {w a e : Nat → Int32} {R k : Nat} {hd : Int32} (h : NhI w a e R k hd) (hn : hd.toInt < 0) (hk : k < R) (hx : ¬ ((a k).toNatClampNeg < (e k).toNatClampNeg ∧ ¬ Held w a e R (w (10 * k + (a k).toNatClampNeg)))) : NhI w a e R (k + 1) (-6) := by
  rcases h with ⟨h1, h2⟩ | ⟨_, h2⟩
  · exact Or.inl ⟨rfl, (nh_miss (hdB_f hx) hk).symm.trans h2⟩
  · omega
/-- the reference lays its rows -/
def RowQ (w a e p ll ln : Nat → Int32) (jn k : Nat) : Prop := RowP w a e p ll ln k ∧ ∀ i, i < k → w (10 * jn + i) = p i
def RowM (w a e p ll ln : Nat → Int32) (jn k j : Nat) : Prop := RowQ w a e p ll ln jn k ∧ a k = 0 ∧ e k = ll (p k).toNatClampNeg ∧ ∀ i, i < j → w (10 * k + i) = ln (10 * (p k).toNatClampNeg + i)
theorem rq_0 {w a e p ll ln : Nat → Int32} {jn : Nat} : RowQ w a e p ll ln jn 0 := ⟨fun i h => absurd h (Nat.not_lt_zero i), fun i h => absurd h (Nat.not_lt_zero i)⟩
theorem rm_0 {w a e a2 e2 p ll ln : Nat → Int32} {jn k : Nat} {x : Int32} (h : RowQ w a e p ll ln jn k) (ea : a2 = upd a k 0) (ee : e2 = upd e k x) (ex : x = ll (p k).toNatClampNeg) : RowM w a2 e2 p ll ln jn k 0 := by
  refine ⟨⟨fun i hi => ?_, h.2⟩, by rw [ea]; exact pk_us, by rw [ee, pk_us]; exact ex, fun i hi => absurd hi (Nat.not_lt_zero i)⟩
  rw [ea, ee, pk_un (by omega), pk_un (by omega)]; exact h.1 i hi
theorem rm_step {w w2 a e p ll ln : Nat → Int32} {jn k j : Nat} {x : Int32} (h : RowM w a e p ll ln jn k j) (hB : BdOk 10 10 ll) (hk : k < jn) (hn : jn ≤ 3) (hj : j < 10) (hp : ∀ i, i < k → (p i).toNatClampNeg < 10) (ex : x = ln (10 * (p k).toNatClampNeg + j)) (ew : w2 = upd w (10 * k + j) x) : RowM w2 a e p ll ln jn k (j + 1) := by
  refine ⟨⟨fun i hi => ?_, fun i hi => ?_⟩, h.2.1, h.2.2.1, fun i hi => ?_⟩
  · obtain ⟨h1, h2, h3⟩ := h.1.1 i hi
    refine ⟨h1, h2, fun y hy => ?_⟩
    obtain ⟨z, hz, e⟩ := hB _ (hp i hi)
    have hz2 : (ll (p i).toNatClampNeg).toNatClampNeg = z := by rw [e, nI_clamp (by omega)]
    rw [ew, pk_un (by omega)]; exact h3 y hy
  · rw [ew, pk_un (by omega)]; exact h.1.2 i hi
  · by_cases z : i = j
    · subst z; rw [ew, pk_us]; exact ex
    · rw [ew, pk_un (by omega)]; exact h.2.2.2 i (by omega)
theorem rm_next {w w2 a e p ll ln : Nat → Int32} {jn k j : Nat} {x : Int32} (h : RowM w a e p ll ln jn k j) (hB : BdOk 10 10 ll) (hk : k < jn) (hn : jn ≤ 3) (hp : ∀ i, i < k + 1 → (p i).toNatClampNeg < 10) (hj : (ll (p k).toNatClampNeg).toNatClampNeg ≤ j) (ex : x = p k) (ew : w2 = upd w (10 * jn + k) x) : RowQ w2 a e p ll ln jn (k + 1) := by
  refine ⟨fun i hi => ?_, fun i hi => ?_⟩
  · obtain ⟨z, hz, e'⟩ := hB _ (hp i hi)
    have hz2 : (ll (p i).toNatClampNeg).toNatClampNeg = z := by rw [e', nI_clamp (by omega)]
    by_cases y : i = k
    · subst y
      refine ⟨h.2.1, h.2.2.1, fun x hx => ?_⟩
      rw [ew, pk_un (by omega)]; exact h.2.2.2 x (by omega)
    · obtain ⟨h1, h2, h3⟩ := h.1.1 i (by omega)
      refine ⟨h1, h2, fun x hx => ?_⟩
      rw [ew, pk_un (by omega)]; exact h3 x hx
  · by_cases y : i = k
    · subst y; rw [ew, pk_us]; exact ex
    · rw [ew, pk_un (by omega)]; exact h.1.2 i (by omega)
theorem rq_done {w a e a2 e2 p ll ln : Nat → Int32} {jn k : Nat} (h : RowQ w a e p ll ln jn k) (hk : k = jn) (ea : a2 = upd a jn 0) (ee : e2 = upd e jn (nI jn)) : RowS w a2 e2 p ll ln jn := by
  subst hk
  refine ⟨fun i hi => ?_, by rw [ea]; exact pk_us, by rw [ee]; exact pk_us, h.2⟩
  rw [ea, ee, pk_un (by omega), pk_un (by omega)]; exact h.1 i hi
theorem ps_next {f p : Nat → Int32} {k : Nat} (h : ∀ i, i < k → 0 < (f (p i).toNatClampNeg).toNatClampNeg) (hz : 0 < (f (p k).toNatClampNeg).toNatClampNeg) : ∀ i, i < k + 1 → 0 < (f (p i).toNatClampNeg).toNatClampNeg := by
  intro i hi
  by_cases z : i = k
  · subst z; exact hz
  · exact h i (by omega)
theorem km_lno {kd n k : Nat} {ll ln lq l1 q1 q2 p : Nat → Int32} (hp : ∀ i, i < n → ∃ q : Nat, q < kd ∧ p i = nI q) (hc : kd ≤ 10) (hk : k < n) (e1 : l1 = upd ll kd 0) (e2 : q1 = upd lq kd 0) (e3 : q2 = upd q1 kd (-5)) (hz : (l1 (p k).toNatClampNeg).toNatClampNeg = 0) : KM kd ll ln lq l1 ln q2 p n := by
  refine ⟨0, -5, e1, by rw [e3, e2, upd_upd], Or.inl ⟨⟨k, hk, ?_⟩, rfl, rfl, rfl⟩⟩
  obtain ⟨q, h1, h2⟩ := hp k hk
  rw [← hz, e1, h2, nI_clamp (by omega), pk_un (by omega)]
theorem km_lyes {kd n : Nat} {ll ln lq l1 q1 ll2 ln2 lq2 p : Nat → Int32} {L Q : Int32} (hp : ∀ i, i < n → ∃ q : Nat, q < kd ∧ p i = nI q) (hc : kd ≤ 10) (h : ∀ i, i < n → 0 < (l1 (p i).toNatClampNeg).toNatClampNeg) (e1 : l1 = upd ll kd 0) (e2 : q1 = upd lq kd 0) (e3 : ll2 = upd l1 kd L) (e4 : lq2 = upd lq kd Q) (hl : LayS l1 ln p n kd L Q ln2) : KM kd ll ln lq ll2 ln2 lq2 p n := by
  have hq : ∀ i, i < n → l1 (p i).toNatClampNeg = ll (p i).toNatClampNeg := fun i hi => by
    obtain ⟨q, h1, h2⟩ := hp i hi
    rw [e1, h2, nI_clamp (by omega), pk_un (by omega)]
  exact ⟨L, Q, by rw [e3, e1, upd_upd], e4, Or.inr ⟨fun i hi => by rw [← hq i hi]; exact h i hi, lay_ll hl hq⟩⟩
def HdQ (frw fat fen : Nat → Int32) (rm kd q : Nat) : Prop := q < kd ∧ NW frw fat fen rm (nI q) ∧ ∃ r, r < rm ∧ ∃ a b : Nat, fat r = nI a ∧ fen r = nI b ∧ a < b ∧ b ≤ 10 ∧ frw (10 * r + a) = nI q
def HdP (frw fat fen : Nat → Int32) (rm kd : Nat) (v : Int32) : Prop := v = -6 ∨ ∃ q : Nat, v = nI q ∧ HdQ frw fat fen rm kd q
def Rem (frw fat fen : Nat → Int32) (rm : Nat) (tk : Nat → Bool) : Prop := ∀ r, r < rm → ∀ i, (fat r).toNatClampNeg ≤ i → i < (fen r).toNatClampNeg → ∀ q, frw (10 * r + i) = nI q → tk q = false
def cB (t : Nat → Bool) : Nat → Nat
  | 0 => 0
  | n + 1 => cB t n + (if t n then 1 else 0)
theorem cB_le (t : Nat → Bool) : ∀ n, cB t n ≤ n
  | 0 => Nat.le_refl 0
  | n + 1 => by
    have h := cB_le t n
    show cB t n + (if t n then 1 else 0) ≤ n + 1
    split <;> omega
def tset (t : Nat → Bool) (q : Nat) : Nat → Bool := fun j => if j = q then true else t j
theorem cB_out {t : Nat → Bool} {q : Nat} : ∀ {n : Nat}, n ≤ q → cB (tset t q) n = cB t n
  | 0, _ => rfl
  | n + 1, h => by
    have ih := cB_out (t := t) (q := q) (n := n) (by omega)
    show cB (tset t q) n + (if tset t q n then 1 else 0) = cB t n + (if t n then 1 else 0)
    have hn : tset t q n = t n := if_neg (by omega)
    rw [ih, hn]
theorem cB_set {t : Nat → Bool} {q : Nat} (hq : t q = false) : ∀ {n : Nat}, q < n → cB (tset t q) n = cB t n + 1
  | 0, h => absurd h (Nat.not_lt_zero q)
  | n + 1, h => by
    show cB (tset t q) n + (if tset t q n then 1 else 0) = cB t n + (if t n then 1 else 0) + 1
    by_cases z : n = q
    · subst z
      rw [cB_out (Nat.le_refl _), hq]
      unfold tset; simp
    · rw [cB_set hq (n := n) (by omega)]
      unfold tset; rw [if_neg z]; omega
theorem cB_lt {t : Nat → Bool} {q n : Nat} (hq : t q = false) (h : q < n) : cB t n < n := by
  have h1 := cB_set hq h
  have h2 := cB_le (tset t q) n
  omega
theorem cB_none (n : Nat) : cB (fun _ => false) n = 0 := by
  induction n with
  | zero => rfl
  | succ n ih => show cB (fun _ => false) n + 0 = 0; omega
theorem hd_free {frw fat fen : Nat → Int32} {rm kd q : Nat} {tk : Nat → Bool} (h : HdQ frw fat fen rm kd q) (hr : Rem frw fat fen rm tk) : tk q = false := by
  obtain ⟨_, _, r, h1, a, b, ea, eb, hab, hb, e⟩ := h
  exact hr r h1 a (by rw [ea, nI_clamp (by omega)]; omega) (by rw [eb, nI_clamp (by omega)]; omega) q e
theorem adv_no {frw fat fay f2 fen : Nat → Int32} {h : Int32} {k a b : Nat} (hA : AdvI frw fat fay fen h k) (ea : fay k = nI a) (ha : a ≤ 10) (eb : fen k = nI b) (hb : b ≤ 10) (hv : ¬ (a < b ∧ frw (10 * k + a) = h)) (e : f2 = upd fay k (nI (a + 0))) : AdvI frw fat f2 fen h (k + 1) := by
  have ef : fat k = nI a := (adv_at hA).symm.trans ea
  intro r
  by_cases z : r = k
  · subst z
    rw [e, pk_us, if_pos (by omega)]
    unfold adv
    rw [ef, eb, nI_clamp (by omega), nI_clamp (by omega), if_neg hv]
    rfl
  · rw [e, pk_un z, hA r]
    by_cases y : r < k
    · rw [if_pos y, if_pos (by omega)]
    · rw [if_neg y, if_neg (by omega)]
theorem rem_next {frw fat fay fen : Nat → Int32} {rm k q : Nat} {tk : Nat → Bool} (hB : BdOk 4 10 fat) (h4 : rm ≤ 4) (hR : Rem frw fat fen rm tk) (hN : NW frw fat fen rm (nI q)) (hA : AdvI frw fat fay fen (nI q) k) (hk : rm ≤ k) (hq : q < 10) : Rem frw fay fen rm (tset tk q) := by
  intro r hr i h1 h2 p e
  have hp : p = q → frw (10 * r + i) = nI q := fun z => z ▸ e
  obtain ⟨a, ha, ea⟩ := hB r (by omega)
  have hc : (fat r).toNatClampNeg = a := by rw [ea, nI_clamp (by omega)]
  rw [hA r, if_pos (by omega)] at h1
  unfold adv at h1
  by_cases c : (fat r).toNatClampNeg < (fen r).toNatClampNeg ∧ frw (10 * r + (fat r).toNatClampNeg) = nI q
  · rw [if_pos c, nI_clamp (by omega)] at h1
    have t1 := hR r hr i (by omega) h2 p e
    have t2 := hN r hr i (by omega) h2
    unfold tset
    rw [if_neg (fun z => t2 (hp z))]; exact t1
  · rw [if_neg c] at h1
    have t1 := hR r hr i h1 h2 p e
    unfold tset
    rw [if_neg (fun z => ?_)]
    · exact t1
    · by_cases y : i = (fat r).toNatClampNeg
      · exact c ⟨by omega, y ▸ hp z⟩
      · exact hN r hr i (by omega) h2 (hp z)
def PrOk (fpr : Nat → Int32) (kd n : Nat) : Prop := ∀ i, i < n → ∃ q : Nat, q < kd ∧ fpr (3 * kd + i) = nI q
theorem pr_3 {f f1 f2 f3 : Nat → Int32} {kd n : Nat} {a b d : Int32} (e1 : f1 = upd f (3 * kd) a) (e2 : f2 = upd f1 (3 * kd + 1) b) (e3 : f3 = upd f2 (3 * kd + 2) d) (hn : n ≤ 3) (ha : 1 ≤ n → 0 ≤ a.toInt ∧ a.toInt < (kd : Int)) (hb : 2 ≤ n → 0 ≤ b.toInt ∧ b.toInt < (kd : Int)) (hd : 3 ≤ n → 0 ≤ d.toInt ∧ d.toInt < (kd : Int)) : PrOk f3 kd n := by
  have v : ∀ x : Int32, (0 ≤ x.toInt ∧ x.toInt < (kd : Int)) → ∃ q : Nat, q < kd ∧ x = nI q := by
    intro x hx
    obtain ⟨j, hj, e⟩ := fx_nat (x := x) hx.1
    have t := nI_toInt hj
    rw [← e] at t
    exact ⟨j, by omega, e⟩
  intro i hi
  rcases (by omega : i = 0 ∨ i = 1 ∨ i = 2) with rfl | rfl | rfl
  · obtain ⟨q, h1, h2⟩ := v a (ha (by omega))
    exact ⟨q, h1, by rw [e3, pk_un (by omega), e2, pk_un (by omega), e1]; exact pk_us.trans h2⟩
  · obtain ⟨q, h1, h2⟩ := v b (hb (by omega))
    exact ⟨q, h1, by rw [e3, pk_un (by omega), e2]; exact pk_us.trans h2⟩
  · obtain ⟨q, h1, h2⟩ := v d (hd (by omega))
    exact ⟨q, h1, by rw [e3]; exact pk_us.trans h2⟩
def PW (frw fen : Nat → Int32) (k jn kd : Nat) : Prop := (∀ r, r < k → ∀ i, i < (fen r).toNatClampNeg → ∃ q : Nat, q < kd ∧ frw (10 * r + i) = nI q) ∧ ∀ i, i < k → ∃ q : Nat, q < kd ∧ frw (10 * jn + i) = nI q
def PWi (frw fen : Nat → Int32) (k jn kd j : Nat) : Prop := PW frw fen k jn kd ∧ ∀ i, i < j → ∃ q : Nat, q < kd ∧ frw (10 * k + i) = nI q
theorem pw_0 {frw fen : Nat → Int32} {jn kd : Nat} : PW frw fen 0 jn kd := ⟨fun r h => absurd h (Nat.not_lt_zero r), fun r h => absurd h (Nat.not_lt_zero r)⟩
theorem pwi_0 {frw fen f2 : Nat → Int32} {k jn kd : Nat} {x : Int32} (h : PW frw fen k jn kd) (e : f2 = upd fen k x) : PWi frw f2 k jn kd 0 := by
  refine ⟨⟨fun r hr i hi => ?_, h.2⟩, fun i hi => absurd hi (Nat.not_lt_zero i)⟩
  rw [e, pk_un (by omega)] at hi
  exact h.1 r hr i hi
theorem pwi_step {frw f2 fen : Nat → Int32} {k jn kd j q : Nat} (h : PWi frw fen k jn kd j) (hB : BdOk 4 10 fen) (hk : k < jn) (hj : jn ≤ 3) (h10 : j < 10) (hq : q < kd) (e : f2 = upd frw (10 * k + j) (nI q)) : PWi f2 fen k jn kd (j + 1) := by
  refine ⟨⟨fun r hr i hi => ?_, fun i hi => ?_⟩, fun i hi => ?_⟩
  · have := bd_lt hB (by decide) (by omega) hi
    rw [e, pk_un (by omega)]; exact h.1.1 r hr i hi
  · rw [e, pk_un (by omega)]; exact h.1.2 i hi
  · by_cases z : i = j
    · subst z; exact ⟨q, hq, by rw [e]; exact pk_us⟩
    · rw [e, pk_un (by omega)]; exact h.2 i (by omega)
theorem pw_next {frw f2 fen : Nat → Int32} {k jn kd j q : Nat} (h : PWi frw fen k jn kd j) (hB : BdOk 4 10 fen) (hk : k < jn) (hj : jn ≤ 3) (hz : (fen k).toNatClampNeg ≤ j) (hq : q < kd) (e : f2 = upd frw (10 * jn + k) (nI q)) : PW f2 fen (k + 1) jn kd := by
  refine ⟨fun r hr i hi => ?_, fun i hi => ?_⟩
  · have := bd_lt hB (by decide) (by omega) hi
    rw [e, pk_un (by omega)]
    by_cases z : r = k
    · subst z; exact h.2 i (by omega)
    · exact h.1.1 r (by omega) i hi
  · by_cases z : i = k
    · subst z; exact ⟨q, hq, by rw [e]; exact pk_us⟩
    · rw [e, pk_un (by omega)]; exact h.1.2 i (by omega)
theorem pw_done {frw fen f2 : Nat → Int32} {k jn kd : Nat} (h : PW frw fen k jn kd) (hk : k = jn) (hj : jn ≤ 3) (e : f2 = upd fen jn (nI jn)) : RwOk frw f2 (jn + 1) kd := by
  subst hk
  intro r hr i hi
  by_cases z : r = k
  · subst z
    rw [e, pk_us, nI_clamp (by omega)] at hi
    exact h.2 i hi
  · rw [e, pk_un z] at hi
    exact h.1 r (by omega) i hi
theorem ln_upd {fll fln f2 : Nat → Int32} {kd : Nat} {x : Int32} (h : LnOk fll fln kd) (e : f2 = upd fll kd x) : LnOk f2 fln kd := by
  intro k hk i hi
  rw [e, pk_un (by omega)] at hi
  exact h k hk i hi
theorem ln_zero {fll fln : Nat → Int32} {kd : Nat} (h : LnOk fll fln kd) (e : fll kd = nI 0) : LnOk fll fln (kd + 1) := by
  intro k hk i hi
  by_cases z : k = kd
  · subst z; rw [e, nI_clamp (by omega)] at hi; omega
  · exact h k (by omega) i hi
def LxOk (fln flx : Nat → Int32) (kd mn : Nat) : Prop := (∀ j, j < 10 * kd → flx j = fln j) ∧ ∀ i, i < mn → ∃ q : Nat, q ≤ kd ∧ flx (10 * kd + i) = nI q
theorem lx_1 {fln flx : Nat → Int32} {kd : Nat} (e : flx = upd fln (10 * kd) (nI kd)) : LxOk fln flx kd 1 := by
  refine ⟨fun j hj => by rw [e, pk_un (by omega)], fun i hi => ?_⟩
  obtain rfl : i = 0 := by omega
  exact ⟨kd, Nat.le_refl kd, by rw [e]; exact pk_us⟩
theorem lx_step {fln flx f2 : Nat → Int32} {kd mn q : Nat} (h : LxOk fln flx kd mn) (hq : q ≤ kd) (e : f2 = upd flx (10 * kd + mn) (nI q)) : LxOk fln f2 kd (mn + 1) := by
  refine ⟨fun j hj => by rw [e, pk_un (by omega)]; exact h.1 j hj, fun i hi => ?_⟩
  by_cases z : i = mn
  · subst z; exact ⟨q, hq, by rw [e]; exact pk_us⟩
  · rw [e, pk_un (by omega)]; exact h.2 i (by omega)
theorem ln_next {fll fln flx f2 : Nat → Int32} {kd mn z : Nat} (h : LnOk fll fln kd) (hB : BdOk 10 10 fll) (h10 : kd < 10) (hx : LxOk fln flx kd mn) (hz : z ≤ mn) (hm : mn ≤ 10) (e : f2 = upd fll kd (nI z)) : LnOk f2 flx (kd + 1) := by
  intro k hk i hi
  by_cases y : k = kd
  · subst y
    rw [e, pk_us, nI_clamp (by omega)] at hi
    exact hx.2 i (by omega)
  · rw [e, pk_un y] at hi
    have := bd_lt hB (by decide) (by omega) hi
    rw [hx.1 _ (by omega)]
    exact h k (by omega) i hi
theorem bgm_no {f g w a e : Nat → Int32} {kd k : Nat} {z : Nat → Int32} (h : f = upd z kd (begF w a e k)) (e2 : g = upd f kd (f kd ||| 0)) (hn : ¬ (a k).toNatClampNeg < (e k).toNatClampNeg) : g = upd z kd (begF w a e (k + 1)) := by
  rw [e2, or_0, h, pk_us, upd_upd, show begF w a e (k + 1) = begF w a e k from if_neg hn]
theorem bgm_yes {f g w a e z : Nat → Int32} {kd k : Nat} {x : Int32} (h : f = upd z kd (begF w a e k)) (ex : w (10 * k + (a k).toNatClampNeg) = x) (hn : (a k).toNatClampNeg < (e k).toNatClampNeg) (e2 : g = upd f kd (f kd ||| ((1 : Int32) <<< (x &&& 31)))) : g = upd z kd (begF w a e (k + 1)) := by
  rw [e2, h, pk_us, upd_upd, show begF w a e (k + 1) = begF w a e k ||| ((1 : Int32) <<< (w (10 * k + (a k).toNatClampNeg) &&& 31)) from if_pos hn, ex]
theorem km_p {kd n : Nat} {ll ln lq ll2 ln2 lq2 p : Nat → Int32} {f : Nat → Int32} (hp : ∀ i, i < 3 → f (3 * kd + i) = p i) (hn : n ≤ 3) (h : KM kd ll ln lq ll2 ln2 lq2 (fun i => f (3 * kd + i)) n) : KM kd ll ln lq ll2 ln2 lq2 p n := by
  obtain ⟨L, Q, h1, h2, h3⟩ := h
  refine ⟨L, Q, h1, h2, ?_⟩
  rcases h3 with ⟨⟨i, a1, a2⟩, a3⟩ | ⟨a1, a2⟩
  · exact Or.inl ⟨⟨i, a1, by rw [← hp i (by omega)]; exact a2⟩, a3⟩
  · exact Or.inr ⟨fun i hi => by rw [← hp i (by omega)]; exact a1 i hi, lay_p a2 (fun i hi => hp i (by omega))⟩
