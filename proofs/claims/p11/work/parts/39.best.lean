/-! BEST: class and reference have as many HITS (under way) -/
theorem ev_at {f : Nat → Int32} {x : Int32} {m a j : Nat} (ha : a < m) (hj : j < m) : pfF (toF f a (m - 1)) x (m - 1) j = if j = 0 then x else if j ≤ a then f (j - 1) else f j := by
  unfold pfF toF
  by_cases z : j = 0
  · rw [if_pos z, if_pos z]
  · rw [if_neg z, if_neg z, if_pos (show j ≤ m - 1 by omega)]
    by_cases y : j ≤ a
    · rw [if_pos y, if_neg (by omega)]
    · rw [if_neg y, if_pos (by omega), show j - 1 + 1 = j from (by omega)]
theorem mem_ev {f : Nat → Int32} {x v : Int32} {m a : Nat} (ha : a < m) : (∃ j, j < m ∧ pfF (toF f a (m - 1)) x (m - 1) j = v) ↔ (x = v ∨ ∃ j, j < m ∧ j ≠ a ∧ f j = v) := by
  constructor
  · rintro ⟨j, h1, h2⟩
    rw [ev_at ha h1] at h2
    by_cases z : j = 0
    · rw [if_pos z] at h2; exact Or.inl h2
    · rw [if_neg z] at h2
      by_cases y : j ≤ a
      · rw [if_pos y] at h2; exact Or.inr ⟨j - 1, by omega, by omega, h2⟩
      · rw [if_neg y] at h2; exact Or.inr ⟨j, h1, by omega, h2⟩
  · rintro (h | ⟨j, h1, h2, h3⟩)
    · exact ⟨0, by omega, by rw [ev_at ha (by omega), if_pos rfl]; exact h⟩
    · rcases Nat.lt_or_gt_of_ne h2 with z | z
      · exact ⟨j + 1, by omega, by rw [ev_at ha (by omega), if_neg (by omega), if_pos (by omega), Nat.add_sub_cancel]; exact h3⟩
      · exact ⟨j, h1, by rw [ev_at ha h1, if_neg (by omega), if_neg (by omega)]; exact h3⟩
theorem mem_new {f : Nat → Int32} {x v : Int32} {m : Nat} : (∃ j, j < m + 1 ∧ pfF f x m j = v) ↔ (x = v ∨ ∃ j, j < m ∧ f j = v) := by
  constructor
  · rintro ⟨j, h1, h2⟩
    unfold pfF at h2
    by_cases z : j = 0
    · rw [if_pos z] at h2; exact Or.inl h2
    · rw [if_neg z, if_pos (by omega)] at h2; exact Or.inr ⟨j - 1, by omega, h2⟩
  · rintro (h | ⟨j, h1, h3⟩)
    · exact ⟨0, by omega, by unfold pfF; rw [if_pos rfl]; exact h⟩
    · exact ⟨j + 1, by omega, by unfold pfF; rw [if_neg (by omega), if_pos (by omega), Nat.add_sub_cancel]; exact h3⟩
theorem bs_cg {fp fk fp' fk' : Nat → Int32} {n : Int32} {sq q : Nat} (h : ∀ i, i < q → fp i = fp' i ∧ fk i = fk' i) : ∀ i, i ≤ q → bsC fp fk n sq q i = bsC fp' fk' n sq q i
  | 0, _ => rfl
  | i + 1, hi => by
    have ih := bs_cg (n := n) (sq := sq) h i (by omega)
    have lu : ∀ (m j : Nat) (l : Int32), j + m ≤ q → luF fp fk n m j l = luF fp' fk' n m j l := by
      intro m
      induction m with
      | zero => intro _ _ _; rfl
      | succ m ihm =>
        intro j l hj
        show (if (bcF l).toInt ≤ 1 then l else luF fp fk n m (j + 1) (if fp j = n then clrF l (fk j) else l)) = (if (bcF l).toInt ≤ 1 then l else luF fp' fk' n m (j + 1) (if fp' j = n then clrF l (fk' j) else l))
        rw [(h j (by omega)).1, (h j (by omega)).2, ihm (j + 1) _ (by omega)]
    unfold bsC
    rw [ih, (h i (by omega)).1, (h i (by omega)).2, lu _ _ _ (by omega)]
theorem nc_spec {fp fk : Nat → Int32} {n x : Int32} {b : Nat} : ∀ (m a : Nat), (ncF fp fk n x b m a = a ∧ ∀ c, b < c → c ≤ b + m → ¬ (fp c = n ∧ fk c = x)) ∨ (b < ncF fp fk n x b m a ∧ ncF fp fk n x b m a ≤ b + m ∧ (fp (ncF fp fk n x b m a) = n ∧ fk (ncF fp fk n x b m a) = x) ∧ ∀ c, b < c → c < ncF fp fk n x b m a → ¬ (fp c = n ∧ fk c = x))
  | 0, a => Or.inl ⟨rfl, fun c h1 h2 => absurd h2 (by omega)⟩
  | m + 1, a => by
    show (ncF fp fk n x b m (if fp (b + 1 + m) = n ∧ fk (b + 1 + m) = x then b + 1 + m else a) = a ∧ _) ∨ (b < ncF fp fk n x b m (if fp (b + 1 + m) = n ∧ fk (b + 1 + m) = x then b + 1 + m else a) ∧ ncF fp fk n x b m (if fp (b + 1 + m) = n ∧ fk (b + 1 + m) = x then b + 1 + m else a) ≤ b + (m + 1) ∧ (fp (ncF fp fk n x b m (if fp (b + 1 + m) = n ∧ fk (b + 1 + m) = x then b + 1 + m else a)) = n ∧ fk (ncF fp fk n x b m (if fp (b + 1 + m) = n ∧ fk (b + 1 + m) = x then b + 1 + m else a)) = x) ∧ ∀ c, b < c → c < ncF fp fk n x b m (if fp (b + 1 + m) = n ∧ fk (b + 1 + m) = x then b + 1 + m else a) → ¬ (fp c = n ∧ fk c = x))
    by_cases q : fp (b + 1 + m) = n ∧ fk (b + 1 + m) = x
    · rw [if_pos q]
      rcases nc_spec m (b + 1 + m) with ⟨h1, h2⟩ | ⟨h1, h2, h3, h4⟩
      · rw [h1]; exact Or.inr ⟨by omega, by omega, q, fun c c1 c2 => h2 c c1 (by omega)⟩
      · exact Or.inr ⟨h1, by omega, h3, h4⟩
    · rw [if_neg q]
      rcases nc_spec m a with ⟨h1, h2⟩ | ⟨h1, h2, h3, h4⟩
      · refine Or.inl ⟨h1, fun c c1 c2 => ?_⟩
        by_cases z : c = b + 1 + m
        · subst z; exact q
        · exact h2 c c1 (by omega)
      · exact Or.inr ⟨h1, by omega, h3, h4⟩
theorem nx_spec {fp fk : Nat → Int32} {n x : Int32} {b q : Nat} (hb : b < q) : (nxC fp fk n x b q = 1000 ∧ ∀ c, b < c → c < q → ¬ (fp c = n ∧ fk c = x)) ∨ (b < nxC fp fk n x b q ∧ nxC fp fk n x b q < q ∧ (fp (nxC fp fk n x b q) = n ∧ fk (nxC fp fk n x b q) = x) ∧ ∀ c, b < c → c < nxC fp fk n x b q → ¬ (fp c = n ∧ fk c = x)) := by
  unfold nxC
  rcases nc_spec (fp := fp) (fk := fk) (n := n) (x := x) (b := b) (q - (b + 1)) 1000 with ⟨h1, h2⟩ | ⟨h1, h2, h3⟩
  · exact Or.inl ⟨h1, fun c c1 c2 => h2 c c1 (by omega)⟩
  · exact Or.inr ⟨h1, by omega, h3⟩
theorem fa_max (g : Nat → Nat) : ∀ m j, j ≤ m → g j ≤ g (faF g m)
  | 0, j, hj => by
    obtain rfl : j = 0 := by omega
    exact Nat.le_refl _
  | m + 1, j, hj => by
    have ih := fa_max g m
    show g j ≤ g (if g (faF g m) < g (m + 1) then m + 1 else faF g m)
    by_cases q : g (faF g m) < g (m + 1)
    · rw [if_pos q]
      by_cases z : j = m + 1
      · subst z; exact Nat.le_refl _
      · have := ih j (by omega); omega
    · rw [if_neg q]
      by_cases z : j = m + 1
      · subst z; omega
      · exact ih j (by omega)
theorem cnt_add {P Q : Nat → Bool} {a : Nat} : ∀ {n : Nat}, a < n → P a = false → Q a = true → (∀ i, i < n → i ≠ a → Q i = P i) → cnt Q n = cnt P n + 1
  | 0, h, _, _, _ => absurd h (Nat.not_lt_zero a)
  | n + 1, h, hp, hq, he => by
    show cnt Q n + (if Q n = true then 1 else 0) = cnt P n + (if P n = true then 1 else 0) + 1
    by_cases z : a = n
    · subst z
      rw [cnt_congr (fun i hi => he i (by omega) (by omega)), if_pos hq, if_neg (by rw [hp]; decide)]
    · rw [cnt_add (n := n) (by omega) hp hq (fun i h1 h2 => he i (by omega) h2), he n (by omega) (fun y => z y.symm)]; omega
theorem cnt_zero {P : Nat → Bool} : ∀ {n : Nat}, (∀ i, i < n → P i = false) → cnt P n = 0
  | 0, _ => rfl
  | n + 1, h => by
    show cnt P n + (if P n = true then 1 else 0) = 0
    rw [cnt_zero (fun i hi => h i (by omega)), if_neg (by rw [h n (by omega)]; decide)]
theorem cnt_pos {P : Nat → Bool} {u : Nat} : ∀ {n : Nat}, u < n → P u = true → 1 ≤ cnt P n
  | 0, h, _ => absurd h (Nat.not_lt_zero u)
  | n + 1, h, hp => by
    show 1 ≤ cnt P n + (if P n = true then 1 else 0)
    by_cases z : u = n
    · subst z; rw [if_pos hp]; omega
    · have := cnt_pos (P := P) (u := u) (n := n) (by omega) hp
      omega
theorem cnt_rem {P : Nat → Bool} {u n : Nat} (h : u < n) (hp : P u = true) : cnt P n = cnt (fun i => P i && !decide (i = u)) n + 1 :=
  cnt_add h (by rw [decide_eq_true (p := u = u) rfl]; cases P u <;> rfl) hp (fun i _ h2 => by show P i = (P i && !decide (i = u)); rw [decide_eq_false h2]; cases P i <;> rfl)
theorem ct_two {P : Nat → Bool} {u v n : Nat} (hu : u < n) (hv : v < n) (pu : P u = true) (pv : P v = true) (h : cnt P n ≤ 1) : u = v := by
  by_cases z : u = v
  · exact z
  · have e := cnt_rem hu pu
    have := cnt_pos (P := fun i => P i && !decide (i = u)) hv (by show (P v && !decide (v = u)) = true; rw [pv, decide_eq_false (fun y => z y.symm)]; rfl)
    omega
theorem cnt_sub {P Q : Nat → Bool} : ∀ {n : Nat}, (∀ i, i < n → P i = true → Q i = true) → cnt P n ≤ cnt Q n ∧ (cnt P n = cnt Q n → ∀ i, i < n → Q i = true → P i = true)
  | 0, _ => ⟨Nat.le_refl _, fun _ i hi => absurd hi (Nat.not_lt_zero i)⟩
  | n + 1, h => by
    obtain ⟨h1, h2⟩ := cnt_sub (P := P) (Q := Q) (n := n) (fun i hi => h i (by omega))
    show cnt P n + (if P n = true then 1 else 0) ≤ cnt Q n + (if Q n = true then 1 else 0) ∧ (cnt P n + (if P n = true then 1 else 0) = cnt Q n + (if Q n = true then 1 else 0) → _)
    by_cases p : P n = true
    · have q := h n (by omega) p
      rw [if_pos p, if_pos q]
      refine ⟨by omega, fun e i hi hq => ?_⟩
      by_cases z : i = n
      · subst z; exact p
      · exact h2 (by omega) i (by omega) hq
    · rw [if_neg p]
      by_cases q : Q n = true
      · rw [if_pos q]; exact ⟨by omega, fun e => absurd e (by omega)⟩
      · rw [if_neg q]
        refine ⟨by omega, fun e i hi hq => ?_⟩
        by_cases z : i = n
        · subst z; exact absurd hq q
        · exact h2 (by omega) i (by omega) hq
def memB (f : Nat → Int32) : Nat → Nat → Bool
  | 0, _ => false
  | m + 1, x => memB f m x || decide (f m = nI x)
theorem mem_iff {f : Nat → Int32} {x : Nat} : ∀ {m : Nat}, memB f m x = true ↔ ∃ j, j < m ∧ f j = nI x
  | 0 => ⟨fun h => absurd (show false = true from h) (by decide), fun ⟨j, h, _⟩ => absurd h (Nat.not_lt_zero j)⟩
  | m + 1 => by
    have ih := mem_iff (f := f) (x := x) (m := m)
    show (memB f m x || decide (f m = nI x)) = true ↔ _
    rw [Bool.or_eq_true, ih, decide_eq_true_iff]
    constructor
    · rintro (⟨j, h1, h2⟩ | h)
      · exact ⟨j, by omega, h2⟩
      · exact ⟨m, by omega, h⟩
    · rintro ⟨j, h1, h2⟩
      by_cases z : j = m
      · subst z; exact Or.inr h2
      · exact Or.inl ⟨j, by omega, h2⟩
theorem cnt_mem {f : Nat → Int32} : ∀ {m : Nat}, (∀ j, j < m → ∃ x : Nat, x < 10 ∧ f j = nI x) → DisN m f → cnt (memB f m) 10 = m
  | 0, _, _ => cnt_zero (fun _ _ => rfl)
  | m + 1, h, hd => by
    have ih := cnt_mem (f := f) (m := m) (fun j hj => h j (by omega)) (fun i j h1 h2 => hd i j h1 (by omega))
    obtain ⟨x, hx, e⟩ := h m (by omega)
    rw [cnt_add (P := memB f m) (Q := memB f (m + 1)) (a := x) hx, ih]
    · refine Bool.eq_false_iff.mpr (fun q => ?_)
      obtain ⟨j, h1, h2⟩ := mem_iff.mp q
      exact hd j m h1 (by omega) (h2.trans e.symm)
    · exact mem_iff.mpr ⟨m, by omega, e⟩
    · intro i hi hn
      show (memB f m i || decide (f m = nI i)) = memB f m i
      rw [decide_eq_false (fun y => hn (nz_eq (by omega) (by omega) (y.symm.trans e))), Bool.or_false]
def Low (r : Int32) : Prop := ∀ i, 10 ≤ i → i < 32 → bt r i = false
def cBt (r : Int32) : Nat := cnt (fun i => bt r i) 10
theorem cb_bc {r : Int32} (h : Low r) : (bcF r).toInt = (cBt r : Int) := by
  rw [bc_cnt h]
  exact nI_toInt (by have : cnt (fun i => bt r i) 10 ≤ 10 := cnt_le; omega)
theorem low_clr {r : Int32} {x : Nat} (h : Low r) (hx : x < 10) : Low (clrF r (nI x)) := fun i h1 h2 => by
  unfold clrF; rw [b_clr (by omega) h2, h i h1 h2]; rfl
theorem low_set {r : Int32} {x : Nat} (h : Low r) (hx : x < 10) : Low (r ||| ((1 : Int32) <<< (nI x &&& 31))) := fun i h1 h2 => by
  rw [b_set (by omega) h2, h i h1 h2, decide_eq_false (by omega)]; rfl
theorem bt_clr {r : Int32} {x i : Nat} (hx : x < 10) (hi : i < 10) : bt (clrF r (nI x)) i = (bt r i && !decide (i = x)) := by unfold clrF; exact b_clr (by omega) (by omega)
theorem cb_clr {r : Int32} {x : Nat} (hx : x < 10) (hb : bt r x = true) : cBt r = cBt (clrF r (nI x)) + 1 := by
  unfold cBt
  rw [cnt_rem hx hb, cnt_congr (fun i hi => (bt_clr (r := r) hx hi).symm)]
theorem cb_clr0 {r : Int32} {x : Nat} (hx : x < 10) (hb : ¬ bt r x = true) : cBt (clrF r (nI x)) = cBt r :=
  cnt_congr (fun i hi => by
    rw [bt_clr hx hi]
    by_cases z : i = x
    · subst z; rw [bF hb]; rfl
    · rw [decide_eq_false z]; cases bt r i <;> rfl)
theorem cb_set {r : Int32} {x : Nat} (hx : x < 10) (hb : bt r x = false) : cBt (r ||| ((1 : Int32) <<< (nI x &&& 31))) = cBt r + 1 :=
  cnt_add hx hb (by rw [b_set (by omega) (by omega), decide_eq_true (p := x = x) rfl, Bool.or_true]) (fun i h1 h2 => by rw [b_set (by omega) (by omega), decide_eq_false h2, Bool.or_false])
theorem tz_in {r : Int32} (h : Low r) (hc : 1 ≤ cBt r) : ∃ u : Nat, u < 10 ∧ tzF r = nI u ∧ bt r u = true := by
  obtain ⟨k, hk, e⟩ := small_ex (m := 10) (by decide) h
  subst e
  have hz : k ≠ 0 := fun z => by
    subst z
    have : cBt (nI 0) = 0 := cnt_zero (fun i hi => by rw [bt_nI (by omega)]; exact Nat.zero_testBit i)
    omega
  rcases fnd_cases (fun i => k.testBit i) 10 0 with ⟨_, h2⟩ | ⟨u, h1, _, h3, h4, _⟩
  · have : cBt (nI k) = 0 := cnt_zero (fun i hi => by rw [bt_nI (by omega)]; exact h2 i (by omega) (by omega))
    omega
  · exact ⟨u, by omega, (tz_small k hk hz).trans h1, by rw [bt_nI (by omega)]; exact h4⟩
/-- a call of KIND x at place c -/
def CaX (fp fk : Nat → Int32) (n : Int32) (c x : Nat) : Prop := fp c = n ∧ fk c = nI x
theorem lu_far {fp fk : Nat → Int32} {n C : Int32} {q k : Nat} (hk : ∀ i, i < q → ∃ x : Nat, x < 10 ∧ fk i = nI x) : ∀ (m i : Nat) (l : Int32), i + m = q → k < i → Low l → 1 ≤ cBt l → (∀ u, u < 10 → bt l u = true → bt C u = true) → (∀ u, u < 10 → bt l u = true → ∀ c, k < c → c < i → ¬ CaX fp fk n c u) → (∀ y, y < 10 → bt C y = true → bt l y = false → ∃ c, k < c ∧ c < i ∧ CaX fp fk n c y) →
    Low (luF fp fk n m i l) ∧ 1 ≤ cBt (luF fp fk n m i l) ∧ (∀ u, u < 10 → bt (luF fp fk n m i l) u = true → bt C u = true) ∧ ∃ e, k < e ∧ e ≤ q ∧ (∀ u, u < 10 → bt (luF fp fk n m i l) u = true → ∀ c, k < c → c < e → ¬ CaX fp fk n c u) ∧ (∀ y, y < 10 → bt C y = true → bt (luF fp fk n m i l) y = false → ∃ c, k < c ∧ c < e ∧ CaX fp fk n c y) ∧ (e = q ∨ cBt (luF fp fk n m i l) ≤ 1)
  | 0, i, l, h1, h2, h3, h4, h5, h6, h7 => ⟨h3, h4, h5, i, h2, by omega, h6, h7, Or.inl (by omega)⟩
  | m + 1, i, l, h1, h2, h3, h4, h5, h6, h7 => by
    by_cases b : (bcF l).toInt ≤ 1
    · have e : luF fp fk n (m + 1) i l = l := if_pos b
      rw [e]
      rw [cb_bc h3] at b
      exact ⟨h3, h4, h5, i, h2, by omega, h6, h7, Or.inr (by omega)⟩
    · have e : luF fp fk n (m + 1) i l = luF fp fk n m (i + 1) (if fp i = n then clrF l (fk i) else l) := if_neg b
      rw [e]
      rw [cb_bc h3] at b
      by_cases p : fp i = n
      · rw [if_pos p]
        obtain ⟨x, hx, ex⟩ := hk i (by omega)
        rw [ex]
        have sub : ∀ u, u < 10 → bt (clrF l (nI x)) u = true → bt l u = true ∧ u ≠ x := fun u hu hb => by
          rw [bt_clr hx hu, Bool.and_eq_true] at hb
          exact ⟨hb.1, fun z => by subst z; exact absurd hb.2 (by simp)⟩
        refine lu_far hk m (i + 1) (clrF l (nI x)) (by omega) (by omega) (low_clr h3 hx) ?_ (fun u hu hb => h5 u hu (sub u hu hb).1) ?_ ?_
        · by_cases y : bt l x = true
          · have := cb_clr hx y; omega
          · rw [cb_clr0 hx y]; exact h4
        · intro u hu hb c c1 c2
          by_cases z : c = i
          · subst z
            exact fun y => (sub u hu hb).2 (nz_eq (by omega) (by omega) (y.2.symm.trans ex))
          · exact h6 u hu (sub u hu hb).1 c c1 (by omega)
        · intro y hy hC hb
          by_cases z : y = x
          · subst z; exact ⟨i, h2, by omega, p, ex⟩
          · rw [bt_clr hx hy, decide_eq_false z] at hb
            obtain ⟨c, c1, c2, c3⟩ := h7 y hy hC (by cases w : bt l y with
              | false => rfl
              | true => rw [w] at hb; exact absurd hb (by decide))
            exact ⟨c, c1, by omega, c3⟩
      · rw [if_neg p]
        refine lu_far hk m (i + 1) l (by omega) (by omega) h3 h4 h5 ?_ ?_
        · intro u hu hb c c1 c2
          by_cases z : c = i
          · subst z; exact fun y => p y.1
          · exact h6 u hu hb c c1 (by omega)
        · intro y hy hC hb
          obtain ⟨c, c1, c2, c3⟩ := h7 y hy hC hb
          exact ⟨c, c1, by omega, c3⟩
/-- what the class lets go: of those kept one whose next call is as far as any -/
theorem lu_max {fp fk : Nat → Int32} {n C : Int32} {q k : Nat} (hk : ∀ i, i < q → ∃ x : Nat, x < 10 ∧ fk i = nI x) (hq : q ≤ 40) (hkq : k < q) (hl : Low C) (hc : 1 ≤ cBt C) : ∃ u : Nat, u < 10 ∧ tzF (luF fp fk n (q - (k + 1)) (k + 1) C) = nI u ∧ bt C u = true ∧ ∀ y, y < 10 → bt C y = true → nxC fp fk n (nI y) k q ≤ nxC fp fk n (nI u) k q := by
  obtain ⟨r1, r2, r3, e, e1, e2, e3, e4, e5⟩ := lu_far (n := n) (C := C) (k := k) (fp := fp) hk (q - (k + 1)) (k + 1) C (by omega) (by omega) hl hc (fun _ _ h => h) (fun _ _ _ c c1 c2 => absurd c2 (by omega)) (fun y _ h1 h2 => absurd (h1.symm.trans h2) (by decide))
  obtain ⟨u, hu, t1, t2⟩ := tz_in r1 r2
  refine ⟨u, hu, t1, r3 u hu t2, fun y hy hC => ?_⟩
  have un : nxC fp fk n (nI u) k q = 1000 ∨ e ≤ nxC fp fk n (nI u) k q := by
    rcases nx_spec (fp := fp) (fk := fk) (n := n) (x := nI u) hkq with ⟨a, _⟩ | ⟨a1, a2, a3, _⟩
    · exact Or.inl a
    · refine Or.inr (Nat.le_of_not_lt (fun z => e3 u hu t2 _ a1 z a3))
  by_cases w : bt (luF fp fk n (q - (k + 1)) (k + 1) C) y = true
  · rcases e5 with z | z
    · have : nxC fp fk n (nI u) k q = 1000 := by
        rcases un with a | a
        · exact a
        · rcases nx_spec (fp := fp) (fk := fk) (n := n) (x := nI u) hkq with ⟨b, _⟩ | ⟨_, b, _⟩
          · exact b
          · omega
      rw [this]; exact nx_le hq hkq
    · rw [ct_two hu hy t2 w z]; exact Nat.le_refl _
  · obtain ⟨c, c1, c2, c3⟩ := e4 y hy hC (bF w)
    have : nxC fp fk n (nI y) k q ≤ c := by
      rcases nx_spec (fp := fp) (fk := fk) (n := n) (x := nI y) hkq with ⟨_, b⟩ | ⟨_, _, _, b⟩
      · exact absurd c3 (b c c1 (by omega))
      · exact Nat.le_of_not_lt (fun z => b c c1 z c3)
    rcases un with a | a
    · omega
    · omega
theorem nx_fut {fp fk : Nat → Int32} {n x : Int32} {k q : Nat} (hkq : k < q) (hq : q ≤ 40) : nxC fp fk n x k q < 1000 ↔ ∃ c, k + 1 ≤ c ∧ c < q ∧ fp c = n ∧ fk c = x := by
  rcases nx_spec (fp := fp) (fk := fk) (n := n) (x := x) hkq with ⟨a, b⟩ | ⟨a1, a2, a3, _⟩
  · exact ⟨fun h => absurd h (by omega), fun ⟨c, c1, c2, c3⟩ => absurd c3 (b c (by omega) c2)⟩
  · exact ⟨fun _ => ⟨_, a1, a2, a3⟩, fun _ => by omega⟩
theorem nx_inj {fp fk : Nat → Int32} {n x y : Int32} {k q : Nat} (hkq : k < q) (h : nxC fp fk n x k q < 1000) (e : nxC fp fk n x k q = nxC fp fk n y k q) : x = y := by
  rcases nx_spec (fp := fp) (fk := fk) (n := n) (x := x) hkq with ⟨a, _⟩ | ⟨_, _, a, _⟩
  · omega
  · rcases nx_spec (fp := fp) (fk := fk) (n := n) (x := y) hkq with ⟨b, _⟩ | ⟨_, _, b, _⟩
    · omega
    · rw [← e] at b; exact a.2.symm.trans b.2
theorem dis_ev {f : Nat → Int32} {v : Int32} {m a : Nat} (hd : DisN m f) (ha : a < m) (hv : ∀ j, j < m → j ≠ a → ¬ f j = v) : DisN m (pfF (toF f a (m - 1)) v (m - 1)) := by
  intro i j hij hj e
  rw [ev_at ha (by omega), ev_at ha hj, if_neg (show ¬ j = 0 by omega)] at e
  by_cases z : i = 0
  · rw [if_pos z] at e
    by_cases y : j ≤ a
    · rw [if_pos y] at e; exact hv (j - 1) (by omega) (by omega) e.symm
    · rw [if_neg y] at e; exact hv j hj (by omega) e.symm
  · rw [if_neg z] at e
    by_cases y : j ≤ a
    · rw [if_pos y, if_pos (show i ≤ a by omega)] at e; exact hd (i - 1) (j - 1) (by omega) (by omega) e
    · rw [if_neg y] at e
      by_cases w : i ≤ a
      · rw [if_pos w] at e; exact hd (i - 1) j (by omega) hj e
      · rw [if_neg w] at e; exact hd i j hij hj e
/-- class and reference, each by its own choice -/
def BcR (fp fk : Nat → Int32) (n : Int32) (sq q k : Nat) (C : Int32) (m : Nat) (f : Nat → Int32) : Prop := Low C ∧ cBt C = m ∧ (∀ j, j < m → ∃ x : Nat, x < 10 ∧ f j = nI x) ∧ DisN m f ∧ m ≤ sq ∧ ∀ x : Nat, x < 10 → (∃ c, k ≤ c ∧ c < q ∧ fp c = n ∧ fk c = nI x) → (bt C x = true ↔ ∃ j, j < m ∧ f j = nI x)
theorem br_mono {fp fk f : Nat → Int32} {n C : Int32} {sq q k m : Nat} (h : BcR fp fk n sq q k C m f) : BcR fp fk n sq q (k + 1) C m f :=
  ⟨h.1, h.2.1, h.2.2.1, h.2.2.2.1, h.2.2.2.2.1, fun x hx ⟨c, c1, c2⟩ => h.2.2.2.2.2 x hx ⟨c, by omega, c2⟩⟩
theorem br_hit {fp fk f : Nat → Int32} {n C : Int32} {sq q k m a x : Nat} (h : BcR fp fk n sq q k C m f) (hx : x < 10) (ha : a < m) (e : f a = nI x) : BcR fp fk n sq q (k + 1) C m (pfF (toF f a (m - 1)) (nI x) (m - 1)) := by
  obtain ⟨h1, h2, h3, h4, h5, h6⟩ := br_mono h
  have inj : ∀ j, j < m → j ≠ a → ¬ f j = nI x := fun j hj hn y => by
    rcases Nat.lt_or_gt_of_ne hn with z | z
    · exact h4 j a z ha (y.trans e.symm)
    · exact h4 a j z hj (e.trans y.symm)
  refine ⟨h1, h2, fun j hj => ?_, dis_ev h4 ha inj, h5, fun y hy hf => (h6 y hy hf).trans ?_⟩
  · rw [ev_at ha hj]
    by_cases z : j = 0
    · rw [if_pos z]; exact ⟨x, hx, rfl⟩
    · rw [if_neg z]
      by_cases w : j ≤ a
      · rw [if_pos w]; exact h3 _ (by omega)
      · rw [if_neg w]; exact h3 _ hj
  · rw [mem_ev ha]
    constructor
    · rintro ⟨j, j1, j2⟩
      by_cases z : j = a
      · subst z; exact Or.inl (e.symm.trans j2)
      · exact Or.inr ⟨j, j1, z, j2⟩
    · rintro (z | ⟨j, j1, _, j3⟩)
      · exact ⟨a, ha, e.trans z⟩
      · exact ⟨j, j1, j3⟩
theorem br_new {fp fk f : Nat → Int32} {n C : Int32} {sq q k m x : Nat} (h : BcR fp fk n sq q k C m f) (hx : x < 10) (hm : m < sq) (hC : bt C x = false) (hf : ∀ j, j < m → ¬ f j = nI x) : BcR fp fk n sq q (k + 1) (C ||| ((1 : Int32) <<< (nI x &&& 31))) (m + 1) (pfF f (nI x) m) := by
  obtain ⟨h1, h2, h3, h4, h5, h6⟩ := br_mono h
  refine ⟨low_set h1 hx, by rw [cb_set hx hC, h2], fun j hj => ?_, dis_new h4 hf (Or.inl rfl), hm, fun y hy hft => ?_⟩
  · unfold pfF
    by_cases z : j = 0
    · rw [if_pos z]; exact ⟨x, hx, rfl⟩
    · rw [if_neg z, if_pos (by omega)]; exact h3 _ (by omega)
  · rw [mem_new, b_set (by omega) (by omega), Bool.or_eq_true, h6 y hy hft, decide_eq_true_iff]
    constructor
    · rintro (z | z)
      · exact Or.inr z
      · subst z; exact Or.inl rfl
    · rintro (z | z)
      · exact Or.inr (nz_eq (by omega) (by omega) z.symm)
      · exact Or.inl z
theorem br_old {fp fk f : Nat → Int32} {n C : Int32} {sq q k m a x u : Nat} (hq : q ≤ 40) (hkq : k < q) (h : BcR fp fk n sq q k C m f) (hx : x < 10) (hC : bt C x = false) (hf : ∀ j, j < m → ¬ f j = nI x) (hu : u < 10) (bu : bt C u = true) (um : ∀ y, y < 10 → bt C y = true → nxC fp fk n (nI y) k q ≤ nxC fp fk n (nI u) k q) (ha : a < m) (am : ∀ j, j < m → nxC fp fk n (f j) k q ≤ nxC fp fk n (f a) k q) : BcR fp fk n sq q (k + 1) (clrF C (nI u) ||| ((1 : Int32) <<< (nI x &&& 31))) m (pfF (toF f a (m - 1)) (nI x) (m - 1)) := by
  obtain ⟨h1, h2, h3, h4, h5, h6⟩ := br_mono h
  obtain ⟨w, hw, ew⟩ := h3 a ha
  have cm := cnt_mem h3 h4
  have hux : ¬ x = u := fun z => by subst z; exact absurd (hC.symm.trans bu) (by decide)
  have bx : bt (clrF C (nI u)) x = false := by rw [bt_clr hu hx, hC]; rfl
  -- both let the same one go, where that one is called again
  have key : ∀ y, y < 10 → nxC fp fk n (nI y) k q < 1000 → bt C y = true → (y = u ∨ y = w) → u = w := by
    intro y hy hn hb hyu
    have fut : ∀ v, nxC fp fk n (nI v) k q < 1000 → ∃ c, k + 1 ≤ c ∧ c < q ∧ fp c = n ∧ fk c = nI v := fun v hv => (nx_fut hkq hq).mp hv
    have same : ∀ v, v < 10 → (bt C v = true ↔ memB f m v = true) := by
      rcases hyu with z | z
      · subst z
        have sub : ∀ v, v < 10 → bt C v = true → memB f m v = true := fun v hv hb2 => mem_iff.mpr ((h6 v hv (fut v (Nat.lt_of_le_of_lt (um v hv hb2) hn))).mp hb2)
        have t := (cnt_sub (P := fun i => bt C i) (Q := memB f m) (n := 10) sub).2 (by rw [cm]; exact h2)
        exact fun v hv => ⟨sub v hv, t v hv⟩
      · subst z
        have sub : ∀ v, v < 10 → memB f m v = true → bt C v = true := fun v hv hb2 => by
          obtain ⟨j, j1, j2⟩ := mem_iff.mp hb2
          have := am j j1
          rw [j2, ew] at this
          exact (h6 v hv (fut v (Nat.lt_of_le_of_lt this hn))).mpr ⟨j, j1, j2⟩
        have t := (cnt_sub (P := memB f m) (Q := fun i => bt C i) (n := 10) sub).2 (by rw [cm]; exact h2.symm)
        exact fun v hv => ⟨t v hv, sub v hv⟩
    have w1 := um w hw ((same w hw).mpr (mem_iff.mpr ⟨a, ha, ew⟩))
    obtain ⟨j, j1, j2⟩ := mem_iff.mp ((same u hu).mp bu)
    have w2 := am j j1
    rw [j2, ew] at w2
    have e : nxC fp fk n (nI u) k q = nxC fp fk n (nI w) k q := by omega
    have lt : nxC fp fk n (nI u) k q < 1000 := by
      rcases hyu with z | z
      · subst z; exact hn
      · subst z; rw [e]; exact hn
    exact nz_eq (by omega) (by omega) (nx_inj hkq lt e)
  refine ⟨low_set (low_clr h1 hu) hx, ?_, fun j hj => ?_, dis_ev h4 ha (fun j hj _ => hf j hj), h5, fun y hy hft => ?_⟩
  · have e1 := cb_clr hu bu
    rw [cb_set hx bx]; omega
  · rw [ev_at ha hj]
    by_cases z : j = 0
    · rw [if_pos z]; exact ⟨x, hx, rfl⟩
    · rw [if_neg z]
      by_cases v : j ≤ a
      · rw [if_pos v]; exact h3 _ (by omega)
      · rw [if_neg v]; exact h3 _ hj
  · have h6y := h6 y hy hft
    have hn := (nx_fut (x := nI y) hkq hq).mpr hft
    rw [mem_ev ha, b_set (by omega) (by omega), Bool.or_eq_true, decide_eq_true_iff, bt_clr hu hy, Bool.and_eq_true]
    constructor
    · rintro (⟨z1, z2⟩ | z)
      · have hyu : ¬ y = u := fun v => by rw [decide_eq_true v] at z2; exact absurd z2 (by decide)
        obtain ⟨j, j1, j2⟩ := h6y.mp z1
        refine Or.inr ⟨j, j1, fun v => ?_, j2⟩
        subst v
        have yw : y = w := nz_eq (by omega) (by omega) (j2.symm.trans ew)
        exact hyu (yw.trans (key y hy hn z1 (Or.inr yw)).symm)
      · subst z; exact Or.inl rfl
    · rintro (z | ⟨j, j1, j2, j3⟩)
      · exact Or.inr (nz_eq (by omega) (by omega) z.symm)
      · have by1 := h6y.mpr ⟨j, j1, j3⟩
        refine Or.inl ⟨by1, ?_⟩
        rw [decide_eq_false (p := y = u)]
        · rfl
        · intro v
          have yw : y = w := v.trans (key y hy hn by1 (Or.inl v))
          have : f j = f a := by rw [j3, ew, yw]
          rcases Nat.lt_or_gt_of_ne j2 with t | t
          · exact h4 j a t ha this
          · exact h4 a j t j1 this.symm
theorem bs_rel {fp fk g0 : Nat → Int32} {n : Int32} {sq q : Nat} (hs : 1 ≤ sq) (hq : q ≤ 40) (hk : ∀ i, i < q → ∃ x : Nat, x < 10 ∧ fk i = nI x) : ∀ k, k ≤ q → (bsC fp fk n sq q k).2 = (lruM fp fk n sq (fa1 fp fk n q) g0 k).2.2 ∧ BcR fp fk n sq q k (bsC fp fk n sq q k).1 (lruM fp fk n sq (fa1 fp fk n q) g0 k).1 (lruM fp fk n sq (fa1 fp fk n q) g0 k).2.1
  | 0, _ => ⟨rfl, fun i _ _ => b_0 i, cnt_zero (fun i _ => b_0 i), fun j hj => absurd hj (Nat.not_lt_zero j), fun i j _ hj => absurd hj (Nat.not_lt_zero j), Nat.zero_le _, fun x _ _ => ⟨fun h => absurd ((b_0 x).symm.trans h) (by decide), fun ⟨j, hj, _⟩ => absurd hj (Nat.not_lt_zero j)⟩⟩
  | k + 1, hkq => by
    have ih := bs_rel (g0 := g0) (n := n) (fp := fp) hs hq hk k (by omega)
    by_cases p : fp k = n
    · have eM : lruM fp fk n sq (fa1 fp fk n q) g0 (k + 1) = stM sq (fa1 fp fk n q k (lruM fp fk n sq (fa1 fp fk n q) g0 k).1 (lruM fp fk n sq (fa1 fp fk n q) g0 k).2.1) (fk k) (lruM fp fk n sq (fa1 fp fk n q) g0 k) := if_pos p
      obtain ⟨x, hx, ex⟩ := hk k (by omega)
      generalize eC : bsC fp fk n sq q k = s at *
      generalize lruM fp fk n sq (fa1 fp fk n q) g0 k = t at *
      obtain ⟨C, h⟩ := s
      obtain ⟨m, f, h'⟩ := t
      obtain ⟨e0, hR⟩ := ih
      have e0 : h = h' := e0
      subst e0
      have hR : BcR fp fk n sq q k C m f := hR
      have hmem := hR.2.2.2.2.2 x hx ⟨k, by omega, by omega, p, ex⟩
      have hcl : (fk k).toNatClampNeg = x := by rw [ex]; exact nI_clamp (by omega)
      rw [eM]
      rcases lst_cases (recB f (fk k)) m with ⟨l1, l2⟩ | ⟨a, l1, l2, l3⟩
      · have hf : ∀ j, j < m → ¬ f j = nI x := fun j hj y => absurd (l2 j hj) (by unfold recB; rw [ex, y, decide_eq_true (p := nI x = nI x) rfl]; decide)
        have hC : bt C x = false := bF (fun y => by obtain ⟨j, j1, j2⟩ := hmem.mp y; exact hf j j1 j2)
        have hb : bt C (fk k).toNatClampNeg = false := by rw [hcl]; exact hC
        have hm := hR.2.2.2.2.1
        have hcb := hR.2.1
        have hbc := cb_bc hR.1
        by_cases z : m = sq
        · obtain ⟨u, hu, u1, u2, u3⟩ := lu_max (n := n) (fp := fp) hk hq (show k < q by omega) hR.1 (by omega)
          have eB := bc_full (r := nI u) eC.symm p hb (by omega) u1.symm
          have eS : stM sq (fa1 fp fk n q k m f) (fk k) (m, f, h) = (m, pfF (toF f (fa1 fp fk n q k m f) (m - 1)) (fk k) (m - 1), h) := by
            unfold stM
            show (if lstF (recB f (fk k)) m = -6 then (if m = sq then (m, pfF (toF f (fa1 fp fk n q k m f) (m - 1)) (fk k) (m - 1), h) else _) else _) = _
            rw [if_pos l1, if_pos z]
          show (bsC fp fk n sq q (k + 1)).2 = (stM sq (fa1 fp fk n q k m f) (fk k) (m, f, h)).2.2 ∧ BcR fp fk n sq q (k + 1) (bsC fp fk n sq q (k + 1)).1 (stM sq (fa1 fp fk n q k m f) (fk k) (m, f, h)).1 (stM sq (fa1 fp fk n q k m f) (fk k) (m, f, h)).2.1
          rw [← eB, eS, ex]
          refine ⟨rfl, ?_⟩
          have hfa : fa1 fp fk n q k m f ≤ m - 1 := fa_lt _ _
          exact br_old hq (by omega) hR hx hC hf hu u2 u3 (by omega) (fun j hj => fa_max (fun i => nxC fp fk n (f i) k q) (m - 1) j (by omega))
        · have eB := bc_room eC.symm p hb (by omega)
          have eS : stM sq (fa1 fp fk n q k m f) (fk k) (m, f, h) = (m + 1, pfF f (fk k) m, h) := by
            unfold stM
            show (if lstF (recB f (fk k)) m = -6 then (if m = sq then _ else (m + 1, pfF f (fk k) m, h)) else _) = _
            rw [if_pos l1, if_neg z]
          show (bsC fp fk n sq q (k + 1)).2 = (stM sq (fa1 fp fk n q k m f) (fk k) (m, f, h)).2.2 ∧ BcR fp fk n sq q (k + 1) (bsC fp fk n sq q (k + 1)).1 (stM sq (fa1 fp fk n q k m f) (fk k) (m, f, h)).1 (stM sq (fa1 fp fk n q k m f) (fk k) (m, f, h)).2.1
          rw [← eB, eS, ex]
          exact ⟨rfl, br_new hR hx (by omega) hC hf⟩
      · have fa : f a = nI x := (of_decide_eq_true l3).trans ex
        have hb : bt C (fk k).toNatClampNeg = true := by rw [hcl]; exact hmem.mpr ⟨a, l2, fa⟩
        have hm := hR.2.2.2.2.1
        have hcb : cBt C ≤ 10 := cnt_le
        have hcm := hR.2.1
        have eB := bc_hit eC.symm p hb
        have eS : stM sq (fa1 fp fk n q k m f) (fk k) (m, f, h) = (m, pfF (toF f a (m - 1)) (fk k) (m - 1), h + 1) := by
          unfold stM
          show (if lstF (recB f (fk k)) m = -6 then _ else (m, pfF (toF f (lstF (recB f (fk k)) m).toNatClampNeg (m - 1)) (fk k) (m - 1), h + 1)) = _
          rw [l1, if_neg (nI_ne6 (by omega)), nI_clamp (by omega)]
        show (bsC fp fk n sq q (k + 1)).2 = (stM sq (fa1 fp fk n q k m f) (fk k) (m, f, h)).2.2 ∧ BcR fp fk n sq q (k + 1) (bsC fp fk n sq q (k + 1)).1 (stM sq (fa1 fp fk n q k m f) (fk k) (m, f, h)).1 (stM sq (fa1 fp fk n q k m f) (fk k) (m, f, h)).2.1
        rw [← eB, eS, ex]
        exact ⟨rfl, br_hit hR hx l2 fa⟩
    · have eB : bsC fp fk n sq q (k + 1) = bsC fp fk n sq q k := if_neg p
      have eM : lruM fp fk n sq (fa1 fp fk n q) g0 (k + 1) = lruM fp fk n sq (fa1 fp fk n q) g0 k := if_neg p
      rw [eB, eM]
      exact ⟨ih.1, br_mono ih.2⟩
theorem best_eq {fcp fck fmp fmk g0 : Nat → Int32} {n : Int32} {sq q cn : Nat} (hs : 1 ≤ sq) (hq : q ≤ 40) (hc : cn ≤ 10) (h : CaEq fcp fck fmp fmk q cn) : (bsC fcp fck n sq q q).2 = (lruM fmp fmk n sq (fa1 fmp fmk n q) g0 q).2.2 := by
  rw [bs_cg (fun i hi => (h i hi).1) q (Nat.le_refl _)]
  exact (bs_rel hs hq (fun i hi => by obtain ⟨x, h1, h2⟩ := (h i hi).2; exact ⟨x, by omega, h2⟩) q (Nat.le_refl _)).1
theorem hits_F {fcp fck fmp fmk fsz fms g0 : Nat → Int32} {qn ca cn : Nat} {n v : Int32} (hrq : ca = qn) (hq : qn ≤ 40) (hc : cn ≤ 10) (hz : SzEq fsz fms) (ho : SzOk fsz) (h : CaEq fcp fck fmp fmk qn cn) :
    F_hits (nI (cAt fcp n qn)) (nI (lruH fcp fck n (fsz n.toNatClampNeg).toNatClampNeg qn)) (nI (bsC fcp fck n (fsz n.toNatClampNeg).toNatClampNeg qn qn).2) (ltF (lruN fcp fck n (fsz n.toNatClampNeg).toNatClampNeg qn) (lruR fcp fck n (fsz n.toNatClampNeg).toNatClampNeg qn)) n v
    = F_hits (nI (cAt fmp n ca)) (nI (lruH fmp fmk n (fms n.toNatClampNeg).toNatClampNeg ca)) (nI (lruM fmp fmk n (fms n.toNatClampNeg).toNatClampNeg (fa1 fmp fmk n ca) g0 ca).2.2) (ltF (lruN fmp fmk n (fms n.toNatClampNeg).toNatClampNeg ca) (lruR fmp fmk n (fms n.toNatClampNeg).toNatClampNeg ca)) n v := by
  subst hrq
  by_cases q : 0 ≤ n.toInt ∧ n.toInt ≤ 3
  · have hn : n.toNatClampNeg < 4 := fx_cl q.1 (by omega)
    obtain ⟨s, hs, es⟩ := ho _ hn
    have e1 : (fsz n.toNatClampNeg).toNatClampNeg = s := by rw [es]; exact nI_clamp (by omega)
    have e2 : (fms n.toNatClampNeg).toNatClampNeg = s := by rw [← hz _ hn]; exact e1
    rw [e1, e2]
    have c1 : cAt fcp n ca = cAt fmp n ca := cnt_congr (fun i hi => by rw [(h i hi).1.1])
    obtain ⟨c2, c3, c4⟩ := lru_cg (n := n) (sq := s) (by omega) (by omega) (fun i hi => (h i hi).1)
    have c5 := best_eq (g0 := g0) (n := n) (sq := s) (by omega) hq hc h
    have c6 : ltF (lruN fcp fck n s ca) (lruR fcp fck n s ca) = ltF (lruN fmp fmk n s ca) (lruR fmp fmk n s ca) := by
      funext i
      unfold ltF
      by_cases z : i < lruN fcp fck n s ca
      · rw [if_pos z, if_pos (by rw [← c3]; exact z), c4 i z]
      · rw [if_neg z, if_neg (by rw [← c3]; exact z)]
    rw [c1, c2, c5, c6]
  · unfold F_hits; rw [if_neg q, if_neg q]
