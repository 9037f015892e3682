/-! LINES of class and reference are one -/
def LnEq (fle fli fqu fll fln fmq : Nat → Int32) (cn : Nat) : Prop := ∀ k, k < cn → fle k = fll k ∧ (∀ i, i < (fll k).toNatClampNeg → fli (10 * k + i) = fln (10 * k + i)) ∧ fqu k = if 0 < (fll k).toNatClampNeg then -6 else fmq k
theorem le_0 {fle fli fqu fll fln fmq : Nat → Int32} : LnEq fle fli fqu fll fln fmq 0 := fun k h => absurd h (Nat.not_lt_zero k)
def Ag (w a e w' a' e' : Nat → Int32) (R : Nat) : Prop := ∀ r, r < R → a r = a' r ∧ e r = e' r ∧ ∀ i, i < (e r).toNatClampNeg → w (10 * r + i) = w' (10 * r + i)
theorem ag_symm {w a e w' a' e' : Nat → Int32} {R : Nat} (h : Ag w a e w' a' e' R) : Ag w' a' e' w a e R := fun r hr => ⟨(h r hr).1.symm, (h r hr).2.1.symm, fun i hi => ((h r hr).2.2 i (by rw [(h r hr).2.1]; exact hi)).symm⟩
theorem ag_rows {w a e w' a' e' p ll ln ll' ln' : Nat → Int32} {n : Nat} (h : RowS w a e p ll ln n) (h' : RowS w' a' e' p ll' ln' n) (hn : n ≤ 3) (hl : ∀ i, i < n → ll (p i).toNatClampNeg = ll' (p i).toNatClampNeg ∧ ∀ j, j < (ll (p i).toNatClampNeg).toNatClampNeg → ln (10 * (p i).toNatClampNeg + j) = ln' (10 * (p i).toNatClampNeg + j)) : Ag w a e w' a' e' (n + 1) := by
  intro r hr
  by_cases z : r = n
  · subst z
    refine ⟨h.2.1.trans h'.2.1.symm, h.2.2.1.trans h'.2.2.1.symm, fun i hi => ?_⟩
    rw [h.2.2.1, nI_clamp (by omega)] at hi
    rw [h.2.2.2 i hi, h'.2.2.2 i hi]
  · obtain ⟨a1, a2, a3⟩ := h.1 r (by omega)
    obtain ⟨b1, b2, b3⟩ := h'.1 r (by omega)
    obtain ⟨c1, c2⟩ := hl r (by omega)
    refine ⟨a1.trans b1.symm, by rw [a2, b2, c1], fun i hi => ?_⟩
    rw [a2] at hi
    rw [a3 i hi, b3 i (by rw [← c1]; exact hi)]; exact c2 i hi
theorem held_ag {w a e w' a' e' : Nat → Int32} {R : Nat} {x : Int32} (h : Ag w a e w' a' e' R) : Held w a e R x → Held w' a' e' R x := fun ⟨r, i, h1, h2, h3, h4⟩ => ⟨r, i, h1, by rw [← (h r h1).1]; exact h2, by rw [← (h r h1).2.1]; exact h3, by rw [← (h r h1).2.2 i h3]; exact h4⟩
theorem hdB_ag {w a e w' a' e' : Nat → Int32} {R r : Nat} (h : Ag w a e w' a' e' R) (hr : r < R) (hb : hdB w a e R r = true) : hdB w' a' e' R r = true := by
  obtain ⟨h1, h2⟩ := hdB_p hb
  obtain ⟨c1, c2, c3⟩ := h r hr
  refine hdB_t ⟨by rw [← c1, ← c2]; exact h1, fun q => h2 ?_⟩
  rw [← c1, ← c3 _ h1] at q
  exact held_ag (ag_symm h) q
theorem nh_ag {w a e w' a' e' : Nat → Int32} {R : Nat} (h : Ag w a e w' a' e' R) : ∀ (m r : Nat), r + m ≤ R → nhF w a e R r m = nhF w' a' e' R r m
  | 0, _, _ => rfl
  | m + 1, r, hr => by
    have ih := nh_ag h m (r + 1) (by omega)
    show (if hdB w a e R r = true then w (10 * r + (a r).toNatClampNeg) else nhF w a e R (r + 1) m) = (if hdB w' a' e' R r = true then w' (10 * r + (a' r).toNatClampNeg) else nhF w' a' e' R (r + 1) m)
    obtain ⟨c1, c2, c3⟩ := h r (by omega)
    by_cases b : hdB w a e R r = true
    · rw [if_pos b, if_pos (hdB_ag h (by omega) b), ← c1]; exact c3 _ (hdB_p b).1
    · rw [if_neg b, if_neg (fun q => b (hdB_ag (ag_symm h) (by omega) q)), ih]
theorem adv_ag {w a e w' a' e' : Nat → Int32} {R : Nat} {x : Int32} (h : Ag w a e w' a' e' R) : Ag w (advF w a e x R) e w' (advF w' a' e' x R) e' R := by
  intro r hr
  obtain ⟨c1, c2, c3⟩ := h r hr
  refine ⟨?_, c2, c3⟩
  unfold advF
  rw [if_pos hr, if_pos hr]
  unfold adv
  rw [← c1, ← c2]
  by_cases q : (a r).toNatClampNeg < (e r).toNatClampNeg
  · rw [c3 _ q]
  · rw [if_neg (fun z => q z.1), if_neg (fun z => q z.1)]
theorem lay_ag {w e w' e' : Nat → Int32} {R kd : Nat} : ∀ (f : Nat) (a a' l l' : Nat → Int32) (m : Nat), Ag w a e w' a' e' R → (∀ i, i < m → l (10 * kd + i) = l' (10 * kd + i)) → (layI w e R kd f (a, l, m)).2.2 = (layI w' e' R kd f (a', l', m)).2.2 ∧ Ag w (layI w e R kd f (a, l, m)).1 e w' (layI w' e' R kd f (a', l', m)).1 e' R ∧ ∀ i, i < (layI w e R kd f (a, l, m)).2.2 → (layI w e R kd f (a, l, m)).2.1 (10 * kd + i) = (layI w' e' R kd f (a', l', m)).2.1 (10 * kd + i)
  | 0, a, a', l, l', m, h, hl => ⟨rfl, h, hl⟩
  | f + 1, a, a', l, l', m, h, hl => by
    have hn := nh_ag h R 0 (by omega)
    show (if (nhF w a e R 0 R).toInt < 0 then (a, l, m) else layI w e R kd f (advF w a e (nhF w a e R 0 R) R, upd l (10 * kd + m) (nhF w a e R 0 R), m + 1)).2.2 = (if (nhF w' a' e' R 0 R).toInt < 0 then (a', l', m) else layI w' e' R kd f (advF w' a' e' (nhF w' a' e' R 0 R) R, upd l' (10 * kd + m) (nhF w' a' e' R 0 R), m + 1)).2.2 ∧ Ag w (if (nhF w a e R 0 R).toInt < 0 then (a, l, m) else layI w e R kd f (advF w a e (nhF w a e R 0 R) R, upd l (10 * kd + m) (nhF w a e R 0 R), m + 1)).1 e w' (if (nhF w' a' e' R 0 R).toInt < 0 then (a', l', m) else layI w' e' R kd f (advF w' a' e' (nhF w' a' e' R 0 R) R, upd l' (10 * kd + m) (nhF w' a' e' R 0 R), m + 1)).1 e' R ∧ ∀ i, i < (if (nhF w a e R 0 R).toInt < 0 then (a, l, m) else layI w e R kd f (advF w a e (nhF w a e R 0 R) R, upd l (10 * kd + m) (nhF w a e R 0 R), m + 1)).2.2 → (if (nhF w a e R 0 R).toInt < 0 then (a, l, m) else layI w e R kd f (advF w a e (nhF w a e R 0 R) R, upd l (10 * kd + m) (nhF w a e R 0 R), m + 1)).2.1 (10 * kd + i) = (if (nhF w' a' e' R 0 R).toInt < 0 then (a', l', m) else layI w' e' R kd f (advF w' a' e' (nhF w' a' e' R 0 R) R, upd l' (10 * kd + m) (nhF w' a' e' R 0 R), m + 1)).2.1 (10 * kd + i)
    rw [← hn]
    generalize nhF w a e R 0 R = x at *
    by_cases q : x.toInt < 0
    · rw [if_pos q, if_pos q]; exact ⟨rfl, h, hl⟩
    · rw [if_neg q, if_neg q]
      refine lay_ag f _ _ _ _ _ (adv_ag h) (fun i hi => ?_)
      by_cases z : i = m
      · subst z; rw [pk_us, pk_us]
      · rw [pk_un (by omega), pk_un (by omega)]; exact hl i (by omega)
theorem lay_low {w e : Nat → Int32} {R kd : Nat} : ∀ (f : Nat) (a l : Nat → Int32) (m : Nat), (∀ j, j < 10 * kd → (layI w e R kd f (a, l, m)).2.1 j = l j) ∧ m ≤ (layI w e R kd f (a, l, m)).2.2 ∧ (layI w e R kd f (a, l, m)).2.2 ≤ m + f
  | 0, a, l, m => ⟨fun _ _ => rfl, Nat.le_refl _, Nat.le_refl _⟩
  | f + 1, a, l, m => by
    show (∀ j, j < 10 * kd → (if (nhF w a e R 0 R).toInt < 0 then (a, l, m) else layI w e R kd f (advF w a e (nhF w a e R 0 R) R, upd l (10 * kd + m) (nhF w a e R 0 R), m + 1)).2.1 j = l j) ∧ m ≤ (if (nhF w a e R 0 R).toInt < 0 then (a, l, m) else layI w e R kd f (advF w a e (nhF w a e R 0 R) R, upd l (10 * kd + m) (nhF w a e R 0 R), m + 1)).2.2 ∧ (if (nhF w a e R 0 R).toInt < 0 then (a, l, m) else layI w e R kd f (advF w a e (nhF w a e R 0 R) R, upd l (10 * kd + m) (nhF w a e R 0 R), m + 1)).2.2 ≤ m + (f + 1)
    by_cases q : (nhF w a e R 0 R).toInt < 0
    · rw [if_pos q]; exact ⟨fun _ _ => rfl, Nat.le_refl _, by show m ≤ m + (f + 1); omega⟩
    · rw [if_neg q]
      obtain ⟨h1, h2, h3⟩ := lay_low (w := w) (e := e) (R := R) (kd := kd) f (advF w a e (nhF w a e R 0 R) R) (upd l (10 * kd + m) (nhF w a e R 0 R)) (m + 1)
      exact ⟨fun j hj => by rw [h1 j hj, pk_un (by omega)], by omega, by omega⟩
theorem beg_ag {w a e w' a' e' : Nat → Int32} {R : Nat} (h : Ag w a e w' a' e' R) : ∀ {k : Nat}, k ≤ R → begF w a e k = begF w' a' e' k
  | 0, _ => rfl
  | k + 1, hk => by
    have ih := beg_ag h (k := k) (by omega)
    obtain ⟨c1, c2, c3⟩ := h k (by omega)
    show (if (a k).toNatClampNeg < (e k).toNatClampNeg then begF w a e k ||| ((1 : Int32) <<< (w (10 * k + (a k).toNatClampNeg) &&& 31)) else begF w a e k) = (if (a' k).toNatClampNeg < (e' k).toNatClampNeg then begF w' a' e' k ||| ((1 : Int32) <<< (w' (10 * k + (a' k).toNatClampNeg) &&& 31)) else begF w' a' e' k)
    rw [← c1, ← c2, ih]
    by_cases q : (a k).toNatClampNeg < (e k).toNatClampNeg
    · rw [if_pos q, if_pos q, c3 _ q]
    · rw [if_neg q, if_neg q]
theorem lay_uni {ll ln ll' ln' p l2 l2' : Nat → Int32} {n kd : Nat} {L Q L' Q' : Int32} (hn : n ≤ 3) (hl : ∀ i, i < n → ll (p i).toNatClampNeg = ll' (p i).toNatClampNeg ∧ ∀ j, j < (ll (p i).toNatClampNeg).toNatClampNeg → ln (10 * (p i).toNatClampNeg + j) = ln' (10 * (p i).toNatClampNeg + j)) (h : LayS ll ln p n kd L Q l2) (h' : LayS ll' ln' p n kd L' Q' l2') :
    L = L' ∧ Q = Q' ∧ (∀ j, j < 10 * kd → l2 j = ln j ∧ l2' j = ln' j) ∧ (∀ i, i < L'.toNatClampNeg → l2 (10 * kd + i) = l2' (10 * kd + i)) ∧ ((Q' = 0 ∧ 0 < L'.toNatClampNeg) ∨ (¬ Q' = 0 ∧ L' = 0)) := by
  obtain ⟨w, a, e, a2, m, r1, r2, r3, r4⟩ := h
  obtain ⟨w', a', e', a2', m', s1, s2, s3, s4⟩ := h'
  have ag := ag_rows r1 s1 hn hl
  have k1 := lay_ag (kd := kd) 9 a a' (upd ln (10 * kd) (nI kd)) (upd ln' (10 * kd) (nI kd)) 1 ag (fun i hi => by
    obtain rfl : i = 0 := by omega
    exact pk_us.trans pk_us.symm)
  have k2 := lay_low (w := w) (e := e) (R := n + 1) (kd := kd) 9 a (upd ln (10 * kd) (nI kd)) 1
  have k3 := lay_low (w := w') (e := e') (R := n + 1) (kd := kd) 9 a' (upd ln' (10 * kd) (nI kd)) 1
  rw [r2] at k1 k2
  rw [s2] at k1 k3
  obtain ⟨c1, c2, c3⟩ := k1
  have c1 : m = m' := c1
  have hb : begF w a2 e (n + 1) = begF w' a2' e' (n + 1) := beg_ag c2 (Nat.le_refl _)
  have hm1 : 1 ≤ m' := k3.2.1
  have hm2 : m' ≤ 1 + 9 := k3.2.2
  subst c1
  refine ⟨by rw [r4, s4, hb], by rw [r3, s3, hb], fun j hj => ⟨?_, ?_⟩, fun i hi => ?_, ?_⟩
  · exact (k2.1 j hj).trans (pk_un (by omega))
  · exact (k3.1 j hj).trans (pk_un (by omega))
  · refine c3 i ?_
    show i < m
    rw [s4] at hi
    by_cases q : begF w' a2' e' (n + 1) = 0
    · rw [if_pos q, nI_clamp (by omega)] at hi; exact hi
    · rw [if_neg q] at hi; exact absurd hi (by show ¬ i < 0; omega)
  · by_cases q : begF w' a2' e' (n + 1) = 0
    · exact Or.inl ⟨by rw [s3]; exact q, by rw [s4, if_pos q, nI_clamp (by omega)]; omega⟩
    · exact Or.inr ⟨by rw [s3]; exact q, by rw [s4, if_neg q]⟩
theorem ln_kind {fle fli fqu fll fln fmq fle2 fli2 fqu2 fll2 fln2 fmq2 : Nat → Int32} {cn kn : Nat} {n a b d : Int32} (hrel : kn = cn) (hB : BdOk 10 10 fll) (h : LnEq fle fli fqu fll fln fmq cn) (hx : KcX cn fle fli fqu fle2 fli2 fqu2 n a b d) (hm : KmX kn fll fln fmq fll2 fln2 fmq2 n a b d) : LnEq fle2 fli2 fqu2 fll2 fln2 fmq2 (K_next cn n a b d) := by
  subst hrel
  rcases K_cases kn n a b d with ⟨e, q⟩ | ⟨e, q, hk⟩
  · rw [e]
    rcases hx with ⟨_, x1, x2, x3⟩ | ⟨x, _⟩
    · rcases hm with ⟨_, m1, m2, m3⟩ | ⟨x, _⟩
      · rw [x1, x2, x3, m1, m2, m3]; exact h
      · exact absurd q x
    · exact absurd q x
  · rw [e]
    rcases hx with ⟨x, _⟩ | ⟨_, L, Q, x1, x2, x3⟩
    · exact absurd x q
    rcases hm with ⟨x, _⟩ | ⟨_, L', Q', m1, m2, m3⟩
    · exact absurd x q
    obtain ⟨hn, hv⟩ := F_valid q
    have hn3 : n.toNatClampNeg ≤ 3 := by
      have : n.toNatClampNeg = n.toInt.toNat := rfl
      omega
    have hp : ∀ i, i < n.toNatClampNeg → (par3 a b d i).toNatClampNeg < kn := fun i hi => (arg_k (hv i hi)).1
    clear hv hn q e
    generalize n.toNatClampNeg = m at *
    generalize par3 a b d = p at *
    have key : ∀ (l2 l2' : Nat → Int32), fle2 = upd fle kn L → (∀ j, j < 10 * kn → fli2 j = fli j ∧ fln2 j = fln j) → ∀ k, k < kn → fle2 k = fll2 k ∧ (∀ i, i < (fll2 k).toNatClampNeg → fli2 (10 * k + i) = fln2 (10 * k + i)) ∧ fqu2 k = if 0 < (fll2 k).toNatClampNeg then -6 else fmq2 k := by
      intro _ _ _ hlow k hk2
      obtain ⟨g1, g2, g3⟩ := h k hk2
      obtain ⟨z, hz, ez⟩ := hB k (by omega)
      have hc : (fll k).toNatClampNeg = z := by rw [ez, nI_clamp (by omega)]
      rw [x1, x2, m1, m2, pk_un (by omega), pk_un (by omega), pk_un (by omega), pk_un (by omega)]
      refine ⟨g1, fun i hi => ?_, g3⟩
      obtain ⟨a1, a2⟩ := hlow (10 * k + i) (by omega)
      rw [a1, a2]; exact g2 i hi
    rcases x3 with ⟨⟨i, hi, h0⟩, l1, q1, n1⟩ | ⟨hpos, hl⟩
    · rcases m3 with ⟨_, l2, q2, n2⟩ | ⟨hpos, _⟩
      · intro k hk2
        by_cases z : k = kn
        · subst z
          rw [x1, x2, m1, m2, pk_us, pk_us, pk_us, pk_us, l1, l2, q1, q2]
          exact ⟨rfl, fun i hi => absurd (show i < 0 from hi) (Nat.not_lt_zero i), by decide⟩
        · exact key fli fln x1 (fun j _ => ⟨by rw [n1], by rw [n2]⟩) k (by omega)
      · have := hpos i hi
        rw [← (h _ (hp i hi)).1] at this; omega
    · rcases m3 with ⟨⟨i, hi, h0⟩, _⟩ | ⟨_, hl'⟩
      · have := hpos i hi
        rw [(h _ (hp i hi)).1] at this; omega
      · obtain ⟨u1, u2, u3, u4, u5⟩ := lay_uni hn3 (fun i hi => ⟨(h _ (hp i hi)).1, fun j hj => (h _ (hp i hi)).2.1 j (by rw [← (h _ (hp i hi)).1]; exact hj)⟩) hl hl'
        intro k hk2
        by_cases z : k = kn
        · subst z
          rw [x1, x2, m1, m2, pk_us, pk_us, pk_us, pk_us, u1, u2]
          refine ⟨rfl, u4, ?_⟩
          unfold qcF
          rcases u5 with ⟨c1, c2⟩ | ⟨c1, c2⟩
          · rw [if_pos c1, if_pos c2]
          · rw [if_neg c1, c2]; exact (if_neg (by decide)).symm
        · exact key fli fln x1 u3 k (by omega)
theorem ln_cls {fle fli fqu fll fln fmq : Nat → Int32} {cn : Nat} (h : LnEq fle fli fqu fll fln fmq cn) (hl : LnOk fll fln cn) : LnOk fle fli cn := by
  intro k hk i hi
  obtain ⟨g1, g2, _⟩ := h k hk
  rw [g1] at hi
  rw [g2 i hi]; exact hl k hk i hi
theorem wf_eq {fle fli fqu fll fln fmq fnm : Nat → Int32} {cn kq nq fm : Nat} {v : Int32} (h : LnEq fle fli fqu fll fln fmq cn) (hl : LnOk fll fln cn) (hc : cn ≤ 10) (hk : kq < cn) (hb : ∀ j, j < cn → bt v j = bt (fnm j) nq) : wfF fle fli cn kq v fm = plM fll fln fnm kq nq fm := by
  unfold wfF plM
  rw [lenN_k hk hc, (h kq hk).1]
  refine fnd_congr (fun j h1 h2 => ?_)
  obtain ⟨q, h3, h4⟩ := hl kq hk j (by omega)
  rw [(h kq hk).2.1 j (by omega), h4, nI_clamp (by omega)]
  exact hb q (by omega)
theorem ans_eq {fle fli fqu fll fln fmq fnm : Nat → Int32} {cn kq nq fm : Nat} {v : Int32} (h : LnEq fle fli fqu fll fln fmq cn) (hl : LnOk fll fln cn) (hc : cn ≤ 10) (hk : kq < cn) (hb : ∀ j, j < cn → bt v j = bt (fnm j) nq) : ansF fle fli cn kq v fm = ansM fll fln fnm kq nq fm := by
  unfold ansF ansM
  rw [wf_eq (fm := fm) h hl hc hk hb]
  rcases pl_cases (rfl : plM fll fln fnm kq nq fm = _) with e | ⟨q, h1, e⟩
  · rw [if_pos e, if_pos e]
  · by_cases z : plM fll fln fnm kq nq fm = -6
    · rw [if_pos z, if_pos z]
    · rw [if_neg z, if_neg z]
      have hq : q < 2 ^ 31 := by have := Int32.toNatClampNeg_lt (fll kq); omega
      rw [e, nI_clamp hq]; exact (h kq hk).2.1 q h1
theorem line_F {fle fli fqu fll fln fmq : Nat → Int32} {cn kn : Nat} {n i : Int32} (hrel : kn = cn) (h : LnEq fle fli fqu fll fln fmq cn) : F_line cn (fle n.toNatClampNeg).toNatClampNeg (fun j => fli (10 * n.toNatClampNeg + j)) n i = F_line kn (fll n.toNatClampNeg).toNatClampNeg (fun j => fln (10 * n.toNatClampNeg + j)) n i := by
  subst hrel
  unfold F_line
  by_cases q : 0 ≤ n.toInt ∧ n.toInt < (kn : Int)
  · obtain ⟨g1, g2, _⟩ := h _ (arg_k q).1
    rw [if_pos q, if_pos q, g1]
    by_cases z : (fll n.toNatClampNeg).toNatClampNeg = 0
    · rw [if_pos z, if_pos z]
    rw [if_neg z, if_neg z]
    by_cases y : i.toInt = -1
    · rw [if_pos y, if_pos y]
    rw [if_neg y, if_neg y]
    by_cases x : 0 ≤ i.toInt ∧ i.toInt < ((fll n.toNatClampNeg).toNatClampNeg : Int)
    · rw [if_pos x, if_pos x]; exact g2 _ (fx_cl x.1 x.2)
    · rw [if_neg x, if_neg x]
  · rw [if_neg q, if_neg q]
theorem quarrel_F {fle fli fqu fll fln fmq : Nat → Int32} {cn kn : Nat} {n : Int32} (hrel : kn = cn) (h : LnEq fle fli fqu fll fln fmq cn) : F_q cn (fqu n.toNatClampNeg) n = F_q kn (if 0 < (fll n.toNatClampNeg).toNatClampNeg then -6 else fmq n.toNatClampNeg) n := by
  subst hrel
  unfold F_q
  by_cases q : 0 ≤ n.toInt ∧ n.toInt < (kn : Int)
  · rw [if_pos q, if_pos q, (h _ (arg_k q).1).2.2]
  · rw [if_neg q, if_neg q]
theorem ans_Fq {fle fli fqu fll fln fmq fo fnm : Nat → Int32} {cn kn : Nat} {n v : Int32} (hrel : kn = cn) (hc : cn ≤ 10) (h : LnEq fle fli fqu fll fln fmq cn) (hl : LnOk fll fln kn) (h3 : OwEq fo fnm cn) : F_ans cn (fle n.toNatClampNeg).toNatClampNeg (ansF fle fli cn n.toNatClampNeg (fo v.toNatClampNeg) 0) n v = F_ans kn (fll n.toNatClampNeg).toNatClampNeg (ansM fll fln fnm n.toNatClampNeg v.toNatClampNeg 0) n v := by
  subst hrel
  unfold F_ans
  by_cases q : (0 ≤ n.toInt ∧ n.toInt < (kn : Int)) ∧ (0 ≤ v.toInt ∧ v.toInt ≤ 7)
  · have h1 := (arg_k q.1).1
    rw [if_pos q, if_pos q, (h _ h1).1, ans_eq h hl hc h1 (fun j hj => ow_bit h3 hc (arg_n q.2).1 hj)]
  · rw [if_neg q, if_neg q]
theorem shift_F {fle fli fqu fll fln fmq fo fnm : Nat → Int32} {cn kn : Nat} {n v : Int32} (hrel : kn = cn) (hc : cn ≤ 10) (h : LnEq fle fli fqu fll fln fmq cn) (hl : LnOk fll fln kn) (h3 : OwEq fo fnm cn) : F_shift cn (bt (fo v.toNatClampNeg) n.toNatClampNeg) (shC fle fli cn n.toNatClampNeg (fo v.toNatClampNeg)) n v = F_shift kn (bt (fnm n.toNatClampNeg) v.toNatClampNeg) (shM fll fln fnm kn n.toNatClampNeg v.toNatClampNeg) n v := by
  subst hrel
  unfold F_shift
  by_cases q : (0 ≤ n.toInt ∧ n.toInt < (kn : Int)) ∧ (0 ≤ v.toInt ∧ v.toInt ≤ 7)
  · have h1 := (arg_k q.1).1
    have h2 := (arg_n q.2).1
    have e : shC fle fli kn n.toNatClampNeg (fo v.toNatClampNeg) = shM fll fln fnm kn n.toNatClampNeg v.toNatClampNeg := by
      unfold shC shM
      refine bits_congr (fun k hk => ?_)
      have e1 := ans_eq (fm := 0) h hl hc hk (fun j hj => ow_bit h3 hc h2 hj)
      have hh := ow_has h3 hc h1 h2
      have e2 := ans_eq (fm := 0) (v := fo v.toNatClampNeg ||| ((1 : Int32) <<< (nI n.toNatClampNeg &&& 31))) h hl hc hk (fun j hj => by
        have := ow_bit hh hc h2 hj
        rw [pk_us] at this; exact this)
      rw [e1, e2]
      exact decide_eq_decide.mpr ⟨fun z y => z y.symm, fun z y => z y.symm⟩
    rw [if_pos q, if_pos q, ow_bit h3 hc h2 h1, e]
  · rw [if_neg q, if_neg q]
theorem orA_small {A : Nat → Int32} : ∀ {n : Nat}, n ≤ 10 → (∀ k, k < n → (A k).toInt < 0 ∨ ∃ q : Nat, q ≤ k ∧ A k = nI q) → ∀ i, 10 ≤ i → i < 32 → bt (orA A n) i = false
  | 0, _, _, i, _, _ => b_0 i
  | n + 1, hn, h, i, h1, h2 => by
    have ih := orA_small (A := A) (n := n) (by omega) (fun k hk => h k (by omega)) i h1 h2
    show bt (if (A n).toInt < 0 then orA A n else orA A n ||| ((1 : Int32) <<< (A n &&& 31))) i = false
    by_cases q : (A n).toInt < 0
    · rw [if_pos q]; exact ih
    · rw [if_neg q]
      obtain ⟨x, hx, e⟩ := (h n (by omega)).resolve_left q
      rw [e, b_set (by omega) h2, ih, decide_eq_false (by omega)]; rfl
theorem one_F {fab fma fle fli fqu fll fln fmq fo fnm fib : Nat → Int32} {cn kn : Nat} {bb n v i : Int32} (hrel : kn = cn) (hc : cn ≤ 10) (h : LnEq fle fli fqu fll fln fmq cn) (hl : LnOk fll fln kn) (h2 : BrEq bb fib cn) (h3 : OwEq fo fnm cn) (h6 : AbEq fab fma cn) :
    F_one cn (orA (unA fab fle fli cn bb n.toNatClampNeg (fo v.toNatClampNeg)) cn) (bcF (orA (unA fab fle fli cn bb n.toNatClampNeg (fo v.toNatClampNeg)) cn)) n v i = F_one kn (orA (unM fma fll fln fnm fib n.toNatClampNeg v.toNatClampNeg) kn) (nI (cnt (fun j => bt (orA (unM fma fll fln fnm fib n.toNatClampNeg v.toNatClampNeg) kn) j) 10)) n v i := by
  subst hrel
  unfold F_one
  by_cases q : (0 ≤ n.toInt ∧ n.toInt < (kn : Int)) ∧ (0 ≤ v.toInt ∧ v.toInt ≤ 7)
  · have a1 := (arg_k q.1).1
    have a2 := (arg_n q.2).1
    have hlc := ln_cls h hl
    have e : orA (unA fab fle fli kn bb n.toNatClampNeg (fo v.toNatClampNeg)) kn = orA (unM fma fll fln fnm fib n.toNatClampNeg v.toNatClampNeg) kn := orA_congr (fun k hk => by
      unfold unA unM
      rw [lenN_k hk hc, (h k hk).1, h6.1 k hk, ans_eq h hl hc hk (fun j hj => ow_bit h3 hc a2 hj)]
      by_cases z : (bt (fma k) n.toNatClampNeg = true ∨ k = n.toNatClampNeg) ∧ 0 < (fll k).toNatClampNeg ∧ ¬ bt bb k = true
      · rw [if_pos z, if_pos ⟨z.1.symm, z.2.1, Classical.byContradiction (fun y => z.2.2 ((h2.1 k hk).mpr y))⟩]
      · rw [if_neg z, if_neg (fun y => z ⟨y.1.symm, y.2.1, fun x => (h2.1 k hk).mp x y.2.2⟩)])
    have sm : ∀ j, 10 ≤ j → j < 32 → bt (orA (unA fab fle fli kn bb n.toNatClampNeg (fo v.toNatClampNeg)) kn) j = false := orA_small hc (fun k hk => by
      unfold unA
      by_cases z : (bt (fab k) n.toNatClampNeg = true ∨ k = n.toNatClampNeg) ∧ 0 < lenN fle kn (nI k) ∧ ¬ bt bb k = true
      · rw [if_pos z]
        rcases ans_cases hlc hk hc (rfl : ansF fle fli kn k (fo v.toNatClampNeg) 0 = _) with y | ⟨x, y1, y2⟩
        · rw [y]; exact Or.inl (by decide)
        · exact Or.inr ⟨x, y1, y2⟩
      · rw [if_neg z]; exact Or.inl (by decide))
    rw [if_pos q, if_pos q, bc_cnt sm, e]
  · rw [if_neg q, if_neg q]
theorem ce_next {fcp fck fmp fmk : Nat → Int32} {qn ca cn kn : Nat} {n a : Int32} (hrel : kn = cn) (hrq : ca = qn) (hc : cn ≤ 10) (h : CaEq fcp fck fmp fmk qn cn) : CaEq (QA_next cn qn fcp n a n) (QA_next cn qn fck n a a) (QA_next kn ca fmp n a n) (QA_next kn ca fmk n a a) (Q_next cn qn n a) cn := by
  subst hrel; subst hrq
  unfold QA_next Q_next F_call
  by_cases q : n.toInt < 0 ∨ 3 < n.toInt ∨ ¬ (0 ≤ a.toInt ∧ a.toInt < (kn : Int))
  · rw [if_pos q, if_pos q, if_pos q, if_pos q, if_pos q, if_pos (by decide)]; exact h
  · rw [if_neg q, if_neg q, if_neg q, if_neg q, if_neg q]
    by_cases z : 40 ≤ ca
    · rw [if_pos z, if_pos z, if_pos z, if_pos z, if_pos z, if_pos (by decide)]; exact h
    · rw [if_neg z, if_neg z, if_neg z, if_neg z, if_neg z, if_neg (by rw [nI_toInt (by omega)]; omega)]
      intro i hi
      by_cases y : i = ca
      · subst y
        rw [pk_us, pk_us, pk_us, pk_us]
        exact ⟨⟨rfl, rfl⟩, arg_nat (by omega)⟩
      · rw [pk_un y, pk_un y, pk_un y, pk_un y]; exact h i (by omega)
theorem row_eq {fle fli fqu fll fln fmq fo fnm fib : Nat → Int32} {cn : Nat} {bb : Int32} (hc : cn ≤ 10) (h : LnEq fle fli fqu fll fln fmq cn) (hl : LnOk fll fln cn) (h2 : BrEq bb fib cn) (h3 : OwEq fo fnm cn) : (∀ k, k < cn → rowC fle fli fo cn bb k = rowM fll fln fnm fib k) ∧ ∀ k, cn ≤ k → k < 10 → rowC fle fli fo cn bb k = 0 := by
  refine ⟨fun k hk => ?_, fun k hk hk10 => ?_⟩
  · unfold rowC rowM
    rw [lenN_k hk hc, (h k hk).1]
    have e : bitsF (fun n => decide (¬ ansF fle fli cn k (fo n) 0 = -6)) 8 = bitsF (fun n => decide (¬ plM fll fln fnm k n 0 = -6)) 8 := bits_congr (fun n hn => by
      have e2 := wf_eq (fm := 0) (v := fo n) h hl hc hk (fun j hj => ow_bit h3 hc hn hj)
      have hlc := ln_cls h hl
      refine decide_eq_decide.mpr (not_congr ?_)
      rw [← e2]
      unfold ansF
      rcases wf_cases (rfl : wfF fle fli cn k (fo n) 0 = _) with q | ⟨q, h4, h5⟩
      · rw [if_pos q]; exact ⟨fun _ => q, fun _ => rfl⟩
      · rw [lenN_k hk hc] at h4
        have hq : q < 2 ^ 31 := by have := Int32.toNatClampNeg_lt (fle k); omega
        obtain ⟨x, h6, h7⟩ := hlc k hk q h4
        rw [if_neg (by rw [h5]; exact nI_ne6 hq), h5, nI_clamp hq, h7]
        exact ⟨fun z => absurd z (nI_ne6 (by omega)), fun z => absurd z (nI_ne6 hq)⟩)
    rw [e]
    by_cases z : 0 < (fll k).toNatClampNeg ∧ ¬ bt bb k = true
    · rw [if_pos z, if_pos ⟨z.1, Classical.byContradiction (fun y => z.2 ((h2.1 k hk).mpr y))⟩]
    · rw [if_neg z, if_neg (fun y => z ⟨y.1, fun x => (h2.1 k hk).mp x y.2⟩)]
  · unfold rowC
    refine if_neg (fun q => ?_)
    have := lenN_pos q.1
    rw [nI_toInt (by omega)] at this; omega
theorem packed_F {fle fli fqu fll fln fmq fo fnm fib : Nat → Int32} {cn kn : Nat} {bb n : Int32} (hrel : kn = cn) (hc : cn ≤ 10) (h : LnEq fle fli fqu fll fln fmq cn) (hl : LnOk fll fln kn) (h2 : BrEq bb fib cn) (h3 : OwEq fo fnm cn) : F_packed cn (pkl (rowC fle fli fo cn bb) 10) (pkp (rowC fle fli fo cn bb) 10) n = F_packed kn (pkl (rowM fll fln fnm fib) kn) (pkp (rowM fll fln fnm fib) kn) n := by
  subst hrel
  obtain ⟨r1, r2⟩ := row_eq hc h hl h2 h3
  obtain ⟨a1, a2, _⟩ := pk_rel hc r1 r2
  unfold F_packed
  rw [a1]
  by_cases q : n.toInt = -1
  · rw [if_pos q, if_pos q]
  rw [if_neg q, if_neg q]
  by_cases z : 0 ≤ n.toInt ∧ n.toInt < (kn : Int)
  · rw [if_pos z, if_pos z]; exact a2 _ (arg_k z).1
  · rw [if_neg z, if_neg z]
theorem slot_F {fle fli fqu fll fln fmq fo fnm fib : Nat → Int32} {cn kn : Nat} {bb n : Int32} (hrel : kn = cn) (hc : cn ≤ 10) (h : LnEq fle fli fqu fll fln fmq cn) (hl : LnOk fll fln kn) (h2 : BrEq bb fib cn) (h3 : OwEq fo fnm cn) : F_slot (pks (rowC fle fli fo cn bb) 10) n = F_slot (pks (rowM fll fln fnm fib) kn) n := by
  subst hrel
  obtain ⟨r1, r2⟩ := row_eq hc h hl h2 h3
  obtain ⟨_, _, a3⟩ := pk_rel hc r1 r2
  unfold F_slot
  by_cases z : 0 ≤ n.toInt ∧ n.toInt ≤ 99
  · rw [if_pos z, if_pos z]; exact a3 _ (fx_cl z.1 (by omega))
  · rw [if_neg z, if_neg z]
theorem cv_cls {fbl fbs fsm fsg : Nat → Int32} (h : BdyEq fbl fbs fsm fsg) (hc : CvOk fsm fsg) : CvOk fbl fbs := by
  intro b hb i hi
  rw [(h b hb).1] at hi
  rw [(h b hb).2 i hi]; exact hc b hb i hi
theorem cv_0 : CvOk (fun _ => 0) (fun _ => 0) := fun b _ i hi => absurd (show i < 0 from hi) (Nat.not_lt_zero i)
theorem run_F {fle fli fqu fll fln fmq fo fnm fbl fbs fsm fsg fd fsd : Nat → Int32} {cn kn : Nat} {n v i : Int32} (hrel : kn = cn) (hc : cn ≤ 10) (h : LnEq fle fli fqu fll fln fmq cn) (hl : LnOk fll fln kn) (hB : BdOk 10 10 fll) (h3 : OwEq fo fnm cn) (h5 : BdyEq fbl fbs fsm fsg) (hcv : CvOk fbl fbs) :
    F_run cn (fle n.toNatClampNeg).toNatClampNeg (wdC fle fli fo fbl fbs cn n.toNatClampNeg 9 v.toNatClampNeg 0 (0, 0, fd)).1 (wdC fle fli fo fbl fbs cn n.toNatClampNeg 9 v.toNatClampNeg 0 (0, 0, fd)).2.2.1 (wdC fle fli fo fbl fbs cn n.toNatClampNeg 9 v.toNatClampNeg 0 (0, 0, fd)).2.2.2 n v i
    = F_run kn (fll n.toNatClampNeg).toNatClampNeg (wdM fll fln fnm fsm fsg n.toNatClampNeg 9 v.toNatClampNeg 0 (0, 0, fsd)).1 (wdM fll fln fnm fsm fsg n.toNatClampNeg 9 v.toNatClampNeg 0 (0, 0, fsd)).2.2.1 (wdM fll fln fnm fsm fsg n.toNatClampNeg 9 v.toNatClampNeg 0 (0, 0, fsd)).2.2.2 n v i := by
  subst hrel
  unfold F_run
  by_cases q : (0 ≤ n.toInt ∧ n.toInt < (kn : Int)) ∧ (0 ≤ v.toInt ∧ v.toInt ≤ 7)
  · have hk := (arg_k q.1).1
    have hm := (arg_n q.2).1
    rw [if_pos q, if_pos q, (h _ hk).1]
    clear q
    generalize n.toNatClampNeg = k at *
    generalize v.toNatClampNeg = m at *
    obtain ⟨L, hL, eL⟩ := hB k (by omega)
    have cL : (fll k).toNatClampNeg = L := by rw [eL, nI_clamp (by omega)]
    have e : ∀ st, wdC fle fli fo fbl fbs kn k 9 m 0 st = wdM fll fln fnm fsm fsg k 9 m 0 st := fun st => by
      unfold wdC wdM
      refine wd_cg (L := L) hL (fun nm fm h1 _ => wf_eq h hl hc hk (fun j hj => ow_bit h3 hc h1 hj)) (fun nm fm _ _ => ?_) (fun a ha => ?_) (fun x b hx hb => by rw [(h5 (8 * x + b) (by omega)).1]) (fun x b hx hb j hj => (h5 (8 * x + b) (by omega)).2 j (by rw [← (h5 (8 * x + b) (by omega)).1]; exact hj)) (fun x b hx hb j hj => can_t (hcv (8 * x + b) (by omega) j hj)) 9 m 0 hm (by omega) st
      · rcases wf_cases (rfl : wfF fle fli kn k (fo nm) fm = _) with z | ⟨a, z1, z2⟩
        · exact Or.inl z
        · rw [lenN_k hk hc, (h k hk).1, cL] at z1
          exact Or.inr ⟨a, z1, z2⟩
      · obtain ⟨x, x1, x2⟩ := hl k hk a (by omega)
        refine ⟨by rw [(h k hk).2.1 a (by omega)], ?_⟩
        rw [(h k hk).2.1 a (by omega), x2, nI_clamp (by omega)]; omega
    have ag : RAg (wdC fle fli fo fbl fbs kn k 9 m 0 (0, 0, fd)) (wdC fle fli fo fbl fbs kn k 9 m 0 (0, 0, fsd)) := wd_ag 9 m 0 (0, 0, fd) (0, 0, fsd) ⟨rfl, rfl, fun i hi => absurd (show i < 0 from hi) (Nat.not_lt_zero i)⟩
    rw [e (0, 0, fsd)] at ag
    obtain ⟨a1, _, a3, a4⟩ := ag
    rw [a1]
    by_cases z : (fll k).toNatClampNeg = 0
    · rw [if_pos z, if_pos z]
    rw [if_neg z, if_neg z]
    by_cases y : i.toInt = -1
    · rw [if_pos y, if_pos y]
    rw [if_neg y, if_neg y]
    by_cases x : i.toInt = -2
    · rw [if_pos x, if_pos x, a3]
    rw [if_neg x, if_neg x, ← a3]
    by_cases u : 0 ≤ i.toInt ∧ i.toInt < ((wdC fle fli fo fbl fbs kn k 9 m 0 (0, 0, fd)).2.2.1 : Int)
    · rw [if_pos u, if_pos u]; exact a4 _ (fx_cl u.1 u.2)
    · rw [if_neg u, if_neg u]
  · rw [if_neg q, if_neg q]
