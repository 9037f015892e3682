/-! a RUN: what class and reference work out -/
def sayF (s : Int32) (st : Nat × Nat × (Nat → Int32)) : Int32 × Nat × Nat × (Nat → Int32) := if 40 ≤ st.2.1 then (2, st) else (0, (st.1, st.2.1 + 1, upd st.2.2 st.2.1 (s - 48)))
def stepF (wk : Nat → Nat → Nat × Nat × (Nat → Int32) → Int32 × Nat × Nat × (Nat → Int32)) (nm at' : Nat) (s : Int32) (st : Nat × Nat × (Nat → Int32)) : Int32 × Nat × Nat × (Nat → Int32) :=
  if 48 ≤ s.toInt ∧ s.toInt ≤ 57 then sayF s st else if s.toInt = 94 then wk nm (at' + 1) st else wk (s.toInt - 97).toNat 0 st
def sgL (wk : Nat → Nat → Nat × Nat × (Nat → Int32) → Int32 × Nat × Nat × (Nat → Int32)) (nm at' : Nat) (sg : Nat → Int32) : Nat → Nat → Int32 × Nat × Nat × (Nat → Int32) → Int32 × Nat × Nat × (Nat → Int32)
  | 0, _, r => r
  | m + 1, i, r => if r.1 = 0 then sgL wk nm at' sg m (i + 1) (stepF wk nm at' (sg i) r.2) else r
def Wd (pl : Nat → Nat → Int32) (ow : Nat → Nat) (ln : Nat → Nat → Nat) (sg : Nat → Nat → Nat → Int32) : Nat → Nat → Nat → Nat × Nat × (Nat → Int32) → Int32 × Nat × Nat × (Nat → Int32)
  | 0, _, _, st => (2, st)
  | d + 1, nm, fm, st => if 200 ≤ st.1 then (2, st) else if pl nm fm = -6 then (1, (st.1 + 1, st.2)) else sgL (Wd pl ow ln sg d) nm (pl nm fm).toNatClampNeg (sg (ow (pl nm fm).toNatClampNeg) nm) (ln (ow (pl nm fm).toNatClampNeg) nm) 0 (0, (st.1 + 1, st.2))
theorem sgl_stop {wk : Nat → Nat → Nat × Nat × (Nat → Int32) → Int32 × Nat × Nat × (Nat → Int32)} {nm a : Nat} {sg : Nat → Int32} {r : Int32 × Nat × Nat × (Nat → Int32)} (h : ¬ r.1 = 0) : ∀ (m i : Nat), sgL wk nm a sg m i r = r
  | 0, _ => rfl
  | _ + 1, _ => if_neg h
theorem sgl_end {wk : Nat → Nat → Nat × Nat × (Nat → Int32) → Int32 × Nat × Nat × (Nat → Int32)} {nm a len k : Nat} {sg : Nat → Int32} {r : Int32 × Nat × Nat × (Nat → Int32)} (h : len ≤ k ∨ ¬ r.1 = 0) : sgL wk nm a sg (len - k) k r = r := by
  rcases h with q | q
  · rw [show len - k = 0 from (by omega)]; rfl
  · exact sgl_stop q _ _
theorem sgl_go {wk : Nat → Nat → Nat × Nat × (Nat → Int32) → Int32 × Nat × Nat × (Nat → Int32)} {nm a len k : Nat} {sg : Nat → Int32} {r : Int32 × Nat × Nat × (Nat → Int32)} (h : r.1 = 0) (hk : k < len) : sgL wk nm a sg (len - k) k r = sgL wk nm a sg (len - (k + 1)) (k + 1) (stepF wk nm a (sg k) r.2) := by
  rw [show len - k = (len - (k + 1)) + 1 from (by omega)]; exact if_pos h
theorem st_dig {wk : Nat → Nat → Nat × Nat × (Nat → Int32) → Int32 × Nat × Nat × (Nat → Int32)} {nm a : Nat} {s : Int32} {st : Nat × Nat × (Nat → Int32)} (h : 48 ≤ s.toInt ∧ s.toInt ≤ 57) : stepF wk nm a s st = sayF s st := if_pos h
theorem st_up {wk : Nat → Nat → Nat × Nat × (Nat → Int32) → Int32 × Nat × Nat × (Nat → Int32)} {nm a : Nat} {s : Int32} {st : Nat × Nat × (Nat → Int32)} (h : s.toInt = 94) : stepF wk nm a s st = wk nm (a + 1) st := by
  unfold stepF; rw [if_neg (by omega), if_pos h]
theorem st_let {wk : Nat → Nat → Nat × Nat × (Nat → Int32) → Int32 × Nat × Nat × (Nat → Int32)} {nm a j : Nat} {s : Int32} {st : Nat × Nat × (Nat → Int32)} (h : 97 ≤ s.toInt) (hj : (j : Int) = s.toInt - 97) : stepF wk nm a s st = wk j 0 st := by
  unfold stepF; rw [if_neg (by omega), if_neg (by omega), show (s.toInt - 97).toNat = j from (by omega)]
theorem wd_full {pl : Nat → Nat → Int32} {ow : Nat → Nat} {ln : Nat → Nat → Nat} {sg : Nat → Nat → Nat → Int32} {d nm fm : Nat} {st : Nat × Nat × (Nat → Int32)} (h : d = 0 ∨ 200 ≤ st.1) : Wd pl ow ln sg d nm fm st = (2, st) := by
  cases d with
  | zero => rfl
  | succ d => exact if_pos (h.resolve_left (by omega))
theorem wd_none {pl : Nat → Nat → Int32} {ow : Nat → Nat} {ln : Nat → Nat → Nat} {sg : Nat → Nat → Nat → Int32} {d nm fm : Nat} {st : Nat × Nat × (Nat → Int32)} (hm : ¬ 200 ≤ st.1) (hp : pl nm fm = -6) : Wd pl ow ln sg (d + 1) nm fm st = (1, (st.1 + 1, st.2)) := by
  show (if 200 ≤ st.1 then (2, st) else if pl nm fm = -6 then (1, (st.1 + 1, st.2)) else _) = _
  rw [if_neg hm, if_pos hp]
theorem wd_some {pl : Nat → Nat → Int32} {ow : Nat → Nat} {ln : Nat → Nat → Nat} {sg : Nat → Nat → Nat → Int32} {d nm fm a : Nat} {st : Nat × Nat × (Nat → Int32)} (hm : ¬ 200 ≤ st.1) (hp : pl nm fm = nI a) (ha : a < 2 ^ 31) : Wd pl ow ln sg (d + 1) nm fm st = sgL (Wd pl ow ln sg d) nm a (sg (ow a) nm) (ln (ow a) nm) 0 (0, (st.1 + 1, st.2)) := by
  show (if 200 ≤ st.1 then (2, st) else if pl nm fm = -6 then (1, (st.1 + 1, st.2)) else sgL (Wd pl ow ln sg d) nm (pl nm fm).toNatClampNeg (sg (ow (pl nm fm).toNatClampNeg) nm) (ln (ow (pl nm fm).toNatClampNeg) nm) 0 (0, (st.1 + 1, st.2))) = _
  rw [if_neg hm, if_neg (by rw [hp]; exact nI_ne6 ha), hp, nI_clamp ha]
/-- the class's RUN, the reference's -/
def wdC (fle fli fo fbl fbs : Nat → Int32) (cn kq : Nat) : Nat → Nat → Nat → Nat × Nat × (Nat → Int32) → Int32 × Nat × Nat × (Nat → Int32) := Wd (fun nm fm => wfF fle fli cn kq (fo nm) fm) (fun a => (fli (10 * kq + a)).toNatClampNeg) (fun q b => (fbl (8 * q + b)).toNatClampNeg) (fun q b i => fbs (12 * (8 * q + b) + i))
def wdM (fll fln fnm fsm fsg : Nat → Int32) (kq : Nat) : Nat → Nat → Nat → Nat × Nat × (Nat → Int32) → Int32 × Nat × Nat × (Nat → Int32) := Wd (fun nm fm => plM fll fln fnm kq nm fm) (fun a => (fln (10 * kq + a)).toNatClampNeg) (fun q b => (fsm (8 * q + b)).toNatClampNeg) (fun q b i => fsg (12 * (8 * q + b) + i))
def sayR (sd : Nat) : Int32 := if 40 ≤ sd then 2 else 0
def sayN (sd : Nat) : Nat := if 40 ≤ sd then sd else sd + 1
def sayD (sd : Nat) (f : Nat → Int32) (n : Int32) : Nat → Int32 := if 40 ≤ sd then f else upd f sd n
theorem say_eq {md sd : Nat} {f : Nat → Int32} {s : Int32} : sayF s (md, sd, f) = (sayR sd, (md, sayN sd, sayD sd f (s - 48))) := by
  unfold sayF sayR sayN sayD
  show (if 40 ≤ sd then (2, (md, sd, f)) else (0, (md, sd + 1, upd f sd (s - 48)))) = _
  by_cases h : 40 ≤ sd
  · rw [if_pos h, if_pos h, if_pos h, if_pos h]
  · rw [if_neg h, if_neg h, if_neg h, if_neg h]
/-- what can be told of a result: how it ended, what was SAID -/
theorem r4 {a : Int32} {m s : Nat} {f : Nat → Int32} {t : Int32 × Nat × Nat × (Nat → Int32)} (h : (a, m, s, f) = t) : a = t.1 ∧ m = t.2.1 ∧ s = t.2.2.1 ∧ f = t.2.2.2 := by subst h; exact ⟨rfl, rfl, rfl, rfl⟩
def ValidS (ln : Nat → Nat → Nat) (sg : Nat → Nat → Nat → Int32) : Prop := ∀ q b, q < 10 → b < 8 → ∀ i, i < ln q b → can (sg q b i) = true
theorem step_cg {wk wk' : Nat → Nat → Nat × Nat × (Nat → Int32) → Int32 × Nat × Nat × (Nat → Int32)} {nm a : Nat} {s : Int32} (hs : can s = true) (h1 : ∀ st, wk nm (a + 1) st = wk' nm (a + 1) st) (h2 : ∀ j, j < 8 → ∀ st, wk j 0 st = wk' j 0 st) (st : Nat × Nat × (Nat → Int32)) : stepF wk nm a s st = stepF wk' nm a s st := by
  unfold stepF
  have c := can_p hs
  by_cases d : 48 ≤ s.toInt ∧ s.toInt ≤ 57
  · rw [if_pos d, if_pos d]
  · rw [if_neg d, if_neg d]
    by_cases e : s.toInt = 94
    · rw [if_pos e, if_pos e]; exact h1 st
    · rw [if_neg e, if_neg e]; exact h2 _ (by omega) st
theorem sgl_cg {wk wk' : Nat → Nat → Nat × Nat × (Nat → Int32) → Int32 × Nat × Nat × (Nat → Int32)} {nm a : Nat} {sg sg' : Nat → Int32} {len : Nat} (hs : ∀ i, i < len → can (sg i) = true) (he : ∀ i, i < len → sg i = sg' i) (h1 : ∀ st, wk nm (a + 1) st = wk' nm (a + 1) st) (h2 : ∀ j, j < 8 → ∀ st, wk j 0 st = wk' j 0 st) : ∀ (m i : Nat), i + m ≤ len → ∀ r, sgL wk nm a sg m i r = sgL wk' nm a sg' m i r
  | 0, _, _, _ => rfl
  | m + 1, i, hi, r => by
    show (if r.1 = 0 then sgL wk nm a sg m (i + 1) (stepF wk nm a (sg i) r.2) else r) = (if r.1 = 0 then sgL wk' nm a sg' m (i + 1) (stepF wk' nm a (sg' i) r.2) else r)
    by_cases q : r.1 = 0
    · rw [if_pos q, if_pos q, ← he i (by omega), step_cg (hs i (by omega)) h1 h2, sgl_cg hs he h1 h2 m (i + 1) (by omega)]
    · rw [if_neg q, if_neg q]
theorem wd_cg {pl pl' : Nat → Nat → Int32} {ow ow' : Nat → Nat} {ln ln' : Nat → Nat → Nat} {sg sg' : Nat → Nat → Nat → Int32} {L : Nat} (hL : L ≤ 10) (hp : ∀ nm fm, nm < 8 → fm ≤ 10 → pl nm fm = pl' nm fm) (hq : ∀ nm fm, nm < 8 → fm ≤ 10 → pl nm fm = -6 ∨ ∃ a : Nat, a < L ∧ pl nm fm = nI a) (ho : ∀ a, a < L → ow a = ow' a ∧ ow a < 10) (hn : ∀ q b, q < 10 → b < 8 → ln q b = ln' q b) (hg : ∀ q b, q < 10 → b < 8 → ∀ i, i < ln q b → sg q b i = sg' q b i) (hv : ValidS ln sg) : ∀ (d nm fm : Nat), nm < 8 → fm ≤ 10 → ∀ st, Wd pl ow ln sg d nm fm st = Wd pl' ow' ln' sg' d nm fm st
  | 0, _, _, _, _, _ => rfl
  | d + 1, nm, fm, h1, h2, st => by
    by_cases m : 200 ≤ st.1
    · rw [wd_full (Or.inr m), wd_full (Or.inr m)]
    · rcases hq nm fm h1 h2 with e | ⟨a, ha, e⟩
      · rw [wd_none m e, wd_none m (by rw [← hp nm fm h1 h2]; exact e)]
      · obtain ⟨o1, o2⟩ := ho a ha
        rw [wd_some m e (by omega), wd_some m (by rw [← hp nm fm h1 h2]; exact e) (by omega), ← o1, ← hn _ nm o2 h1]
        exact sgl_cg (len := ln (ow a) nm) (hv _ nm o2 h1) (hg _ nm o2 h1) (fun st => wd_cg hL hp hq ho hn hg hv d nm (a + 1) h1 (by omega) st) (fun j hj st => wd_cg hL hp hq ho hn hg hv d j 0 hj (by omega) st) _ 0 (by omega) _
/-- the reference's open calls, worked to their ends -/
def finM (fll fln fnm fsm fsg : Nat → Int32) (kq : Nat) (fop fon fos : Nat → Int32) : Nat → Int32 × Nat × Nat × (Nat → Int32) → Int32 × Nat × Nat × (Nat → Int32)
  | 0, r => r
  | j + 1, r => finM fll fln fnm fsm fsg kq fop fon fos j (sgL (wdM fll fln fnm fsm fsg kq (8 - j)) (fon j).toNatClampNeg (fop j).toNatClampNeg (fun i => fsg (12 * (8 * (fln (10 * kq + (fop j).toNatClampNeg)).toNatClampNeg + (fon j).toNatClampNeg) + i)) ((fsm (8 * (fln (10 * kq + (fop j).toNatClampNeg)).toNatClampNeg + (fon j).toNatClampNeg)).toNatClampNeg - (fos j).toNatClampNeg) (fos j).toNatClampNeg r)
theorem fin_stop {fll fln fnm fsm fsg fop fon fos : Nat → Int32} {kq : Nat} {r : Int32 × Nat × Nat × (Nat → Int32)} (h : ¬ r.1 = 0) : ∀ j, finM fll fln fnm fsm fsg kq fop fon fos j r = r
  | 0 => rfl
  | j + 1 => by
    show finM fll fln fnm fsm fsg kq fop fon fos j (sgL _ _ _ _ _ _ r) = r
    rw [sgl_stop h]; exact fin_stop h j
theorem fin_cg {fll fln fnm fsm fsg fop fon fos gop gon gos : Nat → Int32} {kq : Nat} : ∀ (j : Nat), (∀ i, i < j → fop i = gop i ∧ fon i = gon i ∧ fos i = gos i) → ∀ r, finM fll fln fnm fsm fsg kq fop fon fos j r = finM fll fln fnm fsm fsg kq gop gon gos j r
  | 0, _, _ => rfl
  | j + 1, h, r => by
    obtain ⟨e1, e2, e3⟩ := h j (by omega)
    show finM fll fln fnm fsm fsg kq fop fon fos j _ = finM fll fln fnm fsm fsg kq gop gon gos j _
    rw [e1, e2, e3]; exact fin_cg j (fun i hi => h i (by omega)) _
def F_run (cn len : Nat) (e : Int32) (sd : Nat) (f : Nat → Int32) (n v i : Int32) : Int32 := if (0 ≤ n.toInt ∧ n.toInt < (cn : Int)) ∧ (0 ≤ v.toInt ∧ v.toInt ≤ 7) then (if len = 0 then -3 else if i.toInt = -1 then e else if i.toInt = -2 then nI sd else if 0 ≤ i.toInt ∧ i.toInt < (sd : Int) then f i.toNatClampNeg else -6) else -1
theorem wd_inC {fle fli fo fbl fbs : Nat → Int32} {cn kq d nq fm md sd q ow : Nat} {fd : Nat → Int32} (hw : nI q = wfF fle fli cn kq (fo nq) fm) (hm : ¬ 200 ≤ md) (hq : q < 2 ^ 31) (eo : fli (10 * kq + q) = nI ow) (ho : ow < 2 ^ 31) : wdC fle fli fo fbl fbs cn kq (d + 1) nq fm (md, sd, fd) = sgL (wdC fle fli fo fbl fbs cn kq d) nq q (fun i => fbs (12 * (8 * ow + nq) + i)) (fbl (8 * ow + nq)).toNatClampNeg 0 (0, md + 1, sd, fd) := by
  unfold wdC
  rw [wd_some (pl := fun nm fm => wfF fle fli cn kq (fo nm) fm) (nm := nq) (fm := fm) (st := (md, sd, fd)) hm hw.symm hq]
  show sgL _ nq q (fun i => fbs (12 * (8 * (fli (10 * kq + q)).toNatClampNeg + nq) + i)) (fbl (8 * (fli (10 * kq + q)).toNatClampNeg + nq)).toNatClampNeg 0 (0, md + 1, sd, fd) = _
  rw [eo, nI_clamp ho]
theorem wd_noC {fle fli fo fbl fbs : Nat → Int32} {cn kq d nq fm md sd : Nat} {fd : Nat → Int32} (hw : -6 = wfF fle fli cn kq (fo nq) fm) (hm : ¬ 200 ≤ md) : (1, md + 1, sd, fd) = wdC fle fli fo fbl fbs cn kq (d + 1) nq fm (md, sd, fd) := by
  unfold wdC
  rw [wd_none (pl := fun nm fm => wfF fle fli cn kq (fo nm) fm) (nm := nq) (fm := fm) (st := (md, sd, fd)) hm hw.symm]
theorem wd_fuC {fle fli fo fbl fbs : Nat → Int32} {cn kq d nq fm md sd : Nat} {fd : Nat → Int32} (h : d = 0 ∨ 200 ≤ md) : (2, md, sd, fd) = wdC fle fli fo fbl fbs cn kq d nq fm (md, sd, fd) := by
  unfold wdC
  rw [wd_full h]
theorem lp_dig {wk : Nat → Nat → Nat × Nat × (Nat → Int32) → Int32 × Nat × Nat × (Nat → Int32)} {nm a len k md sd sd2 : Nat} {sg f f2 : Nat → Int32} {en z : Int32} {T : Int32 × Nat × Nat × (Nat → Int32)} (h : sgL wk nm a sg (len - k) k (en, md, sd, f) = T) (h0 : en = 0) (hk : k < len) (hs : 48 ≤ (sg k).toInt ∧ (sg k).toInt ≤ 57) (ez : z = sg k - 48) (e1 : sd2 = sayN sd) (e2 : f2 = sayD sd f z) : sgL wk nm a sg (len - (k + 1)) (k + 1) (sayR sd, md, sd2, f2) = T := by
  rw [← h, sgl_go h0 hk, st_dig hs]
  show _ = sgL wk nm a sg (len - (k + 1)) (k + 1) (sayF (sg k) (md, sd, f))
  rw [say_eq, e1, e2, ez]
theorem lp_up {wk : Nat → Nat → Nat × Nat × (Nat → Int32) → Int32 × Nat × Nat × (Nat → Int32)} {nm a len k md sd md2 sd2 : Nat} {sg f f2 : Nat → Int32} {en r : Int32} {T : Int32 × Nat × Nat × (Nat → Int32)} (h : sgL wk nm a sg (len - k) k (en, md, sd, f) = T) (h0 : en = 0) (hk : k < len) (hs : (sg k).toInt = 94) (hr : r = (wk nm (a + 1) (md, sd, f)).1) (e : (md2, sd2, f2) = (wk nm (a + 1) (md, sd, f)).2) : sgL wk nm a sg (len - (k + 1)) (k + 1) (r, md2, sd2, f2) = T := by
  rw [← h, sgl_go h0 hk, st_up hs, hr, e]
theorem lp_let {wk : Nat → Nat → Nat × Nat × (Nat → Int32) → Int32 × Nat × Nat × (Nat → Int32)} {nm a len k md sd md2 sd2 j : Nat} {sg f f2 : Nat → Int32} {en r : Int32} {T : Int32 × Nat × Nat × (Nat → Int32)} (h : sgL wk nm a sg (len - k) k (en, md, sd, f) = T) (h0 : en = 0) (hk : k < len) (hs : 97 ≤ (sg k).toInt) (hj : (j : Int) = (sg k).toInt - 97) (hr : r = (wk j 0 (md, sd, f)).1) (e : (md2, sd2, f2) = (wk j 0 (md, sd, f)).2) : sgL wk nm a sg (len - (k + 1)) (k + 1) (r, md2, sd2, f2) = T := by
  rw [← h, sgl_go h0 hk, st_let hs hj, hr, e]
/-- digits behind those SAID do not matter -/
def RAg (r t : Int32 × Nat × Nat × (Nat → Int32)) : Prop := r.1 = t.1 ∧ r.2.1 = t.2.1 ∧ r.2.2.1 = t.2.2.1 ∧ ∀ i, i < r.2.2.1 → r.2.2.2 i = t.2.2.2 i
def SAg (s t : Nat × Nat × (Nat → Int32)) : Prop := s.1 = t.1 ∧ s.2.1 = t.2.1 ∧ ∀ i, i < s.2.1 → s.2.2 i = t.2.2 i
theorem say_ag {x : Int32} {s t : Nat × Nat × (Nat → Int32)} (h : SAg s t) : RAg (sayF x s) (sayF x t) := by
  obtain ⟨m, n, f⟩ := s
  obtain ⟨m', n', g⟩ := t
  obtain ⟨e1, e2, e3⟩ := h
  have e1 : m = m' := e1
  have e2 : n = n' := e2
  subst e1; subst e2
  rw [say_eq, say_eq]
  unfold sayR sayN sayD
  by_cases q : 40 ≤ n
  · rw [if_pos q, if_pos q, if_pos q, if_pos q]; exact ⟨rfl, rfl, rfl, e3⟩
  · rw [if_neg q, if_neg q, if_neg q, if_neg q]
    refine ⟨rfl, rfl, rfl, fun i hi => ?_⟩
    have hi : i < n + 1 := hi
    show upd f n (x - 48) i = upd g n (x - 48) i
    by_cases z : i = n
    · subst z; rw [pk_us, pk_us]
    · rw [pk_un z, pk_un z]; exact e3 i (show i < n by omega)
theorem sgl_ag {wk : Nat → Nat → Nat × Nat × (Nat → Int32) → Int32 × Nat × Nat × (Nat → Int32)} {nm a : Nat} {sg : Nat → Int32} (hw : ∀ n f s t, SAg s t → RAg (wk n f s) (wk n f t)) : ∀ (m i : Nat) (r t : Int32 × Nat × Nat × (Nat → Int32)), RAg r t → RAg (sgL wk nm a sg m i r) (sgL wk nm a sg m i t)
  | 0, _, _, _, h => h
  | m + 1, i, r, t, h => by
    show RAg (if r.1 = 0 then sgL wk nm a sg m (i + 1) (stepF wk nm a (sg i) r.2) else r) (if t.1 = 0 then sgL wk nm a sg m (i + 1) (stepF wk nm a (sg i) t.2) else t)
    rw [← h.1]
    by_cases q : r.1 = 0
    · rw [if_pos q, if_pos q]
      refine sgl_ag hw m (i + 1) _ _ ?_
      have hs : SAg r.2 t.2 := h.2
      unfold stepF
      split
      · exact say_ag hs
      · split
        · exact hw _ _ _ _ hs
        · exact hw _ _ _ _ hs
    · rw [if_neg q, if_neg q]; exact h
theorem wd_ag {pl : Nat → Nat → Int32} {ow : Nat → Nat} {ln : Nat → Nat → Nat} {sg : Nat → Nat → Nat → Int32} : ∀ (d nm fm : Nat) (s t : Nat × Nat × (Nat → Int32)), SAg s t → RAg (Wd pl ow ln sg d nm fm s) (Wd pl ow ln sg d nm fm t)
  | 0, _, _, _, _, h => ⟨rfl, h⟩
  | d + 1, nm, fm, s, t, h => by
    show RAg (if 200 ≤ s.1 then (2, s) else if pl nm fm = -6 then (1, (s.1 + 1, s.2)) else sgL (Wd pl ow ln sg d) nm (pl nm fm).toNatClampNeg (sg (ow (pl nm fm).toNatClampNeg) nm) (ln (ow (pl nm fm).toNatClampNeg) nm) 0 (0, (s.1 + 1, s.2))) (if 200 ≤ t.1 then (2, t) else if pl nm fm = -6 then (1, (t.1 + 1, t.2)) else sgL (Wd pl ow ln sg d) nm (pl nm fm).toNatClampNeg (sg (ow (pl nm fm).toNatClampNeg) nm) (ln (ow (pl nm fm).toNatClampNeg) nm) 0 (0, (t.1 + 1, t.2)))
    rw [← h.1]
    by_cases q : 200 ≤ s.1
    · rw [if_pos q, if_pos q]; exact ⟨rfl, h⟩
    · rw [if_neg q, if_neg q]
      by_cases z : pl nm fm = -6
      · rw [if_pos z, if_pos z]; exact ⟨rfl, rfl, h.2⟩
      · rw [if_neg z, if_neg z]
        exact sgl_ag (fun n f s t hh => wd_ag d n f s t hh) _ _ _ _ ⟨rfl, rfl, h.2⟩
def FinEq (a b : Int32 × Nat × Nat × (Nat → Int32)) : Prop := a.1 = b.1 ∧ a.2.2 = b.2.2
theorem fe_rf {a : Int32 × Nat × Nat × (Nat → Int32)} : FinEq a a := ⟨rfl, rfl⟩
theorem fe_tr {a b c : Int32 × Nat × Nat × (Nat → Int32)} (h : FinEq a b) (g : FinEq b c) : FinEq a c := ⟨h.1.trans g.1, h.2.trans g.2⟩
/-- the reference begins a call -/
theorem bg_full {fll fln fnm fsm fsg fop fon fos : Nat → Int32} {kq op nq fm wk : Nat} (h : op = 9 ∨ wk = 200) (sm : Nat) (fd : Nat → Int32) : FinEq (finM fll fln fnm fsm fsg kq fop fon fos op (2, wk, sm, fd)) (finM fll fln fnm fsm fsg kq fop fon fos op (wdM fll fln fnm fsm fsg kq (9 - op) nq fm (wk, sm, fd))) := by
  have e : wdM fll fln fnm fsm fsg kq (9 - op) nq fm (wk, sm, fd) = (2, wk, sm, fd) := by
    unfold wdM
    exact wd_full (h.elim (fun q => Or.inl (by omega)) (fun q => Or.inr (by show 200 ≤ wk; omega)))
  rw [e]; exact fe_rf
theorem bg_none {fll fln fnm fsm fsg fop fon fos : Nat → Int32} {kq op nq fm wk : Nat} (ho : op < 9) (hk : wk < 200) (hp : -6 = plM fll fln fnm kq nq fm) (sm : Nat) (fd : Nat → Int32) : FinEq (finM fll fln fnm fsm fsg kq fop fon fos op (1, wk, sm, fd)) (finM fll fln fnm fsm fsg kq fop fon fos op (wdM fll fln fnm fsm fsg kq (9 - op) nq fm (wk, sm, fd))) := by
  have e : wdM fll fln fnm fsm fsg kq (9 - op) nq fm (wk, sm, fd) = (1, wk + 1, sm, fd) := by
    rw [show 9 - op = (8 - op) + 1 from (by omega)]
    unfold wdM
    exact wd_none (by show ¬ 200 ≤ wk; omega) hp.symm
  rw [e, fin_stop (r := (1, wk, sm, fd)) (by show ¬ (1 : Int32) = 0; decide), fin_stop (r := (1, wk + 1, sm, fd)) (by show ¬ (1 : Int32) = 0; decide)]
  exact ⟨rfl, rfl⟩
theorem bg_push {fll fln fnm fsm fsg fop fon fos p2 n2 s2 : Nat → Int32} {kq op nq fm wk q : Nat} (ho : op < 9) (hk : wk < 200) (hp : nI q = plM fll fln fnm kq nq fm) (hq : q < 2 ^ 31) (hn : nq < 2 ^ 31) (e1 : p2 = upd fop op (nI q)) (e2 : n2 = upd fon op (nI nq)) (e3 : s2 = upd fos op 0) (sm : Nat) (fd : Nat → Int32) : FinEq (finM fll fln fnm fsm fsg kq p2 n2 s2 (op + 1) (0, wk + 1, sm, fd)) (finM fll fln fnm fsm fsg kq fop fon fos op (wdM fll fln fnm fsm fsg kq (9 - op) nq fm (wk, sm, fd))) := by
  have e : wdM fll fln fnm fsm fsg kq (9 - op) nq fm (wk, sm, fd) = sgL (wdM fll fln fnm fsm fsg kq (8 - op)) nq q (fun i => fsg (12 * (8 * (fln (10 * kq + q)).toNatClampNeg + nq) + i)) (fsm (8 * (fln (10 * kq + q)).toNatClampNeg + nq)).toNatClampNeg 0 (0, wk + 1, sm, fd) := by
    rw [show 9 - op = (8 - op) + 1 from (by omega)]
    unfold wdM
    exact wd_some (by show ¬ 200 ≤ wk; omega) hp.symm hq
  have a1 : (p2 op).toNatClampNeg = q := by rw [e1, pk_us, nI_clamp hq]
  have a2 : (n2 op).toNatClampNeg = nq := by rw [e2, pk_us, nI_clamp hn]
  have a3 : (s2 op).toNatClampNeg = 0 := by rw [e3, pk_us]; rfl
  rw [e]
  show FinEq (finM fll fln fnm fsm fsg kq p2 n2 s2 op (sgL (wdM fll fln fnm fsm fsg kq (8 - op)) (n2 op).toNatClampNeg (p2 op).toNatClampNeg (fun i => fsg (12 * (8 * (fln (10 * kq + (p2 op).toNatClampNeg)).toNatClampNeg + (n2 op).toNatClampNeg) + i)) ((fsm (8 * (fln (10 * kq + (p2 op).toNatClampNeg)).toNatClampNeg + (n2 op).toNatClampNeg)).toNatClampNeg - (s2 op).toNatClampNeg) (s2 op).toNatClampNeg (0, wk + 1, sm, fd))) _
  rw [a1, a2, a3, Nat.sub_zero, fin_cg op (fun i hi => ⟨by rw [e1, pk_un (by omega)], by rw [e2, pk_un (by omega)], by rw [e3, pk_un (by omega)]⟩)]
  exact fe_rf
/-- the top call is at its end; the top call's next sign -/
theorem fin_pop {fll fln fnm fsm fsg fop fon fos : Nat → Int32} {kq j a b d q : Nat} {r : Int32 × Nat × Nat × (Nat → Int32)} (e1 : fop j = nI a) (e2 : fon j = nI b) (e3 : fos j = nI d) (e4 : fln (10 * kq + a) = nI q) (ha : a < 2 ^ 31) (hb : b < 2 ^ 31) (hd : d < 2 ^ 31) (hq : q < 2 ^ 31) (hz : (fsm (8 * q + b)).toNatClampNeg = d) : finM fll fln fnm fsm fsg kq fop fon fos (j + 1) r = finM fll fln fnm fsm fsg kq fop fon fos j r := by
  show finM fll fln fnm fsm fsg kq fop fon fos j (sgL (wdM fll fln fnm fsm fsg kq (8 - j)) (fon j).toNatClampNeg (fop j).toNatClampNeg (fun i => fsg (12 * (8 * (fln (10 * kq + (fop j).toNatClampNeg)).toNatClampNeg + (fon j).toNatClampNeg) + i)) ((fsm (8 * (fln (10 * kq + (fop j).toNatClampNeg)).toNatClampNeg + (fon j).toNatClampNeg)).toNatClampNeg - (fos j).toNatClampNeg) (fos j).toNatClampNeg r) = _
  rw [e1, e2, e3, nI_clamp ha, nI_clamp hb, nI_clamp hd, e4, nI_clamp hq, hz, Nat.sub_self]
  rfl
theorem fin_use {fll fln fnm fsm fsg fop fon fos s2 : Nat → Int32} {kq j a b d q : Nat} {r : Int32 × Nat × Nat × (Nat → Int32)} (h0 : r.1 = 0) (e1 : fop j = nI a) (e2 : fon j = nI b) (e3 : fos j = nI d) (e4 : fln (10 * kq + a) = nI q) (ha : a < 2 ^ 31) (hb : b < 2 ^ 31) (hd : d < 2 ^ 30) (hq : q < 2 ^ 31) (hz : d < (fsm (8 * q + b)).toNatClampNeg) (es : s2 = upd fos j (nI (d + 1))) : finM fll fln fnm fsm fsg kq fop fon fos (j + 1) r = finM fll fln fnm fsm fsg kq fop fon s2 (j + 1) (stepF (wdM fll fln fnm fsm fsg kq (8 - j)) b a (fsg (12 * (8 * q + b) + d)) r.2) := by
  show finM fll fln fnm fsm fsg kq fop fon fos j (sgL (wdM fll fln fnm fsm fsg kq (8 - j)) (fon j).toNatClampNeg (fop j).toNatClampNeg (fun i => fsg (12 * (8 * (fln (10 * kq + (fop j).toNatClampNeg)).toNatClampNeg + (fon j).toNatClampNeg) + i)) ((fsm (8 * (fln (10 * kq + (fop j).toNatClampNeg)).toNatClampNeg + (fon j).toNatClampNeg)).toNatClampNeg - (fos j).toNatClampNeg) (fos j).toNatClampNeg r) = finM fll fln fnm fsm fsg kq fop fon s2 j (sgL (wdM fll fln fnm fsm fsg kq (8 - j)) (fon j).toNatClampNeg (fop j).toNatClampNeg (fun i => fsg (12 * (8 * (fln (10 * kq + (fop j).toNatClampNeg)).toNatClampNeg + (fon j).toNatClampNeg) + i)) ((fsm (8 * (fln (10 * kq + (fop j).toNatClampNeg)).toNatClampNeg + (fon j).toNatClampNeg)).toNatClampNeg - (s2 j).toNatClampNeg) (s2 j).toNatClampNeg (stepF (wdM fll fln fnm fsm fsg kq (8 - j)) b a (fsg (12 * (8 * q + b) + d)) r.2))
  have es2 : (s2 j).toNatClampNeg = d + 1 := by rw [es, pk_us, nI_clamp (by omega)]
  rw [es2, e1, e2, e3, nI_clamp ha, nI_clamp hb, nI_clamp (by omega), e4, nI_clamp hq, sgl_go h0 hz]
  exact fin_cg j (fun i hi => ⟨rfl, rfl, by rw [es, pk_un (by omega)]⟩) _
def dgF (sd : Nat) (f : Nat → Int32) (i : Int32) : Int32 := if 0 ≤ i.toInt ∧ i.toInt < (sd : Int) then f i.toNatClampNeg else -6
/-- signs that can stand in a BODY; the PAD is body 80 -/
def Vc (x : Int32) : Prop := (48 ≤ x.toInt ∧ x.toInt ≤ 57) ∨ (97 ≤ x.toInt ∧ x.toInt ≤ 104) ∨ x.toInt = 94
def CvOk (fsm fsg : Nat → Int32) : Prop := ∀ b, b < 80 → ∀ i, i < (fsm b).toNatClampNeg → Vc (fsg (12 * b + i))
