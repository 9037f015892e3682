/-! the reference's RUN: what is open is in range; it ends -/
def OsP (fll fln fsm : Nat → Int32) (kq : Nat) (fop fon fos : Nat → Int32) (j : Nat) : Prop := ∃ a b d q : Nat, fop j = nI a ∧ (a < (fll kq).toNatClampNeg ∧ a < 10) ∧ fon j = nI b ∧ b < 8 ∧ fos j = nI d ∧ q ≤ 9 ∧ fln (10 * kq + a) = nI q ∧ d ≤ (fsm (8 * q + b)).toNatClampNeg ∧ d ≤ 12
def OsOk (fll fln fsm : Nat → Int32) (kq : Nat) (fop fon fos : Nat → Int32) (op : Nat) : Prop := ∀ j, j < op → OsP fll fln fsm kq fop fon fos j
def sumO (f : Nat → Int32) : Nat → Nat
  | 0 => 0
  | n + 1 => sumO f n + (13 - (f n).toNatClampNeg)
def rMu (wk : Nat) (f : Nat → Int32) (op : Nat) : Nat := 30 * (200 - wk) + sumO f op
theorem sumO_cong {f g : Nat → Int32} : ∀ {n : Nat}, (∀ i, i < n → g i = f i) → sumO g n = sumO f n
  | 0, _ => rfl
  | n + 1, h => by
    have ih := sumO_cong (f := f) (g := g) (n := n) (fun i hi => h i (by omega))
    show sumO g n + (13 - (g n).toNatClampNeg) = sumO f n + (13 - (f n).toNatClampNeg)
    rw [ih, h n (by omega)]
theorem os_0 {fll fln fsm fop fon fos : Nat → Int32} {kq : Nat} : OsOk fll fln fsm kq fop fon fos 0 := fun j h => absurd h (Nat.not_lt_zero j)
theorem os_sub {fll fln fsm fop fon fos : Nat → Int32} {kq a b : Nat} (h : OsOk fll fln fsm kq fop fon fos a) (hb : b ≤ a) : OsOk fll fln fsm kq fop fon fos b := fun j hj => h j (by omega)
theorem os_push {fll fln fsm fop fon fos p2 n2 s2 : Nat → Int32} {kq op a b q : Nat} (h : OsOk fll fln fsm kq fop fon fos op) (e1 : p2 = upd fop op (nI a)) (e2 : n2 = upd fon op (nI b)) (e3 : s2 = upd fos op 0) (ha : a < (fll kq).toNatClampNeg ∧ a < 10) (hb : b < 8) (hq : q ≤ 9) (e : fln (10 * kq + a) = nI q) : OsOk fll fln fsm kq p2 n2 s2 (op + 1) := by
  intro j hj
  by_cases z : j = op
  · subst z
    exact ⟨a, b, 0, q, by rw [e1]; exact pk_us, ha, by rw [e2]; exact pk_us, hb, by rw [e3]; exact pk_us, hq, e, Nat.zero_le _, Nat.zero_le _⟩
  · obtain ⟨a1, b1, d1, q1, h1, h2, h3, h4, h5, h6, h7, h8, h9⟩ := h j (by omega)
    exact ⟨a1, b1, d1, q1, by rw [e1, pk_un z]; exact h1, h2, by rw [e2, pk_un z]; exact h3, h4, by rw [e3, pk_un z]; exact h5, h6, h7, h8, h9⟩
theorem mu_push {fos s2 : Nat → Int32} {op wk : Nat} (e3 : s2 = upd fos op 0) (hw : wk < 200) : rMu (wk + 1) s2 (op + 1) ≤ rMu wk fos op := by
  unfold rMu
  show 30 * (200 - (wk + 1)) + (sumO s2 op + (13 - (s2 op).toNatClampNeg)) ≤ _
  rw [sumO_cong (f := fos) (g := s2) (fun i hi => by rw [e3, pk_un (by omega)])]
  omega
theorem mu_pop {fos : Nat → Int32} {op wk d : Nat} (e : fos op = nI d) (hd : d ≤ 12) : rMu wk fos op < rMu wk fos (op + 1) := by
  unfold rMu
  show _ < 30 * (200 - wk) + (sumO fos op + (13 - (fos op).toNatClampNeg))
  rw [e, nI_clamp (by omega)]; omega
theorem mu_use {fos s2 : Nat → Int32} {op wk d : Nat} (e : fos op = nI d) (hd : d < 12) (e2 : s2 = upd fos op (nI (d + 1))) : rMu wk s2 (op + 1) < rMu wk fos (op + 1) := by
  unfold rMu
  show 30 * (200 - wk) + (sumO s2 op + (13 - (s2 op).toNatClampNeg)) < 30 * (200 - wk) + (sumO fos op + (13 - (fos op).toNatClampNeg))
  rw [sumO_cong (f := fos) (g := s2) (fun i hi => by rw [e2, pk_un (by omega)]), e, nI_clamp (by omega), e2, pk_us, nI_clamp (by omega)]
  omega
theorem os_use {fll fln fsm fop fon fos s2 : Nat → Int32} {kq op a b d q z : Nat} (h : OsOk fll fln fsm kq fop fon fos (op + 1)) (h1 : fop op = nI a) (h2 : a < (fll kq).toNatClampNeg ∧ a < 10) (h3 : fon op = nI b) (h4 : b < 8) (h6 : q ≤ 9) (h7 : fln (10 * kq + a) = nI q) (ez : fsm (8 * q + b) = nI z) (hz : z ≤ 12) (hd : d < z) (e2 : s2 = upd fos op (nI (d + 1))) : OsOk fll fln fsm kq fop fon s2 (op + 1) := by
  intro j hj
  by_cases y : j = op
  · subst y
    exact ⟨a, b, d + 1, q, h1, h2, h3, h4, by rw [e2]; exact pk_us, h6, h7, by rw [ez, nI_clamp (by omega)]; omega, by omega⟩
  · obtain ⟨a1, b1, d1, q1, h1, h2, h3, h4, h5, h6, h7, h8, h9⟩ := h j hj
    exact ⟨a1, b1, d1, q1, h1, h2, h3, h4, by rw [e2, pk_un y]; exact h5, h6, h7, h8, h9⟩
