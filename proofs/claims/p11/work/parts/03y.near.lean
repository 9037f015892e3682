/-! ABOVE, NEAREST, DOUBT: what class and reference work out -/
def abF (fab : Nat → Int32) (cn : Nat) (n : Int32) : Int32 := if 0 ≤ n.toInt ∧ n.toInt < (cn : Int) then fab n.toNatClampNeg else 0
def hidF (ab : Nat → Int32) (nr : Int32) : Nat → Int32
  | 0 => 0
  | m + 1 => if bt nr m = true then hidF ab nr m ||| ab m else hidF ab nr m
theorem hid_t {ab : Nat → Int32} {nr : Int32} {k : Nat} (h : bt nr k = true) : hidF ab nr k ||| ab k = hidF ab nr (k + 1) := (if_pos h).symm
theorem hid_f {ab : Nat → Int32} {nr : Int32} {k : Nat} (h : bt nr k = false) : hidF ab nr k = hidF ab nr (k + 1) := (if_neg (by rw [h]; decide)).symm
def mskF (ab : Nat → Int32) (th : Int32) : Nat → Int32
  | 0 => th
  | m + 1 => if bt th m = true then mskF ab th m &&& (ab m ^^^ (-1)) else mskF ab th m
theorem msk_t {ab : Nat → Int32} {nr : Int32} {k : Nat} (h : bt nr k = true) : mskF ab nr k &&& (ab k ^^^ (-1)) = mskF ab nr (k + 1) := (if_pos h).symm
theorem msk_f {ab : Nat → Int32} {nr : Int32} {k : Nat} (h : bt nr k = false) : mskF ab nr k &&& (-1) = mskF ab nr (k + 1) := by rw [and_m1]; exact (if_neg (by rw [h]; decide)).symm
def nrC (ab : Nat → Int32) (kq : Nat) (o : Int32) : Int32 := (o &&& (ab kq ||| ((1 : Int32) <<< (nI kq &&& 31)))) &&& (hidF ab (o &&& (ab kq ||| ((1 : Int32) <<< (nI kq &&& 31)))) (kq + 1) ^^^ (-1))
def nrM (ab : Nat → Int32) (kn kq : Nat) (o : Int32) : Int32 := mskF ab ((ab kq ||| ((1 : Int32) <<< (nI kq &&& 31))) &&& o) kn
def cnt (P : Nat → Bool) : Nat → Nat
  | 0 => 0
  | n + 1 => cnt P n + (if P n = true then 1 else 0)
theorem cnt_le {P : Nat → Bool} : ∀ {n : Nat}, cnt P n ≤ n
  | 0 => Nat.le_refl 0
  | n + 1 => by
    have ih := cnt_le (P := P) (n := n)
    show cnt P n + (if P n = true then 1 else 0) ≤ n + 1
    split <;> omega
theorem cnt_congr {P Q : Nat → Bool} : ∀ {n : Nat}, (∀ i, i < n → P i = Q i) → cnt P n = cnt Q n
  | 0, _ => rfl
  | n + 1, h => by
    have ih := cnt_congr (P := P) (Q := Q) (n := n) (fun i hi => h i (by omega))
    show cnt P n + (if P n = true then 1 else 0) = cnt Q n + (if Q n = true then 1 else 0)
    rw [ih, h n (by omega)]
theorem ones_step {x ac : Int32} {k : Nat} (hk : k < 32) (h : ac = nI (cnt (fun i => bt x i) k)) : ac + ((x >>> (nI k &&& 31)) &&& 1) = nI (cnt (fun i => bt x i) (k + 1)) := by
  rw [h, and_1, b_shr0 hk]
  show _ = nI (cnt (fun i => bt x i) k + (if bt x k = true then 1 else 0))
  by_cases q : bt x k = true
  · rw [if_pos q, if_pos q]; exact nI_add _ 1
  · rw [if_neg q, if_neg q]; exact nI_add _ 0
/-- the JDK's count of bits, as it is written -/
def bcF (n : Int32) : Int32 :=
  let z1 : Int32 := n - ((n.toUInt32 >>> ((1 : Int32).toUInt32 &&& Int32.toUInt32 31)).toInt32 &&& 1431655765)
  let z2 : Int32 := (z1 &&& 858993459) + ((z1.toUInt32 >>> ((2 : Int32).toUInt32 &&& Int32.toUInt32 31)).toInt32 &&& 858993459)
  let z3 : Int32 := (z2 + (z2.toUInt32 >>> ((4 : Int32).toUInt32 &&& Int32.toUInt32 31)).toInt32) &&& 252645135
  let z4 : Int32 := z3 + (z3.toUInt32 >>> ((8 : Int32).toUInt32 &&& Int32.toUInt32 31)).toInt32
  let z5 : Int32 := z4 + (z4.toUInt32 >>> ((16 : Int32).toUInt32 &&& Int32.toUInt32 31)).toInt32
  z5 &&& 63
theorem bc_small : ∀ k, k < 1024 → bcF (nI k) = nI (cnt (fun i => k.testBit i) 10) := by decide +kernel
theorem bt_nI {k i : Nat} (hi : i < 32) : bt (nI k) i = k.testBit i := by
  show (BitVec.ofNat 32 k).getLsbD i = _
  rw [BitVec.getLsbD_ofNat, decide_eq_true hi, Bool.true_and]
theorem small_ex {r : Int32} {m : Nat} (hm : m ≤ 31) (h : ∀ i, m ≤ i → i < 32 → bt r i = false) : ∃ k, k < 2 ^ m ∧ r = nI k := by
  refine ⟨r.toBitVec.toNat, ?_, Int32.toBitVec_inj.mp (by show _ = BitVec.ofNat 32 _; simp)⟩
  apply Nat.lt_pow_two_of_testBit
  intro i hi
  rcases Nat.lt_or_ge i 32 with q | q
  · exact h i hi q
  · exact Nat.testBit_lt_two_pow (Nat.lt_of_lt_of_le r.toBitVec.isLt (Nat.pow_le_pow_right (by decide) q))
theorem bc_cnt {r : Int32} (h : ∀ i, 10 ≤ i → i < 32 → bt r i = false) : bcF r = nI (cnt (fun i => bt r i) 10) := by
  obtain ⟨k, hk, e⟩ := small_ex (m := 10) (by decide) h
  subst e
  rw [bc_small k hk]
  exact congrArg nI (cnt_congr (fun i hi => (bt_nI (by omega)).symm))
def dbC (ab : Nat → Int32) (cn : Nat) (o : Int32) : Int32 := bitsF (fun k => decide (2 ≤ (bcF (nrC ab k o)).toInt)) cn
def dbM (ab : Nat → Int32) (kn : Nat) (o : Int32) : Int32 := bitsF (fun k => decide (1 < cnt (fun i => bt (nrM ab kn k o) i) 10)) kn
def stF (ab : Nat → Int32) (o : Int32) : Nat → Int32
  | 0 => 0
  | m + 1 => if 2 ≤ (bcF (nrC ab m (o ||| stF ab o m))).toInt then stF ab o m ||| ((1 : Int32) <<< (nI m &&& 31)) else stF ab o m
def hvF (fnm : Nat → Int32) (kn nq : Nat) : Int32 := bitsF (fun k => bt (fnm k) nq) kn
def bsM (ab : Nat → Int32) (kn : Nat) (hv : Int32) : Nat → Int32
  | 0 => -6
  | s + 1 => if (nI s &&& hv) = 0 ∧ ((bsM ab kn hv s).toInt < 0 ∨ cnt (fun i => bt (nI s) i) 10 < cnt (fun i => bt (bsM ab kn hv s) i) 10) ∧ dbM ab kn (hv ||| nI s) = 0 then nI s else bsM ab kn hv s
def bocF (n v : Int32) : Int32 := if v = 0 then n else bcF n
def blF (ab : Nat → Int32) (cn kq : Nat) : Int32 := bitsF (fun o => bt (ab o) kq) cn
def F_near (cn : Nat) (r n v : Int32) : Int32 := if (0 ≤ n.toInt ∧ n.toInt < (cn : Int)) ∧ (0 ≤ v.toInt ∧ v.toInt ≤ 7) then r else -1
def F_nm (r n : Int32) : Int32 := if 0 ≤ n.toInt ∧ n.toInt ≤ 7 then r else -1
def F_settle (r c n v : Int32) : Int32 := if 0 ≤ n.toInt ∧ n.toInt ≤ 7 then (if v.toInt = 0 then r else if v.toInt = 1 then c else -2) else -1
def F_of (cn : Nat) (a b n v : Int32) : Int32 := if 0 ≤ n.toInt ∧ n.toInt < (cn : Int) then (if v.toInt = 0 then a else if v.toInt = 1 then b else -2) else -1
/-- a KIND's PARENTS as told; all ABOVE it -/
def par3 (a b c : Int32) (i : Nat) : Int32 := if i = 0 then a else if i = 1 then b else c
def abv (ab p : Nat → Int32) : Nat → Int32
  | 0 => 0
  | i + 1 => abv ab p i ||| (((1 : Int32) <<< (p i &&& 31)) ||| ab (p i).toNatClampNeg)
theorem arg_k {n : Int32} {k : Nat} (h : 0 ≤ n.toInt ∧ n.toInt < (k : Int)) : n.toNatClampNeg < k ∧ n = nI n.toNatClampNeg := by
  refine ⟨fx_cl h.1 h.2, ?_⟩
  obtain ⟨j, hj, e⟩ := fx_nat (x := n) h.1
  have q : n.toNatClampNeg = j := by rw [e]; exact nI_clamp hj
  rw [q]; exact e
theorem arg_n {n : Int32} (h : 0 ≤ n.toInt ∧ n.toInt ≤ 7) : n.toNatClampNeg < 8 ∧ n = nI n.toNatClampNeg := arg_k (k := 8) ⟨h.1, by omega⟩
theorem arg_nat {n : Int32} {k : Nat} (h : 0 ≤ n.toInt ∧ n.toInt < (k : Int)) : ∃ q : Nat, q < k ∧ n = nI q := ⟨_, (arg_k h).1, (arg_k h).2⟩
theorem pv_3 {a b c : Int32} {m cn : Nat} (hm : m ≤ 3) (h1 : 1 ≤ m → 0 ≤ a.toInt ∧ a.toInt < (cn : Int)) (h2 : 2 ≤ m → 0 ≤ b.toInt ∧ b.toInt < (cn : Int)) (h3 : 3 ≤ m → 0 ≤ c.toInt ∧ c.toInt < (cn : Int)) : ∀ i, i < m → 0 ≤ (par3 a b c i).toInt ∧ (par3 a b c i).toInt < (cn : Int) := by
  intro i hi
  rcases (by omega : i = 0 ∨ i = 1 ∨ i = 2) with rfl | rfl | rfl
  · exact h1 (by omega)
  · exact h2 (by omega)
  · exact h3 (by omega)
theorem p3_get {f f1 f2 f3 : Nat → Int32} {z : Nat} {a b c : Int32} (e1 : f1 = upd f z a) (e2 : f2 = upd f1 (z + 1) b) (e3 : f3 = upd f2 (z + 2) c) : ∀ i, i < 3 → f3 (z + i) = par3 a b c i := by
  intro i hi
  rcases (by omega : i = 0 ∨ i = 1 ∨ i = 2) with rfl | rfl | rfl
  · rw [e3, pk_un (by omega), e2, pk_un (by omega), e1]; exact pk_us
  · rw [e3, pk_un (by omega), e2, pk_us]; rfl
  · rw [e3, pk_us]; rfl
theorem p3_get0 {f f1 f2 f3 : Nat → Int32} {a b c : Int32} (e1 : f1 = upd f 0 a) (e2 : f2 = upd f1 1 b) (e3 : f3 = upd f2 2 c) : ∀ i, i < 3 → f3 i = par3 a b c i := by
  intro i hi
  rcases (by omega : i = 0 ∨ i = 1 ∨ i = 2) with rfl | rfl | rfl
  · rw [e3, pk_un (by omega), e2, pk_un (by omega), e1]; exact pk_us
  · rw [e3, pk_un (by omega), e2, pk_us]; rfl
  · rw [e3, pk_us]; rfl
theorem or_comm32 (x y : Int32) : x ||| y = y ||| x := b_ext (fun i _ => by rw [b_or, b_or, Bool.or_comm])
theorem ab_step {fab p fax f5 : Nat → Int32} {cn k q : Nat} (h : fax = upd fab cn (abv fab p k)) (e : p k = nI q) (hq : q < cn) (hc : cn ≤ 10) (e5 : f5 = upd fax cn (fax cn ||| (((1 : Int32) <<< (nI q &&& 31)) ||| fax q))) : f5 = upd fab cn (abv fab p (k + 1)) := by
  rw [e5, h, pk_us, pk_un (by omega)]
  funext j
  by_cases z : j = cn
  · subst z
    rw [pk_us, pk_us]
    show _ = abv fab p k ||| (((1 : Int32) <<< (p k &&& 31)) ||| fab (p k).toNatClampNeg)
    rw [e, nI_clamp (by omega)]
  · rw [pk_un z, pk_un z, pk_un z]
theorem ab_stepM {fab p fax f5 : Nat → Int32} {cn k q : Nat} (h : fax = upd fab cn (abv fab p k)) (e : p k = nI q) (hq : q < cn) (hc : cn ≤ 10) (e5 : f5 = upd fax cn (fax cn ||| (fax q ||| ((1 : Int32) <<< (nI q &&& 31))))) : f5 = upd fab cn (abv fab p (k + 1)) :=
  ab_step h e hq hc (by rw [e5, or_comm32 (fax q)])
