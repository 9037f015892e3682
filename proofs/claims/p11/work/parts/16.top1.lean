/-- which number kind answers, and how many KINDS there are behind it -/
def F_kind (k : Nat) (n a b d : Int32) : Int32 :=
  if 1 ≤ n.toInt ∧ ¬ (0 ≤ a.toInt ∧ a.toInt < (k : Int)) then -1 else
  if 2 ≤ n.toInt ∧ (¬ (0 ≤ b.toInt ∧ b.toInt < (k : Int)) ∨ b.toInt = a.toInt) then -1 else
  if 3 ≤ n.toInt ∧ (¬ (0 ≤ d.toInt ∧ d.toInt < (k : Int)) ∨ d.toInt = a.toInt ∨ d.toInt = b.toInt) then -1 else
  if n.toInt < 0 ∨ 3 < n.toInt then -2 else if 10 ≤ k then -4 else nI k
def K_next (k : Nat) (n a b d : Int32) : Nat := if (F_kind k n a b d).toInt < 0 then k else k + 1
theorem K_no {k : Nat} {n a b d v : Int32} (h : v = F_kind k n a b d) (hv : v.toInt < 0) : k = K_next k n a b d := by
  unfold K_next; rw [← h, if_pos hv]
theorem K_yes {k : Nat} {n a b d : Int32} (h : nI k = F_kind k n a b d) (hk : k < 10) : k + 1 = K_next k n a b d := by
  unfold K_next; rw [← h, if_neg (by rw [nI_toInt (by omega)]; omega)]
def F_call (k q : Nat) (n a : Int32) : Int32 :=
  if n.toInt < 0 ∨ 3 < n.toInt ∨ ¬ (0 ≤ a.toInt ∧ a.toInt < (k : Int)) then -1 else if 40 ≤ q then -4 else nI (q + 1)
def Q_next (k q : Nat) (n a : Int32) : Nat := if (F_call k q n a).toInt < 0 then q else q + 1
theorem Q_no {k q : Nat} {n a v : Int32} (h : v = F_call k q n a) (hv : v.toInt < 0) : q = Q_next k q n a := by
  unfold Q_next; rw [← h, if_pos hv]
theorem Q_yes {k q : Nat} {n a : Int32} (h : nI (q + 1) = F_call k q n a) (hq : q < 40) : q + 1 = Q_next k q n a := by
  unfold Q_next; rw [← h, if_neg (by rw [nI_toInt (by omega)]; omega)]
def F_size (f : Nat → Int32) (n v : Int32) : Int32 :=
  if n.toInt < 0 ∨ 3 < n.toInt then -1 else if v.toInt < 1 ∨ 4 < v.toInt then -2 else f n.toNatClampNeg
def S_next (f : Nat → Int32) (n v : Int32) : Nat → Int32 :=
  if n.toInt < 0 ∨ 3 < n.toInt then f else if v.toInt < 1 ∨ 4 < v.toInt then f else upd f n.toNatClampNeg v
def KcX (k : Nat) (ll ln lq ll2 ln2 lq2 : Nat → Int32) (n a b d : Int32) : Prop := ((F_kind k n a b d).toInt < 0 ∧ ll2 = ll ∧ ln2 = ln ∧ lq2 = lq) ∨ (¬ (F_kind k n a b d).toInt < 0 ∧ KC k ll ln lq ll2 ln2 lq2 (par3 a b d) n.toNatClampNeg)
def KmX (k : Nat) (ll ln lq ll2 ln2 lq2 : Nat → Int32) (n a b d : Int32) : Prop := ((F_kind k n a b d).toInt < 0 ∧ ll2 = ll ∧ ln2 = ln ∧ lq2 = lq) ∨ (¬ (F_kind k n a b d).toInt < 0 ∧ KM k ll ln lq ll2 ln2 lq2 (par3 a b d) n.toNatClampNeg)
theorem kx_no {k : Nat} {ll ln lq : Nat → Int32} {n a b d v : Int32} (h : v = F_kind k n a b d) (hv : v.toInt < 0) : KcX k ll ln lq ll ln lq n a b d := Or.inl ⟨by rw [← h]; exact hv, rfl, rfl, rfl⟩
theorem km_no {k : Nat} {ll ln lq : Nat → Int32} {n a b d v : Int32} (h : v = F_kind k n a b d) (hv : v.toInt < 0) : KmX k ll ln lq ll ln lq n a b d := Or.inl ⟨by rw [← h]; exact hv, rfl, rfl, rfl⟩
theorem kx_yes {k m : Nat} {ll ln lq ll2 ln2 lq2 : Nat → Int32} {n a b d : Int32} (h : nI k = F_kind k n a b d) (hk : k < 10) (hn : n.toNatClampNeg = m) (hc : KC k ll ln lq ll2 ln2 lq2 (par3 a b d) m) : KcX k ll ln lq ll2 ln2 lq2 n a b d := Or.inr ⟨by rw [← h, nI_toInt (by omega)]; omega, by rw [hn]; exact hc⟩
theorem km_yes {k m : Nat} {ll ln lq ll2 ln2 lq2 : Nat → Int32} {n a b d : Int32} (h : nI k = F_kind k n a b d) (hk : k < 10) (hn : n.toNatClampNeg = m) (hc : KM k ll ln lq ll2 ln2 lq2 (par3 a b d) m) : KmX k ll ln lq ll2 ln2 lq2 n a b d := Or.inr ⟨by rw [← h, nI_toInt (by omega)]; omega, by rw [hn]; exact hc⟩
def KA_next (k : Nat) (f : Nat → Int32) (n a b d : Int32) : Nat → Int32 := if (F_kind k n a b d).toInt < 0 then f else upd f k (abv f (par3 a b d) n.toNatClampNeg)
theorem KA_no {k : Nat} {f : Nat → Int32} {n a b d v : Int32} (h : v = F_kind k n a b d) (hv : v.toInt < 0) : f = KA_next k f n a b d := by
  unfold KA_next; rw [← h, if_pos hv]
theorem KA_yes {k m : Nat} {f g : Nat → Int32} {n a b d : Int32} (h : nI k = F_kind k n a b d) (hk : k < 10) (hn : n.toNatClampNeg = m) (e : g = upd f k (abv f (par3 a b d) m)) : g = KA_next k f n a b d := by
  unfold KA_next; rw [← h, if_neg (by rw [nI_toInt (by omega)]; omega), hn]; exact e
def KB_next (k : Nat) (f : Nat → Int32) (n a b d : Int32) : Nat → Int32 := if (F_kind k n a b d).toInt < 0 then f else upd f k 0
theorem KB_no {k : Nat} {f : Nat → Int32} {n a b d v : Int32} (h : v = F_kind k n a b d) (hv : v.toInt < 0) : f = KB_next k f n a b d := by
  unfold KB_next; rw [← h, if_pos hv]
theorem KB_yes {k : Nat} {f g : Nat → Int32} {n a b d : Int32} (h : nI k = F_kind k n a b d) (hk : k < 10) (e : g = upd f k (vp_nar .boolean 0)) : g = KB_next k f n a b d := by
  unfold KB_next; rw [← h, if_neg (by rw [nI_toInt (by omega)]; omega)]; exact e
def F_bare (cn : Nat) (bb n : Int32) : Int32 := if 0 ≤ n.toInt ∧ n.toInt < (cn : Int) then (if bt bb n.toNatClampNeg = true then 1 else 0) else -1
def B_next (cn : Nat) (bb n v : Int32) : Int32 := if 0 ≤ n.toInt ∧ n.toInt < (cn : Int) then sbF bb n.toNatClampNeg v else bb
def FM_bare (kn : Nat) (fib : Nat → Int32) (n : Int32) : Int32 := if 0 ≤ n.toInt ∧ n.toInt < (kn : Int) then (if fib n.toNatClampNeg = 0 then 0 else 1) else -1
def MB_next (kn : Nat) (fib : Nat → Int32) (n v : Int32) : Nat → Int32 := if 0 ≤ n.toInt ∧ n.toInt < (kn : Int) then upd fib n.toNatClampNeg (vp_nar .boolean v) else fib
def F_say (pn : Nat) (n : Int32) : Int32 := if n.toInt < 33 ∨ 126 < n.toInt then -2 else if 12 ≤ pn then -4 else nI (pn + 1)
def P_say (pn : Nat) (n : Int32) : Nat := if n.toInt < 33 ∨ 126 < n.toInt then pn else if 12 ≤ pn then pn else pn + 1
def PS_say (pn : Nat) (f : Nat → Int32) (n : Int32) : Nat → Int32 := if n.toInt < 33 ∨ 126 < n.toInt then f else if 12 ≤ pn then f else upd f pn n
def HasG (cn : Nat) (ft n v : Int32) : Prop := (0 ≤ n.toInt ∧ n.toInt < (cn : Int)) ∧ (0 ≤ v.toInt ∧ v.toInt ≤ 7) ∧ ft.toInt = -6
def F_has (cn : Nat) (ft : Int32) (ow : Bool) (n v : Int32) : Int32 := if (0 ≤ n.toInt ∧ n.toInt < (cn : Int)) ∧ (0 ≤ v.toInt ∧ v.toInt ≤ 7) then (if ft.toInt = -6 then (if ow = true then 0 else 1) else -5) else -1
def DropG (cn : Nat) (ow : Bool) (n v : Int32) : Prop := (0 ≤ n.toInt ∧ n.toInt < (cn : Int)) ∧ (0 ≤ v.toInt ∧ v.toInt ≤ 7) ∧ ow = true
def F_drop (cn : Nat) (ow : Bool) (z n v : Int32) : Int32 := if (0 ≤ n.toInt ∧ n.toInt < (cn : Int)) ∧ (0 ≤ v.toInt ∧ v.toInt ≤ 7) then (if ow = true then z else -5) else -1
def F_told (c p q : Int32) (nm : Nat → Int32) (br : Nat → Bool) (w : Int32) : Int32 :=
  if w.toInt = 0 then c else if w.toInt = 1 then p else if w.toInt = 2 then q else
  if 10 ≤ w.toInt ∧ w.toInt ≤ 19 then nm (w.toInt - 10).toNat else
  if 20 ≤ w.toInt ∧ w.toInt ≤ 29 then (if br (w.toInt - 20).toNat = true then 1 else 0) else -2
theorem mw_1_174 : Cond.laysFinal RX8 "AnswerLines" "kinds" "LAnswerLines$Kinds;" ∈ BG := mB (t1 (i := 174) (by decide +kernel)) (by decide +kernel)
theorem mw_1_176 : Cond.laysFinal RX8 "AnswerLines" "pad" "LAnswerLines$Pad;" ∈ BG := mB (t1 (i := 176) (by decide +kernel)) (by decide +kernel)
theorem mw_1_178 : Cond.laysFinal RX8 "AnswerLines" "bodies" "LAnswerLines$Bodies;" ∈ BG := mB (t1 (i := 178) (by decide +kernel)) (by decide +kernel)
theorem mw_1_180 : Cond.laysFinal RX8 "AnswerLines" "runner" "LAnswerLines$Runner;" ∈ BG := mB (t1 (i := 180) (by decide +kernel)) (by decide +kernel)
theorem mw_1_182 : Cond.laysFinal RX8 "AnswerLines" "table" "LAnswerLines$Table;" ∈ BG := mB (t1 (i := 182) (by decide +kernel)) (by decide +kernel)
theorem mw_1_184 : Cond.laysFinal RX8 "AnswerLines" "places" "LAnswerLines$Places;" ∈ BG := mB (t1 (i := 184) (by decide +kernel)) (by decide +kernel)
theorem inB_8 : ∀ w ∈ u_ws RX8 TX8 6, w ∈ BG := fun w hw => by
  obtain ⟨k, hk, rfl⟩ := List.mem_map.mp hw
  have hk := List.mem_range.mp hk
  rcases (by omega : k = 0 ∨ k = 1 ∨ k = 2 ∨ k = 3 ∨ k = 4 ∨ k = 5) with rfl | rfl | rfl | rfl | rfl | rfl
  · exact mw_1_174
  · exact mw_1_176
  · exact mw_1_178
  · exact mw_1_180
  · exact mw_1_182
  · exact mw_1_184
theorem mw_1_168 : Cond.fieldLink RX8 10 "AnswerLines" "kinds" "LAnswerLines$Kinds;" ∈ BG := mB (t1 (i := 168) (by decide +kernel)) (by decide +kernel)
theorem mw_1_195 : Cond.methodLink RX8 55 yX1_isFull ∈ BG := mB (t1 (i := 195) (by decide +kernel)) (by decide +kernel)
theorem mw_1_202 : Cond.code yX1_add cX1_add 8 (some .int) ∈ BG := mB (t1 (i := 202) rfl) (by decide +kernel)
theorem mw_1_199 : Cond.methodLink RX8 59 yX1_add ∈ BG := mB (t1 (i := 199) (by decide +kernel)) (by decide +kernel)
theorem mw_1_200 : Cond.instanceMethod yX1_add ∈ BG := mB (t1 (i := 200) (by decide +kernel)) (by decide +kernel)
theorem mw_1_201 : Cond.selects RX1 yX1_add yX1_add ∈ BG := mB (t1 (i := 201) (by decide +kernel)) (by decide +kernel)
theorem mw_1_191 : Cond.methodLink RX8 51 yX1_knows ∈ BG := mB (t1 (i := 191) (by decide +kernel)) (by decide +kernel)
theorem mw_2_28 : Cond.methodLink RX8 63 yX1_isBare ∈ BG := mB (t2 (i := 28) (by decide +kernel)) (by decide +kernel)
theorem mw_2_36 : Cond.code yX1_setBare cX1_setBare 3 none ∈ BG := mB (t2 (i := 36) rfl) (by decide +kernel)
theorem mw_2_33 : Cond.methodLink RX8 66 yX1_setBare ∈ BG := mB (t2 (i := 33) (by decide +kernel)) (by decide +kernel)
theorem mw_2_34 : Cond.instanceMethod yX1_setBare ∈ BG := mB (t2 (i := 34) (by decide +kernel)) (by decide +kernel)
theorem mw_2_35 : Cond.selects RX1 yX1_setBare yX1_setBare ∈ BG := mB (t2 (i := 35) (by decide +kernel)) (by decide +kernel)
theorem mw_2_42 : Cond.methodLink RX8 74 yX1_belowOf ∈ BG := mB (t2 (i := 42) (by decide +kernel)) (by decide +kernel)
theorem mw_2_41 : Cond.methodLink RX8 70 yX1_aboveOf ∈ BG := mB (t2 (i := 41) (by decide +kernel)) (by decide +kernel)
theorem mw_2_50 : Cond.methodLink RX8 77 yX1_isLaid ∈ BG := mB (t2 (i := 50) (by decide +kernel)) (by decide +kernel)
theorem mw_2_52 : Cond.methodLink RX8 83 yX1_inLine ∈ BG := mB (t2 (i := 52) (by decide +kernel)) (by decide +kernel)
theorem mw_2_51 : Cond.methodLink RX8 80 yX1_lengthOf ∈ BG := mB (t2 (i := 51) (by decide +kernel)) (by decide +kernel)
theorem mw_2_60 : Cond.code yX1_quarrelOf cX1_quarrelOf 2 (some .int) ∈ BG := mB (t2 (i := 60) rfl) (by decide +kernel)
theorem mw_2_57 : Cond.methodLink RX8 87 yX1_quarrelOf ∈ BG := mB (t2 (i := 57) (by decide +kernel)) (by decide +kernel)
theorem mw_2_58 : Cond.instanceMethod yX1_quarrelOf ∈ BG := mB (t2 (i := 58) (by decide +kernel)) (by decide +kernel)
theorem mw_2_59 : Cond.selects RX1 yX1_quarrelOf yX1_quarrelOf ∈ BG := mB (t2 (i := 59) (by decide +kernel)) (by decide +kernel)
theorem dX8_kind_0 : decode cX8_kind 0 = .ok (.iload_n 1, 1) := by decide +kernel
theorem dX8_kind_1 : decode cX8_kind 1 = .ok (.iconst 1, 1) := by decide +kernel
theorem dX8_kind_2 : decode cX8_kind 2 = .ok (.if_icmp .lt 16, 3) := by decide +kernel
theorem dX8_kind_18 : decode cX8_kind 18 = .ok (.iload_n 1, 1) := by decide +kernel
theorem dX8_kind_19 : decode cX8_kind 19 = .ok (.iconst 2, 1) := by decide +kernel
theorem dX8_kind_20 : decode cX8_kind 20 = .ok (.if_icmp .lt 21, 3) := by decide +kernel
theorem dX8_kind_41 : decode cX8_kind 41 = .ok (.iload_n 1, 1) := by decide +kernel
theorem dX8_kind_42 : decode cX8_kind 42 = .ok (.iconst 3, 1) := by decide +kernel
theorem dX8_kind_43 : decode cX8_kind 43 = .ok (.if_icmp .lt 29, 3) := by decide +kernel
theorem dX8_kind_72 : decode cX8_kind 72 = .ok (.iload_n 1, 1) := by decide +kernel
theorem dX8_kind_73 : decode cX8_kind 73 = .ok (.ifCond .lt 8, 3) := by decide +kernel
theorem dX8_kind_81 : decode cX8_kind 81 = .ok (.bipush (-2), 2) := by decide +kernel
theorem dX8_kind_83 : decode cX8_kind 83 = .ok (.ireturn, 1) := by decide +kernel
theorem dX8_kind_76 : decode cX8_kind 76 = .ok (.iload_n 1, 1) := by decide +kernel
theorem dX8_kind_77 : decode cX8_kind 77 = .ok (.iconst 3, 1) := by decide +kernel
theorem dX8_kind_78 : decode cX8_kind 78 = .ok (.if_icmp .le 6, 3) := by decide +kernel
theorem dX8_kind_84 : decode cX8_kind 84 = .ok (.aload_n 0, 1) := by decide +kernel
theorem dX8_kind_85 : decode cX8_kind 85 = .ok (.getfield 10, 3) := by decide +kernel
theorem dX8_kind_88 : decode cX8_kind 88 = .ok (.invokevirtual 55, 3) := by decide +kernel
theorem dX8_kind_91 : decode cX8_kind 91 = .ok (.ifCond .eq 6, 3) := by decide +kernel
theorem dX8_kind_94 : decode cX8_kind 94 = .ok (.bipush (-4), 2) := by decide +kernel
theorem dX8_kind_96 : decode cX8_kind 96 = .ok (.ireturn, 1) := by decide +kernel
theorem dX8_kind_97 : decode cX8_kind 97 = .ok (.aload_n 0, 1) := by decide +kernel
theorem dX8_kind_98 : decode cX8_kind 98 = .ok (.getfield 10, 3) := by decide +kernel
theorem dX8_kind_101 : decode cX8_kind 101 = .ok (.iload_n 1, 1) := by decide +kernel
theorem dX8_kind_102 : decode cX8_kind 102 = .ok (.iload_n 2, 1) := by decide +kernel
theorem dX8_kind_103 : decode cX8_kind 103 = .ok (.iload_n 3, 1) := by decide +kernel
theorem dX8_kind_104 : decode cX8_kind 104 = .ok (.iload 4, 2) := by decide +kernel
theorem dX8_kind_106 : decode cX8_kind 106 = .ok (.invokevirtual 59, 3) := by decide +kernel
theorem dX8_kind_109 : decode cX8_kind 109 = .ok (.ireturn, 1) := by decide +kernel
theorem dX8_kind_5 : decode cX8_kind 5 = .ok (.aload_n 0, 1) := by decide +kernel
theorem dX8_kind_6 : decode cX8_kind 6 = .ok (.getfield 10, 3) := by decide +kernel
theorem dX8_kind_9 : decode cX8_kind 9 = .ok (.iload_n 2, 1) := by decide +kernel
theorem dX8_kind_10 : decode cX8_kind 10 = .ok (.invokevirtual 51, 3) := by decide +kernel
theorem dX8_kind_13 : decode cX8_kind 13 = .ok (.ifCond .ne 5, 3) := by decide +kernel
theorem dX8_kind_23 : decode cX8_kind 23 = .ok (.aload_n 0, 1) := by decide +kernel
theorem dX8_kind_24 : decode cX8_kind 24 = .ok (.getfield 10, 3) := by decide +kernel
theorem dX8_kind_27 : decode cX8_kind 27 = .ok (.iload_n 3, 1) := by decide +kernel
theorem dX8_kind_28 : decode cX8_kind 28 = .ok (.invokevirtual 51, 3) := by decide +kernel
theorem dX8_kind_31 : decode cX8_kind 31 = .ok (.ifCond .eq 8, 3) := by decide +kernel
theorem dX8_kind_34 : decode cX8_kind 34 = .ok (.iload_n 3, 1) := by decide +kernel
theorem dX8_kind_35 : decode cX8_kind 35 = .ok (.iload_n 2, 1) := by decide +kernel
theorem dX8_kind_36 : decode cX8_kind 36 = .ok (.if_icmp .ne 5, 3) := by decide +kernel
theorem dX8_kind_46 : decode cX8_kind 46 = .ok (.aload_n 0, 1) := by decide +kernel
theorem dX8_kind_47 : decode cX8_kind 47 = .ok (.getfield 10, 3) := by decide +kernel
theorem dX8_kind_50 : decode cX8_kind 50 = .ok (.iload 4, 2) := by decide +kernel
theorem dX8_kind_52 : decode cX8_kind 52 = .ok (.invokevirtual 51, 3) := by decide +kernel
theorem dX8_kind_55 : decode cX8_kind 55 = .ok (.ifCond .eq 15, 3) := by decide +kernel
theorem dX8_kind_58 : decode cX8_kind 58 = .ok (.iload 4, 2) := by decide +kernel
theorem dX8_kind_60 : decode cX8_kind 60 = .ok (.iload_n 2, 1) := by decide +kernel
theorem dX8_kind_61 : decode cX8_kind 61 = .ok (.if_icmp .eq 9, 3) := by decide +kernel
theorem dX8_kind_70 : decode cX8_kind 70 = .ok (.iconst (-1), 1) := by decide +kernel
theorem dX8_kind_71 : decode cX8_kind 71 = .ok (.ireturn, 1) := by decide +kernel
theorem dX8_kind_64 : decode cX8_kind 64 = .ok (.iload 4, 2) := by decide +kernel
theorem dX8_kind_66 : decode cX8_kind 66 = .ok (.iload_n 3, 1) := by decide +kernel
theorem dX8_kind_67 : decode cX8_kind 67 = .ok (.if_icmp .ne 5, 3) := by decide +kernel
theorem dX8_kind_39 : decode cX8_kind 39 = .ok (.iconst (-1), 1) := by decide +kernel
theorem dX8_kind_40 : decode cX8_kind 40 = .ok (.ireturn, 1) := by decide +kernel
theorem dX8_kind_16 : decode cX8_kind 16 = .ok (.iconst (-1), 1) := by decide +kernel
theorem dX8_kind_17 : decode cX8_kind 17 = .ok (.ireturn, 1) := by decide +kernel
theorem dX8_bare_0 : decode cX8_bare 0 = .ok (.aload_n 0, 1) := by decide +kernel
theorem dX8_bare_1 : decode cX8_bare 1 = .ok (.getfield 10, 3) := by decide +kernel
theorem dX8_bare_4 : decode cX8_bare 4 = .ok (.iload_n 1, 1) := by decide +kernel
theorem dX8_bare_5 : decode cX8_bare 5 = .ok (.invokevirtual 51, 3) := by decide +kernel
theorem dX8_bare_8 : decode cX8_bare 8 = .ok (.ifCond .ne 5, 3) := by decide +kernel
theorem dX8_bare_13 : decode cX8_bare 13 = .ok (.aload_n 0, 1) := by decide +kernel
theorem dX8_bare_14 : decode cX8_bare 14 = .ok (.getfield 10, 3) := by decide +kernel
theorem dX8_bare_17 : decode cX8_bare 17 = .ok (.iload_n 1, 1) := by decide +kernel
theorem dX8_bare_18 : decode cX8_bare 18 = .ok (.invokevirtual 63, 3) := by decide +kernel
theorem dX8_bare_21 : decode cX8_bare 21 = .ok (.ifCond .eq 7, 3) := by decide +kernel
theorem dX8_bare_24 : decode cX8_bare 24 = .ok (.iconst 1, 1) := by decide +kernel
theorem dX8_bare_25 : decode cX8_bare 25 = .ok (.goto 4, 3) := by decide +kernel
theorem dX8_bare_29 : decode cX8_bare 29 = .ok (.istore_n 3, 1) := by decide +kernel
theorem dX8_bare_30 : decode cX8_bare 30 = .ok (.aload_n 0, 1) := by decide +kernel
theorem dX8_bare_31 : decode cX8_bare 31 = .ok (.getfield 10, 3) := by decide +kernel
theorem dX8_bare_34 : decode cX8_bare 34 = .ok (.iload_n 1, 1) := by decide +kernel
theorem dX8_bare_35 : decode cX8_bare 35 = .ok (.iload_n 2, 1) := by decide +kernel
theorem dX8_bare_36 : decode cX8_bare 36 = .ok (.invokevirtual 66, 3) := by decide +kernel
theorem dX8_bare_39 : decode cX8_bare 39 = .ok (.iload_n 3, 1) := by decide +kernel
theorem dX8_bare_40 : decode cX8_bare 40 = .ok (.ireturn, 1) := by decide +kernel
theorem dX8_bare_28 : decode cX8_bare 28 = .ok (.iconst 0, 1) := by decide +kernel
theorem dX8_bare_11 : decode cX8_bare 11 = .ok (.iconst (-1), 1) := by decide +kernel
theorem dX8_bare_12 : decode cX8_bare 12 = .ok (.ireturn, 1) := by decide +kernel
theorem dX8_of_0 : decode cX8_of 0 = .ok (.aload_n 0, 1) := by decide +kernel
theorem dX8_of_1 : decode cX8_of 1 = .ok (.getfield 10, 3) := by decide +kernel
theorem dX8_of_4 : decode cX8_of 4 = .ok (.iload_n 1, 1) := by decide +kernel
theorem dX8_of_5 : decode cX8_of 5 = .ok (.invokevirtual 51, 3) := by decide +kernel
theorem dX8_of_8 : decode cX8_of 8 = .ok (.ifCond .ne 5, 3) := by decide +kernel
theorem dX8_of_13 : decode cX8_of 13 = .ok (.iload_n 2, 1) := by decide +kernel
theorem dX8_of_14 : decode cX8_of 14 = .ok (.ifCond .ne 12, 3) := by decide +kernel
theorem dX8_of_26 : decode cX8_of 26 = .ok (.iload_n 2, 1) := by decide +kernel
theorem dX8_of_27 : decode cX8_of 27 = .ok (.iconst 1, 1) := by decide +kernel
theorem dX8_of_28 : decode cX8_of 28 = .ok (.if_icmp .ne 12, 3) := by decide +kernel
theorem dX8_of_40 : decode cX8_of 40 = .ok (.bipush (-2), 2) := by decide +kernel
theorem dX8_of_42 : decode cX8_of 42 = .ok (.ireturn, 1) := by decide +kernel
theorem dX8_of_31 : decode cX8_of 31 = .ok (.aload_n 0, 1) := by decide +kernel
theorem dX8_of_32 : decode cX8_of 32 = .ok (.getfield 10, 3) := by decide +kernel
theorem dX8_of_35 : decode cX8_of 35 = .ok (.iload_n 1, 1) := by decide +kernel
theorem dX8_of_36 : decode cX8_of 36 = .ok (.invokevirtual 74, 3) := by decide +kernel
theorem dX8_of_39 : decode cX8_of 39 = .ok (.ireturn, 1) := by decide +kernel
theorem dX8_of_17 : decode cX8_of 17 = .ok (.aload_n 0, 1) := by decide +kernel
theorem dX8_of_18 : decode cX8_of 18 = .ok (.getfield 10, 3) := by decide +kernel
theorem dX8_of_21 : decode cX8_of 21 = .ok (.iload_n 1, 1) := by decide +kernel
theorem dX8_of_22 : decode cX8_of 22 = .ok (.invokevirtual 70, 3) := by decide +kernel
theorem dX8_of_25 : decode cX8_of 25 = .ok (.ireturn, 1) := by decide +kernel
theorem dX8_of_11 : decode cX8_of 11 = .ok (.iconst (-1), 1) := by decide +kernel
theorem dX8_of_12 : decode cX8_of 12 = .ok (.ireturn, 1) := by decide +kernel
theorem dX8_line_0 : decode cX8_line 0 = .ok (.aload_n 0, 1) := by decide +kernel
theorem dX8_line_1 : decode cX8_line 1 = .ok (.getfield 10, 3) := by decide +kernel
theorem dX8_line_4 : decode cX8_line 4 = .ok (.iload_n 1, 1) := by decide +kernel
theorem dX8_line_5 : decode cX8_line 5 = .ok (.invokevirtual 51, 3) := by decide +kernel
theorem dX8_line_8 : decode cX8_line 8 = .ok (.ifCond .ne 5, 3) := by decide +kernel
theorem dX8_line_13 : decode cX8_line 13 = .ok (.aload_n 0, 1) := by decide +kernel
theorem dX8_line_14 : decode cX8_line 14 = .ok (.getfield 10, 3) := by decide +kernel
theorem dX8_line_17 : decode cX8_line 17 = .ok (.iload_n 1, 1) := by decide +kernel
theorem dX8_line_18 : decode cX8_line 18 = .ok (.invokevirtual 77, 3) := by decide +kernel
theorem dX8_line_21 : decode cX8_line 21 = .ok (.ifCond .ne 6, 3) := by decide +kernel
theorem dX8_line_27 : decode cX8_line 27 = .ok (.iload_n 2, 1) := by decide +kernel
theorem dX8_line_28 : decode cX8_line 28 = .ok (.iconst (-1), 1) := by decide +kernel
theorem dX8_line_29 : decode cX8_line 29 = .ok (.if_icmp .ne 12, 3) := by decide +kernel
theorem dX8_line_41 : decode cX8_line 41 = .ok (.aload_n 0, 1) := by decide +kernel
theorem dX8_line_42 : decode cX8_line 42 = .ok (.getfield 10, 3) := by decide +kernel
theorem dX8_line_45 : decode cX8_line 45 = .ok (.iload_n 1, 1) := by decide +kernel
theorem dX8_line_46 : decode cX8_line 46 = .ok (.iload_n 2, 1) := by decide +kernel
theorem dX8_line_47 : decode cX8_line 47 = .ok (.invokevirtual 83, 3) := by decide +kernel
theorem dX8_line_50 : decode cX8_line 50 = .ok (.ireturn, 1) := by decide +kernel
theorem dX8_line_32 : decode cX8_line 32 = .ok (.aload_n 0, 1) := by decide +kernel
theorem dX8_line_33 : decode cX8_line 33 = .ok (.getfield 10, 3) := by decide +kernel
theorem dX8_line_36 : decode cX8_line 36 = .ok (.iload_n 1, 1) := by decide +kernel
theorem dX8_line_37 : decode cX8_line 37 = .ok (.invokevirtual 80, 3) := by decide +kernel
theorem dX8_line_40 : decode cX8_line 40 = .ok (.ireturn, 1) := by decide +kernel
theorem dX8_line_24 : decode cX8_line 24 = .ok (.bipush (-3), 2) := by decide +kernel
theorem dX8_line_26 : decode cX8_line 26 = .ok (.ireturn, 1) := by decide +kernel
theorem dX8_line_11 : decode cX8_line 11 = .ok (.iconst (-1), 1) := by decide +kernel
theorem dX8_line_12 : decode cX8_line 12 = .ok (.ireturn, 1) := by decide +kernel
theorem dX8_quarrel_0 : decode cX8_quarrel 0 = .ok (.aload_n 0, 1) := by decide +kernel
theorem dX8_quarrel_1 : decode cX8_quarrel 1 = .ok (.getfield 10, 3) := by decide +kernel
theorem dX8_quarrel_4 : decode cX8_quarrel 4 = .ok (.iload_n 1, 1) := by decide +kernel
theorem dX8_quarrel_5 : decode cX8_quarrel 5 = .ok (.invokevirtual 51, 3) := by decide +kernel
theorem dX8_quarrel_8 : decode cX8_quarrel 8 = .ok (.ifCond .ne 5, 3) := by decide +kernel
theorem dX8_quarrel_13 : decode cX8_quarrel 13 = .ok (.aload_n 0, 1) := by decide +kernel
theorem dX8_quarrel_14 : decode cX8_quarrel 14 = .ok (.getfield 10, 3) := by decide +kernel
theorem dX8_quarrel_17 : decode cX8_quarrel 17 = .ok (.iload_n 1, 1) := by decide +kernel
theorem dX8_quarrel_18 : decode cX8_quarrel 18 = .ok (.invokevirtual 87, 3) := by decide +kernel
theorem dX8_quarrel_21 : decode cX8_quarrel 21 = .ok (.ireturn, 1) := by decide +kernel
theorem dX8_quarrel_11 : decode cX8_quarrel 11 = .ok (.iconst (-1), 1) := by decide +kernel
theorem dX8_quarrel_12 : decode cX8_quarrel 12 = .ok (.ireturn, 1) := by decide +kernel
set_option maxHeartbeats 4000000 in
set_option maxRecDepth 100000 in
theorem x_kind (l : Launch) (dC : Nat → ClassId) (dI : Nat → Nat → Nat) (sz : Nat) (h0 : Nat) (p1 : Nat) (u1 : Value) (u2 : Value) (u3 : Value) (u4 : Value) (u5 : Value) (b0 : Nat) (b1 : Nat) (b2 : Nat) (b3 : Nat) (b4 : Nat) (r0 : Nat) (cn : Nat) (bb : Int32) (kb0 : ClassId) (fab : Nat → Int32) (kb1 : ClassId) (fle : Nat → Int32) (kb2 : ClassId) (fqu : Nat → Int32) (kb3 : ClassId) (fli : Nat → Int32) (kb4 : ClassId) (fpa : Nat → Int32) (g0 : Nat) (g1 : Nat) (g2 : Nat) (rc : Int32) (kg0 : ClassId) (fc : Nat → Int32) (kg1 : ClassId) (fh : Nat → Int32) (kg2 : ClassId) (fl : Nat → Int32) (n1 : Int32) (n2 : Int32) (n3 : Int32) (n4 : Int32) (hc : cn ≤ 10) (hle : BdOk 10 10 fle) (hfh : BdOk 4 10 fh) (hfl : BdOk 4 10 fl) (hlk : LnOk fle fli cn) : Met l yX8_kind (wq yX8_kind cX8_kind 5 (some .int)) ({ frames := 6, cells := 0, slots := 0, locals := 140 }) (va_Pc [.ref h0, .int n1, .int n2, .int n3, .int n4] (pcW dC dI [(kb0, .int), (kb1, .int), (kb2, .int), (kb3, .int), (kb4, .int), (kg0, .int), (kg1, .int), (kg2, .int)] [(h0, .inr (7, [.ref p1, u1, u2, u3, u4, u5])), (p1, .inr (1, [.ref b0, .ref b1, .ref b2, .ref b3, .ref b4, .ref r0, .int (nI cn), .int bb])), (b0, .inl (kb0, 10, .inl fab)), (b1, .inl (kb1, 10, .inl fle)), (b2, .inl (kb2, 10, .inl fqu)), (b3, .inl (kb3, 100, .inl fli)), (b4, .inl (kb4, 3, .inl fpa)), (r0, .inr (4, [.ref g0, .ref g1, .ref g2, .int rc])), (g0, .inl (kg0, 40, .inl fc)), (g1, .inl (kg1, 4, .inl fh)), (g2, .inl (kg2, 4, .inl fl))] sz)) (va_Qi (fun (r : Int32) (_ : Unit) => r = F_kind cn n1 n2 n3 n4) (fun _ t => ∃ (cn2 : Nat) (fab2 : Nat → Int32) (fle2 : Nat → Int32) (fqu2 : Nat → Int32) (fli2 : Nat → Int32) (fpa2 : Nat → Int32) (rc2 : Int32) (fc2 : Nat → Int32) (fh2 : Nat → Int32) (fl2 : Nat → Int32), (cn2 = K_next cn n1 n2 n3 n4) ∧ (fab2 = KA_next cn fab n1 n2 n3 n4) ∧ (KcX cn fle fli fqu fle2 fli2 fqu2 n1 n2 n3 n4) ∧ (cn2 ≤ 10) ∧ (BdOk 10 10 fle2) ∧ (BdOk 4 10 fh2) ∧ (BdOk 4 10 fl2) ∧ va_P (dC, dI) vwCl [(h0, .inr (7, [.ref p1, u1, u2, u3, u4, u5])), (p1, .inr (1, [.ref b0, .ref b1, .ref b2, .ref b3, .ref b4, .ref r0, .int (nI cn2), .int bb])), (b0, .inl (kb0, 10, .inl fab2)), (b1, .inl (kb1, 10, .inl fle2)), (b2, .inl (kb2, 10, .inl fqu2)), (b3, .inl (kb3, 100, .inl fli2)), (b4, .inl (kb4, 3, .inl fpa2)), (r0, .inr (4, [.ref g0, .ref g1, .ref g2, .int rc2])), (g0, .inl (kg0, 40, .inl fc2)), (g1, .inl (kg1, 4, .inl fh2)), (g2, .inl (kg2, 4, .inl fl2))] t.heap ∧ va_K (dC, dI) vwCl [(kb0, .int), (kb1, .int), (kb2, .int), (kb3, .int), (kb4, .int), (kg0, .int), (kg1, .int), (kg2, .int)] t ∧ va_D (va_A [(h0, .inr (7, [.ref p1, u1, u2, u3, u4, u5])), (p1, .inr (1, [.ref b0, .ref b1, .ref b2, .ref b3, .ref b4, .ref r0, .int (nI cn), .int bb])), (b0, .inl (kb0, 10, .inl fab)), (b1, .inl (kb1, 10, .inl fle)), (b2, .inl (kb2, 10, .inl fqu)), (b3, .inl (kb3, 100, .inl fli)), (b4, .inl (kb4, 3, .inl fpa)), (r0, .inr (4, [.ref g0, .ref g1, .ref g2, .int rc])), (g0, .inl (kg0, 40, .inl fc)), (g1, .inl (kg1, 4, .inl fh)), (g2, .inl (kg2, 4, .inl fl))] sz) [(h0, .inr (7, [.ref p1, u1, u2, u3, u4, u5])), (p1, .inr (1, [.ref b0, .ref b1, .ref b2, .ref b3, .ref b4, .ref r0, .int (nI cn2), .int bb])), (b0, .inl (kb0, 10, .inl fab2)), (b1, .inl (kb1, 10, .inl fle2)), (b2, .inl (kb2, 10, .inl fqu2)), (b3, .inl (kb3, 100, .inl fli2)), (b4, .inl (kb4, 3, .inl fpa2)), (r0, .inr (4, [.ref g0, .ref g1, .ref g2, .int rc2])), (g0, .inl (kg0, 40, .inl fc2)), (g1, .inl (kg1, 4, .inl fh2)), (g2, .inl (kg2, 4, .inl fl2))]) (va_A [(h0, .inr (7, [.ref p1, u1, u2, u3, u4, u5])), (p1, .inr (1, [.ref b0, .ref b1, .ref b2, .ref b3, .ref b4, .ref r0, .int (nI cn), .int bb])), (b0, .inl (kb0, 10, .inl fab)), (b1, .inl (kb1, 10, .inl fle)), (b2, .inl (kb2, 10, .inl fqu)), (b3, .inl (kb3, 100, .inl fli)), (b4, .inl (kb4, 3, .inl fpa)), (r0, .inr (4, [.ref g0, .ref g1, .ref g2, .int rc])), (g0, .inl (kg0, 40, .inl fc)), (g1, .inl (kg1, 4, .inl fh)), (g2, .inl (kg2, 4, .inl fl))] sz)) 0 0 (va_A [(h0, .inr (7, [.ref p1, u1, u2, u3, u4, u5])), (p1, .inr (1, [.ref b0, .ref b1, .ref b2, .ref b3, .ref b4, .ref r0, .int (nI cn), .int bb])), (b0, .inl (kb0, 10, .inl fab)), (b1, .inl (kb1, 10, .inl fle)), (b2, .inl (kb2, 10, .inl fqu)), (b3, .inl (kb3, 100, .inl fli)), (b4, .inl (kb4, 3, .inl fpa)), (r0, .inr (4, [.ref g0, .ref g1, .ref g2, .int rc])), (g0, .inl (kg0, 40, .inl fc)), (g1, .inl (kg1, 4, .inl fh)), (g2, .inl (kg2, 4, .inl fl))] sz) := by
  refine Met.ofW (cc := cX8_kind) (maxL := 5) (ret := (some .int)) (by decide) rfl ?_
  intro p e s m args below meth c s₁ B hml hv
  obtain ⟨rfl, hsz, hN, hP, hK, hD0⟩ := hv
  have hx := B.exec
  have hb := B.bytes
  have hr := B.returns
  have hts0 := atoms_spec (ws := (wq yX8_kind cX8_kind 5 (some .int))) B.pre
  have hts : ∀ w ∈ BG, w.before _ s = true := fun w h => hts0 w (List.mem_cons_of_mem _ h)
  have hown : s.vm.findClass RX8 = some m.cls := findClass_of_methodNamed B.named
  have hlocks := B.notSynchronized
  subst hsz
  have hD := hD0.self (sz := s.heap.size)
  generalize hAe : va_A [(h0, .inr (7, [.ref p1, u1, u2, u3, u4, u5])), (p1, .inr (1, [.ref b0, .ref b1, .ref b2, .ref b3, .ref b4, .ref r0, .int (nI cn), .int bb])), (b0, .inl (kb0, 10, .inl fab)), (b1, .inl (kb1, 10, .inl fle)), (b2, .inl (kb2, 10, .inl fqu)), (b3, .inl (kb3, 100, .inl fli)), (b4, .inl (kb4, 3, .inl fpa)), (r0, .inr (4, [.ref g0, .ref g1, .ref g2, .int rc])), (g0, .inl (kg0, 40, .inl fc)), (g1, .inl (kg1, 4, .inl fh)), (g2, .inl (kg2, 4, .inl fl))] s.heap.size = A at hD ⊢
  have hA : ∀ q : Nat, s.heap.size ≤ q → A q := fun q h => by rw [← hAe]; exact Or.inr h
  have hS : va_S A s.heap s.heap [] := va_S.rf
  clear hAe hD0
  have hP : va_P (dC, dI) vwCl [(h0, .inr (7, [.ref p1, u1, u2, u3, u4, u5])), (p1, .inr (1, [.ref b0, .ref b1, .ref b2, .ref b3, .ref b4, .ref r0, .int (nI cn), .int bb])), (b0, .inl (kb0, 10, .inl fab)), (b1, .inl (kb1, 10, .inl fle)), (b2, .inl (kb2, 10, .inl fqu)), (b3, .inl (kb3, 100, .inl fli)), (b4, .inl (kb4, 3, .inl fpa)), (r0, .inr (4, [.ref g0, .ref g1, .ref g2, .int rc])), (g0, .inl (kg0, 40, .inl fc)), (g1, .inl (kg1, 4, .inl fh)), (g2, .inl (kg2, 4, .inl fl))] s.heap := hP
  have hl := lv_entry ([.ref h0, .int n1, .int n2, .int n3, .int n4]) (n := 5) (Nat.le_of_ble_eq_true rfl)
  rw [lg_entry_eq]
  generalize (lg_sl ([.ref h0, .int n1, .int n2, .int n3, .int n4]) ++ List.replicate (5 - (lg_sl ([.ref h0, .int n1, .int n2, .int n3, .int n4])).length) Slot.unset).toArray = ls at hl ⊢
  have hl : lv_has ls 5 [(0, .ref h0), (1, .int n1), (2, .int n2), (3, .int n3), (4, .int n4)] := hl
  refine lv_iload_n hx hb dX8_kind_0 rfl (lv_at hl 1 rfl) ?_
  refine lv_iconst (v := 1) hx hb dX8_kind_1 (by decide) ?_
  refine lv_icmp_lt (tgt := 18) hx hb dX8_kind_2 (by decide) (fun c_1 => ?_) (fun c_1 => ?_)
  · have b_2 := gx_lt (X := (Int32.toInt n1)) (C := 1) rfl (by decide) c_1
    refine lv_iload_n hx hb dX8_kind_18 rfl (lv_at hl 1 rfl) ?_
    refine lv_iconst (v := 2) hx hb dX8_kind_19 (by decide) ?_
    refine lv_icmp_lt (tgt := 41) hx hb dX8_kind_20 (by decide) (fun c_3 => ?_) (fun h => absurd (gn_lt (X := (Int32.toInt n1)) (C := 2) rfl (by decide) h) (by omega))
    have b_4 := gx_lt (X := (Int32.toInt n1)) (C := 2) rfl (by decide) c_3
    refine lv_iload_n hx hb dX8_kind_41 rfl (lv_at hl 1 rfl) ?_
    refine lv_iconst (v := 3) hx hb dX8_kind_42 (by decide) ?_
    refine lv_icmp_lt (tgt := 72) hx hb dX8_kind_43 (by decide) (fun c_5 => ?_) (fun h => absurd (gn_lt (X := (Int32.toInt n1)) (C := 3) rfl (by decide) h) (by omega))
    have b_6 := gx_lt (X := (Int32.toInt n1)) (C := 3) rfl (by decide) c_5
    refine lv_iload_n hx hb dX8_kind_72 rfl (lv_at hl 1 rfl) ?_
    refine lv_if_lt (tgt := 81) hx hb dX8_kind_73 (by decide) (fun c_7 => ?_) (fun c_7 => ?_)
    · have b_8 := gx_lt (X := (Int32.toInt n1)) (C := 0) rfl (by decide) c_7
      refine lv_bipush (v := (-2)) hx hb dX8_kind_81 (by decide) ?_
      have hF9 : ((-2) : Int32) = F_kind cn n1 n2 n3 n4 := (by (unfold F_kind; repeat' split) <;> first | rfl | (exfalso; omega))
      have hP9 := hP.sub (ws' := [(h0, .inr (7, [.ref p1, u1, u2, u3, u4, u5])), (p1, .inr (1, [.ref b0, .ref b1, .ref b2, .ref b3, .ref b4, .ref r0, .int (nI cn), .int bb])), (b0, .inl (kb0, 10, .inl fab)), (b1, .inl (kb1, 10, .inl fle)), (b2, .inl (kb2, 10, .inl fqu)), (b3, .inl (kb3, 100, .inl fli)), (b4, .inl (kb4, 3, .inl fpa)), (r0, .inr (4, [.ref g0, .ref g1, .ref g2, .int rc])), (g0, .inl (kg0, 40, .inl fc)), (g1, .inl (kg1, 4, .inl fh)), (g2, .inl (kg2, 4, .inl fl))]) [0, 1, 2, 3, 4, 5, 6, 7, 8, 9, 10] rfl
      have hD9 := hD.sub (ws' := [(h0, .inr (7, [.ref p1, u1, u2, u3, u4, u5])), (p1, .inr (1, [.ref b0, .ref b1, .ref b2, .ref b3, .ref b4, .ref r0, .int (nI cn), .int bb])), (b0, .inl (kb0, 10, .inl fab)), (b1, .inl (kb1, 10, .inl fle)), (b2, .inl (kb2, 10, .inl fqu)), (b3, .inl (kb3, 100, .inl fli)), (b4, .inl (kb4, 3, .inl fpa)), (r0, .inr (4, [.ref g0, .ref g1, .ref g2, .int rc])), (g0, .inl (kg0, 40, .inl fc)), (g1, .inl (kg1, 4, .inl fh)), (g2, .inl (kg2, 4, .inl fl))]) [0, 1, 2, 3, 4, 5, 6, 7, 8, 9, 10] (by decide) rfl
      have hK9 := hK.sub (tys' := [(kb0, .int), (kb1, .int), (kb2, .int), (kb3, .int), (kb4, .int), (kg0, .int), (kg1, .int), (kg2, .int)]) [0, 1, 2, 3, 4, 5, 6, 7] rfl
      exact W.iret (v := (-2)) hx hb hr (fun t ht hW => ⟨⟨(-2), (), rfl, hF9, cn, fab, fle, fqu, fli, fpa, rc, fc, fh, fl, (K_no (v := (-2)) hF9 (by decide)), (KA_no (v := (-2)) hF9 (by decide)), (kx_no (v := (-2)) hF9 (by decide)), hc, hle, hfh, hfl, by rw [ht]; exact hP9, va_K.moved hW.alike hK9, hD9⟩, hS.F ht⟩) hS.2.2 dX8_kind_83
    · have b_8 := gn_lt (X := (Int32.toInt n1)) (C := 0) rfl (by decide) c_7
      refine lv_iload_n hx hb dX8_kind_76 rfl (lv_at hl 1 rfl) ?_
      refine hx_top (y := 0) (fx_sing (C := 0) (by decide) (by omega)) ?_
      refine lv_iconst (v := 3) hx hb dX8_kind_77 (by decide) ?_
      refine lv_icmp_le (tgt := 84) hx hb dX8_kind_78 (by decide) (fun _ => ?_) (fun h => absurd (by decide) h)
      refine lv_aload_n hx hb dX8_kind_84 rfl (lv_at hl 0 rfl) ?_
      refine va_get (D := (dC, dI)) (ci := 7) (v := .ref p1) (C := RX8) (T := TX8) (N := 6) hx hb hts inB_8 hown hK hP 0 rfl rfl 0 (by decide) (hts _ mw_1_168) (fun _ h9 => h9) rfl dX8_kind_85 ?_
      have hPc := hP.sub (ws' := [(p1, .inr (1, [.ref b0, .ref b1, .ref b2, .ref b3, .ref b4, .ref r0, .int (nI cn), .int bb]))]) [1] rfl
      have hDc := hD.sub (ws' := [(p1, .inr (1, [.ref b0, .ref b1, .ref b2, .ref b3, .ref b4, .ref r0, .int (nI cn), .int bb]))]) [1] (by decide) rfl
      have hKc := hK.sub (tys' := []) [] rfl
      refine va_calli (va_runV (As := []) (rest := []) ⟨hx, hb, hml, hown, hts⟩ (c_isFull l dC dI s.heap.size p1 (.ref b0) (.ref b1) (.ref b2) (.ref b3) (.ref b4) (.ref r0) cn (.int bb) hc) (cwV 0 hts (gV mw_1_195 mw_1_196 mw_1_197 mw_1_2 mw_1_198) rfl rfl rfl (by decide +kernel) ⟨Nat.le_of_ble_eq_true rfl, Nat.le_of_ble_eq_true rfl⟩) ⟨pcW_blind, va_recv hKc hPc (ci := 1) (q0 := 0) rfl rfl, pcW_at hPc hKc hDc hN⟩ rfl rfl hl.1 rfl (lv_room (Nat.le_of_ble_eq_true rfl)) dX8_kind_88 ⟨Nat.le_of_ble_eq_true rfl, Nat.le_of_ble_eq_true rfl⟩) hS (fun q h1 h2 => absurd h2 (Nat.not_le.mpr h1)) (fun q h => hA q (Nat.le_trans hS.1 h)) (fun r_9 u t H1 locs ht hvm hw_9 hB hz1 hk1 hS => ?_)
      have hP := keepP hP hk1
      clear hz1 hk1 hB ht hvm hPc hDc hKc
      generalize H1 = H at hP hS ⊢
      rcases fx_bool hw_9 with ⟨rfl, b_10⟩ | ⟨rfl, b_10⟩
      · skip
        refine lv_if_eq (tgt := 97) hx hb dX8_kind_91 (by decide) (fun h => absurd h (by decide)) (fun _ => ?_)
        refine lv_bipush (v := (-4)) hx hb dX8_kind_94 (by decide) ?_
        have hF9 : ((-4) : Int32) = F_kind cn n1 n2 n3 n4 := (by (unfold F_kind; repeat' split) <;> first | rfl | (exfalso; omega))
        have hP9 := hP.sub (ws' := [(h0, .inr (7, [.ref p1, u1, u2, u3, u4, u5])), (p1, .inr (1, [.ref b0, .ref b1, .ref b2, .ref b3, .ref b4, .ref r0, .int (nI cn), .int bb])), (b0, .inl (kb0, 10, .inl fab)), (b1, .inl (kb1, 10, .inl fle)), (b2, .inl (kb2, 10, .inl fqu)), (b3, .inl (kb3, 100, .inl fli)), (b4, .inl (kb4, 3, .inl fpa)), (r0, .inr (4, [.ref g0, .ref g1, .ref g2, .int rc])), (g0, .inl (kg0, 40, .inl fc)), (g1, .inl (kg1, 4, .inl fh)), (g2, .inl (kg2, 4, .inl fl))]) [0, 1, 2, 3, 4, 5, 6, 7, 8, 9, 10] rfl
        have hD9 := hD.sub (ws' := [(h0, .inr (7, [.ref p1, u1, u2, u3, u4, u5])), (p1, .inr (1, [.ref b0, .ref b1, .ref b2, .ref b3, .ref b4, .ref r0, .int (nI cn), .int bb])), (b0, .inl (kb0, 10, .inl fab)), (b1, .inl (kb1, 10, .inl fle)), (b2, .inl (kb2, 10, .inl fqu)), (b3, .inl (kb3, 100, .inl fli)), (b4, .inl (kb4, 3, .inl fpa)), (r0, .inr (4, [.ref g0, .ref g1, .ref g2, .int rc])), (g0, .inl (kg0, 40, .inl fc)), (g1, .inl (kg1, 4, .inl fh)), (g2, .inl (kg2, 4, .inl fl))]) [0, 1, 2, 3, 4, 5, 6, 7, 8, 9, 10] (by decide) rfl
        have hK9 := hK.sub (tys' := [(kb0, .int), (kb1, .int), (kb2, .int), (kb3, .int), (kb4, .int), (kg0, .int), (kg1, .int), (kg2, .int)]) [0, 1, 2, 3, 4, 5, 6, 7] rfl
        exact W.iret (v := (-4)) hx hb hr (fun t ht hW => ⟨⟨(-4), (), rfl, hF9, cn, fab, fle, fqu, fli, fpa, rc, fc, fh, fl, (K_no (v := (-4)) hF9 (by decide)), (KA_no (v := (-4)) hF9 (by decide)), (kx_no (v := (-4)) hF9 (by decide)), hc, hle, hfh, hfl, by rw [ht]; exact hP9, va_K.moved hW.alike hK9, hD9⟩, hS.F ht⟩) hS.2.2 dX8_kind_96
      · skip
        refine lv_if_eq (tgt := 97) hx hb dX8_kind_91 (by decide) (fun _ => ?_) (fun h => absurd (by decide) h)
        obtain ⟨j_11, tj_11, ej_11⟩ := fx_nat (x := n1) (by omega)
        subst ej_11
        have yj_11 : Int32.toInt (nI j_11) = (j_11 : Int) := nI_toInt tj_11
        refine lv_aload_n hx hb dX8_kind_97 rfl (lv_at hl 0 rfl) ?_
        refine va_get (D := (dC, dI)) (ci := 7) (v := .ref p1) (C := RX8) (T := TX8) (N := 6) hx hb hts inB_8 hown hK hP 0 rfl rfl 0 (by decide) (hts _ mw_1_168) (fun _ h9 => h9) rfl dX8_kind_98 ?_
        refine lv_iload_n hx hb dX8_kind_101 rfl (lv_at hl 1 rfl) ?_
        refine lv_iload_n hx hb dX8_kind_102 rfl (lv_at hl 2 rfl) ?_
        refine lv_iload_n hx hb dX8_kind_103 rfl (lv_at hl 3 rfl) ?_
        refine lv_iload hx hb dX8_kind_104 (lv_at hl 4 rfl) ?_
        have hPc := hP.sub (ws' := [(p1, .inr (1, [.ref b0, .ref b1, .ref b2, .ref b3, .ref b4, .ref r0, .int (nI cn), .int bb])), (b0, .inl (kb0, 10, .inl fab)), (b1, .inl (kb1, 10, .inl fle)), (b2, .inl (kb2, 10, .inl fqu)), (b3, .inl (kb3, 100, .inl fli)), (b4, .inl (kb4, 3, .inl fpa)), (r0, .inr (4, [.ref g0, .ref g1, .ref g2, .int rc])), (g0, .inl (kg0, 40, .inl fc)), (g1, .inl (kg1, 4, .inl fh)), (g2, .inl (kg2, 4, .inl fl))]) [1, 2, 3, 4, 5, 6, 7, 8, 9, 10] rfl
        have hDc := hD.sub (ws' := [(p1, .inr (1, [.ref b0, .ref b1, .ref b2, .ref b3, .ref b4, .ref r0, .int (nI cn), .int bb])), (b0, .inl (kb0, 10, .inl fab)), (b1, .inl (kb1, 10, .inl fle)), (b2, .inl (kb2, 10, .inl fqu)), (b3, .inl (kb3, 100, .inl fli)), (b4, .inl (kb4, 3, .inl fpa)), (r0, .inr (4, [.ref g0, .ref g1, .ref g2, .int rc])), (g0, .inl (kg0, 40, .inl fc)), (g1, .inl (kg1, 4, .inl fh)), (g2, .inl (kg2, 4, .inl fl))]) [1, 2, 3, 4, 5, 6, 7, 8, 9, 10] (by decide) rfl
        have hKc := hK.sub (tys' := [(kb0, .int), (kb1, .int), (kb2, .int), (kb3, .int), (kb4, .int), (kg0, .int), (kg1, .int), (kg2, .int)]) [0, 1, 2, 3, 4, 5, 6, 7] rfl
        have hFc := va_free (wc := [(p1, .inr (1, [.ref b0, .ref b1, .ref b2, .ref b3, .ref b4, .ref r0, .int (nI cn), .int bb])), (b0, .inl (kb0, 10, .inl fab)), (b1, .inl (kb1, 10, .inl fle)), (b2, .inl (kb2, 10, .inl fqu)), (b3, .inl (kb3, 100, .inl fli)), (b4, .inl (kb4, 3, .inl fpa)), (r0, .inr (4, [.ref g0, .ref g1, .ref g2, .int rc])), (g0, .inl (kg0, 40, .inl fc)), (g1, .inl (kg1, 4, .inl fh)), (g2, .inl (kg2, 4, .inl fl))]) hD hS hA [1, 2, 3, 4, 5, 6, 7, 8, 9, 10] rfl
        refine va_calli (va_runV (As := [.int (nI j_11), .int n2, .int n3, .int n4]) (rest := []) ⟨hx, hb, hml, hown, hts⟩ (c_add l dC dI H.size p1 b0 b1 b2 b3 b4 r0 cn (.int bb) kb0 fab kb1 fle kb2 fqu kb3 fli kb4 fpa g0 g1 g2 rc kg0 fc kg1 fh kg2 fl j_11 n2 n3 n4 (by omega) hle (by omega) hfh hfl (pv_3 (by omega) (fun q => by omega) (fun q => by omega) (fun q => by omega)) hlk) (cwV 4 hts (gV mw_1_199 mw_1_200 mw_1_201 mw_1_2 mw_1_202) rfl rfl rfl (by decide +kernel) ⟨Nat.le_of_ble_eq_true rfl, Nat.le_of_ble_eq_true rfl⟩) ⟨pcW_blind, va_recv hKc hPc (ci := 1) (q0 := 0) rfl rfl, pcW_at hPc hKc hDc hN⟩ rfl rfl hl.1 rfl (lv_room (Nat.le_of_ble_eq_true rfl)) dX8_kind_106 ⟨Nat.le_of_ble_eq_true rfl, Nat.le_of_ble_eq_true rfl⟩) hS (fun q _ h => hFc q h) hFc (fun r_12 u t H1 locs ht hvm hw_12 hB hz1 hk1 hS => ?_)
        obtain ⟨q_13, f_14, f_15, f_16, f_17, f_18, z_19, f_20, f_21, f_22, p_23, p_24, p_25, p_26, p_27, p_28, hP1, hK1, hD1⟩ := hB
        rw [ht] at hP1
        have hK1 := va_K.moved hvm.symm hK1
        obtain ⟨hP, hD⟩ := va_join (wr := [(h0, .inr (7, [.ref p1, u1, u2, u3, u4, u5]))]) (w1 := [(p1, .inr (1, [.ref b0, .ref b1, .ref b2, .ref b3, .ref b4, .ref r0, .int (nI q_13), .int bb])), (b0, .inl (kb0, 10, .inl f_14)), (b1, .inl (kb1, 10, .inl f_15)), (b2, .inl (kb2, 10, .inl f_16)), (b3, .inl (kb3, 100, .inl f_17)), (b4, .inl (kb4, 3, .inl f_18)), (r0, .inr (4, [.ref g0, .ref g1, .ref g2, .int z_19])), (g0, .inl (kg0, 40, .inl f_20)), (g1, .inl (kg1, 4, .inl f_21)), (g2, .inl (kg2, 4, .inl f_22))]) hP hD [1, 2, 3, 4, 5, 6, 7, 8, 9, 10] [0] rfl rfl (by decide) (by decide) hk1 hFc hP1 hD1
        have hK := (hK.sub (tys' := []) [] rfl).app hK1
        clear hz1 hk1 hPc hDc hKc hFc
        generalize H1 = H at hP hS ⊢
        have hK : va_K (dC, dI) vwCl [(kb0, .int), (kb1, .int), (kb2, .int), (kb3, .int), (kb4, .int), (kg0, .int), (kg1, .int), (kg2, .int)] s := hK
        have hP : va_P (dC, dI) vwCl [(h0, .inr (7, [.ref p1, u1, u2, u3, u4, u5])), (p1, .inr (1, [.ref b0, .ref b1, .ref b2, .ref b3, .ref b4, .ref r0, .int (nI q_13), .int bb])), (b0, .inl (kb0, 10, .inl f_14)), (b1, .inl (kb1, 10, .inl f_15)), (b2, .inl (kb2, 10, .inl f_16)), (b3, .inl (kb3, 100, .inl f_17)), (b4, .inl (kb4, 3, .inl f_18)), (r0, .inr (4, [.ref g0, .ref g1, .ref g2, .int z_19])), (g0, .inl (kg0, 40, .inl f_20)), (g1, .inl (kg1, 4, .inl f_21)), (g2, .inl (kg2, 4, .inl f_22))] H := hP
        have hD : va_D A [(h0, .inr (7, [.ref p1, u1, u2, u3, u4, u5])), (p1, .inr (1, [.ref b0, .ref b1, .ref b2, .ref b3, .ref b4, .ref r0, .int (nI q_13), .int bb])), (b0, .inl (kb0, 10, .inl f_14)), (b1, .inl (kb1, 10, .inl f_15)), (b2, .inl (kb2, 10, .inl f_16)), (b3, .inl (kb3, 100, .inl f_17)), (b4, .inl (kb4, 3, .inl f_18)), (r0, .inr (4, [.ref g0, .ref g1, .ref g2, .int z_19])), (g0, .inl (kg0, 40, .inl f_20)), (g1, .inl (kg1, 4, .inl f_21)), (g2, .inl (kg2, 4, .inl f_22))] := hD
        obtain rfl : r_12 = nI cn := hw_12
        have hF9 : nI cn = F_kind cn (nI j_11) n2 n3 n4 := (by (unfold F_kind; repeat' split) <;> first | rfl | (exfalso; omega))
        have hP9 := hP.sub (ws' := [(h0, .inr (7, [.ref p1, u1, u2, u3, u4, u5])), (p1, .inr (1, [.ref b0, .ref b1, .ref b2, .ref b3, .ref b4, .ref r0, .int (nI q_13), .int bb])), (b0, .inl (kb0, 10, .inl f_14)), (b1, .inl (kb1, 10, .inl f_15)), (b2, .inl (kb2, 10, .inl f_16)), (b3, .inl (kb3, 100, .inl f_17)), (b4, .inl (kb4, 3, .inl f_18)), (r0, .inr (4, [.ref g0, .ref g1, .ref g2, .int z_19])), (g0, .inl (kg0, 40, .inl f_20)), (g1, .inl (kg1, 4, .inl f_21)), (g2, .inl (kg2, 4, .inl f_22))]) [0, 1, 2, 3, 4, 5, 6, 7, 8, 9, 10] rfl
        have hD9 := hD.sub (ws' := [(h0, .inr (7, [.ref p1, u1, u2, u3, u4, u5])), (p1, .inr (1, [.ref b0, .ref b1, .ref b2, .ref b3, .ref b4, .ref r0, .int (nI q_13), .int bb])), (b0, .inl (kb0, 10, .inl f_14)), (b1, .inl (kb1, 10, .inl f_15)), (b2, .inl (kb2, 10, .inl f_16)), (b3, .inl (kb3, 100, .inl f_17)), (b4, .inl (kb4, 3, .inl f_18)), (r0, .inr (4, [.ref g0, .ref g1, .ref g2, .int z_19])), (g0, .inl (kg0, 40, .inl f_20)), (g1, .inl (kg1, 4, .inl f_21)), (g2, .inl (kg2, 4, .inl f_22))]) [0, 1, 2, 3, 4, 5, 6, 7, 8, 9, 10] (by decide) rfl
        have hK9 := hK.sub (tys' := [(kb0, .int), (kb1, .int), (kb2, .int), (kb3, .int), (kb4, .int), (kg0, .int), (kg1, .int), (kg2, .int)]) [0, 1, 2, 3, 4, 5, 6, 7] rfl
        exact W.iret (v := (nI cn)) hx hb hr (fun t ht hW => ⟨⟨(nI cn), (), rfl, hF9, q_13, f_14, f_15, f_16, f_17, f_18, z_19, f_20, f_21, f_22, (p_23.trans (K_yes hF9 (by omega))), (KA_yes hF9 (by omega) (nI_clamp (by omega)) p_24), (kx_yes hF9 (by omega) (nI_clamp (by omega)) p_25), (by omega), p_26, p_27, p_28, by rw [ht]; exact hP9, va_K.moved hW.alike hK9, hD9⟩, hS.F ht⟩) hS.2.2 dX8_kind_109
  · have b_2 := gn_lt (X := (Int32.toInt n1)) (C := 1) rfl (by decide) c_1
    refine lv_aload_n hx hb dX8_kind_5 rfl (lv_at hl 0 rfl) ?_
    refine va_get (D := (dC, dI)) (ci := 7) (v := .ref p1) (C := RX8) (T := TX8) (N := 6) hx hb hts inB_8 hown hK hP 0 rfl rfl 0 (by decide) (hts _ mw_1_168) (fun _ h9 => h9) rfl dX8_kind_6 ?_
    refine lv_iload_n hx hb dX8_kind_9 rfl (lv_at hl 2 rfl) ?_
    have hPc := hP.sub (ws' := [(p1, .inr (1, [.ref b0, .ref b1, .ref b2, .ref b3, .ref b4, .ref r0, .int (nI cn), .int bb]))]) [1] rfl
    have hDc := hD.sub (ws' := [(p1, .inr (1, [.ref b0, .ref b1, .ref b2, .ref b3, .ref b4, .ref r0, .int (nI cn), .int bb]))]) [1] (by decide) rfl
    have hKc := hK.sub (tys' := []) [] rfl
    refine va_calli (va_runV (As := [.int n2]) (rest := []) ⟨hx, hb, hml, hown, hts⟩ (c_knows l dC dI s.heap.size p1 (.ref b0) (.ref b1) (.ref b2) (.ref b3) (.ref b4) (.ref r0) cn (.int bb) n2 hc) (cwV 1 hts (gV mw_1_191 mw_1_192 mw_1_193 mw_1_2 mw_1_194) rfl rfl rfl (by decide +kernel) ⟨Nat.le_of_ble_eq_true rfl, Nat.le_of_ble_eq_true rfl⟩) ⟨pcW_blind, va_recv hKc hPc (ci := 1) (q0 := 0) rfl rfl, pcW_at hPc hKc hDc hN⟩ rfl rfl hl.1 rfl (lv_room (Nat.le_of_ble_eq_true rfl)) dX8_kind_10 ⟨Nat.le_of_ble_eq_true rfl, Nat.le_of_ble_eq_true rfl⟩) hS (fun q h1 h2 => absurd h2 (Nat.not_le.mpr h1)) (fun q h => hA q (Nat.le_trans hS.1 h)) (fun r_29 u t H1 locs ht hvm hw_29 hB hz1 hk1 hS => ?_)
    have hP := keepP hP hk1
    clear hz1 hk1 hB ht hvm hPc hDc hKc
    generalize H1 = H at hP hS ⊢
    rcases fx_bool hw_29 with ⟨rfl, b_30⟩ | ⟨rfl, b_30⟩
    · skip
      refine lv_if_ne (tgt := 18) hx hb dX8_kind_13 (by decide) (fun _ => ?_) (fun h => absurd h (by decide))
      refine lv_iload_n hx hb dX8_kind_18 rfl (lv_at hl 1 rfl) ?_
      refine lv_iconst (v := 2) hx hb dX8_kind_19 (by decide) ?_
      refine lv_icmp_lt (tgt := 41) hx hb dX8_kind_20 (by decide) (fun c_31 => ?_) (fun c_31 => ?_)
      · have b_32 := gx_lt (X := (Int32.toInt n1)) (C := 2) rfl (by decide) c_31
        refine lv_iload_n hx hb dX8_kind_41 rfl (lv_at hl 1 rfl) ?_
        refine hx_top (y := 1) (fx_sing (C := 1) (by decide) (by omega)) ?_
        refine lv_iconst (v := 3) hx hb dX8_kind_42 (by decide) ?_
        refine lv_icmp_lt (tgt := 72) hx hb dX8_kind_43 (by decide) (fun _ => ?_) (fun h => absurd (by decide) h)
        refine lv_iload_n hx hb dX8_kind_72 rfl (lv_at hl 1 rfl) ?_
        refine hx_top (y := 1) (fx_sing (C := 1) (by decide) (by omega)) ?_
        refine lv_if_lt (tgt := 81) hx hb dX8_kind_73 (by decide) (fun h => absurd h (by decide)) (fun _ => ?_)
        refine lv_iload_n hx hb dX8_kind_76 rfl (lv_at hl 1 rfl) ?_
        refine hx_top (y := 1) (fx_sing (C := 1) (by decide) (by omega)) ?_
        refine lv_iconst (v := 3) hx hb dX8_kind_77 (by decide) ?_
        refine lv_icmp_le (tgt := 84) hx hb dX8_kind_78 (by decide) (fun _ => ?_) (fun h => absurd (by decide) h)
        refine lv_aload_n hx hb dX8_kind_84 rfl (lv_at hl 0 rfl) ?_
        refine va_get (D := (dC, dI)) (ci := 7) (v := .ref p1) (C := RX8) (T := TX8) (N := 6) hx hb hts inB_8 hown hK hP 0 rfl rfl 0 (by decide) (hts _ mw_1_168) (fun _ h9 => h9) rfl dX8_kind_85 ?_
        have hPc := hP.sub (ws' := [(p1, .inr (1, [.ref b0, .ref b1, .ref b2, .ref b3, .ref b4, .ref r0, .int (nI cn), .int bb]))]) [1] rfl
        have hDc := hD.sub (ws' := [(p1, .inr (1, [.ref b0, .ref b1, .ref b2, .ref b3, .ref b4, .ref r0, .int (nI cn), .int bb]))]) [1] (by decide) rfl
        have hKc := hK.sub (tys' := []) [] rfl
        refine va_calli (va_runV (As := []) (rest := []) ⟨hx, hb, hml, hown, hts⟩ (c_isFull l dC dI H.size p1 (.ref b0) (.ref b1) (.ref b2) (.ref b3) (.ref b4) (.ref r0) cn (.int bb) hc) (cwV 0 hts (gV mw_1_195 mw_1_196 mw_1_197 mw_1_2 mw_1_198) rfl rfl rfl (by decide +kernel) ⟨Nat.le_of_ble_eq_true rfl, Nat.le_of_ble_eq_true rfl⟩) ⟨pcW_blind, va_recv hKc hPc (ci := 1) (q0 := 0) rfl rfl, pcW_at hPc hKc hDc hN⟩ rfl rfl hl.1 rfl (lv_room (Nat.le_of_ble_eq_true rfl)) dX8_kind_88 ⟨Nat.le_of_ble_eq_true rfl, Nat.le_of_ble_eq_true rfl⟩) hS (fun q h1 h2 => absurd h2 (Nat.not_le.mpr h1)) (fun q h => hA q (Nat.le_trans hS.1 h)) (fun r_33 u t H1 locs ht hvm hw_33 hB hz1 hk1 hS => ?_)
        have hP := keepP hP hk1
        clear hz1 hk1 hB ht hvm hPc hDc hKc
        generalize H1 = H at hP hS ⊢
        rcases fx_bool hw_33 with ⟨rfl, b_34⟩ | ⟨rfl, b_34⟩
        · skip
          refine lv_if_eq (tgt := 97) hx hb dX8_kind_91 (by decide) (fun h => absurd h (by decide)) (fun _ => ?_)
          refine lv_bipush (v := (-4)) hx hb dX8_kind_94 (by decide) ?_
          have hF9 : ((-4) : Int32) = F_kind cn n1 n2 n3 n4 := (by (unfold F_kind; repeat' split) <;> first | rfl | (exfalso; omega))
          have hP9 := hP.sub (ws' := [(h0, .inr (7, [.ref p1, u1, u2, u3, u4, u5])), (p1, .inr (1, [.ref b0, .ref b1, .ref b2, .ref b3, .ref b4, .ref r0, .int (nI cn), .int bb])), (b0, .inl (kb0, 10, .inl fab)), (b1, .inl (kb1, 10, .inl fle)), (b2, .inl (kb2, 10, .inl fqu)), (b3, .inl (kb3, 100, .inl fli)), (b4, .inl (kb4, 3, .inl fpa)), (r0, .inr (4, [.ref g0, .ref g1, .ref g2, .int rc])), (g0, .inl (kg0, 40, .inl fc)), (g1, .inl (kg1, 4, .inl fh)), (g2, .inl (kg2, 4, .inl fl))]) [0, 1, 2, 3, 4, 5, 6, 7, 8, 9, 10] rfl
          have hD9 := hD.sub (ws' := [(h0, .inr (7, [.ref p1, u1, u2, u3, u4, u5])), (p1, .inr (1, [.ref b0, .ref b1, .ref b2, .ref b3, .ref b4, .ref r0, .int (nI cn), .int bb])), (b0, .inl (kb0, 10, .inl fab)), (b1, .inl (kb1, 10, .inl fle)), (b2, .inl (kb2, 10, .inl fqu)), (b3, .inl (kb3, 100, .inl fli)), (b4, .inl (kb4, 3, .inl fpa)), (r0, .inr (4, [.ref g0, .ref g1, .ref g2, .int rc])), (g0, .inl (kg0, 40, .inl fc)), (g1, .inl (kg1, 4, .inl fh)), (g2, .inl (kg2, 4, .inl fl))]) [0, 1, 2, 3, 4, 5, 6, 7, 8, 9, 10] (by decide) rfl
          have hK9 := hK.sub (tys' := [(kb0, .int), (kb1, .int), (kb2, .int), (kb3, .int), (kb4, .int), (kg0, .int), (kg1, .int), (kg2, .int)]) [0, 1, 2, 3, 4, 5, 6, 7] rfl
          exact W.iret (v := (-4)) hx hb hr (fun t ht hW => ⟨⟨(-4), (), rfl, hF9, cn, fab, fle, fqu, fli, fpa, rc, fc, fh, fl, (K_no (v := (-4)) hF9 (by decide)), (KA_no (v := (-4)) hF9 (by decide)), (kx_no (v := (-4)) hF9 (by decide)), hc, hle, hfh, hfl, by rw [ht]; exact hP9, va_K.moved hW.alike hK9, hD9⟩, hS.F ht⟩) hS.2.2 dX8_kind_96
        · skip
          refine lv_if_eq (tgt := 97) hx hb dX8_kind_91 (by decide) (fun _ => ?_) (fun h => absurd (by decide) h)
          obtain ⟨j_35, tj_35, ej_35⟩ := fx_nat (x := n1) (by omega)
          subst ej_35
          have yj_35 : Int32.toInt (nI j_35) = (j_35 : Int) := nI_toInt tj_35
          refine lv_aload_n hx hb dX8_kind_97 rfl (lv_at hl 0 rfl) ?_
          refine va_get (D := (dC, dI)) (ci := 7) (v := .ref p1) (C := RX8) (T := TX8) (N := 6) hx hb hts inB_8 hown hK hP 0 rfl rfl 0 (by decide) (hts _ mw_1_168) (fun _ h9 => h9) rfl dX8_kind_98 ?_
          refine lv_iload_n hx hb dX8_kind_101 rfl (lv_at hl 1 rfl) ?_
          refine lv_iload_n hx hb dX8_kind_102 rfl (lv_at hl 2 rfl) ?_
          refine lv_iload_n hx hb dX8_kind_103 rfl (lv_at hl 3 rfl) ?_
          refine lv_iload hx hb dX8_kind_104 (lv_at hl 4 rfl) ?_
          have hPc := hP.sub (ws' := [(p1, .inr (1, [.ref b0, .ref b1, .ref b2, .ref b3, .ref b4, .ref r0, .int (nI cn), .int bb])), (b0, .inl (kb0, 10, .inl fab)), (b1, .inl (kb1, 10, .inl fle)), (b2, .inl (kb2, 10, .inl fqu)), (b3, .inl (kb3, 100, .inl fli)), (b4, .inl (kb4, 3, .inl fpa)), (r0, .inr (4, [.ref g0, .ref g1, .ref g2, .int rc])), (g0, .inl (kg0, 40, .inl fc)), (g1, .inl (kg1, 4, .inl fh)), (g2, .inl (kg2, 4, .inl fl))]) [1, 2, 3, 4, 5, 6, 7, 8, 9, 10] rfl
          have hDc := hD.sub (ws' := [(p1, .inr (1, [.ref b0, .ref b1, .ref b2, .ref b3, .ref b4, .ref r0, .int (nI cn), .int bb])), (b0, .inl (kb0, 10, .inl fab)), (b1, .inl (kb1, 10, .inl fle)), (b2, .inl (kb2, 10, .inl fqu)), (b3, .inl (kb3, 100, .inl fli)), (b4, .inl (kb4, 3, .inl fpa)), (r0, .inr (4, [.ref g0, .ref g1, .ref g2, .int rc])), (g0, .inl (kg0, 40, .inl fc)), (g1, .inl (kg1, 4, .inl fh)), (g2, .inl (kg2, 4, .inl fl))]) [1, 2, 3, 4, 5, 6, 7, 8, 9, 10] (by decide) rfl
          have hKc := hK.sub (tys' := [(kb0, .int), (kb1, .int), (kb2, .int), (kb3, .int), (kb4, .int), (kg0, .int), (kg1, .int), (kg2, .int)]) [0, 1, 2, 3, 4, 5, 6, 7] rfl
          have hFc := va_free (wc := [(p1, .inr (1, [.ref b0, .ref b1, .ref b2, .ref b3, .ref b4, .ref r0, .int (nI cn), .int bb])), (b0, .inl (kb0, 10, .inl fab)), (b1, .inl (kb1, 10, .inl fle)), (b2, .inl (kb2, 10, .inl fqu)), (b3, .inl (kb3, 100, .inl fli)), (b4, .inl (kb4, 3, .inl fpa)), (r0, .inr (4, [.ref g0, .ref g1, .ref g2, .int rc])), (g0, .inl (kg0, 40, .inl fc)), (g1, .inl (kg1, 4, .inl fh)), (g2, .inl (kg2, 4, .inl fl))]) hD hS hA [1, 2, 3, 4, 5, 6, 7, 8, 9, 10] rfl
          refine va_calli (va_runV (As := [.int (nI j_35), .int n2, .int n3, .int n4]) (rest := []) ⟨hx, hb, hml, hown, hts⟩ (c_add l dC dI H.size p1 b0 b1 b2 b3 b4 r0 cn (.int bb) kb0 fab kb1 fle kb2 fqu kb3 fli kb4 fpa g0 g1 g2 rc kg0 fc kg1 fh kg2 fl j_35 n2 n3 n4 (by omega) hle (by omega) hfh hfl (pv_3 (by omega) (fun q => by omega) (fun q => by omega) (fun q => by omega)) hlk) (cwV 4 hts (gV mw_1_199 mw_1_200 mw_1_201 mw_1_2 mw_1_202) rfl rfl rfl (by decide +kernel) ⟨Nat.le_of_ble_eq_true rfl, Nat.le_of_ble_eq_true rfl⟩) ⟨pcW_blind, va_recv hKc hPc (ci := 1) (q0 := 0) rfl rfl, pcW_at hPc hKc hDc hN⟩ rfl rfl hl.1 rfl (lv_room (Nat.le_of_ble_eq_true rfl)) dX8_kind_106 ⟨Nat.le_of_ble_eq_true rfl, Nat.le_of_ble_eq_true rfl⟩) hS (fun q _ h => hFc q h) hFc (fun r_36 u t H1 locs ht hvm hw_36 hB hz1 hk1 hS => ?_)
          obtain ⟨q_37, f_38, f_39, f_40, f_41, f_42, z_43, f_44, f_45, f_46, p_47, p_48, p_49, p_50, p_51, p_52, hP1, hK1, hD1⟩ := hB
          rw [ht] at hP1
          have hK1 := va_K.moved hvm.symm hK1
          obtain ⟨hP, hD⟩ := va_join (wr := [(h0, .inr (7, [.ref p1, u1, u2, u3, u4, u5]))]) (w1 := [(p1, .inr (1, [.ref b0, .ref b1, .ref b2, .ref b3, .ref b4, .ref r0, .int (nI q_37), .int bb])), (b0, .inl (kb0, 10, .inl f_38)), (b1, .inl (kb1, 10, .inl f_39)), (b2, .inl (kb2, 10, .inl f_40)), (b3, .inl (kb3, 100, .inl f_41)), (b4, .inl (kb4, 3, .inl f_42)), (r0, .inr (4, [.ref g0, .ref g1, .ref g2, .int z_43])), (g0, .inl (kg0, 40, .inl f_44)), (g1, .inl (kg1, 4, .inl f_45)), (g2, .inl (kg2, 4, .inl f_46))]) hP hD [1, 2, 3, 4, 5, 6, 7, 8, 9, 10] [0] rfl rfl (by decide) (by decide) hk1 hFc hP1 hD1
          have hK := (hK.sub (tys' := []) [] rfl).app hK1
          clear hz1 hk1 hPc hDc hKc hFc
          generalize H1 = H at hP hS ⊢
          have hK : va_K (dC, dI) vwCl [(kb0, .int), (kb1, .int), (kb2, .int), (kb3, .int), (kb4, .int), (kg0, .int), (kg1, .int), (kg2, .int)] s := hK
          have hP : va_P (dC, dI) vwCl [(h0, .inr (7, [.ref p1, u1, u2, u3, u4, u5])), (p1, .inr (1, [.ref b0, .ref b1, .ref b2, .ref b3, .ref b4, .ref r0, .int (nI q_37), .int bb])), (b0, .inl (kb0, 10, .inl f_38)), (b1, .inl (kb1, 10, .inl f_39)), (b2, .inl (kb2, 10, .inl f_40)), (b3, .inl (kb3, 100, .inl f_41)), (b4, .inl (kb4, 3, .inl f_42)), (r0, .inr (4, [.ref g0, .ref g1, .ref g2, .int z_43])), (g0, .inl (kg0, 40, .inl f_44)), (g1, .inl (kg1, 4, .inl f_45)), (g2, .inl (kg2, 4, .inl f_46))] H := hP
          have hD : va_D A [(h0, .inr (7, [.ref p1, u1, u2, u3, u4, u5])), (p1, .inr (1, [.ref b0, .ref b1, .ref b2, .ref b3, .ref b4, .ref r0, .int (nI q_37), .int bb])), (b0, .inl (kb0, 10, .inl f_38)), (b1, .inl (kb1, 10, .inl f_39)), (b2, .inl (kb2, 10, .inl f_40)), (b3, .inl (kb3, 100, .inl f_41)), (b4, .inl (kb4, 3, .inl f_42)), (r0, .inr (4, [.ref g0, .ref g1, .ref g2, .int z_43])), (g0, .inl (kg0, 40, .inl f_44)), (g1, .inl (kg1, 4, .inl f_45)), (g2, .inl (kg2, 4, .inl f_46))] := hD
          obtain rfl : r_36 = nI cn := hw_36
          have hF9 : nI cn = F_kind cn (nI j_35) n2 n3 n4 := (by (unfold F_kind; repeat' split) <;> first | rfl | (exfalso; omega))
          have hP9 := hP.sub (ws' := [(h0, .inr (7, [.ref p1, u1, u2, u3, u4, u5])), (p1, .inr (1, [.ref b0, .ref b1, .ref b2, .ref b3, .ref b4, .ref r0, .int (nI q_37), .int bb])), (b0, .inl (kb0, 10, .inl f_38)), (b1, .inl (kb1, 10, .inl f_39)), (b2, .inl (kb2, 10, .inl f_40)), (b3, .inl (kb3, 100, .inl f_41)), (b4, .inl (kb4, 3, .inl f_42)), (r0, .inr (4, [.ref g0, .ref g1, .ref g2, .int z_43])), (g0, .inl (kg0, 40, .inl f_44)), (g1, .inl (kg1, 4, .inl f_45)), (g2, .inl (kg2, 4, .inl f_46))]) [0, 1, 2, 3, 4, 5, 6, 7, 8, 9, 10] rfl
          have hD9 := hD.sub (ws' := [(h0, .inr (7, [.ref p1, u1, u2, u3, u4, u5])), (p1, .inr (1, [.ref b0, .ref b1, .ref b2, .ref b3, .ref b4, .ref r0, .int (nI q_37), .int bb])), (b0, .inl (kb0, 10, .inl f_38)), (b1, .inl (kb1, 10, .inl f_39)), (b2, .inl (kb2, 10, .inl f_40)), (b3, .inl (kb3, 100, .inl f_41)), (b4, .inl (kb4, 3, .inl f_42)), (r0, .inr (4, [.ref g0, .ref g1, .ref g2, .int z_43])), (g0, .inl (kg0, 40, .inl f_44)), (g1, .inl (kg1, 4, .inl f_45)), (g2, .inl (kg2, 4, .inl f_46))]) [0, 1, 2, 3, 4, 5, 6, 7, 8, 9, 10] (by decide) rfl
          have hK9 := hK.sub (tys' := [(kb0, .int), (kb1, .int), (kb2, .int), (kb3, .int), (kb4, .int), (kg0, .int), (kg1, .int), (kg2, .int)]) [0, 1, 2, 3, 4, 5, 6, 7] rfl
          exact W.iret (v := (nI cn)) hx hb hr (fun t ht hW => ⟨⟨(nI cn), (), rfl, hF9, q_37, f_38, f_39, f_40, f_41, f_42, z_43, f_44, f_45, f_46, (p_47.trans (K_yes hF9 (by omega))), (KA_yes hF9 (by omega) (nI_clamp (by omega)) p_48), (kx_yes hF9 (by omega) (nI_clamp (by omega)) p_49), (by omega), p_50, p_51, p_52, by rw [ht]; exact hP9, va_K.moved hW.alike hK9, hD9⟩, hS.F ht⟩) hS.2.2 dX8_kind_109
      · have b_32 := gn_lt (X := (Int32.toInt n1)) (C := 2) rfl (by decide) c_31
        refine lv_aload_n hx hb dX8_kind_23 rfl (lv_at hl 0 rfl) ?_
        refine va_get (D := (dC, dI)) (ci := 7) (v := .ref p1) (C := RX8) (T := TX8) (N := 6) hx hb hts inB_8 hown hK hP 0 rfl rfl 0 (by decide) (hts _ mw_1_168) (fun _ h9 => h9) rfl dX8_kind_24 ?_
        refine lv_iload_n hx hb dX8_kind_27 rfl (lv_at hl 3 rfl) ?_
        have hPc := hP.sub (ws' := [(p1, .inr (1, [.ref b0, .ref b1, .ref b2, .ref b3, .ref b4, .ref r0, .int (nI cn), .int bb]))]) [1] rfl
        have hDc := hD.sub (ws' := [(p1, .inr (1, [.ref b0, .ref b1, .ref b2, .ref b3, .ref b4, .ref r0, .int (nI cn), .int bb]))]) [1] (by decide) rfl
        have hKc := hK.sub (tys' := []) [] rfl
        refine va_calli (va_runV (As := [.int n3]) (rest := []) ⟨hx, hb, hml, hown, hts⟩ (c_knows l dC dI H.size p1 (.ref b0) (.ref b1) (.ref b2) (.ref b3) (.ref b4) (.ref r0) cn (.int bb) n3 hc) (cwV 1 hts (gV mw_1_191 mw_1_192 mw_1_193 mw_1_2 mw_1_194) rfl rfl rfl (by decide +kernel) ⟨Nat.le_of_ble_eq_true rfl, Nat.le_of_ble_eq_true rfl⟩) ⟨pcW_blind, va_recv hKc hPc (ci := 1) (q0 := 0) rfl rfl, pcW_at hPc hKc hDc hN⟩ rfl rfl hl.1 rfl (lv_room (Nat.le_of_ble_eq_true rfl)) dX8_kind_28 ⟨Nat.le_of_ble_eq_true rfl, Nat.le_of_ble_eq_true rfl⟩) hS (fun q h1 h2 => absurd h2 (Nat.not_le.mpr h1)) (fun q h => hA q (Nat.le_trans hS.1 h)) (fun r_53 u t H1 locs ht hvm hw_53 hB hz1 hk1 hS => ?_)
        have hP := keepP hP hk1
        clear hz1 hk1 hB ht hvm hPc hDc hKc
        generalize H1 = H at hP hS ⊢
        rcases fx_bool hw_53 with ⟨rfl, b_54⟩ | ⟨rfl, b_54⟩
        · skip
          refine lv_if_eq (tgt := 39) hx hb dX8_kind_31 (by decide) (fun h => absurd h (by decide)) (fun _ => ?_)
          refine lv_iload_n hx hb dX8_kind_34 rfl (lv_at hl 3 rfl) ?_
          refine lv_iload_n hx hb dX8_kind_35 rfl (lv_at hl 2 rfl) ?_
          refine lv_icmp_ne (tgt := 41) hx hb dX8_kind_36 (by decide) (fun c_55 => ?_) (fun c_55 => ?_)
          · have b_56 := gx_ne (X := (Int32.toInt n3)) (C := (Int32.toInt n2)) rfl rfl c_55
            refine lv_iload_n hx hb dX8_kind_41 rfl (lv_at hl 1 rfl) ?_
            refine lv_iconst (v := 3) hx hb dX8_kind_42 (by decide) ?_
            refine lv_icmp_lt (tgt := 72) hx hb dX8_kind_43 (by decide) (fun c_57 => ?_) (fun c_57 => ?_)
            · have b_58 := gx_lt (X := (Int32.toInt n1)) (C := 3) rfl (by decide) c_57
              refine lv_iload_n hx hb dX8_kind_72 rfl (lv_at hl 1 rfl) ?_
              refine hx_top (y := 2) (fx_sing (C := 2) (by decide) (by omega)) ?_
              refine lv_if_lt (tgt := 81) hx hb dX8_kind_73 (by decide) (fun h => absurd h (by decide)) (fun _ => ?_)
              refine lv_iload_n hx hb dX8_kind_76 rfl (lv_at hl 1 rfl) ?_
              refine hx_top (y := 2) (fx_sing (C := 2) (by decide) (by omega)) ?_
              refine lv_iconst (v := 3) hx hb dX8_kind_77 (by decide) ?_
              refine lv_icmp_le (tgt := 84) hx hb dX8_kind_78 (by decide) (fun _ => ?_) (fun h => absurd (by decide) h)
              refine lv_aload_n hx hb dX8_kind_84 rfl (lv_at hl 0 rfl) ?_
              refine va_get (D := (dC, dI)) (ci := 7) (v := .ref p1) (C := RX8) (T := TX8) (N := 6) hx hb hts inB_8 hown hK hP 0 rfl rfl 0 (by decide) (hts _ mw_1_168) (fun _ h9 => h9) rfl dX8_kind_85 ?_
              have hPc := hP.sub (ws' := [(p1, .inr (1, [.ref b0, .ref b1, .ref b2, .ref b3, .ref b4, .ref r0, .int (nI cn), .int bb]))]) [1] rfl
              have hDc := hD.sub (ws' := [(p1, .inr (1, [.ref b0, .ref b1, .ref b2, .ref b3, .ref b4, .ref r0, .int (nI cn), .int bb]))]) [1] (by decide) rfl
              have hKc := hK.sub (tys' := []) [] rfl
              refine va_calli (va_runV (As := []) (rest := []) ⟨hx, hb, hml, hown, hts⟩ (c_isFull l dC dI H.size p1 (.ref b0) (.ref b1) (.ref b2) (.ref b3) (.ref b4) (.ref r0) cn (.int bb) hc) (cwV 0 hts (gV mw_1_195 mw_1_196 mw_1_197 mw_1_2 mw_1_198) rfl rfl rfl (by decide +kernel) ⟨Nat.le_of_ble_eq_true rfl, Nat.le_of_ble_eq_true rfl⟩) ⟨pcW_blind, va_recv hKc hPc (ci := 1) (q0 := 0) rfl rfl, pcW_at hPc hKc hDc hN⟩ rfl rfl hl.1 rfl (lv_room (Nat.le_of_ble_eq_true rfl)) dX8_kind_88 ⟨Nat.le_of_ble_eq_true rfl, Nat.le_of_ble_eq_true rfl⟩) hS (fun q h1 h2 => absurd h2 (Nat.not_le.mpr h1)) (fun q h => hA q (Nat.le_trans hS.1 h)) (fun r_59 u t H1 locs ht hvm hw_59 hB hz1 hk1 hS => ?_)
              have hP := keepP hP hk1
              clear hz1 hk1 hB ht hvm hPc hDc hKc
              generalize H1 = H at hP hS ⊢
              rcases fx_bool hw_59 with ⟨rfl, b_60⟩ | ⟨rfl, b_60⟩
              · skip
                refine lv_if_eq (tgt := 97) hx hb dX8_kind_91 (by decide) (fun h => absurd h (by decide)) (fun _ => ?_)
                refine lv_bipush (v := (-4)) hx hb dX8_kind_94 (by decide) ?_
                have hF9 : ((-4) : Int32) = F_kind cn n1 n2 n3 n4 := (by (unfold F_kind; repeat' split) <;> first | rfl | (exfalso; omega))
                have hP9 := hP.sub (ws' := [(h0, .inr (7, [.ref p1, u1, u2, u3, u4, u5])), (p1, .inr (1, [.ref b0, .ref b1, .ref b2, .ref b3, .ref b4, .ref r0, .int (nI cn), .int bb])), (b0, .inl (kb0, 10, .inl fab)), (b1, .inl (kb1, 10, .inl fle)), (b2, .inl (kb2, 10, .inl fqu)), (b3, .inl (kb3, 100, .inl fli)), (b4, .inl (kb4, 3, .inl fpa)), (r0, .inr (4, [.ref g0, .ref g1, .ref g2, .int rc])), (g0, .inl (kg0, 40, .inl fc)), (g1, .inl (kg1, 4, .inl fh)), (g2, .inl (kg2, 4, .inl fl))]) [0, 1, 2, 3, 4, 5, 6, 7, 8, 9, 10] rfl
                have hD9 := hD.sub (ws' := [(h0, .inr (7, [.ref p1, u1, u2, u3, u4, u5])), (p1, .inr (1, [.ref b0, .ref b1, .ref b2, .ref b3, .ref b4, .ref r0, .int (nI cn), .int bb])), (b0, .inl (kb0, 10, .inl fab)), (b1, .inl (kb1, 10, .inl fle)), (b2, .inl (kb2, 10, .inl fqu)), (b3, .inl (kb3, 100, .inl fli)), (b4, .inl (kb4, 3, .inl fpa)), (r0, .inr (4, [.ref g0, .ref g1, .ref g2, .int rc])), (g0, .inl (kg0, 40, .inl fc)), (g1, .inl (kg1, 4, .inl fh)), (g2, .inl (kg2, 4, .inl fl))]) [0, 1, 2, 3, 4, 5, 6, 7, 8, 9, 10] (by decide) rfl
                have hK9 := hK.sub (tys' := [(kb0, .int), (kb1, .int), (kb2, .int), (kb3, .int), (kb4, .int), (kg0, .int), (kg1, .int), (kg2, .int)]) [0, 1, 2, 3, 4, 5, 6, 7] rfl
                exact W.iret (v := (-4)) hx hb hr (fun t ht hW => ⟨⟨(-4), (), rfl, hF9, cn, fab, fle, fqu, fli, fpa, rc, fc, fh, fl, (K_no (v := (-4)) hF9 (by decide)), (KA_no (v := (-4)) hF9 (by decide)), (kx_no (v := (-4)) hF9 (by decide)), hc, hle, hfh, hfl, by rw [ht]; exact hP9, va_K.moved hW.alike hK9, hD9⟩, hS.F ht⟩) hS.2.2 dX8_kind_96
              · skip
                refine lv_if_eq (tgt := 97) hx hb dX8_kind_91 (by decide) (fun _ => ?_) (fun h => absurd (by decide) h)
                obtain ⟨j_61, tj_61, ej_61⟩ := fx_nat (x := n1) (by omega)
                subst ej_61
                have yj_61 : Int32.toInt (nI j_61) = (j_61 : Int) := nI_toInt tj_61
                refine lv_aload_n hx hb dX8_kind_97 rfl (lv_at hl 0 rfl) ?_
                refine va_get (D := (dC, dI)) (ci := 7) (v := .ref p1) (C := RX8) (T := TX8) (N := 6) hx hb hts inB_8 hown hK hP 0 rfl rfl 0 (by decide) (hts _ mw_1_168) (fun _ h9 => h9) rfl dX8_kind_98 ?_
                refine lv_iload_n hx hb dX8_kind_101 rfl (lv_at hl 1 rfl) ?_
                refine lv_iload_n hx hb dX8_kind_102 rfl (lv_at hl 2 rfl) ?_
                refine lv_iload_n hx hb dX8_kind_103 rfl (lv_at hl 3 rfl) ?_
                refine lv_iload hx hb dX8_kind_104 (lv_at hl 4 rfl) ?_
                have hPc := hP.sub (ws' := [(p1, .inr (1, [.ref b0, .ref b1, .ref b2, .ref b3, .ref b4, .ref r0, .int (nI cn), .int bb])), (b0, .inl (kb0, 10, .inl fab)), (b1, .inl (kb1, 10, .inl fle)), (b2, .inl (kb2, 10, .inl fqu)), (b3, .inl (kb3, 100, .inl fli)), (b4, .inl (kb4, 3, .inl fpa)), (r0, .inr (4, [.ref g0, .ref g1, .ref g2, .int rc])), (g0, .inl (kg0, 40, .inl fc)), (g1, .inl (kg1, 4, .inl fh)), (g2, .inl (kg2, 4, .inl fl))]) [1, 2, 3, 4, 5, 6, 7, 8, 9, 10] rfl
                have hDc := hD.sub (ws' := [(p1, .inr (1, [.ref b0, .ref b1, .ref b2, .ref b3, .ref b4, .ref r0, .int (nI cn), .int bb])), (b0, .inl (kb0, 10, .inl fab)), (b1, .inl (kb1, 10, .inl fle)), (b2, .inl (kb2, 10, .inl fqu)), (b3, .inl (kb3, 100, .inl fli)), (b4, .inl (kb4, 3, .inl fpa)), (r0, .inr (4, [.ref g0, .ref g1, .ref g2, .int rc])), (g0, .inl (kg0, 40, .inl fc)), (g1, .inl (kg1, 4, .inl fh)), (g2, .inl (kg2, 4, .inl fl))]) [1, 2, 3, 4, 5, 6, 7, 8, 9, 10] (by decide) rfl
                have hKc := hK.sub (tys' := [(kb0, .int), (kb1, .int), (kb2, .int), (kb3, .int), (kb4, .int), (kg0, .int), (kg1, .int), (kg2, .int)]) [0, 1, 2, 3, 4, 5, 6, 7] rfl
                have hFc := va_free (wc := [(p1, .inr (1, [.ref b0, .ref b1, .ref b2, .ref b3, .ref b4, .ref r0, .int (nI cn), .int bb])), (b0, .inl (kb0, 10, .inl fab)), (b1, .inl (kb1, 10, .inl fle)), (b2, .inl (kb2, 10, .inl fqu)), (b3, .inl (kb3, 100, .inl fli)), (b4, .inl (kb4, 3, .inl fpa)), (r0, .inr (4, [.ref g0, .ref g1, .ref g2, .int rc])), (g0, .inl (kg0, 40, .inl fc)), (g1, .inl (kg1, 4, .inl fh)), (g2, .inl (kg2, 4, .inl fl))]) hD hS hA [1, 2, 3, 4, 5, 6, 7, 8, 9, 10] rfl
                refine va_calli (va_runV (As := [.int (nI j_61), .int n2, .int n3, .int n4]) (rest := []) ⟨hx, hb, hml, hown, hts⟩ (c_add l dC dI H.size p1 b0 b1 b2 b3 b4 r0 cn (.int bb) kb0 fab kb1 fle kb2 fqu kb3 fli kb4 fpa g0 g1 g2 rc kg0 fc kg1 fh kg2 fl j_61 n2 n3 n4 (by omega) hle (by omega) hfh hfl (pv_3 (by omega) (fun q => by omega) (fun q => by omega) (fun q => by omega)) hlk) (cwV 4 hts (gV mw_1_199 mw_1_200 mw_1_201 mw_1_2 mw_1_202) rfl rfl rfl (by decide +kernel) ⟨Nat.le_of_ble_eq_true rfl, Nat.le_of_ble_eq_true rfl⟩) ⟨pcW_blind, va_recv hKc hPc (ci := 1) (q0 := 0) rfl rfl, pcW_at hPc hKc hDc hN⟩ rfl rfl hl.1 rfl (lv_room (Nat.le_of_ble_eq_true rfl)) dX8_kind_106 ⟨Nat.le_of_ble_eq_true rfl, Nat.le_of_ble_eq_true rfl⟩) hS (fun q _ h => hFc q h) hFc (fun r_62 u t H1 locs ht hvm hw_62 hB hz1 hk1 hS => ?_)
                obtain ⟨q_63, f_64, f_65, f_66, f_67, f_68, z_69, f_70, f_71, f_72, p_73, p_74, p_75, p_76, p_77, p_78, hP1, hK1, hD1⟩ := hB
                rw [ht] at hP1
                have hK1 := va_K.moved hvm.symm hK1
                obtain ⟨hP, hD⟩ := va_join (wr := [(h0, .inr (7, [.ref p1, u1, u2, u3, u4, u5]))]) (w1 := [(p1, .inr (1, [.ref b0, .ref b1, .ref b2, .ref b3, .ref b4, .ref r0, .int (nI q_63), .int bb])), (b0, .inl (kb0, 10, .inl f_64)), (b1, .inl (kb1, 10, .inl f_65)), (b2, .inl (kb2, 10, .inl f_66)), (b3, .inl (kb3, 100, .inl f_67)), (b4, .inl (kb4, 3, .inl f_68)), (r0, .inr (4, [.ref g0, .ref g1, .ref g2, .int z_69])), (g0, .inl (kg0, 40, .inl f_70)), (g1, .inl (kg1, 4, .inl f_71)), (g2, .inl (kg2, 4, .inl f_72))]) hP hD [1, 2, 3, 4, 5, 6, 7, 8, 9, 10] [0] rfl rfl (by decide) (by decide) hk1 hFc hP1 hD1
                have hK := (hK.sub (tys' := []) [] rfl).app hK1
                clear hz1 hk1 hPc hDc hKc hFc
                generalize H1 = H at hP hS ⊢
                have hK : va_K (dC, dI) vwCl [(kb0, .int), (kb1, .int), (kb2, .int), (kb3, .int), (kb4, .int), (kg0, .int), (kg1, .int), (kg2, .int)] s := hK
                have hP : va_P (dC, dI) vwCl [(h0, .inr (7, [.ref p1, u1, u2, u3, u4, u5])), (p1, .inr (1, [.ref b0, .ref b1, .ref b2, .ref b3, .ref b4, .ref r0, .int (nI q_63), .int bb])), (b0, .inl (kb0, 10, .inl f_64)), (b1, .inl (kb1, 10, .inl f_65)), (b2, .inl (kb2, 10, .inl f_66)), (b3, .inl (kb3, 100, .inl f_67)), (b4, .inl (kb4, 3, .inl f_68)), (r0, .inr (4, [.ref g0, .ref g1, .ref g2, .int z_69])), (g0, .inl (kg0, 40, .inl f_70)), (g1, .inl (kg1, 4, .inl f_71)), (g2, .inl (kg2, 4, .inl f_72))] H := hP
                have hD : va_D A [(h0, .inr (7, [.ref p1, u1, u2, u3, u4, u5])), (p1, .inr (1, [.ref b0, .ref b1, .ref b2, .ref b3, .ref b4, .ref r0, .int (nI q_63), .int bb])), (b0, .inl (kb0, 10, .inl f_64)), (b1, .inl (kb1, 10, .inl f_65)), (b2, .inl (kb2, 10, .inl f_66)), (b3, .inl (kb3, 100, .inl f_67)), (b4, .inl (kb4, 3, .inl f_68)), (r0, .inr (4, [.ref g0, .ref g1, .ref g2, .int z_69])), (g0, .inl (kg0, 40, .inl f_70)), (g1, .inl (kg1, 4, .inl f_71)), (g2, .inl (kg2, 4, .inl f_72))] := hD
                obtain rfl : r_62 = nI cn := hw_62
                have hF9 : nI cn = F_kind cn (nI j_61) n2 n3 n4 := (by (unfold F_kind; repeat' split) <;> first | rfl | (exfalso; omega))
                have hP9 := hP.sub (ws' := [(h0, .inr (7, [.ref p1, u1, u2, u3, u4, u5])), (p1, .inr (1, [.ref b0, .ref b1, .ref b2, .ref b3, .ref b4, .ref r0, .int (nI q_63), .int bb])), (b0, .inl (kb0, 10, .inl f_64)), (b1, .inl (kb1, 10, .inl f_65)), (b2, .inl (kb2, 10, .inl f_66)), (b3, .inl (kb3, 100, .inl f_67)), (b4, .inl (kb4, 3, .inl f_68)), (r0, .inr (4, [.ref g0, .ref g1, .ref g2, .int z_69])), (g0, .inl (kg0, 40, .inl f_70)), (g1, .inl (kg1, 4, .inl f_71)), (g2, .inl (kg2, 4, .inl f_72))]) [0, 1, 2, 3, 4, 5, 6, 7, 8, 9, 10] rfl
                have hD9 := hD.sub (ws' := [(h0, .inr (7, [.ref p1, u1, u2, u3, u4, u5])), (p1, .inr (1, [.ref b0, .ref b1, .ref b2, .ref b3, .ref b4, .ref r0, .int (nI q_63), .int bb])), (b0, .inl (kb0, 10, .inl f_64)), (b1, .inl (kb1, 10, .inl f_65)), (b2, .inl (kb2, 10, .inl f_66)), (b3, .inl (kb3, 100, .inl f_67)), (b4, .inl (kb4, 3, .inl f_68)), (r0, .inr (4, [.ref g0, .ref g1, .ref g2, .int z_69])), (g0, .inl (kg0, 40, .inl f_70)), (g1, .inl (kg1, 4, .inl f_71)), (g2, .inl (kg2, 4, .inl f_72))]) [0, 1, 2, 3, 4, 5, 6, 7, 8, 9, 10] (by decide) rfl
                have hK9 := hK.sub (tys' := [(kb0, .int), (kb1, .int), (kb2, .int), (kb3, .int), (kb4, .int), (kg0, .int), (kg1, .int), (kg2, .int)]) [0, 1, 2, 3, 4, 5, 6, 7] rfl
                exact W.iret (v := (nI cn)) hx hb hr (fun t ht hW => ⟨⟨(nI cn), (), rfl, hF9, q_63, f_64, f_65, f_66, f_67, f_68, z_69, f_70, f_71, f_72, (p_73.trans (K_yes hF9 (by omega))), (KA_yes hF9 (by omega) (nI_clamp (by omega)) p_74), (kx_yes hF9 (by omega) (nI_clamp (by omega)) p_75), (by omega), p_76, p_77, p_78, by rw [ht]; exact hP9, va_K.moved hW.alike hK9, hD9⟩, hS.F ht⟩) hS.2.2 dX8_kind_109
            · have b_58 := gn_lt (X := (Int32.toInt n1)) (C := 3) rfl (by decide) c_57
              refine lv_aload_n hx hb dX8_kind_46 rfl (lv_at hl 0 rfl) ?_
              refine va_get (D := (dC, dI)) (ci := 7) (v := .ref p1) (C := RX8) (T := TX8) (N := 6) hx hb hts inB_8 hown hK hP 0 rfl rfl 0 (by decide) (hts _ mw_1_168) (fun _ h9 => h9) rfl dX8_kind_47 ?_
              refine lv_iload hx hb dX8_kind_50 (lv_at hl 4 rfl) ?_
              have hPc := hP.sub (ws' := [(p1, .inr (1, [.ref b0, .ref b1, .ref b2, .ref b3, .ref b4, .ref r0, .int (nI cn), .int bb]))]) [1] rfl
              have hDc := hD.sub (ws' := [(p1, .inr (1, [.ref b0, .ref b1, .ref b2, .ref b3, .ref b4, .ref r0, .int (nI cn), .int bb]))]) [1] (by decide) rfl
              have hKc := hK.sub (tys' := []) [] rfl
              refine va_calli (va_runV (As := [.int n4]) (rest := []) ⟨hx, hb, hml, hown, hts⟩ (c_knows l dC dI H.size p1 (.ref b0) (.ref b1) (.ref b2) (.ref b3) (.ref b4) (.ref r0) cn (.int bb) n4 hc) (cwV 1 hts (gV mw_1_191 mw_1_192 mw_1_193 mw_1_2 mw_1_194) rfl rfl rfl (by decide +kernel) ⟨Nat.le_of_ble_eq_true rfl, Nat.le_of_ble_eq_true rfl⟩) ⟨pcW_blind, va_recv hKc hPc (ci := 1) (q0 := 0) rfl rfl, pcW_at hPc hKc hDc hN⟩ rfl rfl hl.1 rfl (lv_room (Nat.le_of_ble_eq_true rfl)) dX8_kind_52 ⟨Nat.le_of_ble_eq_true rfl, Nat.le_of_ble_eq_true rfl⟩) hS (fun q h1 h2 => absurd h2 (Nat.not_le.mpr h1)) (fun q h => hA q (Nat.le_trans hS.1 h)) (fun r_79 u t H1 locs ht hvm hw_79 hB hz1 hk1 hS => ?_)
              have hP := keepP hP hk1
              clear hz1 hk1 hB ht hvm hPc hDc hKc
              generalize H1 = H at hP hS ⊢
              rcases fx_bool hw_79 with ⟨rfl, b_80⟩ | ⟨rfl, b_80⟩
              · skip
                refine lv_if_eq (tgt := 70) hx hb dX8_kind_55 (by decide) (fun h => absurd h (by decide)) (fun _ => ?_)
                refine lv_iload hx hb dX8_kind_58 (lv_at hl 4 rfl) ?_
                refine lv_iload_n hx hb dX8_kind_60 rfl (lv_at hl 2 rfl) ?_
                refine lv_icmp_eq (tgt := 70) hx hb dX8_kind_61 (by decide) (fun c_81 => ?_) (fun c_81 => ?_)
                · have b_82 := gx_eq (X := (Int32.toInt n4)) (C := (Int32.toInt n2)) rfl rfl c_81
                  refine lv_iconst (v := (-1)) hx hb dX8_kind_70 (by decide) ?_
                  have hF9 : ((-1) : Int32) = F_kind cn n1 n2 n3 n4 := (by (unfold F_kind; repeat' split) <;> first | rfl | (exfalso; omega))
                  have hP9 := hP.sub (ws' := [(h0, .inr (7, [.ref p1, u1, u2, u3, u4, u5])), (p1, .inr (1, [.ref b0, .ref b1, .ref b2, .ref b3, .ref b4, .ref r0, .int (nI cn), .int bb])), (b0, .inl (kb0, 10, .inl fab)), (b1, .inl (kb1, 10, .inl fle)), (b2, .inl (kb2, 10, .inl fqu)), (b3, .inl (kb3, 100, .inl fli)), (b4, .inl (kb4, 3, .inl fpa)), (r0, .inr (4, [.ref g0, .ref g1, .ref g2, .int rc])), (g0, .inl (kg0, 40, .inl fc)), (g1, .inl (kg1, 4, .inl fh)), (g2, .inl (kg2, 4, .inl fl))]) [0, 1, 2, 3, 4, 5, 6, 7, 8, 9, 10] rfl
                  have hD9 := hD.sub (ws' := [(h0, .inr (7, [.ref p1, u1, u2, u3, u4, u5])), (p1, .inr (1, [.ref b0, .ref b1, .ref b2, .ref b3, .ref b4, .ref r0, .int (nI cn), .int bb])), (b0, .inl (kb0, 10, .inl fab)), (b1, .inl (kb1, 10, .inl fle)), (b2, .inl (kb2, 10, .inl fqu)), (b3, .inl (kb3, 100, .inl fli)), (b4, .inl (kb4, 3, .inl fpa)), (r0, .inr (4, [.ref g0, .ref g1, .ref g2, .int rc])), (g0, .inl (kg0, 40, .inl fc)), (g1, .inl (kg1, 4, .inl fh)), (g2, .inl (kg2, 4, .inl fl))]) [0, 1, 2, 3, 4, 5, 6, 7, 8, 9, 10] (by decide) rfl
                  have hK9 := hK.sub (tys' := [(kb0, .int), (kb1, .int), (kb2, .int), (kb3, .int), (kb4, .int), (kg0, .int), (kg1, .int), (kg2, .int)]) [0, 1, 2, 3, 4, 5, 6, 7] rfl
                  exact W.iret (v := (-1)) hx hb hr (fun t ht hW => ⟨⟨(-1), (), rfl, hF9, cn, fab, fle, fqu, fli, fpa, rc, fc, fh, fl, (K_no (v := (-1)) hF9 (by decide)), (KA_no (v := (-1)) hF9 (by decide)), (kx_no (v := (-1)) hF9 (by decide)), hc, hle, hfh, hfl, by rw [ht]; exact hP9, va_K.moved hW.alike hK9, hD9⟩, hS.F ht⟩) hS.2.2 dX8_kind_71
                · have b_82 := gn_eq (X := (Int32.toInt n4)) (C := (Int32.toInt n2)) rfl rfl c_81
                  refine lv_iload hx hb dX8_kind_64 (lv_at hl 4 rfl) ?_
                  refine lv_iload_n hx hb dX8_kind_66 rfl (lv_at hl 3 rfl) ?_
                  refine lv_icmp_ne (tgt := 72) hx hb dX8_kind_67 (by decide) (fun c_83 => ?_) (fun c_83 => ?_)
                  · have b_84 := gx_ne (X := (Int32.toInt n4)) (C := (Int32.toInt n3)) rfl rfl c_83
                    refine lv_iload_n hx hb dX8_kind_72 rfl (lv_at hl 1 rfl) ?_
                    refine lv_if_lt (tgt := 81) hx hb dX8_kind_73 (by decide) (fun h => absurd (gx_lt (X := (Int32.toInt n1)) (C := 0) rfl (by decide) h) (by omega)) (fun c_85 => ?_)
                    have b_86 := gn_lt (X := (Int32.toInt n1)) (C := 0) rfl (by decide) c_85
                    refine lv_iload_n hx hb dX8_kind_76 rfl (lv_at hl 1 rfl) ?_
                    refine lv_iconst (v := 3) hx hb dX8_kind_77 (by decide) ?_
                    refine lv_icmp_le (tgt := 84) hx hb dX8_kind_78 (by decide) (fun c_87 => ?_) (fun c_87 => ?_)
                    · have b_88 := gx_le (X := (Int32.toInt n1)) (C := 3) rfl (by decide) c_87
                      refine lv_aload_n hx hb dX8_kind_84 rfl (lv_at hl 0 rfl) ?_
                      refine va_get (D := (dC, dI)) (ci := 7) (v := .ref p1) (C := RX8) (T := TX8) (N := 6) hx hb hts inB_8 hown hK hP 0 rfl rfl 0 (by decide) (hts _ mw_1_168) (fun _ h9 => h9) rfl dX8_kind_85 ?_
                      have hPc := hP.sub (ws' := [(p1, .inr (1, [.ref b0, .ref b1, .ref b2, .ref b3, .ref b4, .ref r0, .int (nI cn), .int bb]))]) [1] rfl
                      have hDc := hD.sub (ws' := [(p1, .inr (1, [.ref b0, .ref b1, .ref b2, .ref b3, .ref b4, .ref r0, .int (nI cn), .int bb]))]) [1] (by decide) rfl
                      have hKc := hK.sub (tys' := []) [] rfl
                      refine va_calli (va_runV (As := []) (rest := []) ⟨hx, hb, hml, hown, hts⟩ (c_isFull l dC dI H.size p1 (.ref b0) (.ref b1) (.ref b2) (.ref b3) (.ref b4) (.ref r0) cn (.int bb) hc) (cwV 0 hts (gV mw_1_195 mw_1_196 mw_1_197 mw_1_2 mw_1_198) rfl rfl rfl (by decide +kernel) ⟨Nat.le_of_ble_eq_true rfl, Nat.le_of_ble_eq_true rfl⟩) ⟨pcW_blind, va_recv hKc hPc (ci := 1) (q0 := 0) rfl rfl, pcW_at hPc hKc hDc hN⟩ rfl rfl hl.1 rfl (lv_room (Nat.le_of_ble_eq_true rfl)) dX8_kind_88 ⟨Nat.le_of_ble_eq_true rfl, Nat.le_of_ble_eq_true rfl⟩) hS (fun q h1 h2 => absurd h2 (Nat.not_le.mpr h1)) (fun q h => hA q (Nat.le_trans hS.1 h)) (fun r_89 u t H1 locs ht hvm hw_89 hB hz1 hk1 hS => ?_)
                      have hP := keepP hP hk1
                      clear hz1 hk1 hB ht hvm hPc hDc hKc
                      generalize H1 = H at hP hS ⊢
                      rcases fx_bool hw_89 with ⟨rfl, b_90⟩ | ⟨rfl, b_90⟩
                      · skip
                        refine lv_if_eq (tgt := 97) hx hb dX8_kind_91 (by decide) (fun h => absurd h (by decide)) (fun _ => ?_)
                        refine lv_bipush (v := (-4)) hx hb dX8_kind_94 (by decide) ?_
                        have hF9 : ((-4) : Int32) = F_kind cn n1 n2 n3 n4 := (by (unfold F_kind; repeat' split) <;> first | rfl | (exfalso; omega))
                        have hP9 := hP.sub (ws' := [(h0, .inr (7, [.ref p1, u1, u2, u3, u4, u5])), (p1, .inr (1, [.ref b0, .ref b1, .ref b2, .ref b3, .ref b4, .ref r0, .int (nI cn), .int bb])), (b0, .inl (kb0, 10, .inl fab)), (b1, .inl (kb1, 10, .inl fle)), (b2, .inl (kb2, 10, .inl fqu)), (b3, .inl (kb3, 100, .inl fli)), (b4, .inl (kb4, 3, .inl fpa)), (r0, .inr (4, [.ref g0, .ref g1, .ref g2, .int rc])), (g0, .inl (kg0, 40, .inl fc)), (g1, .inl (kg1, 4, .inl fh)), (g2, .inl (kg2, 4, .inl fl))]) [0, 1, 2, 3, 4, 5, 6, 7, 8, 9, 10] rfl
                        have hD9 := hD.sub (ws' := [(h0, .inr (7, [.ref p1, u1, u2, u3, u4, u5])), (p1, .inr (1, [.ref b0, .ref b1, .ref b2, .ref b3, .ref b4, .ref r0, .int (nI cn), .int bb])), (b0, .inl (kb0, 10, .inl fab)), (b1, .inl (kb1, 10, .inl fle)), (b2, .inl (kb2, 10, .inl fqu)), (b3, .inl (kb3, 100, .inl fli)), (b4, .inl (kb4, 3, .inl fpa)), (r0, .inr (4, [.ref g0, .ref g1, .ref g2, .int rc])), (g0, .inl (kg0, 40, .inl fc)), (g1, .inl (kg1, 4, .inl fh)), (g2, .inl (kg2, 4, .inl fl))]) [0, 1, 2, 3, 4, 5, 6, 7, 8, 9, 10] (by decide) rfl
                        have hK9 := hK.sub (tys' := [(kb0, .int), (kb1, .int), (kb2, .int), (kb3, .int), (kb4, .int), (kg0, .int), (kg1, .int), (kg2, .int)]) [0, 1, 2, 3, 4, 5, 6, 7] rfl
                        exact W.iret (v := (-4)) hx hb hr (fun t ht hW => ⟨⟨(-4), (), rfl, hF9, cn, fab, fle, fqu, fli, fpa, rc, fc, fh, fl, (K_no (v := (-4)) hF9 (by decide)), (KA_no (v := (-4)) hF9 (by decide)), (kx_no (v := (-4)) hF9 (by decide)), hc, hle, hfh, hfl, by rw [ht]; exact hP9, va_K.moved hW.alike hK9, hD9⟩, hS.F ht⟩) hS.2.2 dX8_kind_96
                      · skip
                        refine lv_if_eq (tgt := 97) hx hb dX8_kind_91 (by decide) (fun _ => ?_) (fun h => absurd (by decide) h)
                        obtain ⟨j_91, tj_91, ej_91⟩ := fx_nat (x := n1) (by omega)
                        subst ej_91
                        have yj_91 : Int32.toInt (nI j_91) = (j_91 : Int) := nI_toInt tj_91
                        refine lv_aload_n hx hb dX8_kind_97 rfl (lv_at hl 0 rfl) ?_
                        refine va_get (D := (dC, dI)) (ci := 7) (v := .ref p1) (C := RX8) (T := TX8) (N := 6) hx hb hts inB_8 hown hK hP 0 rfl rfl 0 (by decide) (hts _ mw_1_168) (fun _ h9 => h9) rfl dX8_kind_98 ?_
                        refine lv_iload_n hx hb dX8_kind_101 rfl (lv_at hl 1 rfl) ?_
                        refine lv_iload_n hx hb dX8_kind_102 rfl (lv_at hl 2 rfl) ?_
                        refine lv_iload_n hx hb dX8_kind_103 rfl (lv_at hl 3 rfl) ?_
                        refine lv_iload hx hb dX8_kind_104 (lv_at hl 4 rfl) ?_
                        have hPc := hP.sub (ws' := [(p1, .inr (1, [.ref b0, .ref b1, .ref b2, .ref b3, .ref b4, .ref r0, .int (nI cn), .int bb])), (b0, .inl (kb0, 10, .inl fab)), (b1, .inl (kb1, 10, .inl fle)), (b2, .inl (kb2, 10, .inl fqu)), (b3, .inl (kb3, 100, .inl fli)), (b4, .inl (kb4, 3, .inl fpa)), (r0, .inr (4, [.ref g0, .ref g1, .ref g2, .int rc])), (g0, .inl (kg0, 40, .inl fc)), (g1, .inl (kg1, 4, .inl fh)), (g2, .inl (kg2, 4, .inl fl))]) [1, 2, 3, 4, 5, 6, 7, 8, 9, 10] rfl
                        have hDc := hD.sub (ws' := [(p1, .inr (1, [.ref b0, .ref b1, .ref b2, .ref b3, .ref b4, .ref r0, .int (nI cn), .int bb])), (b0, .inl (kb0, 10, .inl fab)), (b1, .inl (kb1, 10, .inl fle)), (b2, .inl (kb2, 10, .inl fqu)), (b3, .inl (kb3, 100, .inl fli)), (b4, .inl (kb4, 3, .inl fpa)), (r0, .inr (4, [.ref g0, .ref g1, .ref g2, .int rc])), (g0, .inl (kg0, 40, .inl fc)), (g1, .inl (kg1, 4, .inl fh)), (g2, .inl (kg2, 4, .inl fl))]) [1, 2, 3, 4, 5, 6, 7, 8, 9, 10] (by decide) rfl
                        have hKc := hK.sub (tys' := [(kb0, .int), (kb1, .int), (kb2, .int), (kb3, .int), (kb4, .int), (kg0, .int), (kg1, .int), (kg2, .int)]) [0, 1, 2, 3, 4, 5, 6, 7] rfl
                        have hFc := va_free (wc := [(p1, .inr (1, [.ref b0, .ref b1, .ref b2, .ref b3, .ref b4, .ref r0, .int (nI cn), .int bb])), (b0, .inl (kb0, 10, .inl fab)), (b1, .inl (kb1, 10, .inl fle)), (b2, .inl (kb2, 10, .inl fqu)), (b3, .inl (kb3, 100, .inl fli)), (b4, .inl (kb4, 3, .inl fpa)), (r0, .inr (4, [.ref g0, .ref g1, .ref g2, .int rc])), (g0, .inl (kg0, 40, .inl fc)), (g1, .inl (kg1, 4, .inl fh)), (g2, .inl (kg2, 4, .inl fl))]) hD hS hA [1, 2, 3, 4, 5, 6, 7, 8, 9, 10] rfl
                        refine va_calli (va_runV (As := [.int (nI j_91), .int n2, .int n3, .int n4]) (rest := []) ⟨hx, hb, hml, hown, hts⟩ (c_add l dC dI H.size p1 b0 b1 b2 b3 b4 r0 cn (.int bb) kb0 fab kb1 fle kb2 fqu kb3 fli kb4 fpa g0 g1 g2 rc kg0 fc kg1 fh kg2 fl j_91 n2 n3 n4 (by omega) hle (by omega) hfh hfl (pv_3 (by omega) (fun q => by omega) (fun q => by omega) (fun q => by omega)) hlk) (cwV 4 hts (gV mw_1_199 mw_1_200 mw_1_201 mw_1_2 mw_1_202) rfl rfl rfl (by decide +kernel) ⟨Nat.le_of_ble_eq_true rfl, Nat.le_of_ble_eq_true rfl⟩) ⟨pcW_blind, va_recv hKc hPc (ci := 1) (q0 := 0) rfl rfl, pcW_at hPc hKc hDc hN⟩ rfl rfl hl.1 rfl (lv_room (Nat.le_of_ble_eq_true rfl)) dX8_kind_106 ⟨Nat.le_of_ble_eq_true rfl, Nat.le_of_ble_eq_true rfl⟩) hS (fun q _ h => hFc q h) hFc (fun r_92 u t H1 locs ht hvm hw_92 hB hz1 hk1 hS => ?_)
                        obtain ⟨q_93, f_94, f_95, f_96, f_97, f_98, z_99, f_100, f_101, f_102, p_103, p_104, p_105, p_106, p_107, p_108, hP1, hK1, hD1⟩ := hB
                        rw [ht] at hP1
                        have hK1 := va_K.moved hvm.symm hK1
                        obtain ⟨hP, hD⟩ := va_join (wr := [(h0, .inr (7, [.ref p1, u1, u2, u3, u4, u5]))]) (w1 := [(p1, .inr (1, [.ref b0, .ref b1, .ref b2, .ref b3, .ref b4, .ref r0, .int (nI q_93), .int bb])), (b0, .inl (kb0, 10, .inl f_94)), (b1, .inl (kb1, 10, .inl f_95)), (b2, .inl (kb2, 10, .inl f_96)), (b3, .inl (kb3, 100, .inl f_97)), (b4, .inl (kb4, 3, .inl f_98)), (r0, .inr (4, [.ref g0, .ref g1, .ref g2, .int z_99])), (g0, .inl (kg0, 40, .inl f_100)), (g1, .inl (kg1, 4, .inl f_101)), (g2, .inl (kg2, 4, .inl f_102))]) hP hD [1, 2, 3, 4, 5, 6, 7, 8, 9, 10] [0] rfl rfl (by decide) (by decide) hk1 hFc hP1 hD1
                        have hK := (hK.sub (tys' := []) [] rfl).app hK1
                        clear hz1 hk1 hPc hDc hKc hFc
                        generalize H1 = H at hP hS ⊢
                        have hK : va_K (dC, dI) vwCl [(kb0, .int), (kb1, .int), (kb2, .int), (kb3, .int), (kb4, .int), (kg0, .int), (kg1, .int), (kg2, .int)] s := hK
                        have hP : va_P (dC, dI) vwCl [(h0, .inr (7, [.ref p1, u1, u2, u3, u4, u5])), (p1, .inr (1, [.ref b0, .ref b1, .ref b2, .ref b3, .ref b4, .ref r0, .int (nI q_93), .int bb])), (b0, .inl (kb0, 10, .inl f_94)), (b1, .inl (kb1, 10, .inl f_95)), (b2, .inl (kb2, 10, .inl f_96)), (b3, .inl (kb3, 100, .inl f_97)), (b4, .inl (kb4, 3, .inl f_98)), (r0, .inr (4, [.ref g0, .ref g1, .ref g2, .int z_99])), (g0, .inl (kg0, 40, .inl f_100)), (g1, .inl (kg1, 4, .inl f_101)), (g2, .inl (kg2, 4, .inl f_102))] H := hP
                        have hD : va_D A [(h0, .inr (7, [.ref p1, u1, u2, u3, u4, u5])), (p1, .inr (1, [.ref b0, .ref b1, .ref b2, .ref b3, .ref b4, .ref r0, .int (nI q_93), .int bb])), (b0, .inl (kb0, 10, .inl f_94)), (b1, .inl (kb1, 10, .inl f_95)), (b2, .inl (kb2, 10, .inl f_96)), (b3, .inl (kb3, 100, .inl f_97)), (b4, .inl (kb4, 3, .inl f_98)), (r0, .inr (4, [.ref g0, .ref g1, .ref g2, .int z_99])), (g0, .inl (kg0, 40, .inl f_100)), (g1, .inl (kg1, 4, .inl f_101)), (g2, .inl (kg2, 4, .inl f_102))] := hD
                        obtain rfl : r_92 = nI cn := hw_92
                        have hF9 : nI cn = F_kind cn (nI j_91) n2 n3 n4 := (by (unfold F_kind; repeat' split) <;> first | rfl | (exfalso; omega))
                        have hP9 := hP.sub (ws' := [(h0, .inr (7, [.ref p1, u1, u2, u3, u4, u5])), (p1, .inr (1, [.ref b0, .ref b1, .ref b2, .ref b3, .ref b4, .ref r0, .int (nI q_93), .int bb])), (b0, .inl (kb0, 10, .inl f_94)), (b1, .inl (kb1, 10, .inl f_95)), (b2, .inl (kb2, 10, .inl f_96)), (b3, .inl (kb3, 100, .inl f_97)), (b4, .inl (kb4, 3, .inl f_98)), (r0, .inr (4, [.ref g0, .ref g1, .ref g2, .int z_99])), (g0, .inl (kg0, 40, .inl f_100)), (g1, .inl (kg1, 4, .inl f_101)), (g2, .inl (kg2, 4, .inl f_102))]) [0, 1, 2, 3, 4, 5, 6, 7, 8, 9, 10] rfl
                        have hD9 := hD.sub (ws' := [(h0, .inr (7, [.ref p1, u1, u2, u3, u4, u5])), (p1, .inr (1, [.ref b0, .ref b1, .ref b2, .ref b3, .ref b4, .ref r0, .int (nI q_93), .int bb])), (b0, .inl (kb0, 10, .inl f_94)), (b1, .inl (kb1, 10, .inl f_95)), (b2, .inl (kb2, 10, .inl f_96)), (b3, .inl (kb3, 100, .inl f_97)), (b4, .inl (kb4, 3, .inl f_98)), (r0, .inr (4, [.ref g0, .ref g1, .ref g2, .int z_99])), (g0, .inl (kg0, 40, .inl f_100)), (g1, .inl (kg1, 4, .inl f_101)), (g2, .inl (kg2, 4, .inl f_102))]) [0, 1, 2, 3, 4, 5, 6, 7, 8, 9, 10] (by decide) rfl
                        have hK9 := hK.sub (tys' := [(kb0, .int), (kb1, .int), (kb2, .int), (kb3, .int), (kb4, .int), (kg0, .int), (kg1, .int), (kg2, .int)]) [0, 1, 2, 3, 4, 5, 6, 7] rfl
                        exact W.iret (v := (nI cn)) hx hb hr (fun t ht hW => ⟨⟨(nI cn), (), rfl, hF9, q_93, f_94, f_95, f_96, f_97, f_98, z_99, f_100, f_101, f_102, (p_103.trans (K_yes hF9 (by omega))), (KA_yes hF9 (by omega) (nI_clamp (by omega)) p_104), (kx_yes hF9 (by omega) (nI_clamp (by omega)) p_105), (by omega), p_106, p_107, p_108, by rw [ht]; exact hP9, va_K.moved hW.alike hK9, hD9⟩, hS.F ht⟩) hS.2.2 dX8_kind_109
                    · have b_88 := gn_le (X := (Int32.toInt n1)) (C := 3) rfl (by decide) c_87
                      refine lv_bipush (v := (-2)) hx hb dX8_kind_81 (by decide) ?_
                      have hF9 : ((-2) : Int32) = F_kind cn n1 n2 n3 n4 := (by (unfold F_kind; repeat' split) <;> first | rfl | (exfalso; omega))
                      have hP9 := hP.sub (ws' := [(h0, .inr (7, [.ref p1, u1, u2, u3, u4, u5])), (p1, .inr (1, [.ref b0, .ref b1, .ref b2, .ref b3, .ref b4, .ref r0, .int (nI cn), .int bb])), (b0, .inl (kb0, 10, .inl fab)), (b1, .inl (kb1, 10, .inl fle)), (b2, .inl (kb2, 10, .inl fqu)), (b3, .inl (kb3, 100, .inl fli)), (b4, .inl (kb4, 3, .inl fpa)), (r0, .inr (4, [.ref g0, .ref g1, .ref g2, .int rc])), (g0, .inl (kg0, 40, .inl fc)), (g1, .inl (kg1, 4, .inl fh)), (g2, .inl (kg2, 4, .inl fl))]) [0, 1, 2, 3, 4, 5, 6, 7, 8, 9, 10] rfl
                      have hD9 := hD.sub (ws' := [(h0, .inr (7, [.ref p1, u1, u2, u3, u4, u5])), (p1, .inr (1, [.ref b0, .ref b1, .ref b2, .ref b3, .ref b4, .ref r0, .int (nI cn), .int bb])), (b0, .inl (kb0, 10, .inl fab)), (b1, .inl (kb1, 10, .inl fle)), (b2, .inl (kb2, 10, .inl fqu)), (b3, .inl (kb3, 100, .inl fli)), (b4, .inl (kb4, 3, .inl fpa)), (r0, .inr (4, [.ref g0, .ref g1, .ref g2, .int rc])), (g0, .inl (kg0, 40, .inl fc)), (g1, .inl (kg1, 4, .inl fh)), (g2, .inl (kg2, 4, .inl fl))]) [0, 1, 2, 3, 4, 5, 6, 7, 8, 9, 10] (by decide) rfl
                      have hK9 := hK.sub (tys' := [(kb0, .int), (kb1, .int), (kb2, .int), (kb3, .int), (kb4, .int), (kg0, .int), (kg1, .int), (kg2, .int)]) [0, 1, 2, 3, 4, 5, 6, 7] rfl
                      exact W.iret (v := (-2)) hx hb hr (fun t ht hW => ⟨⟨(-2), (), rfl, hF9, cn, fab, fle, fqu, fli, fpa, rc, fc, fh, fl, (K_no (v := (-2)) hF9 (by decide)), (KA_no (v := (-2)) hF9 (by decide)), (kx_no (v := (-2)) hF9 (by decide)), hc, hle, hfh, hfl, by rw [ht]; exact hP9, va_K.moved hW.alike hK9, hD9⟩, hS.F ht⟩) hS.2.2 dX8_kind_83
                  · have b_84 := gn_ne (X := (Int32.toInt n4)) (C := (Int32.toInt n3)) rfl rfl c_83
                    refine lv_iconst (v := (-1)) hx hb dX8_kind_70 (by decide) ?_
                    have hF9 : ((-1) : Int32) = F_kind cn n1 n2 n3 n4 := (by (unfold F_kind; repeat' split) <;> first | rfl | (exfalso; omega))
                    have hP9 := hP.sub (ws' := [(h0, .inr (7, [.ref p1, u1, u2, u3, u4, u5])), (p1, .inr (1, [.ref b0, .ref b1, .ref b2, .ref b3, .ref b4, .ref r0, .int (nI cn), .int bb])), (b0, .inl (kb0, 10, .inl fab)), (b1, .inl (kb1, 10, .inl fle)), (b2, .inl (kb2, 10, .inl fqu)), (b3, .inl (kb3, 100, .inl fli)), (b4, .inl (kb4, 3, .inl fpa)), (r0, .inr (4, [.ref g0, .ref g1, .ref g2, .int rc])), (g0, .inl (kg0, 40, .inl fc)), (g1, .inl (kg1, 4, .inl fh)), (g2, .inl (kg2, 4, .inl fl))]) [0, 1, 2, 3, 4, 5, 6, 7, 8, 9, 10] rfl
                    have hD9 := hD.sub (ws' := [(h0, .inr (7, [.ref p1, u1, u2, u3, u4, u5])), (p1, .inr (1, [.ref b0, .ref b1, .ref b2, .ref b3, .ref b4, .ref r0, .int (nI cn), .int bb])), (b0, .inl (kb0, 10, .inl fab)), (b1, .inl (kb1, 10, .inl fle)), (b2, .inl (kb2, 10, .inl fqu)), (b3, .inl (kb3, 100, .inl fli)), (b4, .inl (kb4, 3, .inl fpa)), (r0, .inr (4, [.ref g0, .ref g1, .ref g2, .int rc])), (g0, .inl (kg0, 40, .inl fc)), (g1, .inl (kg1, 4, .inl fh)), (g2, .inl (kg2, 4, .inl fl))]) [0, 1, 2, 3, 4, 5, 6, 7, 8, 9, 10] (by decide) rfl
                    have hK9 := hK.sub (tys' := [(kb0, .int), (kb1, .int), (kb2, .int), (kb3, .int), (kb4, .int), (kg0, .int), (kg1, .int), (kg2, .int)]) [0, 1, 2, 3, 4, 5, 6, 7] rfl
                    exact W.iret (v := (-1)) hx hb hr (fun t ht hW => ⟨⟨(-1), (), rfl, hF9, cn, fab, fle, fqu, fli, fpa, rc, fc, fh, fl, (K_no (v := (-1)) hF9 (by decide)), (KA_no (v := (-1)) hF9 (by decide)), (kx_no (v := (-1)) hF9 (by decide)), hc, hle, hfh, hfl, by rw [ht]; exact hP9, va_K.moved hW.alike hK9, hD9⟩, hS.F ht⟩) hS.2.2 dX8_kind_71
              · skip
                refine lv_if_eq (tgt := 70) hx hb dX8_kind_55 (by decide) (fun _ => ?_) (fun h => absurd (by decide) h)
                refine lv_iconst (v := (-1)) hx hb dX8_kind_70 (by decide) ?_
                have hF9 : ((-1) : Int32) = F_kind cn n1 n2 n3 n4 := (by (unfold F_kind; repeat' split) <;> first | rfl | (exfalso; omega))
                have hP9 := hP.sub (ws' := [(h0, .inr (7, [.ref p1, u1, u2, u3, u4, u5])), (p1, .inr (1, [.ref b0, .ref b1, .ref b2, .ref b3, .ref b4, .ref r0, .int (nI cn), .int bb])), (b0, .inl (kb0, 10, .inl fab)), (b1, .inl (kb1, 10, .inl fle)), (b2, .inl (kb2, 10, .inl fqu)), (b3, .inl (kb3, 100, .inl fli)), (b4, .inl (kb4, 3, .inl fpa)), (r0, .inr (4, [.ref g0, .ref g1, .ref g2, .int rc])), (g0, .inl (kg0, 40, .inl fc)), (g1, .inl (kg1, 4, .inl fh)), (g2, .inl (kg2, 4, .inl fl))]) [0, 1, 2, 3, 4, 5, 6, 7, 8, 9, 10] rfl
                have hD9 := hD.sub (ws' := [(h0, .inr (7, [.ref p1, u1, u2, u3, u4, u5])), (p1, .inr (1, [.ref b0, .ref b1, .ref b2, .ref b3, .ref b4, .ref r0, .int (nI cn), .int bb])), (b0, .inl (kb0, 10, .inl fab)), (b1, .inl (kb1, 10, .inl fle)), (b2, .inl (kb2, 10, .inl fqu)), (b3, .inl (kb3, 100, .inl fli)), (b4, .inl (kb4, 3, .inl fpa)), (r0, .inr (4, [.ref g0, .ref g1, .ref g2, .int rc])), (g0, .inl (kg0, 40, .inl fc)), (g1, .inl (kg1, 4, .inl fh)), (g2, .inl (kg2, 4, .inl fl))]) [0, 1, 2, 3, 4, 5, 6, 7, 8, 9, 10] (by decide) rfl
                have hK9 := hK.sub (tys' := [(kb0, .int), (kb1, .int), (kb2, .int), (kb3, .int), (kb4, .int), (kg0, .int), (kg1, .int), (kg2, .int)]) [0, 1, 2, 3, 4, 5, 6, 7] rfl
                exact W.iret (v := (-1)) hx hb hr (fun t ht hW => ⟨⟨(-1), (), rfl, hF9, cn, fab, fle, fqu, fli, fpa, rc, fc, fh, fl, (K_no (v := (-1)) hF9 (by decide)), (KA_no (v := (-1)) hF9 (by decide)), (kx_no (v := (-1)) hF9 (by decide)), hc, hle, hfh, hfl, by rw [ht]; exact hP9, va_K.moved hW.alike hK9, hD9⟩, hS.F ht⟩) hS.2.2 dX8_kind_71
          · have b_56 := gn_ne (X := (Int32.toInt n3)) (C := (Int32.toInt n2)) rfl rfl c_55
            refine lv_iconst (v := (-1)) hx hb dX8_kind_39 (by decide) ?_
            have hF9 : ((-1) : Int32) = F_kind cn n1 n2 n3 n4 := (by (unfold F_kind; repeat' split) <;> first | rfl | (exfalso; omega))
            have hP9 := hP.sub (ws' := [(h0, .inr (7, [.ref p1, u1, u2, u3, u4, u5])), (p1, .inr (1, [.ref b0, .ref b1, .ref b2, .ref b3, .ref b4, .ref r0, .int (nI cn), .int bb])), (b0, .inl (kb0, 10, .inl fab)), (b1, .inl (kb1, 10, .inl fle)), (b2, .inl (kb2, 10, .inl fqu)), (b3, .inl (kb3, 100, .inl fli)), (b4, .inl (kb4, 3, .inl fpa)), (r0, .inr (4, [.ref g0, .ref g1, .ref g2, .int rc])), (g0, .inl (kg0, 40, .inl fc)), (g1, .inl (kg1, 4, .inl fh)), (g2, .inl (kg2, 4, .inl fl))]) [0, 1, 2, 3, 4, 5, 6, 7, 8, 9, 10] rfl
            have hD9 := hD.sub (ws' := [(h0, .inr (7, [.ref p1, u1, u2, u3, u4, u5])), (p1, .inr (1, [.ref b0, .ref b1, .ref b2, .ref b3, .ref b4, .ref r0, .int (nI cn), .int bb])), (b0, .inl (kb0, 10, .inl fab)), (b1, .inl (kb1, 10, .inl fle)), (b2, .inl (kb2, 10, .inl fqu)), (b3, .inl (kb3, 100, .inl fli)), (b4, .inl (kb4, 3, .inl fpa)), (r0, .inr (4, [.ref g0, .ref g1, .ref g2, .int rc])), (g0, .inl (kg0, 40, .inl fc)), (g1, .inl (kg1, 4, .inl fh)), (g2, .inl (kg2, 4, .inl fl))]) [0, 1, 2, 3, 4, 5, 6, 7, 8, 9, 10] (by decide) rfl
            have hK9 := hK.sub (tys' := [(kb0, .int), (kb1, .int), (kb2, .int), (kb3, .int), (kb4, .int), (kg0, .int), (kg1, .int), (kg2, .int)]) [0, 1, 2, 3, 4, 5, 6, 7] rfl
            exact W.iret (v := (-1)) hx hb hr (fun t ht hW => ⟨⟨(-1), (), rfl, hF9, cn, fab, fle, fqu, fli, fpa, rc, fc, fh, fl, (K_no (v := (-1)) hF9 (by decide)), (KA_no (v := (-1)) hF9 (by decide)), (kx_no (v := (-1)) hF9 (by decide)), hc, hle, hfh, hfl, by rw [ht]; exact hP9, va_K.moved hW.alike hK9, hD9⟩, hS.F ht⟩) hS.2.2 dX8_kind_40
        · skip
          refine lv_if_eq (tgt := 39) hx hb dX8_kind_31 (by decide) (fun _ => ?_) (fun h => absurd (by decide) h)
          refine lv_iconst (v := (-1)) hx hb dX8_kind_39 (by decide) ?_
          have hF9 : ((-1) : Int32) = F_kind cn n1 n2 n3 n4 := (by (unfold F_kind; repeat' split) <;> first | rfl | (exfalso; omega))
          have hP9 := hP.sub (ws' := [(h0, .inr (7, [.ref p1, u1, u2, u3, u4, u5])), (p1, .inr (1, [.ref b0, .ref b1, .ref b2, .ref b3, .ref b4, .ref r0, .int (nI cn), .int bb])), (b0, .inl (kb0, 10, .inl fab)), (b1, .inl (kb1, 10, .inl fle)), (b2, .inl (kb2, 10, .inl fqu)), (b3, .inl (kb3, 100, .inl fli)), (b4, .inl (kb4, 3, .inl fpa)), (r0, .inr (4, [.ref g0, .ref g1, .ref g2, .int rc])), (g0, .inl (kg0, 40, .inl fc)), (g1, .inl (kg1, 4, .inl fh)), (g2, .inl (kg2, 4, .inl fl))]) [0, 1, 2, 3, 4, 5, 6, 7, 8, 9, 10] rfl
          have hD9 := hD.sub (ws' := [(h0, .inr (7, [.ref p1, u1, u2, u3, u4, u5])), (p1, .inr (1, [.ref b0, .ref b1, .ref b2, .ref b3, .ref b4, .ref r0, .int (nI cn), .int bb])), (b0, .inl (kb0, 10, .inl fab)), (b1, .inl (kb1, 10, .inl fle)), (b2, .inl (kb2, 10, .inl fqu)), (b3, .inl (kb3, 100, .inl fli)), (b4, .inl (kb4, 3, .inl fpa)), (r0, .inr (4, [.ref g0, .ref g1, .ref g2, .int rc])), (g0, .inl (kg0, 40, .inl fc)), (g1, .inl (kg1, 4, .inl fh)), (g2, .inl (kg2, 4, .inl fl))]) [0, 1, 2, 3, 4, 5, 6, 7, 8, 9, 10] (by decide) rfl
          have hK9 := hK.sub (tys' := [(kb0, .int), (kb1, .int), (kb2, .int), (kb3, .int), (kb4, .int), (kg0, .int), (kg1, .int), (kg2, .int)]) [0, 1, 2, 3, 4, 5, 6, 7] rfl
          exact W.iret (v := (-1)) hx hb hr (fun t ht hW => ⟨⟨(-1), (), rfl, hF9, cn, fab, fle, fqu, fli, fpa, rc, fc, fh, fl, (K_no (v := (-1)) hF9 (by decide)), (KA_no (v := (-1)) hF9 (by decide)), (kx_no (v := (-1)) hF9 (by decide)), hc, hle, hfh, hfl, by rw [ht]; exact hP9, va_K.moved hW.alike hK9, hD9⟩, hS.F ht⟩) hS.2.2 dX8_kind_40
    · skip
      refine lv_if_ne (tgt := 18) hx hb dX8_kind_13 (by decide) (fun h => absurd h (by decide)) (fun _ => ?_)
      refine lv_iconst (v := (-1)) hx hb dX8_kind_16 (by decide) ?_
      have hF9 : ((-1) : Int32) = F_kind cn n1 n2 n3 n4 := (by (unfold F_kind; repeat' split) <;> first | rfl | (exfalso; omega))
      have hP9 := hP.sub (ws' := [(h0, .inr (7, [.ref p1, u1, u2, u3, u4, u5])), (p1, .inr (1, [.ref b0, .ref b1, .ref b2, .ref b3, .ref b4, .ref r0, .int (nI cn), .int bb])), (b0, .inl (kb0, 10, .inl fab)), (b1, .inl (kb1, 10, .inl fle)), (b2, .inl (kb2, 10, .inl fqu)), (b3, .inl (kb3, 100, .inl fli)), (b4, .inl (kb4, 3, .inl fpa)), (r0, .inr (4, [.ref g0, .ref g1, .ref g2, .int rc])), (g0, .inl (kg0, 40, .inl fc)), (g1, .inl (kg1, 4, .inl fh)), (g2, .inl (kg2, 4, .inl fl))]) [0, 1, 2, 3, 4, 5, 6, 7, 8, 9, 10] rfl
      have hD9 := hD.sub (ws' := [(h0, .inr (7, [.ref p1, u1, u2, u3, u4, u5])), (p1, .inr (1, [.ref b0, .ref b1, .ref b2, .ref b3, .ref b4, .ref r0, .int (nI cn), .int bb])), (b0, .inl (kb0, 10, .inl fab)), (b1, .inl (kb1, 10, .inl fle)), (b2, .inl (kb2, 10, .inl fqu)), (b3, .inl (kb3, 100, .inl fli)), (b4, .inl (kb4, 3, .inl fpa)), (r0, .inr (4, [.ref g0, .ref g1, .ref g2, .int rc])), (g0, .inl (kg0, 40, .inl fc)), (g1, .inl (kg1, 4, .inl fh)), (g2, .inl (kg2, 4, .inl fl))]) [0, 1, 2, 3, 4, 5, 6, 7, 8, 9, 10] (by decide) rfl
      have hK9 := hK.sub (tys' := [(kb0, .int), (kb1, .int), (kb2, .int), (kb3, .int), (kb4, .int), (kg0, .int), (kg1, .int), (kg2, .int)]) [0, 1, 2, 3, 4, 5, 6, 7] rfl
      exact W.iret (v := (-1)) hx hb hr (fun t ht hW => ⟨⟨(-1), (), rfl, hF9, cn, fab, fle, fqu, fli, fpa, rc, fc, fh, fl, (K_no (v := (-1)) hF9 (by decide)), (KA_no (v := (-1)) hF9 (by decide)), (kx_no (v := (-1)) hF9 (by decide)), hc, hle, hfh, hfl, by rw [ht]; exact hP9, va_K.moved hW.alike hK9, hD9⟩, hS.F ht⟩) hS.2.2 dX8_kind_17
set_option maxHeartbeats 4000000 in
set_option maxRecDepth 100000 in
theorem x_bare (l : Launch) (dC : Nat → ClassId) (dI : Nat → Nat → Nat) (sz : Nat) (h0 : Nat) (p1 : Nat) (u1 : Value) (u2 : Value) (u3 : Value) (u4 : Value) (u5 : Value) (w0 : Value) (w1 : Value) (w2 : Value) (w3 : Value) (w4 : Value) (w5 : Value) (cn : Nat) (bb : Int32) (n1 : Int32) (n2 : Int32) (hc : cn ≤ 10) : Met l yX8_bare (wq yX8_bare cX8_bare 4 (some .int)) ({ frames := 2, cells := 0, slots := 0, locals := 43 }) (va_Pc [.ref h0, .int n1, .int n2] (pcW dC dI [] [(h0, .inr (7, [.ref p1, u1, u2, u3, u4, u5])), (p1, .inr (1, [w0, w1, w2, w3, w4, w5, .int (nI cn), .int bb]))] sz)) (va_Qi (fun (r : Int32) (_ : Unit) => r = (F_bare cn bb n1)) (fun _ t => ∃ (bb2 : Int32), (bb2 = B_next cn bb n1 n2) ∧ va_P (dC, dI) vwCl [(h0, .inr (7, [.ref p1, u1, u2, u3, u4, u5])), (p1, .inr (1, [w0, w1, w2, w3, w4, w5, .int (nI cn), .int bb2]))] t.heap ∧ va_K (dC, dI) vwCl [] t ∧ va_D (va_A [(h0, .inr (7, [.ref p1, u1, u2, u3, u4, u5])), (p1, .inr (1, [w0, w1, w2, w3, w4, w5, .int (nI cn), .int bb]))] sz) [(h0, .inr (7, [.ref p1, u1, u2, u3, u4, u5])), (p1, .inr (1, [w0, w1, w2, w3, w4, w5, .int (nI cn), .int bb2]))]) (va_A [(h0, .inr (7, [.ref p1, u1, u2, u3, u4, u5])), (p1, .inr (1, [w0, w1, w2, w3, w4, w5, .int (nI cn), .int bb]))] sz)) 0 0 (va_A [(h0, .inr (7, [.ref p1, u1, u2, u3, u4, u5])), (p1, .inr (1, [w0, w1, w2, w3, w4, w5, .int (nI cn), .int bb]))] sz) := by
  refine Met.ofW (cc := cX8_bare) (maxL := 4) (ret := (some .int)) (by decide) rfl ?_
  intro p e s m args below meth c s₁ B hml hv
  obtain ⟨rfl, hsz, hN, hP, hK, hD0⟩ := hv
  have hx := B.exec
  have hb := B.bytes
  have hr := B.returns
  have hts0 := atoms_spec (ws := (wq yX8_bare cX8_bare 4 (some .int))) B.pre
  have hts : ∀ w ∈ BG, w.before _ s = true := fun w h => hts0 w (List.mem_cons_of_mem _ h)
  have hown : s.vm.findClass RX8 = some m.cls := findClass_of_methodNamed B.named
  have hlocks := B.notSynchronized
  subst hsz
  have hD := hD0.self (sz := s.heap.size)
  generalize hAe : va_A [(h0, .inr (7, [.ref p1, u1, u2, u3, u4, u5])), (p1, .inr (1, [w0, w1, w2, w3, w4, w5, .int (nI cn), .int bb]))] s.heap.size = A at hD ⊢
  have hA : ∀ q : Nat, s.heap.size ≤ q → A q := fun q h => by rw [← hAe]; exact Or.inr h
  have hS : va_S A s.heap s.heap [] := va_S.rf
  clear hAe hD0
  have hP : va_P (dC, dI) vwCl [(h0, .inr (7, [.ref p1, u1, u2, u3, u4, u5])), (p1, .inr (1, [w0, w1, w2, w3, w4, w5, .int (nI cn), .int bb]))] s.heap := hP
  have hl := lv_entry ([.ref h0, .int n1, .int n2]) (n := 4) (Nat.le_of_ble_eq_true rfl)
  rw [lg_entry_eq]
  generalize (lg_sl ([.ref h0, .int n1, .int n2]) ++ List.replicate (4 - (lg_sl ([.ref h0, .int n1, .int n2])).length) Slot.unset).toArray = ls at hl ⊢
  have hl : lv_has ls 4 [(0, .ref h0), (1, .int n1), (2, .int n2)] := hl
  refine lv_aload_n hx hb dX8_bare_0 rfl (lv_at hl 0 rfl) ?_
  refine va_get (D := (dC, dI)) (ci := 7) (v := .ref p1) (C := RX8) (T := TX8) (N := 6) hx hb hts inB_8 hown hK hP 0 rfl rfl 0 (by decide) (hts _ mw_1_168) (fun _ h9 => h9) rfl dX8_bare_1 ?_
  refine lv_iload_n hx hb dX8_bare_4 rfl (lv_at hl 1 rfl) ?_
  have hPc := hP.sub (ws' := [(p1, .inr (1, [w0, w1, w2, w3, w4, w5, .int (nI cn), .int bb]))]) [1] rfl
  have hDc := hD.sub (ws' := [(p1, .inr (1, [w0, w1, w2, w3, w4, w5, .int (nI cn), .int bb]))]) [1] (by decide) rfl
  have hKc := hK.sub (tys' := []) [] rfl
  refine va_calli (va_runV (As := [.int n1]) (rest := []) ⟨hx, hb, hml, hown, hts⟩ (c_knows l dC dI s.heap.size p1 (w0) (w1) (w2) (w3) (w4) (w5) cn (.int bb) n1 hc) (cwV 1 hts (gV mw_1_191 mw_1_192 mw_1_193 mw_1_2 mw_1_194) rfl rfl rfl (by decide +kernel) ⟨Nat.le_of_ble_eq_true rfl, Nat.le_of_ble_eq_true rfl⟩) ⟨pcW_blind, va_recv hKc hPc (ci := 1) (q0 := 0) rfl rfl, pcW_at hPc hKc hDc hN⟩ rfl rfl hl.1 rfl (lv_room (Nat.le_of_ble_eq_true rfl)) dX8_bare_5 ⟨Nat.le_of_ble_eq_true rfl, Nat.le_of_ble_eq_true rfl⟩) hS (fun q h1 h2 => absurd h2 (Nat.not_le.mpr h1)) (fun q h => hA q (Nat.le_trans hS.1 h)) (fun r_1 u t H1 locs ht hvm hw_1 hB hz1 hk1 hS => ?_)
  have hP := keepP hP hk1
  clear hz1 hk1 hB ht hvm hPc hDc hKc
  generalize H1 = H at hP hS ⊢
  rcases fx_bool hw_1 with ⟨rfl, b_2⟩ | ⟨rfl, b_2⟩
  · skip
    refine lv_if_ne (tgt := 13) hx hb dX8_bare_8 (by decide) (fun _ => ?_) (fun h => absurd h (by decide))
    obtain ⟨j_3, tj_3, ej_3⟩ := fx_nat (x := n1) (by omega)
    subst ej_3
    have yj_3 : Int32.toInt (nI j_3) = (j_3 : Int) := nI_toInt tj_3
    refine lv_aload_n hx hb dX8_bare_13 rfl (lv_at hl 0 rfl) ?_
    refine va_get (D := (dC, dI)) (ci := 7) (v := .ref p1) (C := RX8) (T := TX8) (N := 6) hx hb hts inB_8 hown hK hP 0 rfl rfl 0 (by decide) (hts _ mw_1_168) (fun _ h9 => h9) rfl dX8_bare_14 ?_
    refine lv_iload_n hx hb dX8_bare_17 rfl (lv_at hl 1 rfl) ?_
    have hPc := hP.sub (ws' := [(p1, .inr (1, [w0, w1, w2, w3, w4, w5, .int (nI cn), .int bb]))]) [1] rfl
    have hDc := hD.sub (ws' := [(p1, .inr (1, [w0, w1, w2, w3, w4, w5, .int (nI cn), .int bb]))]) [1] (by decide) rfl
    have hKc := hK.sub (tys' := []) [] rfl
    refine va_calli (va_runV (As := [.int (nI j_3)]) (rest := []) ⟨hx, hb, hml, hown, hts⟩ (c_isBare l dC dI H.size p1 (w0) (w1) (w2) (w3) (w4) (w5) cn bb (nI j_3) hc) (cwV 1 hts (gV mw_2_28 mw_2_29 mw_2_30 mw_1_2 mw_2_31) rfl rfl rfl (by decide +kernel) ⟨Nat.le_of_ble_eq_true rfl, Nat.le_of_ble_eq_true rfl⟩) ⟨pcW_blind, va_recv hKc hPc (ci := 1) (q0 := 0) rfl rfl, pcW_at hPc hKc hDc hN⟩ rfl rfl hl.1 rfl (lv_room (Nat.le_of_ble_eq_true rfl)) dX8_bare_18 ⟨Nat.le_of_ble_eq_true rfl, Nat.le_of_ble_eq_true rfl⟩) hS (fun q h1 h2 => absurd h2 (Nat.not_le.mpr h1)) (fun q h => hA q (Nat.le_trans hS.1 h)) (fun r_4 u t H1 locs ht hvm hw_4 hB hz1 hk1 hS => ?_)
    have hP := keepP hP hk1
    clear hz1 hk1 hB ht hvm hPc hDc hKc
    generalize H1 = H at hP hS ⊢
    rcases fx_bool hw_4 with ⟨rfl, b_5⟩ | ⟨rfl, b_5⟩
    · skip
      refine lv_if_eq (tgt := 28) hx hb dX8_bare_21 (by decide) (fun h => absurd h (by decide)) (fun _ => ?_)
      refine lv_iconst (v := 1) hx hb dX8_bare_24 (by decide) ?_
      refine lv_goto (tgt := 29) hx hb dX8_bare_25 (by decide) ?_
      refine lv_istore_n (lv' := [(3, .int 1), (0, .ref h0), (1, .int (nI j_3)), (2, .int n2)]) hx hb dX8_bare_29 rfl hl (by decide) rfl (fun ls hl => ?_)
      refine lv_aload_n hx hb dX8_bare_30 rfl (lv_at hl 1 rfl) ?_
      refine va_get (D := (dC, dI)) (ci := 7) (v := .ref p1) (C := RX8) (T := TX8) (N := 6) hx hb hts inB_8 hown hK hP 0 rfl rfl 0 (by decide) (hts _ mw_1_168) (fun _ h9 => h9) rfl dX8_bare_31 ?_
      refine lv_iload_n hx hb dX8_bare_34 rfl (lv_at hl 2 rfl) ?_
      refine lv_iload_n hx hb dX8_bare_35 rfl (lv_at hl 3 rfl) ?_
      have hPc := hP.sub (ws' := [(p1, .inr (1, [w0, w1, w2, w3, w4, w5, .int (nI cn), .int bb]))]) [1] rfl
      have hDc := hD.sub (ws' := [(p1, .inr (1, [w0, w1, w2, w3, w4, w5, .int (nI cn), .int bb]))]) [1] (by decide) rfl
      have hKc := hK.sub (tys' := []) [] rfl
      have hFc := va_free (wc := [(p1, .inr (1, [w0, w1, w2, w3, w4, w5, .int (nI cn), .int bb]))]) hD hS hA [1] rfl
      refine va_callv (va_runV (As := [.int (nI j_3), .int n2]) (rest := []) ⟨hx, hb, hml, hown, hts⟩ (c_setBare l dC dI H.size p1 (w0) (w1) (w2) (w3) (w4) (w5) cn bb j_3 n2 hc (by omega)) (cwV 2 hts (gV mw_2_33 mw_2_34 mw_2_35 mw_1_2 mw_2_36) rfl rfl rfl (by decide +kernel) ⟨Nat.le_of_ble_eq_true rfl, Nat.le_of_ble_eq_true rfl⟩) ⟨pcW_blind, va_recv hKc hPc (ci := 1) (q0 := 0) rfl rfl, pcW_at hPc hKc hDc hN⟩ rfl rfl hl.1 rfl (lv_room (Nat.le_of_ble_eq_true rfl)) dX8_bare_36 ⟨Nat.le_of_ble_eq_true rfl, Nat.le_of_ble_eq_true rfl⟩) hS (fun q _ h => hFc q h) hFc (fun u t H1 locs ht hvm hw_6 hB hz1 hk1 hS => ?_)
      obtain ⟨z_7, p_8, hP1, hK1, hD1⟩ := hB
      rw [ht] at hP1
      have hK1 := va_K.moved hvm.symm hK1
      obtain ⟨hP, hD⟩ := va_join (wr := [(h0, .inr (7, [.ref p1, u1, u2, u3, u4, u5]))]) (w1 := [(p1, .inr (1, [w0, w1, w2, w3, w4, w5, .int (nI cn), .int z_7]))]) hP hD [1] [0] rfl rfl (by decide) (by decide) hk1 hFc hP1 hD1
      have hK := (hK.sub (tys' := []) [] rfl).app hK1
      clear hz1 hk1 hPc hDc hKc hFc
      generalize H1 = H at hP hS ⊢
      have hK : va_K (dC, dI) vwCl [] s := hK
      have hP : va_P (dC, dI) vwCl [(h0, .inr (7, [.ref p1, u1, u2, u3, u4, u5])), (p1, .inr (1, [w0, w1, w2, w3, w4, w5, .int (nI cn), .int z_7]))] H := hP
      have hD : va_D A [(h0, .inr (7, [.ref p1, u1, u2, u3, u4, u5])), (p1, .inr (1, [w0, w1, w2, w3, w4, w5, .int (nI cn), .int z_7]))] := hD
      refine lv_iload_n hx hb dX8_bare_39 rfl (lv_at hl 0 rfl) ?_
      have hP9 := hP.sub (ws' := [(h0, .inr (7, [.ref p1, u1, u2, u3, u4, u5])), (p1, .inr (1, [w0, w1, w2, w3, w4, w5, .int (nI cn), .int z_7]))]) [0, 1] rfl
      have hD9 := hD.sub (ws' := [(h0, .inr (7, [.ref p1, u1, u2, u3, u4, u5])), (p1, .inr (1, [w0, w1, w2, w3, w4, w5, .int (nI cn), .int z_7]))]) [0, 1] (by decide) rfl
      have hK9 := hK.sub (tys' := []) [] rfl
      exact W.iret (v := 1) hx hb hr (fun t ht hW => ⟨⟨1, (), rfl, (by unfold F_bare; rw [if_pos (by omega), nI_clamp (by omega), if_pos (t_yes (by omega) b_5.2)]), z_7, (p_8.trans (by unfold B_next; rw [if_pos (by omega), nI_clamp (by omega)])), by rw [ht]; exact hP9, va_K.moved hW.alike hK9, hD9⟩, hS.F ht⟩) hS.2.2 dX8_bare_40
    · skip
      refine lv_if_eq (tgt := 28) hx hb dX8_bare_21 (by decide) (fun _ => ?_) (fun h => absurd (by decide) h)
      refine lv_iconst (v := 0) hx hb dX8_bare_28 (by decide) ?_
      refine lv_istore_n (lv' := [(3, .int 0), (0, .ref h0), (1, .int (nI j_3)), (2, .int n2)]) hx hb dX8_bare_29 rfl hl (by decide) rfl (fun ls hl => ?_)
      refine lv_aload_n hx hb dX8_bare_30 rfl (lv_at hl 1 rfl) ?_
      refine va_get (D := (dC, dI)) (ci := 7) (v := .ref p1) (C := RX8) (T := TX8) (N := 6) hx hb hts inB_8 hown hK hP 0 rfl rfl 0 (by decide) (hts _ mw_1_168) (fun _ h9 => h9) rfl dX8_bare_31 ?_
      refine lv_iload_n hx hb dX8_bare_34 rfl (lv_at hl 2 rfl) ?_
      refine lv_iload_n hx hb dX8_bare_35 rfl (lv_at hl 3 rfl) ?_
      have hPc := hP.sub (ws' := [(p1, .inr (1, [w0, w1, w2, w3, w4, w5, .int (nI cn), .int bb]))]) [1] rfl
      have hDc := hD.sub (ws' := [(p1, .inr (1, [w0, w1, w2, w3, w4, w5, .int (nI cn), .int bb]))]) [1] (by decide) rfl
      have hKc := hK.sub (tys' := []) [] rfl
      have hFc := va_free (wc := [(p1, .inr (1, [w0, w1, w2, w3, w4, w5, .int (nI cn), .int bb]))]) hD hS hA [1] rfl
      refine va_callv (va_runV (As := [.int (nI j_3), .int n2]) (rest := []) ⟨hx, hb, hml, hown, hts⟩ (c_setBare l dC dI H.size p1 (w0) (w1) (w2) (w3) (w4) (w5) cn bb j_3 n2 hc (by omega)) (cwV 2 hts (gV mw_2_33 mw_2_34 mw_2_35 mw_1_2 mw_2_36) rfl rfl rfl (by decide +kernel) ⟨Nat.le_of_ble_eq_true rfl, Nat.le_of_ble_eq_true rfl⟩) ⟨pcW_blind, va_recv hKc hPc (ci := 1) (q0 := 0) rfl rfl, pcW_at hPc hKc hDc hN⟩ rfl rfl hl.1 rfl (lv_room (Nat.le_of_ble_eq_true rfl)) dX8_bare_36 ⟨Nat.le_of_ble_eq_true rfl, Nat.le_of_ble_eq_true rfl⟩) hS (fun q _ h => hFc q h) hFc (fun u t H1 locs ht hvm hw_9 hB hz1 hk1 hS => ?_)
      obtain ⟨z_10, p_11, hP1, hK1, hD1⟩ := hB
      rw [ht] at hP1
      have hK1 := va_K.moved hvm.symm hK1
      obtain ⟨hP, hD⟩ := va_join (wr := [(h0, .inr (7, [.ref p1, u1, u2, u3, u4, u5]))]) (w1 := [(p1, .inr (1, [w0, w1, w2, w3, w4, w5, .int (nI cn), .int z_10]))]) hP hD [1] [0] rfl rfl (by decide) (by decide) hk1 hFc hP1 hD1
      have hK := (hK.sub (tys' := []) [] rfl).app hK1
      clear hz1 hk1 hPc hDc hKc hFc
      generalize H1 = H at hP hS ⊢
      have hK : va_K (dC, dI) vwCl [] s := hK
      have hP : va_P (dC, dI) vwCl [(h0, .inr (7, [.ref p1, u1, u2, u3, u4, u5])), (p1, .inr (1, [w0, w1, w2, w3, w4, w5, .int (nI cn), .int z_10]))] H := hP
      have hD : va_D A [(h0, .inr (7, [.ref p1, u1, u2, u3, u4, u5])), (p1, .inr (1, [w0, w1, w2, w3, w4, w5, .int (nI cn), .int z_10]))] := hD
      refine lv_iload_n hx hb dX8_bare_39 rfl (lv_at hl 0 rfl) ?_
      have hP9 := hP.sub (ws' := [(h0, .inr (7, [.ref p1, u1, u2, u3, u4, u5])), (p1, .inr (1, [w0, w1, w2, w3, w4, w5, .int (nI cn), .int z_10]))]) [0, 1] rfl
      have hD9 := hD.sub (ws' := [(h0, .inr (7, [.ref p1, u1, u2, u3, u4, u5])), (p1, .inr (1, [w0, w1, w2, w3, w4, w5, .int (nI cn), .int z_10]))]) [0, 1] (by decide) rfl
      have hK9 := hK.sub (tys' := []) [] rfl
      exact W.iret (v := 0) hx hb hr (fun t ht hW => ⟨⟨0, (), rfl, (by unfold F_bare; rw [if_pos (by omega), nI_clamp (by omega), if_neg (by rw [t_no (by omega) (fun q => b_5 ⟨by omega, q⟩)]; decide)]), z_10, (p_11.trans (by unfold B_next; rw [if_pos (by omega), nI_clamp (by omega)])), by rw [ht]; exact hP9, va_K.moved hW.alike hK9, hD9⟩, hS.F ht⟩) hS.2.2 dX8_bare_40
  · skip
    refine lv_if_ne (tgt := 13) hx hb dX8_bare_8 (by decide) (fun h => absurd h (by decide)) (fun _ => ?_)
    refine lv_iconst (v := (-1)) hx hb dX8_bare_11 (by decide) ?_
    have hP9 := hP.sub (ws' := [(h0, .inr (7, [.ref p1, u1, u2, u3, u4, u5])), (p1, .inr (1, [w0, w1, w2, w3, w4, w5, .int (nI cn), .int bb]))]) [0, 1] rfl
    have hD9 := hD.sub (ws' := [(h0, .inr (7, [.ref p1, u1, u2, u3, u4, u5])), (p1, .inr (1, [w0, w1, w2, w3, w4, w5, .int (nI cn), .int bb]))]) [0, 1] (by decide) rfl
    have hK9 := hK.sub (tys' := []) [] rfl
    exact W.iret (v := (-1)) hx hb hr (fun t ht hW => ⟨⟨(-1), (), rfl, (by (unfold F_bare; repeat' split) <;> first | rfl | (exfalso; omega)), bb, (show bb = B_next cn bb n1 n2 from by unfold B_next; rw [if_neg (by omega)]), by rw [ht]; exact hP9, va_K.moved hW.alike hK9, hD9⟩, hS.F ht⟩) hS.2.2 dX8_bare_12
set_option maxHeartbeats 4000000 in
set_option maxRecDepth 100000 in
theorem x_of (l : Launch) (dC : Nat → ClassId) (dI : Nat → Nat → Nat) (sz : Nat) (h0 : Nat) (p1 : Nat) (u1 : Value) (u2 : Value) (u3 : Value) (u4 : Value) (u5 : Value) (b0 : Nat) (w1 : Value) (w2 : Value) (w3 : Value) (w4 : Value) (w5 : Value) (cn : Nat) (bb : Int32) (kb0 : ClassId) (fab : Nat → Int32) (n1 : Int32) (n2 : Int32) (hc : cn ≤ 10) : Met l yX8_of (wq yX8_of cX8_of 3 (some .int)) ({ frames := 2, cells := 0, slots := 0, locals := 44 }) (va_Pc [.ref h0, .int n1, .int n2] (pcW dC dI [(kb0, .int)] [(h0, .inr (7, [.ref p1, u1, u2, u3, u4, u5])), (p1, .inr (1, [.ref b0, w1, w2, w3, w4, w5, .int (nI cn), .int bb])), (b0, .inl (kb0, 10, .inl fab))] sz)) (va_Qi (fun (r : Int32) (_ : Unit) => r = (F_of cn (fab n1.toNatClampNeg) (blF fab cn n1.toNatClampNeg) n1 n2)) (fun _ _ => True) (fun q : Nat => sz ≤ q)) 0 0 (fun q : Nat => sz ≤ q) := by
  refine Met.ofW (cc := cX8_of) (maxL := 3) (ret := (some .int)) (by decide) rfl ?_
  intro p e s m args below meth c s₁ B hml hv
  obtain ⟨rfl, hsz, hN, hP, hK, hD0⟩ := hv
  have hx := B.exec
  have hb := B.bytes
  have hr := B.returns
  have hts0 := atoms_spec (ws := (wq yX8_of cX8_of 3 (some .int))) B.pre
  have hts : ∀ w ∈ BG, w.before _ s = true := fun w h => hts0 w (List.mem_cons_of_mem _ h)
  have hown : s.vm.findClass RX8 = some m.cls := findClass_of_methodNamed B.named
  have hlocks := B.notSynchronized
  subst hsz
  have hA : ∀ q : Nat, s.heap.size ≤ q → (fun q : Nat => s.heap.size ≤ q) q := fun _ h => h
  have hD := hD0
  have hS : va_S (fun q : Nat => s.heap.size ≤ q) s.heap s.heap [] := va_S.rf
  have hP : va_P (dC, dI) vwCl [(h0, .inr (7, [.ref p1, u1, u2, u3, u4, u5])), (p1, .inr (1, [.ref b0, w1, w2, w3, w4, w5, .int (nI cn), .int bb])), (b0, .inl (kb0, 10, .inl fab))] s.heap := hP
  have hl := lv_entry ([.ref h0, .int n1, .int n2]) (n := 3) (Nat.le_of_ble_eq_true rfl)
  rw [lg_entry_eq]
  generalize (lg_sl ([.ref h0, .int n1, .int n2]) ++ List.replicate (3 - (lg_sl ([.ref h0, .int n1, .int n2])).length) Slot.unset).toArray = ls at hl ⊢
  have hl : lv_has ls 3 [(0, .ref h0), (1, .int n1), (2, .int n2)] := hl
  refine lv_aload_n hx hb dX8_of_0 rfl (lv_at hl 0 rfl) ?_
  refine va_get (D := (dC, dI)) (ci := 7) (v := .ref p1) (C := RX8) (T := TX8) (N := 6) hx hb hts inB_8 hown hK hP 0 rfl rfl 0 (by decide) (hts _ mw_1_168) (fun _ h9 => h9) rfl dX8_of_1 ?_
  refine lv_iload_n hx hb dX8_of_4 rfl (lv_at hl 1 rfl) ?_
  have hPc := hP.sub (ws' := [(p1, .inr (1, [.ref b0, w1, w2, w3, w4, w5, .int (nI cn), .int bb]))]) [1] rfl
  have hDc := hD.sub (ws' := [(p1, .inr (1, [.ref b0, w1, w2, w3, w4, w5, .int (nI cn), .int bb]))]) [1] (by decide) rfl
  have hKc := hK.sub (tys' := []) [] rfl
  refine va_calli (va_runV (As := [.int n1]) (rest := []) ⟨hx, hb, hml, hown, hts⟩ (c_knows l dC dI s.heap.size p1 (.ref b0) (w1) (w2) (w3) (w4) (w5) cn (.int bb) n1 hc) (cwV 1 hts (gV mw_1_191 mw_1_192 mw_1_193 mw_1_2 mw_1_194) rfl rfl rfl (by decide +kernel) ⟨Nat.le_of_ble_eq_true rfl, Nat.le_of_ble_eq_true rfl⟩) ⟨pcW_blind, va_recv hKc hPc (ci := 1) (q0 := 0) rfl rfl, pcW_at hPc hKc hDc hN⟩ rfl rfl hl.1 rfl (lv_room (Nat.le_of_ble_eq_true rfl)) dX8_of_5 ⟨Nat.le_of_ble_eq_true rfl, Nat.le_of_ble_eq_true rfl⟩) hS (fun q h1 h2 => absurd h2 (Nat.not_le.mpr h1)) (fun q h => hA q (Nat.le_trans hS.1 h)) (fun r_1 u t H1 locs ht hvm hw_1 hB hz1 hk1 hS => ?_)
  have hP := keepP hP hk1
  clear hz1 hk1 hB ht hvm hPc hDc hKc
  generalize H1 = H at hP hS ⊢
  rcases fx_bool hw_1 with ⟨rfl, b_2⟩ | ⟨rfl, b_2⟩
  · skip
    refine lv_if_ne (tgt := 13) hx hb dX8_of_8 (by decide) (fun _ => ?_) (fun h => absurd h (by decide))
    obtain ⟨j_3, tj_3, ej_3⟩ := fx_nat (x := n1) (by omega)
    subst ej_3
    have yj_3 : Int32.toInt (nI j_3) = (j_3 : Int) := nI_toInt tj_3
    refine lv_iload_n hx hb dX8_of_13 rfl (lv_at hl 2 rfl) ?_
    refine lv_if_ne (tgt := 26) hx hb dX8_of_14 (by decide) (fun c_4 => ?_) (fun c_4 => ?_)
    · have b_5 := gx_ne (X := (Int32.toInt n2)) (C := 0) rfl (by decide) c_4
      refine lv_iload_n hx hb dX8_of_26 rfl (lv_at hl 2 rfl) ?_
      refine lv_iconst (v := 1) hx hb dX8_of_27 (by decide) ?_
      refine lv_icmp_ne (tgt := 40) hx hb dX8_of_28 (by decide) (fun c_6 => ?_) (fun c_6 => ?_)
      · have b_7 := gx_ne (X := (Int32.toInt n2)) (C := 1) rfl (by decide) c_6
        refine lv_bipush (v := (-2)) hx hb dX8_of_40 (by decide) ?_
        exact W.iret (v := (-2)) hx hb hr (fun t ht hW => ⟨⟨(-2), (), rfl, (by unfold F_of; rw [if_pos (by omega), if_neg (by omega), if_neg (by omega)]), trivial⟩, hS.F ht⟩) hS.2.2 dX8_of_42
      · have b_7 := gn_ne (X := (Int32.toInt n2)) (C := 1) rfl (by decide) c_6
        refine lv_aload_n hx hb dX8_of_31 rfl (lv_at hl 0 rfl) ?_
        refine va_get (D := (dC, dI)) (ci := 7) (v := .ref p1) (C := RX8) (T := TX8) (N := 6) hx hb hts inB_8 hown hK hP 0 rfl rfl 0 (by decide) (hts _ mw_1_168) (fun _ h9 => h9) rfl dX8_of_32 ?_
        refine lv_iload_n hx hb dX8_of_35 rfl (lv_at hl 1 rfl) ?_
        have hPc := hP.sub (ws' := [(p1, .inr (1, [.ref b0, w1, w2, w3, w4, w5, .int (nI cn), .int bb])), (b0, .inl (kb0, 10, .inl fab))]) [1, 2] rfl
        have hDc := hD.sub (ws' := [(p1, .inr (1, [.ref b0, w1, w2, w3, w4, w5, .int (nI cn), .int bb])), (b0, .inl (kb0, 10, .inl fab))]) [1, 2] (by decide) rfl
        have hKc := hK.sub (tys' := [(kb0, .int)]) [0] rfl
        refine va_calli (va_runV (As := [.int (nI j_3)]) (rest := []) ⟨hx, hb, hml, hown, hts⟩ (c_belowOf l dC dI H.size p1 b0 (w1) (w2) (w3) (w4) (w5) cn (.int bb) kb0 fab j_3 hc (by omega)) (cwV 1 hts (gV mw_2_42 mw_2_43 mw_2_44 mw_1_2 mw_2_45) rfl rfl rfl (by decide +kernel) ⟨Nat.le_of_ble_eq_true rfl, Nat.le_of_ble_eq_true rfl⟩) ⟨pcW_blind, va_recv hKc hPc (ci := 1) (q0 := 0) rfl rfl, pcW_at hPc hKc hDc hN⟩ rfl rfl hl.1 rfl (lv_room (Nat.le_of_ble_eq_true rfl)) dX8_of_36 ⟨Nat.le_of_ble_eq_true rfl, Nat.le_of_ble_eq_true rfl⟩) hS (fun q h1 h2 => absurd h2 (Nat.not_le.mpr h1)) (fun q h => hA q (Nat.le_trans hS.1 h)) (fun r_8 u t H1 locs ht hvm hw_8 hB hz1 hk1 hS => ?_)
        have hP := keepP hP hk1
        clear hz1 hk1 hB ht hvm hPc hDc hKc
        generalize H1 = H at hP hS ⊢
        obtain rfl : r_8 = (blF fab cn j_3) := hw_8
        exact W.iret (v := (blF fab cn j_3)) hx hb hr (fun t ht hW => ⟨⟨(blF fab cn j_3), (), rfl, (by unfold F_of; rw [if_pos (by omega), if_neg (by omega), if_pos (by omega), nI_clamp (by omega)]), trivial⟩, hS.F ht⟩) hS.2.2 dX8_of_39
    · have b_5 := gn_ne (X := (Int32.toInt n2)) (C := 0) rfl (by decide) c_4
      refine lv_aload_n hx hb dX8_of_17 rfl (lv_at hl 0 rfl) ?_
      refine va_get (D := (dC, dI)) (ci := 7) (v := .ref p1) (C := RX8) (T := TX8) (N := 6) hx hb hts inB_8 hown hK hP 0 rfl rfl 0 (by decide) (hts _ mw_1_168) (fun _ h9 => h9) rfl dX8_of_18 ?_
      refine lv_iload_n hx hb dX8_of_21 rfl (lv_at hl 1 rfl) ?_
      have hPc := hP.sub (ws' := [(p1, .inr (1, [.ref b0, w1, w2, w3, w4, w5, .int (nI cn), .int bb])), (b0, .inl (kb0, 10, .inl fab))]) [1, 2] rfl
      have hDc := hD.sub (ws' := [(p1, .inr (1, [.ref b0, w1, w2, w3, w4, w5, .int (nI cn), .int bb])), (b0, .inl (kb0, 10, .inl fab))]) [1, 2] (by decide) rfl
      have hKc := hK.sub (tys' := [(kb0, .int)]) [0] rfl
      refine va_calli (va_runV (As := [.int (nI j_3)]) (rest := []) ⟨hx, hb, hml, hown, hts⟩ (c_aboveOf l dC dI H.size p1 b0 (w1) (w2) (w3) (w4) (w5) cn (.int bb) kb0 fab j_3 hc (by omega)) (cwV 1 hts (gV mw_2_41 mw_1_205 mw_1_206 mw_1_2 mw_1_207) rfl rfl rfl (by decide +kernel) ⟨Nat.le_of_ble_eq_true rfl, Nat.le_of_ble_eq_true rfl⟩) ⟨pcW_blind, va_recv hKc hPc (ci := 1) (q0 := 0) rfl rfl, pcW_at hPc hKc hDc hN⟩ rfl rfl hl.1 rfl (lv_room (Nat.le_of_ble_eq_true rfl)) dX8_of_22 ⟨Nat.le_of_ble_eq_true rfl, Nat.le_of_ble_eq_true rfl⟩) hS (fun q h1 h2 => absurd h2 (Nat.not_le.mpr h1)) (fun q h => hA q (Nat.le_trans hS.1 h)) (fun r_9 u t H1 locs ht hvm hw_9 hB hz1 hk1 hS => ?_)
      have hP := keepP hP hk1
      clear hz1 hk1 hB ht hvm hPc hDc hKc
      generalize H1 = H at hP hS ⊢
      obtain rfl : r_9 = (fab j_3) := hw_9
      exact W.iret (v := (fab j_3)) hx hb hr (fun t ht hW => ⟨⟨(fab j_3), (), rfl, (by unfold F_of; rw [if_pos (by omega), if_pos (by omega), nI_clamp (by omega)]), trivial⟩, hS.F ht⟩) hS.2.2 dX8_of_25
  · skip
    refine lv_if_ne (tgt := 13) hx hb dX8_of_8 (by decide) (fun h => absurd h (by decide)) (fun _ => ?_)
    refine lv_iconst (v := (-1)) hx hb dX8_of_11 (by decide) ?_
    exact W.iret (v := (-1)) hx hb hr (fun t ht hW => ⟨⟨(-1), (), rfl, (by unfold F_of; rw [if_neg (by omega)]), trivial⟩, hS.F ht⟩) hS.2.2 dX8_of_12
set_option maxHeartbeats 4000000 in
set_option maxRecDepth 100000 in
theorem x_line (l : Launch) (dC : Nat → ClassId) (dI : Nat → Nat → Nat) (sz : Nat) (h0 : Nat) (p1 : Nat) (u1 : Value) (u2 : Value) (u3 : Value) (u4 : Value) (u5 : Value) (w0 : Value) (b1 : Nat) (w2 : Value) (b3 : Nat) (w4 : Value) (w5 : Value) (cn : Nat) (bb : Int32) (kb1 : ClassId) (fle : Nat → Int32) (kb3 : ClassId) (fli : Nat → Int32) (n1 : Int32) (n2 : Int32) (hc : cn ≤ 10) (hle : BdOk 10 10 fle) : Met l yX8_line (wq yX8_line cX8_line 3 (some .int)) ({ frames := 3, cells := 0, slots := 0, locals := 64 }) (va_Pc [.ref h0, .int n1, .int n2] (pcW dC dI [(kb1, .int), (kb3, .int)] [(h0, .inr (7, [.ref p1, u1, u2, u3, u4, u5])), (p1, .inr (1, [w0, .ref b1, w2, .ref b3, w4, w5, .int (nI cn), .int bb])), (b1, .inl (kb1, 10, .inl fle)), (b3, .inl (kb3, 100, .inl fli))] sz)) (va_Qi (fun (r : Int32) (_ : Unit) => r = F_line cn (fle n1.toNatClampNeg).toNatClampNeg (fun j => fli (10 * n1.toNatClampNeg + j)) n1 n2) (fun _ _ => True) (fun q : Nat => sz ≤ q)) 0 0 (fun q : Nat => sz ≤ q) := by
  refine Met.ofW (cc := cX8_line) (maxL := 3) (ret := (some .int)) (by decide) rfl ?_
  intro p e s m args below meth c s₁ B hml hv
  obtain ⟨rfl, hsz, hN, hP, hK, hD0⟩ := hv
  have hx := B.exec
  have hb := B.bytes
  have hr := B.returns
  have hts0 := atoms_spec (ws := (wq yX8_line cX8_line 3 (some .int))) B.pre
  have hts : ∀ w ∈ BG, w.before _ s = true := fun w h => hts0 w (List.mem_cons_of_mem _ h)
  have hown : s.vm.findClass RX8 = some m.cls := findClass_of_methodNamed B.named
  have hlocks := B.notSynchronized
  subst hsz
  have hA : ∀ q : Nat, s.heap.size ≤ q → (fun q : Nat => s.heap.size ≤ q) q := fun _ h => h
  have hD := hD0
  have hS : va_S (fun q : Nat => s.heap.size ≤ q) s.heap s.heap [] := va_S.rf
  have hP : va_P (dC, dI) vwCl [(h0, .inr (7, [.ref p1, u1, u2, u3, u4, u5])), (p1, .inr (1, [w0, .ref b1, w2, .ref b3, w4, w5, .int (nI cn), .int bb])), (b1, .inl (kb1, 10, .inl fle)), (b3, .inl (kb3, 100, .inl fli))] s.heap := hP
  have hl := lv_entry ([.ref h0, .int n1, .int n2]) (n := 3) (Nat.le_of_ble_eq_true rfl)
  rw [lg_entry_eq]
  generalize (lg_sl ([.ref h0, .int n1, .int n2]) ++ List.replicate (3 - (lg_sl ([.ref h0, .int n1, .int n2])).length) Slot.unset).toArray = ls at hl ⊢
  have hl : lv_has ls 3 [(0, .ref h0), (1, .int n1), (2, .int n2)] := hl
  refine lv_aload_n hx hb dX8_line_0 rfl (lv_at hl 0 rfl) ?_
  refine va_get (D := (dC, dI)) (ci := 7) (v := .ref p1) (C := RX8) (T := TX8) (N := 6) hx hb hts inB_8 hown hK hP 0 rfl rfl 0 (by decide) (hts _ mw_1_168) (fun _ h9 => h9) rfl dX8_line_1 ?_
  refine lv_iload_n hx hb dX8_line_4 rfl (lv_at hl 1 rfl) ?_
  have hPc := hP.sub (ws' := [(p1, .inr (1, [w0, .ref b1, w2, .ref b3, w4, w5, .int (nI cn), .int bb]))]) [1] rfl
  have hDc := hD.sub (ws' := [(p1, .inr (1, [w0, .ref b1, w2, .ref b3, w4, w5, .int (nI cn), .int bb]))]) [1] (by decide) rfl
  have hKc := hK.sub (tys' := []) [] rfl
  refine va_calli (va_runV (As := [.int n1]) (rest := []) ⟨hx, hb, hml, hown, hts⟩ (c_knows l dC dI s.heap.size p1 (w0) (.ref b1) (w2) (.ref b3) (w4) (w5) cn (.int bb) n1 hc) (cwV 1 hts (gV mw_1_191 mw_1_192 mw_1_193 mw_1_2 mw_1_194) rfl rfl rfl (by decide +kernel) ⟨Nat.le_of_ble_eq_true rfl, Nat.le_of_ble_eq_true rfl⟩) ⟨pcW_blind, va_recv hKc hPc (ci := 1) (q0 := 0) rfl rfl, pcW_at hPc hKc hDc hN⟩ rfl rfl hl.1 rfl (lv_room (Nat.le_of_ble_eq_true rfl)) dX8_line_5 ⟨Nat.le_of_ble_eq_true rfl, Nat.le_of_ble_eq_true rfl⟩) hS (fun q h1 h2 => absurd h2 (Nat.not_le.mpr h1)) (fun q h => hA q (Nat.le_trans hS.1 h)) (fun r_1 u t H1 locs ht hvm hw_1 hB hz1 hk1 hS => ?_)
  have hP := keepP hP hk1
  clear hz1 hk1 hB ht hvm hPc hDc hKc
  generalize H1 = H at hP hS ⊢
  rcases fx_bool hw_1 with ⟨rfl, b_2⟩ | ⟨rfl, b_2⟩
  · skip
    refine lv_if_ne (tgt := 13) hx hb dX8_line_8 (by decide) (fun _ => ?_) (fun h => absurd h (by decide))
    obtain ⟨j_3, tj_3, ej_3⟩ := fx_nat (x := n1) (by omega)
    subst ej_3
    have yj_3 : Int32.toInt (nI j_3) = (j_3 : Int) := nI_toInt tj_3
    refine lv_aload_n hx hb dX8_line_13 rfl (lv_at hl 0 rfl) ?_
    refine va_get (D := (dC, dI)) (ci := 7) (v := .ref p1) (C := RX8) (T := TX8) (N := 6) hx hb hts inB_8 hown hK hP 0 rfl rfl 0 (by decide) (hts _ mw_1_168) (fun _ h9 => h9) rfl dX8_line_14 ?_
    refine lv_iload_n hx hb dX8_line_17 rfl (lv_at hl 1 rfl) ?_
    have hPc := hP.sub (ws' := [(p1, .inr (1, [w0, .ref b1, w2, .ref b3, w4, w5, .int (nI cn), .int bb])), (b1, .inl (kb1, 10, .inl fle))]) [1, 2] rfl
    have hDc := hD.sub (ws' := [(p1, .inr (1, [w0, .ref b1, w2, .ref b3, w4, w5, .int (nI cn), .int bb])), (b1, .inl (kb1, 10, .inl fle))]) [1, 2] (by decide) rfl
    have hKc := hK.sub (tys' := [(kb1, .int)]) [0] rfl
    refine va_calli (va_runV (As := [.int (nI j_3)]) (rest := []) ⟨hx, hb, hml, hown, hts⟩ (c_isLaid l dC dI H.size p1 (w0) b1 (w2) (.ref b3) (w4) (w5) cn (.int bb) kb1 fle (nI j_3) hc hle) (cwV 1 hts (gV mw_2_50 mw_1_210 mw_1_211 mw_1_2 mw_1_212) rfl rfl rfl (by decide +kernel) ⟨Nat.le_of_ble_eq_true rfl, Nat.le_of_ble_eq_true rfl⟩) ⟨pcW_blind, va_recv hKc hPc (ci := 1) (q0 := 0) rfl rfl, pcW_at hPc hKc hDc hN⟩ rfl rfl hl.1 rfl (lv_room (Nat.le_of_ble_eq_true rfl)) dX8_line_18 ⟨Nat.le_of_ble_eq_true rfl, Nat.le_of_ble_eq_true rfl⟩) hS (fun q h1 h2 => absurd h2 (Nat.not_le.mpr h1)) (fun q h => hA q (Nat.le_trans hS.1 h)) (fun r_4 u t H1 locs ht hvm hw_4 hB hz1 hk1 hS => ?_)
    have hP := keepP hP hk1
    clear hz1 hk1 hB ht hvm hPc hDc hKc
    generalize H1 = H at hP hS ⊢
    rcases fx_bool hw_4 with ⟨rfl, b_5⟩ | ⟨rfl, b_5⟩
    · skip
      refine lv_if_ne (tgt := 27) hx hb dX8_line_21 (by decide) (fun _ => ?_) (fun h => absurd h (by decide))
      refine lv_iload_n hx hb dX8_line_27 rfl (lv_at hl 2 rfl) ?_
      refine lv_iconst (v := (-1)) hx hb dX8_line_28 (by decide) ?_
      refine lv_icmp_ne (tgt := 41) hx hb dX8_line_29 (by decide) (fun c_6 => ?_) (fun c_6 => ?_)
      · have b_7 := gx_ne (X := (Int32.toInt n2)) (C := (-1)) rfl (by decide) c_6
        refine lv_aload_n hx hb dX8_line_41 rfl (lv_at hl 0 rfl) ?_
        refine va_get (D := (dC, dI)) (ci := 7) (v := .ref p1) (C := RX8) (T := TX8) (N := 6) hx hb hts inB_8 hown hK hP 0 rfl rfl 0 (by decide) (hts _ mw_1_168) (fun _ h9 => h9) rfl dX8_line_42 ?_
        refine lv_iload_n hx hb dX8_line_45 rfl (lv_at hl 1 rfl) ?_
        refine lv_iload_n hx hb dX8_line_46 rfl (lv_at hl 2 rfl) ?_
        have hPc := hP.sub (ws' := [(p1, .inr (1, [w0, .ref b1, w2, .ref b3, w4, w5, .int (nI cn), .int bb])), (b1, .inl (kb1, 10, .inl fle)), (b3, .inl (kb3, 100, .inl fli))]) [1, 2, 3] rfl
        have hDc := hD.sub (ws' := [(p1, .inr (1, [w0, .ref b1, w2, .ref b3, w4, w5, .int (nI cn), .int bb])), (b1, .inl (kb1, 10, .inl fle)), (b3, .inl (kb3, 100, .inl fli))]) [1, 2, 3] (by decide) rfl
        have hKc := hK.sub (tys' := [(kb1, .int), (kb3, .int)]) [0, 1] rfl
        refine va_calli (va_runV (As := [.int (nI j_3), .int n2]) (rest := []) ⟨hx, hb, hml, hown, hts⟩ (c_inLineG l dC dI H.size p1 (w0) b1 (w2) b3 (w4) (w5) cn (.int bb) kb1 fle kb3 fli j_3 n2 hc hle (by omega)) (cwV 2 hts (gV mw_2_52 mw_1_234 mw_1_235 mw_1_2 mw_1_236) rfl rfl rfl (by decide +kernel) ⟨Nat.le_of_ble_eq_true rfl, Nat.le_of_ble_eq_true rfl⟩) ⟨pcW_blind, va_recv hKc hPc (ci := 1) (q0 := 0) rfl rfl, pcW_at hPc hKc hDc hN⟩ rfl rfl hl.1 rfl (lv_room (Nat.le_of_ble_eq_true rfl)) dX8_line_47 ⟨Nat.le_of_ble_eq_true rfl, Nat.le_of_ble_eq_true rfl⟩) hS (fun q h1 h2 => absurd h2 (Nat.not_le.mpr h1)) (fun q h => hA q (Nat.le_trans hS.1 h)) (fun r_8 u t H1 locs ht hvm hw_8 hB hz1 hk1 hS => ?_)
        have hP := keepP hP hk1
        clear hz1 hk1 hB ht hvm hPc hDc hKc
        generalize H1 = H at hP hS ⊢
        exact W.iret (v := r_8) hx hb hr (fun t ht hW => ⟨⟨r_8, (), rfl, (by have q := b_5; rw [lenN_k (by omega) (by omega)] at q; have e := hw_8; unfold inF at e; rw [lenN_k (by omega) (by omega)] at e; unfold F_line; rw [if_pos (by omega), nI_clamp (by omega), if_neg (by omega), if_neg (by omega)]; exact e), trivial⟩, hS.F ht⟩) hS.2.2 dX8_line_50
      · have b_7 := gn_ne (X := (Int32.toInt n2)) (C := (-1)) rfl (by decide) c_6
        refine lv_aload_n hx hb dX8_line_32 rfl (lv_at hl 0 rfl) ?_
        refine va_get (D := (dC, dI)) (ci := 7) (v := .ref p1) (C := RX8) (T := TX8) (N := 6) hx hb hts inB_8 hown hK hP 0 rfl rfl 0 (by decide) (hts _ mw_1_168) (fun _ h9 => h9) rfl dX8_line_33 ?_
        refine lv_iload_n hx hb dX8_line_36 rfl (lv_at hl 1 rfl) ?_
        have hPc := hP.sub (ws' := [(p1, .inr (1, [w0, .ref b1, w2, .ref b3, w4, w5, .int (nI cn), .int bb])), (b1, .inl (kb1, 10, .inl fle))]) [1, 2] rfl
        have hDc := hD.sub (ws' := [(p1, .inr (1, [w0, .ref b1, w2, .ref b3, w4, w5, .int (nI cn), .int bb])), (b1, .inl (kb1, 10, .inl fle))]) [1, 2] (by decide) rfl
        have hKc := hK.sub (tys' := [(kb1, .int)]) [0] rfl
        refine va_calli (va_runV (As := [.int (nI j_3)]) (rest := []) ⟨hx, hb, hml, hown, hts⟩ (c_lengthOf l dC dI H.size p1 (w0) b1 (w2) (.ref b3) (w4) (w5) cn (.int bb) kb1 fle (nI j_3) hc hle) (cwV 1 hts (gV mw_2_51 mw_1_214 mw_1_215 mw_1_2 mw_1_216) rfl rfl rfl (by decide +kernel) ⟨Nat.le_of_ble_eq_true rfl, Nat.le_of_ble_eq_true rfl⟩) ⟨pcW_blind, va_recv hKc hPc (ci := 1) (q0 := 0) rfl rfl, pcW_at hPc hKc hDc hN⟩ rfl rfl hl.1 rfl (lv_room (Nat.le_of_ble_eq_true rfl)) dX8_line_37 ⟨Nat.le_of_ble_eq_true rfl, Nat.le_of_ble_eq_true rfl⟩) hS (fun q h1 h2 => absurd h2 (Nat.not_le.mpr h1)) (fun q h => hA q (Nat.le_trans hS.1 h)) (fun r_9 u t H1 locs ht hvm hw_9 hB hz1 hk1 hS => ?_)
        have hP := keepP hP hk1
        clear hz1 hk1 hB ht hvm hPc hDc hKc
        generalize H1 = H at hP hS ⊢
        obtain rfl : r_9 = nI (lenN fle cn (nI j_3)) := hw_9
        have b_10 := (lenN_le hc hle : lenN fle cn (nI j_3) ≤ 10)
        exact W.iret (v := (nI (lenN fle cn (nI j_3)))) hx hb hr (fun t ht hW => ⟨⟨(nI (lenN fle cn (nI j_3))), (), rfl, (by have q := b_5; rw [lenN_k (by omega) (by omega)] at q; unfold F_line; rw [if_pos (by omega), nI_clamp (by omega), if_neg (by omega), if_pos (by omega), lenN_k (by omega) (by omega)]), trivial⟩, hS.F ht⟩) hS.2.2 dX8_line_40
    · skip
      refine lv_if_ne (tgt := 27) hx hb dX8_line_21 (by decide) (fun h => absurd h (by decide)) (fun _ => ?_)
      refine lv_bipush (v := (-3)) hx hb dX8_line_24 (by decide) ?_
      exact W.iret (v := (-3)) hx hb hr (fun t ht hW => ⟨⟨(-3), (), rfl, (by have q := b_5; rw [lenN_k (by omega) (by omega)] at q; unfold F_line; rw [if_pos (by omega), nI_clamp (by omega), if_pos (by omega)]), trivial⟩, hS.F ht⟩) hS.2.2 dX8_line_26
  · skip
    refine lv_if_ne (tgt := 13) hx hb dX8_line_8 (by decide) (fun h => absurd h (by decide)) (fun _ => ?_)
    refine lv_iconst (v := (-1)) hx hb dX8_line_11 (by decide) ?_
    exact W.iret (v := (-1)) hx hb hr (fun t ht hW => ⟨⟨(-1), (), rfl, (by unfold F_line; rw [if_neg (by omega)]), trivial⟩, hS.F ht⟩) hS.2.2 dX8_line_12
set_option maxHeartbeats 4000000 in
set_option maxRecDepth 100000 in
theorem x_quarrel (l : Launch) (dC : Nat → ClassId) (dI : Nat → Nat → Nat) (sz : Nat) (h0 : Nat) (p1 : Nat) (u1 : Value) (u2 : Value) (u3 : Value) (u4 : Value) (u5 : Value) (w0 : Value) (w1 : Value) (b2 : Nat) (w3 : Value) (w4 : Value) (w5 : Value) (cn : Nat) (bb : Int32) (kb2 : ClassId) (fqu : Nat → Int32) (n1 : Int32) (hc : cn ≤ 10) : Met l yX8_quarrel (wq yX8_quarrel cX8_quarrel 2 (some .int)) ({ frames := 2, cells := 0, slots := 0, locals := 42 }) (va_Pc [.ref h0, .int n1] (pcW dC dI [(kb2, .int)] [(h0, .inr (7, [.ref p1, u1, u2, u3, u4, u5])), (p1, .inr (1, [w0, w1, .ref b2, w3, w4, w5, .int (nI cn), .int bb])), (b2, .inl (kb2, 10, .inl fqu))] sz)) (va_Qi (fun (r : Int32) (_ : Unit) => r = (F_q cn (fqu n1.toNatClampNeg) n1)) (fun _ _ => True) (fun q : Nat => sz ≤ q)) 0 0 (fun q : Nat => sz ≤ q) := by
  refine Met.ofW (cc := cX8_quarrel) (maxL := 2) (ret := (some .int)) (by decide) rfl ?_
  intro p e s m args below meth c s₁ B hml hv
  obtain ⟨rfl, hsz, hN, hP, hK, hD0⟩ := hv
  have hx := B.exec
  have hb := B.bytes
  have hr := B.returns
  have hts0 := atoms_spec (ws := (wq yX8_quarrel cX8_quarrel 2 (some .int))) B.pre
  have hts : ∀ w ∈ BG, w.before _ s = true := fun w h => hts0 w (List.mem_cons_of_mem _ h)
  have hown : s.vm.findClass RX8 = some m.cls := findClass_of_methodNamed B.named
  have hlocks := B.notSynchronized
  subst hsz
  have hA : ∀ q : Nat, s.heap.size ≤ q → (fun q : Nat => s.heap.size ≤ q) q := fun _ h => h
  have hD := hD0
  have hS : va_S (fun q : Nat => s.heap.size ≤ q) s.heap s.heap [] := va_S.rf
  have hP : va_P (dC, dI) vwCl [(h0, .inr (7, [.ref p1, u1, u2, u3, u4, u5])), (p1, .inr (1, [w0, w1, .ref b2, w3, w4, w5, .int (nI cn), .int bb])), (b2, .inl (kb2, 10, .inl fqu))] s.heap := hP
  have hl := lv_entry ([.ref h0, .int n1]) (n := 2) (Nat.le_of_ble_eq_true rfl)
  rw [lg_entry_eq]
  generalize (lg_sl ([.ref h0, .int n1]) ++ List.replicate (2 - (lg_sl ([.ref h0, .int n1])).length) Slot.unset).toArray = ls at hl ⊢
  have hl : lv_has ls 2 [(0, .ref h0), (1, .int n1)] := hl
  refine lv_aload_n hx hb dX8_quarrel_0 rfl (lv_at hl 0 rfl) ?_
  refine va_get (D := (dC, dI)) (ci := 7) (v := .ref p1) (C := RX8) (T := TX8) (N := 6) hx hb hts inB_8 hown hK hP 0 rfl rfl 0 (by decide) (hts _ mw_1_168) (fun _ h9 => h9) rfl dX8_quarrel_1 ?_
  refine lv_iload_n hx hb dX8_quarrel_4 rfl (lv_at hl 1 rfl) ?_
  have hPc := hP.sub (ws' := [(p1, .inr (1, [w0, w1, .ref b2, w3, w4, w5, .int (nI cn), .int bb]))]) [1] rfl
  have hDc := hD.sub (ws' := [(p1, .inr (1, [w0, w1, .ref b2, w3, w4, w5, .int (nI cn), .int bb]))]) [1] (by decide) rfl
  have hKc := hK.sub (tys' := []) [] rfl
  refine va_calli (va_runV (As := [.int n1]) (rest := []) ⟨hx, hb, hml, hown, hts⟩ (c_knows l dC dI s.heap.size p1 (w0) (w1) (.ref b2) (w3) (w4) (w5) cn (.int bb) n1 hc) (cwV 1 hts (gV mw_1_191 mw_1_192 mw_1_193 mw_1_2 mw_1_194) rfl rfl rfl (by decide +kernel) ⟨Nat.le_of_ble_eq_true rfl, Nat.le_of_ble_eq_true rfl⟩) ⟨pcW_blind, va_recv hKc hPc (ci := 1) (q0 := 0) rfl rfl, pcW_at hPc hKc hDc hN⟩ rfl rfl hl.1 rfl (lv_room (Nat.le_of_ble_eq_true rfl)) dX8_quarrel_5 ⟨Nat.le_of_ble_eq_true rfl, Nat.le_of_ble_eq_true rfl⟩) hS (fun q h1 h2 => absurd h2 (Nat.not_le.mpr h1)) (fun q h => hA q (Nat.le_trans hS.1 h)) (fun r_1 u t H1 locs ht hvm hw_1 hB hz1 hk1 hS => ?_)
  have hP := keepP hP hk1
  clear hz1 hk1 hB ht hvm hPc hDc hKc
  generalize H1 = H at hP hS ⊢
  rcases fx_bool hw_1 with ⟨rfl, b_2⟩ | ⟨rfl, b_2⟩
  · skip
    refine lv_if_ne (tgt := 13) hx hb dX8_quarrel_8 (by decide) (fun _ => ?_) (fun h => absurd h (by decide))
    obtain ⟨j_3, tj_3, ej_3⟩ := fx_nat (x := n1) (by omega)
    subst ej_3
    have yj_3 : Int32.toInt (nI j_3) = (j_3 : Int) := nI_toInt tj_3
    refine lv_aload_n hx hb dX8_quarrel_13 rfl (lv_at hl 0 rfl) ?_
    refine va_get (D := (dC, dI)) (ci := 7) (v := .ref p1) (C := RX8) (T := TX8) (N := 6) hx hb hts inB_8 hown hK hP 0 rfl rfl 0 (by decide) (hts _ mw_1_168) (fun _ h9 => h9) rfl dX8_quarrel_14 ?_
    refine lv_iload_n hx hb dX8_quarrel_17 rfl (lv_at hl 1 rfl) ?_
    have hPc := hP.sub (ws' := [(p1, .inr (1, [w0, w1, .ref b2, w3, w4, w5, .int (nI cn), .int bb])), (b2, .inl (kb2, 10, .inl fqu))]) [1, 2] rfl
    have hDc := hD.sub (ws' := [(p1, .inr (1, [w0, w1, .ref b2, w3, w4, w5, .int (nI cn), .int bb])), (b2, .inl (kb2, 10, .inl fqu))]) [1, 2] (by decide) rfl
    have hKc := hK.sub (tys' := [(kb2, .int)]) [0] rfl
    refine va_calli (va_runV (As := [.int (nI j_3)]) (rest := []) ⟨hx, hb, hml, hown, hts⟩ (c_quarrelOf l dC dI H.size p1 (w0) (w1) b2 (w3) (w4) (w5) cn (.int bb) kb2 fqu j_3 hc (by omega)) (cwV 1 hts (gV mw_2_57 mw_2_58 mw_2_59 mw_1_2 mw_2_60) rfl rfl rfl (by decide +kernel) ⟨Nat.le_of_ble_eq_true rfl, Nat.le_of_ble_eq_true rfl⟩) ⟨pcW_blind, va_recv hKc hPc (ci := 1) (q0 := 0) rfl rfl, pcW_at hPc hKc hDc hN⟩ rfl rfl hl.1 rfl (lv_room (Nat.le_of_ble_eq_true rfl)) dX8_quarrel_18 ⟨Nat.le_of_ble_eq_true rfl, Nat.le_of_ble_eq_true rfl⟩) hS (fun q h1 h2 => absurd h2 (Nat.not_le.mpr h1)) (fun q h => hA q (Nat.le_trans hS.1 h)) (fun r_4 u t H1 locs ht hvm hw_4 hB hz1 hk1 hS => ?_)
    have hP := keepP hP hk1
    clear hz1 hk1 hB ht hvm hPc hDc hKc
    generalize H1 = H at hP hS ⊢
    obtain rfl : r_4 = (fqu j_3) := hw_4
    exact W.iret (v := (fqu j_3)) hx hb hr (fun t ht hW => ⟨⟨(fqu j_3), (), rfl, (by unfold F_q; rw [if_pos (by omega), nI_clamp (by omega)]), trivial⟩, hS.F ht⟩) hS.2.2 dX8_quarrel_21
  · skip
    refine lv_if_ne (tgt := 13) hx hb dX8_quarrel_8 (by decide) (fun h => absurd h (by decide)) (fun _ => ?_)
    refine lv_iconst (v := (-1)) hx hb dX8_quarrel_11 (by decide) ?_
    exact W.iret (v := (-1)) hx hb hr (fun t ht hW => ⟨⟨(-1), (), rfl, (by unfold F_q; rw [if_neg (by omega)]), trivial⟩, hS.F ht⟩) hS.2.2 dX8_quarrel_12
