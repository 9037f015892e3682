/-! a call's cells come back into their places -/
def setL (ws : va_W) : List (Nat × (Nat × va_E)) → va_W
  | [] => ws
  | q :: r => setL (ws.set q.1 q.2) r
theorem setL_get : ∀ (ps : List (Nat × (Nat × va_E))) (ws : va_W) (k : Nat) (q : Nat × va_E), (setL ws ps)[k]? = some q → (∃ p ∈ ps, p.1 = k ∧ p.2 = q) ∨ ((∀ p ∈ ps, p.1 ≠ k) ∧ ws[k]? = some q)
  | [], ws, k, q, h => Or.inr ⟨fun p hp => absurd hp List.not_mem_nil, h⟩
  | p :: r, ws, k, q, h => by
    rcases setL_get r (ws.set p.1 p.2) k q h with ⟨x, h1, h2⟩ | ⟨h1, h2⟩
    · exact Or.inl ⟨x, List.mem_cons_of_mem _ h1, h2⟩
    · by_cases z : p.1 = k
      · rw [List.getElem?_set] at h2
        rw [if_pos z] at h2
        by_cases y : p.1 < ws.length
        · rw [if_pos y] at h2
          exact Or.inl ⟨p, List.mem_cons_self, z, Option.some.inj h2⟩
        · rw [if_neg y] at h2; cases h2
      · rw [List.getElem?_set_ne z] at h2
        exact Or.inr ⟨fun x hx => (List.mem_cons.mp hx).elim (fun e => e ▸ z) (h1 x), h2⟩
theorem va_joinS {A0 : Nat → Prop} {D : va_G} {cl : List vw_C} {ws wc w1 : va_W} {H H1 : Heap} (hP : va_P D cl ws H) (hD : va_D A0 ws) (isC : List Nat) (hC : isC.map (fun i => ws[i]?) = wc.map some) (hadr : w1.map Prod.fst = wc.map Prod.fst)
    (hk : ∀ q : Nat, q < H.size → ¬ va_A wc H.size q → H1[q]? = H[q]?) (hP1 : va_P D cl w1 H1) : va_P D cl (setL ws (isC.zip w1)) H1 ∧ va_D A0 (setL ws (isC.zip w1)) := by
  have hl1 : isC.length = wc.length := by have := congrArg List.length hC; simpa using this
  have hl2 : w1.length = wc.length := by have := congrArg List.length hadr; simpa using this
  have atC : ∀ (n i : Nat) (q : Nat × va_E), isC[n]? = some i → wc[n]? = some q → ws[i]? = some q := by
    intro n i q h1 h2
    have h3 : (isC.map (fun i => ws[i]?))[n]? = some (some q) := by rw [hC, List.getElem?_map, h2]; rfl
    rw [List.getElem?_map, h1] at h3
    exact Option.some.inj h3
  have inz : ∀ p ∈ isC.zip w1, ∃ n : Nat, isC[n]? = some p.1 ∧ w1[n]? = some p.2 ∧ ∃ q : Nat × va_E, wc[n]? = some q ∧ q.1 = p.2.1 ∧ ws[p.1]? = some q := by
    intro p hp
    obtain ⟨n, hn⟩ := List.getElem?_of_mem hp
    rw [List.getElem?_zip_eq_some] at hn
    have hlt : n < w1.length := (List.getElem?_eq_some_iff.mp hn.2).1
    obtain ⟨q, hq⟩ : ∃ q, wc[n]? = some q := ⟨wc[n]'(by omega), List.getElem?_eq_getElem (by omega)⟩
    refine ⟨n, hn.1, hn.2, q, hq, ?_, atC n p.1 q hn.1 hq⟩
    have h3 : (w1.map Prod.fst)[n]? = (wc.map Prod.fst)[n]? := by rw [hadr]
    rw [List.getElem?_map, List.getElem?_map, hn.2, hq] at h3
    exact (Option.some.inj h3).symm
  have adr : ∀ (k : Nat) (q : Nat × va_E), (setL ws (isC.zip w1))[k]? = some q → ∃ q0 : Nat × va_E, ws[k]? = some q0 ∧ q0.1 = q.1 := by
    intro k q h
    rcases setL_get _ _ _ _ h with ⟨p, h1, h2, h3⟩ | ⟨_, h2⟩
    · obtain ⟨n, _, _, q0, _, h6, h7⟩ := inz p h1
      exact ⟨q0, by rw [← h2]; exact h7, by rw [← h3]; exact h6⟩
    · exact ⟨q, h2, rfl⟩
  refine ⟨fun k q h => ?_, fun i j p q h1 h2 e => ?_, fun k q h => ?_⟩
  · rcases setL_get _ _ _ _ h with ⟨p, h1, h2, h3⟩ | ⟨h1, h2⟩
    · obtain ⟨n, _, h5, _⟩ := inz p h1
      rw [← h3]; exact hP1 n p.2 h5
    · have hlt := (hP k q h2).lt
      refine (hP k q h2).kept (hk q.1 hlt (fun ha => ?_))
      rcases ha with ⟨k2, e, h4⟩ | h4
      · have hlt2 : k2 < wc.length := (List.getElem?_eq_some_iff.mp h4).1
        have h5 : isC[k2]? = some (isC[k2]'(by omega)) := List.getElem?_eq_getElem (by omega)
        have h6 : w1[k2]? = some (w1[k2]'(by omega)) := List.getElem?_eq_getElem (by omega)
        have h7 := atC k2 _ _ h5 h4
        have h8 := hD.1 k _ q _ h2 h7 rfl
        exact h1 (isC[k2]'(by omega), w1[k2]'(by omega)) (List.mem_of_getElem? (i := k2) (by rw [List.getElem?_zip_eq_some]; exact ⟨h5, h6⟩)) h8.symm
      · omega
  · obtain ⟨p0, a1, a2⟩ := adr i p h1
    obtain ⟨q0, b1, b2⟩ := adr j q h2
    exact hD.1 i j p0 q0 a1 b1 (by rw [a2, b2]; exact e)
  · obtain ⟨q0, a1, a2⟩ := adr k q h
    rw [← a2]; exact hD.2 k q0 a1
