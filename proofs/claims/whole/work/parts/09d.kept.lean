-- ===== 09d: kept calls =====
theorem idx_hit {c : Nat} : ∀ {l : List Nat} {k : Nat}, l[k]? = some c → (∀ j, j < k → l[j]? ≠ some c) → l.idxOf c = k
  | [], k, h, _ => by simp at h
  | a :: r, 0, h, _ => by
    simp at h
    subst h
    simp
  | a :: r, k + 1, h, h0 => by
    have h1 : a ≠ c := fun e => h0 0 (by omega) (by simp [e])
    have h2 := idx_hit (l := r) (k := k) (by simpa using h) (fun j hj => by
      have := h0 (j + 1) (by omega)
      simpa using this)
    rw [List.idxOf_cons, beq_eq_false_iff_ne.mpr h1, h2]
    rfl
theorem idx_no {c : Nat} {l : List Nat} (h : ∀ j, j < l.length → l[j]? ≠ some c) : l.idxOf c = l.length := by
  apply List.idxOf_eq_length
  intro hm
  obtain ⟨j, hj⟩ := List.getElem?_of_mem hm
  exact h j (List.getElem?_eq_some_iff.mp hj).1 hj
theorem kpI_le (l : List Nat) (c : Nat) : kpI l c ≤ l.length := by
  unfold kpI
  split
  · omega
  · split <;> omega
theorem nKp_len (l : List Nat) (c : Nat) (h6 : l.length ≤ 6) : (nKp l c).length = if l.idxOf c < l.length then l.length else if l.length = 6 then 6 else l.length + 1 := by
  unfold nKp kpI
  rw [List.length_append, List.length_singleton]
  by_cases h : l.idxOf c < l.length
  · rw [if_pos h, if_pos h, List.length_eraseIdx_of_lt h]
    omega
  · rw [if_neg h, if_neg h]
    by_cases h2 : l.length = 6
    · rw [if_pos h2, if_pos h2, List.length_eraseIdx_of_lt (by omega)]
      omega
    · rw [if_neg h2, if_neg h2, List.eraseIdx_of_length_le (Nat.le_refl _)]
theorem nKp_le (l : List Nat) (c : Nat) (h6 : l.length ≤ 6) : (nKp l c).length ≤ 6 ∧ l.length ≤ (nKp l c).length ∧ (nKp l c).length ≤ l.length + 1 ∧ 1 ≤ (nKp l c).length := by
  have h := nKp_len l c h6
  have h0 : l.idxOf c < l.length → 1 ≤ l.length := fun h => by omega
  split at h
  · omega
  · split at h <;> omega
/-- the new row: below the place as before, from it on moved, the call last -/
theorem nKp_at {l : List Nat} {c j : Nat} (h6 : l.length ≤ 6) (hj : j + 1 < (nKp l c).length) : (nKp l c)[j]? = if j < kpI l c then l[j]? else l[j + 1]? := by
  have hl : (nKp l c).length = (l.eraseIdx (kpI l c)).length + 1 := by unfold nKp; simp
  unfold nKp
  rw [List.getElem?_append_left (by omega), List.getElem?_eraseIdx]
theorem nKp_last {l : List Nat} {c : Nat} : (nKp l c)[(nKp l c).length - 1]? = some c := by
  unfold nKp
  simp
theorem nKp_kp (l : List Nat) (c : Nat) (h6 : l.length ≤ 6) : kpI l c + 1 ≤ (nKp l c).length ∧ ((nKp l c).length = l.length ∨ kpI l c = l.length) := by
  have h := nKp_len l c h6
  unfold kpI
  by_cases h1 : l.idxOf c < l.length
  · rw [if_pos h1] at h ⊢
    omega
  · rw [if_neg h1] at h ⊢
    by_cases h2 : l.length = 6
    · rw [if_pos h2] at h ⊢
      omega
    · rw [if_neg h2] at h ⊢
      omega
theorem nKp_mem {l : List Nat} {c x : Nat} (h : x ∈ nKp l c) : x ∈ l ∨ x = c := by
  unfold nKp at h
  rcases List.mem_append.mp h with h | h
  · exact Or.inl (List.mem_of_mem_eraseIdx h)
  · exact Or.inr (by simpa using h)
theorem WF.call {T : TS} (h : WF T) {f c : Nat} (hf : f < tnf T) (hc : vcall (tn T) (tpl T f) c = true) : WF (nCall T f c) := by
  have h1 : WF (setKp T f (nKp (tkp T f) c)) := h.kpSet hf (nKp_le _ _ (h.kp f (by have := h.2.2.2.1; omega))).1 (fun x hx => by
    rcases nKp_mem hx with h2 | h2
    · exact h.2.2.2.2.2.2.2.2 f x hf h2
    · rw [h2]; exact hc)
  exact h1
/-- 'call' -/
def aCall (T : TS) (f c : Int32) : Int32 := if isC T f c then ansI (tls T) (ttg T f.toNatClampNeg) (tru T) c.toNatClampNeg else -3
def tCall (T : TS) (f c : Int32) : TS := if isC T f c then nCall T f.toNatClampNeg c.toNatClampNeg else T
