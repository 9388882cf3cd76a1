-- ===== 09f: merging rows =====
def behB (rs : Nat → List Nat) (R c : Nat) : Bool := (List.range R).any (fun k => decide (c ∈ (rs k).tail))
def nxP (rs : Nat → List Nat) (R k : Nat) : Bool := match rs k with
  | [] => false
  | h :: _ => !behB rs R h
def mNx (rs : Nat → List Nat) (R : Nat) : Option Nat := (fnd (nxP rs R) R).bind (fun k => (rs k).head?)
def mTk (h : Nat) (rs : Nat → List Nat) (k : Nat) : List Nat := if (rs k).head? = some h then (rs k).tail else rs k
def lfB (rs : Nat → List Nat) (R : Nat) : Bool := (List.range R).any (fun k => !(rs k).isEmpty)
def mrg (R : Nat) : Nat → (Nat → List Nat) → List Nat → Option (List Nat)
  | 0, rs, acc => if lfB rs R then none else some acc
  | k + 1, rs, acc => if lfB rs R then (match mNx rs R with | none => none | some h => mrg R k (mTk h rs) (acc ++ [h])) else some acc
theorem behB_no {rs : Nat → List Nat} {R c : Nat} (h : behB rs R c = false) : ∀ k, k < R → c ∉ (rs k).tail := by
  intro k hk hm
  have h1 : behB rs R c = true := anyU.mpr ⟨k, hk, by simpa using hm⟩
  rw [h1] at h
  cases h
theorem mNx_some {rs : Nat → List Nat} {R h : Nat} (e : mNx rs R = some h) : ∃ k, k < R ∧ (rs k).head? = some h ∧ behB rs R h = false := by
  unfold mNx at e
  cases hf : fnd (nxP rs R) R with
  | none => rw [hf] at e; cases e
  | some k =>
    rw [hf] at e
    obtain ⟨h1, h2, _⟩ := fnd_some hf
    have e2 : (rs k).head? = some h := e
    refine ⟨k, h1, e2, ?_⟩
    unfold nxP at h2
    cases hr : rs k with
    | nil => rw [hr] at e2; simp at e2
    | cons a r =>
      rw [hr] at e2 h2
      simp at e2
      subst e2
      simpa using h2
theorem lfB_no {rs : Nat → List Nat} {R : Nat} (h : lfB rs R = false) : ∀ k, k < R → rs k = [] := by
  intro k hk
  cases hr : rs k with
  | nil => rfl
  | cons a r =>
    have h1 : lfB rs R = true := anyU.mpr ⟨k, hk, by rw [hr]; rfl⟩
    rw [h1] at h
    cases h
/-- what stays so while rows are merged: the rows' elements are unlike, below c, and none is taken -/
def mOK (R c : Nat) (rs : Nat → List Nat) (acc : List Nat) : Prop := acc.Nodup ∧ (∀ d, d ∈ acc → d ≤ c) ∧ ∀ k, k < R → (rs k).Nodup ∧ ∀ d, d ∈ rs k → d < c ∧ d ∉ acc
theorem mTk_mem {rs : Nat → List Nat} {h k d : Nat} (hd : d ∈ mTk h rs k) : d ∈ rs k := by
  unfold mTk at hd
  split at hd
  · exact List.mem_of_mem_tail hd
  · exact hd
theorem mTk_no {rs : Nat → List Nat} {R h k : Nat} (hb : behB rs R h = false) (hk : k < R) : h ∉ mTk h rs k := by
  unfold mTk
  split
  · exact behB_no hb k hk
  · rename_i hh
    intro hm
    cases hr : rs k with
    | nil => rw [hr] at hm; cases hm
    | cons a r =>
      rw [hr] at hm hh
      rcases List.mem_cons.mp hm with rfl | h2
      · exact hh rfl
      · exact behB_no hb k hk (by rw [hr]; exact h2)
theorem mOK.step {R c h : Nat} {rs : Nat → List Nat} {acc : List Nat} (H : mOK R c rs acc) (e : mNx rs R = some h) : mOK R c (mTk h rs) (acc ++ [h]) ∧ h < c := by
  obtain ⟨k, hk, h1, h2⟩ := mNx_some e
  have hm : h ∈ rs k := List.mem_of_mem_head? h1
  have hh := (H.2.2 k hk).2 h hm
  refine ⟨⟨?_, ?_, ?_⟩, hh.1⟩
  · rw [List.nodup_append]
    refine ⟨H.1, by simp, fun a ha b hb => ?_⟩
    have : b = h := by simpa using hb
    subst this
    intro e2
    subst e2
    exact hh.2 ha
  · intro d hd
    rcases List.mem_append.mp hd with h3 | h3
    · exact H.2.1 d h3
    · have : d = h := by simpa using h3
      omega
  · intro j hj
    refine ⟨?_, fun d hd => ?_⟩
    · have := (H.2.2 j hj).1
      unfold mTk
      split
      · exact this.tail
      · exact this
    · have h3 := (H.2.2 j hj).2 d (mTk_mem hd)
      refine ⟨h3.1, fun h4 => ?_⟩
      rcases List.mem_append.mp h4 with h5 | h5
      · exact h3.2 h5
      · have : d = h := by simpa using h5
        subst this
        exact mTk_no h2 hj hd
theorem mOK.len {R c : Nat} {rs : Nat → List Nat} {acc : List Nat} (H : mOK R c rs acc) : acc.length ≤ c + 1 := nodup_len (c + 1) acc H.1 (fun d hd => by have := H.2.1 d hd; omega)
theorem mrg_set {R c : Nat} : ∀ {k : Nat} {rs : Nat → List Nat} {acc l : List Nat}, mOK R c rs acc → mrg R k rs acc = some l → l.Nodup ∧ (∀ d, d ∈ l → d ≤ c) ∧ (∀ d, d ∈ l ↔ d ∈ acc ∨ ∃ j, j < R ∧ d ∈ rs j) ∧ ∃ t, l = acc ++ t
  | 0, rs, acc, l, H, h => by
    unfold mrg at h
    split at h
    · cases h
    · rename_i hl
      cases h
      have h0 := lfB_no (by simpa using hl)
      refine ⟨H.1, H.2.1, fun d => ⟨Or.inl, fun h1 => ?_⟩, [], by simp⟩
      rcases h1 with h1 | ⟨j, hj, h1⟩
      · exact h1
      · rw [h0 j hj] at h1; cases h1
  | k + 1, rs, acc, l, H, h => by
    unfold mrg at h
    split at h
    · cases hn : mNx rs R with
      | none => rw [hn] at h; cases h
      | some a =>
        rw [hn] at h
        have hs := H.step hn
        obtain ⟨g1, g2, g3, t, g4⟩ := mrg_set hs.1 h
        obtain ⟨q, hq, q1, q2⟩ := mNx_some hn
        refine ⟨g1, g2, fun d => ?_, a :: t, by rw [g4]; simp⟩
        rw [g3 d]
        constructor
        · rintro (h1 | ⟨j, hj, h1⟩)
          · rcases List.mem_append.mp h1 with h2 | h2
            · exact Or.inl h2
            · have : d = a := by simpa using h2
              subst this
              exact Or.inr ⟨q, hq, List.mem_of_mem_head? q1⟩
          · exact Or.inr ⟨j, hj, mTk_mem h1⟩
        · rintro (h1 | ⟨j, hj, h1⟩)
          · exact Or.inl (List.mem_append_left _ h1)
          · by_cases e : d = a
            · subst e; exact Or.inl (by simp)
            · refine Or.inr ⟨j, hj, ?_⟩
              unfold mTk
              split
              · rename_i hh
                cases hr : rs j with
                | nil => rw [hr] at h1; cases h1
                | cons b r =>
                  rw [hr] at hh h1
                  simp at hh
                  subst hh
                  rcases List.mem_cons.mp h1 with h2 | h2
                  · exact absurd h2 e
                  · exact h2
              · exact h1
    · rename_i hl
      cases h
      have h0 := lfB_no (by simpa using hl)
      refine ⟨H.1, H.2.1, fun d => ⟨Or.inl, fun h1 => ?_⟩, [], by simp⟩
      rcases h1 with h1 | ⟨j, hj, h1⟩
      · exact h1
      · rw [h0 j hj] at h1; cases h1
/-- empty rows between others change nothing -/
def mEm (R R' : Nat) (e : Nat → Nat) (rs rs' : Nat → List Nat) : Prop := (∀ k, k < R' → e k < R ∧ rs (e k) = rs' k) ∧ (∀ a b, a < b → b < R' → e a < e b) ∧ ∀ j, j < R → (∃ k, k < R' ∧ e k = j) ∨ rs j = []
theorem mEm.beh {R R' : Nat} {e : Nat → Nat} {rs rs' : Nat → List Nat} (H : mEm R R' e rs rs') (c : Nat) : behB rs R c = behB rs' R' c := by
  rw [Bool.eq_iff_iff]
  unfold behB
  rw [anyU, anyU]
  constructor
  · rintro ⟨j, hj, h1⟩
    rcases H.2.2 j hj with ⟨k, hk, rfl⟩ | h0
    · exact ⟨k, hk, by rw [← (H.1 k hk).2]; exact h1⟩
    · rw [h0] at h1; simp at h1
  · rintro ⟨k, hk, h1⟩
    exact ⟨e k, (H.1 k hk).1, by rw [(H.1 k hk).2]; exact h1⟩
theorem mEm.lf {R R' : Nat} {e : Nat → Nat} {rs rs' : Nat → List Nat} (H : mEm R R' e rs rs') : lfB rs R = lfB rs' R' := by
  rw [Bool.eq_iff_iff]
  unfold lfB
  rw [anyU, anyU]
  constructor
  · rintro ⟨j, hj, h1⟩
    rcases H.2.2 j hj with ⟨k, hk, rfl⟩ | h0
    · exact ⟨k, hk, by rw [← (H.1 k hk).2]; exact h1⟩
    · rw [h0] at h1; simp at h1
  · rintro ⟨k, hk, h1⟩
    exact ⟨e k, (H.1 k hk).1, by rw [(H.1 k hk).2]; exact h1⟩
theorem mEm.nx {R R' : Nat} {e : Nat → Nat} {rs rs' : Nat → List Nat} (H : mEm R R' e rs rs') : mNx rs R = mNx rs' R' := by
  have hp : ∀ k, k < R' → nxP rs R (e k) = nxP rs' R' k := by
    intro k hk
    unfold nxP
    rw [(H.1 k hk).2]
    cases rs' k with
    | nil => rfl
    | cons a r =>
      show (!behB rs R a) = !behB rs' R' a
      rw [H.beh]
  unfold mNx
  cases hf : fnd (nxP rs' R') R' with
  | none =>
    have h0 := fnd_none hf
    have h1 : fnd (nxP rs R) R = none := fnd_no (fun j hj => by
      rcases H.2.2 j hj with ⟨k, hk, rfl⟩ | h2
      · rw [hp k hk]; exact h0 k hk
      · unfold nxP; rw [h2])
    rw [h1]
    rfl
  | some k =>
    obtain ⟨h1, h2, h3⟩ := fnd_some hf
    have h4 : fnd (nxP rs R) R = some (e k) := fnd_hit (H.1 k h1).1 (by rw [hp k h1]; exact h2) (fun j hj => by
      rcases H.2.2 j (by have := (H.1 k h1).1; omega) with ⟨q, hq, rfl⟩ | h2
      · have hqk : q < k := by
          rcases Nat.lt_or_ge q k with h5 | h5
          · exact h5
          · rcases Nat.eq_or_lt_of_le h5 with h6 | h6
            · subst h6; omega
            · have := H.2.1 k q h6 hq; omega
        rw [hp q hq]; exact h3 q hqk
      · unfold nxP; rw [h2])
    rw [h4]
    show (rs (e k)).head? = (rs' k).head?
    rw [(H.1 k h1).2]
theorem mEm.tk {R R' : Nat} {e : Nat → Nat} {rs rs' : Nat → List Nat} (H : mEm R R' e rs rs') (h : Nat) : mEm R R' e (mTk h rs) (mTk h rs') := by
  refine ⟨fun k hk => ⟨(H.1 k hk).1, ?_⟩, H.2.1, fun j hj => ?_⟩
  · unfold mTk; rw [(H.1 k hk).2]
  · rcases H.2.2 j hj with h1 | h1
    · exact Or.inl h1
    · exact Or.inr (by unfold mTk; rw [h1]; simp)
theorem mEm_mrg {R R' : Nat} {e : Nat → Nat} : ∀ {k : Nat} {rs rs' : Nat → List Nat} {acc : List Nat}, mEm R R' e rs rs' → mrg R k rs acc = mrg R' k rs' acc
  | 0, rs, rs', acc, H => by
    unfold mrg
    rw [H.lf]
  | k + 1, rs, rs', acc, H => by
    unfold mrg
    rw [H.lf, H.nx]
    cases mNx rs' R' with
    | none => rfl
    | some h => simp only [mEm_mrg (H.tk h)]
