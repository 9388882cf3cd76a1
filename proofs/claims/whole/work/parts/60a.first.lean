-- ===== 60a: the first state =====
def s00 (p k : Nat) : Int32 := if p = 0 then (if k = 10 then -1 else nI 0) else if p = 50 then (if k = 19 then -1 else if k = 1 then nI 1 else nI 0) else if p = 1 ∨ p = 4 ∨ p = 6 ∨ p = 51 ∨ p = 53 then (if k = 0 then nI 1 else nI 0) else nI 0
def T00 : TS := (1, fun _ => [0], 0, fun _ => 0, fun _ _ => none, fun _ _ => nI 0, fun _ _ => nI 0, 0, fun _ => [], nI 0, nI 0)
theorem s00_z {p k : Nat} (h0 : p ≠ 0) (h1 : p ≠ 50) (h2 : ¬ (p = 1 ∨ p = 4 ∨ p = 6 ∨ p = 51 ∨ p = 53)) : s00 p k = nI 0 := by
  unfold s00
  rw [if_neg h0, if_neg h1, if_neg h2]
theorem s00_1 {p k : Nat} (h : p = 1 ∨ p = 4 ∨ p = 6 ∨ p = 51 ∨ p = 53) : s00 p k = if k = 0 then nI 1 else nI 0 := by
  unfold s00
  rw [if_neg (by omega), if_neg (by omega), if_pos h]
theorem s00_0 {k : Nat} (h : k ≠ 10) : s00 0 k = nI 0 := by
  unfold s00
  rw [if_pos rfl, if_neg h]
theorem s00_50 {k : Nat} (h : k ≠ 19) (h1 : k ≠ 1) : s00 50 k = nI 0 := by
  unfold s00
  rw [if_neg (by decide), if_pos rfl, if_neg h, if_neg h1]
theorem T00_up (c d : Nat) : up (tls T00) c d = decide (d = 0) := by
  show decide (d ∈ [0]) = _
  simp
theorem WF_T00 : WF T00 := by
  refine ⟨⟨Nat.le_refl 1, by show 1 ≤ 16; omega⟩, fun c hc => ?_, rfl, by show 0 ≤ 4; omega, fun f hf => absurd hf (Nat.not_lt_zero f), fun f m t hf => absurd hf (Nat.not_lt_zero f), by show 0 < 2; omega, fun f hf => ⟨by show 0 ≤ 6; omega, fun _ => rfl⟩, fun f c hf => absurd hf (Nat.not_lt_zero f)⟩
  have hc0 : c = 0 := by have : c < 1 := hc; omega
  subst hc0
  show ([0] : List Nat).Nodup ∧ 0 ∈ [0] ∧ (∀ d, d ∈ [0] → d ≤ 0) ∧ ∀ d e, d ∈ [0] → e ∈ [0] → e ∈ [0]
  refine ⟨by simp, by simp, fun d hd => by simp at hd; omega, fun d e _ he => he⟩
theorem getE0 {k d : Nat} (h : ([0] : List Nat)[k]? = some d) : k = 0 ∧ d = 0 := by
  have hl := (List.getElem?_eq_some_iff.mp h).1
  simp at hl
  subst hl
  cases h
  exact ⟨rfl, rfl⟩
theorem Bth_s00 {σ : Sg} (hσ : σ = s00) : Bth σ := by
  subst hσ
  refine ⟨T00, WF_T00, fun f m t hf => absurd hf (Nat.not_lt_zero f), ?_, ?_⟩
  · refine ⟨⟨?_, ?_, ?_, ?_, ?_, ?_, ?_⟩, s00_0 (by decide), s00_0 (by decide), s00_0 (by decide), s00_0 (by decide), fun f hf => absurd hf (Nat.not_lt_zero f), fun f _ hf => ?_, fun f hf => ?_, fun f m t hf => absurd hf (Nat.not_lt_zero f), Or.inl rfl⟩
    · rw [s00_1 (by decide), if_pos rfl]; rfl
    · intro c hc d hd
      have hc0 : c = 0 := by have : c < 1 := hc; omega
      subst hc0
      rw [s00_1 (by decide), if_pos rfl, bt_1, T00_up]
    · intro c hc _
      have hc1 : 1 ≤ c := hc
      rw [s00_1 (by decide), if_neg (by omega)]
    · intro c hc k d hk
      have hc0 : c = 0 := by have : c < 1 := hc; omega
      subst hc0
      obtain ⟨rfl, rfl⟩ := getE0 hk
      exact s00_z (by decide) (by decide) (by decide)
    · intro c hc
      have hc0 : c = 0 := by have : c < 1 := hc; omega
      subst hc0
      rw [s00_1 (by decide), if_pos rfl]; rfl
    · intro c d hc hd
      have hc0 : c = 0 := by have : c < 1 := hc; omega
      have hd0 : d = 0 := by have : d ∈ [0] := hd; simpa using this
      subst hc0; subst hd0
      exact s00_z (by decide) (by decide) (by decide)
    · intro c hc
      have hc0 : c = 0 := by have : c < 1 := hc; omega
      subst hc0
      refine ⟨[], by simp, s00_z (by decide) (by decide) (by decide), fun i p h => by simp at h, fun d => ?_⟩
      rw [T00_up]
      simp
    · exact ⟨s00_z (by omega) (by omega) (by omega), fun i _ => s00_z (by omega) (by omega) (by omega)⟩
    · exact ⟨s00_z (by omega) (by omega) (by omega), fun k c hk => by have hk' : ([] : List Nat)[k]? = some c := hk; simp at hk'⟩
  · refine ⟨rfl, ?_, ?_, ?_, ?_, s00_50 (by decide) (by decide), fun f hf => absurd hf (Nat.not_lt_zero f), fun f m hf => absurd hf (Nat.not_lt_zero f), fun f m _ _ => ⟨s00_z (by decide) (by decide) (by decide), s00_z (by decide) (by decide) (by decide)⟩, s00_50 (by decide) (by decide), fun f _ => s00_z (by decide) (by decide) (by decide), fun f k c hf => absurd hf (Nat.not_lt_zero f), s00_50 (by decide) (by decide), s00_50 (by decide) (by decide), rfl, fun w k h => by cases h⟩
    · intro c hc d hd
      have hc0 : c = 0 := by have : c < 1 := hc; omega
      subst hc0
      rw [s00_1 (by decide), if_pos rfl, bt_1, T00_up]
    · intro c hc k d hk
      have hc0 : c = 0 := by have : c < 1 := hc; omega
      subst hc0
      obtain ⟨rfl, rfl⟩ := getE0 hk
      exact s00_z (by decide) (by decide) (by decide)
    · intro c hc
      have hc0 : c = 0 := by have : c < 1 := hc; omega
      subst hc0
      rw [s00_1 (by decide), if_pos rfl]; rfl
    · intro c d hc hd
      have hc0 : c = 0 := by have : c < 1 := hc; omega
      have hd0 : d = 0 := by have : d ∈ [0] := hd; simpa using this
      subst hc0; subst hd0
      exact s00_z (by decide) (by decide) (by decide)
