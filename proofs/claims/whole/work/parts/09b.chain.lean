-- ===== 09b: chains =====
def remB (S : Nat → Bool) (m o : Nat) : Bool := S o && !decide (o = m)
def chn (R : Nat → Nat → Bool) : Nat → (Nat → Bool) → List Nat
  | 0, _ => []
  | k + 1, S => match fnd (fstP S R) 13 with
    | some m => m :: chn R k (remB S m)
    | none => []
def chR (R : Nat → Nat → Bool) : Nat → (Nat → Bool) → Nat → Bool
  | 0, S => S
  | k + 1, S => match fnd (fstP S R) 13 with
    | some m => chR R k (remB S m)
    | none => S
theorem fstP_S {S : Nat → Bool} {R : Nat → Nat → Bool} {m : Nat} (h : fstP S R m = true) : S m = true := by
  unfold fstP at h
  simp only [Bool.and_eq_true] at h
  exact h.1
theorem fstI_fnd {S : Nat → Bool} {R : Nat → Nat → Bool} : (fstI S R < 0 ∧ fnd (fstP S R) 13 = none) ∨ ∃ m, m < 13 ∧ S m = true ∧ fstI S R = nI m ∧ fnd (fstP S R) 13 = some m := by
  rcases fstI_cases S R with ⟨h1, h2⟩ | ⟨h1, _, h3⟩ | ⟨m, hm, h1, h2, h3, h4⟩
  · left
    rw [h1]
    refine ⟨by decide, fnd_no (fun j hj => ?_)⟩
    simp [fstP, h2 j hj]
  · left
    rw [h1]
    exact ⟨by decide, fnd_no h3⟩
  · right
    exact ⟨m, hm, h2, h1, fnd_hit hm h3 h4⟩
theorem cnt_rem {S : Nat → Bool} {m : Nat} : ∀ {n : Nat}, m < n → S m = true → cnt (remB S m) n + 1 = cnt S n
  | 0, h, _ => by omega
  | n + 1, h, hs => by
    unfold cnt
    by_cases e : m = n
    · subst e
      have h1 : cnt (remB S m) m = cnt S m := cnt_congr (fun k hk => by simp [remB, show k ≠ m by omega])
      simp [h1, hs, remB]
    · have h1 := cnt_rem (S := S) (m := m) (n := n) (by omega) hs
      have h2 : remB S m n = S n := by simp [remB, show n ≠ m by omega]
      rw [h2]
      omega
theorem cnt_0 {S : Nat → Bool} : ∀ {n : Nat}, cnt S n = 0 → ∀ m, m < n → S m = false
  | 0, _, m, h => by omega
  | n + 1, h, m, hm => by
    unfold cnt at h
    cases e : S n with
    | true => rw [e] at h; simp at h
    | false =>
      rw [e] at h
      by_cases e2 : m = n
      · subst e2; exact e
      · exact cnt_0 (n := n) (by simpa using h) m (by omega)
theorem chn_len {R : Nat → Nat → Bool} : ∀ {k : Nat} {S : Nat → Bool}, (chn R k S).length ≤ k
  | 0, _ => Nat.le_refl _
  | k + 1, S => by
    unfold chn
    split
    · have := chn_len (R := R) (k := k) (S := remB S ‹_›)
      simp; omega
    · simp
theorem chn_mem {R : Nat → Nat → Bool} : ∀ {k : Nat} {S : Nat → Bool} {m : Nat}, m ∈ chn R k S → m < 13 ∧ S m = true
  | 0, _, m, h => by simp [chn] at h
  | k + 1, S, m, h => by
    unfold chn at h
    split at h
    · rename_i q hq
      obtain ⟨h1, h2, _⟩ := fnd_some hq
      rcases List.mem_cons.mp h with rfl | h3
      · exact ⟨h1, fstP_S h2⟩
      · obtain ⟨h4, h5⟩ := chn_mem h3
        simp only [remB, Bool.and_eq_true] at h5
        exact ⟨h4, h5.1⟩
    · cases h
theorem chR_mem {R : Nat → Nat → Bool} : ∀ {k : Nat} {S : Nat → Bool} {m : Nat}, chR R k S m = true → S m = true
  | 0, _, m, h => h
  | k + 1, S, m, h => by
    cases e : fnd (fstP S R) 13 with
    | none =>
      have e1 : chR R (k + 1) S = S := by
        show (match fnd (fstP S R) 13 with | some m => chR R k (remB S m) | none => S) = _
        rw [e]
      rw [e1] at h
      exact h
    | some q =>
      have e1 : chR R (k + 1) S = chR R k (remB S q) := by
        show (match fnd (fstP S R) 13 with | some m => chR R k (remB S m) | none => S) = _
        rw [e]
      rw [e1] at h
      have h1 := chR_mem h
      simp only [remB, Bool.and_eq_true] at h1
      exact h1.1
theorem appB_12 {T : TS} (hW : WF T) {f call m : Nat} (hf : f < tnf T) (h : appB (tls T) (ttg T f) call m = true) : m < 12 := by
  obtain ⟨t, ht, _⟩ := appB_some h
  exact (hW.2.2.2.2.2.1 f m t hf ht).1
theorem app_cnt {T : TS} (hW : WF T) {f call : Nat} (hf : f < tnf T) : cnt (appB (tls T) (ttg T f) call) 13 ≤ 12 := by
  have h : appB (tls T) (ttg T f) call 12 = false := by
    cases e : appB (tls T) (ttg T f) call 12 with
    | false => rfl
    | true => exact absurd (appB_12 hW hf e) (by omega)
  have h1 := cnt_le (appB (tls T) (ttg T f) call) 12
  unfold cnt
  rw [h]
  simp
  exact h1
/-- a call's chain, and what is left behind it -/
def tch (T : TS) (f call : Nat) : List Nat := chn (befB (tls T) (ttg T f) (tru T) call) 12 (appB (tls T) (ttg T f) call)
def tcr (T : TS) (f call : Nat) : Nat → Bool := chR (befB (tls T) (ttg T f) (tru T) call) 12 (appB (tls T) (ttg T f) call)
def aChain (T : TS) (f call k : Int32) : Int32 := if isC T f call then (if k = -1 then nI (tch T f.toNatClampNeg call.toNatClampNeg).length else if isN k (tch T f.toNatClampNeg call.toNatClampNeg).length then nI ((tch T f.toNatClampNeg call.toNatClampNeg).getD k.toNatClampNeg 0) else -1) else -1
def aBroken (T : TS) (f call : Int32) : Int32 := if isC T f call then nI (cnt (tcr T f.toNatClampNeg call.toNatClampNeg) 13) else -1
/-- what is worked out of a chain -/
def wv (k v w : Int32) : Int32 := if k = nI 0 then v else if k = nI 1 then v + w else if k = nI 2 then v * w else if w < v then v else w
def wrk (kd vl : Nat → Int32) : List Nat → Int32
  | [] => nI 0
  | m :: r => wv (kd m) (vl m) (wrk kd vl r)
def okWork (T : TS) (f call : Int32) : Bool := isC T f call && !(tch T f.toNatClampNeg call.toNatClampNeg).isEmpty
def aWork (T : TS) (f call : Nat) : Int32 := wrk (tkd T f) (tvl T f) (tch T f call)
/-- what laying a chain leaves: the chain, the rest -/
def chP (σ : Sg) (C : List Nat) (Z : Nat → Bool) (σ' : Sg) : Prop := keepM σ σ' ∧ σ' 50 0 = σ 50 0 ∧ σ' 50 22 = nI C.length ∧ (∀ j m, C[j]? = some m → σ' 64 j = nI m) ∧ ∀ m, m < 32 → bt (σ' 50 23) m = (decide (m < 13) && Z m)
