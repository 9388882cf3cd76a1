-- ===== 11: what the class's object holds; calls in their order =====
/-- the classes -/
def CX (T : TS) (σ : Sg) : Prop :=
  σ 1 0 = nI (tn T) ∧
  (∀ c, c < tn T → ∀ d, d < 32 → bt (σ 4 c) d = up (tls T) c d) ∧
  (∀ c, tn T ≤ c → c < 16 → σ 4 c = nI 0) ∧
  (∀ c, c < tn T → ∀ k d, (tls T c)[k]? = some d → σ 5 (16 * c + k) = nI d) ∧
  (∀ c, c < tn T → σ 6 c = nI (tls T c).length) ∧
  (∀ c d, c < tn T → d ∈ tls T c → σ 7 (16 * c + d) = nI (rk (tls T) c d)) ∧
  (∀ c, c < tn T → ∃ P : List Nat, P.length ≤ 3 ∧ σ 3 c = nI P.length ∧ (∀ i p, P[i]? = some p → p < c ∧ σ 2 (3 * c + i) = nI p) ∧ ∀ d, up (tls T) c d = true ↔ d = c ∨ ∃ p, p ∈ P ∧ up (tls T) p d = true)
def fitB (ls : Nat → List Nat) (g : Nat → Option Nat) (q c m : Nat) : Bool := match g m with
  | none => false
  | some t => decide (m < 13) && up ls c (dg t q)
/-- a function's methods g, at its place p -/
def FX (n : Nat) (ls : Nat → List Nat) (p pl : Nat) (g : Nat → Option Nat) (σ : Sg) : Prop :=
  σ p 0 = nI pl ∧
  (∀ m, m < 32 → bt (σ p 1) m = (g m).isSome) ∧
  (∀ m t, g m = some t → σ (p + 1) m = nI t) ∧
  (∀ q c, q < 3 → c < n → ∀ m, m < 32 → bt (σ (p + 5) (16 * q + c)) m = fitB ls g q c m) ∧
  (∀ m t, g m = some t → ∀ o, o < 32 → bt (σ (p + 4) m) o = appB ls g t o)
/-- a function's kept calls -/
def KX (p : Nat) (l : List Nat) (σ : Sg) : Prop := σ p 8 = nI l.length ∧ ∀ k c, l[k]? = some c → σ (p + 6) k = nI c
def InvX (T : TS) (σ : Sg) : Prop :=
  CX T σ ∧ σ 0 3 = nI (tnf T) ∧ σ 0 4 = nI (tru T) ∧ σ 0 5 = thi T ∧ σ 0 6 = tmi T ∧
  (∀ f, f < tnf T → FX (tn T) (tls T) (15 + 7 * f) (tpl T f) (ttg T f) σ) ∧
  (∀ f, tnf T ≤ f → f < 4 → σ (15 + 7 * f) 1 = nI 0 ∧ ∀ i, i < 48 → σ (15 + 7 * f + 5) i = nI 0) ∧
  (∀ f, f < 4 → KX (15 + 7 * f) (tkp T f) σ) ∧
  (∀ f m t, f < tnf T → ttg T f m = some t → σ (15 + 7 * f + 2) m = tkd T f m ∧ σ (15 + 7 * f + 3) m = tvl T f m) ∧
  (σ 0 10 = -1 ∨ ∃ f, f < tnf T ∧ σ 0 10 = nI f ∧ ∀ c, vcall (tn T) (tpl T f) c = true → σ 13 c = ansI (tls T) (ttg T f) (tru T) c)
def frXo (σ σ' : Sg) : Prop := ∀ q, 50 ≤ q → σ' q = σ q
theorem frXo.rfl' (σ : Sg) : frXo σ σ := fun _ _ => rfl
theorem frXo.trans {a b c : Sg} (h1 : frXo a b) (h2 : frXo b c) : frXo a c := fun q h => (h2 q h).trans (h1 q h)
theorem frXo.s2 {σ : Sg} {p k : Nat} {v : Int32} (h : p < 50) : frXo σ (s2 σ p k v) := fun q hq => s2_np (by omega)
theorem frXo.row {σ : Sg} {p : Nat} {F : Nat → Int32} (h : p < 50) : frXo σ (sR σ p F) := fun q hq => sR_ne (by omega)
/-- a call's end, of the class's object -/
def nX (T' : TS) (σ : Sg) (v : Int32) : Option PV → Sg → Prop := fun r σ' => r = some (.inl v) ∧ InvX T' σ' ∧ frXo σ σ'
-- the calls in their order
def ci (n i : Nat) : Nat := i % n + 16 * (i / n % n) + 256 * (i / (n * n))
def ix (n c : Nat) : Nat := dg c 0 + n * dg c 1 + n * n * dg c 2
theorem ci_dg {n i : Nat} (hn : 1 ≤ n) (h16 : n ≤ 16) (hi : i < n * n * n) : dg (ci n i) 0 = i % n ∧ dg (ci n i) 1 = i / n % n ∧ dg (ci n i) 2 = i / (n * n) := by
  have h0 : i % n < n := Nat.mod_lt _ (by omega)
  have h1 : i / n % n < n := Nat.mod_lt _ (by omega)
  have h2 : i / (n * n) < n := by
    apply Nat.div_lt_of_lt_mul
    exact hi
  exact dg_mk (by omega) (by omega) (by omega)
theorem ci_lt {n i : Nat} (hn : 1 ≤ n) (h16 : n ≤ 16) (hi : i < n * n * n) : ci n i < 4096 ∧ dg (ci n i) 0 < n ∧ dg (ci n i) 1 < n ∧ dg (ci n i) 2 < n := by
  obtain ⟨e0, e1, e2⟩ := ci_dg hn h16 hi
  have h0 : i % n < n := Nat.mod_lt _ (by omega)
  have h1 : i / n % n < n := Nat.mod_lt _ (by omega)
  have h2 : i / (n * n) < n := by
    apply Nat.div_lt_of_lt_mul
    exact hi
  rw [e0, e1, e2]
  refine ⟨?_, h0, h1, h2⟩
  unfold ci
  omega
theorem npow {n pl : Nat} (hn : 1 ≤ n) (h : pl ≤ 3) : n ^ pl ≤ n * n * n := by
  have h1 : n * n * n = n ^ 3 := by
    rw [Nat.pow_succ, Nat.pow_succ, Nat.pow_one]
  rw [h1]
  exact Nat.pow_le_pow_right hn h
theorem ci_v {n pl i : Nat} (hn : 1 ≤ n) (h16 : n ≤ 16) (hpl : 1 ≤ pl ∧ pl ≤ 3) (hi : i < n ^ pl) : vcall n pl (ci n i) = true := by
  have hi3 : i < n * n * n := Nat.lt_of_lt_of_le hi (npow hn hpl.2)
  obtain ⟨h0, h1, h2, h3⟩ := ci_lt hn h16 hi3
  have hc : ci n i < 16 ^ pl := by
    have g0 : i % n < n := Nat.mod_lt _ (by omega)
    have g1 : i / n % n < n := Nat.mod_lt _ (by omega)
    rcases (show pl = 1 ∨ pl = 2 ∨ pl = 3 by omega) with rfl | rfl | rfl
    · rw [Nat.pow_one] at hi ⊢
      have e1 : i / n = 0 := Nat.div_eq_of_lt hi
      have e2 : i / (n * n) = 0 := Nat.div_eq_of_lt (Nat.lt_of_lt_of_le hi (Nat.le_mul_of_pos_left n (by omega)))
      unfold ci
      rw [e1, e2]
      simp
      omega
    · have e2 : i / (n * n) = 0 := Nat.div_eq_of_lt (by rw [Nat.pow_succ, Nat.pow_one] at hi; exact hi)
      unfold ci
      rw [e2]
      show _ < 256
      omega
    · exact h0
  simp [vcall, hc, h1, h2, h3]
theorem ix_ci {n i : Nat} (hn : 1 ≤ n) (h16 : n ≤ 16) (hi : i < n * n * n) : ix n (ci n i) = i := by
  obtain ⟨e0, e1, e2⟩ := ci_dg hn h16 hi
  unfold ix
  rw [e0, e1, e2]
  have h1 := Nat.div_add_mod i n
  have h2 := Nat.div_add_mod (i / n) n
  have h3 : i / (n * n) = i / n / n := (Nat.div_div_eq_div_mul i n n).symm
  rw [h3]
  have h4 : n * (n * (i / n / n) + i / n % n) = n * n * (i / n / n) + n * (i / n % n) := by
    rw [Nat.mul_add, Nat.mul_assoc]
  rw [h2] at h4
  omega
theorem ci_ix {n c : Nat} (hn : 1 ≤ n) (h0 : dg c 0 < n) (h1 : dg c 1 < n) (h4 : c < 4096) : ci n (ix n c) = c := by
  unfold ci ix
  have e0 : (dg c 0 + n * dg c 1 + n * n * dg c 2) % n = dg c 0 := by
    rw [Nat.mul_assoc, Nat.add_assoc, ← Nat.mul_add, Nat.add_mul_mod_self_left]
    exact Nat.mod_eq_of_lt h0
  have e1 : (dg c 0 + n * dg c 1 + n * n * dg c 2) / n = dg c 1 + n * dg c 2 := by
    rw [Nat.mul_assoc, Nat.add_assoc, ← Nat.mul_add, Nat.add_mul_div_left _ _ (by omega), Nat.div_eq_of_lt h0, Nat.zero_add]
  have e2 : (dg c 0 + n * dg c 1 + n * n * dg c 2) / (n * n) = dg c 2 := by
    rw [← Nat.div_div_eq_div_mul, e1, Nat.add_mul_div_left _ _ (by omega), Nat.div_eq_of_lt h1, Nat.zero_add]
  rw [e0, e1, e2, Nat.add_mul_mod_self_left, Nat.mod_eq_of_lt h1]
  exact (dg3 c h4).symm
theorem ix_lt {n pl c : Nat} (hn : 1 ≤ n) (hpl : 1 ≤ pl ∧ pl ≤ 3) (h : vcall n pl c = true) : ix n c < n ^ pl := by
  obtain ⟨hc, h0, h1, h2⟩ := vcall_spec h
  unfold ix
  rcases (show pl = 1 ∨ pl = 2 ∨ pl = 3 by omega) with rfl | rfl | rfl
  · rw [dg_hi (p := 1) hc (by omega), dg_hi (p := 2) hc (by omega)]
    simp
    exact h0
  · rw [dg_hi (p := 2) hc (by omega)]
    have : n * dg c 1 + n ≤ n * n := by
      rw [← Nat.mul_succ]
      exact Nat.mul_le_mul_left n h1
    show _ < n ^ 2
    rw [show n ^ 2 = n * n by rw [Nat.pow_succ, Nat.pow_one]]
    simp
    omega
  · have e1 : n * dg c 1 + n ≤ n * n := by
      rw [← Nat.mul_succ]
      exact Nat.mul_le_mul_left n h1
    have e2 : n * n * dg c 2 + n * n ≤ n * n * n := by
      rw [← Nat.mul_succ]
      exact Nat.mul_le_mul_left (n * n) h2
    rw [show n ^ 3 = n * n * n by rw [Nat.pow_succ, Nat.pow_succ, Nat.pow_one]]
    omega
/-- the order of numbers is the order of calls -/
theorem ci_mono {n i j : Nat} (hn : 1 ≤ n) (h16 : n ≤ 16) (hj : j < n * n * n) (h : i < j) : ci n i < ci n j := by
  have hi : i < n * n * n := by omega
  have i0 : i % n < n := Nat.mod_lt _ (by omega)
  have i1 : i / n % n < n := Nat.mod_lt _ (by omega)
  have j0 : j % n < n := Nat.mod_lt _ (by omega)
  have j1 : j / n % n < n := Nat.mod_lt _ (by omega)
  have ei := ix_ci hn h16 hi
  have ej := ix_ci hn h16 hj
  obtain ⟨a0, a1, a2⟩ := ci_dg hn h16 hi
  obtain ⟨b0, b1, b2⟩ := ci_dg hn h16 hj
  unfold ix at ei ej
  rw [a0, a1, a2] at ei
  rw [b0, b1, b2] at ej
  unfold ci
  generalize i % n = x0 at *
  generalize j % n = y0 at *
  generalize i / n % n = x1 at *
  generalize j / n % n = y1 at *
  generalize i / (n * n) = x2 at *
  generalize j / (n * n) = y2 at *
  rcases Nat.lt_trichotomy x2 y2 with h2 | h2 | h2
  · omega
  · subst h2
    rcases Nat.lt_trichotomy x1 y1 with h1 | h1 | h1
    · omega
    · subst h1; omega
    · have : n * y1 + n ≤ n * x1 := by
        rw [← Nat.mul_succ]; exact Nat.mul_le_mul_left n h1
      omega
  · have e2 : n * n * y2 + n * n ≤ n * n * x2 := by
      rw [← Nat.mul_succ]; exact Nat.mul_le_mul_left (n * n) h2
    have e1 : n * y1 + n ≤ n * n := by
      rw [← Nat.mul_succ]; exact Nat.mul_le_mul_left n j1
    omega
theorem cnt_gap {Q : Nat → Bool} {a : Nat} : ∀ {b : Nat}, a ≤ b → (∀ c, a ≤ c → c < b → Q c = false) → cnt Q b = cnt Q a
  | 0, h, _ => by rw [show a = 0 by omega]
  | b + 1, h, h0 => by
    by_cases e : a = b + 1
    · rw [e]
    · show cnt Q b + (if Q b then 1 else 0) = cnt Q a
      rw [h0 b (by omega) (by omega), cnt_gap (b := b) (by omega) (fun c h1 h2 => h0 c h1 (by omega))]
      simp
/-- between two calls that follow each other there is none -/
theorem ci_gap {n pl i c : Nat} (hn : 1 ≤ n) (h16 : n ≤ 16) (hpl : 1 ≤ pl ∧ pl ≤ 3) (hi : i < n ^ pl) (h1 : ci n i < c) (h2 : i + 1 < n ^ pl → c < ci n (i + 1)) : vcall n pl c = false := by
  cases hv : vcall n pl c with
  | false => rfl
  | true =>
    have hs := vcall_spec hv
    have h3 := npow hn hpl.2
    have e := ci_ix hn hs.2.1 hs.2.2.1 (vcall_lt hv hpl.2)
    have hj := ix_lt hn hpl hv
    rcases Nat.lt_trichotomy (ix n c) i with h4 | h4 | h4
    · have := ci_mono hn h16 (by omega) h4
      omega
    · rw [h4] at e; omega
    · by_cases h5 : i + 1 = ix n c
      · have := h2 (by omega)
        rw [h5] at this
        omega
      · have := ci_mono hn h16 (by omega : ix n c < n * n * n) (by omega : i + 1 < ix n c)
        have := h2 (by omega)
        omega
theorem cnt_ci {n pl : Nat} (hn : 1 ≤ n) (h16 : n ≤ 16) (hpl : 1 ≤ pl ∧ pl ≤ 3) (P : Nat → Bool) : ∀ i, i < n ^ pl → cnt (fun c => vcall n pl c && P c) (ci n i) = cnt (fun i => P (ci n i)) i
  | 0, _ => by
    have : ci n 0 = 0 := by unfold ci; simp
    rw [this]
    rfl
  | i + 1, hi => by
    have ih := cnt_ci hn h16 hpl P i (by omega)
    have hm := ci_mono hn h16 (Nat.lt_of_lt_of_le hi (npow hn hpl.2)) (Nat.lt_succ_self i)
    have h1 := cnt_gap (Q := fun c => vcall n pl c && P c) (a := ci n i + 1) (b := ci n (i + 1)) (by omega) (fun c h2 h3 => by
      rw [ci_gap hn h16 hpl (by omega : i < n ^ pl) (by omega) (fun _ => h3)]
      rfl)
    rw [h1]
    show cnt (fun c => vcall n pl c && P c) (ci n i) + (if (vcall n pl (ci n i) && P (ci n i)) then 1 else 0) = cnt (fun i => P (ci n i)) i + (if P (ci n i) then 1 else 0)
    rw [ih, ci_v hn h16 hpl (by omega : i < n ^ pl), Bool.true_and]
theorem cnt_all {n pl : Nat} (hn : 1 ≤ n) (h16 : n ≤ 16) (hpl : 1 ≤ pl ∧ pl ≤ 3) (P : Nat → Bool) : cnt (fun c => vcall n pl c && P c) (16 ^ pl) = cnt (fun i => P (ci n i)) (n ^ pl) := by
  obtain ⟨k, hk⟩ : ∃ k, n ^ pl = k + 1 := ⟨n ^ pl - 1, by have : 0 < n ^ pl := Nat.pow_pos (by omega); omega⟩
  have h0 := cnt_ci hn h16 hpl P k (by omega)
  have hv := ci_v hn h16 hpl (by omega : k < n ^ pl)
  have hc := (vcall_spec hv).1
  have h1 := cnt_gap (Q := fun c => vcall n pl c && P c) (a := ci n k + 1) (b := 16 ^ pl) (by omega) (fun c h2 h3 => by
    rw [ci_gap hn h16 hpl (by omega : k < n ^ pl) (by omega) (fun h => by omega)]
    rfl)
  rw [h1, hk]
  show cnt (fun c => vcall n pl c && P c) (ci n k) + (if (vcall n pl (ci n k) && P (ci n k)) then 1 else 0) = cnt (fun i => P (ci n i)) k + (if P (ci n k) then 1 else 0)
  rw [h0, hv, Bool.true_and]
theorem fnd_ci {n pl : Nat} (hn : 1 ≤ n) (h16 : n ≤ 16) (hpl : 1 ≤ pl ∧ pl ≤ 3) (P : Nat → Bool) : fnd (fun c => vcall n pl c && P c) (16 ^ pl) = (fnd (fun i => P (ci n i)) (n ^ pl)).map (ci n) := by
  cases hf : fnd (fun i => P (ci n i)) (n ^ pl) with
  | none =>
    have h0 := fnd_none hf
    refine fnd_no (fun c hc => ?_)
    cases hv : vcall n pl c with
    | false => rfl
    | true =>
      have hs := vcall_spec hv
      have h1 := h0 (ix n c) (ix_lt hn hpl hv)
      rw [ci_ix hn hs.2.1 hs.2.2.1 (vcall_lt hv hpl.2)] at h1
      rw [h1]; rfl
  | some i =>
    obtain ⟨h1, h2, h3⟩ := fnd_some hf
    have hv := ci_v hn h16 hpl h1
    refine fnd_hit (vcall_spec hv).1 (by rw [hv, h2]; rfl) (fun c hc => ?_)
    cases hvc : vcall n pl c with
    | false => rfl
    | true =>
      have hs := vcall_spec hvc
      have e := ci_ix hn hs.2.1 hs.2.2.1 (vcall_lt hvc hpl.2)
      have hlt : ix n c < i := by
        rcases Nat.lt_trichotomy (ix n c) i with h | h | h
        · exact h
        · rw [h] at e; omega
        · have := ci_mono hn h16 (Nat.lt_of_lt_of_le (ix_lt hn hpl hvc) (npow hn hpl.2)) h
          omega
      have h4 := h3 (ix n c) hlt
      rw [e] at h4
      rw [h4]; rfl
theorem or15 {c : Nat} (h : c < 4096) : nI c ||| nI 15 = nI (16 * (c / 16) + 15) := by
  have key : ∀ (a : Fin 256) (b : Fin 16), nI (16 * a.val + b.val) ||| nI 15 = nI (16 * a.val + 15) := by decide +kernel
  have h1 := key ⟨c / 16, by omega⟩ ⟨c % 16, by omega⟩
  have h2 : 16 * (c / 16) + c % 16 = c := by omega
  simp only [h2] at h1
  exact h1
theorem or255 {c : Nat} (h : c < 4096) : nI c ||| nI 255 = nI (256 * (c / 256) + 255) := by
  have key : ∀ (a : Fin 16) (b : Fin 256), nI (256 * a.val + b.val) ||| nI 255 = nI (256 * a.val + 255) := by decide +kernel
  have h1 := key ⟨c / 256, by omega⟩ ⟨c % 256, by omega⟩
  have h2 : 256 * (c / 256) + c % 256 = c := by omega
  simp only [h2] at h1
  exact h1
/-- the next call -/
def nxc (n c : Nat) : Nat := if dg c 0 + 1 < n then c + 1 else if dg c 1 + 1 < n then 16 * (c / 16) + 15 + 1 else 256 * (c / 256) + 255 + 1
theorem nxc_ci {n i : Nat} (hn : 1 ≤ n) (h16 : n ≤ 16) (hi : i < n * n * n) : nxc n (ci n i) = ci n (i + 1) := by
  obtain ⟨e0, e1, e2⟩ := ci_dg hn h16 hi
  have i0 : i % n < n := Nat.mod_lt _ (by omega)
  have i1 : i / n % n < n := Nat.mod_lt _ (by omega)
  have h4 := (ci_lt hn h16 hi).1
  have hd := Nat.div_add_mod i n
  have hd2 := Nat.div_add_mod (i / n) n
  have hq : i / (n * n) = i / n / n := (Nat.div_div_eq_div_mul i n n).symm
  unfold nxc
  rw [e0, e1]
  by_cases c0 : i % n + 1 < n
  · rw [if_pos c0]
    have a0 : (i + 1) % n = i % n + 1 := by
      rw [Nat.add_mod]
      by_cases hn1 : n = 1
      · omega
      · rw [Nat.mod_eq_of_lt (show 1 < n by omega)]
        exact Nat.mod_eq_of_lt c0
    have a1 : (i + 1) / n = i / n := by
      have : i + 1 = (i % n + 1) + n * (i / n) := by omega
      rw [this, Nat.add_mul_div_left _ _ (by omega), Nat.div_eq_of_lt c0, Nat.zero_add]
    have a2 : (i + 1) / (n * n) = i / (n * n) := by
      rw [← Nat.div_div_eq_div_mul, a1, hq]
    unfold ci
    rw [a0, a1, a2]
    omega
  · rw [if_neg c0]
    have a0 : (i + 1) % n = 0 := by
      have : i + 1 = n * (i / n + 1) := by rw [Nat.mul_add]; omega
      rw [this, Nat.mul_mod_right]
    have a1 : (i + 1) / n = i / n + 1 := by
      have : i + 1 = n * (i / n + 1) := by rw [Nat.mul_add]; omega
      rw [this, Nat.mul_div_cancel_left _ (by omega)]
    by_cases c1 : i / n % n + 1 < n
    · rw [if_pos c1]
      have b1 : (i / n + 1) % n = i / n % n + 1 := by
        rw [Nat.add_mod]
        rw [Nat.mod_eq_of_lt (show 1 < n by omega)]
        exact Nat.mod_eq_of_lt c1
      have b2 : (i / n + 1) / n = i / n / n := by
        have : i / n + 1 = (i / n % n + 1) + n * (i / n / n) := by omega
        rw [this, Nat.add_mul_div_left _ _ (by omega), Nat.div_eq_of_lt c1, Nat.zero_add]
      have a2 : (i + 1) / (n * n) = i / (n * n) := by
        rw [← Nat.div_div_eq_div_mul, a1, b2, hq]
      unfold ci
      rw [a0, a1, b1, a2]
      omega
    · rw [if_neg c1]
      have b1 : (i / n + 1) % n = 0 := by
        have : i / n + 1 = n * (i / n / n + 1) := by rw [Nat.mul_add]; omega
        rw [this, Nat.mul_mod_right]
      have b2 : (i / n + 1) / n = i / n / n + 1 := by
        have : i / n + 1 = n * (i / n / n + 1) := by rw [Nat.mul_add]; omega
        rw [this, Nat.mul_div_cancel_left _ (by omega)]
      have a2 : (i + 1) / (n * n) = i / (n * n) + 1 := by
        rw [← Nat.div_div_eq_div_mul, a1, b2, hq]
      unfold ci
      rw [a0, a1, b1, a2]
      omega
