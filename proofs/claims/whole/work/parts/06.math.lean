-- ===== 06: counting, sets of bits, searching; calls =====
def cnt (P : Nat → Bool) : Nat → Nat
  | 0 => 0
  | n + 1 => cnt P n + (if P n then 1 else 0)
theorem cnt_le (P : Nat → Bool) : ∀ n, cnt P n ≤ n
  | 0 => Nat.le_refl _
  | n + 1 => by
    have := cnt_le P n
    unfold cnt
    split <;> omega
theorem cnt_congr {P Q : Nat → Bool} : ∀ {n : Nat}, (∀ k, k < n → P k = Q k) → cnt P n = cnt Q n
  | 0, _ => rfl
  | n + 1, h => by
    unfold cnt
    rw [cnt_congr (n := n) (fun k hk => h k (by omega)), h n (by omega)]
theorem cnt_step {P : Nat → Bool} {k : Nat} (b : Bool) (h : P k = b) : nI (cnt P k) + bI b = nI (cnt P (k + 1)) := by
  subst h
  rw [show cnt P (k + 1) = cnt P k + (if P k then 1 else 0) from rfl]
  cases P k
  · exact nI_add _ 0
  · exact nI_add _ 1
def mkS (P : Nat → Bool) : Nat → Int32
  | 0 => nI 0
  | n + 1 => mkS P n ||| (if P n then nI 1 <<< (nI n &&& 31) else nI 0)
theorem bt_mkS (P : Nat → Bool) : ∀ {n : Nat}, n ≤ 32 → ∀ k, bt (mkS P n) k = (decide (k < n) && P k)
  | 0, _, k => by simp [mkS, bt_0]
  | n + 1, h, k => by
    unfold mkS
    rw [bt_or, bt_mkS P (n := n) (by omega) k]
    by_cases hk : k = n
    · subst hk
      cases hp : P k <;> simp [bt_one (m := k) (k := k) (by omega), bt_0]
    · have e : bt (if P n then nI 1 <<< (nI n &&& 31) else nI 0) k = false := by
        cases P n
        · simp [bt_0]
        · simp [bt_one (m := n) (k := k) (by omega), hk]
      rw [e, Bool.or_false]
      congr 1
      simp only [decide_eq_decide]
      omega
theorem mkS_congr {P Q : Nat → Bool} : ∀ {n : Nat}, (∀ k, k < n → P k = Q k) → mkS P n = mkS Q n
  | 0, _ => rfl
  | n + 1, h => by
    unfold mkS
    rw [mkS_congr (n := n) (fun k hk => h k (by omega)), h n (by omega)]
theorem mkS_0 {P : Nat → Bool} {n : Nat} (hn : n ≤ 32) : mkS P n = nI 0 ↔ ∀ k, k < n → P k = false := by
  constructor
  · intro h k hk
    have h1 := bt_mkS P hn k
    rw [h, bt_0] at h1
    simpa [hk] using h1.symm
  · intro h
    apply bt_ext
    intro k _
    rw [bt_mkS P hn, bt_0]
    by_cases hk : k < n
    · simp [h k hk]
    · simp [hk]
def fnd (P : Nat → Bool) (n : Nat) : Option Nat := (List.range n).find? P
theorem fnd_hit {P : Nat → Bool} {n k : Nat} (hk : k < n) (h : P k = true) (h0 : ∀ j, j < k → P j = false) : fnd P n = some k := by
  unfold fnd
  rw [List.find?_range_eq_some]
  exact ⟨h, List.mem_range.mpr hk, fun j hj => by simp [h0 j hj]⟩
theorem fnd_no {P : Nat → Bool} {n : Nat} (h0 : ∀ j, j < n → P j = false) : fnd P n = none := by
  unfold fnd
  rw [List.find?_eq_none]
  intro x hx
  simp [h0 x (List.mem_range.mp hx)]
theorem fnd_some {P : Nat → Bool} {n k : Nat} (h : fnd P n = some k) : k < n ∧ P k = true ∧ ∀ j, j < k → P j = false := by
  unfold fnd at h
  rw [List.find?_range_eq_some] at h
  exact ⟨List.mem_range.mp h.2.1, h.1, fun j hj => by simpa using h.2.2 j hj⟩
theorem fnd_none {P : Nat → Bool} {n : Nat} (h : fnd P n = none) : ∀ j, j < n → P j = false := by
  unfold fnd at h
  rw [List.find?_eq_none] at h
  intro j hj
  simpa using h j (List.mem_range.mpr hj)
theorem fnd_congr {P Q : Nat → Bool} {n : Nat} (h : ∀ k, k < n → P k = Q k) : fnd P n = fnd Q n := by
  cases hq : fnd Q n with
  | none => exact fnd_no (fun j hj => by rw [h j hj]; exact fnd_none hq j hj)
  | some k =>
    obtain ⟨h1, h2, h3⟩ := fnd_some hq
    exact fnd_hit h1 (by rw [h k h1]; exact h2) (fun j hj => by rw [h j (by omega)]; exact h3 j hj)
theorem oI_ne {t : Nat} (h : t < 2 ^ 31) : oI (some t) ≠ -1 := by
  intro e
  have h1 : nI t = -1 := e
  have h2 : (nI t).toInt = (-1 : Int32).toInt := by rw [h1]
  rw [nI_toInt h] at h2
  have : (-1 : Int32).toInt = -1 := by decide
  omega
theorem nI_ne1 {t : Nat} (h : t < 2 ^ 31) : nI t ≠ -1 := oI_ne h
theorem oI_inj {o : Option Nat} {t : Nat} (ho : ∀ x, o = some x → x < 2 ^ 31) (h : t < 2 ^ 31) : oI o = nI t ↔ o = some t := by
  cases o with
  | none =>
    constructor
    · intro e; exact absurd e.symm (nI_ne1 h)
    · intro e; cases e
  | some x =>
    have hx := ho x rfl
    show nI x = nI t ↔ _
    rw [nI_eq hx h]
    simp
theorem oI_none {o : Option Nat} (ho : ∀ x, o = some x → x < 2 ^ 31) : oI o = -1 ↔ o = none := by
  cases o with
  | none => simp [oI]
  | some x => simp [oI, nI_ne1 (ho x rfl)]
-- digits
theorem p16 {pl : Nat} (h : pl ≤ 3) : 16 ^ pl ≤ 4096 := Nat.le_trans (Nat.pow_le_pow_right (by decide) h) (by decide)
theorem shl16 {pl : Nat} (h : pl ≤ 3) : nI 1 <<< (nI (4 * pl) &&& 31) = nI (16 ^ pl) := by
  rcases (show pl = 0 ∨ pl = 1 ∨ pl = 2 ∨ pl = 3 by omega) with rfl | rfl | rfl | rfl <;> decide
theorem dg_hi {c p pl : Nat} (hc : c < 16 ^ pl) (hp : pl ≤ p) : dg c p = 0 := by
  unfold dg
  rw [Nat.div_eq_of_lt (Nat.lt_of_lt_of_le hc (Nat.pow_le_pow_right (by decide) hp))]
theorem dg3 (c : Nat) (h : c < 4096) : c = dg c 0 + 16 * dg c 1 + 256 * dg c 2 := by
  unfold dg
  simp only [Nat.pow_zero, Nat.pow_one, Nat.div_one, show (16 : Nat) ^ 2 = 256 from rfl]
  omega
theorem dg_mk {a b e : Nat} (ha : a < 16) (hb : b < 16) (he : e < 16) : dg (a + 16 * b + 256 * e) 0 = a ∧ dg (a + 16 * b + 256 * e) 1 = b ∧ dg (a + 16 * b + 256 * e) 2 = e := by
  unfold dg
  simp only [Nat.pow_zero, Nat.pow_one, Nat.div_one, show (16 : Nat) ^ 2 = 256 from rfl]
  omega
theorem vcall_spec {n pl c : Nat} (h : vcall n pl c = true) : c < 16 ^ pl ∧ dg c 0 < n ∧ dg c 1 < n ∧ dg c 2 < n := by
  simpa [vcall] using h
theorem vcall_dg {n pl c p : Nat} (h : vcall n pl c = true) (hpl : pl ≤ 3) (hn : 1 ≤ n) : dg c p < n := by
  obtain ⟨h0, h1, h2, h3⟩ := vcall_spec h
  rcases (show p = 0 ∨ p = 1 ∨ p = 2 ∨ 3 ≤ p by omega) with rfl | rfl | rfl | h4
  · exact h1
  · exact h2
  · exact h3
  · rw [dg_hi h0 (by omega)]; omega
theorem vcall_lt {n pl c : Nat} (h : vcall n pl c = true) (hpl : pl ≤ 3) : c < 4096 := Nat.lt_of_lt_of_le (vcall_spec h).1 (p16 hpl)
theorem vcall_of {n pl c : Nat} (hc : c < 16 ^ pl) (hpl : pl ≤ 3) (hn : 1 ≤ n) (h : ∀ p, p < pl → dg c p < n) : vcall n pl c = true := by
  have h1 : ∀ p, dg c p < n := fun p => by
    by_cases hp : p < pl
    · exact h p hp
    · rw [dg_hi hc (by omega)]; omega
  simp [vcall, hc, h1 0, h1 1, h1 2]
theorem vcall_no {n pl c p : Nat} (hn : 1 ≤ n) (hpl : pl ≤ 3) (h : ¬ dg c p < n) : vcall n pl c = false := by
  cases hv : vcall n pl c with
  | false => rfl
  | true => exact absurd (vcall_dg hv hpl hn) h
/-- a call's argument, as an int -/
def isC (T : TS) (f x : Int32) : Bool := isN f (tnf T) && (isN x (16 ^ tpl T f.toNatClampNeg) && vcall (tn T) (tpl T f.toNatClampNeg) x.toNatClampNeg)
theorem isC_of {T : TS} {f x : Int32} (h4 : tnf T ≤ 4) (h : isC T f x = true) : ∃ i k, i < tnf T ∧ f = nI i ∧ x = nI k ∧ vcall (tn T) (tpl T i) k = true := by
  unfold isC at h
  simp only [Bool.and_eq_true] at h
  obtain ⟨h1, h2, h3⟩ := h
  obtain ⟨i, hi, hi2, rfl⟩ := isN_of h1
  rw [nI_clamp hi2] at h2 h3
  obtain ⟨k, hk, hk2, rfl⟩ := isN_of h2
  rw [nI_clamp hk2] at h3
  exact ⟨i, k, hi, rfl, rfl, h3⟩
theorem isC_nI {T : TS} {i k : Nat} (hi : i < tnf T) (h4 : tnf T ≤ 4) (hk : k < 2 ^ 31) : isC T (nI i) (nI k) = vcall (tn T) (tpl T i) k := by
  unfold isC
  rw [isN_nI (by omega), nI_clamp (n := i) (by omega), isN_nI hk, nI_clamp hk]
  simp only [hi, decide_true, Bool.true_and]
  unfold vcall
  rw [← Bool.and_assoc, Bool.and_self]
def leN (ls : Nat → List Nat) (a b : Nat) : Nat → Bool
  | 0 => true
  | p + 1 => leN ls a b p && up ls (dg a p) (dg b p)
theorem leN_le3 {ls : Nat → List Nat} {a b pl : Nat} (h0 : ls 0 = [0]) (hpl : pl ≤ 3) (ha : a < 16 ^ pl) (hb : b < 16 ^ pl) : leN ls a b pl = le3 ls a b := by
  have hu : up ls 0 0 = true := by simp [up, h0]
  have e : ∀ p, pl ≤ p → up ls (dg a p) (dg b p) = true := fun p hp => by rw [dg_hi ha hp, dg_hi hb hp]; exact hu
  rcases (show pl = 0 ∨ pl = 1 ∨ pl = 2 ∨ pl = 3 by omega) with rfl | rfl | rfl | rfl
  · simp [leN, le3, e 0, e 1, e 2]
  · simp [leN, le3, e 1, e 2]
  · simp [leN, le3, e 2]
  · simp [leN, le3]
theorem leN_no {ls : Nat → List Nat} {a b k : Nat} (h : up ls (dg a k) (dg b k) = false) : ∀ pl, k < pl → leN ls a b pl = false
  | 0, hk => by omega
  | pl + 1, hk => by
    unfold leN
    by_cases e : k = pl
    · subst e; simp [h]
    · rw [leN_no h pl (by omega)]; rfl
