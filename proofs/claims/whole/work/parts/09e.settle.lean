-- ===== 09e: one method more; settling =====
theorem InvM.more {T : TS} {σ : Sg} {w k : Nat} (h : InvM T none σ) : InvM T (some (w, k)) (s2 (s2 σ 50 20 (nI k)) 50 19 (nI w)) := by
  have hq : ∀ q, q ≠ 50 → s2 (s2 σ 50 20 (nI k)) 50 19 (nI w) q = σ q := fun q h1 => by rw [s2_np h1, s2_np h1]
  have h50 : ∀ j, j ≠ 19 → j ≠ 20 → s2 (s2 σ 50 20 (nI k)) 50 19 (nI w) 50 j = σ 50 j := fun j h1 h2 => by rw [s2_nk h1, s2_nk h2]
  obtain ⟨a1, a2, a3, a4, a5, a6, a7, a8, a9, a10, a11, a12, a13, a14, a15, a16⟩ := h
  refine ⟨?_, ?_, ?_, ?_, ?_, ?_, ?_, ?_, ?_, ?_, ?_, ?_, ?_, ?_, ?_, ?_⟩
  · rw [h50 1 (by decide) (by decide)]; exact a1
  · rw [hq 51 (by decide)]; exact a2
  · rw [hq 52 (by decide)]; exact a3
  · rw [hq 53 (by decide)]; exact a4
  · rw [hq 54 (by decide)]; exact a5
  · rw [h50 6 (by decide) (by decide)]; exact a6
  · rw [hq 55 (by decide)]; exact a7
  · rw [hq 56 (by decide)]; exact a8
  · rw [hq 57 (by decide), hq 58 (by decide)]; exact a9
  · rw [h50 11 (by decide) (by decide)]; exact a10
  · rw [hq 60 (by decide)]; exact a11
  · rw [hq 59 (by decide)]; exact a12
  · rw [h50 14 (by decide) (by decide)]; exact a13
  · rw [h50 15 (by decide) (by decide)]; exact a14
  · rw [s2_at]; rfl
  · intro w' k' e
    cases e
    rw [s2_nk (by decide), s2_at]
theorem InvM.noMore {T : TS} {mo : Option (Nat × Nat)} {σ : Sg} (h : InvM T mo σ) : InvM T none (s2 σ 50 19 (-1)) := by
  have hq : ∀ q, q ≠ 50 → s2 σ 50 19 (-1) q = σ q := fun q h1 => s2_np h1
  have h50 : ∀ j, j ≠ 19 → s2 σ 50 19 (-1) 50 j = σ 50 j := fun j h1 => s2_nk h1
  obtain ⟨a1, a2, a3, a4, a5, a6, a7, a8, a9, a10, a11, a12, a13, a14, a15, a16⟩ := h
  refine ⟨?_, ?_, ?_, ?_, ?_, ?_, ?_, ?_, ?_, ?_, ?_, ?_, ?_, ?_, ?_, ?_⟩
  · rw [h50 1 (by decide)]; exact a1
  · rw [hq 51 (by decide)]; exact a2
  · rw [hq 52 (by decide)]; exact a3
  · rw [hq 53 (by decide)]; exact a4
  · rw [hq 54 (by decide)]; exact a5
  · rw [h50 6 (by decide)]; exact a6
  · rw [hq 55 (by decide)]; exact a7
  · rw [hq 56 (by decide)]; exact a8
  · rw [hq 57 (by decide), hq 58 (by decide)]; exact a9
  · rw [h50 11 (by decide)]; exact a10
  · rw [hq 60 (by decide)]; exact a11
  · rw [hq 59 (by decide)]; exact a12
  · rw [h50 14 (by decide)]; exact a13
  · rw [h50 15 (by decide)]; exact a14
  · rw [s2_at]; rfl
  · intro w' k' e; cases e
/-- 'change' -/
def chK (T : TS) (f : Nat) : Nat := (mFree T f).getD 12
def chB (T : TS) (f w c : Nat) : Bool := vcall (tn T) (tpl T f) c && !decide (ansI (tls T) (tgx (ttg T f) (some (w, chK T f))) (tru T) c = ansI (tls T) (ttg T f) (tru T) c)
def aChange (T : TS) (f w : Int32) : Int32 := if isC T f w then (if (mFor T f.toNatClampNeg w.toNatClampNeg).isSome then -2 else nI (cnt (chB T f.toNatClampNeg w.toNatClampNeg) (16 ^ tpl T f.toNatClampNeg))) else -1
theorem MoOK.ch {T : TS} {f w : Nat} (hv : vcall (tn T) (tpl T f) w = true) : MoOK T f (some (w, chK T f)) := by
  intro w' k' e
  cases e
  unfold chK
  cases h : mFree T f with
  | none => exact ⟨Nat.le_refl _, fun h => absurd h (by decide), hv⟩
  | some m =>
    obtain ⟨h1, h2, _⟩ := fnd_some h
    exact ⟨by show m ≤ 12; omega, fun _ => by simpa using h2, hv⟩
/-- other methods of one function -/
def setTF (T : TS) (f : Nat) (g : Nat → Option Nat) : TS := (tn T, tls T, tnf T, tpl T, va_up (ttg T) f g, tkd T, tvl T, tru T, tkp T, thi T, tmi T)
theorem setTF_tg (T : TS) (f m : Nat) (g : Nat → Option Nat) (o : Option Nat) : setTg (setTF T f g) f m o = setTF T f (va_up g m o) := by
  have e : va_up (va_up (ttg T) f g) f (va_up (va_up (ttg T) f g f) m o) = va_up (ttg T) f (va_up g m o) := by
    funext x
    by_cases h : x = f
    · subst h; rw [vu_at, vu_at, vu_at]
    · rw [vu_ne h, vu_ne h, vu_ne h]
  show (tn T, tls T, tnf T, tpl T, va_up (va_up (ttg T) f g) f (va_up (va_up (ttg T) f g f) m o), tkd T, tvl T, tru T, tkp T, thi T, tmi T) = _
  rw [e]
  rfl
theorem setTF_id (T : TS) (f : Nat) : setTF T f (ttg T f) = T := by
  have e : va_up (ttg T) f (ttg T f) = ttg T := by
    funext x
    by_cases h : x = f
    · subst h; rw [vu_at]
    · rw [vu_ne h]
  show (tn T, tls T, tnf T, tpl T, va_up (ttg T) f (ttg T f), tkd T, tvl T, tru T, tkp T, thi T, tmi T) = T
  rw [e]
theorem setTF_at (T : TS) (f : Nat) (g : Nat → Option Nat) : ttg (setTF T f g) f = g := vu_at _ _ _
/-- answers by rule 0 -/
def row0 (T : TS) (f : Nat) (g : Nat → Option Nat) (c : Nat) : Int32 := if vcall (tn T) (tpl T f) c then ansI (tls T) g 0 c else -3
theorem rowA_TF (T : TS) (f : Nat) (g : Nat → Option Nat) : rowA (setTF T f g) f none 0 = row0 T f g := by
  funext c
  unfold rowA row0
  show (if vcall (tn T) (tpl T f) c then ansI (tls T) (ttg (setTF T f g) f) 0 c else -3) = _
  rw [setTF_at]
def clB (T : TS) (f : Nat) (g : Nat → Option Nat) (c : Nat) : Bool := decide (row0 T f g c = -2) && topB (row0 T f g) (tls T) (16 ^ tpl T f) c
def clO (T : TS) (f : Nat) (g : Nat → Option Nat) : Option Nat := fnd (clB T f g) (16 ^ tpl T f)
def frO (g : Nat → Option Nat) : Option Nat := fnd (fun m => (g m).isNone) 12
def stl (T : TS) (f : Nat) : Nat → (Nat → Option Nat) → Nat → Int32
  | 0, g, n => match clO T f g with
    | none => nI n
    | some _ => -2
  | k + 1, g, n => match clO T f g with
    | none => nI n
    | some c => match frO g with
      | none => -2
      | some m => stl T f k (va_up g m (some c)) (n + 1)
def aSettle (T : TS) (f : Int32) : Int32 := if isN f (tnf T) then stl T f.toNatClampNeg 12 (ttg T f.toNatClampNeg) 0 else -1
theorem kth_0 {P : Nat → Bool} {N : Nat} (hN : N ≤ 4096) : kth P N (nI 0) = oI (fnd P N) := by
  cases h : fnd P N with
  | none =>
    have h0 := fnd_none h
    rw [kth_no (fun j hj => by rw [h0 j hj]; rfl), if_neg (by decide)]
    rfl
  | some c =>
    obtain ⟨h1, h2, h3⟩ := fnd_some h
    have hc : cnt P c = 0 := by
      have : ∀ n, n ≤ c → cnt P n = 0 := by
        intro n
        induction n with
        | zero => intro _; rfl
        | succ n ih => intro hn; unfold cnt; rw [ih (by omega), h3 n (by omega)]; rfl
      exact this c (Nat.le_refl _)
    rw [kth_hit h1 h2 (by rw [hc]) (fun j hj => by rw [h3 j hj]; rfl)]
    rfl
/-- a method that is just for a call is the first there -/
theorem amb_no {ls : Nat → List Nat} {g : Nat → Option Nat} {c : Nat} (hr : ∀ p, up ls (dg c p) (dg c p) = true) (h : ansI ls g 0 c = -2) : ∀ m, m < 13 → g m ≠ some c := by
  intro m hm e
  have hle : le3 ls c c = true := by simp [le3, hr]
  have hs : appB ls g c m = true := by simp [appB, e, hm, hle]
  have hf : fstP (appB ls g c) (befB ls g 0 c) m = true := by
    unfold fstP
    rw [hs, Bool.true_and]
    refine allU.mpr (fun o _ => ?_)
    cases ho : appB ls g c o with
    | false => rfl
    | true =>
      obtain ⟨t, ht, _, h2⟩ := appB_some ho
      simp [befB, e, ht, h2]
  unfold ansI at h
  rcases fstI_cases (appB ls g c) (befB ls g 0 c) with ⟨h1, h2⟩ | ⟨h1, _, h3⟩ | ⟨m', hm', h1, _⟩
  · rw [h1] at h; exact absurd h (by decide)
  · rw [h3 m hm] at hf; cases hf
  · rw [h1] at h
    have h2 : (nI m').toInt = (-2 : Int32).toInt := by rw [h]
    rw [nI_toInt (by omega)] at h2
    have : (-2 : Int32).toInt = -2 := by decide
    omega
theorem cnt_free {g : Nat → Option Nat} {m c : Nat} (hm : m < 12) (h : (g m).isNone = true) : cnt (fun m => (va_up g m (some c) m).isNone) 12 ≤ 12 := cnt_le _ _
theorem cnt_fill {g : Nat → Option Nat} {m c : Nat} (hm : m < 12) (h : (g m).isNone = true) : cnt (fun j => (va_up g m (some c) j).isNone) 12 + 1 = cnt (fun j => (g j).isNone) 12 := by
  have e : cnt (fun j => (va_up g m (some c) j).isNone) 12 = cnt (remB (fun j => (g j).isNone) m) 12 := cnt_congr (fun j _ => by
    by_cases ej : j = m
    · subst ej; rw [vu_at]; simp [remB]
    · rw [vu_ne ej]; simp [remB, ej])
  rw [e]
  exact cnt_rem hm h
