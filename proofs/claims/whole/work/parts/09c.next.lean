-- ===== 09c: what a call makes of the state =====
def setKp (T : TS) (f : Nat) (l : List Nat) : TS := (tn T, tls T, tnf T, tpl T, ttg T, tkd T, tvl T, tru T, va_up (tkp T) f l, thi T, tmi T)
def nRule (T : TS) : TS := (tn T, tls T, tnf T, tpl T, ttg T, tkd T, tvl T, 1 - tru T, fun _ => [], thi T, tmi T)
def nFun (T : TS) (p : Nat) : TS := (tn T, tls T, tnf T + 1, va_up (tpl T) (tnf T) p, va_up (ttg T) (tnf T) (fun _ => none), tkd T, tvl T, tru T, tkp T, thi T, tmi T)
def setTg (T : TS) (f m : Nat) (o : Option Nat) : TS := (tn T, tls T, tnf T, tpl T, va_up (ttg T) f (va_up (ttg T f) m o), tkd T, tvl T, tru T, tkp T, thi T, tmi T)
def setKv (T : TS) (f m : Nat) (k v : Int32) : TS := (tn T, tls T, tnf T, tpl T, ttg T, va_up (tkd T) f (va_up (tkd T f) m k), va_up (tvl T) f (va_up (tvl T f) m v), tru T, tkp T, thi T, tmi T)
def dropKp (T : TS) (f w : Nat) : TS := setKp T f ((tkp T f).filter (fun c => !le3 (tls T) c w))
def nMeth (T : TS) (f m w : Nat) (k v : Int32) : TS := dropKp (setKv (setTg T f m (some w)) f m k v) f w
def nDrop (T : TS) (f m w : Nat) : TS := setTg (dropKp T f w) f m none
def setHM (T : TS) (h m : Int32) : TS := (tn T, tls T, tnf T, tpl T, ttg T, tkd T, tvl T, tru T, tkp T, h, m)
/-- where a call that is asked was, or what goes -/
def kpI (l : List Nat) (c : Nat) : Nat := if l.idxOf c < l.length then l.idxOf c else if l.length = 6 then 0 else l.length
def nKp (l : List Nat) (c : Nat) : List Nat := l.eraseIdx (kpI l c) ++ [c]
def nCall (T : TS) (f c : Nat) : TS := setHM (setKp T f (nKp (tkp T f) c)) (if (tkp T f).idxOf c < (tkp T f).length then thi T + nI 1 else thi T) (if (tkp T f).idxOf c < (tkp T f).length then tmi T else tmi T + nI 1)
/-- what no call of the reference touches -/
def frMo (σ σ' : Sg) : Prop := ∀ q, q < 50 ∨ 67 ≤ q → σ' q = σ q
theorem frMo.rfl' (σ : Sg) : frMo σ σ := fun _ _ => rfl
theorem frMo.trans {a b c : Sg} (h1 : frMo a b) (h2 : frMo b c) : frMo a c := fun q h => (h2 q h).trans (h1 q h)
theorem keepM.fr {σ σ' : Sg} (h : keepM σ σ') : frMo σ σ' := fun q hq => by
  rcases hq with h1 | h1
  · exact h.1 q (by omega) (by omega)
  · exact h.2.2 q h1
theorem frMo.row {σ : Sg} {p : Nat} {F : Nat → Int32} (h1 : 50 ≤ p) (h2 : p < 67) : frMo σ (sR σ p F) := fun q hq => sR_ne (by omega)
theorem frMo.s2 {σ : Sg} {p k : Nat} {v : Int32} (h1 : 50 ≤ p) (h2 : p < 67) : frMo σ (s2 σ p k v) := fun q hq => s2_np (by omega)
theorem vu_at {α : Type} (f : Nat → α) (k : Nat) (v : α) : va_up f k v k = v := by simp [va_up]
theorem vu_ne {α : Type} {f : Nat → α} {k j : Nat} {v : α} (h : j ≠ k) : va_up f k v j = f j := by simp [va_up, h]
/-- the kept row of one function changed -/
theorem InvM.kp {T : TS} {mo : Option (Nat × Nat)} {σ σ' : Sg} {f : Nat} {l : List Nat} (h : InvM T mo σ) (h4 : tnf T ≤ 4) (hl : ∀ f, f < 4 → (tkp T f).length ≤ 6) (hq : ∀ q, q ≠ 59 → q ≠ 60 → σ' q = σ q) (h60 : ∀ g, g < 4 → σ' 60 g = if g = f then nI l.length else σ 60 g) (h59 : ∀ i, i < 6 * f ∨ 6 * f + 6 ≤ i → σ' 59 i = σ 59 i) (hr : ∀ k c, l[k]? = some c → σ' 59 (6 * f + k) = nI c) : InvM (setKp T f l) mo σ' := by
  obtain ⟨a1, a2, a3, a4, a5, a6, a7, a8, a9, a10, a11, a12, a13, a14, a15, a16⟩ := h
  refine ⟨?_, ?_, ?_, ?_, ?_, ?_, ?_, ?_, ?_, ?_, ?_, ?_, ?_, ?_, ?_, ?_⟩
  · rw [hq 50 (by decide) (by decide)]; exact a1
  · rw [hq 51 (by decide) (by decide)]; exact a2
  · rw [hq 52 (by decide) (by decide)]; exact a3
  · rw [hq 53 (by decide) (by decide)]; exact a4
  · rw [hq 54 (by decide) (by decide)]; exact a5
  · rw [hq 50 (by decide) (by decide)]; exact a6
  · rw [hq 55 (by decide) (by decide)]; exact a7
  · rw [hq 56 (by decide) (by decide)]; exact a8
  · rw [hq 57 (by decide) (by decide), hq 58 (by decide) (by decide)]; exact a9
  · rw [hq 50 (by decide) (by decide)]; exact a10
  · intro g hg
    show σ' 60 g = nI (va_up (tkp T) f l g).length
    rw [h60 g hg]
    by_cases e : g = f
    · subst e; rw [if_pos rfl, vu_at]
    · rw [if_neg e, vu_ne e]; exact a11 g hg
  · intro g k c hg hk
    have hk' : (va_up (tkp T) f l g)[k]? = some c := hk
    by_cases e : g = f
    · subst e; rw [vu_at] at hk'; exact hr k c hk'
    · rw [vu_ne e] at hk'
      have h6 : k < 6 := by
        have hg' : g < tnf T := hg
        have := hl g (by omega)
        have := (List.getElem?_eq_some_iff.mp hk').1
        omega
      rw [h59 (6 * g + k) (by omega)]
      exact a12 g k c hg hk'
  · rw [hq 50 (by decide) (by decide)]; exact a13
  · rw [hq 50 (by decide) (by decide)]; exact a14
  · rw [hq 50 (by decide) (by decide)]; exact a15
  · rw [hq 50 (by decide) (by decide)]; exact a16
theorem WF.kp {T : TS} (h : WF T) : ∀ f, f < 4 → (tkp T f).length ≤ 6 := fun f hf => (h.2.2.2.2.2.2.2.1 f hf).1
theorem InvM.tg {T : TS} {mo : Option (Nat × Nat)} {σ : Sg} {f m : Nat} {o : Option Nat} (h : InvM T mo σ) (hm : m < 12) : InvM (setTg T f m o) mo (s2 σ 56 (12 * f + m) (oI o)) := by
  have hq : ∀ q, q ≠ 56 → s2 σ 56 (12 * f + m) (oI o) q = σ q := fun q hq => s2_np hq
  obtain ⟨a1, a2, a3, a4, a5, a6, a7, a8, a9, a10, a11, a12, a13, a14, a15, a16⟩ := h
  refine ⟨?_, ?_, ?_, ?_, ?_, ?_, ?_, ?_, ?_, ?_, ?_, ?_, ?_, ?_, ?_, ?_⟩
  · rw [hq 50 (by decide)]; exact a1
  · rw [hq 51 (by decide)]; exact a2
  · rw [hq 52 (by decide)]; exact a3
  · rw [hq 53 (by decide)]; exact a4
  · rw [hq 54 (by decide)]; exact a5
  · rw [hq 50 (by decide)]; exact a6
  · rw [hq 55 (by decide)]; exact a7
  · intro g k hg hk
    show s2 σ 56 (12 * f + m) (oI o) 56 (12 * g + k) = oI (va_up (ttg T) f (va_up (ttg T f) m o) g k)
    by_cases e : g = f
    · subst e
      rw [vu_at]
      by_cases e2 : k = m
      · subst e2; rw [vu_at, s2_at]
      · rw [vu_ne e2, s2_nk (by omega)]; exact a8 g k hg hk
    · rw [vu_ne e, s2_nk (by omega)]; exact a8 g k hg hk
  · rw [hq 57 (by decide), hq 58 (by decide)]; exact a9
  · rw [hq 50 (by decide)]; exact a10
  · rw [hq 60 (by decide)]; exact a11
  · rw [hq 59 (by decide)]; exact a12
  · rw [hq 50 (by decide)]; exact a13
  · rw [hq 50 (by decide)]; exact a14
  · rw [hq 50 (by decide)]; exact a15
  · rw [hq 50 (by decide)]; exact a16
theorem InvM.kv {T : TS} {mo : Option (Nat × Nat)} {σ : Sg} {f m : Nat} {k v : Int32} (h : InvM T mo σ) (hm : m < 12) : InvM (setKv T f m k v) mo (s2 (s2 σ 57 (12 * f + m) k) 58 (12 * f + m) v) := by
  have hq : ∀ q, q ≠ 57 → q ≠ 58 → s2 (s2 σ 57 (12 * f + m) k) 58 (12 * f + m) v q = σ q := fun q h1 h2 => by rw [s2_np h2, s2_np h1]
  obtain ⟨a1, a2, a3, a4, a5, a6, a7, a8, a9, a10, a11, a12, a13, a14, a15, a16⟩ := h
  refine ⟨?_, ?_, ?_, ?_, ?_, ?_, ?_, ?_, ?_, ?_, ?_, ?_, ?_, ?_, ?_, ?_⟩
  · rw [hq 50 (by decide) (by decide)]; exact a1
  · rw [hq 51 (by decide) (by decide)]; exact a2
  · rw [hq 52 (by decide) (by decide)]; exact a3
  · rw [hq 53 (by decide) (by decide)]; exact a4
  · rw [hq 54 (by decide) (by decide)]; exact a5
  · rw [hq 50 (by decide) (by decide)]; exact a6
  · rw [hq 55 (by decide) (by decide)]; exact a7
  · rw [hq 56 (by decide) (by decide)]; exact a8
  · intro g j hg hj
    show s2 (s2 σ 57 (12 * f + m) k) 58 (12 * f + m) v 57 (12 * g + j) = va_up (tkd T) f (va_up (tkd T f) m k) g j ∧ s2 (s2 σ 57 (12 * f + m) k) 58 (12 * f + m) v 58 (12 * g + j) = va_up (tvl T) f (va_up (tvl T f) m v) g j
    rw [s2_np (by decide)]
    by_cases e : g = f
    · subst e
      rw [vu_at, vu_at]
      by_cases e2 : j = m
      · subst e2; rw [vu_at, vu_at, s2_at, s2_at]; exact ⟨rfl, rfl⟩
      · rw [vu_ne e2, vu_ne e2, s2_nk (by omega), s2_nk (by omega), s2_np (by decide)]; exact a9 g j hg hj
    · rw [vu_ne e, vu_ne e, s2_nk (by omega), s2_nk (by omega), s2_np (by decide)]; exact a9 g j hg hj
  · rw [hq 50 (by decide) (by decide)]; exact a10
  · rw [hq 60 (by decide) (by decide)]; exact a11
  · rw [hq 59 (by decide) (by decide)]; exact a12
  · rw [hq 50 (by decide) (by decide)]; exact a13
  · rw [hq 50 (by decide) (by decide)]; exact a14
  · rw [hq 50 (by decide) (by decide)]; exact a15
  · rw [hq 50 (by decide) (by decide)]; exact a16
/-- the mathematical state keeps its laws -/
theorem WF.kpSet {T : TS} (h : WF T) {f : Nat} {l : List Nat} (hf : f < tnf T) (hl : l.length ≤ 6) (hc : ∀ c, c ∈ l → vcall (tn T) (tpl T f) c = true) : WF (setKp T f l) := by
  obtain ⟨b1, b2, b3, b4, b5, b6, b7, b8, b9⟩ := h
  refine ⟨b1, b2, b3, b4, b5, b6, b7, ?_, ?_⟩
  · intro g hg
    show (va_up (tkp T) f l g).length ≤ 6 ∧ (tnf T ≤ g → va_up (tkp T) f l g = [])
    by_cases e : g = f
    · subst e; rw [vu_at]; exact ⟨hl, fun h => by omega⟩
    · rw [vu_ne e]; exact b8 g hg
  · intro g c hg hc'
    have hc2 : c ∈ va_up (tkp T) f l g := hc'
    by_cases e : g = f
    · subst e; rw [vu_at] at hc2; exact hc c hc2
    · rw [vu_ne e] at hc2; exact b9 g c hg hc2
theorem WF.drop {T : TS} (h : WF T) {f w : Nat} (hf : f < tnf T) : WF (dropKp T f w) := h.kpSet hf (Nat.le_trans (List.length_filter_le _ _) (h.kp f (by have := h.2.2.2.1; omega))) (fun c hc => h.2.2.2.2.2.2.2.2 f c hf (List.mem_filter.mp hc).1)
/-- a method comes, at a free number, for what none is for -/
theorem WF.meth {T : TS} (h : WF T) {f m w : Nat} (hm : m < 12) (hw : vcall (tn T) (tpl T f) w = true) (hno : ∀ m', ttg T f m' ≠ some w) : WF (setTg T f m (some w)) := by
  obtain ⟨b1, b2, b3, b4, b5, b6, b7, b8, b9⟩ := h
  refine ⟨b1, b2, b3, b4, b5, ?_, b7, b8, b9⟩
  intro g m' t hg ht
  have ht' : va_up (ttg T) f (va_up (ttg T f) m (some w)) g m' = some t := ht
  show m' < 12 ∧ vcall (tn T) (tpl T g) t = true ∧ (∀ m'', va_up (ttg T) f (va_up (ttg T f) m (some w)) g m'' = some t → m'' = m')
  by_cases e : g = f
  · subst e
    rw [vu_at] at ht' ⊢
    by_cases e2 : m' = m
    · subst e2
      rw [vu_at] at ht'
      cases ht'
      refine ⟨hm, hw, fun m'' h2 => ?_⟩
      by_cases e3 : m'' = m'
      · exact e3
      · rw [vu_ne e3] at h2; exact absurd h2 (hno m'')
    · rw [vu_ne e2] at ht'
      obtain ⟨c1, c2, c3⟩ := b6 g m' t hg ht'
      refine ⟨c1, c2, fun m'' h2 => ?_⟩
      by_cases e3 : m'' = m
      · subst e3; rw [vu_at] at h2; cases h2; exact absurd ht' (hno m')
      · rw [vu_ne e3] at h2; exact c3 m'' h2
  · rw [vu_ne e] at ht' ⊢
    exact b6 g m' t hg ht'
theorem WF.less {T : TS} (h : WF T) {f m : Nat} : WF (setTg T f m none) := by
  obtain ⟨b1, b2, b3, b4, b5, b6, b7, b8, b9⟩ := h
  refine ⟨b1, b2, b3, b4, b5, ?_, b7, b8, b9⟩
  intro g m' t hg ht
  have ht' : va_up (ttg T) f (va_up (ttg T f) m none) g m' = some t := ht
  show m' < 12 ∧ vcall (tn T) (tpl T g) t = true ∧ (∀ m'', va_up (ttg T) f (va_up (ttg T f) m none) g m'' = some t → m'' = m')
  by_cases e : g = f
  · subst e
    rw [vu_at] at ht' ⊢
    by_cases e2 : m' = m
    · subst e2; rw [vu_at] at ht'; cases ht'
    · rw [vu_ne e2] at ht'
      obtain ⟨c1, c2, c3⟩ := b6 g m' t hg ht'
      refine ⟨c1, c2, fun m'' h2 => ?_⟩
      by_cases e3 : m'' = m
      · subst e3; rw [vu_at] at h2; cases h2
      · rw [vu_ne e3] at h2; exact c3 m'' h2
  · rw [vu_ne e] at ht' ⊢
    exact b6 g m' t hg ht'
theorem KdOK.meth {T : TS} (h : KdOK T) {f m w j : Nat} {v : Int32} (hj : j < 4) : KdOK (setKv (setTg T f m (some w)) f m (nI j) v) := by
  intro g m' t hg ht
  have ht' : va_up (ttg T) f (va_up (ttg T f) m (some w)) g m' = some t := ht
  show ∃ j', j' < 4 ∧ va_up (tkd T) f (va_up (tkd T f) m (nI j)) g m' = nI j'
  by_cases e : g = f
  · subst e
    rw [vu_at] at ht' ⊢
    by_cases e2 : m' = m
    · subst e2; rw [vu_at]; exact ⟨j, hj, rfl⟩
    · rw [vu_ne e2] at ht' ⊢; exact h g m' t hg ht'
  · rw [vu_ne e] at ht' ⊢; exact h g m' t hg ht'
theorem KdOK.less {T : TS} (h : KdOK T) {f m : Nat} : KdOK (setTg T f m none) := by
  intro g m' t hg ht
  have ht' : va_up (ttg T) f (va_up (ttg T f) m none) g m' = some t := ht
  show ∃ j', j' < 4 ∧ tkd T g m' = nI j'
  by_cases e : g = f
  · subst e
    rw [vu_at] at ht'
    by_cases e2 : m' = m
    · subst e2; rw [vu_at] at ht'; cases ht'
    · rw [vu_ne e2] at ht'; exact h g m' t hg ht'
  · rw [vu_ne e] at ht'; exact h g m' t hg ht'
theorem KdOK.fn {T : TS} (h : KdOK T) {p : Nat} : KdOK (nFun T p) := by
  intro f m t hf ht
  have hf' : f < tnf T + 1 := hf
  have ht' : va_up (ttg T) (tnf T) (fun _ => none) f m = some t := ht
  show ∃ j', j' < 4 ∧ tkd T f m = nI j'
  by_cases e : f = tnf T
  · rw [e, vu_at] at ht'; cases ht'
  · rw [vu_ne e] at ht'; exact h f m t (by omega) ht'
/-- a state-changing call's end -/
def nM (T' : TS) (σ : Sg) (v : Int32) : Option PV → Sg → Prop := fun r σ' => r = some (.inl v) ∧ InvM T' none σ' ∧ frMo σ σ'
/-- 'method': its answer -/
def mFree (T : TS) (f : Nat) : Option Nat := fnd (fun m => (ttg T f m).isNone) 12
def mFor (T : TS) (f w : Nat) : Option Nat := fnd (fun m => decide (ttg T f m = some w)) 12
theorem InvM.rule {T : TS} {σ σ' : Sg} (h : InvM T none σ) (hq : ∀ q, q ≠ 50 → q ≠ 60 → σ' q = σ q) (h50 : ∀ k, k ≠ 11 → σ' 50 k = σ 50 k) (h11 : σ' 50 11 = nI (1 - tru T)) (h60 : ∀ f, f < 4 → σ' 60 f = nI 0) : InvM (nRule T) none σ' := by
  obtain ⟨a1, a2, a3, a4, a5, a6, a7, a8, a9, a10, a11, a12, a13, a14, a15, a16⟩ := h
  refine ⟨?_, ?_, ?_, ?_, ?_, ?_, ?_, ?_, ?_, h11, h60, ?_, ?_, ?_, ?_, ?_⟩
  · rw [h50 1 (by decide)]; exact a1
  · rw [hq 51 (by decide) (by decide)]; exact a2
  · rw [hq 52 (by decide) (by decide)]; exact a3
  · rw [hq 53 (by decide) (by decide)]; exact a4
  · rw [hq 54 (by decide) (by decide)]; exact a5
  · rw [h50 6 (by decide)]; exact a6
  · rw [hq 55 (by decide) (by decide)]; exact a7
  · rw [hq 56 (by decide) (by decide)]; exact a8
  · rw [hq 57 (by decide) (by decide), hq 58 (by decide) (by decide)]; exact a9
  · intro f k c _ hk
    have hk' : ([] : List Nat)[k]? = some c := hk
    simp at hk'
  · rw [h50 14 (by decide)]; exact a13
  · rw [h50 15 (by decide)]; exact a14
  · rw [h50 19 (by decide)]; exact a15
  · intro w k hw; cases hw
theorem InvM.fn {T : TS} {σ σ' : Sg} {p : Nat} (h : InvM T none σ) (hW : WF T) (hn : tnf T < 4) (hq : ∀ q, q ≠ 50 → q ≠ 55 → q ≠ 56 → σ' q = σ q) (h50 : ∀ k, k ≠ 6 → σ' 50 k = σ 50 k) (h6 : σ' 50 6 = nI (tnf T + 1)) (h55 : ∀ f, σ' 55 f = if f = tnf T then nI p else σ 55 f) (h56 : ∀ f m, m < 12 → σ' 56 (12 * f + m) = if f = tnf T then -1 else σ 56 (12 * f + m)) : InvM (nFun T p) none σ' := by
  obtain ⟨a1, a2, a3, a4, a5, a6, a7, a8, a9, a10, a11, a12, a13, a14, a15, a16⟩ := h
  refine ⟨?_, ?_, ?_, ?_, ?_, h6, ?_, ?_, ?_, ?_, ?_, ?_, ?_, ?_, ?_, ?_⟩
  · rw [h50 1 (by decide)]; exact a1
  · rw [hq 51 (by decide) (by decide) (by decide)]; exact a2
  · rw [hq 52 (by decide) (by decide) (by decide)]; exact a3
  · rw [hq 53 (by decide) (by decide) (by decide)]; exact a4
  · rw [hq 54 (by decide) (by decide) (by decide)]; exact a5
  · intro f hf
    have hf' : f < tnf T + 1 := hf
    show σ' 55 f = nI (va_up (tpl T) (tnf T) p f)
    rw [h55 f]
    by_cases e : f = tnf T
    · rw [if_pos e, e, vu_at]
    · rw [if_neg e, vu_ne e]; exact a7 f (by omega)
  · intro f m hf hm
    have hf' : f < tnf T + 1 := hf
    show σ' 56 (12 * f + m) = oI (va_up (ttg T) (tnf T) (fun _ => none) f m)
    rw [h56 f m hm]
    by_cases e : f = tnf T
    · rw [if_pos e, e, vu_at]; rfl
    · rw [if_neg e, vu_ne e]; exact a8 f m (by omega) hm
  · rw [hq 57 (by decide) (by decide) (by decide), hq 58 (by decide) (by decide) (by decide)]; exact a9
  · rw [h50 11 (by decide)]; exact a10
  · rw [hq 60 (by decide) (by decide) (by decide)]; exact a11
  · intro f k c hf hk
    have hf' : f < tnf T + 1 := hf
    have hk' : (tkp T f)[k]? = some c := hk
    rw [hq 59 (by decide) (by decide) (by decide)]
    by_cases e : f = tnf T
    · rw [(hW.2.2.2.2.2.2.2.1 f (by omega)).2 (by omega)] at hk'
      simp at hk'
    · exact a12 f k c (by omega) hk'
  · rw [h50 14 (by decide)]; exact a13
  · rw [h50 15 (by decide)]; exact a14
  · rw [h50 19 (by decide)]; exact a15
  · intro w k hw; cases hw
theorem InvM.hm {T : TS} {σ σ' : Sg} {h m : Int32} (hM : InvM T none σ) (hq : ∀ q, q ≠ 50 → σ' q = σ q) (h50 : ∀ k, k ≠ 14 → k ≠ 15 → σ' 50 k = σ 50 k) (h14 : σ' 50 14 = h) (h15 : σ' 50 15 = m) : InvM (setHM T h m) none σ' := by
  obtain ⟨a1, a2, a3, a4, a5, a6, a7, a8, a9, a10, a11, a12, a13, a14, a15, a16⟩ := hM
  refine ⟨?_, ?_, ?_, ?_, ?_, ?_, ?_, ?_, ?_, ?_, ?_, ?_, h14, h15, ?_, ?_⟩
  · rw [h50 1 (by decide) (by decide)]; exact a1
  · rw [hq 51 (by decide)]; exact a2
  · rw [hq 52 (by decide)]; exact a3
  · rw [hq 53 (by decide)]; exact a4
  · rw [hq 54 (by decide)]; exact a5
  · rw [h50 6 (by decide) (by decide)]; exact a6
  · rw [hq 55 (by decide)]; exact a7
  · rw [hq 56 (by decide)]; exact a8
  · rw [hq 57 (by decide), hq 58 (by decide)]; exact a9
  · rw [h50 11 (by decide) (by decide)]; exact a10
  · rw [hq 60 (by decide)]; exact a11
  · rw [hq 59 (by decide)]; exact a12
  · rw [h50 19 (by decide) (by decide)]; exact a15
  · intro w k hw; cases hw
theorem WF.rule {T : TS} (h : WF T) : WF (nRule T) := by
  obtain ⟨b1, b2, b3, b4, b5, b6, b7, b8, b9⟩ := h
  exact ⟨b1, b2, b3, b4, b5, b6, by show 1 - tru T < 2; omega, fun f hf => ⟨by show ([] : List Nat).length ≤ 6; simp, fun _ => rfl⟩, fun f c hf hc => by cases (show c ∈ ([] : List Nat) from hc)⟩
theorem WF.fn {T : TS} (h : WF T) {p : Nat} (hn : tnf T < 4) (h1 : 1 ≤ p) (h3 : p ≤ 3) : WF (nFun T p) := by
  obtain ⟨b1, b2, b3, b4, b5, b6, b7, b8, b9⟩ := h
  refine ⟨b1, b2, b3, by show tnf T + 1 ≤ 4; omega, ?_, ?_, b7, ?_, ?_⟩
  · intro f hf
    have hf' : f < tnf T + 1 := hf
    show 1 ≤ va_up (tpl T) (tnf T) p f ∧ va_up (tpl T) (tnf T) p f ≤ 3
    by_cases e : f = tnf T
    · rw [e, vu_at]; exact ⟨h1, h3⟩
    · rw [vu_ne e]; exact b5 f (by omega)
  · intro f m t hf ht
    have hf' : f < tnf T + 1 := hf
    have ht' : va_up (ttg T) (tnf T) (fun _ => none) f m = some t := ht
    show m < 12 ∧ vcall (tn T) (va_up (tpl T) (tnf T) p f) t = true ∧ (∀ m', va_up (ttg T) (tnf T) (fun _ => none) f m' = some t → m' = m)
    by_cases e : f = tnf T
    · rw [e, vu_at] at ht'; cases ht'
    · rw [vu_ne e] at ht' ⊢
      rw [vu_ne e]
      exact b6 f m t (by omega) ht'
  · intro f hf
    exact ⟨(b8 f hf).1, fun h => (b8 f hf).2 (by have : tnf T + 1 ≤ f := h; omega)⟩
  · intro f c hf hc
    have hf' : f < tnf T + 1 := hf
    have hc' : c ∈ tkp T f := hc
    show vcall (tn T) (va_up (tpl T) (tnf T) p f) c = true
    by_cases e : f = tnf T
    · rw [(b8 f (by omega)).2 (by omega)] at hc'
      cases hc'
    · rw [vu_ne e]; exact b9 f c (by omega) hc'
