-- ===== 12: sets of methods, of the class's object =====
theorem andnot0 {x y : Int32} : (x &&& (y ^^^ -1)) = 0 ↔ ∀ o, o < 32 → bt x o = true → bt y o = true := by
  constructor
  · intro h o ho hx
    have h1 : bt (x &&& (y ^^^ -1)) o = false := by rw [h]; exact bt_0 o
    rw [bt_and, bt_not _ ho, hx] at h1
    simpa using h1
  · intro h
    have : (x &&& (y ^^^ -1)) = nI 0 := bt_ext (fun o ho => by
      rw [bt_and, bt_not _ ho, bt_0]
      cases hx : bt x o with
      | false => rfl
      | true => rw [h o ho hx]; rfl)
    rw [this]; rfl
theorem fit3 {ls : Nat → List Nat} {g : Nat → Option Nat} {c m : Nat} : ((fitB ls g 0 (dg c 0) m && fitB ls g 1 (dg c 1) m) && fitB ls g 2 (dg c 2) m) = appB ls g c m := by
  unfold fitB appB le3
  cases g m with
  | none => rfl
  | some t =>
    by_cases h : m < 13
    · simp [h]
    · simp [h]
theorem appB_13 {ls : Nat → List Nat} {g : Nat → Option Nat} {c m : Nat} : (decide (m < 13) && appB ls g c m) = appB ls g c m := by
  unfold appB
  cases g m with
  | none => simp
  | some t => by_cases h : m < 13 <;> simp [h]
theorem bt_app {ls : Nat → List Nat} {g : Nat → Option Nat} {c m : Nat} : bt (mkS (appB ls g c) 13) m = appB ls g c m := by
  rw [bt_mkS _ (by decide), appB_13]
/-- what is known of a function's methods -/
def GOK (n pl : Nat) (ls : Nat → List Nat) (g : Nat → Option Nat) : Prop := ∀ m t, g m = some t → m < 13 ∧ vcall n pl t = true ∧ le3 ls t t = true ∧ dg t 0 < n ∧ dg t 1 < n ∧ dg t 2 < n ∧ t < 4096
theorem le3_refl {T : TS} (hW : WF T) {t : Nat} (h0 : dg t 0 < tn T) (h1 : dg t 1 < tn T) (h2 : dg t 2 < tn T) : le3 (tls T) t t = true := by
  unfold le3 up
  simp [(hW.2.1 _ h0).2.1, (hW.2.1 _ h1).2.1, (hW.2.1 _ h2).2.1]
theorem GOK.of {T : TS} (hW : WF T) {f : Nat} (hf : f < tnf T) : GOK (tn T) (tpl T f) (tls T) (ttg T f) := fun m t h => by
  have h1 := hW.2.2.2.2.2.1 f m t hf h
  have h2 := vcall_spec h1.2.1
  exact ⟨by omega, h1.2.1, le3_refl hW h2.2.1 h2.2.2.1 h2.2.2.2, h2.2.1, h2.2.2.1, h2.2.2.2, ttg_lt hW hf h⟩
/-- those at most all of some -/
def amB (ls : Nat → List Nat) (g : Nat → Option Nat) (x : Int32) (m : Nat) : Bool := match g m with
  | none => false
  | some t => (List.range 32).all (fun o => !bt x o || appB ls g t o)
/-- cells of one function, but those named -/
def onlyF (p : Nat) (σ σ' : Sg) (ok : Nat → Prop) : Prop := ∀ q, ¬ ok q → σ' q = σ q
theorem FX.keep {n : Nat} {ls : Nat → List Nat} {p pl : Nat} {g : Nat → Option Nat} {σ σ' : Sg} (h : FX n ls p pl g σ) (h0 : σ' p 0 = σ p 0) (h1 : σ' p 1 = σ p 1) (h2 : σ' (p + 1) = σ (p + 1)) (h4 : σ' (p + 4) = σ (p + 4)) (h5 : σ' (p + 5) = σ (p + 5)) : FX n ls p pl g σ' := by
  obtain ⟨a1, a2, a3, a4, a5⟩ := h
  exact ⟨by rw [h0]; exact a1, by rw [h1]; exact a2, by rw [h2]; exact a3, by rw [h5]; exact a4, by rw [h4]; exact a5⟩
theorem KX.keep {p : Nat} {l : List Nat} {σ σ' : Sg} (h : KX p l σ) (h1 : σ' p 8 = σ p 8) (h2 : σ' (p + 6) = σ (p + 6)) : KX p l σ' := ⟨by rw [h1]; exact h.1, by rw [h2]; exact h.2⟩
theorem CX.keep {T : TS} {σ σ' : Sg} (h : CX T σ) (hq : ∀ q, 1 ≤ q → q < 8 → σ' q = σ q) : CX T σ' := by
  obtain ⟨a1, a2, a3, a4, a5, a6, a7⟩ := h
  refine ⟨?_, ?_, ?_, ?_, ?_, ?_, ?_⟩
  · rw [hq 1 (by decide) (by decide)]; exact a1
  · rw [hq 4 (by decide) (by decide)]; exact a2
  · rw [hq 4 (by decide) (by decide)]; exact a3
  · rw [hq 5 (by decide) (by decide)]; exact a4
  · rw [hq 6 (by decide) (by decide)]; exact a5
  · rw [hq 7 (by decide) (by decide)]; exact a6
  · rw [hq 3 (by decide) (by decide), hq 2 (by decide) (by decide)]; exact a7
