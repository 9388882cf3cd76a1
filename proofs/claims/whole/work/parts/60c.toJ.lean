-- ===== 60c: a world of explicit cells as places =====
theorem wld_of {D : va_G} {K : CK} {ad : Nat → Nat} {σ : Sg} {ws : va_W} {H : Heap} (hP : va_P D vwCl ws H) (g : Nat → Nat) (hg : ∀ p, p < 68 → ws[g p]? = some (ad p, cel K ad σ p)) : va_P D vwCl (wld K ad σ) H := fun k q hk => by
  have hl := (List.getElem?_eq_some_iff.mp hk).1
  rw [wld_len] at hl
  rw [wld_get hl] at hk
  cases hk
  exact hP (g k) _ (hg k hl)
theorem inj_of {A : Nat → Prop} {K : CK} {ad : Nat → Nat} {σ : Sg} {ws : va_W} (hD : va_D A ws) (g : Nat → Nat) (hi : ∀ i j, i < 68 → j < 68 → g i = g j → i = j) (hg : ∀ p, p < 68 → ws[g p]? = some (ad p, cel K ad σ p)) : adInj ad ∧ ∀ i, i < 68 → A (ad i) := by
  refine ⟨fun i j h1 h2 he => hi i j h1 h2 (hD.1 (g i) (g j) _ _ (hg i h1) (hg j h2) he), fun i h => hD.2 (g i) _ (hg i h)⟩
theorem wld_at {D : va_G} {K : CK} {ad : Nat → Nat} {σ : Sg} {H : Heap} (h : ∀ p, p < 68 → va_at D vwCl (ad p, cel K ad σ p) H) : va_P D vwCl (wld K ad σ) H := fun k q hk => by
  have hl := (List.getElem?_eq_some_iff.mp hk).1
  rw [wld_len] at hl
  rw [wld_get hl] at hk
  cases hk
  exact h k hl
theorem arrV_congr {cA : ClassId} {n : Nat} {f f' : Nat → Value} (h : ∀ j, j < n → f j = f' j) : arrV cA n f = arrV cA n f' := by
  unfold arrV
  congr 1
  apply Array.ext_getElem?
  intro i
  by_cases hi : i < n
  · simp [hi, h i hi]
  · simp [hi]
theorem at_ints {D : va_G} {cl : List vw_C} {a n : Nat} {cA : ClassId} {f f' : Nat → Int32} {H : Heap} (h : ∀ j, j < n → f j = f' j) (hA : va_at D cl (a, .inl (cA, n, .inl f)) H) : va_at D cl (a, .inl (cA, n, .inl f')) H := by
  have e : vp_cell cA (n, .inl f) = vp_cell cA (n, .inl f') := by
    show arrV cA n (fun j => .int (f j)) = arrV cA n (fun j => .int (f' j))
    exact arrV_congr (fun j hj => by simp only [h j hj])
  show H[a]? = some (vp_cell cA (n, .inl f'))
  rw [← e]
  exact hA
theorem at_longs {D : va_G} {cl : List vw_C} {a n : Nat} {cA : ClassId} {f f' : Nat → Int64} {H : Heap} (h : ∀ j, j < n → f j = f' j) (hA : va_at D cl (a, .inl (cA, n, .inr (.inl f))) H) : va_at D cl (a, .inl (cA, n, .inr (.inl f'))) H := by
  have e : vp_cell cA (n, .inr (.inl f)) = vp_cell cA (n, .inr (.inl f')) := by
    show arrV cA n (fun j => .long (f j)) = arrV cA n (fun j => .long (f' j))
    exact arrV_congr (fun j hj => by simp only [h j hj])
  show H[a]? = some (vp_cell cA (n, .inr (.inl f')))
  rw [← e]
  exact hA
theorem at_refs {D : va_G} {cl : List vw_C} {a n : Nat} {cA : ClassId} {f f' : Nat → Option Nat} {H : Heap} (h : ∀ j, j < n → f j = f' j) (hA : va_at D cl (a, .inl (cA, n, .inr (.inr (.inr (.inr f))))) H) : va_at D cl (a, .inl (cA, n, .inr (.inr (.inr (.inr f'))))) H := by
  have e : vp_cell cA (n, .inr (.inr (.inr (.inr f)))) = vp_cell cA (n, .inr (.inr (.inr (.inr f')))) := by
    show arrV cA n (fun j => va_rf (f j)) = arrV cA n (fun j => va_rf (f' j))
    exact arrV_congr (fun j hj => by simp only [h j hj])
  show H[a]? = some (vp_cell cA (n, .inr (.inr (.inr (.inr f')))))
  rw [← e]
  exact hA
