-- ===== 07: first of some methods; sets of methods =====
theorem allU {P : Nat → Bool} {n : Nat} : (List.range n).all P = true ↔ ∀ j, j < n → P j = true := by
  rw [List.all_eq_true]
  simp
theorem anyU {P : Nat → Bool} {n : Nat} : (List.range n).any P = true ↔ ∃ j, j < n ∧ P j = true := by
  rw [List.any_eq_true]
  simp
theorem allU_s {P : Nat → Bool} {n : Nat} : (List.range (n + 1)).all P = ((List.range n).all P && P n) := by
  rw [List.range_succ, List.all_append]
  simp
theorem allU_no {P : Nat → Bool} {k n : Nat} (h : (List.range k).all P = false) (hk : k ≤ n) : (List.range n).all P = false := by
  cases e : (List.range n).all P with
  | false => rfl
  | true =>
    have h1 : (List.range k).all P = true := allU.mpr (fun j hj => allU.mp e j (by omega))
    rw [h1] at h
    cases h
/-- what the first is looked for by -/
def fstP (S : Nat → Bool) (R : Nat → Nat → Bool) (m : Nat) : Bool := S m && (List.range 13).all (fun o => !S o || (o == m || R m o))
theorem fstI_no {S : Nat → Bool} {R : Nat → Nat → Bool} (h : ∀ m, m < 13 → S m = false) : fstI S R = -1 := by
  unfold fstI
  rw [if_neg]
  intro h1
  obtain ⟨j, hj, e⟩ := anyU.mp h1
  rw [h j hj] at e
  cases e
theorem fstI_some {S : Nat → Bool} {R : Nat → Nat → Bool} {j : Nat} (hj : j < 13) (h : S j = true) : fstI S R = (match fnd (fstP S R) 13 with | some m => nI m | none => -2) := by
  unfold fstI
  rw [if_pos (anyU.mpr ⟨j, hj, h⟩)]
  rfl
theorem fstI_hit {S : Nat → Bool} {R : Nat → Nat → Bool} {m : Nat} (hm : m < 13) (h : fstP S R m = true) (h0 : ∀ j, j < m → fstP S R j = false) : fstI S R = nI m := by
  have hs : S m = true := by
    unfold fstP at h
    simp only [Bool.and_eq_true] at h
    exact h.1
  rw [fstI_some hm hs, fnd_hit hm h h0]
theorem fstI_amb {S : Nat → Bool} {R : Nat → Nat → Bool} {j : Nat} (hj : j < 13) (hs : S j = true) (h0 : ∀ m, m < 13 → fstP S R m = false) : fstI S R = -2 := by
  rw [fstI_some hj hs, fnd_no h0]
theorem fstI_cases (S : Nat → Bool) (R : Nat → Nat → Bool) : (fstI S R = -1 ∧ ∀ m, m < 13 → S m = false) ∨ (fstI S R = -2 ∧ (∃ j, j < 13 ∧ S j = true) ∧ ∀ m, m < 13 → fstP S R m = false) ∨ ∃ m, m < 13 ∧ fstI S R = nI m ∧ S m = true ∧ fstP S R m = true ∧ ∀ j, j < m → fstP S R j = false := by
  by_cases h : ∃ j, j < 13 ∧ S j = true
  · obtain ⟨j, hj, hs⟩ := h
    right
    cases hf : fnd (fstP S R) 13 with
    | none =>
      have h0 := fnd_none hf
      exact Or.inl ⟨fstI_amb hj hs h0, ⟨j, hj, hs⟩, h0⟩
    | some m =>
      obtain ⟨h1, h2, h3⟩ := fnd_some hf
      refine Or.inr ⟨m, h1, fstI_hit h1 h2 h3, ?_, h2, h3⟩
      unfold fstP at h2
      simp only [Bool.and_eq_true] at h2
      exact h2.1
  · left
    have h0 : ∀ m, m < 13 → S m = false := fun m hm => by
      cases e : S m with
      | false => rfl
      | true => exact absurd ⟨m, hm, e⟩ h
    exact ⟨fstI_no h0, h0⟩
theorem fstP_congr {S S' : Nat → Bool} {R R' : Nat → Nat → Bool} (hS : ∀ m, m < 13 → S m = S' m) (hR : ∀ m o, m < 13 → o < 13 → S m = true → S o = true → m ≠ o → R m o = R' m o) {m : Nat} (hm : m < 13) : fstP S R m = fstP S' R' m := by
  unfold fstP
  rw [← hS m hm]
  cases e : S m with
  | false => rfl
  | true =>
    rw [Bool.true_and, Bool.true_and, Bool.eq_iff_iff, allU, allU]
    have key : ∀ o, o < 13 → (!S o || (o == m || R m o)) = (!S' o || (o == m || R' m o)) := by
      intro o ho
      rw [← hS o ho]
      cases e2 : S o with
      | false => rfl
      | true =>
        by_cases e3 : o = m
        · simp [e3]
        · rw [hR m o hm ho e e2 (Ne.symm e3)]
    constructor
    · intro h o ho; rw [← key o ho]; exact h o ho
    · intro h o ho; rw [key o ho]; exact h o ho
theorem fstI_congr {S S' : Nat → Bool} {R R' : Nat → Nat → Bool} (hS : ∀ m, m < 13 → S m = S' m) (hR : ∀ m o, m < 13 → o < 13 → S m = true → S o = true → m ≠ o → R m o = R' m o) : fstI S R = fstI S' R' := by
  rcases fstI_cases S' R' with ⟨h1, h2⟩ | ⟨h1, ⟨j, hj, hs⟩, h3⟩ | ⟨m, hm, h1, h2, h3, h4⟩
  · rw [h1]; exact fstI_no (fun m hm => by rw [hS m hm]; exact h2 m hm)
  · rw [h1]; exact fstI_amb hj (by rw [hS j hj]; exact hs) (fun m hm => by rw [fstP_congr hS hR hm]; exact h3 m hm)
  · rw [h1]; exact fstI_hit hm (by rw [fstP_congr hS hR hm]; exact h3) (fun j hj => by rw [fstP_congr hS hR (by omega)]; exact h4 j hj)
/-- a method more, at a number that is free -/
def MoOK (T : TS) (f : Nat) (mo : Option (Nat × Nat)) : Prop := ∀ w k, mo = some (w, k) → k ≤ 12 ∧ (k < 12 → ttg T f k = none) ∧ vcall (tn T) (tpl T f) w = true
theorem MoOK.no (T : TS) (f : Nat) : MoOK T f none := fun _ _ h => by cases h
theorem tgx_v {T : TS} {f : Nat} {mo : Option (Nat × Nat)} (hW : WF T) (hf : f < tnf T) (hm : MoOK T f mo) {m t : Nat} (h : tgx (ttg T f) mo m = some t) : m ≤ 12 ∧ vcall (tn T) (tpl T f) t = true := by
  cases mo with
  | none =>
    have h1 : ttg T f m = some t := h
    have h2 := hW.2.2.2.2.2.1 f m t hf h1
    exact ⟨by omega, h2.2.1⟩
  | some x =>
    obtain ⟨w, k⟩ := x
    have h1 : (if m = k then some w else ttg T f m) = some t := h
    have hk := hm w k rfl
    by_cases e : m = k
    · rw [if_pos e] at h1
      cases h1
      exact ⟨by omega, hk.2.2⟩
    · rw [if_neg e] at h1
      have h2 := hW.2.2.2.2.2.1 f m t hf h1
      exact ⟨by omega, h2.2.1⟩
theorem appB_some {ls : Nat → List Nat} {tg : Nat → Option Nat} {call m : Nat} (h : appB ls tg call m = true) : ∃ t, tg m = some t ∧ m < 13 ∧ le3 ls call t = true := by
  unfold appB at h
  cases e : tg m with
  | none => rw [e] at h; cases h
  | some t =>
    rw [e] at h
    simp only [Bool.and_eq_true, decide_eq_true_eq] at h
    exact ⟨t, rfl, h.1, h.2⟩
theorem le3_at {ls : Nat → List Nat} {a b : Nat} (h : le3 ls a b = true) : up ls (dg a 0) (dg b 0) = true ∧ up ls (dg a 1) (dg b 1) = true ∧ up ls (dg a 2) (dg b 2) = true := by
  unfold le3 at h
  simp only [Bool.and_eq_true] at h
  exact ⟨h.1.1, h.1.2, h.2⟩
/-- ahead, by the first places -/
def ahN (ls : Nat → List Nat) (call a b : Nat) : Nat → Nat → Bool
  | _, 0 => false
  | p, n + 1 => if dg a p ≠ dg b p then decide (rk ls (dg call p) (dg a p) < rk ls (dg call p) (dg b p)) else ahN ls call a b (p + 1) n
theorem ahN_ahd {ls : Nat → List Nat} {call a b pl : Nat} (hpl : pl ≤ 3) (ha : a < 16 ^ pl) (hb : b < 16 ^ pl) : ahN ls call a b 0 pl = ahd ls call a b := by
  have e : ∀ p, pl ≤ p → ¬ dg a p ≠ dg b p := fun p hp => by rw [dg_hi ha hp, dg_hi hb hp]; simp
  unfold ahd
  rcases (show pl = 0 ∨ pl = 1 ∨ pl = 2 ∨ pl = 3 by omega) with rfl | rfl | rfl | rfl
  · rw [if_neg (e 0 (by omega)), if_neg (e 1 (by omega)), if_neg (e 2 (by omega))]; rfl
  · rw [if_neg (e 1 (by omega)), if_neg (e 2 (by omega))]; rfl
  · rw [if_neg (e 2 (by omega))]; rfl
  · rfl
theorem nodup_len : ∀ (N : Nat) (l : List Nat), l.Nodup → (∀ d, d ∈ l → d < N) → l.length ≤ N
  | 0, l, _, h => by
    cases l with
    | nil => simp
    | cons a r => exact absurd (h a List.mem_cons_self) (by omega)
  | N + 1, l, hn, h => by
    by_cases hm : N ∈ l
    · have h1 := nodup_len N (l.erase N) (hn.erase N) (fun d hd => by
        have h2 := (List.Nodup.mem_erase_iff hn).mp hd
        have h3 := h d h2.2
        have h4 := h2.1
        omega)
      rw [List.length_erase_of_mem hm] at h1
      omega
    · have h1 := nodup_len N l hn (fun d hd => by
        have h3 := h d hd
        have h4 : d ≠ N := fun e => hm (e ▸ hd)
        omega)
      omega
theorem WF.len {T : TS} (hW : WF T) {c : Nat} (hc : c < tn T) : (tls T c).length ≤ c + 1 := nodup_len (c + 1) _ (hW.2.1 c hc).1 (fun d hd => by have := (hW.2.1 c hc).2.2.1 d hd; omega)
theorem WF_rk {T : TS} (hW : WF T) {c d : Nat} (hc : c < tn T) (hd : up (tls T) c d = true) : rk (tls T) c d < 16 := by
  have h1 := hW.len hc
  have h2 := hW.1.2
  have h3 : d ∈ tls T c := by simpa [up] using hd
  have h4 : (tls T c).idxOf d < (tls T c).length := List.idxOf_lt_length_of_mem h3
  unfold rk
  omega
theorem bI_nz {b : Bool} (h : ¬ bI b = 0) : b = true := by
  cases b with
  | true => rfl
  | false => exact absurd rfl h
theorem bI_z {b : Bool} (h : bI b = 0) : b = false := bI_ne0.mp h
