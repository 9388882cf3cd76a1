-- ===== 09g: a class comes =====
def nKind (T : TS) (l : List Nat) : TS := (tn T + 1, va_up (tls T) (tn T) l, tnf T, tpl T, ttg T, tkd T, tvl T, tru T, tkp T, thi T, tmi T)
/-- the parents, as a list; whether they can be -/
def parL (one two three : Int32) : List Nat := one.toNatClampNeg :: (if two = -1 then [] else two.toNatClampNeg :: (if three = -1 then [] else [three.toNatClampNeg]))
def okPar (T : TS) (one two three : Int32) : Bool := decide (tn T < 16) && (isN one (tn T) && ((if two = -1 then decide (three = -1) else isN two (tn T)) && ((decide (three = -1) || isN three (tn T)) && (!decide (one = two) && (!decide (one = three) && (!decide (two = three) || decide (two = -1)))))))
/-- the rows that are merged: the parents' lists, and the parents -/
def rwX (ls : Nat → List Nat) (P : List Nat) (k : Nat) : List Nat := if k < P.length then ls (P.getD k 0) else if k = P.length then P else []
def rwM (ls : Nat → List Nat) (P : List Nat) (k : Nat) : List Nat := if k = 3 then P else if k < P.length then ls (P.getD k 0) else []
def mrgK (T : TS) (P : List Nat) : Option (List Nat) := mrg 4 16 (rwM (tls T) P) [tn T]
def aKind (T : TS) (a b d : Int32) : Int32 := if okPar T a b d then (match mrgK T (parL a b d) with | none => -2 | some _ => nI (tn T)) else -1
def tKind (T : TS) (a b d : Int32) : TS := if okPar T a b d then (match mrgK T (parL a b d) with | none => T | some l => nKind T l) else T
theorem rwMX {ls : Nat → List Nat} {P : List Nat} (h1 : 1 ≤ P.length) (h3 : P.length ≤ 3) : mEm 4 (P.length + 1) (fun k => if k < P.length then k else 3) (rwM ls P) (rwX ls P) := by
  refine ⟨fun k hk => ?_, fun a b hab hb => ?_, fun j hj => ?_⟩
  · unfold rwM rwX
    by_cases e : k < P.length
    · simp only [e, if_true]
      refine ⟨by omega, ?_⟩
      rw [if_neg (by omega)]
    · have : k = P.length := by omega
      subst this
      simp
  · by_cases e : b < P.length
    · simp only [show a < P.length by omega, e, if_true]; exact hab
    · simp only [show a < P.length by omega, e, if_true, if_false]; omega
  · by_cases e : j < P.length
    · exact Or.inl ⟨j, by omega, by simp [e]⟩
    · by_cases e2 : j = 3
      · exact Or.inl ⟨P.length, by omega, by simp [e2]⟩
      · exact Or.inr (by unfold rwM; simp [e, e2])
theorem parOK {T : TS} {a b d : Int32} (hn : tn T ≤ 16) (h : okPar T a b d = true) : tn T < 16 ∧ 1 ≤ (parL a b d).length ∧ (parL a b d).length ≤ 3 ∧ (parL a b d).Nodup ∧ (∀ x, x ∈ parL a b d → x < tn T) ∧ (∃ i, i < tn T ∧ a = nI i) ∧ (b = -1 ∨ ∃ j, j < tn T ∧ b = nI j) ∧ (d = -1 ∨ (b ≠ -1 ∧ ∃ k, k < tn T ∧ d = nI k)) ∧ (b = -1 → d = -1) := by
  unfold okPar at h
  simp only [Bool.and_eq_true, decide_eq_true_eq] at h
  obtain ⟨h0, h1, h2, h3, h4, h5, h6⟩ := h
  obtain ⟨i, hi, hi2, rfl⟩ := isN_of h1
  have hne : ∀ j : Nat, j < 2 ^ 31 → nI j ≠ -1 := fun j hj => nI_ne1 hj
  by_cases eb : b = -1
  · subst eb
    simp only [if_true, decide_eq_true_eq] at h2
    subst h2
    have e : parL (nI i) (-1) (-1) = [i] := by unfold parL; rw [nI_clamp hi2]; rfl
    rw [e]
    refine ⟨h0, by simp, by simp, by simp, fun x hx => ?_, ⟨i, hi, rfl⟩, Or.inl rfl, Or.inl rfl, fun _ => rfl⟩
    have : x = i := by simpa using hx
    omega
  · rw [if_neg eb] at h2
    obtain ⟨j, hj, hj2, rfl⟩ := isN_of h2
    have hij : i ≠ j := fun e => by subst e; simp at h4
    by_cases ed : d = -1
    · subst ed
      have e : parL (nI i) (nI j) (-1) = [i, j] := by unfold parL; rw [nI_clamp hi2, nI_clamp hj2, if_neg (hne j hj2)]; rfl
      rw [e]
      refine ⟨h0, by simp, by simp, by simp [hij], fun x hx => ?_, ⟨i, hi, rfl⟩, Or.inr ⟨j, hj, rfl⟩, Or.inl rfl, fun h => absurd h (hne j hj2)⟩
      have : x = i ∨ x = j := by simpa using hx
      omega
    · have h3' : isN d (tn T) = true := by
        rw [Bool.or_eq_true] at h3
        rcases h3 with h | h
        · exact absurd (by simpa using h) ed
        · exact h
      obtain ⟨k, hk, hk2, rfl⟩ := isN_of h3'
      have hik : i ≠ k := fun e => by subst e; simp at h5
      have hjk : j ≠ k := fun e => by subst e; simp [hne j hj2] at h6
      have e : parL (nI i) (nI j) (nI k) = [i, j, k] := by unfold parL; rw [nI_clamp hi2, nI_clamp hj2, nI_clamp hk2, if_neg (hne j hj2), if_neg (hne k hk2)]
      rw [e]
      refine ⟨h0, by simp, by simp, by simp [hij, hik, hjk], fun x hx => ?_, ⟨i, hi, rfl⟩, Or.inr ⟨j, hj, rfl⟩, Or.inr ⟨hne j hj2, k, hk, rfl⟩, fun h => absurd h (hne j hj2)⟩
      have : x = i ∨ x = j ∨ x = k := by simpa using hx
      omega
/-- the rows of parents that can be -/
theorem rwM_ok {T : TS} (hW : WF T) {P : List Nat} (h3 : P.length ≤ 3) (hnd : P.Nodup) (hP : ∀ x, x ∈ P → x < tn T) : mOK 4 (tn T) (rwM (tls T) P) [tn T] := by
  refine ⟨by simp, fun d hd => by have := List.mem_singleton.mp hd; omega, fun k hk => ?_⟩
  unfold rwM
  by_cases e : k = 3
  · rw [if_pos e]
    exact ⟨hnd, fun d hd => ⟨hP d hd, fun h => by have h5 := List.mem_singleton.mp h; have := hP d hd; omega⟩⟩
  · rw [if_neg e]
    by_cases e2 : k < P.length
    · rw [if_pos e2]
      have hm : P.getD k 0 ∈ P := by
        have : P.getD k 0 = P[k] := by simp [e2]
        rw [this]; exact List.getElem_mem e2
      have hp := hP _ hm
      have hw := hW.2.1 _ hp
      exact ⟨hw.1, fun d hd => ⟨by have := hw.2.2.1 d hd; omega, fun h => by have h5 := List.mem_singleton.mp h; have := hw.2.2.1 d hd; omega⟩⟩
    · rw [if_neg e2]
      exact ⟨by simp, fun d hd => by cases hd⟩
theorem mrgK_ok {T : TS} (hW : WF T) {P l : List Nat} (h1 : 1 ≤ P.length) (h3 : P.length ≤ 3) (hnd : P.Nodup) (hP : ∀ x, x ∈ P → x < tn T) (h : mrgK T P = some l) : l.Nodup ∧ tn T ∈ l ∧ (∀ d, d ∈ l → d ≤ tn T) ∧ (∀ d, d ∈ l ↔ d = tn T ∨ ∃ p, p ∈ P ∧ d ∈ tls T p) ∧ l.length ≤ tn T + 1 := by
  obtain ⟨g1, g2, g3, t, g4⟩ := mrg_set (rwM_ok hW h3 hnd hP) h
  refine ⟨g1, by rw [g3]; exact Or.inl (by simp), g2, fun d => ?_, nodup_len _ _ g1 (fun d hd => by have := g2 d hd; omega)⟩
  rw [g3]
  constructor
  · rintro (h4 | ⟨j, hj, h4⟩)
    · exact Or.inl (by simpa using h4)
    · right
      unfold rwM at h4
      by_cases e : j = 3
      · rw [if_pos e] at h4
        exact ⟨d, h4, (hW.2.1 d (hP d h4)).2.1⟩
      · rw [if_neg e] at h4
        by_cases e2 : j < P.length
        · rw [if_pos e2] at h4
          refine ⟨P.getD j 0, ?_, h4⟩
          have : P.getD j 0 = P[j] := by simp [e2]
          rw [this]; exact List.getElem_mem e2
        · rw [if_neg e2] at h4; cases h4
  · rintro (h4 | ⟨p, hp, h4⟩)
    · exact Or.inl (by simp [h4])
    · right
      obtain ⟨j, hj⟩ := List.getElem?_of_mem hp
      have hjl := (List.getElem?_eq_some_iff.mp hj).1
      refine ⟨j, by omega, ?_⟩
      unfold rwM
      rw [if_neg (by omega), if_pos hjl]
      have : P.getD j 0 = p := by simp [hj]
      rw [this]; exact h4
theorem vcall_s {n pl c : Nat} (h : vcall n pl c = true) : vcall (n + 1) pl c = true := by
  obtain ⟨h0, h1, h2, h3⟩ := vcall_spec h
  simp [vcall, h0]
  omega
theorem WF.kind {T : TS} (hW : WF T) {P l : List Nat} (hn : tn T < 16) (h1 : 1 ≤ P.length) (h3 : P.length ≤ 3) (hnd : P.Nodup) (hP : ∀ x, x ∈ P → x < tn T) (h : mrgK T P = some l) : WF (nKind T l) := by
  obtain ⟨g1, g2, g3, g4, _⟩ := mrgK_ok hW h1 h3 hnd hP h
  obtain ⟨b1, b2, b3, b4, b5, b6, b7, b8, b9⟩ := hW
  have hls : ∀ c, c < tn T → va_up (tls T) (tn T) l c = tls T c := fun c hc => vu_ne (by omega)
  refine ⟨⟨by show 1 ≤ tn T + 1; omega, by show tn T + 1 ≤ 16; omega⟩, ?_, ?_, b4, b5, ?_, b7, b8, ?_⟩
  · intro c hc
    have hc' : c < tn T + 1 := hc
    show (va_up (tls T) (tn T) l c).Nodup ∧ c ∈ va_up (tls T) (tn T) l c ∧ (∀ d, d ∈ va_up (tls T) (tn T) l c → d ≤ c) ∧ ∀ d e, d ∈ va_up (tls T) (tn T) l c → e ∈ va_up (tls T) (tn T) l d → e ∈ va_up (tls T) (tn T) l c
    by_cases e : c = tn T
    · subst e
      rw [vu_at]
      refine ⟨g1, g2, g3, fun d e hd he => ?_⟩
      rcases (g4 d).mp hd with h5 | ⟨p, hp, h5⟩
      · subst h5; rw [vu_at] at he; exact he
      · have hpn := hP p hp
        have hdn := (b2 p hpn).2.2.1 d h5
        rw [hls d (by omega)] at he
        exact (g4 e).mpr (Or.inr ⟨p, hp, (b2 p hpn).2.2.2 d e h5 he⟩)
    · have hcn : c < tn T := by omega
      rw [hls c hcn]
      refine ⟨(b2 c hcn).1, (b2 c hcn).2.1, (b2 c hcn).2.2.1, fun d e hd he => ?_⟩
      have hdn := (b2 c hcn).2.2.1 d hd
      rw [hls d (by omega)] at he
      exact (b2 c hcn).2.2.2 d e hd he
  · show va_up (tls T) (tn T) l 0 = [0]
    rw [hls 0 (by omega)]; exact b3
  · intro f m t hf ht
    have := b6 f m t hf ht
    exact ⟨this.1, vcall_s this.2.1, this.2.2⟩
  · intro f c hf hc
    exact vcall_s (b9 f c hf hc)
theorem InvM.kind {T : TS} {σ σ' : Sg} {l : List Nat} (h : InvM T none σ) (hW : WF T) (hg : ∀ d, d ∈ l → d ≤ tn T) (hn : tn T < 16) (hq : ∀ q, q < 61 → q ≠ 50 → q ≠ 51 → q ≠ 52 → q ≠ 53 → q ≠ 54 → σ' q = σ q) (h50 : ∀ k, k ≠ 0 → k ≠ 1 → σ' 50 k = σ 50 k) (h1 : σ' 50 1 = nI (tn T + 1)) (h51 : ∀ c, c < tn T → σ' 51 c = σ 51 c) (h51n : ∀ d, d < 32 → bt (σ' 51 (tn T)) d = decide (d ∈ l)) (h52 : ∀ i, i < 16 * tn T → σ' 52 i = σ 52 i) (h52n : ∀ k d, l[k]? = some d → σ' 52 (16 * tn T + k) = nI d) (h53 : ∀ c, c < tn T → σ' 53 c = σ 53 c) (h53n : σ' 53 (tn T) = nI l.length) (h54 : ∀ i, i < 16 * tn T → σ' 54 i = σ 54 i) (h54n : ∀ d, d ∈ l → σ' 54 (16 * tn T + d) = nI (l.idxOf d)) : InvM (nKind T l) none σ' := by
  have hlen : ∀ c, c < tn T → (tls T c).length ≤ 16 := fun c hc => by have := hW.len hc; omega
  obtain ⟨a1, a2, a3, a4, a5, a6, a7, a8, a9, a10, a11, a12, a13, a14, a15, a16⟩ := h
  have hls : ∀ c, c < tn T → va_up (tls T) (tn T) l c = tls T c := fun c hc => vu_ne (by omega)
  refine ⟨h1, ?_, ?_, ?_, ?_, ?_, ?_, ?_, ?_, ?_, ?_, ?_, ?_, ?_, ?_, ?_⟩
  · intro c hc d hd
    have hc' : c < tn T + 1 := hc
    show bt (σ' 51 c) d = decide (d ∈ va_up (tls T) (tn T) l c)
    by_cases e : c = tn T
    · subst e; rw [vu_at]; exact h51n d hd
    · rw [hls c (by omega), h51 c (by omega)]; exact a2 c (by omega) d hd
  · intro c hc k d hk
    have hc' : c < tn T + 1 := hc
    have hk' : (va_up (tls T) (tn T) l c)[k]? = some d := hk
    by_cases e : c = tn T
    · subst e; rw [vu_at] at hk'; exact h52n k d hk'
    · rw [hls c (by omega)] at hk'
      have := (List.getElem?_eq_some_iff.mp hk').1
      have := hlen c (by omega)
      rw [h52 _ (by omega)]; exact a3 c (by omega) k d hk'
  · intro c hc
    have hc' : c < tn T + 1 := hc
    show σ' 53 c = nI (va_up (tls T) (tn T) l c).length
    by_cases e : c = tn T
    · subst e; rw [vu_at]; exact h53n
    · rw [hls c (by omega), h53 c (by omega)]; exact a4 c (by omega)
  · intro c d hc hd
    have hc' : c < tn T + 1 := hc
    have hd' : d ∈ va_up (tls T) (tn T) l c := hd
    show σ' 54 (16 * c + d) = nI ((va_up (tls T) (tn T) l c).idxOf d)
    by_cases e : c = tn T
    · subst e; rw [vu_at] at hd' ⊢; exact h54n d hd'
    · rw [hls c (by omega)] at hd' ⊢
      have := (hW.2.1 c (by omega)).2.2.1 d hd'
      rw [h54 _ (by omega)]; exact a5 c d (by omega) hd'
  · rw [h50 6 (by decide) (by decide)]; exact a6
  · rw [hq 55 (by decide) (by decide) (by decide) (by decide) (by decide) (by decide)]; exact a7
  · rw [hq 56 (by decide) (by decide) (by decide) (by decide) (by decide) (by decide)]; exact a8
  · rw [hq 57 (by decide) (by decide) (by decide) (by decide) (by decide) (by decide), hq 58 (by decide) (by decide) (by decide) (by decide) (by decide) (by decide)]; exact a9
  · rw [h50 11 (by decide) (by decide)]; exact a10
  · rw [hq 60 (by decide) (by decide) (by decide) (by decide) (by decide) (by decide)]; exact a11
  · rw [hq 59 (by decide) (by decide) (by decide) (by decide) (by decide) (by decide)]; exact a12
  · rw [h50 14 (by decide) (by decide)]; exact a13
  · rw [h50 15 (by decide) (by decide)]; exact a14
  · rw [h50 19 (by decide) (by decide)]; exact a15
  · intro w k hw; cases hw
/-- 'meet' -/
def meB (ls : Nat → List Nat) (n c one other : Nat) : Bool := up ls c one && (up ls c other && (List.range n).all (fun d => d == c || (!up ls c d || (!up ls d one || !up ls d other))))
def aMeet (T : TS) (one other k : Int32) : Int32 := if isN one (tn T) && isN other (tn T) then kth (fun c => meB (tls T) (tn T) c one.toNatClampNeg other.toNatClampNeg) (tn T) k else -1
def aIs (T : TS) (one other : Int32) : Bool := isN one (tn T) && (isN other (tn T) && up (tls T) one.toNatClampNeg other.toNatClampNeg)
def aList (T : TS) (c k : Int32) : Int32 := if isN c (tn T) then (if k = -1 then nI (tls T c.toNatClampNeg).length else if isN k (tls T c.toNatClampNeg).length then nI ((tls T c.toNatClampNeg).getD k.toNatClampNeg 0) else -1) else -1
def parO (i : Nat) (ob od : Option Nat) : List Nat := i :: (match ob with | none => [] | some j => j :: (match od with | none => [] | some k => [k]))
def parC (ob od : Option Nat) : Nat := match ob with | none => 1 | some _ => (match od with | none => 2 | some _ => 3)
theorem parO_len (i : Nat) (ob od : Option Nat) : (parO i ob od).length = parC ob od := by
  cases ob with
  | none => rfl
  | some j => cases od <;> rfl
theorem parL_O {i : Nat} {ob od : Option Nat} (hi : i < 2 ^ 31) (hb : ∀ t, ob = some t → t < 2 ^ 31) (hd : ∀ t, od = some t → t < 2 ^ 31) : parL (nI i) (oI ob) (oI od) = parO i ob od := by
  unfold parL parO
  rw [nI_clamp hi]
  cases ob with
  | none => rfl
  | some j =>
    rw [if_neg (oI_ne (t := j) (hb j rfl)), show (oI (some j)).toNatClampNeg = j from nI_clamp (hb j rfl)]
    cases od with
    | none => rfl
    | some k => rw [if_neg (oI_ne (t := k) (hd k rfl)), show (oI (some k)).toNatClampNeg = k from nI_clamp (hd k rfl)]
theorem parO_0 {ls : Nat → List Nat} (i : Nat) (ob od : Option Nat) : rwM ls (parO i ob od) 0 = ls i := rfl
theorem parO_1 {ls : Nat → List Nat} (i : Nat) (ob od : Option Nat) : rwM ls (parO i ob od) 1 = (ob.map ls).getD [] := by
  cases ob with
  | none => rfl
  | some j => cases od <;> rfl
theorem parO_2 {ls : Nat → List Nat} (i : Nat) (ob od : Option Nat) (h : ob = none → od = none) : rwM ls (parO i ob od) 2 = (od.map ls).getD [] := by
  cases ob with
  | none => rw [h rfl]; rfl
  | some j => cases od <;> rfl
theorem parO_a {i v : Nat} {ob od : Option Nat} (h : (parO i ob od)[0]? = some v) : v = i := by
  unfold parO at h
  simp at h
  exact h.symm
theorem parO_b {i v : Nat} {ob od : Option Nat} (h : (parO i ob od)[1]? = some v) : ob = some v := by
  unfold parO at h
  cases ob with
  | none => simp at h
  | some j => simp at h; rw [h]
theorem parO_d {i v : Nat} {ob od : Option Nat} (h : (parO i ob od)[2]? = some v) : od = some v := by
  unfold parO at h
  cases ob with
  | none => simp at h
  | some j =>
    cases od with
    | none => simp at h
    | some k => simp at h; rw [h]
theorem nd_inj {a : Nat} : ∀ {l : List Nat} {i j : Nat}, l.Nodup → l[i]? = some a → l[j]? = some a → i = j
  | [], i, j, _, h, _ => by simp at h
  | b :: r, 0, 0, _, _, _ => rfl
  | b :: r, 0, j + 1, hn, h1, h2 => by
    simp at h1 h2
    subst h1
    exact absurd (List.mem_of_getElem? h2) (List.nodup_cons.mp hn).1
  | b :: r, i + 1, 0, hn, h1, h2 => by
    simp at h1 h2
    subst h2
    exact absurd (List.mem_of_getElem? h1) (List.nodup_cons.mp hn).1
  | b :: r, i + 1, j + 1, hn, h1, h2 => by
    simp at h1 h2
    rw [nd_inj (List.nodup_cons.mp hn).2 h1 h2]
