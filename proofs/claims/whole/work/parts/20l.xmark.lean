-- ===== 20l: the class: clashes, gaps =====
def mkB (T : TS) (f : Nat) (g : Nat → Option Nat) (a : Int32) (c : Nat) : Bool := vcall (tn T) (tpl T f) c && decide (ansI (tls T) g 0 c = a)
/-- at most a marked call; below a marked call -/
def covB (T : TS) (f : Nat) (g : Nat → Option Nat) (a : Int32) (c : Nat) : Bool := (List.range (16 ^ tpl T f)).any (fun o => mkB T f g a o && le3 (tls T) c o)
def belB (T : TS) (f : Nat) (g : Nat → Option Nat) (a : Int32) (c : Nat) : Bool := (List.range (16 ^ tpl T f)).any (fun o => mkB T f g a o && (le3 (tls T) c o && !decide (o = c)))
theorem up_le {T : TS} (hW : WF T) {x y : Nat} (hx : x < tn T) (h : up (tls T) x y = true) : y ≤ x := (hW.2.1 x hx).2.2.1 y (by unfold up at h; simpa using h)
theorem up_trans {T : TS} (hW : WF T) {x y z : Nat} (hx : x < tn T) (h1 : up (tls T) x y = true) (h2 : up (tls T) y z = true) : up (tls T) x z = true := by
  unfold up at *
  simp only [decide_eq_true_eq] at *
  exact (hW.2.1 x hx).2.2.2 y z h1 h2
theorem up_refl {T : TS} (hW : WF T) {x : Nat} (hx : x < tn T) : up (tls T) x x = true := by
  unfold up
  simp [(hW.2.1 x hx).2.1]
theorem le3_mk {ls : Nat → List Nat} {a b : Nat} (h : ∀ p, p < 3 → up ls (dg a p) (dg b p) = true) : le3 ls a b = true := by
  unfold le3
  rw [h 0 (by decide), h 1 (by decide), h 2 (by decide)]
  rfl
theorem le3_le {T : TS} (hW : WF T) {pl c o : Nat} (hc : vcall (tn T) pl c = true) (hpl : pl ≤ 3) (ho : o < 4096) (h : le3 (tls T) c o = true) : o ≤ c := by
  have hs := vcall_spec hc
  obtain ⟨h0, h1, h2⟩ := le3_at h
  have e0 := up_le hW hs.2.1 h0
  have e1 := up_le hW hs.2.2.1 h1
  have e2 := up_le hW hs.2.2.2 h2
  rw [dg3 c (vcall_lt hc hpl), dg3 o ho]
  omega
theorem le3_trans {T : TS} (hW : WF T) {pl a b e : Nat} (ha : vcall (tn T) pl a = true) (hpl : pl ≤ 3) (h1 : le3 (tls T) a b = true) (h2 : le3 (tls T) b e = true) : le3 (tls T) a e = true :=
  le3_mk (fun p hp => up_trans hW (vcall_dg ha hpl hW.1.1) (le3_p h1 hp) (le3_p h2 hp))
theorem dg_ext {a b : Nat} (ha : a < 4096) (hb : b < 4096) (h : ∀ p, p < 3 → dg a p = dg b p) : a = b := by
  rw [dg3 a ha, dg3 b hb, h 0 (by decide), h 1 (by decide), h 2 (by decide)]
theorem rep_sub {c p q : Nat} (hq : q ≤ dg c p) : c - (dg c p - q) * 16 ^ p = rep c p q ∧ (dg c p - q) * 16 ^ p ≤ c := by
  have h1 := dg_part (c := c) (p := p)
  have h2 : q * 16 ^ p ≤ dg c p * 16 ^ p := Nat.mul_le_mul_right _ hq
  rw [Nat.sub_mul]
  unfold rep
  omega
theorem rep_lt {c p q : Nat} (hq : q < dg c p) : rep c p q < c := by
  have h1 := dg_part (c := c) (p := p)
  have h2 : q * 16 ^ p < dg c p * 16 ^ p := (Nat.mul_lt_mul_right (Nat.pow_pos (by decide))).mpr hq
  unfold rep
  omega
/-- below a marked one: a parent up at one place is at most one -/
theorem belB_par {T : TS} (hW : WF T) {f : Nat} (hf : f < tnf T) {g : Nat → Option Nat} {a : Int32} {c p q : Nat} (hc : vcall (tn T) (tpl T f) c = true) (hp : p < tpl T f) (hq : q < dg c p) (hu : up (tls T) (dg c p) q = true) (h : covB T f g a (rep c p q) = true) : belB T f g a c = true := by
  have hpl := hW.2.2.2.2.1 f hf
  have hcp := vcall_dg (p := p) hc hpl.2 hW.1.1
  have hrv := rep_v hc hpl.2 hp (show q < tn T by omega) hW.1.2
  have hcs := (vcall_spec hc).1
  obtain ⟨o, ho, h1⟩ := anyU.mp h
  simp only [Bool.and_eq_true] at h1
  have hov : vcall (tn T) (tpl T f) o = true := by have := h1.1; unfold mkB at this; simp only [Bool.and_eq_true] at this; exact this.1
  have hle := le3_le hW hrv hpl.2 (vcall_lt hov hpl.2) h1.2
  have hlt := rep_lt hq
  refine anyU.mpr ⟨o, ho, ?_⟩
  rw [h1.1, Bool.true_and]
  have h3 : le3 (tls T) c o = true := by
    refine le3_trans hW hc hpl.2 (le3_mk (fun p' hp' => ?_)) h1.2
    rw [(rep_dg (q := p') hcs hpl.2 hp (show q < 16 by have := hW.1.2; omega)).2]
    by_cases e : p' = p
    · subst e; rw [if_pos rfl]; exact hu
    · rw [if_neg e]; exact up_refl hW (vcall_dg hc hpl.2 hW.1.1)
  rw [h3, decide_eq_false (by omega)]
  rfl
theorem belB_of {T : TS} (hW : WF T) {f : Nat} (hf : f < tnf T) {g : Nat → Option Nat} {a : Int32} {c : Nat} (hc : vcall (tn T) (tpl T f) c = true) (h : belB T f g a c = true) : ∃ p x, p < tpl T f ∧ x ≠ dg c p ∧ up (tls T) (dg c p) x = true ∧ ∀ q, q < 16 → up (tls T) q x = true → covB T f g a (rep c p q) = true := by
  have hpl := hW.2.2.2.2.1 f hf
  have hcs := (vcall_spec hc).1
  obtain ⟨o, ho, h1⟩ := anyU.mp h
  simp only [Bool.and_eq_true, Bool.not_eq_true', decide_eq_false_iff_not] at h1
  obtain ⟨hm, hl, hne⟩ := h1
  have hov : vcall (tn T) (tpl T f) o = true := by have := hm; unfold mkB at this; simp only [Bool.and_eq_true] at this; exact this.1
  have hd : ∃ p, p < 3 ∧ dg o p ≠ dg c p := by
    by_cases e0 : dg o 0 = dg c 0
    · by_cases e1 : dg o 1 = dg c 1
      · by_cases e2 : dg o 2 = dg c 2
        · exact absurd (dg_ext (vcall_lt hov hpl.2) (vcall_lt hc hpl.2) (fun p hp => by rcases (show p = 0 ∨ p = 1 ∨ p = 2 by omega) with rfl | rfl | rfl <;> assumption)) hne
        · exact ⟨2, by decide, e2⟩
      · exact ⟨1, by decide, e1⟩
    · exact ⟨0, by decide, e0⟩
  obtain ⟨p, hp3, hpd⟩ := hd
  have hp : p < tpl T f := by
    rcases Nat.lt_or_ge p (tpl T f) with h | h
    · exact h
    · rw [dg_hi ho h, dg_hi hcs h] at hpd; exact absurd rfl hpd
  refine ⟨p, dg o p, hp, hpd, le3_p hl hp3, fun q hq hu => anyU.mpr ⟨o, ho, ?_⟩⟩
  rw [hm, Bool.true_and]
  refine le3_mk (fun p' hp' => ?_)
  rw [(rep_dg (q := p') hcs hpl.2 hp hq).2]
  by_cases e : p' = p
  · subst e; rw [if_pos rfl]; exact hu
  · rw [if_neg e]; exact le3_p hl hp'
theorem covB_or {T : TS} (hW : WF T) {f : Nat} (hf : f < tnf T) {g : Nat → Option Nat} {a : Int32} {c : Nat} (hc : vcall (tn T) (tpl T f) c = true) : covB T f g a c = (belB T f g a c || mkB T f g a c) := by
  have hs := vcall_spec hc
  rw [Bool.eq_iff_iff, Bool.or_eq_true]
  unfold covB belB
  rw [anyU, anyU]
  constructor
  · rintro ⟨o, ho, h⟩
    simp only [Bool.and_eq_true] at h
    by_cases e : o = c
    · subst e; exact Or.inr h.1
    · exact Or.inl ⟨o, ho, by rw [h.1, h.2, decide_eq_false e]; rfl⟩
  · rintro (⟨o, ho, h⟩ | h)
    · simp only [Bool.and_eq_true] at h
      exact ⟨o, ho, by rw [h.1, h.2.1]; rfl⟩
    · exact ⟨c, hs.1, by rw [h, le3_refl hW hs.2.1 hs.2.2.1 hs.2.2.2]; rfl⟩
theorem sp_isBelowCovered {T : TS} {σ : Sg} (hC : CX T σ) (hW : WF T) {f : Nat} (hf : f < tnf T) {g : Nat → Option Nat} {a : Int32} {call : Nat} (hc : vcall (tn T) (tpl T f) call = true) (h14 : ∀ o, vcall (tn T) (tpl T f) o = true → o < call → σ 14 o = bI (covB T f g a o)) : Sp yX2_isBelowCovered cX2_isBelowCovered 6 (some .boolean) 1 [.inr 0, .inl (nI call)] σ (rt σ (.inl (bI (belB T f g a call)))) := by
  have hn := hW.1
  have hpl := hW.2.2.2.2.1 f hf
  have hcl := vcall_lt hc hpl.2
  have hcs := (vcall_spec hc).1
  refine Sp.intro rfl (Nat.le_of_ble_eq_true rfl) (fun Γ c r => ?_)
  show J Γ 0 [some (.inr 0), some (.inl (nI call)), none, none, none, none] [] σ
  refine j_iconst c (nI 0) dX2_isBelowCovered_0 (by decide) ?_
  refine j_istore_n c dX2_isBelowCovered_1 (Nat.le_of_ble_eq_true rfl) rfl ?_
  have key : ∀ p, p ≤ 3 → (∀ p' x, p' < p → x ≠ dg call p' → up (tls T) (dg call p') x = true → p' < tpl T f → ∃ q, q < 16 ∧ up (tls T) q x = true ∧ covB T f g a (rep call p' q) = false) → ∀ u v w : Option PV, J Γ 2 [some (.inr 0), some (.inl (nI call)), some (.inl (nI p)), u, v, w] [] σ := by
    refine loopN 3 ?_ ?_
    · intro h0 u v w
      refine j_iload_n c dX2_isBelowCovered_2 rfl ?_
      refine j_iconst c (nI 3) dX2_isBelowCovered_3 (by decide) ?_
      refine j_icmp_ge c 78 dX2_isBelowCovered_4 (by decide) (fun _ => ?_) (fun h_9 => absurd (nI_le (Nat.le_refl _) (by decide)) h_9)
      refine j_iconst c (nI 0) dX2_isBelowCovered_78 (by decide) ?_
      exact j_iret c r dX2_isBelowCovered_79 rfl (rtF (by
        cases hb : belB T f g a call with
        | false => rfl
        | true =>
          obtain ⟨p, x, hp, hx, hu, hall⟩ := belB_of hW hf hc hb
          obtain ⟨q, hq, hqu, hqc⟩ := h0 p x (by omega) hx hu hp
          rw [hall q hq hqu] at hqc
          cases hqc))
    · intro p hp ih h0 u v w
      have dp := dg_lt call p
      have dn := vcall_dg (p := p) hc hpl.2 hn.1
      obtain ⟨Q, hQl, hQ3, hQi, hQu⟩ := hC.2.2.2.2.2.2 (dg call p) dn
      refine j_iload_n c dX2_isBelowCovered_2 rfl ?_
      refine j_iconst c (nI 3) dX2_isBelowCovered_3 (by decide) ?_
      refine j_icmp_ge c 78 dX2_isBelowCovered_4 (by decide) (fun h_9 => absurd h_9 (nI_ge hp (by decide))) (fun _ => ?_)
      refine j_iload_n c dX2_isBelowCovered_7 rfl ?_
      refine j_iload_n c dX2_isBelowCovered_8 rfl ?_
      refine j_callS1 c kw_X2_225 (sp_classAt σ call p (by omega) (by omega)) dX2_isBelowCovered_9 rfl rfl (by decide) (Nat.le_of_ble_eq_true rfl) ?_
      refine j_istore_n c dX2_isBelowCovered_12 (Nat.le_of_ble_eq_true rfl) rfl ?_
      refine j_iconst c (nI 0) dX2_isBelowCovered_13 (by decide) ?_
      refine j_istore c dX2_isBelowCovered_14 (Nat.le_of_ble_eq_true rfl) rfl ?_
      have inner : ∀ j, j ≤ Q.length → (∀ j' q, j' < j → Q[j']? = some q → covB T f g a (rep call p q) = false) → ∀ w : Option PV, J Γ 16 [some (.inr 0), some (.inl (nI call)), some (.inl (nI p)), some (.inl (nI (dg call p))), some (.inl (nI j)), w] [] σ := by
        refine loopN _ ?_ ?_
        · intro hno w
          refine j_iload c dX2_isBelowCovered_16 rfl ?_
          refine j_aload_n c dX2_isBelowCovered_18 rfl ?_
          refine j_getR c fl_X2_12 dX2_isBelowCovered_19 (Nat.le_of_ble_eq_true rfl) rfl rfl ?_
          refine j_getR c fl_X2_240 dX2_isBelowCovered_22 (Nat.le_of_ble_eq_true rfl) rfl rfl ?_
          refine j_iload_n c dX2_isBelowCovered_25 rfl ?_
          refine j_iald c dX2_isBelowCovered_26 (Nat.le_of_ble_eq_true rfl) rfl rfl (by omega) (by decide) ?_
          rw [hQ3]
          refine j_icmp_ge c 72 dX2_isBelowCovered_27 (by decide) (fun _ => ?_) (fun h_9 => absurd (nI_le (Nat.le_refl _) (by omega)) h_9)
          refine j_iinc c _ dX2_isBelowCovered_72 rfl (by first | exact nI_1 _ | exact pk_m1 _ | rfl) rfl ?_
          refine j_goto c 2 dX2_isBelowCovered_75 (by decide) ?_
          refine ih (fun p' x hp' hx hu hpp => ?_) _ _ _
          by_cases e : p' = p
          · subst e
            rcases (hQu x).mp hu with h | ⟨q, hq, hqu⟩
            · exact absurd h hx
            · obtain ⟨j', hj'⟩ := List.getElem?_of_mem hq
              have := (hQi j' q hj').1
              exact ⟨q, by omega, hqu, hno j' q (List.getElem?_eq_some_iff.mp hj').1 hj'⟩
          · exact h0 p' x (by omega) hx hu hpp
        · intro j hj ihj hno w
          obtain ⟨q, hq⟩ : ∃ q, Q[j]? = some q := ⟨_, List.getElem?_eq_getElem hj⟩
          obtain ⟨hqd, hq2⟩ := hQi j q hq
          have hpp : p < tpl T f := by
            rcases Nat.lt_or_ge p (tpl T f) with h | h
            · exact h
            · rw [dg_hi hcs h] at hqd; omega
          have hqu : up (tls T) (dg call p) q = true := (hQu q).mpr (Or.inr ⟨q, List.mem_of_getElem? hq, up_refl hW (by omega)⟩)
          have hrv := rep_v hc hpl.2 hpp (show q < tn T by omega) hn.2
          have hrl := rep_lt hqd
          obtain ⟨hr1, hr2⟩ := rep_sub (c := call) (p := p) (q := q) (by omega)
          refine j_iload c dX2_isBelowCovered_16 rfl ?_
          refine j_aload_n c dX2_isBelowCovered_18 rfl ?_
          refine j_getR c fl_X2_12 dX2_isBelowCovered_19 (Nat.le_of_ble_eq_true rfl) rfl rfl ?_
          refine j_getR c fl_X2_240 dX2_isBelowCovered_22 (Nat.le_of_ble_eq_true rfl) rfl rfl ?_
          refine j_iload_n c dX2_isBelowCovered_25 rfl ?_
          refine j_iald c dX2_isBelowCovered_26 (Nat.le_of_ble_eq_true rfl) rfl rfl (by omega) (by decide) ?_
          rw [hQ3]
          refine j_icmp_ge c 72 dX2_isBelowCovered_27 (by decide) (fun h_9 => absurd h_9 (nI_ge hj (by omega))) (fun _ => ?_)
          refine j_aload_n c dX2_isBelowCovered_30 rfl ?_
          refine j_getR c fl_X2_12 dX2_isBelowCovered_31 (Nat.le_of_ble_eq_true rfl) rfl rfl ?_
          refine j_getR c fl_X2_243 dX2_isBelowCovered_34 (Nat.le_of_ble_eq_true rfl) rfl rfl ?_
          refine j_iconst c (nI 3) dX2_isBelowCovered_37 (by decide) ?_
          refine j_iload_n c dX2_isBelowCovered_38 rfl ?_
          refine j_imul c _ dX2_isBelowCovered_39 (by first | exact pk_mul _ _ | rfl) ?_
          refine j_iload c dX2_isBelowCovered_40 rfl ?_
          refine j_iadd c _ dX2_isBelowCovered_42 (by first | exact nI_add _ _ | rfl) ?_
          refine j_iald c dX2_isBelowCovered_43 (Nat.le_of_ble_eq_true rfl) rfl rfl (by omega) (by decide) ?_
          rw [hq2]
          refine j_istore c dX2_isBelowCovered_44 (Nat.le_of_ble_eq_true rfl) rfl ?_
          refine j_aload_n c dX2_isBelowCovered_46 rfl ?_
          refine j_getR c fl_X2_53 dX2_isBelowCovered_47 (Nat.le_of_ble_eq_true rfl) rfl rfl ?_
          refine j_iload_n c dX2_isBelowCovered_50 rfl ?_
          refine j_iload_n c dX2_isBelowCovered_51 rfl ?_
          refine j_iload c dX2_isBelowCovered_52 rfl ?_
          refine j_isub c _ dX2_isBelowCovered_54 (pk_sub (by omega)) ?_
          refine j_iconst c (nI 4) dX2_isBelowCovered_55 (by decide) ?_
          refine j_iload_n c dX2_isBelowCovered_56 rfl ?_
          refine j_imul c _ dX2_isBelowCovered_57 (by first | exact pk_mul _ _ | rfl) ?_
          refine j_ishl c _ dX2_isBelowCovered_58 (shl4 (by omega) hp) ?_
          refine j_isub c (nI (rep call p q)) dX2_isBelowCovered_59 (show _ = nI (rep call p q) by rw [pk_sub hr2, hr1]) ?_
          refine j_bald c dX2_isBelowCovered_60 (Nat.le_of_ble_eq_true rfl) rfl rfl (by omega) (by decide) ?_
          rw [h14 _ hrv hrl]
          refine j_if_eq c 66 dX2_isBelowCovered_61 (by decide) (fun e => ?_) (fun e => ?_)
          · refine j_iinc c _ dX2_isBelowCovered_66 rfl (by first | exact nI_1 _ | exact pk_m1 _ | rfl) rfl ?_
            refine j_goto c 16 dX2_isBelowCovered_69 (by decide) ?_
            refine ihj (fun j' q' hj' hq' => ?_) _
            by_cases ej : j' = j
            · subst ej; rw [hq] at hq'; cases hq'; exact bI_z e
            · exact hno j' q' (by omega) hq'
          · refine j_iconst c (nI 1) dX2_isBelowCovered_64 (by decide) ?_
            exact j_iret c r dX2_isBelowCovered_65 rfl (rtT (belB_par hW hf hc hpp hqd hqu (bI_nz e)))
      exact inner 0 (Nat.zero_le _) (fun j' q h => by omega) _
  exact key 0 (Nat.zero_le _) (fun p' x h => by omega) none none none
/-- the k-th of the marked that are below none -/
def topP (T : TS) (f : Nat) (a : Int32) (c : Nat) : Bool := decide (rowA T f none 0 c = a) && topB (rowA T f none 0) (tls T) (16 ^ tpl T f) c
theorem topP_eq {T : TS} {f : Nat} {a : Int32} (ha : a ≠ -3) (c : Nat) : topP T f a c = (mkB T f (ttg T f) a c && !belB T f (ttg T f) a c) := by
  have hr : ∀ o, decide (rowA T f none 0 o = a) = mkB T f (ttg T f) a o := fun o => row_a ha o
  unfold topP
  rw [hr]
  cases hm : mkB T f (ttg T f) a c with
  | false => rfl
  | true =>
    have hA : rowA T f none 0 c = a := by have := hr c; rw [hm] at this; simpa using this
    simp only [Bool.true_and]
    rw [Bool.eq_iff_iff]
    unfold topB belB
    rw [allU]
    constructor
    · intro h
      rw [Bool.not_eq_true']
      cases hb : (List.range (16 ^ tpl T f)).any (fun o => mkB T f (ttg T f) a o && (le3 (tls T) c o && !decide (o = c))) with
      | false => rfl
      | true =>
        obtain ⟨o, ho, h1⟩ := anyU.mp hb
        have h2 := h o ho
        simp only [Bool.and_eq_true, Bool.not_eq_true', decide_eq_false_iff_not] at h1
        rw [hA, hr o, h1.1, h1.2.1] at h2
        simp [h1.2.2] at h2
    · intro h o ho
      rw [Bool.not_eq_true'] at h
      rw [hA, hr o]
      by_cases e : o = c
      · simp [e]
      · cases h1 : mkB T f (ttg T f) a o with
        | false => simp
        | true =>
          cases h2 : le3 (tls T) c o with
          | false => simp
          | true =>
            have : (List.range (16 ^ tpl T f)).any (fun o => mkB T f (ttg T f) a o && (le3 (tls T) c o && !decide (o = c))) = true := anyU.mpr ⟨o, ho, by rw [h1, h2, decide_eq_false e]; rfl⟩
            rw [this] at h
            cases h
/-- if none is marked and below none so far, then none is marked so far -/
theorem no_mark {T : TS} (hW : WF T) {f : Nat} (hf : f < tnf T) {g : Nat → Option Nat} {a : Int32} {i : Nat} (hi : i ≤ tn T ^ tpl T f) (h : ∀ j, j < i → (mkB T f g a (ci (tn T) j) && !belB T f g a (ci (tn T) j)) = false) : ∀ j, j < i → mkB T f g a (ci (tn T) j) = false := by
  have hn := hW.1
  have hpl := hW.2.2.2.2.1 f hf
  intro j
  induction j using Nat.strongRecOn with
  | ind j ih =>
    intro hj
    cases hm : mkB T f g a (ci (tn T) j) with
    | false => rfl
    | true =>
      have h1 := h j hj
      rw [hm, Bool.true_and, Bool.not_eq_false'] at h1
      have hj2 : j < tn T ^ tpl T f := by omega
      have hv := ci_v hn.1 hn.2 hpl hj2
      obtain ⟨o, ho, h2⟩ := anyU.mp h1
      simp only [Bool.and_eq_true, Bool.not_eq_true', decide_eq_false_iff_not] at h2
      obtain ⟨hmo, hl, hne⟩ := h2
      have hov : vcall (tn T) (tpl T f) o = true := by have := hmo; unfold mkB at this; simp only [Bool.and_eq_true] at this; exact this.1
      have hle := le3_le hW hv hpl.2 (vcall_lt hov hpl.2) hl
      have hs := vcall_spec hov
      have e := ci_ix hn.1 hs.2.1 hs.2.2.1 (vcall_lt hov hpl.2)
      have hx := ix_lt hn.1 hpl hov
      have hlt : ix (tn T) o < j := by
        rcases Nat.lt_trichotomy (ix (tn T) o) j with h3 | h3 | h3
        · exact h3
        · rw [h3] at e; omega
        · have := ci_mono hn.1 hn.2 (npow_lt hn.1 hpl.2 hx) h3
          omega
      have := ih _ hlt (by omega)
      rw [e, hmo] at this
      cases this
theorem bel_earlier {T : TS} (hW : WF T) {f : Nat} (hf : f < tnf T) {g : Nat → Option Nat} {a : Int32} {i : Nat} (hi : i < tn T ^ tpl T f) (h : belB T f g a (ci (tn T) i) = true) : ∃ j, j < i ∧ mkB T f g a (ci (tn T) j) = true := by
  have hn := hW.1
  have hpl := hW.2.2.2.2.1 f hf
  have hv := ci_v hn.1 hn.2 hpl hi
  obtain ⟨o, ho, h2⟩ := anyU.mp h
  simp only [Bool.and_eq_true, Bool.not_eq_true', decide_eq_false_iff_not] at h2
  obtain ⟨hmo, hl, hne⟩ := h2
  have hov : vcall (tn T) (tpl T f) o = true := by have := hmo; unfold mkB at this; simp only [Bool.and_eq_true] at this; exact this.1
  have hle := le3_le hW hv hpl.2 (vcall_lt hov hpl.2) hl
  have hs := vcall_spec hov
  have e := ci_ix hn.1 hs.2.1 hs.2.2.1 (vcall_lt hov hpl.2)
  have hx := ix_lt hn.1 hpl hov
  refine ⟨ix (tn T) o, ?_, by rw [e]; exact hmo⟩
  rcases Nat.lt_trichotomy (ix (tn T) o) i with h3 | h3 | h3
  · exact h3
  · rw [h3] at e; omega
  · have := ci_mono hn.1 hn.2 (npow_lt hn.1 hpl.2 hx) h3
    omega
/-- a call below a number stands earlier -/
theorem ci_before {T : TS} (hW : WF T) {f : Nat} (hf : f < tnf T) {i o : Nat} (hi : i < tn T ^ tpl T f) (ho : vcall (tn T) (tpl T f) o = true) (h : o < ci (tn T) i) : ∃ j, j < i ∧ ci (tn T) j = o := by
  have hn := hW.1
  have hpl := hW.2.2.2.2.1 f hf
  have hs := vcall_spec ho
  have e := ci_ix hn.1 hs.2.1 hs.2.2.1 (vcall_lt ho hpl.2)
  have hx := ix_lt hn.1 hpl ho
  refine ⟨ix (tn T) o, ?_, e⟩
  rcases Nat.lt_trichotomy (ix (tn T) o) i with h3 | h3 | h3
  · exact h3
  · rw [h3] at e; omega
  · have := ci_mono hn.1 hn.2 (npow_lt hn.1 hpl.2 hx) h3
    omega
theorem sp_greatestMarked {T : TS} {σ : Sg} (hX : InvX T σ) (hW : WF T) {f : Nat} (hf : f < tnf T) (gp : Bool) (k : Int32) : Sp yX2_greatestMarked cX2_greatestMarked 10 (some .int) 2 [.inr 0, .inr (15 + 7 * f), .inl (bI gp), .inl k] σ (fun r σ' => r = some (.inl (kth (topP T f (if gp then -1 else -2)) (16 ^ tpl T f) k)) ∧ ∀ q, q ≠ 14 → σ' q = σ q) := by
  have h4 := hW.2.2.2.1
  have hn := hW.1
  have hpl := hW.2.2.2.2.1 f hf
  have hp : FnP (15 + 7 * f) := FnP.of (by omega)
  have hN := npow_b hn.2 hpl.2
  have hF := hX.2.2.2.2.2.1 f hf
  have hG := GOK.of hW hf
  refine Sp.intro rfl (Nat.le_of_ble_eq_true rfl) (fun Γ c r => ?_)
  show J Γ 0 [some (.inr 0), some (.inr (15 + 7 * f)), some (.inl (bI gp)), some (.inl k), none, none, none, none, none, none] [] σ
  obtain ⟨a, haE⟩ : ∃ a : Int32, a = (if gp then -1 else -2) := ⟨_, rfl⟩
  have ha3 : a ≠ -3 := by rw [haE]; cases gp <;> decide
  rw [← haE] at r
  have hQ : ∀ c, topP T f a c = (vcall (tn T) (tpl T f) c && (decide (ansI (tls T) (ttg T f) 0 c = a) && !belB T f (ttg T f) a c)) := fun c => by rw [topP_eq ha3, mkB, Bool.and_assoc]
  have hci : ∀ j, j < tn T ^ tpl T f → topP T f a (ci (tn T) j) = (decide (ansI (tls T) (ttg T f) 0 (ci (tn T) j) = a) && !belB T f (ttg T f) a (ci (tn T) j)) := fun j hj => by rw [hQ, ci_v hn.1 hn.2 hpl hj, Bool.true_and]
  obtain ⟨F, hF'⟩ : ∃ F : Nat → Nat, F = cnt (fun j => topP T f a (ci (tn T) j)) := ⟨_, rfl⟩
  have hcnt : ∀ i, i < tn T ^ tpl T f → cnt (topP T f a) (ci (tn T) i) = F i := fun i hi => by
    have h1 := cnt_ci hn.1 hn.2 hpl (fun c => decide (ansI (tls T) (ttg T f) 0 c = a) && !belB T f (ttg T f) a c) i hi
    rw [hF', cnt_congr (fun c _ => hQ c), h1]
    exact (cnt_congr (fun j hj => hci j (by omega))).symm
  have hcall : cnt (topP T f a) (16 ^ tpl T f) = F (tn T ^ tpl T f) := by
    have h1 := cnt_all hn.1 hn.2 hpl (fun c => decide (ansI (tls T) (ttg T f) 0 c = a) && !belB T f (ttg T f) a c)
    rw [hF', cnt_congr (fun c _ => hQ c), h1]
    exact (cnt_congr (fun j hj => hci j hj)).symm
  have hFb : ∀ i, F i ≤ i := fun i => by rw [hF']; exact cnt_le _ i
  refine j_iconst c (nI 0) dX2_greatestMarked_0 (by decide) ?_
  refine j_istore c dX2_greatestMarked_1 (Nat.le_of_ble_eq_true rfl) rfl ?_
  refine j_aload_n c dX2_greatestMarked_3 rfl ?_
  refine j_aload_n c dX2_greatestMarked_4 rfl ?_
  refine j_callV1 c kw_X2_147 (sp_callCount hp hF.1 hX.1.1 hpl.2) dX2_greatestMarked_5 rfl rfl (by decide) (Nat.le_of_ble_eq_true rfl) (Nat.le_of_ble_eq_true rfl) rfl rfl ?_
  refine j_istore c dX2_greatestMarked_8 (Nat.le_of_ble_eq_true rfl) rfl ?_
  refine j_iconst c (nI 0) dX2_greatestMarked_10 (by decide) ?_
  refine j_istore c dX2_greatestMarked_11 (Nat.le_of_ble_eq_true rfl) rfl ?_
  refine j_iconst c (nI 0) dX2_greatestMarked_13 (by decide) ?_
  refine j_istore c dX2_greatestMarked_14 (Nat.le_of_ble_eq_true rfl) rfl ?_
  have key : ∀ i, i ≤ tn T ^ tpl T f → ∀ (u v : Option PV) (σ1 : Sg), (∀ q, q ≠ 14 → σ1 q = σ q) → (∀ j, j < i → σ1 14 (ci (tn T) j) = bI (covB T f (ttg T f) a (ci (tn T) j))) → (∀ j, j < i → (topP T f a (ci (tn T) j) && decide (nI (F j) = k)) = false) → J Γ 16 [some (.inr 0), some (.inr (15 + 7 * f)), some (.inl (bI gp)), some (.inl k), some (.inl (nI (F i))), some (.inl (nI (tn T ^ tpl T f))), some (.inl (nI i)), some (.inl (nI (ci (tn T) i))), u, v] [] σ1 := by
    refine loopN _ ?_ ?_
    · intro u v σ1 f1 f2 f3
      have h0 : ∀ c, c < 16 ^ tpl T f → (topP T f a c && decide (nI (cnt (topP T f a) c) = k)) = false := fun x _ => by
        cases ht : topP T f a x with
        | false => rfl
        | true =>
          have hv : vcall (tn T) (tpl T f) x = true := by rw [hQ] at ht; simp only [Bool.and_eq_true] at ht; exact ht.1
          have hs := vcall_spec hv
          have e := ci_ix hn.1 hs.2.1 hs.2.2.1 (vcall_lt hv hpl.2)
          have hx := ix_lt hn.1 hpl hv
          have h5 := f3 _ hx
          rw [← hcnt _ hx, e, ht] at h5
          exact h5
      refine j_iload c dX2_greatestMarked_16 rfl ?_
      refine j_iload c dX2_greatestMarked_18 rfl ?_
      refine j_icmp_ge c 135 dX2_greatestMarked_20 (by decide) (fun _ => ?_) (fun h_9 => absurd (nI_le (Nat.le_refl _) (by omega)) h_9)
      refine j_iload_n c dX2_greatestMarked_135 rfl ?_
      refine j_iconst c (-1) dX2_greatestMarked_136 (by decide) ?_
      refine j_icmp_ne c 145 dX2_greatestMarked_137 (by decide) (fun q => ?_) (fun q => ?_)
      · refine j_iconst c (-1) dX2_greatestMarked_145 (by decide) ?_
        exact j_iret c r dX2_greatestMarked_146 rfl ⟨by rw [kth_no h0, if_neg q], f1⟩
      · refine j_iload c dX2_greatestMarked_140 rfl ?_
        refine j_goto c 146 dX2_greatestMarked_142 (by decide) ?_
        exact j_iret c r dX2_greatestMarked_146 rfl ⟨by rw [kth_no h0, if_pos q, hcall], f1⟩
    · intro i hi ih u v σ1 f1 f2 f3
      have hi3 := npow_lt hn.1 hpl.2 hi
      have hv := ci_v hn.1 hn.2 hpl hi
      have hcl := ci_lt hn.1 hn.2 hi3
      have hFi := hFb i
      have hFs : F (i + 1) = F i + (if topP T f a (ci (tn T) i) then 1 else 0) := by rw [hF']; rfl
      have C1 : CX T σ1 := hX.1.keep (fun q x1 x2 => f1 q (by omega))
      have F1 : FX (tn T) (tls T) (15 + 7 * f) (tpl T f) (ttg T f) σ1 := hF.keep (by rw [f1 _ (by omega)]) (by rw [f1 _ (by omega)]) (f1 _ (by omega)) (f1 _ (by omega)) (f1 _ (by omega))
      have hmk : mkB T f (ttg T f) a (ci (tn T) i) = decide (ansI (tls T) (ttg T f) 0 (ci (tn T) i) = a) := by unfold mkB; rw [hv, Bool.true_and]
      -- on to the next
      have nxt : ∀ (σ2 : Sg) (u v : Option PV), (∀ q, q ≠ 14 → σ2 q = σ q) → (∀ j, j < i + 1 → σ2 14 (ci (tn T) j) = bI (covB T f (ttg T f) a (ci (tn T) j))) → (topP T f a (ci (tn T) i) && decide (nI (F i) = k)) = false → J Γ 118 [some (.inr 0), some (.inr (15 + 7 * f)), some (.inl (bI gp)), some (.inl k), some (.inl (nI (F (i + 1)))), some (.inl (nI (tn T ^ tpl T f))), some (.inl (nI i)), some (.inl (nI (ci (tn T) i))), u, v] [] σ2 := by
        intro σ2 u v g1 g2 g3
        refine j_iinc c _ dX2_greatestMarked_118 rfl (by first | exact nI_1 _ | exact pk_m1 _ | rfl) rfl ?_
        refine j_aload_n c dX2_greatestMarked_121 rfl ?_
        refine j_getR c fl_X2_12 dX2_greatestMarked_122 (Nat.le_of_ble_eq_true rfl) rfl rfl ?_
        refine j_iload c dX2_greatestMarked_125 rfl ?_
        refine j_callV1 c kw_X2_209 (sp_next (by rw [g1 1 (by decide)]; exact hX.1.1) hn.1 hn.2 hi3) dX2_greatestMarked_127 rfl rfl (by decide) (Nat.le_of_ble_eq_true rfl) (Nat.le_of_ble_eq_true rfl) rfl rfl ?_
        refine j_istore c dX2_greatestMarked_130 (Nat.le_of_ble_eq_true rfl) rfl ?_
        refine j_goto c 16 dX2_greatestMarked_132 (by decide) ?_
        refine ih _ _ σ2 g1 g2 (fun j hj => ?_)
        by_cases ej : j = i
        · subst ej; exact g3
        · exact f3 j (by omega)
      -- behind the two questions
      have fin : ∀ bl mk : Bool, bl = belB T f (ttg T f) a (ci (tn T) i) → mk = mkB T f (ttg T f) a (ci (tn T) i) → J Γ 96 [some (.inr 0), some (.inr (15 + 7 * f)), some (.inl (bI gp)), some (.inl k), some (.inl (nI (F i))), some (.inl (nI (tn T ^ tpl T f))), some (.inl (nI i)), some (.inl (nI (ci (tn T) i))), some (.inl (bI bl)), some (.inl (bI mk))] [] (s2 σ1 14 (ci (tn T) i) (bI (bl || mk))) := by
        intro bl mk hbl hmk2
        have ht : topP T f a (ci (tn T) i) = (mk && !bl) := by rw [topP_eq ha3, hbl, hmk2]
        rw [ht] at nxt hFs
        have g1 : ∀ q, q ≠ 14 → s2 σ1 14 (ci (tn T) i) (bI (bl || mk)) q = σ q := fun q hq => by rw [s2_np hq]; exact f1 q hq
        have g2 : ∀ j, j < i + 1 → s2 σ1 14 (ci (tn T) i) (bI (bl || mk)) 14 (ci (tn T) j) = bI (covB T f (ttg T f) a (ci (tn T) j)) := fun j hj => by
          by_cases ej : j = i
          · subst ej; rw [s2_at, covB_or hW hf hv, hbl, hmk2]
          · have := ci_mono hn.1 hn.2 hi3 (show j < i by omega)
            rw [s2_nk (by omega)]; exact f2 j (by omega)
        refine j_iload c dX2_greatestMarked_96 rfl ?_
        cases mk with
        | false =>
          refine j_if_eq c 118 dX2_greatestMarked_98 (by decide) (fun _ => ?_) (fun h_9 => absurd (by rfl) h_9)
          rw [show F (i + 1) = F i by rw [hFs]; rfl] at nxt
          exact nxt _ _ _ g1 g2 rfl
        | true =>
          refine j_if_eq c 118 dX2_greatestMarked_98 (by decide) (fun h_9 => absurd h_9 (by show ¬ bI true = 0; decide)) (fun _ => ?_)
          refine j_iload c dX2_greatestMarked_101 rfl ?_
          cases bl with
          | true =>
            refine j_if_ne c 118 dX2_greatestMarked_103 (by decide) (fun _ => ?_) (fun h_9 => absurd h_9 (by show ¬ bI true = 0; decide))
            rw [show F (i + 1) = F i by rw [hFs]; rfl] at nxt
            exact nxt _ _ _ g1 g2 rfl
          | false =>
            refine j_if_ne c 118 dX2_greatestMarked_103 (by decide) (fun h_9 => absurd (by rfl) h_9) (fun _ => ?_)
            refine j_iload c dX2_greatestMarked_106 rfl ?_
            refine j_iload_n c dX2_greatestMarked_108 rfl ?_
            refine j_icmp_ne c 115 dX2_greatestMarked_109 (by decide) (fun q => ?_) (fun q => ?_)
            · rw [show F (i + 1) = F i + 1 by rw [hFs]; rfl] at nxt
              refine j_iinc c _ dX2_greatestMarked_115 rfl (by first | exact nI_1 _ | exact pk_m1 _ | rfl) rfl ?_
              exact nxt _ _ _ g1 g2 (by simp [q])
            · refine j_iload c dX2_greatestMarked_112 rfl ?_
              refine j_iret c r dX2_greatestMarked_114 rfl ⟨?_, g1⟩
              rw [kth_hit (c := ci (tn T) i) (vcall_spec hv).1 (by rw [ht]; rfl) (by rw [hcnt i hi]; exact q) (fun x hx => ?_)]
              cases htx : topP T f a x with
              | false => rfl
              | true =>
                have hvx : vcall (tn T) (tpl T f) x = true := by rw [hQ] at htx; simp only [Bool.and_eq_true] at htx; exact htx.1
                obtain ⟨j, hj, ej⟩ := ci_before hW hf hi hvx hx
                have h5 := f3 j hj
                rw [← hcnt j (by omega), ej, htx] at h5
                exact h5
      have st : ∀ bl mk : Bool, bl = belB T f (ttg T f) a (ci (tn T) i) → mk = mkB T f (ttg T f) a (ci (tn T) i) → ∀ v : Option PV, J Γ 72 [some (.inr 0), some (.inr (15 + 7 * f)), some (.inl (bI gp)), some (.inl k), some (.inl (nI (F i))), some (.inl (nI (tn T ^ tpl T f))), some (.inl (nI i)), some (.inl (nI (ci (tn T) i))), some (.inl (bI bl)), v] [.inl (bI mk)] σ1 := by
        intro bl mk hbl hmk2 v
        have h5 := fin bl mk hbl hmk2
        refine j_istore c dX2_greatestMarked_72 (Nat.le_of_ble_eq_true rfl) rfl ?_
        refine j_aload_n c dX2_greatestMarked_74 rfl ?_
        refine j_getR c fl_X2_53 dX2_greatestMarked_75 (Nat.le_of_ble_eq_true rfl) rfl rfl ?_
        refine j_iload c dX2_greatestMarked_78 rfl ?_
        refine j_iload c dX2_greatestMarked_80 rfl ?_
        cases bl with
        | true =>
          refine j_if_ne c 90 dX2_greatestMarked_82 (by decide) (fun _ => ?_) (fun h_9 => absurd h_9 (by show ¬ bI true = 0; decide))
          refine j_iconst c (nI 1) dX2_greatestMarked_90 (by decide) ?_
          refine j_goto c 95 dX2_greatestMarked_91 (by decide) ?_
          refine j_bast (k := ci (tn T) i) c dX2_greatestMarked_95 (Nat.le_of_ble_eq_true rfl) rfl rfl hcl.1 (by decide) (nar_bI true) ?_
          exact h5
        | false =>
          refine j_if_ne c 90 dX2_greatestMarked_82 (by decide) (fun h_9 => absurd (by rfl) h_9) (fun _ => ?_)
          refine j_iload c dX2_greatestMarked_85 rfl ?_
          cases mk with
          | true =>
            refine j_if_eq c 94 dX2_greatestMarked_87 (by decide) (fun h_9 => absurd h_9 (by show ¬ bI true = 0; decide)) (fun _ => ?_)
            refine j_iconst c (nI 1) dX2_greatestMarked_90 (by decide) ?_
            refine j_goto c 95 dX2_greatestMarked_91 (by decide) ?_
            refine j_bast (k := ci (tn T) i) c dX2_greatestMarked_95 (Nat.le_of_ble_eq_true rfl) rfl rfl hcl.1 (by decide) (nar_bI true) ?_
            exact h5
          | false =>
            refine j_if_eq c 94 dX2_greatestMarked_87 (by decide) (fun _ => ?_) (fun h_9 => absurd (by rfl) h_9)
            refine j_iconst c (nI 0) dX2_greatestMarked_94 (by decide) ?_
            refine j_bast (k := ci (tn T) i) c dX2_greatestMarked_95 (Nat.le_of_ble_eq_true rfl) rfl rfl hcl.1 (by decide) (nar_bI false) ?_
            exact h5
      have mid : ∀ v : Option PV, ∀ u : Option PV, J Γ 42 [some (.inr 0), some (.inr (15 + 7 * f)), some (.inl (bI gp)), some (.inl k), some (.inl (nI (F i))), some (.inl (nI (tn T ^ tpl T f))), some (.inl (nI i)), some (.inl (nI (ci (tn T) i))), u, v] [.inl (bI (belB T f (ttg T f) a (ci (tn T) i)))] σ1 := by
        intro v u
        have cmp : ∀ w : Int32, w = a → J Γ 64 [some (.inr 0), some (.inr (15 + 7 * f)), some (.inl (bI gp)), some (.inl k), some (.inl (nI (F i))), some (.inl (nI (tn T ^ tpl T f))), some (.inl (nI i)), some (.inl (nI (ci (tn T) i))), some (.inl (bI (belB T f (ttg T f) a (ci (tn T) i)))), v] [.inl w, .inl (ansI (tls T) (ttg T f) 0 (ci (tn T) i))] σ1 := by
          intro w hw
          subst hw
          refine j_icmp_ne c 71 dX2_greatestMarked_64 (by decide) (fun q => ?_) (fun q => ?_)
          · refine j_iconst c (nI 0) dX2_greatestMarked_71 (by decide) ?_
            exact st _ false rfl (by rw [hmk]; exact (decide_eq_false q).symm) _
          · refine j_iconst c (nI 1) dX2_greatestMarked_67 (by decide) ?_
            refine j_goto c 72 dX2_greatestMarked_68 (by decide) ?_
            exact st _ true rfl (by rw [hmk]; exact (decide_eq_true q).symm) _
        refine j_istore c dX2_greatestMarked_42 (Nat.le_of_ble_eq_true rfl) rfl ?_
        refine j_aload_n c dX2_greatestMarked_44 rfl ?_
        refine j_aload_n c dX2_greatestMarked_45 rfl ?_
        refine j_iload c dX2_greatestMarked_46 rfl ?_
        refine j_callV1 c kw_X2_186 (sp_thatApply hp hn.2 F1.2.2.2.1 hcl.1 hcl.2.1 hcl.2.2.1 hcl.2.2.2) dX2_greatestMarked_48 rfl rfl (by decide) (Nat.le_of_ble_eq_true rfl) hp.lt0 (lf0 hp) rfl ?_
        refine j_callV1 c kw_X2_222 (sp_leastOf hp hG F1.2.2.2.2 _ (appB (tls T) (ttg T f) (ci (tn T) i)) app13 app_g (ci (tn T) i)) dX2_greatestMarked_51 rfl rfl (by decide) (Nat.le_of_ble_eq_true rfl) hp.lt0 (lf0 hp) rfl ?_
        refine j_iload_n c dX2_greatestMarked_54 rfl ?_
        cases gp with
        | false =>
          refine j_if_eq c 62 dX2_greatestMarked_55 (by decide) (fun _ => ?_) (fun h_9 => absurd (by rfl) h_9)
          refine j_bipush c (-2) dX2_greatestMarked_62 (by decide) ?_
          exact cmp (-2) haE.symm
        | true =>
          refine j_if_eq c 62 dX2_greatestMarked_55 (by decide) (fun h_9 => absurd h_9 (by show ¬ bI true = 0; decide)) (fun _ => ?_)
          refine j_iconst c (-1) dX2_greatestMarked_58 (by decide) ?_
          refine j_goto c 64 dX2_greatestMarked_59 (by decide) ?_
          exact cmp (-1) haE.symm
      refine j_iload c dX2_greatestMarked_16 rfl ?_
      refine j_iload c dX2_greatestMarked_18 rfl ?_
      refine j_icmp_ge c 135 dX2_greatestMarked_20 (by decide) (fun h_9 => absurd h_9 (nI_ge hi (by omega))) (fun _ => ?_)
      refine j_iload c dX2_greatestMarked_23 rfl ?_
      refine j_if_le c 41 dX2_greatestMarked_25 (by decide) (fun e => ?_) (fun e => ?_)
      · have e2 : F i = 0 := by
          have : nI (F i) ≤ nI 0 := e
          rw [nI_leI (by omega) (by decide)] at this
          omega
        have hb : belB T f (ttg T f) a (ci (tn T) i) = false := by
          cases hb : belB T f (ttg T f) a (ci (tn T) i) with
          | false => rfl
          | true =>
            obtain ⟨j, hj, hm⟩ := bel_earlier hW hf hi hb
            rw [hF'] at e2
            have h5 := cnt_0 e2
            have h6 := no_mark hW hf (g := ttg T f) (a := a) (i := i) (by omega) (fun j hj => by rw [← topP_eq ha3]; exact h5 j hj) j hj
            rw [hm] at h6
            cases h6
        have h7 := mid v u
        rw [hb] at h7
        refine j_iconst c (nI 0) dX2_greatestMarked_41 (by decide) ?_
        exact h7
      · refine j_aload_n c dX2_greatestMarked_28 rfl ?_
        refine j_iload c dX2_greatestMarked_29 rfl ?_
        refine j_callV1 c kw_X2_237 (sp_isBelowCovered (g := ttg T f) (a := a) C1 hW hf hv (fun o ho hlt => by obtain ⟨j, hj, ej⟩ := ci_before hW hf hi ho hlt; rw [← ej]; exact f2 j hj)) dX2_greatestMarked_31 rfl rfl (by decide) (Nat.le_of_ble_eq_true rfl) (Nat.le_of_ble_eq_true rfl) rfl rfl ?_
        have h7 := mid v u
        cases hb : belB T f (ttg T f) a (ci (tn T) i) with
        | false =>
          rw [hb] at h7
          refine j_if_eq c 41 dX2_greatestMarked_34 (by decide) (fun _ => ?_) (fun h_9 => absurd (by rfl) h_9)
          refine j_iconst c (nI 0) dX2_greatestMarked_41 (by decide) ?_
          exact h7
        | true =>
          rw [hb] at h7
          refine j_if_eq c 41 dX2_greatestMarked_34 (by decide) (fun h_9 => absurd h_9 (by show ¬ bI true = 0; decide)) (fun _ => ?_)
          refine j_iconst c (nI 1) dX2_greatestMarked_37 (by decide) ?_
          refine j_goto c 42 dX2_greatestMarked_38 (by decide) ?_
          exact h7
  have k0 := key 0 (Nat.zero_le _) none none σ (fun _ _ => rfl) (fun j hj => by omega) (fun j hj => by omega)
  rw [ci_0, show F 0 = 0 by rw [hF']; rfl] at k0
  exact k0
theorem sp_clashX {T : TS} {σ : Sg} (hX : InvX T σ) (hW : WF T) (x k : Int32) : Sp yX2_clash cX2_clash 3 (some .int) 3 [.inr 0, .inl x, .inl k] σ (nX T σ (aTop T (-2) x k)) := by
  have h4 := hW.2.2.2.1
  refine Sp.intro rfl (Nat.le_of_ble_eq_true rfl) (fun Γ c r => ?_)
  show J Γ 0 [some (.inr 0), some (.inl x), some (.inl k)] [] σ
  refine j_aload_n c dX2_clash_0 rfl ?_
  refine j_iload_n c dX2_clash_1 rfl ?_
  refine j_callV1 c kw_X2_144 (sp_hasFunction σ x (tnf T) hX.2.1 h4) dX2_clash_2 rfl rfl (by decide) (Nat.le_of_ble_eq_true rfl) (Nat.le_of_ble_eq_true rfl) rfl rfl ?_
  refine j_if_eq c 27 dX2_clash_5 (by decide) (fun e => ?_) (fun e => ?_)
  · refine j_iconst c (-1) dX2_clash_27 (by decide) ?_
    exact j_iret c r dX2_clash_28 rfl ⟨by simp [aTop, bI_z e], hX, frXo.rfl' σ⟩
  · have e2 := bI_nz e
    obtain ⟨i, hi, hi2, rfl⟩ := isN_of e2
    refine j_iload_n c dX2_clash_8 rfl ?_
    refine j_if_lt c 27 dX2_clash_9 (by decide) (fun g => ?_) (fun g => ?_)
    · refine j_iconst c (-1) dX2_clash_27 (by decide) ?_
      exact j_iret c r dX2_clash_28 rfl ⟨by unfold aTop; rw [decide_eq_false (Int32.not_le.mpr g)]; simp, hX, frXo.rfl' σ⟩
    · have g2 := Int32.not_lt.mp g
      have ha : aTop T (-2) (nI i) k = kth (topP T i (-2)) (16 ^ tpl T i) k := by
        unfold aTop
        rw [e2, decide_eq_true g2, nI_clamp hi2]
        rfl
      rw [ha] at r
      refine j_aload_n c dX2_clash_12 rfl ?_
      refine j_aload_n c dX2_clash_13 rfl ?_
      refine j_getR c fl_X2_18 dX2_clash_14 (Nat.le_of_ble_eq_true rfl) rfl rfl ?_
      refine j_iload_n c dX2_clash_17 rfl ?_
      refine j_aald c dX2_clash_18 (Nat.le_of_ble_eq_true rfl) rfl rfl (by omega) (by decide) ?_
      refine j_iconst c (nI 0) dX2_clash_19 (by decide) ?_
      refine j_iload_n c dX2_clash_20 rfl ?_
      refine j_callV c kw_X2_157 (sp_greatestMarked hX hW hi false k) dX2_clash_21 rfl rfl (by decide) (Nat.le_of_ble_eq_true rfl) (Nat.le_of_ble_eq_true rfl) rfl rfl ?_
      rintro _ σ1 ⟨rfl, f1⟩
      refine j_goto c 28 dX2_clash_24 (by decide) ?_
      exact j_iret c r dX2_clash_28 rfl ⟨rfl, hX.keep h4 (fun q _ _ x3 _ => f1 q x3) (fun j _ => by rw [f1 0 (by decide)]), fun q hq => f1 q (by omega)⟩
theorem sp_gapX {T : TS} {σ : Sg} (hX : InvX T σ) (hW : WF T) (x k : Int32) : Sp yX2_gap cX2_gap 3 (some .int) 3 [.inr 0, .inl x, .inl k] σ (nX T σ (aTop T (-1) x k)) := by
  have h4 := hW.2.2.2.1
  refine Sp.intro rfl (Nat.le_of_ble_eq_true rfl) (fun Γ c r => ?_)
  show J Γ 0 [some (.inr 0), some (.inl x), some (.inl k)] [] σ
  refine j_aload_n c dX2_gap_0 rfl ?_
  refine j_iload_n c dX2_gap_1 rfl ?_
  refine j_callV1 c kw_X2_144 (sp_hasFunction σ x (tnf T) hX.2.1 h4) dX2_gap_2 rfl rfl (by decide) (Nat.le_of_ble_eq_true rfl) (Nat.le_of_ble_eq_true rfl) rfl rfl ?_
  refine j_if_eq c 27 dX2_gap_5 (by decide) (fun e => ?_) (fun e => ?_)
  · refine j_iconst c (-1) dX2_gap_27 (by decide) ?_
    exact j_iret c r dX2_gap_28 rfl ⟨by simp [aTop, bI_z e], hX, frXo.rfl' σ⟩
  · have e2 := bI_nz e
    obtain ⟨i, hi, hi2, rfl⟩ := isN_of e2
    refine j_iload_n c dX2_gap_8 rfl ?_
    refine j_if_lt c 27 dX2_gap_9 (by decide) (fun g => ?_) (fun g => ?_)
    · refine j_iconst c (-1) dX2_gap_27 (by decide) ?_
      exact j_iret c r dX2_gap_28 rfl ⟨by unfold aTop; rw [decide_eq_false (Int32.not_le.mpr g)]; simp, hX, frXo.rfl' σ⟩
    · have g2 := Int32.not_lt.mp g
      have ha : aTop T (-1) (nI i) k = kth (topP T i (-1)) (16 ^ tpl T i) k := by
        unfold aTop
        rw [e2, decide_eq_true g2, nI_clamp hi2]
        rfl
      rw [ha] at r
      refine j_aload_n c dX2_gap_12 rfl ?_
      refine j_aload_n c dX2_gap_13 rfl ?_
      refine j_getR c fl_X2_18 dX2_gap_14 (Nat.le_of_ble_eq_true rfl) rfl rfl ?_
      refine j_iload_n c dX2_gap_17 rfl ?_
      refine j_aald c dX2_gap_18 (Nat.le_of_ble_eq_true rfl) rfl rfl (by omega) (by decide) ?_
      refine j_iconst c (nI 1) dX2_gap_19 (by decide) ?_
      refine j_iload_n c dX2_gap_20 rfl ?_
      refine j_callV c kw_X2_157 (sp_greatestMarked hX hW hi true k) dX2_gap_21 rfl rfl (by decide) (Nat.le_of_ble_eq_true rfl) (Nat.le_of_ble_eq_true rfl) rfl rfl ?_
      rintro _ σ1 ⟨rfl, f1⟩
      refine j_goto c 28 dX2_gap_24 (by decide) ?_
      exact j_iret c r dX2_gap_28 rfl ⟨rfl, hX.keep h4 (fun q _ _ x3 _ => f1 q x3) (fun j _ => by rw [f1 0 (by decide)]), fun q hq => f1 q (by omega)⟩
