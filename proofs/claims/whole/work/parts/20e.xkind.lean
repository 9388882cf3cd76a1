-- ===== 20e: the class's classes: add, fitClass, kind =====
theorem mkS_no {F : Nat → Bool} {k : Nat} (h : F k = false) : mkS F (k + 1) = mkS F k := by
  apply bt_ext
  intro m _
  show bt (mkS F k ||| _) m = _
  rw [bt_or, h]
  simp [bt_0]
theorem rwX_ok {T : TS} (hW : WF T) {P : List Nat} (h1 : 1 ≤ P.length) (h3 : P.length ≤ 3) (hnd : P.Nodup) (hP : ∀ x, x ∈ P → x < tn T) : mOK (P.length + 1) (tn T) (rwX (tls T) P) [tn T] := by
  have H := rwM_ok hW h3 hnd hP
  have E := rwMX (ls := tls T) h1 h3
  refine ⟨H.1, H.2.1, fun k hk => ?_⟩
  obtain ⟨e1, e2⟩ := E.1 k hk
  have := H.2.2 _ e1
  rw [e2] at this
  exact this
theorem parC_b (ob od : Option Nat) : 1 ≤ parC ob od ∧ parC ob od ≤ 3 := by
  cases ob with
  | none => exact ⟨Nat.le_refl 1, by show 1 ≤ 3; omega⟩
  | some j =>
    cases od with
    | none => exact ⟨by show 1 ≤ 2; omega, by show 2 ≤ 3; omega⟩
    | some k => exact ⟨by show 1 ≤ 3; omega, Nat.le_refl 3⟩
theorem parO_i {i j v : Nat} {ob od : Option Nat} (h : (parO i ob od)[j]? = some v) : (j = 0 ∧ v = i) ∨ (j = 1 ∧ ob = some v) ∨ (j = 2 ∧ od = some v) := by
  have hl := (List.getElem?_eq_some_iff.mp h).1
  rw [parO_len] at hl
  have := (parC_b ob od).2
  rcases (show j = 0 ∨ j = 1 ∨ j = 2 by omega) with rfl | rfl | rfl
  · exact Or.inl ⟨rfl, parO_a h⟩
  · exact Or.inr (Or.inl ⟨rfl, parO_b h⟩)
  · exact Or.inr (Or.inr ⟨rfl, parO_d h⟩)
def rKind (T : TS) (P : List Nat) : Int32 := match mrgK T P with | none => -2 | some _ => nI (tn T)
def sKind (T : TS) (P : List Nat) : TS := match mrgK T P with | none => T | some l => nKind T l
theorem sp_add {T : TS} {σ : Sg} (hC : CX T σ) (hW : WF T) {i : Nat} {ob od : Option Nat} (p0 : tn T < 16) (hi : i < tn T) (hob : ∀ t, ob = some t → t < tn T) (hod : ∀ t, od = some t → t < tn T) (pbd : ob = none → od = none) (pnd : (parO i ob od).Nodup) : Sp yX0_add cX0_add 8 (some .int) 3 [.inr 1, .inl (nI i), .inl (oI ob), .inl (oI od)] σ (fun r σ' => r = some (.inl (rKind T (parO i ob od))) ∧ CX (sKind T (parO i ob od)) σ' ∧ ∀ q, q < 1 ∨ 10 < q → σ' q = σ q) := by
  have hn := hW.1
  obtain ⟨P, hPv⟩ : ∃ P, P = parO i ob od := ⟨_, rfl⟩
  have hlen : P.length = parC ob od := by rw [hPv, parO_len]
  have p3 : P.length ≤ 3 := by rw [hlen]; exact (parC_b ob od).2
  have p1 : 1 ≤ P.length := by rw [hlen]; exact (parC_b ob od).1
  have pP : ∀ x, x ∈ P → x < tn T := fun x hx => by
    obtain ⟨j, hj⟩ := List.getElem?_of_mem hx
    rw [hPv] at hj
    rcases parO_i hj with ⟨_, h⟩ | ⟨_, h⟩ | ⟨_, h⟩
    · omega
    · exact hob x h
    · exact hod x h
  rw [← hPv] at pnd ⊢
  refine Sp.intro rfl (Nat.le_of_ble_eq_true rfl) (fun Γ c r => ?_)
  show J Γ 0 [some (.inr 1), some (.inl (nI i)), some (.inl (oI ob)), some (.inl (oI od)), none, none, none, none] [] σ
  refine j_aload_n c dX0_add_0 rfl ?_
  refine j_getI c fl_X0_9 dX0_add_1 (Nat.le_of_ble_eq_true rfl) rfl rfl ?_
  rw [hC.1]
  refine j_istore c dX0_add_4 (Nat.le_of_ble_eq_true rfl) rfl ?_
  refine j_aload_n c dX0_add_6 rfl ?_
  refine j_getR c fl_X0_15 dX0_add_7 (Nat.le_of_ble_eq_true rfl) rfl rfl ?_
  refine j_iconst c (nI 3) dX0_add_10 (by decide) ?_
  refine j_iload c dX0_add_11 rfl ?_
  refine j_imul c _ dX0_add_13 (by first | exact pk_mul _ _ | rfl) ?_
  refine j_iload_n c dX0_add_14 rfl ?_
  refine j_iast c dX0_add_15 (Nat.le_of_ble_eq_true rfl) rfl rfl (by omega) (by decide) ?_
  refine j_aload_n c dX0_add_16 rfl ?_
  refine j_getR c fl_X0_15 dX0_add_17 (Nat.le_of_ble_eq_true rfl) rfl rfl ?_
  refine j_iconst c (nI 3) dX0_add_20 (by decide) ?_
  refine j_iload c dX0_add_21 rfl ?_
  refine j_imul c _ dX0_add_23 (by first | exact pk_mul _ _ | rfl) ?_
  refine j_iconst c (nI 1) dX0_add_24 (by decide) ?_
  refine j_iadd c _ dX0_add_25 (by first | exact nI_add _ _ | rfl) ?_
  refine j_iload_n c dX0_add_26 rfl ?_
  refine j_iast c dX0_add_27 (Nat.le_of_ble_eq_true rfl) rfl rfl (by omega) (by decide) ?_
  refine j_aload_n c dX0_add_28 rfl ?_
  refine j_getR c fl_X0_15 dX0_add_29 (Nat.le_of_ble_eq_true rfl) rfl rfl ?_
  refine j_iconst c (nI 3) dX0_add_32 (by decide) ?_
  refine j_iload c dX0_add_33 rfl ?_
  refine j_imul c _ dX0_add_35 (by first | exact pk_mul _ _ | rfl) ?_
  refine j_iconst c (nI 2) dX0_add_36 (by decide) ?_
  refine j_iadd c _ dX0_add_37 (by first | exact nI_add _ _ | rfl) ?_
  refine j_iload_n c dX0_add_38 rfl ?_
  refine j_iast c dX0_add_39 (Nat.le_of_ble_eq_true rfl) rfl rfl (by omega) (by decide) ?_
  have fin : J Γ 59 [some (.inr 1), some (.inl (nI i)), some (.inl (oI ob)), some (.inl (oI od)), some (.inl (nI (tn T))), none, none, none] [.inl (nI P.length)] (s2 (s2 (s2 σ 2 (3 * tn T) (nI i)) 2 (3 * tn T + 1) (oI ob)) 2 (3 * tn T + 2) (oI od)) := by
    refine j_istore c dX0_add_59 (Nat.le_of_ble_eq_true rfl) rfl ?_
    refine j_aload_n c dX0_add_61 rfl ?_
    refine j_getR c fl_X0_19 dX0_add_62 (Nat.le_of_ble_eq_true rfl) rfl rfl ?_
    refine j_iload c dX0_add_65 rfl ?_
    refine j_iload c dX0_add_67 rfl ?_
    refine j_iast c dX0_add_69 (Nat.le_of_ble_eq_true rfl) rfl rfl (by omega) (by decide) ?_
    obtain ⟨σ2, hσ2⟩ : ∃ σ2, σ2 = s2 (s2 (s2 (s2 σ 2 (3 * tn T) (nI i)) 2 (3 * tn T + 1) (oI ob)) 2 (3 * tn T + 2) (oI od)) 3 (tn T) (nI P.length) := ⟨_, rfl⟩
    rw [← hσ2]
    have a1 : ∀ q, q ≠ 2 → q ≠ 3 → σ2 q = σ q := fun q h1 h2 => by rw [hσ2, s2_np h2, s2_np h1, s2_np h1, s2_np h1]
    have a2 : ∀ k, k < 3 * tn T → σ2 2 k = σ 2 k := fun k hk => by rw [hσ2, s2_np (by decide), s2_nk (by omega), s2_nk (by omega), s2_nk (by omega)]
    have a3 : ∀ k, k < tn T → σ2 3 k = σ 3 k := fun k hk => by rw [hσ2, s2_nk (by omega), s2_np (by decide), s2_np (by decide), s2_np (by decide)]
    have a4 : σ2 3 (tn T) = nI P.length := by rw [hσ2, s2_at]
    have a5 : ∀ j x, P[j]? = some x → σ2 2 (3 * tn T + j) = nI x := fun j x hj => by
      rw [hPv] at hj
      rw [hσ2, s2_np (by decide)]
      rcases parO_i hj with ⟨rfl, h⟩ | ⟨rfl, h⟩ | ⟨rfl, h⟩
      · subst h; rw [s2_nk (by omega), s2_nk (by omega)]; exact s2_at _ _ _ _
      · subst h; rw [s2_nk (by omega), s2_at]; rfl
      · subst h; rw [s2_at]; rfl
    refine j_aload_n c dX0_add_70 rfl ?_
    refine j_iload c dX0_add_71 rfl ?_
    refine j_iload c dX0_add_73 rfl ?_
    refine j_callV c kw_X0_55 (sp_layRows hW (by rw [a1 5 (by decide) (by decide)]; exact hC.2.2.2.1) (by rw [a1 6 (by decide) (by decide)]; exact hC.2.2.2.2.1) p0 p1 p3 pP a5) dX0_add_75 rfl rfl (by decide) (Nat.le_of_ble_eq_true rfl) (Nat.le_of_ble_eq_true rfl) rfl rfl ?_
    rintro _ σ3 ⟨rfl, R1, f1⟩
    refine j_aload_n c dX0_add_78 rfl ?_
    refine j_iload c dX0_add_79 rfl ?_
    refine j_iload c dX0_add_81 rfl ?_
    refine j_iconst c (nI 1) dX0_add_83 (by decide) ?_
    refine j_iadd c _ dX0_add_84 (by first | exact nI_add _ _ | rfl) ?_
    refine j_callV c kw_X0_59 (sp_mergeRows (by omega) R1 p0 (rwX_ok hW p1 p3 pnd pP)) dX0_add_85 rfl rfl (by decide) (Nat.le_of_ble_eq_true rfl) (Nat.le_of_ble_eq_true rfl) rfl rfl ?_
    rintro _ σ4 ⟨rfl, m1, m2, m3, m4⟩
    have hMK : mrg (P.length + 1) 16 (rwX (tls T) P) [tn T] = mrgK T P := (mEm_mrg (rwMX p1 p3)).symm
    rw [hMK] at m4 ⊢
    have b1 : ∀ q, q < 2 ∨ q = 4 ∨ q = 7 ∨ 10 < q → σ4 q = σ q := fun q hq => by rw [m1 q (by omega) (by omega) (by omega), f1 q (by omega) (by omega) (by omega), a1 q (by omega) (by omega)]
    have b2 : ∀ q, q = 2 ∨ q = 3 → σ4 q = σ2 q := fun q hq => by rw [m1 q (by omega) (by omega) (by omega), f1 q (by omega) (by omega) (by omega)]
    have b5 : ∀ k, k < 16 * tn T → σ4 5 k = σ 5 k := fun k hk => by rw [m2 k hk, f1 5 (by decide) (by decide) (by decide), a1 5 (by decide) (by decide)]
    have b6 : ∀ k, k ≠ tn T → σ4 6 k = σ 6 k := fun k hk => by rw [m3 k hk, f1 6 (by decide) (by decide) (by decide), a1 6 (by decide) (by decide)]
    -- the parents of those before
    have old : ∀ c, c < tn T → ∃ Q : List Nat, Q.length ≤ 3 ∧ σ4 3 c = nI Q.length ∧ (∀ j p, Q[j]? = some p → p < c ∧ σ4 2 (3 * c + j) = nI p) ∧ ∀ d, up (tls T) c d = true ↔ d = c ∨ ∃ p, p ∈ Q ∧ up (tls T) p d = true := fun c hc => by
      obtain ⟨Q, q1, q2, q3, q4⟩ := hC.2.2.2.2.2.2 c hc
      refine ⟨Q, q1, by rw [b2 3 (Or.inr rfl), a3 c hc]; exact q2, fun j p hj => ⟨(q3 j p hj).1, ?_⟩, q4⟩
      have := (List.getElem?_eq_some_iff.mp hj).1
      rw [b2 2 (Or.inl rfl), a2 _ (by omega)]
      exact (q3 j p hj).2
    unfold rKind sKind at r
    cases hm : mrgK T P with
    | none =>
      rw [hm] at r
      refine j_if_ne c 94 dX0_add_88 (by decide) (fun h_9 => absurd (by rfl) h_9) (fun _ => ?_)
      refine j_bipush c (-2) dX0_add_91 (by decide) ?_
      refine j_iret c r dX0_add_93 rfl ⟨rfl, ?_, fun q hq => b1 q (by omega)⟩
      show CX T σ4
      obtain ⟨c1, c2, c3, c4, c5, c6, c7⟩ := hC
      refine ⟨by rw [b1 1 (by decide)]; exact c1, by rw [b1 4 (by decide)]; exact c2, by rw [b1 4 (by decide)]; exact c3, fun x hx k z hk => ?_, fun x hx => by rw [b6 x (by omega)]; exact c5 x hx, by rw [b1 7 (by decide)]; exact c6, old⟩
      have h1 := (List.getElem?_eq_some_iff.mp hk).1
      have h2 := hW.len hx
      rw [b5 _ (by omega)]; exact c4 x hx k z hk
    | some l =>
      rw [hm] at r
      obtain ⟨l1, l2, l3, l4, l5⟩ := mrgK_ok hW p1 p3 pnd pP hm
      obtain ⟨m5, m6⟩ := m4 l hm
      have hlm : ∀ j z, l[j]? = some z → z ≤ tn T := fun j z h => l3 z (List.mem_of_getElem? h)
      refine j_if_ne c 94 dX0_add_88 (by decide) (fun _ => ?_) (fun h_9 => absurd h_9 (by show ¬ bI true = 0; decide))
      refine j_iconst c (nI 0) dX0_add_94 (by decide) ?_
      refine j_istore c dX0_add_95 (Nat.le_of_ble_eq_true rfl) rfl ?_
      have fill : ∀ j, j ≤ l.length → ∀ (u : Option PV) (σ5 : Sg), (∀ q, q ≠ 4 → q ≠ 7 → σ5 q = σ4 q) → (∀ i, i ≠ tn T → σ5 4 i = σ4 4 i) → (∀ z, z < 32 → bt (σ5 4 (tn T)) z = decide (z ∈ l.take j)) → (∀ i, i < 16 * tn T → σ5 7 i = σ4 7 i) → (∀ k z, k < j → l[k]? = some z → σ5 7 (16 * tn T + z) = nI k) → J Γ 97 [some (.inr 1), some (.inl (nI i)), some (.inl (oI ob)), some (.inl (oI od)), some (.inl (nI (tn T))), some (.inl (nI P.length)), some (.inl (nI j)), u] [] σ5 := by
        refine loopN _ ?_ ?_
        · intro u σ5 c1 c2 c3 c4 c5
          rw [List.take_length] at c3
          refine j_iload c dX0_add_97 rfl ?_
          refine j_aload_n c dX0_add_99 rfl ?_
          refine j_getR c fl_X0_28 dX0_add_100 (Nat.le_of_ble_eq_true rfl) rfl rfl ?_
          refine j_iload c dX0_add_103 rfl ?_
          refine j_iald c dX0_add_105 (Nat.le_of_ble_eq_true rfl) rfl rfl (by omega) (by decide) ?_
          rw [c1 6 (by decide) (by decide), m5]
          refine j_icmp_ge c 159 dX0_add_106 (by decide) (fun _ => ?_) (fun h_9 => absurd (nI_le (Nat.le_refl _) (by omega)) h_9)
          refine j_aload_n c dX0_add_159 rfl ?_
          refine j_dup c dX0_add_160 ?_
          refine j_getI c fl_X0_9 dX0_add_161 (Nat.le_of_ble_eq_true rfl) rfl rfl ?_
          rw [c1 1 (by decide) (by decide), b1 1 (by decide), hC.1]
          refine j_iconst c (nI 1) dX0_add_164 (by decide) ?_
          refine j_iadd c _ dX0_add_165 (by first | exact nI_add _ _ | rfl) ?_
          refine j_putI c fl_X0_9 dX0_add_166 (Nat.le_of_ble_eq_true rfl) rfl rfl ?_
          refine j_iload c dX0_add_169 rfl ?_
          refine j_iret c r dX0_add_171 rfl ⟨rfl, ?_, fun q hq => by rw [s2_np (by omega), c1 q (by omega) (by omega)]; exact b1 q (by omega)⟩
          have hls : ∀ x, x < tn T → va_up (tls T) (tn T) l x = tls T x := fun x hx => vu_ne (by omega)
          have hup : ∀ x z, x < tn T → up (va_up (tls T) (tn T) l) x z = up (tls T) x z := fun x z hx => by unfold up; rw [hls x hx]
          obtain ⟨e1, e2, e3, e4, e5, e6, e7⟩ := hC
          refine ⟨s2_at _ _ _ _, fun x hx z hz => ?_, fun x h1 h2 => ?_, fun x hx k z hk => ?_, fun x hx => ?_, fun x z hx hz => ?_, fun x hx => ?_⟩
          · have hx' : x < tn T + 1 := hx
            rw [s2_np (by decide)]
            by_cases e : x = tn T
            · subst e
              rw [c3 z hz]
              show _ = up (va_up (tls T) (tn T) l) (tn T) z
              unfold up; rw [vu_at]
            · rw [c2 x e, b1 4 (by decide)]
              show _ = up (va_up (tls T) (tn T) l) x z
              rw [hup x z (by omega)]; exact e2 x (by omega) z hz
          · have h1' : tn T + 1 ≤ x := h1
            rw [s2_np (by decide), c2 x (by omega), b1 4 (by decide)]; exact e3 x (by omega) h2
          · have hx' : x < tn T + 1 := hx
            have hk' : (va_up (tls T) (tn T) l x)[k]? = some z := hk
            rw [s2_np (by decide), c1 5 (by decide) (by decide)]
            by_cases e : x = tn T
            · subst e; rw [vu_at] at hk'; exact m6 k z hk'
            · rw [hls x (by omega)] at hk'
              have h1 := (List.getElem?_eq_some_iff.mp hk').1
              have h2 := hW.len (show x < tn T by omega)
              rw [b5 _ (by omega)]; exact e4 x (by omega) k z hk'
          · have hx' : x < tn T + 1 := hx
            rw [s2_np (by decide), c1 6 (by decide) (by decide)]
            show _ = nI (va_up (tls T) (tn T) l x).length
            by_cases e : x = tn T
            · subst e; rw [vu_at]; exact m5
            · rw [hls x (by omega), b6 x e]; exact e5 x (by omega)
          · have hx' : x < tn T + 1 := hx
            have hz' : z ∈ va_up (tls T) (tn T) l x := hz
            rw [s2_np (by decide)]
            show _ = nI ((va_up (tls T) (tn T) l x).idxOf z)
            by_cases e : x = tn T
            · subst e
              rw [vu_at] at hz' ⊢
              have hx := List.idxOf_lt_length_of_mem hz'
              exact c5 _ z hx (by rw [List.getElem?_eq_getElem hx, List.getElem_idxOf])
            · rw [hls x (by omega)] at hz' ⊢
              have := (hW.2.1 x (by omega)).2.2.1 z hz'
              rw [c4 _ (by omega), b1 7 (by decide)]; exact e6 x z (by omega) hz'
          · have hx' : x < tn T + 1 := hx
            show ∃ Q : List Nat, Q.length ≤ 3 ∧ s2 σ5 1 0 (nI (tn T + 1)) 3 x = nI Q.length ∧ (∀ j p, Q[j]? = some p → p < x ∧ s2 σ5 1 0 (nI (tn T + 1)) 2 (3 * x + j) = nI p) ∧ ∀ d, up (va_up (tls T) (tn T) l) x d = true ↔ d = x ∨ ∃ p, p ∈ Q ∧ up (va_up (tls T) (tn T) l) p d = true
            rw [s2_np (by decide), s2_np (by decide), c1 3 (by decide) (by decide), c1 2 (by decide) (by decide)]
            by_cases e : x = tn T
            · subst e
              refine ⟨P, p3, by rw [b2 3 (Or.inr rfl)]; exact a4, fun j p hj => ⟨pP p (List.mem_of_getElem? hj), by rw [b2 2 (Or.inl rfl)]; exact a5 j p hj⟩, fun d => ?_⟩
              have h1 : up (va_up (tls T) (tn T) l) (tn T) d = true ↔ d ∈ l := by unfold up; rw [vu_at]; simp
              rw [h1, l4 d]
              constructor
              · rintro (h | ⟨p, h2, h3⟩)
                · exact Or.inl h
                · exact Or.inr ⟨p, h2, by rw [hup p d (pP p h2)]; unfold up; simpa using h3⟩
              · rintro (h | ⟨p, h2, h3⟩)
                · exact Or.inl h
                · rw [hup p d (pP p h2)] at h3
                  exact Or.inr ⟨p, h2, by unfold up at h3; simpa using h3⟩
            · obtain ⟨Q, q1, q2, q3, q4⟩ := old x (by omega)
              refine ⟨Q, q1, q2, q3, fun d => ?_⟩
              rw [hup x d (by omega), q4 d]
              constructor
              · rintro (h | ⟨p, h2, h3⟩)
                · exact Or.inl h
                · obtain ⟨j, hj⟩ := List.getElem?_of_mem h2
                  have := (q3 j p hj).1
                  exact Or.inr ⟨p, h2, by rw [hup p d (by omega)]; exact h3⟩
              · rintro (h | ⟨p, h2, h3⟩)
                · exact Or.inl h
                · obtain ⟨j, hj⟩ := List.getElem?_of_mem h2
                  have := (q3 j p hj).1
                  rw [hup p d (by omega)] at h3
                  exact Or.inr ⟨p, h2, h3⟩
        · intro j hj ihj u σ5 c1 c2 c3 c4 c5
          obtain ⟨z, hz⟩ : ∃ z, l[j]? = some z := ⟨_, List.getElem?_eq_getElem hj⟩
          have hzn := hlm j z hz
          have h52 : σ5 5 (16 * tn T + j) = nI z := by rw [c1 5 (by decide) (by decide)]; exact m6 j z hz
          have htk : l.take (j + 1) = l.take j ++ [z] := by rw [List.take_add_one, hz]; rfl
          refine j_iload c dX0_add_97 rfl ?_
          refine j_aload_n c dX0_add_99 rfl ?_
          refine j_getR c fl_X0_28 dX0_add_100 (Nat.le_of_ble_eq_true rfl) rfl rfl ?_
          refine j_iload c dX0_add_103 rfl ?_
          refine j_iald c dX0_add_105 (Nat.le_of_ble_eq_true rfl) rfl rfl (by omega) (by decide) ?_
          rw [c1 6 (by decide) (by decide), m5]
          refine j_icmp_ge c 159 dX0_add_106 (by decide) (fun h_9 => absurd h_9 (nI_ge hj (by omega))) (fun _ => ?_)
          refine j_aload_n c dX0_add_109 rfl ?_
          refine j_getR c fl_X0_25 dX0_add_110 (Nat.le_of_ble_eq_true rfl) rfl rfl ?_
          refine j_bipush c (nI 16) dX0_add_113 (by decide) ?_
          refine j_iload c dX0_add_115 rfl ?_
          refine j_imul c _ dX0_add_117 (by first | exact pk_mul _ _ | rfl) ?_
          refine j_iload c dX0_add_118 rfl ?_
          refine j_iadd c _ dX0_add_120 (by first | exact nI_add _ _ | rfl) ?_
          refine j_iald c dX0_add_121 (Nat.le_of_ble_eq_true rfl) rfl rfl (by omega) (by decide) ?_
          rw [h52]
          refine j_istore c dX0_add_122 (Nat.le_of_ble_eq_true rfl) rfl ?_
          refine j_aload_n c dX0_add_124 rfl ?_
          refine j_getR c fl_X0_22 dX0_add_125 (Nat.le_of_ble_eq_true rfl) rfl rfl ?_
          refine j_iload c dX0_add_128 rfl ?_
          refine j_dup2 c dX0_add_130 ?_
          refine j_iald c dX0_add_131 (Nat.le_of_ble_eq_true rfl) rfl rfl (by omega) (by decide) ?_
          refine j_iconst c (nI 1) dX0_add_132 (by decide) ?_
          refine j_iload c dX0_add_133 rfl ?_
          refine j_ishl c _ dX0_add_135 rfl ?_
          refine j_ior c _ dX0_add_136 rfl ?_
          refine j_iast c dX0_add_137 (Nat.le_of_ble_eq_true rfl) rfl rfl (by omega) (by decide) ?_
          refine j_aload_n c dX0_add_138 rfl ?_
          refine j_getR c fl_X0_31 dX0_add_139 (Nat.le_of_ble_eq_true rfl) rfl rfl ?_
          refine j_bipush c (nI 16) dX0_add_142 (by decide) ?_
          refine j_iload c dX0_add_144 rfl ?_
          refine j_imul c _ dX0_add_146 (by first | exact pk_mul _ _ | rfl) ?_
          refine j_iload c dX0_add_147 rfl ?_
          refine j_iadd c _ dX0_add_149 (by first | exact nI_add _ _ | rfl) ?_
          refine j_iload c dX0_add_150 rfl ?_
          refine j_iast c dX0_add_152 (Nat.le_of_ble_eq_true rfl) rfl rfl (by omega) (by decide) ?_
          refine j_iinc c _ dX0_add_153 rfl (by first | exact nI_1 _ | exact pk_m1 _ | rfl) rfl ?_
          refine j_goto c 97 dX0_add_156 (by decide) ?_
          refine ihj _ _ (fun q h1 h2 => by rw [s2_np h2, s2_np h1]; exact c1 q h1 h2) (fun x hx => by rw [s2_np (by decide), s2_nk hx]; exact c2 x hx) (fun y hy => ?_) (fun x hx => by rw [s2_nk (by omega), s2_np (by decide)]; exact c4 x hx) (fun k y hk hky => ?_)
          · rw [s2_np (by decide), s2_at, bt_or, bt_one (by omega), c3 y hy, htk, Bool.eq_iff_iff]
            simp
          · by_cases ek : k = j
            · subst ek; rw [hz] at hky; cases hky; rw [s2_at]
            · have hne : y ≠ z := fun e => by
                subst e
                exact ek (nd_inj l1 hky hz)
              rw [s2_nk (by omega), s2_np (by decide)]; exact c5 k y (by omega) hky
      refine fill 0 (Nat.zero_le _) none σ4 (fun q h1 h2 => rfl) (fun x hx => rfl) (fun z hz => ?_) (fun x _ => rfl) (fun k z hk => by omega)
      rw [b1 4 (by decide), hC.2.2.1 (tn T) (Nat.le_refl _) p0, bt_0]; simp
  refine j_iload_n c dX0_add_40 rfl ?_
  refine j_iconst c (-1) dX0_add_41 (by decide) ?_
  cases ob with
  | none =>
    refine j_icmp_ne c 49 dX0_add_42 (by decide) (fun h_9 => absurd (by rfl) h_9) (fun _ => ?_)
    refine j_iconst c (nI 1) dX0_add_45 (by decide) ?_
    refine j_goto c 59 dX0_add_46 (by decide) ?_
    rw [hlen] at fin
    exact fin
  | some j =>
    refine j_icmp_ne c 49 dX0_add_42 (by decide) (fun _ => ?_) (fun h_9 => absurd h_9 (oI_ne (t := j) (by have := hob j rfl; omega)))
    refine j_iload_n c dX0_add_49 rfl ?_
    refine j_iconst c (-1) dX0_add_50 (by decide) ?_
    cases od with
    | none =>
      refine j_icmp_ne c 58 dX0_add_51 (by decide) (fun h_9 => absurd (by rfl) h_9) (fun _ => ?_)
      refine j_iconst c (nI 2) dX0_add_54 (by decide) ?_
      refine j_goto c 59 dX0_add_55 (by decide) ?_
      rw [hlen] at fin
      exact fin
    | some k =>
      refine j_icmp_ne c 58 dX0_add_51 (by decide) (fun _ => ?_) (fun h_9 => absurd h_9 (oI_ne (t := k) (by have := hod k rfl; omega)))
      refine j_iconst c (nI 3) dX0_add_58 (by decide) ?_
      rw [hlen] at fin
      exact fin
theorem sp_fitClass {T : TS} {σ : Sg} {p k : Nat} {g : Nat → Option Nat} (hp : FnP p) (hC : CX T σ) (hn : tn T ≤ 16) (hk : k < tn T) (h1 : ∀ m, m < 32 → bt (σ p 1) m = (g m).isSome) (hg : ∀ m t, g m = some t → m < 12 ∧ t < 4096) (h3 : ∀ m t, g m = some t → σ (p + 1) m = nI t) : Sp yX1_fitClass cX1_fitClass 6 none 1 [.inr p, .inl (nI k), .inr 1] σ (fun r σ' => r = none ∧ (∀ q, q ≠ p + 5 → σ' q = σ q) ∧ (∀ q, q < 3 → ∀ m, m < 32 → bt (σ' (p + 5) (16 * q + k)) m = fitB (tls T) g q k m) ∧ ∀ i, (∀ q, q < 3 → i ≠ 16 * q + k) → σ' (p + 5) i = σ (p + 5) i) := by
  have hp15 : 15 ≤ p := by obtain ⟨i, hi, rfl⟩ := hp; omega
  refine Sp.intro rfl (Nat.le_of_ble_eq_true rfl) (fun Γ c r => ?_)
  show J Γ 0 [some (.inr p), some (.inl (nI k)), some (.inr 1), none, none, none] [] σ
  refine j_iconst c (nI 0) dX1_fitClass_0 (by decide) ?_
  refine j_istore_n c dX1_fitClass_1 (Nat.le_of_ble_eq_true rfl) rfl ?_
  have key : ∀ q, q ≤ 3 → ∀ (u w : Option PV) (σ1 : Sg), (∀ x, x ≠ p + 5 → σ1 x = σ x) → (∀ q', q' < q → ∀ m, m < 32 → bt (σ1 (p + 5) (16 * q' + k)) m = fitB (tls T) g q' k m) → (∀ i, (∀ q, q < 3 → i ≠ 16 * q + k) → σ1 (p + 5) i = σ (p + 5) i) → J Γ 2 [some (.inr p), some (.inl (nI k)), some (.inr 1), some (.inl (nI q)), u, w] [] σ1 := by
    refine loopN 3 ?_ ?_
    · intro u w σ1 f1 f2 f3
      refine j_iload_n c dX1_fitClass_2 rfl ?_
      refine j_iconst c (nI 3) dX1_fitClass_3 (by decide) ?_
      refine j_icmp_ge c 85 dX1_fitClass_4 (by decide) (fun _ => ?_) (fun h_9 => absurd (nI_le (Nat.le_refl _) (by decide)) h_9)
      exact j_ret c r dX1_fitClass_85 ⟨rfl, f1, f2, f3⟩
    · intro q hq ih u w σ1 f1 f2 f3
      have hC1 : CX T σ1 := hC.keep (fun x h1 h2 => f1 x (by omega))
      refine j_iload_n c dX1_fitClass_2 rfl ?_
      refine j_iconst c (nI 3) dX1_fitClass_3 (by decide) ?_
      refine j_icmp_ge c 85 dX1_fitClass_4 (by decide) (fun h_9 => absurd h_9 (nI_ge hq (by decide))) (fun _ => ?_)
      refine j_iconst c (nI 0) dX1_fitClass_7 (by decide) ?_
      refine j_istore c dX1_fitClass_8 (Nat.le_of_ble_eq_true rfl) rfl ?_
      refine j_iconst c (nI 0) dX1_fitClass_10 (by decide) ?_
      refine j_istore c dX1_fitClass_11 (Nat.le_of_ble_eq_true rfl) rfl ?_
      have inner : ∀ m, m ≤ 12 → J Γ 13 [some (.inr p), some (.inl (nI k)), some (.inr 1), some (.inl (nI q)), some (.inl (mkS (fitB (tls T) g q k) m)), some (.inl (nI m))] [] σ1 := by
        refine loopN 12 ?_ ?_
        · refine j_iload c dX1_fitClass_13 rfl ?_
          refine j_bipush c (nI 12) dX1_fitClass_15 (by decide) ?_
          refine j_icmp_ge c 66 dX1_fitClass_17 (by decide) (fun _ => ?_) (fun h_9 => absurd (nI_le (Nat.le_refl _) (by decide)) h_9)
          refine j_aload_n c dX1_fitClass_66 rfl ?_
          refine j_getR c fl_X1_31 dX1_fitClass_67 hp.lt0 (lf0 hp) rfl ?_
          refine j_bipush c (nI 16) dX1_fitClass_70 (by decide) ?_
          refine j_iload_n c dX1_fitClass_72 rfl ?_
          refine j_imul c _ dX1_fitClass_73 (by first | exact pk_mul _ _ | rfl) ?_
          refine j_iload_n c dX1_fitClass_74 rfl ?_
          refine j_iadd c _ dX1_fitClass_75 (by first | exact nI_add _ _ | rfl) ?_
          refine j_iload c dX1_fitClass_76 rfl ?_
          refine j_iast c dX1_fitClass_78 (hp.lt (by decide)) (lf5 hp) rfl (by omega) (by decide) ?_
          refine j_iinc c _ dX1_fitClass_79 rfl (by first | exact nI_1 _ | exact pk_m1 _ | rfl) rfl ?_
          refine j_goto c 2 dX1_fitClass_82 (by decide) ?_
          refine ih _ _ _ (fun x hx => by rw [s2_np hx]; exact f1 x hx) (fun q' hq' m hm => ?_) (fun i hi => by rw [s2_nk (hi q hq)]; exact f3 i hi)
          by_cases e : q' = q
          · subst e
            rw [s2_at, bt_mkS _ (by decide)]
            by_cases e2 : m < 12
            · simp [e2]
            · simp only [e2, decide_false, Bool.false_and]
              unfold fitB
              cases h : g m with
              | none => rfl
              | some t => exact absurd (hg m t h).1 e2
          · rw [s2_nk (by omega)]; exact f2 q' (by omega) m hm
        · intro m hm ihm
          have no : fitB (tls T) g q k m = false → J Γ 60 [some (.inr p), some (.inl (nI k)), some (.inr 1), some (.inl (nI q)), some (.inl (mkS (fitB (tls T) g q k) m)), some (.inl (nI m))] [] σ1 := by
            intro h
            have e : mkS (fitB (tls T) g q k) (m + 1) = mkS (fitB (tls T) g q k) m := mkS_no h
            rw [e] at ihm
            refine j_iinc c _ dX1_fitClass_60 rfl (by first | exact nI_1 _ | exact pk_m1 _ | rfl) rfl ?_
            refine j_goto c 13 dX1_fitClass_63 (by decide) ?_
            exact ihm
          refine j_iload c dX1_fitClass_13 rfl ?_
          refine j_bipush c (nI 12) dX1_fitClass_15 (by decide) ?_
          refine j_icmp_ge c 66 dX1_fitClass_17 (by decide) (fun h_9 => absurd h_9 (nI_ge hm (by decide))) (fun _ => ?_)
          refine j_aload_n c dX1_fitClass_20 rfl ?_
          refine j_getI c fl_X1_15 dX1_fitClass_21 hp.lt0 (lf0 hp) rfl ?_
          refine j_iload c dX1_fitClass_24 rfl ?_
          refine j_ishr c _ dX1_fitClass_26 rfl ?_
          refine j_iconst c (nI 1) dX1_fitClass_27 (by decide) ?_
          refine j_iand c _ dX1_fitClass_28 (bt_shr _ (by omega)) ?_
          rw [f1 p (by omega), h1 m (by omega)]
          cases hgm : g m with
          | none =>
            refine j_if_eq c 60 dX1_fitClass_29 (by decide) (fun _ => ?_) (fun h_9 => absurd (by rfl) h_9)
            exact no (by unfold fitB; rw [hgm])
          | some t =>
            have ht := hg m t hgm
            have dq := dg_lt t q
            refine j_if_eq c 60 dX1_fitClass_29 (by decide) (fun h_9 => absurd h_9 (by show ¬ bI true = 0; decide)) (fun _ => ?_)
            refine j_aload_n c dX1_fitClass_32 rfl ?_
            refine j_iload_n c dX1_fitClass_33 rfl ?_
            refine j_aload_n c dX1_fitClass_34 rfl ?_
            refine j_getR c fl_X1_18 dX1_fitClass_35 hp.lt0 (lf0 hp) rfl ?_
            refine j_iload c dX1_fitClass_38 rfl ?_
            refine j_iald c dX1_fitClass_40 (hp.lt (by decide)) (lf1 hp) rfl (by omega) (by decide) ?_
            rw [f1 (p + 1) (by omega), h3 m t hgm]
            refine j_iload_n c dX1_fitClass_41 rfl ?_
            refine j_callSN1 c kw_X1_40 (sp_classAt σ1 t q (by omega) (by omega)) dX1_fitClass_42 rfl rfl (by decide) (Nat.le_of_ble_eq_true rfl) ?_
            refine j_callV1 c kw_X1_49 (sp_isOne hC1 hn hk (by omega)) dX1_fitClass_45 rfl rfl (by decide) (Nat.le_of_ble_eq_true rfl) (Nat.le_of_ble_eq_true rfl) rfl rfl ?_
            have hfit : fitB (tls T) g q k m = up (tls T) k (dg t q) := by
              unfold fitB
              rw [hgm]
              simp only [show m < 13 by omega, decide_true, Bool.true_and]
            refine j_if_eq c 60 dX1_fitClass_48 (by decide) (fun e => ?_) (fun e => ?_)
            · exact no (by rw [hfit]; exact bI_z e)
            · refine j_iload c dX1_fitClass_51 rfl ?_
              refine j_iconst c (nI 1) dX1_fitClass_53 (by decide) ?_
              refine j_iload c dX1_fitClass_54 rfl ?_
              refine j_ishl c _ dX1_fitClass_56 rfl ?_
              refine j_ior c _ dX1_fitClass_57 (show _ = mkS (fitB (tls T) g q k) (m + 1) by simp [mkS, hfit, bI_nz e]) ?_
              refine j_istore c dX1_fitClass_58 (Nat.le_of_ble_eq_true rfl) rfl ?_
              refine j_iinc c _ dX1_fitClass_60 rfl (by first | exact nI_1 _ | exact pk_m1 _ | rfl) rfl ?_
              refine j_goto c 13 dX1_fitClass_63 (by decide) ?_
              exact ihm
      exact inner 0 (Nat.zero_le _)
  exact key 0 (Nat.zero_le _) none none σ (fun _ _ => rfl) (fun q' h => by omega) (fun _ _ => rfl)
theorem FX.kind {n p pl : Nat} {ls : Nat → List Nat} {g : Nat → Option Nat} {l : List Nat} {σ σ' : Sg} (h : FX n ls p pl g σ) (hG : GOK n pl ls g) (h0 : σ' p = σ p) (h1 : σ' (p + 1) = σ (p + 1)) (h4 : σ' (p + 4) = σ (p + 4)) (h5 : ∀ q, q < 3 → ∀ m, m < 32 → bt (σ' (p + 5) (16 * q + n)) m = fitB (va_up ls n l) g q n m) (h6 : ∀ i, (∀ q, q < 3 → i ≠ 16 * q + n) → σ' (p + 5) i = σ (p + 5) i) (hn : n < 16) : FX (n + 1) (va_up ls n l) p pl g σ' := by
  obtain ⟨a1, a2, a3, a4, a5⟩ := h
  have hls : ∀ c, c < n → va_up ls n l c = ls c := fun c hc => vu_ne (by omega)
  have hup : ∀ c d, c < n → up (va_up ls n l) c d = up ls c d := fun c d hc => by unfold up; rw [hls c hc]
  refine ⟨by rw [h0]; exact a1, by rw [h0]; exact a2, by rw [h1]; exact a3, fun q c hq hc m hm => ?_, fun m t ht o ho => ?_⟩
  · by_cases e : c = n
    · subst e; exact h5 q hq m hm
    · rw [h6 _ (fun q' hq' => by omega), a4 q c hq (by omega) m hm]
      unfold fitB
      cases g m with
      | none => rfl
      | some t => show (_ && _) = (_ && _); rw [hup c _ (by omega)]
  · rw [h4, a5 m t ht o ho]
    have hg := hG m t ht
    unfold appB le3
    cases g o with
    | none => rfl
    | some t' => show (_ && _) = (_ && _); rw [hup _ _ hg.2.2.2.1, hup _ _ hg.2.2.2.2.1, hup _ _ hg.2.2.2.2.2.1]
theorem sp_kindX {T : TS} {σ : Sg} (hX : InvX T σ) (hW : WF T) (a b d : Int32) : Sp yX2_kind cX2_kind 6 (some .int) 4 [.inr 0, .inl a, .inl b, .inl d] σ (nX (tKind T a b d) σ (aKind T a b d)) := by
  have hn := hW.1
  have hC := hX.1
  have hnf := hW.2.2.2.1
  refine Sp.intro rfl (Nat.le_of_ble_eq_true rfl) (fun Γ c r => ?_)
  show J Γ 0 [some (.inr 0), some (.inl a), some (.inl b), some (.inl d), none, none] [] σ
  have bad : okPar T a b d = false → J Γ 25 [some (.inr 0), some (.inl a), some (.inl b), some (.inl d), none, none] [] σ := by
    intro h
    refine j_iconst c (-1) dX2_kind_25 (by decide) ?_
    exact j_iret c r dX2_kind_26 rfl ⟨by simp [aKind, h], by simp only [tKind, h]; exact hX, frXo.rfl' σ⟩
  have hpar : okPar T a b d = (decide (tn T < 16) && parB (tn T) a b d) := rfl
  refine j_aload_n c dX2_kind_0 rfl ?_
  refine j_getR c fl_X2_12 dX2_kind_1 (Nat.le_of_ble_eq_true rfl) rfl rfl ?_
  refine j_getI c fl_X2_57 dX2_kind_4 (Nat.le_of_ble_eq_true rfl) rfl rfl ?_
  refine j_bipush c (nI 16) dX2_kind_7 (by decide) ?_
  rw [hC.1]
  refine j_icmp_ge c 25 dX2_kind_9 (by decide) (fun e => ?_) (fun e => ?_)
  · rw [nI_leI (by omega) (by omega)] at e
    exact bad (by rw [hpar]; simp; omega)
  · rw [nI_leI (by omega) (by omega)] at e
    refine j_aload_n c dX2_kind_12 rfl ?_
    refine j_getR c fl_X2_12 dX2_kind_13 (Nat.le_of_ble_eq_true rfl) rfl rfl ?_
    refine j_iload_n c dX2_kind_16 rfl ?_
    refine j_iload_n c dX2_kind_17 rfl ?_
    refine j_iload_n c dX2_kind_18 rfl ?_
    refine j_callV1 c kw_X2_60 (sp_canBeParents σ a b d (tn T) hC.1 hn.2) dX2_kind_19 rfl rfl (by decide) (Nat.le_of_ble_eq_true rfl) (Nat.le_of_ble_eq_true rfl) rfl rfl ?_
    refine j_if_ne c 27 dX2_kind_22 (by decide) (fun e2 => ?_) (fun e2 => ?_)
    · have hok : okPar T a b d = true := by rw [hpar, bI_nz e2]; simp; omega
      obtain ⟨p0, p1, p3, pnd, pP, ⟨i, hi, rfl⟩, pb, pd, pbd⟩ := parOK hn.2 hok
      obtain ⟨ob, rfl, hob⟩ : ∃ ob : Option Nat, b = oI ob ∧ ∀ t, ob = some t → t < tn T := by
        rcases pb with h | ⟨j, hj, h⟩
        · exact ⟨none, h, fun t h => by cases h⟩
        · exact ⟨some j, h, fun t h => by cases h; exact hj⟩
      obtain ⟨od, rfl, hod⟩ : ∃ od : Option Nat, d = oI od ∧ ∀ t, od = some t → t < tn T := by
        rcases pd with h | ⟨_, j, hj, h⟩
        · exact ⟨none, h, fun t h => by cases h⟩
        · exact ⟨some j, h, fun t h => by cases h; exact hj⟩
      have hbn : oI ob = -1 ↔ ob = none := oI_none (fun t ht => by have := hob t ht; omega)
      have hdn : oI od = -1 ↔ od = none := oI_none (fun t ht => by have := hod t ht; omega)
      rw [hbn, hdn] at pbd
      have hPv : parL (nI i) (oI ob) (oI od) = parO i ob od := parL_O (by omega) (fun t ht => by have := hob t ht; omega) (fun t ht => by have := hod t ht; omega)
      rw [hPv] at pnd p1 p3 pP
      have ha : aKind T (nI i) (oI ob) (oI od) = rKind T (parO i ob od) := by unfold aKind rKind; rw [hok, hPv]; rfl
      have ht : tKind T (nI i) (oI ob) (oI od) = sKind T (parO i ob od) := by unfold tKind sKind; rw [hok, hPv]; rfl
      rw [ha, ht] at r
      refine j_aload_n c dX2_kind_27 rfl ?_
      refine j_getR c fl_X2_12 dX2_kind_28 (Nat.le_of_ble_eq_true rfl) rfl rfl ?_
      refine j_iload_n c dX2_kind_31 rfl ?_
      refine j_iload_n c dX2_kind_32 rfl ?_
      refine j_iload_n c dX2_kind_33 rfl ?_
      refine j_callV c kw_X2_64 (sp_add hC hW p0 hi hob hod pbd pnd) dX2_kind_34 rfl rfl (by decide) (Nat.le_of_ble_eq_true rfl) (Nat.le_of_ble_eq_true rfl) rfl rfl ?_
      rintro _ σ1 ⟨rfl, C1, f1⟩
      unfold rKind sKind at *
      cases hm : mrgK T (parO i ob od) with
      | none =>
        rw [hm] at r C1
        refine j_istore c dX2_kind_37 (Nat.le_of_ble_eq_true rfl) rfl ?_
        refine j_iload c dX2_kind_39 rfl ?_
        refine j_bipush c (-2) dX2_kind_41 (by decide) ?_
        refine j_icmp_ne c 49 dX2_kind_43 (by decide) (fun h_9 => absurd (by rfl) h_9) (fun _ => ?_)
        refine j_bipush c (-2) dX2_kind_46 (by decide) ?_
        refine j_iret c r dX2_kind_48 rfl ⟨rfl, ?_, fun q hq => f1 q (by omega)⟩
        show InvX T σ1
        obtain ⟨_, b2, b3, b4, b5, b6, b7, b8, b9, b10⟩ := hX
        have s0 : σ1 0 = σ 0 := f1 0 (by decide)
        have s13 : σ1 13 = σ 13 := f1 13 (by decide)
        have sF : ∀ q, 15 ≤ q → σ1 q = σ q := fun q hq => f1 q (by omega)
        refine ⟨C1, by rw [s0]; exact b2, by rw [s0]; exact b3, by rw [s0]; exact b4, by rw [s0]; exact b5, fun f hf => (b6 f hf).keep (by rw [sF _ (by omega)]) (by rw [sF _ (by omega)]) (sF _ (by omega)) (sF _ (by omega)) (sF _ (by omega)), fun f h1 h2 => ?_, fun f hf => (b8 f hf).keep (by rw [sF _ (by omega)]) (sF _ (by omega)), fun f m t hf ht => ?_, ?_⟩
        · rw [sF _ (by omega), sF (15 + 7 * f + 5) (by omega)]; exact b7 f h1 h2
        · rw [sF (15 + 7 * f + 2) (by omega), sF (15 + 7 * f + 3) (by omega)]; exact b9 f m t hf ht
        · rw [s0, s13]; exact b10
      | some l =>
        rw [hm] at r C1
        have C1' : CX (nKind T l) σ1 := C1
        have hnk : ¬ nI (tn T) = (-2 : Int32) := fun h => by
          have h1 := congrArg Int32.toInt h
          rw [nI_toInt (by omega)] at h1
          have : (-2 : Int32).toInt = -2 := by decide
          omega
        refine j_istore c dX2_kind_37 (Nat.le_of_ble_eq_true rfl) rfl ?_
        refine j_iload c dX2_kind_39 rfl ?_
        refine j_bipush c (-2) dX2_kind_41 (by decide) ?_
        refine j_icmp_ne c 49 dX2_kind_43 (by decide) (fun _ => ?_) (fun h_9 => absurd h_9 hnk)
        refine j_iconst c (nI 0) dX2_kind_49 (by decide) ?_
        refine j_istore c dX2_kind_50 (Nat.le_of_ble_eq_true rfl) rfl ?_
        obtain ⟨_, b2, b3, b4, b5, b6, b7, b8, b9, b10⟩ := hX
        have loop : ∀ f, f ≤ tnf T → ∀ σ2 : Sg, (∀ q, (∀ j, j < tnf T → q ≠ 15 + 7 * j + 5) → σ2 q = σ1 q) → (∀ j, j < f → FX (tn T + 1) (va_up (tls T) (tn T) l) (15 + 7 * j) (tpl T j) (ttg T j) σ2) → (∀ j, f ≤ j → j < tnf T → σ2 (15 + 7 * j + 5) = σ1 (15 + 7 * j + 5)) → J Γ 52 [some (.inr 0), some (.inl (nI i)), some (.inl (oI ob)), some (.inl (oI od)), some (.inl (nI (tn T))), some (.inl (nI f))] [] σ2 := by
          refine loopN _ ?_ ?_
          · intro σ2 g1 g2 g3
            have s0 : ∀ j, j ≠ 10 → s2 σ2 0 10 (-1) 0 j = σ 0 j := fun j hj => by rw [s2_nk hj, g1 0 (by omega), f1 0 (by decide)]
            refine j_iload c dX2_kind_52 rfl ?_
            refine j_aload_n c dX2_kind_54 rfl ?_
            refine j_getI c fl_X2_27 dX2_kind_55 (Nat.le_of_ble_eq_true rfl) rfl rfl ?_
            rw [g1 0 (by omega), f1 0 (by decide), b2]
            refine j_icmp_ge c 83 dX2_kind_58 (by decide) (fun _ => ?_) (fun h_9 => absurd (nI_le (Nat.le_refl _) (by omega)) h_9)
            refine j_aload_n c dX2_kind_83 rfl ?_
            refine j_iconst c (-1) dX2_kind_84 (by decide) ?_
            refine j_putI c fl_X2_50 dX2_kind_85 (Nat.le_of_ble_eq_true rfl) rfl rfl ?_
            refine j_iload c dX2_kind_88 rfl ?_
            have sq : ∀ q, 11 ≤ q → (∀ j, j < tnf T → q ≠ 15 + 7 * j + 5) → s2 σ2 0 10 (-1) q = σ q := fun q h1 h2 => by rw [s2_np (by omega), g1 q h2, f1 q (by omega)]
            refine j_iret c r dX2_kind_90 rfl ⟨rfl, ?_, fun q hq => sq q (by omega) (by omega)⟩
            refine ⟨C1'.keep (fun q h1 h2 => by rw [s2_np (by omega), g1 q (by omega)]), by rw [s0 3 (by decide)]; exact b2, by rw [s0 4 (by decide)]; exact b3, by rw [s0 5 (by decide)]; exact b4, by rw [s0 6 (by decide)]; exact b5, fun f hf => ?_, fun f h1 h2 => ?_, fun f hf => (b8 f hf).keep (by rw [sq _ (by omega) (by omega)]) (sq _ (by omega) (by omega)), fun f m t hf ht => ?_, Or.inl (s2_at _ _ _ _)⟩
            · exact (g2 f hf).keep (by rw [s2_np (by omega)]) (by rw [s2_np (by omega)]) (s2_np (by omega)) (s2_np (by omega)) (s2_np (by omega))
            · have h1' : tnf T ≤ f := h1
              rw [sq _ (by omega) (by omega), sq (15 + 7 * f + 5) (by omega) (by omega)]; exact b7 f h1 h2
            · rw [sq (15 + 7 * f + 2) (by omega) (by omega), sq (15 + 7 * f + 3) (by omega) (by omega)]; exact b9 f m t hf ht
          · intro f hf ih σ2 g1 g2 g3
            have hp : FnP (15 + 7 * f) := FnP.of (by omega)
            have hG := GOK.of hW hf
            have C2 : CX (nKind T l) σ2 := C1'.keep (fun q h1 h2 => g1 q (by omega))
            have sF : ∀ q, 11 ≤ q → (∀ j, j < tnf T → q ≠ 15 + 7 * j + 5) → σ2 q = σ q := fun q h1 h2 => by rw [g1 q h2, f1 q (by omega)]
            have hF := b6 f hf
            refine j_iload c dX2_kind_52 rfl ?_
            refine j_aload_n c dX2_kind_54 rfl ?_
            refine j_getI c fl_X2_27 dX2_kind_55 (Nat.le_of_ble_eq_true rfl) rfl rfl ?_
            rw [g1 0 (by omega), f1 0 (by decide), b2]
            refine j_icmp_ge c 83 dX2_kind_58 (by decide) (fun h_9 => absurd h_9 (nI_ge hf (by omega))) (fun _ => ?_)
            refine j_aload_n c dX2_kind_61 rfl ?_
            refine j_getR c fl_X2_18 dX2_kind_62 (Nat.le_of_ble_eq_true rfl) rfl rfl ?_
            refine j_iload c dX2_kind_65 rfl ?_
            refine j_aald c dX2_kind_67 (Nat.le_of_ble_eq_true rfl) rfl rfl (by omega) (by decide) ?_
            refine j_iload c dX2_kind_68 rfl ?_
            refine j_aload_n c dX2_kind_70 rfl ?_
            refine j_getR c fl_X2_12 dX2_kind_71 (Nat.le_of_ble_eq_true rfl) rfl rfl ?_
            refine j_callV c kw_X2_68 (sp_fitClass (T := nKind T l) (k := tn T) (g := ttg T f) hp C2 (Nat.succ_le_of_lt p0) (Nat.lt_succ_self _) (by rw [sF _ (by omega) (by omega)]; exact hF.2.1) (fun m t h => ⟨(hW.2.2.2.2.2.1 f m t hf h).1, (hG m t h).2.2.2.2.2.2⟩) (by rw [sF _ (by omega) (by omega)]; exact hF.2.2.1)) dX2_kind_74 rfl rfl (by decide) (Nat.le_of_ble_eq_true rfl) hp.lt0 (lf0 hp) rfl ?_
            rintro _ σ3 ⟨rfl, o1, o2, o3⟩
            refine j_iinc c _ dX2_kind_77 rfl (by first | exact nI_1 _ | exact pk_m1 _ | rfl) rfl ?_
            refine j_goto c 52 dX2_kind_80 (by decide) ?_
            refine ih σ3 (fun q hq => by rw [o1 q (hq f hf)]; exact g1 q hq) (fun j hj => ?_) (fun j h1 h2 => by rw [o1 _ (by omega)]; exact g3 j (by omega) h2)
            by_cases ej : j = f
            · subst ej
              refine FX.kind (σ := σ) hF hG (by rw [o1 _ (by omega), sF _ (by omega) (by omega)]) (by rw [o1 _ (by omega), sF _ (by omega) (by omega)]) (by rw [o1 _ (by omega), sF _ (by omega) (by omega)]) o2 (fun i hi => ?_) p0
              rw [o3 i hi, g3 j (Nat.le_refl _) hf, f1 _ (by omega)]
            · exact (g2 j (by omega)).keep (by rw [o1 _ (by omega)]) (by rw [o1 _ (by omega)]) (o1 _ (by omega)) (o1 _ (by omega)) (o1 _ (by omega))
        exact loop 0 (Nat.zero_le _) σ1 (fun _ _ => rfl) (fun j hj => by omega) (fun _ _ _ => rfl)
    · exact bad (by rw [hpar, bI_z e2]; simp)
