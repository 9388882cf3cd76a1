-- ===== 20h: the class: the first of some methods, chains, all answers =====
theorem rk_inj {l : List Nat} {x y : Nat} (hx : x ∈ l) (hy : y ∈ l) (h : l.idxOf x = l.idxOf y) : x = y := by
  have h1 : l[l.idxOf x]? = some x := by
    have := List.idxOf_lt_length_of_mem hx
    rw [List.getElem?_eq_getElem this, List.getElem_idxOf]
  have h2 : l[l.idxOf y]? = some y := by
    have := List.idxOf_lt_length_of_mem hy
    rw [List.getElem?_eq_getElem this, List.getElem_idxOf]
  rw [h, h2] at h1
  cases h1
  rfl
theorem dg_rk {ls : Nat → List Nat} {call a b p : Nat} (ha : up ls (dg call p) (dg a p) = true) (hb : up ls (dg call p) (dg b p) = true) : dg a p = dg b p ↔ rk ls (dg call p) (dg a p) = rk ls (dg call p) (dg b p) := by
  constructor
  · intro h; rw [h]
  · intro h
    unfold up at ha hb
    exact rk_inj (by simpa using ha) (by simpa using hb) h
theorem ahd_lex {ls : Nat → List Nat} {call a b : Nat} (ha : le3 ls call a = true) (hb : le3 ls call b = true) : ahd ls call a b = true ↔ (rk ls (dg call 0) (dg a 0) < rk ls (dg call 0) (dg b 0) ∨ (rk ls (dg call 0) (dg a 0) = rk ls (dg call 0) (dg b 0) ∧ (rk ls (dg call 1) (dg a 1) < rk ls (dg call 1) (dg b 1) ∨ (rk ls (dg call 1) (dg a 1) = rk ls (dg call 1) (dg b 1) ∧ rk ls (dg call 2) (dg a 2) < rk ls (dg call 2) (dg b 2))))) := by
  obtain ⟨a0, a1, a2⟩ := le3_at ha
  obtain ⟨b0, b1, b2⟩ := le3_at hb
  have i0 := dg_rk a0 b0
  have i1 := dg_rk a1 b1
  have i2 := dg_rk a2 b2
  unfold ahd
  by_cases e0 : dg a 0 = dg b 0
  · rw [if_neg (fun h => h e0)]
    have f0 := i0.mp e0
    by_cases e1 : dg a 1 = dg b 1
    · rw [if_neg (fun h => h e1)]
      have f1 := i1.mp e1
      by_cases e2 : dg a 2 = dg b 2
      · rw [if_neg (fun h => h e2)]
        have f2 := i2.mp e2
        simp only [Bool.false_eq_true, false_iff]
        omega
      · rw [if_pos e2]
        simp only [decide_eq_true_eq]
        omega
    · rw [if_pos e1]
      have f1 : ¬ rk ls (dg call 1) (dg a 1) = rk ls (dg call 1) (dg b 1) := fun h => e1 (i1.mpr h)
      simp only [decide_eq_true_eq]
      omega
  · rw [if_pos e0]
    have f0 : ¬ rk ls (dg call 0) (dg a 0) = rk ls (dg call 0) (dg b 0) := fun h => e0 (i0.mpr h)
    simp only [decide_eq_true_eq]
    omega
theorem ahd_total {ls : Nat → List Nat} {call a b : Nat} (ha : le3 ls call a = true) (hb : le3 ls call b = true) (h4 : a < 4096) (h5 : b < 4096) (hne : a ≠ b) (h : ¬ ahd ls call a b = true) : ahd ls call b a = true := by
  obtain ⟨a0, a1, a2⟩ := le3_at ha
  obtain ⟨b0, b1, b2⟩ := le3_at hb
  have i0 := dg_rk a0 b0
  have i1 := dg_rk a1 b1
  have i2 := dg_rk a2 b2
  rw [ahd_lex ha hb] at h
  rw [ahd_lex hb ha]
  have hd : ¬ (dg a 0 = dg b 0 ∧ dg a 1 = dg b 1 ∧ dg a 2 = dg b 2) := fun ⟨x, y, z⟩ => hne (by rw [dg3 a h4, dg3 b h5, x, y, z])
  rw [i0, i1, i2] at hd
  omega
theorem ahd_asym {ls : Nat → List Nat} {call a b : Nat} (ha : le3 ls call a = true) (hb : le3 ls call b = true) (h : ahd ls call a b = true) : ¬ ahd ls call b a = true := by
  rw [ahd_lex ha hb] at h
  rw [ahd_lex hb ha]
  omega
theorem ahd_trans {ls : Nat → List Nat} {call a b e : Nat} (ha : le3 ls call a = true) (hb : le3 ls call b = true) (he : le3 ls call e = true) (h : ahd ls call a b = true) (h2 : ahd ls call b e = true) : ahd ls call a e = true := by
  rw [ahd_lex ha hb] at h
  rw [ahd_lex hb he] at h2
  rw [ahd_lex ha he]
  omega
theorem ahd_at {ls : Nat → List Nat} {call a b p : Nat} (hp : p < 3) (h0 : ∀ j, j < p → dg a j = dg b j) (h : dg a p ≠ dg b p) : ahd ls call a b = decide (rk ls (dg call p) (dg a p) < rk ls (dg call p) (dg b p)) := by
  unfold ahd
  rcases (show p = 0 ∨ p = 1 ∨ p = 2 by omega) with rfl | rfl | rfl
  · rw [if_pos h]
  · rw [if_neg (fun g => g (h0 0 (by decide))), if_pos h]
  · rw [if_neg (fun g => g (h0 0 (by decide))), if_neg (fun g => g (h0 1 (by decide))), if_pos h]
theorem ahd_no {ls : Nat → List Nat} {call a b : Nat} (h0 : ∀ j, j < 3 → dg a j = dg b j) : ahd ls call a b = false := by
  unfold ahd
  rw [if_neg (fun g => g (h0 0 (by decide))), if_neg (fun g => g (h0 1 (by decide))), if_neg (fun g => g (h0 2 (by decide)))]
theorem le3_p {ls : Nat → List Nat} {a b p : Nat} (h : le3 ls a b = true) (hp : p < 3) : up ls (dg a p) (dg b p) = true := by
  obtain ⟨h0, h1, h2⟩ := le3_at h
  rcases (show p = 0 ∨ p = 1 ∨ p = 2 by omega) with rfl | rfl | rfl <;> assumption
theorem sp_comesAhead {T : TS} {σ : Sg} (hC : CX T σ) (hW : WF T) {call a b : Nat} (hc : call < 4096) (hd : ∀ p, dg call p < tn T) (h4 : a < 4096) (h5 : b < 4096) (ha : le3 (tls T) call a = true) (hb : le3 (tls T) call b = true) : Sp yX2_comesAhead cX2_comesAhead 6 (some .boolean) 1 [.inr 0, .inl (nI call), .inl (nI a), .inl (nI b)] σ (rt σ (.inl (bI (ahd (tls T) call a b)))) := by
  have hn := hW.1
  refine Sp.intro rfl (Nat.le_of_ble_eq_true rfl) (fun Γ c r => ?_)
  show J Γ 0 [some (.inr 0), some (.inl (nI call)), some (.inl (nI a)), some (.inl (nI b)), none, none] [] σ
  refine j_iconst c (nI 0) dX2_comesAhead_0 (by decide) ?_
  refine j_istore c dX2_comesAhead_1 (Nat.le_of_ble_eq_true rfl) rfl ?_
  have key : ∀ p, p ≤ 3 → (∀ j, j < p → dg a j = dg b j) → J Γ 3 [some (.inr 0), some (.inl (nI call)), some (.inl (nI a)), some (.inl (nI b)), some (.inl (nI p)), none] [] σ := by
    refine loopN 3 ?_ ?_
    · intro h0
      refine j_iload c dX2_comesAhead_3 rfl ?_
      refine j_iconst c (nI 3) dX2_comesAhead_5 (by decide) ?_
      refine j_icmp_ge c 84 dX2_comesAhead_6 (by decide) (fun _ => ?_) (fun h_9 => absurd (nI_le (Nat.le_refl _) (by decide)) h_9)
      refine j_iconst c (nI 0) dX2_comesAhead_84 (by decide) ?_
      exact j_iret c r dX2_comesAhead_85 rfl (rtF (ahd_no h0))
    · intro p hp ih h0
      have da := dg_lt a p
      have db := dg_lt b p
      have dc := dg_lt call p
      refine j_iload c dX2_comesAhead_3 rfl ?_
      refine j_iconst c (nI 3) dX2_comesAhead_5 (by decide) ?_
      refine j_icmp_ge c 84 dX2_comesAhead_6 (by decide) (fun h_9 => absurd h_9 (nI_ge hp (by decide))) (fun _ => ?_)
      refine j_iload_n c dX2_comesAhead_9 rfl ?_
      refine j_iload c dX2_comesAhead_10 rfl ?_
      refine j_callS1 c kw_X2_225 (sp_classAt σ a p (by omega) (by omega)) dX2_comesAhead_12 rfl rfl (by decide) (Nat.le_of_ble_eq_true rfl) ?_
      refine j_iload_n c dX2_comesAhead_15 rfl ?_
      refine j_iload c dX2_comesAhead_16 rfl ?_
      refine j_callS1 c kw_X2_225 (sp_classAt σ b p (by omega) (by omega)) dX2_comesAhead_18 rfl rfl (by decide) (Nat.le_of_ble_eq_true rfl) ?_
      refine j_icmp_eq c 78 dX2_comesAhead_21 (by decide) (fun e => ?_) (fun e => ?_)
      · rw [nI_eq (by omega) (by omega)] at e
        refine j_iinc c _ dX2_comesAhead_78 rfl (by first | exact nI_1 _ | exact pk_m1 _ | rfl) rfl ?_
        refine j_goto c 3 dX2_comesAhead_81 (by decide) ?_
        refine ih (fun j hj => ?_)
        by_cases ej : j = p
        · subst ej; exact e
        · exact h0 j (by omega)
      · rw [nI_eq (by omega) (by omega)] at e
        have ua := le3_p ha hp
        have ub := le3_p hb hp
        have ra := WF_rk hW (hd p) ua
        have rb := WF_rk hW (hd p) ub
        refine j_bipush c (nI 16) dX2_comesAhead_24 (by decide) ?_
        refine j_iload_n c dX2_comesAhead_26 rfl ?_
        refine j_iload c dX2_comesAhead_27 rfl ?_
        refine j_callS1 c kw_X2_225 (sp_classAt σ call p (by omega) (by omega)) dX2_comesAhead_29 rfl rfl (by decide) (Nat.le_of_ble_eq_true rfl) ?_
        refine j_imul c _ dX2_comesAhead_32 (by first | exact pk_mul _ _ | rfl) ?_
        refine j_istore c dX2_comesAhead_33 (Nat.le_of_ble_eq_true rfl) rfl ?_
        refine j_aload_n c dX2_comesAhead_35 rfl ?_
        refine j_getR c fl_X2_12 dX2_comesAhead_36 (Nat.le_of_ble_eq_true rfl) rfl rfl ?_
        refine j_getR c fl_X2_234 dX2_comesAhead_39 (Nat.le_of_ble_eq_true rfl) rfl rfl ?_
        refine j_iload c dX2_comesAhead_42 rfl ?_
        refine j_iload_n c dX2_comesAhead_44 rfl ?_
        refine j_iload c dX2_comesAhead_45 rfl ?_
        refine j_callS1 c kw_X2_225 (sp_classAt σ a p (by omega) (by omega)) dX2_comesAhead_47 rfl rfl (by decide) (Nat.le_of_ble_eq_true rfl) ?_
        refine j_iadd c _ dX2_comesAhead_50 (by first | exact nI_add _ _ | rfl) ?_
        refine j_iald c dX2_comesAhead_51 (by first | exact (Nat.le_of_ble_eq_true rfl) | exact hp.lt (by decide)) (by first | exact lf1 hp | exact lf2 hp | exact lf3 hp | exact lf4 hp | exact lf5 hp | exact lf6 hp | rfl) rfl (by omega) (by decide) ?_
        refine j_aload_n c dX2_comesAhead_52 rfl ?_
        refine j_getR c fl_X2_12 dX2_comesAhead_53 (Nat.le_of_ble_eq_true rfl) rfl rfl ?_
        refine j_getR c fl_X2_234 dX2_comesAhead_56 (Nat.le_of_ble_eq_true rfl) rfl rfl ?_
        refine j_iload c dX2_comesAhead_59 rfl ?_
        refine j_iload_n c dX2_comesAhead_61 rfl ?_
        refine j_iload c dX2_comesAhead_62 rfl ?_
        rw [hC.2.2.2.2.2.1 _ _ (hd p) (by unfold up at ua; simpa using ua)]
        refine j_callS1 c kw_X2_225 (sp_classAt σ b p (by omega) (by omega)) dX2_comesAhead_64 rfl rfl (by decide) (Nat.le_of_ble_eq_true rfl) ?_
        refine j_iadd c _ dX2_comesAhead_67 (by first | exact nI_add _ _ | rfl) ?_
        refine j_iald c dX2_comesAhead_68 (by first | exact (Nat.le_of_ble_eq_true rfl) | exact hp.lt (by decide)) (by first | exact lf1 hp | exact lf2 hp | exact lf3 hp | exact lf4 hp | exact lf5 hp | exact lf6 hp | rfl) rfl (by omega) (by decide) ?_
        rw [hC.2.2.2.2.2.1 _ _ (hd p) (by unfold up at ub; simpa using ub)]
        have hv := ahd_at (ls := tls T) (call := call) hp h0 e
        refine j_icmp_ge c 76 dX2_comesAhead_69 (by decide) (fun g => ?_) (fun g => ?_)
        · rw [nI_leI (by omega) (by omega)] at g
          refine j_iconst c (nI 0) dX2_comesAhead_76 (by decide) ?_
          exact j_iret c r dX2_comesAhead_77 rfl (rtF (by rw [hv]; exact decide_eq_false (by omega)))
        · rw [nI_leI (by omega) (by omega)] at g
          refine j_iconst c (nI 1) dX2_comesAhead_72 (by decide) ?_
          refine j_goto c 77 dX2_comesAhead_73 (by decide) ?_
          exact j_iret c r dX2_comesAhead_77 rfl (rtT (by rw [hv]; exact decide_eq_true (by omega)))
  exact key 0 (Nat.zero_le _) (fun j hj => by omega)
def gInj (g : Nat → Option Nat) : Prop := ∀ m m' t, g m = some t → g m' = some t → m' = m
theorem sp_foremostOf {T : TS} {σ : Sg} {p pl : Nat} {g : Nat → Option Nat} (hp : FnP p) (hC : CX T σ) (hW : WF T) (hG : GOK (tn T) pl (tls T) g) (hI : gInj g) (h3 : ∀ m t, g m = some t → σ (p + 1) m = nI t) {call : Nat} (hc : call < 4096) (hd : ∀ p, dg call p < tn T) (x : Int32) (S : Nat → Bool) (hx : ∀ m, m < 32 → bt x m = (decide (m < 13) && S m)) (hS : ∀ m, m < 13 → S m = true → appB (tls T) g call m = true) : Sp yX2_foremostOf cX2_foremostOf 6 (some .int) 2 [.inr 0, .inr p, .inl (nI call), .inl x] σ (rt σ (.inl (fstI S (befB (tls T) g 1 call)))) := by
  have hx13 : ∀ m, m < 13 → bt x m = S m := fun m hm => by rw [hx m (by omega)]; simp [hm]
  have hmem : ∀ m, m < 13 → S m = true → ∃ t, g m = some t ∧ le3 (tls T) call t = true ∧ t < 4096 := fun m hm h => by
    obtain ⟨t, e1, _, e2⟩ := appB_some (hS m hm h)
    exact ⟨t, e1, e2, (hG m t e1).2.2.2.2.2.2⟩
  have hR : ∀ m o t t', g m = some t → g o = some t' → befB (tls T) g 1 call m o = ahd (tls T) call t t' := fun m o t t' e1 e2 => by
    unfold befB
    rw [e1, e2]
    rfl
  refine Sp.intro rfl (Nat.le_of_ble_eq_true rfl) (fun Γ c r => ?_)
  show J Γ 0 [some (.inr 0), some (.inr p), some (.inl (nI call)), some (.inl x), none, none] [] σ
  have key : ∀ k, k ≤ 13 → ∀ best : Option Nat, (best = none → ∀ o, o < k → S o = false) → (∀ b, best = some b → b < k ∧ S b = true ∧ ∀ o, o < k → S o = true → o ≠ b → befB (tls T) g 1 call b o = true) → J Γ 6 [some (.inr 0), some (.inr p), some (.inl (nI call)), some (.inl x), some (.inl (oI best)), some (.inl (nI k))] [] σ := by
    refine loopN 13 ?_ ?_
    · intro best h1 h2
      refine j_iload c dX2_foremostOf_6 rfl ?_
      refine j_bipush c (nI 12) dX2_foremostOf_8 (by decide) ?_
      refine j_icmp_gt c 60 dX2_foremostOf_10 (by decide) (fun _ => ?_) (fun h_9 => absurd (nI_lt (by decide) (by decide)) h_9)
      refine j_iload c dX2_foremostOf_60 rfl ?_
      refine j_iret c r dX2_foremostOf_62 rfl (rt.mk ?_)
      congr 1
      cases best with
      | none => rw [fstI_no (h1 rfl)]; rfl
      | some b =>
        obtain ⟨hb, hs, h3'⟩ := h2 b rfl
        obtain ⟨t, e1, e2, e3⟩ := hmem b hb hs
        refine (fstI_hit hb ?_ (fun j hj => ?_)).symm
        · unfold fstP
          rw [hs, Bool.true_and]
          refine allU.mpr (fun o ho => ?_)
          cases eo : S o with
          | false => rfl
          | true =>
            by_cases ob : o = b
            · simp [ob]
            · simp [h3' o ho eo ob]
        · cases ef : fstP S (befB (tls T) g 1 call) j with
          | false => rfl
          | true =>
            have sj := fstP_S ef
            obtain ⟨t', e1', e2', e3'⟩ := hmem j (by omega) sj
            unfold fstP at ef
            simp only [Bool.and_eq_true] at ef
            have h4 := allU.mp ef.2 b hb
            rw [hs] at h4
            simp only [Bool.not_true, Bool.false_or, Bool.or_eq_true, beq_iff_eq] at h4
            rcases h4 with h4 | h4
            · omega
            · have h5 := h3' j (by omega) sj (by omega)
              rw [hR j b t' t e1' e1] at h4
              rw [hR b j t t' e1 e1'] at h5
              exact absurd h5 (ahd_asym e2' e2 h4)
    · intro k hk ih best h1 h2
      have no : S k = false → J Γ 54 [some (.inr 0), some (.inr p), some (.inl (nI call)), some (.inl x), some (.inl (oI best)), some (.inl (nI k))] [] σ := by
        intro hs
        refine j_iinc c _ dX2_foremostOf_54 rfl (by first | exact nI_1 _ | exact pk_m1 _ | rfl) rfl ?_
        refine j_goto c 6 dX2_foremostOf_57 (by decide) ?_
        refine ih best (fun hb o ho => ?_) (fun b hb => ?_)
        · by_cases eo : o = k
          · subst eo; exact hs
          · exact h1 hb o (by omega)
        · obtain ⟨q1, q2, q3⟩ := h2 b hb
          refine ⟨by omega, q2, fun o ho so ob => ?_⟩
          by_cases eo : o = k
          · subst eo; rw [hs] at so; cases so
          · exact q3 o (by omega) so ob
      refine j_iload c dX2_foremostOf_6 rfl ?_
      refine j_bipush c (nI 12) dX2_foremostOf_8 (by decide) ?_
      refine j_icmp_gt c 60 dX2_foremostOf_10 (by decide) (fun h_9 => absurd h_9 (by rw [nI_ltI (by decide) (by omega)]; omega)) (fun _ => ?_)
      refine j_iload_n c dX2_foremostOf_13 rfl ?_
      refine j_iload c dX2_foremostOf_14 rfl ?_
      refine j_ishr c _ dX2_foremostOf_16 rfl ?_
      refine j_iconst c (nI 1) dX2_foremostOf_17 (by decide) ?_
      refine j_iand c _ dX2_foremostOf_18 (bt_shr x (by omega)) ?_
      rw [hx13 k hk]
      refine j_if_eq c 54 dX2_foremostOf_19 (by decide) (fun e => ?_) (fun e => ?_)
      · exact no (bI_z e)
      · have sk := bI_nz e
        obtain ⟨tk, k1, k2, k3⟩ := hmem k hk sk
        have yes : (∀ b, best = some b → ∀ o, o < k → S o = true → befB (tls T) g 1 call k o = true) → J Γ 50 [some (.inr 0), some (.inr p), some (.inl (nI call)), some (.inl x), some (.inl (oI best)), some (.inl (nI k))] [] σ := by
          intro hh
          refine j_iload c dX2_foremostOf_50 rfl ?_
          refine j_istore c dX2_foremostOf_52 (Nat.le_of_ble_eq_true rfl) rfl ?_
          refine j_iinc c _ dX2_foremostOf_54 rfl (by first | exact nI_1 _ | exact pk_m1 _ | rfl) rfl ?_
          refine j_goto c 6 dX2_foremostOf_57 (by decide) ?_
          refine ih (some k) (fun hb => by cases hb) (fun b hb => ?_)
          cases hb
          refine ⟨by omega, sk, fun o ho so ob => ?_⟩
          cases hbe : best with
          | none => rw [h1 hbe o (by omega)] at so; cases so
          | some b => exact hh b hbe o (by omega) so
        refine j_iload c dX2_foremostOf_22 rfl ?_
        refine j_iconst c (-1) dX2_foremostOf_24 (by decide) ?_
        cases hbe : best with
        | none =>
          refine j_icmp_eq c 50 dX2_foremostOf_25 (by decide) (fun _ => ?_) (fun h_9 => absurd (by rfl) h_9)
          rw [hbe] at yes
          exact yes (fun b hb => by cases hb)
        | some b =>
          obtain ⟨q1, q2, q3⟩ := h2 b hbe
          obtain ⟨tb, b1, b2, b3⟩ := hmem b (by omega) q2
          rw [hbe] at yes
          refine j_icmp_eq c 50 dX2_foremostOf_25 (by decide) (fun h_9 => absurd h_9 (oI_ne (t := b) (by omega))) (fun _ => ?_)
          refine j_aload_n c dX2_foremostOf_28 rfl ?_
          refine j_iload_n c dX2_foremostOf_29 rfl ?_
          refine j_aload_n c dX2_foremostOf_30 rfl ?_
          refine j_getR c fl_X2_174 dX2_foremostOf_31 hp.lt0 (lf0 hp) rfl ?_
          refine j_iload c dX2_foremostOf_34 rfl ?_
          refine j_iald c dX2_foremostOf_36 (hp.lt (by decide)) (lf1 hp) rfl (by omega) (by decide) ?_
          rw [h3 k tk k1]
          refine j_aload_n c dX2_foremostOf_37 rfl ?_
          refine j_getR c fl_X2_174 dX2_foremostOf_38 hp.lt0 (lf0 hp) rfl ?_
          refine j_iload c dX2_foremostOf_41 rfl ?_
          refine j_iald c dX2_foremostOf_43 (hp.lt (by decide)) (lf1 hp) rfl (by omega) (by decide) ?_
          rw [show oI (some b) = nI b from rfl]
          rw [h3 b tb b1]
          refine j_callV1 c kw_X2_231 (sp_comesAhead hC hW hc hd k3 b3 k2 b2) dX2_foremostOf_44 rfl rfl (by decide) (Nat.le_of_ble_eq_true rfl) (Nat.le_of_ble_eq_true rfl) rfl rfl ?_
          refine j_if_eq c 54 dX2_foremostOf_47 (by decide) (fun u => ?_) (fun u => ?_)
          · refine j_iinc c _ dX2_foremostOf_54 rfl (by first | exact nI_1 _ | exact pk_m1 _ | rfl) rfl ?_
            refine j_goto c 6 dX2_foremostOf_57 (by decide) ?_
            refine ih (some b) (fun hb => by cases hb) (fun b' hb => ?_)
            cases hb
            refine ⟨by omega, q2, fun o ho so ob => ?_⟩
            by_cases eo : o = k
            · subst eo
              rw [hR b o tb tk b1 k1]
              refine ahd_total k2 b2 k3 b3 (fun et => ?_) (by rw [bI_z u]; decide)
              subst et
              have := hI b o tk b1 k1
              omega
            · exact q3 o (by omega) so ob
          · refine yes (fun b' hb o ho so => ?_)
            cases hb
            by_cases eo : o = b
            · subst eo; rw [hR k o tk tb k1 b1]; exact bI_nz u
            · obtain ⟨to, o1, o2, o3⟩ := hmem o (by omega) so
              have h5 := q3 o ho so eo
              rw [hR b o tb to b1 o1] at h5
              rw [hR k o tk to k1 o1]
              exact ahd_trans k2 b2 o2 (bI_nz u) h5
  refine j_iconst c (-1) dX2_foremostOf_0 (by decide) ?_
  refine j_istore c dX2_foremostOf_1 (Nat.le_of_ble_eq_true rfl) rfl ?_
  refine j_iconst c (nI 0) dX2_foremostOf_3 (by decide) ?_
  refine j_istore c dX2_foremostOf_4 (Nat.le_of_ble_eq_true rfl) rfl ?_
  exact key 0 (Nat.zero_le _) none (fun _ o ho => by omega) (fun b hb => by cases hb)
theorem sp_firstOfX {T : TS} {σ : Sg} {p pl ru : Nat} {g : Nat → Option Nat} (hp : FnP p) (hC : CX T σ) (hW : WF T) (hG : GOK (tn T) pl (tls T) g) (hI : gInj g) (hF : FX (tn T) (tls T) p pl g σ) (h04 : σ 0 4 = nI ru) (hru : ru < 2) {call : Nat} (hc : call < 4096) (hd : ∀ p, dg call p < tn T) (x : Int32) (S : Nat → Bool) (hx : ∀ m, m < 32 → bt x m = (decide (m < 13) && S m)) (hS : ∀ m, m < 13 → S m = true → appB (tls T) g call m = true) : Sp yX2_firstOf cX2_firstOf 4 (some .int) 3 [.inr 0, .inr p, .inl (nI call), .inl x] σ (rt σ (.inl (fstI S (befB (tls T) g ru call)))) := by
  refine Sp.intro rfl (Nat.le_of_ble_eq_true rfl) (fun Γ c r => ?_)
  show J Γ 0 [some (.inr 0), some (.inr p), some (.inl (nI call)), some (.inl x)] [] σ
  refine j_aload_n c dX2_firstOf_0 rfl ?_
  refine j_getI c fl_X2_31 dX2_firstOf_1 (Nat.le_of_ble_eq_true rfl) rfl rfl ?_
  rw [h04]
  rcases (show ru = 0 ∨ ru = 1 by omega) with rfl | rfl
  · refine j_if_ne c 15 dX2_firstOf_4 (by decide) (fun h_9 => absurd (by rfl) h_9) (fun _ => ?_)
    refine j_aload_n c dX2_firstOf_7 rfl ?_
    refine j_iload_n c dX2_firstOf_8 rfl ?_
    refine j_callV1 c kw_X2_222 (sp_leastOf hp hG hF.2.2.2.2 x S hx (fun m hm h => by obtain ⟨t, e, _⟩ := appB_some (hS m hm h); exact ⟨t, e⟩) call) dX2_firstOf_9 rfl rfl (by decide) (Nat.le_of_ble_eq_true rfl) hp.lt0 (lf0 hp) rfl ?_
    refine j_goto c 22 dX2_firstOf_12 (by decide) ?_
    exact j_iret c r dX2_firstOf_22 rfl ⟨rfl, rfl⟩
  · refine j_if_ne c 15 dX2_firstOf_4 (by decide) (fun _ => ?_) (fun h_9 => absurd h_9 (by decide))
    refine j_aload_n c dX2_firstOf_15 rfl ?_
    refine j_aload_n c dX2_firstOf_16 rfl ?_
    refine j_iload_n c dX2_firstOf_17 rfl ?_
    refine j_iload_n c dX2_firstOf_18 rfl ?_
    refine j_callV1 c kw_X2_228 (sp_foremostOf hp hC hW hG hI hF.2.2.1 hc hd x S hx hS) dX2_firstOf_19 rfl rfl (by decide) (Nat.le_of_ble_eq_true rfl) (Nat.le_of_ble_eq_true rfl) rfl rfl ?_
    exact j_iret c r dX2_firstOf_22 rfl ⟨rfl, rfl⟩
theorem sp_callCount {σ : Sg} {p n pl : Nat} (hp : FnP p) (h0 : σ p 0 = nI pl) (h1 : σ 1 0 = nI n) (hpl : pl ≤ 3) : Sp yX2_callCount cX2_callCount 4 (some .int) 0 [.inr 0, .inr p] σ (rt σ (.inl (nI (n ^ pl)))) := by
  refine Sp.intro rfl (Nat.le_of_ble_eq_true rfl) (fun Γ c r => ?_)
  show J Γ 0 [some (.inr 0), some (.inr p), none, none] [] σ
  refine j_iconst c (nI 1) dX2_callCount_0 (by decide) ?_
  refine j_istore_n c dX2_callCount_1 (Nat.le_of_ble_eq_true rfl) rfl ?_
  refine j_iconst c (nI 0) dX2_callCount_2 (by decide) ?_
  refine j_istore_n c dX2_callCount_3 (Nat.le_of_ble_eq_true rfl) rfl ?_
  have key : ∀ k, k ≤ pl → J Γ 4 [some (.inr 0), some (.inr p), some (.inl (nI (n ^ k))), some (.inl (nI k))] [] σ := by
    refine loopN _ ?_ ?_
    · refine j_iload_n c dX2_callCount_4 rfl ?_
      refine j_aload_n c dX2_callCount_5 rfl ?_
      refine j_getI c fl_X2_93 dX2_callCount_6 hp.lt0 (lf0 hp) rfl ?_
      rw [h0]
      refine j_icmp_ge c 28 dX2_callCount_9 (by decide) (fun _ => ?_) (fun h_9 => absurd (nI_le (Nat.le_refl _) (by omega)) h_9)
      refine j_iload_n c dX2_callCount_28 rfl ?_
      exact j_iret c r dX2_callCount_29 rfl ⟨rfl, rfl⟩
    · intro k hk ih
      rw [Nat.pow_succ] at ih
      refine j_iload_n c dX2_callCount_4 rfl ?_
      refine j_aload_n c dX2_callCount_5 rfl ?_
      refine j_getI c fl_X2_93 dX2_callCount_6 hp.lt0 (lf0 hp) rfl ?_
      rw [h0]
      refine j_icmp_ge c 28 dX2_callCount_9 (by decide) (fun h_9 => absurd h_9 (nI_ge hk (by omega))) (fun _ => ?_)
      refine j_iload_n c dX2_callCount_12 rfl ?_
      refine j_aload_n c dX2_callCount_13 rfl ?_
      refine j_getR c fl_X2_12 dX2_callCount_14 (Nat.le_of_ble_eq_true rfl) rfl rfl ?_
      refine j_getI c fl_X2_57 dX2_callCount_17 (Nat.le_of_ble_eq_true rfl) rfl rfl ?_
      rw [h1]
      refine j_imul c _ dX2_callCount_20 (by first | exact pk_mul _ _ | rfl) ?_
      refine j_istore_n c dX2_callCount_21 (Nat.le_of_ble_eq_true rfl) rfl ?_
      refine j_iinc c _ dX2_callCount_22 rfl (by first | exact nI_1 _ | exact pk_m1 _ | rfl) rfl ?_
      refine j_goto c 4 dX2_callCount_25 (by decide) ?_
      exact ih
  exact key 0 (Nat.zero_le _)
theorem ci_0 (n : Nat) : ci n 0 = 0 := by unfold ci; simp
theorem npow_lt {n pl i : Nat} (hn : 1 ≤ n) (hpl : pl ≤ 3) (hi : i < n ^ pl) : i < n * n * n := Nat.lt_of_lt_of_le hi (npow hn hpl)
theorem npow_b {n pl : Nat} (h16 : n ≤ 16) (hpl : pl ≤ 3) : n ^ pl ≤ 4096 := Nat.le_trans (Nat.pow_le_pow_left h16 pl) (p16 hpl)
theorem app13 {ls : Nat → List Nat} {g : Nat → Option Nat} {c : Nat} : ∀ m, m < 32 → bt (mkS (appB ls g c) 13) m = (decide (m < 13) && appB ls g c m) := fun m _ => bt_mkS _ (by decide) m
theorem WF.gInj {T : TS} (hW : WF T) {f : Nat} (hf : f < tnf T) : gInj (ttg T f) := fun m m' t h1 h2 => (hW.2.2.2.2.2.1 f m t hf h1).2.2 m' h2
/-- what filling leaves -/
def filP (T : TS) (f : Nat) (σ σ' : Sg) : Prop := InvX T σ' ∧ (∀ q, q ≠ 0 → q ≠ 13 → σ' q = σ q) ∧ (∀ j, j ≠ 10 → σ' 0 j = σ 0 j) ∧ ∀ c, vcall (tn T) (tpl T f) c = true → σ' 13 c = ansI (tls T) (ttg T f) (tru T) c
theorem sp_fillAnswers {T : TS} {σ : Sg} (hX : InvX T σ) (hW : WF T) {f : Nat} (hf : f < tnf T) : Sp yX2_fillAnswers cX2_fillAnswers 6 none 4 [.inr 0, .inl (nI f)] σ (fun r σ' => r = none ∧ filP T f σ σ') := by
  have h4 := hW.2.2.2.1
  have hn := hW.1
  have hpl := hW.2.2.2.2.1 f hf
  have hp : FnP (15 + 7 * f) := FnP.of (by omega)
  have hF := hX.2.2.2.2.2.1 f hf
  have hG := GOK.of hW hf
  have hN := npow_b hn.2 hpl.2
  refine Sp.intro rfl (Nat.le_of_ble_eq_true rfl) (fun Γ c r => ?_)
  show J Γ 0 [some (.inr 0), some (.inl (nI f)), none, none, none, none] [] σ
  refine j_aload_n c dX2_fillAnswers_0 rfl ?_
  refine j_getI c fl_X2_50 dX2_fillAnswers_1 (Nat.le_of_ble_eq_true rfl) rfl rfl ?_
  refine j_iload_n c dX2_fillAnswers_4 rfl ?_
  refine j_icmp_ne c 9 dX2_fillAnswers_5 (by decide) (fun e => ?_) (fun e => ?_)
  · refine j_aload_n c dX2_fillAnswers_9 rfl ?_
    refine j_getR c fl_X2_18 dX2_fillAnswers_10 (Nat.le_of_ble_eq_true rfl) rfl rfl ?_
    refine j_iload_n c dX2_fillAnswers_13 rfl ?_
    refine j_aald c dX2_fillAnswers_14 (Nat.le_of_ble_eq_true rfl) rfl rfl (by omega) (by decide) ?_
    refine j_astore_n c dX2_fillAnswers_15 (Nat.le_of_ble_eq_true rfl) rfl ?_
    refine j_aload_n c dX2_fillAnswers_16 rfl ?_
    refine j_aload_n c dX2_fillAnswers_17 rfl ?_
    refine j_callV1 c kw_X2_147 (sp_callCount hp hF.1 hX.1.1 hpl.2) dX2_fillAnswers_18 rfl rfl (by decide) (Nat.le_of_ble_eq_true rfl) (Nat.le_of_ble_eq_true rfl) rfl rfl ?_
    refine j_istore_n c dX2_fillAnswers_21 (Nat.le_of_ble_eq_true rfl) rfl ?_
    refine j_iconst c (nI 0) dX2_fillAnswers_22 (by decide) ?_
    refine j_istore c dX2_fillAnswers_23 (Nat.le_of_ble_eq_true rfl) rfl ?_
    refine j_iconst c (nI 0) dX2_fillAnswers_25 (by decide) ?_
    refine j_istore c dX2_fillAnswers_26 (Nat.le_of_ble_eq_true rfl) rfl ?_
    have key : ∀ i, i ≤ tn T ^ tpl T f → ∀ σ1 : Sg, (∀ q, q ≠ 13 → σ1 q = σ q) → (∀ j, j < i → σ1 13 (ci (tn T) j) = ansI (tls T) (ttg T f) (tru T) (ci (tn T) j)) → J Γ 28 [some (.inr 0), some (.inl (nI f)), some (.inr (15 + 7 * f)), some (.inl (nI (tn T ^ tpl T f))), some (.inl (nI i)), some (.inl (nI (ci (tn T) i)))] [] σ1 := by
      refine loopN _ ?_ ?_
      · intro σ1 f1 f2
        refine j_iload c dX2_fillAnswers_28 rfl ?_
        refine j_iload_n c dX2_fillAnswers_30 rfl ?_
        refine j_icmp_ge c 71 dX2_fillAnswers_31 (by decide) (fun _ => ?_) (fun h_9 => absurd (nI_le (Nat.le_refl _) (by omega)) h_9)
        refine j_aload_n c dX2_fillAnswers_71 rfl ?_
        refine j_iload_n c dX2_fillAnswers_72 rfl ?_
        refine j_putI c fl_X2_50 dX2_fillAnswers_73 (Nat.le_of_ble_eq_true rfl) rfl rfl ?_
        have hans : ∀ c, vcall (tn T) (tpl T f) c = true → σ1 13 c = ansI (tls T) (ttg T f) (tru T) c := fun x hx => by
          have hs := vcall_spec hx
          have e1 := ci_ix hn.1 hs.2.1 hs.2.2.1 (vcall_lt hx hpl.2)
          have := f2 (ix (tn T) x) (ix_lt hn.1 hpl hx)
          rw [e1] at this
          exact this
        have sq : ∀ q, q ≠ 0 → q ≠ 13 → s2 σ1 0 10 (nI f) q = σ q := fun q x1 x2 => by rw [s2_np x1]; exact f1 q x2
        have s0 : ∀ j, j ≠ 10 → s2 σ1 0 10 (nI f) 0 j = σ 0 j := fun j hj => by rw [s2_nk hj, f1 0 (by decide)]
        have s13 : s2 σ1 0 10 (nI f) 13 = σ1 13 := s2_np (by decide)
        refine j_ret c r dX2_fillAnswers_76 ⟨rfl, ?_, sq, s0, by rw [s13]; exact hans⟩
        obtain ⟨b1, b2, b3, b4, b5, b6, b7, b8, b9, b10⟩ := hX
        refine ⟨b1.keep (fun q x1 x2 => sq q (by omega) (by omega)), by rw [s0 3 (by decide)]; exact b2, by rw [s0 4 (by decide)]; exact b3, by rw [s0 5 (by decide)]; exact b4, by rw [s0 6 (by decide)]; exact b5, fun g hg => ?_, fun g x1 x2 => ?_, fun g hg => ?_, fun g m t hg ht => ?_, Or.inr ⟨f, hf, s2_at _ _ _ _, by rw [s13]; exact hans⟩⟩
        · exact (b6 g hg).keep (by rw [sq _ (by omega) (by omega)]) (by rw [sq _ (by omega) (by omega)]) (sq _ (by omega) (by omega)) (sq _ (by omega) (by omega)) (sq _ (by omega) (by omega))
        · rw [sq _ (by omega) (by omega), sq (15 + 7 * g + 5) (by omega) (by omega)]; exact b7 g x1 x2
        · exact (b8 g hg).keep (by rw [sq _ (by omega) (by omega)]) (sq _ (by omega) (by omega))
        · rw [sq _ (by omega) (by omega), sq (15 + 7 * g + 3) (by omega) (by omega)]; exact b9 g m t hg ht
      · intro i hi ih σ1 f1 f2
        have hi3 := npow_lt hn.1 hpl.2 hi
        have hv := ci_v hn.1 hn.2 hpl hi
        have hcl := ci_lt hn.1 hn.2 hi3
        have C1 : CX T σ1 := hX.1.keep (fun q x1 x2 => f1 q (by omega))
        have F1 : FX (tn T) (tls T) (15 + 7 * f) (tpl T f) (ttg T f) σ1 := hF.keep (by rw [f1 _ (by omega)]) (by rw [f1 _ (by omega)]) (f1 _ (by omega)) (f1 _ (by omega)) (f1 _ (by omega))
        refine j_iload c dX2_fillAnswers_28 rfl ?_
        refine j_iload_n c dX2_fillAnswers_30 rfl ?_
        refine j_icmp_ge c 71 dX2_fillAnswers_31 (by decide) (fun h_9 => absurd h_9 (nI_ge hi (by omega))) (fun _ => ?_)
        refine j_aload_n c dX2_fillAnswers_34 rfl ?_
        refine j_getR c fl_X2_47 dX2_fillAnswers_35 (Nat.le_of_ble_eq_true rfl) rfl rfl ?_
        refine j_iload c dX2_fillAnswers_38 rfl ?_
        refine j_aload_n c dX2_fillAnswers_40 rfl ?_
        refine j_aload_n c dX2_fillAnswers_41 rfl ?_
        refine j_iload c dX2_fillAnswers_42 rfl ?_
        refine j_aload_n c dX2_fillAnswers_44 rfl ?_
        refine j_iload c dX2_fillAnswers_45 rfl ?_
        refine j_callV1 c kw_X2_186 (sp_thatApply hp hn.2 F1.2.2.2.1 hcl.1 hcl.2.1 hcl.2.2.1 hcl.2.2.2) dX2_fillAnswers_47 rfl rfl (by decide) (Nat.le_of_ble_eq_true rfl) hp.lt0 (lf0 hp) rfl ?_
        refine j_callV1 c kw_X2_189 (sp_firstOfX hp C1 hW hG (hW.gInj hf) F1 (by rw [f1 0 (by decide)]; exact hX.2.2.1) hW.2.2.2.2.2.2.1 hcl.1 (fun p => vcall_dg hv hpl.2 hn.1) _ (appB (tls T) (ttg T f) (ci (tn T) i)) app13 (fun m _ h => h)) dX2_fillAnswers_50 rfl rfl (by decide) (Nat.le_of_ble_eq_true rfl) (Nat.le_of_ble_eq_true rfl) rfl rfl ?_
        refine j_iast c dX2_fillAnswers_53 (by first | exact (Nat.le_of_ble_eq_true rfl) | exact hp.lt (by decide)) (by first | exact lf1 hp | exact lf2 hp | exact lf3 hp | exact lf4 hp | exact lf5 hp | exact lf6 hp | rfl) rfl (by omega) (by decide) ?_
        refine j_iinc c _ dX2_fillAnswers_54 rfl (by first | exact nI_1 _ | exact pk_m1 _ | rfl) rfl ?_
        refine j_aload_n c dX2_fillAnswers_57 rfl ?_
        refine j_getR c fl_X2_12 dX2_fillAnswers_58 (Nat.le_of_ble_eq_true rfl) rfl rfl ?_
        refine j_iload c dX2_fillAnswers_61 rfl ?_
        refine j_callV1 c kw_X2_209 (sp_next (by rw [s2_np (by decide), f1 1 (by decide)]; exact hX.1.1) hn.1 hn.2 hi3) dX2_fillAnswers_63 rfl rfl (by decide) (Nat.le_of_ble_eq_true rfl) (Nat.le_of_ble_eq_true rfl) rfl rfl ?_
        refine j_istore c dX2_fillAnswers_66 (Nat.le_of_ble_eq_true rfl) rfl ?_
        refine j_goto c 28 dX2_fillAnswers_68 (by decide) ?_
        refine ih _ (fun q hq => by rw [s2_np hq]; exact f1 q hq) (fun j hj => ?_)
        by_cases ej : j = i
        · subst ej; rw [s2_at]; rfl
        · have hlt := ci_mono hn.1 hn.2 hi3 (show j < i by omega)
          rw [s2_nk (by omega)]; exact f2 j (by omega)
    have k0 := key 0 (Nat.zero_le _) σ (fun _ _ => rfl) (fun j hj => by omega)
    rw [ci_0] at k0
    exact k0
  · refine j_ret c r dX2_fillAnswers_8 ⟨rfl, hX, fun _ _ _ => rfl, fun _ _ => rfl, fun x hx => ?_⟩
    rcases hX.2.2.2.2.2.2.2.2.2 with h | ⟨g, hg, h1, h2⟩
    · rw [h] at e; exact absurd e.symm (nI_ne1 (by omega))
    · rw [h1, nI_eq (by omega) (by omega)] at e
      subst e
      exact h2 x hx
theorem sp_layChain {T : TS} {σ : Sg} (hX : InvX T σ) (hW : WF T) {f call : Nat} (hf : f < tnf T) (hc : vcall (tn T) (tpl T f) call = true) : Sp yX2_layChain cX2_layChain 6 (some .int) 4 [.inr 0, .inr (15 + 7 * f), .inl (nI call)] σ (fun r σ' => (∃ x, r = some (.inl x) ∧ ∀ m, m < 32 → bt x m = (decide (m < 13) && tcr T f call m)) ∧ σ' 0 8 = nI (tch T f call).length ∧ (∀ j m, (tch T f call)[j]? = some m → σ' 12 j = nI m) ∧ (∀ q, q ≠ 0 → q ≠ 12 → σ' q = σ q) ∧ ∀ j, j ≠ 8 → σ' 0 j = σ 0 j) := by
  have h4 := hW.2.2.2.1
  have hn := hW.1
  have hru := hW.2.2.2.2.2.2.1
  have hpl := hW.2.2.2.2.1 f hf
  have hp : FnP (15 + 7 * f) := FnP.of (by omega)
  have hF := hX.2.2.2.2.2.1 f hf
  have hG := GOK.of hW hf
  have hcs := vcall_spec hc
  have hcl := vcall_lt hc hpl.2
  refine Sp.intro rfl (Nat.le_of_ble_eq_true rfl) (fun Γ c r => ?_)
  show J Γ 0 [some (.inr 0), some (.inr (15 + 7 * f)), some (.inl (nI call)), none, none, none] [] σ
  generalize hR : befB (tls T) (ttg T f) (tru T) call = R at *
  have key : ∀ k (S : Nat → Bool) (D : List Nat) (σ1 : Sg) (x : Int32) (u : Option PV), D.length + k = 12 → (∀ m, m < 13 → S m = true → appB (tls T) (ttg T f) call m = true) → (∀ q, q ≠ 0 → q ≠ 12 → σ1 q = σ q) → (∀ j, j ≠ 8 → σ1 0 j = σ 0 j) → σ1 0 8 = nI D.length → (∀ j m, D[j]? = some m → σ1 12 j = nI m) → (∀ m, m < 32 → bt x m = (decide (m < 13) && S m)) → tch T f call = D ++ chn R k S → tcr T f call = chR R k S → J Γ 14 [some (.inr 0), some (.inr (15 + 7 * f)), some (.inl (nI call)), some (.inl x), some (.inl (nI D.length)), u] [] σ1 := by
    intro k
    induction k with
    | zero =>
      intro S D σ1 x u h1 h2 h3 h5 h6 h7 h8 h9 h10
      rw [show chn R 0 S = [] from rfl, List.append_nil] at h9
      rw [show chR R 0 S = S from rfl] at h10
      refine j_iload c dX2_layChain_14 rfl ?_
      refine j_bipush c (nI 12) dX2_layChain_16 (by decide) ?_
      refine j_icmp_ge c 72 dX2_layChain_18 (by decide) (fun _ => ?_) (fun h_9 => absurd (nI_le (by omega) (by omega)) h_9)
      refine j_iload_n c dX2_layChain_72 rfl ?_
      exact j_iret c r dX2_layChain_73 rfl ⟨⟨x, rfl, by rw [h10]; exact h8⟩, by rw [h9]; exact h6, by rw [h9]; exact h7, h3, h5⟩
    | succ k ih =>
      intro S D σ1 x u h1 h2 h3 h5 h6 h7 h8 h9 h10
      have C1 : CX T σ1 := hX.1.keep (fun q x1 x2 => h3 q (by omega) (by omega))
      have F1 : FX (tn T) (tls T) (15 + 7 * f) (tpl T f) (ttg T f) σ1 := hF.keep (by rw [h3 _ (by omega) (by omega)]) (by rw [h3 _ (by omega) (by omega)]) (h3 _ (by omega) (by omega)) (h3 _ (by omega) (by omega)) (h3 _ (by omega) (by omega))
      refine j_iload c dX2_layChain_14 rfl ?_
      refine j_bipush c (nI 12) dX2_layChain_16 (by decide) ?_
      refine j_icmp_ge c 72 dX2_layChain_18 (by decide) (fun h_9 => absurd h_9 (nI_ge (by omega) (by decide))) (fun _ => ?_)
      refine j_aload_n c dX2_layChain_21 rfl ?_
      refine j_aload_n c dX2_layChain_22 rfl ?_
      refine j_iload_n c dX2_layChain_23 rfl ?_
      refine j_iload_n c dX2_layChain_24 rfl ?_
      refine j_callV1 c kw_X2_189 (sp_firstOfX hp C1 hW hG (hW.gInj hf) F1 (by rw [h5 4 (by decide)]; exact hX.2.2.1) hru hcl (fun p => vcall_dg hc hpl.2 hn.1) x S h8 h2) dX2_layChain_25 rfl rfl (by decide) (Nat.le_of_ble_eq_true rfl) (Nat.le_of_ble_eq_true rfl) rfl rfl ?_
      rw [hR]
      rcases fstI_fnd (S := S) (R := R) with ⟨hneg, hno⟩ | ⟨m, hm, hs, hv, hso⟩
      · have e1 : chn R (k + 1) S = [] := by unfold chn; rw [hno]
        have e2 : chR R (k + 1) S = S := by unfold chR; rw [hno]
        rw [e1, List.append_nil] at h9
        rw [e2] at h10
        refine j_istore c dX2_layChain_28 (Nat.le_of_ble_eq_true rfl) rfl ?_
        refine j_iload c dX2_layChain_30 rfl ?_
        refine j_if_ge c 38 dX2_layChain_32 (by decide) (fun h_9 => absurd h_9 (Int32.not_le.mpr hneg)) (fun _ => ?_)
        refine j_goto c 72 dX2_layChain_35 (by decide) ?_
        refine j_iload_n c dX2_layChain_72 rfl ?_
        exact j_iret c r dX2_layChain_73 rfl ⟨⟨x, rfl, by rw [h10]; exact h8⟩, by rw [h9]; exact h6, by rw [h9]; exact h7, h3, h5⟩
      · have e1 : chn R (k + 1) S = m :: chn R k (remB S m) := by
          show (match fnd (fstP S R) 13 with | some m => m :: chn R k (remB S m) | none => []) = _
          rw [hso]
        have e2 : chR R (k + 1) S = chR R k (remB S m) := by
          show (match fnd (fstP S R) 13 with | some m => chR R k (remB S m) | none => S) = _
          rw [hso]
        rw [e1] at h9
        rw [e2] at h10
        rw [hv]
        refine j_istore c dX2_layChain_28 (Nat.le_of_ble_eq_true rfl) rfl ?_
        refine j_iload c dX2_layChain_30 rfl ?_
        refine j_if_ge c 38 dX2_layChain_32 (by decide) (fun _ => ?_) (fun h_9 => absurd (nI_le (a := 0) (by omega) (by omega)) h_9)
        refine j_aload_n c dX2_layChain_38 rfl ?_
        refine j_getR c fl_X2_40 dX2_layChain_39 (Nat.le_of_ble_eq_true rfl) rfl rfl ?_
        refine j_iload c dX2_layChain_42 rfl ?_
        refine j_iload c dX2_layChain_44 rfl ?_
        refine j_iast c dX2_layChain_46 (Nat.le_of_ble_eq_true rfl) rfl rfl (by omega) (by decide) ?_
        refine j_aload_n c dX2_layChain_47 rfl ?_
        refine j_dup c dX2_layChain_48 ?_
        refine j_getI c fl_X2_44 dX2_layChain_49 (Nat.le_of_ble_eq_true rfl) rfl rfl ?_
        rw [s2_np (by decide), h6]
        refine j_iconst c (nI 1) dX2_layChain_52 (by decide) ?_
        refine j_iadd c _ dX2_layChain_53 (by first | exact nI_add _ _ | rfl) ?_
        refine j_putI c fl_X2_44 dX2_layChain_54 (Nat.le_of_ble_eq_true rfl) rfl rfl ?_
        refine j_iload_n c dX2_layChain_57 rfl ?_
        refine j_iconst c (nI 1) dX2_layChain_58 (by decide) ?_
        refine j_iload c dX2_layChain_59 rfl ?_
        refine j_ishl c _ dX2_layChain_61 rfl ?_
        refine j_iconst c (-1) dX2_layChain_62 (by decide) ?_
        refine j_ixor c _ dX2_layChain_63 rfl ?_
        refine j_iand c _ dX2_layChain_64 rfl ?_
        refine j_istore_n c dX2_layChain_65 (Nat.le_of_ble_eq_true rfl) rfl ?_
        refine j_iinc c _ dX2_layChain_66 rfl (by first | exact nI_1 _ | exact pk_m1 _ | rfl) rfl ?_
        refine j_goto c 14 dX2_layChain_69 (by decide) ?_
        have hl2 : (D ++ [m]).length = D.length + 1 := by simp
        have ih2 := ih (remB S m) (D ++ [m]) (s2 (s2 σ1 12 D.length (nI m)) 0 8 (nI (D.length + 1))) (x &&& (nI 1 <<< (nI m &&& 31) ^^^ -1)) (some (.inl (nI m))) (by omega) (fun m' hm' h => by
          simp only [remB, Bool.and_eq_true] at h
          exact h2 m' hm' h.1) (fun q x1 x2 => by rw [s2_np x1, s2_np x2]; exact h3 q x1 x2) (fun j hj => by rw [s2_nk hj, s2_np (by decide)]; exact h5 j hj) (by rw [s2_at, hl2]) (fun j m' hj => by
          rw [s2_np (by decide)]
          by_cases ej : j = D.length
          · subst ej
            rw [List.getElem?_append_right (Nat.le_refl _), Nat.sub_self] at hj
            cases hj
            exact s2_at _ _ _ _
          · rw [s2_nk ej]
            have : j < D.length := by
              have := (List.getElem?_eq_some_iff.mp hj).1
              simp at this
              omega
            rw [List.getElem?_append_left this] at hj
            exact h7 j m' hj) (fun o ho => by
          rw [bt_and, bt_not _ ho, bt_one (by omega), h8 o ho]
          simp [remB, Bool.and_assoc]) (by rw [h9]; simp) h10
        rw [hl2] at ih2
        exact ih2
  refine j_aload_n c dX2_layChain_0 rfl ?_
  refine j_iload_n c dX2_layChain_1 rfl ?_
  refine j_callV1 c kw_X2_186 (sp_thatApply hp hn.2 hF.2.2.2.1 hcl hcs.2.1 hcs.2.2.1 hcs.2.2.2) dX2_layChain_2 rfl rfl (by decide) (Nat.le_of_ble_eq_true rfl) hp.lt0 (lf0 hp) rfl ?_
  refine j_istore_n c dX2_layChain_5 (Nat.le_of_ble_eq_true rfl) rfl ?_
  refine j_aload_n c dX2_layChain_6 rfl ?_
  refine j_iconst c (nI 0) dX2_layChain_7 (by decide) ?_
  refine j_putI c fl_X2_44 dX2_layChain_8 (Nat.le_of_ble_eq_true rfl) rfl rfl ?_
  refine j_iconst c (nI 0) dX2_layChain_11 (by decide) ?_
  refine j_istore c dX2_layChain_12 (Nat.le_of_ble_eq_true rfl) rfl ?_
  exact key 12 (appB (tls T) (ttg T f) call) [] _ _ none rfl (fun m _ h => h) (fun q x1 x2 => s2_np x1) (fun j hj => s2_nk hj) (s2_at _ _ _ _) (fun j m h => by simp at h) app13 (by unfold tch; rw [hR]; rfl) (by unfold tcr; rw [hR])
