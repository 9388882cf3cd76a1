-- ===== 20b: the class's functions: what applies, what is least =====
theorem sp_thatApply {σ : Sg} {p n : Nat} {ls : Nat → List Nat} {g : Nat → Option Nat} (hp : FnP p) (hn : n ≤ 16) (h5 : ∀ q c, q < 3 → c < n → ∀ m, m < 32 → bt (σ (p + 5) (16 * q + c)) m = fitB ls g q c m) {a : Nat} (ha : a < 4096) (d0 : dg a 0 < n) (d1 : dg a 1 < n) (d2 : dg a 2 < n) : Sp yX1_thatApply cX1_thatApply 2 (some .int) 1 [.inr p, .inl (nI a)] σ (rt σ (.inl (mkS (appB ls g a) 13))) := by
  refine Sp.intro rfl (Nat.le_of_ble_eq_true rfl) (fun Γ c r => ?_)
  show J Γ 0 [some (.inr p), some (.inl (nI a))] [] σ
  refine j_aload_n c dX1_thatApply_0 rfl ?_
  refine j_getR c fl_X1_31 dX1_thatApply_1 hp.lt0 (lf0 hp) rfl ?_
  refine j_iload_n c dX1_thatApply_4 rfl ?_
  refine j_iconst c (nI 0) dX1_thatApply_5 (by decide) ?_
  refine j_callSN1 c kw_X1_40 (sp_classAt σ a 0 (by omega) (by decide)) dX1_thatApply_6 rfl rfl (by decide) (Nat.le_of_ble_eq_true rfl) ?_
  refine j_iald c dX1_thatApply_9 (by first | exact (Nat.le_of_ble_eq_true rfl) | exact hp.lt (by decide)) (by first | exact lf1 hp | exact lf2 hp | exact lf3 hp | exact lf4 hp | exact lf5 hp | exact lf6 hp | rfl) rfl (by omega) (by decide) ?_
  refine j_aload_n c dX1_thatApply_10 rfl ?_
  refine j_getR c fl_X1_31 dX1_thatApply_11 hp.lt0 (lf0 hp) rfl ?_
  refine j_bipush c (nI 16) dX1_thatApply_14 (by decide) ?_
  refine j_iload_n c dX1_thatApply_16 rfl ?_
  refine j_iconst c (nI 1) dX1_thatApply_17 (by decide) ?_
  refine j_callSN1 c kw_X1_40 (sp_classAt σ a 1 (by omega) (by decide)) dX1_thatApply_18 rfl rfl (by decide) (Nat.le_of_ble_eq_true rfl) ?_
  refine j_iadd c _ dX1_thatApply_21 (by first | exact nI_add _ _ | rfl) ?_
  refine j_iald c dX1_thatApply_22 (by first | exact (Nat.le_of_ble_eq_true rfl) | exact hp.lt (by decide)) (by first | exact lf1 hp | exact lf2 hp | exact lf3 hp | exact lf4 hp | exact lf5 hp | exact lf6 hp | rfl) rfl (by omega) (by decide) ?_
  refine j_iand c _ dX1_thatApply_23 rfl ?_
  refine j_aload_n c dX1_thatApply_24 rfl ?_
  refine j_getR c fl_X1_31 dX1_thatApply_25 hp.lt0 (lf0 hp) rfl ?_
  refine j_bipush c (nI 32) dX1_thatApply_28 (by decide) ?_
  refine j_iload_n c dX1_thatApply_30 rfl ?_
  refine j_iconst c (nI 2) dX1_thatApply_31 (by decide) ?_
  refine j_callSN1 c kw_X1_40 (sp_classAt σ a 2 (by omega) (by decide)) dX1_thatApply_32 rfl rfl (by decide) (Nat.le_of_ble_eq_true rfl) ?_
  refine j_iadd c _ dX1_thatApply_35 (by first | exact nI_add _ _ | rfl) ?_
  refine j_iald c dX1_thatApply_36 (by first | exact (Nat.le_of_ble_eq_true rfl) | exact hp.lt (by decide)) (by first | exact lf1 hp | exact lf2 hp | exact lf3 hp | exact lf4 hp | exact lf5 hp | exact lf6 hp | rfl) rfl (by omega) (by decide) ?_
  refine j_iand c _ dX1_thatApply_37 rfl ?_
  exact j_iret c r dX1_thatApply_38 rfl (rt.mk (by
    congr 1
    apply bt_ext
    intro m hm
    have e0 := h5 0 (dg a 0) (by decide) d0 m hm
    rw [show 16 * 0 + dg a 0 = dg a 0 by omega] at e0
    have e1 := h5 1 (dg a 1) (by decide) d1 m hm
    have e2 := h5 2 (dg a 2) (by decide) d2 m hm
    rw [bt_and, bt_and, bt_app, ← fit3]
    rw [e0]
    rw [show 16 + dg a 1 = 16 * 1 + dg a 1 by omega, e1]
    rw [show 32 + dg a 2 = 16 * 2 + dg a 2 by omega, e2]))
theorem sp_leastOf {σ : Sg} {p n pl : Nat} {ls : Nat → List Nat} {g : Nat → Option Nat} (hp : FnP p) (hG : GOK n pl ls g) (h4 : ∀ m t, g m = some t → ∀ o, o < 32 → bt (σ (p + 4) m) o = appB ls g t o) (x : Int32) (S : Nat → Bool) (hx : ∀ m, m < 32 → bt x m = (decide (m < 13) && S m)) (hS : ∀ m, m < 13 → S m = true → ∃ t, g m = some t) (call : Nat) : Sp yX1_leastOf cX1_leastOf 3 (some .int) 0 [.inr p, .inl x] σ (rt σ (.inl (fstI S (befB ls g 0 call)))) := by
  have hx13 : ∀ m, m < 13 → bt x m = S m := fun m hm => by rw [hx m (by omega)]; simp [hm]
  have hfst : ∀ m t, m < 13 → S m = true → g m = some t → ((x &&& (σ (p + 4) m ^^^ -1)) = 0 ↔ fstP S (befB ls g 0 call) m = true) := by
    intro m t hm hs ht
    rw [andnot0]
    unfold fstP
    rw [hs, Bool.true_and, allU]
    constructor
    · intro h o ho
      cases e : S o with
      | false => rfl
      | true =>
        obtain ⟨t', ht'⟩ := hS o ho e
        have h1 := h o (by omega) (by rw [hx13 o ho]; exact e)
        rw [h4 m t ht o (by omega)] at h1
        obtain ⟨t2, e2, _, e3⟩ := appB_some h1
        rw [ht'] at e2
        cases e2
        simp [befB, ht, ht', e3]
    · intro h o ho hb
      rw [hx o ho] at hb
      simp only [Bool.and_eq_true, decide_eq_true_eq] at hb
      obtain ⟨t', ht'⟩ := hS o hb.1 hb.2
      rw [h4 m t ht o ho]
      have h1 := h o hb.1
      rw [hb.2] at h1
      unfold appB
      rw [ht']
      simp only [hb.1, decide_true, Bool.true_and]
      by_cases e : o = m
      · subst e
        rw [ht] at ht'
        cases ht'
        exact (hG o t ht).2.2.1
      · simpa [e, befB, ht, ht'] using h1
  refine Sp.intro rfl (Nat.le_of_ble_eq_true rfl) (fun Γ c r => ?_)
  show J Γ 0 [some (.inr p), some (.inl x), none] [] σ
  refine j_iload_n c dX1_leastOf_0 rfl ?_
  refine j_if_ne c 6 dX1_leastOf_1 (by decide) (fun e => ?_) (fun e => ?_)
  · have hne : ∃ j, j < 13 ∧ S j = true := by
      apply Classical.byContradiction
      intro h0
      apply e
      have : x = nI 0 := bt_ext (fun k hk => by
        rw [hx k hk, bt_0]
        by_cases hk2 : k < 13
        · cases es : S k with
          | false => simp
          | true => exact absurd ⟨k, hk2, es⟩ h0
        · simp [hk2])
      rw [this]; rfl
    obtain ⟨j0, hj0, hs0⟩ := hne
    refine j_iconst c (nI 0) dX1_leastOf_6 (by decide) ?_
    refine j_istore_n c dX1_leastOf_7 (Nat.le_of_ble_eq_true rfl) rfl ?_
    have key : ∀ m, m ≤ 13 → (∀ j, j < m → fstP S (befB ls g 0 call) j = false) → J Γ 8 [some (.inr p), some (.inl x), some (.inl (nI m))] [] σ := by
      refine loopN 13 ?_ ?_
      · intro h0
        refine j_iload_n c dX1_leastOf_8 rfl ?_
        refine j_bipush c (nI 12) dX1_leastOf_9 (by decide) ?_
        refine j_icmp_gt c 43 dX1_leastOf_11 (by decide) (fun _ => ?_) (fun h_9 => absurd (nI_lt (by decide) (by decide)) h_9)
        refine j_bipush c (-2) dX1_leastOf_43 (by decide) ?_
        exact j_iret c r dX1_leastOf_45 rfl ⟨by rw [fstI_amb hj0 hs0 h0], rfl⟩
      · intro m hm ih h0
        have nxt : fstP S (befB ls g 0 call) m = false → J Γ 37 [some (.inr p), some (.inl x), some (.inl (nI m))] [] σ := by
          intro h
          refine j_iinc c _ dX1_leastOf_37 rfl (by first | exact nI_1 _ | exact pk_m1 _ | rfl) rfl ?_
          refine j_goto c 8 dX1_leastOf_40 (by decide) ?_
          refine ih (fun j hj => ?_)
          by_cases ej : j = m
          · subst ej; exact h
          · exact h0 j (by omega)
        refine j_iload_n c dX1_leastOf_8 rfl ?_
        refine j_bipush c (nI 12) dX1_leastOf_9 (by decide) ?_
        refine j_icmp_gt c 43 dX1_leastOf_11 (by decide) (fun h_9 => absurd h_9 (nI_nlt (by omega) (by decide))) (fun _ => ?_)
        refine j_iload_n c dX1_leastOf_14 rfl ?_
        refine j_iload_n c dX1_leastOf_15 rfl ?_
        refine j_ishr c _ dX1_leastOf_16 rfl ?_
        refine j_iconst c (nI 1) dX1_leastOf_17 (by decide) ?_
        refine j_iand c _ dX1_leastOf_18 (bt_shr x (by omega)) ?_
        rw [hx13 m hm]
        refine j_if_eq c 37 dX1_leastOf_19 (by decide) (fun es => ?_) (fun es => ?_)
        · exact nxt (by simp [fstP, bI_z es])
        · have es2 := bI_nz es
          obtain ⟨t, ht⟩ := hS m hm es2
          refine j_iload_n c dX1_leastOf_22 rfl ?_
          refine j_aload_n c dX1_leastOf_23 rfl ?_
          refine j_getR c fl_X1_28 dX1_leastOf_24 hp.lt0 (lf0 hp) rfl ?_
          refine j_iload_n c dX1_leastOf_27 rfl ?_
          refine j_iald c dX1_leastOf_28 (hp.lt (by decide)) (lf4 hp) rfl (by omega) (by decide) ?_
          refine j_iconst c (-1) dX1_leastOf_29 (by decide) ?_
          refine j_ixor c _ dX1_leastOf_30 rfl ?_
          refine j_iand c _ dX1_leastOf_31 rfl ?_
          refine j_if_ne c 37 dX1_leastOf_32 (by decide) (fun q => ?_) (fun q => ?_)
          · refine nxt ?_
            cases hh : fstP S (befB ls g 0 call) m with
            | false => rfl
            | true => exact absurd ((hfst m t hm es2 ht).mpr hh) q
          · refine j_iload_n c dX1_leastOf_35 rfl ?_
            exact j_iret c r dX1_leastOf_36 rfl ⟨by rw [fstI_hit hm ((hfst m t hm es2 ht).mp q) h0], rfl⟩
    exact key 0 (Nat.zero_le _) (fun j hj => by omega)
  · have h0 : ∀ m, m < 13 → S m = false := fun m hm => by
      have : x = nI 0 := e
      rw [← hx13 m hm, this, bt_0]
    refine j_iconst c (-1) dX1_leastOf_4 (by decide) ?_
    exact j_iret c r dX1_leastOf_5 rfl ⟨by rw [fstI_no h0], rfl⟩
theorem sp_atMostAllOf {σ : Sg} {p : Nat} {ls : Nat → List Nat} {g : Nat → Option Nat} (hp : FnP p) (h1 : ∀ m, m < 32 → bt (σ p 1) m = (g m).isSome) (h4 : ∀ m t, g m = some t → ∀ o, o < 32 → bt (σ (p + 4) m) o = appB ls g t o) (x : Int32) : Sp yX1_atMostAllOf cX1_atMostAllOf 4 (some .int) 0 [.inr p, .inl x] σ (rt σ (.inl (mkS (amB ls g x) 12))) := by
  refine Sp.intro rfl (Nat.le_of_ble_eq_true rfl) (fun Γ c r => ?_)
  show J Γ 0 [some (.inr p), some (.inl x), none, none] [] σ
  refine j_iconst c (nI 0) dX1_atMostAllOf_0 (by decide) ?_
  refine j_istore_n c dX1_atMostAllOf_1 (Nat.le_of_ble_eq_true rfl) rfl ?_
  refine j_iconst c (nI 0) dX1_atMostAllOf_2 (by decide) ?_
  refine j_istore_n c dX1_atMostAllOf_3 (Nat.le_of_ble_eq_true rfl) rfl ?_
  have key : ∀ k, k ≤ 12 → J Γ 4 [some (.inr p), some (.inl x), some (.inl (mkS (amB ls g x) k)), some (.inl (nI k))] [] σ := by
    refine loopN 12 ?_ ?_
    · refine j_iload_n c dX1_atMostAllOf_4 rfl ?_
      refine j_bipush c (nI 12) dX1_atMostAllOf_5 (by decide) ?_
      refine j_icmp_ge c 46 dX1_atMostAllOf_7 (by decide) (fun _ => ?_) (fun h_9 => absurd (nI_le (Nat.le_refl _) (by decide)) h_9)
      refine j_iload_n c dX1_atMostAllOf_46 rfl ?_
      exact j_iret c r dX1_atMostAllOf_47 rfl ⟨rfl, rfl⟩
    · intro k hk ih
      have no : amB ls g x k = false → J Γ 40 [some (.inr p), some (.inl x), some (.inl (mkS (amB ls g x) k)), some (.inl (nI k))] [] σ := by
        intro h
        have e : mkS (amB ls g x) (k + 1) = mkS (amB ls g x) k := by
          apply bt_ext
          intro m _
          rw [bt_mkS _ (by omega), bt_mkS _ (by omega)]
          by_cases em : m = k
          · subst em; simp [h]
          · congr 1; simp only [decide_eq_decide]; omega
        rw [e] at ih
        refine j_iinc c _ dX1_atMostAllOf_40 rfl (by first | exact nI_1 _ | exact pk_m1 _ | rfl) rfl ?_
        refine j_goto c 4 dX1_atMostAllOf_43 (by decide) ?_
        exact ih
      refine j_iload_n c dX1_atMostAllOf_4 rfl ?_
      refine j_bipush c (nI 12) dX1_atMostAllOf_5 (by decide) ?_
      refine j_icmp_ge c 46 dX1_atMostAllOf_7 (by decide) (fun h_9 => absurd h_9 (nI_ge hk (by decide))) (fun _ => ?_)
      refine j_aload_n c dX1_atMostAllOf_10 rfl ?_
      refine j_getI c fl_X1_15 dX1_atMostAllOf_11 hp.lt0 (lf0 hp) rfl ?_
      refine j_iload_n c dX1_atMostAllOf_14 rfl ?_
      refine j_ishr c _ dX1_atMostAllOf_15 rfl ?_
      refine j_iconst c (nI 1) dX1_atMostAllOf_16 (by decide) ?_
      refine j_iand c _ dX1_atMostAllOf_17 (bt_shr (σ p 1) (by omega)) ?_
      rw [h1 k (by omega)]
      refine j_if_eq c 40 dX1_atMostAllOf_18 (by decide) (fun e => ?_) (fun e => ?_)
      · refine no ?_
        have e2 := bI_z e
        cases hg : g k with
        | none => simp [amB, hg]
        | some t => rw [hg] at e2; cases e2
      · obtain ⟨t, ht⟩ := Option.isSome_iff_exists.mp (bI_nz e)
        have hb : amB ls g x k = true ↔ ∀ o, o < 32 → bt x o = true → bt (σ (p + 4) k) o = true := by
          unfold amB
          rw [ht]
          show (List.range 32).all _ = true ↔ _
          rw [allU]
          constructor
          · intro h o ho hx
            have h2 := h o ho
            rw [hx] at h2
            rw [h4 k t ht o ho]
            simpa using h2
          · intro h o ho
            cases hx : bt x o with
            | false => rfl
            | true =>
              have h2 := h o ho hx
              rw [h4 k t ht o ho] at h2
              simp [h2]
        refine j_iload_n c dX1_atMostAllOf_21 rfl ?_
        refine j_aload_n c dX1_atMostAllOf_22 rfl ?_
        refine j_getR c fl_X1_28 dX1_atMostAllOf_23 hp.lt0 (lf0 hp) rfl ?_
        refine j_iload_n c dX1_atMostAllOf_26 rfl ?_
        refine j_iald c dX1_atMostAllOf_27 (hp.lt (by decide)) (lf4 hp) rfl (by omega) (by decide) ?_
        refine j_iconst c (-1) dX1_atMostAllOf_28 (by decide) ?_
        refine j_ixor c _ dX1_atMostAllOf_29 rfl ?_
        refine j_iand c _ dX1_atMostAllOf_30 rfl ?_
        refine j_if_ne c 40 dX1_atMostAllOf_31 (by decide) (fun q => ?_) (fun q => ?_)
        · rw [andnot0, ← hb] at q
          exact no (by simpa using q)
        · rw [andnot0, ← hb] at q
          refine j_iload_n c dX1_atMostAllOf_34 rfl ?_
          refine j_iconst c (nI 1) dX1_atMostAllOf_35 (by decide) ?_
          refine j_iload_n c dX1_atMostAllOf_36 rfl ?_
          refine j_ishl c _ dX1_atMostAllOf_37 rfl ?_
          refine j_ior c _ dX1_atMostAllOf_38 (show _ = mkS (amB ls g x) (k + 1) by simp [mkS, q]) ?_
          refine j_istore_n c dX1_atMostAllOf_39 (Nat.le_of_ble_eq_true rfl) rfl ?_
          refine j_iinc c _ dX1_atMostAllOf_40 rfl (by first | exact nI_1 _ | exact pk_m1 _ | rfl) rfl ?_
          refine j_goto c 4 dX1_atMostAllOf_43 (by decide) ?_
          exact ih
  exact key 0 (Nat.zero_le _)
theorem sp_hasMethodFor {σ : Sg} {p : Nat} {g : Nat → Option Nat} (hp : FnP p) (h1 : ∀ m, m < 32 → bt (σ p 1) m = (g m).isSome) (h2 : ∀ m t, g m = some t → σ (p + 1) m = nI t ∧ t < 4096) {w : Nat} (hw : w < 4096) : Sp yX1_hasMethodFor cX1_hasMethodFor 3 (some .boolean) 0 [.inr p, .inl (nI w)] σ (rt σ (.inl (bI (fnd (fun m => decide (g m = some w)) 12).isSome))) := by
  refine Sp.intro rfl (Nat.le_of_ble_eq_true rfl) (fun Γ c r => ?_)
  show J Γ 0 [some (.inr p), some (.inl (nI w)), none] [] σ
  refine j_iconst c (nI 0) dX1_hasMethodFor_0 (by decide) ?_
  refine j_istore_n c dX1_hasMethodFor_1 (Nat.le_of_ble_eq_true rfl) rfl ?_
  have key : ∀ k, k ≤ 12 → (∀ j, j < k → decide (g j = some w) = false) → J Γ 2 [some (.inr p), some (.inl (nI w)), some (.inl (nI k))] [] σ := by
    refine loopN 12 ?_ ?_
    · intro h0
      refine j_iload_n c dX1_hasMethodFor_2 rfl ?_
      refine j_bipush c (nI 12) dX1_hasMethodFor_3 (by decide) ?_
      refine j_icmp_ge c 37 dX1_hasMethodFor_5 (by decide) (fun _ => ?_) (fun h_9 => absurd (nI_le (Nat.le_refl _) (by decide)) h_9)
      refine j_iconst c (nI 0) dX1_hasMethodFor_37 (by decide) ?_
      exact j_iret c r dX1_hasMethodFor_38 rfl (rtF (by rw [fnd_no h0]; rfl))
    · intro k hk ih h0
      have nxt : decide (g k = some w) = false → J Γ 31 [some (.inr p), some (.inl (nI w)), some (.inl (nI k))] [] σ := by
        intro h
        refine j_iinc c _ dX1_hasMethodFor_31 rfl (by first | exact nI_1 _ | exact pk_m1 _ | rfl) rfl ?_
        refine j_goto c 2 dX1_hasMethodFor_34 (by decide) ?_
        refine ih (fun j hj => ?_)
        by_cases ej : j = k
        · subst ej; exact h
        · exact h0 j (by omega)
      refine j_iload_n c dX1_hasMethodFor_2 rfl ?_
      refine j_bipush c (nI 12) dX1_hasMethodFor_3 (by decide) ?_
      refine j_icmp_ge c 37 dX1_hasMethodFor_5 (by decide) (fun h_9 => absurd h_9 (nI_ge hk (by decide))) (fun _ => ?_)
      refine j_aload_n c dX1_hasMethodFor_8 rfl ?_
      refine j_getI c fl_X1_15 dX1_hasMethodFor_9 hp.lt0 (lf0 hp) rfl ?_
      refine j_iload_n c dX1_hasMethodFor_12 rfl ?_
      refine j_ishr c _ dX1_hasMethodFor_13 rfl ?_
      refine j_iconst c (nI 1) dX1_hasMethodFor_14 (by decide) ?_
      refine j_iand c _ dX1_hasMethodFor_15 (bt_shr (σ p 1) (by omega)) ?_
      rw [h1 k (by omega)]
      refine j_if_eq c 31 dX1_hasMethodFor_16 (by decide) (fun e => ?_) (fun e => ?_)
      · refine nxt ?_
        have e2 := bI_z e
        cases hg : g k with
        | none => simp
        | some t => rw [hg] at e2; cases e2
      · obtain ⟨t, ht⟩ := Option.isSome_iff_exists.mp (bI_nz e)
        obtain ⟨h3, h4⟩ := h2 k t ht
        refine j_aload_n c dX1_hasMethodFor_19 rfl ?_
        refine j_getR c fl_X1_18 dX1_hasMethodFor_20 hp.lt0 (lf0 hp) rfl ?_
        refine j_iload_n c dX1_hasMethodFor_23 rfl ?_
        refine j_iald c dX1_hasMethodFor_24 (hp.lt (by decide)) (lf1 hp) rfl (by omega) (by decide) ?_
        rw [h3]
        refine j_iload_n c dX1_hasMethodFor_25 rfl ?_
        refine j_icmp_ne c 31 dX1_hasMethodFor_26 (by decide) (fun q => ?_) (fun q => ?_)
        · rw [nI_eq (by omega) (by omega)] at q
          exact nxt (by rw [ht]; simp [q])
        · rw [nI_eq (by omega) (by omega)] at q
          refine j_iconst c (nI 1) dX1_hasMethodFor_29 (by decide) ?_
          exact j_iret c r dX1_hasMethodFor_30 rfl (rtT (by rw [fnd_hit hk (by rw [ht]; simp [q]) h0]; rfl))
  exact key 0 (Nat.zero_le _) (fun j hj => by omega)
theorem sp_leastFree {σ : Sg} {p : Nat} {g : Nat → Option Nat} (hp : FnP p) (h1 : ∀ m, m < 32 → bt (σ p 1) m = (g m).isSome) : Sp yX1_leastFree cX1_leastFree 2 (some .int) 0 [.inr p] σ (rt σ (.inl (oI (frO g)))) := by
  refine Sp.intro rfl (Nat.le_of_ble_eq_true rfl) (fun Γ c r => ?_)
  show J Γ 0 [some (.inr p), none] [] σ
  refine j_iconst c (nI 0) dX1_leastFree_0 (by decide) ?_
  refine j_istore_n c dX1_leastFree_1 (Nat.le_of_ble_eq_true rfl) rfl ?_
  have key : ∀ k, k ≤ 12 → (∀ j, j < k → (g j).isNone = false) → J Γ 2 [some (.inr p), some (.inl (nI k))] [] σ := by
    refine loopN 12 ?_ ?_
    · intro h0
      refine j_iload_n c dX1_leastFree_2 rfl ?_
      refine j_bipush c (nI 12) dX1_leastFree_3 (by decide) ?_
      refine j_icmp_ge c 27 dX1_leastFree_5 (by decide) (fun _ => ?_) (fun h_9 => absurd (nI_le (Nat.le_refl _) (by decide)) h_9)
      refine j_iconst c (-1) dX1_leastFree_27 (by decide) ?_
      exact j_iret c r dX1_leastFree_28 rfl ⟨by unfold frO; rw [fnd_no h0]; rfl, rfl⟩
    · intro k hk ih h0
      refine j_iload_n c dX1_leastFree_2 rfl ?_
      refine j_bipush c (nI 12) dX1_leastFree_3 (by decide) ?_
      refine j_icmp_ge c 27 dX1_leastFree_5 (by decide) (fun h_9 => absurd h_9 (nI_ge hk (by decide))) (fun _ => ?_)
      refine j_aload_n c dX1_leastFree_8 rfl ?_
      refine j_getI c fl_X1_15 dX1_leastFree_9 hp.lt0 (lf0 hp) rfl ?_
      refine j_iload_n c dX1_leastFree_12 rfl ?_
      refine j_ishr c _ dX1_leastFree_13 rfl ?_
      refine j_iconst c (nI 1) dX1_leastFree_14 (by decide) ?_
      refine j_iand c _ dX1_leastFree_15 (bt_shr (σ p 1) (by omega)) ?_
      rw [h1 k (by omega)]
      refine j_if_ne c 21 dX1_leastFree_16 (by decide) (fun e => ?_) (fun e => ?_)
      · have e2 := bI_nz e
        refine j_iinc c _ dX1_leastFree_21 rfl (by first | exact nI_1 _ | exact pk_m1 _ | rfl) rfl ?_
        refine j_goto c 2 dX1_leastFree_24 (by decide) ?_
        refine ih (fun j hj => ?_)
        by_cases ej : j = k
        · subst ej
          cases hg : g j with
          | none => rw [hg] at e2; cases e2
          | some t => rfl
        · exact h0 j (by omega)
      · have e2 := bI_z e
        refine j_iload_n c dX1_leastFree_19 rfl ?_
        exact j_iret c r dX1_leastFree_20 rfl ⟨by
          unfold frO
          rw [fnd_hit hk (by
            cases hg : g k with
            | none => rfl
            | some t => rw [hg] at e2; cases e2) h0]
          rfl, rfl⟩
  exact key 0 (Nat.zero_le _) (fun j hj => by omega)
theorem sp_orderMethods {σ : Sg} {p n pl : Nat} {ls : Nat → List Nat} {g : Nat → Option Nat} (hp : FnP p) (hn : n ≤ 16) (hG : GOK n pl ls g) (h1 : ∀ m, m < 32 → bt (σ p 1) m = (g m).isSome) (h2 : ∀ m t, g m = some t → σ (p + 1) m = nI t) (h5 : ∀ q c, q < 3 → c < n → ∀ m, m < 32 → bt (σ (p + 5) (16 * q + c)) m = fitB ls g q c m) : Sp yX1_orderMethods cX1_orderMethods 2 none 2 [.inr p] σ (fun r σ' => r = none ∧ (∀ q, q ≠ p + 4 → σ' q = σ q) ∧ ∀ m t, g m = some t → ∀ o, o < 32 → bt (σ' (p + 4) m) o = appB ls g t o) := by
  refine Sp.intro rfl (Nat.le_of_ble_eq_true rfl) (fun Γ c r => ?_)
  show J Γ 0 [some (.inr p), none] [] σ
  refine j_iconst c (nI 0) dX1_orderMethods_0 (by decide) ?_
  refine j_istore_n c dX1_orderMethods_1 (Nat.le_of_ble_eq_true rfl) rfl ?_
  have key : ∀ k, k ≤ 13 → ∀ σ1 : Sg, (∀ q, q ≠ p + 4 → σ1 q = σ q) → (∀ m t, m < k → g m = some t → ∀ o, o < 32 → bt (σ1 (p + 4) m) o = appB ls g t o) → J Γ 2 [some (.inr p), some (.inl (nI k))] [] σ1 := by
    refine loopN 13 ?_ ?_
    · intro σ1 hq ha
      refine j_iload_n c dX1_orderMethods_2 rfl ?_
      refine j_bipush c (nI 12) dX1_orderMethods_3 (by decide) ?_
      refine j_icmp_gt c 45 dX1_orderMethods_5 (by decide) (fun _ => ?_) (fun h_9 => absurd (nI_lt (by decide) (by decide)) h_9)
      exact j_ret c r dX1_orderMethods_45 ⟨rfl, hq, fun m t ht => ha m t (hG m t ht).1 ht⟩
    · intro k hk ih σ1 hq ha
      have nxt : ∀ v : Int32, (∀ t, g k = some t → ∀ o, o < 32 → bt v o = appB ls g t o) → J Γ 38 [some (.inr p), some (.inl (nI k))] [.inl v, .inl (nI k), .inr (p + 4)] σ1 := by
        intro v hv
        refine j_iast c dX1_orderMethods_38 (by first | exact (Nat.le_of_ble_eq_true rfl) | exact hp.lt (by decide)) (by first | exact lf1 hp | exact lf2 hp | exact lf3 hp | exact lf4 hp | exact lf5 hp | exact lf6 hp | rfl) rfl (by omega) (by decide) ?_
        refine j_iinc c _ dX1_orderMethods_39 rfl (by first | exact nI_1 _ | exact pk_m1 _ | rfl) rfl ?_
        refine j_goto c 2 dX1_orderMethods_42 (by decide) ?_
        refine ih _ (fun q h => by rw [s2_np h]; exact hq q h) (fun m t hm ht o ho => ?_)
        by_cases em : m = k
        · subst em; rw [s2_at]; exact hv t ht o ho
        · rw [s2_nk em]; exact ha m t (by omega) ht o ho
      refine j_iload_n c dX1_orderMethods_2 rfl ?_
      refine j_bipush c (nI 12) dX1_orderMethods_3 (by decide) ?_
      refine j_icmp_gt c 45 dX1_orderMethods_5 (by decide) (fun h_9 => absurd h_9 (nI_nlt (by omega) (by decide))) (fun _ => ?_)
      refine j_aload_n c dX1_orderMethods_8 rfl ?_
      refine j_getR c fl_X1_28 dX1_orderMethods_9 hp.lt0 (lf0 hp) rfl ?_
      refine j_iload_n c dX1_orderMethods_12 rfl ?_
      refine j_aload_n c dX1_orderMethods_13 rfl ?_
      refine j_getI c fl_X1_15 dX1_orderMethods_14 hp.lt0 (lf0 hp) rfl ?_
      refine j_iload_n c dX1_orderMethods_17 rfl ?_
      refine j_ishr c _ dX1_orderMethods_18 rfl ?_
      refine j_iconst c (nI 1) dX1_orderMethods_19 (by decide) ?_
      refine j_iand c _ dX1_orderMethods_20 (bt_shr (σ1 p 1) (by omega)) ?_
      rw [hq p (by omega), h1 k (by omega)]
      refine j_if_eq c 37 dX1_orderMethods_21 (by decide) (fun e => ?_) (fun e => ?_)
      · have e2 := bI_z e
        refine j_iconst c (nI 0) dX1_orderMethods_37 (by decide) ?_
        exact nxt _ (fun t ht => by rw [ht] at e2; cases e2)
      · obtain ⟨t, ht⟩ := Option.isSome_iff_exists.mp (bI_nz e)
        have hg := hG k t ht
        refine j_aload_n c dX1_orderMethods_24 rfl ?_
        refine j_aload_n c dX1_orderMethods_25 rfl ?_
        refine j_getR c fl_X1_18 dX1_orderMethods_26 hp.lt0 (lf0 hp) rfl ?_
        refine j_iload_n c dX1_orderMethods_29 rfl ?_
        refine j_iald c dX1_orderMethods_30 (hp.lt (by decide)) (lf1 hp) rfl (by omega) (by decide) ?_
        rw [hq (p + 1) (by omega), h2 k t ht]
        refine j_callV1 c kw_X1_56 (sp_thatApply hp hn (by rw [hq (p + 5) (by omega)]; exact h5) hg.2.2.2.2.2.2 hg.2.2.2.1 hg.2.2.2.2.1 hg.2.2.2.2.2.1) dX1_orderMethods_31 rfl rfl (by decide) (Nat.le_of_ble_eq_true rfl) hp.lt0 (lf0 hp) rfl ?_
        refine j_goto c 38 dX1_orderMethods_34 (by decide) ?_
        exact nxt _ (fun t' ht' o ho => by rw [ht] at ht'; cases ht'; exact bt_app)
  exact key 0 (Nat.zero_le _) σ (fun _ _ => rfl) (fun m t hm => by omega)
