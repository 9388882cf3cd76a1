-- ===== 10c: the reference: what applies, what is first =====
theorem sp_whatOf {T : TS} {mo : Option (Nat × Nat)} {σ : Sg} (hM : InvM T mo σ) (hW : WF T) {f m t : Nat} (hf : f < tnf T) (hmo : MoOK T f mo) (ht : tgx (ttg T f) mo m = some t) : Sp yX3_whatOf cX3_whatOf 3 (some .int) 0 [.inr 50, .inl (nI f), .inl (nI m)] σ (rt σ (.inl (nI t))) := by
  have h4 := hW.2.2.2.1
  have hv := tgx_v hW hf hmo ht
  have hm13 := hv.1
  have h19 := hM.2.2.2.2.2.2.2.2.2.2.2.2.2.2.1
  refine Sp.intro rfl (Nat.le_of_ble_eq_true rfl) (fun Γ c r => ?_)
  show J Γ 0 [some (.inr 50), some (.inl (nI f)), some (.inl (nI m))] [] σ
  have fin : ttg T f m = some t → J Γ 23 [some (.inr 50), some (.inl (nI f)), some (.inl (nI m))] [] σ := by
    intro h1
    have h2 := (hW.2.2.2.2.2.1 f m t hf h1).1
    refine j_aload_n c dX3_whatOf_23 rfl ?_
    refine j_getR c fl_X3_25 dX3_whatOf_24 (Nat.le_of_ble_eq_true rfl) rfl rfl ?_
    refine j_bipush c (nI 12) dX3_whatOf_27 (by decide) ?_
    refine j_iload_n c dX3_whatOf_29 rfl ?_
    refine j_imul c _ dX3_whatOf_30 (by first | exact pk_mul _ _ | rfl) ?_
    refine j_iload_n c dX3_whatOf_31 rfl ?_
    refine j_iadd c _ dX3_whatOf_32 (by first | exact nI_add _ _ | rfl) ?_
    refine j_iald c dX3_whatOf_33 (Nat.le_of_ble_eq_true rfl) rfl rfl (by omega) (by decide) ?_
    rw [hM.2.2.2.2.2.2.2.1 f m hf h2, h1]
    exact j_iret c r dX3_whatOf_34 rfl ⟨rfl, rfl⟩
  refine j_aload_n c dX3_whatOf_0 rfl ?_
  refine j_getI c fl_X3_49 dX3_whatOf_1 (Nat.le_of_ble_eq_true rfl) rfl rfl ?_
  refine j_iconst c (-1) dX3_whatOf_4 (by decide) ?_
  rw [h19]
  cases mo with
  | none =>
    refine j_icmp_eq c 23 dX3_whatOf_5 (by decide) (fun _ => ?_) (fun h => absurd (by rfl) h)
    exact fin ht
  | some x =>
    obtain ⟨w, k⟩ := x
    have hw := hmo w k rfl
    have hw2 := vcall_lt hw.2.2 (hW.2.2.2.2.1 f hf).2
    refine j_icmp_eq c 23 dX3_whatOf_5 (by decide) (fun h => absurd h (oI_ne (t := w) (by omega))) (fun _ => ?_)
    refine j_iload_n c dX3_whatOf_8 rfl ?_
    refine j_aload_n c dX3_whatOf_9 rfl ?_
    refine j_getI c fl_X3_142 dX3_whatOf_10 (Nat.le_of_ble_eq_true rfl) rfl rfl ?_
    rw [hM.2.2.2.2.2.2.2.2.2.2.2.2.2.2.2 w k rfl]
    refine j_icmp_ne c 23 dX3_whatOf_13 (by decide) (fun e => ?_) (fun e => ?_)
    · rw [nI_eq (by omega) (by omega)] at e
      refine fin ?_
      have h1 : (if m = k then some w else ttg T f m) = some t := ht
      rw [if_neg e] at h1
      exact h1
    · rw [nI_eq (by omega) (by omega)] at e
      have h1 : (if m = k then some w else ttg T f m) = some t := ht
      rw [if_pos e] at h1
      cases h1
      refine j_aload_n c dX3_whatOf_16 rfl ?_
      refine j_getI c fl_X3_49 dX3_whatOf_17 (Nat.le_of_ble_eq_true rfl) rfl rfl ?_
      rw [h19]
      refine j_goto c 34 dX3_whatOf_20 (by decide) ?_
      exact j_iret c r dX3_whatOf_34 rfl ⟨rfl, rfl⟩
theorem appX {T : TS} {mo : Option (Nat × Nat)} {f call : Nat} (hmo : MoOK T f mo) (hW : WF T) (hf : f < tnf T) : (match mo with | none => mkS (appB (tls T) (ttg T f) call) 12 | some (w, k) => if le3 (tls T) call w = true then mkS (appB (tls T) (ttg T f) call) 12 ||| nI 1 <<< (nI k &&& 31) else mkS (appB (tls T) (ttg T f) call) 12) = mkS (appB (tls T) (tgx (ttg T f) mo) call) 13 := by
  have no12 : ∀ m, 12 ≤ m → ttg T f m = none := fun m hm => by
    cases e : ttg T f m with
    | none => rfl
    | some t => exact absurd (hW.2.2.2.2.2.1 f m t hf e).1 (by omega)
  cases mo with
  | none =>
    apply bt_ext
    intro m _
    show bt (mkS (appB (tls T) (ttg T f) call) 12) m = _
    rw [bt_mkS _ (by decide), bt_mkS _ (by decide)]
    show _ = (decide (m < 13) && appB (tls T) (ttg T f) call m)
    by_cases h : m < 12
    · simp [h, show m < 13 by omega]
    · have : appB (tls T) (ttg T f) call m = false := by simp [appB, no12 m (by omega)]
      simp [this]
  | some x =>
    obtain ⟨w, k⟩ := x
    have hk := hmo w k rfl
    have key : ∀ m, m ≠ k → appB (tls T) (tgx (ttg T f) (some (w, k))) call m = appB (tls T) (ttg T f) call m := fun m h => by
      simp [appB, tgx, h]
    have atk : appB (tls T) (tgx (ttg T f) (some (w, k))) call k = le3 (tls T) call w := by
      simp [appB, tgx]
      intro _; omega
    have offk : bt (mkS (appB (tls T) (ttg T f) call) 12) k = false := by
      rw [bt_mkS _ (by decide)]
      by_cases h : k < 12
      · simp [appB, hk.2.1 h]
      · simp [h]
    apply bt_ext
    intro m _
    rw [bt_mkS _ (by decide)]
    have e12 : m ≠ k → bt (mkS (appB (tls T) (ttg T f) call) 12) m = (decide (m < 13) && appB (tls T) (tgx (ttg T f) (some (w, k))) call m) := fun h => by
      rw [bt_mkS _ (by decide), key m h]
      by_cases h1 : m < 12
      · simp [h1, show m < 13 by omega]
      · have : appB (tls T) (ttg T f) call m = false := by simp [appB, no12 m (by omega)]
        simp [this]
    show bt (if le3 (tls T) call w = true then mkS (appB (tls T) (ttg T f) call) 12 ||| nI 1 <<< (nI k &&& 31) else mkS (appB (tls T) (ttg T f) call) 12) m = _
    by_cases hm : m = k
    · subst hm
      rw [atk]
      by_cases hl : le3 (tls T) call w = true
      · rw [if_pos hl, bt_or, bt_one (by omega), hl]; simp; omega
      · rw [if_neg hl, offk]; simp [hl]
    · by_cases hl : le3 (tls T) call w = true
      · rw [if_pos hl, bt_or, bt_one (by omega), e12 hm]; simp [hm]
      · rw [if_neg hl, e12 hm]
theorem sp_applicableTo {T : TS} {mo : Option (Nat × Nat)} {σ : Sg} (hM : InvM T mo σ) (hW : WF T) {f call : Nat} (hf : f < tnf T) (hmo : MoOK T f mo) (hc : vcall (tn T) (tpl T f) call = true) : Sp yX3_applicableTo cX3_applicableTo 5 (some .int) 2 [.inr 50, .inl (nI f), .inl (nI call)] σ (rt σ (.inl (mkS (appB (tls T) (tgx (ttg T f) mo) call) 13))) := by
  have h4 := hW.2.2.2.1
  have hpl := hW.2.2.2.2.1 f hf
  have h19 := hM.2.2.2.2.2.2.2.2.2.2.2.2.2.2.1
  have hX := appX (call := call) hmo hW hf
  refine Sp.intro rfl (Nat.le_of_ble_eq_true rfl) (fun Γ c r => ?_)
  show J Γ 0 [some (.inr 50), some (.inl (nI f)), some (.inl (nI call)), none, none] [] σ
  rw [← hX] at r
  refine j_iconst c (nI 0) dX3_applicableTo_0 (by decide) ?_
  refine j_istore_n c dX3_applicableTo_1 (Nat.le_of_ble_eq_true rfl) rfl ?_
  refine j_iconst c (nI 0) dX3_applicableTo_2 (by decide) ?_
  refine j_istore c dX3_applicableTo_3 (Nat.le_of_ble_eq_true rfl) rfl ?_
  have key : ∀ k, k ≤ 12 → J Γ 5 [some (.inr 50), some (.inl (nI f)), some (.inl (nI call)), some (.inl (mkS (appB (tls T) (ttg T f) call) k)), some (.inl (nI k))] [] σ := by
    refine loopN 12 ?_ ?_
    · refine j_iload c dX3_applicableTo_5 rfl ?_
      refine j_bipush c (nI 12) dX3_applicableTo_7 (by decide) ?_
      refine j_icmp_ge c 66 dX3_applicableTo_9 (by decide) (fun _ => ?_) (fun h => absurd (nI_le (Nat.le_refl _) (by decide)) h)
      refine j_aload_n c dX3_applicableTo_66 rfl ?_
      refine j_getI c fl_X3_49 dX3_applicableTo_67 (Nat.le_of_ble_eq_true rfl) rfl rfl ?_
      refine j_iconst c (-1) dX3_applicableTo_70 (by decide) ?_
      rw [h19]
      cases mo with
      | none =>
        refine j_icmp_eq c 98 dX3_applicableTo_71 (by decide) (fun _ => ?_) (fun h => absurd (by rfl) h)
        refine j_iload_n c dX3_applicableTo_98 rfl ?_
        exact j_iret c r dX3_applicableTo_99 rfl ⟨rfl, rfl⟩
      | some x =>
        obtain ⟨w, k⟩ := x
        have hw := hmo w k rfl
        have hw2 := vcall_lt hw.2.2 hpl.2
        refine j_icmp_eq c 98 dX3_applicableTo_71 (by decide) (fun h => absurd h (oI_ne (t := w) (by omega))) (fun _ => ?_)
        refine j_aload_n c dX3_applicableTo_74 rfl ?_
        refine j_iload_n c dX3_applicableTo_75 rfl ?_
        refine j_iload_n c dX3_applicableTo_76 rfl ?_
        refine j_aload_n c dX3_applicableTo_77 rfl ?_
        refine j_getI c fl_X3_49 dX3_applicableTo_78 (Nat.le_of_ble_eq_true rfl) rfl rfl ?_
        rw [h19]
        refine j_callV1 c kw_X3_111 (sp_areOf hM hW hf hc (vcall_spec hw.2.2).1) dX3_applicableTo_81 rfl rfl (by decide) (Nat.le_of_ble_eq_true rfl) (Nat.le_of_ble_eq_true rfl) rfl rfl ?_
        refine j_if_eq c 98 dX3_applicableTo_84 (by decide) (fun e => ?_) (fun e => ?_)
        · rw [bI_ne0] at e
          refine j_iload_n c dX3_applicableTo_98 rfl ?_
          exact j_iret c r dX3_applicableTo_99 rfl ⟨by simp [e], rfl⟩
        · have e2 : le3 (tls T) call w = true := by simpa [bI_ne0] using e
          refine j_iload_n c dX3_applicableTo_87 rfl ?_
          refine j_iconst c (nI 1) dX3_applicableTo_88 (by decide) ?_
          refine j_aload_n c dX3_applicableTo_89 rfl ?_
          refine j_getI c fl_X3_142 dX3_applicableTo_90 (Nat.le_of_ble_eq_true rfl) rfl rfl ?_
          rw [hM.2.2.2.2.2.2.2.2.2.2.2.2.2.2.2 w k rfl]
          refine j_ishl c _ dX3_applicableTo_93 rfl ?_
          refine j_ior c _ dX3_applicableTo_94 rfl ?_
          refine j_goto c 99 dX3_applicableTo_95 (by decide) ?_
          exact j_iret c r dX3_applicableTo_99 rfl ⟨by simp [e2], rfl⟩
    · intro k hk ih
      have ho : ∀ t, ttg T f k = some t → t < 4096 := fun t ht => vcall_lt (hW.2.2.2.2.2.1 f k t hf ht).2.1 hpl.2
      have h56 := hM.2.2.2.2.2.2.2.1 f k hf hk
      refine j_iload c dX3_applicableTo_5 rfl ?_
      refine j_bipush c (nI 12) dX3_applicableTo_7 (by decide) ?_
      refine j_icmp_ge c 66 dX3_applicableTo_9 (by decide) (fun h => absurd h (nI_ge hk (by decide))) (fun _ => ?_)
      refine j_iload_n c dX3_applicableTo_12 rfl ?_
      refine j_aload_n c dX3_applicableTo_13 rfl ?_
      refine j_getR c fl_X3_25 dX3_applicableTo_14 (Nat.le_of_ble_eq_true rfl) rfl rfl ?_
      refine j_bipush c (nI 12) dX3_applicableTo_17 (by decide) ?_
      refine j_iload_n c dX3_applicableTo_19 rfl ?_
      refine j_imul c _ dX3_applicableTo_20 (by first | exact pk_mul _ _ | rfl) ?_
      refine j_iload c dX3_applicableTo_21 rfl ?_
      refine j_iadd c _ dX3_applicableTo_23 (by first | exact nI_add _ _ | rfl) ?_
      refine j_iald c dX3_applicableTo_24 (Nat.le_of_ble_eq_true rfl) rfl rfl (by omega) (by decide) ?_
      refine j_iconst c (-1) dX3_applicableTo_25 (by decide) ?_
      rw [h56]
      cases et : ttg T f k with
      | none =>
        refine j_icmp_eq c 57 dX3_applicableTo_26 (by decide) (fun _ => ?_) (fun h => absurd (by rfl) h)
        refine j_iconst c (nI 0) dX3_applicableTo_57 (by decide) ?_
        refine j_ior c _ dX3_applicableTo_58 (show _ = mkS (appB (tls T) (ttg T f) call) (k + 1) by simp [mkS, appB, et]) ?_
        refine j_istore_n c dX3_applicableTo_59 (Nat.le_of_ble_eq_true rfl) rfl ?_
        refine j_iinc c _ dX3_applicableTo_60 rfl (by first | exact nI_1 _ | exact pk_m1 _ | rfl) rfl ?_
        refine j_goto c 5 dX3_applicableTo_63 (by decide) ?_
        exact ih
      | some t =>
        have ht := ho t et
        refine j_icmp_eq c 57 dX3_applicableTo_26 (by decide) (fun h => absurd h (oI_ne (t := t) (by omega))) (fun _ => ?_)
        refine j_aload_n c dX3_applicableTo_29 rfl ?_
        refine j_iload_n c dX3_applicableTo_30 rfl ?_
        refine j_iload_n c dX3_applicableTo_31 rfl ?_
        refine j_aload_n c dX3_applicableTo_32 rfl ?_
        refine j_getR c fl_X3_25 dX3_applicableTo_33 (Nat.le_of_ble_eq_true rfl) rfl rfl ?_
        refine j_bipush c (nI 12) dX3_applicableTo_36 (by decide) ?_
        refine j_iload_n c dX3_applicableTo_38 rfl ?_
        refine j_imul c _ dX3_applicableTo_39 (by first | exact pk_mul _ _ | rfl) ?_
        refine j_iload c dX3_applicableTo_40 rfl ?_
        refine j_iadd c _ dX3_applicableTo_42 (by first | exact nI_add _ _ | rfl) ?_
        refine j_iald c dX3_applicableTo_43 (Nat.le_of_ble_eq_true rfl) rfl rfl (by omega) (by decide) ?_
        rw [h56, et]
        refine j_callV1 c kw_X3_111 (sp_areOf hM hW hf hc (vcall_spec (hW.2.2.2.2.2.1 f k t hf et).2.1).1) dX3_applicableTo_44 rfl rfl (by decide) (Nat.le_of_ble_eq_true rfl) (Nat.le_of_ble_eq_true rfl) rfl rfl ?_
        refine j_if_eq c 57 dX3_applicableTo_47 (by decide) (fun e => ?_) (fun e => ?_)
        · rw [bI_ne0] at e
          refine j_iconst c (nI 0) dX3_applicableTo_57 (by decide) ?_
          refine j_ior c _ dX3_applicableTo_58 (show _ = mkS (appB (tls T) (ttg T f) call) (k + 1) by simp [mkS, appB, et, e]) ?_
          refine j_istore_n c dX3_applicableTo_59 (Nat.le_of_ble_eq_true rfl) rfl ?_
          refine j_iinc c _ dX3_applicableTo_60 rfl (by first | exact nI_1 _ | exact pk_m1 _ | rfl) rfl ?_
          refine j_goto c 5 dX3_applicableTo_63 (by decide) ?_
          exact ih
        · have e2 : le3 (tls T) call t = true := by simpa [bI_ne0] using e
          refine j_iconst c (nI 1) dX3_applicableTo_50 (by decide) ?_
          refine j_iload c dX3_applicableTo_51 rfl ?_
          refine j_ishl c _ dX3_applicableTo_53 rfl ?_
          refine j_goto c 58 dX3_applicableTo_54 (by decide) ?_
          refine j_ior c _ dX3_applicableTo_58 (show _ = mkS (appB (tls T) (ttg T f) call) (k + 1) by simp [mkS, appB, et, e2, show k < 13 by omega]) ?_
          refine j_istore_n c dX3_applicableTo_59 (Nat.le_of_ble_eq_true rfl) rfl ?_
          refine j_iinc c _ dX3_applicableTo_60 rfl (by first | exact nI_1 _ | exact pk_m1 _ | rfl) rfl ?_
          refine j_goto c 5 dX3_applicableTo_63 (by decide) ?_
          exact ih
  exact key 0 (by omega)
theorem sp_isAhead {T : TS} {mo : Option (Nat × Nat)} {σ : Sg} (hM : InvM T mo σ) (hW : WF T) {f call m o a b : Nat} (hf : f < tnf T) (hmo : MoOK T f mo) (hc : vcall (tn T) (tpl T f) call = true) (ha : tgx (ttg T f) mo m = some a) (hb : tgx (ttg T f) mo o = some b) (hua : ∀ p, p < tpl T f → up (tls T) (dg call p) (dg a p) = true) (hub : ∀ p, p < tpl T f → up (tls T) (dg call p) (dg b p) = true) : Sp yX3_isAhead cX3_isAhead 8 (some .boolean) 1 [.inr 50, .inl (nI f), .inl (nI call), .inl (nI m), .inl (nI o)] σ (rt σ (.inl (bI (ahd (tls T) call a b)))) := by
  have h4 := hW.2.2.2.1
  have hpl := hW.2.2.2.2.1 f hf
  have hp55 := hM.2.2.2.2.2.2.1 f hf
  have va := tgx_v hW hf hmo ha
  have vb := tgx_v hW hf hmo hb
  have la := vcall_lt va.2 hpl.2
  have lb := vcall_lt vb.2 hpl.2
  have lc := vcall_lt hc hpl.2
  have hn := hW.1
  rw [← ahN_ahd hpl.2 (vcall_spec va.2).1 (vcall_spec vb.2).1]
  refine Sp.intro rfl (Nat.le_of_ble_eq_true rfl) (fun Γ c r => ?_)
  show J Γ 0 [some (.inr 50), some (.inl (nI f)), some (.inl (nI call)), some (.inl (nI m)), some (.inl (nI o)), none, none, none] [] σ
  refine j_iconst c (nI 0) dX3_isAhead_0 (by decide) ?_
  refine j_istore c dX3_isAhead_1 (Nat.le_of_ble_eq_true rfl) rfl ?_
  have key : ∀ p, p ≤ tpl T f → ∀ x y : Option PV, ahN (tls T) call a b 0 (tpl T f) = ahN (tls T) call a b p (tpl T f - p) → J Γ 3 [some (.inr 50), some (.inl (nI f)), some (.inl (nI call)), some (.inl (nI m)), some (.inl (nI o)), some (.inl (nI p)), x, y] [] σ := by
    refine loopN (tpl T f) ?_ ?_
    · intro x y h
      refine j_iload c dX3_isAhead_3 rfl ?_
      refine j_aload_n c dX3_isAhead_5 rfl ?_
      refine j_getR c fl_X3_22 dX3_isAhead_6 (Nat.le_of_ble_eq_true rfl) rfl rfl ?_
      refine j_iload_n c dX3_isAhead_9 rfl ?_
      refine j_iald c dX3_isAhead_10 (Nat.le_of_ble_eq_true rfl) rfl rfl (by omega) (by decide) ?_
      rw [hp55]
      refine j_icmp_ge c 97 dX3_isAhead_11 (by decide) (fun _ => ?_) (fun h => absurd (nI_le (Nat.le_refl _) (by omega)) h)
      refine j_iconst c (nI 0) dX3_isAhead_97 (by decide) ?_
      exact j_iret c r dX3_isAhead_98 rfl (rtF (by rw [h, Nat.sub_self]; rfl))
    · intro p hp ih x y h
      have d1 := dg_lt call p
      have d2 := dg_lt a p
      have d3 := dg_lt b p
      have hcp := vcall_dg (p := p) hc hpl.2 hn.1
      rw [show tpl T f - p = (tpl T f - (p + 1)) + 1 by omega, ahN] at h
      refine j_iload c dX3_isAhead_3 rfl ?_
      refine j_aload_n c dX3_isAhead_5 rfl ?_
      refine j_getR c fl_X3_22 dX3_isAhead_6 (Nat.le_of_ble_eq_true rfl) rfl rfl ?_
      refine j_iload_n c dX3_isAhead_9 rfl ?_
      refine j_iald c dX3_isAhead_10 (Nat.le_of_ble_eq_true rfl) rfl rfl (by omega) (by decide) ?_
      rw [hp55]
      refine j_icmp_ge c 97 dX3_isAhead_11 (by decide) (fun h => absurd h (nI_ge hp (by omega))) (fun _ => ?_)
      refine j_aload_n c dX3_isAhead_14 rfl ?_
      refine j_iload_n c dX3_isAhead_15 rfl ?_
      refine j_iload_n c dX3_isAhead_16 rfl ?_
      refine j_callV1 c kw_X3_145 (sp_whatOf hM hW hf hmo ha) dX3_isAhead_17 rfl rfl (by decide) (Nat.le_of_ble_eq_true rfl) (Nat.le_of_ble_eq_true rfl) rfl rfl ?_
      refine j_iload c dX3_isAhead_20 rfl ?_
      refine j_callS1 c kw_X3_107 (sp_digit σ a p (by omega) (by omega)) dX3_isAhead_22 rfl rfl (by decide) (Nat.le_of_ble_eq_true rfl) ?_
      refine j_istore c dX3_isAhead_25 (Nat.le_of_ble_eq_true rfl) rfl ?_
      refine j_aload_n c dX3_isAhead_27 rfl ?_
      refine j_iload_n c dX3_isAhead_28 rfl ?_
      refine j_iload c dX3_isAhead_29 rfl ?_
      refine j_callV1 c kw_X3_145 (sp_whatOf hM hW hf hmo hb) dX3_isAhead_31 rfl rfl (by decide) (Nat.le_of_ble_eq_true rfl) (Nat.le_of_ble_eq_true rfl) rfl rfl ?_
      refine j_iload c dX3_isAhead_34 rfl ?_
      refine j_callS1 c kw_X3_107 (sp_digit σ b p (by omega) (by omega)) dX3_isAhead_36 rfl rfl (by decide) (Nat.le_of_ble_eq_true rfl) ?_
      refine j_istore c dX3_isAhead_39 (Nat.le_of_ble_eq_true rfl) rfl ?_
      refine j_iload c dX3_isAhead_41 rfl ?_
      refine j_iload c dX3_isAhead_43 rfl ?_
      refine j_icmp_eq c 91 dX3_isAhead_45 (by decide) (fun e => ?_) (fun e => ?_)
      · rw [nI_eq (by omega) (by omega)] at e
        rw [if_neg (by simp [e])] at h
        refine j_iinc c _ dX3_isAhead_91 rfl (by first | exact nI_1 _ | exact pk_m1 _ | rfl) rfl ?_
        refine j_goto c 3 dX3_isAhead_94 (by decide) ?_
        exact ih _ _ h
      · rw [nI_eq (by omega) (by omega)] at e
        rw [if_pos e] at h
        have r1 := hM.2.2.2.2.1 (dg call p) (dg a p) hcp (by simpa [up] using hua p hp)
        have r2 := hM.2.2.2.2.1 (dg call p) (dg b p) hcp (by simpa [up] using hub p hp)
        have l1 := WF_rk hW hcp (hua p hp)
        have l2 := WF_rk hW hcp (hub p hp)
        refine j_aload_n c dX3_isAhead_48 rfl ?_
        refine j_getR c fl_X3_19 dX3_isAhead_49 (Nat.le_of_ble_eq_true rfl) rfl rfl ?_
        refine j_bipush c (nI 16) dX3_isAhead_52 (by decide) ?_
        refine j_iload_n c dX3_isAhead_54 rfl ?_
        refine j_iload c dX3_isAhead_55 rfl ?_
        refine j_callS1 c kw_X3_107 (sp_digit σ call p (by omega) (by omega)) dX3_isAhead_57 rfl rfl (by decide) (Nat.le_of_ble_eq_true rfl) ?_
        refine j_imul c _ dX3_isAhead_60 (by first | exact pk_mul _ _ | rfl) ?_
        refine j_iload c dX3_isAhead_61 rfl ?_
        refine j_iadd c _ dX3_isAhead_63 (by first | exact nI_add _ _ | rfl) ?_
        refine j_iald c dX3_isAhead_64 (by first | exact (Nat.le_of_ble_eq_true rfl) | exact hp.lt (by decide)) (by first | exact lf1 hp | exact lf2 hp | exact lf3 hp | exact lf4 hp | exact lf5 hp | exact lf6 hp | rfl) rfl (by omega) (by decide) ?_
        rw [r1]
        refine j_aload_n c dX3_isAhead_65 rfl ?_
        refine j_getR c fl_X3_19 dX3_isAhead_66 (Nat.le_of_ble_eq_true rfl) rfl rfl ?_
        refine j_bipush c (nI 16) dX3_isAhead_69 (by decide) ?_
        refine j_iload_n c dX3_isAhead_71 rfl ?_
        refine j_iload c dX3_isAhead_72 rfl ?_
        refine j_callS1 c kw_X3_107 (sp_digit σ call p (by omega) (by omega)) dX3_isAhead_74 rfl rfl (by decide) (Nat.le_of_ble_eq_true rfl) ?_
        refine j_imul c _ dX3_isAhead_77 (by first | exact pk_mul _ _ | rfl) ?_
        refine j_iload c dX3_isAhead_78 rfl ?_
        refine j_iadd c _ dX3_isAhead_80 (by first | exact nI_add _ _ | rfl) ?_
        refine j_iald c dX3_isAhead_81 (by first | exact (Nat.le_of_ble_eq_true rfl) | exact hp.lt (by decide)) (by first | exact lf1 hp | exact lf2 hp | exact lf3 hp | exact lf4 hp | exact lf5 hp | exact lf6 hp | rfl) rfl (by omega) (by decide) ?_
        rw [r2]
        refine j_icmp_ge c 89 dX3_isAhead_82 (by decide) (fun q => ?_) (fun q => ?_)
        · rw [nI_leI (by omega) (by omega)] at q
          refine j_iconst c (nI 0) dX3_isAhead_89 (by decide) ?_
          exact j_iret c r dX3_isAhead_90 rfl (rtF (by rw [h]; simp; omega))
        · rw [nI_leI (by omega) (by omega)] at q
          refine j_iconst c (nI 1) dX3_isAhead_85 (by decide) ?_
          refine j_goto c 90 dX3_isAhead_86 (by decide) ?_
          exact j_iret c r dX3_isAhead_90 rfl (rtT (by rw [h]; simp; omega))
  exact key 0 (by omega) none none rfl
theorem sp_firstOf {T : TS} {mo : Option (Nat × Nat)} {σ : Sg} (hM : InvM T mo σ) (hW : WF T) {f call : Nat} (hf : f < tnf T) (hmo : MoOK T f mo) (hc : vcall (tn T) (tpl T f) call = true) (x : Int32) (S : Nat → Bool) (hx : ∀ m, m < 32 → bt x m = (decide (m < 13) && S m)) (hS : ∀ m, m < 13 → S m = true → appB (tls T) (tgx (ttg T f) mo) call m = true) {b : Nat} (hb : b < 2) : Sp yX3_firstOf cX3_firstOf 8 (some .int) 2 [.inr 50, .inl (nI f), .inl (nI call), .inl x, .inl (nI b)] σ (rt σ (.inl (fstI S (befB (tls T) (tgx (ttg T f) mo) b call)))) := by
  have h4 := hW.2.2.2.1
  have hpl := hW.2.2.2.2.1 f hf
  have hx13 : ∀ m, m < 13 → bt x m = S m := fun m hm => by rw [hx m (by omega)]; simp [hm]
  have hup : ∀ m t, appB (tls T) (tgx (ttg T f) mo) call m = true → tgx (ttg T f) mo m = some t → ∀ p, p < tpl T f → up (tls T) (dg call p) (dg t p) = true := fun m t h1 h2 p hp => by
    obtain ⟨t', e1, _, e2⟩ := appB_some h1
    rw [h2] at e1
    cases e1
    obtain ⟨u0, u1, u2⟩ := le3_at e2
    rcases (show p = 0 ∨ p = 1 ∨ p = 2 by omega) with rfl | rfl | rfl <;> assumption
  refine Sp.intro rfl (Nat.le_of_ble_eq_true rfl) (fun Γ c r => ?_)
  show J Γ 0 [some (.inr 50), some (.inl (nI f)), some (.inl (nI call)), some (.inl x), some (.inl (nI b)), none, none, none] [] σ
  refine j_iload_n c dX3_firstOf_0 rfl ?_
  refine j_if_ne c 6 dX3_firstOf_1 (by decide) (fun e => ?_) (fun e => ?_)
  · have hne : ∃ j, j < 13 ∧ S j = true := by
      apply Classical.byContradiction
      intro h0
      apply e
      have : x = nI 0 := bt_ext (fun k hk => by
        rw [hx k hk, bt_0]
        by_cases hk2 : k < 13
        · cases es : S k with
          | false => simp
          | true => exact absurd ⟨k, hk2, es⟩ h0
        · simp [hk2])
      rw [this]; rfl
    obtain ⟨j0, hj0, hs0⟩ := hne
    refine j_iconst c (nI 0) dX3_firstOf_6 (by decide) ?_
    refine j_istore c dX3_firstOf_7 (Nat.le_of_ble_eq_true rfl) rfl ?_
    have key : ∀ m, m ≤ 13 → (∀ j, j < m → fstP S (befB (tls T) (tgx (ttg T f) mo) b call) j = false) → ∀ u v : Option PV, J Γ 9 [some (.inr 50), some (.inl (nI f)), some (.inl (nI call)), some (.inl x), some (.inl (nI b)), some (.inl (nI m)), u, v] [] σ := by
      refine loopN 13 ?_ ?_
      · intro h0 u v
        refine j_iload c dX3_firstOf_9 rfl ?_
        refine j_bipush c (nI 12) dX3_firstOf_11 (by decide) ?_
        refine j_icmp_gt c 132 dX3_firstOf_13 (by decide) (fun _ => ?_) (fun h => absurd (nI_lt (by decide) (by decide)) h)
        refine j_bipush c (-2) dX3_firstOf_132 (by decide) ?_
        exact j_iret c r dX3_firstOf_134 rfl ⟨by rw [fstI_amb hj0 hs0 h0], rfl⟩
      · intro m hm ih h0 u v
        have next : fstP S (befB (tls T) (tgx (ttg T f) mo) b call) m = false → ∀ u v : Option PV, J Γ 126 [some (.inr 50), some (.inl (nI f)), some (.inl (nI call)), some (.inl x), some (.inl (nI b)), some (.inl (nI m)), u, v] [] σ := by
          intro hf0 u v
          refine j_iinc c _ dX3_firstOf_126 rfl (by first | exact nI_1 _ | exact pk_m1 _ | rfl) rfl ?_
          refine j_goto c 9 dX3_firstOf_129 (by decide) ?_
          refine ih (fun j hj => ?_) _ _
          by_cases ej : j = m
          · subst ej; exact hf0
          · exact h0 j (by omega)
        refine j_iload c dX3_firstOf_9 rfl ?_
        refine j_bipush c (nI 12) dX3_firstOf_11 (by decide) ?_
        refine j_icmp_gt c 132 dX3_firstOf_13 (by decide) (fun h => absurd h (nI_nlt (by omega) (by decide))) (fun _ => ?_)
        refine j_iload_n c dX3_firstOf_16 rfl ?_
        refine j_iload c dX3_firstOf_17 rfl ?_
        refine j_callS1 c kw_X3_97 (sp_isOn σ x m (by omega)) dX3_firstOf_19 rfl rfl (by decide) (Nat.le_of_ble_eq_true rfl) ?_
        rw [hx13 m hm]
        refine j_if_ne c 28 dX3_firstOf_22 (by decide) (fun es => ?_) (fun es => ?_)
        · have hsm : S m = true := by simpa [bI_ne0] using es
          obtain ⟨t, ht, _, hlt⟩ := appB_some (hS m hm hsm)
          have vt := tgx_v hW hf hmo ht
          refine j_iconst c (nI 1) dX3_firstOf_28 (by decide) ?_
          refine j_istore c dX3_firstOf_29 (Nat.le_of_ble_eq_true rfl) rfl ?_
          refine j_iconst c (nI 0) dX3_firstOf_31 (by decide) ?_
          refine j_istore c dX3_firstOf_32 (Nat.le_of_ble_eq_true rfl) rfl ?_
          have inner : ∀ o, o ≤ 13 → J Γ 34 [some (.inr 50), some (.inl (nI f)), some (.inl (nI call)), some (.inl x), some (.inl (nI b)), some (.inl (nI m)), some (.inl (bI ((List.range o).all (fun o => !S o || (o == m || befB (tls T) (tgx (ttg T f) mo) b call m o))))), some (.inl (nI o))] [] σ := by
            have out : ∀ (q : Bool) (v : Option PV), q = (List.range 13).all (fun o => !S o || (o == m || befB (tls T) (tgx (ttg T f) mo) b call m o)) → J Γ 118 [some (.inr 50), some (.inl (nI f)), some (.inl (nI call)), some (.inl x), some (.inl (nI b)), some (.inl (nI m)), some (.inl (bI q)), v] [] σ := by
              intro q v hq
              have hfm : fstP S (befB (tls T) (tgx (ttg T f) mo) b call) m = q := by unfold fstP; rw [hsm, hq]; rfl
              refine j_iload c dX3_firstOf_118 rfl ?_
              refine j_if_eq c 126 dX3_firstOf_120 (by decide) (fun eq => ?_) (fun eq => ?_)
              · rw [bI_ne0] at eq
                exact next (by rw [hfm, eq]) _ _
              · have hqt : q = true := bI_nz eq
                refine j_iload c dX3_firstOf_123 rfl ?_
                exact j_iret c r dX3_firstOf_125 rfl ⟨by rw [fstI_hit hm (by rw [hfm, hqt]) h0], rfl⟩
            refine loopN 13 ?_ ?_
            · refine j_iload c dX3_firstOf_34 rfl ?_
              refine j_bipush c (nI 12) dX3_firstOf_36 (by decide) ?_
              refine j_icmp_gt c 118 dX3_firstOf_38 (by decide) (fun _ => ?_) (fun h => absurd (nI_lt (by decide) (by decide)) h)
              exact out _ _ rfl
            · intro o ho ihr
              rw [allU_s] at ihr
              refine j_iload c dX3_firstOf_34 rfl ?_
              refine j_bipush c (nI 12) dX3_firstOf_36 (by decide) ?_
              refine j_icmp_gt c 118 dX3_firstOf_38 (by decide) (fun h => absurd h (nI_nlt (by omega) (by decide))) (fun _ => ?_)
              refine j_iload c dX3_firstOf_41 rfl ?_
              refine j_if_eq c 118 dX3_firstOf_43 (by decide) (fun eq => ?_) (fun eq => ?_)
              · rw [bI_ne0] at eq
                rw [eq]
                exact out _ _ (allU_no eq (by omega)).symm
              · have hqt : (List.range o).all (fun o => !S o || (o == m || befB (tls T) (tgx (ttg T f) mo) b call m o)) = true := bI_nz eq
                rw [hqt, Bool.true_and] at ihr
                have hset : ∀ q : Bool, (!S o || (o == m || befB (tls T) (tgx (ttg T f) mo) b call m o)) = q → J Γ 110 [some (.inr 50), some (.inl (nI f)), some (.inl (nI call)), some (.inl x), some (.inl (nI b)), some (.inl (nI m)), some (.inl (bI ((List.range o).all (fun o => !S o || (o == m || befB (tls T) (tgx (ttg T f) mo) b call m o))))), some (.inl (nI o))] [.inl (bI q)] σ := by
                  intro q hq
                  rw [hq] at ihr
                  refine j_istore c dX3_firstOf_110 (Nat.le_of_ble_eq_true rfl) rfl ?_
                  refine j_iinc c _ dX3_firstOf_112 rfl (by first | exact nI_1 _ | exact pk_m1 _ | rfl) rfl ?_
                  refine j_goto c 34 dX3_firstOf_115 (by decide) ?_
                  exact ihr
                refine j_iload_n c dX3_firstOf_46 rfl ?_
                refine j_iload c dX3_firstOf_47 rfl ?_
                refine j_callS1 c kw_X3_97 (sp_isOn σ x o (by omega)) dX3_firstOf_49 rfl rfl (by decide) (Nat.le_of_ble_eq_true rfl) ?_
                rw [hx13 o ho]
                refine j_if_eq c 105 dX3_firstOf_52 (by decide) (fun eo => ?_) (fun eo => ?_)
                · rw [bI_ne0] at eo
                  refine j_iconst c (nI 1) dX3_firstOf_105 (by decide) ?_
                  refine j_goto c 110 dX3_firstOf_106 (by decide) ?_
                  exact hset true (by simp [eo])
                · have hso : S o = true := by simpa [bI_ne0] using eo
                  refine j_iload c dX3_firstOf_55 rfl ?_
                  refine j_iload c dX3_firstOf_57 rfl ?_
                  refine j_icmp_eq c 105 dX3_firstOf_59 (by decide) (fun em => ?_) (fun em => ?_)
                  · rw [nI_eq (by omega) (by omega)] at em
                    refine j_iconst c (nI 1) dX3_firstOf_105 (by decide) ?_
                    refine j_goto c 110 dX3_firstOf_106 (by decide) ?_
                    exact hset true (by simp [em])
                  · rw [nI_eq (by omega) (by omega)] at em
                    obtain ⟨t2, ht2, _, hlt2⟩ := appB_some (hS o ho hso)
                    have vt2 := tgx_v hW hf hmo ht2
                    have hcond : ∀ q : Bool, befB (tls T) (tgx (ttg T f) mo) b call m o = q → (!S o || (o == m || befB (tls T) (tgx (ttg T f) mo) b call m o)) = q := fun q hq => by simp [hso, em, hq]
                    refine j_iload c dX3_firstOf_62 rfl ?_
                    refine j_if_ne c 92 dX3_firstOf_64 (by decide) (fun eb => ?_) (fun eb => ?_)
                    · have hb1 : ¬ b = 0 := fun h => eb (by rw [h]; rfl)
                      refine j_aload_n c dX3_firstOf_92 rfl ?_
                      refine j_iload_n c dX3_firstOf_93 rfl ?_
                      refine j_iload_n c dX3_firstOf_94 rfl ?_
                      refine j_iload c dX3_firstOf_95 rfl ?_
                      refine j_iload c dX3_firstOf_97 rfl ?_
                      refine j_callV1 c kw_X3_148 (sp_isAhead hM hW hf hmo hc ht ht2 (hup m t (hS m hm hsm) ht) (hup o t2 (hS o ho hso) ht2)) dX3_firstOf_99 rfl rfl (by decide) (Nat.le_of_ble_eq_true rfl) (Nat.le_of_ble_eq_true rfl) rfl rfl ?_
                      have hbe : befB (tls T) (tgx (ttg T f) mo) b call m o = ahd (tls T) call t t2 := by simp [befB, ht, ht2, hb1]
                      refine j_if_eq c 109 dX3_firstOf_102 (by decide) (fun ea => ?_) (fun ea => ?_)
                      · rw [bI_ne0] at ea
                        refine j_iconst c (nI 0) dX3_firstOf_109 (by decide) ?_
                        exact hset false (hcond false (by rw [hbe, ea]))
                      · have ea2 : ahd (tls T) call t t2 = true := by simpa [bI_ne0] using ea
                        refine j_iconst c (nI 1) dX3_firstOf_105 (by decide) ?_
                        refine j_goto c 110 dX3_firstOf_106 (by decide) ?_
                        exact hset true (hcond true (by rw [hbe, ea2]))
                    · have hb0 : b = 0 := by
                        have : nI b = nI 0 := eb
                        rw [nI_eq (by omega) (by decide)] at this
                        exact this
                      refine j_aload_n c dX3_firstOf_67 rfl ?_
                      refine j_iload_n c dX3_firstOf_68 rfl ?_
                      refine j_aload_n c dX3_firstOf_69 rfl ?_
                      refine j_iload_n c dX3_firstOf_70 rfl ?_
                      refine j_iload c dX3_firstOf_71 rfl ?_
                      refine j_callV1 c kw_X3_145 (sp_whatOf hM hW hf hmo ht) dX3_firstOf_73 rfl rfl (by decide) (Nat.le_of_ble_eq_true rfl) (Nat.le_of_ble_eq_true rfl) rfl rfl ?_
                      refine j_aload_n c dX3_firstOf_76 rfl ?_
                      refine j_iload_n c dX3_firstOf_77 rfl ?_
                      refine j_iload c dX3_firstOf_78 rfl ?_
                      refine j_callV1 c kw_X3_145 (sp_whatOf hM hW hf hmo ht2) dX3_firstOf_80 rfl rfl (by decide) (Nat.le_of_ble_eq_true rfl) (Nat.le_of_ble_eq_true rfl) rfl rfl ?_
                      refine j_callV1 c kw_X3_111 (sp_areOf hM hW hf vt.2 (vcall_spec vt2.2).1) dX3_firstOf_83 rfl rfl (by decide) (Nat.le_of_ble_eq_true rfl) (Nat.le_of_ble_eq_true rfl) rfl rfl ?_
                      have hbe : befB (tls T) (tgx (ttg T f) mo) b call m o = le3 (tls T) t t2 := by simp [befB, ht, ht2, hb0]
                      refine j_if_eq c 109 dX3_firstOf_86 (by decide) (fun ea => ?_) (fun ea => ?_)
                      · rw [bI_ne0] at ea
                        refine j_iconst c (nI 0) dX3_firstOf_109 (by decide) ?_
                        exact hset false (hcond false (by rw [hbe, ea]))
                      · have ea2 : le3 (tls T) t t2 = true := by simpa [bI_ne0] using ea
                        refine j_goto c 105 dX3_firstOf_89 (by decide) ?_
                        refine j_iconst c (nI 1) dX3_firstOf_105 (by decide) ?_
                        refine j_goto c 110 dX3_firstOf_106 (by decide) ?_
                        exact hset true (hcond true (by rw [hbe, ea2]))
          exact inner 0 (by omega)
        · have hsm : S m = false := by simpa [bI_ne0] using es
          refine j_goto c 126 dX3_firstOf_25 (by decide) ?_
          exact next (by simp [fstP, hsm]) _ _
    exact key 0 (by omega) (fun j hj => by omega) none none
  · have h0 : ∀ m, m < 13 → S m = false := fun m hm => by
      have : x = nI 0 := e
      rw [← hx13 m hm, this, bt_0]
    refine j_iconst c (-1) dX3_firstOf_4 (by decide) ?_
    exact j_iret c r dX3_firstOf_5 rfl ⟨by rw [fstI_no h0], rfl⟩
theorem sp_answerOf {T : TS} {mo : Option (Nat × Nat)} {σ : Sg} (hM : InvM T mo σ) (hW : WF T) {f call : Nat} (hf : f < tnf T) (hmo : MoOK T f mo) (hc : vcall (tn T) (tpl T f) call = true) {b : Nat} (hb : b < 2) : Sp yX3_answerOf cX3_answerOf 4 (some .int) 3 [.inr 50, .inl (nI f), .inl (nI call), .inl (nI b)] σ (rt σ (.inl (ansI (tls T) (tgx (ttg T f) mo) b call))) := by
  refine Sp.intro rfl (Nat.le_of_ble_eq_true rfl) (fun Γ c r => ?_)
  show J Γ 0 [some (.inr 50), some (.inl (nI f)), some (.inl (nI call)), some (.inl (nI b))] [] σ
  refine j_aload_n c dX3_answerOf_0 rfl ?_
  refine j_iload_n c dX3_answerOf_1 rfl ?_
  refine j_iload_n c dX3_answerOf_2 rfl ?_
  refine j_aload_n c dX3_answerOf_3 rfl ?_
  refine j_iload_n c dX3_answerOf_4 rfl ?_
  refine j_iload_n c dX3_answerOf_5 rfl ?_
  refine j_callV1 c kw_X3_152 (sp_applicableTo hM hW hf hmo hc) dX3_answerOf_6 rfl rfl (by decide) (Nat.le_of_ble_eq_true rfl) (Nat.le_of_ble_eq_true rfl) rfl rfl ?_
  refine j_iload_n c dX3_answerOf_9 rfl ?_
  refine j_callV1 c kw_X3_155 (sp_firstOf hM hW hf hmo hc _ (appB (tls T) (tgx (ttg T f) mo) call) (fun m hm => bt_mkS _ (by decide) m) (fun m _ h => h) hb) dX3_answerOf_10 rfl rfl (by decide) (Nat.le_of_ble_eq_true rfl) (Nat.le_of_ble_eq_true rfl) rfl rfl ?_
  exact j_iret c r dX3_answerOf_13 rfl ⟨rfl, rfl⟩
