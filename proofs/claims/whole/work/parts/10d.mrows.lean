-- ===== 10d: the reference's rows of answers =====
theorem sp_laysAnswers {T : TS} {mo : Option (Nat × Nat)} {σ : Sg} (hM : InvM T mo σ) (hW : WF T) {f : Nat} (hf : f < tnf T) (hmo : MoOK T f mo) {b : Nat} (hb : b < 2) : Sp yX3_laysAnswers cX3_laysAnswers 4 none 4 [.inr 50, .inl (nI f), .inl (nI b)] σ (rs (sR σ 65 (rowU (rowA T f mo b) (16 ^ tpl T f) (σ 65)))) := by
  have h4 := hW.2.2.2.1
  have hpl := hW.2.2.2.2.1 f hf
  have h16 := p16 hpl.2
  refine Sp.intro rfl (Nat.le_of_ble_eq_true rfl) (fun Γ c r => ?_)
  show J Γ 0 [some (.inr 50), some (.inl (nI f)), some (.inl (nI b)), none] [] σ
  refine j_iconst c (nI 0) dX3_laysAnswers_0 (by decide) ?_
  refine j_istore_n c dX3_laysAnswers_1 (Nat.le_of_ble_eq_true rfl) rfl ?_
  have key : ∀ k, k ≤ 16 ^ tpl T f → J Γ 2 [some (.inr 50), some (.inl (nI f)), some (.inl (nI b)), some (.inl (nI k))] [] (sR σ 65 (rowU (rowA T f mo b) k (σ 65))) := by
    refine loopN _ ?_ ?_
    · have hM1 := hM.keep (keepM.row (F := rowU (rowA T f mo b) (16 ^ tpl T f) (σ 65)) (p := 65) (by decide) (by decide))
      refine j_iload_n c dX3_laysAnswers_2 rfl ?_
      refine j_aload_n c dX3_laysAnswers_3 rfl ?_
      refine j_iload_n c dX3_laysAnswers_4 rfl ?_
      refine j_callV1 c kw_X3_172 (sp_callsOf hM1 hW hf) dX3_laysAnswers_5 rfl rfl (by decide) (Nat.le_of_ble_eq_true rfl) (Nat.le_of_ble_eq_true rfl) rfl rfl ?_
      refine j_icmp_ge c 44 dX3_laysAnswers_8 (by decide) (fun _ => ?_) (fun h => absurd (nI_le (Nat.le_refl _) (by omega)) h)
      exact j_ret c r dX3_laysAnswers_44 ⟨rfl, rfl⟩
    · intro k hk ih
      have hM1 := hM.keep (keepM.row (F := rowU (rowA T f mo b) k (σ 65)) (p := 65) (by decide) (by decide))
      refine j_iload_n c dX3_laysAnswers_2 rfl ?_
      refine j_aload_n c dX3_laysAnswers_3 rfl ?_
      refine j_iload_n c dX3_laysAnswers_4 rfl ?_
      refine j_callV1 c kw_X3_172 (sp_callsOf hM1 hW hf) dX3_laysAnswers_5 rfl rfl (by decide) (Nat.le_of_ble_eq_true rfl) (Nat.le_of_ble_eq_true rfl) rfl rfl ?_
      refine j_icmp_ge c 44 dX3_laysAnswers_8 (by decide) (fun h => absurd h (nI_ge hk (by omega))) (fun _ => ?_)
      refine j_aload_n c dX3_laysAnswers_11 rfl ?_
      refine j_getR c fl_X3_56 dX3_laysAnswers_12 (Nat.le_of_ble_eq_true rfl) rfl rfl ?_
      refine j_iload_n c dX3_laysAnswers_15 rfl ?_
      refine j_aload_n c dX3_laysAnswers_16 rfl ?_
      refine j_iload_n c dX3_laysAnswers_17 rfl ?_
      refine j_iload_n c dX3_laysAnswers_18 rfl ?_
      refine j_callV1 c kw_X3_114 (sp_isCall hM1 hW (nI f) (nI k)) dX3_laysAnswers_19 rfl rfl (by decide) (Nat.le_of_ble_eq_true rfl) (Nat.le_of_ble_eq_true rfl) rfl rfl ?_
      rw [isC_nI hf h4 (by omega)]
      rw [← rowU_s, ← s2_sR] at ih
      refine j_if_eq c 35 dX3_laysAnswers_22 (by decide) (fun e => ?_) (fun e => ?_)
      · have e2 := bI_z e
        rw [show rowA T f mo b k = -3 by simp [rowA, e2]] at ih
        refine j_bipush c (-3) dX3_laysAnswers_35 (by decide) ?_
        refine j_iast c dX3_laysAnswers_37 (by first | exact (Nat.le_of_ble_eq_true rfl) | exact hp.lt (by decide)) (by first | exact lf1 hp | exact lf2 hp | exact lf3 hp | exact lf4 hp | exact lf5 hp | exact lf6 hp | rfl) rfl (by omega) (by decide) ?_
        refine j_iinc c _ dX3_laysAnswers_38 rfl (by first | exact nI_1 _ | exact pk_m1 _ | rfl) rfl ?_
        refine j_goto c 2 dX3_laysAnswers_41 (by decide) ?_
        exact ih
      · have e2 := bI_nz e
        rw [show rowA T f mo b k = ansI (tls T) (tgx (ttg T f) mo) b k by simp [rowA, e2]] at ih
        refine j_aload_n c dX3_laysAnswers_25 rfl ?_
        refine j_iload_n c dX3_laysAnswers_26 rfl ?_
        refine j_iload_n c dX3_laysAnswers_27 rfl ?_
        refine j_iload_n c dX3_laysAnswers_28 rfl ?_
        refine j_callV1 c kw_X3_159 (sp_answerOf hM1 hW hf hmo e2 hb) dX3_laysAnswers_29 rfl rfl (by decide) (Nat.le_of_ble_eq_true rfl) (Nat.le_of_ble_eq_true rfl) rfl rfl ?_
        refine j_goto c 37 dX3_laysAnswers_32 (by decide) ?_
        refine j_iast c dX3_laysAnswers_37 (by first | exact (Nat.le_of_ble_eq_true rfl) | exact hp.lt (by decide)) (by first | exact lf1 hp | exact lf2 hp | exact lf3 hp | exact lf4 hp | exact lf5 hp | exact lf6 hp | rfl) rfl (by omega) (by decide) ?_
        refine j_iinc c _ dX3_laysAnswers_38 rfl (by first | exact nI_1 _ | exact pk_m1 _ | rfl) rfl ?_
        refine j_goto c 2 dX3_laysAnswers_41 (by decide) ?_
        exact ih
  have h0 := key 0 (Nat.zero_le _)
  rw [rowU_0, sR_id] at h0
  exact h0
theorem sp_howMany {T : TS} {mo : Option (Nat × Nat)} {σ : Sg} (hM : InvM T mo σ) (hW : WF T) {f : Nat} (hf : f < tnf T) (a : Int32) : Sp yX3_howMany cX3_howMany 5 (some .int) 1 [.inr 50, .inl (nI f), .inl a] σ (rt σ (.inl (nI (cnt (fun call => decide (σ 65 call = a)) (16 ^ tpl T f))))) := by
  have h4 := hW.2.2.2.1
  have hpl := hW.2.2.2.2.1 f hf
  have h16 := p16 hpl.2
  refine Sp.intro rfl (Nat.le_of_ble_eq_true rfl) (fun Γ c r => ?_)
  show J Γ 0 [some (.inr 50), some (.inl (nI f)), some (.inl a), none, none] [] σ
  refine j_iconst c (nI 0) dX3_howMany_0 (by decide) ?_
  refine j_istore_n c dX3_howMany_1 (Nat.le_of_ble_eq_true rfl) rfl ?_
  refine j_iconst c (nI 0) dX3_howMany_2 (by decide) ?_
  refine j_istore c dX3_howMany_3 (Nat.le_of_ble_eq_true rfl) rfl ?_
  have key : ∀ k, k ≤ 16 ^ tpl T f → J Γ 5 [some (.inr 50), some (.inl (nI f)), some (.inl a), some (.inl (nI (cnt (fun call => decide (σ 65 call = a)) k))), some (.inl (nI k))] [] σ := by
    refine loopN _ ?_ ?_
    · refine j_iload c dX3_howMany_5 rfl ?_
      refine j_aload_n c dX3_howMany_7 rfl ?_
      refine j_iload_n c dX3_howMany_8 rfl ?_
      refine j_callV1 c kw_X3_172 (sp_callsOf hM hW hf) dX3_howMany_9 rfl rfl (by decide) (Nat.le_of_ble_eq_true rfl) (Nat.le_of_ble_eq_true rfl) rfl rfl ?_
      refine j_icmp_ge c 40 dX3_howMany_12 (by decide) (fun _ => ?_) (fun h => absurd (nI_le (Nat.le_refl _) (by omega)) h)
      refine j_iload_n c dX3_howMany_40 rfl ?_
      exact j_iret c r dX3_howMany_41 rfl ⟨rfl, rfl⟩
    · intro k hk ih
      refine j_iload c dX3_howMany_5 rfl ?_
      refine j_aload_n c dX3_howMany_7 rfl ?_
      refine j_iload_n c dX3_howMany_8 rfl ?_
      refine j_callV1 c kw_X3_172 (sp_callsOf hM hW hf) dX3_howMany_9 rfl rfl (by decide) (Nat.le_of_ble_eq_true rfl) (Nat.le_of_ble_eq_true rfl) rfl rfl ?_
      refine j_icmp_ge c 40 dX3_howMany_12 (by decide) (fun h => absurd h (nI_ge hk (by omega))) (fun _ => ?_)
      refine j_iload_n c dX3_howMany_15 rfl ?_
      refine j_aload_n c dX3_howMany_16 rfl ?_
      refine j_getR c fl_X3_56 dX3_howMany_17 (Nat.le_of_ble_eq_true rfl) rfl rfl ?_
      refine j_iload c dX3_howMany_20 rfl ?_
      refine j_iald c dX3_howMany_22 (Nat.le_of_ble_eq_true rfl) rfl rfl (by omega) (by decide) ?_
      refine j_iload_n c dX3_howMany_23 rfl ?_
      refine j_icmp_ne c 31 dX3_howMany_24 (by decide) (fun e => ?_) (fun e => ?_)
      · refine j_iconst c (nI 0) dX3_howMany_31 (by decide) ?_
        refine j_iadd c _ dX3_howMany_32 (cnt_step (P := fun call => decide (σ 65 call = a)) false (by simpa using e)) ?_
        refine j_istore_n c dX3_howMany_33 (Nat.le_of_ble_eq_true rfl) rfl ?_
        refine j_iinc c _ dX3_howMany_34 rfl (by first | exact nI_1 _ | exact pk_m1 _ | rfl) rfl ?_
        refine j_goto c 5 dX3_howMany_37 (by decide) ?_
        exact ih
      · refine j_iconst c (nI 1) dX3_howMany_27 (by decide) ?_
        refine j_goto c 32 dX3_howMany_28 (by decide) ?_
        refine j_iadd c _ dX3_howMany_32 (cnt_step (P := fun call => decide (σ 65 call = a)) true (by simpa using e)) ?_
        refine j_istore_n c dX3_howMany_33 (Nat.le_of_ble_eq_true rfl) rfl ?_
        refine j_iinc c _ dX3_howMany_34 rfl (by first | exact nI_1 _ | exact pk_m1 _ | rfl) rfl ?_
        refine j_goto c 5 dX3_howMany_37 (by decide) ?_
        exact ih
  exact key 0 (Nat.zero_le _)
theorem sp_isTop {T : TS} {mo : Option (Nat × Nat)} {σ : Sg} (hM : InvM T mo σ) (hW : WF T) {f call : Nat} (hf : f < tnf T) (hc : vcall (tn T) (tpl T f) call = true) : Sp yX3_isTop cX3_isTop 4 (some .boolean) 2 [.inr 50, .inl (nI f), .inl (nI call)] σ (rt σ (.inl (bI (topB (σ 65) (tls T) (16 ^ tpl T f) call)))) := by
  have h4 := hW.2.2.2.1
  have hpl := hW.2.2.2.2.1 f hf
  have h16 := p16 hpl.2
  have hcl := vcall_lt hc hpl.2
  refine Sp.intro rfl (Nat.le_of_ble_eq_true rfl) (fun Γ c r => ?_)
  show J Γ 0 [some (.inr 50), some (.inl (nI f)), some (.inl (nI call)), none] [] σ
  refine j_iconst c (nI 0) dX3_isTop_0 (by decide) ?_
  refine j_istore_n c dX3_isTop_1 (Nat.le_of_ble_eq_true rfl) rfl ?_
  have key : ∀ k, k ≤ 16 ^ tpl T f → (∀ o, o < k → ((o == call) || (!decide (σ 65 o = σ 65 call) || !le3 (tls T) call o)) = true) → J Γ 2 [some (.inr 50), some (.inl (nI f)), some (.inl (nI call)), some (.inl (nI k))] [] σ := by
    refine loopN _ ?_ ?_
    · intro h0
      refine j_iload_n c dX3_isTop_2 rfl ?_
      refine j_aload_n c dX3_isTop_3 rfl ?_
      refine j_iload_n c dX3_isTop_4 rfl ?_
      refine j_callV1 c kw_X3_172 (sp_callsOf hM hW hf) dX3_isTop_5 rfl rfl (by decide) (Nat.le_of_ble_eq_true rfl) (Nat.le_of_ble_eq_true rfl) rfl rfl ?_
      refine j_icmp_ge c 49 dX3_isTop_8 (by decide) (fun _ => ?_) (fun h => absurd (nI_le (Nat.le_refl _) (by omega)) h)
      refine j_iconst c (nI 1) dX3_isTop_49 (by decide) ?_
      exact j_iret c r dX3_isTop_50 rfl (rtT (allU.mpr h0))
    · intro k hk ih h0
      have nxt : ((k == call) || (!decide (σ 65 k = σ 65 call) || !le3 (tls T) call k)) = true → J Γ 43 [some (.inr 50), some (.inl (nI f)), some (.inl (nI call)), some (.inl (nI k))] [] σ := by
        intro h
        refine j_iinc c _ dX3_isTop_43 rfl (by first | exact nI_1 _ | exact pk_m1 _ | rfl) rfl ?_
        refine j_goto c 2 dX3_isTop_46 (by decide) ?_
        refine ih (fun o ho => ?_)
        by_cases e : o = k
        · subst e; exact h
        · exact h0 o (by omega)
      refine j_iload_n c dX3_isTop_2 rfl ?_
      refine j_aload_n c dX3_isTop_3 rfl ?_
      refine j_iload_n c dX3_isTop_4 rfl ?_
      refine j_callV1 c kw_X3_172 (sp_callsOf hM hW hf) dX3_isTop_5 rfl rfl (by decide) (Nat.le_of_ble_eq_true rfl) (Nat.le_of_ble_eq_true rfl) rfl rfl ?_
      refine j_icmp_ge c 49 dX3_isTop_8 (by decide) (fun h => absurd h (nI_ge hk (by omega))) (fun _ => ?_)
      refine j_iload_n c dX3_isTop_11 rfl ?_
      refine j_iload_n c dX3_isTop_12 rfl ?_
      refine j_icmp_eq c 43 dX3_isTop_13 (by decide) (fun e => ?_) (fun e => ?_)
      · rw [nI_eq (by omega) (by omega)] at e
        exact nxt (by simp [e])
      · rw [nI_eq (by omega) (by omega)] at e
        refine j_aload_n c dX3_isTop_16 rfl ?_
        refine j_getR c fl_X3_56 dX3_isTop_17 (Nat.le_of_ble_eq_true rfl) rfl rfl ?_
        refine j_iload_n c dX3_isTop_20 rfl ?_
        refine j_iald c dX3_isTop_21 (Nat.le_of_ble_eq_true rfl) rfl rfl (by omega) (by decide) ?_
        refine j_aload_n c dX3_isTop_22 rfl ?_
        refine j_getR c fl_X3_56 dX3_isTop_23 (Nat.le_of_ble_eq_true rfl) rfl rfl ?_
        refine j_iload_n c dX3_isTop_26 rfl ?_
        refine j_iald c dX3_isTop_27 (Nat.le_of_ble_eq_true rfl) rfl rfl (by omega) (by decide) ?_
        refine j_icmp_ne c 43 dX3_isTop_28 (by decide) (fun g => ?_) (fun g => ?_)
        · exact nxt (by simp [g])
        · refine j_aload_n c dX3_isTop_31 rfl ?_
          refine j_iload_n c dX3_isTop_32 rfl ?_
          refine j_iload_n c dX3_isTop_33 rfl ?_
          refine j_iload_n c dX3_isTop_34 rfl ?_
          refine j_callV1 c kw_X3_111 (sp_areOf hM hW hf hc hk) dX3_isTop_35 rfl rfl (by decide) (Nat.le_of_ble_eq_true rfl) (Nat.le_of_ble_eq_true rfl) rfl rfl ?_
          refine j_if_eq c 43 dX3_isTop_38 (by decide) (fun q => ?_) (fun q => ?_)
          · exact nxt (by simp [bI_z q])
          · refine j_iconst c (nI 0) dX3_isTop_41 (by decide) ?_
            exact j_iret c r dX3_isTop_42 rfl (rtF (by
              cases ht : topB (σ 65) (tls T) (16 ^ tpl T f) call with
              | false => rfl
              | true =>
                have h1 := allU.mp ht k hk
                simp [e, g, bI_nz q] at h1))
  exact key 0 (Nat.zero_le _) (fun o ho => by omega)
theorem sp_topOf {T : TS} {mo : Option (Nat × Nat)} {σ : Sg} (hM : InvM T mo σ) (hW : WF T) {f : Nat} (hf : f < tnf T) (a k : Int32) (hv : ∀ c, c < 16 ^ tpl T f → σ 65 c = a → vcall (tn T) (tpl T f) c = true) : Sp yX3_topOf cX3_topOf 6 (some .int) 3 [.inr 50, .inl (nI f), .inl a, .inl k] σ (rt σ (.inl (kth (fun c => decide (σ 65 c = a) && topB (σ 65) (tls T) (16 ^ tpl T f) c) (16 ^ tpl T f) k))) := by
  have h4 := hW.2.2.2.1
  have hpl := hW.2.2.2.2.1 f hf
  have h16 := p16 hpl.2
  refine Sp.intro rfl (Nat.le_of_ble_eq_true rfl) (fun Γ c r => ?_)
  show J Γ 0 [some (.inr 50), some (.inl (nI f)), some (.inl a), some (.inl k), none, none] [] σ
  generalize hP : (fun c => decide (σ 65 c = a) && topB (σ 65) (tls T) (16 ^ tpl T f) c) = P at r ⊢
  refine j_iconst c (nI 0) dX3_topOf_0 (by decide) ?_
  refine j_istore c dX3_topOf_1 (Nat.le_of_ble_eq_true rfl) rfl ?_
  refine j_iconst c (nI 0) dX3_topOf_3 (by decide) ?_
  refine j_istore c dX3_topOf_4 (Nat.le_of_ble_eq_true rfl) rfl ?_
  have key : ∀ j, j ≤ 16 ^ tpl T f → (∀ i, i < j → (P i && decide (nI (cnt P i) = k)) = false) → J Γ 6 [some (.inr 50), some (.inl (nI f)), some (.inl a), some (.inl k), some (.inl (nI (cnt P j))), some (.inl (nI j))] [] σ := by
    refine loopN _ ?_ ?_
    · intro h0
      refine j_iload c dX3_topOf_6 rfl ?_
      refine j_aload_n c dX3_topOf_8 rfl ?_
      refine j_iload_n c dX3_topOf_9 rfl ?_
      refine j_callV1 c kw_X3_172 (sp_callsOf hM hW hf) dX3_topOf_10 rfl rfl (by decide) (Nat.le_of_ble_eq_true rfl) (Nat.le_of_ble_eq_true rfl) rfl rfl ?_
      refine j_icmp_ge c 55 dX3_topOf_13 (by decide) (fun _ => ?_) (fun h => absurd (nI_le (Nat.le_refl _) (by omega)) h)
      refine j_iload_n c dX3_topOf_55 rfl ?_
      refine j_iconst c (-1) dX3_topOf_56 (by decide) ?_
      refine j_icmp_ne c 65 dX3_topOf_57 (by decide) (fun e => ?_) (fun e => ?_)
      · refine j_iconst c (-1) dX3_topOf_65 (by decide) ?_
        exact j_iret c r dX3_topOf_66 rfl ⟨by rw [kth_no h0, if_neg e], rfl⟩
      · refine j_iload c dX3_topOf_60 rfl ?_
        refine j_goto c 66 dX3_topOf_62 (by decide) ?_
        exact j_iret c r dX3_topOf_66 rfl ⟨by rw [kth_no h0, if_pos e], rfl⟩
    · intro j hj ih h0
      have hc1 := cnt_le P j
      have nxt : P j = false → J Γ 49 [some (.inr 50), some (.inl (nI f)), some (.inl a), some (.inl k), some (.inl (nI (cnt P j))), some (.inl (nI j))] [] σ := by
        intro h
        refine j_iinc c _ dX3_topOf_49 rfl (by first | exact nI_1 _ | exact pk_m1 _ | rfl) rfl ?_
        refine j_goto c 6 dX3_topOf_52 (by decide) ?_
        have e1 : cnt P (j + 1) = cnt P j := by simp [cnt, h]
        rw [e1] at ih
        refine ih (fun i hi => ?_)
        by_cases e : i = j
        · subst e; simp [h]
        · exact h0 i (by omega)
      refine j_iload c dX3_topOf_6 rfl ?_
      refine j_aload_n c dX3_topOf_8 rfl ?_
      refine j_iload_n c dX3_topOf_9 rfl ?_
      refine j_callV1 c kw_X3_172 (sp_callsOf hM hW hf) dX3_topOf_10 rfl rfl (by decide) (Nat.le_of_ble_eq_true rfl) (Nat.le_of_ble_eq_true rfl) rfl rfl ?_
      refine j_icmp_ge c 55 dX3_topOf_13 (by decide) (fun h => absurd h (nI_ge hj (by omega))) (fun _ => ?_)
      refine j_aload_n c dX3_topOf_16 rfl ?_
      refine j_getR c fl_X3_56 dX3_topOf_17 (Nat.le_of_ble_eq_true rfl) rfl rfl ?_
      refine j_iload c dX3_topOf_20 rfl ?_
      refine j_iald c dX3_topOf_22 (Nat.le_of_ble_eq_true rfl) rfl rfl (by omega) (by decide) ?_
      refine j_iload_n c dX3_topOf_23 rfl ?_
      refine j_icmp_ne c 49 dX3_topOf_24 (by decide) (fun e => ?_) (fun e => ?_)
      · exact nxt (by rw [← hP]; simp [e])
      · refine j_aload_n c dX3_topOf_27 rfl ?_
        refine j_iload_n c dX3_topOf_28 rfl ?_
        refine j_iload c dX3_topOf_29 rfl ?_
        refine j_callV1 c kw_X3_175 (sp_isTop hM hW hf (hv j hj e)) dX3_topOf_31 rfl rfl (by decide) (Nat.le_of_ble_eq_true rfl) (Nat.le_of_ble_eq_true rfl) rfl rfl ?_
        refine j_if_eq c 49 dX3_topOf_34 (by decide) (fun g => ?_) (fun g => ?_)
        · exact nxt (by rw [← hP]; simp [bI_z g])
        · have hp : P j = true := by rw [← hP]; simp [e, bI_nz g]
          refine j_iload c dX3_topOf_37 rfl ?_
          refine j_iload_n c dX3_topOf_39 rfl ?_
          refine j_icmp_ne c 46 dX3_topOf_40 (by decide) (fun q => ?_) (fun q => ?_)
          · refine j_iinc c _ dX3_topOf_46 rfl (by first | exact nI_1 _ | exact pk_m1 _ | rfl) rfl ?_
            refine j_iinc c _ dX3_topOf_49 rfl (by first | exact nI_1 _ | exact pk_m1 _ | rfl) rfl ?_
            refine j_goto c 6 dX3_topOf_52 (by decide) ?_
            have e1 : cnt P (j + 1) = cnt P j + 1 := by simp [cnt, hp]
            rw [e1] at ih
            refine ih (fun i hi => ?_)
            by_cases ei : i = j
            · subst ei; simp [q]
            · exact h0 i (by omega)
          · refine j_iload c dX3_topOf_43 rfl ?_
            exact j_iret c r dX3_topOf_45 rfl ⟨by rw [kth_hit hj hp q h0], rfl⟩
  exact key 0 (Nat.zero_le _) (fun i hi => by omega)
theorem sp_areAlikeM {T : TS} {mo : Option (Nat × Nat)} {σ : Sg} (hM : InvM T mo σ) (hW : WF T) {f p one other : Nat} (hf : f < tnf T) (hp : p < tpl T f) (h1 : one < 16) (h2 : other < 16) : Sp yX3_areAlike cX3_areAlike 7 (some .boolean) 1 [.inr 50, .inl (nI f), .inl (nI p), .inl (nI one), .inl (nI other)] σ (rt σ (.inl (bI (alB (σ 65) (16 ^ tpl T f) p one other)))) := by
  have h4 := hW.2.2.2.1
  have hpl := hW.2.2.2.2.1 f hf
  have h16 := p16 hpl.2
  refine Sp.intro rfl (Nat.le_of_ble_eq_true rfl) (fun Γ c r => ?_)
  show J Γ 0 [some (.inr 50), some (.inl (nI f)), some (.inl (nI p)), some (.inl (nI one)), some (.inl (nI other)), none, none] [] σ
  refine j_iload c dX3_areAlike_0 rfl ?_
  refine j_iload_n c dX3_areAlike_2 rfl ?_
  refine j_isub c _ dX3_areAlike_3 rfl ?_
  refine j_iconst c (nI 4) dX3_areAlike_4 (by decide) ?_
  refine j_iload_n c dX3_areAlike_5 rfl ?_
  refine j_imul c _ dX3_areAlike_6 (by first | exact pk_mul _ _ | rfl) ?_
  refine j_ishl c _ dX3_areAlike_7 rfl ?_
  refine j_istore c dX3_areAlike_8 (Nat.le_of_ble_eq_true rfl) rfl ?_
  refine j_iconst c (nI 0) dX3_areAlike_10 (by decide) ?_
  refine j_istore c dX3_areAlike_11 (Nat.le_of_ble_eq_true rfl) rfl ?_
  have key : ∀ k, k ≤ 16 ^ tpl T f → (∀ o, o < k → (decide (σ 65 o = -3) || (!decide (dg o p = one) || decide (σ 65 o = σ 65 (rep o p other)))) = true) → J Γ 13 [some (.inr 50), some (.inl (nI f)), some (.inl (nI p)), some (.inl (nI one)), some (.inl (nI other)), some (.inl ((nI other - nI one) <<< (nI (4 * p) &&& 31))), some (.inl (nI k))] [] σ := by
    refine loopN _ ?_ ?_
    · intro h0
      refine j_iload c dX3_areAlike_13 rfl ?_
      refine j_aload_n c dX3_areAlike_15 rfl ?_
      refine j_iload_n c dX3_areAlike_16 rfl ?_
      refine j_callV1 c kw_X3_172 (sp_callsOf hM hW hf) dX3_areAlike_17 rfl rfl (by decide) (Nat.le_of_ble_eq_true rfl) (Nat.le_of_ble_eq_true rfl) rfl rfl ?_
      refine j_icmp_ge c 73 dX3_areAlike_20 (by decide) (fun _ => ?_) (fun h => absurd (nI_le (Nat.le_refl _) (by omega)) h)
      refine j_iconst c (nI 1) dX3_areAlike_73 (by decide) ?_
      exact j_iret c r dX3_areAlike_74 rfl (rtT (allU.mpr h0))
    · intro k hk ih h0
      have nxt : (decide (σ 65 k = -3) || (!decide (dg k p = one) || decide (σ 65 k = σ 65 (rep k p other)))) = true → J Γ 67 [some (.inr 50), some (.inl (nI f)), some (.inl (nI p)), some (.inl (nI one)), some (.inl (nI other)), some (.inl ((nI other - nI one) <<< (nI (4 * p) &&& 31))), some (.inl (nI k))] [] σ := by
        intro h
        refine j_iinc c _ dX3_areAlike_67 rfl (by first | exact nI_1 _ | exact pk_m1 _ | rfl) rfl ?_
        refine j_goto c 13 dX3_areAlike_70 (by decide) ?_
        refine ih (fun o ho => ?_)
        by_cases e : o = k
        · subst e; exact h
        · exact h0 o (by omega)
      refine j_iload c dX3_areAlike_13 rfl ?_
      refine j_aload_n c dX3_areAlike_15 rfl ?_
      refine j_iload_n c dX3_areAlike_16 rfl ?_
      refine j_callV1 c kw_X3_172 (sp_callsOf hM hW hf) dX3_areAlike_17 rfl rfl (by decide) (Nat.le_of_ble_eq_true rfl) (Nat.le_of_ble_eq_true rfl) rfl rfl ?_
      refine j_icmp_ge c 73 dX3_areAlike_20 (by decide) (fun h => absurd h (nI_ge hk (by omega))) (fun _ => ?_)
      refine j_aload_n c dX3_areAlike_23 rfl ?_
      refine j_getR c fl_X3_56 dX3_areAlike_24 (Nat.le_of_ble_eq_true rfl) rfl rfl ?_
      refine j_iload c dX3_areAlike_27 rfl ?_
      refine j_iald c dX3_areAlike_29 (Nat.le_of_ble_eq_true rfl) rfl rfl (by omega) (by decide) ?_
      refine j_bipush c (-3) dX3_areAlike_30 (by decide) ?_
      refine j_icmp_eq c 67 dX3_areAlike_32 (by decide) (fun e => ?_) (fun e => ?_)
      · exact nxt (by simp [e])
      · refine j_iload c dX3_areAlike_35 rfl ?_
        refine j_iload_n c dX3_areAlike_37 rfl ?_
        refine j_callS1 c kw_X3_107 (sp_digit σ k p (by omega) (by omega)) dX3_areAlike_38 rfl rfl (by decide) (Nat.le_of_ble_eq_true rfl) ?_
        have hd := dg_lt k p
        refine j_iload_n c dX3_areAlike_41 rfl ?_
        refine j_icmp_ne c 67 dX3_areAlike_42 (by decide) (fun g => ?_) (fun g => ?_)
        · rw [nI_eq (by omega) (by omega)] at g
          exact nxt (by simp [g])
        · rw [nI_eq (by omega) (by omega)] at g
          have hr := (rep_dg (q := 0) hk hpl.2 hp h2).1
          have hi : nI k + (nI other - nI one) <<< (nI (4 * p) &&& 31) = nI (rep k p other) := by rw [← g]; exact rep_I (by omega) h2 (by omega)
          refine j_aload_n c dX3_areAlike_45 rfl ?_
          refine j_getR c fl_X3_56 dX3_areAlike_46 (Nat.le_of_ble_eq_true rfl) rfl rfl ?_
          refine j_iload c dX3_areAlike_49 rfl ?_
          refine j_iald c dX3_areAlike_51 (Nat.le_of_ble_eq_true rfl) rfl rfl (by omega) (by decide) ?_
          refine j_aload_n c dX3_areAlike_52 rfl ?_
          refine j_getR c fl_X3_56 dX3_areAlike_53 (Nat.le_of_ble_eq_true rfl) rfl rfl ?_
          refine j_iload c dX3_areAlike_56 rfl ?_
          refine j_iload c dX3_areAlike_58 rfl ?_
          refine j_iadd c _ dX3_areAlike_60 hi ?_
          refine j_iald c dX3_areAlike_61 (Nat.le_of_ble_eq_true rfl) rfl rfl (by omega) (by decide) ?_
          refine j_icmp_eq c 67 dX3_areAlike_62 (by decide) (fun q => ?_) (fun q => ?_)
          · exact nxt (by simp [q])
          · refine j_iconst c (nI 0) dX3_areAlike_65 (by decide) ?_
            exact j_iret c r dX3_areAlike_66 rfl (rtF (by
              cases ht : alB (σ 65) (16 ^ tpl T f) p one other with
              | false => rfl
              | true =>
                have h1 := allU.mp ht k hk
                simp [e, g, q] at h1))
  exact key 0 (Nat.zero_le _) (fun o ho => by omega)
theorem alB_self {A : Nat → Int32} {N p one : Nat} : alB A N p one one = true := by
  refine allU.mpr (fun o _ => ?_)
  by_cases h : dg o p = one
  · simp [show rep o p one = o by rw [← h]; exact rep_self]
  · simp [h]
theorem sp_poleOf {T : TS} {mo : Option (Nat × Nat)} {σ : Sg} (hM : InvM T mo σ) (hW : WF T) {f p k : Nat} (hf : f < tnf T) (hp : p < tpl T f) (h1 : k < 16) : Sp yX3_poleOf cX3_poleOf 5 (some .int) 2 [.inr 50, .inl (nI f), .inl (nI p), .inl (nI k)] σ (rt σ (.inl (oI (fnd (alB (σ 65) (16 ^ tpl T f) p k) (k + 1))))) := by
  refine Sp.intro rfl (Nat.le_of_ble_eq_true rfl) (fun Γ c r => ?_)
  show J Γ 0 [some (.inr 50), some (.inl (nI f)), some (.inl (nI p)), some (.inl (nI k)), none] [] σ
  refine j_iconst c (nI 0) dX3_poleOf_0 (by decide) ?_
  refine j_istore c dX3_poleOf_1 (Nat.le_of_ble_eq_true rfl) rfl ?_
  have key : ∀ q, q ≤ k → (∀ j, j < q → alB (σ 65) (16 ^ tpl T f) p k j = false) → J Γ 3 [some (.inr 50), some (.inl (nI f)), some (.inl (nI p)), some (.inl (nI k)), some (.inl (nI q))] [] σ := by
    refine loopN k ?_ ?_
    · intro h0
      refine j_aload_n c dX3_poleOf_3 rfl ?_
      refine j_iload_n c dX3_poleOf_4 rfl ?_
      refine j_iload_n c dX3_poleOf_5 rfl ?_
      refine j_iload_n c dX3_poleOf_6 rfl ?_
      refine j_iload c dX3_poleOf_7 rfl ?_
      refine j_callV1 c kw_X3_178 (sp_areAlikeM hM hW hf hp h1 h1) dX3_poleOf_9 rfl rfl (by decide) (Nat.le_of_ble_eq_true rfl) (Nat.le_of_ble_eq_true rfl) rfl rfl ?_
      rw [alB_self]
      refine j_if_ne c 21 dX3_poleOf_12 (by decide) (fun _ => ?_) (fun h => absurd h (by decide))
      refine j_iload c dX3_poleOf_21 rfl ?_
      exact j_iret c r dX3_poleOf_23 rfl ⟨by rw [fnd_hit (by omega) alB_self h0]; rfl, rfl⟩
    · intro q hq ih h0
      refine j_aload_n c dX3_poleOf_3 rfl ?_
      refine j_iload_n c dX3_poleOf_4 rfl ?_
      refine j_iload_n c dX3_poleOf_5 rfl ?_
      refine j_iload_n c dX3_poleOf_6 rfl ?_
      refine j_iload c dX3_poleOf_7 rfl ?_
      refine j_callV1 c kw_X3_178 (sp_areAlikeM hM hW hf hp h1 (by omega)) dX3_poleOf_9 rfl rfl (by decide) (Nat.le_of_ble_eq_true rfl) (Nat.le_of_ble_eq_true rfl) rfl rfl ?_
      refine j_if_ne c 21 dX3_poleOf_12 (by decide) (fun e => ?_) (fun e => ?_)
      · refine j_iload c dX3_poleOf_21 rfl ?_
        exact j_iret c r dX3_poleOf_23 rfl ⟨by rw [fnd_hit (by omega) (bI_nz e) h0]; rfl, rfl⟩
      · refine j_iinc c _ dX3_poleOf_15 rfl (by first | exact nI_1 _ | exact pk_m1 _ | rfl) rfl ?_
        refine j_goto c 3 dX3_poleOf_18 (by decide) ?_
        refine ih (fun j hj => ?_)
        by_cases ej : j = q
        · subst ej; exact bI_z e
        · exact h0 j (by omega)
  exact key 0 (by omega) (fun j hj => by omega)
