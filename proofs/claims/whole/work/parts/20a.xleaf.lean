-- ===== 20a: the class's small methods =====
theorem sp_classAt (σ : Sg) (x p : Nat) (hx : x < 2 ^ 31) (hp : p < 8) : Sp yX2_classAt cX2_classAt 2 (some .int) 0 [.inl (nI x), .inl (nI p)] σ (rt σ (.inl (nI (dg x p)))) := by
  refine Sp.intro rfl (Nat.le_of_ble_eq_true rfl) (fun Γ c r => ?_)
  show J Γ 0 [some (.inl (nI x)), some (.inl (nI p))] [] σ
  refine j_iload_n c dX2_classAt_0 rfl ?_
  refine j_iconst c (nI 4) dX2_classAt_1 (by decide) ?_
  refine j_iload_n c dX2_classAt_2 rfl ?_
  refine j_imul c _ dX2_classAt_3 (by first | exact pk_mul _ _ | rfl) ?_
  refine j_ishr c _ dX2_classAt_4 rfl ?_
  refine j_bipush c (nI 15) dX2_classAt_5 (by decide) ?_
  refine j_iand c _ dX2_classAt_7 (dg_shr hx hp) ?_
  exact j_iret c r dX2_classAt_8 rfl ⟨rfl, rfl⟩
theorem sp_has (σ : Sg) (x : Int32) (n : Nat) (h1 : σ 1 0 = nI n) (hn : n ≤ 16) : Sp yX0_has cX0_has 2 (some .boolean) 0 [.inr 1, .inl x] σ (rt σ (.inl (bI (isN x n)))) := by
  refine Sp.intro rfl (Nat.le_of_ble_eq_true rfl) (fun Γ c r => ?_)
  show J Γ 0 [some (.inr 1), some (.inl x)] [] σ
  refine j_iload_n c dX0_has_0 rfl ?_
  refine j_if_lt c 16 dX0_has_1 (by decide) (fun e => ?_) (fun e => ?_)
  · refine j_iconst c (nI 0) dX0_has_16 (by decide) ?_
    exact j_iret c r dX0_has_17 rfl (rtF (isN_neg e))
  · obtain ⟨j, hj, rfl⟩ := nI_of e
    rw [isN_nI hj] at r
    refine j_iload_n c dX0_has_4 rfl ?_
    refine j_aload_n c dX0_has_5 rfl ?_
    refine j_getI c fl_X0_9 dX0_has_6 (Nat.le_of_ble_eq_true rfl) rfl rfl ?_
    rw [h1]
    refine j_icmp_ge c 16 dX0_has_9 (by decide) (fun g => ?_) (fun g => ?_)
    · rw [nI_leI (by omega) hj] at g
      refine j_iconst c (nI 0) dX0_has_16 (by decide) ?_
      exact j_iret c r dX0_has_17 rfl (rtF (by simp; omega))
    · rw [nI_leI (by omega) hj] at g
      refine j_iconst c (nI 1) dX0_has_12 (by decide) ?_
      refine j_goto c 17 dX0_has_13 (by decide) ?_
      exact j_iret c r dX0_has_17 rfl (rtT (by simp; omega))
theorem sp_isOne {T : TS} {σ : Sg} (hC : CX T σ) (hn : tn T ≤ 16) {a b : Nat} (ha : a < tn T) (hb : b < 32) : Sp yX0_isOne cX0_isOne 3 (some .boolean) 0 [.inr 1, .inl (nI a), .inl (nI b)] σ (rt σ (.inl (bI (up (tls T) a b)))) := by
  refine Sp.intro rfl (Nat.le_of_ble_eq_true rfl) (fun Γ c r => ?_)
  show J Γ 0 [some (.inr 1), some (.inl (nI a)), some (.inl (nI b))] [] σ
  refine j_aload_n c dX0_isOne_0 rfl ?_
  refine j_getR c fl_X0_22 dX0_isOne_1 (Nat.le_of_ble_eq_true rfl) rfl rfl ?_
  refine j_iload_n c dX0_isOne_4 rfl ?_
  refine j_iald c dX0_isOne_5 (Nat.le_of_ble_eq_true rfl) rfl rfl (by omega) (by decide) ?_
  refine j_iload_n c dX0_isOne_6 rfl ?_
  refine j_ishr c _ dX0_isOne_7 rfl ?_
  refine j_iconst c (nI 1) dX0_isOne_8 (by decide) ?_
  refine j_iand c _ dX0_isOne_9 (bt_shr (σ 4 a) hb) ?_
  rw [hC.2.1 a ha b hb]
  refine j_if_eq c 17 dX0_isOne_10 (by decide) (fun e => ?_) (fun e => ?_)
  · refine j_iconst c (nI 0) dX0_isOne_17 (by decide) ?_
    exact j_iret c r dX0_isOne_18 rfl (rtF (bI_z e))
  · refine j_iconst c (nI 1) dX0_isOne_13 (by decide) ?_
    refine j_goto c 18 dX0_isOne_14 (by decide) ?_
    exact j_iret c r dX0_isOne_18 rfl (rtT (bI_nz e))
theorem sp_thatAreBoth {T : TS} {σ : Sg} (hC : CX T σ) (hn : tn T ≤ 16) {a b : Nat} (ha : a < tn T) (hb : b < tn T) : Sp yX0_thatAreBoth cX0_thatAreBoth 5 (some .int) 1 [.inr 1, .inl (nI a), .inl (nI b)] σ (rt σ (.inl (mkS (fun x => up (tls T) x a && up (tls T) x b) (tn T)))) := by
  refine Sp.intro rfl (Nat.le_of_ble_eq_true rfl) (fun Γ c r => ?_)
  show J Γ 0 [some (.inr 1), some (.inl (nI a)), some (.inl (nI b)), none, none] [] σ
  refine j_iconst c (nI 0) dX0_thatAreBoth_0 (by decide) ?_
  refine j_istore_n c dX0_thatAreBoth_1 (Nat.le_of_ble_eq_true rfl) rfl ?_
  refine j_iconst c (nI 0) dX0_thatAreBoth_2 (by decide) ?_
  refine j_istore c dX0_thatAreBoth_3 (Nat.le_of_ble_eq_true rfl) rfl ?_
  have key : ∀ k, k ≤ tn T → J Γ 5 [some (.inr 1), some (.inl (nI a)), some (.inl (nI b)), some (.inl (mkS (fun x => up (tls T) x a && up (tls T) x b) k)), some (.inl (nI k))] [] σ := by
    refine loopN _ ?_ ?_
    · refine j_iload c dX0_thatAreBoth_5 rfl ?_
      refine j_aload_n c dX0_thatAreBoth_7 rfl ?_
      refine j_getI c fl_X0_9 dX0_thatAreBoth_8 (Nat.le_of_ble_eq_true rfl) rfl rfl ?_
      rw [hC.1]
      refine j_icmp_ge c 47 dX0_thatAreBoth_11 (by decide) (fun _ => ?_) (fun h_9 => absurd (nI_le (Nat.le_refl _) (by omega)) h_9)
      refine j_iload_n c dX0_thatAreBoth_47 rfl ?_
      exact j_iret c r dX0_thatAreBoth_48 rfl ⟨rfl, rfl⟩
    · intro k hk ih
      have no : (up (tls T) k a && up (tls T) k b) = false → J Γ 41 [some (.inr 1), some (.inl (nI a)), some (.inl (nI b)), some (.inl (mkS (fun x => up (tls T) x a && up (tls T) x b) k)), some (.inl (nI k))] [] σ := by
        intro h
        have e : mkS (fun x => up (tls T) x a && up (tls T) x b) (k + 1) = mkS (fun x => up (tls T) x a && up (tls T) x b) k := by
          apply bt_ext
          intro m _
          rw [bt_mkS _ (by omega), bt_mkS _ (by omega)]
          by_cases em : m = k
          · subst em; simp [h]
          · congr 1; simp only [decide_eq_decide]; omega
        rw [e] at ih
        refine j_iinc c _ dX0_thatAreBoth_41 rfl (by first | exact nI_1 _ | exact pk_m1 _ | rfl) rfl ?_
        refine j_goto c 5 dX0_thatAreBoth_44 (by decide) ?_
        exact ih
      refine j_iload c dX0_thatAreBoth_5 rfl ?_
      refine j_aload_n c dX0_thatAreBoth_7 rfl ?_
      refine j_getI c fl_X0_9 dX0_thatAreBoth_8 (Nat.le_of_ble_eq_true rfl) rfl rfl ?_
      rw [hC.1]
      refine j_icmp_ge c 47 dX0_thatAreBoth_11 (by decide) (fun h_9 => absurd h_9 (nI_ge hk (by omega))) (fun _ => ?_)
      refine j_aload_n c dX0_thatAreBoth_14 rfl ?_
      refine j_iload c dX0_thatAreBoth_15 rfl ?_
      refine j_iload_n c dX0_thatAreBoth_17 rfl ?_
      refine j_callV1 c kw_X0_43 (sp_isOne hC hn hk (by omega)) dX0_thatAreBoth_18 rfl rfl (by decide) (Nat.le_of_ble_eq_true rfl) (Nat.le_of_ble_eq_true rfl) rfl rfl ?_
      refine j_if_eq c 41 dX0_thatAreBoth_21 (by decide) (fun e => ?_) (fun e => ?_)
      · exact no (by simp [bI_z e])
      · refine j_aload_n c dX0_thatAreBoth_24 rfl ?_
        refine j_iload c dX0_thatAreBoth_25 rfl ?_
        refine j_iload_n c dX0_thatAreBoth_27 rfl ?_
        refine j_callV1 c kw_X0_43 (sp_isOne hC hn hk (by omega)) dX0_thatAreBoth_28 rfl rfl (by decide) (Nat.le_of_ble_eq_true rfl) (Nat.le_of_ble_eq_true rfl) rfl rfl ?_
        refine j_if_eq c 41 dX0_thatAreBoth_31 (by decide) (fun g => ?_) (fun g => ?_)
        · exact no (by simp [bI_z g])
        · refine j_iload_n c dX0_thatAreBoth_34 rfl ?_
          refine j_iconst c (nI 1) dX0_thatAreBoth_35 (by decide) ?_
          refine j_iload c dX0_thatAreBoth_36 rfl ?_
          refine j_ishl c _ dX0_thatAreBoth_38 rfl ?_
          refine j_ior c _ dX0_thatAreBoth_39 (show _ = mkS (fun x => up (tls T) x a && up (tls T) x b) (k + 1) by simp [mkS, bI_nz e, bI_nz g]) ?_
          refine j_istore_n c dX0_thatAreBoth_40 (Nat.le_of_ble_eq_true rfl) rfl ?_
          refine j_iinc c _ dX0_thatAreBoth_41 rfl (by first | exact nI_1 _ | exact pk_m1 _ | rfl) rfl ?_
          refine j_goto c 5 dX0_thatAreBoth_44 (by decide) ?_
          exact ih
  exact key 0 (Nat.zero_le _)
theorem sp_callAfter {σ : Sg} {n : Nat} (h1 : σ 1 0 = nI n) (hn : n ≤ 16) {a : Nat} (ha : a < 4096) : Sp yX0_callAfter cX0_callAfter 2 (some .int) 1 [.inr 1, .inl (nI a)] σ (rt σ (.inl (nI (nxc n a)))) := by
  have d0 := dg_lt a 0
  have d1 := dg_lt a 1
  refine Sp.intro rfl (Nat.le_of_ble_eq_true rfl) (fun Γ c r => ?_)
  show J Γ 0 [some (.inr 1), some (.inl (nI a))] [] σ
  refine j_iload_n c dX0_callAfter_0 rfl ?_
  refine j_iconst c (nI 0) dX0_callAfter_1 (by decide) ?_
  refine j_callSN1 c kw_X0_47 (sp_classAt σ a 0 (by omega) (by decide)) dX0_callAfter_2 rfl rfl (by decide) (Nat.le_of_ble_eq_true rfl) ?_
  refine j_iconst c (nI 1) dX0_callAfter_5 (by decide) ?_
  refine j_iadd c _ dX0_callAfter_6 (by first | exact nI_add _ _ | rfl) ?_
  refine j_aload_n c dX0_callAfter_7 rfl ?_
  refine j_getI c fl_X0_9 dX0_callAfter_8 (Nat.le_of_ble_eq_true rfl) rfl rfl ?_
  rw [h1]
  refine j_icmp_ge c 18 dX0_callAfter_11 (by decide) (fun e => ?_) (fun e => ?_)
  · rw [nI_leI (by omega) (by omega)] at e
    refine j_iload_n c dX0_callAfter_18 rfl ?_
    refine j_iconst c (nI 1) dX0_callAfter_19 (by decide) ?_
    refine j_callSN1 c kw_X0_47 (sp_classAt σ a 1 (by omega) (by decide)) dX0_callAfter_20 rfl rfl (by decide) (Nat.le_of_ble_eq_true rfl) ?_
    refine j_iconst c (nI 1) dX0_callAfter_23 (by decide) ?_
    refine j_iadd c _ dX0_callAfter_24 (by first | exact nI_add _ _ | rfl) ?_
    refine j_aload_n c dX0_callAfter_25 rfl ?_
    refine j_getI c fl_X0_9 dX0_callAfter_26 (Nat.le_of_ble_eq_true rfl) rfl rfl ?_
    rw [h1]
    refine j_icmp_ge c 39 dX0_callAfter_29 (by decide) (fun g => ?_) (fun g => ?_)
    · rw [nI_leI (by omega) (by omega)] at g
      refine j_iload_n c dX0_callAfter_39 rfl ?_
      refine j_sipush c (nI 255) dX0_callAfter_40 (by decide) ?_
      refine j_ior c _ dX0_callAfter_43 (or255 ha) ?_
      refine j_iconst c (nI 1) dX0_callAfter_44 (by decide) ?_
      refine j_iadd c _ dX0_callAfter_45 (by first | exact nI_add _ _ | rfl) ?_
      exact j_iret c r dX0_callAfter_46 rfl ⟨by unfold nxc; rw [if_neg (by omega), if_neg (by omega)], rfl⟩
    · rw [nI_leI (by omega) (by omega)] at g
      refine j_iload_n c dX0_callAfter_32 rfl ?_
      refine j_bipush c (nI 15) dX0_callAfter_33 (by decide) ?_
      refine j_ior c _ dX0_callAfter_35 (or15 ha) ?_
      refine j_iconst c (nI 1) dX0_callAfter_36 (by decide) ?_
      refine j_iadd c _ dX0_callAfter_37 (by first | exact nI_add _ _ | rfl) ?_
      exact j_iret c r dX0_callAfter_38 rfl ⟨by unfold nxc; rw [if_neg (by omega), if_pos (by omega)], rfl⟩
  · rw [nI_leI (by omega) (by omega)] at e
    refine j_iload_n c dX0_callAfter_14 rfl ?_
    refine j_iconst c (nI 1) dX0_callAfter_15 (by decide) ?_
    refine j_iadd c _ dX0_callAfter_16 (by first | exact nI_add _ _ | rfl) ?_
    exact j_iret c r dX0_callAfter_17 rfl ⟨by unfold nxc; rw [if_pos (by omega)], rfl⟩
theorem sp_next {σ : Sg} {n : Nat} (h1 : σ 1 0 = nI n) (hn0 : 1 ≤ n) (hn : n ≤ 16) {i : Nat} (hi : i < n * n * n) : Sp yX0_callAfter cX0_callAfter 2 (some .int) 1 [.inr 1, .inl (nI (ci n i))] σ (rt σ (.inl (nI (ci n (i + 1))))) := by
  have h := sp_callAfter h1 hn (ci_lt hn0 hn hi).1
  rw [nxc_ci hn0 hn hi] at h
  exact h
def parB (n : Nat) (a b d : Int32) : Bool := isN a n && ((if b = -1 then decide (d = -1) else isN b n) && ((decide (d = -1) || isN d n) && (!decide (a = b) && (!decide (a = d) && (!decide (b = d) || decide (b = -1))))))
theorem sp_canBeParents (σ : Sg) (a b d : Int32) (n : Nat) (h1 : σ 1 0 = nI n) (hn : n ≤ 16) : Sp yX0_canBeParents cX0_canBeParents 4 (some .boolean) 1 [.inr 1, .inl a, .inl b, .inl d] σ (rt σ (.inl (bI (parB n a b d)))) := by
  refine Sp.intro rfl (Nat.le_of_ble_eq_true rfl) (fun Γ c r => ?_)
  show J Γ 0 [some (.inr 1), some (.inl a), some (.inl b), some (.inl d)] [] σ
  refine j_aload_n c dX0_canBeParents_0 rfl ?_
  refine j_iload_n c dX0_canBeParents_1 rfl ?_
  refine j_callV1 c kw_X0_51 (sp_has σ a n h1 hn) dX0_canBeParents_2 rfl rfl (by decide) (Nat.le_of_ble_eq_true rfl) (Nat.le_of_ble_eq_true rfl) rfl rfl ?_
  refine j_if_ne c 10 dX0_canBeParents_5 (by decide) (fun e => ?_) (fun e => ?_)
  · have e2 := bI_nz e
    obtain ⟨i, hi, hi2, rfl⟩ := isN_of e2
    have hne : nI i ≠ -1 := nI_ne1 hi2
    refine j_iload_n c dX0_canBeParents_10 rfl ?_
    refine j_iconst c (-1) dX0_canBeParents_11 (by decide) ?_
    refine j_icmp_ne c 26 dX0_canBeParents_12 (by decide) (fun g => ?_) (fun g => ?_)
    · refine j_aload_n c dX0_canBeParents_26 rfl ?_
      refine j_iload_n c dX0_canBeParents_27 rfl ?_
      refine j_callV1 c kw_X0_51 (sp_has σ b n h1 hn) dX0_canBeParents_28 rfl rfl (by decide) (Nat.le_of_ble_eq_true rfl) (Nat.le_of_ble_eq_true rfl) rfl rfl ?_
      refine j_if_eq c 39 dX0_canBeParents_31 (by decide) (fun q => ?_) (fun q => ?_)
      · refine j_iconst c (nI 0) dX0_canBeParents_39 (by decide) ?_
        exact j_iret c r dX0_canBeParents_40 rfl (rtF (by simp [parB, g, bI_z q]))
      · have q2 := bI_nz q
        refine j_iload_n c dX0_canBeParents_34 rfl ?_
        refine j_iload_n c dX0_canBeParents_35 rfl ?_
        refine j_icmp_ne c 41 dX0_canBeParents_36 (by decide) (fun u => ?_) (fun u => ?_)
        · refine j_iload_n c dX0_canBeParents_41 rfl ?_
          refine j_iconst c (-1) dX0_canBeParents_42 (by decide) ?_
          refine j_icmp_eq c 64 dX0_canBeParents_43 (by decide) (fun v => ?_) (fun v => ?_)
          · refine j_iconst c (nI 1) dX0_canBeParents_64 (by decide) ?_
            refine j_goto c 69 dX0_canBeParents_65 (by decide) ?_
            have hb1 : ¬ nI i = b := fun h => u h.symm
            exact j_iret c r dX0_canBeParents_69 rfl (rtT (by subst v; simp [parB, g, e2, q2, hb1, hne]))
          · refine j_aload_n c dX0_canBeParents_46 rfl ?_
            refine j_iload_n c dX0_canBeParents_47 rfl ?_
            refine j_callV1 c kw_X0_51 (sp_has σ d n h1 hn) dX0_canBeParents_48 rfl rfl (by decide) (Nat.le_of_ble_eq_true rfl) (Nat.le_of_ble_eq_true rfl) rfl rfl ?_
            refine j_if_eq c 68 dX0_canBeParents_51 (by decide) (fun w => ?_) (fun w => ?_)
            · refine j_iconst c (nI 0) dX0_canBeParents_68 (by decide) ?_
              exact j_iret c r dX0_canBeParents_69 rfl (rtF (by simp [parB, v, bI_z w]))
            · have w2 := bI_nz w
              refine j_iload_n c dX0_canBeParents_54 rfl ?_
              refine j_iload_n c dX0_canBeParents_55 rfl ?_
              refine j_icmp_eq c 68 dX0_canBeParents_56 (by decide) (fun x => ?_) (fun x => ?_)
              · refine j_iconst c (nI 0) dX0_canBeParents_68 (by decide) ?_
                exact j_iret c r dX0_canBeParents_69 rfl (rtF (by simp [parB, x]))
              · refine j_iload_n c dX0_canBeParents_59 rfl ?_
                refine j_iload_n c dX0_canBeParents_60 rfl ?_
                refine j_icmp_eq c 68 dX0_canBeParents_61 (by decide) (fun y => ?_) (fun y => ?_)
                · refine j_iconst c (nI 0) dX0_canBeParents_68 (by decide) ?_
                  exact j_iret c r dX0_canBeParents_69 rfl (rtF (by subst y; simp [parB, g]))
                · refine j_iconst c (nI 1) dX0_canBeParents_64 (by decide) ?_
                  refine j_goto c 69 dX0_canBeParents_65 (by decide) ?_
                  have hb1 : ¬ nI i = b := fun h => u h.symm
                  have hb2 : ¬ nI i = d := fun h => x h.symm
                  have hb3 : ¬ b = d := fun h => y h.symm
                  exact j_iret c r dX0_canBeParents_69 rfl (rtT (by simp [parB, g, e2, q2, w2, hb1, hb2, hb3]))
        · refine j_iconst c (nI 0) dX0_canBeParents_39 (by decide) ?_
          exact j_iret c r dX0_canBeParents_40 rfl (rtF (by simp [parB, u]))
    · subst g
      refine j_iload_n c dX0_canBeParents_15 rfl ?_
      refine j_iconst c (-1) dX0_canBeParents_16 (by decide) ?_
      refine j_icmp_ne c 24 dX0_canBeParents_17 (by decide) (fun q => ?_) (fun q => ?_)
      · refine j_iconst c (nI 0) dX0_canBeParents_24 (by decide) ?_
        exact j_iret c r dX0_canBeParents_25 rfl (rtF (by simp [parB, q]))
      · subst q
        refine j_iconst c (nI 1) dX0_canBeParents_20 (by decide) ?_
        refine j_goto c 25 dX0_canBeParents_21 (by decide) ?_
        exact j_iret c r dX0_canBeParents_25 rfl (rtT (by simp [parB, e2, hne]))
  · refine j_iconst c (nI 0) dX0_canBeParents_8 (by decide) ?_
    exact j_iret c r dX0_canBeParents_9 rfl (rtF (by simp [parB, bI_z e]))
