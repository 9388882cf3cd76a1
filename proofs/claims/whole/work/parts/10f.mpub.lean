-- ===== 10f: the reference's public questions =====
theorem k0 (σ : Sg) (v : Int32) : keepM σ (s2 σ 50 0 v) := keepM.fld (Or.inl rfl)
theorem clN {x : Int32} {n j : Nat} (h : j < 2 ^ 31) : (nI j).toNatClampNeg = j := nI_clamp h
theorem sp_answerM {T : TS} {σ : Sg} (hM : InvM T none σ) (hW : WF T) (x y : Int32) : Sp yX3_answer cX3_answer 3 (some .int) 4 [.inr 50, .inl x, .inl y] σ (qM σ (if isC T x y then ansI (tls T) (ttg T x.toNatClampNeg) (tru T) y.toNatClampNeg else -3)) := by
  have h4 := hW.2.2.2.1
  have hM0 := hM.keep (k0 σ (nI 0))
  refine Sp.intro rfl (Nat.le_of_ble_eq_true rfl) (fun Γ c r => ?_)
  show J Γ 0 [some (.inr 50), some (.inl x), some (.inl y)] [] σ
  refine j_aload_n c dX3_answer_0 rfl ?_
  refine j_iconst c (nI 0) dX3_answer_1 (by decide) ?_
  refine j_putI c fl_X3_65 dX3_answer_2 (Nat.le_of_ble_eq_true rfl) rfl rfl ?_
  refine j_aload_n c dX3_answer_5 rfl ?_
  refine j_iload_n c dX3_answer_6 rfl ?_
  refine j_iload_n c dX3_answer_7 rfl ?_
  refine j_callV1 c kw_X3_114 (sp_isCall hM0 hW x y) dX3_answer_8 rfl rfl (by decide) (Nat.le_of_ble_eq_true rfl) (Nat.le_of_ble_eq_true rfl) rfl rfl ?_
  refine j_if_eq c 27 dX3_answer_11 (by decide) (fun e => ?_) (fun e => ?_)
  · refine j_bipush c (-3) dX3_answer_27 (by decide) ?_
    exact j_iret c r dX3_answer_29 rfl ⟨by rw [bI_z e]; rfl, k0 σ _⟩
  · have e2 := bI_nz e
    rw [e2] at r
    obtain ⟨i, k, hi, rfl, rfl, hv⟩ := isC_of h4 e2
    have hk := vcall_lt hv (hW.2.2.2.2.1 i hi).2
    rw [nI_clamp (n := i) (by omega), nI_clamp (n := k) (by omega)] at r
    refine j_aload_n c dX3_answer_14 rfl ?_
    refine j_iload_n c dX3_answer_15 rfl ?_
    refine j_iload_n c dX3_answer_16 rfl ?_
    refine j_aload_n c dX3_answer_17 rfl ?_
    refine j_getI c fl_X3_133 dX3_answer_18 (Nat.le_of_ble_eq_true rfl) rfl rfl ?_
    rw [hM0.2.2.2.2.2.2.2.2.2.1]
    refine j_callV1 c kw_X3_159 (sp_answerOf hM0 hW hi (MoOK.no T i) hv hW.2.2.2.2.2.2.1) dX3_answer_21 rfl rfl (by decide) (Nat.le_of_ble_eq_true rfl) (Nat.le_of_ble_eq_true rfl) rfl rfl ?_
    refine j_goto c 29 dX3_answer_24 (by decide) ?_
    exact j_iret c r dX3_answer_29 rfl ⟨rfl, k0 σ _⟩
theorem sp_applicableM {T : TS} {σ : Sg} (hM : InvM T none σ) (hW : WF T) (x y : Int32) : Sp yX3_applicable cX3_applicable 3 (some .int) 3 [.inr 50, .inl x, .inl y] σ (qM σ (if isC T x y then mkS (appB (tls T) (ttg T x.toNatClampNeg) y.toNatClampNeg) 13 else -1)) := by
  have h4 := hW.2.2.2.1
  have hM0 := hM.keep (k0 σ (nI 0))
  refine Sp.intro rfl (Nat.le_of_ble_eq_true rfl) (fun Γ c r => ?_)
  show J Γ 0 [some (.inr 50), some (.inl x), some (.inl y)] [] σ
  refine j_aload_n c dX3_applicable_0 rfl ?_
  refine j_iconst c (nI 0) dX3_applicable_1 (by decide) ?_
  refine j_putI c fl_X3_65 dX3_applicable_2 (Nat.le_of_ble_eq_true rfl) rfl rfl ?_
  refine j_aload_n c dX3_applicable_5 rfl ?_
  refine j_iload_n c dX3_applicable_6 rfl ?_
  refine j_iload_n c dX3_applicable_7 rfl ?_
  refine j_callV1 c kw_X3_114 (sp_isCall hM0 hW x y) dX3_applicable_8 rfl rfl (by decide) (Nat.le_of_ble_eq_true rfl) (Nat.le_of_ble_eq_true rfl) rfl rfl ?_
  refine j_if_eq c 23 dX3_applicable_11 (by decide) (fun e => ?_) (fun e => ?_)
  · refine j_iconst c (-1) dX3_applicable_23 (by decide) ?_
    exact j_iret c r dX3_applicable_24 rfl ⟨by rw [bI_z e]; rfl, k0 σ _⟩
  · have e2 := bI_nz e
    rw [e2] at r
    obtain ⟨i, k, hi, rfl, rfl, hv⟩ := isC_of h4 e2
    have hk := vcall_lt hv (hW.2.2.2.2.1 i hi).2
    rw [nI_clamp (n := i) (by omega), nI_clamp (n := k) (by omega)] at r
    refine j_aload_n c dX3_applicable_14 rfl ?_
    refine j_iload_n c dX3_applicable_15 rfl ?_
    refine j_iload_n c dX3_applicable_16 rfl ?_
    refine j_callV1 c kw_X3_152 (sp_applicableTo hM0 hW hi (MoOK.no T i) hv) dX3_applicable_17 rfl rfl (by decide) (Nat.le_of_ble_eq_true rfl) (Nat.le_of_ble_eq_true rfl) rfl rfl ?_
    refine j_goto c 24 dX3_applicable_20 (by decide) ?_
    exact j_iret c r dX3_applicable_24 rfl ⟨rfl, k0 σ _⟩
theorem rowA_ok {T : TS} {f : Nat} {mo : Option (Nat × Nat)} {b : Nat} (c : Nat) : rowA T f mo b c < 0 ∨ ∃ m, m < 13 ∧ rowA T f mo b c = nI m := by
  unfold rowA
  by_cases h : vcall (tn T) (tpl T f) c = true
  · rw [if_pos h]
    unfold ansI
    rcases fstI_cases (appB (tls T) (tgx (ttg T f) mo) c) (befB (tls T) (tgx (ttg T f) mo) b c) with ⟨h, _⟩ | ⟨h, _⟩ | ⟨m, hm, h, _⟩
    · rw [h]; exact Or.inl (by decide)
    · rw [h]; exact Or.inl (by decide)
    · exact Or.inr ⟨m, hm, h⟩
  · rw [if_neg h]; exact Or.inl (by decide)
theorem sp_clashM {T : TS} {σ : Sg} (hM : InvM T none σ) (hW : WF T) (x k : Int32) : Sp yX3_clash cX3_clash 3 (some .int) 5 [.inr 50, .inl x, .inl k] σ (qM σ (aTop T (-2) x k)) := by
  have h4 := hW.2.2.2.1
  have hM0 := hM.keep (k0 σ (nI 0))
  refine Sp.intro rfl (Nat.le_of_ble_eq_true rfl) (fun Γ c r => ?_)
  show J Γ 0 [some (.inr 50), some (.inl x), some (.inl k)] [] σ
  refine j_aload_n c dX3_clash_0 rfl ?_
  refine j_iconst c (nI 0) dX3_clash_1 (by decide) ?_
  refine j_putI c fl_X3_65 dX3_clash_2 (Nat.le_of_ble_eq_true rfl) rfl rfl ?_
  refine j_aload_n c dX3_clash_5 rfl ?_
  refine j_iload_n c dX3_clash_6 rfl ?_
  refine j_callV1 c kw_X3_104 (sp_isFunction _ x (tnf T) hM0.2.2.2.2.2.1 h4) dX3_clash_7 rfl rfl (by decide) (Nat.le_of_ble_eq_true rfl) (Nat.le_of_ble_eq_true rfl) rfl rfl ?_
  refine j_if_eq c 17 dX3_clash_10 (by decide) (fun e => ?_) (fun e => ?_)
  · refine j_iconst c (-1) dX3_clash_17 (by decide) ?_
    exact j_iret c r dX3_clash_18 rfl ⟨by simp [aTop, bI_z e], k0 σ _⟩
  · have e2 := bI_nz e
    obtain ⟨i, hi, hi2, rfl⟩ := isN_of e2
    have hpl := hW.2.2.2.2.1 i hi
    refine j_iload_n c dX3_clash_13 rfl ?_
    refine j_if_ge c 19 dX3_clash_14 (by decide) (fun g => ?_) (fun g => ?_)
    · rw [show aTop T (-2) (nI i) k = kth (fun c => decide (rowA T i none 0 c = -2) && topB (rowA T i none 0) (tls T) (16 ^ tpl T i) c) (16 ^ tpl T i) k by simp [aTop, e2, g, nI_clamp hi2]] at r
      refine j_aload_n c dX3_clash_19 rfl ?_
      refine j_iload_n c dX3_clash_20 rfl ?_
      refine j_iconst c (nI 0) dX3_clash_21 (by decide) ?_
      refine j_callV0 c kw_X3_184 (sp_laysAnswers hM0 hW hi (MoOK.no T i) (b := 0) (by decide)) dX3_clash_22 rfl rfl (by decide) (Nat.le_of_ble_eq_true rfl) (Nat.le_of_ble_eq_true rfl) rfl rfl ?_
      have hk1 : keepM σ (sR (s2 σ 50 0 (nI 0)) 65 (rowU (rowA T i none 0) (16 ^ tpl T i) (s2 σ 50 0 (nI 0) 65))) := (k0 σ _).trans (keepM.row (by decide) (by decide))
      have hA : ∀ c, c < 16 ^ tpl T i → sR (s2 σ 50 0 (nI 0)) 65 (rowU (rowA T i none 0) (16 ^ tpl T i) (s2 σ 50 0 (nI 0) 65)) 65 c = rowA T i none 0 c := fun c hc => by rw [sR_at, rowU_lt hc]
      generalize sR (s2 σ 50 0 (nI 0)) 65 (rowU (rowA T i none 0) (16 ^ tpl T i) (s2 σ 50 0 (nI 0) 65)) = σ1 at hk1 hA ⊢
      refine j_aload_n c dX3_clash_25 rfl ?_
      refine j_iload_n c dX3_clash_26 rfl ?_
      refine j_bipush c (-2) dX3_clash_27 (by decide) ?_
      refine j_iload_n c dX3_clash_29 rfl ?_
      refine j_callV1 c kw_X3_193 (sp_topOf (hM.keep hk1) hW hi (-2) k (fun c hc h => by rw [hA c hc] at h; exact rowA_v.mp (by rw [h]; decide))) dX3_clash_30 rfl rfl (by decide) (Nat.le_of_ble_eq_true rfl) (Nat.le_of_ble_eq_true rfl) rfl rfl ?_
      rw [kth_congr (Q := fun c => decide (rowA T i none 0 c = -2) && topB (rowA T i none 0) (tls T) (16 ^ tpl T i) c) (fun c hc => by rw [hA c hc, topB_congr hA hc])]
      exact j_iret c r dX3_clash_33 rfl ⟨rfl, hk1⟩
    · refine j_iconst c (-1) dX3_clash_17 (by decide) ?_
      exact j_iret c r dX3_clash_18 rfl ⟨by simp [aTop, g], k0 σ _⟩
theorem sp_gapM {T : TS} {σ : Sg} (hM : InvM T none σ) (hW : WF T) (x k : Int32) : Sp yX3_gap cX3_gap 3 (some .int) 5 [.inr 50, .inl x, .inl k] σ (qM σ (aTop T (-1) x k)) := by
  have h4 := hW.2.2.2.1
  have hM0 := hM.keep (k0 σ (nI 0))
  refine Sp.intro rfl (Nat.le_of_ble_eq_true rfl) (fun Γ c r => ?_)
  show J Γ 0 [some (.inr 50), some (.inl x), some (.inl k)] [] σ
  refine j_aload_n c dX3_gap_0 rfl ?_
  refine j_iconst c (nI 0) dX3_gap_1 (by decide) ?_
  refine j_putI c fl_X3_65 dX3_gap_2 (Nat.le_of_ble_eq_true rfl) rfl rfl ?_
  refine j_aload_n c dX3_gap_5 rfl ?_
  refine j_iload_n c dX3_gap_6 rfl ?_
  refine j_callV1 c kw_X3_104 (sp_isFunction _ x (tnf T) hM0.2.2.2.2.2.1 h4) dX3_gap_7 rfl rfl (by decide) (Nat.le_of_ble_eq_true rfl) (Nat.le_of_ble_eq_true rfl) rfl rfl ?_
  refine j_if_eq c 17 dX3_gap_10 (by decide) (fun e => ?_) (fun e => ?_)
  · refine j_iconst c (-1) dX3_gap_17 (by decide) ?_
    exact j_iret c r dX3_gap_18 rfl ⟨by simp [aTop, bI_z e], k0 σ _⟩
  · have e2 := bI_nz e
    obtain ⟨i, hi, hi2, rfl⟩ := isN_of e2
    have hpl := hW.2.2.2.2.1 i hi
    refine j_iload_n c dX3_gap_13 rfl ?_
    refine j_if_ge c 19 dX3_gap_14 (by decide) (fun g => ?_) (fun g => ?_)
    · rw [show aTop T (-1) (nI i) k = kth (fun c => decide (rowA T i none 0 c = -1) && topB (rowA T i none 0) (tls T) (16 ^ tpl T i) c) (16 ^ tpl T i) k by simp [aTop, e2, g, nI_clamp hi2]] at r
      refine j_aload_n c dX3_gap_19 rfl ?_
      refine j_iload_n c dX3_gap_20 rfl ?_
      refine j_iconst c (nI 0) dX3_gap_21 (by decide) ?_
      refine j_callV0 c kw_X3_184 (sp_laysAnswers hM0 hW hi (MoOK.no T i) (b := 0) (by decide)) dX3_gap_22 rfl rfl (by decide) (Nat.le_of_ble_eq_true rfl) (Nat.le_of_ble_eq_true rfl) rfl rfl ?_
      have hk1 : keepM σ (sR (s2 σ 50 0 (nI 0)) 65 (rowU (rowA T i none 0) (16 ^ tpl T i) (s2 σ 50 0 (nI 0) 65))) := (k0 σ _).trans (keepM.row (by decide) (by decide))
      have hA : ∀ c, c < 16 ^ tpl T i → sR (s2 σ 50 0 (nI 0)) 65 (rowU (rowA T i none 0) (16 ^ tpl T i) (s2 σ 50 0 (nI 0) 65)) 65 c = rowA T i none 0 c := fun c hc => by rw [sR_at, rowU_lt hc]
      generalize sR (s2 σ 50 0 (nI 0)) 65 (rowU (rowA T i none 0) (16 ^ tpl T i) (s2 σ 50 0 (nI 0) 65)) = σ1 at hk1 hA ⊢
      refine j_aload_n c dX3_gap_25 rfl ?_
      refine j_iload_n c dX3_gap_26 rfl ?_
      refine j_iconst c (-1) dX3_gap_27 (by decide) ?_
      refine j_iload_n c dX3_gap_28 rfl ?_
      refine j_callV1 c kw_X3_193 (sp_topOf (hM.keep hk1) hW hi (-1) k (fun c hc h => by rw [hA c hc] at h; exact rowA_v.mp (by rw [h]; decide))) dX3_gap_29 rfl rfl (by decide) (Nat.le_of_ble_eq_true rfl) (Nat.le_of_ble_eq_true rfl) rfl rfl ?_
      rw [kth_congr (Q := fun c => decide (rowA T i none 0 c = -1) && topB (rowA T i none 0) (tls T) (16 ^ tpl T i) c) (fun c hc => by rw [hA c hc, topB_congr hA hc])]
      exact j_iret c r dX3_gap_32 rfl ⟨rfl, hk1⟩
    · refine j_iconst c (-1) dX3_gap_17 (by decide) ?_
      exact j_iret c r dX3_gap_18 rfl ⟨by simp [aTop, g], k0 σ _⟩
theorem sp_poleM {T : TS} {σ : Sg} (hM : InvM T none σ) (hW : WF T) (x p k : Int32) : Sp yX3_pole cX3_pole 4 (some .int) 5 [.inr 50, .inl x, .inl p, .inl k] σ (qM σ (aPole T x p k)) := by
  have h4 := hW.2.2.2.1
  have hn := hW.1
  have hM0 := hM.keep (k0 σ (nI 0))
  refine Sp.intro rfl (Nat.le_of_ble_eq_true rfl) (fun Γ c r => ?_)
  show J Γ 0 [some (.inr 50), some (.inl x), some (.inl p), some (.inl k)] [] σ
  refine j_aload_n c dX3_pole_0 rfl ?_
  refine j_iconst c (nI 0) dX3_pole_1 (by decide) ?_
  refine j_putI c fl_X3_65 dX3_pole_2 (Nat.le_of_ble_eq_true rfl) rfl rfl ?_
  refine j_aload_n c dX3_pole_5 rfl ?_
  refine j_iload_n c dX3_pole_6 rfl ?_
  refine j_callV1 c kw_X3_104 (sp_isFunction _ x (tnf T) hM0.2.2.2.2.2.1 h4) dX3_pole_7 rfl rfl (by decide) (Nat.le_of_ble_eq_true rfl) (Nat.le_of_ble_eq_true rfl) rfl rfl ?_
  refine j_if_eq c 37 dX3_pole_10 (by decide) (fun e => ?_) (fun e => ?_)
  · refine j_iconst c (-1) dX3_pole_37 (by decide) ?_
    exact j_iret c r dX3_pole_38 rfl ⟨by simp [aPole, bI_z e], k0 σ _⟩
  · have e2 := bI_nz e
    obtain ⟨i, hi, hi2, rfl⟩ := isN_of e2
    have hpl := hW.2.2.2.2.1 i hi
    refine j_iload_n c dX3_pole_13 rfl ?_
    refine j_iconst c (nI 0) dX3_pole_14 (by decide) ?_
    refine j_aload_n c dX3_pole_15 rfl ?_
    refine j_getR c fl_X3_22 dX3_pole_16 (Nat.le_of_ble_eq_true rfl) rfl rfl ?_
    refine j_iload_n c dX3_pole_19 rfl ?_
    refine j_iald c dX3_pole_20 (Nat.le_of_ble_eq_true rfl) rfl rfl (by omega) (by decide) ?_
    rw [hM0.2.2.2.2.2.2.1 i hi]
    refine j_iconst c (nI 1) dX3_pole_21 (by decide) ?_
    refine j_isub c _ dX3_pole_22 (by first | exact pk_sub (by omega) | rfl) ?_
    refine j_callS1 c kw_X3_68 (sp_inN _ p (tpl T i) (by omega) hpl.1) dX3_pole_23 rfl rfl (by decide) (Nat.le_of_ble_eq_true rfl) ?_
    refine j_if_eq c 37 dX3_pole_26 (by decide) (fun g => ?_) (fun g => ?_)
    · refine j_iconst c (-1) dX3_pole_37 (by decide) ?_
      exact j_iret c r dX3_pole_38 rfl ⟨by simp [aPole, bI_z g, nI_clamp hi2], k0 σ _⟩
    · have g2 := bI_nz g
      refine j_aload_n c dX3_pole_29 rfl ?_
      refine j_iload_n c dX3_pole_30 rfl ?_
      refine j_callV1 c kw_X3_87 (sp_isClass _ k (tn T) hM0.1 hn.1 hn.2) dX3_pole_31 rfl rfl (by decide) (Nat.le_of_ble_eq_true rfl) (Nat.le_of_ble_eq_true rfl) rfl rfl ?_
      refine j_if_ne c 39 dX3_pole_34 (by decide) (fun q => ?_) (fun q => ?_)
      · have q2 := bI_nz q
        obtain ⟨p, hp, hp2, rfl⟩ := isN_of g2
        obtain ⟨k, hk, hk2, rfl⟩ := isN_of q2
        rw [show aPole T (nI i) (nI p) (nI k) = oI (fnd (alB (rowA T i none (tru T)) (16 ^ tpl T i) p k) (k + 1)) by simp [aPole, e2, nI_clamp hi2, g2, q2, nI_clamp hp2, nI_clamp hk2]] at r
        refine j_aload_n c dX3_pole_39 rfl ?_
        refine j_iload_n c dX3_pole_40 rfl ?_
        refine j_aload_n c dX3_pole_41 rfl ?_
        refine j_getI c fl_X3_133 dX3_pole_42 (Nat.le_of_ble_eq_true rfl) rfl rfl ?_
        rw [hM0.2.2.2.2.2.2.2.2.2.1]
        refine j_callV0 c kw_X3_184 (sp_laysAnswers hM0 hW hi (MoOK.no T i) (b := tru T) hW.2.2.2.2.2.2.1) dX3_pole_45 rfl rfl (by decide) (Nat.le_of_ble_eq_true rfl) (Nat.le_of_ble_eq_true rfl) rfl rfl ?_
        have hk1 : keepM σ (sR (s2 σ 50 0 (nI 0)) 65 (rowU (rowA T i none (tru T)) (16 ^ tpl T i) (s2 σ 50 0 (nI 0) 65))) := (k0 σ _).trans (keepM.row (by decide) (by decide))
        have hA : ∀ c, c < 16 ^ tpl T i → sR (s2 σ 50 0 (nI 0)) 65 (rowU (rowA T i none (tru T)) (16 ^ tpl T i) (s2 σ 50 0 (nI 0) 65)) 65 c = rowA T i none (tru T) c := fun c hc => by rw [sR_at, rowU_lt hc]
        generalize sR (s2 σ 50 0 (nI 0)) 65 (rowU (rowA T i none (tru T)) (16 ^ tpl T i) (s2 σ 50 0 (nI 0) 65)) = σ1 at hk1 hA ⊢
        refine j_aload_n c dX3_pole_48 rfl ?_
        refine j_iload_n c dX3_pole_49 rfl ?_
        refine j_iload_n c dX3_pole_50 rfl ?_
        refine j_iload_n c dX3_pole_51 rfl ?_
        refine j_callV1 c kw_X3_181 (sp_poleOf (hM.keep hk1) hW hi hp (by omega)) dX3_pole_52 rfl rfl (by decide) (Nat.le_of_ble_eq_true rfl) (Nat.le_of_ble_eq_true rfl) rfl rfl ?_
        rw [fnd_congr (Q := alB (rowA T i none (tru T)) (16 ^ tpl T i) p k) (fun o ho => alB_congr hA hpl.2 hp (by omega))]
        exact j_iret c r dX3_pole_55 rfl ⟨rfl, hk1⟩
      · refine j_iconst c (-1) dX3_pole_37 (by decide) ?_
        exact j_iret c r dX3_pole_38 rfl ⟨by simp [aPole, bI_z q, nI_clamp hi2], k0 σ _⟩
theorem sp_fightM {T : TS} {σ : Sg} (hM : InvM T none σ) (hW : WF T) (f x y : Int32) : Sp yX3_fight cX3_fight 5 (some .int) 4 [.inr 50, .inl f, .inl x, .inl y] σ (qM σ (aFight T f x y)) := by
  have h4 := hW.2.2.2.1
  have hM0 := hM.keep (k0 σ (nI 0))
  refine Sp.intro rfl (Nat.le_of_ble_eq_true rfl) (fun Γ c r => ?_)
  show J Γ 0 [some (.inr 50), some (.inl f), some (.inl x), some (.inl y), none] [] σ
  refine j_aload_n c dX3_fight_0 rfl ?_
  refine j_iconst c (nI 0) dX3_fight_1 (by decide) ?_
  refine j_putI c fl_X3_65 dX3_fight_2 (Nat.le_of_ble_eq_true rfl) rfl rfl ?_
  refine j_aload_n c dX3_fight_5 rfl ?_
  refine j_iload_n c dX3_fight_6 rfl ?_
  refine j_iload_n c dX3_fight_7 rfl ?_
  refine j_callV1 c kw_X3_123 (sp_isMethod hM0 hW f x) dX3_fight_8 rfl rfl (by decide) (Nat.le_of_ble_eq_true rfl) (Nat.le_of_ble_eq_true rfl) rfl rfl ?_
  refine j_if_eq c 28 dX3_fight_11 (by decide) (fun e => ?_) (fun e => ?_)
  · have e2 := bI_z e
    refine j_iconst c (-1) dX3_fight_28 (by decide) ?_
    exact j_iret c r dX3_fight_29 rfl ⟨by simp only [aFight, e2, Bool.false_and]; rfl, k0 σ _⟩
  · have e2 := bI_nz e
    refine j_aload_n c dX3_fight_14 rfl ?_
    refine j_iload_n c dX3_fight_15 rfl ?_
    refine j_iload_n c dX3_fight_16 rfl ?_
    refine j_callV1 c kw_X3_123 (sp_isMethod hM0 hW f y) dX3_fight_17 rfl rfl (by decide) (Nat.le_of_ble_eq_true rfl) (Nat.le_of_ble_eq_true rfl) rfl rfl ?_
    refine j_if_eq c 28 dX3_fight_20 (by decide) (fun g => ?_) (fun g => ?_)
    · have g2 := bI_z g
      refine j_iconst c (-1) dX3_fight_28 (by decide) ?_
      have hf : isN f (tnf T) = true := by simp only [Bool.and_eq_true] at e2; exact e2.1
      rw [hf, Bool.true_and] at g2
      exact j_iret c r dX3_fight_29 rfl ⟨by simp only [aFight, g2, Bool.and_false, Bool.false_and]; rfl, k0 σ _⟩
    · have g2 := bI_nz g
      simp only [Bool.and_eq_true] at e2 g2
      refine j_iload_n c dX3_fight_23 rfl ?_
      refine j_iload_n c dX3_fight_24 rfl ?_
      refine j_icmp_ne c 30 dX3_fight_25 (by decide) (fun q => ?_) (fun q => ?_)
      · obtain ⟨i, hi, hi2, rfl⟩ := isN_of e2.1
        obtain ⟨a, ha, ha2, rfl⟩ := isN_of e2.2.1
        obtain ⟨b, hb, hb2, rfl⟩ := isN_of g2.2.1
        rw [nI_clamp hi2, nI_clamp ha2] at e2
        rw [nI_clamp hi2, nI_clamp hb2] at g2
        have hpl := hW.2.2.2.2.1 i hi
        have h16 := p16 hpl.2
        have hr : aFight T (nI i) (nI a) (nI b) = oI (fnd (fun c => vcall (tn T) (tpl T i) c && fgB (tls T) (ttg T i) c a b) (16 ^ tpl T i)) := by
          unfold aFight
          rw [nI_clamp hi2, nI_clamp ha2, nI_clamp hb2, e2.1, e2.2.1, e2.2.2, g2.2.1, g2.2.2]
          simp [q]
        rw [hr] at r
        refine j_iconst c (nI 0) dX3_fight_30 (by decide) ?_
        refine j_istore c dX3_fight_31 (Nat.le_of_ble_eq_true rfl) rfl ?_
        have key : ∀ k, k ≤ 16 ^ tpl T i → (∀ j, j < k → (vcall (tn T) (tpl T i) j && fgB (tls T) (ttg T i) j a b) = false) → J Γ 33 [some (.inr 50), some (.inl (nI i)), some (.inl (nI a)), some (.inl (nI b)), some (.inl (nI k))] [] (s2 σ 50 0 (nI 0)) := by
          refine loopN _ ?_ ?_
          · intro h0
            refine j_iload c dX3_fight_33 rfl ?_
            refine j_aload_n c dX3_fight_35 rfl ?_
            refine j_iload_n c dX3_fight_36 rfl ?_
            refine j_callV1 c kw_X3_172 (sp_callsOf hM0 hW hi) dX3_fight_37 rfl rfl (by decide) (Nat.le_of_ble_eq_true rfl) (Nat.le_of_ble_eq_true rfl) rfl rfl ?_
            refine j_icmp_ge c 74 dX3_fight_40 (by decide) (fun _ => ?_) (fun h => absurd (nI_le (Nat.le_refl _) (by omega)) h)
            refine j_iconst c (-1) dX3_fight_74 (by decide) ?_
            exact j_iret c r dX3_fight_75 rfl ⟨by rw [fnd_no h0]; rfl, k0 σ _⟩
          · intro k hk ih h0
            have nxt : (vcall (tn T) (tpl T i) k && fgB (tls T) (ttg T i) k a b) = false → J Γ 68 [some (.inr 50), some (.inl (nI i)), some (.inl (nI a)), some (.inl (nI b)), some (.inl (nI k))] [] (s2 σ 50 0 (nI 0)) := by
              intro h
              refine j_iinc c _ dX3_fight_68 rfl (by first | exact nI_1 _ | exact pk_m1 _ | rfl) rfl ?_
              refine j_goto c 33 dX3_fight_71 (by decide) ?_
              refine ih (fun j hj => ?_)
              by_cases ej : j = k
              · subst ej; exact h
              · exact h0 j (by omega)
            refine j_iload c dX3_fight_33 rfl ?_
            refine j_aload_n c dX3_fight_35 rfl ?_
            refine j_iload_n c dX3_fight_36 rfl ?_
            refine j_callV1 c kw_X3_172 (sp_callsOf hM0 hW hi) dX3_fight_37 rfl rfl (by decide) (Nat.le_of_ble_eq_true rfl) (Nat.le_of_ble_eq_true rfl) rfl rfl ?_
            refine j_icmp_ge c 74 dX3_fight_40 (by decide) (fun h => absurd h (nI_ge hk (by omega))) (fun _ => ?_)
            refine j_aload_n c dX3_fight_43 rfl ?_
            refine j_iload_n c dX3_fight_44 rfl ?_
            refine j_iload c dX3_fight_45 rfl ?_
            refine j_callV1 c kw_X3_114 (sp_isCall hM0 hW (nI i) (nI k)) dX3_fight_47 rfl rfl (by decide) (Nat.le_of_ble_eq_true rfl) (Nat.le_of_ble_eq_true rfl) rfl rfl ?_
            rw [isC_nI hi h4 (by omega)]
            refine j_if_eq c 68 dX3_fight_50 (by decide) (fun u => ?_) (fun u => ?_)
            · exact nxt (by simp [bI_z u])
            · refine j_aload_n c dX3_fight_53 rfl ?_
              refine j_iload_n c dX3_fight_54 rfl ?_
              refine j_iload c dX3_fight_55 rfl ?_
              refine j_iload_n c dX3_fight_57 rfl ?_
              refine j_iload_n c dX3_fight_58 rfl ?_
              refine j_callV1 c kw_X3_205 (sp_fightIn hM0 hW hi (bI_nz u) ha hb e2.2.2 g2.2.2) dX3_fight_59 rfl rfl (by decide) (Nat.le_of_ble_eq_true rfl) (Nat.le_of_ble_eq_true rfl) rfl rfl ?_
              refine j_if_eq c 68 dX3_fight_62 (by decide) (fun v => ?_) (fun v => ?_)
              · exact nxt (by simp [bI_z v])
              · refine j_iload c dX3_fight_65 rfl ?_
                exact j_iret c r dX3_fight_67 rfl ⟨by rw [fnd_hit hk (by simp [bI_nz u, bI_nz v]) h0]; rfl, k0 σ _⟩
        exact key 0 (Nat.zero_le _) (fun j hj => by omega)
      · refine j_iconst c (-1) dX3_fight_28 (by decide) ?_
        exact j_iret c r dX3_fight_29 rfl ⟨by simp [aFight, q], k0 σ _⟩
