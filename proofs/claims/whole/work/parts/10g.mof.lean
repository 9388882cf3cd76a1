-- ===== 10g: the reference's of, at =====
theorem sp_ofM {T : TS} {σ : Sg} (hM : InvM T none σ) (hW : WF T) (x w : Int32) : Sp yX3_of cX3_of 3 (some .int) 5 [.inr 50, .inl x, .inl w] σ (qM σ (aOfI T x w)) := by
  have h4 := hW.2.2.2.1
  have hM0 := hM.keep (k0 σ (nI 0))
  refine Sp.intro rfl (Nat.le_of_ble_eq_true rfl) (fun Γ c r => ?_)
  show J Γ 0 [some (.inr 50), some (.inl x), some (.inl w)] [] σ
  refine j_aload_n c dX3_of_0 rfl ?_
  refine j_iconst c (nI 0) dX3_of_1 (by decide) ?_
  refine j_putI c fl_X3_65 dX3_of_2 (Nat.le_of_ble_eq_true rfl) rfl rfl ?_
  refine j_aload_n c dX3_of_5 rfl ?_
  refine j_iload_n c dX3_of_6 rfl ?_
  refine j_callV1 c kw_X3_104 (sp_isFunction _ x (tnf T) hM0.2.2.2.2.2.1 h4) dX3_of_7 rfl rfl (by decide) (Nat.le_of_ble_eq_true rfl) (Nat.le_of_ble_eq_true rfl) rfl rfl ?_
  refine j_if_ne c 15 dX3_of_10 (by decide) (fun e => ?_) (fun e => ?_)
  · have e2 := bI_nz e
    obtain ⟨i, hi, hi2, rfl⟩ := isN_of e2
    have hpl := hW.2.2.2.2.1 i hi
    have h16 := p16 hpl.2
    have hgo : ∀ b, b < 2 → b = (if (decide (nI 4 ≤ w) && decide (w ≤ nI 5)) then 0 else tru T) → (∀ σ1, keepM σ σ1 → (∀ c, c < 16 ^ tpl T i → σ1 65 c = rowA T i none b c) → J Γ 37 [some (.inr 50), some (.inl (nI i)), some (.inl w)] [] σ1) → J Γ 15 [some (.inr 50), some (.inl (nI i)), some (.inl w)] [] (s2 σ 50 0 (nI 0)) := by
      intro b hb hbv hn
      have hlay : J Γ 34 [some (.inr 50), some (.inl (nI i)), some (.inl w)] [.inl (nI b), .inl (nI i), .inr 50] (s2 σ 50 0 (nI 0)) := by
        refine j_callV0 c kw_X3_184 (sp_laysAnswers hM0 hW hi (MoOK.no T i) hb) dX3_of_34 rfl rfl (by decide) (Nat.le_of_ble_eq_true rfl) (Nat.le_of_ble_eq_true rfl) rfl rfl ?_
        exact hn _ ((k0 σ _).trans (keepM.row (by decide) (by decide))) (fun c hc => by rw [sR_at, rowU_lt hc])
      refine j_aload_n c dX3_of_15 rfl ?_
      refine j_iload_n c dX3_of_16 rfl ?_
      refine j_iload_n c dX3_of_17 rfl ?_
      refine j_iconst c (nI 4) dX3_of_18 (by decide) ?_
      refine j_iconst c (nI 5) dX3_of_19 (by decide) ?_
      refine j_callS1 c kw_X3_68 (sp_in _ w (nI 4) (nI 5)) dX3_of_20 rfl rfl (by decide) (Nat.le_of_ble_eq_true rfl) ?_
      refine j_if_eq c 30 dX3_of_23 (by decide) (fun q => ?_) (fun q => ?_)
      · have q2 := bI_z q
        rw [q2] at hbv
        refine j_aload_n c dX3_of_30 rfl ?_
        refine j_getI c fl_X3_133 dX3_of_31 (Nat.le_of_ble_eq_true rfl) rfl rfl ?_
        rw [hM0.2.2.2.2.2.2.2.2.2.1]
        rw [hbv] at hlay
        exact hlay
      · have q2 := bI_nz q
        rw [q2] at hbv
        refine j_iconst c (nI 0) dX3_of_26 (by decide) ?_
        refine j_goto c 34 dX3_of_27 (by decide) ?_
        rw [hbv] at hlay
        exact hlay
    obtain ⟨b, hb2, hbv⟩ : ∃ b, b < 2 ∧ b = (if (decide (nI 4 ≤ w) && decide (w ≤ nI 5)) then 0 else tru T) := ⟨_, by split; decide; exact hW.2.2.2.2.2.2.1, rfl⟩
    refine hgo b hb2 hbv (fun σ1 hk hA => ?_)
    have hM1 := hM.keep hk
    by_cases hw : isN w 10 = true
    · obtain ⟨k, hk10, hk2, rfl⟩ := isN_of hw
      have hr : aOfI T (nI i) (nI k) = aOf T i k := by simp [aOfI, e2, hw, nI_clamp hi2, nI_clamp hk2]
      rw [hr] at r
      have hset : ∀ m, m < 12 → (!decide (σ1 56 (12 * i + m) = -1)) = (ttg T i m).isSome := fun m hm => by
        rw [hM1.2.2.2.2.2.2.2.1 i m hi hm]
        have ho : ∀ t, ttg T i m = some t → t < 2 ^ 31 := fun t ht => by have := ttg_lt hW hi ht; omega
        rw [Bool.eq_iff_iff]
        simp [oI_none ho, Option.isSome_iff_ne_none]
      rcases (show k = 0 ∨ k = 1 ∨ k = 2 ∨ k = 3 ∨ k = 4 ∨ k = 5 ∨ k = 6 ∨ k = 7 ∨ k = 8 ∨ k = 9 by omega) with rfl | rfl | rfl | rfl | rfl | rfl | rfl | rfl | rfl | rfl
      · refine j_iload_n c dX3_of_37 rfl ?_
        refine j_tableIn (off := 54) c 92 dX3_of_38 (by decide) (by decide) (by decide) (by decide) ?_
        refine j_aload_n c dX3_of_92 rfl ?_
        refine j_getR c fl_X3_22 dX3_of_93 (Nat.le_of_ble_eq_true rfl) rfl rfl ?_
        refine j_iload_n c dX3_of_96 rfl ?_
        refine j_iald c dX3_of_97 (Nat.le_of_ble_eq_true rfl) rfl rfl (by omega) (by decide) ?_
        exact j_iret c r dX3_of_98 rfl ⟨by rw [hM1.2.2.2.2.2.2.1 i hi]; rfl, hk⟩
      · refine j_iload_n c dX3_of_37 rfl ?_
        refine j_tableIn (off := 61) c 99 dX3_of_38 (by decide) (by decide) (by decide) (by decide) ?_
        refine j_aload_n c dX3_of_99 rfl ?_
        refine j_iload_n c dX3_of_100 rfl ?_
        refine j_callV1 c kw_X3_126 (sp_methodsOf (σ := σ1) (f := i) (by omega)) dX3_of_101 rfl rfl (by decide) (Nat.le_of_ble_eq_true rfl) (Nat.le_of_ble_eq_true rfl) rfl rfl ?_
        rw [mkS_congr hset]
        exact j_iret c r dX3_of_104 rfl ⟨rfl, hk⟩
      · refine j_iload_n c dX3_of_37 rfl ?_
        refine j_tableIn (off := 67) c 105 dX3_of_38 (by decide) (by decide) (by decide) (by decide) ?_
        refine j_aload_n c dX3_of_105 rfl ?_
        refine j_iload_n c dX3_of_106 rfl ?_
        refine j_callV1 c kw_X3_187 (sp_allCalls hM1 hW hi) dX3_of_107 rfl rfl (by decide) (Nat.le_of_ble_eq_true rfl) (Nat.le_of_ble_eq_true rfl) rfl rfl ?_
        exact j_iret c r dX3_of_110 rfl ⟨rfl, hk⟩
      · have hbr : b = tru T := by rw [hbv]; rfl
        rw [hbr] at hA
        refine j_iload_n c dX3_of_37 rfl ?_
        refine j_tableIn (off := 73) c 111 dX3_of_38 (by decide) (by decide) (by decide) (by decide) ?_
        refine j_aload_n c dX3_of_111 rfl ?_
        refine j_iload_n c dX3_of_112 rfl ?_
        refine j_iconst c (-1) dX3_of_113 (by decide) ?_
        refine j_callV1 c kw_X3_190 (sp_howMany hM1 hW hi (-1)) dX3_of_114 rfl rfl (by decide) (Nat.le_of_ble_eq_true rfl) (Nat.le_of_ble_eq_true rfl) rfl rfl ?_
        rw [cnt_congr (Q := fun c => decide (rowA T i none (tru T) c = -1)) (fun c hc => by rw [hA c hc])]
        exact j_iret c r dX3_of_117 rfl ⟨rfl, hk⟩
      · have hbr : b = 0 := by rw [hbv]; rfl
        rw [hbr] at hA
        refine j_iload_n c dX3_of_37 rfl ?_
        refine j_tableIn (off := 80) c 118 dX3_of_38 (by decide) (by decide) (by decide) (by decide) ?_
        refine j_aload_n c dX3_of_118 rfl ?_
        refine j_iload_n c dX3_of_119 rfl ?_
        refine j_bipush c (-2) dX3_of_120 (by decide) ?_
        refine j_callV1 c kw_X3_190 (sp_howMany hM1 hW hi (-2)) dX3_of_122 rfl rfl (by decide) (Nat.le_of_ble_eq_true rfl) (Nat.le_of_ble_eq_true rfl) rfl rfl ?_
        rw [cnt_congr (Q := fun c => decide (rowA T i none 0 c = -2)) (fun c hc => by rw [hA c hc])]
        exact j_iret c r dX3_of_125 rfl ⟨rfl, hk⟩
      · have hbr : b = 0 := by rw [hbv]; rfl
        rw [hbr] at hA
        refine j_iload_n c dX3_of_37 rfl ?_
        refine j_tableIn (off := 88) c 126 dX3_of_38 (by decide) (by decide) (by decide) (by decide) ?_
        refine j_aload_n c dX3_of_126 rfl ?_
        refine j_iload_n c dX3_of_127 rfl ?_
        refine j_bipush c (-2) dX3_of_128 (by decide) ?_
        refine j_iconst c (-1) dX3_of_130 (by decide) ?_
        refine j_callV1 c kw_X3_193 (sp_topOf hM1 hW hi (-2) (-1) (fun c hc h => by rw [hA c hc] at h; exact rowA_v.mp (by rw [h]; decide))) dX3_of_131 rfl rfl (by decide) (Nat.le_of_ble_eq_true rfl) (Nat.le_of_ble_eq_true rfl) rfl rfl ?_
        rw [kth_congr (Q := fun c => decide (rowA T i none 0 c = -2) && topB (rowA T i none 0) (tls T) (16 ^ tpl T i) c) (fun c hc => by rw [hA c hc, topB_congr hA hc])]
        exact j_iret c r dX3_of_134 rfl ⟨rfl, hk⟩
      · have hbr : b = tru T := by rw [hbv]; rfl
        rw [hbr] at hA
        refine j_iload_n c dX3_of_37 rfl ?_
        refine j_tableIn (off := 97) c 135 dX3_of_38 (by decide) (by decide) (by decide) (by decide) ?_
        refine j_aload_n c dX3_of_135 rfl ?_
        refine j_iload_n c dX3_of_136 rfl ?_
        refine j_iconst c (-1) dX3_of_137 (by decide) ?_
        refine j_iconst c (-1) dX3_of_138 (by decide) ?_
        refine j_callV1 c kw_X3_193 (sp_topOf hM1 hW hi (-1) (-1) (fun c hc h => by rw [hA c hc] at h; exact rowA_v.mp (by rw [h]; decide))) dX3_of_139 rfl rfl (by decide) (Nat.le_of_ble_eq_true rfl) (Nat.le_of_ble_eq_true rfl) rfl rfl ?_
        rw [kth_congr (Q := fun c => decide (rowA T i none (tru T) c = -1) && topB (rowA T i none (tru T)) (tls T) (16 ^ tpl T i) c) (fun c hc => by rw [hA c hc, topB_congr hA hc])]
        exact j_iret c r dX3_of_142 rfl ⟨rfl, hk⟩
      · have hbr : b = tru T := by rw [hbv]; rfl
        rw [hbr] at hA
        refine j_iload_n c dX3_of_37 rfl ?_
        refine j_tableIn (off := 105) c 143 dX3_of_38 (by decide) (by decide) (by decide) (by decide) ?_
        refine j_aload_n c dX3_of_143 rfl ?_
        refine j_iload_n c dX3_of_144 rfl ?_
        refine j_callV1 c kw_X3_196 (sp_sizeOf hM1 hW hi) dX3_of_145 rfl rfl (by decide) (Nat.le_of_ble_eq_true rfl) (Nat.le_of_ble_eq_true rfl) rfl rfl ?_
        rw [szQ_congr hA hpl.2 hW.1.2 _ (Nat.le_refl _)]
        exact j_iret c r dX3_of_148 rfl ⟨rfl, hk⟩
      · have hbr : b = tru T := by rw [hbv]; rfl
        rw [hbr] at hA
        refine j_iload_n c dX3_of_37 rfl ?_
        refine j_tableIn (off := 111) c 149 dX3_of_38 (by decide) (by decide) (by decide) (by decide) ?_
        refine j_aload_n c dX3_of_149 rfl ?_
        refine j_iload_n c dX3_of_150 rfl ?_
        refine j_callV1 c kw_X3_199 (sp_idleOf hM1 hW hi (fun c hc => by rw [hA c hc]; exact rowA_ok c)) dX3_of_151 rfl rfl (by decide) (Nat.le_of_ble_eq_true rfl) (Nat.le_of_ble_eq_true rfl) rfl rfl ?_
        rw [mkS_congr (Q := idlB (ttg T i) (rowA T i none (tru T)) (16 ^ tpl T i)) (fun m hm => by
          unfold idlB
          congr 1
          rw [Bool.eq_iff_iff, allU, allU]
          constructor
          · intro h c hc; rw [← hA c hc]; exact h c hc
          · intro h c hc; rw [hA c hc]; exact h c hc)]
        exact j_iret c r dX3_of_154 rfl ⟨rfl, hk⟩
      · refine j_iload_n c dX3_of_37 rfl ?_
        refine j_tableIn (off := 117) c 155 dX3_of_38 (by decide) (by decide) (by decide) (by decide) ?_
        refine j_aload_n c dX3_of_155 rfl ?_
        refine j_getR c fl_X3_37 dX3_of_156 (Nat.le_of_ble_eq_true rfl) rfl rfl ?_
        refine j_iload_n c dX3_of_159 rfl ?_
        refine j_iald c dX3_of_160 (Nat.le_of_ble_eq_true rfl) rfl rfl (by omega) (by decide) ?_
        exact j_iret c r dX3_of_161 rfl ⟨by rw [hM1.2.2.2.2.2.2.2.2.2.2.1 i (by omega)]; rfl, hk⟩
    · refine j_iload_n c dX3_of_37 rfl ?_
      refine j_tableOut c 162 dX3_of_38 (by simp [isN] at hw; omega) (by decide) ?_
      refine j_iconst c (-1) dX3_of_162 (by decide) ?_
      exact j_iret c r dX3_of_163 rfl ⟨by simp [aOfI, hw], hk⟩
  · refine j_iconst c (-1) dX3_of_13 (by decide) ?_
    exact j_iret c r dX3_of_14 rfl ⟨by simp [aOfI, bI_z e], k0 σ _⟩
theorem sp_atM {T : TS} {σ : Sg} (hM : InvM T none σ) (hW : WF T) (x y w : Int32) : Sp yX3_at cX3_at 4 (some .int) 5 [.inr 50, .inl x, .inl y, .inl w] σ (fun r σ' => keepM σ σ' ∧ σ' 50 0 = bI (!okAt T x y w) ∧ ∃ v, r = some (.inl v) ∧ (okAt T x y w = true → v = aAt T x.toNatClampNeg y.toNatClampNeg w.toNatClampNeg)) := by
  have h4 := hW.2.2.2.1
  refine Sp.intro rfl (Nat.le_of_ble_eq_true rfl) (fun Γ c r => ?_)
  show J Γ 0 [some (.inr 50), some (.inl x), some (.inl y), some (.inl w)] [] σ
  have bad : okAt T x y w = false → J Γ 23 [some (.inr 50), some (.inl x), some (.inl y), some (.inl w)] [.inr 50] σ := by
    intro hb
    refine j_iconst c (nI 1) dX3_at_23 (by decide) ?_
    refine j_putI c fl_X3_65 dX3_at_24 (Nat.le_of_ble_eq_true rfl) rfl rfl ?_
    refine j_aload_n c dX3_at_27 rfl ?_
    refine j_getI c fl_X3_65 dX3_at_28 (Nat.le_of_ble_eq_true rfl) rfl rfl ?_
    rw [s2_at]
    refine j_if_le c 36 dX3_at_31 (by decide) (fun h => absurd h (by decide)) (fun _ => ?_)
    refine j_iconst c (nI 0) dX3_at_34 (by decide) ?_
    exact j_iret c r dX3_at_35 rfl ⟨k0 σ _, by rw [s2_at, hb]; rfl, _, rfl, fun h => by rw [hb] at h; cases h⟩
  refine j_aload_n c dX3_at_0 rfl ?_
  refine j_aload_n c dX3_at_1 rfl ?_
  refine j_iload_n c dX3_at_2 rfl ?_
  refine j_iload_n c dX3_at_3 rfl ?_
  refine j_callV1 c kw_X3_123 (sp_isMethod hM hW x y) dX3_at_4 rfl rfl (by decide) (Nat.le_of_ble_eq_true rfl) (Nat.le_of_ble_eq_true rfl) rfl rfl ?_
  refine j_if_eq c 23 dX3_at_7 (by decide) (fun e => ?_) (fun e => ?_)
  · exact bad (by simp only [okAt, bI_z e, Bool.false_and])
  · have e2 := bI_nz e
    refine j_iload_n c dX3_at_10 rfl ?_
    refine j_iconst c (nI 0) dX3_at_11 (by decide) ?_
    refine j_iconst c (nI 4) dX3_at_12 (by decide) ?_
    refine j_callS1 c kw_X3_68 (sp_inN σ w 5 (by decide) (by decide)) dX3_at_13 rfl rfl (by decide) (Nat.le_of_ble_eq_true rfl) ?_
    refine j_if_eq c 23 dX3_at_16 (by decide) (fun g => ?_) (fun g => ?_)
    · exact bad (by simp only [okAt, bI_z g, Bool.and_false])
    · have g2 := bI_nz g
      have hok : okAt T x y w = true := by simp only [okAt, e2, g2, Bool.and_self]
      simp only [Bool.and_eq_true] at e2
      obtain ⟨i, hi, hi2, rfl⟩ := isN_of e2.1
      obtain ⟨m, hm, hm2, rfl⟩ := isN_of e2.2.1
      obtain ⟨k, hk5, hk2, rfl⟩ := isN_of g2
      have hts := e2.2.2
      rw [nI_clamp hi2, nI_clamp hm2] at hts
      have hpl := hW.2.2.2.2.1 i hi
      have hM0 := hM.keep (k0 σ (nI 0))
      have fin : ∀ (σ' : Sg) (v : Int32), keepM (s2 σ 50 0 (nI 0)) σ' → σ' 50 0 = nI 0 → v = aAt T i m k → (keepM σ σ' ∧ σ' 50 0 = bI (!okAt T (nI i) (nI m) (nI k)) ∧ ∃ v', (some (.inl v) : Option PV) = some (.inl v') ∧ (okAt T (nI i) (nI m) (nI k) = true → v' = aAt T (nI i).toNatClampNeg (nI m).toNatClampNeg (nI k).toNatClampNeg)) := fun σ' v h1 h2 h3 => ⟨(k0 σ _).trans h1, by rw [h2, hok]; rfl, v, rfl, fun _ => by rw [nI_clamp hi2, nI_clamp hm2, nI_clamp hk2]; exact h3⟩
      refine j_iconst c (nI 0) dX3_at_19 (by decide) ?_
      refine j_goto c 24 dX3_at_20 (by decide) ?_
      refine j_putI c fl_X3_65 dX3_at_24 (Nat.le_of_ble_eq_true rfl) rfl rfl ?_
      refine j_aload_n c dX3_at_27 rfl ?_
      refine j_getI c fl_X3_65 dX3_at_28 (Nat.le_of_ble_eq_true rfl) rfl rfl ?_
      rw [s2_at]
      refine j_if_le c 36 dX3_at_31 (by decide) (fun _ => ?_) (fun h => absurd (by decide) h)
      rcases (show k = 0 ∨ k = 1 ∨ k = 2 ∨ k = 3 ∨ k = 4 by omega) with rfl | rfl | rfl | rfl | rfl
      · refine j_iload_n c dX3_at_36 rfl ?_
        refine j_tableIn (off := 31) c 68 dX3_at_37 (by decide) (by decide) (by decide) (by decide) ?_
        refine j_aload_n c dX3_at_68 rfl ?_
        refine j_getR c fl_X3_25 dX3_at_69 (Nat.le_of_ble_eq_true rfl) rfl rfl ?_
        refine j_bipush c (nI 12) dX3_at_72 (by decide) ?_
        refine j_iload_n c dX3_at_74 rfl ?_
        refine j_imul c _ dX3_at_75 (by first | exact pk_mul _ _ | rfl) ?_
        refine j_iload_n c dX3_at_76 rfl ?_
        refine j_iadd c _ dX3_at_77 (by first | exact nI_add _ _ | rfl) ?_
        refine j_iald c dX3_at_78 (Nat.le_of_ble_eq_true rfl) rfl rfl (by omega) (by decide) ?_
        exact j_iret c r dX3_at_79 rfl (fin _ _ (keepM.rfl' _) (s2_at _ _ _ _) (hM0.2.2.2.2.2.2.2.1 i m hi hm))
      · refine j_iload_n c dX3_at_36 rfl ?_
        refine j_tableIn (off := 43) c 80 dX3_at_37 (by decide) (by decide) (by decide) (by decide) ?_
        refine j_aload_n c dX3_at_80 rfl ?_
        refine j_getR c fl_X3_28 dX3_at_81 (Nat.le_of_ble_eq_true rfl) rfl rfl ?_
        refine j_bipush c (nI 12) dX3_at_84 (by decide) ?_
        refine j_iload_n c dX3_at_86 rfl ?_
        refine j_imul c _ dX3_at_87 (by first | exact pk_mul _ _ | rfl) ?_
        refine j_iload_n c dX3_at_88 rfl ?_
        refine j_iadd c _ dX3_at_89 (by first | exact nI_add _ _ | rfl) ?_
        refine j_iald c dX3_at_90 (Nat.le_of_ble_eq_true rfl) rfl rfl (by omega) (by decide) ?_
        exact j_iret c r dX3_at_91 rfl (fin _ _ (keepM.rfl' _) (s2_at _ _ _ _) (hM0.2.2.2.2.2.2.2.2.1 i m (by omega) hm).1)
      · refine j_iload_n c dX3_at_36 rfl ?_
        refine j_tableIn (off := 55) c 92 dX3_at_37 (by decide) (by decide) (by decide) (by decide) ?_
        refine j_aload_n c dX3_at_92 rfl ?_
        refine j_getR c fl_X3_31 dX3_at_93 (Nat.le_of_ble_eq_true rfl) rfl rfl ?_
        refine j_bipush c (nI 12) dX3_at_96 (by decide) ?_
        refine j_iload_n c dX3_at_98 rfl ?_
        refine j_imul c _ dX3_at_99 (by first | exact pk_mul _ _ | rfl) ?_
        refine j_iload_n c dX3_at_100 rfl ?_
        refine j_iadd c _ dX3_at_101 (by first | exact nI_add _ _ | rfl) ?_
        refine j_iald c dX3_at_102 (Nat.le_of_ble_eq_true rfl) rfl rfl (by omega) (by decide) ?_
        exact j_iret c r dX3_at_103 rfl (fin _ _ (keepM.rfl' _) (s2_at _ _ _ _) (hM0.2.2.2.2.2.2.2.2.1 i m (by omega) hm).2)
      · refine j_iload_n c dX3_at_36 rfl ?_
        refine j_tableIn (off := 67) c 104 dX3_at_37 (by decide) (by decide) (by decide) (by decide) ?_
        refine j_aload_n c dX3_at_104 rfl ?_
        refine j_iload_n c dX3_at_105 rfl ?_
        refine j_aload_n c dX3_at_106 rfl ?_
        refine j_getI c fl_X3_133 dX3_at_107 (Nat.le_of_ble_eq_true rfl) rfl rfl ?_
        rw [hM0.2.2.2.2.2.2.2.2.2.1]
        refine j_callV0 c kw_X3_184 (sp_laysAnswers hM0 hW hi (MoOK.no T i) (b := tru T) hW.2.2.2.2.2.2.1) dX3_at_110 rfl rfl (by decide) (Nat.le_of_ble_eq_true rfl) (Nat.le_of_ble_eq_true rfl) rfl rfl ?_
        have hk1 : keepM (s2 σ 50 0 (nI 0)) (sR (s2 σ 50 0 (nI 0)) 65 (rowU (rowA T i none (tru T)) (16 ^ tpl T i) (s2 σ 50 0 (nI 0) 65))) := keepM.row (by decide) (by decide)
        have hz : sR (s2 σ 50 0 (nI 0)) 65 (rowU (rowA T i none (tru T)) (16 ^ tpl T i) (s2 σ 50 0 (nI 0) 65)) 50 0 = nI 0 := by rw [sR_ne (by decide), s2_at]
        have hA : ∀ c, c < 16 ^ tpl T i → sR (s2 σ 50 0 (nI 0)) 65 (rowU (rowA T i none (tru T)) (16 ^ tpl T i) (s2 σ 50 0 (nI 0) 65)) 65 c = rowA T i none (tru T) c := fun c hc => by rw [sR_at, rowU_lt hc]
        generalize sR (s2 σ 50 0 (nI 0)) 65 (rowU (rowA T i none (tru T)) (16 ^ tpl T i) (s2 σ 50 0 (nI 0) 65)) = σ1 at hk1 hz hA ⊢
        refine j_aload_n c dX3_at_113 rfl ?_
        refine j_iload_n c dX3_at_114 rfl ?_
        refine j_iload_n c dX3_at_115 rfl ?_
        refine j_callV1 c kw_X3_190 (sp_howMany (hM0.keep hk1) hW hi (nI m)) dX3_at_116 rfl rfl (by decide) (Nat.le_of_ble_eq_true rfl) (Nat.le_of_ble_eq_true rfl) rfl rfl ?_
        rw [cnt_congr (Q := fun c => decide (rowA T i none (tru T) c = nI m)) (fun c hc => by rw [hA c hc])]
        exact j_iret c r dX3_at_119 rfl (fin _ _ hk1 hz rfl)
      · refine j_iload_n c dX3_at_36 rfl ?_
        refine j_tableOut c 120 dX3_at_37 (by right; decide) (by decide) ?_
        refine j_aload_n c dX3_at_120 rfl ?_
        refine j_iload_n c dX3_at_121 rfl ?_
        refine j_iload_n c dX3_at_122 rfl ?_
        refine j_callV1 c kw_X3_202 (sp_applicableMany hM0 hW hi hm hts) dX3_at_123 rfl rfl (by decide) (Nat.le_of_ble_eq_true rfl) (Nat.le_of_ble_eq_true rfl) rfl rfl ?_
        exact j_iret c r dX3_at_126 rfl (fin _ _ (keepM.rfl' _) (s2_at _ _ _ _) rfl)
