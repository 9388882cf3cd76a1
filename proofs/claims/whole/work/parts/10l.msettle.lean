-- ===== 10l: the reference's change, settle =====
theorem sp_changeM {T : TS} {σ : Sg} (hM : InvM T none σ) (hW : WF T) (x y : Int32) : Sp yX3_change cX3_change 5 (some .int) 5 [.inr 50, .inl x, .inl y] σ (nM T σ (aChange T x y)) := by
  have h4 := hW.2.2.2.1
  have hM0 := hM.keep (k0 σ (nI 0))
  have fr0 : frMo σ (s2 σ 50 0 (nI 0)) := frMo.s2 (by decide) (by decide)
  refine Sp.intro rfl (Nat.le_of_ble_eq_true rfl) (fun Γ c r => ?_)
  show J Γ 0 [some (.inr 50), some (.inl x), some (.inl y), none, none] [] σ
  refine j_aload_n c dX3_change_0 rfl ?_
  refine j_iconst c (nI 0) dX3_change_1 (by decide) ?_
  refine j_putI c fl_X3_65 dX3_change_2 (Nat.le_of_ble_eq_true rfl) rfl rfl ?_
  refine j_aload_n c dX3_change_5 rfl ?_
  refine j_iload_n c dX3_change_6 rfl ?_
  refine j_iload_n c dX3_change_7 rfl ?_
  refine j_callV1 c kw_X3_114 (sp_isCall hM0 hW x y) dX3_change_8 rfl rfl (by decide) (Nat.le_of_ble_eq_true rfl) (Nat.le_of_ble_eq_true rfl) rfl rfl ?_
  refine j_if_ne c 16 dX3_change_11 (by decide) (fun e => ?_) (fun e => ?_)
  · have e2 := bI_nz e
    obtain ⟨i, w, hi, rfl, rfl, hv⟩ := isC_of h4 e2
    have hpl := hW.2.2.2.2.1 i hi
    have h16 := p16 hpl.2
    have hwl := vcall_lt hv hpl.2
    have ha : aChange T (nI i) (nI w) = if (mFor T i w).isSome then -2 else nI (cnt (chB T i w) (16 ^ tpl T i)) := by
      unfold aChange
      rw [e2, nI_clamp (n := i) (by omega), nI_clamp (n := w) (by omega)]
      rfl
    rw [ha] at r
    refine j_aload_n c dX3_change_16 rfl ?_
    refine j_iload_n c dX3_change_17 rfl ?_
    refine j_iload_n c dX3_change_18 rfl ?_
    refine j_callV1 c kw_X3_117 (sp_methodFor (σ := s2 σ 50 0 (nI 0)) (f := i) (by omega) (nI w)) dX3_change_19 rfl rfl (by decide) (Nat.le_of_ble_eq_true rfl) (Nat.le_of_ble_eq_true rfl) rfl rfl ?_
    rw [mForE hM0 hW hi (by omega)]
    cases hfo : mFor T i w with
    | some m2 =>
      rw [hfo] at r
      have hm2 := (fnd_some hfo).1
      refine j_iconst c (-1) dX3_change_22 (by decide) ?_
      refine j_icmp_eq c 29 dX3_change_23 (by decide) (fun h => absurd h (oI_ne (t := m2) (by omega))) (fun _ => ?_)
      refine j_bipush c (-2) dX3_change_26 (by decide) ?_
      exact j_iret c r dX3_change_28 rfl ⟨rfl, hM0, fr0⟩
    | none =>
      rw [hfo] at r
      refine j_iconst c (-1) dX3_change_22 (by decide) ?_
      refine j_icmp_eq c 29 dX3_change_23 (by decide) (fun _ => ?_) (fun h => absurd (by rfl) h)
      refine j_aload_n c dX3_change_29 rfl ?_
      refine j_iload_n c dX3_change_30 rfl ?_
      refine j_aload_n c dX3_change_31 rfl ?_
      refine j_getI c fl_X3_133 dX3_change_32 (Nat.le_of_ble_eq_true rfl) rfl rfl ?_
      rw [hM0.2.2.2.2.2.2.2.2.2.1]
      refine j_callV0 c kw_X3_184 (sp_laysAnswers hM0 hW hi (MoOK.no T i) (b := tru T) hW.2.2.2.2.2.2.1) dX3_change_35 rfl rfl (by decide) (Nat.le_of_ble_eq_true rfl) (Nat.le_of_ble_eq_true rfl) rfl rfl ?_
      have hk1 : keepM σ (sR (s2 σ 50 0 (nI 0)) 65 (rowU (rowA T i none (tru T)) (16 ^ tpl T i) (s2 σ 50 0 (nI 0) 65))) := (k0 σ _).trans (keepM.row (by decide) (by decide))
      have hA : ∀ c, c < 16 ^ tpl T i → sR (s2 σ 50 0 (nI 0)) 65 (rowU (rowA T i none (tru T)) (16 ^ tpl T i) (s2 σ 50 0 (nI 0) 65)) 65 c = rowA T i none (tru T) c := fun c hc => by rw [sR_at, rowU_lt hc]
      generalize sR (s2 σ 50 0 (nI 0)) 65 (rowU (rowA T i none (tru T)) (16 ^ tpl T i) (s2 σ 50 0 (nI 0) 65)) = σ1 at hk1 hA ⊢
      have hM1 := hM.keep hk1
      have rest : J Γ 60 [some (.inr 50), some (.inl (nI i)), some (.inl (nI w)), none, none] [.inl (nI (chK T i)), .inr 50] σ1 := by
        refine j_putI c fl_X3_142 dX3_change_60 (Nat.le_of_ble_eq_true rfl) rfl rfl ?_
        refine j_aload_n c dX3_change_63 rfl ?_
        refine j_iload_n c dX3_change_64 rfl ?_
        refine j_putI c fl_X3_49 dX3_change_65 (Nat.le_of_ble_eq_true rfl) rfl rfl ?_
        refine j_iconst c (nI 0) dX3_change_68 (by decide) ?_
        refine j_istore_n c dX3_change_69 (Nat.le_of_ble_eq_true rfl) rfl ?_
        refine j_iconst c (nI 0) dX3_change_70 (by decide) ?_
        refine j_istore c dX3_change_71 (Nat.le_of_ble_eq_true rfl) rfl ?_
        have hM2 : InvM T (some (w, chK T i)) (s2 (s2 σ1 50 20 (nI (chK T i))) 50 19 (nI w)) := hM1.more
        have hA2 : ∀ c, c < 16 ^ tpl T i → s2 (s2 σ1 50 20 (nI (chK T i))) 50 19 (nI w) 65 c = rowA T i none (tru T) c := fun c hc => by rw [s2_np (by decide), s2_np (by decide)]; exact hA c hc
        have fr2 : frMo σ (s2 (s2 σ1 50 20 (nI (chK T i))) 50 19 (nI w)) := hk1.fr.trans ((frMo.s2 (by decide) (by decide)).trans (frMo.s2 (by decide) (by decide)))
        generalize s2 (s2 σ1 50 20 (nI (chK T i))) 50 19 (nI w) = σ2 at hM2 hA2 fr2 ⊢
        have key : ∀ k, k ≤ 16 ^ tpl T i → J Γ 73 [some (.inr 50), some (.inl (nI i)), some (.inl (nI w)), some (.inl (nI (cnt (chB T i w) k))), some (.inl (nI k))] [] σ2 := by
          refine loopN _ ?_ ?_
          · refine j_iload c dX3_change_73 rfl ?_
            refine j_aload_n c dX3_change_75 rfl ?_
            refine j_iload_n c dX3_change_76 rfl ?_
            refine j_callV1 c kw_X3_172 (sp_callsOf hM2 hW hi) dX3_change_77 rfl rfl (by decide) (Nat.le_of_ble_eq_true rfl) (Nat.le_of_ble_eq_true rfl) rfl rfl ?_
            refine j_icmp_ge c 130 dX3_change_80 (by decide) (fun _ => ?_) (fun h => absurd (nI_le (Nat.le_refl _) (by omega)) h)
            refine j_aload_n c dX3_change_130 rfl ?_
            refine j_iconst c (-1) dX3_change_131 (by decide) ?_
            refine j_putI c fl_X3_49 dX3_change_132 (Nat.le_of_ble_eq_true rfl) rfl rfl ?_
            refine j_iload_n c dX3_change_135 rfl ?_
            exact j_iret c r dX3_change_136 rfl ⟨rfl, hM2.noMore, fr2.trans (frMo.s2 (by decide) (by decide))⟩
          · intro k hk ih
            refine j_iload c dX3_change_73 rfl ?_
            refine j_aload_n c dX3_change_75 rfl ?_
            refine j_iload_n c dX3_change_76 rfl ?_
            refine j_callV1 c kw_X3_172 (sp_callsOf hM2 hW hi) dX3_change_77 rfl rfl (by decide) (Nat.le_of_ble_eq_true rfl) (Nat.le_of_ble_eq_true rfl) rfl rfl ?_
            refine j_icmp_ge c 130 dX3_change_80 (by decide) (fun h => absurd h (nI_ge hk (by omega))) (fun _ => ?_)
            refine j_iload_n c dX3_change_83 rfl ?_
            refine j_aload_n c dX3_change_84 rfl ?_
            refine j_getR c fl_X3_56 dX3_change_85 (Nat.le_of_ble_eq_true rfl) rfl rfl ?_
            refine j_iload c dX3_change_88 rfl ?_
            refine j_iald c dX3_change_90 (Nat.le_of_ble_eq_true rfl) rfl rfl (by omega) (by decide) ?_
            rw [hA2 k hk]
            refine j_bipush c (-3) dX3_change_91 (by decide) ?_
            refine j_icmp_eq c 121 dX3_change_93 (by decide) (fun g => ?_) (fun g => ?_)
            · have hvk : vcall (tn T) (tpl T i) k = false := by
                cases hh : vcall (tn T) (tpl T i) k with
                | false => rfl
                | true => exact absurd g (rowA_v.mpr hh)
              refine j_iconst c (nI 0) dX3_change_121 (by decide) ?_
              refine j_iadd c _ dX3_change_122 (cnt_step (P := chB T i w) false (by simp [chB, hvk])) ?_
              refine j_istore_n c dX3_change_123 (Nat.le_of_ble_eq_true rfl) rfl ?_
              refine j_iinc c _ dX3_change_124 rfl (by first | exact nI_1 _ | exact pk_m1 _ | rfl) rfl ?_
              refine j_goto c 73 dX3_change_127 (by decide) ?_
              exact ih
            · have hvk := rowA_v.mp g
              have hrow : rowA T i none (tru T) k = ansI (tls T) (ttg T i) (tru T) k := by simp only [rowA, hvk, if_true]; rfl
              refine j_aload_n c dX3_change_96 rfl ?_
              refine j_iload_n c dX3_change_97 rfl ?_
              refine j_iload c dX3_change_98 rfl ?_
              refine j_aload_n c dX3_change_100 rfl ?_
              refine j_getI c fl_X3_133 dX3_change_101 (Nat.le_of_ble_eq_true rfl) rfl rfl ?_
              rw [hM2.2.2.2.2.2.2.2.2.2.1]
              refine j_callV1 c kw_X3_159 (sp_answerOf hM2 hW hi (MoOK.ch hv) hvk hW.2.2.2.2.2.2.1) dX3_change_104 rfl rfl (by decide) (Nat.le_of_ble_eq_true rfl) (Nat.le_of_ble_eq_true rfl) rfl rfl ?_
              refine j_aload_n c dX3_change_107 rfl ?_
              refine j_getR c fl_X3_56 dX3_change_108 (Nat.le_of_ble_eq_true rfl) rfl rfl ?_
              refine j_iload c dX3_change_111 rfl ?_
              refine j_iald c dX3_change_113 (Nat.le_of_ble_eq_true rfl) rfl rfl (by omega) (by decide) ?_
              rw [hA2 k hk, hrow]
              refine j_icmp_eq c 121 dX3_change_114 (by decide) (fun q => ?_) (fun q => ?_)
              · refine j_iconst c (nI 0) dX3_change_121 (by decide) ?_
                refine j_iadd c _ dX3_change_122 (cnt_step (P := chB T i w) false (by simp [chB, q])) ?_
                refine j_istore_n c dX3_change_123 (Nat.le_of_ble_eq_true rfl) rfl ?_
                refine j_iinc c _ dX3_change_124 rfl (by first | exact nI_1 _ | exact pk_m1 _ | rfl) rfl ?_
                refine j_goto c 73 dX3_change_127 (by decide) ?_
                exact ih
              · refine j_iconst c (nI 1) dX3_change_117 (by decide) ?_
                refine j_goto c 122 dX3_change_118 (by decide) ?_
                refine j_iadd c _ dX3_change_122 (cnt_step (P := chB T i w) true (by simp [chB, q, hvk])) ?_
                refine j_istore_n c dX3_change_123 (Nat.le_of_ble_eq_true rfl) rfl ?_
                refine j_iinc c _ dX3_change_124 rfl (by first | exact nI_1 _ | exact pk_m1 _ | rfl) rfl ?_
                refine j_goto c 73 dX3_change_127 (by decide) ?_
                exact ih
        exact key 0 (Nat.zero_le _)
      refine j_aload_n c dX3_change_38 rfl ?_
      refine j_aload_n c dX3_change_39 rfl ?_
      refine j_iload_n c dX3_change_40 rfl ?_
      refine j_iconst c (-1) dX3_change_41 (by decide) ?_
      refine j_callV1 c kw_X3_117 (sp_methodFor (σ := σ1) (f := i) (by omega) (-1)) dX3_change_42 rfl rfl (by decide) (Nat.le_of_ble_eq_true rfl) (Nat.le_of_ble_eq_true rfl) rfl rfl ?_
      rw [mFreeE hM1 hW hi]
      cases hfr : mFree T i with
      | none =>
        have hck : chK T i = 12 := by unfold chK; rw [hfr]; rfl
        refine j_iconst c (-1) dX3_change_45 (by decide) ?_
        refine j_icmp_ne c 54 dX3_change_46 (by decide) (fun h => absurd (by rfl) h) (fun _ => ?_)
        refine j_bipush c (nI 12) dX3_change_49 (by decide) ?_
        refine j_goto c 60 dX3_change_51 (by decide) ?_
        rw [hck] at rest
        exact rest
      | some m =>
        have hck : chK T i = m := by unfold chK; rw [hfr]; rfl
        have hm := (fnd_some hfr).1
        refine j_iconst c (-1) dX3_change_45 (by decide) ?_
        refine j_icmp_ne c 54 dX3_change_46 (by decide) (fun _ => ?_) (fun h => absurd h (oI_ne (t := m) (by omega)))
        refine j_aload_n c dX3_change_54 rfl ?_
        refine j_iload_n c dX3_change_55 rfl ?_
        refine j_iconst c (-1) dX3_change_56 (by decide) ?_
        refine j_callV1 c kw_X3_117 (sp_methodFor (σ := σ1) (f := i) (by omega) (-1)) dX3_change_57 rfl rfl (by decide) (Nat.le_of_ble_eq_true rfl) (Nat.le_of_ble_eq_true rfl) rfl rfl ?_
        rw [mFreeE hM1 hW hi, hfr]
        rw [hck] at rest
        exact rest
  · refine j_iconst c (-1) dX3_change_14 (by decide) ?_
    exact j_iret c r dX3_change_15 rfl ⟨by simp [aChange, bI_z e], hM0, fr0⟩
theorem sp_settleM {T : TS} {σ : Sg} (hM : InvM T none σ) (hW : WF T) (x : Int32) : Sp yX3_settle cX3_settle 5 (some .int) 5 [.inr 50, .inl x] σ (nM T σ (aSettle T x)) := by
  have h4 := hW.2.2.2.1
  have hM0 := hM.keep (k0 σ (nI 0))
  have fr0 : frMo σ (s2 σ 50 0 (nI 0)) := frMo.s2 (by decide) (by decide)
  refine Sp.intro rfl (Nat.le_of_ble_eq_true rfl) (fun Γ c r => ?_)
  show J Γ 0 [some (.inr 50), some (.inl x), none, none, none] [] σ
  refine j_aload_n c dX3_settle_0 rfl ?_
  refine j_iconst c (nI 0) dX3_settle_1 (by decide) ?_
  refine j_putI c fl_X3_65 dX3_settle_2 (Nat.le_of_ble_eq_true rfl) rfl rfl ?_
  refine j_aload_n c dX3_settle_5 rfl ?_
  refine j_iload_n c dX3_settle_6 rfl ?_
  refine j_callV1 c kw_X3_104 (sp_isFunction _ x (tnf T) hM0.2.2.2.2.2.1 h4) dX3_settle_7 rfl rfl (by decide) (Nat.le_of_ble_eq_true rfl) (Nat.le_of_ble_eq_true rfl) rfl rfl ?_
  refine j_if_ne c 15 dX3_settle_10 (by decide) (fun e => ?_) (fun e => ?_)
  · have e2 := bI_nz e
    obtain ⟨i, hi, hi2, rfl⟩ := isN_of e2
    have hpl := hW.2.2.2.2.1 i hi
    have h16 := p16 hpl.2
    have ha : aSettle T (nI i) = stl T i 12 (ttg T i) 0 := by unfold aSettle; rw [e2, nI_clamp hi2]; rfl
    rw [ha] at r
    have h56 := hM0.2.2.2.2.2.2.2.1 i
    -- the end: as it was
    have back : ∀ (a : Nat) (o : Option Nat) (v : Int32) (g : Nat → Option Nat) (σ1 : Sg), (∀ t, o = some t → t < 4096) → v = (if o = none then nI a else -2) → v = stl T i 12 (ttg T i) 0 → InvM (setTF T i g) none σ1 → frMo σ σ1 → (∀ m, m < 12 → σ1 66 m = oI (ttg T i m)) → ∀ m, m ≤ 12 → ∀ (g' : Nat → Option Nat) (σ2 : Sg), InvM (setTF T i g') none σ2 → frMo σ σ2 → (∀ m, m < 12 → σ2 66 m = oI (ttg T i m)) → (∀ j, j < m → g' j = ttg T i j) → (∀ j, 12 ≤ j → g' j = none) → J Γ 119 [some (.inr 50), some (.inl (nI i)), some (.inl (nI a)), some (.inl (oI o)), some (.inl (nI m))] [] σ2 := by
      intro a o v g σ1 ho hv hv2 _ _ _
      refine loopN 12 ?_ ?_
      · intro g' σ2 hI hfr h66 hg hg2
        have eg : g' = ttg T i := by
          funext j
          by_cases hj : j < 12
          · exact hg j hj
          · rw [hg2 j (by omega)]
            cases et : ttg T i j with
            | none => rfl
            | some t => exact absurd (hW.2.2.2.2.2.1 i j t hi et).1 hj
        rw [eg, setTF_id] at hI
        refine j_iload c dX3_settle_119 rfl ?_
        refine j_bipush c (nI 12) dX3_settle_121 (by decide) ?_
        refine j_icmp_ge c 151 dX3_settle_123 (by decide) (fun _ => ?_) (fun h => absurd (nI_le (Nat.le_refl _) (by decide)) h)
        refine j_iload_n c dX3_settle_151 rfl ?_
        refine j_iconst c (-1) dX3_settle_152 (by decide) ?_
        have ho2 : oI o = -1 ↔ o = none := oI_none (fun t ht => by have := ho t ht; omega)
        refine j_icmp_ne c 160 dX3_settle_153 (by decide) (fun q => ?_) (fun q => ?_)
        · rw [ho2] at q
          refine j_bipush c (-2) dX3_settle_160 (by decide) ?_
          exact j_iret c r dX3_settle_162 rfl ⟨by rw [← hv2, hv, if_neg q], hI, hfr⟩
        · rw [ho2] at q
          refine j_iload_n c dX3_settle_156 rfl ?_
          refine j_goto c 162 dX3_settle_157 (by decide) ?_
          exact j_iret c r dX3_settle_162 rfl ⟨by rw [← hv2, hv, if_pos q], hI, hfr⟩
      · intro m hm ih g' σ2 hI hfr h66 hg hg2
        refine j_iload c dX3_settle_119 rfl ?_
        refine j_bipush c (nI 12) dX3_settle_121 (by decide) ?_
        refine j_icmp_ge c 151 dX3_settle_123 (by decide) (fun h => absurd h (nI_ge hm (by decide))) (fun _ => ?_)
        refine j_aload_n c dX3_settle_126 rfl ?_
        refine j_getR c fl_X3_25 dX3_settle_127 (Nat.le_of_ble_eq_true rfl) rfl rfl ?_
        refine j_bipush c (nI 12) dX3_settle_130 (by decide) ?_
        refine j_iload_n c dX3_settle_132 rfl ?_
        refine j_imul c _ dX3_settle_133 (by first | exact pk_mul _ _ | rfl) ?_
        refine j_iload c dX3_settle_134 rfl ?_
        refine j_iadd c _ dX3_settle_136 (by first | exact nI_add _ _ | rfl) ?_
        refine j_aload_n c dX3_settle_137 rfl ?_
        refine j_getR c fl_X3_59 dX3_settle_138 (Nat.le_of_ble_eq_true rfl) rfl rfl ?_
        refine j_iload c dX3_settle_141 rfl ?_
        refine j_iald c dX3_settle_143 (Nat.le_of_ble_eq_true rfl) rfl rfl (by omega) (by decide) ?_
        rw [h66 m hm]
        refine j_iast c dX3_settle_144 (by first | exact (Nat.le_of_ble_eq_true rfl) | exact hp.lt (by decide)) (by first | exact lf1 hp | exact lf2 hp | exact lf3 hp | exact lf4 hp | exact lf5 hp | exact lf6 hp | rfl) rfl (by omega) (by decide) ?_
        refine j_iinc c _ dX3_settle_145 rfl (by first | exact nI_1 _ | exact pk_m1 _ | rfl) rfl ?_
        refine j_goto c 119 dX3_settle_148 (by decide) ?_
        have hI2 := InvM.tg (f := i) (m := m) (o := ttg T i m) hI hm
        rw [setTF_tg] at hI2
        refine ih _ _ hI2 (hfr.trans (frMo.s2 (by decide) (by decide))) (fun k hk => by rw [s2_np (by decide)]; exact h66 k hk) (fun j hj => ?_) (fun j hj => by rw [vu_ne (by omega)]; exact hg2 j hj)
        by_cases ej : j = m
        · subst ej; rw [vu_at]
        · rw [vu_ne ej]; exact hg j (by omega)
    -- the clashes, one by one
    have loop : ∀ k (g : Nat → Option Nat) (a : Nat) (σ1 : Sg), cnt (fun j => (g j).isNone) 12 ≤ k → WF (setTF T i g) → InvM (setTF T i g) none σ1 → frMo σ σ1 → (∀ m, m < 12 → σ1 66 m = oI (ttg T i m)) → stl T i 12 (ttg T i) 0 = stl T i k g a → J Γ 63 [some (.inr 50), some (.inl (nI i)), some (.inl (nI a)), some (.inl (oI (clO T i g))), none] [] σ1 := by
      intro k
      induction k with
      | zero =>
        intro g a σ1 h1 hWg hI hfr h66 hst
        have hg2 : ∀ j, 12 ≤ j → g j = none := fun j hj => by
          cases et : g j with
          | none => rfl
          | some t =>
            have := hWg.2.2.2.2.2.1 i j t hi (by rw [setTF_at]; exact et)
            exact absurd this.1 (by omega)
        have hno : frO g = none := fnd_no (cnt_0 (n := 12) (by omega))
        have hcl : ∀ t, clO T i g = some t → t < 4096 := fun t ht => by have := (fnd_some ht).1; omega
        have fin : J Γ 116 [some (.inr 50), some (.inl (nI i)), some (.inl (nI a)), some (.inl (oI (clO T i g))), none] [] σ1 := by
          refine j_iconst c (nI 0) dX3_settle_116 (by decide) ?_
          refine j_istore c dX3_settle_117 (Nat.le_of_ble_eq_true rfl) rfl ?_
          refine back a (clO T i g) (if clO T i g = none then nI a else -2) g σ1 hcl rfl ?_ hI hfr h66 0 (Nat.zero_le _) g σ1 hI hfr h66 (fun j hj => by omega) hg2
          rw [hst]
          show _ = (match clO T i g with | none => nI a | some _ => -2)
          cases clO T i g <;> rfl
        refine j_iload_n c dX3_settle_63 rfl ?_
        refine j_iconst c (-1) dX3_settle_64 (by decide) ?_
        refine j_icmp_eq c 116 dX3_settle_65 (by decide) (fun q => ?_) (fun q => ?_)
        · exact fin
        · refine j_aload_n c dX3_settle_68 rfl ?_
          refine j_iload_n c dX3_settle_69 rfl ?_
          refine j_iconst c (-1) dX3_settle_70 (by decide) ?_
          refine j_callV1 c kw_X3_117 (sp_methodFor (σ := σ1) (f := i) (by omega) (-1)) dX3_settle_71 rfl rfl (by decide) (Nat.le_of_ble_eq_true rfl) (Nat.le_of_ble_eq_true rfl) rfl rfl ?_
          rw [mFreeE hI hWg hi, show mFree (setTF T i g) i = frO g by unfold mFree frO; rw [setTF_at], hno]
          refine j_iconst c (-1) dX3_settle_74 (by decide) ?_
          refine j_icmp_eq c 116 dX3_settle_75 (by decide) (fun _ => ?_) (fun h => absurd (by rfl) h)
          exact fin
      | succ k ih =>
        intro g a σ1 h1 hWg hI hfr h66 hst
        have hg2 : ∀ j, 12 ≤ j → g j = none := fun j hj => by
          cases et : g j with
          | none => rfl
          | some t =>
            have := hWg.2.2.2.2.2.1 i j t hi (by rw [setTF_at]; exact et)
            exact absurd this.1 (by omega)
        have hcl : ∀ t, clO T i g = some t → t < 4096 := fun t ht => by have := (fnd_some ht).1; omega
        have hstl : stl T i (k + 1) g a = (match clO T i g with | none => nI a | some c => match frO g with | none => -2 | some m => stl T i k (va_up g m (some c)) (a + 1)) := rfl
        have fin : (clO T i g = none ∨ frO g = none) → J Γ 116 [some (.inr 50), some (.inl (nI i)), some (.inl (nI a)), some (.inl (oI (clO T i g))), none] [] σ1 := by
          intro hend
          refine j_iconst c (nI 0) dX3_settle_116 (by decide) ?_
          refine j_istore c dX3_settle_117 (Nat.le_of_ble_eq_true rfl) rfl ?_
          refine back a (clO T i g) (if clO T i g = none then nI a else -2) g σ1 hcl rfl ?_ hI hfr h66 0 (Nat.zero_le _) g σ1 hI hfr h66 (fun j hj => by omega) hg2
          rw [hst, hstl]
          cases hc : clO T i g with
          | none => rfl
          | some t =>
            rcases hend with h | h
            · rw [hc] at h; cases h
            · rw [h]; rfl
        cases hc : clO T i g with
        | none =>
          rw [hc] at fin
          refine j_iload_n c dX3_settle_63 rfl ?_
          refine j_iconst c (-1) dX3_settle_64 (by decide) ?_
          refine j_icmp_eq c 116 dX3_settle_65 (by decide) (fun _ => ?_) (fun h => absurd (by rfl) h)
          exact fin (Or.inl rfl)
        | some t =>
          rw [hc] at fin
          have htl := hcl t hc
          refine j_iload_n c dX3_settle_63 rfl ?_
          refine j_iconst c (-1) dX3_settle_64 (by decide) ?_
          refine j_icmp_eq c 116 dX3_settle_65 (by decide) (fun h => absurd h (oI_ne (t := t) (by omega))) (fun _ => ?_)
          refine j_aload_n c dX3_settle_68 rfl ?_
          refine j_iload_n c dX3_settle_69 rfl ?_
          refine j_iconst c (-1) dX3_settle_70 (by decide) ?_
          refine j_callV1 c kw_X3_117 (sp_methodFor (σ := σ1) (f := i) (by omega) (-1)) dX3_settle_71 rfl rfl (by decide) (Nat.le_of_ble_eq_true rfl) (Nat.le_of_ble_eq_true rfl) rfl rfl ?_
          rw [mFreeE hI hWg hi, show mFree (setTF T i g) i = frO g by unfold mFree frO; rw [setTF_at]]
          cases hf : frO g with
          | none =>
            refine j_iconst c (-1) dX3_settle_74 (by decide) ?_
            refine j_icmp_eq c 116 dX3_settle_75 (by decide) (fun _ => ?_) (fun h => absurd (by rfl) h)
            exact fin (Or.inr hf)
          | some m =>
            obtain ⟨hm, hmn, _⟩ := fnd_some hf
            obtain ⟨ht1, ht2, _⟩ := fnd_some hc
            simp only [clB, Bool.and_eq_true, decide_eq_true_eq] at ht2
            have hvt : vcall (tn T) (tpl T i) t = true := by
              have h5 := ht2.1
              unfold row0 at h5
              by_cases hv : vcall (tn T) (tpl T i) t = true
              · exact hv
              · rw [if_neg hv] at h5; exact absurd h5 (by decide)
            have hans : ansI (tls T) g 0 t = -2 := by
              have h5 := ht2.1
              unfold row0 at h5
              rw [if_pos hvt] at h5
              exact h5
            have hrefl : ∀ p, up (tls T) (dg t p) (dg t p) = true := fun p => by
              have h5 := (hW.2.1 (dg t p) (vcall_dg hvt hpl.2 hW.1.1)).2.1
              simp [up, h5]
            have hnot := amb_no hrefl hans
            have hno : ∀ m', ttg (setTF T i g) i m' ≠ some t := fun m' h5 => by
              have h6 := (hWg.2.2.2.2.2.1 i m' t hi h5).1
              rw [setTF_at] at h5
              exact hnot m' (by omega) h5
            have hW2 := hWg.meth (f := i) (m := m) (w := t) hm hvt hno
            rw [setTF_tg] at hW2
            have hI2 := InvM.tg (f := i) (m := m) (o := some t) hI hm
            rw [setTF_tg] at hI2
            refine j_iconst c (-1) dX3_settle_74 (by decide) ?_
            refine j_icmp_eq c 116 dX3_settle_75 (by decide) (fun h => absurd h (oI_ne (t := m) (by omega))) (fun _ => ?_)
            refine j_aload_n c dX3_settle_78 rfl ?_
            refine j_getR c fl_X3_25 dX3_settle_79 (Nat.le_of_ble_eq_true rfl) rfl rfl ?_
            refine j_bipush c (nI 12) dX3_settle_82 (by decide) ?_
            refine j_iload_n c dX3_settle_84 rfl ?_
            refine j_imul c _ dX3_settle_85 (by first | exact pk_mul _ _ | rfl) ?_
            refine j_aload_n c dX3_settle_86 rfl ?_
            refine j_iload_n c dX3_settle_87 rfl ?_
            refine j_iconst c (-1) dX3_settle_88 (by decide) ?_
            refine j_callV1 c kw_X3_117 (sp_methodFor (σ := σ1) (f := i) (by omega) (-1)) dX3_settle_89 rfl rfl (by decide) (Nat.le_of_ble_eq_true rfl) (Nat.le_of_ble_eq_true rfl) rfl rfl ?_
            rw [mFreeE hI hWg hi, show mFree (setTF T i g) i = frO g by unfold mFree frO; rw [setTF_at], hf]
            show J Γ 92 [some (.inr 50), some (.inl (nI i)), some (.inl (nI a)), some (.inl (nI t)), none] [.inl (nI m), .inl (nI (12 * i)), .inr 56] σ1
            refine j_iadd c _ dX3_settle_92 (by first | exact nI_add _ _ | rfl) ?_
            refine j_iload_n c dX3_settle_93 rfl ?_
            refine j_iast c dX3_settle_94 (by first | exact (Nat.le_of_ble_eq_true rfl) | exact hp.lt (by decide)) (by first | exact lf1 hp | exact lf2 hp | exact lf3 hp | exact lf4 hp | exact lf5 hp | exact lf6 hp | rfl) rfl (by omega) (by decide) ?_
            refine j_iinc c _ dX3_settle_95 rfl (by first | exact nI_1 _ | exact pk_m1 _ | rfl) rfl ?_
            refine j_aload_n c dX3_settle_98 rfl ?_
            refine j_iload_n c dX3_settle_99 rfl ?_
            refine j_iconst c (nI 0) dX3_settle_100 (by decide) ?_
            have hI3 : InvM (setTF T i (va_up g m (some t))) none (s2 σ1 56 (12 * i + m) (nI t)) := hI2
            have h663 : ∀ k, k < 12 → s2 σ1 56 (12 * i + m) (nI t) 66 k = oI (ttg T i k) := fun k hk => by rw [s2_np (by decide)]; exact h66 k hk
            have hfr3 : frMo σ (s2 σ1 56 (12 * i + m) (nI t)) := hfr.trans (frMo.s2 (by decide) (by decide))
            generalize s2 σ1 56 (12 * i + m) (nI t) = σ2 at hI3 h663 hfr3 ⊢
            refine j_callV0 c kw_X3_184 (sp_laysAnswers hI3 hW2 (f := i) hi (MoOK.no _ i) (b := 0) (by decide)) dX3_settle_101 rfl rfl (by decide) (Nat.le_of_ble_eq_true rfl) (Nat.le_of_ble_eq_true rfl) rfl rfl ?_
            have hk1 : keepM σ2 (sR σ2 65 (rowU (rowA (setTF T i (va_up g m (some t))) i none 0) (16 ^ tpl T i) (σ2 65))) := keepM.row (by decide) (by decide)
            have h664 : ∀ k, k < 12 → sR σ2 65 (rowU (rowA (setTF T i (va_up g m (some t))) i none 0) (16 ^ tpl T i) (σ2 65)) 66 k = oI (ttg T i k) := fun k hk => by rw [sR_ne (by decide)]; exact h663 k hk
            have hA : ∀ c, c < 16 ^ tpl T i → sR σ2 65 (rowU (rowA (setTF T i (va_up g m (some t))) i none 0) (16 ^ tpl T i) (σ2 65)) 65 c = row0 T i (va_up g m (some t)) c := fun c hc => by rw [sR_at, rowU_lt hc, rowA_TF]
            show J Γ 104 _ [] (sR σ2 65 (rowU (rowA (setTF T i (va_up g m (some t))) i none 0) (16 ^ tpl T i) (σ2 65)))
            generalize sR σ2 65 (rowU (rowA (setTF T i (va_up g m (some t))) i none 0) (16 ^ tpl T i) (σ2 65)) = σ3 at hk1 h664 hA ⊢
            have hI4 := hI3.keep hk1
            refine j_aload_n c dX3_settle_104 rfl ?_
            refine j_iload_n c dX3_settle_105 rfl ?_
            refine j_bipush c (-2) dX3_settle_106 (by decide) ?_
            refine j_iconst c (nI 0) dX3_settle_108 (by decide) ?_
            have hvx : ∀ c, c < 16 ^ tpl T i → σ3 65 c = -2 → vcall (tn T) (tpl T i) c = true := fun c hc h' => by
              rw [hA c hc] at h'
              unfold row0 at h'
              by_cases hv : vcall (tn T) (tpl T i) c = true
              · exact hv
              · rw [if_neg hv] at h'; exact absurd h' (by decide)
            refine j_callV1 c kw_X3_193 (sp_topOf hI4 hW2 (f := i) hi (-2) (nI 0) hvx) dX3_settle_109 rfl rfl (by decide) (Nat.le_of_ble_eq_true rfl) (Nat.le_of_ble_eq_true rfl) rfl rfl ?_
            have ek : kth (fun c => decide (σ3 65 c = -2) && topB (σ3 65) (tls (setTF T i (va_up g m (some t)))) (16 ^ tpl (setTF T i (va_up g m (some t))) i) c) (16 ^ tpl (setTF T i (va_up g m (some t))) i) (nI 0) = oI (clO T i (va_up g m (some t))) := by
              refine Eq.trans (kth_0 (N := 16 ^ tpl T i) h16) ?_
              congr 1
              exact fnd_congr (fun c hc => by
                show (decide (σ3 65 c = -2) && topB (σ3 65) (tls T) (16 ^ tpl T i) c) = clB T i (va_up g m (some t)) c
                rw [hA c hc, topB_congr hA hc]
                rfl)
            rw [ek]
            refine j_istore_n c dX3_settle_112 (Nat.le_of_ble_eq_true rfl) rfl ?_
            refine j_goto c 63 dX3_settle_113 (by decide) ?_
            have hcf := cnt_fill (c := t) hm hmn
            exact ih _ _ _ (by omega) hW2 hI4 (hfr3.trans hk1.fr) h664 (by rw [hst, hstl, hc, hf])
    -- the methods as they were
    have save : ∀ m, m ≤ 12 → ∀ σ1 : Sg, keepM σ σ1 → (∀ j, j < m → σ1 66 j = oI (ttg T i j)) → J Γ 17 [some (.inr 50), some (.inl (nI i)), some (.inl (nI m)), none, none] [] σ1 := by
      refine loopN 12 ?_ ?_
      · intro σ1 hk h66
        have hI := hM.keep hk
        refine j_iload_n c dX3_settle_17 rfl ?_
        refine j_bipush c (nI 12) dX3_settle_18 (by decide) ?_
        refine j_icmp_ge c 46 dX3_settle_20 (by decide) (fun _ => ?_) (fun h => absurd (nI_le (Nat.le_refl _) (by decide)) h)
        refine j_iconst c (nI 0) dX3_settle_46 (by decide) ?_
        refine j_istore_n c dX3_settle_47 (Nat.le_of_ble_eq_true rfl) rfl ?_
        refine j_aload_n c dX3_settle_48 rfl ?_
        refine j_iload_n c dX3_settle_49 rfl ?_
        refine j_iconst c (nI 0) dX3_settle_50 (by decide) ?_
        refine j_callV0 c kw_X3_184 (sp_laysAnswers hI hW hi (MoOK.no _ i) (b := 0) (by decide)) dX3_settle_51 rfl rfl (by decide) (Nat.le_of_ble_eq_true rfl) (Nat.le_of_ble_eq_true rfl) rfl rfl ?_
        have hk1 : keepM σ (sR σ1 65 (rowU (rowA T i none 0) (16 ^ tpl T i) (σ1 65))) := hk.trans (keepM.row (by decide) (by decide))
        have h664 : ∀ k, k < 12 → sR σ1 65 (rowU (rowA T i none 0) (16 ^ tpl T i) (σ1 65)) 66 k = oI (ttg T i k) := fun k hk => by rw [sR_ne (by decide)]; exact h66 k hk
        have hA : ∀ c, c < 16 ^ tpl T i → sR σ1 65 (rowU (rowA T i none 0) (16 ^ tpl T i) (σ1 65)) 65 c = row0 T i (ttg T i) c := fun c hc => by rw [sR_at, rowU_lt hc, ← rowA_TF, setTF_id]
        generalize sR σ1 65 (rowU (rowA T i none 0) (16 ^ tpl T i) (σ1 65)) = σ3 at hk1 h664 hA ⊢
        have hI4 := hM.keep hk1
        refine j_aload_n c dX3_settle_54 rfl ?_
        refine j_iload_n c dX3_settle_55 rfl ?_
        refine j_bipush c (-2) dX3_settle_56 (by decide) ?_
        refine j_iconst c (nI 0) dX3_settle_58 (by decide) ?_
        have hvx : ∀ c, c < 16 ^ tpl T i → σ3 65 c = -2 → vcall (tn T) (tpl T i) c = true := fun c hc h' => by
          rw [hA c hc] at h'
          unfold row0 at h'
          by_cases hv : vcall (tn T) (tpl T i) c = true
          · exact hv
          · rw [if_neg hv] at h'; exact absurd h' (by decide)
        refine j_callV1 c kw_X3_193 (sp_topOf hI4 hW hi (-2) (nI 0) hvx) dX3_settle_59 rfl rfl (by decide) (Nat.le_of_ble_eq_true rfl) (Nat.le_of_ble_eq_true rfl) rfl rfl ?_
        have ek : kth (fun c => decide (σ3 65 c = -2) && topB (σ3 65) (tls T) (16 ^ tpl T i) c) (16 ^ tpl T i) (nI 0) = oI (clO T i (ttg T i)) := by
          rw [kth_0 h16]
          congr 1
          exact fnd_congr (fun c hc => by
            rw [hA c hc, topB_congr hA hc]
            rfl)
        rw [ek]
        refine j_istore_n c dX3_settle_62 (Nat.le_of_ble_eq_true rfl) rfl ?_
        refine loop 12 (ttg T i) 0 σ3 (cnt_le _ _) (by rw [setTF_id]; exact hW) (by rw [setTF_id]; exact hI4) hk1.fr h664 rfl
      · intro m hm ih σ1 hk h66
        have hI := hM.keep hk
        refine j_iload_n c dX3_settle_17 rfl ?_
        refine j_bipush c (nI 12) dX3_settle_18 (by decide) ?_
        refine j_icmp_ge c 46 dX3_settle_20 (by decide) (fun h => absurd h (nI_ge hm (by decide))) (fun _ => ?_)
        refine j_aload_n c dX3_settle_23 rfl ?_
        refine j_getR c fl_X3_59 dX3_settle_24 (Nat.le_of_ble_eq_true rfl) rfl rfl ?_
        refine j_iload_n c dX3_settle_27 rfl ?_
        refine j_aload_n c dX3_settle_28 rfl ?_
        refine j_getR c fl_X3_25 dX3_settle_29 (Nat.le_of_ble_eq_true rfl) rfl rfl ?_
        refine j_bipush c (nI 12) dX3_settle_32 (by decide) ?_
        refine j_iload_n c dX3_settle_34 rfl ?_
        refine j_imul c _ dX3_settle_35 (by first | exact pk_mul _ _ | rfl) ?_
        refine j_iload_n c dX3_settle_36 rfl ?_
        refine j_iadd c _ dX3_settle_37 (by first | exact nI_add _ _ | rfl) ?_
        refine j_iald c dX3_settle_38 (Nat.le_of_ble_eq_true rfl) rfl rfl (by omega) (by decide) ?_
        rw [hI.2.2.2.2.2.2.2.1 i m hi hm]
        refine j_iast c dX3_settle_39 (by first | exact (Nat.le_of_ble_eq_true rfl) | exact hp.lt (by decide)) (by first | exact lf1 hp | exact lf2 hp | exact lf3 hp | exact lf4 hp | exact lf5 hp | exact lf6 hp | rfl) rfl (by omega) (by decide) ?_
        refine j_iinc c _ dX3_settle_40 rfl (by first | exact nI_1 _ | exact pk_m1 _ | rfl) rfl ?_
        refine j_goto c 17 dX3_settle_43 (by decide) ?_
        refine ih _ (hk.trans (keepM.row (by decide) (by decide))) (fun j hj => ?_)
        by_cases ej : j = m
        · subst ej; rw [s2_at]
        · rw [s2_nk ej]; exact h66 j (by omega)
    refine j_iconst c (nI 0) dX3_settle_15 (by decide) ?_
    refine j_istore_n c dX3_settle_16 (Nat.le_of_ble_eq_true rfl) rfl ?_
    exact save 0 (Nat.zero_le _) _ (k0 σ _) (fun j hj => by omega)
  · refine j_iconst c (-1) dX3_settle_13 (by decide) ?_
    exact j_iret c r dX3_settle_14 rfl ⟨by simp [aSettle, bI_z e], hM0, fr0⟩
