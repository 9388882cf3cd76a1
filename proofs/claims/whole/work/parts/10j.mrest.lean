-- ===== 10j: the reference: rule, count, function, call, kept, work =====
theorem sp_ruleM {T : TS} {σ : Sg} (hM : InvM T none σ) (hW : WF T) : Sp yX3_rule cX3_rule 2 (some .int) 0 [.inr 50] σ (nM (nRule T) σ (nI (1 - tru T))) := by
  have hru := hW.2.2.2.2.2.2.1
  have h11 := hM.2.2.2.2.2.2.2.2.2.1
  refine Sp.intro rfl (Nat.le_of_ble_eq_true rfl) (fun Γ c r => ?_)
  show J Γ 0 [some (.inr 50), none] [] σ
  refine j_aload_n c dX3_rule_0 rfl ?_
  refine j_iconst c (nI 0) dX3_rule_1 (by decide) ?_
  refine j_putI c fl_X3_65 dX3_rule_2 (Nat.le_of_ble_eq_true rfl) rfl rfl ?_
  refine j_aload_n c dX3_rule_5 rfl ?_
  refine j_iconst c (nI 1) dX3_rule_6 (by decide) ?_
  refine j_aload_n c dX3_rule_7 rfl ?_
  refine j_getI c fl_X3_133 dX3_rule_8 (Nat.le_of_ble_eq_true rfl) rfl rfl ?_
  rw [s2_nk (by decide), h11]
  refine j_isub c _ dX3_rule_11 (by first | exact pk_sub (by omega) | rfl) ?_
  refine j_putI c fl_X3_133 dX3_rule_12 (Nat.le_of_ble_eq_true rfl) rfl rfl ?_
  refine j_iconst c (nI 0) dX3_rule_15 (by decide) ?_
  refine j_istore_n c dX3_rule_16 (Nat.le_of_ble_eq_true rfl) rfl ?_
  have key : ∀ k, k ≤ 4 → ∀ σ1 : Sg, (∀ q, q ≠ 50 → q ≠ 60 → σ1 q = σ q) → (∀ j, j ≠ 0 → j ≠ 11 → σ1 50 j = σ 50 j) → σ1 50 11 = nI (1 - tru T) → (∀ f, f < k → σ1 60 f = nI 0) → J Γ 17 [some (.inr 50), some (.inl (nI k))] [] σ1 := by
    refine loopN 4 ?_ ?_
    · intro σ1 h1 h2 h3 h4
      refine j_iload_n c dX3_rule_17 rfl ?_
      refine j_iconst c (nI 4) dX3_rule_18 (by decide) ?_
      refine j_icmp_ge c 35 dX3_rule_19 (by decide) (fun _ => ?_) (fun h => absurd (nI_le (Nat.le_refl _) (by decide)) h)
      refine j_aload_n c dX3_rule_35 rfl ?_
      refine j_getI c fl_X3_133 dX3_rule_36 (Nat.le_of_ble_eq_true rfl) rfl rfl ?_
      rw [h3]
      have hI : InvM T none (s2 (sR (s2 σ1 50 11 (nI (tru T))) 60 (σ 60)) 50 0 (σ1 50 0)) := by
        refine hM.keep ⟨fun q h5 h6 => ?_, fun j h5 h6 h7 => ?_, fun q h5 => ?_⟩
        · rw [s2_np h6]
          by_cases e : q = 60
          · subst e; rw [sR_at]
          · rw [sR_ne e, s2_np h6]; exact h1 q h6 e
        · rw [s2_nk h5, sR_ne (by decide)]
          by_cases e : j = 11
          · subst e; rw [s2_at, h11]
          · rw [s2_nk e]; exact h2 j h5 e
        · rw [s2_np (by omega), sR_ne (by omega), s2_np (by omega)]; exact h1 q (by omega) (by omega)
      refine j_iret c r dX3_rule_39 rfl ⟨rfl, ?_, fun q hq => h1 q (by omega) (by omega)⟩
      refine InvM.rule hI (fun q h5 h6 => by rw [s2_np h5, sR_ne h6, s2_np h5]) (fun j h5 => ?_) h3 h4
      by_cases e : j = 0
      · subst e; rw [s2_at]
      · rw [s2_nk e, sR_ne (by decide), s2_nk h5]
    · intro k hk ih σ1 h1 h2 h3 h4
      refine j_iload_n c dX3_rule_17 rfl ?_
      refine j_iconst c (nI 4) dX3_rule_18 (by decide) ?_
      refine j_icmp_ge c 35 dX3_rule_19 (by decide) (fun h => absurd h (nI_ge hk (by decide))) (fun _ => ?_)
      refine j_aload_n c dX3_rule_22 rfl ?_
      refine j_getR c fl_X3_37 dX3_rule_23 (Nat.le_of_ble_eq_true rfl) rfl rfl ?_
      refine j_iload_n c dX3_rule_26 rfl ?_
      refine j_iconst c (nI 0) dX3_rule_27 (by decide) ?_
      refine j_iast c dX3_rule_28 (Nat.le_of_ble_eq_true rfl) rfl rfl (by omega) (by decide) ?_
      refine j_iinc c _ dX3_rule_29 rfl (by first | exact nI_1 _ | exact pk_m1 _ | rfl) rfl ?_
      refine j_goto c 17 dX3_rule_32 (by decide) ?_
      refine ih _ (fun q h5 h6 => by rw [s2_np h6]; exact h1 q h5 h6) (fun j h5 h6 => by rw [s2_np (by decide)]; exact h2 j h5 h6) (by rw [s2_np (by decide)]; exact h3) (fun f hf => ?_)
      by_cases e : f = k
      · subst e; rw [s2_at]
      · rw [s2_nk e]; exact h4 f (by omega)
  refine key 0 (Nat.zero_le _) _ (fun q h5 h6 => by rw [s2_np h5, s2_np h5]) (fun j h5 h6 => by rw [s2_nk h6, s2_nk h5]) (by rw [s2_at]) (fun f hf => by omega)
/-- 'count' -/
def sumN (g : Nat → Nat) : Nat → Nat
  | 0 => 0
  | n + 1 => sumN g n + g n
def aCount (T : TS) (w : Nat) : Int32 := match w with
  | 0 => nI (tn T)
  | 1 => nI (tnf T)
  | 2 => nI (tru T)
  | 3 => nI (sumN (mMany T) (tnf T))
  | 4 => thi T
  | 5 => tmi T
  | 6 => nI (sumN (fun f => (tkp T f).length) (tnf T))
  | _ => -1
def aCountI (T : TS) (w : Int32) : Int32 := if isN w 7 then aCount T w.toNatClampNeg else -1
theorem sp_countM {T : TS} {σ : Sg} (hM : InvM T none σ) (hW : WF T) (w : Int32) : Sp yX3_count cX3_count 4 (some .int) 1 [.inr 50, .inl w] σ (qM σ (aCountI T w)) := by
  have h4 := hW.2.2.2.1
  have hM0 := hM.keep (k0 σ (nI 0))
  refine Sp.intro rfl (Nat.le_of_ble_eq_true rfl) (fun Γ c r => ?_)
  show J Γ 0 [some (.inr 50), some (.inl w), none, none] [] σ
  by_cases hw : isN w 7 = true
  · obtain ⟨k, hk7, hk2, rfl⟩ := isN_of hw
    have hr : aCountI T (nI k) = aCount T k := by simp [aCountI, hw, nI_clamp hk2]
    rw [hr] at r
    rcases (show k = 0 ∨ k = 1 ∨ k = 2 ∨ k = 3 ∨ k = 4 ∨ k = 5 ∨ k = 6 by omega) with rfl | rfl | rfl | rfl | rfl | rfl | rfl
    · refine j_aload_n c dX3_count_0 rfl ?_
      refine j_iconst c (nI 0) dX3_count_1 (by decide) ?_
      refine j_putI c fl_X3_65 dX3_count_2 (Nat.le_of_ble_eq_true rfl) rfl rfl ?_
      refine j_iconst c (nI 0) dX3_count_5 (by decide) ?_
      refine j_istore_n c dX3_count_6 (Nat.le_of_ble_eq_true rfl) rfl ?_
      refine j_iload_n c dX3_count_7 rfl ?_
      refine j_tableIn (off := 44) c 52 dX3_count_8 (by decide) (by decide) (by decide) (by decide) ?_
      refine j_aload_n c dX3_count_52 rfl ?_
      refine j_getI c fl_X3_62 dX3_count_53 (Nat.le_of_ble_eq_true rfl) rfl rfl ?_
      exact j_iret c r dX3_count_56 rfl ⟨by rw [hM0.1]; rfl, k0 σ _⟩
    · refine j_aload_n c dX3_count_0 rfl ?_
      refine j_iconst c (nI 0) dX3_count_1 (by decide) ?_
      refine j_putI c fl_X3_65 dX3_count_2 (Nat.le_of_ble_eq_true rfl) rfl rfl ?_
      refine j_iconst c (nI 0) dX3_count_5 (by decide) ?_
      refine j_istore_n c dX3_count_6 (Nat.le_of_ble_eq_true rfl) rfl ?_
      refine j_iload_n c dX3_count_7 rfl ?_
      refine j_tableIn (off := 49) c 57 dX3_count_8 (by decide) (by decide) (by decide) (by decide) ?_
      refine j_aload_n c dX3_count_57 rfl ?_
      refine j_getI c fl_X3_72 dX3_count_58 (Nat.le_of_ble_eq_true rfl) rfl rfl ?_
      exact j_iret c r dX3_count_61 rfl ⟨by rw [hM0.2.2.2.2.2.1]; rfl, k0 σ _⟩
    · refine j_aload_n c dX3_count_0 rfl ?_
      refine j_iconst c (nI 0) dX3_count_1 (by decide) ?_
      refine j_putI c fl_X3_65 dX3_count_2 (Nat.le_of_ble_eq_true rfl) rfl rfl ?_
      refine j_iconst c (nI 0) dX3_count_5 (by decide) ?_
      refine j_istore_n c dX3_count_6 (Nat.le_of_ble_eq_true rfl) rfl ?_
      refine j_iload_n c dX3_count_7 rfl ?_
      refine j_tableIn (off := 54) c 62 dX3_count_8 (by decide) (by decide) (by decide) (by decide) ?_
      refine j_aload_n c dX3_count_62 rfl ?_
      refine j_getI c fl_X3_133 dX3_count_63 (Nat.le_of_ble_eq_true rfl) rfl rfl ?_
      exact j_iret c r dX3_count_66 rfl ⟨by rw [hM0.2.2.2.2.2.2.2.2.2.1]; rfl, k0 σ _⟩
    · refine j_aload_n c dX3_count_0 rfl ?_
      refine j_iconst c (nI 0) dX3_count_1 (by decide) ?_
      refine j_putI c fl_X3_65 dX3_count_2 (Nat.le_of_ble_eq_true rfl) rfl rfl ?_
      refine j_iconst c (nI 0) dX3_count_5 (by decide) ?_
      refine j_istore_n c dX3_count_6 (Nat.le_of_ble_eq_true rfl) rfl ?_
      refine j_iload_n c dX3_count_7 rfl ?_
      refine j_tableIn (off := 59) c 67 dX3_count_8 (by decide) (by decide) (by decide) (by decide) ?_
      refine j_iconst c (nI 0) dX3_count_67 (by decide) ?_
      refine j_istore_n c dX3_count_68 (Nat.le_of_ble_eq_true rfl) rfl ?_
      have key : ∀ f, f ≤ tnf T → J Γ 69 [some (.inr 50), some (.inl (nI 3)), some (.inl (nI (sumN (mMany T) f))), some (.inl (nI f))] [] (s2 σ 50 0 (nI 0)) := by
        refine loopN _ ?_ ?_
        · refine j_iload_n c dX3_count_69 rfl ?_
          refine j_aload_n c dX3_count_70 rfl ?_
          refine j_getI c fl_X3_72 dX3_count_71 (Nat.le_of_ble_eq_true rfl) rfl rfl ?_
          rw [hM0.2.2.2.2.2.1]
          refine j_icmp_ge c 94 dX3_count_74 (by decide) (fun _ => ?_) (fun h => absurd (nI_le (Nat.le_refl _) (by omega)) h)
          refine j_iload_n c dX3_count_94 rfl ?_
          exact j_iret c r dX3_count_95 rfl ⟨rfl, k0 σ _⟩
        · intro f hf ih
          refine j_iload_n c dX3_count_69 rfl ?_
          refine j_aload_n c dX3_count_70 rfl ?_
          refine j_getI c fl_X3_72 dX3_count_71 (Nat.le_of_ble_eq_true rfl) rfl rfl ?_
          rw [hM0.2.2.2.2.2.1]
          refine j_icmp_ge c 94 dX3_count_74 (by decide) (fun h => absurd h (nI_ge hf (by omega))) (fun _ => ?_)
          refine j_iload_n c dX3_count_77 rfl ?_
          refine j_aload_n c dX3_count_78 rfl ?_
          refine j_iload_n c dX3_count_79 rfl ?_
          refine j_callV1 c kw_X3_126 (sp_methodsOf (σ := s2 σ 50 0 (nI 0)) (f := f) (by omega)) dX3_count_80 rfl rfl (by decide) (Nat.le_of_ble_eq_true rfl) (Nat.le_of_ble_eq_true rfl) rfl rfl ?_
          rw [setE hM0 hW hf]
          refine j_callS1 c kw_X3_130 (sp_bits _ _) dX3_count_83 rfl rfl (by decide) (Nat.le_of_ble_eq_true rfl) ?_
          rw [bits12]
          refine j_iadd c _ dX3_count_86 (by first | exact nI_add _ _ | rfl) ?_
          refine j_istore_n c dX3_count_87 (Nat.le_of_ble_eq_true rfl) rfl ?_
          refine j_iinc c _ dX3_count_88 rfl (by first | exact nI_1 _ | exact pk_m1 _ | rfl) rfl ?_
          refine j_goto c 69 dX3_count_91 (by decide) ?_
          exact ih
      exact key 0 (Nat.zero_le _)
    · refine j_aload_n c dX3_count_0 rfl ?_
      refine j_iconst c (nI 0) dX3_count_1 (by decide) ?_
      refine j_putI c fl_X3_65 dX3_count_2 (Nat.le_of_ble_eq_true rfl) rfl rfl ?_
      refine j_iconst c (nI 0) dX3_count_5 (by decide) ?_
      refine j_istore_n c dX3_count_6 (Nat.le_of_ble_eq_true rfl) rfl ?_
      refine j_iload_n c dX3_count_7 rfl ?_
      refine j_tableIn (off := 88) c 96 dX3_count_8 (by decide) (by decide) (by decide) (by decide) ?_
      refine j_aload_n c dX3_count_96 rfl ?_
      refine j_getI c fl_X3_136 dX3_count_97 (Nat.le_of_ble_eq_true rfl) rfl rfl ?_
      exact j_iret c r dX3_count_100 rfl ⟨by rw [hM0.2.2.2.2.2.2.2.2.2.2.2.2.1]; rfl, k0 σ _⟩
    · refine j_aload_n c dX3_count_0 rfl ?_
      refine j_iconst c (nI 0) dX3_count_1 (by decide) ?_
      refine j_putI c fl_X3_65 dX3_count_2 (Nat.le_of_ble_eq_true rfl) rfl rfl ?_
      refine j_iconst c (nI 0) dX3_count_5 (by decide) ?_
      refine j_istore_n c dX3_count_6 (Nat.le_of_ble_eq_true rfl) rfl ?_
      refine j_iload_n c dX3_count_7 rfl ?_
      refine j_tableIn (off := 93) c 101 dX3_count_8 (by decide) (by decide) (by decide) (by decide) ?_
      refine j_aload_n c dX3_count_101 rfl ?_
      refine j_getI c fl_X3_139 dX3_count_102 (Nat.le_of_ble_eq_true rfl) rfl rfl ?_
      exact j_iret c r dX3_count_105 rfl ⟨by rw [hM0.2.2.2.2.2.2.2.2.2.2.2.2.2.1]; rfl, k0 σ _⟩
    · refine j_aload_n c dX3_count_0 rfl ?_
      refine j_iconst c (nI 0) dX3_count_1 (by decide) ?_
      refine j_putI c fl_X3_65 dX3_count_2 (Nat.le_of_ble_eq_true rfl) rfl rfl ?_
      refine j_iconst c (nI 0) dX3_count_5 (by decide) ?_
      refine j_istore_n c dX3_count_6 (Nat.le_of_ble_eq_true rfl) rfl ?_
      refine j_iload_n c dX3_count_7 rfl ?_
      refine j_tableIn (off := 98) c 106 dX3_count_8 (by decide) (by decide) (by decide) (by decide) ?_
      refine j_iconst c (nI 0) dX3_count_106 (by decide) ?_
      refine j_istore_n c dX3_count_107 (Nat.le_of_ble_eq_true rfl) rfl ?_
      have key : ∀ f, f ≤ tnf T → J Γ 108 [some (.inr 50), some (.inl (nI 6)), some (.inl (nI (sumN (fun f => (tkp T f).length) f))), some (.inl (nI f))] [] (s2 σ 50 0 (nI 0)) := by
        refine loopN _ ?_ ?_
        · refine j_iload_n c dX3_count_108 rfl ?_
          refine j_aload_n c dX3_count_109 rfl ?_
          refine j_getI c fl_X3_72 dX3_count_110 (Nat.le_of_ble_eq_true rfl) rfl rfl ?_
          rw [hM0.2.2.2.2.2.1]
          refine j_icmp_ge c 131 dX3_count_113 (by decide) (fun _ => ?_) (fun h => absurd (nI_le (Nat.le_refl _) (by omega)) h)
          refine j_iload_n c dX3_count_131 rfl ?_
          exact j_iret c r dX3_count_132 rfl ⟨rfl, k0 σ _⟩
        · intro f hf ih
          refine j_iload_n c dX3_count_108 rfl ?_
          refine j_aload_n c dX3_count_109 rfl ?_
          refine j_getI c fl_X3_72 dX3_count_110 (Nat.le_of_ble_eq_true rfl) rfl rfl ?_
          rw [hM0.2.2.2.2.2.1]
          refine j_icmp_ge c 131 dX3_count_113 (by decide) (fun h => absurd h (nI_ge hf (by omega))) (fun _ => ?_)
          refine j_iload_n c dX3_count_116 rfl ?_
          refine j_aload_n c dX3_count_117 rfl ?_
          refine j_getR c fl_X3_37 dX3_count_118 (Nat.le_of_ble_eq_true rfl) rfl rfl ?_
          refine j_iload_n c dX3_count_121 rfl ?_
          refine j_iald c dX3_count_122 (Nat.le_of_ble_eq_true rfl) rfl rfl (by omega) (by decide) ?_
          rw [hM0.2.2.2.2.2.2.2.2.2.2.1 f (by omega)]
          refine j_iadd c _ dX3_count_123 (by first | exact nI_add _ _ | rfl) ?_
          refine j_istore_n c dX3_count_124 (Nat.le_of_ble_eq_true rfl) rfl ?_
          refine j_iinc c _ dX3_count_125 rfl (by first | exact nI_1 _ | exact pk_m1 _ | rfl) rfl ?_
          refine j_goto c 108 dX3_count_128 (by decide) ?_
          exact ih
      exact key 0 (Nat.zero_le _)
  · refine j_aload_n c dX3_count_0 rfl ?_
    refine j_iconst c (nI 0) dX3_count_1 (by decide) ?_
    refine j_putI c fl_X3_65 dX3_count_2 (Nat.le_of_ble_eq_true rfl) rfl rfl ?_
    refine j_iconst c (nI 0) dX3_count_5 (by decide) ?_
    refine j_istore_n c dX3_count_6 (Nat.le_of_ble_eq_true rfl) rfl ?_
    refine j_iload_n c dX3_count_7 rfl ?_
    refine j_tableOut c 133 dX3_count_8 (by simp [isN] at hw; omega) (by decide) ?_
    refine j_iconst c (-1) dX3_count_133 (by decide) ?_
    exact j_iret c r dX3_count_134 rfl ⟨by simp [aCountI, hw], k0 σ _⟩
/-- 'function' -/
def okFun (T : TS) (p : Int32) : Bool := decide (tnf T < 4) && (decide (nI 1 ≤ p) && decide (p ≤ nI 3))
def aFun (T : TS) (p : Int32) : Int32 := if okFun T p then nI (tnf T) else -1
def tFun (T : TS) (p : Int32) : TS := if okFun T p then nFun T p.toNatClampNeg else T
theorem sp_functionM {T : TS} {σ : Sg} (hM : InvM T none σ) (hW : WF T) (p : Int32) : Sp yX3_function cX3_function 3 (some .int) 1 [.inr 50, .inl p] σ (nM (tFun T p) σ (aFun T p)) := by
  have h4 := hW.2.2.2.1
  have hM0 := hM.keep (k0 σ (nI 0))
  have fr0 : frMo σ (s2 σ 50 0 (nI 0)) := frMo.s2 (by decide) (by decide)
  have h6 := hM0.2.2.2.2.2.1
  refine Sp.intro rfl (Nat.le_of_ble_eq_true rfl) (fun Γ c r => ?_)
  show J Γ 0 [some (.inr 50), some (.inl p), none] [] σ
  have bad : okFun T p = false → J Γ 22 [some (.inr 50), some (.inl p), none] [] (s2 σ 50 0 (nI 0)) := by
    intro h
    refine j_iconst c (-1) dX3_function_22 (by decide) ?_
    exact j_iret c r dX3_function_23 rfl ⟨by simp [aFun, h], by simp only [tFun, h]; exact hM0, fr0⟩
  refine j_aload_n c dX3_function_0 rfl ?_
  refine j_iconst c (nI 0) dX3_function_1 (by decide) ?_
  refine j_putI c fl_X3_65 dX3_function_2 (Nat.le_of_ble_eq_true rfl) rfl rfl ?_
  refine j_aload_n c dX3_function_5 rfl ?_
  refine j_getI c fl_X3_72 dX3_function_6 (Nat.le_of_ble_eq_true rfl) rfl rfl ?_
  rw [h6]
  refine j_iconst c (nI 4) dX3_function_9 (by decide) ?_
  refine j_icmp_eq c 22 dX3_function_10 (by decide) (fun e => ?_) (fun e => ?_)
  · rw [nI_eq (by omega) (by decide)] at e
    exact bad (by simp [okFun, e])
  · rw [nI_eq (by omega) (by decide)] at e
    refine j_iload_n c dX3_function_13 rfl ?_
    refine j_iconst c (nI 1) dX3_function_14 (by decide) ?_
    refine j_iconst c (nI 3) dX3_function_15 (by decide) ?_
    refine j_callS1 c kw_X3_68 (sp_in _ p (nI 1) (nI 3)) dX3_function_16 rfl rfl (by decide) (Nat.le_of_ble_eq_true rfl) ?_
    refine j_if_ne c 24 dX3_function_19 (by decide) (fun g => ?_) (fun g => ?_)
    · have g2 := bI_nz g
      have hok : okFun T p = true := by unfold okFun; rw [g2]; simp; omega
      simp only [Bool.and_eq_true, decide_eq_true_eq, Int32.le_iff_toInt_le, nI_toInt (show 1 < 2 ^ 31 by decide), nI_toInt (show 3 < 2 ^ 31 by decide)] at g2
      obtain ⟨k, hk, hk2, rfl⟩ := isN_of (x := p) (n := 4) (by unfold isN; simp; omega)
      rw [nI_toInt hk2] at g2
      have ht : tFun T (nI k) = nFun T k := by simp [tFun, hok, nI_clamp hk2]
      have ha : aFun T (nI k) = nI (tnf T) := by simp [aFun, hok]
      rw [ht, ha] at r
      refine j_aload_n c dX3_function_24 rfl ?_
      refine j_getR c fl_X3_22 dX3_function_25 (Nat.le_of_ble_eq_true rfl) rfl rfl ?_
      refine j_aload_n c dX3_function_28 rfl ?_
      refine j_getI c fl_X3_72 dX3_function_29 (Nat.le_of_ble_eq_true rfl) rfl rfl ?_
      rw [h6]
      refine j_iload_n c dX3_function_32 rfl ?_
      refine j_iast c dX3_function_33 (by first | exact (Nat.le_of_ble_eq_true rfl) | exact hp.lt (by decide)) (by first | exact lf1 hp | exact lf2 hp | exact lf3 hp | exact lf4 hp | exact lf5 hp | exact lf6 hp | rfl) rfl (by omega) (by decide) ?_
      refine j_iconst c (nI 0) dX3_function_34 (by decide) ?_
      refine j_istore_n c dX3_function_35 (Nat.le_of_ble_eq_true rfl) rfl ?_
      have key : ∀ m, m ≤ 12 → ∀ σ1 : Sg, (∀ q, q ≠ 55 → q ≠ 56 → σ1 q = s2 σ 50 0 (nI 0) q) → (∀ f, σ1 55 f = if f = tnf T then nI k else σ 55 f) → (∀ j, σ1 56 j = if 12 * tnf T ≤ j ∧ j < 12 * tnf T + m then -1 else σ 56 j) → J Γ 36 [some (.inr 50), some (.inl (nI k)), some (.inl (nI m))] [] σ1 := by
        refine loopN 12 ?_ ?_
        · intro σ1 h1 h2 h3
          refine j_iload_n c dX3_function_36 rfl ?_
          refine j_bipush c (nI 12) dX3_function_37 (by decide) ?_
          refine j_icmp_ge c 63 dX3_function_39 (by decide) (fun _ => ?_) (fun h => absurd (nI_le (Nat.le_refl _) (by decide)) h)
          refine j_aload_n c dX3_function_63 rfl ?_
          refine j_dup c dX3_function_64 ?_
          refine j_getI c fl_X3_72 dX3_function_65 (Nat.le_of_ble_eq_true rfl) rfl rfl ?_
          rw [h1 50 (by decide) (by decide), h6]
          refine j_iconst c (nI 1) dX3_function_68 (by decide) ?_
          refine j_iadd c _ dX3_function_69 (by first | exact nI_add _ _ | rfl) ?_
          refine j_putI c fl_X3_72 dX3_function_70 (Nat.le_of_ble_eq_true rfl) rfl rfl ?_
          refine j_aload_n c dX3_function_73 rfl ?_
          refine j_getI c fl_X3_72 dX3_function_74 (Nat.le_of_ble_eq_true rfl) rfl rfl ?_
          rw [s2_at]
          refine j_iconst c (nI 1) dX3_function_77 (by decide) ?_
          refine j_isub c _ dX3_function_78 (show nI (tnf T + 1) - nI 1 = nI (tnf T) from nI_pred (tnf T)) ?_
          refine j_iret c r dX3_function_79 rfl ⟨rfl, ?_, fun q hq => by rw [s2_np (by omega), h1 q (by omega) (by omega)]; exact fr0 q hq⟩
          refine InvM.fn hM0 hW (by omega) (fun q h5 h6 h7 => by rw [s2_np h5]; exact h1 q h6 h7) (fun j hj => by rw [s2_nk hj, h1 50 (by decide) (by decide)]) (s2_at _ _ _ _) (fun f => by rw [s2_np (by decide), h2 f, s2_np (by decide)]) (fun f m hm => ?_)
          rw [s2_np (by decide), h3, s2_np (by decide)]
          by_cases ef : f = tnf T
          · subst ef; rw [if_pos (by omega), if_pos rfl]
          · rw [if_neg (by omega), if_neg ef]
        · intro m hm ih σ1 h1 h2 h3
          refine j_iload_n c dX3_function_36 rfl ?_
          refine j_bipush c (nI 12) dX3_function_37 (by decide) ?_
          refine j_icmp_ge c 63 dX3_function_39 (by decide) (fun h => absurd h (nI_ge hm (by decide))) (fun _ => ?_)
          refine j_aload_n c dX3_function_42 rfl ?_
          refine j_getR c fl_X3_25 dX3_function_43 (Nat.le_of_ble_eq_true rfl) rfl rfl ?_
          refine j_bipush c (nI 12) dX3_function_46 (by decide) ?_
          refine j_aload_n c dX3_function_48 rfl ?_
          refine j_getI c fl_X3_72 dX3_function_49 (Nat.le_of_ble_eq_true rfl) rfl rfl ?_
          rw [h1 50 (by decide) (by decide), h6]
          refine j_imul c _ dX3_function_52 (by first | exact pk_mul _ _ | rfl) ?_
          refine j_iload_n c dX3_function_53 rfl ?_
          refine j_iadd c _ dX3_function_54 (by first | exact nI_add _ _ | rfl) ?_
          refine j_iconst c (-1) dX3_function_55 (by decide) ?_
          refine j_iast c dX3_function_56 (by first | exact (Nat.le_of_ble_eq_true rfl) | exact hp.lt (by decide)) (by first | exact lf1 hp | exact lf2 hp | exact lf3 hp | exact lf4 hp | exact lf5 hp | exact lf6 hp | rfl) rfl (by omega) (by decide) ?_
          refine j_iinc c _ dX3_function_57 rfl (by first | exact nI_1 _ | exact pk_m1 _ | rfl) rfl ?_
          refine j_goto c 36 dX3_function_60 (by decide) ?_
          refine ih _ (fun q h5 h6 => by rw [s2_np h6]; exact h1 q h5 h6) (fun f => by rw [s2_np (by decide)]; exact h2 f) (fun j => ?_)
          by_cases ej : j = 12 * tnf T + m
          · subst ej; rw [s2_at, if_pos (by omega)]
          · rw [s2_nk ej, h3 j]
            by_cases e2 : 12 * tnf T ≤ j ∧ j < 12 * tnf T + m
            · rw [if_pos e2, if_pos (by omega)]
            · rw [if_neg e2, if_neg (by omega)]
      refine key 0 (Nat.zero_le _) _ (fun q h5 h6 => by rw [s2_np h5]) (fun f => ?_) (fun j => by rw [s2_np (by decide), s2_np (by decide), if_neg (by omega)])
      by_cases ef : f = tnf T
      · subst ef; rw [s2_at, if_pos rfl]
      · rw [s2_nk ef, if_neg ef, s2_np (by decide)]
    · exact bad (by unfold okFun; rw [bI_z g]; simp)
/-- 'kept' -/
def aKept (T : TS) (f k : Int32) : Int32 := if isN f (tnf T) && isN k (tkp T f.toNatClampNeg).length then nI ((tkp T f.toNatClampNeg).getD k.toNatClampNeg 0) else -1
theorem sp_keptM {T : TS} {σ : Sg} (hM : InvM T none σ) (hW : WF T) (x k : Int32) : Sp yX3_kept cX3_kept 3 (some .int) 2 [.inr 50, .inl x, .inl k] σ (qM σ (aKept T x k)) := by
  have h4 := hW.2.2.2.1
  have hM0 := hM.keep (k0 σ (nI 0))
  refine Sp.intro rfl (Nat.le_of_ble_eq_true rfl) (fun Γ c r => ?_)
  show J Γ 0 [some (.inr 50), some (.inl x), some (.inl k)] [] σ
  refine j_aload_n c dX3_kept_0 rfl ?_
  refine j_iconst c (nI 0) dX3_kept_1 (by decide) ?_
  refine j_putI c fl_X3_65 dX3_kept_2 (Nat.le_of_ble_eq_true rfl) rfl rfl ?_
  refine j_aload_n c dX3_kept_5 rfl ?_
  refine j_iload_n c dX3_kept_6 rfl ?_
  refine j_callV1 c kw_X3_104 (sp_isFunction _ x (tnf T) hM0.2.2.2.2.2.1 h4) dX3_kept_7 rfl rfl (by decide) (Nat.le_of_ble_eq_true rfl) (Nat.le_of_ble_eq_true rfl) rfl rfl ?_
  refine j_if_eq c 43 dX3_kept_10 (by decide) (fun e => ?_) (fun e => ?_)
  · refine j_iconst c (-1) dX3_kept_43 (by decide) ?_
    exact j_iret c r dX3_kept_44 rfl ⟨by simp [aKept, bI_z e], k0 σ _⟩
  · have e2 := bI_nz e
    obtain ⟨i, hi, hi2, rfl⟩ := isN_of e2
    have hl := hW.kp i (by omega)
    have hr : aKept T (nI i) k = if isN k (tkp T i).length then nI ((tkp T i).getD k.toNatClampNeg 0) else -1 := by
      unfold aKept
      rw [e2, nI_clamp hi2]
      rfl
    rw [hr] at r
    refine j_iload_n c dX3_kept_13 rfl ?_
    refine j_iconst c (nI 0) dX3_kept_14 (by decide) ?_
    refine j_aload_n c dX3_kept_15 rfl ?_
    refine j_getR c fl_X3_37 dX3_kept_16 (Nat.le_of_ble_eq_true rfl) rfl rfl ?_
    refine j_iload_n c dX3_kept_19 rfl ?_
    refine j_iald c dX3_kept_20 (Nat.le_of_ble_eq_true rfl) rfl rfl (by omega) (by decide) ?_
    rw [hM0.2.2.2.2.2.2.2.2.2.2.1 i (by omega)]
    have hin : Sp yX3_in cX3_in 3 (some .boolean) 0 [.inl k, .inl (nI 0), .inl (nI (tkp T i).length - nI 1)] (s2 σ 50 0 (nI 0)) (rt (s2 σ 50 0 (nI 0)) (.inl (bI (isN k (tkp T i).length)))) := by
      by_cases h0 : (tkp T i).length = 0
      · rw [h0]
        have hs := sp_in (s2 σ 50 0 (nI 0)) k (nI 0) (nI 0 - nI 1)
        have e : (decide (nI 0 ≤ k) && decide (k ≤ nI 0 - nI 1)) = isN k 0 := by
          unfold isN
          simp only [Int32.le_iff_toInt_le, nI_toInt (show 0 < 2 ^ 31 by decide)]
          congr 1
          simp only [decide_eq_decide]
          have : (nI 0 - nI 1).toInt = -1 := by decide
          omega
        rw [e] at hs
        exact hs
      · rw [pk_sub (by omega)]
        exact sp_inN _ k _ (by omega) (by omega)
    refine j_iconst c (nI 1) dX3_kept_21 (by decide) ?_
    refine j_isub c _ dX3_kept_22 rfl ?_
    refine j_callS1 c kw_X3_68 (hin) dX3_kept_23 rfl rfl (by decide) (Nat.le_of_ble_eq_true rfl) ?_
    refine j_if_eq c 43 dX3_kept_26 (by decide) (fun g => ?_) (fun g => ?_)
    · refine j_iconst c (-1) dX3_kept_43 (by decide) ?_
      exact j_iret c r dX3_kept_44 rfl ⟨by simp [bI_z g], k0 σ _⟩
    · have g2 := bI_nz g
      obtain ⟨j, hj, hj2, rfl⟩ := isN_of g2
      have hg : (tkp T i)[j]? = some ((tkp T i).getD j 0) := by simp [hj]
      refine j_aload_n c dX3_kept_29 rfl ?_
      refine j_getR c fl_X3_34 dX3_kept_30 (Nat.le_of_ble_eq_true rfl) rfl rfl ?_
      refine j_bipush c (nI 6) dX3_kept_33 (by decide) ?_
      refine j_iload_n c dX3_kept_35 rfl ?_
      refine j_imul c _ dX3_kept_36 (by first | exact pk_mul _ _ | rfl) ?_
      refine j_iload_n c dX3_kept_37 rfl ?_
      refine j_iadd c _ dX3_kept_38 (by first | exact nI_add _ _ | rfl) ?_
      refine j_iald c dX3_kept_39 (Nat.le_of_ble_eq_true rfl) rfl rfl (by omega) (by decide) ?_
      rw [hM0.2.2.2.2.2.2.2.2.2.2.2.1 i j _ hi hg]
      refine j_goto c 44 dX3_kept_40 (by decide) ?_
      exact j_iret c r dX3_kept_44 rfl ⟨by rw [g2, nI_clamp hj2]; rfl, k0 σ _⟩
theorem sp_workM {T : TS} {σ : Sg} (hM : InvM T none σ) (hW : WF T) (hKd : KdOK T) (x y : Int32) : Sp yX3_work cX3_work 6 (some .int) 4 [.inr 50, .inl x, .inl y] σ (fun r σ' => keepM σ σ' ∧ σ' 50 0 = bI (!okWork T x y) ∧ ∃ v, r = some (.inl v) ∧ (okWork T x y = true → v = aWork T x.toNatClampNeg y.toNatClampNeg)) := by
  have h4 := hW.2.2.2.1
  have k22 : keepM σ (s2 σ 50 22 (nI 0)) := keepM.fld (Or.inr (Or.inl rfl))
  have hM0 := hM.keep k22
  refine Sp.intro rfl (Nat.le_of_ble_eq_true rfl) (fun Γ c r => ?_)
  show J Γ 0 [some (.inr 50), some (.inl x), some (.inl y), none, none, none] [] σ
  refine j_aload_n c dX3_work_0 rfl ?_
  refine j_iconst c (nI 0) dX3_work_1 (by decide) ?_
  refine j_putI c fl_X3_166 dX3_work_2 (Nat.le_of_ble_eq_true rfl) rfl rfl ?_
  refine j_aload_n c dX3_work_5 rfl ?_
  refine j_iload_n c dX3_work_6 rfl ?_
  refine j_iload_n c dX3_work_7 rfl ?_
  refine j_callV1 c kw_X3_114 (sp_isCall hM0 hW x y) dX3_work_8 rfl rfl (by decide) (Nat.le_of_ble_eq_true rfl) (Nat.le_of_ble_eq_true rfl) rfl rfl ?_
  refine j_if_eq c 20 dX3_work_11 (by decide) (fun e => ?_) (fun e => ?_)
  · have hok : okWork T x y = false := by simp [okWork, bI_z e]
    refine j_aload_n c dX3_work_20 rfl ?_
    refine j_aload_n c dX3_work_21 rfl ?_
    refine j_getI c fl_X3_166 dX3_work_22 (Nat.le_of_ble_eq_true rfl) rfl rfl ?_
    rw [s2_at]
    refine j_if_le c 32 dX3_work_25 (by decide) (fun _ => ?_) (fun h => absurd (by decide) h)
    refine j_iconst c (nI 1) dX3_work_32 (by decide) ?_
    refine j_putI c fl_X3_65 dX3_work_33 (Nat.le_of_ble_eq_true rfl) rfl rfl ?_
    refine j_iconst c (nI 0) dX3_work_36 (by decide) ?_
    refine j_istore_n c dX3_work_37 (Nat.le_of_ble_eq_true rfl) rfl ?_
    refine j_aload_n c dX3_work_38 rfl ?_
    refine j_getI c fl_X3_166 dX3_work_39 (Nat.le_of_ble_eq_true rfl) rfl rfl ?_
    rw [s2_nk (by decide), s2_at]
    refine j_iconst c (nI 1) dX3_work_42 (by decide) ?_
    refine j_isub c _ dX3_work_43 rfl ?_
    refine j_istore c dX3_work_44 (Nat.le_of_ble_eq_true rfl) rfl ?_
    refine j_iload c dX3_work_46 rfl ?_
    refine j_if_lt c 153 dX3_work_48 (by decide) (fun _ => ?_) (fun h => absurd (by decide) h)
    refine j_iload_n c dX3_work_153 rfl ?_
    exact j_iret c r dX3_work_154 rfl ⟨k22.trans (k0 _ _), by rw [s2_at, hok]; rfl, _, rfl, fun h => by rw [hok] at h; cases h⟩
  · have e2 := bI_nz e
    obtain ⟨i, q, hi, rfl, rfl, hv⟩ := isC_of h4 e2
    have hq := vcall_lt hv (hW.2.2.2.2.1 i hi).2
    have hlen : (tch T i q).length ≤ 12 := chn_len
    refine j_aload_n c dX3_work_14 rfl ?_
    refine j_iload_n c dX3_work_15 rfl ?_
    refine j_iload_n c dX3_work_16 rfl ?_
    refine j_callV c kw_X3_169 (sp_laysChain hM0 hW hi hv) dX3_work_17 rfl rfl (by decide) (Nat.le_of_ble_eq_true rfl) (Nat.le_of_ble_eq_true rfl) rfl rfl ?_
    rintro _ σ1 ⟨rfl, hk, -, h22, h64, -⟩
    have hok : okWork T (nI i) (nI q) = !(tch T i q).isEmpty := by
      unfold okWork
      rw [e2, nI_clamp (n := i) (by omega), nI_clamp (n := q) (by omega)]
      rfl
    have hkk : keepM σ σ1 := k22.trans hk
    have loop : ∀ (b : Int32), b = bI (!okWork T (nI i) (nI q)) → J Γ 33 [some (.inr 50), some (.inl (nI i)), some (.inl (nI q)), none, none, none] [.inl b, .inr 50] σ1 := by
      intro b hb
      have hkb : keepM σ (s2 σ1 50 0 b) := hkk.trans (k0 _ _)
      have hMb := hM.keep hkb
      have h64b : ∀ j m, (tch T i q)[j]? = some m → s2 σ1 50 0 b 64 j = nI m := fun j m h => by rw [s2_np (by decide)]; exact h64 j m h
      refine j_putI c fl_X3_65 dX3_work_33 (Nat.le_of_ble_eq_true rfl) rfl rfl ?_
      refine j_iconst c (nI 0) dX3_work_36 (by decide) ?_
      refine j_istore_n c dX3_work_37 (Nat.le_of_ble_eq_true rfl) rfl ?_
      refine j_aload_n c dX3_work_38 rfl ?_
      refine j_getI c fl_X3_166 dX3_work_39 (Nat.le_of_ble_eq_true rfl) rfl rfl ?_
      rw [s2_nk (by decide), h22]
      have back : ∀ n, n ≤ (tch T i q).length → ∀ u : Option PV, J Γ 46 [some (.inr 50), some (.inl (nI i)), some (.inl (nI q)), some (.inl (wrk (tkd T i) (tvl T i) ((tch T i q).drop n))), some (.inl (nI n - nI 1)), u] [] (s2 σ1 50 0 b) := by
        intro n
        induction n with
        | zero =>
          intro _ u
          refine j_iload c dX3_work_46 rfl ?_
          refine j_if_lt c 153 dX3_work_48 (by decide) (fun _ => ?_) (fun h => absurd (by decide) h)
          refine j_iload_n c dX3_work_153 rfl ?_
          refine j_iret c r dX3_work_154 rfl ⟨hkb, by rw [s2_at]; exact hb, _, rfl, fun _ => ?_⟩
          rw [nI_clamp (n := i) (by omega), nI_clamp (n := q) (by omega), List.drop_zero]
          rfl
        | succ n ih =>
          intro hn u
          rw [show nI (n + 1) - nI 1 = nI n from nI_pred n]
          have hgn : (tch T i q)[n]? = some ((tch T i q)[n]'(by omega)) := List.getElem?_eq_getElem (by omega)
          obtain ⟨m, hm⟩ : ∃ m, m = (tch T i q)[n]'(by omega) := ⟨_, rfl⟩
          rw [← hm] at hgn
          have hdrop : (tch T i q).drop n = m :: (tch T i q).drop (n + 1) := by rw [List.drop_eq_getElem_cons (by omega), hm]
          have hmm := chn_mem (List.mem_of_getElem? hgn)
          have hm12 := appB_12 hW hi hmm.2
          obtain ⟨t, ht, _⟩ := appB_some hmm.2
          obtain ⟨kj, hkj, hkd⟩ := hKd i m t hi ht
          have h57 := (hMb.2.2.2.2.2.2.2.2.1 i m (by omega) hm12).1
          have h58 := (hMb.2.2.2.2.2.2.2.2.1 i m (by omega) hm12).2
          have fin : ∀ u : Option PV, J Γ 147 [some (.inr 50), some (.inl (nI i)), some (.inl (nI q)), some (.inl (wrk (tkd T i) (tvl T i) ((tch T i q).drop n))), some (.inl (nI n)), u] [] (s2 σ1 50 0 b) := by
            intro u
            refine j_iinc c _ dX3_work_147 rfl (show nI n + Int32.ofInt (-1) = nI n - nI 1 from (Int32.sub_eq_add_neg (a := nI n) (b := nI 1)).symm) rfl ?_
            refine j_goto c 46 dX3_work_150 (by decide) ?_
            exact ih (by omega) u
          rw [hdrop] at fin
          refine j_iload c dX3_work_46 rfl ?_
          refine j_if_lt c 153 dX3_work_48 (by decide) (fun h => absurd h (nI_pos (by omega))) (fun _ => ?_)
          refine j_aload_n c dX3_work_51 rfl ?_
          refine j_getR c fl_X3_31 dX3_work_52 (Nat.le_of_ble_eq_true rfl) rfl rfl ?_
          refine j_bipush c (nI 12) dX3_work_55 (by decide) ?_
          refine j_iload_n c dX3_work_57 rfl ?_
          refine j_imul c _ dX3_work_58 (by first | exact pk_mul _ _ | rfl) ?_
          refine j_aload_n c dX3_work_59 rfl ?_
          refine j_getR c fl_X3_53 dX3_work_60 (Nat.le_of_ble_eq_true rfl) rfl rfl ?_
          refine j_iload c dX3_work_63 rfl ?_
          refine j_iald c dX3_work_65 (Nat.le_of_ble_eq_true rfl) rfl rfl (by omega) (by decide) ?_
          rw [h64b n m hgn]
          refine j_iadd c _ dX3_work_66 (by first | exact nI_add _ _ | rfl) ?_
          refine j_iald c dX3_work_67 (by first | exact (Nat.le_of_ble_eq_true rfl) | exact hp.lt (by decide)) (by first | exact lf1 hp | exact lf2 hp | exact lf3 hp | exact lf4 hp | exact lf5 hp | exact lf6 hp | rfl) rfl (by omega) (by decide) ?_
          rw [h58]
          refine j_istore c dX3_work_68 (Nat.le_of_ble_eq_true rfl) rfl ?_
          refine j_aload_n c dX3_work_70 rfl ?_
          refine j_getR c fl_X3_28 dX3_work_71 (Nat.le_of_ble_eq_true rfl) rfl rfl ?_
          refine j_bipush c (nI 12) dX3_work_74 (by decide) ?_
          refine j_iload_n c dX3_work_76 rfl ?_
          refine j_imul c _ dX3_work_77 (by first | exact pk_mul _ _ | rfl) ?_
          refine j_aload_n c dX3_work_78 rfl ?_
          refine j_getR c fl_X3_53 dX3_work_79 (Nat.le_of_ble_eq_true rfl) rfl rfl ?_
          refine j_iload c dX3_work_82 rfl ?_
          refine j_iald c dX3_work_84 (Nat.le_of_ble_eq_true rfl) rfl rfl (by omega) (by decide) ?_
          rw [h64b n m hgn]
          refine j_iadd c _ dX3_work_85 (by first | exact nI_add _ _ | rfl) ?_
          refine j_iald c dX3_work_86 (by first | exact (Nat.le_of_ble_eq_true rfl) | exact hp.lt (by decide)) (by first | exact lf1 hp | exact lf2 hp | exact lf3 hp | exact lf4 hp | exact lf5 hp | exact lf6 hp | rfl) rfl (by omega) (by decide) ?_
          rw [h57, hkd]
          have hwv : ∀ z, wv (tkd T i m) (tvl T i m) (wrk (tkd T i) (tvl T i) ((tch T i q).drop (n + 1))) = z → wrk (tkd T i) (tvl T i) (m :: (tch T i q).drop (n + 1)) = z := fun z h => h
          rcases (show kj = 0 ∨ kj = 1 ∨ kj = 2 ∨ kj = 3 by omega) with rfl | rfl | rfl | rfl
          · rw [hwv (tvl T i m) (by rw [hkd]; rfl)] at fin
            refine j_tableIn (off := 25) c 112 dX3_work_87 (by decide) (by decide) (by decide) (by decide) ?_
            refine j_iload c dX3_work_112 rfl ?_
            refine j_istore_n c dX3_work_114 (Nat.le_of_ble_eq_true rfl) rfl ?_
            refine j_goto c 147 dX3_work_115 (by decide) ?_
            exact fin _
          · rw [hwv (tvl T i m + wrk (tkd T i) (tvl T i) ((tch T i q).drop (n + 1))) (by rw [hkd]; rfl)] at fin
            refine j_tableIn (off := 31) c 118 dX3_work_87 (by decide) (by decide) (by decide) (by decide) ?_
            refine j_iload c dX3_work_118 rfl ?_
            refine j_iload_n c dX3_work_120 rfl ?_
            refine j_iadd c _ dX3_work_121 rfl ?_
            refine j_istore_n c dX3_work_122 (Nat.le_of_ble_eq_true rfl) rfl ?_
            refine j_goto c 147 dX3_work_123 (by decide) ?_
            exact fin _
          · rw [hwv (tvl T i m * wrk (tkd T i) (tvl T i) ((tch T i q).drop (n + 1))) (by rw [hkd]; rfl)] at fin
            refine j_tableIn (off := 39) c 126 dX3_work_87 (by decide) (by decide) (by decide) (by decide) ?_
            refine j_iload c dX3_work_126 rfl ?_
            refine j_iload_n c dX3_work_128 rfl ?_
            refine j_imul c _ dX3_work_129 rfl ?_
            refine j_istore_n c dX3_work_130 (Nat.le_of_ble_eq_true rfl) rfl ?_
            refine j_goto c 147 dX3_work_131 (by decide) ?_
            exact fin _
          · refine j_tableOut c 134 dX3_work_87 (by right; decide) (by decide) ?_
            refine j_iload c dX3_work_134 rfl ?_
            refine j_iload_n c dX3_work_136 rfl ?_
            refine j_icmp_le c 145 dX3_work_137 (by decide) (fun g => ?_) (fun g => ?_)
            · rw [hwv (wrk (tkd T i) (tvl T i) ((tch T i q).drop (n + 1))) (by rw [hkd]; show (if _ < _ then _ else _) = _; rw [if_neg (Int32.not_lt.mpr g)])] at fin
              refine j_iload_n c dX3_work_145 rfl ?_
              refine j_istore_n c dX3_work_146 (Nat.le_of_ble_eq_true rfl) rfl ?_
              exact fin _
            · rw [hwv (tvl T i m) (by rw [hkd]; show (if _ < _ then _ else _) = _; rw [if_pos (Int32.not_le.mp g)])] at fin
              refine j_iload c dX3_work_140 rfl ?_
              refine j_goto c 146 dX3_work_142 (by decide) ?_
              refine j_istore_n c dX3_work_146 (Nat.le_of_ble_eq_true rfl) rfl ?_
              exact fin _
      have b0 := back (tch T i q).length (Nat.le_refl _) none
      rw [List.drop_length] at b0
      refine j_iconst c (nI 1) dX3_work_42 (by decide) ?_
      refine j_isub c _ dX3_work_43 rfl ?_
      refine j_istore c dX3_work_44 (Nat.le_of_ble_eq_true rfl) rfl ?_
      exact b0
    refine j_aload_n c dX3_work_20 rfl ?_
    refine j_aload_n c dX3_work_21 rfl ?_
    refine j_getI c fl_X3_166 dX3_work_22 (Nat.le_of_ble_eq_true rfl) rfl rfl ?_
    rw [h22]
    by_cases h0 : (tch T i q).length = 0
    · rw [h0]
      refine j_if_le c 32 dX3_work_25 (by decide) (fun _ => ?_) (fun h => absurd (by decide) h)
      refine j_iconst c (nI 1) dX3_work_32 (by decide) ?_
      exact loop _ (by rw [hok, List.isEmpty_iff_length_eq_zero.mpr h0]; rfl)
    · refine j_if_le c 32 dX3_work_25 (by decide) (fun h => absurd h (nI_nle (by omega) (by omega))) (fun _ => ?_)
      refine j_iconst c (nI 0) dX3_work_28 (by decide) ?_
      refine j_goto c 33 dX3_work_29 (by decide) ?_
      refine loop _ ?_
      rw [hok]
      cases ec : tch T i q with
      | nil => rw [ec] at h0; simp at h0
      | cons a l => rfl
