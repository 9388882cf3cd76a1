-- ===== 20i: the class: calls, chains, counts over calls =====
theorem InvX.keep {T : TS} {σ σ' : Sg} (hX : InvX T σ) (h4 : tnf T ≤ 4) (hq : ∀ q, q ≠ 0 → q ≠ 12 → q ≠ 14 → q < 43 ∨ 49 < q → σ' q = σ q) (h0 : ∀ j, j ≠ 8 → σ' 0 j = σ 0 j) : InvX T σ' := by
  obtain ⟨b1, b2, b3, b4, b5, b6, b7, b8, b9, b10⟩ := hX
  refine ⟨b1.keep (fun q x1 x2 => hq q (by omega) (by omega) (by omega) (by omega)), by rw [h0 3 (by decide)]; exact b2, by rw [h0 4 (by decide)]; exact b3, by rw [h0 5 (by decide)]; exact b4, by rw [h0 6 (by decide)]; exact b5, fun g hg => ?_, fun g x1 x2 => ?_, fun g hg => ?_, fun g m t hg ht => ?_, ?_⟩
  · exact (b6 g hg).keep (by rw [hq _ (by omega) (by omega) (by omega) (by omega)]) (by rw [hq _ (by omega) (by omega) (by omega) (by omega)]) (hq _ (by omega) (by omega) (by omega) (by omega)) (hq _ (by omega) (by omega) (by omega) (by omega)) (hq _ (by omega) (by omega) (by omega) (by omega))
  · rw [hq _ (by omega) (by omega) (by omega) (by omega), hq (15 + 7 * g + 5) (by omega) (by omega) (by omega) (by omega)]; exact b7 g x1 x2
  · exact (b8 g hg).keep (by rw [hq _ (by omega) (by omega) (by omega) (by omega)]) (hq _ (by omega) (by omega) (by omega) (by omega))
  · rw [hq _ (by omega) (by omega) (by omega) (by omega), hq (15 + 7 * g + 3) (by omega) (by omega) (by omega) (by omega)]; exact b9 g m t hg ht
  · rw [h0 10 (by decide), hq 13 (by decide) (by decide) (by decide) (by decide)]; exact b10
theorem filP.fr {T : TS} {f : Nat} {σ σ' : Sg} (h : filP T f σ σ') : frXo σ σ' := fun q hq => h.2.1 q (by omega) (by omega)
theorem row_a {T : TS} {f b : Nat} {a : Int32} (ha : a ≠ -3) (c : Nat) : decide (rowA T f none b c = a) = (vcall (tn T) (tpl T f) c && decide (ansI (tls T) (ttg T f) b c = a)) := by
  unfold rowA
  by_cases h : vcall (tn T) (tpl T f) c = true
  · rw [if_pos h, h]; rfl
  · rw [if_neg h]
    have : vcall (tn T) (tpl T f) c = false := by simpa using h
    rw [this]
    simp [Ne.symm ha]
theorem row_cnt {T : TS} (hW : WF T) {f b : Nat} {a : Int32} (hf : f < tnf T) (ha : a ≠ -3) : cnt (fun c => decide (rowA T f none b c = a)) (16 ^ tpl T f) = cnt (fun i => decide (ansI (tls T) (ttg T f) b (ci (tn T) i) = a)) (tn T ^ tpl T f) := by
  rw [← cnt_all hW.1.1 hW.1.2 (hW.2.2.2.2.1 f hf) (fun c => decide (ansI (tls T) (ttg T f) b c = a))]
  exact cnt_congr (fun c _ => row_a ha c)
theorem sp_callsAnswered {T : TS} {σ : Sg} (hX : InvX T σ) (hW : WF T) {f : Nat} (hf : f < tnf T) (a : Int32) (ha : a ≠ -3) : Sp yX2_callsAnswered cX2_callsAnswered 7 (some .int) 5 [.inr 0, .inl (nI f), .inl a] σ (fun r σ' => r = some (.inl (nI (cnt (fun c => decide (rowA T f none (tru T) c = a)) (16 ^ tpl T f)))) ∧ filP T f σ σ') := by
  have h4 := hW.2.2.2.1
  have hn := hW.1
  have hpl := hW.2.2.2.2.1 f hf
  have hp : FnP (15 + 7 * f) := FnP.of (by omega)
  have hN := npow_b hn.2 hpl.2
  rw [row_cnt hW hf ha]
  refine Sp.intro rfl (Nat.le_of_ble_eq_true rfl) (fun Γ c r => ?_)
  show J Γ 0 [some (.inr 0), some (.inl (nI f)), some (.inl a), none, none, none, none] [] σ
  refine j_aload_n c dX2_callsAnswered_0 rfl ?_
  refine j_iload_n c dX2_callsAnswered_1 rfl ?_
  refine j_callV c kw_X2_212 (sp_fillAnswers hX hW hf) dX2_callsAnswered_2 rfl rfl (by decide) (Nat.le_of_ble_eq_true rfl) (Nat.le_of_ble_eq_true rfl) rfl rfl ?_
  rintro _ σ1 ⟨rfl, hP⟩
  have hX1 := hP.1
  have hans := hP.2.2.2
  refine j_iconst c (nI 0) dX2_callsAnswered_5 (by decide) ?_
  refine j_istore_n c dX2_callsAnswered_6 (Nat.le_of_ble_eq_true rfl) rfl ?_
  refine j_aload_n c dX2_callsAnswered_7 rfl ?_
  refine j_aload_n c dX2_callsAnswered_8 rfl ?_
  refine j_getR c fl_X2_18 dX2_callsAnswered_9 (Nat.le_of_ble_eq_true rfl) rfl rfl ?_
  refine j_iload_n c dX2_callsAnswered_12 rfl ?_
  refine j_aald c dX2_callsAnswered_13 (Nat.le_of_ble_eq_true rfl) rfl rfl (by omega) (by decide) ?_
  refine j_callV1 c kw_X2_147 (sp_callCount hp (hX1.2.2.2.2.2.1 f hf).1 hX1.1.1 hpl.2) dX2_callsAnswered_14 rfl rfl (by decide) (Nat.le_of_ble_eq_true rfl) (Nat.le_of_ble_eq_true rfl) rfl rfl ?_
  refine j_istore c dX2_callsAnswered_17 (Nat.le_of_ble_eq_true rfl) rfl ?_
  refine j_iconst c (nI 0) dX2_callsAnswered_19 (by decide) ?_
  refine j_istore c dX2_callsAnswered_20 (Nat.le_of_ble_eq_true rfl) rfl ?_
  refine j_iconst c (nI 0) dX2_callsAnswered_22 (by decide) ?_
  refine j_istore c dX2_callsAnswered_23 (Nat.le_of_ble_eq_true rfl) rfl ?_
  have key : ∀ i, i ≤ tn T ^ tpl T f → J Γ 25 [some (.inr 0), some (.inl (nI f)), some (.inl a), some (.inl (nI (cnt (fun i => decide (ansI (tls T) (ttg T f) (tru T) (ci (tn T) i) = a)) i))), some (.inl (nI (tn T ^ tpl T f))), some (.inl (nI i)), some (.inl (nI (ci (tn T) i)))] [] σ1 := by
    refine loopN _ ?_ ?_
    · refine j_iload c dX2_callsAnswered_25 rfl ?_
      refine j_iload c dX2_callsAnswered_27 rfl ?_
      refine j_icmp_ge c 63 dX2_callsAnswered_29 (by decide) (fun _ => ?_) (fun h_9 => absurd (nI_le (Nat.le_refl _) (by omega)) h_9)
      refine j_iload_n c dX2_callsAnswered_63 rfl ?_
      exact j_iret c r dX2_callsAnswered_64 rfl ⟨rfl, hP⟩
    · intro i hi ih
      have hi3 := npow_lt hn.1 hpl.2 hi
      have hv := ci_v hn.1 hn.2 hpl hi
      have hcl := ci_lt hn.1 hn.2 hi3
      refine j_iload c dX2_callsAnswered_25 rfl ?_
      refine j_iload c dX2_callsAnswered_27 rfl ?_
      refine j_icmp_ge c 63 dX2_callsAnswered_29 (by decide) (fun h_9 => absurd h_9 (nI_ge hi (by omega))) (fun _ => ?_)
      refine j_aload_n c dX2_callsAnswered_32 rfl ?_
      refine j_getR c fl_X2_47 dX2_callsAnswered_33 (Nat.le_of_ble_eq_true rfl) rfl rfl ?_
      refine j_iload c dX2_callsAnswered_36 rfl ?_
      refine j_iald c dX2_callsAnswered_38 (Nat.le_of_ble_eq_true rfl) rfl rfl (by omega) (by decide) ?_
      rw [hans _ hv]
      refine j_iload_n c dX2_callsAnswered_39 rfl ?_
      refine j_icmp_ne c 46 dX2_callsAnswered_40 (by decide) (fun e => ?_) (fun e => ?_)
      · have e1 : cnt (fun i => decide (ansI (tls T) (ttg T f) (tru T) (ci (tn T) i) = a)) (i + 1) = cnt (fun i => decide (ansI (tls T) (ttg T f) (tru T) (ci (tn T) i) = a)) i := by simp [cnt, e]
        rw [e1] at ih
        refine j_iinc c _ dX2_callsAnswered_46 rfl (by first | exact nI_1 _ | exact pk_m1 _ | rfl) rfl ?_
        refine j_aload_n c dX2_callsAnswered_49 rfl ?_
        refine j_getR c fl_X2_12 dX2_callsAnswered_50 (Nat.le_of_ble_eq_true rfl) rfl rfl ?_
        refine j_iload c dX2_callsAnswered_53 rfl ?_
        refine j_callV1 c kw_X2_209 (sp_next hX1.1.1 hn.1 hn.2 hi3) dX2_callsAnswered_55 rfl rfl (by decide) (Nat.le_of_ble_eq_true rfl) (Nat.le_of_ble_eq_true rfl) rfl rfl ?_
        refine j_istore c dX2_callsAnswered_58 (Nat.le_of_ble_eq_true rfl) rfl ?_
        refine j_goto c 25 dX2_callsAnswered_60 (by decide) ?_
        exact ih
      · have e1 : cnt (fun i => decide (ansI (tls T) (ttg T f) (tru T) (ci (tn T) i) = a)) (i + 1) = cnt (fun i => decide (ansI (tls T) (ttg T f) (tru T) (ci (tn T) i) = a)) i + 1 := by simp [cnt, e]
        rw [e1] at ih
        refine j_iinc c _ dX2_callsAnswered_43 rfl (by first | exact nI_1 _ | exact pk_m1 _ | rfl) rfl ?_
        refine j_iinc c _ dX2_callsAnswered_46 rfl (by first | exact nI_1 _ | exact pk_m1 _ | rfl) rfl ?_
        refine j_aload_n c dX2_callsAnswered_49 rfl ?_
        refine j_getR c fl_X2_12 dX2_callsAnswered_50 (Nat.le_of_ble_eq_true rfl) rfl rfl ?_
        refine j_iload c dX2_callsAnswered_53 rfl ?_
        refine j_callV1 c kw_X2_209 (sp_next hX1.1.1 hn.1 hn.2 hi3) dX2_callsAnswered_55 rfl rfl (by decide) (Nat.le_of_ble_eq_true rfl) (Nat.le_of_ble_eq_true rfl) rfl rfl ?_
        refine j_istore c dX2_callsAnswered_58 (Nat.le_of_ble_eq_true rfl) rfl ?_
        refine j_goto c 25 dX2_callsAnswered_60 (by decide) ?_
        exact ih
  have k0 := key 0 (Nat.zero_le _)
  rw [ci_0] at k0
  exact k0
theorem sp_callsTaken {T : TS} {σ : Sg} (hX : InvX T σ) (hW : WF T) {f m : Nat} (hf : f < tnf T) (hm : m < 12) : Sp yX2_callsTaken cX2_callsTaken 7 (some .int) 2 [.inr 0, .inr (15 + 7 * f), .inl (nI m)] σ (rt σ (.inl (nI (cnt (fun c => vcall (tn T) (tpl T f) c && appB (tls T) (ttg T f) c m) (16 ^ tpl T f))))) := by
  have h4 := hW.2.2.2.1
  have hn := hW.1
  have hpl := hW.2.2.2.2.1 f hf
  have hp : FnP (15 + 7 * f) := FnP.of (by omega)
  have hN := npow_b hn.2 hpl.2
  have hF := hX.2.2.2.2.2.1 f hf
  rw [cnt_all hn.1 hn.2 hpl (fun c => appB (tls T) (ttg T f) c m)]
  refine Sp.intro rfl (Nat.le_of_ble_eq_true rfl) (fun Γ c r => ?_)
  show J Γ 0 [some (.inr 0), some (.inr (15 + 7 * f)), some (.inl (nI m)), none, none, none, none] [] σ
  refine j_iconst c (nI 0) dX2_callsTaken_0 (by decide) ?_
  refine j_istore_n c dX2_callsTaken_1 (Nat.le_of_ble_eq_true rfl) rfl ?_
  refine j_aload_n c dX2_callsTaken_2 rfl ?_
  refine j_aload_n c dX2_callsTaken_3 rfl ?_
  refine j_callV1 c kw_X2_147 (sp_callCount hp hF.1 hX.1.1 hpl.2) dX2_callsTaken_4 rfl rfl (by decide) (Nat.le_of_ble_eq_true rfl) (Nat.le_of_ble_eq_true rfl) rfl rfl ?_
  refine j_istore c dX2_callsTaken_7 (Nat.le_of_ble_eq_true rfl) rfl ?_
  refine j_iconst c (nI 0) dX2_callsTaken_9 (by decide) ?_
  refine j_istore c dX2_callsTaken_10 (Nat.le_of_ble_eq_true rfl) rfl ?_
  refine j_iconst c (nI 0) dX2_callsTaken_12 (by decide) ?_
  refine j_istore c dX2_callsTaken_13 (Nat.le_of_ble_eq_true rfl) rfl ?_
  have key : ∀ i, i ≤ tn T ^ tpl T f → J Γ 15 [some (.inr 0), some (.inr (15 + 7 * f)), some (.inl (nI m)), some (.inl (nI (cnt (fun i => appB (tls T) (ttg T f) (ci (tn T) i) m) i))), some (.inl (nI (tn T ^ tpl T f))), some (.inl (nI i)), some (.inl (nI (ci (tn T) i)))] [] σ := by
    refine loopN _ ?_ ?_
    · refine j_iload c dX2_callsTaken_15 rfl ?_
      refine j_iload c dX2_callsTaken_17 rfl ?_
      refine j_icmp_ge c 52 dX2_callsTaken_19 (by decide) (fun _ => ?_) (fun h_9 => absurd (nI_le (Nat.le_refl _) (by omega)) h_9)
      refine j_iload_n c dX2_callsTaken_52 rfl ?_
      exact j_iret c r dX2_callsTaken_53 rfl ⟨rfl, rfl⟩
    · intro i hi ih
      have hi3 := npow_lt hn.1 hpl.2 hi
      have hcl := ci_lt hn.1 hn.2 hi3
      refine j_iload c dX2_callsTaken_15 rfl ?_
      refine j_iload c dX2_callsTaken_17 rfl ?_
      refine j_icmp_ge c 52 dX2_callsTaken_19 (by decide) (fun h_9 => absurd h_9 (nI_ge hi (by omega))) (fun _ => ?_)
      refine j_iload_n c dX2_callsTaken_22 rfl ?_
      refine j_aload_n c dX2_callsTaken_23 rfl ?_
      refine j_iload c dX2_callsTaken_24 rfl ?_
      refine j_callV1 c kw_X2_186 (sp_thatApply hp hn.2 hF.2.2.2.1 hcl.1 hcl.2.1 hcl.2.2.1 hcl.2.2.2) dX2_callsTaken_26 rfl rfl (by decide) (Nat.le_of_ble_eq_true rfl) hp.lt0 (lf0 hp) rfl ?_
      refine j_iload_n c dX2_callsTaken_29 rfl ?_
      refine j_ishr c _ dX2_callsTaken_30 rfl ?_
      refine j_iconst c (nI 1) dX2_callsTaken_31 (by decide) ?_
      refine j_iand c _ dX2_callsTaken_32 (bt_shr _ (by omega)) ?_
      rw [bt_app]
      refine j_iadd c _ dX2_callsTaken_33 (cnt_step (P := fun i => appB (tls T) (ttg T f) (ci (tn T) i) m) _ rfl) ?_
      refine j_istore_n c dX2_callsTaken_34 (Nat.le_of_ble_eq_true rfl) rfl ?_
      refine j_iinc c _ dX2_callsTaken_35 rfl (by first | exact nI_1 _ | exact pk_m1 _ | rfl) rfl ?_
      refine j_aload_n c dX2_callsTaken_38 rfl ?_
      refine j_getR c fl_X2_12 dX2_callsTaken_39 (Nat.le_of_ble_eq_true rfl) rfl rfl ?_
      refine j_iload c dX2_callsTaken_42 rfl ?_
      refine j_callV1 c kw_X2_209 (sp_next hX.1.1 hn.1 hn.2 hi3) dX2_callsTaken_44 rfl rfl (by decide) (Nat.le_of_ble_eq_true rfl) (Nat.le_of_ble_eq_true rfl) rfl rfl ?_
      refine j_istore c dX2_callsTaken_47 (Nat.le_of_ble_eq_true rfl) rfl ?_
      refine j_goto c 15 dX2_callsTaken_49 (by decide) ?_
      exact ih
  have k0 := key 0 (Nat.zero_le _)
  rw [ci_0] at k0
  exact k0
theorem app_g {ls : Nat → List Nat} {g : Nat → Option Nat} {c : Nat} : ∀ m, m < 13 → appB ls g c m = true → ∃ t, g m = some t := fun m _ h => by
  obtain ⟨t, e, _⟩ := appB_some h
  exact ⟨t, e⟩
theorem sp_ambiguousCalls {T : TS} {σ : Sg} (hX : InvX T σ) (hW : WF T) {f : Nat} (hf : f < tnf T) : Sp yX2_ambiguousCalls cX2_ambiguousCalls 6 (some .int) 2 [.inr 0, .inr (15 + 7 * f)] σ (rt σ (.inl (nI (cnt (fun c => decide (rowA T f none 0 c = -2)) (16 ^ tpl T f))))) := by
  have h4 := hW.2.2.2.1
  have hn := hW.1
  have hpl := hW.2.2.2.2.1 f hf
  have hp : FnP (15 + 7 * f) := FnP.of (by omega)
  have hN := npow_b hn.2 hpl.2
  have hF := hX.2.2.2.2.2.1 f hf
  have hG := GOK.of hW hf
  rw [row_cnt hW hf (by decide)]
  refine Sp.intro rfl (Nat.le_of_ble_eq_true rfl) (fun Γ c r => ?_)
  show J Γ 0 [some (.inr 0), some (.inr (15 + 7 * f)), none, none, none, none] [] σ
  refine j_iconst c (nI 0) dX2_ambiguousCalls_0 (by decide) ?_
  refine j_istore_n c dX2_ambiguousCalls_1 (Nat.le_of_ble_eq_true rfl) rfl ?_
  refine j_aload_n c dX2_ambiguousCalls_2 rfl ?_
  refine j_aload_n c dX2_ambiguousCalls_3 rfl ?_
  refine j_callV1 c kw_X2_147 (sp_callCount hp hF.1 hX.1.1 hpl.2) dX2_ambiguousCalls_4 rfl rfl (by decide) (Nat.le_of_ble_eq_true rfl) (Nat.le_of_ble_eq_true rfl) rfl rfl ?_
  refine j_istore_n c dX2_ambiguousCalls_7 (Nat.le_of_ble_eq_true rfl) rfl ?_
  refine j_iconst c (nI 0) dX2_ambiguousCalls_8 (by decide) ?_
  refine j_istore c dX2_ambiguousCalls_9 (Nat.le_of_ble_eq_true rfl) rfl ?_
  refine j_iconst c (nI 0) dX2_ambiguousCalls_11 (by decide) ?_
  refine j_istore c dX2_ambiguousCalls_12 (Nat.le_of_ble_eq_true rfl) rfl ?_
  have key : ∀ i, i ≤ tn T ^ tpl T f → J Γ 14 [some (.inr 0), some (.inr (15 + 7 * f)), some (.inl (nI (cnt (fun i => decide (ansI (tls T) (ttg T f) 0 (ci (tn T) i) = -2)) i))), some (.inl (nI (tn T ^ tpl T f))), some (.inl (nI i)), some (.inl (nI (ci (tn T) i)))] [] σ := by
    refine loopN _ ?_ ?_
    · refine j_iload c dX2_ambiguousCalls_14 rfl ?_
      refine j_iload_n c dX2_ambiguousCalls_16 rfl ?_
      refine j_icmp_ge c 55 dX2_ambiguousCalls_17 (by decide) (fun _ => ?_) (fun h_9 => absurd (nI_le (Nat.le_refl _) (by omega)) h_9)
      refine j_iload_n c dX2_ambiguousCalls_55 rfl ?_
      exact j_iret c r dX2_ambiguousCalls_56 rfl ⟨rfl, rfl⟩
    · intro i hi ih
      have hi3 := npow_lt hn.1 hpl.2 hi
      have hcl := ci_lt hn.1 hn.2 hi3
      refine j_iload c dX2_ambiguousCalls_14 rfl ?_
      refine j_iload_n c dX2_ambiguousCalls_16 rfl ?_
      refine j_icmp_ge c 55 dX2_ambiguousCalls_17 (by decide) (fun h_9 => absurd h_9 (nI_ge hi (by omega))) (fun _ => ?_)
      refine j_aload_n c dX2_ambiguousCalls_20 rfl ?_
      refine j_aload_n c dX2_ambiguousCalls_21 rfl ?_
      refine j_iload c dX2_ambiguousCalls_22 rfl ?_
      refine j_callV1 c kw_X2_186 (sp_thatApply hp hn.2 hF.2.2.2.1 hcl.1 hcl.2.1 hcl.2.2.1 hcl.2.2.2) dX2_ambiguousCalls_24 rfl rfl (by decide) (Nat.le_of_ble_eq_true rfl) hp.lt0 (lf0 hp) rfl ?_
      refine j_callV1 c kw_X2_222 (sp_leastOf hp hG hF.2.2.2.2 _ (appB (tls T) (ttg T f) (ci (tn T) i)) app13 app_g (ci (tn T) i)) dX2_ambiguousCalls_27 rfl rfl (by decide) (Nat.le_of_ble_eq_true rfl) hp.lt0 (lf0 hp) rfl ?_
      refine j_bipush c (-2) dX2_ambiguousCalls_30 (by decide) ?_
      have hv : fstI (appB (tls T) (ttg T f) (ci (tn T) i)) (befB (tls T) (ttg T f) 0 (ci (tn T) i)) = ansI (tls T) (ttg T f) 0 (ci (tn T) i) := rfl
      rw [hv]
      refine j_icmp_ne c 38 dX2_ambiguousCalls_32 (by decide) (fun e => ?_) (fun e => ?_)
      · have e1 : cnt (fun i => decide (ansI (tls T) (ttg T f) 0 (ci (tn T) i) = -2)) (i + 1) = cnt (fun i => decide (ansI (tls T) (ttg T f) 0 (ci (tn T) i) = -2)) i := by simp [cnt, e]
        rw [e1] at ih
        refine j_iinc c _ dX2_ambiguousCalls_38 rfl (by first | exact nI_1 _ | exact pk_m1 _ | rfl) rfl ?_
        refine j_aload_n c dX2_ambiguousCalls_41 rfl ?_
        refine j_getR c fl_X2_12 dX2_ambiguousCalls_42 (Nat.le_of_ble_eq_true rfl) rfl rfl ?_
        refine j_iload c dX2_ambiguousCalls_45 rfl ?_
        refine j_callV1 c kw_X2_209 (sp_next hX.1.1 hn.1 hn.2 hi3) dX2_ambiguousCalls_47 rfl rfl (by decide) (Nat.le_of_ble_eq_true rfl) (Nat.le_of_ble_eq_true rfl) rfl rfl ?_
        refine j_istore c dX2_ambiguousCalls_50 (Nat.le_of_ble_eq_true rfl) rfl ?_
        refine j_goto c 14 dX2_ambiguousCalls_52 (by decide) ?_
        exact ih
      · have e1 : cnt (fun i => decide (ansI (tls T) (ttg T f) 0 (ci (tn T) i) = -2)) (i + 1) = cnt (fun i => decide (ansI (tls T) (ttg T f) 0 (ci (tn T) i) = -2)) i + 1 := by simp [cnt, e]
        rw [e1] at ih
        refine j_iinc c _ dX2_ambiguousCalls_35 rfl (by first | exact nI_1 _ | exact pk_m1 _ | rfl) rfl ?_
        refine j_iinc c _ dX2_ambiguousCalls_38 rfl (by first | exact nI_1 _ | exact pk_m1 _ | rfl) rfl ?_
        refine j_aload_n c dX2_ambiguousCalls_41 rfl ?_
        refine j_getR c fl_X2_12 dX2_ambiguousCalls_42 (Nat.le_of_ble_eq_true rfl) rfl rfl ?_
        refine j_iload c dX2_ambiguousCalls_45 rfl ?_
        refine j_callV1 c kw_X2_209 (sp_next hX.1.1 hn.1 hn.2 hi3) dX2_ambiguousCalls_47 rfl rfl (by decide) (Nat.le_of_ble_eq_true rfl) (Nat.le_of_ble_eq_true rfl) rfl rfl ?_
        refine j_istore c dX2_ambiguousCalls_50 (Nat.le_of_ble_eq_true rfl) rfl ?_
        refine j_goto c 14 dX2_ambiguousCalls_52 (by decide) ?_
        exact ih
  have k0 := key 0 (Nat.zero_le _)
  rw [ci_0] at k0
  exact k0
theorem ansI_ok {ls : Nat → List Nat} {g : Nat → Option Nat} {b c : Nat} : ansI ls g b c < 0 ∨ ∃ m, m < 13 ∧ ansI ls g b c = nI m := by
  unfold ansI
  rcases fstI_cases (appB ls g c) (befB ls g b c) with ⟨h, _⟩ | ⟨h, _⟩ | ⟨m, hm, h, _⟩
  · rw [h]; exact Or.inl (by decide)
  · rw [h]; exact Or.inl (by decide)
  · exact Or.inr ⟨m, hm, h⟩
theorem sp_idleMethods {T : TS} {σ : Sg} (hX : InvX T σ) (hW : WF T) {f : Nat} (hf : f < tnf T) : Sp yX2_idleMethods cX2_idleMethods 7 (some .int) 5 [.inr 0, .inl (nI f)] σ (fun r σ' => r = some (.inl (mkS (idlB (ttg T f) (rowA T f none (tru T)) (16 ^ tpl T f)) 12)) ∧ filP T f σ σ') := by
  have h4 := hW.2.2.2.1
  have hn := hW.1
  have hpl := hW.2.2.2.2.1 f hf
  have hp : FnP (15 + 7 * f) := FnP.of (by omega)
  have hN := npow_b hn.2 hpl.2
  refine Sp.intro rfl (Nat.le_of_ble_eq_true rfl) (fun Γ c r => ?_)
  show J Γ 0 [some (.inr 0), some (.inl (nI f)), none, none, none, none, none] [] σ
  refine j_aload_n c dX2_idleMethods_0 rfl ?_
  refine j_iload_n c dX2_idleMethods_1 rfl ?_
  refine j_callV c kw_X2_212 (sp_fillAnswers hX hW hf) dX2_idleMethods_2 rfl rfl (by decide) (Nat.le_of_ble_eq_true rfl) (Nat.le_of_ble_eq_true rfl) rfl rfl ?_
  rintro _ σ1 ⟨rfl, hP⟩
  have hX1 := hP.1
  have hans := hP.2.2.2
  have hF := hX1.2.2.2.2.2.1 f hf
  refine j_aload_n c dX2_idleMethods_5 rfl ?_
  refine j_getR c fl_X2_18 dX2_idleMethods_6 (Nat.le_of_ble_eq_true rfl) rfl rfl ?_
  refine j_iload_n c dX2_idleMethods_9 rfl ?_
  refine j_aald c dX2_idleMethods_10 (Nat.le_of_ble_eq_true rfl) rfl rfl (by omega) (by decide) ?_
  refine j_astore_n c dX2_idleMethods_11 (Nat.le_of_ble_eq_true rfl) rfl ?_
  refine j_aload_n c dX2_idleMethods_12 rfl ?_
  refine j_getI c fl_X2_126 dX2_idleMethods_13 hp.lt0 (lf0 hp) rfl ?_
  refine j_istore_n c dX2_idleMethods_16 (Nat.le_of_ble_eq_true rfl) rfl ?_
  refine j_aload_n c dX2_idleMethods_17 rfl ?_
  refine j_aload_n c dX2_idleMethods_18 rfl ?_
  refine j_callV1 c kw_X2_147 (sp_callCount hp hF.1 hX1.1.1 hpl.2) dX2_idleMethods_19 rfl rfl (by decide) (Nat.le_of_ble_eq_true rfl) (Nat.le_of_ble_eq_true rfl) rfl rfl ?_
  refine j_istore c dX2_idleMethods_22 (Nat.le_of_ble_eq_true rfl) rfl ?_
  refine j_iconst c (nI 0) dX2_idleMethods_24 (by decide) ?_
  refine j_istore c dX2_idleMethods_25 (Nat.le_of_ble_eq_true rfl) rfl ?_
  refine j_iconst c (nI 0) dX2_idleMethods_27 (by decide) ?_
  refine j_istore c dX2_idleMethods_28 (Nat.le_of_ble_eq_true rfl) rfl ?_
  have key : ∀ i, i ≤ tn T ^ tpl T f → ∀ x : Int32, (∀ m, m < 32 → (bt x m = true ↔ (ttg T f m).isSome = true ∧ ∀ j, j < i → ansI (tls T) (ttg T f) (tru T) (ci (tn T) j) ≠ nI m)) → J Γ 30 [some (.inr 0), some (.inl (nI f)), some (.inr (15 + 7 * f)), some (.inl x), some (.inl (nI (tn T ^ tpl T f))), some (.inl (nI i)), some (.inl (nI (ci (tn T) i)))] [] σ1 := by
    refine loopN _ ?_ ?_
    · intro x hx
      refine j_iload c dX2_idleMethods_30 rfl ?_
      refine j_iload c dX2_idleMethods_32 rfl ?_
      refine j_icmp_ge c 78 dX2_idleMethods_34 (by decide) (fun _ => ?_) (fun h_9 => absurd (nI_le (Nat.le_refl _) (by omega)) h_9)
      refine j_iload_n c dX2_idleMethods_78 rfl ?_
      refine j_iret c r dX2_idleMethods_79 rfl ⟨?_, hP⟩
      congr 2
      apply bt_ext
      intro m hm
      rw [bt_mkS _ (by decide), Bool.eq_iff_iff, hx m hm]
      unfold idlB
      simp only [Bool.and_eq_true, decide_eq_true_eq]
      rw [allU]
      constructor
      · rintro ⟨h1, h2⟩
        obtain ⟨t, et⟩ := Option.isSome_iff_exists.mp h1
        refine ⟨(hW.2.2.2.2.2.1 f m t hf et).1, h1, fun y hy => ?_⟩
        unfold rowA
        by_cases hv : vcall (tn T) (tpl T f) y = true
        · rw [if_pos hv]
          have hs := vcall_spec hv
          have h3 := h2 (ix (tn T) y) (ix_lt hn.1 hpl hv)
          rw [ci_ix hn.1 hs.2.1 hs.2.2.1 (vcall_lt hv hpl.2)] at h3
          show (!decide (ansI (tls T) (ttg T f) (tru T) y = nI m)) = true
          simpa using h3
        · rw [if_neg hv]
          have : ¬ (-3 : Int32) = nI m := fun e => lt0_ne (by decide) m (by omega) e
          simpa using this
      · rintro ⟨_, h1, h2⟩
        refine ⟨h1, fun j hj => ?_⟩
        have hv := ci_v hn.1 hn.2 hpl hj
        have h3 := h2 _ (vcall_spec hv).1
        unfold rowA at h3
        rw [if_pos hv] at h3
        have h5 : (!decide (ansI (tls T) (ttg T f) (tru T) (ci (tn T) j) = nI m)) = true := h3
        simpa using h5
    · intro i hi ih x hx
      have hi3 := npow_lt hn.1 hpl.2 hi
      have hv := ci_v hn.1 hn.2 hpl hi
      have hcl := ci_lt hn.1 hn.2 hi3
      refine j_iload c dX2_idleMethods_30 rfl ?_
      refine j_iload c dX2_idleMethods_32 rfl ?_
      refine j_icmp_ge c 78 dX2_idleMethods_34 (by decide) (fun h_9 => absurd h_9 (nI_ge hi (by omega))) (fun _ => ?_)
      refine j_aload_n c dX2_idleMethods_37 rfl ?_
      refine j_getR c fl_X2_47 dX2_idleMethods_38 (Nat.le_of_ble_eq_true rfl) rfl rfl ?_
      refine j_iload c dX2_idleMethods_41 rfl ?_
      refine j_iald c dX2_idleMethods_43 (Nat.le_of_ble_eq_true rfl) rfl rfl (by omega) (by decide) ?_
      rw [hans _ hv]
      rcases ansI_ok (ls := tls T) (g := ttg T f) (b := tru T) (c := ci (tn T) i) with hneg | ⟨m, hm, hmv⟩
      · refine j_if_lt c 61 dX2_idleMethods_44 (by decide) (fun _ => ?_) (fun h_9 => absurd hneg h_9)
        refine j_iinc c _ dX2_idleMethods_61 rfl (by first | exact nI_1 _ | exact pk_m1 _ | rfl) rfl ?_
        refine j_aload_n c dX2_idleMethods_64 rfl ?_
        refine j_getR c fl_X2_12 dX2_idleMethods_65 (Nat.le_of_ble_eq_true rfl) rfl rfl ?_
        refine j_iload c dX2_idleMethods_68 rfl ?_
        refine j_callV1 c kw_X2_209 (sp_next hX1.1.1 hn.1 hn.2 hi3) dX2_idleMethods_70 rfl rfl (by decide) (Nat.le_of_ble_eq_true rfl) (Nat.le_of_ble_eq_true rfl) rfl rfl ?_
        refine j_istore c dX2_idleMethods_73 (Nat.le_of_ble_eq_true rfl) rfl ?_
        refine j_goto c 30 dX2_idleMethods_75 (by decide) ?_
        refine ih x (fun m hm => ?_)
        rw [hx m hm]
        constructor
        · rintro ⟨h1, h2⟩
          refine ⟨h1, fun j hj => ?_⟩
          by_cases ej : j = i
          · subst ej; exact lt0_ne hneg m (by omega)
          · exact h2 j (by omega)
        · rintro ⟨h1, h2⟩
          exact ⟨h1, fun j hj => h2 j (by omega)⟩
      · rw [hmv]
        refine j_if_lt c 61 dX2_idleMethods_44 (by decide) (fun h_9 => absurd h_9 (nI_pos (by omega))) (fun _ => ?_)
        refine j_iload_n c dX2_idleMethods_47 rfl ?_
        refine j_iconst c (nI 1) dX2_idleMethods_48 (by decide) ?_
        refine j_aload_n c dX2_idleMethods_49 rfl ?_
        refine j_getR c fl_X2_47 dX2_idleMethods_50 (Nat.le_of_ble_eq_true rfl) rfl rfl ?_
        refine j_iload c dX2_idleMethods_53 rfl ?_
        refine j_iald c dX2_idleMethods_55 (Nat.le_of_ble_eq_true rfl) rfl rfl (by omega) (by decide) ?_
        rw [hans _ hv, hmv]
        refine j_ishl c _ dX2_idleMethods_56 rfl ?_
        refine j_iconst c (-1) dX2_idleMethods_57 (by decide) ?_
        refine j_ixor c _ dX2_idleMethods_58 rfl ?_
        refine j_iand c _ dX2_idleMethods_59 rfl ?_
        refine j_istore_n c dX2_idleMethods_60 (Nat.le_of_ble_eq_true rfl) rfl ?_
        refine j_iinc c _ dX2_idleMethods_61 rfl (by first | exact nI_1 _ | exact pk_m1 _ | rfl) rfl ?_
        refine j_aload_n c dX2_idleMethods_64 rfl ?_
        refine j_getR c fl_X2_12 dX2_idleMethods_65 (Nat.le_of_ble_eq_true rfl) rfl rfl ?_
        refine j_iload c dX2_idleMethods_68 rfl ?_
        refine j_callV1 c kw_X2_209 (sp_next hX1.1.1 hn.1 hn.2 hi3) dX2_idleMethods_70 rfl rfl (by decide) (Nat.le_of_ble_eq_true rfl) (Nat.le_of_ble_eq_true rfl) rfl rfl ?_
        refine j_istore c dX2_idleMethods_73 (Nat.le_of_ble_eq_true rfl) rfl ?_
        refine j_goto c 30 dX2_idleMethods_75 (by decide) ?_
        refine ih _ (fun o ho => ?_)
        rw [bt_and, bt_not _ ho, bt_one (by omega)]
        simp only [Bool.and_eq_true, hx o ho, Bool.not_eq_true', decide_eq_false_iff_not]
        constructor
        · rintro ⟨⟨h1, h2⟩, h3⟩
          refine ⟨h1, fun j hj => ?_⟩
          by_cases ej : j = i
          · subst ej; rw [hmv]; intro e; exact h3 ((nI_eq (by omega) (by omega)).mp e).symm
          · exact h2 j (by omega)
        · rintro ⟨h1, h2⟩
          refine ⟨⟨h1, fun j hj => h2 j (by omega)⟩, fun e => ?_⟩
          subst e
          exact h2 i (by omega) hmv
  have k0 := key 0 (Nat.zero_le _) (σ1 (15 + 7 * f) 1) (fun m hm => by rw [hF.2.1 m hm]; simp)
  rw [ci_0] at k0
  exact k0
theorem sp_answerX {T : TS} {σ : Sg} (hX : InvX T σ) (hW : WF T) (x y : Int32) : Sp yX2_answer cX2_answer 4 (some .int) 4 [.inr 0, .inl x, .inl y] σ (rt σ (.inl (if isC T x y then ansI (tls T) (ttg T x.toNatClampNeg) (tru T) y.toNatClampNeg else -3))) := by
  have h4 := hW.2.2.2.1
  have hn := hW.1
  refine Sp.intro rfl (Nat.le_of_ble_eq_true rfl) (fun Γ c r => ?_)
  show J Γ 0 [some (.inr 0), some (.inl x), some (.inl y), none] [] σ
  refine j_aload_n c dX2_answer_0 rfl ?_
  refine j_iload_n c dX2_answer_1 rfl ?_
  refine j_iload_n c dX2_answer_2 rfl ?_
  refine j_callV1 c kw_X2_96 (sp_hasCall hX hW x y) dX2_answer_3 rfl rfl (by decide) (Nat.le_of_ble_eq_true rfl) (Nat.le_of_ble_eq_true rfl) rfl rfl ?_
  refine j_if_ne c 12 dX2_answer_6 (by decide) (fun e => ?_) (fun e => ?_)
  · have e2 := bI_nz e
    rw [e2] at r
    obtain ⟨i, k, hi, rfl, rfl, hv⟩ := isC_of h4 e2
    have hpl := hW.2.2.2.2.1 i hi
    have hk := vcall_lt hv hpl.2
    have hks := vcall_spec hv
    rw [nI_clamp (n := i) (by omega), nI_clamp (n := k) (by omega)] at r
    have hp : FnP (15 + 7 * i) := FnP.of (by omega)
    have hF := hX.2.2.2.2.2.1 i hi
    refine j_aload_n c dX2_answer_12 rfl ?_
    refine j_getR c fl_X2_18 dX2_answer_13 (Nat.le_of_ble_eq_true rfl) rfl rfl ?_
    refine j_iload_n c dX2_answer_16 rfl ?_
    refine j_aald c dX2_answer_17 (Nat.le_of_ble_eq_true rfl) rfl rfl (by omega) (by decide) ?_
    refine j_astore_n c dX2_answer_18 (Nat.le_of_ble_eq_true rfl) rfl ?_
    refine j_aload_n c dX2_answer_19 rfl ?_
    refine j_aload_n c dX2_answer_20 rfl ?_
    refine j_iload_n c dX2_answer_21 rfl ?_
    refine j_aload_n c dX2_answer_22 rfl ?_
    refine j_iload_n c dX2_answer_23 rfl ?_
    refine j_callV1 c kw_X2_186 (sp_thatApply hp hn.2 hF.2.2.2.1 hk hks.2.1 hks.2.2.1 hks.2.2.2) dX2_answer_24 rfl rfl (by decide) (Nat.le_of_ble_eq_true rfl) hp.lt0 (lf0 hp) rfl ?_
    refine j_callV1 c kw_X2_189 (sp_firstOfX hp hX.1 hW (GOK.of hW hi) (hW.gInj hi) hF hX.2.2.1 hW.2.2.2.2.2.2.1 hk (fun p => vcall_dg hv hpl.2 hn.1) _ (appB (tls T) (ttg T i) k) app13 (fun m _ h => h)) dX2_answer_27 rfl rfl (by decide) (Nat.le_of_ble_eq_true rfl) (Nat.le_of_ble_eq_true rfl) rfl rfl ?_
    exact j_iret c r dX2_answer_30 rfl ⟨rfl, rfl⟩
  · refine j_bipush c (-3) dX2_answer_9 (by decide) ?_
    exact j_iret c r dX2_answer_11 rfl ⟨by rw [bI_z e]; rfl, rfl⟩
theorem sp_applicableX {T : TS} {σ : Sg} (hX : InvX T σ) (hW : WF T) (x y : Int32) : Sp yX2_applicable cX2_applicable 3 (some .int) 2 [.inr 0, .inl x, .inl y] σ (rt σ (.inl (if isC T x y then mkS (appB (tls T) (ttg T x.toNatClampNeg) y.toNatClampNeg) 13 else -1))) := by
  have h4 := hW.2.2.2.1
  have hn := hW.1
  refine Sp.intro rfl (Nat.le_of_ble_eq_true rfl) (fun Γ c r => ?_)
  show J Γ 0 [some (.inr 0), some (.inl x), some (.inl y)] [] σ
  refine j_aload_n c dX2_applicable_0 rfl ?_
  refine j_iload_n c dX2_applicable_1 rfl ?_
  refine j_iload_n c dX2_applicable_2 rfl ?_
  refine j_callV1 c kw_X2_96 (sp_hasCall hX hW x y) dX2_applicable_3 rfl rfl (by decide) (Nat.le_of_ble_eq_true rfl) (Nat.le_of_ble_eq_true rfl) rfl rfl ?_
  refine j_if_eq c 22 dX2_applicable_6 (by decide) (fun e => ?_) (fun e => ?_)
  · refine j_iconst c (-1) dX2_applicable_22 (by decide) ?_
    exact j_iret c r dX2_applicable_23 rfl ⟨by rw [bI_z e]; rfl, rfl⟩
  · have e2 := bI_nz e
    rw [e2] at r
    obtain ⟨i, k, hi, rfl, rfl, hv⟩ := isC_of h4 e2
    have hpl := hW.2.2.2.2.1 i hi
    have hk := vcall_lt hv hpl.2
    have hks := vcall_spec hv
    rw [nI_clamp (n := i) (by omega), nI_clamp (n := k) (by omega)] at r
    have hp : FnP (15 + 7 * i) := FnP.of (by omega)
    have hF := hX.2.2.2.2.2.1 i hi
    refine j_aload_n c dX2_applicable_9 rfl ?_
    refine j_getR c fl_X2_18 dX2_applicable_10 (Nat.le_of_ble_eq_true rfl) rfl rfl ?_
    refine j_iload_n c dX2_applicable_13 rfl ?_
    refine j_aald c dX2_applicable_14 (Nat.le_of_ble_eq_true rfl) rfl rfl (by omega) (by decide) ?_
    refine j_iload_n c dX2_applicable_15 rfl ?_
    refine j_callV1 c kw_X2_186 (sp_thatApply hp hn.2 hF.2.2.2.1 hk hks.2.1 hks.2.2.1 hks.2.2.2) dX2_applicable_16 rfl rfl (by decide) (Nat.le_of_ble_eq_true rfl) hp.lt0 (lf0 hp) rfl ?_
    refine j_goto c 23 dX2_applicable_19 (by decide) ?_
    exact j_iret c r dX2_applicable_23 rfl ⟨rfl, rfl⟩
theorem sp_callX {T : TS} {σ : Sg} (hX : InvX T σ) (hW : WF T) (x y : Int32) : Sp yX2_call cX2_call 4 (some .int) 4 [.inr 0, .inl x, .inl y] σ (nX (tCall T x y) σ (aCall T x y)) := by
  have h4 := hW.2.2.2.1
  have hn := hW.1
  refine Sp.intro rfl (Nat.le_of_ble_eq_true rfl) (fun Γ c r => ?_)
  show J Γ 0 [some (.inr 0), some (.inl x), some (.inl y), none] [] σ
  refine j_aload_n c dX2_call_0 rfl ?_
  refine j_iload_n c dX2_call_1 rfl ?_
  refine j_iload_n c dX2_call_2 rfl ?_
  refine j_callV1 c kw_X2_96 (sp_hasCall hX hW x y) dX2_call_3 rfl rfl (by decide) (Nat.le_of_ble_eq_true rfl) (Nat.le_of_ble_eq_true rfl) rfl rfl ?_
  refine j_if_ne c 12 dX2_call_6 (by decide) (fun e => ?_) (fun e => ?_)
  · have e2 := bI_nz e
    obtain ⟨i, k, hi, rfl, rfl, hv⟩ := isC_of h4 e2
    have hpl := hW.2.2.2.2.1 i hi
    have hk := vcall_lt hv hpl.2
    have hks := vcall_spec hv
    have ha : aCall T (nI i) (nI k) = ansI (tls T) (ttg T i) (tru T) k := by unfold aCall; rw [e2, nI_clamp (n := i) (by omega), nI_clamp (n := k) (by omega)]; rfl
    have ht : tCall T (nI i) (nI k) = nCall T i k := by unfold tCall; rw [e2, nI_clamp (n := i) (by omega), nI_clamp (n := k) (by omega)]; rfl
    rw [ha, ht] at r
    have hp : FnP (15 + 7 * i) := FnP.of (by omega)
    have hF := hX.2.2.2.2.2.1 i hi
    have hkp := hW.2.2.2.2.2.2.2.1 i (by omega)
    have hkv := hW.2.2.2.2.2.2.2.2 i
    refine j_aload_n c dX2_call_12 rfl ?_
    refine j_getR c fl_X2_18 dX2_call_13 (Nat.le_of_ble_eq_true rfl) rfl rfl ?_
    refine j_iload_n c dX2_call_16 rfl ?_
    refine j_aald c dX2_call_17 (Nat.le_of_ble_eq_true rfl) rfl rfl (by omega) (by decide) ?_
    refine j_astore_n c dX2_call_18 (Nat.le_of_ble_eq_true rfl) rfl ?_
    refine j_aload_n c dX2_call_19 rfl ?_
    refine j_iload_n c dX2_call_20 rfl ?_
    refine j_callV c kw_X2_183 (sp_ask hp (hX.2.2.2.2.2.2.2.1 i (by omega)) hkp.1 (fun x hx => vcall_lt (hkv x hi hx) hpl.2) hk) dX2_call_21 rfl rfl (by decide) (Nat.le_of_ble_eq_true rfl) hp.lt0 (lf0 hp) rfl ?_
    rintro _ σ1 ⟨rfl, K1, f1, f2⟩
    have b5 : σ1 0 5 = thi T := by rw [f1 0 (by omega) (by omega)]; exact hX.2.2.2.1
    have b6 : σ1 0 6 = tmi T := by rw [f1 0 (by omega) (by omega)]; exact hX.2.2.2.2.1
    have fin : ∀ σ2 : Sg, (∀ q, q ≠ 0 → σ2 q = σ1 q) → (∀ j, j ≠ 5 → j ≠ 6 → σ2 0 j = σ1 0 j) → σ2 0 5 = thi (nCall T i k) → σ2 0 6 = tmi (nCall T i k) → J Γ 50 [some (.inr 0), some (.inl (nI i)), some (.inl (nI k)), some (.inr (15 + 7 * i))] [] σ2 := by
      intro σ2 g1 g2 g5 g6
      have sq : ∀ q, q ≠ 0 → q ≠ 15 + 7 * i → q ≠ 15 + 7 * i + 6 → σ2 q = σ q := fun q x1 x2 x3 => by rw [g1 q x1]; exact f1 q x2 x3
      have sp : ∀ j, j ≠ 8 → σ2 (15 + 7 * i) j = σ (15 + 7 * i) j := fun j hj => by rw [g1 _ (by omega)]; exact f2 j hj
      have F2 : FX (tn T) (tls T) (15 + 7 * i) (tpl T i) (ttg T i) σ2 := hF.keep (sp 0 (by decide)) (sp 1 (by decide)) (sq _ (by omega) (by omega) (by omega)) (sq _ (by omega) (by omega) (by omega)) (sq _ (by omega) (by omega) (by omega))
      have C2 : CX T σ2 := hX.1.keep (fun q x1 x2 => sq q (by omega) (by omega) (by omega))
      have s0 : ∀ j, j ≠ 5 → j ≠ 6 → σ2 0 j = σ 0 j := fun j x1 x2 => by rw [g2 j x1 x2, f1 0 (by omega) (by omega)]
      have hT : nCall T i k = (tn T, tls T, tnf T, tpl T, ttg T, tkd T, tvl T, tru T, va_up (tkp T) i (nKp (tkp T i) k), thi (nCall T i k), tmi (nCall T i k)) := rfl
      refine j_aload_n c dX2_call_50 rfl ?_
      refine j_aload_n c dX2_call_51 rfl ?_
      refine j_iload_n c dX2_call_52 rfl ?_
      refine j_aload_n c dX2_call_53 rfl ?_
      refine j_iload_n c dX2_call_54 rfl ?_
      refine j_callV1 c kw_X2_186 (sp_thatApply hp hn.2 F2.2.2.2.1 hk hks.2.1 hks.2.2.1 hks.2.2.2) dX2_call_55 rfl rfl (by decide) (Nat.le_of_ble_eq_true rfl) hp.lt0 (lf0 hp) rfl ?_
      refine j_callV1 c kw_X2_189 (sp_firstOfX hp C2 hW (GOK.of hW hi) (hW.gInj hi) F2 (by rw [s0 4 (by decide) (by decide)]; exact hX.2.2.1) hW.2.2.2.2.2.2.1 hk (fun p => vcall_dg hv hpl.2 hn.1) _ (appB (tls T) (ttg T i) k) app13 (fun m _ h => h)) dX2_call_58 rfl rfl (by decide) (Nat.le_of_ble_eq_true rfl) (Nat.le_of_ble_eq_true rfl) rfl rfl ?_
      refine j_iret c r dX2_call_61 rfl ⟨rfl, ?_, fun q hq => sq q (by omega) (by omega) (by omega)⟩
      refine InvX.one hX hi h4 rfl rfl rfl rfl rfl (fun g hg => ⟨rfl, rfl, rfl, vu_ne hg⟩) (fun q x1 x2 => sq q x1 (by omega) (by omega)) (s0 3 (by decide) (by decide)) (s0 4 (by decide) (by decide)) g5 g6 F2 ?_ (fun m t h => ?_) (Or.inr ⟨s0 10 (by decide) (by decide), rfl⟩)
      · show KX _ (va_up (tkp T) i (nKp (tkp T i) k) i) _
        rw [vu_at]
        exact K1.keep (by rw [g1 _ (by omega)]) (g1 _ (by omega))
      · rw [sq _ (by omega) (by omega) (by omega), sq (15 + 7 * i + 3) (by omega) (by omega) (by omega)]
        exact hX.2.2.2.2.2.2.2.2.1 i m t hi h
    by_cases hd : (tkp T i).idxOf k < (tkp T i).length
    · rw [decide_eq_true hd]
      refine j_if_eq c 40 dX2_call_24 (by decide) (fun h_9 => absurd h_9 (by show ¬ bI true = 0; decide)) (fun _ => ?_)
      refine j_aload_n c dX2_call_27 rfl ?_
      refine j_dup c dX2_call_28 ?_
      refine j_getI c fl_X2_34 dX2_call_29 (Nat.le_of_ble_eq_true rfl) rfl rfl ?_
      rw [b5]
      refine j_iconst c (nI 1) dX2_call_32 (by decide) ?_
      refine j_iadd c _ dX2_call_33 rfl ?_
      refine j_putI c fl_X2_34 dX2_call_34 (Nat.le_of_ble_eq_true rfl) rfl rfl ?_
      refine j_goto c 50 dX2_call_37 (by decide) ?_
      refine fin _ (fun q hq => s2_np hq) (fun j x1 x2 => s2_nk x1) ?_ ?_
      · rw [s2_at]
        show _ = (if (tkp T i).idxOf k < (tkp T i).length then thi T + nI 1 else thi T)
        rw [if_pos hd]
      · rw [s2_nk (by decide), b6]
        show _ = (if (tkp T i).idxOf k < (tkp T i).length then tmi T else tmi T + nI 1)
        rw [if_pos hd]
    · rw [decide_eq_false hd]
      refine j_if_eq c 40 dX2_call_24 (by decide) (fun _ => ?_) (fun h_9 => absurd (by rfl) h_9)
      refine j_aload_n c dX2_call_40 rfl ?_
      refine j_dup c dX2_call_41 ?_
      refine j_getI c fl_X2_37 dX2_call_42 (Nat.le_of_ble_eq_true rfl) rfl rfl ?_
      rw [b6]
      refine j_iconst c (nI 1) dX2_call_45 (by decide) ?_
      refine j_iadd c _ dX2_call_46 rfl ?_
      refine j_putI c fl_X2_37 dX2_call_47 (Nat.le_of_ble_eq_true rfl) rfl rfl ?_
      refine fin _ (fun q hq => s2_np hq) (fun j x1 x2 => s2_nk x2) ?_ ?_
      · rw [s2_nk (by decide), b5]
        show _ = (if (tkp T i).idxOf k < (tkp T i).length then thi T + nI 1 else thi T)
        rw [if_neg hd]
      · rw [s2_at]
        show _ = (if (tkp T i).idxOf k < (tkp T i).length then tmi T else tmi T + nI 1)
        rw [if_neg hd]
  · have e2 := bI_z e
    refine j_bipush c (-3) dX2_call_9 (by decide) ?_
    exact j_iret c r dX2_call_11 rfl ⟨by simp [aCall, e2], by simp only [tCall, e2]; exact hX, frXo.rfl' σ⟩
theorem sp_chainX {T : TS} {σ : Sg} (hX : InvX T σ) (hW : WF T) (x y k : Int32) : Sp yX2_chain cX2_chain 4 (some .int) 5 [.inr 0, .inl x, .inl y, .inl k] σ (nX T σ (aChain T x y k)) := by
  have h4 := hW.2.2.2.1
  refine Sp.intro rfl (Nat.le_of_ble_eq_true rfl) (fun Γ c r => ?_)
  show J Γ 0 [some (.inr 0), some (.inl x), some (.inl y), some (.inl k)] [] σ
  refine j_aload_n c dX2_chain_0 rfl ?_
  refine j_iload_n c dX2_chain_1 rfl ?_
  refine j_iload_n c dX2_chain_2 rfl ?_
  refine j_callV1 c kw_X2_96 (sp_hasCall hX hW x y) dX2_chain_3 rfl rfl (by decide) (Nat.le_of_ble_eq_true rfl) (Nat.le_of_ble_eq_true rfl) rfl rfl ?_
  refine j_if_ne c 11 dX2_chain_6 (by decide) (fun e => ?_) (fun e => ?_)
  · have e2 := bI_nz e
    obtain ⟨i, z, hi, rfl, rfl, hv⟩ := isC_of h4 e2
    have hpl := hW.2.2.2.2.1 i hi
    have hz := vcall_lt hv hpl.2
    have ha : aChain T (nI i) (nI z) k = (if k = -1 then nI (tch T i z).length else if isN k (tch T i z).length then nI ((tch T i z).getD k.toNatClampNeg 0) else -1) := by unfold aChain; rw [e2, nI_clamp (n := i) (by omega), nI_clamp (n := z) (by omega)]; rfl
    rw [ha] at r
    have hp : FnP (15 + 7 * i) := FnP.of (by omega)
    have hl : (tch T i z).length ≤ 12 := chn_len
    refine j_aload_n c dX2_chain_11 rfl ?_
    refine j_aload_n c dX2_chain_12 rfl ?_
    refine j_getR c fl_X2_18 dX2_chain_13 (Nat.le_of_ble_eq_true rfl) rfl rfl ?_
    refine j_iload_n c dX2_chain_16 rfl ?_
    refine j_aald c dX2_chain_17 (Nat.le_of_ble_eq_true rfl) rfl rfl (by omega) (by decide) ?_
    refine j_iload_n c dX2_chain_18 rfl ?_
    refine j_callV c kw_X2_193 (sp_layChain hX hW hi hv) dX2_chain_19 rfl rfl (by decide) (Nat.le_of_ble_eq_true rfl) (Nat.le_of_ble_eq_true rfl) rfl rfl ?_
    rintro _ σ1 ⟨⟨w, rfl, _⟩, g8, g12, gq, g0⟩
    have hX1 : InvX T σ1 := hX.keep h4 (fun q x1 x2 _ _ => gq q x1 x2) g0
    have hfr : frXo σ σ1 := fun q hq => gq q (by omega) (by omega)
    refine j_pop c dX2_chain_22 ?_
    refine j_iload_n c dX2_chain_23 rfl ?_
    refine j_iconst c (-1) dX2_chain_24 (by decide) ?_
    refine j_icmp_ne c 33 dX2_chain_25 (by decide) (fun g => ?_) (fun g => ?_)
    · refine j_iload_n c dX2_chain_33 rfl ?_
      refine j_if_lt c 54 dX2_chain_34 (by decide) (fun q => ?_) (fun q => ?_)
      · refine j_iconst c (-1) dX2_chain_54 (by decide) ?_
        exact j_iret c r dX2_chain_55 rfl ⟨by rw [if_neg g, isN_neg q]; rfl, hX1, hfr⟩
      · obtain ⟨j, hj2, rfl⟩ := nI_of q
        refine j_iload_n c dX2_chain_37 rfl ?_
        refine j_aload_n c dX2_chain_38 rfl ?_
        refine j_getI c fl_X2_44 dX2_chain_39 (Nat.le_of_ble_eq_true rfl) rfl rfl ?_
        rw [g8]
        refine j_icmp_ge c 54 dX2_chain_42 (by decide) (fun u => ?_) (fun u => ?_)
        · rw [nI_leI (by omega) hj2] at u
          refine j_iconst c (-1) dX2_chain_54 (by decide) ?_
          exact j_iret c r dX2_chain_55 rfl ⟨by rw [if_neg g, isN_nI hj2, decide_eq_false (by omega)]; rfl, hX1, hfr⟩
        · rw [nI_leI (by omega) hj2] at u
          have hg : (tch T i z)[j]? = some ((tch T i z).getD j 0) := by simp [show j < (tch T i z).length by omega]
          refine j_aload_n c dX2_chain_45 rfl ?_
          refine j_getR c fl_X2_40 dX2_chain_46 (Nat.le_of_ble_eq_true rfl) rfl rfl ?_
          refine j_iload_n c dX2_chain_49 rfl ?_
          refine j_iald c dX2_chain_50 (Nat.le_of_ble_eq_true rfl) rfl rfl (by omega) (by decide) ?_
          rw [g12 j _ hg]
          refine j_goto c 55 dX2_chain_51 (by decide) ?_
          exact j_iret c r dX2_chain_55 rfl ⟨by rw [if_neg g, isN_nI hj2, decide_eq_true (by omega), nI_clamp hj2]; rfl, hX1, hfr⟩
    · refine j_aload_n c dX2_chain_28 rfl ?_
      refine j_getI c fl_X2_44 dX2_chain_29 (Nat.le_of_ble_eq_true rfl) rfl rfl ?_
      rw [g8]
      exact j_iret c r dX2_chain_32 rfl ⟨by rw [if_pos g], hX1, hfr⟩
  · refine j_iconst c (-1) dX2_chain_9 (by decide) ?_
    exact j_iret c r dX2_chain_10 rfl ⟨by simp [aChain, bI_z e], hX, frXo.rfl' σ⟩
theorem sp_brokenX {T : TS} {σ : Sg} (hX : InvX T σ) (hW : WF T) (x y : Int32) : Sp yX2_broken cX2_broken 3 (some .int) 5 [.inr 0, .inl x, .inl y] σ (nX T σ (aBroken T x y)) := by
  have h4 := hW.2.2.2.1
  refine Sp.intro rfl (Nat.le_of_ble_eq_true rfl) (fun Γ c r => ?_)
  show J Γ 0 [some (.inr 0), some (.inl x), some (.inl y)] [] σ
  refine j_aload_n c dX2_broken_0 rfl ?_
  refine j_iload_n c dX2_broken_1 rfl ?_
  refine j_iload_n c dX2_broken_2 rfl ?_
  refine j_callV1 c kw_X2_96 (sp_hasCall hX hW x y) dX2_broken_3 rfl rfl (by decide) (Nat.le_of_ble_eq_true rfl) (Nat.le_of_ble_eq_true rfl) rfl rfl ?_
  refine j_if_eq c 26 dX2_broken_6 (by decide) (fun e => ?_) (fun e => ?_)
  · refine j_iconst c (-1) dX2_broken_26 (by decide) ?_
    exact j_iret c r dX2_broken_27 rfl ⟨by simp [aBroken, bI_z e], hX, frXo.rfl' σ⟩
  · have e2 := bI_nz e
    obtain ⟨i, z, hi, rfl, rfl, hv⟩ := isC_of h4 e2
    have hpl := hW.2.2.2.2.1 i hi
    have hz := vcall_lt hv hpl.2
    have ha : aBroken T (nI i) (nI z) = nI (cnt (tcr T i z) 13) := by unfold aBroken; rw [e2, nI_clamp (n := i) (by omega), nI_clamp (n := z) (by omega)]; rfl
    rw [ha] at r
    have hp : FnP (15 + 7 * i) := FnP.of (by omega)
    refine j_aload_n c dX2_broken_9 rfl ?_
    refine j_aload_n c dX2_broken_10 rfl ?_
    refine j_getR c fl_X2_18 dX2_broken_11 (Nat.le_of_ble_eq_true rfl) rfl rfl ?_
    refine j_iload_n c dX2_broken_14 rfl ?_
    refine j_aald c dX2_broken_15 (Nat.le_of_ble_eq_true rfl) rfl rfl (by omega) (by decide) ?_
    refine j_iload_n c dX2_broken_16 rfl ?_
    refine j_callV c kw_X2_193 (sp_layChain hX hW hi hv) dX2_broken_17 rfl rfl (by decide) (Nat.le_of_ble_eq_true rfl) (Nat.le_of_ble_eq_true rfl) rfl rfl ?_
    rintro _ σ1 ⟨⟨w, rfl, hw⟩, g8, g12, gq, g0⟩
    refine j_callS1 c kw_X2_129 (sp_bitCount σ1 (x := w) (fun m h1 h2 => by rw [hw m h2, decide_eq_false (by omega)]; rfl)) dX2_broken_20 rfl rfl (by decide) (Nat.le_of_ble_eq_true rfl) ?_
    refine j_goto c 27 dX2_broken_23 (by decide) ?_
    have e3 : cnt (bt w) 13 = cnt (tcr T i z) 13 := cnt_congr (fun m hm => by rw [hw m (by omega), decide_eq_true hm]; rfl)
    exact j_iret c r dX2_broken_27 rfl ⟨by rw [e3], hX.keep h4 (fun q x1 x2 _ _ => gq q x1 x2) g0, fun q hq => gq q (by omega) (by omega)⟩
theorem sp_keptX {T : TS} {σ : Sg} (hX : InvX T σ) (hW : WF T) (x k : Int32) : Sp yX2_kept cX2_kept 3 (some .int) 1 [.inr 0, .inl x, .inl k] σ (rt σ (.inl (aKept T x k))) := by
  have h4 := hW.2.2.2.1
  refine Sp.intro rfl (Nat.le_of_ble_eq_true rfl) (fun Γ c r => ?_)
  show J Γ 0 [some (.inr 0), some (.inl x), some (.inl k)] [] σ
  refine j_aload_n c dX2_kept_0 rfl ?_
  refine j_iload_n c dX2_kept_1 rfl ?_
  refine j_callV1 c kw_X2_144 (sp_hasFunction σ x (tnf T) hX.2.1 h4) dX2_kept_2 rfl rfl (by decide) (Nat.le_of_ble_eq_true rfl) (Nat.le_of_ble_eq_true rfl) rfl rfl ?_
  refine j_if_eq c 25 dX2_kept_5 (by decide) (fun e => ?_) (fun e => ?_)
  · refine j_iconst c (-1) dX2_kept_25 (by decide) ?_
    exact j_iret c r dX2_kept_26 rfl ⟨by simp [aKept, bI_z e], rfl⟩
  · have e2 := bI_nz e
    obtain ⟨i, hi, hi2, rfl⟩ := isN_of e2
    have hp : FnP (15 + 7 * i) := FnP.of (by omega)
    have hK := hX.2.2.2.2.2.2.2.1 i (by omega)
    have hl := hW.kp i (by omega)
    have ha : aKept T (nI i) k = if isN k (tkp T i).length then nI ((tkp T i).getD k.toNatClampNeg 0) else -1 := by unfold aKept; rw [e2, nI_clamp hi2, Bool.true_and]
    rw [ha] at r
    refine j_iload_n c dX2_kept_8 rfl ?_
    refine j_if_lt c 25 dX2_kept_9 (by decide) (fun g => ?_) (fun g => ?_)
    · refine j_iconst c (-1) dX2_kept_25 (by decide) ?_
      exact j_iret c r dX2_kept_26 rfl ⟨by rw [isN_neg g]; rfl, rfl⟩
    · obtain ⟨j, hj2, rfl⟩ := nI_of g
      refine j_iload_n c dX2_kept_12 rfl ?_
      refine j_aload_n c dX2_kept_13 rfl ?_
      refine j_getR c fl_X2_18 dX2_kept_14 (Nat.le_of_ble_eq_true rfl) rfl rfl ?_
      refine j_iload_n c dX2_kept_17 rfl ?_
      refine j_aald c dX2_kept_18 (Nat.le_of_ble_eq_true rfl) rfl rfl (by omega) (by decide) ?_
      refine j_getI c fl_X2_135 dX2_kept_19 hp.lt0 (lf0 hp) rfl ?_
      rw [hK.1]
      refine j_icmp_lt c 27 dX2_kept_22 (by decide) (fun q => ?_) (fun q => ?_)
      · rw [nI_ltI hj2 (by omega)] at q
        have hg : (tkp T i)[j]? = some ((tkp T i).getD j 0) := by simp [q]
        refine j_aload_n c dX2_kept_27 rfl ?_
        refine j_getR c fl_X2_18 dX2_kept_28 (Nat.le_of_ble_eq_true rfl) rfl rfl ?_
        refine j_iload_n c dX2_kept_31 rfl ?_
        refine j_aald c dX2_kept_32 (Nat.le_of_ble_eq_true rfl) rfl rfl (by omega) (by decide) ?_
        refine j_getR c fl_X2_203 dX2_kept_33 hp.lt0 (lf0 hp) rfl ?_
        refine j_iload_n c dX2_kept_36 rfl ?_
        refine j_iald c dX2_kept_37 (hp.lt (by decide)) (lf6 hp) rfl (by omega) (by decide) ?_
        rw [hK.2 j _ hg]
        exact j_iret c r dX2_kept_38 rfl ⟨by rw [isN_nI hj2, decide_eq_true q, nI_clamp hj2]; rfl, rfl⟩
      · rw [nI_ltI hj2 (by omega)] at q
        refine j_iconst c (-1) dX2_kept_25 (by decide) ?_
        exact j_iret c r dX2_kept_26 rfl ⟨by rw [isN_nI hj2, decide_eq_false q]; rfl, rfl⟩
