-- ===== 10e: the reference's questions =====
theorem sp_sizeOf {T : TS} {mo : Option (Nat × Nat)} {σ : Sg} (hM : InvM T mo σ) (hW : WF T) {f : Nat} (hf : f < tnf T) : Sp yX3_sizeOf cX3_sizeOf 6 (some .int) 3 [.inr 50, .inl (nI f)] σ (rt σ (.inl (nI (szQ (σ 65) (16 ^ tpl T f) (tn T) (tpl T f))))) := by
  have h4 := hW.2.2.2.1
  have hpl := hW.2.2.2.2.1 f hf
  have hn := hW.1
  have hp55 := hM.2.2.2.2.2.2.1 f hf
  refine Sp.intro rfl (Nat.le_of_ble_eq_true rfl) (fun Γ c r => ?_)
  show J Γ 0 [some (.inr 50), some (.inl (nI f)), none, none, none, none] [] σ
  refine j_iconst c (nI 1) dX3_sizeOf_0 (by decide) ?_
  refine j_istore_n c dX3_sizeOf_1 (Nat.le_of_ble_eq_true rfl) rfl ?_
  refine j_iconst c (nI 0) dX3_sizeOf_2 (by decide) ?_
  refine j_istore_n c dX3_sizeOf_3 (Nat.le_of_ble_eq_true rfl) rfl ?_
  have key : ∀ p, p ≤ tpl T f → ∀ u v : Option PV, J Γ 4 [some (.inr 50), some (.inl (nI f)), some (.inl (nI (szQ (σ 65) (16 ^ tpl T f) (tn T) p))), some (.inl (nI p)), u, v] [] σ := by
    refine loopN _ ?_ ?_
    · intro u v
      refine j_iload_n c dX3_sizeOf_4 rfl ?_
      refine j_aload_n c dX3_sizeOf_5 rfl ?_
      refine j_getR c fl_X3_22 dX3_sizeOf_6 (Nat.le_of_ble_eq_true rfl) rfl rfl ?_
      refine j_iload_n c dX3_sizeOf_9 rfl ?_
      refine j_iald c dX3_sizeOf_10 (Nat.le_of_ble_eq_true rfl) rfl rfl (by omega) (by decide) ?_
      rw [hp55]
      refine j_icmp_ge c 69 dX3_sizeOf_11 (by decide) (fun _ => ?_) (fun h => absurd (nI_le (Nat.le_refl _) (by omega)) h)
      refine j_iload_n c dX3_sizeOf_69 rfl ?_
      exact j_iret c r dX3_sizeOf_70 rfl ⟨rfl, rfl⟩
    · intro p hp ih u v
      refine j_iload_n c dX3_sizeOf_4 rfl ?_
      refine j_aload_n c dX3_sizeOf_5 rfl ?_
      refine j_getR c fl_X3_22 dX3_sizeOf_6 (Nat.le_of_ble_eq_true rfl) rfl rfl ?_
      refine j_iload_n c dX3_sizeOf_9 rfl ?_
      refine j_iald c dX3_sizeOf_10 (Nat.le_of_ble_eq_true rfl) rfl rfl (by omega) (by decide) ?_
      rw [hp55]
      refine j_icmp_ge c 69 dX3_sizeOf_11 (by decide) (fun h => absurd h (nI_ge hp (by omega))) (fun _ => ?_)
      refine j_iconst c (nI 0) dX3_sizeOf_14 (by decide) ?_
      refine j_istore c dX3_sizeOf_15 (Nat.le_of_ble_eq_true rfl) rfl ?_
      refine j_iconst c (nI 0) dX3_sizeOf_17 (by decide) ?_
      refine j_istore c dX3_sizeOf_18 (Nat.le_of_ble_eq_true rfl) rfl ?_
      have inner : ∀ k, k ≤ tn T → J Γ 20 [some (.inr 50), some (.inl (nI f)), some (.inl (nI (szQ (σ 65) (16 ^ tpl T f) (tn T) p))), some (.inl (nI p)), some (.inl (nI (cnt (fun c => decide (fnd (alB (σ 65) (16 ^ tpl T f) p c) (c + 1) = some c)) k))), some (.inl (nI k))] [] σ := by
        refine loopN _ ?_ ?_
        · refine j_iload c dX3_sizeOf_20 rfl ?_
          refine j_aload_n c dX3_sizeOf_22 rfl ?_
          refine j_getI c fl_X3_62 dX3_sizeOf_23 (Nat.le_of_ble_eq_true rfl) rfl rfl ?_
          rw [hM.1]
          refine j_icmp_ge c 58 dX3_sizeOf_26 (by decide) (fun _ => ?_) (fun h => absurd (nI_le (Nat.le_refl _) (by omega)) h)
          refine j_iload_n c dX3_sizeOf_58 rfl ?_
          refine j_iload c dX3_sizeOf_59 rfl ?_
          refine j_imul c _ dX3_sizeOf_61 (show _ = nI (szQ (σ 65) (16 ^ tpl T f) (tn T) (p + 1)) from pk_mul _ _) ?_
          refine j_istore_n c dX3_sizeOf_62 (Nat.le_of_ble_eq_true rfl) rfl ?_
          refine j_iinc c _ dX3_sizeOf_63 rfl (by first | exact nI_1 _ | exact pk_m1 _ | rfl) rfl ?_
          refine j_goto c 4 dX3_sizeOf_66 (by decide) ?_
          exact ih _ _
        · intro k hk ihk
          refine j_iload c dX3_sizeOf_20 rfl ?_
          refine j_aload_n c dX3_sizeOf_22 rfl ?_
          refine j_getI c fl_X3_62 dX3_sizeOf_23 (Nat.le_of_ble_eq_true rfl) rfl rfl ?_
          rw [hM.1]
          refine j_icmp_ge c 58 dX3_sizeOf_26 (by decide) (fun h => absurd h (nI_ge hk (by omega))) (fun _ => ?_)
          refine j_iload c dX3_sizeOf_29 rfl ?_
          refine j_aload_n c dX3_sizeOf_31 rfl ?_
          refine j_iload_n c dX3_sizeOf_32 rfl ?_
          refine j_iload_n c dX3_sizeOf_33 rfl ?_
          refine j_iload c dX3_sizeOf_34 rfl ?_
          refine j_callV1 c kw_X3_181 (sp_poleOf hM hW hf hp (by omega)) dX3_sizeOf_36 rfl rfl (by decide) (Nat.le_of_ble_eq_true rfl) (Nat.le_of_ble_eq_true rfl) rfl rfl ?_
          have hb : ∀ x, fnd (alB (σ 65) (16 ^ tpl T f) p k) (k + 1) = some x → x < 2 ^ 31 := fun x hx => by have := (fnd_some hx).1; omega
          refine j_iload c dX3_sizeOf_39 rfl ?_
          refine j_icmp_ne c 48 dX3_sizeOf_41 (by decide) (fun e => ?_) (fun e => ?_)
          · rw [oI_inj hb (by omega)] at e
            refine j_iconst c (nI 0) dX3_sizeOf_48 (by decide) ?_
            refine j_iadd c _ dX3_sizeOf_49 (cnt_step (P := fun c => decide (fnd (alB (σ 65) (16 ^ tpl T f) p c) (c + 1) = some c)) false (by simpa using e)) ?_
            refine j_istore c dX3_sizeOf_50 (Nat.le_of_ble_eq_true rfl) rfl ?_
            refine j_iinc c _ dX3_sizeOf_52 rfl (by first | exact nI_1 _ | exact pk_m1 _ | rfl) rfl ?_
            refine j_goto c 20 dX3_sizeOf_55 (by decide) ?_
            exact ihk
          · rw [oI_inj hb (by omega)] at e
            refine j_iconst c (nI 1) dX3_sizeOf_44 (by decide) ?_
            refine j_goto c 49 dX3_sizeOf_45 (by decide) ?_
            refine j_iadd c _ dX3_sizeOf_49 (cnt_step (P := fun c => decide (fnd (alB (σ 65) (16 ^ tpl T f) p c) (c + 1) = some c)) true (by simpa using e)) ?_
            refine j_istore c dX3_sizeOf_50 (Nat.le_of_ble_eq_true rfl) rfl ?_
            refine j_iinc c _ dX3_sizeOf_52 rfl (by first | exact nI_1 _ | exact pk_m1 _ | rfl) rfl ?_
            refine j_goto c 20 dX3_sizeOf_55 (by decide) ?_
            exact ihk
      exact inner 0 (Nat.zero_le _)
  exact key 0 (Nat.zero_le _) none none
theorem sp_idleOf {T : TS} {mo : Option (Nat × Nat)} {σ : Sg} (hM : InvM T mo σ) (hW : WF T) {f : Nat} (hf : f < tnf T) (hA : ∀ c, c < 16 ^ tpl T f → σ 65 c < 0 ∨ ∃ m, m < 13 ∧ σ 65 c = nI m) : Sp yX3_idleOf cX3_idleOf 4 (some .int) 1 [.inr 50, .inl (nI f)] σ (rt σ (.inl (mkS (idlB (ttg T f) (σ 65) (16 ^ tpl T f)) 12))) := by
  have h4 := hW.2.2.2.1
  have hpl := hW.2.2.2.2.1 f hf
  have h16 := p16 hpl.2
  refine Sp.intro rfl (Nat.le_of_ble_eq_true rfl) (fun Γ c r => ?_)
  show J Γ 0 [some (.inr 50), some (.inl (nI f)), none, none] [] σ
  refine j_aload_n c dX3_idleOf_0 rfl ?_
  refine j_iload_n c dX3_idleOf_1 rfl ?_
  refine j_callV1 c kw_X3_126 (sp_methodsOf (σ := σ) (f := f) (by omega)) dX3_idleOf_2 rfl rfl (by decide) (Nat.le_of_ble_eq_true rfl) (Nat.le_of_ble_eq_true rfl) rfl rfl ?_
  have hset : ∀ m, m < 12 → (!decide (σ 56 (12 * f + m) = -1)) = (ttg T f m).isSome := fun m hm => by
    rw [hM.2.2.2.2.2.2.2.1 f m hf hm]
    have ho : ∀ t, ttg T f m = some t → t < 2 ^ 31 := fun t ht => by have := ttg_lt hW hf ht; omega
    rw [Bool.eq_iff_iff]
    simp [oI_none ho, Option.isSome_iff_ne_none]
  rw [mkS_congr hset]
  refine j_istore_n c dX3_idleOf_5 (Nat.le_of_ble_eq_true rfl) rfl ?_
  refine j_iconst c (nI 0) dX3_idleOf_6 (by decide) ?_
  refine j_istore_n c dX3_idleOf_7 (Nat.le_of_ble_eq_true rfl) rfl ?_
  have key : ∀ k, k ≤ 16 ^ tpl T f → ∀ x : Int32, (∀ m, m < 32 → bt x m = (decide (m < 12) && ((ttg T f m).isSome && (List.range k).all (fun c => !decide (σ 65 c = nI m))))) → J Γ 8 [some (.inr 50), some (.inl (nI f)), some (.inl x), some (.inl (nI k))] [] σ := by
    refine loopN _ ?_ ?_
    · intro x hx
      refine j_iload_n c dX3_idleOf_8 rfl ?_
      refine j_aload_n c dX3_idleOf_9 rfl ?_
      refine j_iload_n c dX3_idleOf_10 rfl ?_
      refine j_callV1 c kw_X3_172 (sp_callsOf hM hW hf) dX3_idleOf_11 rfl rfl (by decide) (Nat.le_of_ble_eq_true rfl) (Nat.le_of_ble_eq_true rfl) rfl rfl ?_
      refine j_icmp_ge c 49 dX3_idleOf_14 (by decide) (fun _ => ?_) (fun h => absurd (nI_le (Nat.le_refl _) (by omega)) h)
      refine j_iload_n c dX3_idleOf_49 rfl ?_
      exact j_iret c r dX3_idleOf_50 rfl (rt.mk (by
        congr 1
        apply bt_ext
        intro m hm
        rw [hx m hm, bt_mkS _ (by decide)]
        rfl))
    · intro k hk ih x hx
      refine j_iload_n c dX3_idleOf_8 rfl ?_
      refine j_aload_n c dX3_idleOf_9 rfl ?_
      refine j_iload_n c dX3_idleOf_10 rfl ?_
      refine j_callV1 c kw_X3_172 (sp_callsOf hM hW hf) dX3_idleOf_11 rfl rfl (by decide) (Nat.le_of_ble_eq_true rfl) (Nat.le_of_ble_eq_true rfl) rfl rfl ?_
      refine j_icmp_ge c 49 dX3_idleOf_14 (by decide) (fun h => absurd h (nI_ge hk (by omega))) (fun _ => ?_)
      refine j_iload_n c dX3_idleOf_17 rfl ?_
      refine j_aload_n c dX3_idleOf_18 rfl ?_
      refine j_getR c fl_X3_56 dX3_idleOf_19 (Nat.le_of_ble_eq_true rfl) rfl rfl ?_
      refine j_iload_n c dX3_idleOf_22 rfl ?_
      refine j_iald c dX3_idleOf_23 (Nat.le_of_ble_eq_true rfl) rfl rfl (by omega) (by decide) ?_
      refine j_if_lt c 40 dX3_idleOf_24 (by decide) (fun e => ?_) (fun e => ?_)
      · refine j_iconst c (-1) dX3_idleOf_40 (by decide) ?_
        refine j_iand c _ dX3_idleOf_41 rfl ?_
        refine j_istore_n c dX3_idleOf_42 (Nat.le_of_ble_eq_true rfl) rfl ?_
        refine j_iinc c _ dX3_idleOf_43 rfl (by first | exact nI_1 _ | exact pk_m1 _ | rfl) rfl ?_
        refine j_goto c 8 dX3_idleOf_46 (by decide) ?_
        refine ih _ (fun m hm => ?_)
        have h1 : bt (x &&& -1) m = bt x m := by
          rw [bt_and, show (-1 : Int32) = nI 0 ^^^ (-1) by decide, bt_not _ hm, bt_0]; simp
        rw [h1, hx m hm, allU_s]
        by_cases hm2 : m < 12
        · have : ¬ σ 65 k = nI m := fun h => nI_pos (n := m) (by omega) (h ▸ e)
          simp [this]
        · simp [hm2]
      · rcases hA k hk with h | ⟨j, hj, ej⟩
        · exact absurd h e
        · refine j_iconst c (nI 1) dX3_idleOf_27 (by decide) ?_
          refine j_aload_n c dX3_idleOf_28 rfl ?_
          refine j_getR c fl_X3_56 dX3_idleOf_29 (Nat.le_of_ble_eq_true rfl) rfl rfl ?_
          refine j_iload_n c dX3_idleOf_32 rfl ?_
          refine j_iald c dX3_idleOf_33 (Nat.le_of_ble_eq_true rfl) rfl rfl (by omega) (by decide) ?_
          rw [ej]
          refine j_ishl c _ dX3_idleOf_34 rfl ?_
          refine j_iconst c (-1) dX3_idleOf_35 (by decide) ?_
          refine j_ixor c _ dX3_idleOf_36 rfl ?_
          refine j_goto c 41 dX3_idleOf_37 (by decide) ?_
          refine j_iand c _ dX3_idleOf_41 rfl ?_
          refine j_istore_n c dX3_idleOf_42 (Nat.le_of_ble_eq_true rfl) rfl ?_
          refine j_iinc c _ dX3_idleOf_43 rfl (by first | exact nI_1 _ | exact pk_m1 _ | rfl) rfl ?_
          refine j_goto c 8 dX3_idleOf_46 (by decide) ?_
          refine ih _ (fun m hm => ?_)
          rw [bt_and, bt_not _ hm, bt_one (by omega), hx m hm, allU_s, ej]
          by_cases hm2 : m < 12
          · have : (nI j = nI m) ↔ (m = j) := by rw [nI_eq (by omega) (by omega)]; exact eq_comm
            simp [this, Bool.and_assoc]
          · simp [hm2]
  exact key 0 (Nat.zero_le _) _ (fun m hm => by rw [bt_mkS _ (by decide)]; simp)
theorem sp_applicableMany {T : TS} {mo : Option (Nat × Nat)} {σ : Sg} (hM : InvM T mo σ) (hW : WF T) {f m : Nat} (hf : f < tnf T) (hm : m < 12) (ht : (ttg T f m).isSome = true) : Sp yX3_applicableMany cX3_applicableMany 5 (some .int) 3 [.inr 50, .inl (nI f), .inl (nI m)] σ (rt σ (.inl (nI (cnt (fun c => vcall (tn T) (tpl T f) c && appB (tls T) (ttg T f) c m) (16 ^ tpl T f))))) := by
  have h4 := hW.2.2.2.1
  have hpl := hW.2.2.2.2.1 f hf
  have h16 := p16 hpl.2
  obtain ⟨t, et⟩ := Option.isSome_iff_exists.mp ht
  have hw := hW.2.2.2.2.2.1 f m t hf et
  have h56 := hM.2.2.2.2.2.2.2.1 f m hf hm
  rw [et] at h56
  have hap : ∀ c, appB (tls T) (ttg T f) c m = le3 (tls T) c t := fun c => by simp [appB, et]; intro _; omega
  refine Sp.intro rfl (Nat.le_of_ble_eq_true rfl) (fun Γ c r => ?_)
  show J Γ 0 [some (.inr 50), some (.inl (nI f)), some (.inl (nI m)), none, none] [] σ
  refine j_iconst c (nI 0) dX3_applicableMany_0 (by decide) ?_
  refine j_istore_n c dX3_applicableMany_1 (Nat.le_of_ble_eq_true rfl) rfl ?_
  refine j_iconst c (nI 0) dX3_applicableMany_2 (by decide) ?_
  refine j_istore c dX3_applicableMany_3 (Nat.le_of_ble_eq_true rfl) rfl ?_
  have key : ∀ k, k ≤ 16 ^ tpl T f → J Γ 5 [some (.inr 50), some (.inl (nI f)), some (.inl (nI m)), some (.inl (nI (cnt (fun c => vcall (tn T) (tpl T f) c && appB (tls T) (ttg T f) c m) k))), some (.inl (nI k))] [] σ := by
    refine loopN _ ?_ ?_
    · refine j_iload c dX3_applicableMany_5 rfl ?_
      refine j_aload_n c dX3_applicableMany_7 rfl ?_
      refine j_iload_n c dX3_applicableMany_8 rfl ?_
      refine j_callV1 c kw_X3_172 (sp_callsOf hM hW hf) dX3_applicableMany_9 rfl rfl (by decide) (Nat.le_of_ble_eq_true rfl) (Nat.le_of_ble_eq_true rfl) rfl rfl ?_
      refine j_icmp_ge c 60 dX3_applicableMany_12 (by decide) (fun _ => ?_) (fun h => absurd (nI_le (Nat.le_refl _) (by omega)) h)
      refine j_iload_n c dX3_applicableMany_60 rfl ?_
      exact j_iret c r dX3_applicableMany_61 rfl ⟨rfl, rfl⟩
    · intro k hk ih
      refine j_iload c dX3_applicableMany_5 rfl ?_
      refine j_aload_n c dX3_applicableMany_7 rfl ?_
      refine j_iload_n c dX3_applicableMany_8 rfl ?_
      refine j_callV1 c kw_X3_172 (sp_callsOf hM hW hf) dX3_applicableMany_9 rfl rfl (by decide) (Nat.le_of_ble_eq_true rfl) (Nat.le_of_ble_eq_true rfl) rfl rfl ?_
      refine j_icmp_ge c 60 dX3_applicableMany_12 (by decide) (fun h => absurd h (nI_ge hk (by omega))) (fun _ => ?_)
      refine j_iload_n c dX3_applicableMany_15 rfl ?_
      refine j_aload_n c dX3_applicableMany_16 rfl ?_
      refine j_iload_n c dX3_applicableMany_17 rfl ?_
      refine j_iload c dX3_applicableMany_18 rfl ?_
      refine j_callV1 c kw_X3_114 (sp_isCall hM hW (nI f) (nI k)) dX3_applicableMany_20 rfl rfl (by decide) (Nat.le_of_ble_eq_true rfl) (Nat.le_of_ble_eq_true rfl) rfl rfl ?_
      rw [isC_nI hf h4 (by omega)]
      refine j_if_eq c 51 dX3_applicableMany_23 (by decide) (fun e => ?_) (fun e => ?_)
      · refine j_iconst c (nI 0) dX3_applicableMany_51 (by decide) ?_
        refine j_iadd c _ dX3_applicableMany_52 (cnt_step (P := fun c => vcall (tn T) (tpl T f) c && appB (tls T) (ttg T f) c m) false (by simp [bI_z e])) ?_
        refine j_istore_n c dX3_applicableMany_53 (Nat.le_of_ble_eq_true rfl) rfl ?_
        refine j_iinc c _ dX3_applicableMany_54 rfl (by first | exact nI_1 _ | exact pk_m1 _ | rfl) rfl ?_
        refine j_goto c 5 dX3_applicableMany_57 (by decide) ?_
        exact ih
      · have e2 := bI_nz e
        refine j_aload_n c dX3_applicableMany_26 rfl ?_
        refine j_iload_n c dX3_applicableMany_27 rfl ?_
        refine j_iload c dX3_applicableMany_28 rfl ?_
        refine j_aload_n c dX3_applicableMany_30 rfl ?_
        refine j_getR c fl_X3_25 dX3_applicableMany_31 (Nat.le_of_ble_eq_true rfl) rfl rfl ?_
        refine j_bipush c (nI 12) dX3_applicableMany_34 (by decide) ?_
        refine j_iload_n c dX3_applicableMany_36 rfl ?_
        refine j_imul c _ dX3_applicableMany_37 (by first | exact pk_mul _ _ | rfl) ?_
        refine j_iload_n c dX3_applicableMany_38 rfl ?_
        refine j_iadd c _ dX3_applicableMany_39 (by first | exact nI_add _ _ | rfl) ?_
        refine j_iald c dX3_applicableMany_40 (Nat.le_of_ble_eq_true rfl) rfl rfl (by omega) (by decide) ?_
        rw [h56]
        refine j_callV1 c kw_X3_111 (sp_areOf hM hW hf e2 (vcall_spec hw.2.1).1) dX3_applicableMany_41 rfl rfl (by decide) (Nat.le_of_ble_eq_true rfl) (Nat.le_of_ble_eq_true rfl) rfl rfl ?_
        refine j_if_eq c 51 dX3_applicableMany_44 (by decide) (fun g => ?_) (fun g => ?_)
        · refine j_iconst c (nI 0) dX3_applicableMany_51 (by decide) ?_
          refine j_iadd c _ dX3_applicableMany_52 (cnt_step (P := fun c => vcall (tn T) (tpl T f) c && appB (tls T) (ttg T f) c m) false (by simp [hap, bI_z g])) ?_
          refine j_istore_n c dX3_applicableMany_53 (Nat.le_of_ble_eq_true rfl) rfl ?_
          refine j_iinc c _ dX3_applicableMany_54 rfl (by first | exact nI_1 _ | exact pk_m1 _ | rfl) rfl ?_
          refine j_goto c 5 dX3_applicableMany_57 (by decide) ?_
          exact ih
        · refine j_iconst c (nI 1) dX3_applicableMany_47 (by decide) ?_
          refine j_goto c 52 dX3_applicableMany_48 (by decide) ?_
          refine j_iadd c _ dX3_applicableMany_52 (cnt_step (P := fun c => vcall (tn T) (tpl T f) c && appB (tls T) (ttg T f) c m) true (by simp [hap, bI_nz g, e2])) ?_
          refine j_istore_n c dX3_applicableMany_53 (Nat.le_of_ble_eq_true rfl) rfl ?_
          refine j_iinc c _ dX3_applicableMany_54 rfl (by first | exact nI_1 _ | exact pk_m1 _ | rfl) rfl ?_
          refine j_goto c 5 dX3_applicableMany_57 (by decide) ?_
          exact ih
  exact key 0 (Nat.zero_le _)
theorem sp_fightIn {T : TS} {σ : Sg} (hM : InvM T none σ) (hW : WF T) {f call x y : Nat} (hf : f < tnf T) (hc : vcall (tn T) (tpl T f) call = true) (hx : x < 12) (hy : y < 12) (htx : (ttg T f x).isSome = true) (hty : (ttg T f y).isSome = true) : Sp yX3_fightIn cX3_fightIn 7 (some .boolean) 3 [.inr 50, .inl (nI f), .inl (nI call), .inl (nI x), .inl (nI y)] σ (rt σ (.inl (bI (fgB (tls T) (ttg T f) call x y)))) := by
  have h4 := hW.2.2.2.1
  have hpl := hW.2.2.2.2.1 f hf
  obtain ⟨a, ea⟩ := Option.isSome_iff_exists.mp htx
  obtain ⟨b, eb⟩ := Option.isSome_iff_exists.mp hty
  have hwa := hW.2.2.2.2.2.1 f x a hf ea
  have hwb := hW.2.2.2.2.2.1 f y b hf eb
  have h56a := hM.2.2.2.2.2.2.2.1 f x hf hx
  have h56b := hM.2.2.2.2.2.2.2.1 f y hf hy
  rw [ea] at h56a
  rw [eb] at h56b
  have hbit : ∀ m, m < 13 → bt (mkS (appB (tls T) (tgx (ttg T f) none) call) 13) m = appB (tls T) (ttg T f) call m := fun m hm => by
    rw [bt_mkS _ (by decide)]
    simp only [hm, decide_true, Bool.true_and]
    rfl
  refine Sp.intro rfl (Nat.le_of_ble_eq_true rfl) (fun Γ c r => ?_)
  show J Γ 0 [some (.inr 50), some (.inl (nI f)), some (.inl (nI call)), some (.inl (nI x)), some (.inl (nI y)), none, none] [] σ
  refine j_aload_n c dX3_fightIn_0 rfl ?_
  refine j_iload_n c dX3_fightIn_1 rfl ?_
  refine j_iload_n c dX3_fightIn_2 rfl ?_
  refine j_callV1 c kw_X3_152 (sp_applicableTo hM hW hf (MoOK.no T f) hc) dX3_fightIn_3 rfl rfl (by decide) (Nat.le_of_ble_eq_true rfl) (Nat.le_of_ble_eq_true rfl) rfl rfl ?_
  refine j_istore c dX3_fightIn_6 (Nat.le_of_ble_eq_true rfl) rfl ?_
  refine j_iload c dX3_fightIn_8 rfl ?_
  refine j_iload_n c dX3_fightIn_10 rfl ?_
  refine j_callS1 c kw_X3_97 (sp_isOn σ _ x (by omega)) dX3_fightIn_11 rfl rfl (by decide) (Nat.le_of_ble_eq_true rfl) ?_
  rw [hbit x (by omega)]
  refine j_if_eq c 27 dX3_fightIn_14 (by decide) (fun e => ?_) (fun e => ?_)
  · refine j_iconst c (nI 0) dX3_fightIn_27 (by decide) ?_
    exact j_iret c r dX3_fightIn_28 rfl (rtF (by simp [fgB, bI_z e]))
  · refine j_iload c dX3_fightIn_17 rfl ?_
    refine j_iload c dX3_fightIn_19 rfl ?_
    refine j_callS1 c kw_X3_97 (sp_isOn σ _ y (by omega)) dX3_fightIn_21 rfl rfl (by decide) (Nat.le_of_ble_eq_true rfl) ?_
    rw [hbit y (by omega)]
    refine j_if_ne c 29 dX3_fightIn_24 (by decide) (fun g => ?_) (fun g => ?_)
    · refine j_iconst c (nI 0) dX3_fightIn_29 (by decide) ?_
      refine j_istore c dX3_fightIn_30 (Nat.le_of_ble_eq_true rfl) rfl ?_
      have key : ∀ k, k ≤ 12 → (∀ m, m < k → (!appB (tls T) (ttg T f) call m || (!befB (tls T) (ttg T f) 0 call m x || !befB (tls T) (ttg T f) 0 call m y)) = true) → J Γ 32 [some (.inr 50), some (.inl (nI f)), some (.inl (nI call)), some (.inl (nI x)), some (.inl (nI y)), some (.inl (mkS (appB (tls T) (tgx (ttg T f) none) call) 13)), some (.inl (nI k))] [] σ := by
        refine loopN 12 ?_ ?_
        · intro h0
          refine j_iload c dX3_fightIn_32 rfl ?_
          refine j_bipush c (nI 12) dX3_fightIn_34 (by decide) ?_
          refine j_icmp_ge c 120 dX3_fightIn_36 (by decide) (fun _ => ?_) (fun h => absurd (nI_le (Nat.le_refl _) (by decide)) h)
          refine j_iconst c (nI 1) dX3_fightIn_120 (by decide) ?_
          exact j_iret c r dX3_fightIn_121 rfl (rtT (by simp only [fgB, bI_nz e, bI_nz g, Bool.true_and]; exact allU.mpr h0))
        · intro k hk ih h0
          have nxt : (!appB (tls T) (ttg T f) call k || (!befB (tls T) (ttg T f) 0 call k x || !befB (tls T) (ttg T f) 0 call k y)) = true → J Γ 114 [some (.inr 50), some (.inl (nI f)), some (.inl (nI call)), some (.inl (nI x)), some (.inl (nI y)), some (.inl (mkS (appB (tls T) (tgx (ttg T f) none) call) 13)), some (.inl (nI k))] [] σ := by
            intro h
            refine j_iinc c _ dX3_fightIn_114 rfl (by first | exact nI_1 _ | exact pk_m1 _ | rfl) rfl ?_
            refine j_goto c 32 dX3_fightIn_117 (by decide) ?_
            refine ih (fun m hm => ?_)
            by_cases em : m = k
            · subst em; exact h
            · exact h0 m (by omega)
          refine j_iload c dX3_fightIn_32 rfl ?_
          refine j_bipush c (nI 12) dX3_fightIn_34 (by decide) ?_
          refine j_icmp_ge c 120 dX3_fightIn_36 (by decide) (fun h => absurd h (nI_ge hk (by decide))) (fun _ => ?_)
          refine j_iload c dX3_fightIn_39 rfl ?_
          refine j_iload c dX3_fightIn_41 rfl ?_
          refine j_callS1 c kw_X3_97 (sp_isOn σ _ k (by omega)) dX3_fightIn_43 rfl rfl (by decide) (Nat.le_of_ble_eq_true rfl) ?_
          rw [hbit k (by omega)]
          refine j_if_eq c 114 dX3_fightIn_46 (by decide) (fun q => ?_) (fun q => ?_)
          · exact nxt (by simp [bI_z q])
          · obtain ⟨t, ht, _, hlt⟩ := appB_some (bI_nz q)
            have hwt := hW.2.2.2.2.2.1 f k t hf ht
            have h56k := hM.2.2.2.2.2.2.2.1 f k hf hk
            rw [ht] at h56k
            have b1 : befB (tls T) (ttg T f) 0 call k x = le3 (tls T) t a := by simp [befB, ht, ea]
            have b2 : befB (tls T) (ttg T f) 0 call k y = le3 (tls T) t b := by simp [befB, ht, eb]
            refine j_aload_n c dX3_fightIn_49 rfl ?_
            refine j_iload_n c dX3_fightIn_50 rfl ?_
            refine j_aload_n c dX3_fightIn_51 rfl ?_
            refine j_getR c fl_X3_25 dX3_fightIn_52 (Nat.le_of_ble_eq_true rfl) rfl rfl ?_
            refine j_bipush c (nI 12) dX3_fightIn_55 (by decide) ?_
            refine j_iload_n c dX3_fightIn_57 rfl ?_
            refine j_imul c _ dX3_fightIn_58 (by first | exact pk_mul _ _ | rfl) ?_
            refine j_iload c dX3_fightIn_59 rfl ?_
            refine j_iadd c _ dX3_fightIn_61 (by first | exact nI_add _ _ | rfl) ?_
            refine j_iald c dX3_fightIn_62 (Nat.le_of_ble_eq_true rfl) rfl rfl (by omega) (by decide) ?_
            rw [h56k]
            refine j_aload_n c dX3_fightIn_63 rfl ?_
            refine j_getR c fl_X3_25 dX3_fightIn_64 (Nat.le_of_ble_eq_true rfl) rfl rfl ?_
            refine j_bipush c (nI 12) dX3_fightIn_67 (by decide) ?_
            refine j_iload_n c dX3_fightIn_69 rfl ?_
            refine j_imul c _ dX3_fightIn_70 (by first | exact pk_mul _ _ | rfl) ?_
            refine j_iload_n c dX3_fightIn_71 rfl ?_
            refine j_iadd c _ dX3_fightIn_72 (by first | exact nI_add _ _ | rfl) ?_
            refine j_iald c dX3_fightIn_73 (Nat.le_of_ble_eq_true rfl) rfl rfl (by omega) (by decide) ?_
            rw [h56a]
            refine j_callV1 c kw_X3_111 (sp_areOf hM hW hf hwt.2.1 (vcall_spec hwa.2.1).1) dX3_fightIn_74 rfl rfl (by decide) (Nat.le_of_ble_eq_true rfl) (Nat.le_of_ble_eq_true rfl) rfl rfl ?_
            refine j_if_eq c 114 dX3_fightIn_77 (by decide) (fun u => ?_) (fun u => ?_)
            · exact nxt (by simp [b1, bI_z u])
            · refine j_aload_n c dX3_fightIn_80 rfl ?_
              refine j_iload_n c dX3_fightIn_81 rfl ?_
              refine j_aload_n c dX3_fightIn_82 rfl ?_
              refine j_getR c fl_X3_25 dX3_fightIn_83 (Nat.le_of_ble_eq_true rfl) rfl rfl ?_
              refine j_bipush c (nI 12) dX3_fightIn_86 (by decide) ?_
              refine j_iload_n c dX3_fightIn_88 rfl ?_
              refine j_imul c _ dX3_fightIn_89 (by first | exact pk_mul _ _ | rfl) ?_
              refine j_iload c dX3_fightIn_90 rfl ?_
              refine j_iadd c _ dX3_fightIn_92 (by first | exact nI_add _ _ | rfl) ?_
              refine j_iald c dX3_fightIn_93 (Nat.le_of_ble_eq_true rfl) rfl rfl (by omega) (by decide) ?_
              rw [h56k]
              refine j_aload_n c dX3_fightIn_94 rfl ?_
              refine j_getR c fl_X3_25 dX3_fightIn_95 (Nat.le_of_ble_eq_true rfl) rfl rfl ?_
              refine j_bipush c (nI 12) dX3_fightIn_98 (by decide) ?_
              refine j_iload_n c dX3_fightIn_100 rfl ?_
              refine j_imul c _ dX3_fightIn_101 (by first | exact pk_mul _ _ | rfl) ?_
              refine j_iload c dX3_fightIn_102 rfl ?_
              refine j_iadd c _ dX3_fightIn_104 (by first | exact nI_add _ _ | rfl) ?_
              refine j_iald c dX3_fightIn_105 (Nat.le_of_ble_eq_true rfl) rfl rfl (by omega) (by decide) ?_
              rw [h56b]
              refine j_callV1 c kw_X3_111 (sp_areOf hM hW hf hwt.2.1 (vcall_spec hwb.2.1).1) dX3_fightIn_106 rfl rfl (by decide) (Nat.le_of_ble_eq_true rfl) (Nat.le_of_ble_eq_true rfl) rfl rfl ?_
              refine j_if_eq c 114 dX3_fightIn_109 (by decide) (fun v => ?_) (fun v => ?_)
              · exact nxt (by simp [b2, bI_z v])
              · refine j_iconst c (nI 0) dX3_fightIn_112 (by decide) ?_
                exact j_iret c r dX3_fightIn_113 rfl (rtF (by
                  cases hh : fgB (tls T) (ttg T f) call x y with
                  | false => rfl
                  | true =>
                    simp only [fgB, Bool.and_eq_true] at hh
                    have h1 := allU.mp hh.2.2 k hk
                    simp [bI_nz q, b1, b2, bI_nz u, bI_nz v] at h1))
      exact key 0 (Nat.zero_le _) (fun m hm => by omega)
    · refine j_iconst c (nI 0) dX3_fightIn_27 (by decide) ?_
      exact j_iret c r dX3_fightIn_28 rfl (rtF (by simp [fgB, bI_z g]))
